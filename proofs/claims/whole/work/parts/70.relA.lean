section R1
variable {μ : Nat → Nat → Int}
/-- ranks of places: counts before them grow -/
theorem rk_mono (g : Nat → Int) (i : Int) (a : Nat) {m n : Nat} (h : m ≤ n) : mRem g i a m ≤ mRem g i a n := by
  obtain ⟨c, rfl⟩ := Nat.le.dest h
  clear h
  induction c with
  | zero => exact Int.le_refl _
  | succ c ih =>
    have := b2_r (g (a + (m + c)) = i)
    rw [show m + (c + 1) = (m + c) + 1 by omega, mRem_s]
    omega
theorem rk_lt (g : Nat → Int) (i : Int) (a : Nat) {m n : Nat} (h : m < n) (hm : g (a + m) = i) : mRem g i a m < mRem g i a n := by
  have h1 := rk_mono g i a (show m + 1 ≤ n by omega)
  rw [mRem_s] at h1
  have : b2 (g (a + m) = i) = 1 := if_pos hm
  omega
theorem rk_inj (g : Nat → Int) (i : Int) (a : Nat) {m n : Nat} (hm : g (a + m) = i) (hn : g (a + n) = i) (h : mRem g i a m = mRem g i a n) : m = n := by
  rcases Nat.lt_trichotomy m n with e | e | e
  · have := rk_lt g i a e hm; omega
  · exact e
  · have := rk_lt g i a e hn; omega
theorem placeOf_r6 {s i o : Int} (h1 : 0 ≤ s) : ∀ (d m : Nat) (l : Int), mRem (μ 37) i (65536 * s).toNat m + l = o → 0 ≤ l → m ≤ (μ 36 s.toNat).toNat → o < mRem (μ 37) i (65536 * s).toNat (μ 36 s.toNat).toNat → (μ 36 s.toNat).toNat < d + m → ∃ n : Nat, v_placeOf_6 μ s i o d (65536 * s + m) l = 65536 * s + n ∧ n < (μ 36 s.toNat).toNat ∧ μ 37 ((65536 * s).toNat + n) = i ∧ mRem (μ 37) i (65536 * s).toNat n = o
  | 0, m, l, g1, g2, g3, g4, g5 => by omega
  | d + 1, m, l, g1, g2, g3, g4, g5 => by
    have hm : m < (μ 36 s.toNat).toNat := by
      rcases Nat.lt_or_ge m (μ 36 s.toNat).toNat with e | e
      · exact e
      · have : m = (μ 36 s.toNat).toNat := by omega
        rw [this] at g1
        omega
    have hix : (65536 * s + (m : Int)).toNat = (65536 * s).toNat + m := by omega
    have hst := mRem_s (μ 37) i m (65536 * s).toNat
    rw [v_placeOf_6, hix]
    split
    · rename_i e
      have hb : b2 (μ 37 ((65536 * s).toNat + m) = i) = 1 := if_pos e
      split
      · exact ⟨m, rfl, hm, e, by omega⟩
      · have ih := placeOf_r6 (i := i) (o := o) h1 d (m + 1) (l - 1) (by omega) (by omega) (by omega) g4 (by omega)
        rw [show 65536 * s + (m : Int) + 1 = 65536 * s + ((m + 1 : Nat) : Int) by omega]
        exact ih
    · rename_i e
      have hb : b2 (μ 37 ((65536 * s).toNat + m) = i) = 0 := if_neg e
      have ih := placeOf_r6 (i := i) (o := o) h1 d (m + 1) (l - 0) (by omega) (by omega) (by omega) g4 (by omega)
      rw [show 65536 * s + (m : Int) + 1 = 65536 * s + ((m + 1 : Nat) : Int) by omega]
      exact ih
/-- where the byte at offset o of a stream lies -/
theorem placeOf_r (hV : mV μ) {s i o : Int} (h1 : 0 ≤ s) (h5 : 0 ≤ o) (h6 : o < mW μ s i) : ∃ n : Nat, v_placeOf μ s i o = 65536 * s + n ∧ n < (μ 36 s.toNat).toNat ∧ μ 37 ((65536 * s).toNat + n) = i ∧ mRem (μ 37) i (65536 * s).toNat n = o := by
  have hN0 : 0 ≤ μ 36 s.toNat ∧ μ 36 s.toNat ≤ 65536 := hV 36 s.toNat
  have := placeOf_r6 (μ := μ) (i := i) (o := o) h1 65537 0 o (by show (0 : Int) + o = o; omega) h5 (by omega) h6 (by omega)
  rw [show 65536 * s + ((0 : Nat) : Int) = 65536 * s by omega] at this
  exact this
theorem placeOf_i (hV : mV μ) {s i : Int} (h1 : 0 ≤ s) {m : Nat} (hm : m < (μ 36 s.toNat).toNat) (hi : μ 37 ((65536 * s).toNat + m) = i) : v_placeOf μ s i (mRem (μ 37) i (65536 * s).toNat m) = 65536 * s + m := by
  have hb := mRem_le (μ 37) i m (65536 * s).toNat
  obtain ⟨n, e1, e2, e3, e4⟩ := placeOf_r hV (i := i) h1 hb.1 (show mRem (μ 37) i (65536 * s).toNat m < mW μ s i from rk_lt _ _ _ hm hi)
  rw [e1, rk_inj (μ 37) i (65536 * s).toNat e3 hi e4]
/-- the marks of a stream's bytes, by offset -/
def mMk (μ : Nat → Nat → Int) (s i : Int) : Nat → Int := fun o => μ 39 (v_placeOf μ s i o).toNat
theorem mCnt_o (hV : mV μ) {s : Int} (i : Int) (h1 : 0 ≤ s) {t : Int} (ht : 0 ≤ t) : ∀ m : Nat, m ≤ (μ 36 s.toNat).toNat → mCnt μ s i t m = mRem (mMk μ s i) t 0 (mRem (μ 37) i (65536 * s).toNat m).toNat
  | 0, _ => rfl
  | m + 1, hm => by
    have ih := mCnt_o hV i h1 ht m (by omega)
    have hb := mRem_le (μ 37) i m (65536 * s).toNat
    rw [mCnt, ih, mRem_s]
    by_cases e : μ 37 ((65536 * s).toNat + m) = i
    · have hp := placeOf_i hV h1 (show m < (μ 36 s.toNat).toNat by omega) e
      have hbt : b2 (μ 37 ((65536 * s).toNat + m) = i) = 1 := if_pos e
      rw [hbt, show (mRem (μ 37) i (65536 * s).toNat m + 1).toNat = (mRem (μ 37) i (65536 * s).toNat m).toNat + 1 by omega, mRem_s]
      congr 1
      have hmk : mMk μ s i (0 + (mRem (μ 37) i (65536 * s).toNat m).toNat) = μ 39 ((65536 * s).toNat + m) := by
        unfold mMk
        rw [show ((0 + (mRem (μ 37) i (65536 * s).toNat m).toNat : Nat) : Int) = mRem (μ 37) i (65536 * s).toNat m by omega, hp, show (65536 * s + (m : Int)).toNat = (65536 * s).toNat + m by omega]
      rw [hmk]
      unfold b2
      have n1 : ¬ t = -1 := by omega
      have n2 : ¬ t = -2 := by omega
      simp only [e, n1, n2, true_and, false_or, false_and, or_false]
    · have hbt : b2 (μ 37 ((65536 * s).toNat + m) = i) = 0 := if_neg e
      have hz : b2 (μ 37 ((65536 * s).toNat + m) = i ∧ (t = -1 ∨ μ 39 ((65536 * s).toNat + m) = t ∨ (t = -2 ∧ ¬ μ 39 ((65536 * s).toNat + m) = 0))) = 0 := if_neg (fun q => e q.1)
      rw [hbt, hz]
      simp
theorem mCnt_2 (s i : Int) : ∀ m : Nat, mCnt μ s i (-2) m + mCnt μ s i 0 m = mCnt μ s i (-1) m
  | 0 => rfl
  | m + 1 => by
    have ih := mCnt_2 s i m
    have hd : ∀ t, mCnt μ s i t (m + 1) = mCnt μ s i t m + b2 (μ 37 ((65536 * s).toNat + m) = i ∧ (t = -1 ∨ μ 39 ((65536 * s).toNat + m) = t ∨ (t = -2 ∧ ¬ μ 39 ((65536 * s).toNat + m) = 0))) := fun _ => rfl
    rw [hd, hd, hd]
    by_cases e : μ 37 ((65536 * s).toNat + m) = i
    · by_cases z : μ 39 ((65536 * s).toNat + m) = 0
      · have a1 : b2 (μ 37 ((65536 * s).toNat + m) = i ∧ ((-2 : Int) = -1 ∨ μ 39 ((65536 * s).toNat + m) = -2 ∨ ((-2 : Int) = -2 ∧ ¬ μ 39 ((65536 * s).toNat + m) = 0))) = 0 := if_neg (by rintro ⟨_, q | q | q⟩ <;> omega)
        have a2 : b2 (μ 37 ((65536 * s).toNat + m) = i ∧ ((0 : Int) = -1 ∨ μ 39 ((65536 * s).toNat + m) = 0 ∨ ((0 : Int) = -2 ∧ ¬ μ 39 ((65536 * s).toNat + m) = 0))) = 1 := if_pos ⟨e, Or.inr (Or.inl z)⟩
        have a3 : b2 (μ 37 ((65536 * s).toNat + m) = i ∧ ((-1 : Int) = -1 ∨ μ 39 ((65536 * s).toNat + m) = -1 ∨ ((-1 : Int) = -2 ∧ ¬ μ 39 ((65536 * s).toNat + m) = 0))) = 1 := if_pos ⟨e, Or.inl rfl⟩
        omega
      · have a1 : b2 (μ 37 ((65536 * s).toNat + m) = i ∧ ((-2 : Int) = -1 ∨ μ 39 ((65536 * s).toNat + m) = -2 ∨ ((-2 : Int) = -2 ∧ ¬ μ 39 ((65536 * s).toNat + m) = 0))) = 1 := if_pos ⟨e, Or.inr (Or.inr ⟨rfl, z⟩)⟩
        have a2 : b2 (μ 37 ((65536 * s).toNat + m) = i ∧ ((0 : Int) = -1 ∨ μ 39 ((65536 * s).toNat + m) = 0 ∨ ((0 : Int) = -2 ∧ ¬ μ 39 ((65536 * s).toNat + m) = 0))) = 0 := if_neg (by rintro ⟨_, q | q | q⟩ <;> omega)
        have a3 : b2 (μ 37 ((65536 * s).toNat + m) = i ∧ ((-1 : Int) = -1 ∨ μ 39 ((65536 * s).toNat + m) = -1 ∨ ((-1 : Int) = -2 ∧ ¬ μ 39 ((65536 * s).toNat + m) = 0))) = 1 := if_pos ⟨e, Or.inl rfl⟩
        omega
    · have a1 : ∀ t : Int, b2 (μ 37 ((65536 * s).toNat + m) = i ∧ (t = -1 ∨ μ 39 ((65536 * s).toNat + m) = t ∨ (t = -2 ∧ ¬ μ 39 ((65536 * s).toNat + m) = 0))) = 0 := fun t => if_neg (fun q => e q.1)
      rw [a1, a1, a1]
      omega
theorem mCnt_w (s i : Int) : mCnt μ s i (-1) (mTot μ s) = mW μ s i := mRem_cnt s i _
theorem mW_b (μ : Nat → Nat → Int) (s i : Int) : 0 ≤ mW μ s i := (mRem_le _ _ _ _).1
theorem mW_le (hV : mV μ) (s i : Int) : mW μ s i ≤ μ 36 s.toNat := by
  have hN0 : 0 ≤ μ 36 s.toNat ∧ μ 36 s.toNat ≤ 65536 := hV 36 s.toNat
  have := (mRem_le (μ 37) i (μ 36 s.toNat).toNat (65536 * s).toNat).2
  unfold mW
  omega
/-- counts of marks, by offsets -/
theorem mCnt_t (hV : mV μ) {s : Int} (i : Int) (h1 : 0 ≤ s) {t : Int} (ht : 0 ≤ t) : mCnt μ s i t (mTot μ s) = mRem (mMk μ s i) t 0 (mW μ s i).toNat := mCnt_o hV i h1 ht _ (Nat.le_refl _)
theorem mRem_ext {g g' : Nat → Int} {c c' : Int} : ∀ (n a a' : Nat), (∀ q, q < n → (g (a + q) = c ↔ g' (a' + q) = c')) → mRem g c a n = mRem g' c' a' n
  | 0, _, _, _ => rfl
  | n + 1, a, a', h => by
    rw [mRem_s, mRem_s, mRem_ext n a a' (fun q hq => h q (by omega))]
    congr 1
    have := h n (by omega)
    unfold b2
    simp only [this]
theorem mRem_z {g : Nat → Int} {c : Int} : ∀ (n a : Nat), (∀ q, q < n → ¬ g (a + q) = c) → mRem g c a n = 0
  | 0, _, _ => rfl
  | n + 1, a, h => by
    rw [mRem_s, mRem_z n a (fun q hq => h q (by omega))]
    have : b2 (g (a + n) = c) = 0 := if_neg (h n (by omega))
    omega
theorem mRem_full {g : Nat → Int} {c : Int} : ∀ (n a : Nat), (∀ q, q < n → g (a + q) = c) → mRem g c a n = n
  | 0, _, _ => rfl
  | n + 1, a, h => by
    rw [mRem_s, mRem_full n a (fun q hq => h q (by omega))]
    have : b2 (g (a + n) = c) = 1 := if_pos (h n (by omega))
    omega
theorem mRem_app (g : Nat → Int) (c : Int) (a m : Nat) : ∀ n, mRem g c a (m + n) = mRem g c a m + mRem g c (a + m) n
  | 0 => (Int.add_zero _).symm
  | n + 1 => by
    rw [show m + (n + 1) = (m + n) + 1 by omega, mRem_s, mRem_s, mRem_app g c a m n, show a + (m + n) = a + m + n by omega]
    omega
/-- a count after one place has changed -/
theorem mRem_up {g g' : Nat → Int} {c : Int} {j : Nat} : ∀ (n a : Nat), a ≤ j → j < a + n → (∀ q, q ≠ j → g' q = g q) → mRem g' c a n = mRem g c a n - b2 (g j = c) + b2 (g' j = c)
  | 0, a, _, _, _ => by omega
  | n + 1, a, h1, h2, h => by
    rw [mRem_s, mRem_s]
    by_cases e : j = a + n
    · have q := mRem_cg (i := c) n a (g := g') (g' := g) (fun q g1 g2 => h q (by omega))
      rw [q, e]
      omega
    · have ih := mRem_up (c := c) n a h1 (by omega) h
      rw [ih, h (a + n) (by omega)]
      omega
theorem mAll_up {μ' : Nat → Nat → Int} {s : Int} {j : Nat} (h : ∀ q, q ≠ j → μ' 39 q = μ 39 q) : ∀ n : Nat, mAll μ' s n = mAll μ s n + (if (65536 * s).toNat ≤ j ∧ j < (65536 * s).toNat + n then b2 (¬ μ' 39 j = 0) - b2 (¬ μ 39 j = 0) else 0)
  | 0 => by rw [if_neg (by omega)]; rfl
  | n + 1 => by
    have ih := mAll_up (s := s) h n
    rw [mAll, mAll, ih]
    by_cases e : j = (65536 * s).toNat + n
    · rw [if_neg (by omega), if_pos (by omega), ← e]
      omega
    · rw [h _ (fun z => e z.symm)]
      by_cases f : (65536 * s).toNat ≤ j ∧ j < (65536 * s).toNat + n
      · rw [if_pos f, if_pos (by omega)]
        omega
      · rw [if_neg f, if_neg (by omega)]
        omega
end R1
