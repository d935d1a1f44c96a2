section R20
variable {κ μ κ' μ' κt : Nat → Nat → Int} {O O' : Nat → Nat}
/-- bytes put at the end of a side's row -/
def wrM (ν ν' : Nat → Nat → Int) (s i : Int) (k m : Nat) : Prop :=
  ν' 36 s.toNat = ν 36 s.toNat + m ∧ ν 36 s.toNat + m ≤ 65536 ∧ (∀ q : Nat, q < m → ν' 37 ((65536 * s + ν 36 s.toNat).toNat + q) = i ∧ ν' 38 ((65536 * s + ν 36 s.toNat).toNat + q) = wB (ν 2 (k + q)) ∧ ν' 39 ((65536 * s + ν 36 s.toNat).toNat + q) = 0) ∧ ∀ f q, ¬ (f = 36 ∧ q = s.toNat) → ¬ ((f = 37 ∨ f = 38 ∨ f = 39) ∧ (65536 * s + ν 36 s.toNat).toNat ≤ q ∧ q < (65536 * s + ν 36 s.toNat).toNat + m) → ν' f q = ν f q
theorem write_l {s i : Int} (h1 : 0 ≤ s) : ∀ (d m : Nat) (k n : Int) (ν : Nat → Nat → Int), m < d → 0 ≤ k → 0 ≤ ν 36 s.toNat → k + m ≤ n → ν 36 s.toNat + m ≤ 65536 → (k + m = n ∨ ν 36 s.toNat + m = 65536) → v_write_28 μ s i d k n ν = k + m ∧ wrM ν (s_write_28 μ s i d k n ν) s i k.toNat m
  | 0, m, k, n, ν, g1, _, _, _, _, _ => by omega
  | d + 1, 0, k, n, ν, g1, g2, g3, g4, g5, g6 => by
    have e1 : v_write_28 μ s i (d + 1) k n ν = k := by
      rw [v_write_28]
      by_cases a : n ≤ k
      · rw [if_pos a]
      · rw [if_neg a, if_pos (by omega)]
    have e2 : s_write_28 μ s i (d + 1) k n ν = ν := by
      rw [s_write_28]
      by_cases a : n ≤ k
      · rw [if_pos a]
      · rw [if_neg a, if_pos (by omega)]
    rw [e1, e2]
    exact ⟨by omega, by omega, by omega, fun q hq => by omega, fun _ _ _ _ => rfl⟩
  | d + 1, m + 1, k, n, ν, g1, g2, g3, g4, g5, g6 => by
    have f36 : (u2 (u2 (u2 (u2 ν 37 ((65536 * s) + (ν 36 s.toNat)).toNat i) 38 ((65536 * s) + (ν 36 s.toNat)).toNat (wB (ν 2 k.toNat))) 39 ((65536 * s) + (ν 36 s.toNat)).toNat 0) 36 s.toNat ((ν 36 s.toNat) + 1)) 36 s.toNat = ν 36 s.toNat + 1 := u2_s _ _ _ _
    obtain ⟨i1, i2, i2', i3, i4⟩ := write_l (i := i) h1 d m (k + 1) n (u2 (u2 (u2 (u2 ν 37 ((65536 * s) + (ν 36 s.toNat)).toNat i) 38 ((65536 * s) + (ν 36 s.toNat)).toNat (wB (ν 2 k.toNat))) 39 ((65536 * s) + (ν 36 s.toNat)).toNat 0) 36 s.toNat ((ν 36 s.toNat) + 1)) (by omega) (by omega) (by rw [f36]; omega) (by omega) (by rw [f36]; omega) (by rw [f36]; omega)
    rw [f36] at i2 i2' i3 i4
    have e1 : v_write_28 μ s i (d + 1) k n ν = v_write_28 μ s i d (k + 1) n (u2 (u2 (u2 (u2 ν 37 ((65536 * s) + (ν 36 s.toNat)).toNat i) 38 ((65536 * s) + (ν 36 s.toNat)).toNat (wB (ν 2 k.toNat))) 39 ((65536 * s) + (ν 36 s.toNat)).toNat 0) 36 s.toNat ((ν 36 s.toNat) + 1)) := by
      rw [v_write_28, if_neg (by omega), if_neg (by omega)]
    have e2 : s_write_28 μ s i (d + 1) k n ν = s_write_28 μ s i d (k + 1) n (u2 (u2 (u2 (u2 ν 37 ((65536 * s) + (ν 36 s.toNat)).toNat i) 38 ((65536 * s) + (ν 36 s.toNat)).toNat (wB (ν 2 k.toNat))) 39 ((65536 * s) + (ν 36 s.toNat)).toNat 0) 36 s.toNat ((ν 36 s.toNat) + 1)) := by
      rw [s_write_28, if_neg (by omega), if_neg (by omega)]
    rw [e1, e2]
    have hb : (65536 * s + (ν 36 s.toNat + 1)).toNat = (65536 * s + ν 36 s.toNat).toNat + 1 := by omega
    rw [hb] at i3 i4
    refine ⟨by omega, by omega, by omega, fun q hq => ?_, fun f q x y => ?_⟩
    · by_cases z : q = 0
      · subst z
        rw [Nat.add_zero, Nat.add_zero, i4 37 _ (by omega) (by omega), i4 38 _ (by omega) (by omega), i4 39 _ (by omega) (by omega)]
        refine ⟨?_, ?_, ?_⟩
        · rw [u2_f (by decide), u2_f (by decide), u2_f (by decide), u2_s]
        · rw [u2_f (by decide), u2_f (by decide), u2_s]
        · rw [u2_f (by decide), u2_s]
      · obtain ⟨j1, j2, j3⟩ := i3 (q - 1) (by omega)
        rw [show (65536 * s + ν 36 s.toNat).toNat + q = (65536 * s + ν 36 s.toNat).toNat + 1 + (q - 1) by omega]
        refine ⟨j1, ?_, j3⟩
        rw [j2, u2_f (by decide), u2_f (by decide), u2_f (by decide), u2_f (by decide), show (k + 1).toNat + (q - 1) = k.toNat + q by omega]
    · rw [i4 f q x (by omega), u2_n x, u2_n (by omega), u2_n (by omega), u2_n (by omega)]
/-- counts, places and marks after it -/
theorem wr_W (hV : mV μ) {s i : Int} (h1 : 0 ≤ s) (h2 : s ≤ 1) {k m : Nat} (h : wrM μ μ' s i k m) {t j : Int} (g1 : 0 ≤ t) (g2 : t ≤ 1) : mW μ' t j = mW μ t j + (if t = s ∧ j = i then (m : Int) else 0) := by
  obtain ⟨a, a', b, c⟩ := h
  have v36 : 0 ≤ μ 36 s.toNat ∧ μ 36 s.toNat ≤ 65536 := hV 36 _
  have v36t : 0 ≤ μ 36 t.toNat ∧ μ 36 t.toNat ≤ 65536 := hV 36 _
  unfold mW
  by_cases e : t = s
  · subst e
    rw [a, show (μ 36 t.toNat + (m : Int)).toNat = (μ 36 t.toNat).toNat + m by omega, mRem_app, mRem_cg (g := μ' 37) (g' := μ 37) (μ 36 t.toNat).toNat _ (fun q x y => c _ _ (by omega) (by omega))]
    congr 1
    by_cases f : j = i
    · rw [if_pos ⟨rfl, f⟩]
      refine mRem_full _ _ (fun q hq => ?_)
      rw [show (65536 * t).toNat + (μ 36 t.toNat).toNat + q = (65536 * t + μ 36 t.toNat).toNat + q by omega, (b q hq).1, f]
    · rw [if_neg (fun z => f z.2)]
      refine mRem_z _ _ (fun q hq => ?_)
      rw [show (65536 * t).toNat + (μ 36 t.toNat).toNat + q = (65536 * t + μ 36 t.toNat).toNat + q by omega, (b q hq).1]
      exact fun z => f z.symm
  · rw [if_neg (fun z => e z.1), Int.add_zero, c 36 _ (by omega) (by omega)]
    exact mRem_cg _ _ (fun q x y => c _ _ (by omega) (by omega))
theorem wr_P (hV : mV μ) (hV' : mV μ') {s i : Int} (h1 : 0 ≤ s) (h2 : s ≤ 1) {k m : Nat} (h : wrM μ μ' s i k m) {t j : Int} (g1 : 0 ≤ t) (g2 : t ≤ 1) (o : Nat) (ho : (o : Int) < mW μ t j) : μ' 38 (v_placeOf μ' t j o).toNat = μ 38 (v_placeOf μ t j o).toNat ∧ mMk μ' t j o = mMk μ t j o := by
  obtain ⟨a, a', b, c⟩ := h
  have v36 : 0 ≤ μ 36 s.toNat ∧ μ 36 s.toNat ≤ 65536 := hV 36 _
  have v36t : 0 ≤ μ 36 t.toNat ∧ μ 36 t.toNat ≤ 65536 := hV 36 _
  have v36t' : 0 ≤ μ' 36 t.toNat ∧ μ' 36 t.toNat ≤ 65536 := hV' 36 _
  obtain ⟨n, e1, e2, e3, e4⟩ := placeOf_r hV (i := j) g1 (show (0 : Int) ≤ (o : Int) by omega) ho
  have hin : ∀ q : Nat, q ≤ n → ∀ f, f = 37 ∨ f = 38 ∨ f = 39 → μ' f ((65536 * t).toNat + q) = μ f ((65536 * t).toNat + q) := fun q hq f hf => c _ _ (by omega) (by
    by_cases z : t = s
    · subst z; omega
    · omega)
  have hlt : n < (μ' 36 t.toNat).toNat := by
    by_cases z : t = s
    · subst z; omega
    · rw [c 36 _ (by omega) (by omega)]; exact e2
  have hr : mRem (μ' 37) j (65536 * t).toNat n = o := by
    rw [mRem_cg (g := μ' 37) (g' := μ 37) n _ (fun q x y => by
      have := hin (q - (65536 * t).toNat) (by omega) 37 (by omega)
      rw [show (65536 * t).toNat + (q - (65536 * t).toNat) = q by omega] at this
      exact this)]
    exact e4
  have hp := placeOf_i hV' g1 hlt (show μ' 37 ((65536 * t).toNat + n) = j by rw [hin n (Nat.le_refl _) 37 (by omega)]; exact e3)
  rw [hr] at hp
  unfold mMk
  rw [hp, e1, show (65536 * t + (n : Int)).toNat = (65536 * t).toNat + n by omega]
  exact ⟨hin n (Nat.le_refl _) 38 (by omega), hin n (Nat.le_refl _) 39 (by omega)⟩
theorem wr_N (hV : mV μ) (hV' : mV μ') {s i : Int} (h1 : 0 ≤ s) (h2 : s ≤ 1) {k m : Nat} (h : wrM μ μ' s i k m) (q : Nat) (hq : q < m) : μ' 38 (v_placeOf μ' s i (mW μ s i + q)).toNat = wB (μ 2 (k + q)) ∧ mMk μ' s i ((mW μ s i).toNat + q) = 0 := by
  have hw0 := mW_b μ s i
  obtain ⟨a, a', b, c⟩ := h
  have v36 : 0 ≤ μ 36 s.toNat ∧ μ 36 s.toNat ≤ 65536 := hV 36 _
  obtain ⟨b1, b2', b3⟩ := b q hq
  have hix : (65536 * s + μ 36 s.toNat).toNat + q = (65536 * s).toNat + ((μ 36 s.toNat).toNat + q) := by omega
  rw [hix] at b1 b2' b3
  have hr : mRem (μ' 37) i (65536 * s).toNat ((μ 36 s.toNat).toNat + q) = mW μ s i + q := by
    rw [mRem_app, mRem_cg (g := μ' 37) (g' := μ 37) (μ 36 s.toNat).toNat _ (fun q x y => c _ _ (by omega) (by omega)), mRem_full q _ (fun p hp => ?_)]
    · rfl
    · rw [show (65536 * s).toNat + (μ 36 s.toNat).toNat + p = (65536 * s + μ 36 s.toNat).toNat + p by omega]
      exact (b p (by omega)).1
  have hp := placeOf_i hV' h1 (show (μ 36 s.toNat).toNat + q < (μ' 36 s.toNat).toNat by omega) b1
  rw [hr] at hp
  unfold mMk
  rw [show (((mW μ s i).toNat + q : Nat) : Int) = mW μ s i + q by omega, hp, show (65536 * s + (((μ 36 s.toNat).toNat + q : Nat) : Int)).toNat = (65536 * s).toNat + ((μ 36 s.toNat).toNat + q) by omega]
  exact ⟨b2', b3⟩
theorem wr_All (hV : mV μ) {s i : Int} (h1 : 0 ≤ s) (h2 : s ≤ 1) {k m : Nat} (h : wrM μ μ' s i k m) {t : Int} (g1 : 0 ≤ t) (g2 : t ≤ 1) : mAll μ' t (mTot μ' t) = mAll μ t (mTot μ t) := by
  obtain ⟨a, a', b, c⟩ := h
  have v36 : 0 ≤ μ 36 s.toNat ∧ μ 36 s.toNat ≤ 65536 := hV 36 _
  have v36t : 0 ≤ μ 36 t.toNat ∧ μ 36 t.toNat ≤ 65536 := hV 36 _
  unfold mTot
  by_cases e : t = s
  · subst e
    rw [a, show (μ 36 t.toNat + (m : Int)).toNat = (μ 36 t.toNat).toNat + m by omega]
    have key : ∀ p, p ≤ m → mAll μ' t ((μ 36 t.toNat).toNat + p) = mAll μ t (μ 36 t.toNat).toNat := by
      intro p
      induction p with
      | zero => intro _; exact mAll_cgr _ (fun q hq => c _ _ (by omega) (by omega))
      | succ p ih =>
        intro hp
        rw [show (μ 36 t.toNat).toNat + (p + 1) = ((μ 36 t.toNat).toNat + p) + 1 by omega, mAll, ih (by omega), show (65536 * t).toNat + ((μ 36 t.toNat).toNat + p) = (65536 * t + μ 36 t.toNat).toNat + p by omega, (b p (by omega)).2.2]
        show mAll μ t (μ 36 t.toNat).toNat + b2 (¬ (0 : Int) = 0) = _
        rw [show b2 (¬ (0 : Int) = 0) = 0 from rfl, Int.add_zero]
    exact key m (Nat.le_refl _)
  · rw [c 36 _ (by omega) (by omega)]
    exact mAll_cgr _ (fun q hq => c _ _ (by omega) (by omega))
theorem wr_Li (hV : mV μ) {s i : Int} (h1 : 0 ≤ s) (h2 : s ≤ 1) {k m : Nat} (h : wrM μ μ' s i k m) (hL : mLi μ) : mLi μ' := by
  intro p hp h58
  obtain ⟨a, a', b, c⟩ := h
  rw [c 58 _ (by omega) (by omega)] at h58
  have := hL p hp h58
  unfold mFr at this ⊢
  have v51 : 0 ≤ μ 51 p ∧ μ 51 p ≤ 1 := hV 51 _
  have hw := wr_W hV h1 h2 ⟨a, a', b, c⟩ (t := μ 51 p) (j := μ 53 p) v51.1 v51.2
  rw [c 52 _ (by omega) (by omega), c 53 _ (by omega) (by omega), c 54 _ (by omega) (by omega), c 56 _ (by omega) (by omega), c 51 _ (by omega) (by omega), hw]
  rcases this with x | x | x
  · exact Or.inl x
  · exact Or.inr (Or.inl x)
  · refine Or.inr (Or.inr ⟨x.1, x.2.1, ?_⟩)
    split <;> omega
end R20
