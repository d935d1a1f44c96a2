section R2
variable {μ : Nat → Nat → Int}
theorem mMk_at (hV : mV μ) {s i : Int} (h1 : 0 ≤ s) {m : Nat} (hm : m < (μ 36 s.toNat).toNat) (hi : μ 37 ((65536 * s).toNat + m) = i) : mMk μ s i (mRem (μ 37) i (65536 * s).toNat m).toNat = μ 39 ((65536 * s).toNat + m) := by
  have hb := mRem_le (μ 37) i m (65536 * s).toNat
  unfold mMk
  rw [show (((mRem (μ 37) i (65536 * s).toNat m).toNat : Nat) : Int) = mRem (μ 37) i (65536 * s).toNat m by omega, placeOf_i hV h1 hm hi, show (65536 * s + (m : Int)).toNat = (65536 * s).toNat + m by omega]
theorem firstIn_c6 (hV : mV μ) {s i t : Int} (h1 : 0 ≤ s) : ∀ (d m : Nat), m ≤ (μ 36 s.toNat).toNat → (μ 36 s.toNat).toNat < d + m → (∀ q : Nat, (q : Int) < mRem (μ 37) i (65536 * s).toNat m → ¬ mMk μ s i q = t) →
    (v_firstIn_6 μ s i t d (65536 * s + m) (mRem (μ 37) i (65536 * s).toNat m) = -1 ∧ ∀ q : Nat, (q : Int) < mW μ s i → ¬ mMk μ s i q = t) ∨
    (∃ o : Nat, v_firstIn_6 μ s i t d (65536 * s + m) (mRem (μ 37) i (65536 * s).toNat m) = o ∧ (o : Int) < mW μ s i ∧ mMk μ s i o = t ∧ ∀ q : Nat, q < o → ¬ mMk μ s i q = t)
  | 0, m, g1, g2, g3 => by omega
  | d + 1, m, g1, g2, g3 => by
    have hN0 : 0 ≤ μ 36 s.toNat ∧ μ 36 s.toNat ≤ 65536 := hV 36 s.toNat
    have hix : (65536 * s + (m : Int)).toNat = (65536 * s).toNat + m := by omega
    have hst := mRem_s (μ 37) i m (65536 * s).toNat
    have hb := mRem_le (μ 37) i m (65536 * s).toNat
    rw [v_firstIn_6, hix]
    split
    · rename_i e
      refine Or.inl ⟨rfl, ?_⟩
      rw [show m = (μ 36 s.toNat).toNat by omega] at g3
      exact g3
    · rename_i e0
      split
      · rename_i e
        have hbt : b2 (μ 37 ((65536 * s).toNat + m) = i) = 1 := if_pos e
        have hm : m < (μ 36 s.toNat).toNat := by omega
        have hk := mMk_at hV h1 hm e
        split
        · rename_i e2
          refine Or.inr ⟨(mRem (μ 37) i (65536 * s).toNat m).toNat, by omega, ?_, by rw [hk, e2], fun q hq => g3 q (by omega)⟩
          have := rk_lt (μ 37) i (65536 * s).toNat hm e
          unfold mW
          omega
        · rename_i e2
          have ih := firstIn_c6 hV (i := i) (t := t) h1 d (m + 1) (by omega) (by omega) (fun q hq => by
            rw [hst, hbt] at hq
            by_cases z : (q : Int) < mRem (μ 37) i (65536 * s).toNat m
            · exact g3 q z
            · rw [show q = (mRem (μ 37) i (65536 * s).toNat m).toNat by omega, hk]
              exact e2)
          rw [hst, hbt] at ih
          rw [show 65536 * s + (m : Int) + 1 = 65536 * s + ((m + 1 : Nat) : Int) by omega]
          exact ih
      · rename_i e
        have hbt : b2 (μ 37 ((65536 * s).toNat + m) = i) = 0 := if_neg e
        have ih := firstIn_c6 hV (i := i) (t := t) h1 d (m + 1) (by omega) (by omega) (fun q hq => g3 q (by rw [hst, hbt] at hq; omega))
        rw [hst, hbt, Int.add_zero] at ih
        rw [show 65536 * s + (m : Int) + 1 = 65536 * s + ((m + 1 : Nat) : Int) by omega]
        exact ih
/-- the first byte of a stream with a mark -/
theorem firstIn_c (hV : mV μ) {s : Int} (i t : Int) (h1 : 0 ≤ s) : (v_firstIn μ s i t = -1 ∧ ∀ q : Nat, (q : Int) < mW μ s i → ¬ mMk μ s i q = t) ∨ (∃ o : Nat, v_firstIn μ s i t = o ∧ (o : Int) < mW μ s i ∧ mMk μ s i o = t ∧ ∀ q : Nat, q < o → ¬ mMk μ s i q = t) := by
  have hN0 : 0 ≤ μ 36 s.toNat ∧ μ 36 s.toNat ≤ 65536 := hV 36 s.toNat
  have := firstIn_c6 hV (i := i) (t := t) h1 65537 0 (by omega) (by omega) (fun q hq => absurd (show (q : Int) < 0 from hq) (by omega))
  rw [show 65536 * s + ((0 : Nat) : Int) = 65536 * s by omega] at this
  exact this
/-- new bytes of a stream and all that was sent -/
theorem mAll_cnt (s i : Int) : ∀ n : Nat, mCnt μ s i 0 n + mAll μ s n ≤ n
  | 0 => Int.le_refl _
  | n + 1 => by
    have ih := mAll_cnt s i n
    rw [mCnt, mAll]
    by_cases z : μ 39 ((65536 * s).toNat + n) = 0
    · have a2 : b2 (¬ μ 39 ((65536 * s).toNat + n) = 0) = 0 := if_neg (fun q => q z)
      have := b2_r (μ 37 ((65536 * s).toNat + n) = i ∧ ((0 : Int) = -1 ∨ μ 39 ((65536 * s).toNat + n) = 0 ∨ ((0 : Int) = -2 ∧ ¬ μ 39 ((65536 * s).toNat + n) = 0)))
      omega
    · have a2 : b2 (¬ μ 39 ((65536 * s).toNat + n) = 0) = 1 := if_pos z
      have a1 : b2 (μ 37 ((65536 * s).toNat + n) = i ∧ ((0 : Int) = -1 ∨ μ 39 ((65536 * s).toNat + n) = 0 ∨ ((0 : Int) = -2 ∧ ¬ μ 39 ((65536 * s).toNat + n) = 0))) = 0 := if_neg (by rintro ⟨_, q | q | q⟩ <;> omega)
      omega
/-- pieces -/
theorem pieceAt_is (hV : mV μ) {s i n : Int} (h1 : 0 ≤ s) (hP : mPi μ s) {p : Nat} (hp : (p : Int) < μ 40 s.toNat) (e1 : μ 41 ((1408 * s).toNat + p) = i) (e2 : μ 42 ((1408 * s).toNat + p) = n) : v_pieceAt μ s i n = 1408 * s + p := by
  rcases pieceAt_c (μ := μ) (s := s) i n h1 with q | q
  · exact absurd ⟨e1, e2⟩ (pieceAt_n hV h1 q p hp)
  · obtain ⟨q0, q1, q2, q3, q4⟩ := q
    have hx : (v_pieceAt μ s i n).toNat = (1408 * s).toNat + (v_pieceAt μ s i n - 1408 * s).toNat := by omega
    rw [hx] at q3 q4
    rcases Nat.lt_trichotomy p (v_pieceAt μ s i n - 1408 * s).toNat with e | e | e
    · exact absurd ⟨e1.trans q3.symm, e2.trans q4.symm⟩ (hP.2.2 _ _ e (by omega))
    · omega
    · exact absurd ⟨q3.trans e1.symm, q4.trans e2.symm⟩ (hP.2.2 _ _ e hp)
theorem pieceAt_no {s i n : Int} (h1 : 0 ≤ s) (h : ∀ p : Nat, (p : Int) < μ 40 s.toNat → ¬ (μ 41 ((1408 * s).toNat + p) = i ∧ μ 42 ((1408 * s).toNat + p) = n)) : v_pieceAt μ s i n = -1 := by
  rcases pieceAt_c (μ := μ) (s := s) i n h1 with q | q
  · exact q
  · obtain ⟨q0, q1, q2, q3, q4⟩ := q
    have hx : (v_pieceAt μ s i n).toNat = (1408 * s).toNat + (v_pieceAt μ s i n - 1408 * s).toNat := by omega
    rw [hx] at q3 q4
    exact absurd ⟨q3, q4⟩ (h _ (by omega))
/-- pieces that are not in use hold nothing -/
def mHz (μ : Nat → Nat → Int) : Prop := ∀ s : Int, 0 ≤ s → s ≤ 1 → ∀ p k : Nat, μ 40 s.toNat ≤ p → p < 1408 → k < 64 → μ 44 (64 * ((1408 * s).toNat + p) + k) = 0
/-- a byte that has come, and 1 more; 0 where none has come -/
def mX (μ : Nat → Nat → Int) (s i : Int) : Nat → Int := fun o => if v_isHere μ s i o = 0 then 0 else v_byteAt μ s i o % 256 + 1
theorem mX_cg {μ μ' : Nat → Nat → Int} {s i : Int} (h : ∀ f, [40, 41, 42, 43, 44].elem f = true → ∀ k, μ f k = μ' f k) : mX μ s i = mX μ' s i := by
  funext o
  unfold mX
  rw [v_isHere_cg (μ' := μ') (fun f hf => h f (by revert hf; simp only [List.elem_eq_mem, decide_eq_true_eq, List.mem_cons, List.not_mem_nil, or_false]; omega)), v_byteAt_cg (μ' := μ') (fun f hf => h f (by revert hf; simp only [List.elem_eq_mem, decide_eq_true_eq, List.mem_cons, List.not_mem_nil, or_false]; omega))]
theorem mX_0 {s i : Int} {o : Nat} : mX μ s i o = 0 ↔ v_isHere μ s i o = 0 := by
  unfold mX
  split
  · rename_i e; exact ⟨fun _ => e, fun _ => rfl⟩
  · rename_i e; exact ⟨fun q => by omega, fun q => absurd q e⟩
/-- by piece and place in it -/
theorem mX_p {s i : Int} {o : Nat} : mX μ s i o = if v_pieceAt μ s i ((o : Int) / 64) < 0 then 0 else if μ 44 ((64 * v_pieceAt μ s i ((o : Int) / 64)) + ((o : Int) % 64)).toNat = 0 then 0 else μ 43 ((64 * v_pieceAt μ s i ((o : Int) / 64)) + ((o : Int) % 64)).toNat % 256 + 1 := by
  unfold mX v_isHere v_byteAt
  by_cases e2 : v_pieceAt μ s i ((o : Int) / 64) < 0
  · simp only [e2, if_true]
  · by_cases e3 : μ 44 ((64 * v_pieceAt μ s i ((o : Int) / 64)) + ((o : Int) % 64)).toNat = 0
    · simp only [e2, e3, if_true, if_false]
    · rw [if_neg e2, if_neg e2, if_neg e3, if_neg e3, if_neg (by decide)]
theorem comes_X (hV : mV μ) (hP : mP2 μ) (hZ : mHz μ) {s i b : Int} {o : Nat} (h1 : 0 ≤ s) (h2 : s ≤ 1) (hh : (o : Int) < μ 25 (mj s i)) {s' i' : Int} (h1' : 0 ≤ s') (h2' : s' ≤ 1) (o' : Nat) :
    mX (s_comes μ s i o b) s' i' o' = if s' = s ∧ i' = i ∧ o' = o ∧ mX μ s i o = 0 then b % 256 + 1 else mX μ s' i' o' := by
  have hl := mPi_lt hV (hP s h1 h2)
  have h40 : 0 ≤ μ 40 s.toNat ∧ μ 40 s.toNat ≤ 1408 := hV 40 s.toNat
  have h40' : 0 ≤ μ 40 s'.toNat ∧ μ 40 s'.toNat ≤ 1408 := hV 40 s'.toNat
  have hP' := comes_p2 (b := b) hV h1 h2 (show (0 : Int) ≤ (o : Int) by omega) hh hP
  have hc := pieceAt_c (μ := μ) (s := s) i ((o : Int) / 64) h1
  have hc' := pieceAt_c (μ := μ) (s := s') i' ((o' : Int) / 64) h1'
  by_cases hneg : 0 ≤ v_pieceAt μ s i ((o : Int) / 64)
  · obtain ⟨q0, q1, q2, q3, q4⟩ := hc.resolve_left (by omega)
    have hxo : mX μ s i o = 0 ↔ μ 44 ((64 * v_pieceAt μ s i ((o : Int) / 64)) + ((o : Int) % 64)).toNat = 0 := by
      rw [mX_p, if_neg (by omega)]
      split
      · rename_i e; exact ⟨fun _ => e, fun _ => rfl⟩
      · rename_i e; exact ⟨fun q => by omega, fun q => absurd q e⟩
    unfold s_comes
    rw [if_pos hneg]
    by_cases e44 : μ 44 ((64 * v_pieceAt μ s i ((o : Int) / 64)) + ((o : Int) % 64)).toNat = 0
    · rw [if_pos e44]
      by_cases same : s' = s ∧ i' = i ∧ o' = o
      · obtain ⟨rfl, rfl, rfl⟩ := same
        rw [if_pos ⟨rfl, rfl, rfl, hxo.mpr e44⟩, mX_p, v_pieceAt_u (by decide), v_pieceAt_u (by decide), if_neg (by omega), if_neg (by rw [u2_f (by decide), u2_s]; decide), u2_s]
      · rw [if_neg (fun q => same ⟨q.1, q.2.1, q.2.2.1⟩), mX_p, mX_p, v_pieceAt_u (by decide), v_pieceAt_u (by decide)]
        by_cases hn' : v_pieceAt μ s' i' ((o' : Int) / 64) < 0
        · rw [if_pos hn', if_pos hn']
        · rw [if_neg hn', if_neg hn']
          obtain ⟨r0, r1, r2, r3, r4⟩ := hc'.resolve_left (by omega)
          have hne : ¬ ((64 * v_pieceAt μ s' i' ((o' : Int) / 64)) + ((o' : Int) % 64)).toNat = ((64 * v_pieceAt μ s i ((o : Int) / 64)) + ((o : Int) % 64)).toNat := by
            intro z
            have zz : v_pieceAt μ s' i' ((o' : Int) / 64) = v_pieceAt μ s i ((o : Int) / 64) := by omega
            rw [zz] at r3 r4
            rw [q3] at r3
            rw [q4] at r4
            exact same ⟨by omega, r3.symm, by omega⟩
          rw [u2_f (by decide), u2_n (fun z => hne z.2), u2_n (fun z => hne z.2), u2_f (by decide)]
    · rw [if_neg e44]
      rw [if_neg (fun q => e44 (hxo.mp q.2.2.2))]
  · have hn : v_pieceAt μ s i ((o : Int) / 64) = -1 := by omega
    have hz : μ 44 ((64 * (1408 * s + μ 40 s.toNat)) + ((o : Int) % 64)).toNat = 0 := by
      have := hZ s h1 h2 (μ 40 s.toNat).toNat ((o : Int) % 64).toNat (by omega) (by omega) (by omega)
      rw [show ((64 * (1408 * s + μ 40 s.toNat)) + ((o : Int) % 64)).toNat = 64 * ((1408 * s).toNat + (μ 40 s.toNat).toNat) + ((o : Int) % 64).toNat by omega]
      exact this
    have hxo : mX μ s i o = 0 := by rw [mX_p, if_pos (by omega)]
    rw [show s_comes μ s i o b = (u2 (u2 (u2 (u2 (u2 μ 40 s.toNat ((μ 40 s.toNat) + 1)) 41 ((1408 * s) + (μ 40 s.toNat)).toNat i) 42 ((1408 * s) + (μ 40 s.toNat)).toNat ((o : Int) / 64)) 44 ((64 * ((1408 * s) + (μ 40 s.toNat))) + ((o : Int) % 64)).toNat 1) 43 ((64 * ((1408 * s) + (μ 40 s.toNat))) + ((o : Int) % 64)).toNat b) by unfold s_comes; rw [if_neg hneg, if_pos hz]] at hP' ⊢
    revert hP'
    generalize hS : (u2 (u2 (u2 (u2 (u2 μ 40 s.toNat ((μ 40 s.toNat) + 1)) 41 ((1408 * s) + (μ 40 s.toNat)).toNat i) 42 ((1408 * s) + (μ 40 s.toNat)).toNat ((o : Int) / 64)) 44 ((64 * ((1408 * s) + (μ 40 s.toNat))) + ((o : Int) % 64)).toNat 1) 43 ((64 * ((1408 * s) + (μ 40 s.toNat))) + ((o : Int) % 64)).toNat b) = S
    intro hP'
    have e40 : ∀ k, S 40 k = if k = s.toNat then μ 40 s.toNat + 1 else μ 40 k := fun k => by rw [← hS]; exact u2_g
    have e41 : ∀ k, S 41 k = if k = (1408 * s + μ 40 s.toNat).toNat then i else μ 41 k := fun k => by rw [← hS]; exact u2_g
    have e42 : ∀ k, S 42 k = if k = (1408 * s + μ 40 s.toNat).toNat then (o : Int) / 64 else μ 42 k := fun k => by rw [← hS]; exact u2_g
    have e44 : ∀ k, S 44 k = if k = ((64 * ((1408 * s) + (μ 40 s.toNat))) + ((o : Int) % 64)).toNat then 1 else μ 44 k := fun k => by rw [← hS]; exact u2_g
    have e43 : ∀ k, S 43 k = if k = ((64 * ((1408 * s) + (μ 40 s.toNat))) + ((o : Int) % 64)).toNat then b else μ 43 k := fun k => by rw [← hS]; exact u2_g
    have hVp : ∀ t p, v_pieceAt S s' i' t = 1408 * s' + (p : Nat) → True := fun _ _ _ => trivial
    by_cases hnew : s' = s ∧ i' = i ∧ (o' : Int) / 64 = (o : Int) / 64
    · obtain ⟨rfl, rfl, e3⟩ := hnew
      have hp : v_pieceAt S s' i' ((o' : Int) / 64) = 1408 * s' + μ 40 s'.toNat := by
        rcases pieceAt_c (μ := S) (s := s') i' ((o' : Int) / 64) h1 with q | q
        · exfalso
          have hall : ∀ (d m : Nat), v_pieceAt_4 S s' i' ((o' : Int) / 64) d (1408 * s' + m) = -1 → S 40 s'.toNat < d + m → ∀ p : Nat, m ≤ p → (p : Int) < S 40 s'.toNat → ¬ (S 41 ((1408 * s').toNat + p) = i' ∧ S 42 ((1408 * s').toNat + p) = ((o' : Int) / 64)) := fun d m => pieceAt_n4 h1 d m
          have h0 := hall 1409 0 (by rw [show 1408 * s' + ((0 : Nat) : Int) = 1408 * s' by omega]; exact q) (by rw [e40, if_pos rfl]; omega) (μ 40 s'.toNat).toNat (by omega) (by rw [e40, if_pos rfl]; omega)
          apply h0
          rw [e41, e42, if_pos (by omega), if_pos (by omega)]
          exact ⟨rfl, e3.symm⟩
        · obtain ⟨r0, r1, r2, r3, r4⟩ := q
          rw [e40, if_pos rfl] at r2
          by_cases z : v_pieceAt S s' i' ((o' : Int) / 64) = 1408 * s' + μ 40 s'.toNat
          · exact z
          · exfalso
            rw [e41, if_neg (by omega)] at r3
            rw [e42, if_neg (by omega)] at r4
            have := pieceAt_n hV h1 hn (v_pieceAt S s' i' ((o' : Int) / 64) - 1408 * s').toNat (by omega)
            rw [show (1408 * s').toNat + (v_pieceAt S s' i' ((o' : Int) / 64) - 1408 * s').toNat = (v_pieceAt S s' i' ((o' : Int) / 64)).toNat by omega] at this
            exact this ⟨r3, r4.trans e3⟩
      rw [mX_p, hp, if_neg (show ¬ 1408 * s' + μ 40 s'.toNat < 0 by omega)]
      have hx' : mX μ s' i' o' = 0 := by rw [mX_p, e3, hn]; rfl
      by_cases z : o' = o
      · subst z
        have f4 : S 44 ((64 * (1408 * s' + μ 40 s'.toNat)) + ((o' : Int) % 64)).toNat = 1 := by rw [e44, if_pos rfl]
        have f3 : S 43 ((64 * (1408 * s' + μ 40 s'.toNat)) + ((o' : Int) % 64)).toNat = b := by rw [e43, if_pos rfl]
        rw [f4, f3, if_neg (by decide), if_pos ⟨rfl, rfl, rfl, hxo⟩]
      · rw [if_neg (fun (q : s' = s' ∧ i' = i' ∧ o' = o ∧ mX μ s' i' o = 0) => z q.2.2.1), hx']
        have := hZ s' h1 h2 (μ 40 s'.toNat).toNat ((o' : Int) % 64).toNat (by omega) (by omega) (by omega)
        have f4 : S 44 ((64 * (1408 * s' + μ 40 s'.toNat)) + ((o' : Int) % 64)).toNat = 0 := by
          rw [e44, if_neg (by omega), show ((64 * (1408 * s' + μ 40 s'.toNat)) + ((o' : Int) % 64)).toNat = 64 * ((1408 * s').toNat + (μ 40 s'.toNat).toNat) + ((o' : Int) % 64).toNat by omega, this]
        rw [f4, if_pos rfl]
    · rw [if_neg (fun q => hnew ⟨q.1, q.2.1, by rw [q.2.2.1]⟩)]
      have hp : v_pieceAt S s' i' ((o' : Int) / 64) = v_pieceAt μ s' i' ((o' : Int) / 64) := by
        have hloop : ∀ (d : Nat) (p : Int), 1408 * s' ≤ p → v_pieceAt_4 S s' i' ((o' : Int) / 64) d p = v_pieceAt_4 μ s' i' ((o' : Int) / 64) d p ∨ (s' = s ∧ True) := by
          intro d
          by_cases ess : s' = s
          · intro p _; exact Or.inr ⟨ess, trivial⟩
          · induction d with
            | zero => intro p _; exact Or.inl rfl
            | succ d ih =>
              intro p hp
              refine Or.inl ?_
              have ih' := (ih (p + 1) (by omega)).resolve_right (fun z => ess z.1)
              rw [v_pieceAt_4, v_pieceAt_4, e40, if_neg (show ¬ s'.toNat = s.toNat by omega)]
              by_cases c : 1408 * s' + μ 40 s'.toNat ≤ p
              · rw [if_pos c, if_pos c]
              · have f1 : S 41 p.toNat = μ 41 p.toNat := by rw [e41, if_neg (by omega)]
                have f2 : S 42 p.toNat = μ 42 p.toNat := by rw [e42, if_neg (by omega)]
                rw [if_neg c, if_neg c, f1, f2, ih']
        by_cases ess : s' = s
        · subst ess
          rcases hc' with q | q
          · rw [q]
            refine pieceAt_no h1 (fun p hp => ?_)
            rw [e40, if_pos rfl] at hp
            by_cases z : (p : Int) = μ 40 s'.toNat
            · rw [e41, e42, if_pos (by omega), if_pos (by omega)]
              exact fun y => hnew ⟨rfl, y.1.symm, y.2.symm⟩
            · rw [e41, e42, if_neg (by omega), if_neg (by omega)]
              exact pieceAt_n hV h1 q p (by omega)
          · obtain ⟨r0, r1, r2, r3, r4⟩ := q
            have hx : (v_pieceAt μ s' i' ((o' : Int) / 64)).toNat = (1408 * s').toNat + (v_pieceAt μ s' i' ((o' : Int) / 64) - 1408 * s').toNat := by omega
            have hPs := hP' s' h1 h2
            rcases pieceAt_c (μ := S) (s := s') i' ((o' : Int) / 64) h1 with w | w
            · exfalso
              have h0 := pieceAt_n4 (μ := S) (s := s') (i := i') (n := (o' : Int) / 64) h1 1409 0 (by rw [show 1408 * s' + ((0 : Nat) : Int) = 1408 * s' by omega]; exact w) (by rw [e40, if_pos rfl]; omega) (v_pieceAt μ s' i' ((o' : Int) / 64) - 1408 * s').toNat (by omega) (by rw [e40, if_pos rfl]; omega)
              apply h0
              rw [← hx, e41, e42, if_neg (by omega), if_neg (by omega)]
              exact ⟨r3, r4⟩
            · obtain ⟨w0, w1, w2, w3, w4⟩ := w
              have hy : (v_pieceAt S s' i' ((o' : Int) / 64)).toNat = (1408 * s').toNat + (v_pieceAt S s' i' ((o' : Int) / 64) - 1408 * s').toNat := by omega
              have f1 : S 41 (v_pieceAt μ s' i' ((o' : Int) / 64)).toNat = i' := by rw [e41, if_neg (by omega)]; exact r3
              have f2 : S 42 (v_pieceAt μ s' i' ((o' : Int) / 64)).toNat = (o' : Int) / 64 := by rw [e42, if_neg (by omega)]; exact r4
              rw [hx] at f1 f2
              rw [hy] at w3 w4
              rw [e40, if_pos rfl] at w2
              rcases Nat.lt_trichotomy (v_pieceAt S s' i' ((o' : Int) / 64) - 1408 * s').toNat (v_pieceAt μ s' i' ((o' : Int) / 64) - 1408 * s').toNat with e | e | e
              · exact absurd ⟨w3.trans f1.symm, w4.trans f2.symm⟩ (hPs.2.2 _ _ e (by rw [e40, if_pos rfl]; omega))
              · omega
              · exact absurd ⟨f1.trans w3.symm, f2.trans w4.symm⟩ (hPs.2.2 _ _ e (by rw [e40, if_pos rfl]; omega))
        · exact (hloop 1409 (1408 * s') (Int.le_refl _)).resolve_right (fun z => ess z.1)
      rw [mX_p, mX_p, hp]
      by_cases hn' : v_pieceAt μ s' i' ((o' : Int) / 64) < 0
      · rw [if_pos hn', if_pos hn']
      · obtain ⟨r0, r1, r2, r3, r4⟩ := hc'.resolve_left (by omega)
        have hne : ¬ ((64 * v_pieceAt μ s' i' ((o' : Int) / 64)) + ((o' : Int) % 64)).toNat = ((64 * ((1408 * s) + (μ 40 s.toNat))) + ((o : Int) % 64)).toNat := by
          by_cases ess : s' = s
          · subst ess; omega
          · omega
        rw [if_neg hn', if_neg hn', e44, e43, if_neg hne, if_neg hne]
theorem comes_Z (hV : mV μ) (hP : mP2 μ) (hZ : mHz μ) {s i o b : Int} (h1 : 0 ≤ s) (h2 : s ≤ 1) (ho : 0 ≤ o) : mHz (s_comes μ s i o b) := by
  have hl := mPi_lt hV (hP s h1 h2)
  have h40 : 0 ≤ μ 40 s.toNat ∧ μ 40 s.toNat ≤ 1408 := hV 40 s.toNat
  have hc := pieceAt_c (μ := μ) (s := s) i (o / 64) h1
  intro t g1 g2 p k g3 g4 g5
  unfold s_comes at g3 ⊢
  split at g3
  · rename_i hneg
    rw [if_pos hneg]
    obtain ⟨q0, q1, q2, q3, q4⟩ := hc.resolve_left (by omega)
    split at g3
    · rename_i e
      rw [if_pos e]
      rw [u2_f (by decide), u2_f (by decide)] at g3
      have h40' : 0 ≤ μ 40 t.toNat ∧ μ 40 t.toNat ≤ 1408 := hV 40 t.toNat
      rw [u2_f (by decide), u2_n]
      · exact hZ t g1 g2 p k g3 g4 g5
      · rintro ⟨_, z⟩
        by_cases ets : t = s
        · subst ets; omega
        · omega
    · rename_i e
      rw [if_neg e]
      exact hZ t g1 g2 p k g3 g4 g5
  · rename_i hneg
    rw [if_neg hneg]
    have key : ∀ S : Nat → Nat → Int, S 40 t.toNat ≤ p → (∀ k, S 40 k = if k = s.toNat then μ 40 s.toNat + 1 else μ 40 k) → (∀ k, S 44 k = if k = ((64 * ((1408 * s) + (μ 40 s.toNat))) + (o % 64)).toNat then 1 else μ 44 k) → S 44 (64 * ((1408 * t).toNat + p) + k) = 0 := by
      intro S e1 e2 e3
      rw [e2] at e1
      rw [e3]
      by_cases ets : t = s
      · subst ets
        rw [if_pos rfl] at e1
        rw [if_neg (by omega)]
        exact hZ t g1 g2 p k (by omega) g4 g5
      · rw [if_neg (by omega)] at e1
        rw [if_neg (by omega)]
        exact hZ t g1 g2 p k e1 g4 g5
    split at g3
    · rename_i e
      rw [if_pos e]
      exact key _ g3 (fun k => u2_g) (fun k => u2_g)
    · rename_i e
      exfalso
      apply e
      have := hZ s h1 h2 (μ 40 s.toNat).toNat (o % 64).toNat (by omega) (by omega) (by omega)
      rw [show ((64 * (1408 * s + μ 40 s.toNat)) + (o % 64)).toNat = 64 * ((1408 * s).toNat + (μ 40 s.toNat).toNat) + (o % 64).toNat by omega]
      exact this
end R2
