section R15
variable {κ μ κ' μ' κ0 ν1 : Nat → Nat → Int} {O O' : Nat → Nat}
theorem u2_id {f k : Nat} : u2 κ f k (κ f k) = κ := by
  funext a b
  unfold u2
  split
  · rename_i h; rw [h.1, h.2]
  · rfl
theorem settle_e (s i : Int) : s_settle κ s i = u2 κ 100 (mj s i) (if 0 ≤ κ 105 (mj s i) then (if κ 105 (mj s i) ≤ κ 103 (mj s i) then (if κ 105 (mj s i) ≤ κ 102 (mj s i) then 3 else 2) else 1) else κ 100 (mj s i)) := by
  unfold s_settle
  split
  · split
    · split <;> rfl
    · rfl
  · exact u2_id.symm
theorem read_A (hV : mV μ) (hR : kRel κ μ O) {s i n : Int} (h1 : 0 ≤ s) (h2 : s ≤ 1) (h3 : 0 ≤ i) (h4 : i < 256) (hp : κ 190 (mj s i) = 1) (hz : μ 28 (mj s i) = 0) (n0 : 0 ≤ n) (n1 : n ≤ κ 103 (mj s i) - κ 102 (mj s i)) (hV1 : mV ν1) (k104 : 0 ≤ κ 104 (mj s i)) (k600 : 0 ≤ κ 600 (κ 101 (mj s i)).toNat)
    (hk0 : ∀ f k, ¬ (f = 100 ∧ k = mj s i) → ¬ (f = 102 ∧ k = mj s i) → ¬ (f = 313 ∧ k = s.toNat) → ¬ (f = 506 ∧ k = 0) → f ≠ 1001 → κ0 f k = κ f k)
    (k100 : κ0 100 (mj s i) = (if 0 ≤ κ 105 (mj s i) then (if κ 105 (mj s i) ≤ κ 103 (mj s i) then (if κ 105 (mj s i) ≤ κ 102 (mj s i) + n then 3 else 2) else 1) else κ 100 (mj s i)))
    (k102 : κ0 102 (mj s i) = κ 102 (mj s i) + n) (k313 : κ0 313 s.toNat = κ 313 s.toNat + n) (k506 : κ0 506 0 = n) (k1001 : ∀ j : Nat, (j : Int) < n → κ0 1001 j = wB (κ (1000 + (κ 101 (mj s i)).toNat) ((κ 102 (mj s i)).toNat + j) - 1))
    (hm1 : ∀ f k, f ≠ 0 → f ≠ 4 → ¬ (f = 5 ∧ k = 0) → ¬ (f = 27 ∧ k = mj s i) → ν1 f k = μ f k) (m5 : ν1 5 0 = n) (m27 : ν1 27 (mj s i) = μ 27 (mj s i) + n) (m4 : ∀ j : Nat, (j : Int) < n → ν1 4 j = v_byteAt μ s i (μ 27 (mj s i) + j) % 256) : kRel κ0 ν1 O := by
  have hB := hR.B h1 h2 h3 h4
  obtain ⟨b1, b2', b3⟩ := hB.2.1 hp
  obtain ⟨t1, t2, t3, t4, t5, t6, t7, t8, t9, t10, t11, t12⟩ := b1
  obtain ⟨c1, c2, c3, c4, c5, c6, c7⟩ := b3
  obtain ⟨le1, le2⟩ := rB_le hB hp k104 k600
  have v27 : 0 ≤ μ 27 (mj s i) ∧ μ 27 (mj s i) ≤ 65536 := hV 27 _
  -- the hall first
  have hH : kRel (fun f k => if f = 1001 ∨ (f = 506 ∧ k = 0) then κ0 f k else κ f k) (fun f k => if f = 0 ∨ f = 4 ∨ f = 5 then ν1 f k else μ f k) O := by
    refine Rel_H hV hR (fun f k x y => if_neg (by omega)) (fun f k x y => if_neg (by omega)) ?_
    obtain ⟨q1, q2, q3, q4, q5, q6, q7, q8⟩ := hR.1
    refine ⟨q1, ?_, q3, q4, fun j hj => ?_, q6, q7, q8⟩
    · show κ0 506 0 = ν1 5 0
      rw [k506, m5]
    · have hj' : (j : Int) < n := by
        have : (j : Int) < κ0 506 0 := hj
        omega
      show κ0 1001 j % 256 = ν1 4 j
      have hX := c3 ((κ 102 (mj s i)).toNat + j) (by omega)
      rw [k1001 j hj', m4 j hj', c2, wB_m]
      have hX' := hX
      unfold mX at hX ⊢
      split at hX
      · exact absurd rfl hX
      · rename_i e
        rw [if_neg e, show (((κ 102 (mj s i)).toNat + j : Nat) : Int) = μ 27 (mj s i) + j by omega]
        omega
  have hVa : mV (fun f k => if f = 0 ∨ f = 4 ∨ f = 5 then ν1 f k else μ f k) := by
    intro f k
    show vlo f ≤ (if f = 0 ∨ f = 4 ∨ f = 5 then ν1 f k else μ f k) ∧ (if f = 0 ∨ f = 4 ∨ f = 5 then ν1 f k else μ f k) ≤ vhi f
    split
    · exact hV1 f k
    · exact hV f k
  have fa : ∀ f k, f ≠ 1001 → ¬ (f = 506 ∧ k = 0) → (fun f k => if f = 1001 ∨ (f = 506 ∧ k = 0) then κ0 f k else κ f k) f k = κ f k := fun f k x y => if_neg (by omega)
  have fm : ∀ f k, f ≠ 0 → f ≠ 4 → f ≠ 5 → (fun f k => if f = 0 ∨ f = 4 ∨ f = 5 then ν1 f k else μ f k) f k = μ f k := fun f k x y z => if_neg (by omega)
  have ga : ∀ f k, ¬ (f = 100 ∧ k = mj s i) → ¬ (f = 102 ∧ k = mj s i) → ¬ (f = 313 ∧ k = s.toNat) → κ0 f k = (fun f k => if f = 1001 ∨ (f = 506 ∧ k = 0) then κ0 f k else κ f k) f k := fun f k x y z => by
    show κ0 f k = if f = 1001 ∨ (f = 506 ∧ k = 0) then κ0 f k else κ f k
    split
    · rfl
    · exact hk0 f k x y z (by omega) (by omega)
  have gm : ∀ f k, ¬ (f = 27 ∧ k = mj s i) → ν1 f k = (fun f k => if f = 0 ∨ f = 4 ∨ f = 5 then ν1 f k else μ f k) f k := fun f k x => by
    show ν1 f k = if f = 0 ∨ f = 4 ∨ f = 5 then ν1 f k else μ f k
    split
    · rfl
    · exact hm1 f k (by omega) (by omega) (by omega) x
  have hX1 : ∀ t j, mX ν1 t j = mX μ t j := fun t j => mX_cg (fun f hf k => by
    simp only [List.elem_eq_mem, decide_eq_true_eq, List.mem_cons, List.not_mem_nil, or_false] at hf
    exact hm1 f k (by omega) (by omega) (by omega) (by omega))
  have hXa : ∀ t j, mX (fun f k => if f = 0 ∨ f = 4 ∨ f = 5 then ν1 f k else μ f k) t j = mX μ t j := fun t j => mX_cg (fun f hf k => by
    simp only [List.elem_eq_mem, decide_eq_true_eq, List.mem_cons, List.not_mem_nil, or_false] at hf
    exact fm f k (by omega) (by omega) (by omega))
  obtain ⟨q1, q2, q3, q4, q5, q6, q7, q8, q9, q10, q11, q12, q13, q14, q15⟩ := hR.S h1 h2
  refine Rel_st hVa hH h1 h2 h3 h4 (fun f k x => ga f k (by unfold kCh at x; omega) (by unfold kCh at x; omega) (by unfold kCh at x; omega)) (fun f k x => gm f k (by unfold mCh at x; omega)) (by rw [ga _ _ (by omega) (by omega) (by omega)]; exact Int.le_refl _) (fun _ _ => rfl) (by rw [ga _ _ (by omega) (by omega) (by omega)]; exact Int.le_refl _) (fun _ => by rw [ga _ _ (by omega) (by omega) (by omega)]; exact Int.le_refl _) (fun x => by rw [gm _ _ (by omega)]; exact x) (fun t j _ _ _ _ _ => by rw [hX1, hXa]) (mHz_cg (fun f k x => hm1 f k (by omega) (by omega) (by omega) (by omega)) hR.2.2.2) ?_ ?_ ?_ ?_
  · have hrc : v_received ν1 s = v_received μ s := v_received_cg (fun f hf k => by
      simp only [List.elem_eq_mem, decide_eq_true_eq, List.mem_cons, List.not_mem_nil, or_false] at hf
      exact hm1 f k (by omega) (by omega) (by omega) (by omega))
    have hcc : v_consumed ν1 s = v_consumed μ s + n := by
      rw [consumed_up h1 h3 h4 (fun f k a z => hm1 f k (by omega) (by omega) (by omega) (by omega)), hm1 28 _ (by omega) (by omega) (by omega) (by omega), if_pos hz, if_pos hz, m27]
      omega
    have hall : mAll ν1 s (mTot ν1 s) = mAll μ s (mTot μ s) := by
      rw [mTot_cg (μ' := μ) (fun k => hm1 _ _ (by omega) (by omega) (by omega) (by omega))]
      exact mAll_cgr _ (fun q _ => hm1 _ _ (by omega) (by omega) (by omega) (by omega))
    have hk : ∀ f k, f ≠ 313 → f ≠ 100 → f ≠ 102 → f ≠ 506 → f ≠ 1001 → κ0 f k = κ f k := fun f k _ _ _ _ _ => hk0 f k (by omega) (by omega) (by omega) (by omega) (by omega)
    have hm : ∀ f k, f ≠ 0 → f ≠ 4 → f ≠ 5 → f ≠ 27 → ν1 f k = μ f k := fun f k _ _ _ _ => hm1 f k (by omega) (by omega) (by omega) (by omega)
    unfold rS
    rw [hrc, hcc, hall, k313, hk 308 _ (by omega) (by omega) (by omega) (by omega) (by omega), hk 309 _ (by omega) (by omega) (by omega) (by omega) (by omega), hk 310 _ (by omega) (by omega) (by omega) (by omega) (by omega), hk 311 _ (by omega) (by omega) (by omega) (by omega) (by omega), hk 312 _ (by omega) (by omega) (by omega) (by omega) (by omega), hk 314 _ (by omega) (by omega) (by omega) (by omega) (by omega), hk 315 _ (by omega) (by omega) (by omega) (by omega) (by omega), hk 307 _ (by omega) (by omega) (by omega) (by omega) (by omega), hk 306 _ (by omega) (by omega) (by omega) (by omega) (by omega), hm 36 _ (by omega) (by omega) (by omega) (by omega), hm 7 _ (by omega) (by omega) (by omega) (by omega), hm 14 _ (by omega) (by omega) (by omega) (by omega), hm 11 _ (by omega) (by omega) (by omega) (by omega), hm 12 _ (by omega) (by omega) (by omega) (by omega), hm 16 _ (by omega) (by omega) (by omega) (by omega), hm 1 _ (by omega) (by omega) (by omega) (by omega)]
    refine ⟨q1, q2, q3, q4, q5, by omega, q7, q8, q9, fun x x1 x2 => ?_, fun y x x1 x2 => ?_, q12, q13, q14, fun y => ⟨(q15 y).1, fun x x1 x2 => ?_⟩⟩
    · rw [hk 360 _ (by omega) (by omega) (by omega) (by omega) (by omega), hm 6 _ (by omega) (by omega) (by omega) (by omega)]; exact q10 x x1 x2
    · rw [hk 361 _ (by omega) (by omega) (by omega) (by omega) (by omega), hm 6 _ (by omega) (by omega) (by omega) (by omega)]; exact q11 y x x1 x2
    · rw [hm 17 _ (by omega) (by omega) (by omega) (by omega)]; exact (q15 y).2 x x1 x2
  · intro w w0 w1
    exact rW_cg h1 h2 w0 w1 (fun f a b => hk0 _ _ (by omega) (by omega) (by omega) (by omega) (by omega)) (hk0 _ _ (by omega) (by omega) (by omega) (by omega) (by omega)) (fun f a => hm1 _ _ (by omega) (by omega) (by omega) (by omega)) (hm1 _ _ (by omega) (by omega) (by omega) (by omega)) (hm1 _ _ (by omega) (by omega) (by omega) (by omega)) (hm1 _ _ (by omega) (by omega) (by omega) (by omega)) (hm1 _ _ (by omega) (by omega) (by omega) (by omega)) (hR.W h1 h2 w0 w1)
  · have hAm := rA_m (μ := μ) (μ' := ν1) (s := s) (i := i) (fun f a b k => hm1 _ _ (by omega) (by omega) (by omega) (by omega))
    exact rA_cg (fun f a => hk0 _ _ (by omega) (by omega) (by omega) (by omega) (by omega)) (fun r a b c => ⟨hk0 _ _ (by omega) (by omega) (by omega) (by omega) (by omega), hk0 _ _ (by omega) (by omega) (by omega) (by omega) (by omega), rfl, fun o => hk0 _ _ (by omega) (by omega) (by omega) (by omega) (by omega)⟩) (by rw [hk0 _ _ (by omega) (by omega) (by omega) (by omega) (by omega)]; exact Int.le_refl _) (fun f a b => hm1 _ _ (by omega) (by omega) (by omega) (by omega)) hAm.1 hAm.2 (hR.A h1 h2 h3 h4)
  · have hk : ∀ f k, f ≠ 313 → f ≠ 100 → f ≠ 102 → f ≠ 506 → f ≠ 1001 → κ0 f k = κ f k := fun f k _ _ _ _ _ => hk0 f k (by omega) (by omega) (by omega) (by omega) (by omega)
    have hm : ∀ f k, f ≠ 0 → f ≠ 4 → f ≠ 5 → f ≠ 27 → ν1 f k = μ f k := fun f k _ _ _ _ => hm1 f k (by omega) (by omega) (by omega) (by omega)
    have e190 : κ0 190 (mj s i) = κ 190 (mj s i) := hk _ _ (by omega) (by omega) (by omega) (by omega) (by omega)
    refine ⟨by rw [e190, hm 17 _ (by omega) (by omega) (by omega) (by omega)]; exact hB.1, fun _ => ⟨?_, ?_, ?_⟩, fun z => absurd (by rw [e190]; exact hp) z⟩
    · unfold rB1
      rw [k100, k102, m27, hk 104 _ (by omega) (by omega) (by omega) (by omega) (by omega), hk 105 _ (by omega) (by omega) (by omega) (by omega) (by omega), hk 106 _ (by omega) (by omega) (by omega) (by omega) (by omega), hk 107 _ (by omega) (by omega) (by omega) (by omega) (by omega), hk 108 _ (by omega) (by omega) (by omega) (by omega) (by omega), hk 109 _ (by omega) (by omega) (by omega) (by omega) (by omega), hk 110 _ (by omega) (by omega) (by omega) (by omega) (by omega), hk 111 _ (by omega) (by omega) (by omega) (by omega) (by omega), hk 112 _ (by omega) (by omega) (by omega) (by omega) (by omega), hk 113 _ (by omega) (by omega) (by omega) (by omega) (by omega), hk 103 _ (by omega) (by omega) (by omega) (by omega) (by omega), hm 25 _ (by omega) (by omega) (by omega) (by omega), hm 26 _ (by omega) (by omega) (by omega) (by omega), hm 28 _ (by omega) (by omega) (by omega) (by omega), hm 29 _ (by omega) (by omega) (by omega) (by omega), hm 30 _ (by omega) (by omega) (by omega) (by omega), hm 31 _ (by omega) (by omega) (by omega) (by omega), hm 32 _ (by omega) (by omega) (by omega) (by omega), hm 33 _ (by omega) (by omega) (by omega) (by omega), hm 34 _ (by omega) (by omega) (by omega) (by omega), hm 35 _ (by omega) (by omega) (by omega) (by omega), hm 6 _ (by omega) (by omega) (by omega) (by omega)]
      refine ⟨by omega, t2, t3, t4, t5, t6, t7, t8, t9, t10, t11, ?_⟩
      rw [if_pos hz, t3]
      rw [if_pos hz] at t12
      by_cases g : 0 ≤ μ 26 (mj s i)
      · have := c6 g
        rw [if_pos g, if_pos g]
        by_cases g2 : μ 26 (mj s i) ≤ κ 103 (mj s i)
        · rw [if_pos g2]
          by_cases g3 : μ 26 (mj s i) ≤ κ 102 (mj s i) + n
          · rw [if_pos g3, if_pos (by omega)]
          · rw [if_neg g3, if_neg (by omega), if_pos (by omega)]
        · rw [if_neg g2, if_neg (by omega), if_neg (by omega)]
      · rw [if_neg g, if_neg g]
        rw [if_neg g] at t12
        exact t12
    · unfold rB2 at b2' ⊢
      rw [hk 101 _ (by omega) (by omega) (by omega) (by omega) (by omega), hk 104 _ (by omega) (by omega) (by omega) (by omega) (by omega), hk 600 _ (by omega) (by omega) (by omega) (by omega) (by omega), hk 601 _ (by omega) (by omega) (by omega) (by omega) (by omega), hk 602 _ (by omega) (by omega) (by omega) (by omega) (by omega)]
      exact b2'
    · have hrow : ∀ o, κ0 (1000 + (κ 101 (mj s i)).toNat) o = κ (1000 + (κ 101 (mj s i)).toNat) o := fun o => by
        have := b2'.1
        exact hk _ _ (by omega) (by omega) (by omega) (by omega) (by omega)
      unfold rB3
      rw [k102, hk 101 _ (by omega) (by omega) (by omega) (by omega) (by omega), hk 103 _ (by omega) (by omega) (by omega) (by omega) (by omega), hk 104 _ (by omega) (by omega) (by omega) (by omega) (by omega), hk 600 _ (by omega) (by omega) (by omega) (by omega) (by omega), hX1, hm 25 _ (by omega) (by omega) (by omega) (by omega), hm 26 _ (by omega) (by omega) (by omega) (by omega), hm 28 _ (by omega) (by omega) (by omega) (by omega)]
      exact ⟨by omega, fun o => by rw [hrow]; exact c2 o, c3, c4, c5, c6, c7⟩
end R15
