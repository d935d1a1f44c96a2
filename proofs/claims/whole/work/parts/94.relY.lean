section R26
variable {κ μ κ' μ' κ1 μ1 : Nat → Nat → Int} {O O' : Nat → Nat}
set_option maxHeartbeats 4000000 in
theorem Rel_M (hV : mV μ) (hR : kRel κ μ O) {s i : Int} (h1 : 0 ≤ s) (h2 : s ≤ 1) (h3 : 0 ≤ i) (h4 : i < 256) (hp : κ 290 (mj s i) = 1) {FK FM : Nat → Int} (hkk : mkK κ κ1 s i FK) (hmm : mkM μ μ1 s i FM)
    (hk' : ∀ f k, ¬ ((f = 200 ∨ f = 204 ∨ f = 207) ∧ k = mj s i) → ¬ ((f = 309 ∨ f = 307) ∧ k = s.toNat) → κ' f k = κ1 f k)
    (hm' : ∀ f k, ¬ (f = 20 ∧ k = mj s i) → ¬ (f = 0 ∨ (45 ≤ f ∧ f ≤ 50)) → ¬ (f = 16 ∧ k = s.toNat) → μ' f k = μ1 f k)
    (h204 : κ 204 (mj s i) ≤ κ' 204 (mj s i)) (hle : κ' 204 (mj s i) ≤ κ 203 (mj s i))
    (hpt : ∀ o : Nat, (o : Int) < κ' 204 (mj s i) → FK o = 1 + FM o ∧ ¬ FM o = 0) (hpz : ∀ o : Nat, κ' 204 (mj s i) ≤ o → FK o = 0) (hpm : ∀ o : Nat, κ' 204 (mj s i) ≤ o → (o : Int) < κ 203 (mj s i) → FM o = 0)
    (hS : rS κ' μ' s) (k207 : κ' 207 (mj s i) = (if μ 19 (mj s i) = 0 then 0 else 1 + μ' 20 (mj s i)))
    (k200 : κ' 200 (mj s i) = (if 0 < μ 21 (mj s i) then 2 + μ 21 (mj s i) else if μ 19 (mj s i) = 0 then 0 else if μ' 20 (mj s i) = 3 ∧ κ1 206 (mj s i) = κ 203 (mj s i) then 2 else 1)) : kRel κ' μ' O := by
  have hA0 := hR.A h1 h2 h3 h4
  obtain ⟨a1, a2, a3⟩ := hA0.2.1 hp
  obtain ⟨⟨r1, r2, r3, r4⟩, ⟨r5, r6, r7, r8⟩, r9, r10, r11⟩ := a2
  obtain ⟨c1, c2, c3, c4, c5, c6, c7⟩ := a3
  obtain ⟨y1, y2, y3, y4, y5, y6, y7⟩ := a1
  obtain ⟨e1, e2, e3, e4⟩ := hkk
  have hmm' := hmm
  obtain ⟨m1, m2, m3⟩ := hmm
  have hk : ∀ f k, ¬ ((200 ≤ f ∧ f ≤ 211) ∧ k = mj s i) → ¬ ((f = 309 ∨ f = 307) ∧ k = s.toNat) → f ≠ 1000 + (κ 202 (mj s i)).toNat → κ' f k = κ f k := fun f k x y z => by
    rw [hk' f k (by omega) y, e1 f k (by omega) z]
  have hm : ∀ f k, ¬ (f = 20 ∧ k = mj s i) → ¬ (f = 0 ∨ (45 ≤ f ∧ f ≤ 50)) → ¬ (f = 16 ∧ k = s.toNat) → ¬ (f = 39 ∧ μ 37 k = i ∧ 65536 * s.toNat ≤ k ∧ k < 65536 * s.toNat + 65536) → μ' f k = μ f k := fun f k x y z w => by
    rw [hm' f k x y z, m2 f k w (by omega)]
  have hX : ∀ t j : Int, mX μ' t j = mX μ t j := fun t j => mX_cg (fun f hf k => by
    simp only [List.elem_eq_mem, decide_eq_true_eq, List.mem_cons, List.not_mem_nil, or_false] at hf
    exact hm f k (by omega) (by omega) (by omega) (by omega))
  refine Rel_st hV hR h1 h2 h3 h4 (fun f k x => ?_) (fun f k x => hm f k (by unfold mCh at x; omega) (by unfold mCh at x; omega) (by unfold mCh at x; omega) (by unfold mCh at x; omega)) (by rw [hk _ _ (by omega) (by omega) (by omega)]; exact Int.le_refl _) (fun _ _ => rfl) (by rw [hk _ _ (by omega) (by omega) (by omega)]; exact Int.le_refl _) (fun _ => h204) (fun x => by rw [hm _ _ (by omega) (by omega) (by omega) (by omega)]; exact x) (fun t j _ _ _ _ _ => hX t j) (mHz_cg (fun f k x => hm _ _ (by omega) (by omega) (by omega) (by omega)) hR.2.2.2) hS ?_ ?_ ?_
  · unfold kCh at x
    refine hk f k (by omega) (by omega) (fun z => x (Or.inr (Or.inl ⟨by omega, Or.inl ?_⟩)))
    rw [z, show 1000 + (κ 202 (mj s i)).toNat - 1000 = (κ 202 (mj s i)).toNat by omega]
    exact r8
  · intro w w0 w1
    exact rW_cg h1 h2 w0 w1 (fun f a b => hk _ _ (by omega) (by omega) (by omega)) (hk _ _ (by omega) (by omega) (by omega)) (fun f a => hm _ _ (by omega) (by omega) (by omega) (by omega)) (hm _ _ (by omega) (by omega) (by omega) (by omega)) (hm _ _ (by omega) (by omega) (by omega) (by omega)) (hm _ _ (by omega) (by omega) (by omega) (by omega)) (hm _ _ (by omega) (by omega) (by omega) (by omega)) (hR.W h1 h2 w0 w1)
  · have f203 : κ' 203 (mj s i) = κ 203 (mj s i) := by rw [hk' _ _ (by omega) (by omega), e1 _ _ (by omega) (by omega)]
    have f201 : κ' 201 (mj s i) = κ 201 (mj s i) := by rw [hk' _ _ (by omega) (by omega), e1 _ _ (by omega) (by omega)]
    have f202 : κ' 202 (mj s i) = κ 202 (mj s i) := by rw [hk' _ _ (by omega) (by omega), e1 _ _ (by omega) (by omega)]
    have f290 : κ' 290 (mj s i) = κ 290 (mj s i) := hk _ _ (by omega) (by omega) (by omega)
    have g : ∀ f, 208 ≤ f → f ≤ 211 → κ' f (mj s i) = κ f (mj s i) := fun f x y => by rw [hk' _ _ (by omega) (by omega), e1 _ _ (by omega) (by omega)]
    have f206 : κ' 206 (mj s i) = κ1 206 (mj s i) := hk' _ _ (by omega) (by omega)
    have f205 : κ' 205 (mj s i) = κ1 205 (mj s i) := hk' _ _ (by omega) (by omega)
    have hw : mW μ' s i = mW μ s i := mW_cg (fun f hf k => by
      simp only [List.elem_eq_mem, decide_eq_true_eq, List.mem_cons, List.not_mem_nil, or_false] at hf
      exact hm f k (by omega) (by omega) (by omega) (by omega)) s i
    have hpl : ∀ o : Int, v_placeOf μ' s i o = v_placeOf μ s i o := fun o => v_placeOf_cg (fun f hf k => by
      simp only [List.elem_eq_mem, decide_eq_true_eq, List.mem_cons, List.not_mem_nil, or_false] at hf
      exact hm f k (by omega) (by omega) (by omega) (by omega))
    have hmk : ∀ o : Nat, (o : Int) < mW μ s i → mMk μ' s i o = FM o := fun o ho => by
      rw [← m3 o ho]
      unfold mMk
      rw [hpl, mkM_P hmm', hm' _ _ (by omega) (by omega) (by omega)]
    have hrowm : κ' (1000 + (κ 202 (mj s i)).toNat) = κ1 (1000 + (κ 202 (mj s i)).toNat) := funext (fun o => hk' _ _ (by omega) (by omega))
    refine ⟨by rw [f290, hm 17 _ (by omega) (by omega) (by omega) (by omega)]; exact hA0.1, fun _ => ⟨?_, ?_, ?_⟩, fun z => absurd (by rw [f290]; exact hp) z⟩
    · unfold rA1
      rw [f203, hw, k207, k200, g 208 (by omega) (by omega), g 209 (by omega) (by omega), g 210 (by omega) (by omega), g 211 (by omega) (by omega), f206, hm 18 _ (by omega) (by omega) (by omega) (by omega), hm 19 _ (by omega) (by omega) (by omega) (by omega), hm 21 _ (by omega) (by omega) (by omega) (by omega), hm 22 _ (by omega) (by omega) (by omega) (by omega), hm 23 _ (by omega) (by omega) (by omega) (by omega), hm 24 _ (by omega) (by omega) (by omega) (by omega)]
      exact ⟨y1, rfl, y3, y4, y5, y6, rfl⟩
    · unfold rA2
      rw [f201, f202, f203, hk 600 _ (by omega) (by omega) (by omega), hk 600 _ (by omega) (by omega) (by omega), hk 601 _ (by omega) (by omega) (by omega), hk 601 _ (by omega) (by omega) (by omega), hk 602 _ (by omega) (by omega) (by omega)]
      exact ⟨⟨r1, r2, r3, r4⟩, ⟨r5, r6, r7, r8⟩, r9, r10, r11⟩
    · unfold rA3
      rw [f201, f202, f203, f205, f206, hk 600 _ (by omega) (by omega) (by omega), hrowm]
      refine ⟨hle, fun o ho => ?_, fun o ho => ?_, fun o ho => ?_, fun o x y => ?_, e3, e4⟩
      · rw [hpl, hm 38 _ (by omega) (by omega) (by omega) (by omega), hk _ _ (by omega) (by omega) (fun z => by
          rw [show (κ 201 (mj s i)).toNat = (κ 202 (mj s i)).toNat by omega, r8] at r4; omega)]
        exact c2 o ho
      · rw [e2, hmk o (by omega)]; exact hpt o ho
      · rw [e2]; exact hpz o ho
      · rw [hmk o (by omega)]; exact hpm o x y
  · refine rB_cg (fun f a => hk _ _ (by omega) (by omega) (by omega)) (fun r a b c => ⟨hk _ _ (by omega) (by omega) (by omega), hk _ _ (by omega) (by omega) (by omega), rfl, fun o => hk _ _ (by omega) (by omega) (fun z => ?_)⟩) (by rw [hk _ _ (by omega) (by omega) (by omega)]; exact Int.le_refl _) (fun f a => hm _ _ (by omega) (by omega) (by omega) (by omega)) (fun _ => hm _ _ (by omega) (by omega) (by omega) (by omega)) (hX s i) (hR.B h1 h2 h3 h4)
    rw [show r = (κ 202 (mj s i)).toNat by omega, r8] at c
    omega
theorem rS_mk (hR : kRel κ μ O) {s i : Int} (h1 : 0 ≤ s) (h2 : s ≤ 1) (hk : ∀ f k, ¬ ((200 ≤ f ∧ f ≤ 211) ∧ k = mj s i) → f < 1000 → κ' f k = κ f k) (hm : ∀ f k, ¬ (f = 20 ∧ k = mj s i) → ¬ (f = 0 ∨ (45 ≤ f ∧ f ≤ 50)) → f ≠ 39 → μ' f k = μ f k) (hall : mAll μ' s (mTot μ' s) = mAll μ s (mTot μ s)) : rS κ' μ' s :=
  rS_cg h1 h2 (fun f a b => hk _ _ (by omega) (by omega)) (fun f k a b c => hk _ _ (by omega) (by omega)) (fun f a => hm _ _ (by omega) (by omega) (by omega)) (hm _ _ (by omega) (by omega) (by omega)) (hm _ _ (by omega) (by omega) (by omega)) (hm _ _ (by omega) (by omega) (by omega)) (fun k => hm _ _ (by omega) (by omega) (by omega)) (fun j _ _ => hm _ _ (by omega) (by omega) (by omega)) hall (v_received_cg (fun f hf k => by
    simp only [List.elem_eq_mem, decide_eq_true_eq, List.mem_cons, List.not_mem_nil, or_false] at hf
    exact hm f k (by omega) (by omega) (by omega))) (v_consumed_cg (fun f hf k => by
    simp only [List.elem_eq_mem, decide_eq_true_eq, List.mem_cons, List.not_mem_nil, or_false] at hf
    exact hm f k (by omega) (by omega) (by omega))) (hR.S h1 h2)
/-- nothing more is over than what was -/
theorem over_same (hV : mV μ) (hR : kRel κ μ O) {s i : Int} (h1 : 0 ≤ s) (h2 : s ≤ 1) (h3 : 0 ≤ i) (h4 : i < 256) (k204 : 0 ≤ κ 204 (mj s i)) (hO : iO κ s i) : s_looksOver μ s i = μ := by
  rw [looksOver_e]
  refine if_neg (fun z => ?_)
  obtain ⟨a, b, c, d, e⟩ := (over_iff hV hR h1 h2 h3 h4 k204).mpr z
  have := (hO a b).mpr ⟨d, e⟩
  omega
end R26
