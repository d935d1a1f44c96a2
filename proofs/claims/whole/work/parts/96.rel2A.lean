section R28
variable {κ μ κ' μ' κ1 μ1 : Nat → Nat → Int} {O O' : Nat → Nat}
theorem streamId_e {p : Int} : v_streamId κ p = if (κ 3 p.toNat = 4 ∨ κ 3 p.toNat = 5 ∨ κ 3 p.toNat = 8 ∨ κ 3 p.toNat = 17 ∨ κ 3 p.toNat = 21) ∧ κ 4 p.toNat < 256 then κ 4 p.toNat else -1 := by
  unfold v_streamId
  by_cases w : 256 ≤ κ 4 p.toNat
  · rw [if_neg (show ¬ ((κ 3 p.toNat = 4 ∨ κ 3 p.toNat = 5 ∨ κ 3 p.toNat = 8 ∨ κ 3 p.toNat = 17 ∨ κ 3 p.toNat = 21) ∧ κ 4 p.toNat < 256) by omega)]
    simp only [if_pos w, ite_self]
  · simp only [if_neg w]
    repeat' split
    all_goals first | rfl | omega
/-- the frame is off the line -/
theorem off_R (hV : mV μ) (hR : kRel κ μ O) {p : Int} (p0 : 0 ≤ p) (p1 : p < 64) : kRel (u2 κ 0 p.toNat 0) (u2 (u2 (u2 μ 0 0 0) 0 0 0) 58 p.toNat 0) O := by
  refine Rel_F hV hR (fun k => k = p.toNat) (fun f k z => u2_n (by omega)) (fun f k x y z => by rw [u2_n (by omega), u2_n (by omega), u2_n (by omega)]) (fun q hq e => ?_)
  have e' : q = p.toNat := e
  subst e'
  refine ⟨by rw [u2_s, u2_s], fun z => ?_⟩
  rw [u2_s] at z
  omega
theorem g_res (hV : mV μ) (hK : kV κ) (hR : kRel κ μ O) (hI : kInv κ) {s i : Int} (h1 : 0 ≤ s) (h2 : s ≤ 1) (h3 : 0 ≤ i) (h4 : i < 256) : kRel (if 0 ≤ i ∧ i < 256 ∧ κ 290 (mj s i) = 1 then u2 κ 211 (mj s i) 1 else κ) (if μ 21 (mj s i) = 1 then s_looksOver (u2 μ 22 (mj s i) 1) s i else s_looksOver μ s i) O ∧ kInv (if 0 ≤ i ∧ i < 256 ∧ κ 290 (mj s i) = 1 then u2 κ 211 (mj s i) 1 else κ) := by
  have hA := hR.A h1 h2 h3 h4
  have k204 : 0 ≤ κ 204 (mj s i) := (hK.1 204 _).1
  have v22 : ∀ v : Int, 0 ≤ v ∧ v ≤ 1 → mV (u2 μ 22 (mj s i) v) := fun v hv => hV.u (f := 22) hv
  by_cases hp : κ 290 (mj s i) = 1
  · rw [if_pos ⟨h3, h4, hp⟩]
    have hI' : kInv (u2 κ 211 (mj s i) 1) := Inv_cg hI (fun f k z => u2_n (by omega)) (fun k z => u2_n (by omega))
    obtain ⟨y1, y2, y3, y4, y5, y6, y7⟩ := (hA.2.1 hp).1
    have go : ∀ μ' : Nat → Nat → Int, (∀ f k, ¬ (f = 22 ∧ k = mj s i) → μ' f k = μ f k) → (μ 21 (mj s i) = 1 → μ' 22 (mj s i) = 1) → mV μ' → kRel (u2 κ 211 (mj s i) 1) (s_looksOver μ' s i) O ∧ kInv (u2 κ 211 (mj s i) 1) := by
      intro μ' hm h22 hV'
      have hR' : kRel (u2 κ 211 (mj s i) 1) μ' O := by
        refine Rel_A hV hR h1 h2 h3 h4 (fun f k z => u2_n (by omega)) (fun f k z y => hm f k (by omega)) (by rw [u2_n (by omega)]; exact Int.le_refl _) (fun z => by rw [hm _ _ (by omega)]; exact z) ?_
        refine rA_f hA hp (fun f a => u2_n (by omega)) (fun f k a => u2_n (by omega)) (hm _ _ (by omega)) (fun f a b k => hm _ _ (by omega)) ?_
        have hw : mW μ' s i = mW μ s i := mW_cg (fun f hf k => hm f k (by
          simp only [List.elem_eq_mem, decide_eq_true_eq, List.mem_cons, List.not_mem_nil, or_false] at hf
          omega)) s i
        unfold rA1
        rw [hw, hm 18 _ (by omega), hm 19 _ (by omega), hm 20 _ (by omega), hm 21 _ (by omega), hm 23 _ (by omega), hm 24 _ (by omega)]
        simp (disch := omega) only [u2_f, u2_s]
        exact ⟨y1, y2, y3, y4, y5, fun z => (h22 z).symm, y7⟩
      rw [over_same hV' hR' h1 h2 h3 h4 (by rw [u2_n (by omega)]; exact k204) ((hI' s h1 h2).2 i h3 h4).2]
      exact ⟨hR', hI'⟩
    by_cases c : μ 21 (mj s i) = 1
    · rw [if_pos c]
      exact go _ (fun f k z => u2_n z) (fun _ => u2_s _ _ _ _) (v22 1 (by omega))
    · rw [if_neg c]
      exact go _ (fun f k z => rfl) (fun z => absurd z c) hV
  · have h21 := (hA.2.2 hp).2.2.2.1
    rw [if_neg (fun z => hp z.2.2), if_neg (by omega), over_same hV hR h1 h2 h3 h4 k204 ((hI s h1 h2).2 i h3 h4).2]
    exact ⟨hR, hI⟩
theorem g_resA (hV : mV μ) (hK : kV κ) (hR : kRel κ μ O) (hI : kInv κ) {s i : Int} (h1 : 0 ≤ s) (h2 : s ≤ 1) (h3 : 0 ≤ i) (h4 : i < 256) : kRel (if 0 ≤ i ∧ i < 256 ∧ κ 290 (mj s i) = 1 then (if κ 200 (mj s i) = 3 then s_growIfOver (u2 κ 200 (mj s i) 4) s i else κ) else κ) (if μ 21 (mj s i) = 1 then s_looksOver (u2 μ 21 (mj s i) 2) s i else s_looksOver μ s i) O ∧ kInv (if 0 ≤ i ∧ i < 256 ∧ κ 290 (mj s i) = 1 then (if κ 200 (mj s i) = 3 then s_growIfOver (u2 κ 200 (mj s i) 4) s i else κ) else κ) := by
  have hA := hR.A h1 h2 h3 h4
  have k204 : 0 ≤ κ 204 (mj s i) := (hK.1 204 _).1
  have k113 : 0 ≤ κ 113 (mj s i) ∧ κ 113 (mj s i) ≤ 1 := ⟨(hK.1 113 _).1, (hK.1 113 _).2 rfl⟩
  have v21 : 0 ≤ μ 21 (mj s i) ∧ μ 21 (mj s i) ≤ 2 := hV 21 _
  have same := over_same hV hR h1 h2 h3 h4 k204 ((hI s h1 h2).2 i h3 h4).2
  by_cases hp : κ 290 (mj s i) = 1
  · rw [if_pos ⟨h3, h4, hp⟩]
    obtain ⟨y1, y2, y3, y4, y5, y6, y7⟩ := (hA.2.1 hp).1
    by_cases c : μ 21 (mj s i) = 1
    · have e3 : κ 200 (mj s i) = 3 := by rw [y7, if_pos (by omega)]; omega
      rw [if_pos e3, if_pos c]
      have hV' : mV (u2 μ 21 (mj s i) 2) := hV.u (f := 21) (by decide)
      have hR' : kRel (u2 κ 200 (mj s i) 4) (u2 μ 21 (mj s i) 2) O := by
        refine Rel_A hV hR h1 h2 h3 h4 (fun f k z => u2_n (by omega)) (fun f k z y => u2_n (by omega)) (by rw [u2_n (by omega)]; exact Int.le_refl _) (fun z => by rw [u2_n (by omega)]; exact z) ?_
        refine rA_f hA hp (fun f a => u2_n (by omega)) (fun f k a => u2_n (by omega)) (u2_n (by omega)) (fun f a b k => u2_n (by omega)) ?_
        have hw : mW (u2 μ 21 (mj s i) 2) s i = mW μ s i := mW_cg (fun f hf k => by
          simp only [List.elem_eq_mem, decide_eq_true_eq, List.mem_cons, List.not_mem_nil, or_false] at hf
          exact u2_n (by omega)) s i
        unfold rA1
        rw [hw]
        simp (disch := omega) only [u2_f, u2_s]
        refine ⟨y1, y2, y3, y4, ?_, fun z => absurd z (by decide), rfl⟩
        rw [if_pos (by omega)] at y5
        rw [if_pos (by decide)]
        exact y5
      have o := R_over hV' hR' h1 h2 h3 h4 (by rw [u2_n (by omega)]; exact k204) (by rw [u2_n (by omega)]; exact k113) (fun x y z => by
        rw [u2_n (by omega)] at x z
        obtain ⟨q1, q2⟩ := (((hI s h1 h2).2 i h3 h4).2 x y).mp z
        rw [u2_n (by omega), u2_s]
        exact ⟨q1, fun _ => Or.inr rfl⟩)
      refine ⟨o.1, ?_⟩
      have fo : ∀ f k, f ≠ 113 → f ≠ 360 → f ≠ 405 → s_growIfOver (u2 κ 200 (mj s i) 4) s i f k = u2 κ 200 (mj s i) 4 f k := fun f k x y z => s_growIfOver_fr (by
        simp only [List.elem_eq_mem, List.mem_cons, List.not_mem_nil, or_false, Bool.not_eq_true', decide_eq_false_iff_not]
        omega)
      have fo2 : ∀ f k, k ≠ mj s i → f = 113 → s_growIfOver (u2 κ 200 (mj s i) 4) s i f k = u2 κ 200 (mj s i) 4 f k := fun f k x y => by
        rw [growIfOver_e]
        split
        · split
          · exact u2_n (by omega)
          · rw [u2_n (by omega), u2_n (by omega), u2_n (by omega)]
        · rfl
      have hwy := kWayOf_b h3
      have fo3 : ∀ k, k % 16 = 4 → s_growIfOver (u2 κ 200 (mj s i) 4) s i 360 k = u2 κ 200 (mj s i) 4 360 k := fun k x => by
        rw [growIfOver_e]
        split
        · split
          · exact u2_n (by omega)
          · rw [u2_n (by omega), u2_n (by omega), u2_n (by omega)]
        · rfl
      refine Inv_st hI h1 h2 h3 h4 (fun f k x y => ?_) (fun f k x => by rw [fo _ _ (by omega) (by omega) (by omega), u2_n (by omega)]) (fun f k x y => by rw [fo _ _ (by omega) (by omega) (by omega), u2_n (by omega)]) (fun k x => by rw [fo3 _ x, u2_n (by omega)]) (iD_cg (fun f x => by rw [fo _ _ (by omega) (by omega) (by omega), u2_n (by omega)]) (by rw [fo3 _ (by omega), u2_n (by omega)]) (hI s h1 h2).1) (iG_cg (fun f x => by rw [fo _ _ (by omega) (by omega) (by omega), u2_n (by omega)]) ((hI s h1 h2).2 i h3 h4).1) o.2
      by_cases w : f = 113
      · rw [fo2 f k y w, u2_n (by omega)]
      · rw [fo _ _ w (by omega) (by omega), u2_n (by omega)]
    · have e3 : ¬ κ 200 (mj s i) = 3 := by
        rw [y7]
        repeat' split
        all_goals omega
      rw [if_neg e3, if_neg c, same]
      exact ⟨hR, hI⟩
  · have h21 := (hA.2.2 hp).2.2.2.1
    rw [if_neg (fun z => hp z.2.2), if_neg (by omega), same]
    exact ⟨hR, hI⟩
/-- one field of a part that gets -/
theorem g_recv (hV : mV μ) (hR : kRel κ μ O) (hI : kInv κ) {s i : Int} (h1 : 0 ≤ s) (h2 : s ≤ 1) (h3 : 0 ≤ i) (h4 : i < 256) (hp : κ 190 (mj s i) = 1) (hk : ∀ f k, ¬ ((f = 108 ∨ f = 110) ∧ k = mj s i) → κ' f k = κ f k) (hm : ∀ f k, ¬ ((f = 31 ∨ f = 33) ∧ k = mj s i) → μ' f k = μ f k) (e1 : κ' 108 (mj s i) = μ' 31 (mj s i)) (e2 : κ' 110 (mj s i) = μ' 33 (mj s i)) : kRel κ' μ' O ∧ kInv κ' := by
  have hB := hR.B h1 h2 h3 h4
  refine ⟨Rel_B hV hR h1 h2 h3 h4 (fun f k z => hk f k (by omega)) (fun f k y z => hm f k (by omega)) ?_, Inv_cg hI (fun f k z => hk _ _ (by omega)) (fun k z => hk _ _ (by omega))⟩
  refine rB_f hB hp (fun f a => hk _ _ (by omega)) (fun f k a => hk _ _ (by omega)) (fun f a => hm _ _ (by omega)) (mX_cg (fun f hf k => by
    simp only [List.elem_eq_mem, decide_eq_true_eq, List.mem_cons, List.not_mem_nil, or_false] at hf
    exact hm f k (by omega))) ?_
  obtain ⟨t1, t2, t3, t4, t5, t6, t7, t8, t9, t10, t11, t12⟩ := (hB.2.1 hp).1
  unfold rB1
  rw [e1, e2, hk 100 _ (by omega), hk 102 _ (by omega), hk 103 _ (by omega), hk 104 _ (by omega), hk 105 _ (by omega), hk 106 _ (by omega), hk 107 _ (by omega), hk 109 _ (by omega), hk 111 _ (by omega), hk 112 _ (by omega), hk 113 _ (by omega), hm 25 _ (by omega), hm 26 _ (by omega), hm 27 _ (by omega), hm 28 _ (by omega), hm 29 _ (by omega), hm 30 _ (by omega), hm 32 _ (by omega), hm 34 _ (by omega), hm 35 _ (by omega), hm 6 _ (by omega)]
  exact ⟨t1, t2, t3, t4, t5, rfl, t7, rfl, t9, t10, t11, t12⟩
/-- one number of a side -/
theorem g_side (hV : mV μ) (hR : kRel κ μ O) (hI : kInv κ) {s : Int} (h1 : 0 ≤ s) (h2 : s ≤ 1) (hk : ∀ f k, ¬ ((f = 315 ∨ f = 311) ∧ k = s.toNat) → ¬ ((f = 405 ∨ f = 403) ∧ (k = 2 * s.toNat ∨ k = 2 * s.toNat + 1)) → κ' f k = κ f k) (hm : ∀ f k, ¬ (f = 12 ∧ k = s.toNat) → ¬ (f = 14 ∧ 3 * s.toNat ≤ k ∧ k ≤ 3 * s.toNat + 2) → ¬ (f = 13 ∧ (k = 2 * s.toNat ∨ k = 2 * s.toNat + 1)) → μ' f k = μ f k)
    (e1 : κ' 315 s.toNat = μ' 12 s.toNat) (e2 : κ' 311 s.toNat = μ' 14 (3 * s).toNat) (e3 : ∀ w : Int, 0 ≤ w → w ≤ 1 → κ' 405 (2 * s + w).toNat = μ' 13 (2 * s + w).toNat ∧ κ' 403 (2 * s + w).toNat = μ' 14 (3 * s + 1 + w).toNat) : kRel κ' μ' O ∧ kInv κ' := by
  refine ⟨Rel_S hV hR h1 h2 (fun f k x y z => hk f k (by omega) (by omega)) (fun f k x y z w => hm f k (by omega) (by omega) (by omega)) (by rw [hk _ _ (by omega) (by omega)]; exact Int.le_refl _) ?_ ?_, Inv_cg hI (fun f k z => hk _ _ (by omega) (by omega)) (fun k z => hk _ _ (by omega) (by omega))⟩
  · obtain ⟨q1, q2, q3, q4, q5, q6, q7, q8, q9, q10, q11, q12, q13, q14, q15⟩ := hR.S h1 h2
    have hrc : v_received μ' s = v_received μ s := v_received_cg (fun f hf k => by
      simp only [List.elem_eq_mem, decide_eq_true_eq, List.mem_cons, List.not_mem_nil, or_false] at hf
      exact hm f k (by omega) (by omega) (by omega))
    have hcc : v_consumed μ' s = v_consumed μ s := v_consumed_cg (fun f hf k => by
      simp only [List.elem_eq_mem, decide_eq_true_eq, List.mem_cons, List.not_mem_nil, or_false] at hf
      exact hm f k (by omega) (by omega) (by omega))
    have hall : mAll μ' s (mTot μ' s) = mAll μ s (mTot μ s) := by
      rw [mTot_cg (μ' := μ) (fun k => hm _ _ (by omega) (by omega) (by omega))]
      exact mAll_cgr _ (fun q _ => hm _ _ (by omega) (by omega) (by omega))
    unfold rS
    rw [hrc, hcc, hall, e1, e2, hk 308 _ (by omega) (by omega), hk 309 _ (by omega) (by omega), hk 310 _ (by omega) (by omega), hk 312 _ (by omega) (by omega), hk 313 _ (by omega) (by omega), hk 314 _ (by omega) (by omega), hk 307 _ (by omega) (by omega), hk 306 _ (by omega) (by omega), hm 36 _ (by omega) (by omega) (by omega), hm 7 _ (by omega) (by omega) (by omega), hm 11 _ (by omega) (by omega) (by omega), hm 16 _ (by omega) (by omega) (by omega), hm 1 _ (by omega) (by omega) (by omega)]
    refine ⟨q1, q2, q3, rfl, q5, q6, q7, rfl, q9, fun x x1 x2 => ?_, fun y x x1 x2 => ?_, q12, q13, q14, fun y => ⟨(q15 y).1, fun x x1 x2 => ?_⟩⟩
    · rw [hk 360 _ (by omega) (by omega), hm 6 _ (by omega) (by omega) (by omega)]; exact q10 x x1 x2
    · rw [hk 361 _ (by omega) (by omega), hm 6 _ (by omega) (by omega) (by omega)]; exact q11 y x x1 x2
    · rw [hm 17 _ (by omega) (by omega) (by omega)]; exact (q15 y).2 x x1 x2
  · intro w w0 w1
    obtain ⟨q1, q2, q3, q4, q5, q6, q7, q8, q9, q10, q11, q12⟩ := hR.W h1 h2 w0 w1
    obtain ⟨f1, f2⟩ := e3 w w0 w1
    unfold rW
    rw [f1, f2, hk 400 _ (by omega) (by omega), hk 401 _ (by omega) (by omega), hk 402 _ (by omega) (by omega), hk 404 _ (by omega) (by omega), hk 360 _ (by omega) (by omega), hm 8 _ (by omega) (by omega) (by omega), hm 9 _ (by omega) (by omega) (by omega), hm 10 _ (by omega) (by omega) (by omega), hm 15 _ (by omega) (by omega) (by omega), hm 7 _ (by omega) (by omega) (by omega), hm 6 _ (by omega) (by omega) (by omega), hm 1 _ (by omega) (by omega) (by omega)]
    exact ⟨q1, q2, rfl, q4, rfl, q6, q7, q8, q9, q10, q11, q12⟩
/-- one field of a part that sends -/
theorem g_send (hV : mV μ) (hR : kRel κ μ O) (hI : kInv κ) {s i : Int} (h1 : 0 ≤ s) (h2 : s ≤ 1) (h3 : 0 ≤ i) (h4 : i < 256) (hp : κ 290 (mj s i) = 1) (hk : ∀ f k, ¬ (f = 209 ∧ k = mj s i) → κ' f k = κ f k) (hm : ∀ f k, ¬ (f = 24 ∧ k = mj s i) → μ' f k = μ f k) (e1 : κ' 209 (mj s i) = μ' 24 (mj s i)) : kRel κ' μ' O ∧ kInv κ' := by
  have hA := hR.A h1 h2 h3 h4
  obtain ⟨y1, y2, y3, y4, y5, y6, y7⟩ := (hA.2.1 hp).1
  refine ⟨Rel_A hV hR h1 h2 h3 h4 (fun f k z => hk f k (by omega)) (fun f k z y => hm f k (by omega)) (by rw [hk _ _ (by omega)]; exact Int.le_refl _) (fun z => by rw [hm _ _ (by omega)]; exact z) ?_, Inv_cg hI (fun f k z => hk _ _ (by omega)) (fun k z => hk _ _ (by omega))⟩
  refine rA_f hA hp (fun f a => hk _ _ (by omega)) (fun f k a => hk _ _ (by omega)) (hm _ _ (by omega)) (fun f a b k => hm _ _ (by omega)) ?_
  have hw : mW μ' s i = mW μ s i := mW_cg (fun f hf k => hm f k (by
    simp only [List.elem_eq_mem, decide_eq_true_eq, List.mem_cons, List.not_mem_nil, or_false] at hf
    omega)) s i
  unfold rA1
  rw [hw, e1, hk 200 _ (by omega), hk 203 _ (by omega), hk 206 _ (by omega), hk 207 _ (by omega), hk 208 _ (by omega), hk 210 _ (by omega), hk 211 _ (by omega), hm 18 _ (by omega), hm 19 _ (by omega), hm 20 _ (by omega), hm 21 _ (by omega), hm 22 _ (by omega), hm 23 _ (by omega)]
  exact ⟨y1, y2, y3, rfl, y5, y6, y7⟩
end R28
