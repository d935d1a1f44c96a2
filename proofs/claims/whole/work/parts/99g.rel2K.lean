section R38
variable {κ μ κ' μ' κ1 μ1 κc μc : Nat → Nat → Int} {O O' : Nat → Nat}
set_option maxHeartbeats 4000000 in
theorem R_takeReset (hV : mV μ) (hK : kQ κ) (hR : kRel κ μ O) (hI : kInv κ) (hj : μ 1 0 = 1) {s p : Int} (h1 : 0 ≤ s) (h2 : s ≤ 1) (hT : fT κ μ O p) (h45 : μ 45 0 = 4) : v_takeReset μ s = v_takeForReceiving κ s p ∧ ∃ O', kRel (s_takeForReceiving κ s p) (s_takeReset μ s) O' ∧ kInv (s_takeForReceiving κ s p) := by
  have hT' := hT
  obtain ⟨a1, a2, a3, a4, a5, a6, a7, a8⟩ := hT
  have v46 : 0 ≤ μ 46 0 := (hV 46 0).1
  have v48 : 0 ≤ μ 48 0 := (hV 48 0).1
  obtain ⟨me, m0⟩ := meant_e hV hR (g := 0) h1 h2 v46 (Or.inl rfl)
  have mb := v_meant_b μ s (μ 46 0) 0
  have n21 : ¬ κ 3 p.toNat = 21 := by omega
  have n4 : κ 3 p.toNat = 4 := by omega
  have eVk : v_takeForReceiving κ s p = if v_streamError κ s (μ 46 0) 0 = 0 then (if v_bytesError κ s (μ 46 0) (μ 48 0) 1 = 0 then 0 else v_bytesError κ s (μ 46 0) (μ 48 0) 1) else v_streamError κ s (μ 46 0) 0 := by
    unfold v_takeForReceiving
    simp only [a2, a4, if_neg n21, if_pos n4, ite_self]
  have eSk : s_takeForReceiving κ s p = if v_streamError κ s (μ 46 0) 0 = 0 then (if v_bytesError κ s (μ 46 0) (μ 48 0) 1 = 0 then (if s_makeThere κ s (μ 46 0) 190 (mj s (μ 46 0)) = 1 then s_reach (s_makeThere κ s (μ 46 0)) s (μ 46 0) p (μ 48 0) 1 else s_makeThere κ s (μ 46 0)) else κ) else κ := by
    unfold s_takeForReceiving
    simp only [a2, a4, if_neg n21, if_pos n4]
  have eVm : v_takeReset μ s = if v_meant μ s (μ 46 0) 0 ≤ 0 then (if v_reaches μ s (μ 46 0) (μ 48 0) 1 ≤ 0 then 0 else v_reaches μ s (μ 46 0) (μ 48 0) 1) else v_meant μ s (μ 46 0) 0 := by
    unfold v_takeReset
    simp only [ite_self]
  have eSm : s_takeReset μ s = if v_meant μ s (μ 46 0) 0 ≤ 0 then (if v_reaches μ s (μ 46 0) (μ 48 0) 1 ≤ 0 then (if v_receiving μ s (μ 46 0) ≤ 1 then (s_looksOver (s_growData (u2 (u2 (u2 (u2 (s_comesThere μ s (μ 46 0)) 25 (mj s (μ 46 0)) (μ 48 0)) 26 (mj s (μ 46 0)) (μ 48 0)) 28 (mj s (μ 46 0)) 1) 29 (mj s (μ 46 0)) (μ 47 0)) s) s (μ 46 0)) else (u2 (u2 (s_comesThere μ s (μ 46 0)) 25 (mj s (μ 46 0)) (μ 48 0)) 26 (mj s (μ 46 0)) (μ 48 0))) else μ) else μ := rfl
  rw [eVk, eSk, eVm, eSm, me]
  by_cases z : v_streamError κ s (μ 46 0) 0 = 0
  · obtain ⟨i4, hown, hrc, _⟩ := m0 z
    have re := reaches_e (e := μ 48 0) (g := 1) hV hR h1 h2 v46 i4 v48 (Or.inr rfl) (hrc rfl)
    have rbd := v_reaches_b μ s (μ 46 0) (μ 48 0) 1
    simp only [if_pos z, if_pos (show v_streamError κ s (μ 46 0) 0 ≤ 0 by omega), ← re]
    by_cases y : v_reaches μ s (μ 46 0) (μ 48 0) 1 = 0
    · obtain ⟨w1, w2, w3, w4⟩ := reaches_1 hV (Or.inr rfl) y
      simp only [if_pos y, if_pos (show v_reaches μ s (μ 46 0) (μ 48 0) 1 ≤ 0 by omega)]
      refine ⟨trivial, ?_⟩
      obtain ⟨O', b1, b2', b3, b4, b5, b6⟩ := there_B hV hR hI hK h1 h2 v46 i4 hj hown hT'
      have hp : s_makeThere κ s (μ 46 0) 190 (mj s (μ 46 0)) = 1 := (b1.B h1 h2 v46 i4).1.mpr ⟨b5, hrc rfl⟩
      rw [if_pos hp]
      have c25 : ∀ f k, f ≠ 9 ∧ f ≠ 17 ∧ f ≠ 18 ∧ f ≠ 30 → s_comesThere μ s (μ 46 0) f k = μ f k := fun f k h => comesThere_o f k h
      have q5 := (hR.S h1 h2).2.2.2.2.1
      have q7 := (hR.S h1 h2).2.2.2.2.2.2.1
      have q13 := (hR.S h1 h2).2.2.2.2.2.2.2.2.2.2.2.2.1
      have tr := take_reset (p := p) (e := μ 48 0) b4 b3 b1 b2' h1 h2 v46 i4 hp (by rw [makeThere_o _ _ (by omega)]; exact n4) (by rw [makeThere_o _ _ (by omega), c25 47 _ (by decide)]; exact a3) v48 (by rw [c25 26 _ (by decide)]; exact fun q => (w4 q).2 rfl) (by rw [c25 25 _ (by decide)]; exact w3 rfl) w1 (by
        rw [c25 25 _ (by decide), c25 11 _ (by decide), rec_c]
        have := w3 rfl
        by_cases q : μ 25 (mj s (μ 46 0)) < μ 48 0
        · exact w2 q
        · omega)
      rw [recv_c, c25 47 _ (by decide)] at tr
      exact tr
    · simp only [if_neg y, if_neg (show ¬ v_reaches μ s (μ 46 0) (μ 48 0) 1 ≤ 0 by omega)]
      exact ⟨trivial, O, hR, hI⟩
  · simp only [if_neg z, if_neg (show ¬ v_streamError κ s (μ 46 0) 0 ≤ 0 by omega)]
    exact ⟨trivial, O, hR, hI⟩
/-- a stream's limit -/
theorem R_lim (hV : mV μ) (hR : kRel κ μ O) (hI : kInv κ) {s i v : Int} (h1 : 0 ≤ s) (h2 : s ≤ 1) (h3 : 0 ≤ i) (h4 : i < 256) (hp : κ 290 (mj s i) = 1) : kRel (u2 κ 208 (mj s i) v) (u2 μ 18 (mj s i) v) O ∧ kInv (u2 κ 208 (mj s i) v) := by
  have hA := hR.A h1 h2 h3 h4
  obtain ⟨y1, y2, y3, y4, y5, y6, y7⟩ := (hA.2.1 hp).1
  refine ⟨Rel_A hV hR h1 h2 h3 h4 (fun f k z => u2_n (by omega)) (fun f k z y => u2_n (by omega)) (by rw [u2_n (by omega)]; exact Int.le_refl _) (fun z => by rw [u2_n (by omega)]; exact z) ?_, Inv_cg hI (fun f k z => u2_n (by omega)) (fun k z => u2_n (by omega))⟩
  refine rA_f hA hp (fun f a => u2_n (by omega)) (fun f k a => u2_n (by omega)) (u2_n (by omega)) (fun f a b k => u2_n (by omega)) ?_
  have hw : mW (u2 μ 18 (mj s i) v) s i = mW μ s i := mW_cg (fun f hf k => u2_n (by
    simp only [List.elem_eq_mem, decide_eq_true_eq, List.mem_cons, List.not_mem_nil, or_false] at hf
    omega)) s i
  unfold rA1
  rw [hw]
  simp (disch := omega) only [u2_f, u2_s]
  exact ⟨y1, y2, trivial, y4, y5, y6, y7⟩
set_option maxHeartbeats 4000000 in
theorem R_takeOther (hV : mV μ) (hK : kQ κ) (hR : kRel κ μ O) (hI : kInv κ) (hj : μ 1 0 = 1) {s p : Int} (h1 : 0 ≤ s) (h2 : s ≤ 1) (hT : fT κ μ O p) (h45 : μ 45 0 = 5 ∨ μ 45 0 = 17 ∨ μ 45 0 = 21) : v_takeOther μ s = (if μ 45 0 = 21 then v_takeForReceiving κ s p else v_takeForSending κ s p) ∧ ∃ O', kRel (if μ 45 0 = 21 then s_takeForReceiving κ s p else s_takeForSending κ s p) (s_takeOther μ s) O' ∧ kInv (if μ 45 0 = 21 then s_takeForReceiving κ s p else s_takeForSending κ s p) := by
  have hT' := hT
  obtain ⟨a1, a2, a3, a4, a5, a6, a7, a8⟩ := hT
  have v46 : 0 ≤ μ 46 0 := (hV 46 0).1
  have v47 : 0 ≤ μ 47 0 := (hV 47 0).1
  by_cases c21 : μ 45 0 = 21
  · obtain ⟨me, m0⟩ := meant_e hV hR (g := 0) h1 h2 v46 (Or.inl rfl)
    have mb := v_meant_b μ s (μ 46 0) 0
    have k21 : κ 3 p.toNat = 21 := by omega
    unfold v_takeOther s_takeOther v_takeForReceiving s_takeForReceiving
    simp only [if_pos c21, if_pos k21, a2, me]
    by_cases z : v_streamError κ s (μ 46 0) 0 = 0
    · obtain ⟨i4, hown, hrc, _⟩ := m0 z
      simp only [if_pos z, if_pos (show v_streamError κ s (μ 46 0) 0 ≤ 0 by omega)]
      obtain ⟨O', b1, b2', b3, b4, b5, b6⟩ := there_B hV hR hI hK h1 h2 v46 i4 hj hown hT'
      exact ⟨trivial, O', b1, b2'⟩
    · simp only [if_neg z, if_neg (show ¬ v_streamError κ s (μ 46 0) 0 ≤ 0 by omega)]
      exact ⟨trivial, O, hR, hI⟩
  · obtain ⟨me, m0⟩ := meant_e hV hR (g := 1) h1 h2 v46 (Or.inr rfl)
    have mb := v_meant_b μ s (μ 46 0) 1
    have k21 : ¬ κ 3 p.toNat = 21 := by omega
    unfold v_takeOther s_takeOther v_takeForSending s_takeForSending
    simp only [if_neg c21, a2, me, ite_self]
    by_cases z : v_streamError κ s (μ 46 0) 1 = 0
    · obtain ⟨i4, hown, _, hsn⟩ := m0 z
      simp only [if_pos z, if_pos (show v_streamError κ s (μ 46 0) 1 ≤ 0 by omega)]
      refine ⟨trivial, ?_⟩
      obtain ⟨O', b1, b2', b3, b4, b5, b6⟩ := there_B hV hR hI hK h1 h2 v46 i4 hj hown hT'
      have hA := b1.A h1 h2 v46 i4
      have hp : s_makeThere κ s (μ 46 0) 290 (mj s (μ 46 0)) = 1 := hA.1.mpr ⟨b5, hsn rfl⟩
      have hsd := rA_send b4 (b3 _).1 h1 hA hp
      have hsc : mSend (s_comesThere μ s (μ 46 0)) s (μ 46 0) = mSend μ s (μ 46 0) := mSend_cg (fun f hf k => by
        simp only [List.elem_eq_mem, decide_eq_true_eq, List.mem_cons, List.not_mem_nil, or_false] at hf
        exact comesThere_o f k (by omega))
      rw [if_pos hp]
      by_cases c17 : μ 45 0 = 17
      · have k17 : κ 3 p.toNat = 17 := by omega
        rw [if_neg (show ¬ μ 45 0 = 5 by omega), if_pos c17, if_pos k17, a3]
        have e18 : s_makeThere κ s (μ 46 0) 208 (mj s (μ 46 0)) = s_comesThere μ s (μ 46 0) 18 (mj s (μ 46 0)) := (hA.2.1 hp).1.2.2.1
        rw [show v_maxL (s_makeThere κ s (μ 46 0) 208 (mj s (μ 46 0))) (μ 47 0) = (if μ 47 0 < s_comesThere μ s (μ 46 0) 18 (mj s (μ 46 0)) then s_comesThere μ s (μ 46 0) 18 (mj s (μ 46 0)) else μ 47 0) by rw [e18]; unfold v_maxL; split <;> split <;> omega]
        exact ⟨O', R_lim b4 b1 b2' h1 h2 v46 i4 hp⟩
      · have c5 : μ 45 0 = 5 := by omega
        rw [if_pos c5, if_neg (show ¬ κ 3 p.toNat = 17 by omega), a3, ← hsc, hsd]
        rcases sLive_c (s_makeThere κ s (μ 46 0)) s (μ 46 0) with ⟨el, hl⟩ | ⟨el, hl⟩
        · rw [if_neg (show ¬ v_sLive (s_makeThere κ s (μ 46 0)) s (μ 46 0) = 0 by omega), if_neg (show ¬ 2 ≤ s_makeThere κ s (μ 46 0) 200 (mj s (μ 46 0)) by omega)]
          exact ⟨O', Rel_giveUp b4 b1 h1 h2 v46 i4 hp, Inv_giveUp b2' h1 h2 v46 i4 hp hl⟩
        · have hs0 := (hV.snd s (μ 46 0)).1
          rw [← hsc, hsd] at hs0
          rw [if_pos el, if_pos (show 2 ≤ s_makeThere κ s (μ 46 0) 200 (mj s (μ 46 0)) by omega)]
          exact ⟨O', b1, b2'⟩
    · simp only [if_neg z, if_neg (show ¬ v_streamError κ s (μ 46 0) 1 ≤ 0 by omega)]
      exact ⟨trivial, O, hR, hI⟩
/-- limits of a side -/
theorem R_lim7 (hV : mV μ) (hR : kRel κ μ O) (hI : kInv κ) {s v : Int} (h1 : 0 ≤ s) (h2 : s ≤ 1) (hv : μ 7 (3 * s).toNat ≤ v) : kRel (u2 κ 310 s.toNat v) (u2 μ 7 (3 * s).toNat v) O ∧ kInv (u2 κ 310 s.toNat v) := by
  refine ⟨Rel_S hV hR h1 h2 (fun f k x y z => u2_n (by omega)) (fun f k x y z w => u2_n (by omega)) (by rw [u2_n (by omega)]; exact Int.le_refl _) ?_ ?_, Inv_cg hI (fun f k z => u2_n (by omega)) (fun k z => u2_n (by omega))⟩
  · obtain ⟨q1, q2, q3, q4, q5, q6, q7, q8, q9, q10, q11, q12, q13, q14, q15⟩ := hR.S h1 h2
    have hall : mAll (u2 μ 7 (3 * s).toNat v) s (mTot (u2 μ 7 (3 * s).toNat v) s) = mAll μ s (mTot μ s) := by
      rw [mTot_cg (μ' := μ) (fun k => u2_n (by omega))]
      exact mAll_cgr _ (fun q _ => u2_n (by omega))
    unfold rS
    rw [v_received_u (by decide), v_consumed_u (by decide), hall]
    simp (disch := omega) only [u2_f, u2_s]
    exact ⟨q1, q2, trivial, q4, q5, q6, q7, q8, q9, q10, q11, by omega, q13, q14, q15⟩
  · intro w w0 w1
    exact rW_cg h1 h2 w0 w1 (fun f a b => u2_n (by omega)) (u2_n (by omega)) (fun f a => u2_n (by omega)) (u2_n (by omega)) (u2_n (by omega)) (u2_n (by omega)) (u2_n (by omega)) (hR.W h1 h2 w0 w1)
theorem R_limW (hV : mV μ) (hR : kRel κ μ O) (hI : kInv κ) {s w v : Int} (h1 : 0 ≤ s) (h2 : s ≤ 1) (w0 : 0 ≤ w) (w1 : w ≤ 1) (hv : μ 7 (3 * s + 1 + w).toNat ≤ v) (hv2 : v ≤ 64) (hj : μ 1 0 = 1) : kRel (u2 κ 401 (2 * s + w).toNat v) (u2 μ 7 (3 * s + 1 + w).toNat v) O ∧ kInv (u2 κ 401 (2 * s + w).toNat v) := by
  refine ⟨Rel_S hV hR h1 h2 (fun f k x y z => u2_n (by omega)) (fun f k x y z w => u2_n (by omega)) (by rw [u2_n (by omega)]; exact Int.le_refl _) ?_ ?_, Inv_cg hI (fun f k z => u2_n (by omega)) (fun k z => u2_n (by omega))⟩
  · refine rS_cg h1 h2 (fun f x y => u2_n (by omega)) (fun f k x y z => u2_n (by omega)) (fun f x => u2_n (by omega)) (u2_n (by omega)) (u2_n (by omega)) (u2_n (by omega)) (fun k => u2_n (by omega)) (fun j _ _ => u2_n (by omega)) ?_ (v_received_u (by decide)) (v_consumed_u (by decide)) (hR.S h1 h2)
    rw [mTot_cg (μ' := μ) (fun k => u2_n (by omega))]
    exact mAll_cgr _ (fun q _ => u2_n (by omega))
  · intro y y0 y1
    by_cases e : y = w
    · subst e
      obtain ⟨q1, q2, q3, q4, q5, q6, q7, q8, q9, q10, q11, q12⟩ := hR.W h1 h2 y0 y1
      unfold rW
      simp (disch := omega) only [u2_f, u2_s]
      refine ⟨q1, trivial, q3, q4, q5, q6, q7, hv2, by omega, by omega, ?_, fun z => by omega⟩
      by_cases r : v = κ 401 (2 * s + y).toNat
      · rw [r]; exact q11
      · exact ⟨fun z => by omega, fun z => by omega⟩
    · exact rW_cg h1 h2 y0 y1 (fun f a b => u2_n (by omega)) (u2_n (by omega)) (fun f a => u2_n (by omega)) (u2_n (by omega)) (u2_n (by omega)) (u2_n (by omega)) (u2_n (by omega)) (hR.W h1 h2 y0 y1)
set_option maxHeartbeats 4000000 in
theorem R_takes (hV : mV μ) (hK : kQ κ) (hR : kRel κ μ O) (hI : kInv κ) (hP : mP2 μ) (hj : μ 1 0 = 1) {s p : Int} (h1 : 0 ≤ s) (h2 : s ≤ 1) (hT : fT κ μ O p) (h45 : μ 45 0 = 4 ∨ μ 45 0 = 5 ∨ μ 45 0 = 8 ∨ (16 ≤ μ 45 0 ∧ μ 45 0 ≤ 23)) : v_takes μ s = v_takeIn κ s p ∧ ∃ O', kRel (s_takeIn κ s p) (s_takes μ s) O' ∧ kInv (s_takeIn κ s p) := by
  have a1 := hT.1
  have a2 := hT.2.1
  have v46 : 0 ≤ μ 46 0 := (hV 46 0).1
  obtain ⟨q1, q2, q3, _⟩ := hR.S h1 h2
  unfold v_takes s_takes v_takeIn s_takeIn
  rw [a1, a2]
  rcases (show μ 45 0 = 4 ∨ μ 45 0 = 5 ∨ μ 45 0 = 8 ∨ μ 45 0 = 16 ∨ μ 45 0 = 17 ∨ μ 45 0 = 18 ∨ μ 45 0 = 19 ∨ μ 45 0 = 20 ∨ μ 45 0 = 21 ∨ μ 45 0 = 22 ∨ μ 45 0 = 23 by omega) with c | c | c | c | c | c | c | c | c | c | c
  · simp only [c, Int.reduceEq, if_false, if_true]
    exact R_takeReset hV hK hR hI hj h1 h2 hT c
  · simp only [c, Int.reduceEq, if_false, if_true]
    have := R_takeOther hV hK hR hI hj h1 h2 hT (by omega)
    simp only [c, Int.reduceEq, if_false] at this
    exact this
  · simp only [c, Int.reduceEq, if_false, if_true]
    exact R_takeStream hV hK hR hI hP hj h1 h2 hT c
  · simp only [c, Int.reduceEq, if_false, if_true]
    refine ⟨trivial, O, ?_⟩
    rw [q3, show v_maxL (μ 7 (3 * s).toNat) (μ 46 0) = (if μ 46 0 < μ 7 (3 * s).toNat then μ 7 (3 * s).toNat else μ 46 0) by unfold v_maxL; split <;> split <;> omega]
    exact R_lim7 hV hR hI h1 h2 (by split <;> omega)
  · simp only [c, Int.reduceEq, if_false, if_true]
    have := R_takeOther hV hK hR hI hj h1 h2 hT (by omega)
    simp only [c, Int.reduceEq, if_false] at this
    exact this
  · simp only [c, Int.reduceEq, if_false, if_true, ite_self]
    refine ⟨trivial, O, ?_⟩
    obtain ⟨w1, w2, _, _, _, _, _, w8, _⟩ := hR.W (w := 0) h1 h2 (by omega) (by omega)
    unfold s_raiseLimit
    rw [show 2 * s + (18 - 18) = 2 * s + 0 by omega, w2, show (3 * s + 18 - 17).toNat = (3 * s + 1 + 0).toNat by omega]
    have e : (if 64 ≤ μ 46 0 then u2 μ 7 (3 * s + 1 + 0).toNat (if 64 < μ 7 (3 * s + 1 + 0).toNat then μ 7 (3 * s + 1 + 0).toNat else 64) else u2 μ 7 (3 * s + 1 + 0).toNat (if μ 46 0 < μ 7 (3 * s + 1 + 0).toNat then μ 7 (3 * s + 1 + 0).toNat else μ 46 0)) = u2 μ 7 (3 * s + 1 + 0).toNat (v_minL 64 (v_maxL (μ 7 (3 * s + 1 + 0).toNat) (μ 46 0))) := by
      unfold v_minL v_maxL
      split
      · congr 1
        repeat' split
        all_goals omega
      · congr 1
        repeat' split
        all_goals omega
    rw [e]
    exact R_limW hV hR hI h1 h2 (by omega) (by omega) (by unfold v_minL v_maxL; repeat' split; all_goals omega) (by unfold v_minL v_maxL; repeat' split; all_goals omega) hj
  · simp only [c, Int.reduceEq, if_false, if_true, ite_self]
    refine ⟨trivial, O, ?_⟩
    obtain ⟨w1, w2, _, _, _, _, _, w8, _⟩ := hR.W (w := 1) h1 h2 (by omega) (by omega)
    unfold s_raiseLimit
    rw [show 2 * s + (19 - 18) = 2 * s + 1 by omega, w2, show (3 * s + 19 - 17).toNat = (3 * s + 1 + 1).toNat by omega]
    have e : (if 64 ≤ μ 46 0 then u2 μ 7 (3 * s + 1 + 1).toNat (if 64 < μ 7 (3 * s + 1 + 1).toNat then μ 7 (3 * s + 1 + 1).toNat else 64) else u2 μ 7 (3 * s + 1 + 1).toNat (if μ 46 0 < μ 7 (3 * s + 1 + 1).toNat then μ 7 (3 * s + 1 + 1).toNat else μ 46 0)) = u2 μ 7 (3 * s + 1 + 1).toNat (v_minL 64 (v_maxL (μ 7 (3 * s + 1 + 1).toNat) (μ 46 0))) := by
      unfold v_minL v_maxL
      split
      · congr 1
        repeat' split
        all_goals omega
      · congr 1
        repeat' split
        all_goals omega
    rw [e]
    exact R_limW hV hR hI h1 h2 (by omega) (by omega) (by unfold v_minL v_maxL; repeat' split; all_goals omega) (by unfold v_minL v_maxL; repeat' split; all_goals omega) hj
  · simp only [c, Int.reduceEq, if_false, if_true]
    exact ⟨trivial, O, hR, hI⟩
  · simp only [c, Int.reduceEq, if_false, if_true]
    have := R_takeOther hV hK hR hI hj h1 h2 hT (by omega)
    simp only [c, if_true] at this
    exact this
  · simp only [c, Int.reduceEq, if_false, if_true]
    exact ⟨trivial, O, hR, hI⟩
  · simp only [c, Int.reduceEq, if_false, if_true]
    exact ⟨trivial, O, hR, hI⟩
end R38
