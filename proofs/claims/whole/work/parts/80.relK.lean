section R12
variable {κ μ κ' μ' : Nat → Nat → Int} {O O' : Nat → Nat}
theorem R_join (hV : mV μ) (hK : kV κ) (hR : kRel κ μ O) (hI : kInv κ) : s_join μ 0 0 = kR 1 (e_kJoin κ) ∧ (e_kJoin κ = 0 → kRel (s_kJoin κ) (s_join μ) O ∧ kInv (s_kJoin κ)) ∧ (¬ e_kJoin κ = 0 → kRel κ (s_join μ) O) := by
  have e507 : κ 507 0 = μ 1 0 := hR.1.2.2.1
  by_cases j : μ 1 0 = 0
  · have j' : κ 507 0 = 0 := by omega
    have eE : e_kJoin κ = 0 := if_pos j'
    have eK : s_kJoin κ = u2 (s_learnLimits (s_learnLimits κ 0 1) 1 0) 507 0 1 := if_pos j'
    have eS : s_join μ = (u2 (u2 (u2 (u2 (u2 (u2 (u2 (u2 μ 0 0 0) 1 0 1) 7 0 (μ 6 20)) 7 1 (μ 6 24)) 7 2 (μ 6 25)) 7 3 (μ 6 4)) 7 4 (μ 6 8)) 7 5 (μ 6 9)) := by
      unfold s_join
      rw [if_pos j, if_pos j]
    have n361 : ∀ s x : Int, 0 ≤ s → s ≤ 1 → 0 ≤ x → x ≤ 9 → s_kJoin κ 361 (16 * s + x).toNat = κ 360 (16 * (1 - s) + x).toNat := by
      intro s x s1 s2 x1 x2
      rw [eK]
      unfold s_learnLimits kcp
      simp (disch := omega) only [u2_f, uf_s, uf_f]
      rcases (show s = 0 ∨ s = 1 by omega) with rfl | rfl
      · rw [if_neg (by omega), if_pos (by omega), show 16 * Int.toNat 1 + ((16 * (0 : Int) + x).toNat - 16 * Int.toNat 0) = (16 * (1 - (0 : Int)) + x).toNat by omega]
      · rw [if_pos (by omega), show 16 * Int.toNat 0 + ((16 * (1 : Int) + x).toNat - 16 * Int.toNat 1) = (16 * (1 - (1 : Int)) + x).toNat by omega]
    have n310 : ∀ s : Int, 0 ≤ s → s ≤ 1 → s_kJoin κ 310 s.toNat = κ 360 (16 * (1 - s) + 4).toNat := by
      intro s s1 s2
      rw [eK]
      unfold s_learnLimits kcp
      rcases (show s = 0 ∨ s = 1 by omega) with rfl | rfl
      · simp (disch := omega) only [u2_f, u2_n, u2_s, uf_s, uf_f]
        rw [if_pos (by omega)]
        rfl
      · simp (disch := omega) only [u2_f, u2_n, u2_s, uf_s, uf_f]
        rw [if_pos (by omega)]
        rfl
    have n401 : ∀ s w : Int, 0 ≤ s → s ≤ 1 → 0 ≤ w → w ≤ 1 → s_kJoin κ 401 (2 * s + w).toNat = κ 360 (16 * (1 - s) + (8 + w)).toNat := by
      intro s w s1 s2 w1 w2
      rw [eK]
      unfold s_learnLimits kcp
      rcases (show s = 0 ∨ s = 1 by omega) with rfl | rfl
      · rcases (show w = 0 ∨ w = 1 by omega) with rfl | rfl
        · simp (disch := omega) only [u2_f, u2_n, u2_s, uf_s, uf_f]
          rw [if_pos (by omega)]
          rfl
        · simp (disch := omega) only [u2_f, u2_n, u2_s, uf_s, uf_f]
          rw [if_pos (by omega)]
          rfl
      · rcases (show w = 0 ∨ w = 1 by omega) with rfl | rfl
        · simp (disch := omega) only [u2_f, u2_n, u2_s, uf_s, uf_f]
          rw [if_pos (by omega)]
          rfl
        · simp (disch := omega) only [u2_f, u2_n, u2_s, uf_s, uf_f]
          rw [if_pos (by omega)]
          rfl
    have n507 : s_kJoin κ 507 0 = 1 := by rw [eK, u2_s]
    have hko : ∀ f k, ¬ (f = 361 ∨ f = 310 ∨ f = 401 ∨ f = 507) → s_kJoin κ f k = κ f k := fun f k z => s_kJoin_fr (by
      simp only [List.elem_eq_mem, List.mem_cons, List.not_mem_nil, or_false, Bool.not_eq_true', decide_eq_false_iff_not]
      omega)
    have hmo : ∀ f k, ¬ (f = 0 ∨ f = 1 ∨ f = 7) → s_join μ f k = μ f k := fun f k z => s_join_fr (by
      simp only [List.elem_eq_mem, List.mem_cons, List.not_mem_nil, or_false, decide_eq_false_iff_not]
      omega)
    have m1 : s_join μ 1 0 = 1 := by rw [eS]; simp (disch := omega) only [u2_f, u2_s]
    have m7 : ∀ s : Int, 0 ≤ s → s ≤ 1 → s_join μ 7 (3 * s).toNat = μ 6 (16 * (1 - s) + 4).toNat := by
      intro s s1 s2
      rw [eS]
      rcases (show s = 0 ∨ s = 1 by omega) with rfl | rfl
      · simp (disch := omega) only [u2_f, u2_n, u2_s]; rfl
      · simp (disch := omega) only [u2_f, u2_n, u2_s]; rfl
    have m7w : ∀ s w : Int, 0 ≤ s → s ≤ 1 → 0 ≤ w → w ≤ 1 → s_join μ 7 (3 * s + 1 + w).toNat = μ 6 (16 * (1 - s) + 8 + w).toNat := by
      intro s w s1 s2 w1 w2
      rw [eS]
      rcases (show s = 0 ∨ s = 1 by omega) with rfl | rfl
      · rcases (show w = 0 ∨ w = 1 by omega) with rfl | rfl
        · simp (disch := omega) only [u2_f, u2_n, u2_s]; rfl
        · simp (disch := omega) only [u2_f, u2_n, u2_s]; rfl
      · rcases (show w = 0 ∨ w = 1 by omega) with rfl | rfl
        · simp (disch := omega) only [u2_f, u2_n, u2_s]; rfl
        · exact u2_s _ _ _ _
    rw [eE]
    refine ⟨by rw [eS]; simp (disch := omega) only [u2_f, u2_s]; rfl, fun _ => ⟨?_, ?_⟩, fun z => absurd rfl z⟩
    · refine Rel_G hV hR j (fun f k z => hko f k (by omega)) (fun f k z => hmo f k (by omega)) (by rw [n507, m1]) (fun s s1 s2 => ?_) (fun s w s1 s2 w1 w2 => ?_)
      · obtain ⟨q1, q2, q3, q4, q5, q6, q7, q8, q9, q10, q11, q12, q13, q14, q15⟩ := hR.S s1 s2
        obtain ⟨_, _, _, _, _, _, _, _, _, p10, _⟩ := hR.S (s := 1 - s) (by omega) (by omega)
        have hrc : v_received (s_join μ) s = v_received μ s := v_received_cg (fun f hf k => by
          simp only [List.elem_eq_mem, decide_eq_true_eq, List.mem_cons, List.not_mem_nil, or_false] at hf
          exact hmo f k (by omega))
        have hcc : v_consumed (s_join μ) s = v_consumed μ s := v_consumed_cg (fun f hf k => by
          simp only [List.elem_eq_mem, decide_eq_true_eq, List.mem_cons, List.not_mem_nil, or_false] at hf
          exact hmo f k (by omega))
        have k360 : 0 ≤ κ 360 (16 * (1 - s) + 4).toNat := (hK.1 360 _).1
        unfold rS
        rw [hko 308 _ (by omega), hko 309 _ (by omega), n310 s s1 s2, hko 311 _ (by omega), hko 312 _ (by omega), hko 313 _ (by omega), hko 314 _ (by omega), hko 315 _ (by omega), hko 307 _ (by omega), hko 306 _ (by omega), hmo 36 _ (by omega), m7 s s1 s2, hmo 14 _ (by omega), hmo 11 _ (by omega), hmo 12 _ (by omega), hmo 16 _ (by omega), m1, hrc, hcc, mTot_cg (fun k => hmo 36 k (by omega)), mAll_cgr (μ := μ) _ (fun q _ => hmo 39 _ (by omega))]
        refine ⟨q1, q2, p10 4 (by omega) (by omega), q4, q5, q6, q7, q8, q9, fun x x1 x2 => ?_, fun _ x x1 x2 => ?_, ?_, q13, q14, fun z => absurd z (by decide)⟩
        · rw [hko 360 _ (by omega), hmo 6 _ (by omega)]; exact q10 x x1 x2
        · rw [n361 s x s1 s2 (by omega) (by omega), hmo 6 _ (by omega)]; exact p10 x x1 x2
        · rw [(q15 j).1]; exact k360
      · obtain ⟨q1, q2, q3, q4, q5, q6, q7, q8, q9, q10, q11, q12⟩ := hR.W s1 s2 w1 w2
        obtain ⟨_, _, _, _, _, p6, p7, _, _, _, _, p12⟩ := hR.W (s := 1 - s) (w := w) (by omega) (by omega) w1 w2
        have k360 : 0 ≤ κ 360 (16 * (1 - s) + (8 + w)).toNat := (hK.1 360 _).1
        obtain ⟨r1, r2, r3, r4⟩ := q12 j
        unfold rW
        rw [hko 400 _ (by omega), n401 s w s1 s2 w1 w2, hko 402 _ (by omega), hko 403 _ (by omega), hko 404 _ (by omega), hko 405 _ (by omega), hko 360 _ (by omega), hmo 8 _ (by omega), m7w s w s1 s2 w1 w2, hmo 14 _ (by omega), hmo 9 _ (by omega), hmo 13 _ (by omega), hmo 15 _ (by omega), hmo 10 _ (by omega), m1, r1, r2]
        refine ⟨q1, ?_, q3, q4, q5, q6, q7, p7, by omega, by omega, by omega, fun z => absurd z (by decide)⟩
        rw [p6, (p12 j).2.2.1]
    · refine Inv_cg hI (fun f k z => hko _ _ (by omega)) (fun k z => hko _ _ (by omega))
  · have j' : ¬ κ 507 0 = 0 := by omega
    have eE : e_kJoin κ = 2 := if_neg j'
    have eS : s_join μ = u2 μ 0 0 1 := by
      unfold s_join
      rw [if_neg j, if_neg j]
    rw [eE, eS]
    exact ⟨by rw [u2_s]; rfl, fun z => absurd z (by decide), fun _ => Rel_u0 hV hR⟩
end R12
