section R11
variable {κ μ κ' μ' : Nat → Nat → Int} {O O' : Nat → Nat}
/-- before the sides are joined nothing is there -/
theorem no_B (hR : kRel κ μ O) (hj : μ 1 0 = 0) {s i : Int} (h1 : 0 ≤ s) (h2 : s ≤ 1) (h3 : 0 ≤ i) (h4 : i < 256) : ¬ κ 190 (mj s i) = 1 := fun z => by
  have a := ((hR.B h1 h2 h3 h4).1.mp z).1
  have b := ((hR.S h1 h2).2.2.2.2.2.2.2.2.2.2.2.2.2.2 hj).2 i h3 h4
  omega
theorem no_rec (hR : kRel κ μ O) (hj : μ 1 0 = 0) {s : Int} (h1 : 0 ≤ s) (h2 : s ≤ 1) : v_received μ s = 0 ∧ v_consumed μ s = 0 := by
  have z0 : ∀ n, mSum (fun _ => 0) n = 0 := by
    intro n
    induction n with
    | zero => rfl
    | succ n ih => rw [mSum, ih]; rfl
  rw [received_s, consumed_s]
  refine ⟨(mSum_cg 256 (fun k hk => ?_)).trans (z0 256), (mSum_cg 256 (fun k hk => ?_)).trans (z0 256)⟩
  · exact ((hR.B h1 h2 (i := (k : Int)) (by omega) (by omega)).2.2 (no_B hR hj h1 h2 (by omega) (by omega))).1
  · obtain ⟨_, _, q3, q4, _⟩ := (hR.B h1 h2 (i := (k : Int)) (by omega) (by omega)).2.2 (no_B hR hj h1 h2 (by omega) (by omega))
    show (if μ 28 (mj s k) = 0 then μ 27 (mj s k) else μ 26 (mj s k)) = 0
    rw [q4, if_pos rfl, q3]
/-- limits alone -/
theorem Rel_G (hV : mV μ) (hR : kRel κ μ O) (hj : μ 1 0 = 0) (hk : ∀ f k, ¬ (f = 360 ∨ f = 361 ∨ f = 310 ∨ f = 314 ∨ f = 401 ∨ f = 507) → κ' f k = κ f k) (hm : ∀ f k, ¬ (f = 0 ∨ f = 1 ∨ f = 6 ∨ f = 7 ∨ f = 10 ∨ f = 11) → μ' f k = μ f k)
    (h507 : κ' 507 0 = μ' 1 0) (hS : ∀ s : Int, 0 ≤ s → s ≤ 1 → rS κ' μ' s) (hW : ∀ s w : Int, 0 ≤ s → s ≤ 1 → 0 ≤ w → w ≤ 1 → rW κ' μ' s w) : kRel κ' μ' O := by
  have e602 : κ' 602 0 = κ 602 0 := hk _ _ (by omega)
  have hX : ∀ t j : Int, mX μ' t j = mX μ t j := fun t j => mX_cg (fun f hf k => by
    simp only [List.elem_eq_mem, decide_eq_true_eq, List.mem_cons, List.not_mem_nil, or_false] at hf
    exact hm f k (by omega))
  refine ⟨?_, ?_, ?_, mHz_cg (fun f k a => hm f k (by omega)) hR.2.2.2⟩
  · obtain ⟨q1, q2, q3, q4, q5, q6, q7, q8⟩ := hR.1
    unfold rH
    rw [hk 505 _ (by omega), hk 506 _ (by omega), hk 600 _ (by omega), hk 601 _ (by omega), hk 600 _ (by omega), hk 601 _ (by omega), e602, hm 3 _ (by omega), hm 5 _ (by omega)]
    refine ⟨q1, q2, h507, fun j hj => ?_, fun j hj => ?_, q6, q7, q8⟩
    · rw [hk 1000 _ (by omega), hm 2 _ (by omega)]; exact q4 j hj
    · rw [hk 1001 _ (by omega), hm 4 _ (by omega)]; exact q5 j hj
  · intro s h1 h2
    obtain ⟨q1, q2, q3⟩ := hR.2.1 s h1 h2
    refine ⟨hS s h1 h2, fun w w0 w1 => hW s w h1 h2 w0 w1, fun i h3 h4 => ?_⟩
    obtain ⟨c1, c2, c3⟩ := q3 i h3 h4
    have hAm := rA_m (μ := μ) (μ' := μ') (s := s) (i := i) (fun f a b k => hm f k (by omega))
    refine ⟨rT_cg (by rw [hk _ _ (by omega)]; exact Int.le_refl _) (hm _ _ (by omega)) (hm _ _ (by omega)) (hm _ _ (by omega)) c1, ?_, ?_⟩
    · exact rA_cg (fun f a => hk _ _ (by omega)) (fun r a b c => ⟨hk _ _ (by omega), hk _ _ (by omega), rfl, fun o => hk _ _ (by omega)⟩) (by omega) (fun f a b => hm _ _ (by omega)) hAm.1 hAm.2 c2
    · exact rB_cg (fun f a => hk _ _ (by omega)) (fun r a b c => ⟨hk _ _ (by omega), hk _ _ (by omega), rfl, fun o => hk _ _ (by omega)⟩) (by omega) (fun f a => hm _ _ (by omega)) (fun z => absurd z (no_B hR hj h1 h2 h3 h4)) (hX s i) c3
  · intro p hp
    exact rF_cg (fun f a => hk _ _ (by omega)) (fun f a b => hm _ _ (by omega)) (fun j a => hm _ _ (by omega)) hV (fun k a => by rw [hk _ _ (by omega)]; exact a) (fun k a => ⟨by rw [hk _ _ (by omega)]; exact a, by rw [hk _ _ (by omega)]; exact Int.le_refl _, fun z => by rw [hm _ _ (by omega)]; exact z⟩) (by omega) (fun r a b c d => ⟨hk _ _ (by omega), hk _ _ (by omega), rfl⟩) (fun a b j c => hk _ _ (by omega)) (hR.2.2.1 p hp)
theorem grown_0 {g : Int} (h : 0 ≤ g) : v_grownGrant 0 g g ≤ g := by
  unfold v_grownGrant v_maxI v_minI
  repeat' split
  all_goals omega
theorem Inv_G (hR : kRel κ μ O) (hj : μ 1 0 = 0) (hk : ∀ f k, ¬ (f = 360 ∨ f = 361 ∨ f = 310 ∨ f = 314 ∨ f = 401 ∨ f = 507) → κ' f k = κ f k) (hD : ∀ s : Int, 0 ≤ s → s ≤ 1 → iD κ' s) : kInv κ' := by
  intro t g1 g2
  refine ⟨hD t g1 g2, fun j g3 g4 => ?_⟩
  have := no_B hR hj g1 g2 g3 g4
  exact ⟨fun z => absurd (by rw [hk _ _ (by omega)] at z; exact z) this, fun z => absurd (by rw [hk _ _ (by omega)] at z; exact z) this⟩
theorem R_grant (hV : mV μ) (hR : kRel κ μ O) (hI : kInv κ) (s i v : Int) : s_grant μ s i v 0 0 = kR 2 (e_kGrant κ s i v) ∧ (e_kGrant κ s i v = 0 → kRel (s_kGrant κ s i v) (s_grant μ s i v) O ∧ kInv (s_kGrant κ s i v)) ∧ (¬ e_kGrant κ s i v = 0 → kRel κ (s_grant μ s i v) O) := by
  have e507 : κ 507 0 = μ 1 0 := hR.1.2.2.1
  have v1 : 0 ≤ μ 1 0 ∧ μ 1 0 ≤ 1 := hV 1 0
  have bad1 : s_grant μ s i v = u2 μ 0 0 1 → e_kGrant κ s i v = 1 → s_grant μ s i v 0 0 = kR 2 (e_kGrant κ s i v) ∧ (e_kGrant κ s i v = 0 → kRel (s_kGrant κ s i v) (s_grant μ s i v) O ∧ kInv (s_kGrant κ s i v)) ∧ (¬ e_kGrant κ s i v = 0 → kRel κ (s_grant μ s i v) O) := fun x y => by
    rw [x, y]
    exact ⟨by rw [u2_s]; rfl, fun z => absurd z (by decide), fun _ => Rel_u0 hV hR⟩
  rcases sideAt_c (κ := κ) s with ⟨e, h1, h2⟩ | ⟨e, h⟩
  · have hns : ¬ (s < 0 ∨ 1 < s) := by omega
    by_cases a : i < 4
    · exact bad1 (by simp only [s_grant, if_neg hns, if_pos a]) (by simp only [e_kGrant, if_pos e, if_pos a])
    · by_cases b : 9 < i
      · exact bad1 (by simp only [s_grant, if_neg hns, if_neg a, if_pos b]) (by simp only [e_kGrant, if_pos e, if_neg a, if_neg (show ¬ i ≤ 9 by omega)])
      · have b' : i ≤ 9 := by omega
        by_cases c : v < 0
        · exact bad1 (by simp only [s_grant, if_neg hns, if_neg a, if_neg b, if_pos c]) (by simp only [e_kGrant, if_pos e, if_neg a, if_pos b', if_pos c])
        · by_cases d : (i ≤ 7 → v ≤ 65536) ∧ (8 ≤ i → v ≤ 64)
          · by_cases j : μ 1 0 = 0
            · have j' : κ 507 0 = 0 := by omega
              have eE : e_kGrant κ s i v = 0 := by
                by_cases f : 8 ≤ i
                · simp only [e_kGrant, if_pos e, if_neg a, if_pos b', if_neg c, if_pos f, if_pos (d.2 f), if_pos j']
                · simp only [e_kGrant, if_pos e, if_neg a, if_pos b', if_neg c, if_neg f, if_pos (d.1 (by omega)), if_pos j']
              have eK : s_kGrant κ s i v = s_setGrant κ s i v := by
                by_cases f : 8 ≤ i
                · simp only [s_kGrant, if_pos e, if_neg a, if_pos b', if_neg c, if_pos f, if_pos (d.2 f), if_pos j']
                · simp only [s_kGrant, if_pos e, if_neg a, if_pos b', if_neg c, if_neg f, if_pos (d.1 (by omega)), if_pos j']
              obtain ⟨zr, zc⟩ := no_rec hR j h1 h2
              -- the reference's next state, field by field
              have hμ : ∀ f k, s_grant μ s i v f k = if f = 0 ∧ k = 0 then 0 else if f = 6 ∧ k = (16 * s + i).toNat then v else if f = 11 ∧ k = s.toNat ∧ i = 4 then v else if f = 10 ∧ k = (2 * s + i - 8).toNat ∧ 8 ≤ i then v else μ f k := by
                intro f k
                unfold s_grant
                rw [if_neg hns, if_neg a, if_neg b, if_neg c]
                by_cases g : i ≤ 7
                · rw [if_pos g, if_pos (d.1 g), if_pos j, if_pos j]
                  by_cases g4 : i = 4
                  · rw [if_pos g4]
                    unfold u2
                    by_cases x : f = 11 ∧ k = s.toNat
                    · rw [if_pos x, if_neg (by omega), if_neg (by omega), if_pos ⟨x.1, x.2, g4⟩]
                    · rw [if_neg x]
                      by_cases y : f = 6 ∧ k = (16 * s + i).toNat
                      · rw [if_pos y, if_neg (by omega), if_pos y]
                      · rw [if_neg y]
                        by_cases z : f = 0 ∧ k = 0
                        · rw [if_pos z, if_pos z]
                        · rw [if_neg z, if_neg z, if_neg z, if_neg y, if_neg (fun q => x ⟨q.1, q.2.1⟩), if_neg (by omega)]
                  · rw [if_neg g4]
                    unfold u2
                    by_cases y : f = 6 ∧ k = (16 * s + i).toNat
                    · rw [if_pos y, if_neg (by omega), if_pos y]
                    · rw [if_neg y]
                      by_cases z : f = 0 ∧ k = 0
                      · rw [if_pos z, if_pos z]
                      · rw [if_neg z, if_neg z, if_neg z, if_neg y, if_neg (fun q => g4 q.2.2), if_neg (by omega)]
                · rw [if_neg g, if_pos (d.2 (by omega)), if_pos j, if_pos j, if_neg (show ¬ i = 4 by omega)]
                  unfold u2
                  by_cases x : f = 10 ∧ k = (2 * s + i - 8).toNat
                  · rw [if_pos x, if_neg (by omega), if_neg (by omega), if_neg (by omega), if_pos ⟨x.1, x.2, by omega⟩]
                  · rw [if_neg x]
                    by_cases y : f = 6 ∧ k = (16 * s + i).toNat
                    · rw [if_pos y, if_neg (by omega), if_pos y]
                    · rw [if_neg y]
                      by_cases z : f = 0 ∧ k = 0
                      · rw [if_pos z, if_pos z]
                      · rw [if_neg z, if_neg z, if_neg z, if_neg y, if_neg (by omega), if_neg (fun q => x ⟨q.1, q.2.1⟩)]
              have hκ : ∀ f k, s_setGrant κ s i v f k = if f = 360 ∧ k = (16 * s + i).toNat then v else if f = 314 ∧ k = s.toNat ∧ i = 4 then v else κ f k := by
                intro f k
                unfold s_setGrant
                by_cases g4 : i = 4
                · rw [if_pos g4]
                  unfold u2
                  by_cases x : f = 314 ∧ k = s.toNat
                  · rw [if_pos x, if_neg (by omega), if_pos ⟨x.1, x.2, g4⟩]
                  · rw [if_neg x]
                    by_cases y : f = 360 ∧ k = (16 * s + i).toNat
                    · rw [if_pos y, if_pos y]
                    · rw [if_neg y, if_neg y, if_neg (fun q => x ⟨q.1, q.2.1⟩)]
                · rw [if_neg g4]
                  unfold u2
                  by_cases y : f = 360 ∧ k = (16 * s + i).toNat
                  · rw [if_pos y, if_pos y]
                  · rw [if_neg y, if_neg y, if_neg (fun q => g4 q.2.2)]
              have hmo : ∀ f k, ¬ (f = 0 ∨ f = 1 ∨ f = 6 ∨ f = 7 ∨ f = 10 ∨ f = 11) → s_grant μ s i v f k = μ f k := fun f k z => by rw [hμ, if_neg (by omega), if_neg (by omega), if_neg (by omega), if_neg (by omega)]
              have hko : ∀ f k, ¬ (f = 360 ∨ f = 361 ∨ f = 310 ∨ f = 314 ∨ f = 401 ∨ f = 507) → s_setGrant κ s i v f k = κ f k := fun f k z => by rw [hκ, if_neg (by omega), if_neg (by omega)]
              have m1 : s_grant μ s i v 1 0 = μ 1 0 := by rw [hμ]; simp
              have m7 : ∀ k, s_grant μ s i v 7 k = μ 7 k := fun k => by rw [hμ]; simp
              have m6 : ∀ k, s_grant μ s i v 6 k = if k = (16 * s + i).toNat then v else μ 6 k := fun k => by rw [hμ]; simp
              have m10 : ∀ k, s_grant μ s i v 10 k = if k = (2 * s + i - 8).toNat ∧ 8 ≤ i then v else μ 10 k := fun k => by rw [hμ]; simp
              have m11 : ∀ k, s_grant μ s i v 11 k = if k = s.toNat ∧ i = 4 then v else μ 11 k := fun k => by rw [hμ]; simp
              have n360 : ∀ k, s_setGrant κ s i v 360 k = if k = (16 * s + i).toNat then v else κ 360 k := fun k => by rw [hκ]; simp
              have n314 : ∀ k, s_setGrant κ s i v 314 k = if k = s.toNat ∧ i = 4 then v else κ 314 k := fun k => by rw [hκ]; simp
              have n310 : ∀ k, s_setGrant κ s i v 310 k = κ 310 k := fun k => by rw [hκ]; simp
              have n401 : ∀ k, s_setGrant κ s i v 401 k = κ 401 k := fun k => by rw [hκ]; simp
              have n507 : ∀ k, s_setGrant κ s i v 507 k = κ 507 k := fun k => by rw [hκ]; simp
              rw [eE, eK]
              have hSS : ∀ t : Int, 0 ≤ t → t ≤ 1 → rS (s_setGrant κ s i v) (s_grant μ s i v) t := by
                intro t t1 t2
                obtain ⟨q1, q2, q3, q4, q5, q6, q7, q8, q9, q10, q11, q12, q13, q14, q15⟩ := hR.S t1 t2
                obtain ⟨yr, yc⟩ := no_rec hR j t1 t2
                have k314 : s_setGrant κ s i v 314 t.toNat = s_grant μ s i v 11 t.toNat := by
                  rw [n314, m11, q7]
                have hrc : v_received (s_grant μ s i v) t = v_received μ t := v_received_cg (fun f hf k => by
                  simp only [List.elem_eq_mem, decide_eq_true_eq, List.mem_cons, List.not_mem_nil, or_false] at hf
                  exact hmo f k (by omega))
                have hcc : v_consumed (s_grant μ s i v) t = v_consumed μ t := v_consumed_cg (fun f hf k => by
                  simp only [List.elem_eq_mem, decide_eq_true_eq, List.mem_cons, List.not_mem_nil, or_false] at hf
                  exact hmo f k (by omega))
                unfold rS
                rw [hko 308 _ (by omega), hko 309 _ (by omega), n310, hko 311 _ (by omega), hko 312 _ (by omega), hko 313 _ (by omega), k314, hko 315 _ (by omega), hko 307 _ (by omega), hko 306 _ (by omega), hmo 36 _ (by omega), m7, hmo 14 _ (by omega), hmo 12 _ (by omega), hmo 16 _ (by omega), m1, hrc, hcc, mTot_cg (fun k => hmo 36 k (by omega)), mAll_cgr (μ := μ) _ (fun q _ => hmo 39 _ (by omega))]
                refine ⟨q1, q2, q3, q4, q5, q6, rfl, q8, q9, fun x x1 x2 => ?_, fun z => by omega, q12, ?_, q14, fun _ => ⟨(q15 j).1, fun y y1 y2 => ?_⟩⟩
                · rw [n360, m6, q10 x x1 x2]
                · rw [q5, yr, m11]
                  split
                  · omega
                  · exact (hV 11 t.toNat).1
                · rw [hmo 17 _ (by omega)]; exact (q15 j).2 y y1 y2
              have hWW : ∀ t w : Int, 0 ≤ t → t ≤ 1 → 0 ≤ w → w ≤ 1 → rW (s_setGrant κ s i v) (s_grant μ s i v) t w := by
                intro t w t1 t2 w1 w2
                obtain ⟨q1, q2, q3, q4, q5, q6, q7, q8, q9, q10, q11, q12⟩ := hR.W t1 t2 w1 w2
                have k401 : s_setGrant κ s i v 401 (2 * t + w).toNat = κ 401 (2 * t + w).toNat := n401 _
                have hcond : (16 * t + (8 + w)).toNat = (16 * s + i).toNat ↔ ((2 * t + w).toNat = (2 * s + i - 8).toNat ∧ 8 ≤ i) := by omega
                have k360 : s_setGrant κ s i v 360 (16 * t + (8 + w)).toNat = s_grant μ s i v 10 (2 * t + w).toNat := by
                  rw [n360, m10, q6]
                  by_cases z : (16 * t + (8 + w)).toNat = (16 * s + i).toNat
                  · rw [if_pos z, if_pos (hcond.mp z)]
                  · rw [if_neg z, if_neg (fun y => z (hcond.mpr y))]
                have k6 : s_grant μ s i v 6 (16 * t + 8 + w).toNat = s_grant μ s i v 10 (2 * t + w).toNat := by
                  rw [m6, m10, (q12 j).2.2.1, show (16 * t + 8 + w).toNat = (16 * t + (8 + w)).toNat by omega]
                  by_cases z : (16 * t + (8 + w)).toNat = (16 * s + i).toNat
                  · rw [if_pos z, if_pos (hcond.mp z)]
                  · rw [if_neg z, if_neg (fun y => z (hcond.mpr y))]
                have kle : s_setGrant κ s i v 360 (16 * t + (8 + w)).toNat ≤ 64 := by
                  rw [n360]
                  split
                  · rename_i z; exact d.2 (hcond.mp z).2
                  · exact q7
                unfold rW
                rw [hko 400 _ (by omega), k401, hko 402 _ (by omega), hko 403 _ (by omega), hko 404 _ (by omega), hko 405 _ (by omega), hmo 8 _ (by omega), m7, hmo 14 _ (by omega), hmo 9 _ (by omega), hmo 13 _ (by omega), hmo 15 _ (by omega), m1, k6]
                exact ⟨q1, q2, q3, q4, q5, k360, kle, q8, q9, q10, q11, fun z => ⟨(q12 z).1, (q12 z).2.1, rfl, (q12 z).2.2.2⟩⟩
              refine ⟨by rw [hμ, if_pos ⟨rfl, rfl⟩]; rfl, fun _ => ⟨?_, ?_⟩, fun z => absurd rfl z⟩
              · refine Rel_G hV hR j hko hmo (by rw [m1, n507]; exact e507) hSS hWW
              · refine Inv_G hR j hko (fun t t1 t2 => ?_)
                obtain ⟨yr, yc⟩ := no_rec hR j t1 t2
                unfold iD
                rw [hko 313 _ (by omega), (hR.S t1 t2).2.2.2.2.2.1, yc]
                have q7 : κ 314 t.toNat = μ 11 t.toNat := (hR.S t1 t2).2.2.2.2.2.2.1
                have v11 : 0 ≤ μ 11 t.toNat ∧ μ 11 t.toNat ≤ 65536 := hV 11 t.toNat
                have old := (hI t t1 t2).1
                unfold iD at old
                rw [(hR.S t1 t2).2.2.2.2.2.1, yc] at old
                rw [n360, n314]
                by_cases z : t.toNat = s.toNat ∧ i = 4
                · rw [if_pos (show ((16 * t) + 4).toNat = (16 * s + i).toNat by omega), if_pos z]; exact grown_0 (by omega)
                · rw [if_neg (show ¬ ((16 * t) + 4).toNat = (16 * s + i).toNat by omega), if_neg z]; exact old
            · have j' : ¬ κ 507 0 = 0 := by omega
              have eE : e_kGrant κ s i v = 2 := by
                by_cases f : 8 ≤ i
                · simp only [e_kGrant, if_pos e, if_neg a, if_pos b', if_neg c, if_pos f, if_pos (d.2 f), if_neg j']
                · simp only [e_kGrant, if_pos e, if_neg a, if_pos b', if_neg c, if_neg f, if_pos (d.1 (by omega)), if_neg j']
              have eS : s_grant μ s i v = u2 (u2 μ 0 0 0) 0 0 2 := by
                unfold s_grant
                rw [if_neg hns, if_neg a, if_neg b, if_neg c]
                by_cases g : i ≤ 7
                · rw [if_pos g, if_pos (d.1 g), if_neg j, if_neg j]
                · rw [if_neg g, if_pos (d.2 (by omega)), if_neg j, if_neg j]
              rw [eE, eS]
              exact ⟨by rw [u2_s]; rfl, fun z => absurd z (by decide), fun _ => Rel_0 hV hR (fun f k z => by rw [u2_f (by omega), u2_f (by omega)])⟩
          · refine bad1 ?_ ?_
            · unfold s_grant
              rw [if_neg hns, if_neg a, if_neg b, if_neg c]
              by_cases g : i ≤ 7
              · rw [if_pos g, if_neg (fun z => d ⟨fun _ => z, fun y => by omega⟩)]
              · rw [if_neg g, if_neg (fun z => d ⟨fun y => by omega, fun _ => z⟩)]
            · unfold e_kGrant
              rw [if_pos e, if_neg a, if_pos b', if_neg c]
              by_cases f : 8 ≤ i
              · rw [if_pos f, if_neg (fun z => d ⟨fun y => by omega, fun _ => z⟩)]
              · rw [if_neg f, if_neg (fun z => d ⟨fun _ => z, fun y => by omega⟩)]
  · exact bad1 (by unfold s_grant; rw [if_pos h]) (by unfold e_kGrant; rw [if_neg (show ¬ e_sideAt κ s = 0 by omega), e])
end R11
