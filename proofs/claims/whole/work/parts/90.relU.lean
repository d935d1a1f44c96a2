section R22
variable {κ μ κ' μ' κ1 : Nat → Nat → Int} {O O' : Nat → Nat}
set_option maxHeartbeats 8000000 in
theorem write_A (hV : mV μ) (hV' : mV μ') (hR : kRel κ μ O) (hI : kInv κ) (hK : kV κ) {s i n : Int} (h1 : 0 ≤ s) (h2 : s ≤ 1) (h3 : 0 ≤ i) (h4 : i < 256) (hp : κ 290 (mj s i) = 1) (hz : κ 200 (mj s i) = 0) (n0 : 0 ≤ n) {m : Nat} (hm : (m : Int) = n) {R1 R2 : Nat}
    (hA : apK κ κ1 s i n R1 R2) (hM : wrM μ μ' s i 0 m) (htape : ∀ j : Nat, (j : Int) < n → κ 1000 j = wB (μ 2 j))
    (hk' : ∀ f k, ¬ (f = 308 ∧ k = s.toNat) → κ' f k = κ1 f k) (k308 : κ' 308 s.toNat = κ 308 s.toNat + n) : kRel κ' μ' (nwO O (κ 602 0) (mj s i) R1 R2) ∧ kInv κ' := by
  obtain ⟨p1, p2, p3, p4, p5, p6, p7, p8, p9, p10, p11, p12, p13, p14, p15, p16, p17, p18, p19, p20, p21⟩ := hA
  have hA0 := hR.A h1 h2 h3 h4
  obtain ⟨a1, a2, a3⟩ := hA0.2.1 hp
  obtain ⟨⟨r1, r2, r3, r4⟩, ⟨r5, r6, r7, r8⟩, r9, r10, r11⟩ := a2
  obtain ⟨c1, c2, c3, c4, c5, c6, c7⟩ := a3
  obtain ⟨y1, y2, y3, y4, y5, y6, y7⟩ := a1
  have k2 : 2 ≤ κ 602 0 := hR.1.2.2.2.2.2.2.2
  have k203 : 0 ≤ κ 203 (mj s i) := (hK.1 203 _).1
  have k204 : 0 ≤ κ 204 (mj s i) := (hK.1 204 _).1
  have hM' := hM
  obtain ⟨g36, g36', gn, go⟩ := hM
  have hk : ∀ f k, ¬ ((f = 201 ∨ f = 202 ∨ f = 203) ∧ k = mj s i) → ¬ ((f = 600 ∨ f = 601) ∧ κ 602 0 ≤ (k : Int)) → ¬ (1000 ≤ f ∧ κ 602 0 ≤ ((f - 1000 : Nat) : Int)) → f ≠ 602 → f ≠ 1000 + (κ 201 (mj s i)).toNat → ¬ (f = 308 ∧ k = s.toNat) → κ' f k = κ f k := fun f k x1 x2 x3 x4 x5 x6 => by
    rw [hk' f k x6, p1 f k x1 x2 x3 x4 x5]
  have e602 : κ 602 0 ≤ κ' 602 0 := by rw [hk' _ _ (by omega)]; exact p2
  have hO : ∀ r : Nat, (r : Int) < κ 602 0 → nwO O (κ 602 0) (mj s i) R1 R2 r = O r := fun r x => if_pos x
  have hm' : ∀ f k, ¬ (36 ≤ f ∧ f ≤ 39) → μ' f k = μ f k := fun f k x => go f k (by omega) (by omega)
  have hX : ∀ t j : Int, mX μ' t j = mX μ t j := fun t j => mX_cg (fun f hf k => by
    simp only [List.elem_eq_mem, decide_eq_true_eq, List.mem_cons, List.not_mem_nil, or_false] at hf
    exact hm' f k (by omega))
  have hrow : ∀ r : Nat, (r : Int) < κ 602 0 → r ≠ (κ 201 (mj s i)).toNat → κ' 600 r = κ 600 r ∧ κ' 601 r = κ 601 r ∧ nwO O (κ 602 0) (mj s i) R1 R2 r = O r ∧ ∀ o, κ' (1000 + r) o = κ (1000 + r) o := fun r x y => ⟨hk _ _ (by omega) (by omega) (by omega) (by omega) (by omega) (by omega), hk _ _ (by omega) (by omega) (by omega) (by omega) (by omega) (by omega), hO r x, fun o => hk _ _ (by omega) (by omega) (by omega) (by omega) (by omega) (by omega)⟩
  have hz21 : ¬ 0 < μ 21 (mj s i) := by
    intro z
    rw [if_pos z] at y7
    omega
  have hz19 : μ 19 (mj s i) = 0 := by
    rw [if_neg hz21] at y7
    by_cases z : μ 19 (mj s i) = 0
    · exact z
    · rw [if_neg z] at y7
      split at y7 <;> omega
  have hw := wr_W hV h1 h2 hM' (t := s) (j := i) h1 h2
  rw [if_pos ⟨rfl, rfl⟩] at hw
  refine ⟨⟨?_, ?_, ?_, mHz_cg (fun f k x => hm' f k (by omega)) hR.2.2.2⟩, ?_⟩
  · exact rH_cg (fun f x y => hk _ _ (by omega) (by omega) (by omega) (by omega) (by omega) (by omega)) (fun f r x y => hk _ _ (by omega) (by omega) (by omega) (by omega) (by omega) (by omega)) (fun r x => hO r (by omega)) e602 (fun r o x => hk _ _ (by omega) (by omega) (by omega) (by omega) (by omega) (by omega)) (fun f k x y => hm' _ _ (by omega)) hR.1
  · intro t g1 g2
    have gS := hR.S g1 g2
    have hrc : v_received μ' t = v_received μ t := v_received_cg (fun f hf k => by
      simp only [List.elem_eq_mem, decide_eq_true_eq, List.mem_cons, List.not_mem_nil, or_false] at hf
      exact hm' f k (by omega))
    have hcc : v_consumed μ' t = v_consumed μ t := v_consumed_cg (fun f hf k => by
      simp only [List.elem_eq_mem, decide_eq_true_eq, List.mem_cons, List.not_mem_nil, or_false] at hf
      exact hm' f k (by omega))
    have hall := wr_All hV h1 h2 hM' g1 g2
    refine ⟨?_, fun w w0 w1 => ?_, fun j g3 g4 => ?_⟩
    · by_cases ets : t = s
      · subst ets
        obtain ⟨q1, q2, q3, q4, q5, q6, q7, q8, q9, q10, q11, q12, q13, q14, q15⟩ := gS
        unfold rS
        rw [hrc, hcc, hall, k308, hk 309 _ (by omega) (by omega) (by omega) (by omega) (by omega) (by omega), hk 310 _ (by omega) (by omega) (by omega) (by omega) (by omega) (by omega), hk 311 _ (by omega) (by omega) (by omega) (by omega) (by omega) (by omega), hk 312 _ (by omega) (by omega) (by omega) (by omega) (by omega) (by omega), hk 313 _ (by omega) (by omega) (by omega) (by omega) (by omega) (by omega), hk 314 _ (by omega) (by omega) (by omega) (by omega) (by omega) (by omega), hk 315 _ (by omega) (by omega) (by omega) (by omega) (by omega) (by omega), hk 307 _ (by omega) (by omega) (by omega) (by omega) (by omega) (by omega), hk 306 _ (by omega) (by omega) (by omega) (by omega) (by omega) (by omega), g36, hm' 7 _ (by omega), hm' 14 _ (by omega), hm' 11 _ (by omega), hm' 12 _ (by omega), hm' 16 _ (by omega), hm' 1 _ (by omega)]
        refine ⟨by omega, q2, q3, q4, q5, q6, q7, q8, q9, fun x x1 x2 => ?_, fun y x x1 x2 => ?_, q12, q13, q14, fun y => ⟨(q15 y).1, fun x x1 x2 => ?_⟩⟩
        · rw [hk 360 _ (by omega) (by omega) (by omega) (by omega) (by omega) (by omega), hm' 6 _ (by omega)]; exact q10 x x1 x2
        · rw [hk 361 _ (by omega) (by omega) (by omega) (by omega) (by omega) (by omega), hm' 6 _ (by omega)]; exact q11 y x x1 x2
        · rw [hm' 17 _ (by omega)]; exact (q15 y).2 x x1 x2
      · exact rS_cg g1 g2 (fun f a b => hk _ _ (by omega) (by omega) (by omega) (by omega) (by omega) (by omega)) (fun f k a b c => hk _ _ (by omega) (by omega) (by omega) (by omega) (by omega) (by omega)) (fun f a => go _ _ (by omega) (by omega)) (hm' _ _ (by omega)) (hm' _ _ (by omega)) (hm' _ _ (by omega)) (fun k => hm' _ _ (by omega)) (fun j x y => hm' _ _ (by omega)) hall hrc hcc gS
    · exact rW_cg g1 g2 w0 w1 (fun f a b => hk _ _ (by omega) (by omega) (by omega) (by omega) (by omega) (by omega)) (hk _ _ (by omega) (by omega) (by omega) (by omega) (by omega) (by omega)) (fun f a => hm' _ _ (by omega)) (hm' _ _ (by omega)) (hm' _ _ (by omega)) (hm' _ _ (by omega)) (hm' _ _ (by omega)) (hR.W g1 g2 w0 w1)
    · have hT := rT_cg (κ' := κ') (μ' := μ') (by rw [hk 306 _ (by omega) (by omega) (by omega) (by omega) (by omega) (by omega)]; exact Int.le_refl _) (hm' _ _ (by omega)) (hm' _ _ (by omega)) (hm' _ _ (by omega)) (hR.T g1 g2 g3 g4)
      have hB := rB_cg (κ' := κ') (μ' := μ') (O' := nwO O (κ 602 0) (mj s i) R1 R2) (fun f a => hk _ _ (by omega) (by omega) (by omega) (by omega) (by omega) (by omega)) (fun r a b c => hrow r b (fun z => by rw [z, r4] at c; omega)) e602 (fun f a => hm' _ _ (by omega)) (fun _ => hm' _ _ (by omega)) (hX t j) (hR.B g1 g2 g3 g4)
      refine ⟨hT, ?_, hB⟩
      by_cases e : t = s ∧ j = i
      · obtain ⟨rfl, rfl⟩ := e
        refine ⟨by rw [hk 290 _ (by omega) (by omega) (by omega) (by omega) (by omega) (by omega), hm' 17 _ (by omega)]; exact hA0.1, fun _ => ⟨?_, ?_, ?_⟩, fun z => absurd (by rw [hk 290 _ (by omega) (by omega) (by omega) (by omega) (by omega) (by omega)]; exact hp) z⟩
        · unfold rA1
          rw [hk' 203 _ (by omega), p3, hw, hk 207 _ (by omega) (by omega) (by omega) (by omega) (by omega) (by omega), hk 208 _ (by omega) (by omega) (by omega) (by omega) (by omega) (by omega), hk 209 _ (by omega) (by omega) (by omega) (by omega) (by omega) (by omega), hk 210 _ (by omega) (by omega) (by omega) (by omega) (by omega) (by omega), hk 211 _ (by omega) (by omega) (by omega) (by omega) (by omega) (by omega), hk 200 _ (by omega) (by omega) (by omega) (by omega) (by omega) (by omega), hk 206 _ (by omega) (by omega) (by omega) (by omega) (by omega) (by omega), hm' 18 _ (by omega), hm' 19 _ (by omega), hm' 20 _ (by omega), hm' 21 _ (by omega), hm' 22 _ (by omega), hm' 23 _ (by omega), hm' 24 _ (by omega)]
          refine ⟨by omega, y2, y3, y4, y5, y6, ?_⟩
          rw [if_neg hz21, if_pos hz19]
          exact hz
        · unfold rA2
          rw [hk' 201 _ (by omega), hk' 202 _ (by omega), hk' 203 _ (by omega), p3, p4, p5, hk' 602 _ (by omega)]
          simp only [Int.toNat_natCast]
          rw [hk' 600 _ (by omega), hk' 600 _ (by omega), hk' 601 _ (by omega), hk' 601 _ (by omega)]
          refine ⟨⟨by omega, p8, p12, ?_⟩, ⟨by omega, p9, p13, ?_⟩, p14, p15, p16⟩
          · rcases p11 with z | z
            · rw [hO _ (by omega), show R1 = (κ 201 (mj t j)).toNat by omega]; exact r4
            · unfold nwO
              rw [if_neg (by omega), if_pos rfl]
          · rcases p11 with z | z
            · rw [hO _ (by omega), show R2 = (κ 202 (mj t j)).toNat by omega]; exact r8
            · unfold nwO
              rw [if_neg (by omega), if_neg (fun y => p10 y.symm), if_pos rfl]
        · have hfun : κ1 (1000 + R2) = κ (1000 + (κ 202 (mj t j)).toNat) := funext p20
          have hfun2 : κ' (1000 + R2) = κ1 (1000 + R2) := funext (fun o => hk' _ _ (by omega))
          unfold rA3
          rw [hk' 201 _ (by omega), hk' 202 _ (by omega), hk' 203 _ (by omega), hk 204 _ (by omega) (by omega) (by omega) (by omega) (by omega) (by omega), hk 205 _ (by omega) (by omega) (by omega) (by omega) (by omega) (by omega), hk 206 _ (by omega) (by omega) (by omega) (by omega) (by omega) (by omega), p3, p4, p5]
          simp only [Int.toNat_natCast]
          rw [hk' 600 _ (by omega), hfun2, hfun]
          have k600 : 0 ≤ κ 600 (κ 202 (mj t j)).toNat := (hK.1 600 _).1
          have hcnt : ∀ q : Int, q ≠ 0 → mR (κ (1000 + (κ 202 (mj t j)).toNat)) q 0 (κ1 600 R2) = mR (κ (1000 + (κ 202 (mj t j)).toNat)) q 0 (κ 600 (κ 202 (mj t j)).toNat) := by
            intro q hq
            unfold mR
            rw [show (κ1 600 R2 - 0).toNat = (κ 600 (κ 202 (mj t j)).toNat - 0).toNat + ((κ1 600 R2).toNat - (κ 600 (κ 202 (mj t j)).toNat).toNat) by omega, mRem_app, mRem_z _ ((0 : Int).toNat + (κ 600 (κ 202 (mj t j)).toNat - 0).toNat) (fun x hx => by rw [c4 _ (by omega)]; omega), Int.add_zero]
          rw [hcnt 3 (by omega), hcnt 4 (by omega)]
          refine ⟨by omega, fun o ho => ?_, fun o ho => ?_, c4, fun o x y => ?_, c6, c7⟩
          · rw [hk' _ _ (by omega)]
            by_cases z : (o : Int) < κ 203 (mj t j)
            · rw [p18 o z, c2 o z, (wr_P hV hV' h1 h2 hM' g1 g2 o (by omega)).1]
            · have hq := (wr_N hV hV' h1 h2 hM' (o - (κ 203 (mj t j)).toNat) (by omega)).1
              have ht := p19 (o - (κ 203 (mj t j)).toNat) (by omega)
              rw [show (κ 203 (mj t j)).toNat + (o - (κ 203 (mj t j)).toNat) = o by omega] at ht
              rw [ht, htape _ (by omega)]
              rw [show mW μ t j + ((o - (κ 203 (mj t j)).toNat : Nat) : Int) = (o : Int) by omega, Nat.zero_add] at hq
              exact hq.symm
          · rw [(wr_P hV hV' h1 h2 hM' g1 g2 o (by omega)).2]; exact c3 o ho
          · by_cases z : (o : Int) < κ 203 (mj t j)
            · rw [(wr_P hV hV' h1 h2 hM' g1 g2 o (by omega)).2]; exact c5 o x z
            · have hq := (wr_N hV hV' h1 h2 hM' (o - (κ 203 (mj t j)).toNat) (by omega)).2
              rw [show (mW μ t j).toNat + (o - (κ 203 (mj t j)).toNat) = o by omega] at hq
              exact hq
      · have hne := mj_ne h1 h3 h4 g1 g3 g4 e
        have hwt := wr_W hV h1 h2 hM' (t := t) (j := j) g1 g2
        rw [if_neg e, Int.add_zero] at hwt
        exact rA_cg (fun f a => hk _ _ (by omega) (by omega) (by omega) (by omega) (by omega) (by omega)) (fun r a b c => hrow r b (fun z => by rw [z, r4] at c; omega)) e602 (fun f a b => hm' _ _ (by omega)) hwt (fun o ho => wr_P hV hV' h1 h2 hM' g1 g2 o ho) (hR.A g1 g2 g3 g4)
  · intro p hp'
    have hf := hR.2.2.1 p hp'
    refine rF_cg (fun f a => hk _ _ (by omega) (by omega) (by omega) (by omega) (by omega) (by omega)) (fun f a b => hm' _ _ (by omega)) (fun j a => hm' _ _ (by omega)) hV (fun k a => by rw [hk _ _ (by omega) (by omega) (by omega) (by omega) (by omega) (by omega)]; exact a) (fun k a => ⟨by rw [hk _ _ (by omega) (by omega) (by omega) (by omega) (by omega) (by omega)]; exact a, by rw [hk _ _ (by omega) (by omega) (by omega) (by omega) (by omega) (by omega)]; exact Int.le_refl _, fun z => by rw [hm' _ _ (by omega)]; exact z⟩) e602 (fun r a b c d => ⟨hk _ _ (by omega) (by omega) (by omega) (by omega) (by omega) (by omega), hk _ _ (by omega) (by omega) (by omega) (by omega) (by omega) (by omega), hO r b⟩) (fun a b j c => ?_) hf
    obtain ⟨f1, f2, f3, f4⟩ := hf.2 a
    obtain ⟨x1, x2, x3, x4, x5, x6, x7, x8, x9, x10, x11⟩ := f4 b
    by_cases z : (κ 7 p).toNat = (κ 201 (mj s i)).toNat
    · rw [z, r4] at x9
      have hmj : mj (κ 2 p) (κ 4 p) = mj s i := by omega
      rw [hmj] at x4
      have k8 : 0 ≤ κ 8 p := (hK.1 8 _).1
      rw [z, hk' _ _ (by omega)]
      exact p21 _ (by omega)
    · exact (hrow _ (by omega) z).2.2.2 _
  · exact Inv_cg hI (fun f k z => hk _ _ (by omega) (by omega) (by omega) (by omega) (by omega) (by omega)) (fun k z => hk _ _ (by omega) (by omega) (by omega) (by omega) (by omega) (by omega))
end R22
