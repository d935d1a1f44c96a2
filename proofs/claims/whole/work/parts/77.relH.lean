section R9
variable {κ μ κ' μ' : Nat → Nat → Int} {O O' : Nat → Nat}
theorem look_A (hV : mV μ) (hK : kV κ) {s i : Int} (w : Int) (h1 : 0 ≤ s) (hA : rA κ μ O s i) (hp : κ 290 (mj s i) = 1) : v_sendingLook μ s i w = v_sTell κ s i w := by
  obtain ⟨c1, c2, c3, c4⟩ := rA_cnt hV (hK.1 204 _).1 h1 hA hp
  have hs := rA_send hV (hK.1 204 _).1 h1 hA hp
  obtain ⟨q1, q2, q3, q4, q5, q6, q7⟩ := (hA.2.1 hp).1
  have h21 : 0 ≤ μ 21 (mj s i) ∧ μ 21 (mj s i) ≤ 2 := hV 21 (mj s i)
  unfold v_sendingLook v_sTell
  rw [hs, c1, c2, c3, c4, q2, q3, q5, show v_endOf μ (256 * s + i) = (if μ 19 (mj s i) = 0 then 0 else 1 + μ 20 (mj s i)) from rfl, show (if μ 21 (mj s i) ≤ 0 then (0 : Int) else μ 23 (mj s i)) = (if 0 < μ 21 (mj s i) then μ 23 (mj s i) else 0) by split <;> split <;> first | rfl | omega]
theorem look_B (hV : mV μ) {s i : Int} (w : Int) (h1 : 0 ≤ s) (hB : rB κ μ O s i) (hp : κ 190 (mj s i) = 1) : v_receivingLook μ s i w = v_rTell κ s i w := by
  have hr := rB_ready hV h1 hB hp
  have hv := rB_recv hV h1 hB hp
  obtain ⟨q1, q2, q3, q4, q5, q6, q7, q8, q9, q10, q11, q12⟩ := (hB.2.1 hp).1
  unfold v_receivingLook v_rTell
  rw [hr, hv, q1, q2, q3, q5, q10]
theorem R_stream (hV : mV μ) (hK : kV κ) (hR : kRel κ μ O) (s i w : Int) : s_stream μ s i w 0 0 = kR 1 (e_kStream κ s i w) ∧ (e_kStream κ s i w = 0 → v_stream μ s i w = v_kStream κ s i w) ∧ kRel κ (s_stream μ s i w) O := by
  refine ⟨?_, ?_, Rel_0 hV hR (fun f k z => s_stream_fr (by
    have : f ≠ 0 := by omega
    simp only [List.elem_eq_mem, List.mem_cons, List.not_mem_nil, or_false, decide_eq_false_iff_not]
    exact this))⟩
  · unfold s_stream e_kStream
    rcases sideAt_c (κ := κ) s with ⟨e, h1, h2⟩ | ⟨e, h⟩
    · rw [if_neg (show ¬ (s < 0 ∨ 1 < s) by omega), if_pos e]
      by_cases a : w < 0
      · rw [if_pos a, if_pos a, u2_s]; rfl
      · rw [if_neg a, if_neg a]
        by_cases b : w ≤ 14
        · rw [if_pos b, if_pos b]
          have hz : ∀ (c : Prop) [Decidable c], (if c then u2 μ 0 0 0 else u2 μ 0 0 0) = u2 μ 0 0 0 := fun c _ => by split <;> rfl
          have hy : ∀ (c : Prop) [Decidable c], (if c then (0 : Int) else 0) = 0 := fun c _ => by split <;> rfl
          rw [hz, hz, hz, hy, hy, hy, u2_s]
          rfl
        · rw [if_neg b, if_neg b, u2_s]; rfl
    · rw [if_pos h, if_neg (by omega), e, u2_s]; rfl
  · intro he
    unfold e_kStream at he
    unfold v_stream v_kStream
    rcases sideAt_c (κ := κ) s with ⟨e, h1, h2⟩ | ⟨e, h⟩
    · rw [if_neg (show ¬ (s < 0 ∨ 1 < s) by omega), if_pos e]
      by_cases a : w < 0
      · rw [if_pos a, if_pos a]
      · rw [if_neg a, if_neg a]
        by_cases b : w ≤ 14
        · rw [if_pos b, if_pos b]
          simp only [u17]
          have hV' : mV (u2 μ 0 0 0) := hV.u (by decide)
          have hR' : kRel κ (u2 μ 0 0 0) O := Rel_u0 hV hR
          by_cases c : 8 ≤ w
          · rw [if_pos c, if_pos c]
            by_cases hp : 0 ≤ i ∧ i < 256 ∧ κ 190 (mj s i) = 1
            · rw [if_pos hp, if_pos ((hasB hR i h1 h2).mp hp)]
              exact look_B hV' w h1 (hR'.B h1 h2 hp.1 hp.2.1) hp.2.2
            · rw [if_neg hp, if_neg (fun z => hp ((hasB hR i h1 h2).mpr z))]
          · rw [if_neg c, if_neg c]
            by_cases hp : 0 ≤ i ∧ i < 256 ∧ κ 290 (mj s i) = 1
            · rw [if_pos hp, if_pos ((hasA hR i h1 h2).mp hp)]
              exact look_A hV' hK w h1 (hR'.A h1 h2 hp.1 hp.2.1) hp.2.2
            · rw [if_neg hp, if_neg (fun z => hp ((hasA hR i h1 h2).mpr z))]
        · rw [if_neg b, if_neg b]
    · rw [if_neg (by omega)] at he; omega
theorem R_side (hV : mV μ) (hR : kRel κ μ O) (s w : Int) : s_side μ s w 0 0 = kR 1 (e_kSide κ s w) ∧ (e_kSide κ s w = 0 → v_side μ s w = v_kSide κ s w) ∧ kRel κ (s_side μ s w) O := by
  refine ⟨?_, ?_, Rel_0 hV hR (fun f k z => s_side_fr (by
    have : f ≠ 0 := by omega
    simp only [List.elem_eq_mem, List.mem_cons, List.not_mem_nil, or_false, decide_eq_false_iff_not]
    exact this))⟩
  · unfold s_side e_kSide
    rcases sideAt_c (κ := κ) s with ⟨e, h1, h2⟩ | ⟨e, h⟩
    · rw [if_neg (show ¬ (s < 0 ∨ 1 < s) by omega), if_pos e]
      by_cases a : w < 0
      · rw [if_pos a, if_pos a, u2_s]; rfl
      · rw [if_neg a, if_neg a]
        by_cases b : w ≤ 13
        · rw [if_pos b, if_pos b]
          have hz : ∀ (c : Prop) [Decidable c], (if c then u2 μ 0 0 0 else u2 μ 0 0 0) = u2 μ 0 0 0 := fun c _ => by split <;> rfl
          simp only [hz, u2_s]
          rfl
        · rw [if_neg b, if_neg b, u2_s]; rfl
    · rw [if_pos h, if_neg (by omega), e, u2_s]; rfl
  · intro he
    unfold e_kSide at he
    unfold v_side v_kSide v_kTell
    rcases sideAt_c (κ := κ) s with ⟨e, h1, h2⟩ | ⟨e, h⟩
    · rw [if_neg (show ¬ (s < 0 ∨ 1 < s) by omega), if_pos e]
      by_cases a : w < 0
      · rw [if_pos a, if_pos a]
      · rw [if_neg a, if_neg a]
        by_cases b : w ≤ 13
        · rw [if_pos b, if_pos b]
          obtain ⟨q1, q2, q3, q4, q5, q6, q7, q8, q9, _⟩ := hR.S h1 h2
          obtain ⟨w1, w2, w3, w4, w5, w6, _⟩ := hR.W (w := 0) h1 h2 (by omega) (by omega)
          obtain ⟨y1, y2, y3, y4, y5, y6, _⟩ := hR.W (w := 1) h1 h2 (by omega) (by omega)
          rw [show (16 * s + (8 + 0)).toNat = (16 * s + 8).toNat by omega] at w6
          rw [show (16 * s + (8 + 1)).toNat = (16 * s + 9).toNat by omega] at y6
          rcases (show w = 0 ∨ w = 1 ∨ w = 2 ∨ w = 3 ∨ w = 4 ∨ w = 5 ∨ w = 6 ∨ w = 7 ∨ w = 8 ∨ w = 9 ∨ w = 10 ∨ w = 11 ∨ w = 12 ∨ w = 13 by omega) with rfl | rfl | rfl | rfl | rfl | rfl | rfl | rfl | rfl | rfl | rfl | rfl | rfl | rfl
          · simp only [Int.reduceEq, reduceIte]; exact q2.symm
          · simp only [Int.reduceEq, reduceIte]; exact q3.symm
          · simp only [Int.reduceEq, reduceIte]; exact q5.symm
          · simp only [Int.reduceEq, reduceIte]; exact q6.symm
          · simp only [Int.reduceEq, reduceIte]; exact q7.symm
          · simp only [Int.reduceEq, reduceIte]; rw [w1, show (2 * s + 5 - 5).toNat = (2 * s + 0).toNat by omega]
          · simp only [Int.reduceEq, reduceIte]; rw [y1, show (2 * s + 6 - 5).toNat = (2 * s + 1).toNat by omega]
          · simp only [Int.reduceEq, reduceIte]; rw [w2, show (3 * s + 7 - 6).toNat = (3 * s + 1 + 0).toNat by omega]
          · simp only [Int.reduceEq, reduceIte]; rw [y2, show (3 * s + 8 - 6).toNat = (3 * s + 1 + 1).toNat by omega]
          · simp only [Int.reduceEq, reduceIte]; rw [w4, show (2 * s + 9 - 9).toNat = (2 * s + 0).toNat by omega]
          · simp only [Int.reduceEq, reduceIte]; rw [y4, show (2 * s + 10 - 9).toNat = (2 * s + 1).toNat by omega]
          · simp only [Int.reduceEq, reduceIte]; rw [w6, show (2 * s + 11 - 11).toNat = (2 * s + 0).toNat by omega]
          · simp only [Int.reduceEq, reduceIte]; rw [y6, show (2 * s + 12 - 11).toNat = (2 * s + 1).toNat by omega]
          · simp only [Int.reduceEq, reduceIte]; exact q1.symm
        · rw [if_neg b, if_neg b]
    · rw [if_neg (by omega)] at he; omega
theorem frameAt_c (hV : mV μ) (hR : kRel κ μ O) (p : Int) : (e_frameAt κ p = 0 ∧ v_noPlace μ p = 0 ∧ 0 ≤ p ∧ p < 64 ∧ κ 0 p.toNat = 1) ∨ (e_frameAt κ p = 3 ∧ v_noPlace μ p = 1) := by
  unfold e_frameAt v_noPlace
  by_cases a : p < 0
  · rw [if_pos a, if_pos a]; exact Or.inr ⟨rfl, rfl⟩
  · by_cases b : 64 ≤ p
    · rw [if_neg a, if_neg a, if_pos b, if_pos (show 63 < p by omega)]; exact Or.inr ⟨rfl, rfl⟩
    · rw [if_neg a, if_neg a, if_neg b, if_neg (show ¬ 63 < p by omega)]
      have hf := (hR.2.2.1 p.toNat (by omega)).1
      have v58 : 0 ≤ μ 58 p.toNat ∧ μ 58 p.toNat ≤ 1 := hV 58 p.toNat
      by_cases c : κ 0 p.toNat = 0
      · rw [if_pos c, if_pos (show μ 58 p.toNat = 0 by omega)]; exact Or.inr ⟨rfl, rfl⟩
      · rw [if_neg c, if_neg (show ¬ μ 58 p.toNat = 0 by omega)]; exact Or.inl ⟨rfl, rfl, by omega, by omega, by omega⟩
theorem Rel.F (hR : kRel κ μ O) {p : Nat} (h : p < 64) : rF κ μ O p := hR.2.2.1 p h
theorem R_line (hV : mV μ) (hR : kRel κ μ O) (p q : Int) : s_line μ p q 0 0 = kR 1 (e_kLine κ p q) ∧ (e_kLine κ p q = 0 → v_line μ p q = v_kLine κ p q) ∧ kRel κ (s_line μ p q) O := by
  refine ⟨?_, ?_, Rel_0 hV hR (fun f k z => s_line_fr (by
    have : f ≠ 0 := by omega
    simp only [List.elem_eq_mem, List.mem_cons, List.not_mem_nil, or_false, decide_eq_false_iff_not]
    exact this))⟩
  · unfold s_line e_kLine
    rcases frameAt_c hV hR p with ⟨e, e', h1, h2, h3⟩ | ⟨e, e'⟩
    · rw [if_pos e, if_pos e']
      by_cases a : 0 ≤ q ∧ q ≤ 6
      · rw [if_neg (show ¬ q < 0 by omega), if_pos a.2]
        have hz : ∀ (c : Prop) [Decidable c], (if c then u2 μ 0 0 0 else u2 μ 0 0 0) = u2 μ 0 0 0 := fun c _ => by split <;> rfl
        simp only [hz, u2_s]
        rcases (show q = 0 ∨ q = 1 ∨ q = 2 ∨ q = 3 ∨ q = 4 ∨ q = 5 ∨ q = 6 by omega) with rfl | rfl | rfl | rfl | rfl | rfl | rfl <;> rfl
      · have h3' : (if q = 0 then (0 : Int) else (if q = 1 then 0 else (if q = 2 then 0 else (if q = 3 then 0 else (if q = 4 then 0 else (if q = 5 then 0 else (if q = 6 then 0 else 3))))))) = 3 := by
          rw [if_neg (show ¬ q = 0 by omega), if_neg (show ¬ q = 1 by omega), if_neg (show ¬ q = 2 by omega), if_neg (show ¬ q = 3 by omega), if_neg (show ¬ q = 4 by omega), if_neg (show ¬ q = 5 by omega), if_neg (show ¬ q = 6 by omega)]
        rw [h3']
        by_cases b : q < 0
        · rw [if_pos b, u2_s]; rfl
        · rw [if_neg b, if_neg (show ¬ q ≤ 6 by omega), u2_s]; rfl
    · rw [if_neg (show ¬ e_frameAt κ p = 0 by omega), if_neg (show ¬ v_noPlace μ p = 0 by omega), e, u2_s]; rfl
  · intro he
    unfold e_kLine at he
    unfold v_line v_kLine
    rcases frameAt_c hV hR p with ⟨e, e', h1, h2, h3⟩ | ⟨e, e'⟩
    · rw [if_pos e] at he
      rw [if_pos e, if_pos e']
      obtain ⟨q1, q2, q3, q4, q5, q6, q7, q8⟩ := ((Rel.F hR (p := p.toNat) (by omega)).2 h3).1
      by_cases a : 0 ≤ q ∧ q ≤ 6
      · rw [if_neg (show ¬ q < 0 by omega), if_pos a.2, q2, q3, q4, q5, q6, q7, q8]
        rcases (show q = 0 ∨ q = 1 ∨ q = 2 ∨ q = 3 ∨ q = 4 ∨ q = 5 ∨ q = 6 by omega) with rfl | rfl | rfl | rfl | rfl | rfl | rfl <;> rfl
      · rw [if_neg (show ¬ q = 0 by omega), if_neg (show ¬ q = 1 by omega), if_neg (show ¬ q = 2 by omega), if_neg (show ¬ q = 3 by omega), if_neg (show ¬ q = 4 by omega), if_neg (show ¬ q = 5 by omega), if_neg (show ¬ q = 6 by omega)] at he
        omega
    · rw [if_neg (show ¬ e_frameAt κ p = 0 by omega)] at he
      omega
theorem R_data (hV : mV μ) (hR : kRel κ μ O) (p q : Int) : s_data μ p q 0 0 = kR 1 (e_kData κ p q) ∧ (e_kData κ p q = 0 → v_data μ p q = v_kData κ p q) ∧ kRel κ (s_data μ p q) O := by
  refine ⟨?_, ?_, Rel_0 hV hR (fun f k z => s_data_fr (by
    have : f ≠ 0 := by omega
    simp only [List.elem_eq_mem, List.mem_cons, List.not_mem_nil, or_false, decide_eq_false_iff_not]
    exact this))⟩
  · unfold s_data e_kData
    rcases frameAt_c hV hR p with ⟨e, e', h1, h2, h3⟩ | ⟨e, e'⟩
    · rw [if_pos e, if_pos e']
      obtain ⟨hf1, hf2, hf3, hf4⟩ := (Rel.F hR (p := p.toNat) (by omega)).2 h3
      obtain ⟨q1, q2, q3, q4, q5, q6, q7, q8⟩ := hf1
      by_cases a : q < 0
      · rw [if_pos a, if_pos a, u2_s]; rfl
      · rw [if_neg a, if_neg a]
        by_cases b : q < μ 56 p.toNat
        · have h7 : ¬ κ 7 p.toNat < 0 := by
            by_cases c : κ 3 p.toNat = 8
            · have := (hf4 c).2.2.2.2.2.1; omega
            · have := (hf2 c).1; omega
          rw [if_pos b, if_neg (show ¬ κ 9 p.toNat ≤ q by omega), if_neg h7, u2_s]
          rfl
        · rw [if_neg b, if_pos (show κ 9 p.toNat ≤ q by omega), u2_s]; rfl
    · rw [if_neg (show ¬ e_frameAt κ p = 0 by omega), if_neg (show ¬ v_noPlace μ p = 0 by omega), e, e', u2_s]; rfl
  · intro he
    unfold e_kData at he
    unfold v_data v_kData
    rcases frameAt_c hV hR p with ⟨e, e', h1, h2, h3⟩ | ⟨e, e'⟩
    · rw [if_pos e] at he
      rw [if_pos e, if_pos e']
      obtain ⟨hf1, hf2, hf3, hf4⟩ := (Rel.F hR (p := p.toNat) (by omega)).2 h3
      obtain ⟨q1, q2, q3, q4, q5, q6, q7, q8⟩ := hf1
      by_cases a : q < 0
      · rw [if_pos a, if_pos a]
      · rw [if_neg a, if_neg a]
        by_cases b : q < μ 56 p.toNat
        · rw [if_pos b, if_neg (show ¬ κ 9 p.toNat ≤ q by omega)]
          have c : κ 3 p.toNat = 8 := by
            by_cases c : κ 3 p.toNat = 8
            · exact c
            · have := (hf2 c).1; omega
          obtain ⟨t1, t2, t3, t4, t5, t6, t7, t8, t9, t10, t11⟩ := hf4 c
          have v54 : 0 ≤ μ 54 p.toNat := (hV 54 p.toNat).1
          have := t11 q.toNat (by omega)
          rw [if_neg (show ¬ κ 7 p.toNat < 0 by omega), show (κ 8 p.toNat + q).toNat = (κ 8 p.toNat).toNat + q.toNat by omega, this, show (1200 * p + q).toNat = 1200 * p.toNat + q.toNat by omega]
        · rw [if_neg b, if_pos (show κ 9 p.toNat ≤ q by omega)]
    · rw [if_neg (show ¬ e_frameAt κ p = 0 by omega)] at he
      omega
theorem outs_l (hR : kRel κ μ O) (q : Int) (hq : 0 ≤ q) : ∀ (d : Nat) (v j : Int), 0 ≤ j → v_outs_19 μ q d v j (u2 μ 0 0 0) = v_kOuts_18 κ q d v j (v_minI 8 (κ 506 0 - q))
  | 0, _, _, _ => rfl
  | d + 1, v, j, hj => by
    have e5 : κ 506 0 = μ 5 0 := hR.1.2.1
    have e4 := hR.1.2.2.2.2.1
    rw [v_outs_19, v_kOuts_18, u2_f (by decide), u2_f (by decide)]
    have hm : v_minI 8 (κ 506 0 - q) = if κ 506 0 - q < 8 then κ 506 0 - q else 8 := rfl
    by_cases a : 8 ≤ j
    · rw [if_pos a, if_pos]
      rw [hm]; split <;> omega
    · rw [if_neg a]
      by_cases b : μ 5 0 ≤ q + j
      · rw [if_pos b, if_pos]
        rw [hm]; split <;> omega
      · rw [if_neg b, if_neg (by rw [hm]; split <;> omega), outs_l hR q hq d _ (j + 1) (by omega), e4 (q + j).toNat (by omega)]
theorem R_outs (hV : mV μ) (hR : kRel κ μ O) (q : Int) : s_outs μ q 0 0 = kR 1 (e_kOuts κ q) ∧ (e_kOuts κ q = 0 → v_outs μ q = v_kOuts κ q) ∧ kRel κ (s_outs μ q) O := by
  have e5 : κ 506 0 = μ 5 0 := hR.1.2.1
  have he0 : ∀ (d : Nat) (v j n : Int), e_kOuts_18 κ q d v j n = 0 := by
    intro d
    induction d with
    | zero => intro _ _ _; rfl
    | succ d ih => intro v j n; rw [e_kOuts_18]; split; rfl; exact ih _ _ _
  have hs0 : ∀ (d : Nat) (v j : Int) (ν : Nat → Nat → Int), s_outs_19 μ q d v j ν = ν := by
    intro d
    induction d with
    | zero => intro _ _ _; rfl
    | succ d ih => intro v j n; rw [s_outs_19]; split; rfl; split; rfl; exact ih _ _ _
  refine ⟨?_, ?_, Rel_0 hV hR (fun f k z => s_outs_fr (by
    have : f ≠ 0 := by omega
    simp only [List.elem_eq_mem, List.mem_cons, List.not_mem_nil, or_false, decide_eq_false_iff_not]
    exact this))⟩
  · unfold s_outs e_kOuts
    rw [hs0, he0, e5]
    split
    · rw [u2_s]; rfl
    · split <;> rw [u2_s] <;> rfl
  · intro he
    unfold e_kOuts at he
    unfold v_outs v_kOuts
    rw [← e5]
    by_cases a : q < 0
    · rw [if_pos a, if_pos a]
    · rw [if_neg a, if_neg a]
      by_cases b : q < κ 506 0
      · rw [if_pos b, if_pos b]; exact outs_l hR q (by omega) 9 0 0 (by omega)
      · rw [if_neg b, if_neg b]
end R9
