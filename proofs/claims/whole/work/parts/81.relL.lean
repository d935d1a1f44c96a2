section R13
variable {κ μ κ' μ' : Nat → Nat → Int} {O O' : Nat → Nat}
theorem growData_e (hV : mV μ) (s : Int) : s_growData μ s = if v_grownGrant (v_consumed μ s) (μ 6 ((16 * s) + 4).toNat) (μ 11 s.toNat) ≤ μ 11 s.toNat then μ else u2 (u2 μ 11 s.toNat (v_grownGrant (v_consumed μ s) (μ 6 ((16 * s) + 4).toNat) (μ 11 s.toNat))) 12 s.toNat 1 := by
  have v11 : 0 ≤ μ 11 s.toNat ∧ μ 11 s.toNat ≤ 65536 := hV 11 s.toNat
  unfold s_growData v_grows v_grownGrant v_maxI v_minI
  generalize v_consumed μ s = c
  generalize μ 6 ((16 * s) + 4).toNat = g
  generalize μ 11 s.toNat = n at v11
  by_cases a : 2 * ((c + g) - n) < g
  · simp only [if_pos a, if_true, Int.le_refl]
  · simp only [if_neg a]
    by_cases b : c + g ≤ n
    · simp only [if_pos b, if_true]
      rw [if_pos]
      repeat' split
      all_goals omega
    · simp only [if_neg b, Int.reduceEq, if_false]
      by_cases d : 65536 ≤ c + g
      · rw [if_pos d]
        by_cases e : n < 65536
        · rw [if_pos e]
          by_cases f : 65536 < c + g
          · rw [if_pos f, if_pos e, if_neg (by omega)]
          · have : c + g = 65536 := by omega
            rw [if_neg f, this, if_pos e, if_neg (by omega)]
        · rw [if_neg e, if_pos]
          repeat' split
          all_goals omega
      · rw [if_neg d, if_pos (by omega), if_neg (by omega), if_pos (by omega), if_neg (by omega)]
theorem growStream_e (hV : mV μ) (s i : Int) : s_growStream μ s i = if v_grownGrant (μ 27 (mj s i)) (μ 6 (mg s i).toNat) (μ 30 (mj s i)) ≤ μ 30 (mj s i) then μ else u2 (u2 μ 30 (mj s i) (v_grownGrant (μ 27 (mj s i)) (μ 6 (mg s i).toNat) (μ 30 (mj s i)))) 31 (mj s i) 1 := by
  have v11 : 0 ≤ μ 30 (mj s i) ∧ μ 30 (mj s i) ≤ 65536 := hV 30 (mj s i)
  unfold s_growStream v_grows v_grownGrant v_maxI v_minI
  generalize μ 27 (mj s i) = c
  generalize μ 6 (mg s i).toNat = g
  generalize μ 30 (mj s i) = n at v11
  by_cases a : 2 * ((c + g) - n) < g
  · simp only [if_pos a, if_true, Int.le_refl]
  · simp only [if_neg a]
    by_cases b : c + g ≤ n
    · simp only [if_pos b, if_true]
      rw [if_pos]
      repeat' split
      all_goals omega
    · simp only [if_neg b, Int.reduceEq, if_false]
      by_cases d : 65536 ≤ c + g
      · rw [if_pos d]
        by_cases e : n < 65536
        · rw [if_pos e]
          by_cases f : 65536 < c + g
          · rw [if_pos f, if_pos e, if_neg (by omega)]
          · have : c + g = 65536 := by omega
            rw [if_neg f, this, if_pos e, if_neg (by omega)]
        · rw [if_neg e, if_pos]
          repeat' split
          all_goals omega
      · rw [if_neg d, if_pos (by omega), if_neg (by omega), if_pos (by omega), if_neg (by omega)]
theorem grown_b {c g n : Int} (h : 0 ≤ n) (h2 : n ≤ 65536) : n ≤ v_grownGrant c g n ∧ v_grownGrant c g n ≤ 65536 ∧ v_grownGrant c g (v_grownGrant c g n) ≤ v_grownGrant c g n := by
  unfold v_grownGrant v_maxI v_minI
  refine ⟨?_, ?_, ?_⟩
  · repeat' split
    all_goals omega
  · repeat' split
    all_goals omega
  · repeat' split
    all_goals omega
theorem growData_V (hV : mV μ) (s : Int) : mV (s_growData μ s) := by
  have v11 : 0 ≤ μ 11 s.toNat ∧ μ 11 s.toNat ≤ 65536 := hV 11 s.toNat
  rw [growData_e hV]
  split
  · exact hV
  · have := grown_b (c := v_consumed μ s) (g := μ 6 ((16 * s) + 4).toNat) v11.1 v11.2
    exact (hV.u (f := 11) ⟨show (0 : Int) ≤ _ by omega, this.2.1⟩).u (f := 12) (by decide)
theorem growStream_V (hV : mV μ) (s i : Int) : mV (s_growStream μ s i) := by
  have v11 : 0 ≤ μ 30 (mj s i) ∧ μ 30 (mj s i) ≤ 65536 := hV 30 (mj s i)
  rw [growStream_e hV]
  split
  · exact hV
  · have := grown_b (c := μ 27 (mj s i)) (g := μ 6 (mg s i).toNat) v11.1 v11.2
    exact (hV.u (f := 30) ⟨show (0 : Int) ≤ _ by omega, this.2.1⟩).u (f := 31) (by decide)
/-- growing the limit for all data -/
theorem R_growData (hV : mV μ) (hR : kRel κ μ O) {s : Int} (h1 : 0 ≤ s) (h2 : s ≤ 1) : kRel (s_growDataGrant κ s) (s_growData μ s) O ∧ iD (s_growDataGrant κ s) s := by
  obtain ⟨q1, q2, q3, q4, q5, q6, q7, q8, q9, q10, q11, q12, q13, q14, q15⟩ := hR.S h1 h2
  have v11 : 0 ≤ μ 11 s.toNat ∧ μ 11 s.toNat ≤ 65536 := hV 11 s.toNat
  have e4 := q10 4 (by omega) (by omega)
  rw [growData_e hV]
  unfold s_growDataGrant
  rw [q6, e4, q7]
  by_cases a : v_grownGrant (v_consumed μ s) (μ 6 (16 * s + 4).toNat) (μ 11 s.toNat) ≤ μ 11 s.toNat
  · rw [if_pos a, if_pos a]
    refine ⟨hR, ?_⟩
    unfold iD
    rw [q6, e4, q7]
    exact a
  · rw [if_neg a, if_neg a]
    have gb := grown_b (c := v_consumed μ s) (g := μ 6 ((16 * s) + 4).toNat) v11.1 v11.2
    refine ⟨Rel_S hV hR h1 h2 (fun f k x y z => by rw [u2_n (by omega), u2_n (by omega)]) (fun f k x y z w => by rw [u2_n (by omega), u2_n (by omega)]) (by rw [u2_n (by omega), u2_n (by omega)]; exact Int.le_refl _) ?_ ?_, ?_⟩
    · have hrc : v_received (u2 (u2 μ 11 s.toNat (v_grownGrant (v_consumed μ s) (μ 6 ((16 * s) + 4).toNat) (μ 11 s.toNat))) 12 s.toNat 1) s = v_received μ s := by rw [v_received_u (by decide), v_received_u (by decide)]
      have hcc : v_consumed (u2 (u2 μ 11 s.toNat (v_grownGrant (v_consumed μ s) (μ 6 ((16 * s) + 4).toNat) (μ 11 s.toNat))) 12 s.toNat 1) s = v_consumed μ s := by rw [v_consumed_u (by decide), v_consumed_u (by decide)]
      have hall : mAll (u2 (u2 μ 11 s.toNat (v_grownGrant (v_consumed μ s) (μ 6 ((16 * s) + 4).toNat) (μ 11 s.toNat))) 12 s.toNat 1) s (mTot (u2 (u2 μ 11 s.toNat (v_grownGrant (v_consumed μ s) (μ 6 ((16 * s) + 4).toNat) (μ 11 s.toNat))) 12 s.toNat 1) s) = mAll μ s (mTot μ s) := by
        rw [mTot_cg (μ' := μ) (fun k => by rw [u2_f (by decide), u2_f (by decide)])]
        exact mAll_cgr _ (fun q _ => by rw [u2_f (by decide), u2_f (by decide)])
      unfold rS
      rw [hrc, hcc, hall]
      simp (disch := omega) only [u2_f, u2_n, u2_s]
      exact ⟨q1, q2, q3, q4, q5, q6, trivial, trivial, q9, q10, q11, q12, by omega, q14, q15⟩
    · intro w w0 w1
      exact rW_cg h1 h2 w0 w1 (fun f x y => by rw [u2_f (by omega), u2_f (by omega)]) (by rw [u2_f (by omega), u2_f (by omega)]) (fun f x => by rw [u2_f (by omega), u2_f (by omega)]) (by rw [u2_f (by omega), u2_f (by omega)]) (by rw [u2_f (by omega), u2_f (by omega)]) (by rw [u2_f (by omega), u2_f (by omega)]) (by rw [u2_f (by omega), u2_f (by omega)]) (hR.W h1 h2 w0 w1)
    · unfold iD
      simp (disch := omega) only [u2_f, u2_n, u2_s]
      rw [q6, e4]
      exact gb.2.2
/-- and a stream's -/
theorem R_growStream (hV : mV μ) (hR : kRel κ μ O) {s i : Int} (h1 : 0 ≤ s) (h2 : s ≤ 1) (h3 : 0 ≤ i) (h4 : i < 256) (hp : κ 190 (mj s i) = 1) (hz : κ 100 (mj s i) = 0) : kRel (s_growGrant κ s i) (s_growStream μ s i) O ∧ iG (s_growGrant κ s i) s i := by
  have hB := hR.B h1 h2 h3 h4
  obtain ⟨b1, b2', b3⟩ := hB.2.1 hp
  obtain ⟨t1, t2, t3, t4, t5, t6, t7, t8, t9, t10, t11, t12⟩ := b1
  have v30 : 0 ≤ μ 30 (mj s i) ∧ μ 30 (mj s i) ≤ 65536 := hV 30 (mj s i)
  rw [growStream_e hV]
  unfold s_growGrant
  rw [if_pos hz, t1, t4, t5]
  by_cases a : v_grownGrant (μ 27 (mj s i)) (μ 6 (mg s i).toNat) (μ 30 (mj s i)) ≤ μ 30 (mj s i)
  · rw [if_pos a, if_pos a]
    refine ⟨hR, fun _ _ => ?_⟩
    rw [t1, t4, t5]
    exact a
  · rw [if_neg a, if_neg a]
    have gb := grown_b (c := μ 27 (mj s i)) (g := μ 6 (mg s i).toNat) v30.1 v30.2
    refine ⟨Rel_B hV hR h1 h2 h3 h4 (fun f k x => by rw [u2_n (by omega), u2_n (by omega)]) (fun f k x y => by rw [u2_n (by omega), u2_n (by omega)]) ?_, ?_⟩
    · refine rB_f hB hp (fun f x => by rw [u2_n (by omega), u2_n (by omega)]) (fun f k x => by rw [u2_n (by omega), u2_n (by omega)]) (fun f x => by rw [u2_n (by omega), u2_n (by omega)]) (by rw [mX_u (by decide), mX_u (by decide)]) ?_
      unfold rB1
      simp (disch := omega) only [u2_f, u2_n, u2_s]
      exact ⟨t1, t2, t3, t4, trivial, trivial, t7, t8, t9, t10, t11, t12⟩
    · intro _ _
      simp (disch := omega) only [u2_f, u2_n, u2_s]
      rw [t1, t4]
      exact gb.2.2
/-- when a stream is over -/
theorem looksOver_e (s i : Int) : s_looksOver μ s i = if ¬ i % 2 = s ∧ μ 35 (mj s i) = 0 ∧ ¬ μ 17 (mj s i) = 0 ∧ 2 < v_receiving μ s i ∧ ((i / 2 % 2 = 0 ∨ i % 2 = s) → mSend μ s i = 2 ∨ mSend μ s i = 4) then (if μ 10 ((2 * s) + (i / 2 % 2)).toNat = 64 then u2 μ 35 (mj s i) 1 else u2 (u2 (u2 μ 35 (mj s i) 1) 10 ((2 * s) + (i / 2 % 2)).toNat (μ 10 ((2 * s) + (i / 2 % 2)).toNat + 1)) 13 ((2 * s) + (i / 2 % 2)).toNat 1) else μ := by
  unfold s_looksOver
  by_cases a : i % 2 = s
  · rw [if_pos a, if_neg (show ¬ (¬ i % 2 = s ∧ μ 35 (mj s i) = 0 ∧ ¬ μ 17 (mj s i) = 0 ∧ 2 < v_receiving μ s i ∧ ((i / 2 % 2 = 0 ∨ i % 2 = s) → mSend μ s i = 2 ∨ mSend μ s i = 4)) from fun z => z.1 a)]
  · rw [if_neg a]
    by_cases b : μ 35 (mj s i) = 0
    · rw [if_pos b]
      by_cases c : μ 17 (mj s i) = 0
      · rw [if_pos c, if_neg (show ¬ (¬ i % 2 = s ∧ μ 35 (mj s i) = 0 ∧ ¬ μ 17 (mj s i) = 0 ∧ 2 < v_receiving μ s i ∧ ((i / 2 % 2 = 0 ∨ i % 2 = s) → mSend μ s i = 2 ∨ mSend μ s i = 4)) from fun z => z.2.2.1 c)]
      · rw [if_neg c, if_pos (Or.inr a)]
        by_cases d : v_receiving μ s i ≤ 2
        · rw [if_pos d, if_neg (show ¬ (¬ i % 2 = s ∧ μ 35 (mj s i) = 0 ∧ ¬ μ 17 (mj s i) = 0 ∧ 2 < v_receiving μ s i ∧ ((i / 2 % 2 = 0 ∨ i % 2 = s) → mSend μ s i = 2 ∨ mSend μ s i = 4)) from fun z => absurd z.2.2.2.1 (by omega))]
          split
          · split
            · rfl
            · split <;> rfl
          · rfl
        · rw [if_neg d]
          by_cases e : i / 2 % 2 = 0 ∨ i % 2 = s
          · rw [if_pos e]
            by_cases f : mSend μ s i = 2
            · rw [if_pos f, if_pos (show ¬ i % 2 = s ∧ μ 35 (mj s i) = 0 ∧ ¬ μ 17 (mj s i) = 0 ∧ 2 < v_receiving μ s i ∧ ((i / 2 % 2 = 0 ∨ i % 2 = s) → mSend μ s i = 2 ∨ mSend μ s i = 4) from ⟨a, b, c, by omega, fun _ => Or.inl f⟩)]
            · rw [if_neg f]
              by_cases g : mSend μ s i = 4
              · rw [if_pos g, if_pos (show ¬ i % 2 = s ∧ μ 35 (mj s i) = 0 ∧ ¬ μ 17 (mj s i) = 0 ∧ 2 < v_receiving μ s i ∧ ((i / 2 % 2 = 0 ∨ i % 2 = s) → mSend μ s i = 2 ∨ mSend μ s i = 4) from ⟨a, b, c, by omega, fun _ => Or.inr g⟩)]
              · rw [if_neg g, if_neg (show ¬ (¬ i % 2 = s ∧ μ 35 (mj s i) = 0 ∧ ¬ μ 17 (mj s i) = 0 ∧ 2 < v_receiving μ s i ∧ ((i / 2 % 2 = 0 ∨ i % 2 = s) → mSend μ s i = 2 ∨ mSend μ s i = 4)) from fun z => (z.2.2.2.2 e).elim f g)]
          · rw [if_neg e, if_pos (show ¬ i % 2 = s ∧ μ 35 (mj s i) = 0 ∧ ¬ μ 17 (mj s i) = 0 ∧ 2 < v_receiving μ s i ∧ ((i / 2 % 2 = 0 ∨ i % 2 = s) → mSend μ s i = 2 ∨ mSend μ s i = 4) from ⟨a, b, c, by omega, fun z => absurd z e⟩)]
    · rw [if_neg b, if_neg (show ¬ (¬ i % 2 = s ∧ μ 35 (mj s i) = 0 ∧ ¬ μ 17 (mj s i) = 0 ∧ 2 < v_receiving μ s i ∧ ((i / 2 % 2 = 0 ∨ i % 2 = s) → mSend μ s i = 2 ∨ mSend μ s i = 4)) from fun z => b z.2.1)]
theorem growIfOver_e (s i : Int) : s_growIfOver κ s i = if κ 190 (mj s i) = 1 ∧ ¬ i % 2 = s ∧ κ 113 (mj s i) = 0 ∧ (κ 100 (mj s i) = 3 ∨ κ 100 (mj s i) = 4) ∧ (κ 290 (mj s i) = 1 → κ 200 (mj s i) = 2 ∨ κ 200 (mj s i) = 4) then (if 64 ≤ κ 360 ((16 * s) + (8 + v_kWayOf i)).toNat then u2 κ 113 (mj s i) 1 else u2 (u2 (u2 κ 113 (mj s i) 1) 360 ((16 * s) + (8 + v_kWayOf i)).toNat (κ 360 ((16 * s) + (8 + v_kWayOf i)).toNat + 1)) 405 ((2 * s) + v_kWayOf i).toNat 1) else κ := by
  have o1 : v_isOver κ s i = 0 ↔ ¬ ((κ 100 (mj s i) = 3 ∨ κ 100 (mj s i) = 4) ∧ (κ 200 (mj s i) = 2 ∨ κ 200 (mj s i) = 4)) := by
    unfold v_isOver
    repeat' split
    all_goals omega
  have o2 : v_isOverN κ s i = 0 ↔ ¬ (κ 100 (mj s i) = 3 ∨ κ 100 (mj s i) = 4) := by
    unfold v_isOverN
    repeat' split
    all_goals omega
  unfold s_growIfOver
  by_cases a : κ 190 (mj s i) = 1
  · rw [if_pos a]
    by_cases b : i % 2 = s
    · rw [if_pos b, if_neg (show ¬ (κ 190 (mj s i) = 1 ∧ ¬ i % 2 = s ∧ κ 113 (mj s i) = 0 ∧ (κ 100 (mj s i) = 3 ∨ κ 100 (mj s i) = 4) ∧ (κ 290 (mj s i) = 1 → κ 200 (mj s i) = 2 ∨ κ 200 (mj s i) = 4)) from fun z => z.2.1 b)]
    · rw [if_neg b]
      by_cases c : κ 113 (mj s i) = 0
      · rw [if_pos c]
        by_cases d : κ 290 (mj s i) = 1
        · rw [if_pos d]
          by_cases e : v_isOver κ s i = 0
          · rw [if_pos e, if_neg (show ¬ (κ 190 (mj s i) = 1 ∧ ¬ i % 2 = s ∧ κ 113 (mj s i) = 0 ∧ (κ 100 (mj s i) = 3 ∨ κ 100 (mj s i) = 4) ∧ (κ 290 (mj s i) = 1 → κ 200 (mj s i) = 2 ∨ κ 200 (mj s i) = 4)) from fun z => (o1.mp e) ⟨z.2.2.2.1, z.2.2.2.2 d⟩)]
          · rw [if_neg e]
            have := Classical.not_not.mp (fun z => e (o1.mpr z))
            rw [if_pos (show κ 190 (mj s i) = 1 ∧ ¬ i % 2 = s ∧ κ 113 (mj s i) = 0 ∧ (κ 100 (mj s i) = 3 ∨ κ 100 (mj s i) = 4) ∧ (κ 290 (mj s i) = 1 → κ 200 (mj s i) = 2 ∨ κ 200 (mj s i) = 4) from ⟨a, b, c, this.1, fun _ => this.2⟩)]
        · rw [if_neg d]
          by_cases e : v_isOverN κ s i = 0
          · rw [if_pos e, if_neg (show ¬ (κ 190 (mj s i) = 1 ∧ ¬ i % 2 = s ∧ κ 113 (mj s i) = 0 ∧ (κ 100 (mj s i) = 3 ∨ κ 100 (mj s i) = 4) ∧ (κ 290 (mj s i) = 1 → κ 200 (mj s i) = 2 ∨ κ 200 (mj s i) = 4)) from fun z => (o2.mp e) z.2.2.2.1)]
          · rw [if_neg e]
            have := Classical.not_not.mp (fun z => e (o2.mpr z))
            rw [if_pos (show κ 190 (mj s i) = 1 ∧ ¬ i % 2 = s ∧ κ 113 (mj s i) = 0 ∧ (κ 100 (mj s i) = 3 ∨ κ 100 (mj s i) = 4) ∧ (κ 290 (mj s i) = 1 → κ 200 (mj s i) = 2 ∨ κ 200 (mj s i) = 4) from ⟨a, b, c, this, fun z => absurd z d⟩)]
      · rw [if_neg c, if_neg (show ¬ (κ 190 (mj s i) = 1 ∧ ¬ i % 2 = s ∧ κ 113 (mj s i) = 0 ∧ (κ 100 (mj s i) = 3 ∨ κ 100 (mj s i) = 4) ∧ (κ 290 (mj s i) = 1 → κ 200 (mj s i) = 2 ∨ κ 200 (mj s i) = 4)) from fun z => c z.2.2.1)]
  · rw [if_neg a, if_neg (show ¬ (κ 190 (mj s i) = 1 ∧ ¬ i % 2 = s ∧ κ 113 (mj s i) = 0 ∧ (κ 100 (mj s i) = 3 ∨ κ 100 (mj s i) = 4) ∧ (κ 290 (mj s i) = 1 → κ 200 (mj s i) = 2 ∨ κ 200 (mj s i) = 4)) from fun z => a z.1)]
    split <;> rfl
theorem over_iff (hV : mV μ) (hR : kRel κ μ O) {s i : Int} (h1 : 0 ≤ s) (h2 : s ≤ 1) (h3 : 0 ≤ i) (h4 : i < 256) (k204 : 0 ≤ κ 204 (mj s i)) :
    (κ 190 (mj s i) = 1 ∧ ¬ i % 2 = s ∧ κ 113 (mj s i) = 0 ∧ (κ 100 (mj s i) = 3 ∨ κ 100 (mj s i) = 4) ∧ (κ 290 (mj s i) = 1 → κ 200 (mj s i) = 2 ∨ κ 200 (mj s i) = 4)) ↔ (¬ i % 2 = s ∧ μ 35 (mj s i) = 0 ∧ ¬ μ 17 (mj s i) = 0 ∧ 2 < v_receiving μ s i ∧ ((i / 2 % 2 = 0 ∨ i % 2 = s) → mSend μ s i = 2 ∨ mSend μ s i = 4)) := by
  have hB := hR.B h1 h2 h3 h4
  have hA := hR.A h1 h2 h3 h4
  have v17 : 0 ≤ μ 17 (mj s i) ∧ μ 17 (mj s i) ≤ 1 := hV 17 (mj s i)
  by_cases b : i % 2 = s
  · exact ⟨fun z => absurd b z.2.1, fun z => absurd b z.1⟩
  · by_cases c : κ 190 (mj s i) = 1
    · have m17 := (hB.1.mp c).1
      have hv := rB_recv hV h1 hB c
      have t11 := (hB.2.1 c).1.2.2.2.2.2.2.2.2.2.2.1
      have hb := v_receiving_b μ s i
      rw [hv] at hb ⊢
      by_cases d : κ 290 (mj s i) = 1
      · have hs := rA_send hV k204 h1 hA d
        have sn := (hA.1.mp d).2
        rw [hs]
        exact ⟨fun z => ⟨b, by omega, by omega, by omega, fun _ => z.2.2.2.2 d⟩, fun z => ⟨c, b, by omega, by omega, fun _ => z.2.2.2.2 sn⟩⟩
      · have sn : ¬ (i / 2 % 2 = 0 ∨ i % 2 = s) := fun z => d (hA.1.mpr ⟨m17, z⟩)
        exact ⟨fun z => ⟨b, by omega, by omega, by omega, fun y => absurd y sn⟩, fun z => ⟨c, b, by omega, by omega, fun y => absurd y d⟩⟩
    · refine ⟨fun z => absurd z.1 c, fun z => absurd (hB.1.mpr ⟨by omega, Or.inr b⟩) c⟩
theorem R_over (hV : mV μ) (hR : kRel κ μ O) {s i : Int} (h1 : 0 ≤ s) (h2 : s ≤ 1) (h3 : 0 ≤ i) (h4 : i < 256) (k204 : 0 ≤ κ 204 (mj s i)) (k113 : 0 ≤ κ 113 (mj s i) ∧ κ 113 (mj s i) ≤ 1)
    (hO : κ 190 (mj s i) = 1 → ¬ i % 2 = s → κ 113 (mj s i) = 1 → (κ 100 (mj s i) = 3 ∨ κ 100 (mj s i) = 4) ∧ (κ 290 (mj s i) = 1 → κ 200 (mj s i) = 2 ∨ κ 200 (mj s i) = 4)) : kRel (s_growIfOver κ s i) (s_looksOver μ s i) O ∧ iO (s_growIfOver κ s i) s i := by
  have hB := hR.B h1 h2 h3 h4
  have hA := hR.A h1 h2 h3 h4
  have hi := over_iff hV hR h1 h2 h3 h4 k204
  have hwy : v_kWayOf i = i / 2 % 2 := (kWayOf_b h3).1
  rw [looksOver_e, growIfOver_e]
  by_cases a : κ 190 (mj s i) = 1 ∧ ¬ i % 2 = s ∧ κ 113 (mj s i) = 0 ∧ (κ 100 (mj s i) = 3 ∨ κ 100 (mj s i) = 4) ∧ (κ 290 (mj s i) = 1 → κ 200 (mj s i) = 2 ∨ κ 200 (mj s i) = 4)
  · rw [if_pos a, if_pos (hi.mp a), hwy]
    obtain ⟨w1, w2, w3, w4, w5, w6, w7, w8, w9, w10, w11, w12⟩ := hR.W (w := i / 2 % 2) h1 h2 (by omega) (by omega)
    obtain ⟨b1, b2', b3⟩ := hB.2.1 a.1
    by_cases c : μ 10 ((2 * s) + (i / 2 % 2)).toNat = 64
    · rw [if_pos c, if_pos (by omega)]
      refine ⟨Rel_B hV hR h1 h2 h3 h4 (fun f k x => u2_n (by omega)) (fun f k x y => u2_n (by omega)) ?_, ?_⟩
      · refine rB_f hB a.1 (fun f x => u2_n (by omega)) (fun f k x => u2_n (by omega)) (fun f x => u2_n (by omega)) (mX_u (by decide)) ?_
        obtain ⟨t1, t2, t3, t4, t5, t6, t7, t8, t9, t10, t11, t12⟩ := b1
        unfold rB1
        simp (disch := omega) only [u2_f, u2_s]
        exact ⟨t1, t2, t3, t4, t5, t6, t7, t8, t9, t10, trivial, t12⟩
      · intro _ _
        simp (disch := omega) only [u2_f, u2_s]
        exact ⟨fun _ => ⟨a.2.2.2.1, a.2.2.2.2⟩, fun _ => trivial⟩
    · rw [if_neg c, if_neg (by omega)]
      have v35 : ∀ f k, ¬ (f = 35 ∧ k = mj s i) → ¬ (f = 10 ∧ k = (2 * s + i / 2 % 2).toNat) → ¬ (f = 13 ∧ k = (2 * s + i / 2 % 2).toNat) → (u2 (u2 (u2 μ 35 (mj s i) 1) 10 ((2 * s) + (i / 2 % 2)).toNat (μ 10 ((2 * s) + (i / 2 % 2)).toNat + 1)) 13 ((2 * s) + (i / 2 % 2)).toNat 1) f k = μ f k := fun f k x y z => by rw [u2_n z, u2_n y, u2_n x]
      have w35 : ∀ f k, ¬ (f = 113 ∧ k = mj s i) → ¬ (f = 360 ∧ k = (16 * s + (8 + i / 2 % 2)).toNat) → ¬ (f = 405 ∧ k = (2 * s + i / 2 % 2).toNat) → (u2 (u2 (u2 κ 113 (mj s i) 1) 360 ((16 * s) + (8 + i / 2 % 2)).toNat (κ 360 ((16 * s) + (8 + i / 2 % 2)).toNat + 1)) 405 ((2 * s) + i / 2 % 2).toNat 1) f k = κ f k := fun f k x y z => by rw [u2_n z, u2_n y, u2_n x]
      refine ⟨Rel_st hV hR h1 h2 h3 h4 (fun f k x => w35 f k (by unfold kCh at x; omega) (by unfold kCh at x; omega) (by unfold kCh at x; omega)) (fun f k x => v35 f k (by unfold mCh at x; omega) (by unfold mCh at x; omega) (by unfold mCh at x; omega)) (by rw [w35 _ _ (by omega) (by omega) (by omega)]; exact Int.le_refl _) (fun _ _ => rfl) (by rw [w35 _ _ (by omega) (by omega) (by omega)]; exact Int.le_refl _) (fun _ => by rw [w35 _ _ (by omega) (by omega) (by omega)]; exact Int.le_refl _) (fun x => by rw [v35 _ _ (by omega) (by omega) (by omega)]; exact x) (fun t j _ _ _ _ _ => by rw [mX_u (by decide), mX_u (by decide), mX_u (by decide)]) (mHz_cg (fun f k x => v35 _ _ (by omega) (by omega) (by omega)) hR.2.2.2) ?_ ?_ ?_ ?_, ?_⟩
      · refine rS_cg h1 h2 (fun f x y => w35 _ _ (by omega) (by omega) (by omega)) (fun f k x y z => w35 _ _ (by omega) (by omega) (by omega)) (fun f x => v35 _ _ (by omega) (by omega) (by omega)) (v35 _ _ (by omega) (by omega) (by omega)) (v35 _ _ (by omega) (by omega) (by omega)) (v35 _ _ (by omega) (by omega) (by omega)) (fun k => v35 _ _ (by omega) (by omega) (by omega)) (fun j _ _ => v35 _ _ (by omega) (by omega) (by omega)) ?_ (by rw [v_received_u (by decide), v_received_u (by decide), v_received_u (by decide)]) (by rw [v_consumed_u (by decide), v_consumed_u (by decide), v_consumed_u (by decide)]) (hR.S h1 h2)
        rw [mTot_cg (μ' := μ) (fun k => v35 _ _ (by omega) (by omega) (by omega))]
        exact mAll_cgr _ (fun q _ => v35 _ _ (by omega) (by omega) (by omega))
      · intro w x0 x1
        by_cases y : w = i / 2 % 2
        · subst y
          unfold rW
          simp (disch := omega) only [u2_f, u2_s]
          exact ⟨w1, w2, w3, w4, trivial, by omega, by omega, w8, w9, w10, w11, fun z => by
            have := w12 z
            have hq := (hR.S h1 h2).2.2.2.2.2.2.2.2.2.2.2.2.2.2 z
            have := hq.2 i h3 h4
            have := (hB.1.mp a.1).1
            omega⟩
        · exact rW_cg h1 h2 x0 x1 (fun f p q => w35 _ _ (by omega) (by omega) (by omega)) (w35 _ _ (by omega) (by omega) (by omega)) (fun f p => v35 _ _ (by omega) (by omega) (by omega)) (v35 _ _ (by omega) (by omega) (by omega)) (v35 _ _ (by omega) (by omega) (by omega)) (v35 _ _ (by omega) (by omega) (by omega)) (v35 _ _ (by omega) (by omega) (by omega)) (hR.W h1 h2 x0 x1)
      · have hAm := rA_m (μ := μ) (μ' := (u2 (u2 (u2 μ 35 (mj s i) 1) 10 ((2 * s) + (i / 2 % 2)).toNat (μ 10 ((2 * s) + (i / 2 % 2)).toNat + 1)) 13 ((2 * s) + (i / 2 % 2)).toNat 1)) (s := s) (i := i) (fun f x y k => v35 _ _ (by omega) (by omega) (by omega))
        exact rA_cg (fun f x => w35 _ _ (by omega) (by omega) (by omega)) (fun r x y z => ⟨w35 _ _ (by omega) (by omega) (by omega), w35 _ _ (by omega) (by omega) (by omega), rfl, fun o => w35 _ _ (by omega) (by omega) (by omega)⟩) (by rw [w35 _ _ (by omega) (by omega) (by omega)]; exact Int.le_refl _) (fun f x y => v35 _ _ (by omega) (by omega) (by omega)) hAm.1 hAm.2 hA
      · refine rB_f hB a.1 (fun f x => w35 _ _ (by omega) (by omega) (by omega)) (fun f k x => w35 _ _ (by omega) (by omega) (by omega)) (fun f x => v35 _ _ (by omega) (by omega) (by omega)) (by rw [mX_u (by decide), mX_u (by decide), mX_u (by decide)]) ?_
        obtain ⟨t1, t2, t3, t4, t5, t6, t7, t8, t9, t10, t11, t12⟩ := b1
        unfold rB1
        simp (disch := omega) only [u2_f, u2_s]
        exact ⟨t1, t2, t3, t4, t5, t6, t7, t8, t9, t10, trivial, t12⟩
      · intro _ _
        simp (disch := omega) only [u2_f, u2_s]
        exact ⟨fun _ => ⟨a.2.2.2.1, a.2.2.2.2⟩, fun _ => trivial⟩
  · rw [if_neg a, if_neg (fun z => a (hi.mpr z))]
    refine ⟨hR, fun x y => ⟨hO x y, fun z => ?_⟩⟩
    by_cases w : κ 113 (mj s i) = 1
    · exact w
    · exact absurd ⟨x, y, by omega, z.1, z.2⟩ a
end R13
