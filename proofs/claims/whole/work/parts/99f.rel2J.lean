section R37
variable {κ μ κ' μ' κ1 μ1 κc μc : Nat → Nat → Int} {O O' : Nat → Nat}
theorem reaches_1 (hV : mV μ) {s i e p : Int} (hp : p = 0 ∨ p = 1) (h : v_reaches μ s i e p = 0) : e ≤ 65536 ∧ (μ 25 (mj s i) < e → v_received μ s + (e - μ 25 (mj s i)) ≤ μ 11 s.toNat) ∧ (p = 1 → μ 25 (mj s i) ≤ e) ∧ (0 ≤ μ 26 (mj s i) → e ≤ μ 26 (mj s i) ∧ (p = 1 → e = μ 26 (mj s i))) := by
  have r1 : 0 ≤ μ 11 s.toNat ∧ μ 11 s.toNat ≤ 65536 := hV 11 _
  have r2 : 0 ≤ μ 6 (mg s i).toNat ∧ μ 6 (mg s i).toNat ≤ 65536 := hV 6 _
  have r3 : 0 ≤ μ 30 (mj s i) ∧ μ 30 (mj s i) ≤ 65536 := hV 30 _
  unfold v_reaches at h
  repeat' split at h
  all_goals (refine ⟨?_, ?_, ?_, ?_⟩ <;> omega)
theorem v77_0 (s : Int) : ∀ (d : Nat) (j t i : Int) (ν : Nat → Nat → Int), v_takeStream_77 μ s d j t i ν = 0
  | 0, _, _, _, _ => rfl
  | d + 1, j, t, i, ν => by
    rw [v_takeStream_77]
    split
    · rfl
    · split
      · rfl
      · exact v77_0 s d _ _ _ _
theorem comesThere_o {s i : Int} (f k : Nat) (h : f ≠ 9 ∧ f ≠ 17 ∧ f ≠ 18 ∧ f ≠ 30) : s_comesThere μ s i f k = μ f k := s_comesThere_fr (by
  simp only [List.elem_eq_mem, List.mem_cons, List.not_mem_nil, or_false, decide_eq_false_iff_not]
  omega)
theorem makeThere_o {s i : Int} (f k : Nat) (h : f < 100 ∨ (307 ≤ f ∧ f ≤ 403)) : s_makeThere κ s i f k = κ f k := s_makeThere_fr (by
  have h1 : Nat.blt f 1000 = true := by
    rw [Nat.blt_eq]
    omega
  rw [h1, Bool.true_and]
  simp only [List.elem_eq_mem, List.mem_cons, List.not_mem_nil, or_false, Bool.not_eq_true', decide_eq_false_iff_not]
  omega)
/-- the stream is there now -/
theorem there_B (hV : mV μ) (hR : kRel κ μ O) (hI : kInv κ) (hQ : kQ κ) {s i p : Int} (h1 : 0 ≤ s) (h2 : s ≤ 1) (h3 : 0 ≤ i) (h4 : i < 256) (hj : μ 1 0 = 1) (hown : i % 2 = s → μ 17 (mj s i) = 1) (hT : fT κ μ O p) : ∃ O', kRel (s_makeThere κ s i) (s_comesThere μ s i) O' ∧ kInv (s_makeThere κ s i) ∧ kQ (s_makeThere κ s i) ∧ mV (s_comesThere μ s i) ∧ s_comesThere μ s i 17 (mj s i) = 1 ∧ fT (s_makeThere κ s i) (s_comesThere μ s i) O' p := by
  obtain ⟨O', a1, a2, a3, a4, a5, a6⟩ := R_there hV hR hI hQ h1 h2 h3 h4 hj
  refine ⟨O', a1, a2, a3, a4, ?_, fT_mv hT a5 (fun f x y => makeThere_o f _ (by omega)) (fun f k x y => comesThere_o f k (by omega))⟩
  by_cases z : i % 2 = s
  · have : s_comesThere μ s i = μ := by unfold s_comesThere; rw [if_pos z]
    rw [this]; exact hown z
  · exact a6 z
theorem recv_c {s i : Int} : v_receiving (s_comesThere μ s i) s i = v_receiving μ s i := v_receiving_cg (fun f hf k => by
  simp only [List.elem_eq_mem, decide_eq_true_eq, List.mem_cons, List.not_mem_nil, or_false] at hf
  exact comesThere_o f k (by omega))
theorem rec_c {s i : Int} : v_received (s_comesThere μ s i) s = v_received μ s := v_received_cg (fun f hf k => by
  simp only [List.elem_eq_mem, decide_eq_true_eq, List.mem_cons, List.not_mem_nil, or_false] at hf
  exact comesThere_o f k (by omega))
theorem p2_c {s i : Int} (hP : mP2 μ) : mP2 (s_comesThere μ s i) := mP2_cg (fun f hf k => by
  simp only [List.elem_eq_mem, decide_eq_true_eq, List.mem_cons, List.not_mem_nil, or_false] at hf
  exact (comesThere_o f k (by omega)).symm) hP
set_option maxHeartbeats 4000000 in
theorem R_takeStream (hV : mV μ) (hK : kQ κ) (hR : kRel κ μ O) (hI : kInv κ) (hP : mP2 μ) (hj : μ 1 0 = 1) {s p : Int} (h1 : 0 ≤ s) (h2 : s ≤ 1) (hT : fT κ μ O p) (h45 : μ 45 0 = 8) : v_takeStream μ s = v_takeForReceiving κ s p ∧ ∃ O', kRel (s_takeForReceiving κ s p) (s_takeStream μ s) O' ∧ kInv (s_takeForReceiving κ s p) := by
  have hT' := hT
  obtain ⟨a1, a2, a3, a4, a5, a6, a7, a8⟩ := hT
  have v46 : 0 ≤ μ 46 0 := (hV 46 0).1
  have v47 : 0 ≤ μ 47 0 := (hV 47 0).1
  have v49 : 0 ≤ μ 49 0 ∧ μ 49 0 ≤ 2048 := hV 49 0
  obtain ⟨me, m0⟩ := meant_e hV hR (g := 0) h1 h2 v46 (Or.inl rfl)
  have mb := v_meant_b μ s (μ 46 0) 0
  have n21 : ¬ κ 3 p.toNat = 21 := by omega
  have n4 : ¬ κ 3 p.toNat = 4 := by omega
  -- in words of both
  obtain ⟨g, hg⟩ : ∃ g : Int, g = if μ 48 0 = 1 then 1 else 0 := ⟨_, rfl⟩
  have hg01 : g = 0 ∨ g = 1 := by rw [hg]; split <;> omega
  have eVk : v_takeForReceiving κ s p = if v_streamError κ s (μ 46 0) 0 = 0 then (if v_bytesError κ s (μ 46 0) (μ 47 0 + μ 49 0) g = 0 then 0 else v_bytesError κ s (μ 46 0) (μ 47 0 + μ 49 0) g) else v_streamError κ s (μ 46 0) 0 := by
    unfold v_takeForReceiving
    rw [a2, a3, a4, a5, if_neg n21, if_neg n4, hg]
    by_cases c : μ 48 0 = 1
    · simp only [if_pos c, ite_self]
    · simp only [if_neg c, ite_self]
  have eSk : s_takeForReceiving κ s p = if v_streamError κ s (μ 46 0) 0 = 0 then (if v_bytesError κ s (μ 46 0) (μ 47 0 + μ 49 0) g = 0 then (if s_makeThere κ s (μ 46 0) 190 (mj s (μ 46 0)) = 1 then s_reach (s_makeThere κ s (μ 46 0)) s (μ 46 0) p (μ 47 0 + μ 49 0) g else s_makeThere κ s (μ 46 0)) else κ) else κ := by
    unfold s_takeForReceiving
    rw [a2, a3, a4, a5, if_neg n21, if_neg n4, hg]
    by_cases c : μ 48 0 = 1
    · simp only [if_pos c]
    · simp only [if_neg c]
  have eVm : v_takeStream μ s = if v_meant μ s (μ 46 0) 0 ≤ 0 then (if v_reaches μ s (μ 46 0) (μ 47 0 + μ 49 0) g ≤ 0 then 0 else v_reaches μ s (μ 46 0) (μ 47 0 + μ 49 0) g) else v_meant μ s (μ 46 0) 0 := by
    unfold v_takeStream
    simp only [v77_0, ite_self]
    rw [hg]
    by_cases c : μ 48 0 = 1
    · simp only [if_pos c]
    · simp only [if_neg c]
  have eSm : s_takeStream μ s = if v_meant μ s (μ 46 0) 0 ≤ 0 then (if v_reaches μ s (μ 46 0) (μ 47 0 + μ 49 0) g ≤ 0 then s_takeStream_77 μ s 2049 0 (v_receiving μ s (μ 46 0)) (μ 46 0) (if g = 1 then u2 (if μ 47 0 + μ 49 0 ≤ μ 25 (mj s (μ 46 0)) then s_comesThere μ s (μ 46 0) else u2 (s_comesThere μ s (μ 46 0)) 25 (mj s (μ 46 0)) (μ 47 0 + μ 49 0)) 26 (mj s (μ 46 0)) (μ 47 0 + μ 49 0) else (if μ 47 0 + μ 49 0 ≤ μ 25 (mj s (μ 46 0)) then s_comesThere μ s (μ 46 0) else u2 (s_comesThere μ s (μ 46 0)) 25 (mj s (μ 46 0)) (μ 47 0 + μ 49 0))) else μ) else μ := by
    unfold s_takeStream
    rw [hg]
    by_cases c : μ 48 0 = 1
    · simp only [if_pos c, if_true]
      by_cases d : μ 47 0 + μ 49 0 ≤ μ 25 (mj s (μ 46 0))
      · simp only [if_pos d]
      · simp only [if_neg d]
    · simp only [if_neg c, Int.reduceEq, if_false]
      by_cases d : μ 47 0 + μ 49 0 ≤ μ 25 (mj s (μ 46 0))
      · simp only [if_pos d]
      · simp only [if_neg d]
  rw [eVk, eSk, eVm, eSm, me]
  by_cases z : v_streamError κ s (μ 46 0) 0 = 0
  · obtain ⟨i4, hown, hrc, _⟩ := m0 z
    have re := reaches_e (e := μ 47 0 + μ 49 0) (g := g) hV hR h1 h2 v46 i4 (by omega) hg01 (hrc rfl)
    have rbd := v_reaches_b μ s (μ 46 0) (μ 47 0 + μ 49 0) g
    simp only [if_pos z, if_pos (show v_streamError κ s (μ 46 0) 0 ≤ 0 by omega), ← re]
    by_cases y : v_reaches μ s (μ 46 0) (μ 47 0 + μ 49 0) g = 0
    · obtain ⟨w1, w2, w3, w4⟩ := reaches_1 hV hg01 y
      simp only [if_pos y, if_pos (show v_reaches μ s (μ 46 0) (μ 47 0 + μ 49 0) g ≤ 0 by omega)]
      refine ⟨trivial, ?_⟩
      obtain ⟨O', b1, b2', b3, b4, b5, b6⟩ := there_B hV hR hI hK h1 h2 v46 i4 hj hown hT'
      have hp : s_makeThere κ s (μ 46 0) 190 (mj s (μ 46 0)) = 1 := (b1.B h1 h2 v46 i4).1.mpr ⟨b5, hrc rfl⟩
      rw [if_pos hp]
      have c25 : ∀ f k, f ≠ 9 ∧ f ≠ 17 ∧ f ≠ 18 ∧ f ≠ 30 → s_comesThere μ s (μ 46 0) f k = μ f k := fun f k h => comesThere_o f k h
      have v25 : 0 ≤ μ 25 (mj s (μ 46 0)) ∧ μ 25 (mj s (μ 46 0)) ≤ 65536 := hV 25 _
      have r11 : μ 11 s.toNat ≤ 65536 := (hV 11 _).2
      obtain ⟨μ1, hμ1⟩ : ∃ μ1, μ1 = (if g = 1 then u2 (if μ 47 0 + μ 49 0 ≤ μ 25 (mj s (μ 46 0)) then s_comesThere μ s (μ 46 0) else u2 (s_comesThere μ s (μ 46 0)) 25 (mj s (μ 46 0)) (μ 47 0 + μ 49 0)) 26 (mj s (μ 46 0)) (μ 47 0 + μ 49 0) else (if μ 47 0 + μ 49 0 ≤ μ 25 (mj s (μ 46 0)) then s_comesThere μ s (μ 46 0) else u2 (s_comesThere μ s (μ 46 0)) 25 (mj s (μ 46 0)) (μ 47 0 + μ 49 0))) := ⟨_, rfl⟩
      rw [← hμ1]
      have hPx : mP2 (if μ 47 0 + μ 49 0 ≤ μ 25 (mj s (μ 46 0)) then s_comesThere μ s (μ 46 0) else u2 (s_comesThere μ s (μ 46 0)) 25 (mj s (μ 46 0)) (μ 47 0 + μ 49 0)) := by
        split
        · exact p2_c hP
        · rename_i q
          refine high_p2 hP (fun f hf k => ?_) h1 h2 v46 i4 (by omega) (fun q' => by have := w2 q'; omega)
          simp only [List.elem_eq_mem, decide_eq_true_eq, List.mem_cons, List.not_mem_nil, or_false] at hf
          exact (c25 f k (by omega)).symm
      have hVx : mV (if μ 47 0 + μ 49 0 ≤ μ 25 (mj s (μ 46 0)) then s_comesThere μ s (μ 46 0) else u2 (s_comesThere μ s (μ 46 0)) 25 (mj s (μ 46 0)) (μ 47 0 + μ 49 0)) := by
        split
        · exact b4
        · exact b4.u (f := 25) ⟨show (0 : Int) ≤ _ by omega, w1⟩
      have hm1 : ∀ f k, ¬ ((f = 25 ∨ f = 26) ∧ k = mj s (μ 46 0)) → μ1 f k = s_comesThere μ s (μ 46 0) f k := fun f k q => by
        rw [hμ1]
        split
        · rw [u2_n (by omega)]
          split
          · rfl
          · rw [u2_n (by omega)]
        · split
          · rfl
          · rw [u2_n (by omega)]
      have m25 : μ1 25 (mj s (μ 46 0)) = if μ 47 0 + μ 49 0 ≤ s_comesThere μ s (μ 46 0) 25 (mj s (μ 46 0)) then s_comesThere μ s (μ 46 0) 25 (mj s (μ 46 0)) else μ 47 0 + μ 49 0 := by
        rw [c25 25 _ (by decide), hμ1]
        have : (if μ 47 0 + μ 49 0 ≤ μ 25 (mj s (μ 46 0)) then s_comesThere μ s (μ 46 0) else u2 (s_comesThere μ s (μ 46 0)) 25 (mj s (μ 46 0)) (μ 47 0 + μ 49 0)) 25 (mj s (μ 46 0)) = if μ 47 0 + μ 49 0 ≤ μ 25 (mj s (μ 46 0)) then μ 25 (mj s (μ 46 0)) else μ 47 0 + μ 49 0 := by
          split
          · exact c25 25 _ (by decide)
          · exact u2_s _ _ _ _
        split
        · rw [u2_f (by decide)]; exact this
        · exact this
      have m26 : μ1 26 (mj s (μ 46 0)) = if g = 1 then μ 47 0 + μ 49 0 else s_comesThere μ s (μ 46 0) 26 (mj s (μ 46 0)) := by
        rw [hμ1]
        split
        · exact u2_s _ _ _ _
        · split
          · rfl
          · exact u2_f (by decide)
      have hV1 : mV μ1 := by
        rw [hμ1]
        split
        · exact hVx.u (f := 26) ⟨show (-1 : Int) ≤ _ by omega, w1⟩
        · exact hVx
      have hP1 : mP2 μ1 := by
        rw [hμ1]
        split
        · exact mP2_u (by decide) hPx
        · exact hPx
      have ts := take_stream (μ' := μ) (μ1 := μ1) (g := g) (e := μ 47 0 + μ 49 0) b4 b3 b1 b2' (p2_c hP) h1 h2 v46 i4 hp b6 (by rw [makeThere_o _ _ (by omega)]; exact n4) (by rw [c25 48 _ (by decide)]; exact hg) (by rw [c25 47 _ (by decide), c25 49 _ (by decide)]) (by rw [c25 26 _ (by decide)]; exact w4) (by rw [c25 25 _ (by decide)]; exact w3) w1 (by rw [c25 25 _ (by decide), c25 11 _ (by decide), rec_c]; exact w2) hm1 m25 m26 hV1 hP1
      rw [recv_c] at ts
      exact ts
    · simp only [if_neg y, if_neg (show ¬ v_reaches μ s (μ 46 0) (μ 47 0 + μ 49 0) g ≤ 0 by omega)]
      exact ⟨trivial, O, hR, hI⟩
  · simp only [if_neg z, if_neg (show ¬ v_streamError κ s (μ 46 0) 0 ≤ 0 by omega)]
    exact ⟨trivial, O, hR, hI⟩
end R37
