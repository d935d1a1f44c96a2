section R23
variable {κ μ κ' μ' κ1 : Nat → Nat → Int} {O O' : Nat → Nat}
theorem tape_0 (hV : mV μ) (hR : kRel κ μ O) : kRel (u2 κ 505 0 0) (u2 (u2 μ 0 0 0) 3 0 0) O := by
  refine Rel_H hV hR (fun f k x y => u2_n (by omega)) (fun f k x y => by rw [u2_n (by omega), u2_n (by omega)]) ?_
  obtain ⟨q1, q2, q3, q4, q5, q6, q7, q8⟩ := hR.1
  unfold rH
  simp (disch := omega) only [u2_f, u2_n, u2_s]
  exact ⟨trivial, q2, q3, fun j hj => absurd hj (by omega), q5, q6, q7, q8⟩
theorem R_write (hV : mV μ) (hK : kV κ) (hR : kRel κ μ O) (hI : kInv κ) (s i : Int) (hV' : mV (s_write μ s i)) : s_write μ s i 0 0 = kR 1 (e_kWrite κ s i) ∧ (e_kWrite κ s i = 0 → v_write μ s i = v_kWrite κ s i ∧ ∃ O', kRel (s_kWrite κ s i) (s_write μ s i) O' ∧ kInv (s_kWrite κ s i)) ∧ (¬ e_kWrite κ s i = 0 → kRel κ (s_write μ s i) O) ∧ (mLi μ → mLi (s_write μ s i)) := by
  rcases sideAt_c (κ := κ) s with ⟨e, h1, h2⟩ | ⟨e, h⟩
  · have hns : ¬ (s < 0 ∨ 1 < s) := by omega
    have hb : b2 (s < 0 ∨ 1 < s) = 0 := if_neg (by omega)
    have eE : e_kWrite κ s i = 0 := by unfold e_kWrite; rw [if_pos e]
    rw [eE]
    have w17 : ∀ k, (u2 (u2 μ 0 0 0) 3 0 0) 17 k = μ 17 k := fun k => by rw [u2_f (by decide), u2_f (by decide)]
    have x290 : ∀ f k, f ≠ 505 → (u2 κ 505 0 0) f k = κ f k := fun f k z => u2_f z
    have nil : s_write μ s i = u2 (u2 μ 0 0 0) 3 0 0 → v_write μ s i = -1 → s_kWrite κ s i = u2 κ 505 0 0 → v_kWrite κ s i = -1 → s_write μ s i 0 0 = kR 1 0 ∧ ((0 : Int) = 0 → v_write μ s i = v_kWrite κ s i ∧ ∃ O', kRel (s_kWrite κ s i) (s_write μ s i) O' ∧ kInv (s_kWrite κ s i)) ∧ (¬ (0 : Int) = 0 → kRel κ (s_write μ s i) O) ∧ (mLi μ → mLi (s_write μ s i)) := fun x y z w => by
      rw [x, y, z, w]
      exact ⟨by rw [u2_f (by decide), u2_s]; rfl, fun _ => ⟨rfl, O, tape_0 hV hR, Inv_cg hI (fun f k z => u2_f (by omega)) (fun k z => u2_f (by omega))⟩, fun z => absurd rfl z, fun hL => mLi_u (by decide) (mLi_u (by decide) hL)⟩
    by_cases hp : 0 ≤ i ∧ i < 256 ∧ κ 290 (mj s i) = 1
    · have hq := (hasA hR i h1 h2).mp hp
      have hA := hR.A h1 h2 hp.1 hp.2.1
      have hsd := rA_send hV (hK.1 204 _).1 h1 hA hp.2.2
      have hp' : 0 ≤ i ∧ i < 256 ∧ (u2 κ 505 0 0) 290 (mj s i) = 1 := by rw [x290 _ _ (by decide)]; exact hp
      by_cases hz : κ 200 (mj s i) = 0
      · have hz' : (u2 κ 505 0 0) 200 (mj s i) = 0 := by rw [x290 _ _ (by decide)]; exact hz
        obtain ⟨q1, _⟩ := hR.S h1 h2
        have v36 : 0 ≤ μ 36 s.toNat ∧ μ 36 s.toNat ≤ 65536 := hV 36 _
        have e5 : κ 505 0 = μ 3 0 := hR.1.1
        have v3 : 0 ≤ μ 3 0 ∧ μ 3 0 ≤ 2048 := hV 3 0
        have hn : 0 ≤ v_minI (κ 505 0) (65536 - κ 308 s.toNat) ∧ v_minI (κ 505 0) (65536 - κ 308 s.toNat) ≤ κ 505 0 ∧ v_minI (κ 505 0) (65536 - κ 308 s.toNat) ≤ 65536 - κ 308 s.toNat ∧ (v_minI (κ 505 0) (65536 - κ 308 s.toNat) = κ 505 0 ∨ v_minI (κ 505 0) (65536 - κ 308 s.toNat) = 65536 - κ 308 s.toNat) := by
          unfold v_minI
          split <;> omega
        have eS : s_write μ s i = s_write_28 μ s i 2049 0 (μ 3 0) (u2 (u2 μ 0 0 0) 3 0 0) := by
          simp only [s_write, if_neg hns, hb, if_true, w17, if_pos hq, hsd, if_pos hz]
        have eV : v_write μ s i = v_write_28 μ s i 2049 0 (μ 3 0) (u2 (u2 μ 0 0 0) 3 0 0) := by
          simp only [v_write, if_neg hns, hb, if_true, w17, if_pos hq, hsd, if_pos hz]
        have eK : s_kWrite κ s i = u2 (s_append (u2 κ 505 0 0) s i 0 (v_minI (κ 505 0) (65536 - κ 308 s.toNat))) 308 s.toNat (κ 308 s.toNat + v_minI (κ 505 0) (65536 - κ 308 s.toNat)) := by
          simp only [s_kWrite, if_pos e, s_accept, if_pos hp', if_pos hz']
          rw [x290 308 _ (by decide)]
        have eW : v_kWrite κ s i = v_minI (κ 505 0) (65536 - κ 308 s.toNat) := by
          simp only [v_kWrite, if_pos e, v_accept, if_pos hp', if_pos hz']
          rw [x290 308 _ (by decide)]
        rw [eK, eW]
        generalize v_minI (κ 505 0) (65536 - κ 308 s.toNat) = n at hn
        have t36 : (u2 (u2 μ 0 0 0) 3 0 0) 36 s.toNat = μ 36 s.toNat := by rw [u2_f (by decide), u2_f (by decide)]
        obtain ⟨l1, l2⟩ := write_l (μ := μ) (i := i) h1 2049 n.toNat 0 (μ 3 0) (u2 (u2 μ 0 0 0) 3 0 0) (by omega) (by omega) (by rw [t36]; omega) (by omega) (by rw [t36]; omega) (by rw [t36]; omega)
        rw [← eS] at l2
        rw [← eV] at l1
        have hV0 : mV (u2 (u2 μ 0 0 0) 3 0 0) := (hV.u (f := 0) (by decide)).u (f := 3) (by decide)
        have hR0 := tape_0 hV hR
        have hI0 : kInv (u2 κ 505 0 0) := Inv_cg hI (fun f k z => u2_f (by omega)) (fun k z => u2_f (by omega))
        have hK0 : kV (u2 κ 505 0 0) := hK.u (f := 505) (by decide) (by decide)
        obtain ⟨a1, a2, a3⟩ := hA.2.1 hp.2.2
        obtain ⟨⟨r1, r2, r3, r4⟩, ⟨r5, r6, r7, r8⟩, r9, r10, r11⟩ := a2
        have c4 := a3.2.2.2.1
        have hw1 : κ 203 (mj s i) = mW μ s i := a1.1
        have hwle := mW_le hV s i
        obtain ⟨R1, R2, hap⟩ := append_s (κ := u2 κ 505 0 0) (s := s) (i := i) (n := n) (by rw [x290 _ _ (by decide)]; exact hR.1.2.2.2.2.2.2.2) hn.1 (by rw [x290 _ _ (by decide)]; exact (hK.1 203 _).1) (by rw [x290 _ _ (by decide)]; exact (hK.1 204 _).1) (by rw [x290 _ _ (by decide)]; omega) (by rw [x290 _ _ (by decide)]; exact r1) (by rw [x290 _ _ (by decide), x290 _ _ (by decide)]; exact r2) (by rw [x290 _ _ (by decide)]; exact r5) (by rw [x290 _ _ (by decide), x290 _ _ (by decide)]; exact r6) (by rw [x290 _ _ (by decide), x290 _ _ (by decide)]; intro z; rw [z, r8] at r4; omega) (by rw [x290 201 _ (by decide), x290 601 _ (by decide)]; exact r3) (by rw [x290 202 _ (by decide), x290 601 _ (by decide)]; exact r7) (by rw [x290 201 _ (by decide), x290 202 _ (by decide), x290 600 _ (by decide), x290 600 _ (by decide)]; exact r9) (by rw [x290 201 _ (by decide), x290 203 _ (by decide), x290 600 _ (by decide)]; exact r10) (by rw [x290 201 _ (by decide), x290 203 _ (by decide), x290 600 _ (by decide)]; exact r11) (by rw [x290 201 _ (by decide), x290 600 _ (by decide)]; exact (hK.1 600 _).2 rfl) (fun o z => by rw [x290 204 _ (by decide)] at z; rw [x290 202 _ (by decide), x290 _ _ (by omega)]; exact c4 o z)
        have fin := write_A (κ' := u2 (s_append (u2 κ 505 0 0) s i 0 n) 308 s.toNat (κ 308 s.toNat + n)) hV0 hV' hR0 hI0 hK0 h1 h2 hp.1 hp.2.1 hp'.2.2 hz' hn.1 (m := n.toNat) (by omega) hap l2 (fun j hj => by
          rw [x290 _ _ (by decide), u2_f (by decide), u2_f (by decide)]
          exact hR.1.2.2.2.1 j (by omega)) (fun f k z => u2_n z) (by rw [u2_s, x290 _ _ (by decide)])
        refine ⟨?_, fun _ => ⟨by omega, _, fin⟩, fun z => absurd rfl z, fun hL => wr_Li hV0 h1 h2 l2 (mLi_u (by decide) (mLi_u (by decide) hL))⟩
        have := l2.2.2.2 0 0 (by omega) (by omega)
        rw [this, u2_f (by decide), u2_s]
        rfl
      · have hz' : ¬ (u2 κ 505 0 0) 200 (mj s i) = 0 := by rw [x290 _ _ (by decide)]; exact hz
        refine nil ?_ ?_ ?_ ?_
        · simp only [s_write, if_neg hns, hb, if_true, w17, if_pos hq, hsd, if_neg hz]
        · simp only [v_write, if_neg hns, hb, if_true, w17, if_pos hq, hsd, if_neg hz]
        · simp only [s_kWrite, if_pos e, s_accept, if_pos hp', if_neg hz']
        · simp only [v_kWrite, if_pos e, v_accept, if_pos hp', if_neg hz']
    · have hq : ¬ ((0 ≤ i ∧ i < 256 ∧ μ 17 (mj s i) = 1) ∧ (i / 2 % 2 = 0 ∨ i % 2 = s)) := fun z => hp ((hasA hR i h1 h2).mpr z)
      have hp' : ¬ (0 ≤ i ∧ i < 256 ∧ (u2 κ 505 0 0) 290 (mj s i) = 1) := by rw [x290 _ _ (by decide)]; exact hp
      refine nil ?_ ?_ ?_ ?_
      · simp only [s_write, if_neg hns, hb, if_true, w17, if_neg hq]
      · simp only [v_write, if_neg hns, hb, if_true, w17, if_neg hq]
      · simp only [s_kWrite, if_pos e, s_accept, if_neg hp']
      · simp only [v_kWrite, if_pos e, v_accept, if_neg hp']
  · have hb : b2 (s < 0 ∨ 1 < s) = 1 := if_pos h
    have eE : e_kWrite κ s i = 1 := by
      unfold e_kWrite
      rw [if_neg (by omega), e]
    have eS : s_write μ s i = u2 μ 0 0 1 := by
      unfold s_write
      rw [if_pos h, hb]
      rfl
    rw [eE, eS]
    exact ⟨by rw [u2_s]; rfl, fun z => absurd z (by decide), fun _ => Rel_u0 hV hR, fun hL => mLi_u (by decide) hL⟩
end R23
