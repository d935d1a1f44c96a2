section R19
variable {κ μ κ' μ' κt : Nat → Nat → Int} {O O' : Nat → Nat}
theorem s_begins_e (s i : Int) : s_begins μ s i = u2 (u2 (u2 μ 17 (mj s i) 1) 30 (mj s i) (μ 6 (mg s i).toNat)) 18 (mj s i) (μ 6 (mg (1 - s) i).toNat) := by
  unfold s_begins
  rw [u2_f (f := 17) (f' := 6) (by decide), u2_f (f := 30) (f' := 6) (by decide), u2_f (f := 17) (f' := 6) (by decide)]
theorem open_w (hV : mV μ) (hR : kRel κ μ O) (hI : kInv κ) (hK : kV κ) {s w : Int} (h1 : 0 ≤ s) (h2 : s ≤ 1) (w0 : 0 ≤ w) (w1 : w ≤ 1) (hj : μ 1 0 = 1) {ν1 ν2 : Nat → Nat → Int}
    (e1 : ν1 = u2 (u2 (u2 μ 0 0 0) 0 0 0) 15 (2 * s + w).toNat 1)
    (e2 : ν2 = s_begins (u2 (u2 (u2 (u2 μ 0 0 0) 0 0 0) 15 (2 * s + w).toNat 0) 8 (2 * s + w).toNat (μ 8 (2 * s + w).toNat + 1)) s (((4 * μ 8 (2 * s + w).toNat) + (2 * w)) + s)) :
    (if μ 7 (((3 * s) + 1) + w).toNat ≤ μ 8 (2 * s + w).toNat then ν1 else (if μ 8 (2 * s + w).toNat = 64 then ν1 else ν2)) 0 0 = 0 ∧
    (if μ 7 (((3 * s) + 1) + w).toNat ≤ μ 8 (2 * s + w).toNat then -1 else (if μ 8 (2 * s + w).toNat = 64 then -1 else (((4 * μ 8 (2 * s + w).toNat) + (2 * w)) + s))) = v_openNext κ s w ∧
    ∃ O', kRel (s_openNext κ s w) (if μ 7 (((3 * s) + 1) + w).toNat ≤ μ 8 (2 * s + w).toNat then ν1 else (if μ 8 (2 * s + w).toNat = 64 then ν1 else ν2)) O' ∧ kInv (s_openNext κ s w) := by
  obtain ⟨q1, q2, q3, q4, q5, q6, q7, q8, q9, q10, q11, q12⟩ := hR.W h1 h2 w0 w1
  have v8 : 0 ≤ μ 8 (2 * s + w).toNat ∧ μ 8 (2 * s + w).toNat ≤ 64 := hV 8 _
  have q2' : κ 401 (2 * s + w).toNat = μ 7 (((3 * s) + 1) + w).toNat := q2
  by_cases c : μ 7 (((3 * s) + 1) + w).toNat ≤ μ 8 (2 * s + w).toNat
  · rw [if_pos c, if_pos c]
    unfold v_openNext s_openNext
    rw [if_neg (by omega), if_neg (by omega)]
    refine ⟨by rw [e1, u2_f (by decide), u2_s], rfl, O, ?_, Inv_cg hI (fun f k z => u2_f (by omega)) (fun k z => u2_f (by omega))⟩
    rw [e1]
    refine Rel_S hV hR h1 h2 (fun f k x y z => u2_n (by omega)) (fun f k x y z w => by rw [u2_n (by omega), u2_n (by omega), u2_n (by omega)]) (by rw [u2_f (by omega)]; exact Int.le_refl _) ?_ ?_
    · refine rS_cg h1 h2 (fun f x y => u2_f (by omega)) (fun f k x y z => u2_f (by omega)) (fun f x => by rw [u2_f (by omega), u2_f (by omega), u2_f (by omega)]) (by rw [u2_f (by omega), u2_f (by omega), u2_f (by omega)]) (by rw [u2_f (by omega), u2_f (by omega), u2_f (by omega)]) (by rw [u2_f (by omega), u2_f (by omega), u2_f (by omega)]) (fun k => by rw [u2_f (by omega), u2_f (by omega), u2_f (by omega)]) (fun j _ _ => by rw [u2_f (by omega), u2_f (by omega), u2_f (by omega)]) ?_ (by rw [v_received_u (by decide), v_received_u (by decide), v_received_u (by decide)]) (by rw [v_consumed_u (by decide), v_consumed_u (by decide), v_consumed_u (by decide)]) (hR.S h1 h2)
      rw [mTot_cg (μ' := μ) (fun k => by rw [u2_f (by omega), u2_f (by omega), u2_f (by omega)])]
      exact mAll_cgr _ (fun q _ => by rw [u2_f (by omega), u2_f (by omega), u2_f (by omega)])
    · intro y y0 y1
      by_cases e : y = w
      · subst e
        unfold rW
        simp (disch := omega) only [u2_f, u2_s]
        exact ⟨q1, q2, q3, q4, q5, q6, q7, q8, q9, Int.le_refl _, by simp only [true_and, true_iff]; omega, fun z => by omega⟩
      · exact rW_cg h1 h2 y0 y1 (fun f a b => u2_n (by omega)) (u2_f (by omega)) (fun f a => by rw [u2_n (by omega), u2_f (by omega), u2_f (by omega)]) (by rw [u2_f (by omega), u2_f (by omega), u2_f (by omega)]) (by rw [u2_f (by omega), u2_f (by omega), u2_f (by omega)]) (by rw [u2_f (by omega), u2_f (by omega), u2_f (by omega)]) (by rw [u2_f (by omega), u2_f (by omega), u2_f (by omega)]) (hR.W h1 h2 y0 y1)
  · have c64 : ¬ μ 8 (2 * s + w).toNat = 64 := by omega
    rw [if_neg c, if_neg c64, if_neg c, if_neg c64]
    unfold v_openNext s_openNext
    rw [if_pos (by omega), if_pos (by omega), q1]
    have hid : (((μ 8 (2 * s + w).toNat) * 4) + (w * 2)) + s = ((4 * μ 8 (2 * s + w).toNat) + (2 * w)) + s := by omega
    rw [hid]
    have hb : 0 ≤ ((4 * μ 8 (2 * s + w).toNat) + (2 * w)) + s ∧ ((4 * μ 8 (2 * s + w).toNat) + (2 * w)) + s < 256 ∧ (((4 * μ 8 (2 * s + w).toNat) + (2 * w)) + s) / 2 % 2 = w ∧ (((4 * μ 8 (2 * s + w).toNat) + (2 * w)) + s) % 2 = s ∧ (((4 * μ 8 (2 * s + w).toNat) + (2 * w)) + s) / 4 = μ 8 (2 * s + w).toNat := by omega
    have e2' : ν2 = s_begins (u2 (u2 (u2 (u2 μ 0 0 0) 0 0 0) 15 (2 * s + w).toNat 0) 8 (2 * s + w).toNat (μ 8 (2 * s + w).toNat + 1)) s (((4 * μ 8 (2 * s + w).toNat) + (2 * w)) + s) := e2
    rw [s_begins_e] at e2'
    generalize hidd : ((4 * μ 8 (2 * s + w).toNat) + (2 * w)) + s = i at hb e2'
    obtain ⟨i0, i1, i2, i3, i4⟩ := hb
    have k2 : 2 ≤ κ 602 0 := hR.1.2.2.2.2.2.2.2
    obtain ⟨R1, R2, R3, hN⟩ := makeParts_s (κ := u2 κ 400 (2 * s + w).toNat (μ 8 (2 * s + w).toNat + 1)) (by rw [u2_f (by decide)]; exact k2) h1 h2 i0 i1
    have hm : ∀ f k, ¬ (f = 0 ∨ (45 ≤ f ∧ f ≤ 50)) → ¬ ((f = 17 ∨ f = 18 ∨ f = 30) ∧ k = mj s i) → ¬ ((f = 8 ∨ f = 9 ∨ f = 15) ∧ k = (2 * s + i / 2 % 2).toNat) → ν2 f k = μ f k := fun f k x y z => by
      rw [i2] at z
      rw [e2', u2_n (by omega), u2_n (by omega), u2_n (by omega), u2_n (by omega), u2_n (by omega), u2_n (by omega), u2_n (by omega)]
    have h17 : μ 17 (mj s i) = 0 := by
      have v17 : 0 ≤ μ 17 (mj s i) ∧ μ 17 (mj s i) ≤ 1 := hV 17 (mj s i)
      have := (hR.T h1 h2 i0 i1).1
      rw [i2] at this
      by_cases z : μ 17 (mj s i) = 1
      · rcases this.mp z with y | y <;> omega
      · omega
    have g6 : ∀ k, (u2 (u2 (u2 (u2 μ 0 0 0) 0 0 0) 15 (2 * s + w).toNat 0) 8 (2 * s + w).toNat (μ 8 (2 * s + w).toNat + 1)) 6 k = μ 6 k := fun k => by rw [u2_f (by decide), u2_f (by decide), u2_f (by decide), u2_f (by decide)]
    have rb := R_begin (κt := u2 κ 400 (2 * s + w).toNat (μ 8 (2 * s + w).toNat + 1)) (μ' := ν2) hV hR hI hK.q h1 h2 i0 i1 hj h17 (fun f k z => u2_n (by rw [i2] at z; omega)) hN hm
      (by rw [e2', u2_f (by decide), u2_f (by decide), u2_s]) (by rw [e2', u2_s, g6]) (by rw [e2', u2_f (by decide), u2_s, g6])
      (Or.inl ⟨i3, by rw [i2]; exact i4, by rw [i2, e2', u2_f (by decide), u2_f (by decide), u2_f (by decide), u2_s], by rw [e2', u2_f (by decide), u2_f (by decide), u2_f (by decide), u2_f (by decide), u2_f (by decide), u2_f (by decide), u2_f (by decide)]⟩) ?_
    · exact ⟨by rw [e2', u2_f (by decide), u2_f (by decide), u2_f (by decide), u2_f (by decide), u2_f (by decide), u2_s], rfl, _, rb.1, rb.2.1⟩
    · obtain ⟨n1, _⟩ := hN
      have hk : ∀ f k, 400 ≤ f → f ≤ 405 → s_makeParts (u2 κ 400 (2 * s + w).toNat (μ 8 (2 * s + w).toNat + 1)) s i f k = u2 κ 400 (2 * s + w).toNat (μ 8 (2 * s + w).toNat + 1) f k := fun f k x y => n1 f k (by omega) (by omega) (by omega) (by omega) (by omega)
      have hk2 : ∀ k, s_makeParts (u2 κ 400 (2 * s + w).toNat (μ 8 (2 * s + w).toNat + 1)) s i 360 k = κ 360 k := fun k => by rw [n1 360 k (by omega) (by omega) (by omega) (by omega) (by omega), u2_f (by decide)]
      rw [i2]
      unfold rW
      have m15 : ν2 15 (2 * s + w).toNat = 0 := by rw [e2', u2_f (by decide), u2_f (by decide), u2_f (by decide), u2_f (by decide), u2_s]
      have m8 : ν2 8 (2 * s + w).toNat = μ 8 (2 * s + w).toNat + 1 := by rw [e2', u2_f (by decide), u2_f (by decide), u2_f (by decide), u2_s]
      have m9 : ν2 9 (2 * s + w).toNat = μ 9 (2 * s + w).toNat := by rw [e2', u2_f (by decide), u2_f (by decide), u2_f (by decide), u2_f (by decide), u2_f (by decide), u2_f (by decide), u2_f (by decide)]
      rw [m15, m8, m9, hm 7 _ (by omega) (by omega) (by omega), hm 14 _ (by omega) (by omega) (by omega), hm 13 _ (by omega) (by omega) (by omega), hm 10 _ (by omega) (by omega) (by omega), hm 6 _ (by omega) (by omega) (by omega), hm 1 _ (by omega) (by omega) (by omega), hk2, hk 400 _ (by omega) (by omega), hk 401 _ (by omega) (by omega), hk 402 _ (by omega) (by omega), hk 403 _ (by omega) (by omega), hk 404 _ (by omega) (by omega), hk 405 _ (by omega) (by omega)]
      simp (disch := omega) only [u2_f, u2_s]
      exact ⟨trivial, q2, q3, q4, q5, q6, q7, q8, by omega, q10, ⟨fun z => by have := q11.mp z; omega, fun z => absurd z.1 (by decide)⟩, fun z => by omega⟩
theorem needJoined_c (hV : mV μ) (hR : kRel κ μ O) : (e_needJoined κ = 0 ∧ μ 1 0 = 1) ∨ (e_needJoined κ = 2 ∧ μ 1 0 = 0) := by
  have e507 : κ 507 0 = μ 1 0 := hR.1.2.2.1
  have v1 : 0 ≤ μ 1 0 ∧ μ 1 0 ≤ 1 := hV 1 0
  unfold e_needJoined
  by_cases z : κ 507 0 = 0
  · rw [if_pos z]; exact Or.inr ⟨rfl, by omega⟩
  · rw [if_neg z]; exact Or.inl ⟨rfl, by omega⟩
theorem R_open (hV : mV μ) (hK : kV κ) (hR : kRel κ μ O) (hI : kInv κ) (s p : Int) : s_open μ s p 0 0 = kR 2 (e_kOpen κ s p) ∧ (e_kOpen κ s p = 0 → v_open μ s p = v_kOpen κ s p ∧ ∃ O', kRel (s_kOpen κ s p) (s_open μ s p) O' ∧ kInv (s_kOpen κ s p)) ∧ (¬ e_kOpen κ s p = 0 → kRel κ (s_open μ s p) O) := by
  rcases sideAt_c (κ := κ) s with ⟨e, h1, h2⟩ | ⟨e, h⟩
  · have hns : ¬ (s < 0 ∨ 1 < s) := by omega
    have hb : b2 (s < 0 ∨ 1 < s) = 0 := if_neg (by omega)
    rcases needJoined_c hV hR with ⟨ej, hj⟩ | ⟨ej, hj⟩
    · have eE : e_kOpen κ s p = 0 := by
        unfold e_kOpen
        rw [if_pos e, if_pos ej]
        split <;> rfl
      have hj0 : ¬ μ 1 0 = 0 := by omega
      rw [eE]
      by_cases c : p = 0
      · have eS : s_open μ s p = (if μ 7 (((3 * s) + 1) + 1).toNat ≤ μ 8 (2 * s + 1).toNat then u2 (u2 (u2 μ 0 0 0) 0 0 0) 15 (2 * s + 1).toNat 1 else (if μ 8 (2 * s + 1).toNat = 64 then u2 (u2 (u2 μ 0 0 0) 0 0 0) 15 (2 * s + 1).toNat 1 else s_begins (u2 (u2 (u2 (u2 μ 0 0 0) 0 0 0) 15 (2 * s + 1).toNat 0) 8 (2 * s + 1).toNat (μ 8 (2 * s + 1).toNat + 1)) s (((4 * μ 8 (2 * s + 1).toNat) + (2 * 1)) + s))) := by
          simp only [s_open, if_neg hns, hb, if_true, if_neg hj0, if_pos c]
        have eV : v_open μ s p = (if μ 7 (((3 * s) + 1) + 1).toNat ≤ μ 8 (2 * s + 1).toNat then -1 else (if μ 8 (2 * s + 1).toNat = 64 then -1 else (((4 * μ 8 (2 * s + 1).toNat) + (2 * 1)) + s))) := by
          simp only [v_open, if_neg hns, if_neg hj0, if_pos c]
        have eK : s_kOpen κ s p = s_openNext κ s 1 := by simp only [s_kOpen, if_pos e, if_pos ej, if_pos c]
        have eW : v_kOpen κ s p = v_openNext κ s 1 := by simp only [v_kOpen, if_pos e, if_pos ej, if_pos c]
        obtain ⟨o1, o2, o3⟩ := open_w hV hR hI hK h1 h2 (w := 1) (by omega) (by omega) hj rfl rfl
        rw [eS, eV, eK, eW]
        exact ⟨o1, fun _ => ⟨o2, o3⟩, fun z => absurd rfl z⟩
      · have eS : s_open μ s p = (if μ 7 (((3 * s) + 1) + 0).toNat ≤ μ 8 (2 * s + 0).toNat then u2 (u2 (u2 μ 0 0 0) 0 0 0) 15 (2 * s + 0).toNat 1 else (if μ 8 (2 * s + 0).toNat = 64 then u2 (u2 (u2 μ 0 0 0) 0 0 0) 15 (2 * s + 0).toNat 1 else s_begins (u2 (u2 (u2 (u2 μ 0 0 0) 0 0 0) 15 (2 * s + 0).toNat 0) 8 (2 * s + 0).toNat (μ 8 (2 * s + 0).toNat + 1)) s (((4 * μ 8 (2 * s + 0).toNat) + (2 * 0)) + s))) := by
          simp only [s_open, if_neg hns, hb, if_true, if_neg hj0, if_neg c]
        have eV : v_open μ s p = (if μ 7 (((3 * s) + 1) + 0).toNat ≤ μ 8 (2 * s + 0).toNat then -1 else (if μ 8 (2 * s + 0).toNat = 64 then -1 else (((4 * μ 8 (2 * s + 0).toNat) + (2 * 0)) + s))) := by
          simp only [v_open, if_neg hns, if_neg hj0, if_neg c]
        have eK : s_kOpen κ s p = s_openNext κ s 0 := by simp only [s_kOpen, if_pos e, if_pos ej, if_neg c]
        have eW : v_kOpen κ s p = v_openNext κ s 0 := by simp only [v_kOpen, if_pos e, if_pos ej, if_neg c]
        obtain ⟨o1, o2, o3⟩ := open_w hV hR hI hK h1 h2 (w := 0) (by omega) (by omega) hj rfl rfl
        rw [eS, eV, eK, eW]
        exact ⟨o1, fun _ => ⟨o2, o3⟩, fun z => absurd rfl z⟩
    · have eE : e_kOpen κ s p = 2 := by
        unfold e_kOpen
        rw [if_pos e, if_neg (by omega), ej]
      have eS : s_open μ s p = u2 (u2 μ 0 0 0) 0 0 2 := by
        simp only [s_open, if_neg hns, hb, if_true, if_pos hj]
      rw [eE, eS]
      exact ⟨by rw [u2_s]; rfl, fun z => absurd z (by decide), fun _ => Rel_0 hV hR (fun f k z => by rw [u2_f (by omega), u2_f (by omega)])⟩
  · have hb : b2 (s < 0 ∨ 1 < s) = 1 := if_pos h
    have eE : e_kOpen κ s p = 1 := by
      unfold e_kOpen
      rw [if_neg (by omega), e]
    have eS : s_open μ s p = u2 μ 0 0 1 := by
      unfold s_open
      rw [if_pos h, hb]
      rfl
    rw [eE, eS]
    exact ⟨by rw [u2_s]; rfl, fun z => absurd z (by decide), fun _ => Rel_u0 hV hR⟩
end R19
