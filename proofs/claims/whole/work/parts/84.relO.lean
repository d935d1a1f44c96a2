section R16
variable {κ μ κ' μ' κ0 ν1 : Nat → Nat → Int} {O O' : Nat → Nat}
/-- nothing was handed out -/
theorem read_N (hV : mV μ) (hR : kRel κ μ O) : kRel (u2 κ 506 0 0) (u2 (u2 μ 0 0 0) 5 0 0) O := by
  refine Rel_H hV hR (fun f k x y => u2_n (by omega)) (fun f k x y => by rw [u2_n (by omega), u2_n (by omega)]) ?_
  obtain ⟨q1, q2, q3, q4, q5, q6, q7, q8⟩ := hR.1
  unfold rH
  simp (disch := omega) only [u2_f, u2_n, u2_s]
  exact ⟨q1, trivial, q3, q4, fun j hj => absurd hj (by omega), q6, q7, q8⟩
theorem growDataGrant_n {s : Int} (h : iD κ s) : s_growDataGrant κ s = κ := by
  unfold iD at h
  unfold s_growDataGrant
  rw [if_pos h]
theorem growGrant_n {s i : Int} (hp : κ 190 (mj s i) = 1) (h : iG κ s i) : s_growGrant κ s i = κ := by
  unfold s_growGrant
  split
  · rename_i z
    rw [if_pos (h hp z)]
  · rfl
set_option maxHeartbeats 4000000 in
theorem R_read (hV : mV μ) (hK : kV κ) (hR : kRel κ μ O) (hI : kInv κ) (s i q : Int) : s_read μ s i q 0 0 = kR 1 (e_kRead κ s i q) ∧ (e_kRead κ s i q = 0 → v_read μ s i q = v_kRead κ s i q ∧ kRel (s_kRead κ s i q) (s_read μ s i q) O ∧ kInv (s_kRead κ s i q)) ∧ (¬ e_kRead κ s i q = 0 → kRel κ (s_read μ s i q) O) := by
  have bad1 : s_read μ s i q = u2 μ 0 0 1 → e_kRead κ s i q = 1 → s_read μ s i q 0 0 = kR 1 (e_kRead κ s i q) ∧ (e_kRead κ s i q = 0 → v_read μ s i q = v_kRead κ s i q ∧ kRel (s_kRead κ s i q) (s_read μ s i q) O ∧ kInv (s_kRead κ s i q)) ∧ (¬ e_kRead κ s i q = 0 → kRel κ (s_read μ s i q) O) := fun x y => by
    rw [x, y]
    exact ⟨by rw [u2_s]; rfl, fun z => absurd z (by decide), fun _ => Rel_u0 hV hR⟩
  rcases sideAt_c (κ := κ) s with ⟨e, h1, h2⟩ | ⟨e, h⟩
  · have hns : ¬ (s < 0 ∨ 1 < s) := by omega
    by_cases a : q < 0
    · exact bad1 (by simp only [s_read, if_neg hns, if_pos a]) (by simp only [e_kRead, if_pos e, if_pos a])
    · by_cases b : q ≤ 2048
      · have eE : e_kRead κ s i q = 0 := by simp only [e_kRead, if_pos e, if_neg a, if_pos b]
        have w17 : ∀ k, (u2 (u2 μ 0 0 0) 5 0 0) 17 k = μ 17 k := fun k => by rw [u2_f (by decide), u2_f (by decide)]
        rw [eE]
        have nil : ∀ r : Int, r < 0 → s_read μ s i q = u2 (u2 μ 0 0 0) 5 0 0 → v_read μ s i q = r → v_handOut κ s i 1 q = r → s_handOut κ s i 1 q = κ → s_read μ s i q 0 0 = kR 1 0 ∧ ((0 : Int) = 0 → v_read μ s i q = v_kRead κ s i q ∧ kRel (s_kRead κ s i q) (s_read μ s i q) O ∧ kInv (s_kRead κ s i q)) ∧ (¬ (0 : Int) = 0 → kRel κ (s_read μ s i q) O) := by
          intro r hr x y z w
          have eW : v_kRead κ s i q = r := by simp only [v_kRead, if_pos e, if_neg a, if_pos b, z]
          have eK : s_kRead κ s i q = u2 κ 506 0 0 := by
            simp only [s_kRead, if_pos e, if_neg a, if_pos b, z, w]
            rw [show v_maxI r 0 = 0 from if_pos hr]
          rw [x, y, eW, eK]
          refine ⟨by rw [u2_f (by decide), u2_s]; rfl, fun _ => ⟨rfl, read_N hV hR, Inv_cg hI (fun f k z => u2_f (by omega)) (fun k z => u2_f (by omega))⟩, fun z => absurd rfl z⟩
        by_cases hp : 0 ≤ i ∧ i < 256 ∧ κ 190 (mj s i) = 1
        · have hq := (hasB hR i h1 h2).mp hp
          have hB := hR.B h1 h2 hp.1 hp.2.1
          obtain ⟨b1, b2', b3⟩ := hB.2.1 hp.2.2
          obtain ⟨t1, t2, t3, t4, t5, t6, t7, t8, t9, t10, t11, t12⟩ := b1
          obtain ⟨c1, c2, c3, c4, c5, c6, c7⟩ := b3
          have hrd := rB_ready hV h1 hB hp.2.2
          have v28 : 0 ≤ μ 28 (mj s i) ∧ μ 28 (mj s i) ≤ 1 := hV 28 _
          by_cases hz : μ 28 (mj s i) = 0
          · have n4 : ¬ κ 100 (mj s i) = 4 := by
              rw [t12, if_pos hz]
              repeat' split
              all_goals omega
            have k102 : 0 ≤ κ 102 (mj s i) := (hK.1 102 _).1
            have k103 : κ 103 (mj s i) ≤ 65536 := (hK.1 103 _).2 rfl
            have k104 : 0 ≤ κ 104 (mj s i) := (hK.1 104 _).1
            have k600 : 0 ≤ κ 600 (κ 101 (mj s i)).toNat := (hK.1 600 _).1
            have k113 : 0 ≤ κ 113 (mj s i) ∧ κ 113 (mj s i) ≤ 1 := ⟨(hK.1 113 _).1, (hK.1 113 _).2 rfl⟩
            have k204 : 0 ≤ κ 204 (mj s i) := (hK.1 204 _).1
            obtain ⟨le1, le2⟩ := rB_le hB hp.2.2 k104 k600
            have hn : 0 ≤ v_minI q (κ 103 (mj s i) - κ 102 (mj s i)) ∧ v_minI q (κ 103 (mj s i) - κ 102 (mj s i)) ≤ q ∧ v_minI q (κ 103 (mj s i) - κ 102 (mj s i)) ≤ κ 103 (mj s i) - κ 102 (mj s i) ∧ (v_minI q (κ 103 (mj s i) - κ 102 (mj s i)) = q ∨ v_minI q (κ 103 (mj s i) - κ 102 (mj s i)) = κ 103 (mj s i) - κ 102 (mj s i)) := by
              unfold v_minI
              split <;> omega
            have eMv : v_moveOut κ s i 1 q = v_moveOut_10 κ s i 1 q 2049 0 (v_minI q (κ 103 (mj s i) - κ 102 (mj s i))) κ := rfl
            have eMs : s_moveOut κ s i 1 q = s_moveOut_10 κ s i 1 q 2049 0 (v_minI q (κ 103 (mj s i) - κ 102 (mj s i))) κ := rfl
            generalize v_minI q (κ 103 (mj s i) - κ 102 (mj s i)) = n at hn eMv eMs
            have p101 := b2'.1
            obtain ⟨ν', m1, m2, m3, m4, m5⟩ := move_l (κ := κ) (s := s) (i := i) (q := q) 2049 n.toNat 0 κ (by omega) (by omega) (by omega) (by omega) k102
            rw [show (0 : Int) + (n.toNat : Int) = n by omega] at m1 m2
            have eMv' : v_moveOut κ s i 1 q = n := eMv.trans m2
            -- the class's state before it grows what it grants
            have hk0 : ∀ f k, ¬ (f = 100 ∧ k = mj s i) → ¬ (f = 102 ∧ k = mj s i) → ¬ (f = 313 ∧ k = s.toNat) → ¬ (f = 506 ∧ k = 0) → f ≠ 1001 → (u2 (u2 (s_moveOut κ s i 1 q) 313 s.toNat (κ 313 s.toNat + n)) 506 0 n) f k = κ f k := fun f k x1 x2 x3 x4 x5 => by
              rw [eMs, m1, settle_e, u2_n x4, u2_n x3, u2_n x1, u2_n x2, m5 f k x5]
            have z100 : (u2 (u2 (s_moveOut κ s i 1 q) 313 s.toNat (κ 313 s.toNat + n)) 506 0 n) 100 (mj s i) = (if 0 ≤ κ 105 (mj s i) then (if κ 105 (mj s i) ≤ κ 103 (mj s i) then (if κ 105 (mj s i) ≤ κ 102 (mj s i) + n then 3 else 2) else 1) else κ 100 (mj s i)) := by
              rw [eMs, m1, settle_e, u2_f (by decide), u2_f (by decide), u2_s]
              simp (disch := omega) only [u2_f, u2_s, m5]
            have z102 : (u2 (u2 (s_moveOut κ s i 1 q) 313 s.toNat (κ 313 s.toNat + n)) 506 0 n) 102 (mj s i) = κ 102 (mj s i) + n := by
              rw [eMs, m1, settle_e, u2_f (by decide), u2_f (by decide), u2_f (by decide), u2_s, m5 _ _ (by decide)]
            have z313 : (u2 (u2 (s_moveOut κ s i 1 q) 313 s.toNat (κ 313 s.toNat + n)) 506 0 n) 313 s.toNat = κ 313 s.toNat + n := by rw [u2_f (by decide), u2_s]
            have z506 : (u2 (u2 (s_moveOut κ s i 1 q) 313 s.toNat (κ 313 s.toNat + n)) 506 0 n) 506 0 = n := u2_s _ _ _ _
            have z1001 : ∀ j : Nat, (j : Int) < n → (u2 (u2 (s_moveOut κ s i 1 q) 313 s.toNat (κ 313 s.toNat + n)) 506 0 n) 1001 j = wB (κ (1000 + (κ 101 (mj s i)).toNat) ((κ 102 (mj s i)).toNat + j) - 1) := fun j hj => by
              rw [eMs, m1, settle_e, u2_f (by decide), u2_f (by decide), u2_f (by decide), u2_f (by decide)]
              have := m4 j (by omega)
              rw [show (0 : Int).toNat + j = j by simp] at this
              exact this
            -- the reference's
            have v5 : (u2 (u2 μ 0 0 0) 5 0 0) 5 0 = 0 := u2_s _ _ _ _
            have v27 : (u2 (u2 μ 0 0 0) 5 0 0) 27 (mj s i) = μ 27 (mj s i) := by rw [u2_f (by decide), u2_f (by decide)]
            have hV0 : mV (u2 (u2 μ 0 0 0) 5 0 0) := (hV.u (f := 0) (by decide)).u (f := 5) (by decide)
            obtain ⟨ν1, r1, r2, hV1, r5, r27, r6, r4, r8⟩ := read_l (μ := μ) (s := s) (i := i) (q := q) (y := κ 103 (mj s i)) h1 b k103 2049 n.toNat _ hV0 (by omega) (by rw [v5]; omega) (by rw [v27]; omega) (by rw [v5, v27]; omega)
            rw [v5] at r5 r4
            rw [v27] at r27 r4
            have m5' : ν1 5 0 = n := by omega
            have m27' : ν1 27 (mj s i) = μ 27 (mj s i) + n := by omega
            have hm1 : ∀ f k, f ≠ 0 → f ≠ 4 → ¬ (f = 5 ∧ k = 0) → ¬ (f = 27 ∧ k = mj s i) → ν1 f k = μ f k := fun f k x1 x2 x3 x4 => by rw [r8 f k x2 x3 x4, u2_n x3, u2_f x1]
            have m4' : ∀ j : Nat, (j : Int) < n → ν1 4 j = v_byteAt μ s i (μ 27 (mj s i) + j) % 256 := fun j hj => by
              have := r4 j (by omega)
              rw [show (0 : Int).toNat + j = j by simp, v_byteAt_u (by decide), v_byteAt_u (by decide)] at this
              exact this
            have hRA := read_A hV hR h1 h2 hp.1 hp.2.1 hp.2.2 hz hn.1 hn.2.2.1 hV1 k104 k600 hk0 z100 z102 z313 z506 z1001 hm1 m5' m27' m4'
            have eS : s_read μ s i q = rdT ν1 s i := by
              simp only [s_read, if_neg hns, if_neg a, if_pos b, w17, if_pos hq, if_pos hz, hrd]
              exact r1
            have eV : v_read μ s i q = n := by
              simp only [v_read, if_neg hns, if_neg a, if_pos b, w17, if_pos hq, if_pos hz, hrd]
              rw [r2, m5']
            have eH : v_handOut κ s i 1 q = n := by simp only [v_handOut, if_pos hp, if_neg n4, eMv']
            have eW : v_kRead κ s i q = n := by simp only [v_kRead, if_pos e, if_neg a, if_pos b, eH]
            have eK : s_kRead κ s i q = s_growIfOver (s_growGrant (s_growDataGrant (u2 (u2 (s_moveOut κ s i 1 q) 313 s.toNat (κ 313 s.toNat + n)) 506 0 n) s) s i) s i := by
              rw [growDataGrant_h, growGrant_h, growIfOver_h]
              simp only [s_kRead, if_pos e, if_neg a, if_pos b, eH, s_handOut, if_pos hp, if_neg n4, eMv']
              rw [show v_maxI n 0 = n from if_neg (by omega)]
            rw [eV, eW, eS, eK]
            revert hk0 z100 z102 z313 z506 z1001 hRA
            generalize u2 (u2 (s_moveOut κ s i 1 q) 313 s.toNat (κ 313 s.toNat + n)) 506 0 n = κ0
            intro hk0 z100 z102 z313 z506 z1001 hRA
            have hp0 : κ0 190 (mj s i) = 1 := by rw [hk0 _ _ (by omega) (by omega) (by omega) (by omega) (by omega)]; exact hp.2.2
            have hB0 := hRA.B h1 h2 hp.1 hp.2.1
            have hv0 := rB_recv hV1 h1 hB0 hp0
            have t0 : rdT ν1 s i 0 0 = 0 := by
              have e0 : ν1 0 0 = 0 := by rw [r8 _ _ (by decide) (by decide) (by omega), u2_f (by decide), u2_s]
              unfold rdT
              repeat' split
              · rw [s_looksOver_fr (by decide)]; exact e0
              · rw [s_looksOver_fr (by decide), s_growStream_fr (by decide), s_growData_fr (by decide)]; exact e0
              · rw [s_looksOver_fr (by decide), s_growData_fr (by decide)]; exact e0
            have hIo := ((hI s h1 h2).2 i hp.1 hp.2.1).2 hp.2.2
            -- what is over stays so
            have hover : ∀ κ3 : Nat → Nat → Int, (∀ f, f = 190 ∨ f = 113 ∨ f = 100 ∨ f = 290 ∨ f = 200 → κ3 f (mj s i) = κ0 f (mj s i)) → κ3 190 (mj s i) = 1 → ¬ i % 2 = s → κ3 113 (mj s i) = 1 → (κ3 100 (mj s i) = 3 ∨ κ3 100 (mj s i) = 4) ∧ (κ3 290 (mj s i) = 1 → κ3 200 (mj s i) = 2 ∨ κ3 200 (mj s i) = 4) := by
              intro κ3 hc x y z
              rw [hc 113 (by omega), hk0 _ _ (by omega) (by omega) (by omega) (by omega) (by omega)] at z
              obtain ⟨g1, g2⟩ := (hIo y).mp z
              rw [hc 100 (by omega), hc 290 (by omega), hc 200 (by omega), hk0 290 _ (by omega) (by omega) (by omega) (by omega) (by omega), hk0 200 _ (by omega) (by omega) (by omega) (by omega) (by omega)]
              refine ⟨?_, g2⟩
              have g3 : κ 100 (mj s i) = 3 := by omega
              rw [t12, if_pos hz] at g3
              have s26 : 0 ≤ μ 26 (mj s i) ∧ μ 27 (mj s i) = μ 26 (mj s i) := by
                by_cases u : 0 ≤ μ 26 (mj s i)
                · rw [if_pos u] at g3
                  by_cases u' : μ 27 (mj s i) = μ 26 (mj s i)
                  · exact ⟨u, u'⟩
                  · rw [if_neg u'] at g3
                    split at g3 <;> omega
                · rw [if_neg u] at g3; omega
              have := c6 s26.1
              rw [z100, t3, if_pos s26.1, if_pos (by omega), if_pos (by omega)]
              exact Or.inl rfl
            -- growing
            have fin : ∀ (κ3 ν3 : Nat → Nat → Int), kRel κ3 ν3 O → mV ν3 → (∀ f k, ¬ (f = 314 ∧ k = s.toNat) → ¬ (f = 315 ∧ k = s.toNat) → ¬ (f = 107 ∧ k = mj s i) → ¬ (f = 108 ∧ k = mj s i) → κ3 f k = κ0 f k) → iD κ3 s → iG κ3 s i → kRel (s_growIfOver κ3 s i) (s_looksOver ν3 s i) O ∧ kInv (s_growIfOver κ3 s i) := by
              intro κ3 ν3 hR3 hV3 hc3 hD3 hG3
              have o := R_over hV3 hR3 h1 h2 hp.1 hp.2.1 (by rw [hc3 _ _ (by omega) (by omega) (by omega) (by omega), hk0 _ _ (by omega) (by omega) (by omega) (by omega) (by omega)]; exact k204) (by rw [hc3 _ _ (by omega) (by omega) (by omega) (by omega), hk0 _ _ (by omega) (by omega) (by omega) (by omega) (by omega)]; exact k113) (hover κ3 (fun f z => hc3 f _ (by omega) (by omega) (by omega) (by omega)))
              refine ⟨o.1, ?_⟩
              have fo : ∀ f k, f ≠ 113 → f ≠ 360 → f ≠ 405 → s_growIfOver κ3 s i f k = κ3 f k := fun f k x y z => s_growIfOver_fr (by
                simp only [List.elem_eq_mem, List.mem_cons, List.not_mem_nil, or_false, Bool.not_eq_true', decide_eq_false_iff_not]
                omega)
              have fo2 : ∀ f k, k ≠ mj s i → f = 113 → s_growIfOver κ3 s i f k = κ3 f k := fun f k x y => by
                rw [growIfOver_e]
                split
                · split
                  · exact u2_n (by omega)
                  · rw [u2_n (by omega), u2_n (by omega), u2_n (by omega)]
                · rfl
              have hwy := kWayOf_b hp.1
              have fo3 : ∀ k, k % 16 = 4 → s_growIfOver κ3 s i 360 k = κ3 360 k := fun k x => by
                rw [growIfOver_e]
                split
                · split
                  · exact u2_n (by omega)
                  · rw [u2_n (by omega), u2_n (by omega), u2_n (by omega)]
                · rfl
              refine Inv_st hI h1 h2 hp.1 hp.2.1 (fun f k x y => ?_) (fun f k x => by rw [fo _ _ (by omega) (by omega) (by omega), hc3 _ _ (by omega) (by omega) (by omega) (by omega), hk0 _ _ (by omega) (by omega) (by omega) (by omega) (by omega)]) (fun f k x y => by rw [fo _ _ (by omega) (by omega) (by omega), hc3 _ _ (by omega) (by omega) (by omega) (by omega), hk0 _ _ (by omega) (by omega) (by omega) (by omega) (by omega)]) (fun k x => by rw [fo3 _ x, hc3 _ _ (by omega) (by omega) (by omega) (by omega), hk0 _ _ (by omega) (by omega) (by omega) (by omega) (by omega)]) (iD_cg (fun f x => fo _ _ (by omega) (by omega) (by omega)) (fo3 _ (by omega)) hD3) (iG_cg (fun f x => fo _ _ (by omega) (by omega) (by omega)) hG3) o.2
              by_cases w : f = 113
              · rw [fo2 f k y w, hc3 _ _ (by omega) (by omega) (by omega) (by omega), hk0 _ _ (by omega) (by omega) (by omega) (by omega) (by omega)]
              · rw [fo _ _ w (by omega) (by omega), hc3 _ _ (by omega) (by omega) (by omega) (by omega), hk0 _ _ (by omega) (by omega) (by omega) (by omega) (by omega)]
            refine ⟨by rw [t0]; rfl, fun _ => ⟨rfl, ?_⟩, fun z => absurd rfl z⟩
            by_cases nz : n = 0
            · have eT : rdT ν1 s i = s_looksOver ν1 s i := by
                unfold rdT
                rw [if_pos (by omega)]
              have iD0 : iD κ0 s := by
                have := (hI s h1 h2).1
                unfold iD at this ⊢
                rw [z313, nz, Int.add_zero, hk0 360 _ (by omega) (by omega) (by omega) (by omega) (by omega), hk0 314 _ (by omega) (by omega) (by omega) (by omega) (by omega)]
                exact this
              have iG0 : iG κ0 s i := by
                intro x y
                have g := ((hI s h1 h2).2 i hp.1 hp.2.1).1 hp.2.2
                rw [z102, nz, Int.add_zero, hk0 106 _ (by omega) (by omega) (by omega) (by omega) (by omega), hk0 107 _ (by omega) (by omega) (by omega) (by omega) (by omega)]
                refine g ?_
                rw [z100] at y
                by_cases u : 0 ≤ κ 105 (mj s i)
                · rw [if_pos u] at y
                  exfalso
                  revert y
                  repeat' split
                  all_goals omega
                · rw [if_neg u] at y
                  exact y
              rw [eT, growDataGrant_n iD0, growGrant_n hp0 iG0]
              exact fin κ0 ν1 hRA hV1 (fun _ _ _ _ _ _ => rfl) iD0 iG0
            · obtain ⟨gR, gD⟩ := R_growData hV1 hRA h1 h2
              have gV := growData_V hV1 s
              have fd : ∀ f k, ¬ (f = 314 ∧ k = s.toNat) → ¬ (f = 315 ∧ k = s.toNat) → s_growDataGrant κ0 s f k = κ0 f k := fun f k x y => by
                unfold s_growDataGrant
                split
                · rfl
                · rw [u2_n y, u2_n x]
              have hpd : s_growDataGrant κ0 s 190 (mj s i) = 1 := by rw [fd _ _ (by omega) (by omega)]; exact hp0
              by_cases st : κ0 100 (mj s i) = 0
              · have eT : rdT ν1 s i = s_looksOver (s_growStream (s_growData ν1 s) s i) s i := by
                  unfold rdT
                  rw [if_neg (by omega), if_pos (by rw [hv0]; exact st)]
                obtain ⟨hR3, hG3⟩ := R_growStream gV gR h1 h2 hp.1 hp.2.1 hpd (by rw [fd _ _ (by omega) (by omega)]; exact st)
                have fg : ∀ f k, ¬ (f = 107 ∧ k = mj s i) → ¬ (f = 108 ∧ k = mj s i) → s_growGrant (s_growDataGrant κ0 s) s i f k = s_growDataGrant κ0 s f k := fun f k x y => by
                  unfold s_growGrant
                  split
                  · split
                    · rfl
                    · rw [u2_n y, u2_n x]
                  · rfl
                rw [eT]
                exact fin _ _ hR3 (growStream_V gV s i) (fun f k x y z w => by rw [fg f k z w, fd f k x y]) (iD_cg (fun f x => fg _ _ (by omega) (by omega)) (fg _ _ (by omega) (by omega)) gD) hG3
              · have eT : rdT ν1 s i = s_looksOver (s_growData ν1 s) s i := by
                  unfold rdT
                  rw [if_neg (by omega), if_neg (by rw [hv0]; exact st)]
                have eg : s_growGrant (s_growDataGrant κ0 s) s i = s_growDataGrant κ0 s := by
                  unfold s_growGrant
                  rw [if_neg (by rw [fd _ _ (by omega) (by omega)]; exact st)]
                rw [eT, eg]
                exact fin _ _ gR gV (fun f k x y z w => fd f k x y) gD (fun _ x => absurd (by rw [fd _ _ (by omega) (by omega)] at x; exact x) st)
          · have n4 : κ 100 (mj s i) = 4 := by rw [t12, if_neg hz]
            refine nil (-2) (by omega) ?_ ?_ ?_ ?_
            · simp only [s_read, if_neg hns, if_neg a, if_pos b, w17, if_pos hq, if_neg hz]
            · simp only [v_read, if_neg hns, if_neg a, if_pos b, w17, if_pos hq, if_neg hz]
            · simp only [v_handOut, if_pos hp, if_pos n4]
            · simp only [s_handOut, if_pos hp, if_pos n4]
        · have hq : ¬ ((0 ≤ i ∧ i < 256 ∧ μ 17 (mj s i) = 1) ∧ (i / 2 % 2 = 0 ∨ ¬ i % 2 = s)) := fun z => hp ((hasB hR i h1 h2).mpr z)
          refine nil (-1) (by omega) ?_ ?_ ?_ ?_
          · simp only [s_read, if_neg hns, if_neg a, if_pos b, w17, if_neg hq]
          · simp only [v_read, if_neg hns, if_neg a, if_pos b, w17, if_neg hq]
          · simp only [v_handOut, if_neg hp]
          · simp only [s_handOut, if_neg hp]
      · exact bad1 (by simp only [s_read, if_neg hns, if_neg a, if_neg b]) (by simp only [e_kRead, if_pos e, if_neg a, if_neg b])
  · exact bad1 (by unfold s_read; rw [if_pos h]) (by unfold e_kRead; rw [if_neg (show ¬ e_sideAt κ s = 0 by omega), e])
end R16
