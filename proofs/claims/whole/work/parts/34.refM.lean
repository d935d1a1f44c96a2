section MR14
variable {L : Launch} {G : mmG} {A : Nat → Nat} {ax : Nat → Option Nat} {h0 : mmH} {μ ν : Nat → Nat → Int}
theorem noPlace_L {p : Int} (hL : mLi μ) (h : v_noPlace μ p = 0) (h58 : 0 ≤ μ 58 p.toNat ∧ μ 58 p.toNat ≤ 1) : ((μ 52 p.toNat = 4 ∨ μ 52 p.toNat = 5 ∨ μ 52 p.toNat = 17 ∨ μ 52 p.toNat = 21) ∧ μ 53 p.toNat < 256) ∨ (μ 52 p.toNat = 16 ∨ μ 52 p.toNat = 18 ∨ μ 52 p.toNat = 19 ∨ μ 52 p.toNat = 20 ∨ μ 52 p.toNat = 22 ∨ μ 52 p.toNat = 23) ∨ (μ 52 p.toNat = 8 ∧ μ 53 p.toNat < 256 ∧ μ 54 p.toNat + μ 56 p.toNat ≤ mW μ (μ 51 p.toNat) (μ 53 p.toNat)) := by
  rcases noPlace_b (μ := μ) (p := p) with q | q
  · omega
  · exact hL p.toNat (by omega) (by omega)
theorem mLi_off {μ B S : Nat → Nat → Int} {p : Nat} (h : ∀ f, [36, 37, 51, 52, 53, 54, 56].elem f = true → ∀ k, μ f k = S f k) (hB : ∀ q, B 58 q = μ 58 q) (hS : ∀ q, S 58 q = u2 B 58 p 0 58 q) (hL : mLi μ) : mLi S := by
  intro r hr h58
  rw [hS, u2_g] at h58
  split at h58
  · cases h58
  · rw [hB] at h58
    refine mFr_cg (fun f hf k => h f ?_ k) (fun f hf => h f ?_ r) (hL r hr h58)
    · simp only [List.elem_eq_mem, decide_eq_true_eq, List.mem_cons, List.not_mem_nil, or_false] at hf ⊢; omega
    · simp only [List.elem_eq_mem, decide_eq_true_eq, List.mem_cons, List.not_mem_nil, or_false] at hf ⊢; omega
def s_goneStream_12 (μ : Nat → Nat → Int) (s p g : Int) : Nat → Int → (Nat → Nat → Int) → (Nat → Nat → Int)
  | 0, _, ν => ν
  | d + 1, j, ν => (if (ν 56 p.toNat) ≤ j then (if (ν 55 p.toNat) = 1 then (if (ν 20 (mj s (μ 53 p.toNat))) = 3 then (s_looksOver ν s (μ 53 p.toNat)) else (if g = 0 then (s_looksOver (u2 ν 20 (mj s (μ 53 p.toNat)) 2) s (μ 53 p.toNat)) else (s_looksOver (u2 ν 20 (mj s (μ 53 p.toNat)) 3) s (μ 53 p.toNat)))) else (s_looksOver ν s (μ 53 p.toNat))) else (if (ν 39 (v_placeOf ν s (μ 53 p.toNat) ((ν 54 p.toNat) + j)).toNat) = 3 then (s_goneStream_12 μ s p g d (j + 1) ν) else (if g = 0 then (s_goneStream_12 μ s p g d (j + 1) (u2 ν 39 (v_placeOf ν s (μ 53 p.toNat) ((ν 54 p.toNat) + j)).toNat 2)) else (s_goneStream_12 μ s p g d (j + 1) (u2 ν 39 (v_placeOf ν s (μ 53 p.toNat) ((ν 54 p.toNat) + j)).toNat 3)))))
def s_goneStream (μ : Nat → Nat → Int) (s p g : Int) : Nat → Nat → Int := (s_goneStream_12 μ s p g 1201 0 μ)
set_option maxRecDepth 100000 in
theorem m_goneStream (hF : mm_F G) (htr : L.stackTraces = false) (hx : mx A ax) (hV : mV μ) {s p g : Int} (h1 : 0 ≤ s) (h2 : s ≤ 1) (h3 : 0 ≤ p) (h4 : p < 64) (h5 : g = 0 ∨ g = 1) (h6 : μ 53 p.toNat < 256) (h7 : μ 54 p.toNat + μ 56 p.toNat ≤ mRem (μ 37) (μ 53 p.toNat) (65536 * s).toNat (μ 36 s.toNat).toNat) :
    mm_Met L G SX6_goneStream [.ref (A 99), .int (iI s), .int (iI p), .int (iI g)] (hm G A ax h0 μ) 0 0 (mRetS none (hm G A ax h0 (s_goneStream μ s p g)) (mV (s_goneStream μ s p g))) mm_no := by
  refine mi_meth MX6_goneStream 400 hF htr okX6_goneStream (av := [aR (A 99), aI s, aI p, aI g]) (by decide +kernel) (Nat.le_of_ble_eq_true rfl) cmX6_goneStream (fun θ hc => ?_)
  have r53 : 0 ≤ μ 53 p.toNat ∧ μ 53 p.toNat ≤ 4611686018427387903 := hV 53 _
  have loop12 : ∀ (S : Nat → Nat → Int) (d : Nat) (j : Int) (ν : Nat → Nat → Int) (hV : mV ν), (0 ≤ j ∧ j ≤ ν 56 p.toNat) → (ν 54 p.toNat + ν 56 p.toNat ≤ mRem (ν 37) (μ 53 p.toNat) (65536 * s).toNat (ν 36 s.toNat).toNat) → (ν 56 p.toNat - j) < (d : Int) → s_goneStream_12 μ s p g d j ν = S → mi_W L G MX6_goneStream 0 0 (mRetS none (hm G A ax h0 S) (mV S)) mm_no θ 12 [(6, aI j), (0, aR (A 99)), (1, aI s), (2, aI p), (3, aI g), (4, aI (μ 53 p.toNat)), (5, aI ((256 * s) + (μ 53 p.toNat)))] [] (hm G A ax h0 ν) 0 0 := by
    intro S d
    induction d with
    | zero =>
      intro j ν hV hi1 hw hms hsr
      have z1 : 0 ≤ ν 56 p.toNat ∧ ν 56 p.toNat ≤ 1200 := hV 56 _
      omega
    | succ d ih =>
      intro j ν hV hi1 hw hms hsr
      have z2 : 0 ≤ ν 54 p.toNat ∧ ν 54 p.toNat ≤ 4611686018427387903 := hV 54 _
      have z3 := mRem_le (ν 37) (μ 53 p.toNat) (ν 36 s.toNat).toNat (65536 * s).toNat
      have z4 : 0 ≤ ν 36 s.toNat ∧ ν 36 s.toNat ≤ 65536 := hV 36 _
      refine mi_sound hc okX6_goneStream 400 _ _ _ _ _ _ ?_
      refine ⟨_, hm_oi hx, aR (A 56), rfl, ?_⟩
      refine ⟨64, _, (ν 56 p.toNat), hm_a hx 56 rfl, by omega, rfl, ?_⟩
      have t1 := (show 0 ≤ ν 56 p.toNat ∧ ν 56 p.toNat ≤ 1200 from hV.g 56 p.toNat)
      refine ⟨by omega, fun (e2 : (ν 56 p.toNat) ≤ j) => ?_, fun (e2 : ¬ ((ν 56 p.toNat) ≤ j)) => ?_⟩
      · refine ⟨_, hm_oi hx, aR (A 55), rfl, ?_⟩
        refine ⟨64, _, (ν 55 p.toNat), hm_a hx 55 rfl, by omega, rfl, ?_⟩
        have t3 := (show 0 ≤ ν 55 p.toNat ∧ ν 55 p.toNat ≤ 4611686018427387903 from hV.g 55 p.toNat)
        refine ⟨1, rfl, ?_⟩
        refine ⟨by omega, fun (e4 : ¬ ((ν 55 p.toNat) = 1)) => ?_, fun (e4 : (ν 55 p.toNat) = 1) => ?_⟩
        · refine ⟨⟨_, hm_oi hx⟩, _, _, _, _, (m_looksOver hF htr hx hV (s := s) (i := (μ 53 p.toNat)) (by omega) (by omega) (by omega) (by omega)), Nat.le_refl _, Nat.le_refl _, mkis_ (r := none) (fun hV5 => ?_), fun _ _ q => q.elim⟩
          exact ⟨mRetVS (hsr.symm.trans (by first | exact (if_pos e2).trans (if_neg e4) | (rw [s_goneStream_12]; rw [if_pos e2, if_neg e4]))) hV5, Nat.le_refl _, Nat.le_refl _⟩
        · refine ⟨_, hm_oi hx, aR (A 20), rfl, ?_⟩
          refine ⟨512, _, (ν 20 (mj s (μ 53 p.toNat))), hm_a hx 20 rfl, by omega, rfl, ?_⟩
          have t6 := (show 0 ≤ ν 20 (mj s (μ 53 p.toNat)) ∧ ν 20 (mj s (μ 53 p.toNat)) ≤ 3 from hV.g 20 (mj s (μ 53 p.toNat)))
          refine ⟨by omega, fun (e7 : (ν 20 (mj s (μ 53 p.toNat))) = 3) => ?_, fun (e7 : ¬ ((ν 20 (mj s (μ 53 p.toNat))) = 3)) => ?_⟩
          · refine ⟨⟨_, hm_oi hx⟩, _, _, _, _, (m_looksOver hF htr hx hV (s := s) (i := (μ 53 p.toNat)) (by omega) (by omega) (by omega) (by omega)), Nat.le_refl _, Nat.le_refl _, mkis_ (r := none) (fun hV8 => ?_), fun _ _ q => q.elim⟩
            exact ⟨mRetVS (hsr.symm.trans (by first | exact (if_pos e2).trans ((if_pos e4).trans (if_pos e7)) | (rw [s_goneStream_12]; rw [if_pos e2, if_pos e4, if_pos e7]))) hV8, Nat.le_refl _, Nat.le_refl _⟩
          · refine ⟨_, hm_oi hx, aR (A 20), rfl, ?_⟩
            refine ⟨by omega, fun (e9 : g = 0) => ?_, fun (e9 : ¬ (g = 0)) => ?_⟩
            · refine ⟨512, _, _, hm_a hx 20 rfl, by omega, trivial, hm_pi hx (i := (mj s (μ 53 p.toNat))) (v := 2) rfl rfl rfl rfl, ?_⟩
              have hV10 := hV.u (f := 20) (k := (mj s (μ 53 p.toNat))) (v := 2) (show 0 ≤ 2 ∧ 2 ≤ 3 from by omega)
              refine ⟨⟨_, hm_oi hx⟩, _, _, _, _, (m_looksOver hF htr hx hV10 (s := s) (i := (μ 53 p.toNat)) (by omega) (by omega) (by omega) (by omega)), Nat.le_refl _, Nat.le_refl _, mkis_ (r := none) (fun hV11 => ?_), fun _ _ q => q.elim⟩
              exact ⟨mRetVS (hsr.symm.trans (by first | exact (if_pos e2).trans ((if_pos e4).trans ((if_neg e7).trans (if_pos e9))) | (rw [s_goneStream_12]; rw [if_pos e2, if_pos e4, if_neg e7, if_pos e9]))) hV11, Nat.le_refl _, Nat.le_refl _⟩
            · refine ⟨512, _, _, hm_a hx 20 rfl, by omega, trivial, hm_pi hx (i := (mj s (μ 53 p.toNat))) (v := 3) rfl rfl rfl rfl, ?_⟩
              have hV12 := hV.u (f := 20) (k := (mj s (μ 53 p.toNat))) (v := 3) (show 0 ≤ 3 ∧ 3 ≤ 3 from by omega)
              refine ⟨⟨_, hm_oi hx⟩, _, _, _, _, (m_looksOver hF htr hx hV12 (s := s) (i := (μ 53 p.toNat)) (by omega) (by omega) (by omega) (by omega)), Nat.le_refl _, Nat.le_refl _, mkis_ (r := none) (fun hV13 => ?_), fun _ _ q => q.elim⟩
              exact ⟨mRetVS (hsr.symm.trans (by first | exact (if_pos e2).trans ((if_pos e4).trans ((if_neg e7).trans (if_neg e9))) | (rw [s_goneStream_12]; rw [if_pos e2, if_pos e4, if_neg e7, if_neg e9]))) hV13, Nat.le_refl _, Nat.le_refl _⟩
      · refine ⟨_, hm_oi hx, aR (A 54), rfl, ?_⟩
        refine ⟨64, _, (ν 54 p.toNat), hm_a hx 54 rfl, by omega, rfl, ?_⟩
        have t14 := (show 0 ≤ ν 54 p.toNat ∧ ν 54 p.toNat ≤ 4611686018427387903 from hV.g 54 p.toNat)
        refine ⟨⟨_, hm_oi hx⟩, _, _, _, _, (m_placeOf hF htr hx hV (s := s) (i := (μ 53 p.toNat)) (o := ((ν 54 p.toNat) + j)) (by omega) (by omega) (by omega) (by omega) (by omega) (by omega)), Nat.le_refl _, Nat.le_refl _, mki_ (r := some (aI (v_placeOf ν s (μ 53 p.toNat) ((ν 54 p.toNat) + j)))) ?_, fun _ _ q => q.elim⟩
        have t15 := placeOf_b hV (s := s) (i := (μ 53 p.toNat)) (o := ((ν 54 p.toNat) + j)) (by omega) (by omega) (by omega) (by omega)
        refine ⟨_, hm_oi hx, aR (A 39), rfl, ?_⟩
        refine mi_nl [(7, aI (v_placeOf ν s (μ 53 p.toNat) ((ν 54 p.toNat) + j))), (6, aI j), (0, aR (A 99)), (1, aI s), (2, aI p), (3, aI g), (4, aI (μ 53 p.toNat)), (5, aI ((256 * s) + (μ 53 p.toNat)))] rfl ?_
        refine ⟨131072, _, (ν 39 (v_placeOf ν s (μ 53 p.toNat) ((ν 54 p.toNat) + j)).toNat), hm_a hx 39 rfl, by omega, rfl, ?_⟩
        have t16 := (show 0 ≤ ν 39 (v_placeOf ν s (μ 53 p.toNat) ((ν 54 p.toNat) + j)).toNat ∧ ν 39 (v_placeOf ν s (μ 53 p.toNat) ((ν 54 p.toNat) + j)).toNat ≤ 3 from hV.g 39 (v_placeOf ν s (μ 53 p.toNat) ((ν 54 p.toNat) + j)).toNat)
        refine ⟨by omega, fun (e17 : (ν 39 (v_placeOf ν s (μ 53 p.toNat) ((ν 54 p.toNat) + j)).toNat) = 3) => ?_, fun (e17 : ¬ ((ν 39 (v_placeOf ν s (μ 53 p.toNat) ((ν 54 p.toNat) + j)).toNat) = 3)) => ?_⟩
        · exact mi_Wsub (List.forall_mem_cons.mpr ⟨(.head _), List.forall_mem_cons.mpr ⟨(.tail _ (.tail _ (.head _))), List.forall_mem_cons.mpr ⟨(.tail _ (.tail _ (.tail _ (.head _)))), List.forall_mem_cons.mpr ⟨(.tail _ (.tail _ (.tail _ (.tail _ (.head _))))), List.forall_mem_cons.mpr ⟨(.tail _ (.tail _ (.tail _ (.tail _ (.tail _ (.head _)))))), List.forall_mem_cons.mpr ⟨(.tail _ (.tail _ (.tail _ (.tail _ (.tail _ (.tail _ (.head _))))))), List.forall_mem_cons.mpr ⟨(.tail _ (.tail _ (.tail _ (.tail _ (.tail _ (.tail _ (.tail _ (.head _)))))))), fun _ h => absurd h List.not_mem_nil⟩⟩⟩⟩⟩⟩⟩) (ih (j + 1) ν hV (show 0 ≤ (j + 1) ∧ (j + 1) ≤ (ν 56 p.toNat) from by omega) hw (show ((ν 56 p.toNat) - (j + 1)) < (d : Int) from by omega) (Eq.trans (by first | exact ((if_neg e2).trans (if_pos e17)).symm | (rw [s_goneStream_12]; rw [if_neg e2, if_pos e17])) hsr))
        · refine ⟨_, hm_oi hx, aR (A 39), rfl, ?_⟩
          refine ⟨by omega, fun (e18 : g = 0) => ?_, fun (e18 : ¬ (g = 0)) => ?_⟩
          · refine ⟨2, rfl, ?_⟩
            refine ⟨131072, _, _, hm_a hx 39 rfl, by omega, (show -128 ≤ 2 ∧ 2 < 128 from by omega), hm_pi hx (i := (v_placeOf ν s (μ 53 p.toNat) ((ν 54 p.toNat) + j)).toNat) (v := 2) rfl rfl rfl rfl, ?_⟩
            have hV19 := hV.u (f := 39) (k := (v_placeOf ν s (μ 53 p.toNat) ((ν 54 p.toNat) + j)).toNat) (v := 2) (show 0 ≤ 2 ∧ 2 ≤ 3 from by omega)
            exact mi_Wsub (List.forall_mem_cons.mpr ⟨(.head _), List.forall_mem_cons.mpr ⟨(.tail _ (.tail _ (.head _))), List.forall_mem_cons.mpr ⟨(.tail _ (.tail _ (.tail _ (.head _)))), List.forall_mem_cons.mpr ⟨(.tail _ (.tail _ (.tail _ (.tail _ (.head _))))), List.forall_mem_cons.mpr ⟨(.tail _ (.tail _ (.tail _ (.tail _ (.tail _ (.head _)))))), List.forall_mem_cons.mpr ⟨(.tail _ (.tail _ (.tail _ (.tail _ (.tail _ (.tail _ (.head _))))))), List.forall_mem_cons.mpr ⟨(.tail _ (.tail _ (.tail _ (.tail _ (.tail _ (.tail _ (.tail _ (.head _)))))))), fun _ h => absurd h List.not_mem_nil⟩⟩⟩⟩⟩⟩⟩) (ih (j + 1) (u2 ν 39 (v_placeOf ν s (μ 53 p.toNat) ((ν 54 p.toNat) + j)).toNat 2) hV19 (show 0 ≤ (j + 1) ∧ (j + 1) ≤ (ν 56 p.toNat) from by omega) hw (show ((ν 56 p.toNat) - (j + 1)) < (d : Int) from by omega) (Eq.trans (by first | exact ((if_neg e2).trans ((if_neg e17).trans (if_pos e18))).symm | (rw [s_goneStream_12]; rw [if_neg e2, if_neg e17, if_pos e18])) hsr))
          · refine ⟨3, rfl, ?_⟩
            refine ⟨131072, _, _, hm_a hx 39 rfl, by omega, (show -128 ≤ 3 ∧ 3 < 128 from by omega), hm_pi hx (i := (v_placeOf ν s (μ 53 p.toNat) ((ν 54 p.toNat) + j)).toNat) (v := 3) rfl rfl rfl rfl, ?_⟩
            have hV20 := hV.u (f := 39) (k := (v_placeOf ν s (μ 53 p.toNat) ((ν 54 p.toNat) + j)).toNat) (v := 3) (show 0 ≤ 3 ∧ 3 ≤ 3 from by omega)
            exact mi_Wsub (List.forall_mem_cons.mpr ⟨(.head _), List.forall_mem_cons.mpr ⟨(.tail _ (.tail _ (.head _))), List.forall_mem_cons.mpr ⟨(.tail _ (.tail _ (.tail _ (.head _)))), List.forall_mem_cons.mpr ⟨(.tail _ (.tail _ (.tail _ (.tail _ (.head _))))), List.forall_mem_cons.mpr ⟨(.tail _ (.tail _ (.tail _ (.tail _ (.tail _ (.head _)))))), List.forall_mem_cons.mpr ⟨(.tail _ (.tail _ (.tail _ (.tail _ (.tail _ (.tail _ (.head _))))))), List.forall_mem_cons.mpr ⟨(.tail _ (.tail _ (.tail _ (.tail _ (.tail _ (.tail _ (.tail _ (.head _)))))))), fun _ h => absurd h List.not_mem_nil⟩⟩⟩⟩⟩⟩⟩) (ih (j + 1) (u2 ν 39 (v_placeOf ν s (μ 53 p.toNat) ((ν 54 p.toNat) + j)).toNat 3) hV20 (show 0 ≤ (j + 1) ∧ (j + 1) ≤ (ν 56 p.toNat) from by omega) hw (show ((ν 56 p.toNat) - (j + 1)) < (d : Int) from by omega) (Eq.trans (by first | exact ((if_neg e2).trans ((if_neg e17).trans (if_neg e18))).symm | (rw [s_goneStream_12]; rw [if_neg e2, if_neg e17, if_neg e18])) hsr))
  refine ⟨_, hm_oi hx, aR (A 53), rfl, ?_⟩
  refine ⟨64, _, (μ 53 p.toNat), hm_a hx 53 rfl, by omega, rfl, ?_⟩
  have t21 := (show 0 ≤ μ 53 p.toNat ∧ μ 53 p.toNat ≤ 4611686018427387903 from hV.g 53 p.toNat)
  refine ⟨_, _, _, _, (m_at hF htr (s := s) (i := (μ 53 p.toNat))), Nat.le_refl _, Nat.le_refl _, mki_ (r := some (aI ((256 * s) + (μ 53 p.toNat)))) ?_, fun _ _ q => q.elim⟩
  refine mi_nl [(4, aI (μ 53 p.toNat)), (0, aR (A 99)), (1, aI s), (2, aI p), (3, aI g)] rfl ?_
  have t22 := (show 0 ≤ μ 56 p.toNat ∧ μ 56 p.toNat ≤ 1200 from hV.g 56 p.toNat)
  exact mi_Wsub (List.forall_mem_cons.mpr ⟨(.head _), List.forall_mem_cons.mpr ⟨(.tail _ (.tail _ (.tail _ (.head _)))), List.forall_mem_cons.mpr ⟨(.tail _ (.tail _ (.tail _ (.tail _ (.head _))))), List.forall_mem_cons.mpr ⟨(.tail _ (.tail _ (.tail _ (.tail _ (.tail _ (.head _)))))), List.forall_mem_cons.mpr ⟨(.tail _ (.tail _ (.tail _ (.tail _ (.tail _ (.tail _ (.head _))))))), List.forall_mem_cons.mpr ⟨(.tail _ (.tail _ (.head _))), List.forall_mem_cons.mpr ⟨(.tail _ (.head _)), fun _ h => absurd h List.not_mem_nil⟩⟩⟩⟩⟩⟩⟩) (loop12 _ 1201 0 μ hV (show 0 ≤ 0 ∧ 0 ≤ (μ 56 p.toNat) from by omega) h7 (show ((μ 56 p.toNat) - 0) < (1201 : Int) from by omega) rfl)
set_option maxRecDepth 100000 in
theorem s_goneStream_12_fr {f kk : Nat} {s p g : Int} (hf : [10, 13, 20, 35, 39].elem f = false) : ∀ (d : Nat) (j : Int) (ν : Nat → Nat → Int), s_goneStream_12 μ s p g d j ν f kk = ν f kk := by
  have n10 : f ≠ 10 := by rintro rfl; exact absurd hf (by decide)
  have n13 : f ≠ 13 := by rintro rfl; exact absurd hf (by decide)
  have n20 : f ≠ 20 := by rintro rfl; exact absurd hf (by decide)
  have n35 : f ≠ 35 := by rintro rfl; exact absurd hf (by decide)
  have n39 : f ≠ 39 := by rintro rfl; exact absurd hf (by decide)
  have f10 : ∀ (m : Nat → Nat → Int) (a b : Nat) (v : Int), u2 m 10 a v f b = m f b := fun m a b v => u2_f n10
  have f13 : ∀ (m : Nat → Nat → Int) (a b : Nat) (v : Int), u2 m 13 a v f b = m f b := fun m a b v => u2_f n13
  have f20 : ∀ (m : Nat → Nat → Int) (a b : Nat) (v : Int), u2 m 20 a v f b = m f b := fun m a b v => u2_f n20
  have f35 : ∀ (m : Nat → Nat → Int) (a b : Nat) (v : Int), u2 m 35 a v f b = m f b := fun m a b v => u2_f n35
  have f39 : ∀ (m : Nat → Nat → Int) (a b : Nat) (v : Int), u2 m 39 a v f b = m f b := fun m a b v => u2_f n39
  have c_looksOver : ∀ (m : Nat → Nat → Int) (z_s z_i : Int) (k : Nat), s_looksOver m z_s z_i f k = m f k := by intros; exact s_looksOver_fr (by simp only [List.elem_cons, List.elem_nil, beq_eq_false_iff_ne.mpr n10, beq_eq_false_iff_ne.mpr n13, beq_eq_false_iff_ne.mpr n35]; try rfl)
  intro d
  induction d with
  | zero => intros; rfl
  | succ d ih =>
    intro j ν
    rw [s_goneStream_12]
    repeat' with_reducible apply f_ite
    all_goals first | rfl | simp only [f10, f13, f20, f35, f39, c_looksOver, ih]
set_option maxRecDepth 100000 in
theorem s_goneStream_fr {f kk : Nat} {s p g : Int} (hf : [10, 13, 20, 35, 39].elem f = false) : s_goneStream μ s p g f kk = μ f kk := by
  have n10 : f ≠ 10 := by rintro rfl; exact absurd hf (by decide)
  have n13 : f ≠ 13 := by rintro rfl; exact absurd hf (by decide)
  have n20 : f ≠ 20 := by rintro rfl; exact absurd hf (by decide)
  have n35 : f ≠ 35 := by rintro rfl; exact absurd hf (by decide)
  have n39 : f ≠ 39 := by rintro rfl; exact absurd hf (by decide)
  have f10 : ∀ (m : Nat → Nat → Int) (a b : Nat) (v : Int), u2 m 10 a v f b = m f b := fun m a b v => u2_f n10
  have f13 : ∀ (m : Nat → Nat → Int) (a b : Nat) (v : Int), u2 m 13 a v f b = m f b := fun m a b v => u2_f n13
  have f20 : ∀ (m : Nat → Nat → Int) (a b : Nat) (v : Int), u2 m 20 a v f b = m f b := fun m a b v => u2_f n20
  have f35 : ∀ (m : Nat → Nat → Int) (a b : Nat) (v : Int), u2 m 35 a v f b = m f b := fun m a b v => u2_f n35
  have f39 : ∀ (m : Nat → Nat → Int) (a b : Nat) (v : Int), u2 m 39 a v f b = m f b := fun m a b v => u2_f n39
  have c_looksOver : ∀ (m : Nat → Nat → Int) (z_s z_i : Int) (k : Nat), s_looksOver m z_s z_i f k = m f k := by intros; exact s_looksOver_fr (by simp only [List.elem_cons, List.elem_nil, beq_eq_false_iff_ne.mpr n10, beq_eq_false_iff_ne.mpr n13, beq_eq_false_iff_ne.mpr n35]; try rfl)
  unfold s_goneStream
  repeat' with_reducible apply f_ite
  all_goals first | rfl | simp only [f10, f13, f20, f35, f39, c_looksOver, s_goneStream_12_fr hf]
def s_gone (μ : Nat → Nat → Int) (p g : Int) : Nat → Nat → Int := (if (v_noPlace μ p) = 0 then (if g = 0 then (if 256 ≤ (μ 53 p.toNat) then (if (μ 52 p.toNat) = 4 then (if (μ 21 (mj (μ 51 p.toNat) 0)) = 1 then (s_looksOver (u2 (u2 (u2 (u2 μ 0 0 (if (v_noPlace μ p) = 0 then 0 else 1)) 0 0 0) 58 p.toNat 0) 22 (mj (μ 51 p.toNat) 0) 1) (μ 51 p.toNat) (μ 53 p.toNat)) else (s_looksOver (u2 (u2 (u2 μ 0 0 (if (v_noPlace μ p) = 0 then 0 else 1)) 0 0 0) 58 p.toNat 0) (μ 51 p.toNat) (μ 53 p.toNat))) else (if (μ 52 p.toNat) = 5 then (u2 (u2 (u2 (u2 μ 0 0 (if (v_noPlace μ p) = 0 then 0 else 1)) 0 0 0) 58 p.toNat 0) 33 (mj (μ 51 p.toNat) 0) 1) else (if (μ 52 p.toNat) = 8 then (s_goneStream (u2 (u2 (u2 μ 0 0 (if (v_noPlace μ p) = 0 then 0 else 1)) 0 0 0) 58 p.toNat 0) (μ 51 p.toNat) p g) else (if (μ 52 p.toNat) = 16 then (if (μ 53 p.toNat) = (μ 11 (μ 51 p.toNat).toNat) then (u2 (u2 (u2 (u2 μ 0 0 (if (v_noPlace μ p) = 0 then 0 else 1)) 0 0 0) 58 p.toNat 0) 12 (μ 51 p.toNat).toNat 1) else (u2 (u2 (u2 μ 0 0 (if (v_noPlace μ p) = 0 then 0 else 1)) 0 0 0) 58 p.toNat 0)) else (if (μ 52 p.toNat) = 17 then (if (μ 54 p.toNat) = (μ 30 (mj (μ 51 p.toNat) 0)) then (u2 (u2 (u2 (u2 μ 0 0 (if (v_noPlace μ p) = 0 then 0 else 1)) 0 0 0) 58 p.toNat 0) 31 (mj (μ 51 p.toNat) 0) 1) else (u2 (u2 (u2 μ 0 0 (if (v_noPlace μ p) = 0 then 0 else 1)) 0 0 0) 58 p.toNat 0)) else (if (μ 52 p.toNat) = 18 then (if (μ 53 p.toNat) = (μ 10 (((2 * (μ 51 p.toNat)) + (μ 52 p.toNat)) - 18).toNat) then (u2 (u2 (u2 (u2 μ 0 0 (if (v_noPlace μ p) = 0 then 0 else 1)) 0 0 0) 58 p.toNat 0) 13 (((2 * (μ 51 p.toNat)) + (μ 52 p.toNat)) - 18).toNat 1) else (u2 (u2 (u2 μ 0 0 (if (v_noPlace μ p) = 0 then 0 else 1)) 0 0 0) 58 p.toNat 0)) else (if (μ 52 p.toNat) = 19 then (if (μ 53 p.toNat) = (μ 10 (((2 * (μ 51 p.toNat)) + (μ 52 p.toNat)) - 18).toNat) then (u2 (u2 (u2 (u2 μ 0 0 (if (v_noPlace μ p) = 0 then 0 else 1)) 0 0 0) 58 p.toNat 0) 13 (((2 * (μ 51 p.toNat)) + (μ 52 p.toNat)) - 18).toNat 1) else (u2 (u2 (u2 μ 0 0 (if (v_noPlace μ p) = 0 then 0 else 1)) 0 0 0) 58 p.toNat 0)) else (if (μ 52 p.toNat) = 20 then (if (μ 14 (3 * (μ 51 p.toNat)).toNat) = (μ 53 p.toNat) then (u2 (u2 (u2 (u2 μ 0 0 (if (v_noPlace μ p) = 0 then 0 else 1)) 0 0 0) 58 p.toNat 0) 14 (3 * (μ 51 p.toNat)).toNat (-1)) else (u2 (u2 (u2 μ 0 0 (if (v_noPlace μ p) = 0 then 0 else 1)) 0 0 0) 58 p.toNat 0)) else (if (μ 52 p.toNat) = 21 then (if (μ 24 (mj (μ 51 p.toNat) 0)) = (μ 54 p.toNat) then (u2 (u2 (u2 (u2 μ 0 0 (if (v_noPlace μ p) = 0 then 0 else 1)) 0 0 0) 58 p.toNat 0) 24 (mj (μ 51 p.toNat) 0) (-1)) else (u2 (u2 (u2 μ 0 0 (if (v_noPlace μ p) = 0 then 0 else 1)) 0 0 0) 58 p.toNat 0)) else (if (μ 14 ((((3 * (μ 51 p.toNat)) + 1) + (μ 52 p.toNat)) - 22).toNat) = (μ 53 p.toNat) then (u2 (u2 (u2 (u2 μ 0 0 (if (v_noPlace μ p) = 0 then 0 else 1)) 0 0 0) 58 p.toNat 0) 14 ((((3 * (μ 51 p.toNat)) + 1) + (μ 52 p.toNat)) - 22).toNat (-1)) else (u2 (u2 (u2 μ 0 0 (if (v_noPlace μ p) = 0 then 0 else 1)) 0 0 0) 58 p.toNat 0))))))))))) else (if (μ 52 p.toNat) = 4 then (if (μ 21 (mj (μ 51 p.toNat) (μ 53 p.toNat))) = 1 then (s_looksOver (u2 (u2 (u2 (u2 μ 0 0 (if (v_noPlace μ p) = 0 then 0 else 1)) 0 0 0) 58 p.toNat 0) 22 (mj (μ 51 p.toNat) (μ 53 p.toNat)) 1) (μ 51 p.toNat) (μ 53 p.toNat)) else (s_looksOver (u2 (u2 (u2 μ 0 0 (if (v_noPlace μ p) = 0 then 0 else 1)) 0 0 0) 58 p.toNat 0) (μ 51 p.toNat) (μ 53 p.toNat))) else (if (μ 52 p.toNat) = 5 then (u2 (u2 (u2 (u2 μ 0 0 (if (v_noPlace μ p) = 0 then 0 else 1)) 0 0 0) 58 p.toNat 0) 33 (mj (μ 51 p.toNat) (μ 53 p.toNat)) 1) else (if (μ 52 p.toNat) = 8 then (s_goneStream (u2 (u2 (u2 μ 0 0 (if (v_noPlace μ p) = 0 then 0 else 1)) 0 0 0) 58 p.toNat 0) (μ 51 p.toNat) p g) else (if (μ 52 p.toNat) = 16 then (if (μ 53 p.toNat) = (μ 11 (μ 51 p.toNat).toNat) then (u2 (u2 (u2 (u2 μ 0 0 (if (v_noPlace μ p) = 0 then 0 else 1)) 0 0 0) 58 p.toNat 0) 12 (μ 51 p.toNat).toNat 1) else (u2 (u2 (u2 μ 0 0 (if (v_noPlace μ p) = 0 then 0 else 1)) 0 0 0) 58 p.toNat 0)) else (if (μ 52 p.toNat) = 17 then (if (μ 54 p.toNat) = (μ 30 (mj (μ 51 p.toNat) (μ 53 p.toNat))) then (u2 (u2 (u2 (u2 μ 0 0 (if (v_noPlace μ p) = 0 then 0 else 1)) 0 0 0) 58 p.toNat 0) 31 (mj (μ 51 p.toNat) (μ 53 p.toNat)) 1) else (u2 (u2 (u2 μ 0 0 (if (v_noPlace μ p) = 0 then 0 else 1)) 0 0 0) 58 p.toNat 0)) else (if (μ 52 p.toNat) = 18 then (if (μ 53 p.toNat) = (μ 10 (((2 * (μ 51 p.toNat)) + (μ 52 p.toNat)) - 18).toNat) then (u2 (u2 (u2 (u2 μ 0 0 (if (v_noPlace μ p) = 0 then 0 else 1)) 0 0 0) 58 p.toNat 0) 13 (((2 * (μ 51 p.toNat)) + (μ 52 p.toNat)) - 18).toNat 1) else (u2 (u2 (u2 μ 0 0 (if (v_noPlace μ p) = 0 then 0 else 1)) 0 0 0) 58 p.toNat 0)) else (if (μ 52 p.toNat) = 19 then (if (μ 53 p.toNat) = (μ 10 (((2 * (μ 51 p.toNat)) + (μ 52 p.toNat)) - 18).toNat) then (u2 (u2 (u2 (u2 μ 0 0 (if (v_noPlace μ p) = 0 then 0 else 1)) 0 0 0) 58 p.toNat 0) 13 (((2 * (μ 51 p.toNat)) + (μ 52 p.toNat)) - 18).toNat 1) else (u2 (u2 (u2 μ 0 0 (if (v_noPlace μ p) = 0 then 0 else 1)) 0 0 0) 58 p.toNat 0)) else (if (μ 52 p.toNat) = 20 then (if (μ 14 (3 * (μ 51 p.toNat)).toNat) = (μ 53 p.toNat) then (u2 (u2 (u2 (u2 μ 0 0 (if (v_noPlace μ p) = 0 then 0 else 1)) 0 0 0) 58 p.toNat 0) 14 (3 * (μ 51 p.toNat)).toNat (-1)) else (u2 (u2 (u2 μ 0 0 (if (v_noPlace μ p) = 0 then 0 else 1)) 0 0 0) 58 p.toNat 0)) else (if (μ 52 p.toNat) = 21 then (if (μ 24 (mj (μ 51 p.toNat) (μ 53 p.toNat))) = (μ 54 p.toNat) then (u2 (u2 (u2 (u2 μ 0 0 (if (v_noPlace μ p) = 0 then 0 else 1)) 0 0 0) 58 p.toNat 0) 24 (mj (μ 51 p.toNat) (μ 53 p.toNat)) (-1)) else (u2 (u2 (u2 μ 0 0 (if (v_noPlace μ p) = 0 then 0 else 1)) 0 0 0) 58 p.toNat 0)) else (if (μ 14 ((((3 * (μ 51 p.toNat)) + 1) + (μ 52 p.toNat)) - 22).toNat) = (μ 53 p.toNat) then (u2 (u2 (u2 (u2 μ 0 0 (if (v_noPlace μ p) = 0 then 0 else 1)) 0 0 0) 58 p.toNat 0) 14 ((((3 * (μ 51 p.toNat)) + 1) + (μ 52 p.toNat)) - 22).toNat (-1)) else (u2 (u2 (u2 μ 0 0 (if (v_noPlace μ p) = 0 then 0 else 1)) 0 0 0) 58 p.toNat 0)))))))))))) else (if (μ 59 p.toNat) = 1 then (if 256 ≤ (μ 53 p.toNat) then (if (μ 52 p.toNat) = 4 then (if (μ 21 (mj (μ 51 p.toNat) 0)) = 1 then (s_looksOver (u2 (u2 (u2 (u2 μ 0 0 (if (v_noPlace μ p) = 0 then 0 else 1)) 0 0 0) 58 p.toNat 0) 21 (mj (μ 51 p.toNat) 0) 2) (μ 51 p.toNat) (μ 53 p.toNat)) else (s_looksOver (u2 (u2 (u2 μ 0 0 (if (v_noPlace μ p) = 0 then 0 else 1)) 0 0 0) 58 p.toNat 0) (μ 51 p.toNat) (μ 53 p.toNat))) else (if (μ 52 p.toNat) = 5 then (u2 (u2 (u2 μ 0 0 (if (v_noPlace μ p) = 0 then 0 else 1)) 0 0 0) 58 p.toNat 0) else (if (μ 52 p.toNat) = 8 then (s_goneStream (u2 (u2 (u2 μ 0 0 (if (v_noPlace μ p) = 0 then 0 else 1)) 0 0 0) 58 p.toNat 0) (μ 51 p.toNat) p g) else (if (μ 52 p.toNat) = 16 then (u2 (u2 (u2 μ 0 0 (if (v_noPlace μ p) = 0 then 0 else 1)) 0 0 0) 58 p.toNat 0) else (if (μ 52 p.toNat) = 17 then (u2 (u2 (u2 μ 0 0 (if (v_noPlace μ p) = 0 then 0 else 1)) 0 0 0) 58 p.toNat 0) else (if (μ 52 p.toNat) = 18 then (u2 (u2 (u2 μ 0 0 (if (v_noPlace μ p) = 0 then 0 else 1)) 0 0 0) 58 p.toNat 0) else (if (μ 52 p.toNat) = 19 then (u2 (u2 (u2 μ 0 0 (if (v_noPlace μ p) = 0 then 0 else 1)) 0 0 0) 58 p.toNat 0) else (if (μ 52 p.toNat) = 20 then (u2 (u2 (u2 μ 0 0 (if (v_noPlace μ p) = 0 then 0 else 1)) 0 0 0) 58 p.toNat 0) else (if (μ 52 p.toNat) = 21 then (u2 (u2 (u2 μ 0 0 (if (v_noPlace μ p) = 0 then 0 else 1)) 0 0 0) 58 p.toNat 0) else (u2 (u2 (u2 μ 0 0 (if (v_noPlace μ p) = 0 then 0 else 1)) 0 0 0) 58 p.toNat 0)))))))))) else (if (μ 52 p.toNat) = 4 then (if (μ 21 (mj (μ 51 p.toNat) (μ 53 p.toNat))) = 1 then (s_looksOver (u2 (u2 (u2 (u2 μ 0 0 (if (v_noPlace μ p) = 0 then 0 else 1)) 0 0 0) 58 p.toNat 0) 21 (mj (μ 51 p.toNat) (μ 53 p.toNat)) 2) (μ 51 p.toNat) (μ 53 p.toNat)) else (s_looksOver (u2 (u2 (u2 μ 0 0 (if (v_noPlace μ p) = 0 then 0 else 1)) 0 0 0) 58 p.toNat 0) (μ 51 p.toNat) (μ 53 p.toNat))) else (if (μ 52 p.toNat) = 5 then (u2 (u2 (u2 μ 0 0 (if (v_noPlace μ p) = 0 then 0 else 1)) 0 0 0) 58 p.toNat 0) else (if (μ 52 p.toNat) = 8 then (s_goneStream (u2 (u2 (u2 μ 0 0 (if (v_noPlace μ p) = 0 then 0 else 1)) 0 0 0) 58 p.toNat 0) (μ 51 p.toNat) p g) else (if (μ 52 p.toNat) = 16 then (u2 (u2 (u2 μ 0 0 (if (v_noPlace μ p) = 0 then 0 else 1)) 0 0 0) 58 p.toNat 0) else (if (μ 52 p.toNat) = 17 then (u2 (u2 (u2 μ 0 0 (if (v_noPlace μ p) = 0 then 0 else 1)) 0 0 0) 58 p.toNat 0) else (if (μ 52 p.toNat) = 18 then (u2 (u2 (u2 μ 0 0 (if (v_noPlace μ p) = 0 then 0 else 1)) 0 0 0) 58 p.toNat 0) else (if (μ 52 p.toNat) = 19 then (u2 (u2 (u2 μ 0 0 (if (v_noPlace μ p) = 0 then 0 else 1)) 0 0 0) 58 p.toNat 0) else (if (μ 52 p.toNat) = 20 then (u2 (u2 (u2 μ 0 0 (if (v_noPlace μ p) = 0 then 0 else 1)) 0 0 0) 58 p.toNat 0) else (if (μ 52 p.toNat) = 21 then (u2 (u2 (u2 μ 0 0 (if (v_noPlace μ p) = 0 then 0 else 1)) 0 0 0) 58 p.toNat 0) else (u2 (u2 (u2 μ 0 0 (if (v_noPlace μ p) = 0 then 0 else 1)) 0 0 0) 58 p.toNat 0))))))))))) else (u2 (u2 μ 0 0 (if (v_noPlace μ p) = 0 then 0 else 1)) 0 0 2))) else (u2 μ 0 0 (if (v_noPlace μ p) = 0 then 0 else 1)))
set_option maxRecDepth 100000 in
set_option maxHeartbeats 4000000 in
theorem m_gone (hF : mm_F G) (htr : L.stackTraces = false) (hx : mx A ax) (hV : mV μ) {p g : Int} (h1 : -2147483648 ≤ p) (h1a : p < 2147483648) (h2 : g = 0 ∨ g = 1) (hL : mLi μ) :
    mm_Met L G SX6_gone [.ref (A 99), .int (iI p), .int (iI g)] (hm G A ax h0 μ) 0 0 (mRetS none (hm G A ax h0 (s_gone μ p g)) (mV (s_gone μ p g) ∧ (fun _ m => mLi m) 0 (s_gone μ p g))) mm_no := by
  refine mi_meth MX6_gone 600 hF htr okX6_gone (av := [aR (A 99), aI p, aI g]) (by decide +kernel) (Nat.le_of_ble_eq_true rfl) cmX6_gone (fun θ hc => ?_)
  refine ⟨⟨_, hm_oi hx⟩, _, _, _, _, (m_noPlace hF htr hx hV (p := p) (by omega) (by omega)), Nat.le_refl _, Nat.le_refl _, mki_ (r := some (aI (v_noPlace μ p))) ?_, fun _ _ q => q.elim⟩
  have t1 := noPlace_b (μ := μ) (p := p)
  have t2 := (fun q => noPlace_L (μ := μ) (p := p) hL q (hV.g 58 _))
  refine ⟨⟨_, hm_oi hx⟩, _, _, _, _, (m_failsV hF htr hx (v := (v_noPlace μ p)) (c := 1) (by omega)), Nat.le_refl _, Nat.le_refl _, mki_ (r := some (aI (v_noPlace μ p))) ?_, fun _ _ q => q.elim⟩
  have hV3 := hV.u (f := 0) (k := 0) (v := (if (v_noPlace μ p) = 0 then 0 else 1)) (show 0 ≤ (if (v_noPlace μ p) = 0 then 0 else 1) ∧ (if (v_noPlace μ p) = 0 then 0 else 1) ≤ 2 from by split <;> omega)
  refine ⟨by omega, fun (e4 : ¬ ((v_noPlace μ p) = 0)) => ?_, fun (e4 : (v_noPlace μ p) = 0) => ?_⟩
  · exact ⟨mRetVP (P := fun _ m => mLi m) (by first | exact if_neg e4 | (unfold s_gone; rw [if_neg e4])) hV3 (mLi_cg (by intro f hf k; simp only [List.elem_eq_mem, decide_eq_true_eq, List.mem_cons, List.not_mem_nil, or_false] at hf; rcases hf with rfl | rfl | rfl | rfl | rfl | rfl | rfl | rfl <;> first | exact ((u2_f (by decide))).symm) hL), Nat.le_refl _, Nat.le_refl _⟩
  · refine ⟨by omega, fun (e5 : g = 0) => ?_, fun (e5 : ¬ (g = 0)) => ?_⟩
    · refine ⟨⟨_, hm_oi hx⟩, _, _, _, _, (m_fails0 hF htr hx (c := 2)), Nat.le_refl _, Nat.le_refl _, mki_ (r := some (aI 0)) ?_, fun _ _ q => q.elim⟩
      have hV6 := hV3.u (f := 0) (k := 0) (v := 0) (show 0 ≤ 0 ∧ 0 ≤ 2 from by omega)
      refine ⟨by omega, fun _ => ?_, fun (e : ¬ ((0 : Int) = 0)) => (e (by decide)).elim⟩
      refine ⟨_, hm_oi hx, aR (A 58), rfl, ?_⟩
      refine ⟨64, _, _, hm_a hx 58 rfl, by omega, (show 0 = 0 ∨ 0 = 1 from by omega), hm_pi hx (i := p.toNat) (v := 0) rfl rfl rfl rfl, ?_⟩
      have hV7 := hV6.u (f := 58) (k := p.toNat) (v := 0) (show 0 ≤ 0 ∧ 0 ≤ 1 from by omega)
      refine ⟨_, hm_oi hx, aR (A 51), rfl, ?_⟩
      refine ⟨64, _, (μ 51 p.toNat), hm_a hx 51 rfl, by omega, (Eq.trans (u2_f (by decide)) (Eq.trans (u2_f (by decide)) (u2_f (by decide)))), ?_⟩
      have t8 := (show 0 ≤ μ 51 p.toNat ∧ μ 51 p.toNat ≤ 1 from hV.g 51 p.toNat)
      refine ⟨_, hm_oi hx, aR (A 53), rfl, ?_⟩
      refine mi_nl [(3, aI (μ 51 p.toNat)), (0, aR (A 99)), (1, aI p), (2, aI g)] rfl ?_
      refine ⟨64, _, (μ 53 p.toNat), hm_a hx 53 rfl, by omega, (Eq.trans (u2_f (by decide)) (Eq.trans (u2_f (by decide)) (u2_f (by decide)))), ?_⟩
      have t9 := (show 0 ≤ μ 53 p.toNat ∧ μ 53 p.toNat ≤ 4611686018427387903 from hV.g 53 p.toNat)
      refine ⟨256, rfl, ?_⟩
      refine mi_nl [(4, aL (μ 53 p.toNat)), (3, aI (μ 51 p.toNat)), (0, aR (A 99)), (1, aI p), (2, aI g)] rfl ?_
      refine ⟨by omega, fun (e10 : 256 ≤ (μ 53 p.toNat)) => ?_, fun (e10 : ¬ (256 ≤ (μ 53 p.toNat))) => ?_⟩
      · refine ⟨_, _, _, _, (m_at hF htr (s := (μ 51 p.toNat)) (i := 0)), Nat.le_refl _, Nat.le_refl _, mki_ (r := some (aI ((256 * (μ 51 p.toNat)) + 0))) ?_, fun _ _ q => q.elim⟩
        refine ⟨_, hm_oi hx, aR (A 52), rfl, ?_⟩
        refine mi_nl [(6, aI ((256 * (μ 51 p.toNat)) + 0)), (4, aL (μ 53 p.toNat)), (3, aI (μ 51 p.toNat)), (0, aR (A 99)), (1, aI p), (2, aI g)] rfl ?_
        refine ⟨64, _, (μ 52 p.toNat), hm_a hx 52 rfl, by omega, (Eq.trans (u2_f (by decide)) (Eq.trans (u2_f (by decide)) (u2_f (by decide)))), ?_⟩
        have t11 := (show 0 ≤ μ 52 p.toNat ∧ μ 52 p.toNat ≤ 23 from hV.g 52 p.toNat)
        refine ⟨by omega, ⟨fun (e12 : (μ 52 p.toNat) = 4) => ?_, fun (e13 : (μ 52 p.toNat) = 5) => ?_, fun (e14 : (μ 52 p.toNat) = 6) => ?_, fun (e15 : (μ 52 p.toNat) = 7) => ?_, fun (e16 : (μ 52 p.toNat) = 8) => ?_, fun (e17 : (μ 52 p.toNat) = 9) => ?_, fun (e18 : (μ 52 p.toNat) = 10) => ?_, fun (e19 : (μ 52 p.toNat) = 11) => ?_, fun (e20 : (μ 52 p.toNat) = 12) => ?_, fun (e21 : (μ 52 p.toNat) = 13) => ?_, fun (e22 : (μ 52 p.toNat) = 14) => ?_, fun (e23 : (μ 52 p.toNat) = 15) => ?_, fun (e24 : (μ 52 p.toNat) = 16) => ?_, fun (e25 : (μ 52 p.toNat) = 17) => ?_, fun (e26 : (μ 52 p.toNat) = 18) => ?_, fun (e27 : (μ 52 p.toNat) = 19) => ?_, fun (e28 : (μ 52 p.toNat) = 20) => ?_, fun (e29 : (μ 52 p.toNat) = 21) => ?_, trivial⟩, fun (e30 : (μ 52 p.toNat) < 4 ∨ 21 < (μ 52 p.toNat)) => ?_⟩
        · refine ⟨by omega, fun _ => ?_, fun (e : ¬ (g = 0)) => absurd e (by omega)⟩
          refine ⟨by omega, fun (e : ¬ (g = 0)) => absurd e (by omega), fun _ => ?_⟩
          refine ⟨_, hm_oi hx, aR (A 21), rfl, ?_⟩
          refine ⟨512, _, (μ 21 (mj (μ 51 p.toNat) 0)), hm_a hx 21 rfl, by omega, (Eq.trans (u2_f (by decide)) (Eq.trans (u2_f (by decide)) (u2_f (by decide)))), ?_⟩
          have t33 := (show 0 ≤ μ 21 (mj (μ 51 p.toNat) 0) ∧ μ 21 (mj (μ 51 p.toNat) 0) ≤ 2 from hV.g 21 (mj (μ 51 p.toNat) 0))
          refine ⟨by omega, fun (e34 : ¬ ((μ 21 (mj (μ 51 p.toNat) 0)) = 1)) => ?_, fun (e34 : (μ 21 (mj (μ 51 p.toNat) 0)) = 1) => ?_⟩
          · refine ⟨⟨_, hm_oi hx⟩, _, _, _, _, (m_looksOver hF htr hx hV7 (s := (μ 51 p.toNat)) (i := (μ 53 p.toNat)) (by omega) (by omega) (by omega) (by omega)), Nat.le_refl _, Nat.le_refl _, mkis_ (r := none) (fun hV35 => ?_), fun _ _ q => q.elim⟩
            exact ⟨mRetVP (P := fun _ m => mLi m) (by first | exact (if_pos e4).trans ((if_pos e5).trans ((if_pos e10).trans ((if_pos e12).trans (if_neg e34)))) | (unfold s_gone; rw [if_pos e4, if_pos e5, if_pos e10, if_pos e12, if_neg e34])) hV35 (mLi_off (B := (u2 (u2 μ 0 0 (if (v_noPlace μ p) = 0 then 0 else 1)) 0 0 0)) (p := p.toNat) (by intro f hf k; simp only [List.elem_eq_mem, decide_eq_true_eq, List.mem_cons, List.not_mem_nil, or_false] at hf; rcases hf with rfl | rfl | rfl | rfl | rfl | rfl | rfl <;> first | exact ((Eq.trans (s_looksOver_fr (by decide)) (Eq.trans (u2_f (by decide)) (Eq.trans (u2_f (by decide)) (u2_f (by decide)))))).symm) (fun q => (Eq.trans (u2_f (by decide)) (u2_f (by decide)))) (fun q => (s_looksOver_fr (by decide))) hL), Nat.le_refl _, Nat.le_refl _⟩
          · refine ⟨_, hm_oi hx, aR (A 22), rfl, ?_⟩
            refine ⟨512, _, _, hm_a hx 22 rfl, by omega, (show 1 = 0 ∨ 1 = 1 from by omega), hm_pi hx (i := (mj (μ 51 p.toNat) 0)) (v := 1) rfl rfl rfl rfl, ?_⟩
            have hV36 := hV7.u (f := 22) (k := (mj (μ 51 p.toNat) 0)) (v := 1) (show 0 ≤ 1 ∧ 1 ≤ 1 from by omega)
            refine ⟨⟨_, hm_oi hx⟩, _, _, _, _, (m_looksOver hF htr hx hV36 (s := (μ 51 p.toNat)) (i := (μ 53 p.toNat)) (by omega) (by omega) (by omega) (by omega)), Nat.le_refl _, Nat.le_refl _, mkis_ (r := none) (fun hV37 => ?_), fun _ _ q => q.elim⟩
            exact ⟨mRetVP (P := fun _ m => mLi m) (by first | exact (if_pos e4).trans ((if_pos e5).trans ((if_pos e10).trans ((if_pos e12).trans (if_pos e34)))) | (unfold s_gone; rw [if_pos e4, if_pos e5, if_pos e10, if_pos e12, if_pos e34])) hV37 (mLi_off (B := (u2 (u2 μ 0 0 (if (v_noPlace μ p) = 0 then 0 else 1)) 0 0 0)) (p := p.toNat) (by intro f hf k; simp only [List.elem_eq_mem, decide_eq_true_eq, List.mem_cons, List.not_mem_nil, or_false] at hf; rcases hf with rfl | rfl | rfl | rfl | rfl | rfl | rfl <;> first | exact ((Eq.trans (s_looksOver_fr (by decide)) (Eq.trans (u2_f (by decide)) (Eq.trans (u2_f (by decide)) (Eq.trans (u2_f (by decide)) (u2_f (by decide))))))).symm) (fun q => (Eq.trans (u2_f (by decide)) (u2_f (by decide)))) (fun q => (Eq.trans (s_looksOver_fr (by decide)) (u2_f (by decide)))) hL), Nat.le_refl _, Nat.le_refl _⟩
        · have e12n : ¬ ((μ 52 p.toNat) = 4) := by omega
          refine ⟨by omega, fun (e : ¬ (g = 0)) => absurd e (by omega), fun _ => ?_⟩
          refine ⟨_, hm_oi hx, aR (A 33), rfl, ?_⟩
          refine ⟨512, _, _, hm_a hx 33 rfl, by omega, (show 1 = 0 ∨ 1 = 1 from by omega), hm_pi hx (i := (mj (μ 51 p.toNat) 0)) (v := 1) rfl rfl rfl rfl, ?_⟩
          have hV39 := hV7.u (f := 33) (k := (mj (μ 51 p.toNat) 0)) (v := 1) (show 0 ≤ 1 ∧ 1 ≤ 1 from by omega)
          exact ⟨mRetVP (P := fun _ m => mLi m) (by first | exact (if_pos e4).trans ((if_pos e5).trans ((if_pos e10).trans ((if_neg e12n).trans (if_pos e13)))) | (unfold s_gone; rw [if_pos e4, if_pos e5, if_pos e10, if_neg e12n, if_pos e13])) hV39 (mLi_off (B := (u2 (u2 μ 0 0 (if (v_noPlace μ p) = 0 then 0 else 1)) 0 0 0)) (p := p.toNat) (by intro f hf k; simp only [List.elem_eq_mem, decide_eq_true_eq, List.mem_cons, List.not_mem_nil, or_false] at hf; rcases hf with rfl | rfl | rfl | rfl | rfl | rfl | rfl <;> first | exact ((Eq.trans (u2_f (by decide)) (Eq.trans (u2_f (by decide)) (Eq.trans (u2_f (by decide)) (u2_f (by decide)))))).symm) (fun q => (Eq.trans (u2_f (by decide)) (u2_f (by decide)))) (fun q => (u2_f (by decide))) hL), Nat.le_refl _, Nat.le_refl _⟩
        · exact absurd e14 (by omega)
        · exact absurd e15 (by omega)
        · have e12n : ¬ ((μ 52 p.toNat) = 4) := by omega
          have e13n : ¬ ((μ 52 p.toNat) = 5) := by omega
          refine ⟨⟨_, hm_oi hx⟩, _, _, _, _, (m_goneStream hF htr hx hV7 (s := (μ 51 p.toNat)) (p := p) (g := g) (by omega) (by omega) (by omega) (by omega) (by omega) (show (μ 53 p.toNat) < 256 from by omega) (show (μ 54 p.toNat) + (μ 56 p.toNat) ≤ mW μ (μ 51 p.toNat) (μ 53 p.toNat) from by omega)), Nat.le_refl _, Nat.le_refl _, mkis_ (r := none) (fun hV40 => ?_), fun _ _ q => q.elim⟩
          exact ⟨mRetVP (P := fun _ m => mLi m) (by first | exact (if_pos e4).trans ((if_pos e5).trans ((if_pos e10).trans ((if_neg e12n).trans ((if_neg e13n).trans (if_pos e16))))) | (unfold s_gone; rw [if_pos e4, if_pos e5, if_pos e10, if_neg e12n, if_neg e13n, if_pos e16])) hV40 (mLi_off (B := (u2 (u2 μ 0 0 (if (v_noPlace μ p) = 0 then 0 else 1)) 0 0 0)) (p := p.toNat) (by intro f hf k; simp only [List.elem_eq_mem, decide_eq_true_eq, List.mem_cons, List.not_mem_nil, or_false] at hf; rcases hf with rfl | rfl | rfl | rfl | rfl | rfl | rfl <;> first | exact ((Eq.trans (s_goneStream_fr (by decide)) (Eq.trans (u2_f (by decide)) (Eq.trans (u2_f (by decide)) (u2_f (by decide)))))).symm) (fun q => (Eq.trans (u2_f (by decide)) (u2_f (by decide)))) (fun q => (s_goneStream_fr (by decide))) hL), Nat.le_refl _, Nat.le_refl _⟩
        · exact absurd e17 (by omega)
        · exact absurd e18 (by omega)
        · exact absurd e19 (by omega)
        · exact absurd e20 (by omega)
        · exact absurd e21 (by omega)
        · exact absurd e22 (by omega)
        · exact absurd e23 (by omega)
        · have e12n : ¬ ((μ 52 p.toNat) = 4) := by omega
          have e13n : ¬ ((μ 52 p.toNat) = 5) := by omega
          have e16n : ¬ ((μ 52 p.toNat) = 8) := by omega
          refine ⟨by omega, fun (e : ¬ (g = 0)) => absurd e (by omega), fun _ => ?_⟩
          refine ⟨_, hm_oi hx, aR (A 11), rfl, ?_⟩
          refine ⟨2, _, (μ 11 (μ 51 p.toNat).toNat), hm_a hx 11 rfl, by omega, (Eq.trans (u2_f (by decide)) (Eq.trans (u2_f (by decide)) (u2_f (by decide)))), ?_⟩
          have t42 := (show 0 ≤ μ 11 (μ 51 p.toNat).toNat ∧ μ 11 (μ 51 p.toNat).toNat ≤ 65536 from hV.g 11 (μ 51 p.toNat).toNat)
          refine ⟨by omega, fun (e43 : ¬ ((μ 53 p.toNat) = (μ 11 (μ 51 p.toNat).toNat))) => ?_, fun (e43 : (μ 53 p.toNat) = (μ 11 (μ 51 p.toNat).toNat)) => ?_⟩
          · exact ⟨mRetVP (P := fun _ m => mLi m) (by first | exact (if_pos e4).trans ((if_pos e5).trans ((if_pos e10).trans ((if_neg e12n).trans ((if_neg e13n).trans ((if_neg e16n).trans ((if_pos e24).trans (if_neg e43))))))) | (unfold s_gone; rw [if_pos e4, if_pos e5, if_pos e10, if_neg e12n, if_neg e13n, if_neg e16n, if_pos e24, if_neg e43])) hV7 (mLi_off (B := (u2 (u2 μ 0 0 (if (v_noPlace μ p) = 0 then 0 else 1)) 0 0 0)) (p := p.toNat) (by intro f hf k; simp only [List.elem_eq_mem, decide_eq_true_eq, List.mem_cons, List.not_mem_nil, or_false] at hf; rcases hf with rfl | rfl | rfl | rfl | rfl | rfl | rfl <;> first | exact ((Eq.trans (u2_f (by decide)) (Eq.trans (u2_f (by decide)) (u2_f (by decide))))).symm) (fun q => (Eq.trans (u2_f (by decide)) (u2_f (by decide)))) (fun q => rfl) hL), Nat.le_refl _, Nat.le_refl _⟩
          · refine ⟨_, hm_oi hx, aR (A 12), rfl, ?_⟩
            refine ⟨2, _, _, hm_a hx 12 rfl, by omega, (show 1 = 0 ∨ 1 = 1 from by omega), hm_pi hx (i := (μ 51 p.toNat).toNat) (v := 1) rfl rfl rfl rfl, ?_⟩
            have hV44 := hV7.u (f := 12) (k := (μ 51 p.toNat).toNat) (v := 1) (show 0 ≤ 1 ∧ 1 ≤ 1 from by omega)
            exact ⟨mRetVP (P := fun _ m => mLi m) (by first | exact (if_pos e4).trans ((if_pos e5).trans ((if_pos e10).trans ((if_neg e12n).trans ((if_neg e13n).trans ((if_neg e16n).trans ((if_pos e24).trans (if_pos e43))))))) | (unfold s_gone; rw [if_pos e4, if_pos e5, if_pos e10, if_neg e12n, if_neg e13n, if_neg e16n, if_pos e24, if_pos e43])) hV44 (mLi_off (B := (u2 (u2 μ 0 0 (if (v_noPlace μ p) = 0 then 0 else 1)) 0 0 0)) (p := p.toNat) (by intro f hf k; simp only [List.elem_eq_mem, decide_eq_true_eq, List.mem_cons, List.not_mem_nil, or_false] at hf; rcases hf with rfl | rfl | rfl | rfl | rfl | rfl | rfl <;> first | exact ((Eq.trans (u2_f (by decide)) (Eq.trans (u2_f (by decide)) (Eq.trans (u2_f (by decide)) (u2_f (by decide)))))).symm) (fun q => (Eq.trans (u2_f (by decide)) (u2_f (by decide)))) (fun q => (u2_f (by decide))) hL), Nat.le_refl _, Nat.le_refl _⟩
        · have e12n : ¬ ((μ 52 p.toNat) = 4) := by omega
          have e13n : ¬ ((μ 52 p.toNat) = 5) := by omega
          have e16n : ¬ ((μ 52 p.toNat) = 8) := by omega
          have e24n : ¬ ((μ 52 p.toNat) = 16) := by omega
          refine ⟨by omega, fun (e : ¬ (g = 0)) => absurd e (by omega), fun _ => ?_⟩
          refine ⟨_, hm_oi hx, aR (A 54), rfl, ?_⟩
          refine ⟨64, _, (μ 54 p.toNat), hm_a hx 54 rfl, by omega, (Eq.trans (u2_f (by decide)) (Eq.trans (u2_f (by decide)) (u2_f (by decide)))), ?_⟩
          have t46 := (show 0 ≤ μ 54 p.toNat ∧ μ 54 p.toNat ≤ 4611686018427387903 from hV.g 54 p.toNat)
          refine ⟨_, hm_oi hx, aR (A 30), rfl, ?_⟩
          refine ⟨512, _, (μ 30 (mj (μ 51 p.toNat) 0)), hm_a hx 30 rfl, by omega, (Eq.trans (u2_f (by decide)) (Eq.trans (u2_f (by decide)) (u2_f (by decide)))), ?_⟩
          have t47 := (show 0 ≤ μ 30 (mj (μ 51 p.toNat) 0) ∧ μ 30 (mj (μ 51 p.toNat) 0) ≤ 65536 from hV.g 30 (mj (μ 51 p.toNat) 0))
          refine ⟨by omega, fun (e48 : ¬ ((μ 54 p.toNat) = (μ 30 (mj (μ 51 p.toNat) 0)))) => ?_, fun (e48 : (μ 54 p.toNat) = (μ 30 (mj (μ 51 p.toNat) 0))) => ?_⟩
          · exact ⟨mRetVP (P := fun _ m => mLi m) (by first | exact (if_pos e4).trans ((if_pos e5).trans ((if_pos e10).trans ((if_neg e12n).trans ((if_neg e13n).trans ((if_neg e16n).trans ((if_neg e24n).trans ((if_pos e25).trans (if_neg e48)))))))) | (unfold s_gone; rw [if_pos e4, if_pos e5, if_pos e10, if_neg e12n, if_neg e13n, if_neg e16n, if_neg e24n, if_pos e25, if_neg e48])) hV7 (mLi_off (B := (u2 (u2 μ 0 0 (if (v_noPlace μ p) = 0 then 0 else 1)) 0 0 0)) (p := p.toNat) (by intro f hf k; simp only [List.elem_eq_mem, decide_eq_true_eq, List.mem_cons, List.not_mem_nil, or_false] at hf; rcases hf with rfl | rfl | rfl | rfl | rfl | rfl | rfl <;> first | exact ((Eq.trans (u2_f (by decide)) (Eq.trans (u2_f (by decide)) (u2_f (by decide))))).symm) (fun q => (Eq.trans (u2_f (by decide)) (u2_f (by decide)))) (fun q => rfl) hL), Nat.le_refl _, Nat.le_refl _⟩
          · refine ⟨_, hm_oi hx, aR (A 31), rfl, ?_⟩
            refine ⟨512, _, _, hm_a hx 31 rfl, by omega, (show 1 = 0 ∨ 1 = 1 from by omega), hm_pi hx (i := (mj (μ 51 p.toNat) 0)) (v := 1) rfl rfl rfl rfl, ?_⟩
            have hV49 := hV7.u (f := 31) (k := (mj (μ 51 p.toNat) 0)) (v := 1) (show 0 ≤ 1 ∧ 1 ≤ 1 from by omega)
            exact ⟨mRetVP (P := fun _ m => mLi m) (by first | exact (if_pos e4).trans ((if_pos e5).trans ((if_pos e10).trans ((if_neg e12n).trans ((if_neg e13n).trans ((if_neg e16n).trans ((if_neg e24n).trans ((if_pos e25).trans (if_pos e48)))))))) | (unfold s_gone; rw [if_pos e4, if_pos e5, if_pos e10, if_neg e12n, if_neg e13n, if_neg e16n, if_neg e24n, if_pos e25, if_pos e48])) hV49 (mLi_off (B := (u2 (u2 μ 0 0 (if (v_noPlace μ p) = 0 then 0 else 1)) 0 0 0)) (p := p.toNat) (by intro f hf k; simp only [List.elem_eq_mem, decide_eq_true_eq, List.mem_cons, List.not_mem_nil, or_false] at hf; rcases hf with rfl | rfl | rfl | rfl | rfl | rfl | rfl <;> first | exact ((Eq.trans (u2_f (by decide)) (Eq.trans (u2_f (by decide)) (Eq.trans (u2_f (by decide)) (u2_f (by decide)))))).symm) (fun q => (Eq.trans (u2_f (by decide)) (u2_f (by decide)))) (fun q => (u2_f (by decide))) hL), Nat.le_refl _, Nat.le_refl _⟩
        · have e12n : ¬ ((μ 52 p.toNat) = 4) := by omega
          have e13n : ¬ ((μ 52 p.toNat) = 5) := by omega
          have e16n : ¬ ((μ 52 p.toNat) = 8) := by omega
          have e24n : ¬ ((μ 52 p.toNat) = 16) := by omega
          have e25n : ¬ ((μ 52 p.toNat) = 17) := by omega
          refine ⟨_, hm_oi hx, aR (A 52), rfl, ?_⟩
          refine ⟨64, _, (μ 52 p.toNat), hm_a hx 52 rfl, by omega, (Eq.trans (u2_f (by decide)) (Eq.trans (u2_f (by decide)) (u2_f (by decide)))), ?_⟩
          refine ⟨by omega, fun (e : ¬ (g = 0)) => absurd e (by omega), fun _ => ?_⟩
          refine mi_nl [(7, aI (((2 * (μ 51 p.toNat)) + (μ 52 p.toNat)) - 18)), (6, aI ((256 * (μ 51 p.toNat)) + 0)), (4, aL (μ 53 p.toNat)), (3, aI (μ 51 p.toNat)), (0, aR (A 99)), (1, aI p), (2, aI g)] rfl ?_
          refine ⟨_, hm_oi hx, aR (A 10), rfl, ?_⟩
          refine ⟨4, _, (μ 10 (((2 * (μ 51 p.toNat)) + (μ 52 p.toNat)) - 18).toNat), hm_a hx 10 rfl, by omega, (Eq.trans (u2_f (by decide)) (Eq.trans (u2_f (by decide)) (u2_f (by decide)))), ?_⟩
          have t51 := (show 0 ≤ μ 10 (((2 * (μ 51 p.toNat)) + (μ 52 p.toNat)) - 18).toNat ∧ μ 10 (((2 * (μ 51 p.toNat)) + (μ 52 p.toNat)) - 18).toNat ≤ 64 from hV.g 10 (((2 * (μ 51 p.toNat)) + (μ 52 p.toNat)) - 18).toNat)
          refine ⟨by omega, ?_⟩
          refine ⟨by omega, fun (e52 : ¬ ((μ 53 p.toNat) = (μ 10 (((2 * (μ 51 p.toNat)) + (μ 52 p.toNat)) - 18).toNat))) => ?_, fun (e52 : (μ 53 p.toNat) = (μ 10 (((2 * (μ 51 p.toNat)) + (μ 52 p.toNat)) - 18).toNat)) => ?_⟩
          · exact ⟨mRetVP (P := fun _ m => mLi m) (by first | exact (if_pos e4).trans ((if_pos e5).trans ((if_pos e10).trans ((if_neg e12n).trans ((if_neg e13n).trans ((if_neg e16n).trans ((if_neg e24n).trans ((if_neg e25n).trans ((if_pos e26).trans (if_neg e52))))))))) | (unfold s_gone; rw [if_pos e4, if_pos e5, if_pos e10, if_neg e12n, if_neg e13n, if_neg e16n, if_neg e24n, if_neg e25n, if_pos e26, if_neg e52])) hV7 (mLi_off (B := (u2 (u2 μ 0 0 (if (v_noPlace μ p) = 0 then 0 else 1)) 0 0 0)) (p := p.toNat) (by intro f hf k; simp only [List.elem_eq_mem, decide_eq_true_eq, List.mem_cons, List.not_mem_nil, or_false] at hf; rcases hf with rfl | rfl | rfl | rfl | rfl | rfl | rfl <;> first | exact ((Eq.trans (u2_f (by decide)) (Eq.trans (u2_f (by decide)) (u2_f (by decide))))).symm) (fun q => (Eq.trans (u2_f (by decide)) (u2_f (by decide)))) (fun q => rfl) hL), Nat.le_refl _, Nat.le_refl _⟩
          · refine ⟨_, hm_oi hx, aR (A 13), rfl, ?_⟩
            refine ⟨4, _, _, hm_a hx 13 rfl, by omega, (show 1 = 0 ∨ 1 = 1 from by omega), hm_pi hx (i := (((2 * (μ 51 p.toNat)) + (μ 52 p.toNat)) - 18).toNat) (v := 1) rfl rfl rfl rfl, ?_⟩
            have hV53 := hV7.u (f := 13) (k := (((2 * (μ 51 p.toNat)) + (μ 52 p.toNat)) - 18).toNat) (v := 1) (show 0 ≤ 1 ∧ 1 ≤ 1 from by omega)
            exact ⟨mRetVP (P := fun _ m => mLi m) (by first | exact (if_pos e4).trans ((if_pos e5).trans ((if_pos e10).trans ((if_neg e12n).trans ((if_neg e13n).trans ((if_neg e16n).trans ((if_neg e24n).trans ((if_neg e25n).trans ((if_pos e26).trans (if_pos e52))))))))) | (unfold s_gone; rw [if_pos e4, if_pos e5, if_pos e10, if_neg e12n, if_neg e13n, if_neg e16n, if_neg e24n, if_neg e25n, if_pos e26, if_pos e52])) hV53 (mLi_off (B := (u2 (u2 μ 0 0 (if (v_noPlace μ p) = 0 then 0 else 1)) 0 0 0)) (p := p.toNat) (by intro f hf k; simp only [List.elem_eq_mem, decide_eq_true_eq, List.mem_cons, List.not_mem_nil, or_false] at hf; rcases hf with rfl | rfl | rfl | rfl | rfl | rfl | rfl <;> first | exact ((Eq.trans (u2_f (by decide)) (Eq.trans (u2_f (by decide)) (Eq.trans (u2_f (by decide)) (u2_f (by decide)))))).symm) (fun q => (Eq.trans (u2_f (by decide)) (u2_f (by decide)))) (fun q => (u2_f (by decide))) hL), Nat.le_refl _, Nat.le_refl _⟩
        · have e12n : ¬ ((μ 52 p.toNat) = 4) := by omega
          have e13n : ¬ ((μ 52 p.toNat) = 5) := by omega
          have e16n : ¬ ((μ 52 p.toNat) = 8) := by omega
          have e24n : ¬ ((μ 52 p.toNat) = 16) := by omega
          have e25n : ¬ ((μ 52 p.toNat) = 17) := by omega
          have e26n : ¬ ((μ 52 p.toNat) = 18) := by omega
          refine ⟨_, hm_oi hx, aR (A 52), rfl, ?_⟩
          refine ⟨64, _, (μ 52 p.toNat), hm_a hx 52 rfl, by omega, (Eq.trans (u2_f (by decide)) (Eq.trans (u2_f (by decide)) (u2_f (by decide)))), ?_⟩
          refine ⟨by omega, fun (e : ¬ (g = 0)) => absurd e (by omega), fun _ => ?_⟩
          refine mi_nl [(7, aI (((2 * (μ 51 p.toNat)) + (μ 52 p.toNat)) - 18)), (6, aI ((256 * (μ 51 p.toNat)) + 0)), (4, aL (μ 53 p.toNat)), (3, aI (μ 51 p.toNat)), (0, aR (A 99)), (1, aI p), (2, aI g)] rfl ?_
          refine ⟨_, hm_oi hx, aR (A 10), rfl, ?_⟩
          refine ⟨4, _, (μ 10 (((2 * (μ 51 p.toNat)) + (μ 52 p.toNat)) - 18).toNat), hm_a hx 10 rfl, by omega, (Eq.trans (u2_f (by decide)) (Eq.trans (u2_f (by decide)) (u2_f (by decide)))), ?_⟩
          have t55 := (show 0 ≤ μ 10 (((2 * (μ 51 p.toNat)) + (μ 52 p.toNat)) - 18).toNat ∧ μ 10 (((2 * (μ 51 p.toNat)) + (μ 52 p.toNat)) - 18).toNat ≤ 64 from hV.g 10 (((2 * (μ 51 p.toNat)) + (μ 52 p.toNat)) - 18).toNat)
          refine ⟨by omega, ?_⟩
          refine ⟨by omega, fun (e56 : ¬ ((μ 53 p.toNat) = (μ 10 (((2 * (μ 51 p.toNat)) + (μ 52 p.toNat)) - 18).toNat))) => ?_, fun (e56 : (μ 53 p.toNat) = (μ 10 (((2 * (μ 51 p.toNat)) + (μ 52 p.toNat)) - 18).toNat)) => ?_⟩
          · exact ⟨mRetVP (P := fun _ m => mLi m) (by first | exact (if_pos e4).trans ((if_pos e5).trans ((if_pos e10).trans ((if_neg e12n).trans ((if_neg e13n).trans ((if_neg e16n).trans ((if_neg e24n).trans ((if_neg e25n).trans ((if_neg e26n).trans ((if_pos e27).trans (if_neg e56)))))))))) | (unfold s_gone; rw [if_pos e4, if_pos e5, if_pos e10, if_neg e12n, if_neg e13n, if_neg e16n, if_neg e24n, if_neg e25n, if_neg e26n, if_pos e27, if_neg e56])) hV7 (mLi_off (B := (u2 (u2 μ 0 0 (if (v_noPlace μ p) = 0 then 0 else 1)) 0 0 0)) (p := p.toNat) (by intro f hf k; simp only [List.elem_eq_mem, decide_eq_true_eq, List.mem_cons, List.not_mem_nil, or_false] at hf; rcases hf with rfl | rfl | rfl | rfl | rfl | rfl | rfl <;> first | exact ((Eq.trans (u2_f (by decide)) (Eq.trans (u2_f (by decide)) (u2_f (by decide))))).symm) (fun q => (Eq.trans (u2_f (by decide)) (u2_f (by decide)))) (fun q => rfl) hL), Nat.le_refl _, Nat.le_refl _⟩
          · refine ⟨_, hm_oi hx, aR (A 13), rfl, ?_⟩
            refine ⟨4, _, _, hm_a hx 13 rfl, by omega, (show 1 = 0 ∨ 1 = 1 from by omega), hm_pi hx (i := (((2 * (μ 51 p.toNat)) + (μ 52 p.toNat)) - 18).toNat) (v := 1) rfl rfl rfl rfl, ?_⟩
            have hV57 := hV7.u (f := 13) (k := (((2 * (μ 51 p.toNat)) + (μ 52 p.toNat)) - 18).toNat) (v := 1) (show 0 ≤ 1 ∧ 1 ≤ 1 from by omega)
            exact ⟨mRetVP (P := fun _ m => mLi m) (by first | exact (if_pos e4).trans ((if_pos e5).trans ((if_pos e10).trans ((if_neg e12n).trans ((if_neg e13n).trans ((if_neg e16n).trans ((if_neg e24n).trans ((if_neg e25n).trans ((if_neg e26n).trans ((if_pos e27).trans (if_pos e56)))))))))) | (unfold s_gone; rw [if_pos e4, if_pos e5, if_pos e10, if_neg e12n, if_neg e13n, if_neg e16n, if_neg e24n, if_neg e25n, if_neg e26n, if_pos e27, if_pos e56])) hV57 (mLi_off (B := (u2 (u2 μ 0 0 (if (v_noPlace μ p) = 0 then 0 else 1)) 0 0 0)) (p := p.toNat) (by intro f hf k; simp only [List.elem_eq_mem, decide_eq_true_eq, List.mem_cons, List.not_mem_nil, or_false] at hf; rcases hf with rfl | rfl | rfl | rfl | rfl | rfl | rfl <;> first | exact ((Eq.trans (u2_f (by decide)) (Eq.trans (u2_f (by decide)) (Eq.trans (u2_f (by decide)) (u2_f (by decide)))))).symm) (fun q => (Eq.trans (u2_f (by decide)) (u2_f (by decide)))) (fun q => (u2_f (by decide))) hL), Nat.le_refl _, Nat.le_refl _⟩
        · have e12n : ¬ ((μ 52 p.toNat) = 4) := by omega
          have e13n : ¬ ((μ 52 p.toNat) = 5) := by omega
          have e16n : ¬ ((μ 52 p.toNat) = 8) := by omega
          have e24n : ¬ ((μ 52 p.toNat) = 16) := by omega
          have e25n : ¬ ((μ 52 p.toNat) = 17) := by omega
          have e26n : ¬ ((μ 52 p.toNat) = 18) := by omega
          have e27n : ¬ ((μ 52 p.toNat) = 19) := by omega
          refine ⟨by omega, fun (e : ¬ (g = 0)) => absurd e (by omega), fun _ => ?_⟩
          refine ⟨_, hm_oi hx, aR (A 14), rfl, ?_⟩
          refine ⟨6, _, (μ 14 (3 * (μ 51 p.toNat)).toNat), hm_a hx 14 rfl, by omega, (Eq.trans (u2_f (by decide)) (Eq.trans (u2_f (by decide)) (u2_f (by decide)))), ?_⟩
          have t59 := (show -1 ≤ μ 14 (3 * (μ 51 p.toNat)).toNat ∧ μ 14 (3 * (μ 51 p.toNat)).toNat ≤ 4611686018427387903 from hV.g 14 (3 * (μ 51 p.toNat)).toNat)
          refine ⟨by omega, fun (e60 : ¬ ((μ 14 (3 * (μ 51 p.toNat)).toNat) = (μ 53 p.toNat))) => ?_, fun (e60 : (μ 14 (3 * (μ 51 p.toNat)).toNat) = (μ 53 p.toNat)) => ?_⟩
          · exact ⟨mRetVP (P := fun _ m => mLi m) (by first | exact (if_pos e4).trans ((if_pos e5).trans ((if_pos e10).trans ((if_neg e12n).trans ((if_neg e13n).trans ((if_neg e16n).trans ((if_neg e24n).trans ((if_neg e25n).trans ((if_neg e26n).trans ((if_neg e27n).trans ((if_pos e28).trans (if_neg e60))))))))))) | (unfold s_gone; rw [if_pos e4, if_pos e5, if_pos e10, if_neg e12n, if_neg e13n, if_neg e16n, if_neg e24n, if_neg e25n, if_neg e26n, if_neg e27n, if_pos e28, if_neg e60])) hV7 (mLi_off (B := (u2 (u2 μ 0 0 (if (v_noPlace μ p) = 0 then 0 else 1)) 0 0 0)) (p := p.toNat) (by intro f hf k; simp only [List.elem_eq_mem, decide_eq_true_eq, List.mem_cons, List.not_mem_nil, or_false] at hf; rcases hf with rfl | rfl | rfl | rfl | rfl | rfl | rfl <;> first | exact ((Eq.trans (u2_f (by decide)) (Eq.trans (u2_f (by decide)) (u2_f (by decide))))).symm) (fun q => (Eq.trans (u2_f (by decide)) (u2_f (by decide)))) (fun q => rfl) hL), Nat.le_refl _, Nat.le_refl _⟩
          · refine ⟨_, hm_oi hx, aR (A 14), rfl, ?_⟩
            refine ⟨(-1), rfl, ?_⟩
            refine ⟨6, _, _, hm_a hx 14 rfl, by omega, hm_pl hx (i := (3 * (μ 51 p.toNat)).toNat) (v := -1) rfl rfl rfl, ?_⟩
            have hV61 := hV7.u (f := 14) (k := (3 * (μ 51 p.toNat)).toNat) (v := -1) (show -1 ≤ (-1) ∧ (-1) ≤ 4611686018427387903 from by omega)
            exact ⟨mRetVP (P := fun _ m => mLi m) (by first | exact (if_pos e4).trans ((if_pos e5).trans ((if_pos e10).trans ((if_neg e12n).trans ((if_neg e13n).trans ((if_neg e16n).trans ((if_neg e24n).trans ((if_neg e25n).trans ((if_neg e26n).trans ((if_neg e27n).trans ((if_pos e28).trans (if_pos e60))))))))))) | (unfold s_gone; rw [if_pos e4, if_pos e5, if_pos e10, if_neg e12n, if_neg e13n, if_neg e16n, if_neg e24n, if_neg e25n, if_neg e26n, if_neg e27n, if_pos e28, if_pos e60])) hV61 (mLi_off (B := (u2 (u2 μ 0 0 (if (v_noPlace μ p) = 0 then 0 else 1)) 0 0 0)) (p := p.toNat) (by intro f hf k; simp only [List.elem_eq_mem, decide_eq_true_eq, List.mem_cons, List.not_mem_nil, or_false] at hf; rcases hf with rfl | rfl | rfl | rfl | rfl | rfl | rfl <;> first | exact ((Eq.trans (u2_f (by decide)) (Eq.trans (u2_f (by decide)) (Eq.trans (u2_f (by decide)) (u2_f (by decide)))))).symm) (fun q => (Eq.trans (u2_f (by decide)) (u2_f (by decide)))) (fun q => (u2_f (by decide))) hL), Nat.le_refl _, Nat.le_refl _⟩
        · have e12n : ¬ ((μ 52 p.toNat) = 4) := by omega
          have e13n : ¬ ((μ 52 p.toNat) = 5) := by omega
          have e16n : ¬ ((μ 52 p.toNat) = 8) := by omega
          have e24n : ¬ ((μ 52 p.toNat) = 16) := by omega
          have e25n : ¬ ((μ 52 p.toNat) = 17) := by omega
          have e26n : ¬ ((μ 52 p.toNat) = 18) := by omega
          have e27n : ¬ ((μ 52 p.toNat) = 19) := by omega
          have e28n : ¬ ((μ 52 p.toNat) = 20) := by omega
          refine ⟨by omega, fun (e : ¬ (g = 0)) => absurd e (by omega), fun _ => ?_⟩
          refine ⟨_, hm_oi hx, aR (A 24), rfl, ?_⟩
          refine ⟨512, _, (μ 24 (mj (μ 51 p.toNat) 0)), hm_a hx 24 rfl, by omega, (Eq.trans (u2_f (by decide)) (Eq.trans (u2_f (by decide)) (u2_f (by decide)))), ?_⟩
          have t63 := (show -1 ≤ μ 24 (mj (μ 51 p.toNat) 0) ∧ μ 24 (mj (μ 51 p.toNat) 0) ≤ 4611686018427387903 from hV.g 24 (mj (μ 51 p.toNat) 0))
          refine ⟨_, hm_oi hx, aR (A 54), rfl, ?_⟩
          refine ⟨64, _, (μ 54 p.toNat), hm_a hx 54 rfl, by omega, (Eq.trans (u2_f (by decide)) (Eq.trans (u2_f (by decide)) (u2_f (by decide)))), ?_⟩
          have t64 := (show 0 ≤ μ 54 p.toNat ∧ μ 54 p.toNat ≤ 4611686018427387903 from hV.g 54 p.toNat)
          refine ⟨by omega, fun (e65 : ¬ ((μ 24 (mj (μ 51 p.toNat) 0)) = (μ 54 p.toNat))) => ?_, fun (e65 : (μ 24 (mj (μ 51 p.toNat) 0)) = (μ 54 p.toNat)) => ?_⟩
          · exact ⟨mRetVP (P := fun _ m => mLi m) (by first | exact (if_pos e4).trans ((if_pos e5).trans ((if_pos e10).trans ((if_neg e12n).trans ((if_neg e13n).trans ((if_neg e16n).trans ((if_neg e24n).trans ((if_neg e25n).trans ((if_neg e26n).trans ((if_neg e27n).trans ((if_neg e28n).trans ((if_pos e29).trans (if_neg e65)))))))))))) | (unfold s_gone; rw [if_pos e4, if_pos e5, if_pos e10, if_neg e12n, if_neg e13n, if_neg e16n, if_neg e24n, if_neg e25n, if_neg e26n, if_neg e27n, if_neg e28n, if_pos e29, if_neg e65])) hV7 (mLi_off (B := (u2 (u2 μ 0 0 (if (v_noPlace μ p) = 0 then 0 else 1)) 0 0 0)) (p := p.toNat) (by intro f hf k; simp only [List.elem_eq_mem, decide_eq_true_eq, List.mem_cons, List.not_mem_nil, or_false] at hf; rcases hf with rfl | rfl | rfl | rfl | rfl | rfl | rfl <;> first | exact ((Eq.trans (u2_f (by decide)) (Eq.trans (u2_f (by decide)) (u2_f (by decide))))).symm) (fun q => (Eq.trans (u2_f (by decide)) (u2_f (by decide)))) (fun q => rfl) hL), Nat.le_refl _, Nat.le_refl _⟩
          · refine ⟨_, hm_oi hx, aR (A 24), rfl, ?_⟩
            refine ⟨(-1), rfl, ?_⟩
            refine ⟨512, _, _, hm_a hx 24 rfl, by omega, hm_pl hx (i := (mj (μ 51 p.toNat) 0)) (v := -1) rfl rfl rfl, ?_⟩
            have hV66 := hV7.u (f := 24) (k := (mj (μ 51 p.toNat) 0)) (v := -1) (show -1 ≤ (-1) ∧ (-1) ≤ 4611686018427387903 from by omega)
            exact ⟨mRetVP (P := fun _ m => mLi m) (by first | exact (if_pos e4).trans ((if_pos e5).trans ((if_pos e10).trans ((if_neg e12n).trans ((if_neg e13n).trans ((if_neg e16n).trans ((if_neg e24n).trans ((if_neg e25n).trans ((if_neg e26n).trans ((if_neg e27n).trans ((if_neg e28n).trans ((if_pos e29).trans (if_pos e65)))))))))))) | (unfold s_gone; rw [if_pos e4, if_pos e5, if_pos e10, if_neg e12n, if_neg e13n, if_neg e16n, if_neg e24n, if_neg e25n, if_neg e26n, if_neg e27n, if_neg e28n, if_pos e29, if_pos e65])) hV66 (mLi_off (B := (u2 (u2 μ 0 0 (if (v_noPlace μ p) = 0 then 0 else 1)) 0 0 0)) (p := p.toNat) (by intro f hf k; simp only [List.elem_eq_mem, decide_eq_true_eq, List.mem_cons, List.not_mem_nil, or_false] at hf; rcases hf with rfl | rfl | rfl | rfl | rfl | rfl | rfl <;> first | exact ((Eq.trans (u2_f (by decide)) (Eq.trans (u2_f (by decide)) (Eq.trans (u2_f (by decide)) (u2_f (by decide)))))).symm) (fun q => (Eq.trans (u2_f (by decide)) (u2_f (by decide)))) (fun q => (u2_f (by decide))) hL), Nat.le_refl _, Nat.le_refl _⟩
        · have e12n : ¬ ((μ 52 p.toNat) = 4) := by omega
          have e13n : ¬ ((μ 52 p.toNat) = 5) := by omega
          have e16n : ¬ ((μ 52 p.toNat) = 8) := by omega
          have e24n : ¬ ((μ 52 p.toNat) = 16) := by omega
          have e25n : ¬ ((μ 52 p.toNat) = 17) := by omega
          have e26n : ¬ ((μ 52 p.toNat) = 18) := by omega
          have e27n : ¬ ((μ 52 p.toNat) = 19) := by omega
          have e28n : ¬ ((μ 52 p.toNat) = 20) := by omega
          have e29n : ¬ ((μ 52 p.toNat) = 21) := by omega
          refine ⟨_, hm_oi hx, aR (A 52), rfl, ?_⟩
          refine ⟨64, _, (μ 52 p.toNat), hm_a hx 52 rfl, by omega, (Eq.trans (u2_f (by decide)) (Eq.trans (u2_f (by decide)) (u2_f (by decide)))), ?_⟩
          refine ⟨by omega, fun (e : ¬ (g = 0)) => absurd e (by omega), fun _ => ?_⟩
          refine mi_nl [(8, aI ((((3 * (μ 51 p.toNat)) + 1) + (μ 52 p.toNat)) - 22)), (6, aI ((256 * (μ 51 p.toNat)) + 0)), (4, aL (μ 53 p.toNat)), (3, aI (μ 51 p.toNat)), (0, aR (A 99)), (1, aI p), (2, aI g)] rfl ?_
          refine ⟨_, hm_oi hx, aR (A 14), rfl, ?_⟩
          refine ⟨6, _, (μ 14 ((((3 * (μ 51 p.toNat)) + 1) + (μ 52 p.toNat)) - 22).toNat), hm_a hx 14 rfl, by omega, (Eq.trans (u2_f (by decide)) (Eq.trans (u2_f (by decide)) (u2_f (by decide)))), ?_⟩
          have t68 := (show -1 ≤ μ 14 ((((3 * (μ 51 p.toNat)) + 1) + (μ 52 p.toNat)) - 22).toNat ∧ μ 14 ((((3 * (μ 51 p.toNat)) + 1) + (μ 52 p.toNat)) - 22).toNat ≤ 4611686018427387903 from hV.g 14 ((((3 * (μ 51 p.toNat)) + 1) + (μ 52 p.toNat)) - 22).toNat)
          refine ⟨by omega, fun (e69 : ¬ ((μ 14 ((((3 * (μ 51 p.toNat)) + 1) + (μ 52 p.toNat)) - 22).toNat) = (μ 53 p.toNat))) => ?_, fun (e69 : (μ 14 ((((3 * (μ 51 p.toNat)) + 1) + (μ 52 p.toNat)) - 22).toNat) = (μ 53 p.toNat)) => ?_⟩
          · exact ⟨mRetVP (P := fun _ m => mLi m) (by first | exact (if_pos e4).trans ((if_pos e5).trans ((if_pos e10).trans ((if_neg e12n).trans ((if_neg e13n).trans ((if_neg e16n).trans ((if_neg e24n).trans ((if_neg e25n).trans ((if_neg e26n).trans ((if_neg e27n).trans ((if_neg e28n).trans ((if_neg e29n).trans (if_neg e69)))))))))))) | (unfold s_gone; rw [if_pos e4, if_pos e5, if_pos e10, if_neg e12n, if_neg e13n, if_neg e16n, if_neg e24n, if_neg e25n, if_neg e26n, if_neg e27n, if_neg e28n, if_neg e29n, if_neg e69])) hV7 (mLi_off (B := (u2 (u2 μ 0 0 (if (v_noPlace μ p) = 0 then 0 else 1)) 0 0 0)) (p := p.toNat) (by intro f hf k; simp only [List.elem_eq_mem, decide_eq_true_eq, List.mem_cons, List.not_mem_nil, or_false] at hf; rcases hf with rfl | rfl | rfl | rfl | rfl | rfl | rfl <;> first | exact ((Eq.trans (u2_f (by decide)) (Eq.trans (u2_f (by decide)) (u2_f (by decide))))).symm) (fun q => (Eq.trans (u2_f (by decide)) (u2_f (by decide)))) (fun q => rfl) hL), Nat.le_refl _, Nat.le_refl _⟩
          · refine ⟨_, hm_oi hx, aR (A 14), rfl, ?_⟩
            refine ⟨(-1), rfl, ?_⟩
            refine ⟨6, _, _, hm_a hx 14 rfl, by omega, hm_pl hx (i := ((((3 * (μ 51 p.toNat)) + 1) + (μ 52 p.toNat)) - 22).toNat) (v := -1) rfl rfl rfl, ?_⟩
            have hV70 := hV7.u (f := 14) (k := ((((3 * (μ 51 p.toNat)) + 1) + (μ 52 p.toNat)) - 22).toNat) (v := -1) (show -1 ≤ (-1) ∧ (-1) ≤ 4611686018427387903 from by omega)
            exact ⟨mRetVP (P := fun _ m => mLi m) (by first | exact (if_pos e4).trans ((if_pos e5).trans ((if_pos e10).trans ((if_neg e12n).trans ((if_neg e13n).trans ((if_neg e16n).trans ((if_neg e24n).trans ((if_neg e25n).trans ((if_neg e26n).trans ((if_neg e27n).trans ((if_neg e28n).trans ((if_neg e29n).trans (if_pos e69)))))))))))) | (unfold s_gone; rw [if_pos e4, if_pos e5, if_pos e10, if_neg e12n, if_neg e13n, if_neg e16n, if_neg e24n, if_neg e25n, if_neg e26n, if_neg e27n, if_neg e28n, if_neg e29n, if_pos e69])) hV70 (mLi_off (B := (u2 (u2 μ 0 0 (if (v_noPlace μ p) = 0 then 0 else 1)) 0 0 0)) (p := p.toNat) (by intro f hf k; simp only [List.elem_eq_mem, decide_eq_true_eq, List.mem_cons, List.not_mem_nil, or_false] at hf; rcases hf with rfl | rfl | rfl | rfl | rfl | rfl | rfl <;> first | exact ((Eq.trans (u2_f (by decide)) (Eq.trans (u2_f (by decide)) (Eq.trans (u2_f (by decide)) (u2_f (by decide)))))).symm) (fun q => (Eq.trans (u2_f (by decide)) (u2_f (by decide)))) (fun q => (u2_f (by decide))) hL), Nat.le_refl _, Nat.le_refl _⟩
      · refine ⟨_, _, _, _, (m_at hF htr (s := (μ 51 p.toNat)) (i := (μ 53 p.toNat))), Nat.le_refl _, Nat.le_refl _, mki_ (r := some (aI ((256 * (μ 51 p.toNat)) + (μ 53 p.toNat)))) ?_, fun _ _ q => q.elim⟩
        refine ⟨_, hm_oi hx, aR (A 52), rfl, ?_⟩
        refine mi_nl [(6, aI ((256 * (μ 51 p.toNat)) + (μ 53 p.toNat))), (4, aL (μ 53 p.toNat)), (3, aI (μ 51 p.toNat)), (0, aR (A 99)), (1, aI p), (2, aI g)] rfl ?_
        refine ⟨64, _, (μ 52 p.toNat), hm_a hx 52 rfl, by omega, (Eq.trans (u2_f (by decide)) (Eq.trans (u2_f (by decide)) (u2_f (by decide)))), ?_⟩
        have t71 := (show 0 ≤ μ 52 p.toNat ∧ μ 52 p.toNat ≤ 23 from hV.g 52 p.toNat)
        refine ⟨by omega, ⟨fun (e72 : (μ 52 p.toNat) = 4) => ?_, fun (e73 : (μ 52 p.toNat) = 5) => ?_, fun (e74 : (μ 52 p.toNat) = 6) => ?_, fun (e75 : (μ 52 p.toNat) = 7) => ?_, fun (e76 : (μ 52 p.toNat) = 8) => ?_, fun (e77 : (μ 52 p.toNat) = 9) => ?_, fun (e78 : (μ 52 p.toNat) = 10) => ?_, fun (e79 : (μ 52 p.toNat) = 11) => ?_, fun (e80 : (μ 52 p.toNat) = 12) => ?_, fun (e81 : (μ 52 p.toNat) = 13) => ?_, fun (e82 : (μ 52 p.toNat) = 14) => ?_, fun (e83 : (μ 52 p.toNat) = 15) => ?_, fun (e84 : (μ 52 p.toNat) = 16) => ?_, fun (e85 : (μ 52 p.toNat) = 17) => ?_, fun (e86 : (μ 52 p.toNat) = 18) => ?_, fun (e87 : (μ 52 p.toNat) = 19) => ?_, fun (e88 : (μ 52 p.toNat) = 20) => ?_, fun (e89 : (μ 52 p.toNat) = 21) => ?_, trivial⟩, fun (e90 : (μ 52 p.toNat) < 4 ∨ 21 < (μ 52 p.toNat)) => ?_⟩
        · refine ⟨by omega, fun _ => ?_, fun (e : ¬ (g = 0)) => absurd e (by omega)⟩
          refine ⟨by omega, fun (e : ¬ (g = 0)) => absurd e (by omega), fun _ => ?_⟩
          refine ⟨_, hm_oi hx, aR (A 21), rfl, ?_⟩
          refine ⟨512, _, (μ 21 (mj (μ 51 p.toNat) (μ 53 p.toNat))), hm_a hx 21 rfl, by omega, (Eq.trans (u2_f (by decide)) (Eq.trans (u2_f (by decide)) (u2_f (by decide)))), ?_⟩
          have t93 := (show 0 ≤ μ 21 (mj (μ 51 p.toNat) (μ 53 p.toNat)) ∧ μ 21 (mj (μ 51 p.toNat) (μ 53 p.toNat)) ≤ 2 from hV.g 21 (mj (μ 51 p.toNat) (μ 53 p.toNat)))
          refine ⟨by omega, fun (e94 : ¬ ((μ 21 (mj (μ 51 p.toNat) (μ 53 p.toNat))) = 1)) => ?_, fun (e94 : (μ 21 (mj (μ 51 p.toNat) (μ 53 p.toNat))) = 1) => ?_⟩
          · refine ⟨⟨_, hm_oi hx⟩, _, _, _, _, (m_looksOver hF htr hx hV7 (s := (μ 51 p.toNat)) (i := (μ 53 p.toNat)) (by omega) (by omega) (by omega) (by omega)), Nat.le_refl _, Nat.le_refl _, mkis_ (r := none) (fun hV95 => ?_), fun _ _ q => q.elim⟩
            exact ⟨mRetVP (P := fun _ m => mLi m) (by first | exact (if_pos e4).trans ((if_pos e5).trans ((if_neg e10).trans ((if_pos e72).trans (if_neg e94)))) | (unfold s_gone; rw [if_pos e4, if_pos e5, if_neg e10, if_pos e72, if_neg e94])) hV95 (mLi_off (B := (u2 (u2 μ 0 0 (if (v_noPlace μ p) = 0 then 0 else 1)) 0 0 0)) (p := p.toNat) (by intro f hf k; simp only [List.elem_eq_mem, decide_eq_true_eq, List.mem_cons, List.not_mem_nil, or_false] at hf; rcases hf with rfl | rfl | rfl | rfl | rfl | rfl | rfl <;> first | exact ((Eq.trans (s_looksOver_fr (by decide)) (Eq.trans (u2_f (by decide)) (Eq.trans (u2_f (by decide)) (u2_f (by decide)))))).symm) (fun q => (Eq.trans (u2_f (by decide)) (u2_f (by decide)))) (fun q => (s_looksOver_fr (by decide))) hL), Nat.le_refl _, Nat.le_refl _⟩
          · refine ⟨_, hm_oi hx, aR (A 22), rfl, ?_⟩
            refine ⟨512, _, _, hm_a hx 22 rfl, by omega, (show 1 = 0 ∨ 1 = 1 from by omega), hm_pi hx (i := (mj (μ 51 p.toNat) (μ 53 p.toNat))) (v := 1) rfl rfl rfl rfl, ?_⟩
            have hV96 := hV7.u (f := 22) (k := (mj (μ 51 p.toNat) (μ 53 p.toNat))) (v := 1) (show 0 ≤ 1 ∧ 1 ≤ 1 from by omega)
            refine ⟨⟨_, hm_oi hx⟩, _, _, _, _, (m_looksOver hF htr hx hV96 (s := (μ 51 p.toNat)) (i := (μ 53 p.toNat)) (by omega) (by omega) (by omega) (by omega)), Nat.le_refl _, Nat.le_refl _, mkis_ (r := none) (fun hV97 => ?_), fun _ _ q => q.elim⟩
            exact ⟨mRetVP (P := fun _ m => mLi m) (by first | exact (if_pos e4).trans ((if_pos e5).trans ((if_neg e10).trans ((if_pos e72).trans (if_pos e94)))) | (unfold s_gone; rw [if_pos e4, if_pos e5, if_neg e10, if_pos e72, if_pos e94])) hV97 (mLi_off (B := (u2 (u2 μ 0 0 (if (v_noPlace μ p) = 0 then 0 else 1)) 0 0 0)) (p := p.toNat) (by intro f hf k; simp only [List.elem_eq_mem, decide_eq_true_eq, List.mem_cons, List.not_mem_nil, or_false] at hf; rcases hf with rfl | rfl | rfl | rfl | rfl | rfl | rfl <;> first | exact ((Eq.trans (s_looksOver_fr (by decide)) (Eq.trans (u2_f (by decide)) (Eq.trans (u2_f (by decide)) (Eq.trans (u2_f (by decide)) (u2_f (by decide))))))).symm) (fun q => (Eq.trans (u2_f (by decide)) (u2_f (by decide)))) (fun q => (Eq.trans (s_looksOver_fr (by decide)) (u2_f (by decide)))) hL), Nat.le_refl _, Nat.le_refl _⟩
        · have e72n : ¬ ((μ 52 p.toNat) = 4) := by omega
          refine ⟨by omega, fun (e : ¬ (g = 0)) => absurd e (by omega), fun _ => ?_⟩
          refine ⟨_, hm_oi hx, aR (A 33), rfl, ?_⟩
          refine ⟨512, _, _, hm_a hx 33 rfl, by omega, (show 1 = 0 ∨ 1 = 1 from by omega), hm_pi hx (i := (mj (μ 51 p.toNat) (μ 53 p.toNat))) (v := 1) rfl rfl rfl rfl, ?_⟩
          have hV99 := hV7.u (f := 33) (k := (mj (μ 51 p.toNat) (μ 53 p.toNat))) (v := 1) (show 0 ≤ 1 ∧ 1 ≤ 1 from by omega)
          exact ⟨mRetVP (P := fun _ m => mLi m) (by first | exact (if_pos e4).trans ((if_pos e5).trans ((if_neg e10).trans ((if_neg e72n).trans (if_pos e73)))) | (unfold s_gone; rw [if_pos e4, if_pos e5, if_neg e10, if_neg e72n, if_pos e73])) hV99 (mLi_off (B := (u2 (u2 μ 0 0 (if (v_noPlace μ p) = 0 then 0 else 1)) 0 0 0)) (p := p.toNat) (by intro f hf k; simp only [List.elem_eq_mem, decide_eq_true_eq, List.mem_cons, List.not_mem_nil, or_false] at hf; rcases hf with rfl | rfl | rfl | rfl | rfl | rfl | rfl <;> first | exact ((Eq.trans (u2_f (by decide)) (Eq.trans (u2_f (by decide)) (Eq.trans (u2_f (by decide)) (u2_f (by decide)))))).symm) (fun q => (Eq.trans (u2_f (by decide)) (u2_f (by decide)))) (fun q => (u2_f (by decide))) hL), Nat.le_refl _, Nat.le_refl _⟩
        · exact absurd e74 (by omega)
        · exact absurd e75 (by omega)
        · have e72n : ¬ ((μ 52 p.toNat) = 4) := by omega
          have e73n : ¬ ((μ 52 p.toNat) = 5) := by omega
          refine ⟨⟨_, hm_oi hx⟩, _, _, _, _, (m_goneStream hF htr hx hV7 (s := (μ 51 p.toNat)) (p := p) (g := g) (by omega) (by omega) (by omega) (by omega) (by omega) (show (μ 53 p.toNat) < 256 from by omega) (show (μ 54 p.toNat) + (μ 56 p.toNat) ≤ mW μ (μ 51 p.toNat) (μ 53 p.toNat) from by omega)), Nat.le_refl _, Nat.le_refl _, mkis_ (r := none) (fun hV100 => ?_), fun _ _ q => q.elim⟩
          exact ⟨mRetVP (P := fun _ m => mLi m) (by first | exact (if_pos e4).trans ((if_pos e5).trans ((if_neg e10).trans ((if_neg e72n).trans ((if_neg e73n).trans (if_pos e76))))) | (unfold s_gone; rw [if_pos e4, if_pos e5, if_neg e10, if_neg e72n, if_neg e73n, if_pos e76])) hV100 (mLi_off (B := (u2 (u2 μ 0 0 (if (v_noPlace μ p) = 0 then 0 else 1)) 0 0 0)) (p := p.toNat) (by intro f hf k; simp only [List.elem_eq_mem, decide_eq_true_eq, List.mem_cons, List.not_mem_nil, or_false] at hf; rcases hf with rfl | rfl | rfl | rfl | rfl | rfl | rfl <;> first | exact ((Eq.trans (s_goneStream_fr (by decide)) (Eq.trans (u2_f (by decide)) (Eq.trans (u2_f (by decide)) (u2_f (by decide)))))).symm) (fun q => (Eq.trans (u2_f (by decide)) (u2_f (by decide)))) (fun q => (s_goneStream_fr (by decide))) hL), Nat.le_refl _, Nat.le_refl _⟩
        · exact absurd e77 (by omega)
        · exact absurd e78 (by omega)
        · exact absurd e79 (by omega)
        · exact absurd e80 (by omega)
        · exact absurd e81 (by omega)
        · exact absurd e82 (by omega)
        · exact absurd e83 (by omega)
        · have e72n : ¬ ((μ 52 p.toNat) = 4) := by omega
          have e73n : ¬ ((μ 52 p.toNat) = 5) := by omega
          have e76n : ¬ ((μ 52 p.toNat) = 8) := by omega
          refine ⟨by omega, fun (e : ¬ (g = 0)) => absurd e (by omega), fun _ => ?_⟩
          refine ⟨_, hm_oi hx, aR (A 11), rfl, ?_⟩
          refine ⟨2, _, (μ 11 (μ 51 p.toNat).toNat), hm_a hx 11 rfl, by omega, (Eq.trans (u2_f (by decide)) (Eq.trans (u2_f (by decide)) (u2_f (by decide)))), ?_⟩
          have t102 := (show 0 ≤ μ 11 (μ 51 p.toNat).toNat ∧ μ 11 (μ 51 p.toNat).toNat ≤ 65536 from hV.g 11 (μ 51 p.toNat).toNat)
          refine ⟨by omega, fun (e103 : ¬ ((μ 53 p.toNat) = (μ 11 (μ 51 p.toNat).toNat))) => ?_, fun (e103 : (μ 53 p.toNat) = (μ 11 (μ 51 p.toNat).toNat)) => ?_⟩
          · exact ⟨mRetVP (P := fun _ m => mLi m) (by first | exact (if_pos e4).trans ((if_pos e5).trans ((if_neg e10).trans ((if_neg e72n).trans ((if_neg e73n).trans ((if_neg e76n).trans ((if_pos e84).trans (if_neg e103))))))) | (unfold s_gone; rw [if_pos e4, if_pos e5, if_neg e10, if_neg e72n, if_neg e73n, if_neg e76n, if_pos e84, if_neg e103])) hV7 (mLi_off (B := (u2 (u2 μ 0 0 (if (v_noPlace μ p) = 0 then 0 else 1)) 0 0 0)) (p := p.toNat) (by intro f hf k; simp only [List.elem_eq_mem, decide_eq_true_eq, List.mem_cons, List.not_mem_nil, or_false] at hf; rcases hf with rfl | rfl | rfl | rfl | rfl | rfl | rfl <;> first | exact ((Eq.trans (u2_f (by decide)) (Eq.trans (u2_f (by decide)) (u2_f (by decide))))).symm) (fun q => (Eq.trans (u2_f (by decide)) (u2_f (by decide)))) (fun q => rfl) hL), Nat.le_refl _, Nat.le_refl _⟩
          · refine ⟨_, hm_oi hx, aR (A 12), rfl, ?_⟩
            refine ⟨2, _, _, hm_a hx 12 rfl, by omega, (show 1 = 0 ∨ 1 = 1 from by omega), hm_pi hx (i := (μ 51 p.toNat).toNat) (v := 1) rfl rfl rfl rfl, ?_⟩
            have hV104 := hV7.u (f := 12) (k := (μ 51 p.toNat).toNat) (v := 1) (show 0 ≤ 1 ∧ 1 ≤ 1 from by omega)
            exact ⟨mRetVP (P := fun _ m => mLi m) (by first | exact (if_pos e4).trans ((if_pos e5).trans ((if_neg e10).trans ((if_neg e72n).trans ((if_neg e73n).trans ((if_neg e76n).trans ((if_pos e84).trans (if_pos e103))))))) | (unfold s_gone; rw [if_pos e4, if_pos e5, if_neg e10, if_neg e72n, if_neg e73n, if_neg e76n, if_pos e84, if_pos e103])) hV104 (mLi_off (B := (u2 (u2 μ 0 0 (if (v_noPlace μ p) = 0 then 0 else 1)) 0 0 0)) (p := p.toNat) (by intro f hf k; simp only [List.elem_eq_mem, decide_eq_true_eq, List.mem_cons, List.not_mem_nil, or_false] at hf; rcases hf with rfl | rfl | rfl | rfl | rfl | rfl | rfl <;> first | exact ((Eq.trans (u2_f (by decide)) (Eq.trans (u2_f (by decide)) (Eq.trans (u2_f (by decide)) (u2_f (by decide)))))).symm) (fun q => (Eq.trans (u2_f (by decide)) (u2_f (by decide)))) (fun q => (u2_f (by decide))) hL), Nat.le_refl _, Nat.le_refl _⟩
        · have e72n : ¬ ((μ 52 p.toNat) = 4) := by omega
          have e73n : ¬ ((μ 52 p.toNat) = 5) := by omega
          have e76n : ¬ ((μ 52 p.toNat) = 8) := by omega
          have e84n : ¬ ((μ 52 p.toNat) = 16) := by omega
          refine ⟨by omega, fun (e : ¬ (g = 0)) => absurd e (by omega), fun _ => ?_⟩
          refine ⟨_, hm_oi hx, aR (A 54), rfl, ?_⟩
          refine ⟨64, _, (μ 54 p.toNat), hm_a hx 54 rfl, by omega, (Eq.trans (u2_f (by decide)) (Eq.trans (u2_f (by decide)) (u2_f (by decide)))), ?_⟩
          have t106 := (show 0 ≤ μ 54 p.toNat ∧ μ 54 p.toNat ≤ 4611686018427387903 from hV.g 54 p.toNat)
          refine ⟨_, hm_oi hx, aR (A 30), rfl, ?_⟩
          refine ⟨512, _, (μ 30 (mj (μ 51 p.toNat) (μ 53 p.toNat))), hm_a hx 30 rfl, by omega, (Eq.trans (u2_f (by decide)) (Eq.trans (u2_f (by decide)) (u2_f (by decide)))), ?_⟩
          have t107 := (show 0 ≤ μ 30 (mj (μ 51 p.toNat) (μ 53 p.toNat)) ∧ μ 30 (mj (μ 51 p.toNat) (μ 53 p.toNat)) ≤ 65536 from hV.g 30 (mj (μ 51 p.toNat) (μ 53 p.toNat)))
          refine ⟨by omega, fun (e108 : ¬ ((μ 54 p.toNat) = (μ 30 (mj (μ 51 p.toNat) (μ 53 p.toNat))))) => ?_, fun (e108 : (μ 54 p.toNat) = (μ 30 (mj (μ 51 p.toNat) (μ 53 p.toNat)))) => ?_⟩
          · exact ⟨mRetVP (P := fun _ m => mLi m) (by first | exact (if_pos e4).trans ((if_pos e5).trans ((if_neg e10).trans ((if_neg e72n).trans ((if_neg e73n).trans ((if_neg e76n).trans ((if_neg e84n).trans ((if_pos e85).trans (if_neg e108)))))))) | (unfold s_gone; rw [if_pos e4, if_pos e5, if_neg e10, if_neg e72n, if_neg e73n, if_neg e76n, if_neg e84n, if_pos e85, if_neg e108])) hV7 (mLi_off (B := (u2 (u2 μ 0 0 (if (v_noPlace μ p) = 0 then 0 else 1)) 0 0 0)) (p := p.toNat) (by intro f hf k; simp only [List.elem_eq_mem, decide_eq_true_eq, List.mem_cons, List.not_mem_nil, or_false] at hf; rcases hf with rfl | rfl | rfl | rfl | rfl | rfl | rfl <;> first | exact ((Eq.trans (u2_f (by decide)) (Eq.trans (u2_f (by decide)) (u2_f (by decide))))).symm) (fun q => (Eq.trans (u2_f (by decide)) (u2_f (by decide)))) (fun q => rfl) hL), Nat.le_refl _, Nat.le_refl _⟩
          · refine ⟨_, hm_oi hx, aR (A 31), rfl, ?_⟩
            refine ⟨512, _, _, hm_a hx 31 rfl, by omega, (show 1 = 0 ∨ 1 = 1 from by omega), hm_pi hx (i := (mj (μ 51 p.toNat) (μ 53 p.toNat))) (v := 1) rfl rfl rfl rfl, ?_⟩
            have hV109 := hV7.u (f := 31) (k := (mj (μ 51 p.toNat) (μ 53 p.toNat))) (v := 1) (show 0 ≤ 1 ∧ 1 ≤ 1 from by omega)
            exact ⟨mRetVP (P := fun _ m => mLi m) (by first | exact (if_pos e4).trans ((if_pos e5).trans ((if_neg e10).trans ((if_neg e72n).trans ((if_neg e73n).trans ((if_neg e76n).trans ((if_neg e84n).trans ((if_pos e85).trans (if_pos e108)))))))) | (unfold s_gone; rw [if_pos e4, if_pos e5, if_neg e10, if_neg e72n, if_neg e73n, if_neg e76n, if_neg e84n, if_pos e85, if_pos e108])) hV109 (mLi_off (B := (u2 (u2 μ 0 0 (if (v_noPlace μ p) = 0 then 0 else 1)) 0 0 0)) (p := p.toNat) (by intro f hf k; simp only [List.elem_eq_mem, decide_eq_true_eq, List.mem_cons, List.not_mem_nil, or_false] at hf; rcases hf with rfl | rfl | rfl | rfl | rfl | rfl | rfl <;> first | exact ((Eq.trans (u2_f (by decide)) (Eq.trans (u2_f (by decide)) (Eq.trans (u2_f (by decide)) (u2_f (by decide)))))).symm) (fun q => (Eq.trans (u2_f (by decide)) (u2_f (by decide)))) (fun q => (u2_f (by decide))) hL), Nat.le_refl _, Nat.le_refl _⟩
        · have e72n : ¬ ((μ 52 p.toNat) = 4) := by omega
          have e73n : ¬ ((μ 52 p.toNat) = 5) := by omega
          have e76n : ¬ ((μ 52 p.toNat) = 8) := by omega
          have e84n : ¬ ((μ 52 p.toNat) = 16) := by omega
          have e85n : ¬ ((μ 52 p.toNat) = 17) := by omega
          refine ⟨_, hm_oi hx, aR (A 52), rfl, ?_⟩
          refine ⟨64, _, (μ 52 p.toNat), hm_a hx 52 rfl, by omega, (Eq.trans (u2_f (by decide)) (Eq.trans (u2_f (by decide)) (u2_f (by decide)))), ?_⟩
          refine ⟨by omega, fun (e : ¬ (g = 0)) => absurd e (by omega), fun _ => ?_⟩
          refine mi_nl [(7, aI (((2 * (μ 51 p.toNat)) + (μ 52 p.toNat)) - 18)), (6, aI ((256 * (μ 51 p.toNat)) + (μ 53 p.toNat))), (4, aL (μ 53 p.toNat)), (3, aI (μ 51 p.toNat)), (0, aR (A 99)), (1, aI p), (2, aI g)] rfl ?_
          refine ⟨_, hm_oi hx, aR (A 10), rfl, ?_⟩
          refine ⟨4, _, (μ 10 (((2 * (μ 51 p.toNat)) + (μ 52 p.toNat)) - 18).toNat), hm_a hx 10 rfl, by omega, (Eq.trans (u2_f (by decide)) (Eq.trans (u2_f (by decide)) (u2_f (by decide)))), ?_⟩
          have t111 := (show 0 ≤ μ 10 (((2 * (μ 51 p.toNat)) + (μ 52 p.toNat)) - 18).toNat ∧ μ 10 (((2 * (μ 51 p.toNat)) + (μ 52 p.toNat)) - 18).toNat ≤ 64 from hV.g 10 (((2 * (μ 51 p.toNat)) + (μ 52 p.toNat)) - 18).toNat)
          refine ⟨by omega, ?_⟩
          refine ⟨by omega, fun (e112 : ¬ ((μ 53 p.toNat) = (μ 10 (((2 * (μ 51 p.toNat)) + (μ 52 p.toNat)) - 18).toNat))) => ?_, fun (e112 : (μ 53 p.toNat) = (μ 10 (((2 * (μ 51 p.toNat)) + (μ 52 p.toNat)) - 18).toNat)) => ?_⟩
          · exact ⟨mRetVP (P := fun _ m => mLi m) (by first | exact (if_pos e4).trans ((if_pos e5).trans ((if_neg e10).trans ((if_neg e72n).trans ((if_neg e73n).trans ((if_neg e76n).trans ((if_neg e84n).trans ((if_neg e85n).trans ((if_pos e86).trans (if_neg e112))))))))) | (unfold s_gone; rw [if_pos e4, if_pos e5, if_neg e10, if_neg e72n, if_neg e73n, if_neg e76n, if_neg e84n, if_neg e85n, if_pos e86, if_neg e112])) hV7 (mLi_off (B := (u2 (u2 μ 0 0 (if (v_noPlace μ p) = 0 then 0 else 1)) 0 0 0)) (p := p.toNat) (by intro f hf k; simp only [List.elem_eq_mem, decide_eq_true_eq, List.mem_cons, List.not_mem_nil, or_false] at hf; rcases hf with rfl | rfl | rfl | rfl | rfl | rfl | rfl <;> first | exact ((Eq.trans (u2_f (by decide)) (Eq.trans (u2_f (by decide)) (u2_f (by decide))))).symm) (fun q => (Eq.trans (u2_f (by decide)) (u2_f (by decide)))) (fun q => rfl) hL), Nat.le_refl _, Nat.le_refl _⟩
          · refine ⟨_, hm_oi hx, aR (A 13), rfl, ?_⟩
            refine ⟨4, _, _, hm_a hx 13 rfl, by omega, (show 1 = 0 ∨ 1 = 1 from by omega), hm_pi hx (i := (((2 * (μ 51 p.toNat)) + (μ 52 p.toNat)) - 18).toNat) (v := 1) rfl rfl rfl rfl, ?_⟩
            have hV113 := hV7.u (f := 13) (k := (((2 * (μ 51 p.toNat)) + (μ 52 p.toNat)) - 18).toNat) (v := 1) (show 0 ≤ 1 ∧ 1 ≤ 1 from by omega)
            exact ⟨mRetVP (P := fun _ m => mLi m) (by first | exact (if_pos e4).trans ((if_pos e5).trans ((if_neg e10).trans ((if_neg e72n).trans ((if_neg e73n).trans ((if_neg e76n).trans ((if_neg e84n).trans ((if_neg e85n).trans ((if_pos e86).trans (if_pos e112))))))))) | (unfold s_gone; rw [if_pos e4, if_pos e5, if_neg e10, if_neg e72n, if_neg e73n, if_neg e76n, if_neg e84n, if_neg e85n, if_pos e86, if_pos e112])) hV113 (mLi_off (B := (u2 (u2 μ 0 0 (if (v_noPlace μ p) = 0 then 0 else 1)) 0 0 0)) (p := p.toNat) (by intro f hf k; simp only [List.elem_eq_mem, decide_eq_true_eq, List.mem_cons, List.not_mem_nil, or_false] at hf; rcases hf with rfl | rfl | rfl | rfl | rfl | rfl | rfl <;> first | exact ((Eq.trans (u2_f (by decide)) (Eq.trans (u2_f (by decide)) (Eq.trans (u2_f (by decide)) (u2_f (by decide)))))).symm) (fun q => (Eq.trans (u2_f (by decide)) (u2_f (by decide)))) (fun q => (u2_f (by decide))) hL), Nat.le_refl _, Nat.le_refl _⟩
        · have e72n : ¬ ((μ 52 p.toNat) = 4) := by omega
          have e73n : ¬ ((μ 52 p.toNat) = 5) := by omega
          have e76n : ¬ ((μ 52 p.toNat) = 8) := by omega
          have e84n : ¬ ((μ 52 p.toNat) = 16) := by omega
          have e85n : ¬ ((μ 52 p.toNat) = 17) := by omega
          have e86n : ¬ ((μ 52 p.toNat) = 18) := by omega
          refine ⟨_, hm_oi hx, aR (A 52), rfl, ?_⟩
          refine ⟨64, _, (μ 52 p.toNat), hm_a hx 52 rfl, by omega, (Eq.trans (u2_f (by decide)) (Eq.trans (u2_f (by decide)) (u2_f (by decide)))), ?_⟩
          refine ⟨by omega, fun (e : ¬ (g = 0)) => absurd e (by omega), fun _ => ?_⟩
          refine mi_nl [(7, aI (((2 * (μ 51 p.toNat)) + (μ 52 p.toNat)) - 18)), (6, aI ((256 * (μ 51 p.toNat)) + (μ 53 p.toNat))), (4, aL (μ 53 p.toNat)), (3, aI (μ 51 p.toNat)), (0, aR (A 99)), (1, aI p), (2, aI g)] rfl ?_
          refine ⟨_, hm_oi hx, aR (A 10), rfl, ?_⟩
          refine ⟨4, _, (μ 10 (((2 * (μ 51 p.toNat)) + (μ 52 p.toNat)) - 18).toNat), hm_a hx 10 rfl, by omega, (Eq.trans (u2_f (by decide)) (Eq.trans (u2_f (by decide)) (u2_f (by decide)))), ?_⟩
          have t115 := (show 0 ≤ μ 10 (((2 * (μ 51 p.toNat)) + (μ 52 p.toNat)) - 18).toNat ∧ μ 10 (((2 * (μ 51 p.toNat)) + (μ 52 p.toNat)) - 18).toNat ≤ 64 from hV.g 10 (((2 * (μ 51 p.toNat)) + (μ 52 p.toNat)) - 18).toNat)
          refine ⟨by omega, ?_⟩
          refine ⟨by omega, fun (e116 : ¬ ((μ 53 p.toNat) = (μ 10 (((2 * (μ 51 p.toNat)) + (μ 52 p.toNat)) - 18).toNat))) => ?_, fun (e116 : (μ 53 p.toNat) = (μ 10 (((2 * (μ 51 p.toNat)) + (μ 52 p.toNat)) - 18).toNat)) => ?_⟩
          · exact ⟨mRetVP (P := fun _ m => mLi m) (by first | exact (if_pos e4).trans ((if_pos e5).trans ((if_neg e10).trans ((if_neg e72n).trans ((if_neg e73n).trans ((if_neg e76n).trans ((if_neg e84n).trans ((if_neg e85n).trans ((if_neg e86n).trans ((if_pos e87).trans (if_neg e116)))))))))) | (unfold s_gone; rw [if_pos e4, if_pos e5, if_neg e10, if_neg e72n, if_neg e73n, if_neg e76n, if_neg e84n, if_neg e85n, if_neg e86n, if_pos e87, if_neg e116])) hV7 (mLi_off (B := (u2 (u2 μ 0 0 (if (v_noPlace μ p) = 0 then 0 else 1)) 0 0 0)) (p := p.toNat) (by intro f hf k; simp only [List.elem_eq_mem, decide_eq_true_eq, List.mem_cons, List.not_mem_nil, or_false] at hf; rcases hf with rfl | rfl | rfl | rfl | rfl | rfl | rfl <;> first | exact ((Eq.trans (u2_f (by decide)) (Eq.trans (u2_f (by decide)) (u2_f (by decide))))).symm) (fun q => (Eq.trans (u2_f (by decide)) (u2_f (by decide)))) (fun q => rfl) hL), Nat.le_refl _, Nat.le_refl _⟩
          · refine ⟨_, hm_oi hx, aR (A 13), rfl, ?_⟩
            refine ⟨4, _, _, hm_a hx 13 rfl, by omega, (show 1 = 0 ∨ 1 = 1 from by omega), hm_pi hx (i := (((2 * (μ 51 p.toNat)) + (μ 52 p.toNat)) - 18).toNat) (v := 1) rfl rfl rfl rfl, ?_⟩
            have hV117 := hV7.u (f := 13) (k := (((2 * (μ 51 p.toNat)) + (μ 52 p.toNat)) - 18).toNat) (v := 1) (show 0 ≤ 1 ∧ 1 ≤ 1 from by omega)
            exact ⟨mRetVP (P := fun _ m => mLi m) (by first | exact (if_pos e4).trans ((if_pos e5).trans ((if_neg e10).trans ((if_neg e72n).trans ((if_neg e73n).trans ((if_neg e76n).trans ((if_neg e84n).trans ((if_neg e85n).trans ((if_neg e86n).trans ((if_pos e87).trans (if_pos e116)))))))))) | (unfold s_gone; rw [if_pos e4, if_pos e5, if_neg e10, if_neg e72n, if_neg e73n, if_neg e76n, if_neg e84n, if_neg e85n, if_neg e86n, if_pos e87, if_pos e116])) hV117 (mLi_off (B := (u2 (u2 μ 0 0 (if (v_noPlace μ p) = 0 then 0 else 1)) 0 0 0)) (p := p.toNat) (by intro f hf k; simp only [List.elem_eq_mem, decide_eq_true_eq, List.mem_cons, List.not_mem_nil, or_false] at hf; rcases hf with rfl | rfl | rfl | rfl | rfl | rfl | rfl <;> first | exact ((Eq.trans (u2_f (by decide)) (Eq.trans (u2_f (by decide)) (Eq.trans (u2_f (by decide)) (u2_f (by decide)))))).symm) (fun q => (Eq.trans (u2_f (by decide)) (u2_f (by decide)))) (fun q => (u2_f (by decide))) hL), Nat.le_refl _, Nat.le_refl _⟩
        · have e72n : ¬ ((μ 52 p.toNat) = 4) := by omega
          have e73n : ¬ ((μ 52 p.toNat) = 5) := by omega
          have e76n : ¬ ((μ 52 p.toNat) = 8) := by omega
          have e84n : ¬ ((μ 52 p.toNat) = 16) := by omega
          have e85n : ¬ ((μ 52 p.toNat) = 17) := by omega
          have e86n : ¬ ((μ 52 p.toNat) = 18) := by omega
          have e87n : ¬ ((μ 52 p.toNat) = 19) := by omega
          refine ⟨by omega, fun (e : ¬ (g = 0)) => absurd e (by omega), fun _ => ?_⟩
          refine ⟨_, hm_oi hx, aR (A 14), rfl, ?_⟩
          refine ⟨6, _, (μ 14 (3 * (μ 51 p.toNat)).toNat), hm_a hx 14 rfl, by omega, (Eq.trans (u2_f (by decide)) (Eq.trans (u2_f (by decide)) (u2_f (by decide)))), ?_⟩
          have t119 := (show -1 ≤ μ 14 (3 * (μ 51 p.toNat)).toNat ∧ μ 14 (3 * (μ 51 p.toNat)).toNat ≤ 4611686018427387903 from hV.g 14 (3 * (μ 51 p.toNat)).toNat)
          refine ⟨by omega, fun (e120 : ¬ ((μ 14 (3 * (μ 51 p.toNat)).toNat) = (μ 53 p.toNat))) => ?_, fun (e120 : (μ 14 (3 * (μ 51 p.toNat)).toNat) = (μ 53 p.toNat)) => ?_⟩
          · exact ⟨mRetVP (P := fun _ m => mLi m) (by first | exact (if_pos e4).trans ((if_pos e5).trans ((if_neg e10).trans ((if_neg e72n).trans ((if_neg e73n).trans ((if_neg e76n).trans ((if_neg e84n).trans ((if_neg e85n).trans ((if_neg e86n).trans ((if_neg e87n).trans ((if_pos e88).trans (if_neg e120))))))))))) | (unfold s_gone; rw [if_pos e4, if_pos e5, if_neg e10, if_neg e72n, if_neg e73n, if_neg e76n, if_neg e84n, if_neg e85n, if_neg e86n, if_neg e87n, if_pos e88, if_neg e120])) hV7 (mLi_off (B := (u2 (u2 μ 0 0 (if (v_noPlace μ p) = 0 then 0 else 1)) 0 0 0)) (p := p.toNat) (by intro f hf k; simp only [List.elem_eq_mem, decide_eq_true_eq, List.mem_cons, List.not_mem_nil, or_false] at hf; rcases hf with rfl | rfl | rfl | rfl | rfl | rfl | rfl <;> first | exact ((Eq.trans (u2_f (by decide)) (Eq.trans (u2_f (by decide)) (u2_f (by decide))))).symm) (fun q => (Eq.trans (u2_f (by decide)) (u2_f (by decide)))) (fun q => rfl) hL), Nat.le_refl _, Nat.le_refl _⟩
          · refine ⟨_, hm_oi hx, aR (A 14), rfl, ?_⟩
            refine ⟨(-1), rfl, ?_⟩
            refine ⟨6, _, _, hm_a hx 14 rfl, by omega, hm_pl hx (i := (3 * (μ 51 p.toNat)).toNat) (v := -1) rfl rfl rfl, ?_⟩
            have hV121 := hV7.u (f := 14) (k := (3 * (μ 51 p.toNat)).toNat) (v := -1) (show -1 ≤ (-1) ∧ (-1) ≤ 4611686018427387903 from by omega)
            exact ⟨mRetVP (P := fun _ m => mLi m) (by first | exact (if_pos e4).trans ((if_pos e5).trans ((if_neg e10).trans ((if_neg e72n).trans ((if_neg e73n).trans ((if_neg e76n).trans ((if_neg e84n).trans ((if_neg e85n).trans ((if_neg e86n).trans ((if_neg e87n).trans ((if_pos e88).trans (if_pos e120))))))))))) | (unfold s_gone; rw [if_pos e4, if_pos e5, if_neg e10, if_neg e72n, if_neg e73n, if_neg e76n, if_neg e84n, if_neg e85n, if_neg e86n, if_neg e87n, if_pos e88, if_pos e120])) hV121 (mLi_off (B := (u2 (u2 μ 0 0 (if (v_noPlace μ p) = 0 then 0 else 1)) 0 0 0)) (p := p.toNat) (by intro f hf k; simp only [List.elem_eq_mem, decide_eq_true_eq, List.mem_cons, List.not_mem_nil, or_false] at hf; rcases hf with rfl | rfl | rfl | rfl | rfl | rfl | rfl <;> first | exact ((Eq.trans (u2_f (by decide)) (Eq.trans (u2_f (by decide)) (Eq.trans (u2_f (by decide)) (u2_f (by decide)))))).symm) (fun q => (Eq.trans (u2_f (by decide)) (u2_f (by decide)))) (fun q => (u2_f (by decide))) hL), Nat.le_refl _, Nat.le_refl _⟩
        · have e72n : ¬ ((μ 52 p.toNat) = 4) := by omega
          have e73n : ¬ ((μ 52 p.toNat) = 5) := by omega
          have e76n : ¬ ((μ 52 p.toNat) = 8) := by omega
          have e84n : ¬ ((μ 52 p.toNat) = 16) := by omega
          have e85n : ¬ ((μ 52 p.toNat) = 17) := by omega
          have e86n : ¬ ((μ 52 p.toNat) = 18) := by omega
          have e87n : ¬ ((μ 52 p.toNat) = 19) := by omega
          have e88n : ¬ ((μ 52 p.toNat) = 20) := by omega
          refine ⟨by omega, fun (e : ¬ (g = 0)) => absurd e (by omega), fun _ => ?_⟩
          refine ⟨_, hm_oi hx, aR (A 24), rfl, ?_⟩
          refine ⟨512, _, (μ 24 (mj (μ 51 p.toNat) (μ 53 p.toNat))), hm_a hx 24 rfl, by omega, (Eq.trans (u2_f (by decide)) (Eq.trans (u2_f (by decide)) (u2_f (by decide)))), ?_⟩
          have t123 := (show -1 ≤ μ 24 (mj (μ 51 p.toNat) (μ 53 p.toNat)) ∧ μ 24 (mj (μ 51 p.toNat) (μ 53 p.toNat)) ≤ 4611686018427387903 from hV.g 24 (mj (μ 51 p.toNat) (μ 53 p.toNat)))
          refine ⟨_, hm_oi hx, aR (A 54), rfl, ?_⟩
          refine ⟨64, _, (μ 54 p.toNat), hm_a hx 54 rfl, by omega, (Eq.trans (u2_f (by decide)) (Eq.trans (u2_f (by decide)) (u2_f (by decide)))), ?_⟩
          have t124 := (show 0 ≤ μ 54 p.toNat ∧ μ 54 p.toNat ≤ 4611686018427387903 from hV.g 54 p.toNat)
          refine ⟨by omega, fun (e125 : ¬ ((μ 24 (mj (μ 51 p.toNat) (μ 53 p.toNat))) = (μ 54 p.toNat))) => ?_, fun (e125 : (μ 24 (mj (μ 51 p.toNat) (μ 53 p.toNat))) = (μ 54 p.toNat)) => ?_⟩
          · exact ⟨mRetVP (P := fun _ m => mLi m) (by first | exact (if_pos e4).trans ((if_pos e5).trans ((if_neg e10).trans ((if_neg e72n).trans ((if_neg e73n).trans ((if_neg e76n).trans ((if_neg e84n).trans ((if_neg e85n).trans ((if_neg e86n).trans ((if_neg e87n).trans ((if_neg e88n).trans ((if_pos e89).trans (if_neg e125)))))))))))) | (unfold s_gone; rw [if_pos e4, if_pos e5, if_neg e10, if_neg e72n, if_neg e73n, if_neg e76n, if_neg e84n, if_neg e85n, if_neg e86n, if_neg e87n, if_neg e88n, if_pos e89, if_neg e125])) hV7 (mLi_off (B := (u2 (u2 μ 0 0 (if (v_noPlace μ p) = 0 then 0 else 1)) 0 0 0)) (p := p.toNat) (by intro f hf k; simp only [List.elem_eq_mem, decide_eq_true_eq, List.mem_cons, List.not_mem_nil, or_false] at hf; rcases hf with rfl | rfl | rfl | rfl | rfl | rfl | rfl <;> first | exact ((Eq.trans (u2_f (by decide)) (Eq.trans (u2_f (by decide)) (u2_f (by decide))))).symm) (fun q => (Eq.trans (u2_f (by decide)) (u2_f (by decide)))) (fun q => rfl) hL), Nat.le_refl _, Nat.le_refl _⟩
          · refine ⟨_, hm_oi hx, aR (A 24), rfl, ?_⟩
            refine ⟨(-1), rfl, ?_⟩
            refine ⟨512, _, _, hm_a hx 24 rfl, by omega, hm_pl hx (i := (mj (μ 51 p.toNat) (μ 53 p.toNat))) (v := -1) rfl rfl rfl, ?_⟩
            have hV126 := hV7.u (f := 24) (k := (mj (μ 51 p.toNat) (μ 53 p.toNat))) (v := -1) (show -1 ≤ (-1) ∧ (-1) ≤ 4611686018427387903 from by omega)
            exact ⟨mRetVP (P := fun _ m => mLi m) (by first | exact (if_pos e4).trans ((if_pos e5).trans ((if_neg e10).trans ((if_neg e72n).trans ((if_neg e73n).trans ((if_neg e76n).trans ((if_neg e84n).trans ((if_neg e85n).trans ((if_neg e86n).trans ((if_neg e87n).trans ((if_neg e88n).trans ((if_pos e89).trans (if_pos e125)))))))))))) | (unfold s_gone; rw [if_pos e4, if_pos e5, if_neg e10, if_neg e72n, if_neg e73n, if_neg e76n, if_neg e84n, if_neg e85n, if_neg e86n, if_neg e87n, if_neg e88n, if_pos e89, if_pos e125])) hV126 (mLi_off (B := (u2 (u2 μ 0 0 (if (v_noPlace μ p) = 0 then 0 else 1)) 0 0 0)) (p := p.toNat) (by intro f hf k; simp only [List.elem_eq_mem, decide_eq_true_eq, List.mem_cons, List.not_mem_nil, or_false] at hf; rcases hf with rfl | rfl | rfl | rfl | rfl | rfl | rfl <;> first | exact ((Eq.trans (u2_f (by decide)) (Eq.trans (u2_f (by decide)) (Eq.trans (u2_f (by decide)) (u2_f (by decide)))))).symm) (fun q => (Eq.trans (u2_f (by decide)) (u2_f (by decide)))) (fun q => (u2_f (by decide))) hL), Nat.le_refl _, Nat.le_refl _⟩
        · have e72n : ¬ ((μ 52 p.toNat) = 4) := by omega
          have e73n : ¬ ((μ 52 p.toNat) = 5) := by omega
          have e76n : ¬ ((μ 52 p.toNat) = 8) := by omega
          have e84n : ¬ ((μ 52 p.toNat) = 16) := by omega
          have e85n : ¬ ((μ 52 p.toNat) = 17) := by omega
          have e86n : ¬ ((μ 52 p.toNat) = 18) := by omega
          have e87n : ¬ ((μ 52 p.toNat) = 19) := by omega
          have e88n : ¬ ((μ 52 p.toNat) = 20) := by omega
          have e89n : ¬ ((μ 52 p.toNat) = 21) := by omega
          refine ⟨_, hm_oi hx, aR (A 52), rfl, ?_⟩
          refine ⟨64, _, (μ 52 p.toNat), hm_a hx 52 rfl, by omega, (Eq.trans (u2_f (by decide)) (Eq.trans (u2_f (by decide)) (u2_f (by decide)))), ?_⟩
          refine ⟨by omega, fun (e : ¬ (g = 0)) => absurd e (by omega), fun _ => ?_⟩
          refine mi_nl [(8, aI ((((3 * (μ 51 p.toNat)) + 1) + (μ 52 p.toNat)) - 22)), (6, aI ((256 * (μ 51 p.toNat)) + (μ 53 p.toNat))), (4, aL (μ 53 p.toNat)), (3, aI (μ 51 p.toNat)), (0, aR (A 99)), (1, aI p), (2, aI g)] rfl ?_
          refine ⟨_, hm_oi hx, aR (A 14), rfl, ?_⟩
          refine ⟨6, _, (μ 14 ((((3 * (μ 51 p.toNat)) + 1) + (μ 52 p.toNat)) - 22).toNat), hm_a hx 14 rfl, by omega, (Eq.trans (u2_f (by decide)) (Eq.trans (u2_f (by decide)) (u2_f (by decide)))), ?_⟩
          have t128 := (show -1 ≤ μ 14 ((((3 * (μ 51 p.toNat)) + 1) + (μ 52 p.toNat)) - 22).toNat ∧ μ 14 ((((3 * (μ 51 p.toNat)) + 1) + (μ 52 p.toNat)) - 22).toNat ≤ 4611686018427387903 from hV.g 14 ((((3 * (μ 51 p.toNat)) + 1) + (μ 52 p.toNat)) - 22).toNat)
          refine ⟨by omega, fun (e129 : ¬ ((μ 14 ((((3 * (μ 51 p.toNat)) + 1) + (μ 52 p.toNat)) - 22).toNat) = (μ 53 p.toNat))) => ?_, fun (e129 : (μ 14 ((((3 * (μ 51 p.toNat)) + 1) + (μ 52 p.toNat)) - 22).toNat) = (μ 53 p.toNat)) => ?_⟩
          · exact ⟨mRetVP (P := fun _ m => mLi m) (by first | exact (if_pos e4).trans ((if_pos e5).trans ((if_neg e10).trans ((if_neg e72n).trans ((if_neg e73n).trans ((if_neg e76n).trans ((if_neg e84n).trans ((if_neg e85n).trans ((if_neg e86n).trans ((if_neg e87n).trans ((if_neg e88n).trans ((if_neg e89n).trans (if_neg e129)))))))))))) | (unfold s_gone; rw [if_pos e4, if_pos e5, if_neg e10, if_neg e72n, if_neg e73n, if_neg e76n, if_neg e84n, if_neg e85n, if_neg e86n, if_neg e87n, if_neg e88n, if_neg e89n, if_neg e129])) hV7 (mLi_off (B := (u2 (u2 μ 0 0 (if (v_noPlace μ p) = 0 then 0 else 1)) 0 0 0)) (p := p.toNat) (by intro f hf k; simp only [List.elem_eq_mem, decide_eq_true_eq, List.mem_cons, List.not_mem_nil, or_false] at hf; rcases hf with rfl | rfl | rfl | rfl | rfl | rfl | rfl <;> first | exact ((Eq.trans (u2_f (by decide)) (Eq.trans (u2_f (by decide)) (u2_f (by decide))))).symm) (fun q => (Eq.trans (u2_f (by decide)) (u2_f (by decide)))) (fun q => rfl) hL), Nat.le_refl _, Nat.le_refl _⟩
          · refine ⟨_, hm_oi hx, aR (A 14), rfl, ?_⟩
            refine ⟨(-1), rfl, ?_⟩
            refine ⟨6, _, _, hm_a hx 14 rfl, by omega, hm_pl hx (i := ((((3 * (μ 51 p.toNat)) + 1) + (μ 52 p.toNat)) - 22).toNat) (v := -1) rfl rfl rfl, ?_⟩
            have hV130 := hV7.u (f := 14) (k := ((((3 * (μ 51 p.toNat)) + 1) + (μ 52 p.toNat)) - 22).toNat) (v := -1) (show -1 ≤ (-1) ∧ (-1) ≤ 4611686018427387903 from by omega)
            exact ⟨mRetVP (P := fun _ m => mLi m) (by first | exact (if_pos e4).trans ((if_pos e5).trans ((if_neg e10).trans ((if_neg e72n).trans ((if_neg e73n).trans ((if_neg e76n).trans ((if_neg e84n).trans ((if_neg e85n).trans ((if_neg e86n).trans ((if_neg e87n).trans ((if_neg e88n).trans ((if_neg e89n).trans (if_pos e129)))))))))))) | (unfold s_gone; rw [if_pos e4, if_pos e5, if_neg e10, if_neg e72n, if_neg e73n, if_neg e76n, if_neg e84n, if_neg e85n, if_neg e86n, if_neg e87n, if_neg e88n, if_neg e89n, if_pos e129])) hV130 (mLi_off (B := (u2 (u2 μ 0 0 (if (v_noPlace μ p) = 0 then 0 else 1)) 0 0 0)) (p := p.toNat) (by intro f hf k; simp only [List.elem_eq_mem, decide_eq_true_eq, List.mem_cons, List.not_mem_nil, or_false] at hf; rcases hf with rfl | rfl | rfl | rfl | rfl | rfl | rfl <;> first | exact ((Eq.trans (u2_f (by decide)) (Eq.trans (u2_f (by decide)) (Eq.trans (u2_f (by decide)) (u2_f (by decide)))))).symm) (fun q => (Eq.trans (u2_f (by decide)) (u2_f (by decide)))) (fun q => (u2_f (by decide))) hL), Nat.le_refl _, Nat.le_refl _⟩
    · refine ⟨_, hm_oi hx, aR (A 59), rfl, ?_⟩
      refine ⟨64, _, (μ 59 p.toNat), hm_a hx 59 rfl, by omega, (u2_f (by decide)), ?_⟩
      have t131 := (show 0 ≤ μ 59 p.toNat ∧ μ 59 p.toNat ≤ 1 from hV.g 59 p.toNat)
      refine ⟨by omega, fun (e132 : (μ 59 p.toNat) = 1) => ?_, fun (e132 : ¬ ((μ 59 p.toNat) = 1)) => ?_⟩
      · refine ⟨⟨_, hm_oi hx⟩, _, _, _, _, (m_fails0 hF htr hx (c := 2)), Nat.le_refl _, Nat.le_refl _, mki_ (r := some (aI 0)) ?_, fun _ _ q => q.elim⟩
        have hV133 := hV3.u (f := 0) (k := 0) (v := 0) (show 0 ≤ 0 ∧ 0 ≤ 2 from by omega)
        refine ⟨by omega, fun _ => ?_, fun (e : ¬ ((0 : Int) = 0)) => (e (by decide)).elim⟩
        refine ⟨_, hm_oi hx, aR (A 58), rfl, ?_⟩
        refine ⟨64, _, _, hm_a hx 58 rfl, by omega, (show 0 = 0 ∨ 0 = 1 from by omega), hm_pi hx (i := p.toNat) (v := 0) rfl rfl rfl rfl, ?_⟩
        have hV134 := hV133.u (f := 58) (k := p.toNat) (v := 0) (show 0 ≤ 0 ∧ 0 ≤ 1 from by omega)
        refine ⟨_, hm_oi hx, aR (A 51), rfl, ?_⟩
        refine ⟨64, _, (μ 51 p.toNat), hm_a hx 51 rfl, by omega, (Eq.trans (u2_f (by decide)) (Eq.trans (u2_f (by decide)) (u2_f (by decide)))), ?_⟩
        have t135 := (show 0 ≤ μ 51 p.toNat ∧ μ 51 p.toNat ≤ 1 from hV.g 51 p.toNat)
        refine ⟨_, hm_oi hx, aR (A 53), rfl, ?_⟩
        refine mi_nl [(3, aI (μ 51 p.toNat)), (0, aR (A 99)), (1, aI p), (2, aI g)] rfl ?_
        refine ⟨64, _, (μ 53 p.toNat), hm_a hx 53 rfl, by omega, (Eq.trans (u2_f (by decide)) (Eq.trans (u2_f (by decide)) (u2_f (by decide)))), ?_⟩
        have t136 := (show 0 ≤ μ 53 p.toNat ∧ μ 53 p.toNat ≤ 4611686018427387903 from hV.g 53 p.toNat)
        refine ⟨256, rfl, ?_⟩
        refine mi_nl [(4, aL (μ 53 p.toNat)), (3, aI (μ 51 p.toNat)), (0, aR (A 99)), (1, aI p), (2, aI g)] rfl ?_
        refine ⟨by omega, fun (e137 : 256 ≤ (μ 53 p.toNat)) => ?_, fun (e137 : ¬ (256 ≤ (μ 53 p.toNat))) => ?_⟩
        · refine ⟨_, _, _, _, (m_at hF htr (s := (μ 51 p.toNat)) (i := 0)), Nat.le_refl _, Nat.le_refl _, mki_ (r := some (aI ((256 * (μ 51 p.toNat)) + 0))) ?_, fun _ _ q => q.elim⟩
          refine ⟨_, hm_oi hx, aR (A 52), rfl, ?_⟩
          refine mi_nl [(6, aI ((256 * (μ 51 p.toNat)) + 0)), (4, aL (μ 53 p.toNat)), (3, aI (μ 51 p.toNat)), (0, aR (A 99)), (1, aI p), (2, aI g)] rfl ?_
          refine ⟨64, _, (μ 52 p.toNat), hm_a hx 52 rfl, by omega, (Eq.trans (u2_f (by decide)) (Eq.trans (u2_f (by decide)) (u2_f (by decide)))), ?_⟩
          have t138 := (show 0 ≤ μ 52 p.toNat ∧ μ 52 p.toNat ≤ 23 from hV.g 52 p.toNat)
          refine ⟨by omega, ⟨fun (e139 : (μ 52 p.toNat) = 4) => ?_, fun (e140 : (μ 52 p.toNat) = 5) => ?_, fun (e141 : (μ 52 p.toNat) = 6) => ?_, fun (e142 : (μ 52 p.toNat) = 7) => ?_, fun (e143 : (μ 52 p.toNat) = 8) => ?_, fun (e144 : (μ 52 p.toNat) = 9) => ?_, fun (e145 : (μ 52 p.toNat) = 10) => ?_, fun (e146 : (μ 52 p.toNat) = 11) => ?_, fun (e147 : (μ 52 p.toNat) = 12) => ?_, fun (e148 : (μ 52 p.toNat) = 13) => ?_, fun (e149 : (μ 52 p.toNat) = 14) => ?_, fun (e150 : (μ 52 p.toNat) = 15) => ?_, fun (e151 : (μ 52 p.toNat) = 16) => ?_, fun (e152 : (μ 52 p.toNat) = 17) => ?_, fun (e153 : (μ 52 p.toNat) = 18) => ?_, fun (e154 : (μ 52 p.toNat) = 19) => ?_, fun (e155 : (μ 52 p.toNat) = 20) => ?_, fun (e156 : (μ 52 p.toNat) = 21) => ?_, trivial⟩, fun (e157 : (μ 52 p.toNat) < 4 ∨ 21 < (μ 52 p.toNat)) => ?_⟩
          · refine ⟨by omega, fun (e : g = 0) => absurd e (by omega), fun _ => ?_⟩
            refine ⟨_, hm_oi hx, aR (A 21), rfl, ?_⟩
            refine ⟨512, _, (μ 21 (mj (μ 51 p.toNat) 0)), hm_a hx 21 rfl, by omega, (Eq.trans (u2_f (by decide)) (Eq.trans (u2_f (by decide)) (u2_f (by decide)))), ?_⟩
            have t159 := (show 0 ≤ μ 21 (mj (μ 51 p.toNat) 0) ∧ μ 21 (mj (μ 51 p.toNat) 0) ≤ 2 from hV.g 21 (mj (μ 51 p.toNat) 0))
            refine ⟨by omega, fun (e160 : ¬ ((μ 21 (mj (μ 51 p.toNat) 0)) = 1)) => ?_, fun (e160 : (μ 21 (mj (μ 51 p.toNat) 0)) = 1) => ?_⟩
            · refine ⟨by omega, fun _ => ?_, fun (e : g = 0) => absurd e (by omega)⟩
              refine ⟨⟨_, hm_oi hx⟩, _, _, _, _, (m_looksOver hF htr hx hV134 (s := (μ 51 p.toNat)) (i := (μ 53 p.toNat)) (by omega) (by omega) (by omega) (by omega)), Nat.le_refl _, Nat.le_refl _, mkis_ (r := none) (fun hV162 => ?_), fun _ _ q => q.elim⟩
              exact ⟨mRetVP (P := fun _ m => mLi m) (by first | exact (if_pos e4).trans ((if_neg e5).trans ((if_pos e132).trans ((if_pos e137).trans ((if_pos e139).trans (if_neg e160))))) | (unfold s_gone; rw [if_pos e4, if_neg e5, if_pos e132, if_pos e137, if_pos e139, if_neg e160])) hV162 (mLi_off (B := (u2 (u2 μ 0 0 (if (v_noPlace μ p) = 0 then 0 else 1)) 0 0 0)) (p := p.toNat) (by intro f hf k; simp only [List.elem_eq_mem, decide_eq_true_eq, List.mem_cons, List.not_mem_nil, or_false] at hf; rcases hf with rfl | rfl | rfl | rfl | rfl | rfl | rfl <;> first | exact ((Eq.trans (s_looksOver_fr (by decide)) (Eq.trans (u2_f (by decide)) (Eq.trans (u2_f (by decide)) (u2_f (by decide)))))).symm) (fun q => (Eq.trans (u2_f (by decide)) (u2_f (by decide)))) (fun q => (s_looksOver_fr (by decide))) hL), Nat.le_refl _, Nat.le_refl _⟩
            · refine ⟨_, hm_oi hx, aR (A 21), rfl, ?_⟩
              refine ⟨512, _, _, hm_a hx 21 rfl, by omega, trivial, hm_pi hx (i := (mj (μ 51 p.toNat) 0)) (v := 2) rfl rfl rfl rfl, ?_⟩
              have hV163 := hV134.u (f := 21) (k := (mj (μ 51 p.toNat) 0)) (v := 2) (show 0 ≤ 2 ∧ 2 ≤ 2 from by omega)
              refine ⟨⟨_, hm_oi hx⟩, _, _, _, _, (m_looksOver hF htr hx hV163 (s := (μ 51 p.toNat)) (i := (μ 53 p.toNat)) (by omega) (by omega) (by omega) (by omega)), Nat.le_refl _, Nat.le_refl _, mkis_ (r := none) (fun hV164 => ?_), fun _ _ q => q.elim⟩
              exact ⟨mRetVP (P := fun _ m => mLi m) (by first | exact (if_pos e4).trans ((if_neg e5).trans ((if_pos e132).trans ((if_pos e137).trans ((if_pos e139).trans (if_pos e160))))) | (unfold s_gone; rw [if_pos e4, if_neg e5, if_pos e132, if_pos e137, if_pos e139, if_pos e160])) hV164 (mLi_off (B := (u2 (u2 μ 0 0 (if (v_noPlace μ p) = 0 then 0 else 1)) 0 0 0)) (p := p.toNat) (by intro f hf k; simp only [List.elem_eq_mem, decide_eq_true_eq, List.mem_cons, List.not_mem_nil, or_false] at hf; rcases hf with rfl | rfl | rfl | rfl | rfl | rfl | rfl <;> first | exact ((Eq.trans (s_looksOver_fr (by decide)) (Eq.trans (u2_f (by decide)) (Eq.trans (u2_f (by decide)) (Eq.trans (u2_f (by decide)) (u2_f (by decide))))))).symm) (fun q => (Eq.trans (u2_f (by decide)) (u2_f (by decide)))) (fun q => (Eq.trans (s_looksOver_fr (by decide)) (u2_f (by decide)))) hL), Nat.le_refl _, Nat.le_refl _⟩
          · have e139n : ¬ ((μ 52 p.toNat) = 4) := by omega
            refine ⟨by omega, fun _ => ?_, fun (e : g = 0) => absurd e (by omega)⟩
            exact ⟨mRetVP (P := fun _ m => mLi m) (by first | exact (if_pos e4).trans ((if_neg e5).trans ((if_pos e132).trans ((if_pos e137).trans ((if_neg e139n).trans (if_pos e140))))) | (unfold s_gone; rw [if_pos e4, if_neg e5, if_pos e132, if_pos e137, if_neg e139n, if_pos e140])) hV134 (mLi_off (B := (u2 (u2 μ 0 0 (if (v_noPlace μ p) = 0 then 0 else 1)) 0 0 0)) (p := p.toNat) (by intro f hf k; simp only [List.elem_eq_mem, decide_eq_true_eq, List.mem_cons, List.not_mem_nil, or_false] at hf; rcases hf with rfl | rfl | rfl | rfl | rfl | rfl | rfl <;> first | exact ((Eq.trans (u2_f (by decide)) (Eq.trans (u2_f (by decide)) (u2_f (by decide))))).symm) (fun q => (Eq.trans (u2_f (by decide)) (u2_f (by decide)))) (fun q => rfl) hL), Nat.le_refl _, Nat.le_refl _⟩
          · exact absurd e141 (by omega)
          · exact absurd e142 (by omega)
          · have e139n : ¬ ((μ 52 p.toNat) = 4) := by omega
            have e140n : ¬ ((μ 52 p.toNat) = 5) := by omega
            refine ⟨⟨_, hm_oi hx⟩, _, _, _, _, (m_goneStream hF htr hx hV134 (s := (μ 51 p.toNat)) (p := p) (g := g) (by omega) (by omega) (by omega) (by omega) (by omega) (show (μ 53 p.toNat) < 256 from by omega) (show (μ 54 p.toNat) + (μ 56 p.toNat) ≤ mW μ (μ 51 p.toNat) (μ 53 p.toNat) from by omega)), Nat.le_refl _, Nat.le_refl _, mkis_ (r := none) (fun hV166 => ?_), fun _ _ q => q.elim⟩
            exact ⟨mRetVP (P := fun _ m => mLi m) (by first | exact (if_pos e4).trans ((if_neg e5).trans ((if_pos e132).trans ((if_pos e137).trans ((if_neg e139n).trans ((if_neg e140n).trans (if_pos e143)))))) | (unfold s_gone; rw [if_pos e4, if_neg e5, if_pos e132, if_pos e137, if_neg e139n, if_neg e140n, if_pos e143])) hV166 (mLi_off (B := (u2 (u2 μ 0 0 (if (v_noPlace μ p) = 0 then 0 else 1)) 0 0 0)) (p := p.toNat) (by intro f hf k; simp only [List.elem_eq_mem, decide_eq_true_eq, List.mem_cons, List.not_mem_nil, or_false] at hf; rcases hf with rfl | rfl | rfl | rfl | rfl | rfl | rfl <;> first | exact ((Eq.trans (s_goneStream_fr (by decide)) (Eq.trans (u2_f (by decide)) (Eq.trans (u2_f (by decide)) (u2_f (by decide)))))).symm) (fun q => (Eq.trans (u2_f (by decide)) (u2_f (by decide)))) (fun q => (s_goneStream_fr (by decide))) hL), Nat.le_refl _, Nat.le_refl _⟩
          · exact absurd e144 (by omega)
          · exact absurd e145 (by omega)
          · exact absurd e146 (by omega)
          · exact absurd e147 (by omega)
          · exact absurd e148 (by omega)
          · exact absurd e149 (by omega)
          · exact absurd e150 (by omega)
          · have e139n : ¬ ((μ 52 p.toNat) = 4) := by omega
            have e140n : ¬ ((μ 52 p.toNat) = 5) := by omega
            have e143n : ¬ ((μ 52 p.toNat) = 8) := by omega
            refine ⟨by omega, fun _ => ?_, fun (e : g = 0) => absurd e (by omega)⟩
            exact ⟨mRetVP (P := fun _ m => mLi m) (by first | exact (if_pos e4).trans ((if_neg e5).trans ((if_pos e132).trans ((if_pos e137).trans ((if_neg e139n).trans ((if_neg e140n).trans ((if_neg e143n).trans (if_pos e151))))))) | (unfold s_gone; rw [if_pos e4, if_neg e5, if_pos e132, if_pos e137, if_neg e139n, if_neg e140n, if_neg e143n, if_pos e151])) hV134 (mLi_off (B := (u2 (u2 μ 0 0 (if (v_noPlace μ p) = 0 then 0 else 1)) 0 0 0)) (p := p.toNat) (by intro f hf k; simp only [List.elem_eq_mem, decide_eq_true_eq, List.mem_cons, List.not_mem_nil, or_false] at hf; rcases hf with rfl | rfl | rfl | rfl | rfl | rfl | rfl <;> first | exact ((Eq.trans (u2_f (by decide)) (Eq.trans (u2_f (by decide)) (u2_f (by decide))))).symm) (fun q => (Eq.trans (u2_f (by decide)) (u2_f (by decide)))) (fun q => rfl) hL), Nat.le_refl _, Nat.le_refl _⟩
          · have e139n : ¬ ((μ 52 p.toNat) = 4) := by omega
            have e140n : ¬ ((μ 52 p.toNat) = 5) := by omega
            have e143n : ¬ ((μ 52 p.toNat) = 8) := by omega
            have e151n : ¬ ((μ 52 p.toNat) = 16) := by omega
            refine ⟨by omega, fun _ => ?_, fun (e : g = 0) => absurd e (by omega)⟩
            exact ⟨mRetVP (P := fun _ m => mLi m) (by first | exact (if_pos e4).trans ((if_neg e5).trans ((if_pos e132).trans ((if_pos e137).trans ((if_neg e139n).trans ((if_neg e140n).trans ((if_neg e143n).trans ((if_neg e151n).trans (if_pos e152)))))))) | (unfold s_gone; rw [if_pos e4, if_neg e5, if_pos e132, if_pos e137, if_neg e139n, if_neg e140n, if_neg e143n, if_neg e151n, if_pos e152])) hV134 (mLi_off (B := (u2 (u2 μ 0 0 (if (v_noPlace μ p) = 0 then 0 else 1)) 0 0 0)) (p := p.toNat) (by intro f hf k; simp only [List.elem_eq_mem, decide_eq_true_eq, List.mem_cons, List.not_mem_nil, or_false] at hf; rcases hf with rfl | rfl | rfl | rfl | rfl | rfl | rfl <;> first | exact ((Eq.trans (u2_f (by decide)) (Eq.trans (u2_f (by decide)) (u2_f (by decide))))).symm) (fun q => (Eq.trans (u2_f (by decide)) (u2_f (by decide)))) (fun q => rfl) hL), Nat.le_refl _, Nat.le_refl _⟩
          · have e139n : ¬ ((μ 52 p.toNat) = 4) := by omega
            have e140n : ¬ ((μ 52 p.toNat) = 5) := by omega
            have e143n : ¬ ((μ 52 p.toNat) = 8) := by omega
            have e151n : ¬ ((μ 52 p.toNat) = 16) := by omega
            have e152n : ¬ ((μ 52 p.toNat) = 17) := by omega
            refine ⟨_, hm_oi hx, aR (A 52), rfl, ?_⟩
            refine ⟨64, _, (μ 52 p.toNat), hm_a hx 52 rfl, by omega, (Eq.trans (u2_f (by decide)) (Eq.trans (u2_f (by decide)) (u2_f (by decide)))), ?_⟩
            refine ⟨by omega, fun _ => ?_, fun (e : g = 0) => absurd e (by omega)⟩
            refine mi_nl [(7, aI (((2 * (μ 51 p.toNat)) + (μ 52 p.toNat)) - 18)), (6, aI ((256 * (μ 51 p.toNat)) + 0)), (4, aL (μ 53 p.toNat)), (3, aI (μ 51 p.toNat)), (0, aR (A 99)), (1, aI p), (2, aI g)] rfl ?_
            exact ⟨mRetVP (P := fun _ m => mLi m) (by first | exact (if_pos e4).trans ((if_neg e5).trans ((if_pos e132).trans ((if_pos e137).trans ((if_neg e139n).trans ((if_neg e140n).trans ((if_neg e143n).trans ((if_neg e151n).trans ((if_neg e152n).trans (if_pos e153))))))))) | (unfold s_gone; rw [if_pos e4, if_neg e5, if_pos e132, if_pos e137, if_neg e139n, if_neg e140n, if_neg e143n, if_neg e151n, if_neg e152n, if_pos e153])) hV134 (mLi_off (B := (u2 (u2 μ 0 0 (if (v_noPlace μ p) = 0 then 0 else 1)) 0 0 0)) (p := p.toNat) (by intro f hf k; simp only [List.elem_eq_mem, decide_eq_true_eq, List.mem_cons, List.not_mem_nil, or_false] at hf; rcases hf with rfl | rfl | rfl | rfl | rfl | rfl | rfl <;> first | exact ((Eq.trans (u2_f (by decide)) (Eq.trans (u2_f (by decide)) (u2_f (by decide))))).symm) (fun q => (Eq.trans (u2_f (by decide)) (u2_f (by decide)))) (fun q => rfl) hL), Nat.le_refl _, Nat.le_refl _⟩
          · have e139n : ¬ ((μ 52 p.toNat) = 4) := by omega
            have e140n : ¬ ((μ 52 p.toNat) = 5) := by omega
            have e143n : ¬ ((μ 52 p.toNat) = 8) := by omega
            have e151n : ¬ ((μ 52 p.toNat) = 16) := by omega
            have e152n : ¬ ((μ 52 p.toNat) = 17) := by omega
            have e153n : ¬ ((μ 52 p.toNat) = 18) := by omega
            refine ⟨_, hm_oi hx, aR (A 52), rfl, ?_⟩
            refine ⟨64, _, (μ 52 p.toNat), hm_a hx 52 rfl, by omega, (Eq.trans (u2_f (by decide)) (Eq.trans (u2_f (by decide)) (u2_f (by decide)))), ?_⟩
            refine ⟨by omega, fun _ => ?_, fun (e : g = 0) => absurd e (by omega)⟩
            refine mi_nl [(7, aI (((2 * (μ 51 p.toNat)) + (μ 52 p.toNat)) - 18)), (6, aI ((256 * (μ 51 p.toNat)) + 0)), (4, aL (μ 53 p.toNat)), (3, aI (μ 51 p.toNat)), (0, aR (A 99)), (1, aI p), (2, aI g)] rfl ?_
            exact ⟨mRetVP (P := fun _ m => mLi m) (by first | exact (if_pos e4).trans ((if_neg e5).trans ((if_pos e132).trans ((if_pos e137).trans ((if_neg e139n).trans ((if_neg e140n).trans ((if_neg e143n).trans ((if_neg e151n).trans ((if_neg e152n).trans ((if_neg e153n).trans (if_pos e154)))))))))) | (unfold s_gone; rw [if_pos e4, if_neg e5, if_pos e132, if_pos e137, if_neg e139n, if_neg e140n, if_neg e143n, if_neg e151n, if_neg e152n, if_neg e153n, if_pos e154])) hV134 (mLi_off (B := (u2 (u2 μ 0 0 (if (v_noPlace μ p) = 0 then 0 else 1)) 0 0 0)) (p := p.toNat) (by intro f hf k; simp only [List.elem_eq_mem, decide_eq_true_eq, List.mem_cons, List.not_mem_nil, or_false] at hf; rcases hf with rfl | rfl | rfl | rfl | rfl | rfl | rfl <;> first | exact ((Eq.trans (u2_f (by decide)) (Eq.trans (u2_f (by decide)) (u2_f (by decide))))).symm) (fun q => (Eq.trans (u2_f (by decide)) (u2_f (by decide)))) (fun q => rfl) hL), Nat.le_refl _, Nat.le_refl _⟩
          · have e139n : ¬ ((μ 52 p.toNat) = 4) := by omega
            have e140n : ¬ ((μ 52 p.toNat) = 5) := by omega
            have e143n : ¬ ((μ 52 p.toNat) = 8) := by omega
            have e151n : ¬ ((μ 52 p.toNat) = 16) := by omega
            have e152n : ¬ ((μ 52 p.toNat) = 17) := by omega
            have e153n : ¬ ((μ 52 p.toNat) = 18) := by omega
            have e154n : ¬ ((μ 52 p.toNat) = 19) := by omega
            refine ⟨by omega, fun _ => ?_, fun (e : g = 0) => absurd e (by omega)⟩
            exact ⟨mRetVP (P := fun _ m => mLi m) (by first | exact (if_pos e4).trans ((if_neg e5).trans ((if_pos e132).trans ((if_pos e137).trans ((if_neg e139n).trans ((if_neg e140n).trans ((if_neg e143n).trans ((if_neg e151n).trans ((if_neg e152n).trans ((if_neg e153n).trans ((if_neg e154n).trans (if_pos e155))))))))))) | (unfold s_gone; rw [if_pos e4, if_neg e5, if_pos e132, if_pos e137, if_neg e139n, if_neg e140n, if_neg e143n, if_neg e151n, if_neg e152n, if_neg e153n, if_neg e154n, if_pos e155])) hV134 (mLi_off (B := (u2 (u2 μ 0 0 (if (v_noPlace μ p) = 0 then 0 else 1)) 0 0 0)) (p := p.toNat) (by intro f hf k; simp only [List.elem_eq_mem, decide_eq_true_eq, List.mem_cons, List.not_mem_nil, or_false] at hf; rcases hf with rfl | rfl | rfl | rfl | rfl | rfl | rfl <;> first | exact ((Eq.trans (u2_f (by decide)) (Eq.trans (u2_f (by decide)) (u2_f (by decide))))).symm) (fun q => (Eq.trans (u2_f (by decide)) (u2_f (by decide)))) (fun q => rfl) hL), Nat.le_refl _, Nat.le_refl _⟩
          · have e139n : ¬ ((μ 52 p.toNat) = 4) := by omega
            have e140n : ¬ ((μ 52 p.toNat) = 5) := by omega
            have e143n : ¬ ((μ 52 p.toNat) = 8) := by omega
            have e151n : ¬ ((μ 52 p.toNat) = 16) := by omega
            have e152n : ¬ ((μ 52 p.toNat) = 17) := by omega
            have e153n : ¬ ((μ 52 p.toNat) = 18) := by omega
            have e154n : ¬ ((μ 52 p.toNat) = 19) := by omega
            have e155n : ¬ ((μ 52 p.toNat) = 20) := by omega
            refine ⟨by omega, fun _ => ?_, fun (e : g = 0) => absurd e (by omega)⟩
            exact ⟨mRetVP (P := fun _ m => mLi m) (by first | exact (if_pos e4).trans ((if_neg e5).trans ((if_pos e132).trans ((if_pos e137).trans ((if_neg e139n).trans ((if_neg e140n).trans ((if_neg e143n).trans ((if_neg e151n).trans ((if_neg e152n).trans ((if_neg e153n).trans ((if_neg e154n).trans ((if_neg e155n).trans (if_pos e156)))))))))))) | (unfold s_gone; rw [if_pos e4, if_neg e5, if_pos e132, if_pos e137, if_neg e139n, if_neg e140n, if_neg e143n, if_neg e151n, if_neg e152n, if_neg e153n, if_neg e154n, if_neg e155n, if_pos e156])) hV134 (mLi_off (B := (u2 (u2 μ 0 0 (if (v_noPlace μ p) = 0 then 0 else 1)) 0 0 0)) (p := p.toNat) (by intro f hf k; simp only [List.elem_eq_mem, decide_eq_true_eq, List.mem_cons, List.not_mem_nil, or_false] at hf; rcases hf with rfl | rfl | rfl | rfl | rfl | rfl | rfl <;> first | exact ((Eq.trans (u2_f (by decide)) (Eq.trans (u2_f (by decide)) (u2_f (by decide))))).symm) (fun q => (Eq.trans (u2_f (by decide)) (u2_f (by decide)))) (fun q => rfl) hL), Nat.le_refl _, Nat.le_refl _⟩
          · have e139n : ¬ ((μ 52 p.toNat) = 4) := by omega
            have e140n : ¬ ((μ 52 p.toNat) = 5) := by omega
            have e143n : ¬ ((μ 52 p.toNat) = 8) := by omega
            have e151n : ¬ ((μ 52 p.toNat) = 16) := by omega
            have e152n : ¬ ((μ 52 p.toNat) = 17) := by omega
            have e153n : ¬ ((μ 52 p.toNat) = 18) := by omega
            have e154n : ¬ ((μ 52 p.toNat) = 19) := by omega
            have e155n : ¬ ((μ 52 p.toNat) = 20) := by omega
            have e156n : ¬ ((μ 52 p.toNat) = 21) := by omega
            refine ⟨_, hm_oi hx, aR (A 52), rfl, ?_⟩
            refine ⟨64, _, (μ 52 p.toNat), hm_a hx 52 rfl, by omega, (Eq.trans (u2_f (by decide)) (Eq.trans (u2_f (by decide)) (u2_f (by decide)))), ?_⟩
            refine ⟨by omega, fun _ => ?_, fun (e : g = 0) => absurd e (by omega)⟩
            refine mi_nl [(8, aI ((((3 * (μ 51 p.toNat)) + 1) + (μ 52 p.toNat)) - 22)), (6, aI ((256 * (μ 51 p.toNat)) + 0)), (4, aL (μ 53 p.toNat)), (3, aI (μ 51 p.toNat)), (0, aR (A 99)), (1, aI p), (2, aI g)] rfl ?_
            exact ⟨mRetVP (P := fun _ m => mLi m) (by first | exact (if_pos e4).trans ((if_neg e5).trans ((if_pos e132).trans ((if_pos e137).trans ((if_neg e139n).trans ((if_neg e140n).trans ((if_neg e143n).trans ((if_neg e151n).trans ((if_neg e152n).trans ((if_neg e153n).trans ((if_neg e154n).trans ((if_neg e155n).trans (if_neg e156n)))))))))))) | (unfold s_gone; rw [if_pos e4, if_neg e5, if_pos e132, if_pos e137, if_neg e139n, if_neg e140n, if_neg e143n, if_neg e151n, if_neg e152n, if_neg e153n, if_neg e154n, if_neg e155n, if_neg e156n])) hV134 (mLi_off (B := (u2 (u2 μ 0 0 (if (v_noPlace μ p) = 0 then 0 else 1)) 0 0 0)) (p := p.toNat) (by intro f hf k; simp only [List.elem_eq_mem, decide_eq_true_eq, List.mem_cons, List.not_mem_nil, or_false] at hf; rcases hf with rfl | rfl | rfl | rfl | rfl | rfl | rfl <;> first | exact ((Eq.trans (u2_f (by decide)) (Eq.trans (u2_f (by decide)) (u2_f (by decide))))).symm) (fun q => (Eq.trans (u2_f (by decide)) (u2_f (by decide)))) (fun q => rfl) hL), Nat.le_refl _, Nat.le_refl _⟩
        · refine ⟨_, _, _, _, (m_at hF htr (s := (μ 51 p.toNat)) (i := (μ 53 p.toNat))), Nat.le_refl _, Nat.le_refl _, mki_ (r := some (aI ((256 * (μ 51 p.toNat)) + (μ 53 p.toNat)))) ?_, fun _ _ q => q.elim⟩
          refine ⟨_, hm_oi hx, aR (A 52), rfl, ?_⟩
          refine mi_nl [(6, aI ((256 * (μ 51 p.toNat)) + (μ 53 p.toNat))), (4, aL (μ 53 p.toNat)), (3, aI (μ 51 p.toNat)), (0, aR (A 99)), (1, aI p), (2, aI g)] rfl ?_
          refine ⟨64, _, (μ 52 p.toNat), hm_a hx 52 rfl, by omega, (Eq.trans (u2_f (by decide)) (Eq.trans (u2_f (by decide)) (u2_f (by decide)))), ?_⟩
          have t174 := (show 0 ≤ μ 52 p.toNat ∧ μ 52 p.toNat ≤ 23 from hV.g 52 p.toNat)
          refine ⟨by omega, ⟨fun (e175 : (μ 52 p.toNat) = 4) => ?_, fun (e176 : (μ 52 p.toNat) = 5) => ?_, fun (e177 : (μ 52 p.toNat) = 6) => ?_, fun (e178 : (μ 52 p.toNat) = 7) => ?_, fun (e179 : (μ 52 p.toNat) = 8) => ?_, fun (e180 : (μ 52 p.toNat) = 9) => ?_, fun (e181 : (μ 52 p.toNat) = 10) => ?_, fun (e182 : (μ 52 p.toNat) = 11) => ?_, fun (e183 : (μ 52 p.toNat) = 12) => ?_, fun (e184 : (μ 52 p.toNat) = 13) => ?_, fun (e185 : (μ 52 p.toNat) = 14) => ?_, fun (e186 : (μ 52 p.toNat) = 15) => ?_, fun (e187 : (μ 52 p.toNat) = 16) => ?_, fun (e188 : (μ 52 p.toNat) = 17) => ?_, fun (e189 : (μ 52 p.toNat) = 18) => ?_, fun (e190 : (μ 52 p.toNat) = 19) => ?_, fun (e191 : (μ 52 p.toNat) = 20) => ?_, fun (e192 : (μ 52 p.toNat) = 21) => ?_, trivial⟩, fun (e193 : (μ 52 p.toNat) < 4 ∨ 21 < (μ 52 p.toNat)) => ?_⟩
          · refine ⟨by omega, fun (e : g = 0) => absurd e (by omega), fun _ => ?_⟩
            refine ⟨_, hm_oi hx, aR (A 21), rfl, ?_⟩
            refine ⟨512, _, (μ 21 (mj (μ 51 p.toNat) (μ 53 p.toNat))), hm_a hx 21 rfl, by omega, (Eq.trans (u2_f (by decide)) (Eq.trans (u2_f (by decide)) (u2_f (by decide)))), ?_⟩
            have t195 := (show 0 ≤ μ 21 (mj (μ 51 p.toNat) (μ 53 p.toNat)) ∧ μ 21 (mj (μ 51 p.toNat) (μ 53 p.toNat)) ≤ 2 from hV.g 21 (mj (μ 51 p.toNat) (μ 53 p.toNat)))
            refine ⟨by omega, fun (e196 : ¬ ((μ 21 (mj (μ 51 p.toNat) (μ 53 p.toNat))) = 1)) => ?_, fun (e196 : (μ 21 (mj (μ 51 p.toNat) (μ 53 p.toNat))) = 1) => ?_⟩
            · refine ⟨by omega, fun _ => ?_, fun (e : g = 0) => absurd e (by omega)⟩
              refine ⟨⟨_, hm_oi hx⟩, _, _, _, _, (m_looksOver hF htr hx hV134 (s := (μ 51 p.toNat)) (i := (μ 53 p.toNat)) (by omega) (by omega) (by omega) (by omega)), Nat.le_refl _, Nat.le_refl _, mkis_ (r := none) (fun hV198 => ?_), fun _ _ q => q.elim⟩
              exact ⟨mRetVP (P := fun _ m => mLi m) (by first | exact (if_pos e4).trans ((if_neg e5).trans ((if_pos e132).trans ((if_neg e137).trans ((if_pos e175).trans (if_neg e196))))) | (unfold s_gone; rw [if_pos e4, if_neg e5, if_pos e132, if_neg e137, if_pos e175, if_neg e196])) hV198 (mLi_off (B := (u2 (u2 μ 0 0 (if (v_noPlace μ p) = 0 then 0 else 1)) 0 0 0)) (p := p.toNat) (by intro f hf k; simp only [List.elem_eq_mem, decide_eq_true_eq, List.mem_cons, List.not_mem_nil, or_false] at hf; rcases hf with rfl | rfl | rfl | rfl | rfl | rfl | rfl <;> first | exact ((Eq.trans (s_looksOver_fr (by decide)) (Eq.trans (u2_f (by decide)) (Eq.trans (u2_f (by decide)) (u2_f (by decide)))))).symm) (fun q => (Eq.trans (u2_f (by decide)) (u2_f (by decide)))) (fun q => (s_looksOver_fr (by decide))) hL), Nat.le_refl _, Nat.le_refl _⟩
            · refine ⟨_, hm_oi hx, aR (A 21), rfl, ?_⟩
              refine ⟨512, _, _, hm_a hx 21 rfl, by omega, trivial, hm_pi hx (i := (mj (μ 51 p.toNat) (μ 53 p.toNat))) (v := 2) rfl rfl rfl rfl, ?_⟩
              have hV199 := hV134.u (f := 21) (k := (mj (μ 51 p.toNat) (μ 53 p.toNat))) (v := 2) (show 0 ≤ 2 ∧ 2 ≤ 2 from by omega)
              refine ⟨⟨_, hm_oi hx⟩, _, _, _, _, (m_looksOver hF htr hx hV199 (s := (μ 51 p.toNat)) (i := (μ 53 p.toNat)) (by omega) (by omega) (by omega) (by omega)), Nat.le_refl _, Nat.le_refl _, mkis_ (r := none) (fun hV200 => ?_), fun _ _ q => q.elim⟩
              exact ⟨mRetVP (P := fun _ m => mLi m) (by first | exact (if_pos e4).trans ((if_neg e5).trans ((if_pos e132).trans ((if_neg e137).trans ((if_pos e175).trans (if_pos e196))))) | (unfold s_gone; rw [if_pos e4, if_neg e5, if_pos e132, if_neg e137, if_pos e175, if_pos e196])) hV200 (mLi_off (B := (u2 (u2 μ 0 0 (if (v_noPlace μ p) = 0 then 0 else 1)) 0 0 0)) (p := p.toNat) (by intro f hf k; simp only [List.elem_eq_mem, decide_eq_true_eq, List.mem_cons, List.not_mem_nil, or_false] at hf; rcases hf with rfl | rfl | rfl | rfl | rfl | rfl | rfl <;> first | exact ((Eq.trans (s_looksOver_fr (by decide)) (Eq.trans (u2_f (by decide)) (Eq.trans (u2_f (by decide)) (Eq.trans (u2_f (by decide)) (u2_f (by decide))))))).symm) (fun q => (Eq.trans (u2_f (by decide)) (u2_f (by decide)))) (fun q => (Eq.trans (s_looksOver_fr (by decide)) (u2_f (by decide)))) hL), Nat.le_refl _, Nat.le_refl _⟩
          · have e175n : ¬ ((μ 52 p.toNat) = 4) := by omega
            refine ⟨by omega, fun _ => ?_, fun (e : g = 0) => absurd e (by omega)⟩
            exact ⟨mRetVP (P := fun _ m => mLi m) (by first | exact (if_pos e4).trans ((if_neg e5).trans ((if_pos e132).trans ((if_neg e137).trans ((if_neg e175n).trans (if_pos e176))))) | (unfold s_gone; rw [if_pos e4, if_neg e5, if_pos e132, if_neg e137, if_neg e175n, if_pos e176])) hV134 (mLi_off (B := (u2 (u2 μ 0 0 (if (v_noPlace μ p) = 0 then 0 else 1)) 0 0 0)) (p := p.toNat) (by intro f hf k; simp only [List.elem_eq_mem, decide_eq_true_eq, List.mem_cons, List.not_mem_nil, or_false] at hf; rcases hf with rfl | rfl | rfl | rfl | rfl | rfl | rfl <;> first | exact ((Eq.trans (u2_f (by decide)) (Eq.trans (u2_f (by decide)) (u2_f (by decide))))).symm) (fun q => (Eq.trans (u2_f (by decide)) (u2_f (by decide)))) (fun q => rfl) hL), Nat.le_refl _, Nat.le_refl _⟩
          · exact absurd e177 (by omega)
          · exact absurd e178 (by omega)
          · have e175n : ¬ ((μ 52 p.toNat) = 4) := by omega
            have e176n : ¬ ((μ 52 p.toNat) = 5) := by omega
            refine ⟨⟨_, hm_oi hx⟩, _, _, _, _, (m_goneStream hF htr hx hV134 (s := (μ 51 p.toNat)) (p := p) (g := g) (by omega) (by omega) (by omega) (by omega) (by omega) (show (μ 53 p.toNat) < 256 from by omega) (show (μ 54 p.toNat) + (μ 56 p.toNat) ≤ mW μ (μ 51 p.toNat) (μ 53 p.toNat) from by omega)), Nat.le_refl _, Nat.le_refl _, mkis_ (r := none) (fun hV202 => ?_), fun _ _ q => q.elim⟩
            exact ⟨mRetVP (P := fun _ m => mLi m) (by first | exact (if_pos e4).trans ((if_neg e5).trans ((if_pos e132).trans ((if_neg e137).trans ((if_neg e175n).trans ((if_neg e176n).trans (if_pos e179)))))) | (unfold s_gone; rw [if_pos e4, if_neg e5, if_pos e132, if_neg e137, if_neg e175n, if_neg e176n, if_pos e179])) hV202 (mLi_off (B := (u2 (u2 μ 0 0 (if (v_noPlace μ p) = 0 then 0 else 1)) 0 0 0)) (p := p.toNat) (by intro f hf k; simp only [List.elem_eq_mem, decide_eq_true_eq, List.mem_cons, List.not_mem_nil, or_false] at hf; rcases hf with rfl | rfl | rfl | rfl | rfl | rfl | rfl <;> first | exact ((Eq.trans (s_goneStream_fr (by decide)) (Eq.trans (u2_f (by decide)) (Eq.trans (u2_f (by decide)) (u2_f (by decide)))))).symm) (fun q => (Eq.trans (u2_f (by decide)) (u2_f (by decide)))) (fun q => (s_goneStream_fr (by decide))) hL), Nat.le_refl _, Nat.le_refl _⟩
          · exact absurd e180 (by omega)
          · exact absurd e181 (by omega)
          · exact absurd e182 (by omega)
          · exact absurd e183 (by omega)
          · exact absurd e184 (by omega)
          · exact absurd e185 (by omega)
          · exact absurd e186 (by omega)
          · have e175n : ¬ ((μ 52 p.toNat) = 4) := by omega
            have e176n : ¬ ((μ 52 p.toNat) = 5) := by omega
            have e179n : ¬ ((μ 52 p.toNat) = 8) := by omega
            refine ⟨by omega, fun _ => ?_, fun (e : g = 0) => absurd e (by omega)⟩
            exact ⟨mRetVP (P := fun _ m => mLi m) (by first | exact (if_pos e4).trans ((if_neg e5).trans ((if_pos e132).trans ((if_neg e137).trans ((if_neg e175n).trans ((if_neg e176n).trans ((if_neg e179n).trans (if_pos e187))))))) | (unfold s_gone; rw [if_pos e4, if_neg e5, if_pos e132, if_neg e137, if_neg e175n, if_neg e176n, if_neg e179n, if_pos e187])) hV134 (mLi_off (B := (u2 (u2 μ 0 0 (if (v_noPlace μ p) = 0 then 0 else 1)) 0 0 0)) (p := p.toNat) (by intro f hf k; simp only [List.elem_eq_mem, decide_eq_true_eq, List.mem_cons, List.not_mem_nil, or_false] at hf; rcases hf with rfl | rfl | rfl | rfl | rfl | rfl | rfl <;> first | exact ((Eq.trans (u2_f (by decide)) (Eq.trans (u2_f (by decide)) (u2_f (by decide))))).symm) (fun q => (Eq.trans (u2_f (by decide)) (u2_f (by decide)))) (fun q => rfl) hL), Nat.le_refl _, Nat.le_refl _⟩
          · have e175n : ¬ ((μ 52 p.toNat) = 4) := by omega
            have e176n : ¬ ((μ 52 p.toNat) = 5) := by omega
            have e179n : ¬ ((μ 52 p.toNat) = 8) := by omega
            have e187n : ¬ ((μ 52 p.toNat) = 16) := by omega
            refine ⟨by omega, fun _ => ?_, fun (e : g = 0) => absurd e (by omega)⟩
            exact ⟨mRetVP (P := fun _ m => mLi m) (by first | exact (if_pos e4).trans ((if_neg e5).trans ((if_pos e132).trans ((if_neg e137).trans ((if_neg e175n).trans ((if_neg e176n).trans ((if_neg e179n).trans ((if_neg e187n).trans (if_pos e188)))))))) | (unfold s_gone; rw [if_pos e4, if_neg e5, if_pos e132, if_neg e137, if_neg e175n, if_neg e176n, if_neg e179n, if_neg e187n, if_pos e188])) hV134 (mLi_off (B := (u2 (u2 μ 0 0 (if (v_noPlace μ p) = 0 then 0 else 1)) 0 0 0)) (p := p.toNat) (by intro f hf k; simp only [List.elem_eq_mem, decide_eq_true_eq, List.mem_cons, List.not_mem_nil, or_false] at hf; rcases hf with rfl | rfl | rfl | rfl | rfl | rfl | rfl <;> first | exact ((Eq.trans (u2_f (by decide)) (Eq.trans (u2_f (by decide)) (u2_f (by decide))))).symm) (fun q => (Eq.trans (u2_f (by decide)) (u2_f (by decide)))) (fun q => rfl) hL), Nat.le_refl _, Nat.le_refl _⟩
          · have e175n : ¬ ((μ 52 p.toNat) = 4) := by omega
            have e176n : ¬ ((μ 52 p.toNat) = 5) := by omega
            have e179n : ¬ ((μ 52 p.toNat) = 8) := by omega
            have e187n : ¬ ((μ 52 p.toNat) = 16) := by omega
            have e188n : ¬ ((μ 52 p.toNat) = 17) := by omega
            refine ⟨_, hm_oi hx, aR (A 52), rfl, ?_⟩
            refine ⟨64, _, (μ 52 p.toNat), hm_a hx 52 rfl, by omega, (Eq.trans (u2_f (by decide)) (Eq.trans (u2_f (by decide)) (u2_f (by decide)))), ?_⟩
            refine ⟨by omega, fun _ => ?_, fun (e : g = 0) => absurd e (by omega)⟩
            refine mi_nl [(7, aI (((2 * (μ 51 p.toNat)) + (μ 52 p.toNat)) - 18)), (6, aI ((256 * (μ 51 p.toNat)) + (μ 53 p.toNat))), (4, aL (μ 53 p.toNat)), (3, aI (μ 51 p.toNat)), (0, aR (A 99)), (1, aI p), (2, aI g)] rfl ?_
            exact ⟨mRetVP (P := fun _ m => mLi m) (by first | exact (if_pos e4).trans ((if_neg e5).trans ((if_pos e132).trans ((if_neg e137).trans ((if_neg e175n).trans ((if_neg e176n).trans ((if_neg e179n).trans ((if_neg e187n).trans ((if_neg e188n).trans (if_pos e189))))))))) | (unfold s_gone; rw [if_pos e4, if_neg e5, if_pos e132, if_neg e137, if_neg e175n, if_neg e176n, if_neg e179n, if_neg e187n, if_neg e188n, if_pos e189])) hV134 (mLi_off (B := (u2 (u2 μ 0 0 (if (v_noPlace μ p) = 0 then 0 else 1)) 0 0 0)) (p := p.toNat) (by intro f hf k; simp only [List.elem_eq_mem, decide_eq_true_eq, List.mem_cons, List.not_mem_nil, or_false] at hf; rcases hf with rfl | rfl | rfl | rfl | rfl | rfl | rfl <;> first | exact ((Eq.trans (u2_f (by decide)) (Eq.trans (u2_f (by decide)) (u2_f (by decide))))).symm) (fun q => (Eq.trans (u2_f (by decide)) (u2_f (by decide)))) (fun q => rfl) hL), Nat.le_refl _, Nat.le_refl _⟩
          · have e175n : ¬ ((μ 52 p.toNat) = 4) := by omega
            have e176n : ¬ ((μ 52 p.toNat) = 5) := by omega
            have e179n : ¬ ((μ 52 p.toNat) = 8) := by omega
            have e187n : ¬ ((μ 52 p.toNat) = 16) := by omega
            have e188n : ¬ ((μ 52 p.toNat) = 17) := by omega
            have e189n : ¬ ((μ 52 p.toNat) = 18) := by omega
            refine ⟨_, hm_oi hx, aR (A 52), rfl, ?_⟩
            refine ⟨64, _, (μ 52 p.toNat), hm_a hx 52 rfl, by omega, (Eq.trans (u2_f (by decide)) (Eq.trans (u2_f (by decide)) (u2_f (by decide)))), ?_⟩
            refine ⟨by omega, fun _ => ?_, fun (e : g = 0) => absurd e (by omega)⟩
            refine mi_nl [(7, aI (((2 * (μ 51 p.toNat)) + (μ 52 p.toNat)) - 18)), (6, aI ((256 * (μ 51 p.toNat)) + (μ 53 p.toNat))), (4, aL (μ 53 p.toNat)), (3, aI (μ 51 p.toNat)), (0, aR (A 99)), (1, aI p), (2, aI g)] rfl ?_
            exact ⟨mRetVP (P := fun _ m => mLi m) (by first | exact (if_pos e4).trans ((if_neg e5).trans ((if_pos e132).trans ((if_neg e137).trans ((if_neg e175n).trans ((if_neg e176n).trans ((if_neg e179n).trans ((if_neg e187n).trans ((if_neg e188n).trans ((if_neg e189n).trans (if_pos e190)))))))))) | (unfold s_gone; rw [if_pos e4, if_neg e5, if_pos e132, if_neg e137, if_neg e175n, if_neg e176n, if_neg e179n, if_neg e187n, if_neg e188n, if_neg e189n, if_pos e190])) hV134 (mLi_off (B := (u2 (u2 μ 0 0 (if (v_noPlace μ p) = 0 then 0 else 1)) 0 0 0)) (p := p.toNat) (by intro f hf k; simp only [List.elem_eq_mem, decide_eq_true_eq, List.mem_cons, List.not_mem_nil, or_false] at hf; rcases hf with rfl | rfl | rfl | rfl | rfl | rfl | rfl <;> first | exact ((Eq.trans (u2_f (by decide)) (Eq.trans (u2_f (by decide)) (u2_f (by decide))))).symm) (fun q => (Eq.trans (u2_f (by decide)) (u2_f (by decide)))) (fun q => rfl) hL), Nat.le_refl _, Nat.le_refl _⟩
          · have e175n : ¬ ((μ 52 p.toNat) = 4) := by omega
            have e176n : ¬ ((μ 52 p.toNat) = 5) := by omega
            have e179n : ¬ ((μ 52 p.toNat) = 8) := by omega
            have e187n : ¬ ((μ 52 p.toNat) = 16) := by omega
            have e188n : ¬ ((μ 52 p.toNat) = 17) := by omega
            have e189n : ¬ ((μ 52 p.toNat) = 18) := by omega
            have e190n : ¬ ((μ 52 p.toNat) = 19) := by omega
            refine ⟨by omega, fun _ => ?_, fun (e : g = 0) => absurd e (by omega)⟩
            exact ⟨mRetVP (P := fun _ m => mLi m) (by first | exact (if_pos e4).trans ((if_neg e5).trans ((if_pos e132).trans ((if_neg e137).trans ((if_neg e175n).trans ((if_neg e176n).trans ((if_neg e179n).trans ((if_neg e187n).trans ((if_neg e188n).trans ((if_neg e189n).trans ((if_neg e190n).trans (if_pos e191))))))))))) | (unfold s_gone; rw [if_pos e4, if_neg e5, if_pos e132, if_neg e137, if_neg e175n, if_neg e176n, if_neg e179n, if_neg e187n, if_neg e188n, if_neg e189n, if_neg e190n, if_pos e191])) hV134 (mLi_off (B := (u2 (u2 μ 0 0 (if (v_noPlace μ p) = 0 then 0 else 1)) 0 0 0)) (p := p.toNat) (by intro f hf k; simp only [List.elem_eq_mem, decide_eq_true_eq, List.mem_cons, List.not_mem_nil, or_false] at hf; rcases hf with rfl | rfl | rfl | rfl | rfl | rfl | rfl <;> first | exact ((Eq.trans (u2_f (by decide)) (Eq.trans (u2_f (by decide)) (u2_f (by decide))))).symm) (fun q => (Eq.trans (u2_f (by decide)) (u2_f (by decide)))) (fun q => rfl) hL), Nat.le_refl _, Nat.le_refl _⟩
          · have e175n : ¬ ((μ 52 p.toNat) = 4) := by omega
            have e176n : ¬ ((μ 52 p.toNat) = 5) := by omega
            have e179n : ¬ ((μ 52 p.toNat) = 8) := by omega
            have e187n : ¬ ((μ 52 p.toNat) = 16) := by omega
            have e188n : ¬ ((μ 52 p.toNat) = 17) := by omega
            have e189n : ¬ ((μ 52 p.toNat) = 18) := by omega
            have e190n : ¬ ((μ 52 p.toNat) = 19) := by omega
            have e191n : ¬ ((μ 52 p.toNat) = 20) := by omega
            refine ⟨by omega, fun _ => ?_, fun (e : g = 0) => absurd e (by omega)⟩
            exact ⟨mRetVP (P := fun _ m => mLi m) (by first | exact (if_pos e4).trans ((if_neg e5).trans ((if_pos e132).trans ((if_neg e137).trans ((if_neg e175n).trans ((if_neg e176n).trans ((if_neg e179n).trans ((if_neg e187n).trans ((if_neg e188n).trans ((if_neg e189n).trans ((if_neg e190n).trans ((if_neg e191n).trans (if_pos e192)))))))))))) | (unfold s_gone; rw [if_pos e4, if_neg e5, if_pos e132, if_neg e137, if_neg e175n, if_neg e176n, if_neg e179n, if_neg e187n, if_neg e188n, if_neg e189n, if_neg e190n, if_neg e191n, if_pos e192])) hV134 (mLi_off (B := (u2 (u2 μ 0 0 (if (v_noPlace μ p) = 0 then 0 else 1)) 0 0 0)) (p := p.toNat) (by intro f hf k; simp only [List.elem_eq_mem, decide_eq_true_eq, List.mem_cons, List.not_mem_nil, or_false] at hf; rcases hf with rfl | rfl | rfl | rfl | rfl | rfl | rfl <;> first | exact ((Eq.trans (u2_f (by decide)) (Eq.trans (u2_f (by decide)) (u2_f (by decide))))).symm) (fun q => (Eq.trans (u2_f (by decide)) (u2_f (by decide)))) (fun q => rfl) hL), Nat.le_refl _, Nat.le_refl _⟩
          · have e175n : ¬ ((μ 52 p.toNat) = 4) := by omega
            have e176n : ¬ ((μ 52 p.toNat) = 5) := by omega
            have e179n : ¬ ((μ 52 p.toNat) = 8) := by omega
            have e187n : ¬ ((μ 52 p.toNat) = 16) := by omega
            have e188n : ¬ ((μ 52 p.toNat) = 17) := by omega
            have e189n : ¬ ((μ 52 p.toNat) = 18) := by omega
            have e190n : ¬ ((μ 52 p.toNat) = 19) := by omega
            have e191n : ¬ ((μ 52 p.toNat) = 20) := by omega
            have e192n : ¬ ((μ 52 p.toNat) = 21) := by omega
            refine ⟨_, hm_oi hx, aR (A 52), rfl, ?_⟩
            refine ⟨64, _, (μ 52 p.toNat), hm_a hx 52 rfl, by omega, (Eq.trans (u2_f (by decide)) (Eq.trans (u2_f (by decide)) (u2_f (by decide)))), ?_⟩
            refine ⟨by omega, fun _ => ?_, fun (e : g = 0) => absurd e (by omega)⟩
            refine mi_nl [(8, aI ((((3 * (μ 51 p.toNat)) + 1) + (μ 52 p.toNat)) - 22)), (6, aI ((256 * (μ 51 p.toNat)) + (μ 53 p.toNat))), (4, aL (μ 53 p.toNat)), (3, aI (μ 51 p.toNat)), (0, aR (A 99)), (1, aI p), (2, aI g)] rfl ?_
            exact ⟨mRetVP (P := fun _ m => mLi m) (by first | exact (if_pos e4).trans ((if_neg e5).trans ((if_pos e132).trans ((if_neg e137).trans ((if_neg e175n).trans ((if_neg e176n).trans ((if_neg e179n).trans ((if_neg e187n).trans ((if_neg e188n).trans ((if_neg e189n).trans ((if_neg e190n).trans ((if_neg e191n).trans (if_neg e192n)))))))))))) | (unfold s_gone; rw [if_pos e4, if_neg e5, if_pos e132, if_neg e137, if_neg e175n, if_neg e176n, if_neg e179n, if_neg e187n, if_neg e188n, if_neg e189n, if_neg e190n, if_neg e191n, if_neg e192n])) hV134 (mLi_off (B := (u2 (u2 μ 0 0 (if (v_noPlace μ p) = 0 then 0 else 1)) 0 0 0)) (p := p.toNat) (by intro f hf k; simp only [List.elem_eq_mem, decide_eq_true_eq, List.mem_cons, List.not_mem_nil, or_false] at hf; rcases hf with rfl | rfl | rfl | rfl | rfl | rfl | rfl <;> first | exact ((Eq.trans (u2_f (by decide)) (Eq.trans (u2_f (by decide)) (u2_f (by decide))))).symm) (fun q => (Eq.trans (u2_f (by decide)) (u2_f (by decide)))) (fun q => rfl) hL), Nat.le_refl _, Nat.le_refl _⟩
      · refine ⟨⟨_, hm_oi hx⟩, _, _, _, _, (m_fails1 hF htr hx (c := 2)), Nat.le_refl _, Nat.le_refl _, mki_ (r := some (aI 1)) ?_, fun _ _ q => q.elim⟩
        have hV210 := hV3.u (f := 0) (k := 0) (v := 2) (show 0 ≤ 2 ∧ 2 ≤ 2 from by omega)
        refine ⟨by omega, fun (e : (1 : Int) = 0) => absurd e (by decide), fun _ => ?_⟩
        exact ⟨mRetVP (P := fun _ m => mLi m) (by first | exact (if_pos e4).trans ((if_neg e5).trans (if_neg e132)) | (unfold s_gone; rw [if_pos e4, if_neg e5, if_neg e132])) hV210 (mLi_cg (by intro f hf k; simp only [List.elem_eq_mem, decide_eq_true_eq, List.mem_cons, List.not_mem_nil, or_false] at hf; rcases hf with rfl | rfl | rfl | rfl | rfl | rfl | rfl | rfl <;> first | exact ((Eq.trans (u2_f (by decide)) (u2_f (by decide)))).symm) hL), Nat.le_refl _, Nat.le_refl _⟩
set_option maxRecDepth 100000 in
theorem s_gone_fr {f kk : Nat} {p g : Int} (hf : [0, 10, 12, 13, 14, 20, 21, 22, 24, 31, 33, 35, 39, 58].elem f = false) : s_gone μ p g f kk = μ f kk := by
  have n0 : f ≠ 0 := by rintro rfl; exact absurd hf (by decide)
  have n10 : f ≠ 10 := by rintro rfl; exact absurd hf (by decide)
  have n12 : f ≠ 12 := by rintro rfl; exact absurd hf (by decide)
  have n13 : f ≠ 13 := by rintro rfl; exact absurd hf (by decide)
  have n14 : f ≠ 14 := by rintro rfl; exact absurd hf (by decide)
  have n20 : f ≠ 20 := by rintro rfl; exact absurd hf (by decide)
  have n21 : f ≠ 21 := by rintro rfl; exact absurd hf (by decide)
  have n22 : f ≠ 22 := by rintro rfl; exact absurd hf (by decide)
  have n24 : f ≠ 24 := by rintro rfl; exact absurd hf (by decide)
  have n31 : f ≠ 31 := by rintro rfl; exact absurd hf (by decide)
  have n33 : f ≠ 33 := by rintro rfl; exact absurd hf (by decide)
  have n35 : f ≠ 35 := by rintro rfl; exact absurd hf (by decide)
  have n39 : f ≠ 39 := by rintro rfl; exact absurd hf (by decide)
  have n58 : f ≠ 58 := by rintro rfl; exact absurd hf (by decide)
  have f0 : ∀ (m : Nat → Nat → Int) (a b : Nat) (v : Int), u2 m 0 a v f b = m f b := fun m a b v => u2_f n0
  have f10 : ∀ (m : Nat → Nat → Int) (a b : Nat) (v : Int), u2 m 10 a v f b = m f b := fun m a b v => u2_f n10
  have f12 : ∀ (m : Nat → Nat → Int) (a b : Nat) (v : Int), u2 m 12 a v f b = m f b := fun m a b v => u2_f n12
  have f13 : ∀ (m : Nat → Nat → Int) (a b : Nat) (v : Int), u2 m 13 a v f b = m f b := fun m a b v => u2_f n13
  have f14 : ∀ (m : Nat → Nat → Int) (a b : Nat) (v : Int), u2 m 14 a v f b = m f b := fun m a b v => u2_f n14
  have f20 : ∀ (m : Nat → Nat → Int) (a b : Nat) (v : Int), u2 m 20 a v f b = m f b := fun m a b v => u2_f n20
  have f21 : ∀ (m : Nat → Nat → Int) (a b : Nat) (v : Int), u2 m 21 a v f b = m f b := fun m a b v => u2_f n21
  have f22 : ∀ (m : Nat → Nat → Int) (a b : Nat) (v : Int), u2 m 22 a v f b = m f b := fun m a b v => u2_f n22
  have f24 : ∀ (m : Nat → Nat → Int) (a b : Nat) (v : Int), u2 m 24 a v f b = m f b := fun m a b v => u2_f n24
  have f31 : ∀ (m : Nat → Nat → Int) (a b : Nat) (v : Int), u2 m 31 a v f b = m f b := fun m a b v => u2_f n31
  have f33 : ∀ (m : Nat → Nat → Int) (a b : Nat) (v : Int), u2 m 33 a v f b = m f b := fun m a b v => u2_f n33
  have f35 : ∀ (m : Nat → Nat → Int) (a b : Nat) (v : Int), u2 m 35 a v f b = m f b := fun m a b v => u2_f n35
  have f39 : ∀ (m : Nat → Nat → Int) (a b : Nat) (v : Int), u2 m 39 a v f b = m f b := fun m a b v => u2_f n39
  have f58 : ∀ (m : Nat → Nat → Int) (a b : Nat) (v : Int), u2 m 58 a v f b = m f b := fun m a b v => u2_f n58
  have c_goneStream : ∀ (m : Nat → Nat → Int) (z_s z_p z_g : Int) (k : Nat), s_goneStream m z_s z_p z_g f k = m f k := by intros; exact s_goneStream_fr (by simp only [List.elem_cons, List.elem_nil, beq_eq_false_iff_ne.mpr n10, beq_eq_false_iff_ne.mpr n13, beq_eq_false_iff_ne.mpr n20, beq_eq_false_iff_ne.mpr n35, beq_eq_false_iff_ne.mpr n39]; try rfl)
  have c_looksOver : ∀ (m : Nat → Nat → Int) (z_s z_i : Int) (k : Nat), s_looksOver m z_s z_i f k = m f k := by intros; exact s_looksOver_fr (by simp only [List.elem_cons, List.elem_nil, beq_eq_false_iff_ne.mpr n10, beq_eq_false_iff_ne.mpr n13, beq_eq_false_iff_ne.mpr n35]; try rfl)
  unfold s_gone
  repeat' with_reducible apply f_ite
  all_goals first | rfl | simp only [f0, f10, f12, f13, f14, f20, f21, f22, f24, f31, f33, f35, f39, f58, c_goneStream, c_looksOver]
end MR14
