section MR13
variable {L : Launch} {G : mmG} {A : Nat → Nat} {ax : Nat → Option Nat} {h0 : mmH} {μ ν : Nat → Nat → Int}
def v_takes (μ : Nat → Nat → Int) (s : Int) : Int := (if (μ 45 0) = 8 then (v_takeStream μ s) else (if (μ 45 0) = 4 then (v_takeReset μ s) else (if (μ 45 0) = 5 then (v_takeOther μ s) else (if (μ 45 0) = 17 then (v_takeOther μ s) else (if (μ 45 0) = 21 then (v_takeOther μ s) else (if (μ 45 0) = 16 then 0 else (if (μ 45 0) = 18 then (if 64 ≤ (μ 46 0) then 0 else 0) else (if (μ 45 0) = 19 then (if 64 ≤ (μ 46 0) then 0 else 0) else 0))))))))
def s_takes (μ : Nat → Nat → Int) (s : Int) : Nat → Nat → Int := (if (μ 45 0) = 8 then (s_takeStream μ s) else (if (μ 45 0) = 4 then (s_takeReset μ s) else (if (μ 45 0) = 5 then (s_takeOther μ s) else (if (μ 45 0) = 17 then (s_takeOther μ s) else (if (μ 45 0) = 21 then (s_takeOther μ s) else (if (μ 45 0) = 16 then (u2 μ 7 (3 * s).toNat (if (μ 46 0) < (μ 7 (3 * s).toNat) then (μ 7 (3 * s).toNat) else (μ 46 0))) else (if (μ 45 0) = 18 then (if 64 ≤ (μ 46 0) then (u2 μ 7 (((3 * s) + (μ 45 0)) - 17).toNat (if 64 < (μ 7 (((3 * s) + (μ 45 0)) - 17).toNat) then (μ 7 (((3 * s) + (μ 45 0)) - 17).toNat) else 64)) else (u2 μ 7 (((3 * s) + (μ 45 0)) - 17).toNat (if (μ 46 0) < (μ 7 (((3 * s) + (μ 45 0)) - 17).toNat) then (μ 7 (((3 * s) + (μ 45 0)) - 17).toNat) else (μ 46 0)))) else (if (μ 45 0) = 19 then (if 64 ≤ (μ 46 0) then (u2 μ 7 (((3 * s) + (μ 45 0)) - 17).toNat (if 64 < (μ 7 (((3 * s) + (μ 45 0)) - 17).toNat) then (μ 7 (((3 * s) + (μ 45 0)) - 17).toNat) else 64)) else (u2 μ 7 (((3 * s) + (μ 45 0)) - 17).toNat (if (μ 46 0) < (μ 7 (((3 * s) + (μ 45 0)) - 17).toNat) then (μ 7 (((3 * s) + (μ 45 0)) - 17).toNat) else (μ 46 0)))) else μ))))))))
set_option maxRecDepth 100000 in
theorem m_takes (hF : mm_F G) (htr : L.stackTraces = false) (hx : mx A ax) (hV : mV μ) {s : Int} (h1 : 0 ≤ s) (h2 : s ≤ 1) (hP : mP2 μ) :
    mm_Met L G SX6_takes [.ref (A 99), .int (iI s)] (hm G A ax h0 μ) 0 0 (mRetS (some (.int (iI (v_takes μ s)))) (hm G A ax h0 (s_takes μ s)) (mV (s_takes μ s) ∧ (fun r m => (0 ≤ r ∧ r ≤ 6) ∧ mP2 m) (v_takes μ s) (s_takes μ s))) mm_no := by
  refine mi_meth MX6_takes 400 hF htr okX6_takes (av := [aR (A 99), aI s]) (by decide +kernel) (Nat.le_of_ble_eq_true rfl) cmX6_takes (fun θ hc => ?_)
  refine ⟨_, hm_oi hx, aI (μ 45 0), rfl, ?_⟩
  have t1 := (show 0 ≤ μ 45 0 ∧ μ 45 0 ≤ 23 from hV.g 45 0)
  refine ⟨by omega, fun (e2 : ¬ ((μ 45 0) = 8)) => ?_, fun (e2 : (μ 45 0) = 8) => ?_⟩
  · refine ⟨_, hm_oi hx, aI (μ 45 0), rfl, ?_⟩
    refine ⟨by omega, fun (e3 : ¬ ((μ 45 0) = 4)) => ?_, fun (e3 : (μ 45 0) = 4) => ?_⟩
    · refine ⟨_, hm_oi hx, aI (μ 45 0), rfl, ?_⟩
      refine ⟨by omega, fun (e4 : (μ 45 0) = 5) => ?_, fun (e4 : ¬ ((μ 45 0) = 5)) => ?_⟩
      · refine ⟨⟨_, hm_oi hx⟩, _, _, _, _, (m_takeOther hF htr hx hV (s := s) (by omega) (by omega) hP), Nat.le_refl _, Nat.le_refl _, mkis_ (r := some (aI (v_takeOther μ s))) (fun ⟨hV5, hp6⟩ => ?_), fun _ _ q => q.elim⟩
        have hp6 : (0 ≤ (v_takeOther μ s) ∧ (v_takeOther μ s) ≤ 6) ∧ mP2 (s_takeOther μ s) := hp6
        exact ⟨mRetIP (P := fun r m => (0 ≤ r ∧ r ≤ 6) ∧ mP2 m) (by first | exact (if_neg e2).trans ((if_neg e3).trans (if_pos e4)) | (unfold v_takes; rw [if_neg e2, if_neg e3, if_pos e4])) (by first | exact (if_neg e2).trans ((if_neg e3).trans (if_pos e4)) | (unfold s_takes; rw [if_neg e2, if_neg e3, if_pos e4])) hV5 ⟨by omega, hp6.2⟩, Nat.le_refl _, Nat.le_refl _⟩
      · refine ⟨_, hm_oi hx, aI (μ 45 0), rfl, ?_⟩
        refine ⟨by omega, fun (e7 : (μ 45 0) = 17) => ?_, fun (e7 : ¬ ((μ 45 0) = 17)) => ?_⟩
        · refine ⟨⟨_, hm_oi hx⟩, _, _, _, _, (m_takeOther hF htr hx hV (s := s) (by omega) (by omega) hP), Nat.le_refl _, Nat.le_refl _, mkis_ (r := some (aI (v_takeOther μ s))) (fun ⟨hV8, hp9⟩ => ?_), fun _ _ q => q.elim⟩
          have hp9 : (0 ≤ (v_takeOther μ s) ∧ (v_takeOther μ s) ≤ 6) ∧ mP2 (s_takeOther μ s) := hp9
          exact ⟨mRetIP (P := fun r m => (0 ≤ r ∧ r ≤ 6) ∧ mP2 m) (by first | exact (if_neg e2).trans ((if_neg e3).trans ((if_neg e4).trans (if_pos e7))) | (unfold v_takes; rw [if_neg e2, if_neg e3, if_neg e4, if_pos e7])) (by first | exact (if_neg e2).trans ((if_neg e3).trans ((if_neg e4).trans (if_pos e7))) | (unfold s_takes; rw [if_neg e2, if_neg e3, if_neg e4, if_pos e7])) hV8 ⟨by omega, hp9.2⟩, Nat.le_refl _, Nat.le_refl _⟩
        · refine ⟨_, hm_oi hx, aI (μ 45 0), rfl, ?_⟩
          refine ⟨by omega, fun (e10 : ¬ ((μ 45 0) = 21)) => ?_, fun (e10 : (μ 45 0) = 21) => ?_⟩
          · refine ⟨_, hm_oi hx, aI (μ 45 0), rfl, ?_⟩
            refine ⟨by omega, fun (e11 : ¬ ((μ 45 0) = 16)) => ?_, fun (e11 : (μ 45 0) = 16) => ?_⟩
            · refine ⟨_, hm_oi hx, aI (μ 45 0), rfl, ?_⟩
              refine ⟨by omega, fun (e12 : (μ 45 0) = 18) => ?_, fun (e12 : ¬ ((μ 45 0) = 18)) => ?_⟩
              · refine ⟨_, hm_oi hx, aI (μ 45 0), rfl, ?_⟩
                refine ⟨_, hm_oi hx, aR (A 7), rfl, ?_⟩
                refine mi_nl [(2, aI (((3 * s) + (μ 45 0)) - 17)), (0, aR (A 99)), (1, aI s)] rfl ?_
                refine ⟨_, hm_oi hx, aR (A 7), rfl, ?_⟩
                refine ⟨6, _, (μ 7 (((3 * s) + (μ 45 0)) - 17).toNat), hm_a hx 7 rfl, by omega, rfl, ?_⟩
                have t13 := (show 0 ≤ μ 7 (((3 * s) + (μ 45 0)) - 17).toNat ∧ μ 7 (((3 * s) + (μ 45 0)) - 17).toNat ≤ 4611686018427387903 from hV.g 7 (((3 * s) + (μ 45 0)) - 17).toNat)
                refine ⟨_, hm_oi hx, aL (μ 46 0), rfl, ?_⟩
                have t14 := (show 0 ≤ μ 46 0 ∧ μ 46 0 ≤ 4611686018427387903 from hV.g 46 0)
                refine ⟨64, rfl, ?_⟩
                refine ⟨by omega, fun (e15 : 64 ≤ (μ 46 0)) => ?_, fun (e15 : ¬ (64 ≤ (μ 46 0))) => ?_⟩
                · refine ⟨64, rfl, ?_⟩
                  refine ⟨_, _, _, _, (m_greater hF htr (a := (μ 7 (((3 * s) + (μ 45 0)) - 17).toNat)) (b := 64) (by omega) (by omega) (by omega) (by omega)), Nat.le_refl _, Nat.le_refl _, mki_ (r := some (aL (if 64 < (μ 7 (((3 * s) + (μ 45 0)) - 17).toNat) then (μ 7 (((3 * s) + (μ 45 0)) - 17).toNat) else 64))) ?_, fun _ _ q => q.elim⟩
                  refine ⟨6, _, _, hm_a hx 7 rfl, by omega, hm_pl hx (i := (((3 * s) + (μ 45 0)) - 17).toNat) (v := (if 64 < (μ 7 (((3 * s) + (μ 45 0)) - 17).toNat) then (μ 7 (((3 * s) + (μ 45 0)) - 17).toNat) else 64)) rfl rfl rfl, ?_⟩
                  have hV16 := hV.u (f := 7) (k := (((3 * s) + (μ 45 0)) - 17).toNat) (v := (if 64 < (μ 7 (((3 * s) + (μ 45 0)) - 17).toNat) then (μ 7 (((3 * s) + (μ 45 0)) - 17).toNat) else 64)) (show 0 ≤ (if 64 < (μ 7 (((3 * s) + (μ 45 0)) - 17).toNat) then (μ 7 (((3 * s) + (μ 45 0)) - 17).toNat) else 64) ∧ (if 64 < (μ 7 (((3 * s) + (μ 45 0)) - 17).toNat) then (μ 7 (((3 * s) + (μ 45 0)) - 17).toNat) else 64) ≤ 4611686018427387903 from by omega)
                  exact ⟨mRetIP (P := fun r m => (0 ≤ r ∧ r ≤ 6) ∧ mP2 m) (by first | exact (if_neg e2).trans ((if_neg e3).trans ((if_neg e4).trans ((if_neg e7).trans ((if_neg e10).trans ((if_neg e11).trans ((if_pos e12).trans (if_pos e15))))))) | (unfold v_takes; rw [if_neg e2, if_neg e3, if_neg e4, if_neg e7, if_neg e10, if_neg e11, if_pos e12, if_pos e15])) (by first | exact (if_neg e2).trans ((if_neg e3).trans ((if_neg e4).trans ((if_neg e7).trans ((if_neg e10).trans ((if_neg e11).trans ((if_pos e12).trans (if_pos e15))))))) | (unfold s_takes; rw [if_neg e2, if_neg e3, if_neg e4, if_neg e7, if_neg e10, if_neg e11, if_pos e12, if_pos e15])) hV16 ⟨by omega, (mP2_u (by decide) hP)⟩, Nat.le_refl _, Nat.le_refl _⟩
                · refine ⟨_, hm_oi hx, aL (μ 46 0), rfl, ?_⟩
                  refine ⟨_, _, _, _, (m_greater hF htr (a := (μ 7 (((3 * s) + (μ 45 0)) - 17).toNat)) (b := (μ 46 0)) (by omega) (by omega) (by omega) (by omega)), Nat.le_refl _, Nat.le_refl _, mki_ (r := some (aL (if (μ 46 0) < (μ 7 (((3 * s) + (μ 45 0)) - 17).toNat) then (μ 7 (((3 * s) + (μ 45 0)) - 17).toNat) else (μ 46 0)))) ?_, fun _ _ q => q.elim⟩
                  refine ⟨6, _, _, hm_a hx 7 rfl, by omega, hm_pl hx (i := (((3 * s) + (μ 45 0)) - 17).toNat) (v := (if (μ 46 0) < (μ 7 (((3 * s) + (μ 45 0)) - 17).toNat) then (μ 7 (((3 * s) + (μ 45 0)) - 17).toNat) else (μ 46 0))) rfl rfl rfl, ?_⟩
                  have hV17 := hV.u (f := 7) (k := (((3 * s) + (μ 45 0)) - 17).toNat) (v := (if (μ 46 0) < (μ 7 (((3 * s) + (μ 45 0)) - 17).toNat) then (μ 7 (((3 * s) + (μ 45 0)) - 17).toNat) else (μ 46 0))) (show 0 ≤ (if (μ 46 0) < (μ 7 (((3 * s) + (μ 45 0)) - 17).toNat) then (μ 7 (((3 * s) + (μ 45 0)) - 17).toNat) else (μ 46 0)) ∧ (if (μ 46 0) < (μ 7 (((3 * s) + (μ 45 0)) - 17).toNat) then (μ 7 (((3 * s) + (μ 45 0)) - 17).toNat) else (μ 46 0)) ≤ 4611686018427387903 from by omega)
                  exact ⟨mRetIP (P := fun r m => (0 ≤ r ∧ r ≤ 6) ∧ mP2 m) (by first | exact (if_neg e2).trans ((if_neg e3).trans ((if_neg e4).trans ((if_neg e7).trans ((if_neg e10).trans ((if_neg e11).trans ((if_pos e12).trans (if_neg e15))))))) | (unfold v_takes; rw [if_neg e2, if_neg e3, if_neg e4, if_neg e7, if_neg e10, if_neg e11, if_pos e12, if_neg e15])) (by first | exact (if_neg e2).trans ((if_neg e3).trans ((if_neg e4).trans ((if_neg e7).trans ((if_neg e10).trans ((if_neg e11).trans ((if_pos e12).trans (if_neg e15))))))) | (unfold s_takes; rw [if_neg e2, if_neg e3, if_neg e4, if_neg e7, if_neg e10, if_neg e11, if_pos e12, if_neg e15])) hV17 ⟨by omega, (mP2_u (by decide) hP)⟩, Nat.le_refl _, Nat.le_refl _⟩
              · refine ⟨_, hm_oi hx, aI (μ 45 0), rfl, ?_⟩
                refine ⟨by omega, fun (e18 : ¬ ((μ 45 0) = 19)) => ?_, fun (e18 : (μ 45 0) = 19) => ?_⟩
                · exact ⟨mRetIP (P := fun r m => (0 ≤ r ∧ r ≤ 6) ∧ mP2 m) (by first | exact (if_neg e2).trans ((if_neg e3).trans ((if_neg e4).trans ((if_neg e7).trans ((if_neg e10).trans ((if_neg e11).trans ((if_neg e12).trans (if_neg e18))))))) | (unfold v_takes; rw [if_neg e2, if_neg e3, if_neg e4, if_neg e7, if_neg e10, if_neg e11, if_neg e12, if_neg e18])) (by first | exact (if_neg e2).trans ((if_neg e3).trans ((if_neg e4).trans ((if_neg e7).trans ((if_neg e10).trans ((if_neg e11).trans ((if_neg e12).trans (if_neg e18))))))) | (unfold s_takes; rw [if_neg e2, if_neg e3, if_neg e4, if_neg e7, if_neg e10, if_neg e11, if_neg e12, if_neg e18])) hV ⟨by omega, hP⟩, Nat.le_refl _, Nat.le_refl _⟩
                · refine ⟨_, hm_oi hx, aI (μ 45 0), rfl, ?_⟩
                  refine ⟨_, hm_oi hx, aR (A 7), rfl, ?_⟩
                  refine mi_nl [(2, aI (((3 * s) + (μ 45 0)) - 17)), (0, aR (A 99)), (1, aI s)] rfl ?_
                  refine ⟨_, hm_oi hx, aR (A 7), rfl, ?_⟩
                  refine ⟨6, _, (μ 7 (((3 * s) + (μ 45 0)) - 17).toNat), hm_a hx 7 rfl, by omega, rfl, ?_⟩
                  have t19 := (show 0 ≤ μ 7 (((3 * s) + (μ 45 0)) - 17).toNat ∧ μ 7 (((3 * s) + (μ 45 0)) - 17).toNat ≤ 4611686018427387903 from hV.g 7 (((3 * s) + (μ 45 0)) - 17).toNat)
                  refine ⟨_, hm_oi hx, aL (μ 46 0), rfl, ?_⟩
                  have t20 := (show 0 ≤ μ 46 0 ∧ μ 46 0 ≤ 4611686018427387903 from hV.g 46 0)
                  refine ⟨64, rfl, ?_⟩
                  refine ⟨by omega, fun (e21 : 64 ≤ (μ 46 0)) => ?_, fun (e21 : ¬ (64 ≤ (μ 46 0))) => ?_⟩
                  · refine ⟨64, rfl, ?_⟩
                    refine ⟨_, _, _, _, (m_greater hF htr (a := (μ 7 (((3 * s) + (μ 45 0)) - 17).toNat)) (b := 64) (by omega) (by omega) (by omega) (by omega)), Nat.le_refl _, Nat.le_refl _, mki_ (r := some (aL (if 64 < (μ 7 (((3 * s) + (μ 45 0)) - 17).toNat) then (μ 7 (((3 * s) + (μ 45 0)) - 17).toNat) else 64))) ?_, fun _ _ q => q.elim⟩
                    refine ⟨6, _, _, hm_a hx 7 rfl, by omega, hm_pl hx (i := (((3 * s) + (μ 45 0)) - 17).toNat) (v := (if 64 < (μ 7 (((3 * s) + (μ 45 0)) - 17).toNat) then (μ 7 (((3 * s) + (μ 45 0)) - 17).toNat) else 64)) rfl rfl rfl, ?_⟩
                    have hV22 := hV.u (f := 7) (k := (((3 * s) + (μ 45 0)) - 17).toNat) (v := (if 64 < (μ 7 (((3 * s) + (μ 45 0)) - 17).toNat) then (μ 7 (((3 * s) + (μ 45 0)) - 17).toNat) else 64)) (show 0 ≤ (if 64 < (μ 7 (((3 * s) + (μ 45 0)) - 17).toNat) then (μ 7 (((3 * s) + (μ 45 0)) - 17).toNat) else 64) ∧ (if 64 < (μ 7 (((3 * s) + (μ 45 0)) - 17).toNat) then (μ 7 (((3 * s) + (μ 45 0)) - 17).toNat) else 64) ≤ 4611686018427387903 from by omega)
                    exact ⟨mRetIP (P := fun r m => (0 ≤ r ∧ r ≤ 6) ∧ mP2 m) (by first | exact (if_neg e2).trans ((if_neg e3).trans ((if_neg e4).trans ((if_neg e7).trans ((if_neg e10).trans ((if_neg e11).trans ((if_neg e12).trans ((if_pos e18).trans (if_pos e21)))))))) | (unfold v_takes; rw [if_neg e2, if_neg e3, if_neg e4, if_neg e7, if_neg e10, if_neg e11, if_neg e12, if_pos e18, if_pos e21])) (by first | exact (if_neg e2).trans ((if_neg e3).trans ((if_neg e4).trans ((if_neg e7).trans ((if_neg e10).trans ((if_neg e11).trans ((if_neg e12).trans ((if_pos e18).trans (if_pos e21)))))))) | (unfold s_takes; rw [if_neg e2, if_neg e3, if_neg e4, if_neg e7, if_neg e10, if_neg e11, if_neg e12, if_pos e18, if_pos e21])) hV22 ⟨by omega, (mP2_u (by decide) hP)⟩, Nat.le_refl _, Nat.le_refl _⟩
                  · refine ⟨_, hm_oi hx, aL (μ 46 0), rfl, ?_⟩
                    refine ⟨_, _, _, _, (m_greater hF htr (a := (μ 7 (((3 * s) + (μ 45 0)) - 17).toNat)) (b := (μ 46 0)) (by omega) (by omega) (by omega) (by omega)), Nat.le_refl _, Nat.le_refl _, mki_ (r := some (aL (if (μ 46 0) < (μ 7 (((3 * s) + (μ 45 0)) - 17).toNat) then (μ 7 (((3 * s) + (μ 45 0)) - 17).toNat) else (μ 46 0)))) ?_, fun _ _ q => q.elim⟩
                    refine ⟨6, _, _, hm_a hx 7 rfl, by omega, hm_pl hx (i := (((3 * s) + (μ 45 0)) - 17).toNat) (v := (if (μ 46 0) < (μ 7 (((3 * s) + (μ 45 0)) - 17).toNat) then (μ 7 (((3 * s) + (μ 45 0)) - 17).toNat) else (μ 46 0))) rfl rfl rfl, ?_⟩
                    have hV23 := hV.u (f := 7) (k := (((3 * s) + (μ 45 0)) - 17).toNat) (v := (if (μ 46 0) < (μ 7 (((3 * s) + (μ 45 0)) - 17).toNat) then (μ 7 (((3 * s) + (μ 45 0)) - 17).toNat) else (μ 46 0))) (show 0 ≤ (if (μ 46 0) < (μ 7 (((3 * s) + (μ 45 0)) - 17).toNat) then (μ 7 (((3 * s) + (μ 45 0)) - 17).toNat) else (μ 46 0)) ∧ (if (μ 46 0) < (μ 7 (((3 * s) + (μ 45 0)) - 17).toNat) then (μ 7 (((3 * s) + (μ 45 0)) - 17).toNat) else (μ 46 0)) ≤ 4611686018427387903 from by omega)
                    exact ⟨mRetIP (P := fun r m => (0 ≤ r ∧ r ≤ 6) ∧ mP2 m) (by first | exact (if_neg e2).trans ((if_neg e3).trans ((if_neg e4).trans ((if_neg e7).trans ((if_neg e10).trans ((if_neg e11).trans ((if_neg e12).trans ((if_pos e18).trans (if_neg e21)))))))) | (unfold v_takes; rw [if_neg e2, if_neg e3, if_neg e4, if_neg e7, if_neg e10, if_neg e11, if_neg e12, if_pos e18, if_neg e21])) (by first | exact (if_neg e2).trans ((if_neg e3).trans ((if_neg e4).trans ((if_neg e7).trans ((if_neg e10).trans ((if_neg e11).trans ((if_neg e12).trans ((if_pos e18).trans (if_neg e21)))))))) | (unfold s_takes; rw [if_neg e2, if_neg e3, if_neg e4, if_neg e7, if_neg e10, if_neg e11, if_neg e12, if_pos e18, if_neg e21])) hV23 ⟨by omega, (mP2_u (by decide) hP)⟩, Nat.le_refl _, Nat.le_refl _⟩
            · refine ⟨_, hm_oi hx, aR (A 7), rfl, ?_⟩
              refine ⟨_, hm_oi hx, aR (A 7), rfl, ?_⟩
              refine ⟨6, _, (μ 7 (3 * s).toNat), hm_a hx 7 rfl, by omega, rfl, ?_⟩
              have t24 := (show 0 ≤ μ 7 (3 * s).toNat ∧ μ 7 (3 * s).toNat ≤ 4611686018427387903 from hV.g 7 (3 * s).toNat)
              refine ⟨_, hm_oi hx, aL (μ 46 0), rfl, ?_⟩
              have t25 := (show 0 ≤ μ 46 0 ∧ μ 46 0 ≤ 4611686018427387903 from hV.g 46 0)
              refine ⟨_, _, _, _, (m_greater hF htr (a := (μ 7 (3 * s).toNat)) (b := (μ 46 0)) (by omega) (by omega) (by omega) (by omega)), Nat.le_refl _, Nat.le_refl _, mki_ (r := some (aL (if (μ 46 0) < (μ 7 (3 * s).toNat) then (μ 7 (3 * s).toNat) else (μ 46 0)))) ?_, fun _ _ q => q.elim⟩
              refine ⟨6, _, _, hm_a hx 7 rfl, by omega, hm_pl hx (i := (3 * s).toNat) (v := (if (μ 46 0) < (μ 7 (3 * s).toNat) then (μ 7 (3 * s).toNat) else (μ 46 0))) rfl rfl rfl, ?_⟩
              have hV26 := hV.u (f := 7) (k := (3 * s).toNat) (v := (if (μ 46 0) < (μ 7 (3 * s).toNat) then (μ 7 (3 * s).toNat) else (μ 46 0))) (show 0 ≤ (if (μ 46 0) < (μ 7 (3 * s).toNat) then (μ 7 (3 * s).toNat) else (μ 46 0)) ∧ (if (μ 46 0) < (μ 7 (3 * s).toNat) then (μ 7 (3 * s).toNat) else (μ 46 0)) ≤ 4611686018427387903 from by omega)
              refine ⟨_, hm_oi hx, aI (μ 45 0), rfl, ?_⟩
              refine ⟨by omega, fun (e : (μ 45 0) = 18) => absurd e (by omega), fun _ => ?_⟩
              refine ⟨_, hm_oi hx, aI (μ 45 0), rfl, ?_⟩
              refine ⟨by omega, fun _ => ?_, fun (e : (μ 45 0) = 19) => absurd e (by omega)⟩
              exact ⟨mRetIP (P := fun r m => (0 ≤ r ∧ r ≤ 6) ∧ mP2 m) (by first | exact (if_neg e2).trans ((if_neg e3).trans ((if_neg e4).trans ((if_neg e7).trans ((if_neg e10).trans (if_pos e11))))) | (unfold v_takes; rw [if_neg e2, if_neg e3, if_neg e4, if_neg e7, if_neg e10, if_pos e11])) (by first | exact (if_neg e2).trans ((if_neg e3).trans ((if_neg e4).trans ((if_neg e7).trans ((if_neg e10).trans (if_pos e11))))) | (unfold s_takes; rw [if_neg e2, if_neg e3, if_neg e4, if_neg e7, if_neg e10, if_pos e11])) hV26 ⟨by omega, (mP2_u (by decide) hP)⟩, Nat.le_refl _, Nat.le_refl _⟩
          · refine ⟨⟨_, hm_oi hx⟩, _, _, _, _, (m_takeOther hF htr hx hV (s := s) (by omega) (by omega) hP), Nat.le_refl _, Nat.le_refl _, mkis_ (r := some (aI (v_takeOther μ s))) (fun ⟨hV29, hp30⟩ => ?_), fun _ _ q => q.elim⟩
            have hp30 : (0 ≤ (v_takeOther μ s) ∧ (v_takeOther μ s) ≤ 6) ∧ mP2 (s_takeOther μ s) := hp30
            exact ⟨mRetIP (P := fun r m => (0 ≤ r ∧ r ≤ 6) ∧ mP2 m) (by first | exact (if_neg e2).trans ((if_neg e3).trans ((if_neg e4).trans ((if_neg e7).trans (if_pos e10)))) | (unfold v_takes; rw [if_neg e2, if_neg e3, if_neg e4, if_neg e7, if_pos e10])) (by first | exact (if_neg e2).trans ((if_neg e3).trans ((if_neg e4).trans ((if_neg e7).trans (if_pos e10)))) | (unfold s_takes; rw [if_neg e2, if_neg e3, if_neg e4, if_neg e7, if_pos e10])) hV29 ⟨by omega, hp30.2⟩, Nat.le_refl _, Nat.le_refl _⟩
    · refine ⟨⟨_, hm_oi hx⟩, _, _, _, _, (m_takeReset hF htr hx hV (s := s) (by omega) (by omega) hP), Nat.le_refl _, Nat.le_refl _, mkis_ (r := some (aI (v_takeReset μ s))) (fun ⟨hV31, hp32⟩ => ?_), fun _ _ q => q.elim⟩
      have hp32 : (0 ≤ (v_takeReset μ s) ∧ (v_takeReset μ s) ≤ 6) ∧ mP2 (s_takeReset μ s) := hp32
      exact ⟨mRetIP (P := fun r m => (0 ≤ r ∧ r ≤ 6) ∧ mP2 m) (by first | exact (if_neg e2).trans (if_pos e3) | (unfold v_takes; rw [if_neg e2, if_pos e3])) (by first | exact (if_neg e2).trans (if_pos e3) | (unfold s_takes; rw [if_neg e2, if_pos e3])) hV31 ⟨by omega, hp32.2⟩, Nat.le_refl _, Nat.le_refl _⟩
  · refine ⟨⟨_, hm_oi hx⟩, _, _, _, _, (m_takeStream hF htr hx hV (s := s) (by omega) (by omega) hP), Nat.le_refl _, Nat.le_refl _, mkis_ (r := some (aI (v_takeStream μ s))) (fun ⟨hV33, hp34⟩ => ?_), fun _ _ q => q.elim⟩
    have hp34 : (0 ≤ (v_takeStream μ s) ∧ (v_takeStream μ s) ≤ 6) ∧ mP2 (s_takeStream μ s) := hp34
    exact ⟨mRetIP (P := fun r m => (0 ≤ r ∧ r ≤ 6) ∧ mP2 m) (by first | exact if_pos e2 | (unfold v_takes; rw [if_pos e2])) (by first | exact if_pos e2 | (unfold s_takes; rw [if_pos e2])) hV33 ⟨by omega, hp34.2⟩, Nat.le_refl _, Nat.le_refl _⟩
set_option maxRecDepth 100000 in
theorem s_takes_fr {f kk : Nat} {s : Int} (hf : [7, 9, 10, 11, 12, 13, 17, 18, 21, 22, 23, 25, 26, 28, 29, 30, 35, 40, 41, 42, 43, 44].elem f = false) : s_takes μ s f kk = μ f kk := by
  have n7 : f ≠ 7 := by rintro rfl; exact absurd hf (by decide)
  have n9 : f ≠ 9 := by rintro rfl; exact absurd hf (by decide)
  have n10 : f ≠ 10 := by rintro rfl; exact absurd hf (by decide)
  have n11 : f ≠ 11 := by rintro rfl; exact absurd hf (by decide)
  have n12 : f ≠ 12 := by rintro rfl; exact absurd hf (by decide)
  have n13 : f ≠ 13 := by rintro rfl; exact absurd hf (by decide)
  have n17 : f ≠ 17 := by rintro rfl; exact absurd hf (by decide)
  have n18 : f ≠ 18 := by rintro rfl; exact absurd hf (by decide)
  have n21 : f ≠ 21 := by rintro rfl; exact absurd hf (by decide)
  have n22 : f ≠ 22 := by rintro rfl; exact absurd hf (by decide)
  have n23 : f ≠ 23 := by rintro rfl; exact absurd hf (by decide)
  have n25 : f ≠ 25 := by rintro rfl; exact absurd hf (by decide)
  have n26 : f ≠ 26 := by rintro rfl; exact absurd hf (by decide)
  have n28 : f ≠ 28 := by rintro rfl; exact absurd hf (by decide)
  have n29 : f ≠ 29 := by rintro rfl; exact absurd hf (by decide)
  have n30 : f ≠ 30 := by rintro rfl; exact absurd hf (by decide)
  have n35 : f ≠ 35 := by rintro rfl; exact absurd hf (by decide)
  have n40 : f ≠ 40 := by rintro rfl; exact absurd hf (by decide)
  have n41 : f ≠ 41 := by rintro rfl; exact absurd hf (by decide)
  have n42 : f ≠ 42 := by rintro rfl; exact absurd hf (by decide)
  have n43 : f ≠ 43 := by rintro rfl; exact absurd hf (by decide)
  have n44 : f ≠ 44 := by rintro rfl; exact absurd hf (by decide)
  have f7 : ∀ (m : Nat → Nat → Int) (a b : Nat) (v : Int), u2 m 7 a v f b = m f b := fun m a b v => u2_f n7
  have f9 : ∀ (m : Nat → Nat → Int) (a b : Nat) (v : Int), u2 m 9 a v f b = m f b := fun m a b v => u2_f n9
  have f10 : ∀ (m : Nat → Nat → Int) (a b : Nat) (v : Int), u2 m 10 a v f b = m f b := fun m a b v => u2_f n10
  have f11 : ∀ (m : Nat → Nat → Int) (a b : Nat) (v : Int), u2 m 11 a v f b = m f b := fun m a b v => u2_f n11
  have f12 : ∀ (m : Nat → Nat → Int) (a b : Nat) (v : Int), u2 m 12 a v f b = m f b := fun m a b v => u2_f n12
  have f13 : ∀ (m : Nat → Nat → Int) (a b : Nat) (v : Int), u2 m 13 a v f b = m f b := fun m a b v => u2_f n13
  have f17 : ∀ (m : Nat → Nat → Int) (a b : Nat) (v : Int), u2 m 17 a v f b = m f b := fun m a b v => u2_f n17
  have f18 : ∀ (m : Nat → Nat → Int) (a b : Nat) (v : Int), u2 m 18 a v f b = m f b := fun m a b v => u2_f n18
  have f21 : ∀ (m : Nat → Nat → Int) (a b : Nat) (v : Int), u2 m 21 a v f b = m f b := fun m a b v => u2_f n21
  have f22 : ∀ (m : Nat → Nat → Int) (a b : Nat) (v : Int), u2 m 22 a v f b = m f b := fun m a b v => u2_f n22
  have f23 : ∀ (m : Nat → Nat → Int) (a b : Nat) (v : Int), u2 m 23 a v f b = m f b := fun m a b v => u2_f n23
  have f25 : ∀ (m : Nat → Nat → Int) (a b : Nat) (v : Int), u2 m 25 a v f b = m f b := fun m a b v => u2_f n25
  have f26 : ∀ (m : Nat → Nat → Int) (a b : Nat) (v : Int), u2 m 26 a v f b = m f b := fun m a b v => u2_f n26
  have f28 : ∀ (m : Nat → Nat → Int) (a b : Nat) (v : Int), u2 m 28 a v f b = m f b := fun m a b v => u2_f n28
  have f29 : ∀ (m : Nat → Nat → Int) (a b : Nat) (v : Int), u2 m 29 a v f b = m f b := fun m a b v => u2_f n29
  have f30 : ∀ (m : Nat → Nat → Int) (a b : Nat) (v : Int), u2 m 30 a v f b = m f b := fun m a b v => u2_f n30
  have f35 : ∀ (m : Nat → Nat → Int) (a b : Nat) (v : Int), u2 m 35 a v f b = m f b := fun m a b v => u2_f n35
  have f40 : ∀ (m : Nat → Nat → Int) (a b : Nat) (v : Int), u2 m 40 a v f b = m f b := fun m a b v => u2_f n40
  have f41 : ∀ (m : Nat → Nat → Int) (a b : Nat) (v : Int), u2 m 41 a v f b = m f b := fun m a b v => u2_f n41
  have f42 : ∀ (m : Nat → Nat → Int) (a b : Nat) (v : Int), u2 m 42 a v f b = m f b := fun m a b v => u2_f n42
  have f43 : ∀ (m : Nat → Nat → Int) (a b : Nat) (v : Int), u2 m 43 a v f b = m f b := fun m a b v => u2_f n43
  have f44 : ∀ (m : Nat → Nat → Int) (a b : Nat) (v : Int), u2 m 44 a v f b = m f b := fun m a b v => u2_f n44
  have c_takeOther : ∀ (m : Nat → Nat → Int) (z_s : Int) (k : Nat), s_takeOther m z_s f k = m f k := by intros; exact s_takeOther_fr (by simp only [List.elem_cons, List.elem_nil, beq_eq_false_iff_ne.mpr n9, beq_eq_false_iff_ne.mpr n17, beq_eq_false_iff_ne.mpr n18, beq_eq_false_iff_ne.mpr n21, beq_eq_false_iff_ne.mpr n22, beq_eq_false_iff_ne.mpr n23, beq_eq_false_iff_ne.mpr n30]; try rfl)
  have c_takeReset : ∀ (m : Nat → Nat → Int) (z_s : Int) (k : Nat), s_takeReset m z_s f k = m f k := by intros; exact s_takeReset_fr (by simp only [List.elem_cons, List.elem_nil, beq_eq_false_iff_ne.mpr n9, beq_eq_false_iff_ne.mpr n10, beq_eq_false_iff_ne.mpr n11, beq_eq_false_iff_ne.mpr n12, beq_eq_false_iff_ne.mpr n13, beq_eq_false_iff_ne.mpr n17, beq_eq_false_iff_ne.mpr n18, beq_eq_false_iff_ne.mpr n25, beq_eq_false_iff_ne.mpr n26, beq_eq_false_iff_ne.mpr n28, beq_eq_false_iff_ne.mpr n29, beq_eq_false_iff_ne.mpr n30, beq_eq_false_iff_ne.mpr n35]; try rfl)
  have c_takeStream : ∀ (m : Nat → Nat → Int) (z_s : Int) (k : Nat), s_takeStream m z_s f k = m f k := by intros; exact s_takeStream_fr (by simp only [List.elem_cons, List.elem_nil, beq_eq_false_iff_ne.mpr n9, beq_eq_false_iff_ne.mpr n10, beq_eq_false_iff_ne.mpr n13, beq_eq_false_iff_ne.mpr n17, beq_eq_false_iff_ne.mpr n18, beq_eq_false_iff_ne.mpr n25, beq_eq_false_iff_ne.mpr n26, beq_eq_false_iff_ne.mpr n30, beq_eq_false_iff_ne.mpr n35, beq_eq_false_iff_ne.mpr n40, beq_eq_false_iff_ne.mpr n41, beq_eq_false_iff_ne.mpr n42, beq_eq_false_iff_ne.mpr n43, beq_eq_false_iff_ne.mpr n44]; try rfl)
  unfold s_takes
  repeat' with_reducible apply f_ite
  all_goals first | rfl | simp only [f7, f9, f10, f11, f12, f13, f17, f18, f21, f22, f23, f25, f26, f28, f29, f30, f35, f40, f41, f42, f43, f44, c_takeOther, c_takeReset, c_takeStream]
def v_take_101 (μ : Nat → Nat → Int) (s u a b c : Int) : Nat → Int → (Nat → Nat → Int) → Int
  | 0, _, _ => 0
  | d + 1, k, ν => (if (ν 3 0) ≤ k then (v_takes (u2 ν 3 0 0) s) else (v_take_101 μ s u a b c d (k + 1) (u2 ν 50 k.toNat (wB (ν 2 k.toNat)))))
def s_take_101 (μ : Nat → Nat → Int) (s u a b c : Int) : Nat → Int → (Nat → Nat → Int) → (Nat → Nat → Int)
  | 0, _, ν => ν
  | d + 1, k, ν => (if (ν 3 0) ≤ k then (s_takes (u2 ν 3 0 0) s) else (s_take_101 μ s u a b c d (k + 1) (u2 ν 50 k.toNat (wB (ν 2 k.toNat)))))
def v_take_57 (μ : Nat → Nat → Int) (s u a b c : Int) : Nat → Int → Int → Int
  | 0, _, _ => 0
  | d + 1, z, y => (if s < 0 ∨ 1 < s then 0 else (if y = 0 then 0 else (if z = 0 then 0 else (if (μ 1 0) = 0 then 0 else (v_take_101 μ s u a b c 2049 0 (u2 (u2 (u2 (u2 (u2 (u2 (u2 μ 0 0 0) 0 0 0) 45 0 u) 46 0 a) 47 0 b) 48 0 c) 49 0 (μ 3 0)))))))
def s_take_57 (μ : Nat → Nat → Int) (s u a b c : Int) : Nat → Int → Int → (Nat → Nat → Int)
  | 0, _, _ => μ
  | d + 1, z, y => (if s < 0 ∨ 1 < s then (u2 μ 0 0 1) else (if y = 0 then (u2 μ 0 0 1) else (if z = 0 then (u2 μ 0 0 1) else (if (μ 1 0) = 0 then (u2 (u2 μ 0 0 0) 0 0 2) else (s_take_101 μ s u a b c 2049 0 (u2 (u2 (u2 (u2 (u2 (u2 (u2 μ 0 0 0) 0 0 0) 45 0 u) 46 0 a) 47 0 b) 48 0 c) 49 0 (μ 3 0)))))))
def v_take_19 (μ : Nat → Nat → Int) (s u a b c : Int) : Nat → Int → Int
  | 0, _ => 0
  | d + 1, y => (if a < 0 then (v_take_57 μ s u a b c 1 0 y) else (if 4611686018427387903 < a then (v_take_57 μ s u a b c 1 0 y) else (if b < 0 then (v_take_57 μ s u a b c 1 0 y) else (if u = 8 then (if 4611686018427380000 < b then (v_take_57 μ s u a b c 1 0 y) else (if c < 0 then (v_take_57 μ s u a b c 1 0 y) else (if 1 < c then (v_take_57 μ s u a b c 1 0 y) else (v_take_57 μ s u a b c 1 1 y)))) else (if 4611686018427387903 < b then (v_take_57 μ s u a b c 1 0 y) else (if c < 0 then (v_take_57 μ s u a b c 1 0 y) else (if 4611686018427387903 < c then (v_take_57 μ s u a b c 1 0 y) else (v_take_57 μ s u a b c 1 1 y))))))))
def s_take_19 (μ : Nat → Nat → Int) (s u a b c : Int) : Nat → Int → (Nat → Nat → Int)
  | 0, _ => μ
  | d + 1, y => (if a < 0 then (s_take_57 μ s u a b c 1 0 y) else (if 4611686018427387903 < a then (s_take_57 μ s u a b c 1 0 y) else (if b < 0 then (s_take_57 μ s u a b c 1 0 y) else (if u = 8 then (if 4611686018427380000 < b then (s_take_57 μ s u a b c 1 0 y) else (if c < 0 then (s_take_57 μ s u a b c 1 0 y) else (if 1 < c then (s_take_57 μ s u a b c 1 0 y) else (s_take_57 μ s u a b c 1 1 y)))) else (if 4611686018427387903 < b then (s_take_57 μ s u a b c 1 0 y) else (if c < 0 then (s_take_57 μ s u a b c 1 0 y) else (if 4611686018427387903 < c then (s_take_57 μ s u a b c 1 0 y) else (s_take_57 μ s u a b c 1 1 y))))))))
def v_take (μ : Nat → Nat → Int) (s u a b c : Int) : Int := (if u = 4 then (v_take_19 μ s u a b c 1 1) else (if u = 5 then (v_take_19 μ s u a b c 1 1) else (if u = 8 then (v_take_19 μ s u a b c 1 1) else (if u < 16 then (v_take_19 μ s u a b c 1 0) else (if 23 < u then (v_take_19 μ s u a b c 1 0) else (v_take_19 μ s u a b c 1 1))))))
def s_take (μ : Nat → Nat → Int) (s u a b c : Int) : Nat → Nat → Int := (if u = 4 then (s_take_19 μ s u a b c 1 1) else (if u = 5 then (s_take_19 μ s u a b c 1 1) else (if u = 8 then (s_take_19 μ s u a b c 1 1) else (if u < 16 then (s_take_19 μ s u a b c 1 0) else (if 23 < u then (s_take_19 μ s u a b c 1 0) else (s_take_19 μ s u a b c 1 1))))))
set_option maxRecDepth 100000 in
theorem m_take (hF : mm_F G) (htr : L.stackTraces = false) (hx : mx A ax) (hV : mV μ) {s u a b c : Int} (h1 : -2147483648 ≤ s) (h2 : s < 2147483648) (h3 : -2147483648 ≤ u) (h3a : u < 2147483648) (h4 : -9223372036854775808 ≤ a) (h4a : a < 9223372036854775808) (h5 : -9223372036854775808 ≤ b) (h5a : b < 9223372036854775808) (h6 : -9223372036854775808 ≤ c) (h6a : c < 9223372036854775808) (hP : mP2 μ) :
    mm_Met L G SX6_take [.ref (A 99), .int (iI s), .int (iI u), .long (iL a), .long (iL b), .long (iL c)] (hm G A ax h0 μ) 0 0 (mRetS (some (.int (iI (v_take μ s u a b c)))) (hm G A ax h0 (s_take μ s u a b c)) (mV (s_take μ s u a b c) ∧ (fun r m => (0 ≤ r ∧ r ≤ 6) ∧ mP2 m) (v_take μ s u a b c) (s_take μ s u a b c))) mm_no := by
  refine mi_meth MX6_take 400 hF htr okX6_take (av := [aR (A 99), aI s, aI u, aL a, aL b, aL c]) (by decide +kernel) (Nat.le_of_ble_eq_true rfl) cmX6_take (fun θ hc => ?_)
  have loop101 : ∀ (R : Int) (S : Nat → Nat → Int) (d : Nat) (k : Int) (ν : Nat → Nat → Int) (hV : mV ν), (0 ≤ s ∧ s ≤ 1) → (0 ≤ k ∧ k ≤ ν 3 0) → (mP2 ν) → (ν 3 0 - k) < (d : Int) → v_take_101 μ s u a b c d k ν = R → s_take_101 μ s u a b c d k ν = S → mi_W L G MX6_take 0 0 (mRetS (some (.int (iI R))) (hm G A ax h0 S) (mV S ∧ (fun r m => (0 ≤ r ∧ r ≤ 6) ∧ mP2 m) R S)) mm_no θ 101 [(11, aI k), (0, aR (A 99)), (1, aI s)] [] (hm G A ax h0 ν) 0 0 := by
    intro R S d
    induction d with
    | zero =>
      intro k ν hV hi0 hi1 hP hms hvr hsr
      have z1 : 0 ≤ ν 3 0 ∧ ν 3 0 ≤ 2048 := hV 3 0
      omega
    | succ d ih =>
      intro k ν hV hi0 hi1 hP hms hvr hsr
      refine mi_sound hc okX6_take 400 _ _ _ _ _ _ ?_
      refine ⟨_, hm_oi hx, aI (ν 3 0), rfl, ?_⟩
      have t1 := (show 0 ≤ ν 3 0 ∧ ν 3 0 ≤ 2048 from hV.g 3 0)
      refine ⟨by omega, fun (e2 : (ν 3 0) ≤ k) => ?_, fun (e2 : ¬ ((ν 3 0) ≤ k)) => ?_⟩
      · refine ⟨_, hm_oi hx, trivial, _, hm_putO hx (f := 3) (v := 0) rfl rfl, ?_⟩
        have hV3 := hV.u (f := 3) (k := 0) (v := 0) (show 0 ≤ 0 ∧ 0 ≤ 2048 from by omega)
        refine ⟨⟨_, hm_oi hx⟩, _, _, _, _, (m_takes hF htr hx hV3 (s := s) (by omega) (by omega) (mP2_u (by decide) hP)), Nat.le_refl _, Nat.le_refl _, mkis_ (r := some (aI (v_takes (u2 ν 3 0 0) s))) (fun ⟨hV4, hp5⟩ => ?_), fun _ _ q => q.elim⟩
        have hp5 : (0 ≤ (v_takes (u2 ν 3 0 0) s) ∧ (v_takes (u2 ν 3 0 0) s) ≤ 6) ∧ mP2 (s_takes (u2 ν 3 0 0) s) := hp5
        exact ⟨mRetIP (P := fun r m => (0 ≤ r ∧ r ≤ 6) ∧ mP2 m) (hvr.symm.trans (by first | exact if_pos e2 | (rw [v_take_101]; rw [if_pos e2]))) (hsr.symm.trans (by first | exact if_pos e2 | (rw [s_take_101]; rw [if_pos e2]))) hV4 ⟨by omega, hp5.2⟩, Nat.le_refl _, Nat.le_refl _⟩
      · refine ⟨_, hm_oi hx, aR (A 50), rfl, ?_⟩
        refine ⟨_, hm_oi hx, aR (A 2), rfl, ?_⟩
        refine ⟨2048, _, (ν 2 k.toNat), hm_a hx 2 rfl, by omega, rfl, ?_⟩
        have t6 := (show 0 ≤ ν 2 k.toNat ∧ ν 2 k.toNat ≤ 255 from hV.g 2 k.toNat)
        have t7 := wB_b (ν 2 k.toNat)
        refine ⟨(wB (ν 2 k.toNat)), i2b_c _, ?_⟩
        refine ⟨2048, _, _, hm_a hx 50 rfl, by omega, (show -128 ≤ (wB (ν 2 k.toNat)) ∧ (wB (ν 2 k.toNat)) < 128 from by omega), hm_pi hx (i := k.toNat) (v := (wB (ν 2 k.toNat))) rfl rfl rfl rfl, ?_⟩
        have hV8 := hV.u (f := 50) (k := k.toNat) (v := (wB (ν 2 k.toNat))) (show -128 ≤ (wB (ν 2 k.toNat)) ∧ (wB (ν 2 k.toNat)) ≤ 127 from by omega)
        exact mi_Wsub (List.forall_mem_cons.mpr ⟨(.head _), List.forall_mem_cons.mpr ⟨(.tail _ (.head _)), List.forall_mem_cons.mpr ⟨(.tail _ (.tail _ (.head _))), fun _ h => absurd h List.not_mem_nil⟩⟩⟩) (ih (k + 1) (u2 ν 50 k.toNat (wB (ν 2 k.toNat))) hV8 (show 0 ≤ s ∧ s ≤ 1 from by omega) (show 0 ≤ (k + 1) ∧ (k + 1) ≤ (ν 3 0) from by omega) (mP2_u (by decide) hP) (show ((ν 3 0) - (k + 1)) < (d : Int) from by omega) (Eq.trans (by first | exact (if_neg e2).symm | (rw [v_take_101]; rw [if_neg e2])) hvr) (Eq.trans (by first | exact (if_neg e2).symm | (rw [s_take_101]; rw [if_neg e2])) hsr))
  have loop57 : ∀ (R : Int) (S : Nat → Nat → Int) (d : Nat) (z y : Int), (y = 0 ∨ y = 1) → (y = 1 → (u = 4 ∨ u = 5 ∨ u = 8 ∨ (16 ≤ u ∧ u ≤ 23))) → (z = 0 ∨ z = 1) → (z = 1 → (0 ≤ a ∧ a ≤ 4611686018427387903 ∧ 0 ≤ b ∧ b ≤ 4611686018427387903 ∧ 0 ≤ c ∧ c ≤ 4611686018427387903 ∧ (u = 8 → b ≤ 4611686018427380000 ∧ c ≤ 1))) → ((0 : Int)) < (d : Int) → v_take_57 μ s u a b c d z y = R → s_take_57 μ s u a b c d z y = S → mi_W L G MX6_take 0 0 (mRetS (some (.int (iI R))) (hm G A ax h0 S) (mV S ∧ (fun r m => (0 ≤ r ∧ r ≤ 6) ∧ mP2 m) R S)) mm_no θ 57 [(10, aI z), (9, aI y), (0, aR (A 99)), (1, aI s), (2, aI u), (3, aL a), (5, aL b), (7, aL c)] [] (hm G A ax h0 μ) 0 0 := by
    intro R S d
    induction d with
    | zero =>
      intro z y hy hy1 hz hz1 hms hvr hsr
      omega
    | succ d ih =>
      intro z y hy hy1 hz hz1 hms hvr hsr
      refine mi_sound hc okX6_take 400 _ _ _ _ _ _ ?_
      refine ⟨_, _, _, _, (m_noSide hF htr (s := s) (by omega) (by omega)), Nat.le_refl _, Nat.le_refl _, mki_ (r := some (aI (b2 (s < 0 ∨ 1 < s)))) ?_, fun _ _ q => q.elim⟩
      refine ⟨by have := b2_r (s < 0 ∨ 1 < s); omega, fun e9 => ?_, fun e9 => ?_⟩
      · have e9 : s < 0 ∨ 1 < s := b2_n0.mp e9
        refine ⟨⟨_, hm_oi hx⟩, _, _, _, _, (m_fails1 hF htr hx (c := 1)), Nat.le_refl _, Nat.le_refl _, mki_ (r := some (aI 1)) ?_, fun _ _ q => q.elim⟩
        have hV10 := hV.u (f := 0) (k := 0) (v := 1) (show 0 ≤ 1 ∧ 1 ≤ 2 from by omega)
        refine ⟨by omega, fun _ => ?_, fun (e : (1 : Int) = 0) => absurd e (by decide)⟩
        exact ⟨mRetIP (P := fun r m => (0 ≤ r ∧ r ≤ 6) ∧ mP2 m) (hvr.symm.trans (by first | exact if_pos e9 | (rw [v_take_57]; rw [if_pos e9]))) (hsr.symm.trans (by first | exact if_pos e9 | (rw [s_take_57]; rw [if_pos e9]))) hV10 ⟨by omega, (mP2_u (by decide) hP)⟩, Nat.le_refl _, Nat.le_refl _⟩
      · have e9 : ¬ (s < 0 ∨ 1 < s) := b2_e0.mp e9
        refine ⟨by omega, fun (e11 : y = 0) => ?_, fun (e11 : ¬ (y = 0)) => ?_⟩
        · refine ⟨⟨_, hm_oi hx⟩, _, _, _, _, (m_fails1 hF htr hx (c := 1)), Nat.le_refl _, Nat.le_refl _, mki_ (r := some (aI 1)) ?_, fun _ _ q => q.elim⟩
          have hV12 := hV.u (f := 0) (k := 0) (v := 1) (show 0 ≤ 1 ∧ 1 ≤ 2 from by omega)
          refine ⟨by omega, fun _ => ?_, fun (e : (1 : Int) = 0) => absurd e (by decide)⟩
          exact ⟨mRetIP (P := fun r m => (0 ≤ r ∧ r ≤ 6) ∧ mP2 m) (hvr.symm.trans (by first | exact (if_neg e9).trans (if_pos e11) | (rw [v_take_57]; rw [if_neg e9, if_pos e11]))) (hsr.symm.trans (by first | exact (if_neg e9).trans (if_pos e11) | (rw [s_take_57]; rw [if_neg e9, if_pos e11]))) hV12 ⟨by omega, (mP2_u (by decide) hP)⟩, Nat.le_refl _, Nat.le_refl _⟩
        · refine ⟨by omega, fun (e13 : ¬ (z = 0)) => ?_, fun (e13 : z = 0) => ?_⟩
          · refine ⟨⟨_, hm_oi hx⟩, _, _, _, _, (m_fails0 hF htr hx (c := 1)), Nat.le_refl _, Nat.le_refl _, mki_ (r := some (aI 0)) ?_, fun _ _ q => q.elim⟩
            have hV14 := hV.u (f := 0) (k := 0) (v := 0) (show 0 ≤ 0 ∧ 0 ≤ 2 from by omega)
            refine ⟨by omega, fun (e : ¬ ((0 : Int) = 0)) => (e (by decide)).elim, fun _ => ?_⟩
            refine ⟨_, hm_oi hx, aI (μ 1 0), rfl, ?_⟩
            have t15 := (show 0 ≤ μ 1 0 ∧ μ 1 0 ≤ 1 from hV.g 1 0)
            refine ⟨by omega, fun (e16 : ¬ ((μ 1 0) = 0)) => ?_, fun (e16 : (μ 1 0) = 0) => ?_⟩
            · refine ⟨⟨_, hm_oi hx⟩, _, _, _, _, (m_fails0 hF htr hx (c := 2)), Nat.le_refl _, Nat.le_refl _, mki_ (r := some (aI 0)) ?_, fun _ _ q => q.elim⟩
              have hV17 := hV14.u (f := 0) (k := 0) (v := 0) (show 0 ≤ 0 ∧ 0 ≤ 2 from by omega)
              refine ⟨by omega, fun _ => ?_, fun (e : ¬ ((0 : Int) = 0)) => (e (by decide)).elim⟩
              refine ⟨_, hm_oi hx, trivial, _, hm_putO hx (f := 45) (v := u) rfl rfl, ?_⟩
              have hV18 := hV17.u (f := 45) (k := 0) (v := u) (show 0 ≤ u ∧ u ≤ 23 from by omega)
              refine ⟨_, hm_oi hx, trivial, _, hm_putO hx (f := 46) (v := a) rfl rfl, ?_⟩
              have hV19 := hV18.u (f := 46) (k := 0) (v := a) (show 0 ≤ a ∧ a ≤ 4611686018427387903 from by omega)
              refine ⟨_, hm_oi hx, trivial, _, hm_putO hx (f := 47) (v := b) rfl rfl, ?_⟩
              have hV20 := hV19.u (f := 47) (k := 0) (v := b) (show 0 ≤ b ∧ b ≤ 4611686018427387903 from by omega)
              refine ⟨_, hm_oi hx, trivial, _, hm_putO hx (f := 48) (v := c) rfl rfl, ?_⟩
              have hV21 := hV20.u (f := 48) (k := 0) (v := c) (show 0 ≤ c ∧ c ≤ 4611686018427387903 from by omega)
              refine ⟨_, hm_oi hx, aI (μ 3 0), rfl, ?_⟩
              have t22 := (show 0 ≤ μ 3 0 ∧ μ 3 0 ≤ 2048 from hV.g 3 0)
              refine ⟨_, hm_oi hx, trivial, _, hm_putO hx (f := 49) (v := (μ 3 0)) rfl rfl, ?_⟩
              have hV23 := hV21.u (f := 49) (k := 0) (v := (μ 3 0)) (show 0 ≤ (μ 3 0) ∧ (μ 3 0) ≤ 2048 from by omega)
              exact mi_Wsub (List.forall_mem_cons.mpr ⟨(.head _), List.forall_mem_cons.mpr ⟨(.tail _ (.tail _ (.tail _ (.head _)))), List.forall_mem_cons.mpr ⟨(.tail _ (.tail _ (.tail _ (.tail _ (.head _))))), fun _ h => absurd h List.not_mem_nil⟩⟩⟩) (loop101 _ _ 2049 0 (u2 (u2 (u2 (u2 (u2 (u2 (u2 μ 0 0 0) 0 0 0) 45 0 u) 46 0 a) 47 0 b) 48 0 c) 49 0 (μ 3 0)) hV23 (show 0 ≤ s ∧ s ≤ 1 from by omega) (show 0 ≤ 0 ∧ 0 ≤ (μ 3 0) from by omega) (mP2_u (by decide) (mP2_u (by decide) (mP2_u (by decide) (mP2_u (by decide) (mP2_u (by decide) (mP2_u (by decide) (mP2_u (by decide) hP))))))) (show ((μ 3 0) - 0) < (2049 : Int) from by omega) (Eq.trans (by first | exact ((if_neg e9).trans ((if_neg e11).trans ((if_neg e13).trans (if_neg e16)))).symm | (rw [v_take_57]; rw [if_neg e9, if_neg e11, if_neg e13, if_neg e16])) hvr) (Eq.trans (by first | exact ((if_neg e9).trans ((if_neg e11).trans ((if_neg e13).trans (if_neg e16)))).symm | (rw [s_take_57]; rw [if_neg e9, if_neg e11, if_neg e13, if_neg e16])) hsr))
            · refine ⟨⟨_, hm_oi hx⟩, _, _, _, _, (m_fails1 hF htr hx (c := 2)), Nat.le_refl _, Nat.le_refl _, mki_ (r := some (aI 1)) ?_, fun _ _ q => q.elim⟩
              have hV24 := hV14.u (f := 0) (k := 0) (v := 2) (show 0 ≤ 2 ∧ 2 ≤ 2 from by omega)
              refine ⟨by omega, fun (e : (1 : Int) = 0) => absurd e (by decide), fun _ => ?_⟩
              exact ⟨mRetIP (P := fun r m => (0 ≤ r ∧ r ≤ 6) ∧ mP2 m) (hvr.symm.trans (by first | exact (if_neg e9).trans ((if_neg e11).trans ((if_neg e13).trans (if_pos e16))) | (rw [v_take_57]; rw [if_neg e9, if_neg e11, if_neg e13, if_pos e16]))) (hsr.symm.trans (by first | exact (if_neg e9).trans ((if_neg e11).trans ((if_neg e13).trans (if_pos e16))) | (rw [s_take_57]; rw [if_neg e9, if_neg e11, if_neg e13, if_pos e16]))) hV24 ⟨by omega, (mP2_u (by decide) (mP2_u (by decide) hP))⟩, Nat.le_refl _, Nat.le_refl _⟩
          · refine ⟨⟨_, hm_oi hx⟩, _, _, _, _, (m_fails1 hF htr hx (c := 1)), Nat.le_refl _, Nat.le_refl _, mki_ (r := some (aI 1)) ?_, fun _ _ q => q.elim⟩
            have hV25 := hV.u (f := 0) (k := 0) (v := 1) (show 0 ≤ 1 ∧ 1 ≤ 2 from by omega)
            refine ⟨by omega, fun _ => ?_, fun (e : (1 : Int) = 0) => absurd e (by decide)⟩
            exact ⟨mRetIP (P := fun r m => (0 ≤ r ∧ r ≤ 6) ∧ mP2 m) (hvr.symm.trans (by first | exact (if_neg e9).trans ((if_neg e11).trans (if_pos e13)) | (rw [v_take_57]; rw [if_neg e9, if_neg e11, if_pos e13]))) (hsr.symm.trans (by first | exact (if_neg e9).trans ((if_neg e11).trans (if_pos e13)) | (rw [s_take_57]; rw [if_neg e9, if_neg e11, if_pos e13]))) hV25 ⟨by omega, (mP2_u (by decide) hP)⟩, Nat.le_refl _, Nat.le_refl _⟩
  have loop19 : ∀ (R : Int) (S : Nat → Nat → Int) (d : Nat) (y : Int), (y = 0 ∨ y = 1) → (y = 1 → (u = 4 ∨ u = 5 ∨ u = 8 ∨ (16 ≤ u ∧ u ≤ 23))) → ((0 : Int)) < (d : Int) → v_take_19 μ s u a b c d y = R → s_take_19 μ s u a b c d y = S → mi_W L G MX6_take 0 0 (mRetS (some (.int (iI R))) (hm G A ax h0 S) (mV S ∧ (fun r m => (0 ≤ r ∧ r ≤ 6) ∧ mP2 m) R S)) mm_no θ 19 [(9, aI y), (0, aR (A 99)), (1, aI s), (2, aI u), (3, aL a), (5, aL b), (7, aL c)] [] (hm G A ax h0 μ) 0 0 := by
    intro R S d
    induction d with
    | zero =>
      intro y hy hy1 hms hvr hsr
      omega
    | succ d ih =>
      intro y hy hy1 hms hvr hsr
      refine mi_sound hc okX6_take 400 _ _ _ _ _ _ ?_
      refine ⟨0, rfl, ?_⟩
      refine ⟨by omega, fun (e26 : a < 0) => ?_, fun (e26 : ¬ (a < 0)) => ?_⟩
      · exact mi_Wsub (List.forall_mem_cons.mpr ⟨(.head _), List.forall_mem_cons.mpr ⟨(.tail _ (.head _)), List.forall_mem_cons.mpr ⟨(.tail _ (.tail _ (.head _))), List.forall_mem_cons.mpr ⟨(.tail _ (.tail _ (.tail _ (.head _)))), List.forall_mem_cons.mpr ⟨(.tail _ (.tail _ (.tail _ (.tail _ (.head _))))), List.forall_mem_cons.mpr ⟨(.tail _ (.tail _ (.tail _ (.tail _ (.tail _ (.head _)))))), List.forall_mem_cons.mpr ⟨(.tail _ (.tail _ (.tail _ (.tail _ (.tail _ (.tail _ (.head _))))))), List.forall_mem_cons.mpr ⟨(.tail _ (.tail _ (.tail _ (.tail _ (.tail _ (.tail _ (.tail _ (.head _)))))))), fun _ h => absurd h List.not_mem_nil⟩⟩⟩⟩⟩⟩⟩⟩) (loop57 _ _ 1 0 y (by omega) (by omega) (by omega) (by omega) (by omega) (Eq.trans (by first | exact (if_pos e26).symm | (rw [v_take_19]; rw [if_pos e26])) hvr) (Eq.trans (by first | exact (if_pos e26).symm | (rw [s_take_19]; rw [if_pos e26])) hsr))
      · refine ⟨4611686018427387903, rfl, ?_⟩
        refine ⟨by omega, fun (e27 : 4611686018427387903 < a) => ?_, fun (e27 : ¬ (4611686018427387903 < a)) => ?_⟩
        · exact mi_Wsub (List.forall_mem_cons.mpr ⟨(.head _), List.forall_mem_cons.mpr ⟨(.tail _ (.head _)), List.forall_mem_cons.mpr ⟨(.tail _ (.tail _ (.head _))), List.forall_mem_cons.mpr ⟨(.tail _ (.tail _ (.tail _ (.head _)))), List.forall_mem_cons.mpr ⟨(.tail _ (.tail _ (.tail _ (.tail _ (.head _))))), List.forall_mem_cons.mpr ⟨(.tail _ (.tail _ (.tail _ (.tail _ (.tail _ (.head _)))))), List.forall_mem_cons.mpr ⟨(.tail _ (.tail _ (.tail _ (.tail _ (.tail _ (.tail _ (.head _))))))), List.forall_mem_cons.mpr ⟨(.tail _ (.tail _ (.tail _ (.tail _ (.tail _ (.tail _ (.tail _ (.head _)))))))), fun _ h => absurd h List.not_mem_nil⟩⟩⟩⟩⟩⟩⟩⟩) (loop57 _ _ 1 0 y (by omega) (by omega) (by omega) (by omega) (by omega) (Eq.trans (by first | exact ((if_neg e26).trans (if_pos e27)).symm | (rw [v_take_19]; rw [if_neg e26, if_pos e27])) hvr) (Eq.trans (by first | exact ((if_neg e26).trans (if_pos e27)).symm | (rw [s_take_19]; rw [if_neg e26, if_pos e27])) hsr))
        · refine ⟨0, rfl, ?_⟩
          refine ⟨by omega, fun (e28 : b < 0) => ?_, fun (e28 : ¬ (b < 0)) => ?_⟩
          · exact mi_Wsub (List.forall_mem_cons.mpr ⟨(.head _), List.forall_mem_cons.mpr ⟨(.tail _ (.head _)), List.forall_mem_cons.mpr ⟨(.tail _ (.tail _ (.head _))), List.forall_mem_cons.mpr ⟨(.tail _ (.tail _ (.tail _ (.head _)))), List.forall_mem_cons.mpr ⟨(.tail _ (.tail _ (.tail _ (.tail _ (.head _))))), List.forall_mem_cons.mpr ⟨(.tail _ (.tail _ (.tail _ (.tail _ (.tail _ (.head _)))))), List.forall_mem_cons.mpr ⟨(.tail _ (.tail _ (.tail _ (.tail _ (.tail _ (.tail _ (.head _))))))), List.forall_mem_cons.mpr ⟨(.tail _ (.tail _ (.tail _ (.tail _ (.tail _ (.tail _ (.tail _ (.head _)))))))), fun _ h => absurd h List.not_mem_nil⟩⟩⟩⟩⟩⟩⟩⟩) (loop57 _ _ 1 0 y (by omega) (by omega) (by omega) (by omega) (by omega) (Eq.trans (by first | exact ((if_neg e26).trans ((if_neg e27).trans (if_pos e28))).symm | (rw [v_take_19]; rw [if_neg e26, if_neg e27, if_pos e28])) hvr) (Eq.trans (by first | exact ((if_neg e26).trans ((if_neg e27).trans (if_pos e28))).symm | (rw [s_take_19]; rw [if_neg e26, if_neg e27, if_pos e28])) hsr))
          · refine ⟨by omega, fun (e29 : ¬ (u = 8)) => ?_, fun (e29 : u = 8) => ?_⟩
            · refine ⟨4611686018427387903, rfl, ?_⟩
              refine ⟨by omega, fun (e30 : 4611686018427387903 < b) => ?_, fun (e30 : ¬ (4611686018427387903 < b)) => ?_⟩
              · exact mi_Wsub (List.forall_mem_cons.mpr ⟨(.head _), List.forall_mem_cons.mpr ⟨(.tail _ (.head _)), List.forall_mem_cons.mpr ⟨(.tail _ (.tail _ (.head _))), List.forall_mem_cons.mpr ⟨(.tail _ (.tail _ (.tail _ (.head _)))), List.forall_mem_cons.mpr ⟨(.tail _ (.tail _ (.tail _ (.tail _ (.head _))))), List.forall_mem_cons.mpr ⟨(.tail _ (.tail _ (.tail _ (.tail _ (.tail _ (.head _)))))), List.forall_mem_cons.mpr ⟨(.tail _ (.tail _ (.tail _ (.tail _ (.tail _ (.tail _ (.head _))))))), List.forall_mem_cons.mpr ⟨(.tail _ (.tail _ (.tail _ (.tail _ (.tail _ (.tail _ (.tail _ (.head _)))))))), fun _ h => absurd h List.not_mem_nil⟩⟩⟩⟩⟩⟩⟩⟩) (loop57 _ _ 1 0 y (by omega) (by omega) (by omega) (by omega) (by omega) (Eq.trans (by first | exact ((if_neg e26).trans ((if_neg e27).trans ((if_neg e28).trans ((if_neg e29).trans (if_pos e30))))).symm | (rw [v_take_19]; rw [if_neg e26, if_neg e27, if_neg e28, if_neg e29, if_pos e30])) hvr) (Eq.trans (by first | exact ((if_neg e26).trans ((if_neg e27).trans ((if_neg e28).trans ((if_neg e29).trans (if_pos e30))))).symm | (rw [s_take_19]; rw [if_neg e26, if_neg e27, if_neg e28, if_neg e29, if_pos e30])) hsr))
              · refine ⟨0, rfl, ?_⟩
                refine ⟨by omega, fun (e31 : c < 0) => ?_, fun (e31 : ¬ (c < 0)) => ?_⟩
                · exact mi_Wsub (List.forall_mem_cons.mpr ⟨(.head _), List.forall_mem_cons.mpr ⟨(.tail _ (.head _)), List.forall_mem_cons.mpr ⟨(.tail _ (.tail _ (.head _))), List.forall_mem_cons.mpr ⟨(.tail _ (.tail _ (.tail _ (.head _)))), List.forall_mem_cons.mpr ⟨(.tail _ (.tail _ (.tail _ (.tail _ (.head _))))), List.forall_mem_cons.mpr ⟨(.tail _ (.tail _ (.tail _ (.tail _ (.tail _ (.head _)))))), List.forall_mem_cons.mpr ⟨(.tail _ (.tail _ (.tail _ (.tail _ (.tail _ (.tail _ (.head _))))))), List.forall_mem_cons.mpr ⟨(.tail _ (.tail _ (.tail _ (.tail _ (.tail _ (.tail _ (.tail _ (.head _)))))))), fun _ h => absurd h List.not_mem_nil⟩⟩⟩⟩⟩⟩⟩⟩) (loop57 _ _ 1 0 y (by omega) (by omega) (by omega) (by omega) (by omega) (Eq.trans (by first | exact ((if_neg e26).trans ((if_neg e27).trans ((if_neg e28).trans ((if_neg e29).trans ((if_neg e30).trans (if_pos e31)))))).symm | (rw [v_take_19]; rw [if_neg e26, if_neg e27, if_neg e28, if_neg e29, if_neg e30, if_pos e31])) hvr) (Eq.trans (by first | exact ((if_neg e26).trans ((if_neg e27).trans ((if_neg e28).trans ((if_neg e29).trans ((if_neg e30).trans (if_pos e31)))))).symm | (rw [s_take_19]; rw [if_neg e26, if_neg e27, if_neg e28, if_neg e29, if_neg e30, if_pos e31])) hsr))
                · refine ⟨by omega, fun _ => ?_, fun (e : u = 8) => absurd e (by omega)⟩
                  refine ⟨4611686018427387903, rfl, ?_⟩
                  refine ⟨by omega, fun (e33 : 4611686018427387903 < c) => ?_, fun (e33 : ¬ (4611686018427387903 < c)) => ?_⟩
                  · exact mi_Wsub (List.forall_mem_cons.mpr ⟨(.head _), List.forall_mem_cons.mpr ⟨(.tail _ (.head _)), List.forall_mem_cons.mpr ⟨(.tail _ (.tail _ (.head _))), List.forall_mem_cons.mpr ⟨(.tail _ (.tail _ (.tail _ (.head _)))), List.forall_mem_cons.mpr ⟨(.tail _ (.tail _ (.tail _ (.tail _ (.head _))))), List.forall_mem_cons.mpr ⟨(.tail _ (.tail _ (.tail _ (.tail _ (.tail _ (.head _)))))), List.forall_mem_cons.mpr ⟨(.tail _ (.tail _ (.tail _ (.tail _ (.tail _ (.tail _ (.head _))))))), List.forall_mem_cons.mpr ⟨(.tail _ (.tail _ (.tail _ (.tail _ (.tail _ (.tail _ (.tail _ (.head _)))))))), fun _ h => absurd h List.not_mem_nil⟩⟩⟩⟩⟩⟩⟩⟩) (loop57 _ _ 1 0 y (by omega) (by omega) (by omega) (by omega) (by omega) (Eq.trans (by first | exact ((if_neg e26).trans ((if_neg e27).trans ((if_neg e28).trans ((if_neg e29).trans ((if_neg e30).trans ((if_neg e31).trans (if_pos e33))))))).symm | (rw [v_take_19]; rw [if_neg e26, if_neg e27, if_neg e28, if_neg e29, if_neg e30, if_neg e31, if_pos e33])) hvr) (Eq.trans (by first | exact ((if_neg e26).trans ((if_neg e27).trans ((if_neg e28).trans ((if_neg e29).trans ((if_neg e30).trans ((if_neg e31).trans (if_pos e33))))))).symm | (rw [s_take_19]; rw [if_neg e26, if_neg e27, if_neg e28, if_neg e29, if_neg e30, if_neg e31, if_pos e33])) hsr))
                  · exact mi_Wsub (List.forall_mem_cons.mpr ⟨(.head _), List.forall_mem_cons.mpr ⟨(.tail _ (.head _)), List.forall_mem_cons.mpr ⟨(.tail _ (.tail _ (.head _))), List.forall_mem_cons.mpr ⟨(.tail _ (.tail _ (.tail _ (.head _)))), List.forall_mem_cons.mpr ⟨(.tail _ (.tail _ (.tail _ (.tail _ (.head _))))), List.forall_mem_cons.mpr ⟨(.tail _ (.tail _ (.tail _ (.tail _ (.tail _ (.head _)))))), List.forall_mem_cons.mpr ⟨(.tail _ (.tail _ (.tail _ (.tail _ (.tail _ (.tail _ (.head _))))))), List.forall_mem_cons.mpr ⟨(.tail _ (.tail _ (.tail _ (.tail _ (.tail _ (.tail _ (.tail _ (.head _)))))))), fun _ h => absurd h List.not_mem_nil⟩⟩⟩⟩⟩⟩⟩⟩) (loop57 _ _ 1 1 y (by omega) (by omega) (by omega) (by omega) (by omega) (Eq.trans (by first | exact ((if_neg e26).trans ((if_neg e27).trans ((if_neg e28).trans ((if_neg e29).trans ((if_neg e30).trans ((if_neg e31).trans (if_neg e33))))))).symm | (rw [v_take_19]; rw [if_neg e26, if_neg e27, if_neg e28, if_neg e29, if_neg e30, if_neg e31, if_neg e33])) hvr) (Eq.trans (by first | exact ((if_neg e26).trans ((if_neg e27).trans ((if_neg e28).trans ((if_neg e29).trans ((if_neg e30).trans ((if_neg e31).trans (if_neg e33))))))).symm | (rw [s_take_19]; rw [if_neg e26, if_neg e27, if_neg e28, if_neg e29, if_neg e30, if_neg e31, if_neg e33])) hsr))
            · refine ⟨4611686018427380000, rfl, ?_⟩
              refine ⟨by omega, fun (e34 : 4611686018427380000 < b) => ?_, fun (e34 : ¬ (4611686018427380000 < b)) => ?_⟩
              · exact mi_Wsub (List.forall_mem_cons.mpr ⟨(.head _), List.forall_mem_cons.mpr ⟨(.tail _ (.head _)), List.forall_mem_cons.mpr ⟨(.tail _ (.tail _ (.head _))), List.forall_mem_cons.mpr ⟨(.tail _ (.tail _ (.tail _ (.head _)))), List.forall_mem_cons.mpr ⟨(.tail _ (.tail _ (.tail _ (.tail _ (.head _))))), List.forall_mem_cons.mpr ⟨(.tail _ (.tail _ (.tail _ (.tail _ (.tail _ (.head _)))))), List.forall_mem_cons.mpr ⟨(.tail _ (.tail _ (.tail _ (.tail _ (.tail _ (.tail _ (.head _))))))), List.forall_mem_cons.mpr ⟨(.tail _ (.tail _ (.tail _ (.tail _ (.tail _ (.tail _ (.tail _ (.head _)))))))), fun _ h => absurd h List.not_mem_nil⟩⟩⟩⟩⟩⟩⟩⟩) (loop57 _ _ 1 0 y (by omega) (by omega) (by omega) (by omega) (by omega) (Eq.trans (by first | exact ((if_neg e26).trans ((if_neg e27).trans ((if_neg e28).trans ((if_pos e29).trans (if_pos e34))))).symm | (rw [v_take_19]; rw [if_neg e26, if_neg e27, if_neg e28, if_pos e29, if_pos e34])) hvr) (Eq.trans (by first | exact ((if_neg e26).trans ((if_neg e27).trans ((if_neg e28).trans ((if_pos e29).trans (if_pos e34))))).symm | (rw [s_take_19]; rw [if_neg e26, if_neg e27, if_neg e28, if_pos e29, if_pos e34])) hsr))
              · refine ⟨0, rfl, ?_⟩
                refine ⟨by omega, fun (e35 : c < 0) => ?_, fun (e35 : ¬ (c < 0)) => ?_⟩
                · exact mi_Wsub (List.forall_mem_cons.mpr ⟨(.head _), List.forall_mem_cons.mpr ⟨(.tail _ (.head _)), List.forall_mem_cons.mpr ⟨(.tail _ (.tail _ (.head _))), List.forall_mem_cons.mpr ⟨(.tail _ (.tail _ (.tail _ (.head _)))), List.forall_mem_cons.mpr ⟨(.tail _ (.tail _ (.tail _ (.tail _ (.head _))))), List.forall_mem_cons.mpr ⟨(.tail _ (.tail _ (.tail _ (.tail _ (.tail _ (.head _)))))), List.forall_mem_cons.mpr ⟨(.tail _ (.tail _ (.tail _ (.tail _ (.tail _ (.tail _ (.head _))))))), List.forall_mem_cons.mpr ⟨(.tail _ (.tail _ (.tail _ (.tail _ (.tail _ (.tail _ (.tail _ (.head _)))))))), fun _ h => absurd h List.not_mem_nil⟩⟩⟩⟩⟩⟩⟩⟩) (loop57 _ _ 1 0 y (by omega) (by omega) (by omega) (by omega) (by omega) (Eq.trans (by first | exact ((if_neg e26).trans ((if_neg e27).trans ((if_neg e28).trans ((if_pos e29).trans ((if_neg e34).trans (if_pos e35)))))).symm | (rw [v_take_19]; rw [if_neg e26, if_neg e27, if_neg e28, if_pos e29, if_neg e34, if_pos e35])) hvr) (Eq.trans (by first | exact ((if_neg e26).trans ((if_neg e27).trans ((if_neg e28).trans ((if_pos e29).trans ((if_neg e34).trans (if_pos e35)))))).symm | (rw [s_take_19]; rw [if_neg e26, if_neg e27, if_neg e28, if_pos e29, if_neg e34, if_pos e35])) hsr))
                · refine ⟨by omega, fun (e : ¬ (u = 8)) => absurd e (by omega), fun _ => ?_⟩
                  refine ⟨1, rfl, ?_⟩
                  refine ⟨by omega, fun (e37 : 1 < c) => ?_, fun (e37 : ¬ (1 < c)) => ?_⟩
                  · exact mi_Wsub (List.forall_mem_cons.mpr ⟨(.head _), List.forall_mem_cons.mpr ⟨(.tail _ (.head _)), List.forall_mem_cons.mpr ⟨(.tail _ (.tail _ (.head _))), List.forall_mem_cons.mpr ⟨(.tail _ (.tail _ (.tail _ (.head _)))), List.forall_mem_cons.mpr ⟨(.tail _ (.tail _ (.tail _ (.tail _ (.head _))))), List.forall_mem_cons.mpr ⟨(.tail _ (.tail _ (.tail _ (.tail _ (.tail _ (.head _)))))), List.forall_mem_cons.mpr ⟨(.tail _ (.tail _ (.tail _ (.tail _ (.tail _ (.tail _ (.head _))))))), List.forall_mem_cons.mpr ⟨(.tail _ (.tail _ (.tail _ (.tail _ (.tail _ (.tail _ (.tail _ (.head _)))))))), fun _ h => absurd h List.not_mem_nil⟩⟩⟩⟩⟩⟩⟩⟩) (loop57 _ _ 1 0 y (by omega) (by omega) (by omega) (by omega) (by omega) (Eq.trans (by first | exact ((if_neg e26).trans ((if_neg e27).trans ((if_neg e28).trans ((if_pos e29).trans ((if_neg e34).trans ((if_neg e35).trans (if_pos e37))))))).symm | (rw [v_take_19]; rw [if_neg e26, if_neg e27, if_neg e28, if_pos e29, if_neg e34, if_neg e35, if_pos e37])) hvr) (Eq.trans (by first | exact ((if_neg e26).trans ((if_neg e27).trans ((if_neg e28).trans ((if_pos e29).trans ((if_neg e34).trans ((if_neg e35).trans (if_pos e37))))))).symm | (rw [s_take_19]; rw [if_neg e26, if_neg e27, if_neg e28, if_pos e29, if_neg e34, if_neg e35, if_pos e37])) hsr))
                  · exact mi_Wsub (List.forall_mem_cons.mpr ⟨(.head _), List.forall_mem_cons.mpr ⟨(.tail _ (.head _)), List.forall_mem_cons.mpr ⟨(.tail _ (.tail _ (.head _))), List.forall_mem_cons.mpr ⟨(.tail _ (.tail _ (.tail _ (.head _)))), List.forall_mem_cons.mpr ⟨(.tail _ (.tail _ (.tail _ (.tail _ (.head _))))), List.forall_mem_cons.mpr ⟨(.tail _ (.tail _ (.tail _ (.tail _ (.tail _ (.head _)))))), List.forall_mem_cons.mpr ⟨(.tail _ (.tail _ (.tail _ (.tail _ (.tail _ (.tail _ (.head _))))))), List.forall_mem_cons.mpr ⟨(.tail _ (.tail _ (.tail _ (.tail _ (.tail _ (.tail _ (.tail _ (.head _)))))))), fun _ h => absurd h List.not_mem_nil⟩⟩⟩⟩⟩⟩⟩⟩) (loop57 _ _ 1 1 y (by omega) (by omega) (by omega) (by omega) (by omega) (Eq.trans (by first | exact ((if_neg e26).trans ((if_neg e27).trans ((if_neg e28).trans ((if_pos e29).trans ((if_neg e34).trans ((if_neg e35).trans (if_neg e37))))))).symm | (rw [v_take_19]; rw [if_neg e26, if_neg e27, if_neg e28, if_pos e29, if_neg e34, if_neg e35, if_neg e37])) hvr) (Eq.trans (by first | exact ((if_neg e26).trans ((if_neg e27).trans ((if_neg e28).trans ((if_pos e29).trans ((if_neg e34).trans ((if_neg e35).trans (if_neg e37))))))).symm | (rw [s_take_19]; rw [if_neg e26, if_neg e27, if_neg e28, if_pos e29, if_neg e34, if_neg e35, if_neg e37])) hsr))
  refine ⟨by omega, fun (e38 : u = 4) => ?_, fun (e38 : ¬ (u = 4)) => ?_⟩
  · exact mi_Wsub (List.forall_mem_cons.mpr ⟨(.head _), List.forall_mem_cons.mpr ⟨(.tail _ (.head _)), List.forall_mem_cons.mpr ⟨(.tail _ (.tail _ (.head _))), List.forall_mem_cons.mpr ⟨(.tail _ (.tail _ (.tail _ (.head _)))), List.forall_mem_cons.mpr ⟨(.tail _ (.tail _ (.tail _ (.tail _ (.head _))))), List.forall_mem_cons.mpr ⟨(.tail _ (.tail _ (.tail _ (.tail _ (.tail _ (.head _)))))), List.forall_mem_cons.mpr ⟨(.tail _ (.tail _ (.tail _ (.tail _ (.tail _ (.tail _ (.head _))))))), fun _ h => absurd h List.not_mem_nil⟩⟩⟩⟩⟩⟩⟩) (loop19 _ _ 1 1 (by omega) (by omega) (by omega) (by first | exact (if_pos e38).symm | (unfold v_take; rw [if_pos e38])) (by first | exact (if_pos e38).symm | (unfold s_take; rw [if_pos e38])))
  · refine ⟨by omega, fun (e39 : u = 5) => ?_, fun (e39 : ¬ (u = 5)) => ?_⟩
    · exact mi_Wsub (List.forall_mem_cons.mpr ⟨(.head _), List.forall_mem_cons.mpr ⟨(.tail _ (.head _)), List.forall_mem_cons.mpr ⟨(.tail _ (.tail _ (.head _))), List.forall_mem_cons.mpr ⟨(.tail _ (.tail _ (.tail _ (.head _)))), List.forall_mem_cons.mpr ⟨(.tail _ (.tail _ (.tail _ (.tail _ (.head _))))), List.forall_mem_cons.mpr ⟨(.tail _ (.tail _ (.tail _ (.tail _ (.tail _ (.head _)))))), List.forall_mem_cons.mpr ⟨(.tail _ (.tail _ (.tail _ (.tail _ (.tail _ (.tail _ (.head _))))))), fun _ h => absurd h List.not_mem_nil⟩⟩⟩⟩⟩⟩⟩) (loop19 _ _ 1 1 (by omega) (by omega) (by omega) (by first | exact ((if_neg e38).trans (if_pos e39)).symm | (unfold v_take; rw [if_neg e38, if_pos e39])) (by first | exact ((if_neg e38).trans (if_pos e39)).symm | (unfold s_take; rw [if_neg e38, if_pos e39])))
    · refine ⟨by omega, fun (e40 : u = 8) => ?_, fun (e40 : ¬ (u = 8)) => ?_⟩
      · exact mi_Wsub (List.forall_mem_cons.mpr ⟨(.head _), List.forall_mem_cons.mpr ⟨(.tail _ (.head _)), List.forall_mem_cons.mpr ⟨(.tail _ (.tail _ (.head _))), List.forall_mem_cons.mpr ⟨(.tail _ (.tail _ (.tail _ (.head _)))), List.forall_mem_cons.mpr ⟨(.tail _ (.tail _ (.tail _ (.tail _ (.head _))))), List.forall_mem_cons.mpr ⟨(.tail _ (.tail _ (.tail _ (.tail _ (.tail _ (.head _)))))), List.forall_mem_cons.mpr ⟨(.tail _ (.tail _ (.tail _ (.tail _ (.tail _ (.tail _ (.head _))))))), fun _ h => absurd h List.not_mem_nil⟩⟩⟩⟩⟩⟩⟩) (loop19 _ _ 1 1 (by omega) (by omega) (by omega) (by first | exact ((if_neg e38).trans ((if_neg e39).trans (if_pos e40))).symm | (unfold v_take; rw [if_neg e38, if_neg e39, if_pos e40])) (by first | exact ((if_neg e38).trans ((if_neg e39).trans (if_pos e40))).symm | (unfold s_take; rw [if_neg e38, if_neg e39, if_pos e40])))
      · refine ⟨by omega, fun (e41 : u < 16) => ?_, fun (e41 : ¬ (u < 16)) => ?_⟩
        · exact mi_Wsub (List.forall_mem_cons.mpr ⟨(.head _), List.forall_mem_cons.mpr ⟨(.tail _ (.head _)), List.forall_mem_cons.mpr ⟨(.tail _ (.tail _ (.head _))), List.forall_mem_cons.mpr ⟨(.tail _ (.tail _ (.tail _ (.head _)))), List.forall_mem_cons.mpr ⟨(.tail _ (.tail _ (.tail _ (.tail _ (.head _))))), List.forall_mem_cons.mpr ⟨(.tail _ (.tail _ (.tail _ (.tail _ (.tail _ (.head _)))))), List.forall_mem_cons.mpr ⟨(.tail _ (.tail _ (.tail _ (.tail _ (.tail _ (.tail _ (.head _))))))), fun _ h => absurd h List.not_mem_nil⟩⟩⟩⟩⟩⟩⟩) (loop19 _ _ 1 0 (by omega) (by omega) (by omega) (by first | exact ((if_neg e38).trans ((if_neg e39).trans ((if_neg e40).trans (if_pos e41)))).symm | (unfold v_take; rw [if_neg e38, if_neg e39, if_neg e40, if_pos e41])) (by first | exact ((if_neg e38).trans ((if_neg e39).trans ((if_neg e40).trans (if_pos e41)))).symm | (unfold s_take; rw [if_neg e38, if_neg e39, if_neg e40, if_pos e41])))
        · refine ⟨by omega, fun (e42 : 23 < u) => ?_, fun (e42 : ¬ (23 < u)) => ?_⟩
          · exact mi_Wsub (List.forall_mem_cons.mpr ⟨(.head _), List.forall_mem_cons.mpr ⟨(.tail _ (.head _)), List.forall_mem_cons.mpr ⟨(.tail _ (.tail _ (.head _))), List.forall_mem_cons.mpr ⟨(.tail _ (.tail _ (.tail _ (.head _)))), List.forall_mem_cons.mpr ⟨(.tail _ (.tail _ (.tail _ (.tail _ (.head _))))), List.forall_mem_cons.mpr ⟨(.tail _ (.tail _ (.tail _ (.tail _ (.tail _ (.head _)))))), List.forall_mem_cons.mpr ⟨(.tail _ (.tail _ (.tail _ (.tail _ (.tail _ (.tail _ (.head _))))))), fun _ h => absurd h List.not_mem_nil⟩⟩⟩⟩⟩⟩⟩) (loop19 _ _ 1 0 (by omega) (by omega) (by omega) (by first | exact ((if_neg e38).trans ((if_neg e39).trans ((if_neg e40).trans ((if_neg e41).trans (if_pos e42))))).symm | (unfold v_take; rw [if_neg e38, if_neg e39, if_neg e40, if_neg e41, if_pos e42])) (by first | exact ((if_neg e38).trans ((if_neg e39).trans ((if_neg e40).trans ((if_neg e41).trans (if_pos e42))))).symm | (unfold s_take; rw [if_neg e38, if_neg e39, if_neg e40, if_neg e41, if_pos e42])))
          · exact mi_Wsub (List.forall_mem_cons.mpr ⟨(.head _), List.forall_mem_cons.mpr ⟨(.tail _ (.head _)), List.forall_mem_cons.mpr ⟨(.tail _ (.tail _ (.head _))), List.forall_mem_cons.mpr ⟨(.tail _ (.tail _ (.tail _ (.head _)))), List.forall_mem_cons.mpr ⟨(.tail _ (.tail _ (.tail _ (.tail _ (.head _))))), List.forall_mem_cons.mpr ⟨(.tail _ (.tail _ (.tail _ (.tail _ (.tail _ (.head _)))))), List.forall_mem_cons.mpr ⟨(.tail _ (.tail _ (.tail _ (.tail _ (.tail _ (.tail _ (.head _))))))), fun _ h => absurd h List.not_mem_nil⟩⟩⟩⟩⟩⟩⟩) (loop19 _ _ 1 1 (by omega) (by omega) (by omega) (by first | exact ((if_neg e38).trans ((if_neg e39).trans ((if_neg e40).trans ((if_neg e41).trans (if_neg e42))))).symm | (unfold v_take; rw [if_neg e38, if_neg e39, if_neg e40, if_neg e41, if_neg e42])) (by first | exact ((if_neg e38).trans ((if_neg e39).trans ((if_neg e40).trans ((if_neg e41).trans (if_neg e42))))).symm | (unfold s_take; rw [if_neg e38, if_neg e39, if_neg e40, if_neg e41, if_neg e42])))
set_option maxRecDepth 100000 in
theorem s_take_101_fr {f kk : Nat} {s u a b c : Int} (hf : [0, 3, 7, 9, 10, 11, 12, 13, 17, 18, 21, 22, 23, 25, 26, 28, 29, 30, 35, 40, 41, 42, 43, 44, 45, 46, 47, 48, 49, 50].elem f = false) : ∀ (d : Nat) (k : Int) (ν : Nat → Nat → Int), s_take_101 μ s u a b c d k ν f kk = ν f kk := by
  have n0 : f ≠ 0 := by rintro rfl; exact absurd hf (by decide)
  have n3 : f ≠ 3 := by rintro rfl; exact absurd hf (by decide)
  have n7 : f ≠ 7 := by rintro rfl; exact absurd hf (by decide)
  have n9 : f ≠ 9 := by rintro rfl; exact absurd hf (by decide)
  have n10 : f ≠ 10 := by rintro rfl; exact absurd hf (by decide)
  have n11 : f ≠ 11 := by rintro rfl; exact absurd hf (by decide)
  have n12 : f ≠ 12 := by rintro rfl; exact absurd hf (by decide)
  have n13 : f ≠ 13 := by rintro rfl; exact absurd hf (by decide)
  have n17 : f ≠ 17 := by rintro rfl; exact absurd hf (by decide)
  have n18 : f ≠ 18 := by rintro rfl; exact absurd hf (by decide)
  have n21 : f ≠ 21 := by rintro rfl; exact absurd hf (by decide)
  have n22 : f ≠ 22 := by rintro rfl; exact absurd hf (by decide)
  have n23 : f ≠ 23 := by rintro rfl; exact absurd hf (by decide)
  have n25 : f ≠ 25 := by rintro rfl; exact absurd hf (by decide)
  have n26 : f ≠ 26 := by rintro rfl; exact absurd hf (by decide)
  have n28 : f ≠ 28 := by rintro rfl; exact absurd hf (by decide)
  have n29 : f ≠ 29 := by rintro rfl; exact absurd hf (by decide)
  have n30 : f ≠ 30 := by rintro rfl; exact absurd hf (by decide)
  have n35 : f ≠ 35 := by rintro rfl; exact absurd hf (by decide)
  have n40 : f ≠ 40 := by rintro rfl; exact absurd hf (by decide)
  have n41 : f ≠ 41 := by rintro rfl; exact absurd hf (by decide)
  have n42 : f ≠ 42 := by rintro rfl; exact absurd hf (by decide)
  have n43 : f ≠ 43 := by rintro rfl; exact absurd hf (by decide)
  have n44 : f ≠ 44 := by rintro rfl; exact absurd hf (by decide)
  have n45 : f ≠ 45 := by rintro rfl; exact absurd hf (by decide)
  have n46 : f ≠ 46 := by rintro rfl; exact absurd hf (by decide)
  have n47 : f ≠ 47 := by rintro rfl; exact absurd hf (by decide)
  have n48 : f ≠ 48 := by rintro rfl; exact absurd hf (by decide)
  have n49 : f ≠ 49 := by rintro rfl; exact absurd hf (by decide)
  have n50 : f ≠ 50 := by rintro rfl; exact absurd hf (by decide)
  have f0 : ∀ (m : Nat → Nat → Int) (a b : Nat) (v : Int), u2 m 0 a v f b = m f b := fun m a b v => u2_f n0
  have f3 : ∀ (m : Nat → Nat → Int) (a b : Nat) (v : Int), u2 m 3 a v f b = m f b := fun m a b v => u2_f n3
  have f7 : ∀ (m : Nat → Nat → Int) (a b : Nat) (v : Int), u2 m 7 a v f b = m f b := fun m a b v => u2_f n7
  have f9 : ∀ (m : Nat → Nat → Int) (a b : Nat) (v : Int), u2 m 9 a v f b = m f b := fun m a b v => u2_f n9
  have f10 : ∀ (m : Nat → Nat → Int) (a b : Nat) (v : Int), u2 m 10 a v f b = m f b := fun m a b v => u2_f n10
  have f11 : ∀ (m : Nat → Nat → Int) (a b : Nat) (v : Int), u2 m 11 a v f b = m f b := fun m a b v => u2_f n11
  have f12 : ∀ (m : Nat → Nat → Int) (a b : Nat) (v : Int), u2 m 12 a v f b = m f b := fun m a b v => u2_f n12
  have f13 : ∀ (m : Nat → Nat → Int) (a b : Nat) (v : Int), u2 m 13 a v f b = m f b := fun m a b v => u2_f n13
  have f17 : ∀ (m : Nat → Nat → Int) (a b : Nat) (v : Int), u2 m 17 a v f b = m f b := fun m a b v => u2_f n17
  have f18 : ∀ (m : Nat → Nat → Int) (a b : Nat) (v : Int), u2 m 18 a v f b = m f b := fun m a b v => u2_f n18
  have f21 : ∀ (m : Nat → Nat → Int) (a b : Nat) (v : Int), u2 m 21 a v f b = m f b := fun m a b v => u2_f n21
  have f22 : ∀ (m : Nat → Nat → Int) (a b : Nat) (v : Int), u2 m 22 a v f b = m f b := fun m a b v => u2_f n22
  have f23 : ∀ (m : Nat → Nat → Int) (a b : Nat) (v : Int), u2 m 23 a v f b = m f b := fun m a b v => u2_f n23
  have f25 : ∀ (m : Nat → Nat → Int) (a b : Nat) (v : Int), u2 m 25 a v f b = m f b := fun m a b v => u2_f n25
  have f26 : ∀ (m : Nat → Nat → Int) (a b : Nat) (v : Int), u2 m 26 a v f b = m f b := fun m a b v => u2_f n26
  have f28 : ∀ (m : Nat → Nat → Int) (a b : Nat) (v : Int), u2 m 28 a v f b = m f b := fun m a b v => u2_f n28
  have f29 : ∀ (m : Nat → Nat → Int) (a b : Nat) (v : Int), u2 m 29 a v f b = m f b := fun m a b v => u2_f n29
  have f30 : ∀ (m : Nat → Nat → Int) (a b : Nat) (v : Int), u2 m 30 a v f b = m f b := fun m a b v => u2_f n30
  have f35 : ∀ (m : Nat → Nat → Int) (a b : Nat) (v : Int), u2 m 35 a v f b = m f b := fun m a b v => u2_f n35
  have f40 : ∀ (m : Nat → Nat → Int) (a b : Nat) (v : Int), u2 m 40 a v f b = m f b := fun m a b v => u2_f n40
  have f41 : ∀ (m : Nat → Nat → Int) (a b : Nat) (v : Int), u2 m 41 a v f b = m f b := fun m a b v => u2_f n41
  have f42 : ∀ (m : Nat → Nat → Int) (a b : Nat) (v : Int), u2 m 42 a v f b = m f b := fun m a b v => u2_f n42
  have f43 : ∀ (m : Nat → Nat → Int) (a b : Nat) (v : Int), u2 m 43 a v f b = m f b := fun m a b v => u2_f n43
  have f44 : ∀ (m : Nat → Nat → Int) (a b : Nat) (v : Int), u2 m 44 a v f b = m f b := fun m a b v => u2_f n44
  have f45 : ∀ (m : Nat → Nat → Int) (a b : Nat) (v : Int), u2 m 45 a v f b = m f b := fun m a b v => u2_f n45
  have f46 : ∀ (m : Nat → Nat → Int) (a b : Nat) (v : Int), u2 m 46 a v f b = m f b := fun m a b v => u2_f n46
  have f47 : ∀ (m : Nat → Nat → Int) (a b : Nat) (v : Int), u2 m 47 a v f b = m f b := fun m a b v => u2_f n47
  have f48 : ∀ (m : Nat → Nat → Int) (a b : Nat) (v : Int), u2 m 48 a v f b = m f b := fun m a b v => u2_f n48
  have f49 : ∀ (m : Nat → Nat → Int) (a b : Nat) (v : Int), u2 m 49 a v f b = m f b := fun m a b v => u2_f n49
  have f50 : ∀ (m : Nat → Nat → Int) (a b : Nat) (v : Int), u2 m 50 a v f b = m f b := fun m a b v => u2_f n50
  have c_takes : ∀ (m : Nat → Nat → Int) (z_s : Int) (k : Nat), s_takes m z_s f k = m f k := by intros; exact s_takes_fr (by simp only [List.elem_cons, List.elem_nil, beq_eq_false_iff_ne.mpr n7, beq_eq_false_iff_ne.mpr n9, beq_eq_false_iff_ne.mpr n10, beq_eq_false_iff_ne.mpr n11, beq_eq_false_iff_ne.mpr n12, beq_eq_false_iff_ne.mpr n13, beq_eq_false_iff_ne.mpr n17, beq_eq_false_iff_ne.mpr n18, beq_eq_false_iff_ne.mpr n21, beq_eq_false_iff_ne.mpr n22, beq_eq_false_iff_ne.mpr n23, beq_eq_false_iff_ne.mpr n25, beq_eq_false_iff_ne.mpr n26, beq_eq_false_iff_ne.mpr n28, beq_eq_false_iff_ne.mpr n29, beq_eq_false_iff_ne.mpr n30, beq_eq_false_iff_ne.mpr n35, beq_eq_false_iff_ne.mpr n40, beq_eq_false_iff_ne.mpr n41, beq_eq_false_iff_ne.mpr n42, beq_eq_false_iff_ne.mpr n43, beq_eq_false_iff_ne.mpr n44]; try rfl)
  intro d
  induction d with
  | zero => intros; rfl
  | succ d ih =>
    intro k ν
    rw [s_take_101]
    repeat' with_reducible apply f_ite
    all_goals first | rfl | simp only [f0, f3, f7, f9, f10, f11, f12, f13, f17, f18, f21, f22, f23, f25, f26, f28, f29, f30, f35, f40, f41, f42, f43, f44, f45, f46, f47, f48, f49, f50, c_takes, ih]
set_option maxRecDepth 100000 in
theorem s_take_57_fr {f kk : Nat} {s u a b c : Int} (hf : [0, 3, 7, 9, 10, 11, 12, 13, 17, 18, 21, 22, 23, 25, 26, 28, 29, 30, 35, 40, 41, 42, 43, 44, 45, 46, 47, 48, 49, 50].elem f = false) : ∀ (d : Nat) (z y : Int), s_take_57 μ s u a b c d z y f kk = μ f kk := by
  have n0 : f ≠ 0 := by rintro rfl; exact absurd hf (by decide)
  have n3 : f ≠ 3 := by rintro rfl; exact absurd hf (by decide)
  have n7 : f ≠ 7 := by rintro rfl; exact absurd hf (by decide)
  have n9 : f ≠ 9 := by rintro rfl; exact absurd hf (by decide)
  have n10 : f ≠ 10 := by rintro rfl; exact absurd hf (by decide)
  have n11 : f ≠ 11 := by rintro rfl; exact absurd hf (by decide)
  have n12 : f ≠ 12 := by rintro rfl; exact absurd hf (by decide)
  have n13 : f ≠ 13 := by rintro rfl; exact absurd hf (by decide)
  have n17 : f ≠ 17 := by rintro rfl; exact absurd hf (by decide)
  have n18 : f ≠ 18 := by rintro rfl; exact absurd hf (by decide)
  have n21 : f ≠ 21 := by rintro rfl; exact absurd hf (by decide)
  have n22 : f ≠ 22 := by rintro rfl; exact absurd hf (by decide)
  have n23 : f ≠ 23 := by rintro rfl; exact absurd hf (by decide)
  have n25 : f ≠ 25 := by rintro rfl; exact absurd hf (by decide)
  have n26 : f ≠ 26 := by rintro rfl; exact absurd hf (by decide)
  have n28 : f ≠ 28 := by rintro rfl; exact absurd hf (by decide)
  have n29 : f ≠ 29 := by rintro rfl; exact absurd hf (by decide)
  have n30 : f ≠ 30 := by rintro rfl; exact absurd hf (by decide)
  have n35 : f ≠ 35 := by rintro rfl; exact absurd hf (by decide)
  have n40 : f ≠ 40 := by rintro rfl; exact absurd hf (by decide)
  have n41 : f ≠ 41 := by rintro rfl; exact absurd hf (by decide)
  have n42 : f ≠ 42 := by rintro rfl; exact absurd hf (by decide)
  have n43 : f ≠ 43 := by rintro rfl; exact absurd hf (by decide)
  have n44 : f ≠ 44 := by rintro rfl; exact absurd hf (by decide)
  have n45 : f ≠ 45 := by rintro rfl; exact absurd hf (by decide)
  have n46 : f ≠ 46 := by rintro rfl; exact absurd hf (by decide)
  have n47 : f ≠ 47 := by rintro rfl; exact absurd hf (by decide)
  have n48 : f ≠ 48 := by rintro rfl; exact absurd hf (by decide)
  have n49 : f ≠ 49 := by rintro rfl; exact absurd hf (by decide)
  have n50 : f ≠ 50 := by rintro rfl; exact absurd hf (by decide)
  have f0 : ∀ (m : Nat → Nat → Int) (a b : Nat) (v : Int), u2 m 0 a v f b = m f b := fun m a b v => u2_f n0
  have f3 : ∀ (m : Nat → Nat → Int) (a b : Nat) (v : Int), u2 m 3 a v f b = m f b := fun m a b v => u2_f n3
  have f7 : ∀ (m : Nat → Nat → Int) (a b : Nat) (v : Int), u2 m 7 a v f b = m f b := fun m a b v => u2_f n7
  have f9 : ∀ (m : Nat → Nat → Int) (a b : Nat) (v : Int), u2 m 9 a v f b = m f b := fun m a b v => u2_f n9
  have f10 : ∀ (m : Nat → Nat → Int) (a b : Nat) (v : Int), u2 m 10 a v f b = m f b := fun m a b v => u2_f n10
  have f11 : ∀ (m : Nat → Nat → Int) (a b : Nat) (v : Int), u2 m 11 a v f b = m f b := fun m a b v => u2_f n11
  have f12 : ∀ (m : Nat → Nat → Int) (a b : Nat) (v : Int), u2 m 12 a v f b = m f b := fun m a b v => u2_f n12
  have f13 : ∀ (m : Nat → Nat → Int) (a b : Nat) (v : Int), u2 m 13 a v f b = m f b := fun m a b v => u2_f n13
  have f17 : ∀ (m : Nat → Nat → Int) (a b : Nat) (v : Int), u2 m 17 a v f b = m f b := fun m a b v => u2_f n17
  have f18 : ∀ (m : Nat → Nat → Int) (a b : Nat) (v : Int), u2 m 18 a v f b = m f b := fun m a b v => u2_f n18
  have f21 : ∀ (m : Nat → Nat → Int) (a b : Nat) (v : Int), u2 m 21 a v f b = m f b := fun m a b v => u2_f n21
  have f22 : ∀ (m : Nat → Nat → Int) (a b : Nat) (v : Int), u2 m 22 a v f b = m f b := fun m a b v => u2_f n22
  have f23 : ∀ (m : Nat → Nat → Int) (a b : Nat) (v : Int), u2 m 23 a v f b = m f b := fun m a b v => u2_f n23
  have f25 : ∀ (m : Nat → Nat → Int) (a b : Nat) (v : Int), u2 m 25 a v f b = m f b := fun m a b v => u2_f n25
  have f26 : ∀ (m : Nat → Nat → Int) (a b : Nat) (v : Int), u2 m 26 a v f b = m f b := fun m a b v => u2_f n26
  have f28 : ∀ (m : Nat → Nat → Int) (a b : Nat) (v : Int), u2 m 28 a v f b = m f b := fun m a b v => u2_f n28
  have f29 : ∀ (m : Nat → Nat → Int) (a b : Nat) (v : Int), u2 m 29 a v f b = m f b := fun m a b v => u2_f n29
  have f30 : ∀ (m : Nat → Nat → Int) (a b : Nat) (v : Int), u2 m 30 a v f b = m f b := fun m a b v => u2_f n30
  have f35 : ∀ (m : Nat → Nat → Int) (a b : Nat) (v : Int), u2 m 35 a v f b = m f b := fun m a b v => u2_f n35
  have f40 : ∀ (m : Nat → Nat → Int) (a b : Nat) (v : Int), u2 m 40 a v f b = m f b := fun m a b v => u2_f n40
  have f41 : ∀ (m : Nat → Nat → Int) (a b : Nat) (v : Int), u2 m 41 a v f b = m f b := fun m a b v => u2_f n41
  have f42 : ∀ (m : Nat → Nat → Int) (a b : Nat) (v : Int), u2 m 42 a v f b = m f b := fun m a b v => u2_f n42
  have f43 : ∀ (m : Nat → Nat → Int) (a b : Nat) (v : Int), u2 m 43 a v f b = m f b := fun m a b v => u2_f n43
  have f44 : ∀ (m : Nat → Nat → Int) (a b : Nat) (v : Int), u2 m 44 a v f b = m f b := fun m a b v => u2_f n44
  have f45 : ∀ (m : Nat → Nat → Int) (a b : Nat) (v : Int), u2 m 45 a v f b = m f b := fun m a b v => u2_f n45
  have f46 : ∀ (m : Nat → Nat → Int) (a b : Nat) (v : Int), u2 m 46 a v f b = m f b := fun m a b v => u2_f n46
  have f47 : ∀ (m : Nat → Nat → Int) (a b : Nat) (v : Int), u2 m 47 a v f b = m f b := fun m a b v => u2_f n47
  have f48 : ∀ (m : Nat → Nat → Int) (a b : Nat) (v : Int), u2 m 48 a v f b = m f b := fun m a b v => u2_f n48
  have f49 : ∀ (m : Nat → Nat → Int) (a b : Nat) (v : Int), u2 m 49 a v f b = m f b := fun m a b v => u2_f n49
  have f50 : ∀ (m : Nat → Nat → Int) (a b : Nat) (v : Int), u2 m 50 a v f b = m f b := fun m a b v => u2_f n50
  have c_takes : ∀ (m : Nat → Nat → Int) (z_s : Int) (k : Nat), s_takes m z_s f k = m f k := by intros; exact s_takes_fr (by simp only [List.elem_cons, List.elem_nil, beq_eq_false_iff_ne.mpr n7, beq_eq_false_iff_ne.mpr n9, beq_eq_false_iff_ne.mpr n10, beq_eq_false_iff_ne.mpr n11, beq_eq_false_iff_ne.mpr n12, beq_eq_false_iff_ne.mpr n13, beq_eq_false_iff_ne.mpr n17, beq_eq_false_iff_ne.mpr n18, beq_eq_false_iff_ne.mpr n21, beq_eq_false_iff_ne.mpr n22, beq_eq_false_iff_ne.mpr n23, beq_eq_false_iff_ne.mpr n25, beq_eq_false_iff_ne.mpr n26, beq_eq_false_iff_ne.mpr n28, beq_eq_false_iff_ne.mpr n29, beq_eq_false_iff_ne.mpr n30, beq_eq_false_iff_ne.mpr n35, beq_eq_false_iff_ne.mpr n40, beq_eq_false_iff_ne.mpr n41, beq_eq_false_iff_ne.mpr n42, beq_eq_false_iff_ne.mpr n43, beq_eq_false_iff_ne.mpr n44]; try rfl)
  intro d
  induction d with
  | zero => intros; rfl
  | succ d ih =>
    intro z y
    rw [s_take_57]
    repeat' with_reducible apply f_ite
    all_goals first | rfl | simp only [f0, f3, f7, f9, f10, f11, f12, f13, f17, f18, f21, f22, f23, f25, f26, f28, f29, f30, f35, f40, f41, f42, f43, f44, f45, f46, f47, f48, f49, f50, c_takes, ih, s_take_101_fr hf]
set_option maxRecDepth 100000 in
theorem s_take_19_fr {f kk : Nat} {s u a b c : Int} (hf : [0, 3, 7, 9, 10, 11, 12, 13, 17, 18, 21, 22, 23, 25, 26, 28, 29, 30, 35, 40, 41, 42, 43, 44, 45, 46, 47, 48, 49, 50].elem f = false) : ∀ (d : Nat) (y : Int), s_take_19 μ s u a b c d y f kk = μ f kk := by
  have n0 : f ≠ 0 := by rintro rfl; exact absurd hf (by decide)
  have n3 : f ≠ 3 := by rintro rfl; exact absurd hf (by decide)
  have n7 : f ≠ 7 := by rintro rfl; exact absurd hf (by decide)
  have n9 : f ≠ 9 := by rintro rfl; exact absurd hf (by decide)
  have n10 : f ≠ 10 := by rintro rfl; exact absurd hf (by decide)
  have n11 : f ≠ 11 := by rintro rfl; exact absurd hf (by decide)
  have n12 : f ≠ 12 := by rintro rfl; exact absurd hf (by decide)
  have n13 : f ≠ 13 := by rintro rfl; exact absurd hf (by decide)
  have n17 : f ≠ 17 := by rintro rfl; exact absurd hf (by decide)
  have n18 : f ≠ 18 := by rintro rfl; exact absurd hf (by decide)
  have n21 : f ≠ 21 := by rintro rfl; exact absurd hf (by decide)
  have n22 : f ≠ 22 := by rintro rfl; exact absurd hf (by decide)
  have n23 : f ≠ 23 := by rintro rfl; exact absurd hf (by decide)
  have n25 : f ≠ 25 := by rintro rfl; exact absurd hf (by decide)
  have n26 : f ≠ 26 := by rintro rfl; exact absurd hf (by decide)
  have n28 : f ≠ 28 := by rintro rfl; exact absurd hf (by decide)
  have n29 : f ≠ 29 := by rintro rfl; exact absurd hf (by decide)
  have n30 : f ≠ 30 := by rintro rfl; exact absurd hf (by decide)
  have n35 : f ≠ 35 := by rintro rfl; exact absurd hf (by decide)
  have n40 : f ≠ 40 := by rintro rfl; exact absurd hf (by decide)
  have n41 : f ≠ 41 := by rintro rfl; exact absurd hf (by decide)
  have n42 : f ≠ 42 := by rintro rfl; exact absurd hf (by decide)
  have n43 : f ≠ 43 := by rintro rfl; exact absurd hf (by decide)
  have n44 : f ≠ 44 := by rintro rfl; exact absurd hf (by decide)
  have n45 : f ≠ 45 := by rintro rfl; exact absurd hf (by decide)
  have n46 : f ≠ 46 := by rintro rfl; exact absurd hf (by decide)
  have n47 : f ≠ 47 := by rintro rfl; exact absurd hf (by decide)
  have n48 : f ≠ 48 := by rintro rfl; exact absurd hf (by decide)
  have n49 : f ≠ 49 := by rintro rfl; exact absurd hf (by decide)
  have n50 : f ≠ 50 := by rintro rfl; exact absurd hf (by decide)
  have f0 : ∀ (m : Nat → Nat → Int) (a b : Nat) (v : Int), u2 m 0 a v f b = m f b := fun m a b v => u2_f n0
  have f3 : ∀ (m : Nat → Nat → Int) (a b : Nat) (v : Int), u2 m 3 a v f b = m f b := fun m a b v => u2_f n3
  have f7 : ∀ (m : Nat → Nat → Int) (a b : Nat) (v : Int), u2 m 7 a v f b = m f b := fun m a b v => u2_f n7
  have f9 : ∀ (m : Nat → Nat → Int) (a b : Nat) (v : Int), u2 m 9 a v f b = m f b := fun m a b v => u2_f n9
  have f10 : ∀ (m : Nat → Nat → Int) (a b : Nat) (v : Int), u2 m 10 a v f b = m f b := fun m a b v => u2_f n10
  have f11 : ∀ (m : Nat → Nat → Int) (a b : Nat) (v : Int), u2 m 11 a v f b = m f b := fun m a b v => u2_f n11
  have f12 : ∀ (m : Nat → Nat → Int) (a b : Nat) (v : Int), u2 m 12 a v f b = m f b := fun m a b v => u2_f n12
  have f13 : ∀ (m : Nat → Nat → Int) (a b : Nat) (v : Int), u2 m 13 a v f b = m f b := fun m a b v => u2_f n13
  have f17 : ∀ (m : Nat → Nat → Int) (a b : Nat) (v : Int), u2 m 17 a v f b = m f b := fun m a b v => u2_f n17
  have f18 : ∀ (m : Nat → Nat → Int) (a b : Nat) (v : Int), u2 m 18 a v f b = m f b := fun m a b v => u2_f n18
  have f21 : ∀ (m : Nat → Nat → Int) (a b : Nat) (v : Int), u2 m 21 a v f b = m f b := fun m a b v => u2_f n21
  have f22 : ∀ (m : Nat → Nat → Int) (a b : Nat) (v : Int), u2 m 22 a v f b = m f b := fun m a b v => u2_f n22
  have f23 : ∀ (m : Nat → Nat → Int) (a b : Nat) (v : Int), u2 m 23 a v f b = m f b := fun m a b v => u2_f n23
  have f25 : ∀ (m : Nat → Nat → Int) (a b : Nat) (v : Int), u2 m 25 a v f b = m f b := fun m a b v => u2_f n25
  have f26 : ∀ (m : Nat → Nat → Int) (a b : Nat) (v : Int), u2 m 26 a v f b = m f b := fun m a b v => u2_f n26
  have f28 : ∀ (m : Nat → Nat → Int) (a b : Nat) (v : Int), u2 m 28 a v f b = m f b := fun m a b v => u2_f n28
  have f29 : ∀ (m : Nat → Nat → Int) (a b : Nat) (v : Int), u2 m 29 a v f b = m f b := fun m a b v => u2_f n29
  have f30 : ∀ (m : Nat → Nat → Int) (a b : Nat) (v : Int), u2 m 30 a v f b = m f b := fun m a b v => u2_f n30
  have f35 : ∀ (m : Nat → Nat → Int) (a b : Nat) (v : Int), u2 m 35 a v f b = m f b := fun m a b v => u2_f n35
  have f40 : ∀ (m : Nat → Nat → Int) (a b : Nat) (v : Int), u2 m 40 a v f b = m f b := fun m a b v => u2_f n40
  have f41 : ∀ (m : Nat → Nat → Int) (a b : Nat) (v : Int), u2 m 41 a v f b = m f b := fun m a b v => u2_f n41
  have f42 : ∀ (m : Nat → Nat → Int) (a b : Nat) (v : Int), u2 m 42 a v f b = m f b := fun m a b v => u2_f n42
  have f43 : ∀ (m : Nat → Nat → Int) (a b : Nat) (v : Int), u2 m 43 a v f b = m f b := fun m a b v => u2_f n43
  have f44 : ∀ (m : Nat → Nat → Int) (a b : Nat) (v : Int), u2 m 44 a v f b = m f b := fun m a b v => u2_f n44
  have f45 : ∀ (m : Nat → Nat → Int) (a b : Nat) (v : Int), u2 m 45 a v f b = m f b := fun m a b v => u2_f n45
  have f46 : ∀ (m : Nat → Nat → Int) (a b : Nat) (v : Int), u2 m 46 a v f b = m f b := fun m a b v => u2_f n46
  have f47 : ∀ (m : Nat → Nat → Int) (a b : Nat) (v : Int), u2 m 47 a v f b = m f b := fun m a b v => u2_f n47
  have f48 : ∀ (m : Nat → Nat → Int) (a b : Nat) (v : Int), u2 m 48 a v f b = m f b := fun m a b v => u2_f n48
  have f49 : ∀ (m : Nat → Nat → Int) (a b : Nat) (v : Int), u2 m 49 a v f b = m f b := fun m a b v => u2_f n49
  have f50 : ∀ (m : Nat → Nat → Int) (a b : Nat) (v : Int), u2 m 50 a v f b = m f b := fun m a b v => u2_f n50
  have c_takes : ∀ (m : Nat → Nat → Int) (z_s : Int) (k : Nat), s_takes m z_s f k = m f k := by intros; exact s_takes_fr (by simp only [List.elem_cons, List.elem_nil, beq_eq_false_iff_ne.mpr n7, beq_eq_false_iff_ne.mpr n9, beq_eq_false_iff_ne.mpr n10, beq_eq_false_iff_ne.mpr n11, beq_eq_false_iff_ne.mpr n12, beq_eq_false_iff_ne.mpr n13, beq_eq_false_iff_ne.mpr n17, beq_eq_false_iff_ne.mpr n18, beq_eq_false_iff_ne.mpr n21, beq_eq_false_iff_ne.mpr n22, beq_eq_false_iff_ne.mpr n23, beq_eq_false_iff_ne.mpr n25, beq_eq_false_iff_ne.mpr n26, beq_eq_false_iff_ne.mpr n28, beq_eq_false_iff_ne.mpr n29, beq_eq_false_iff_ne.mpr n30, beq_eq_false_iff_ne.mpr n35, beq_eq_false_iff_ne.mpr n40, beq_eq_false_iff_ne.mpr n41, beq_eq_false_iff_ne.mpr n42, beq_eq_false_iff_ne.mpr n43, beq_eq_false_iff_ne.mpr n44]; try rfl)
  intro d
  induction d with
  | zero => intros; rfl
  | succ d ih =>
    intro y
    rw [s_take_19]
    repeat' with_reducible apply f_ite
    all_goals first | rfl | simp only [f0, f3, f7, f9, f10, f11, f12, f13, f17, f18, f21, f22, f23, f25, f26, f28, f29, f30, f35, f40, f41, f42, f43, f44, f45, f46, f47, f48, f49, f50, c_takes, ih, s_take_101_fr hf, s_take_57_fr hf]
set_option maxRecDepth 100000 in
theorem s_take_fr {f kk : Nat} {s u a b c : Int} (hf : [0, 3, 7, 9, 10, 11, 12, 13, 17, 18, 21, 22, 23, 25, 26, 28, 29, 30, 35, 40, 41, 42, 43, 44, 45, 46, 47, 48, 49, 50].elem f = false) : s_take μ s u a b c f kk = μ f kk := by
  have n0 : f ≠ 0 := by rintro rfl; exact absurd hf (by decide)
  have n3 : f ≠ 3 := by rintro rfl; exact absurd hf (by decide)
  have n7 : f ≠ 7 := by rintro rfl; exact absurd hf (by decide)
  have n9 : f ≠ 9 := by rintro rfl; exact absurd hf (by decide)
  have n10 : f ≠ 10 := by rintro rfl; exact absurd hf (by decide)
  have n11 : f ≠ 11 := by rintro rfl; exact absurd hf (by decide)
  have n12 : f ≠ 12 := by rintro rfl; exact absurd hf (by decide)
  have n13 : f ≠ 13 := by rintro rfl; exact absurd hf (by decide)
  have n17 : f ≠ 17 := by rintro rfl; exact absurd hf (by decide)
  have n18 : f ≠ 18 := by rintro rfl; exact absurd hf (by decide)
  have n21 : f ≠ 21 := by rintro rfl; exact absurd hf (by decide)
  have n22 : f ≠ 22 := by rintro rfl; exact absurd hf (by decide)
  have n23 : f ≠ 23 := by rintro rfl; exact absurd hf (by decide)
  have n25 : f ≠ 25 := by rintro rfl; exact absurd hf (by decide)
  have n26 : f ≠ 26 := by rintro rfl; exact absurd hf (by decide)
  have n28 : f ≠ 28 := by rintro rfl; exact absurd hf (by decide)
  have n29 : f ≠ 29 := by rintro rfl; exact absurd hf (by decide)
  have n30 : f ≠ 30 := by rintro rfl; exact absurd hf (by decide)
  have n35 : f ≠ 35 := by rintro rfl; exact absurd hf (by decide)
  have n40 : f ≠ 40 := by rintro rfl; exact absurd hf (by decide)
  have n41 : f ≠ 41 := by rintro rfl; exact absurd hf (by decide)
  have n42 : f ≠ 42 := by rintro rfl; exact absurd hf (by decide)
  have n43 : f ≠ 43 := by rintro rfl; exact absurd hf (by decide)
  have n44 : f ≠ 44 := by rintro rfl; exact absurd hf (by decide)
  have n45 : f ≠ 45 := by rintro rfl; exact absurd hf (by decide)
  have n46 : f ≠ 46 := by rintro rfl; exact absurd hf (by decide)
  have n47 : f ≠ 47 := by rintro rfl; exact absurd hf (by decide)
  have n48 : f ≠ 48 := by rintro rfl; exact absurd hf (by decide)
  have n49 : f ≠ 49 := by rintro rfl; exact absurd hf (by decide)
  have n50 : f ≠ 50 := by rintro rfl; exact absurd hf (by decide)
  have f0 : ∀ (m : Nat → Nat → Int) (a b : Nat) (v : Int), u2 m 0 a v f b = m f b := fun m a b v => u2_f n0
  have f3 : ∀ (m : Nat → Nat → Int) (a b : Nat) (v : Int), u2 m 3 a v f b = m f b := fun m a b v => u2_f n3
  have f7 : ∀ (m : Nat → Nat → Int) (a b : Nat) (v : Int), u2 m 7 a v f b = m f b := fun m a b v => u2_f n7
  have f9 : ∀ (m : Nat → Nat → Int) (a b : Nat) (v : Int), u2 m 9 a v f b = m f b := fun m a b v => u2_f n9
  have f10 : ∀ (m : Nat → Nat → Int) (a b : Nat) (v : Int), u2 m 10 a v f b = m f b := fun m a b v => u2_f n10
  have f11 : ∀ (m : Nat → Nat → Int) (a b : Nat) (v : Int), u2 m 11 a v f b = m f b := fun m a b v => u2_f n11
  have f12 : ∀ (m : Nat → Nat → Int) (a b : Nat) (v : Int), u2 m 12 a v f b = m f b := fun m a b v => u2_f n12
  have f13 : ∀ (m : Nat → Nat → Int) (a b : Nat) (v : Int), u2 m 13 a v f b = m f b := fun m a b v => u2_f n13
  have f17 : ∀ (m : Nat → Nat → Int) (a b : Nat) (v : Int), u2 m 17 a v f b = m f b := fun m a b v => u2_f n17
  have f18 : ∀ (m : Nat → Nat → Int) (a b : Nat) (v : Int), u2 m 18 a v f b = m f b := fun m a b v => u2_f n18
  have f21 : ∀ (m : Nat → Nat → Int) (a b : Nat) (v : Int), u2 m 21 a v f b = m f b := fun m a b v => u2_f n21
  have f22 : ∀ (m : Nat → Nat → Int) (a b : Nat) (v : Int), u2 m 22 a v f b = m f b := fun m a b v => u2_f n22
  have f23 : ∀ (m : Nat → Nat → Int) (a b : Nat) (v : Int), u2 m 23 a v f b = m f b := fun m a b v => u2_f n23
  have f25 : ∀ (m : Nat → Nat → Int) (a b : Nat) (v : Int), u2 m 25 a v f b = m f b := fun m a b v => u2_f n25
  have f26 : ∀ (m : Nat → Nat → Int) (a b : Nat) (v : Int), u2 m 26 a v f b = m f b := fun m a b v => u2_f n26
  have f28 : ∀ (m : Nat → Nat → Int) (a b : Nat) (v : Int), u2 m 28 a v f b = m f b := fun m a b v => u2_f n28
  have f29 : ∀ (m : Nat → Nat → Int) (a b : Nat) (v : Int), u2 m 29 a v f b = m f b := fun m a b v => u2_f n29
  have f30 : ∀ (m : Nat → Nat → Int) (a b : Nat) (v : Int), u2 m 30 a v f b = m f b := fun m a b v => u2_f n30
  have f35 : ∀ (m : Nat → Nat → Int) (a b : Nat) (v : Int), u2 m 35 a v f b = m f b := fun m a b v => u2_f n35
  have f40 : ∀ (m : Nat → Nat → Int) (a b : Nat) (v : Int), u2 m 40 a v f b = m f b := fun m a b v => u2_f n40
  have f41 : ∀ (m : Nat → Nat → Int) (a b : Nat) (v : Int), u2 m 41 a v f b = m f b := fun m a b v => u2_f n41
  have f42 : ∀ (m : Nat → Nat → Int) (a b : Nat) (v : Int), u2 m 42 a v f b = m f b := fun m a b v => u2_f n42
  have f43 : ∀ (m : Nat → Nat → Int) (a b : Nat) (v : Int), u2 m 43 a v f b = m f b := fun m a b v => u2_f n43
  have f44 : ∀ (m : Nat → Nat → Int) (a b : Nat) (v : Int), u2 m 44 a v f b = m f b := fun m a b v => u2_f n44
  have f45 : ∀ (m : Nat → Nat → Int) (a b : Nat) (v : Int), u2 m 45 a v f b = m f b := fun m a b v => u2_f n45
  have f46 : ∀ (m : Nat → Nat → Int) (a b : Nat) (v : Int), u2 m 46 a v f b = m f b := fun m a b v => u2_f n46
  have f47 : ∀ (m : Nat → Nat → Int) (a b : Nat) (v : Int), u2 m 47 a v f b = m f b := fun m a b v => u2_f n47
  have f48 : ∀ (m : Nat → Nat → Int) (a b : Nat) (v : Int), u2 m 48 a v f b = m f b := fun m a b v => u2_f n48
  have f49 : ∀ (m : Nat → Nat → Int) (a b : Nat) (v : Int), u2 m 49 a v f b = m f b := fun m a b v => u2_f n49
  have f50 : ∀ (m : Nat → Nat → Int) (a b : Nat) (v : Int), u2 m 50 a v f b = m f b := fun m a b v => u2_f n50
  have c_takes : ∀ (m : Nat → Nat → Int) (z_s : Int) (k : Nat), s_takes m z_s f k = m f k := by intros; exact s_takes_fr (by simp only [List.elem_cons, List.elem_nil, beq_eq_false_iff_ne.mpr n7, beq_eq_false_iff_ne.mpr n9, beq_eq_false_iff_ne.mpr n10, beq_eq_false_iff_ne.mpr n11, beq_eq_false_iff_ne.mpr n12, beq_eq_false_iff_ne.mpr n13, beq_eq_false_iff_ne.mpr n17, beq_eq_false_iff_ne.mpr n18, beq_eq_false_iff_ne.mpr n21, beq_eq_false_iff_ne.mpr n22, beq_eq_false_iff_ne.mpr n23, beq_eq_false_iff_ne.mpr n25, beq_eq_false_iff_ne.mpr n26, beq_eq_false_iff_ne.mpr n28, beq_eq_false_iff_ne.mpr n29, beq_eq_false_iff_ne.mpr n30, beq_eq_false_iff_ne.mpr n35, beq_eq_false_iff_ne.mpr n40, beq_eq_false_iff_ne.mpr n41, beq_eq_false_iff_ne.mpr n42, beq_eq_false_iff_ne.mpr n43, beq_eq_false_iff_ne.mpr n44]; try rfl)
  unfold s_take
  repeat' with_reducible apply f_ite
  all_goals first | rfl | simp only [f0, f3, f7, f9, f10, f11, f12, f13, f17, f18, f21, f22, f23, f25, f26, f28, f29, f30, f35, f40, f41, f42, f43, f44, f45, f46, f47, f48, f49, f50, c_takes, s_take_101_fr hf, s_take_57_fr hf, s_take_19_fr hf]
def v_deliver_41 (μ : Nat → Nat → Int) (p : Int) : Nat → Int → (Nat → Nat → Int) → Int
  | 0, _, _ => 0
  | d + 1, k, ν => (if (ν 49 0) ≤ k then (if (v_takes ν (1 - (ν 51 p.toNat))) = 0 then (v_takes ν (1 - (ν 51 p.toNat))) else (v_takes ν (1 - (ν 51 p.toNat)))) else (v_deliver_41 μ p d (k + 1) (u2 ν 50 k.toNat (ν 60 ((1200 * p) + k).toNat))))
def s_deliver_41 (μ : Nat → Nat → Int) (p : Int) : Nat → Int → (Nat → Nat → Int) → (Nat → Nat → Int)
  | 0, _, ν => ν
  | d + 1, k, ν => (if (ν 49 0) ≤ k then (if (v_takes ν (1 - (ν 51 p.toNat))) = 0 then (u2 (s_takes ν (1 - (ν 51 p.toNat))) 59 p.toNat 1) else (s_takes ν (1 - (ν 51 p.toNat)))) else (s_deliver_41 μ p d (k + 1) (u2 ν 50 k.toNat (ν 60 ((1200 * p) + k).toNat))))
def v_deliver (μ : Nat → Nat → Int) (p : Int) : Int := (if (v_noPlace μ p) = 0 then (v_deliver_41 μ p 2049 0 (u2 (u2 (u2 (u2 (u2 (u2 μ 0 0 (if (v_noPlace μ p) = 0 then 0 else 1)) 45 0 (μ 52 p.toNat)) 46 0 (μ 53 p.toNat)) 47 0 (μ 54 p.toNat)) 48 0 (μ 55 p.toNat)) 49 0 (μ 56 p.toNat))) else 0)
def s_deliver (μ : Nat → Nat → Int) (p : Int) : Nat → Nat → Int := (if (v_noPlace μ p) = 0 then (s_deliver_41 μ p 2049 0 (u2 (u2 (u2 (u2 (u2 (u2 μ 0 0 (if (v_noPlace μ p) = 0 then 0 else 1)) 45 0 (μ 52 p.toNat)) 46 0 (μ 53 p.toNat)) 47 0 (μ 54 p.toNat)) 48 0 (μ 55 p.toNat)) 49 0 (μ 56 p.toNat))) else (u2 μ 0 0 (if (v_noPlace μ p) = 0 then 0 else 1)))
set_option maxRecDepth 100000 in
theorem m_deliver (hF : mm_F G) (htr : L.stackTraces = false) (hx : mx A ax) (hV : mV μ) {p : Int} (h1 : -2147483648 ≤ p) (h1a : p < 2147483648) (hP : mP2 μ) :
    mm_Met L G SX6_deliver [.ref (A 99), .int (iI p)] (hm G A ax h0 μ) 0 0 (mRetS (some (.int (iI (v_deliver μ p)))) (hm G A ax h0 (s_deliver μ p)) (mV (s_deliver μ p) ∧ (fun r m => (0 ≤ r ∧ r ≤ 6) ∧ mP2 m) (v_deliver μ p) (s_deliver μ p))) mm_no := by
  refine mi_meth MX6_deliver 400 hF htr okX6_deliver (av := [aR (A 99), aI p]) (by decide +kernel) (Nat.le_of_ble_eq_true rfl) cmX6_deliver (fun θ hc => ?_)
  have loop41 : ∀ (R : Int) (S : Nat → Nat → Int) (d : Nat) (k : Int) (ν : Nat → Nat → Int) (hV : mV ν), (0 ≤ p ∧ p < 64) → (0 ≤ k ∧ k ≤ ν 49 0) → (ν 49 0 ≤ 1200) → (mP2 ν) → (ν 49 0 - k) < (d : Int) → v_deliver_41 μ p d k ν = R → s_deliver_41 μ p d k ν = S → mi_W L G MX6_deliver 0 0 (mRetS (some (.int (iI R))) (hm G A ax h0 S) (mV S ∧ (fun r m => (0 ≤ r ∧ r ≤ 6) ∧ mP2 m) R S)) mm_no θ 41 [(2, aI k), (0, aR (A 99)), (1, aI p)] [] (hm G A ax h0 ν) 0 0 := by
    intro R S d
    induction d with
    | zero =>
      intro k ν hV hi0 hi1 hi2 hP hms hvr hsr
      have z1 : 0 ≤ ν 49 0 ∧ ν 49 0 ≤ 2048 := hV 49 0
      omega
    | succ d ih =>
      intro k ν hV hi0 hi1 hi2 hP hms hvr hsr
      refine mi_sound hc okX6_deliver 400 _ _ _ _ _ _ ?_
      refine ⟨_, hm_oi hx, aI (ν 49 0), rfl, ?_⟩
      have t1 := (show 0 ≤ ν 49 0 ∧ ν 49 0 ≤ 2048 from hV.g 49 0)
      refine ⟨by omega, fun (e2 : (ν 49 0) ≤ k) => ?_, fun (e2 : ¬ ((ν 49 0) ≤ k)) => ?_⟩
      · refine ⟨_, hm_oi hx, aR (A 51), rfl, ?_⟩
        refine ⟨64, _, (ν 51 p.toNat), hm_a hx 51 rfl, by omega, rfl, ?_⟩
        have t3 := (show 0 ≤ ν 51 p.toNat ∧ ν 51 p.toNat ≤ 1 from hV.g 51 p.toNat)
        refine ⟨⟨_, hm_oi hx⟩, _, _, _, _, (m_takes hF htr hx hV (s := (1 - (ν 51 p.toNat))) (by omega) (by omega) hP), Nat.le_refl _, Nat.le_refl _, mkis_ (r := some (aI (v_takes ν (1 - (ν 51 p.toNat))))) (fun ⟨hV4, hp5⟩ => ?_), fun _ _ q => q.elim⟩
        have hp5 : (0 ≤ (v_takes ν (1 - (ν 51 p.toNat))) ∧ (v_takes ν (1 - (ν 51 p.toNat))) ≤ 6) ∧ mP2 (s_takes ν (1 - (ν 51 p.toNat))) := hp5
        refine ⟨by omega, fun (e6 : ¬ ((v_takes ν (1 - (ν 51 p.toNat))) = 0)) => ?_, fun (e6 : (v_takes ν (1 - (ν 51 p.toNat))) = 0) => ?_⟩
        · refine mi_nl [(2, aI (v_takes ν (1 - (ν 51 p.toNat)))), (0, aR (A 99)), (1, aI p)] rfl ?_
          exact ⟨mRetIP (P := fun r m => (0 ≤ r ∧ r ≤ 6) ∧ mP2 m) (hvr.symm.trans (by first | exact (if_pos e2).trans (if_neg e6) | (rw [v_deliver_41]; rw [if_pos e2, if_neg e6]))) (hsr.symm.trans (by first | exact (if_pos e2).trans (if_neg e6) | (rw [s_deliver_41]; rw [if_pos e2, if_neg e6]))) hV4 ⟨by omega, hp5.2⟩, Nat.le_refl _, Nat.le_refl _⟩
        · refine mi_nl [(2, aI (v_takes ν (1 - (ν 51 p.toNat)))), (0, aR (A 99)), (1, aI p)] rfl ?_
          refine ⟨_, hm_oi hx, aR (A 59), rfl, ?_⟩
          refine ⟨64, _, _, hm_a hx 59 rfl, by omega, trivial, hm_pi hx (i := p.toNat) (v := 1) rfl rfl rfl rfl, ?_⟩
          have hV7 := hV4.u (f := 59) (k := p.toNat) (v := 1) (show 0 ≤ 1 ∧ 1 ≤ 1 from by omega)
          exact ⟨mRetIP (P := fun r m => (0 ≤ r ∧ r ≤ 6) ∧ mP2 m) (hvr.symm.trans (by first | exact (if_pos e2).trans (if_pos e6) | (rw [v_deliver_41]; rw [if_pos e2, if_pos e6]))) (hsr.symm.trans (by first | exact (if_pos e2).trans (if_pos e6) | (rw [s_deliver_41]; rw [if_pos e2, if_pos e6]))) hV7 ⟨by omega, (mP2_u (by decide) hp5.2)⟩, Nat.le_refl _, Nat.le_refl _⟩
      · refine ⟨_, hm_oi hx, aR (A 50), rfl, ?_⟩
        refine ⟨_, hm_oi hx, aR (A 60), rfl, ?_⟩
        refine ⟨76800, _, (ν 60 ((1200 * p) + k).toNat), hm_a hx 60 rfl, by omega, rfl, ?_⟩
        have t8 := (show -128 ≤ ν 60 ((1200 * p) + k).toNat ∧ ν 60 ((1200 * p) + k).toNat ≤ 127 from hV.g 60 ((1200 * p) + k).toNat)
        refine ⟨2048, _, _, hm_a hx 50 rfl, by omega, (show -128 ≤ (ν 60 ((1200 * p) + k).toNat) ∧ (ν 60 ((1200 * p) + k).toNat) < 128 from by omega), hm_pi hx (i := k.toNat) (v := (ν 60 ((1200 * p) + k).toNat)) rfl rfl rfl rfl, ?_⟩
        have hV9 := hV.u (f := 50) (k := k.toNat) (v := (ν 60 ((1200 * p) + k).toNat)) (show -128 ≤ (ν 60 ((1200 * p) + k).toNat) ∧ (ν 60 ((1200 * p) + k).toNat) ≤ 127 from by omega)
        exact mi_Wsub (List.forall_mem_cons.mpr ⟨(.head _), List.forall_mem_cons.mpr ⟨(.tail _ (.head _)), List.forall_mem_cons.mpr ⟨(.tail _ (.tail _ (.head _))), fun _ h => absurd h List.not_mem_nil⟩⟩⟩) (ih (k + 1) (u2 ν 50 k.toNat (ν 60 ((1200 * p) + k).toNat)) hV9 (show 0 ≤ p ∧ p < 64 from by omega) (show 0 ≤ (k + 1) ∧ (k + 1) ≤ (ν 49 0) from by omega) (show (ν 49 0) ≤ 1200 from by omega) (mP2_u (by decide) hP) (show ((ν 49 0) - (k + 1)) < (d : Int) from by omega) (Eq.trans (by first | exact (if_neg e2).symm | (rw [v_deliver_41]; rw [if_neg e2])) hvr) (Eq.trans (by first | exact (if_neg e2).symm | (rw [s_deliver_41]; rw [if_neg e2])) hsr))
  refine ⟨⟨_, hm_oi hx⟩, _, _, _, _, (m_noPlace hF htr hx hV (p := p) (by omega) (by omega)), Nat.le_refl _, Nat.le_refl _, mki_ (r := some (aI (v_noPlace μ p))) ?_, fun _ _ q => q.elim⟩
  have t10 := noPlace_b (μ := μ) (p := p)
  refine ⟨⟨_, hm_oi hx⟩, _, _, _, _, (m_failsV hF htr hx (v := (v_noPlace μ p)) (c := 1) (by omega)), Nat.le_refl _, Nat.le_refl _, mki_ (r := some (aI (v_noPlace μ p))) ?_, fun _ _ q => q.elim⟩
  have hV11 := hV.u (f := 0) (k := 0) (v := (if (v_noPlace μ p) = 0 then 0 else 1)) (show 0 ≤ (if (v_noPlace μ p) = 0 then 0 else 1) ∧ (if (v_noPlace μ p) = 0 then 0 else 1) ≤ 2 from by split <;> omega)
  refine ⟨by omega, fun (e12 : (v_noPlace μ p) = 0) => ?_, fun (e12 : ¬ ((v_noPlace μ p) = 0)) => ?_⟩
  · refine ⟨_, hm_oi hx, aR (A 52), rfl, ?_⟩
    refine ⟨64, _, (μ 52 p.toNat), hm_a hx 52 rfl, by omega, (u2_f (by decide)), ?_⟩
    have t13 := (show 0 ≤ μ 52 p.toNat ∧ μ 52 p.toNat ≤ 23 from hV.g 52 p.toNat)
    refine ⟨_, hm_oi hx, trivial, _, hm_putO hx (f := 45) (v := (μ 52 p.toNat)) rfl rfl, ?_⟩
    have hV14 := hV11.u (f := 45) (k := 0) (v := (μ 52 p.toNat)) (show 0 ≤ (μ 52 p.toNat) ∧ (μ 52 p.toNat) ≤ 23 from by omega)
    refine ⟨_, hm_oi hx, aR (A 53), rfl, ?_⟩
    refine ⟨64, _, (μ 53 p.toNat), hm_a hx 53 rfl, by omega, (Eq.trans (u2_f (by decide)) (u2_f (by decide))), ?_⟩
    have t15 := (show 0 ≤ μ 53 p.toNat ∧ μ 53 p.toNat ≤ 4611686018427387903 from hV.g 53 p.toNat)
    refine ⟨_, hm_oi hx, trivial, _, hm_putO hx (f := 46) (v := (μ 53 p.toNat)) rfl rfl, ?_⟩
    have hV16 := hV14.u (f := 46) (k := 0) (v := (μ 53 p.toNat)) (show 0 ≤ (μ 53 p.toNat) ∧ (μ 53 p.toNat) ≤ 4611686018427387903 from by omega)
    refine ⟨_, hm_oi hx, aR (A 54), rfl, ?_⟩
    refine ⟨64, _, (μ 54 p.toNat), hm_a hx 54 rfl, by omega, (Eq.trans (u2_f (by decide)) (Eq.trans (u2_f (by decide)) (u2_f (by decide)))), ?_⟩
    have t17 := (show 0 ≤ μ 54 p.toNat ∧ μ 54 p.toNat ≤ 4611686018427387903 from hV.g 54 p.toNat)
    refine ⟨_, hm_oi hx, trivial, _, hm_putO hx (f := 47) (v := (μ 54 p.toNat)) rfl rfl, ?_⟩
    have hV18 := hV16.u (f := 47) (k := 0) (v := (μ 54 p.toNat)) (show 0 ≤ (μ 54 p.toNat) ∧ (μ 54 p.toNat) ≤ 4611686018427387903 from by omega)
    refine ⟨_, hm_oi hx, aR (A 55), rfl, ?_⟩
    refine ⟨64, _, (μ 55 p.toNat), hm_a hx 55 rfl, by omega, (Eq.trans (u2_f (by decide)) (Eq.trans (u2_f (by decide)) (Eq.trans (u2_f (by decide)) (u2_f (by decide))))), ?_⟩
    have t19 := (show 0 ≤ μ 55 p.toNat ∧ μ 55 p.toNat ≤ 4611686018427387903 from hV.g 55 p.toNat)
    refine ⟨_, hm_oi hx, trivial, _, hm_putO hx (f := 48) (v := (μ 55 p.toNat)) rfl rfl, ?_⟩
    have hV20 := hV18.u (f := 48) (k := 0) (v := (μ 55 p.toNat)) (show 0 ≤ (μ 55 p.toNat) ∧ (μ 55 p.toNat) ≤ 4611686018427387903 from by omega)
    refine ⟨_, hm_oi hx, aR (A 56), rfl, ?_⟩
    refine ⟨64, _, (μ 56 p.toNat), hm_a hx 56 rfl, by omega, (Eq.trans (u2_f (by decide)) (Eq.trans (u2_f (by decide)) (Eq.trans (u2_f (by decide)) (Eq.trans (u2_f (by decide)) (u2_f (by decide)))))), ?_⟩
    have t21 := (show 0 ≤ μ 56 p.toNat ∧ μ 56 p.toNat ≤ 1200 from hV.g 56 p.toNat)
    refine ⟨_, hm_oi hx, trivial, _, hm_putO hx (f := 49) (v := (μ 56 p.toNat)) rfl rfl, ?_⟩
    have hV22 := hV20.u (f := 49) (k := 0) (v := (μ 56 p.toNat)) (show 0 ≤ (μ 56 p.toNat) ∧ (μ 56 p.toNat) ≤ 2048 from by omega)
    exact mi_Wsub (List.forall_mem_cons.mpr ⟨(.head _), List.forall_mem_cons.mpr ⟨(.tail _ (.head _)), List.forall_mem_cons.mpr ⟨(.tail _ (.tail _ (.head _))), fun _ h => absurd h List.not_mem_nil⟩⟩⟩) (loop41 _ _ 2049 0 (u2 (u2 (u2 (u2 (u2 (u2 μ 0 0 (if (v_noPlace μ p) = 0 then 0 else 1)) 45 0 (μ 52 p.toNat)) 46 0 (μ 53 p.toNat)) 47 0 (μ 54 p.toNat)) 48 0 (μ 55 p.toNat)) 49 0 (μ 56 p.toNat)) hV22 (show 0 ≤ p ∧ p < 64 from by omega) (show 0 ≤ 0 ∧ 0 ≤ (μ 56 p.toNat) from by omega) (show (μ 56 p.toNat) ≤ 1200 from by omega) (mP2_u (by decide) (mP2_u (by decide) (mP2_u (by decide) (mP2_u (by decide) (mP2_u (by decide) (mP2_u (by decide) hP)))))) (show ((μ 56 p.toNat) - 0) < (2049 : Int) from by omega) (by first | exact (if_pos e12).symm | (unfold v_deliver; rw [if_pos e12])) (by first | exact (if_pos e12).symm | (unfold s_deliver; rw [if_pos e12])))
  · exact ⟨mRetIP (P := fun r m => (0 ≤ r ∧ r ≤ 6) ∧ mP2 m) (by first | exact if_neg e12 | (unfold v_deliver; rw [if_neg e12])) (by first | exact if_neg e12 | (unfold s_deliver; rw [if_neg e12])) hV11 ⟨by omega, (mP2_u (by decide) hP)⟩, Nat.le_refl _, Nat.le_refl _⟩
set_option maxRecDepth 100000 in
theorem s_deliver_41_fr {f kk : Nat} {p : Int} (hf : [0, 7, 9, 10, 11, 12, 13, 17, 18, 21, 22, 23, 25, 26, 28, 29, 30, 35, 40, 41, 42, 43, 44, 45, 46, 47, 48, 49, 50, 59].elem f = false) : ∀ (d : Nat) (k : Int) (ν : Nat → Nat → Int), s_deliver_41 μ p d k ν f kk = ν f kk := by
  have n0 : f ≠ 0 := by rintro rfl; exact absurd hf (by decide)
  have n7 : f ≠ 7 := by rintro rfl; exact absurd hf (by decide)
  have n9 : f ≠ 9 := by rintro rfl; exact absurd hf (by decide)
  have n10 : f ≠ 10 := by rintro rfl; exact absurd hf (by decide)
  have n11 : f ≠ 11 := by rintro rfl; exact absurd hf (by decide)
  have n12 : f ≠ 12 := by rintro rfl; exact absurd hf (by decide)
  have n13 : f ≠ 13 := by rintro rfl; exact absurd hf (by decide)
  have n17 : f ≠ 17 := by rintro rfl; exact absurd hf (by decide)
  have n18 : f ≠ 18 := by rintro rfl; exact absurd hf (by decide)
  have n21 : f ≠ 21 := by rintro rfl; exact absurd hf (by decide)
  have n22 : f ≠ 22 := by rintro rfl; exact absurd hf (by decide)
  have n23 : f ≠ 23 := by rintro rfl; exact absurd hf (by decide)
  have n25 : f ≠ 25 := by rintro rfl; exact absurd hf (by decide)
  have n26 : f ≠ 26 := by rintro rfl; exact absurd hf (by decide)
  have n28 : f ≠ 28 := by rintro rfl; exact absurd hf (by decide)
  have n29 : f ≠ 29 := by rintro rfl; exact absurd hf (by decide)
  have n30 : f ≠ 30 := by rintro rfl; exact absurd hf (by decide)
  have n35 : f ≠ 35 := by rintro rfl; exact absurd hf (by decide)
  have n40 : f ≠ 40 := by rintro rfl; exact absurd hf (by decide)
  have n41 : f ≠ 41 := by rintro rfl; exact absurd hf (by decide)
  have n42 : f ≠ 42 := by rintro rfl; exact absurd hf (by decide)
  have n43 : f ≠ 43 := by rintro rfl; exact absurd hf (by decide)
  have n44 : f ≠ 44 := by rintro rfl; exact absurd hf (by decide)
  have n45 : f ≠ 45 := by rintro rfl; exact absurd hf (by decide)
  have n46 : f ≠ 46 := by rintro rfl; exact absurd hf (by decide)
  have n47 : f ≠ 47 := by rintro rfl; exact absurd hf (by decide)
  have n48 : f ≠ 48 := by rintro rfl; exact absurd hf (by decide)
  have n49 : f ≠ 49 := by rintro rfl; exact absurd hf (by decide)
  have n50 : f ≠ 50 := by rintro rfl; exact absurd hf (by decide)
  have n59 : f ≠ 59 := by rintro rfl; exact absurd hf (by decide)
  have f0 : ∀ (m : Nat → Nat → Int) (a b : Nat) (v : Int), u2 m 0 a v f b = m f b := fun m a b v => u2_f n0
  have f7 : ∀ (m : Nat → Nat → Int) (a b : Nat) (v : Int), u2 m 7 a v f b = m f b := fun m a b v => u2_f n7
  have f9 : ∀ (m : Nat → Nat → Int) (a b : Nat) (v : Int), u2 m 9 a v f b = m f b := fun m a b v => u2_f n9
  have f10 : ∀ (m : Nat → Nat → Int) (a b : Nat) (v : Int), u2 m 10 a v f b = m f b := fun m a b v => u2_f n10
  have f11 : ∀ (m : Nat → Nat → Int) (a b : Nat) (v : Int), u2 m 11 a v f b = m f b := fun m a b v => u2_f n11
  have f12 : ∀ (m : Nat → Nat → Int) (a b : Nat) (v : Int), u2 m 12 a v f b = m f b := fun m a b v => u2_f n12
  have f13 : ∀ (m : Nat → Nat → Int) (a b : Nat) (v : Int), u2 m 13 a v f b = m f b := fun m a b v => u2_f n13
  have f17 : ∀ (m : Nat → Nat → Int) (a b : Nat) (v : Int), u2 m 17 a v f b = m f b := fun m a b v => u2_f n17
  have f18 : ∀ (m : Nat → Nat → Int) (a b : Nat) (v : Int), u2 m 18 a v f b = m f b := fun m a b v => u2_f n18
  have f21 : ∀ (m : Nat → Nat → Int) (a b : Nat) (v : Int), u2 m 21 a v f b = m f b := fun m a b v => u2_f n21
  have f22 : ∀ (m : Nat → Nat → Int) (a b : Nat) (v : Int), u2 m 22 a v f b = m f b := fun m a b v => u2_f n22
  have f23 : ∀ (m : Nat → Nat → Int) (a b : Nat) (v : Int), u2 m 23 a v f b = m f b := fun m a b v => u2_f n23
  have f25 : ∀ (m : Nat → Nat → Int) (a b : Nat) (v : Int), u2 m 25 a v f b = m f b := fun m a b v => u2_f n25
  have f26 : ∀ (m : Nat → Nat → Int) (a b : Nat) (v : Int), u2 m 26 a v f b = m f b := fun m a b v => u2_f n26
  have f28 : ∀ (m : Nat → Nat → Int) (a b : Nat) (v : Int), u2 m 28 a v f b = m f b := fun m a b v => u2_f n28
  have f29 : ∀ (m : Nat → Nat → Int) (a b : Nat) (v : Int), u2 m 29 a v f b = m f b := fun m a b v => u2_f n29
  have f30 : ∀ (m : Nat → Nat → Int) (a b : Nat) (v : Int), u2 m 30 a v f b = m f b := fun m a b v => u2_f n30
  have f35 : ∀ (m : Nat → Nat → Int) (a b : Nat) (v : Int), u2 m 35 a v f b = m f b := fun m a b v => u2_f n35
  have f40 : ∀ (m : Nat → Nat → Int) (a b : Nat) (v : Int), u2 m 40 a v f b = m f b := fun m a b v => u2_f n40
  have f41 : ∀ (m : Nat → Nat → Int) (a b : Nat) (v : Int), u2 m 41 a v f b = m f b := fun m a b v => u2_f n41
  have f42 : ∀ (m : Nat → Nat → Int) (a b : Nat) (v : Int), u2 m 42 a v f b = m f b := fun m a b v => u2_f n42
  have f43 : ∀ (m : Nat → Nat → Int) (a b : Nat) (v : Int), u2 m 43 a v f b = m f b := fun m a b v => u2_f n43
  have f44 : ∀ (m : Nat → Nat → Int) (a b : Nat) (v : Int), u2 m 44 a v f b = m f b := fun m a b v => u2_f n44
  have f45 : ∀ (m : Nat → Nat → Int) (a b : Nat) (v : Int), u2 m 45 a v f b = m f b := fun m a b v => u2_f n45
  have f46 : ∀ (m : Nat → Nat → Int) (a b : Nat) (v : Int), u2 m 46 a v f b = m f b := fun m a b v => u2_f n46
  have f47 : ∀ (m : Nat → Nat → Int) (a b : Nat) (v : Int), u2 m 47 a v f b = m f b := fun m a b v => u2_f n47
  have f48 : ∀ (m : Nat → Nat → Int) (a b : Nat) (v : Int), u2 m 48 a v f b = m f b := fun m a b v => u2_f n48
  have f49 : ∀ (m : Nat → Nat → Int) (a b : Nat) (v : Int), u2 m 49 a v f b = m f b := fun m a b v => u2_f n49
  have f50 : ∀ (m : Nat → Nat → Int) (a b : Nat) (v : Int), u2 m 50 a v f b = m f b := fun m a b v => u2_f n50
  have f59 : ∀ (m : Nat → Nat → Int) (a b : Nat) (v : Int), u2 m 59 a v f b = m f b := fun m a b v => u2_f n59
  have c_takes : ∀ (m : Nat → Nat → Int) (z_s : Int) (k : Nat), s_takes m z_s f k = m f k := by intros; exact s_takes_fr (by simp only [List.elem_cons, List.elem_nil, beq_eq_false_iff_ne.mpr n7, beq_eq_false_iff_ne.mpr n9, beq_eq_false_iff_ne.mpr n10, beq_eq_false_iff_ne.mpr n11, beq_eq_false_iff_ne.mpr n12, beq_eq_false_iff_ne.mpr n13, beq_eq_false_iff_ne.mpr n17, beq_eq_false_iff_ne.mpr n18, beq_eq_false_iff_ne.mpr n21, beq_eq_false_iff_ne.mpr n22, beq_eq_false_iff_ne.mpr n23, beq_eq_false_iff_ne.mpr n25, beq_eq_false_iff_ne.mpr n26, beq_eq_false_iff_ne.mpr n28, beq_eq_false_iff_ne.mpr n29, beq_eq_false_iff_ne.mpr n30, beq_eq_false_iff_ne.mpr n35, beq_eq_false_iff_ne.mpr n40, beq_eq_false_iff_ne.mpr n41, beq_eq_false_iff_ne.mpr n42, beq_eq_false_iff_ne.mpr n43, beq_eq_false_iff_ne.mpr n44]; try rfl)
  intro d
  induction d with
  | zero => intros; rfl
  | succ d ih =>
    intro k ν
    rw [s_deliver_41]
    repeat' with_reducible apply f_ite
    all_goals first | rfl | simp only [f0, f7, f9, f10, f11, f12, f13, f17, f18, f21, f22, f23, f25, f26, f28, f29, f30, f35, f40, f41, f42, f43, f44, f45, f46, f47, f48, f49, f50, f59, c_takes, ih]
set_option maxRecDepth 100000 in
theorem s_deliver_fr {f kk : Nat} {p : Int} (hf : [0, 7, 9, 10, 11, 12, 13, 17, 18, 21, 22, 23, 25, 26, 28, 29, 30, 35, 40, 41, 42, 43, 44, 45, 46, 47, 48, 49, 50, 59].elem f = false) : s_deliver μ p f kk = μ f kk := by
  have n0 : f ≠ 0 := by rintro rfl; exact absurd hf (by decide)
  have n7 : f ≠ 7 := by rintro rfl; exact absurd hf (by decide)
  have n9 : f ≠ 9 := by rintro rfl; exact absurd hf (by decide)
  have n10 : f ≠ 10 := by rintro rfl; exact absurd hf (by decide)
  have n11 : f ≠ 11 := by rintro rfl; exact absurd hf (by decide)
  have n12 : f ≠ 12 := by rintro rfl; exact absurd hf (by decide)
  have n13 : f ≠ 13 := by rintro rfl; exact absurd hf (by decide)
  have n17 : f ≠ 17 := by rintro rfl; exact absurd hf (by decide)
  have n18 : f ≠ 18 := by rintro rfl; exact absurd hf (by decide)
  have n21 : f ≠ 21 := by rintro rfl; exact absurd hf (by decide)
  have n22 : f ≠ 22 := by rintro rfl; exact absurd hf (by decide)
  have n23 : f ≠ 23 := by rintro rfl; exact absurd hf (by decide)
  have n25 : f ≠ 25 := by rintro rfl; exact absurd hf (by decide)
  have n26 : f ≠ 26 := by rintro rfl; exact absurd hf (by decide)
  have n28 : f ≠ 28 := by rintro rfl; exact absurd hf (by decide)
  have n29 : f ≠ 29 := by rintro rfl; exact absurd hf (by decide)
  have n30 : f ≠ 30 := by rintro rfl; exact absurd hf (by decide)
  have n35 : f ≠ 35 := by rintro rfl; exact absurd hf (by decide)
  have n40 : f ≠ 40 := by rintro rfl; exact absurd hf (by decide)
  have n41 : f ≠ 41 := by rintro rfl; exact absurd hf (by decide)
  have n42 : f ≠ 42 := by rintro rfl; exact absurd hf (by decide)
  have n43 : f ≠ 43 := by rintro rfl; exact absurd hf (by decide)
  have n44 : f ≠ 44 := by rintro rfl; exact absurd hf (by decide)
  have n45 : f ≠ 45 := by rintro rfl; exact absurd hf (by decide)
  have n46 : f ≠ 46 := by rintro rfl; exact absurd hf (by decide)
  have n47 : f ≠ 47 := by rintro rfl; exact absurd hf (by decide)
  have n48 : f ≠ 48 := by rintro rfl; exact absurd hf (by decide)
  have n49 : f ≠ 49 := by rintro rfl; exact absurd hf (by decide)
  have n50 : f ≠ 50 := by rintro rfl; exact absurd hf (by decide)
  have n59 : f ≠ 59 := by rintro rfl; exact absurd hf (by decide)
  have f0 : ∀ (m : Nat → Nat → Int) (a b : Nat) (v : Int), u2 m 0 a v f b = m f b := fun m a b v => u2_f n0
  have f7 : ∀ (m : Nat → Nat → Int) (a b : Nat) (v : Int), u2 m 7 a v f b = m f b := fun m a b v => u2_f n7
  have f9 : ∀ (m : Nat → Nat → Int) (a b : Nat) (v : Int), u2 m 9 a v f b = m f b := fun m a b v => u2_f n9
  have f10 : ∀ (m : Nat → Nat → Int) (a b : Nat) (v : Int), u2 m 10 a v f b = m f b := fun m a b v => u2_f n10
  have f11 : ∀ (m : Nat → Nat → Int) (a b : Nat) (v : Int), u2 m 11 a v f b = m f b := fun m a b v => u2_f n11
  have f12 : ∀ (m : Nat → Nat → Int) (a b : Nat) (v : Int), u2 m 12 a v f b = m f b := fun m a b v => u2_f n12
  have f13 : ∀ (m : Nat → Nat → Int) (a b : Nat) (v : Int), u2 m 13 a v f b = m f b := fun m a b v => u2_f n13
  have f17 : ∀ (m : Nat → Nat → Int) (a b : Nat) (v : Int), u2 m 17 a v f b = m f b := fun m a b v => u2_f n17
  have f18 : ∀ (m : Nat → Nat → Int) (a b : Nat) (v : Int), u2 m 18 a v f b = m f b := fun m a b v => u2_f n18
  have f21 : ∀ (m : Nat → Nat → Int) (a b : Nat) (v : Int), u2 m 21 a v f b = m f b := fun m a b v => u2_f n21
  have f22 : ∀ (m : Nat → Nat → Int) (a b : Nat) (v : Int), u2 m 22 a v f b = m f b := fun m a b v => u2_f n22
  have f23 : ∀ (m : Nat → Nat → Int) (a b : Nat) (v : Int), u2 m 23 a v f b = m f b := fun m a b v => u2_f n23
  have f25 : ∀ (m : Nat → Nat → Int) (a b : Nat) (v : Int), u2 m 25 a v f b = m f b := fun m a b v => u2_f n25
  have f26 : ∀ (m : Nat → Nat → Int) (a b : Nat) (v : Int), u2 m 26 a v f b = m f b := fun m a b v => u2_f n26
  have f28 : ∀ (m : Nat → Nat → Int) (a b : Nat) (v : Int), u2 m 28 a v f b = m f b := fun m a b v => u2_f n28
  have f29 : ∀ (m : Nat → Nat → Int) (a b : Nat) (v : Int), u2 m 29 a v f b = m f b := fun m a b v => u2_f n29
  have f30 : ∀ (m : Nat → Nat → Int) (a b : Nat) (v : Int), u2 m 30 a v f b = m f b := fun m a b v => u2_f n30
  have f35 : ∀ (m : Nat → Nat → Int) (a b : Nat) (v : Int), u2 m 35 a v f b = m f b := fun m a b v => u2_f n35
  have f40 : ∀ (m : Nat → Nat → Int) (a b : Nat) (v : Int), u2 m 40 a v f b = m f b := fun m a b v => u2_f n40
  have f41 : ∀ (m : Nat → Nat → Int) (a b : Nat) (v : Int), u2 m 41 a v f b = m f b := fun m a b v => u2_f n41
  have f42 : ∀ (m : Nat → Nat → Int) (a b : Nat) (v : Int), u2 m 42 a v f b = m f b := fun m a b v => u2_f n42
  have f43 : ∀ (m : Nat → Nat → Int) (a b : Nat) (v : Int), u2 m 43 a v f b = m f b := fun m a b v => u2_f n43
  have f44 : ∀ (m : Nat → Nat → Int) (a b : Nat) (v : Int), u2 m 44 a v f b = m f b := fun m a b v => u2_f n44
  have f45 : ∀ (m : Nat → Nat → Int) (a b : Nat) (v : Int), u2 m 45 a v f b = m f b := fun m a b v => u2_f n45
  have f46 : ∀ (m : Nat → Nat → Int) (a b : Nat) (v : Int), u2 m 46 a v f b = m f b := fun m a b v => u2_f n46
  have f47 : ∀ (m : Nat → Nat → Int) (a b : Nat) (v : Int), u2 m 47 a v f b = m f b := fun m a b v => u2_f n47
  have f48 : ∀ (m : Nat → Nat → Int) (a b : Nat) (v : Int), u2 m 48 a v f b = m f b := fun m a b v => u2_f n48
  have f49 : ∀ (m : Nat → Nat → Int) (a b : Nat) (v : Int), u2 m 49 a v f b = m f b := fun m a b v => u2_f n49
  have f50 : ∀ (m : Nat → Nat → Int) (a b : Nat) (v : Int), u2 m 50 a v f b = m f b := fun m a b v => u2_f n50
  have f59 : ∀ (m : Nat → Nat → Int) (a b : Nat) (v : Int), u2 m 59 a v f b = m f b := fun m a b v => u2_f n59
  have c_takes : ∀ (m : Nat → Nat → Int) (z_s : Int) (k : Nat), s_takes m z_s f k = m f k := by intros; exact s_takes_fr (by simp only [List.elem_cons, List.elem_nil, beq_eq_false_iff_ne.mpr n7, beq_eq_false_iff_ne.mpr n9, beq_eq_false_iff_ne.mpr n10, beq_eq_false_iff_ne.mpr n11, beq_eq_false_iff_ne.mpr n12, beq_eq_false_iff_ne.mpr n13, beq_eq_false_iff_ne.mpr n17, beq_eq_false_iff_ne.mpr n18, beq_eq_false_iff_ne.mpr n21, beq_eq_false_iff_ne.mpr n22, beq_eq_false_iff_ne.mpr n23, beq_eq_false_iff_ne.mpr n25, beq_eq_false_iff_ne.mpr n26, beq_eq_false_iff_ne.mpr n28, beq_eq_false_iff_ne.mpr n29, beq_eq_false_iff_ne.mpr n30, beq_eq_false_iff_ne.mpr n35, beq_eq_false_iff_ne.mpr n40, beq_eq_false_iff_ne.mpr n41, beq_eq_false_iff_ne.mpr n42, beq_eq_false_iff_ne.mpr n43, beq_eq_false_iff_ne.mpr n44]; try rfl)
  unfold s_deliver
  repeat' with_reducible apply f_ite
  all_goals first | rfl | simp only [f0, f7, f9, f10, f11, f12, f13, f17, f18, f21, f22, f23, f25, f26, f28, f29, f30, f35, f40, f41, f42, f43, f44, f45, f46, f47, f48, f49, f50, f59, c_takes, s_deliver_41_fr hf]
end MR13
