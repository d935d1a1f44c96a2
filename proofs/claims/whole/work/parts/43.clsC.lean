section KC
variable {L : Launch} {G : mmG} {B : Nat → Nat → Nat} {bx : Nat → Option (Nat × Nat)} {h0 : mmH} {κ : Nat → Nat → Int}
def v_markOut_6 (κ : Nat → Nat → Int) (s i u n : Int) : Nat → Int → (Nat → Nat → Int) → Int
  | 0, _, _ => 0
  | d + 1, k, ν => (if (u + n) ≤ k then (v_maxI 0 ((u + n) - (ν 204 (mj s i)))) else (if (ν (1000 + (ν 202 (mj s i)).toNat) k.toNat) = 3 then (v_markOut_6 κ s i u n d (k + 1) (u2 (u2 ν 205 (mj s i) ((ν 205 (mj s i)) - 1)) (1000 + (ν 202 (mj s i)).toNat) k.toNat 2)) else (v_markOut_6 κ s i u n d (k + 1) (u2 ν (1000 + (ν 202 (mj s i)).toNat) k.toNat 2))))
def s_markOut_6 (κ : Nat → Nat → Int) (s i u n : Int) : Nat → Int → (Nat → Nat → Int) → (Nat → Nat → Int)
  | 0, _, ν => ν
  | d + 1, k, ν => (if (u + n) ≤ k then (u2 ν 204 (mj s i) ((ν 204 (mj s i)) + (v_maxI 0 ((u + n) - (ν 204 (mj s i)))))) else (if (ν (1000 + (ν 202 (mj s i)).toNat) k.toNat) = 3 then (s_markOut_6 κ s i u n d (k + 1) (u2 (u2 ν 205 (mj s i) ((ν 205 (mj s i)) - 1)) (1000 + (ν 202 (mj s i)).toNat) k.toNat 2)) else (s_markOut_6 κ s i u n d (k + 1) (u2 ν (1000 + (ν 202 (mj s i)).toNat) k.toNat 2))))
def v_markOut (κ : Nat → Nat → Int) (s i u n : Int) : Int := (v_markOut_6 κ s i u n (n.toNat + 1) u κ)
def s_markOut (κ : Nat → Nat → Int) (s i u n : Int) : Nat → Nat → Int := (s_markOut_6 κ s i u n (n.toNat + 1) u κ)
set_option maxRecDepth 100000 in
theorem m_markOut (hF : mm_F G) (htr : L.stackTraces = false) (hx : kx B bx κ) (hV : kV κ) {s i u n : Int} {a0 : Nat} (ea0 : a0 = B 2 (mj s i)) (hp : κ 290 (mj s i) = 1) (hu : 0 ≤ u) (hn : 0 ≤ n) (hl : u + n ≤ κ 600 (κ 202 (mj s i)).toNat) (hk2 : κ 601 (κ 202 (mj s i)).toNat = 2) (ha2 : κ 202 (mj s i) < κ 602 0) (hcc : mR (κ (1000 + (κ 202 (mj s i)).toNat)) 3 u (u + n) ≤ κ 205 (mj s i)) :
    mm_Met L G SX2_markOut [.ref a0, .int (iI u), .int (iI n)] (hk G B bx h0 κ) 0 0 (mRetS (some (.int (iI (v_markOut κ s i u n)))) (hk G B bx h0 (s_markOut κ s i u n)) (kx B bx (s_markOut κ s i u n) ∧ kV (s_markOut κ s i u n) ∧ (fun v _ => 0 ≤ v ∧ v ≤ 65536 ∧ (v = 0 ∨ v = u + n - κ 204 (mj s i))) (v_markOut κ s i u n) (s_markOut κ s i u n))) mm_no := by
  refine mi_meth MX2_markOut 400 hF htr okX2_markOut (av := [aR a0, aI u, aI n]) (by decide +kernel) (Nat.le_of_ble_eq_true rfl) cmX2_markOut (fun θ hc => ?_)
  have z9 : 0 ≤ κ 600 (κ 202 (mj s i)).toNat ∧ κ 600 (κ 202 (mj s i)).toNat ≤ 65536 := hV.g 600 _ rfl
  have loop6 : ∀ (R : Int) (S : Nat → Nat → Int) (d : Nat) (k : Int) (ν : Nat → Nat → Int) (hx : kx B bx ν) (hV : kV ν), (ν 290 (mj s i) = 1) → (u ≤ k ∧ k ≤ u + n) → (u + n ≤ ν 600 (ν 202 (mj s i)).toNat) → (ν 601 (ν 202 (mj s i)).toNat = 2) → (ν 202 (mj s i) < ν 602 0) → (mR (ν (1000 + (ν 202 (mj s i)).toNat)) 3 k (u + n) ≤ ν 205 (mj s i)) → (ν 204 (mj s i) = κ 204 (mj s i)) → (u + n - k) < (d : Int) → v_markOut_6 κ s i u n d k ν = R → s_markOut_6 κ s i u n d k ν = S → mi_W L G MX2_markOut 0 0 (mRetS (some (.int (iI R))) (hk G B bx h0 S) (kx B bx S ∧ kV S ∧ (fun v _ => 0 ≤ v ∧ v ≤ 65536 ∧ (v = 0 ∨ v = u + n - κ 204 (mj s i))) R S)) mm_no θ 6 [(4, aI k), (0, aR (a0)), (1, aI u), (2, aI n), (3, aI (u + n))] [] (hk G B bx h0 ν) 0 0 := by
    intro R S d
    induction d with
    | zero =>
      intro k ν hx hV hp hi1 hl2 hk2 ha2 hcc h24 hms hvr hsr
      omega
    | succ d ih =>
      intro k ν hx hV hp hi1 hl2 hk2 ha2 hcc h24 hms hvr hsr
      have z8 := mR_b (g := ν (1000 + (ν 202 (mj s i)).toNat)) (c := 3) (a := k) (b := u + n)
      have z9 : 0 ≤ ν 600 (ν 202 (mj s i)).toNat ∧ ν 600 (ν 202 (mj s i)).toNat ≤ 65536 := hV.g 600 _ rfl
      have zc : k < u + n → mR (ν (1000 + (ν 202 (mj s i)).toNat)) 3 k (u + n) = b2 (ν (1000 + (ν 202 (mj s i)).toNat) k.toNat = 3) + mR (ν (1000 + (ν 202 (mj s i)).toNat)) 3 (k + 1) (u + n) := fun z => mR_c (by omega) z
      have zb := b2_c (ν (1000 + (ν 202 (mj s i)).toNat) k.toNat = 3)
      have zm := mR_b (g := ν (1000 + (ν 202 (mj s i)).toNat)) (c := 3) (a := k + 1) (b := u + n)
      refine mi_sound hc okX2_markOut 400 _ _ _ _ _ _ ?_
      refine ⟨by omega, fun (e1 : (u + n) ≤ k) => ?_, fun (e1 : ¬ ((u + n) ≤ k)) => ?_⟩
      · refine ⟨_, hk_o2 hx (show ν 290 (mj s i) = 1 from hp) ea0, aI (ν 204 (mj s i)), rfl, ?_⟩
        have t2 := (show 0 ≤ ν 204 (mj s i) ∧ ν 204 (mj s i) ≤ 65536 from hV.g 204 (mj s i) rfl)
        refine ⟨_, _, _, _, (m_maxI hF htr hx hV (a := 0) (b := ((u + n) - (ν 204 (mj s i)))) (by omega) (by omega) (by omega) (by omega)), Nat.le_refl _, Nat.le_refl _, mki_ (r := some (aI (v_maxI 0 ((u + n) - (ν 204 (mj s i)))))) ?_, fun _ _ q => q.elim⟩
        have t3 := maxI_b 0 ((u + n) - (ν 204 (mj s i)))
        refine ⟨_, hk_o2 hx (show ν 290 (mj s i) = 1 from hp) ea0, aI (ν 204 (mj s i)), rfl, ?_⟩
        refine mi_nl [(4, aI (v_maxI 0 ((u + n) - (ν 204 (mj s i))))), (0, aR (a0)), (1, aI u), (2, aI n), (3, aI (u + n))] rfl ?_
        refine ⟨_, hk_o2 hx (show ν 290 (mj s i) = 1 from hp) ea0, trivial, _, kp_204 hx (show ν 290 (mj s i) = 1 from hp) (v := ((ν 204 (mj s i)) + (v_maxI 0 ((u + n) - (ν 204 (mj s i)))))) ea0, ?_⟩
        have hV4 := hV.u (f := 204) (k := (mj s i)) (v := ((ν 204 (mj s i)) + (v_maxI 0 ((u + n) - (ν 204 (mj s i)))))) rfl (show 0 ≤ ((ν 204 (mj s i)) + (v_maxI 0 ((u + n) - (ν 204 (mj s i))))) ∧ ((ν 204 (mj s i)) + (v_maxI 0 ((u + n) - (ν 204 (mj s i))))) ≤ 65536 from by omega)
        have hx5 := kx_u (f := 204) (k := (mj s i)) (v := ((ν 204 (mj s i)) + (v_maxI 0 ((u + n) - (ν 204 (mj s i)))))) rfl hx
        exact ⟨kRetISP (P := fun v _ => 0 ≤ v ∧ v ≤ 65536 ∧ (v = 0 ∨ v = u + n - κ 204 (mj s i))) (hvr.symm.trans (by first | exact if_pos e1 | (rw [v_markOut_6]; rw [if_pos e1]))) (hsr.symm.trans (by first | exact if_pos e1 | (rw [s_markOut_6]; rw [if_pos e1]))) hx5 hV4 (show 0 ≤ (v_maxI 0 ((u + n) - (ν 204 (mj s i)))) ∧ (v_maxI 0 ((u + n) - (ν 204 (mj s i)))) ≤ 65536 ∧ ((v_maxI 0 ((u + n) - (ν 204 (mj s i)))) = 0 ∨ (v_maxI 0 ((u + n) - (ν 204 (mj s i)))) = u + n - κ 204 (mj s i)) from by omega), Nat.le_refl _, Nat.le_refl _⟩
      · refine ⟨_, hk_o2 hx (show ν 290 (mj s i) = 1 from hp) ea0, aR (B 17 (ν 202 (mj s i)).toNat), rfl, ?_⟩
        have t6 := (show 0 ≤ ν 202 (mj s i) from hV.l 202 (mj s i))
        refine ⟨_, _, (ν (1000 + (ν 202 (mj s i)).toNat) k.toNat), hk_w hx (c := 2) (show (((ν 202 (mj s i)).toNat : Nat) : Int) < ν 602 0 from by omega) (show ν 601 (ν 202 (mj s i)).toNat = ((2 : Nat) : Int) from by omega) rfl, (show 0 ≤ k ∧ k < (((ν 600 (ν 202 (mj s i)).toNat).toNat : Nat) : Int) ∧ k < 2147483648 from by omega), rfl, ?_⟩
        have t7 := (show -128 ≤ ν (1000 + (ν 202 (mj s i)).toNat) k.toNat ∧ ν (1000 + (ν 202 (mj s i)).toNat) k.toNat ≤ 256 from hV.w (ν 202 (mj s i)).toNat k.toNat)
        refine ⟨by omega, fun (e8 : ¬ ((ν (1000 + (ν 202 (mj s i)).toNat) k.toNat) = 3)) => ?_, fun (e8 : (ν (1000 + (ν 202 (mj s i)).toNat) k.toNat) = 3) => ?_⟩
        · refine ⟨_, hk_o2 hx (show ν 290 (mj s i) = 1 from hp) ea0, aR (B 17 (ν 202 (mj s i)).toNat), rfl, ?_⟩
          refine ⟨_, _, _, hk_w hx (c := 2) (show (((ν 202 (mj s i)).toNat : Nat) : Int) < ν 602 0 from by omega) (show ν 601 (ν 202 (mj s i)).toNat = ((2 : Nat) : Int) from by omega) rfl, (show 0 ≤ k ∧ k < (((ν 600 (ν 202 (mj s i)).toNat).toNat : Nat) : Int) ∧ k < 2147483648 from by omega), (show -128 ≤ 2 ∧ 2 < 128 from by omega), kp_w hx (c := 2) (i := k.toNat) (v := 2) (show (((ν 202 (mj s i)).toNat : Nat) : Int) < ν 602 0 from by omega) (show ν 601 (ν 202 (mj s i)).toNat = ((2 : Nat) : Int) from by omega) rfl, ?_⟩
          have hV9 := hV.pw (r := (ν 202 (mj s i)).toNat) (k := k.toNat) (v := 2) (by omega) (by omega) (by omega)
          have hx10 := kx_w hx (r := (ν 202 (mj s i)).toNat) (k := k.toNat) (v := 2)
          have t11 := (show 0 ≤ ν 290 (mj s i) ∧ ν 290 (mj s i) ≤ 1 from hV.g 290 (mj s i) rfl)
          have t12 := (show 0 ≤ ν 600 ((ν 202 (mj s i))).toNat ∧ ν 600 ((ν 202 (mj s i))).toNat ≤ 65536 from hV.g 600 ((ν 202 (mj s i))).toNat rfl)
          have t13 := (show 0 ≤ ν 601 ((ν 202 (mj s i))).toNat ∧ ν 601 ((ν 202 (mj s i))).toNat ≤ 3 from hV.g 601 ((ν 202 (mj s i))).toNat rfl)
          have t14 := (show 2 ≤ ν 602 0 from hV.l 602 0)
          have t15 := (show 0 ≤ ν 204 (mj s i) ∧ ν 204 (mj s i) ≤ 65536 from hV.g 204 (mj s i) rfl)
          exact mi_Wsub (List.forall_mem_cons.mpr ⟨(.head _), (List.forall_mem_cons.mpr ⟨(.tail _ (.head _)), (List.forall_mem_cons.mpr ⟨(.tail _ (.tail _ (.head _))), (List.forall_mem_cons.mpr ⟨(.tail _ (.tail _ (.tail _ (.head _)))), (List.forall_mem_cons.mpr ⟨(.tail _ (.tail _ (.tail _ (.tail _ (.head _))))), (fun _ h => absurd h List.not_mem_nil)⟩)⟩)⟩)⟩)⟩) (ih (k + 1) (u2 ν (1000 + (ν 202 (mj s i)).toNat) k.toNat 2) hx10 hV9 (by rw [show (u2 ν (1000 + (ν 202 (mj s i)).toNat) k.toNat 2) 290 (mj s i) = _ from (u2_f (by omega))]; omega) (by omega) (by rw [show (u2 ν (1000 + (ν 202 (mj s i)).toNat) k.toNat 2) 202 (mj s i) = _ from (u2_f (by omega))]; rw [show (u2 ν (1000 + (ν 202 (mj s i)).toNat) k.toNat 2) 600 ((ν 202 (mj s i))).toNat = _ from (u2_f (by omega))]; omega) (by rw [show (u2 ν (1000 + (ν 202 (mj s i)).toNat) k.toNat 2) 202 (mj s i) = _ from (u2_f (by omega))]; rw [show (u2 ν (1000 + (ν 202 (mj s i)).toNat) k.toNat 2) 601 ((ν 202 (mj s i))).toNat = _ from (u2_f (by omega))]; omega) (by rw [show (u2 ν (1000 + (ν 202 (mj s i)).toNat) k.toNat 2) 202 (mj s i) = _ from (u2_f (by omega))]; rw [show (u2 ν (1000 + (ν 202 (mj s i)).toNat) k.toNat 2) 602 0 = _ from (u2_f (by omega))]; omega) (by rw [show (u2 ν (1000 + (ν 202 (mj s i)).toNat) k.toNat 2) 202 (mj s i) = _ from (u2_f (by omega))]; rw [mR_u (g' := ν (1000 + (ν 202 (mj s i)).toNat)) (by omega) (fun q h1 h2 => (u2_k (by omega)))]; rw [show (u2 ν (1000 + (ν 202 (mj s i)).toNat) k.toNat 2) 205 (mj s i) = (ν 205 (mj s i)) from (u2_f (by omega))]; have z1 := mR_c (g := ν (1000 + (ν 202 (mj s i)).toNat)) (c := 3) (a := k) (b := u + n) (by omega) (by omega); have z2 := b2_c (ν (1000 + (ν 202 (mj s i)).toNat) k.toNat = 3); omega) (by rw [show (u2 ν (1000 + (ν 202 (mj s i)).toNat) k.toNat 2) 204 (mj s i) = _ from (u2_f (by omega))]; omega) (by omega) (Eq.trans (by first | exact ((if_neg e1).trans (if_neg e8)).symm | (rw [v_markOut_6]; rw [if_neg e1, if_neg e8])) hvr) (Eq.trans (by first | exact ((if_neg e1).trans (if_neg e8)).symm | (rw [s_markOut_6]; rw [if_neg e1, if_neg e8])) hsr))
        · refine ⟨_, hk_o2 hx (show ν 290 (mj s i) = 1 from hp) ea0, aI (ν 205 (mj s i)), rfl, ?_⟩
          have t16 := (show 0 ≤ ν 205 (mj s i) ∧ ν 205 (mj s i) ≤ 65536 from hV.g 205 (mj s i) rfl)
          refine ⟨_, hk_o2 hx (show ν 290 (mj s i) = 1 from hp) ea0, trivial, _, kp_205 hx (show ν 290 (mj s i) = 1 from hp) (v := ((ν 205 (mj s i)) - 1)) ea0, ?_⟩
          have hV17 := hV.u (f := 205) (k := (mj s i)) (v := ((ν 205 (mj s i)) - 1)) rfl (show 0 ≤ ((ν 205 (mj s i)) - 1) ∧ ((ν 205 (mj s i)) - 1) ≤ 65536 from by omega)
          have hx18 := kx_u (f := 205) (k := (mj s i)) (v := ((ν 205 (mj s i)) - 1)) rfl hx
          refine ⟨_, hk_o2 hx18 (show (u2 ν 205 (mj s i) ((ν 205 (mj s i)) - 1)) 290 (mj s i) = 1 from ((u2_f (by decide))).trans hp) ea0, aR (B 17 (ν 202 (mj s i)).toNat), congrArg (fun q : Int => aR (B 17 q.toNat)) (show (u2 ν 205 (mj s i) ((ν 205 (mj s i)) - 1)) 202 (mj s i) = (ν 202 (mj s i)) from (u2_f (by decide))), ?_⟩
          refine ⟨_, _, _, hk_w hx18 (c := 2) (show (((ν 202 (mj s i)).toNat : Nat) : Int) < (u2 ν 205 (mj s i) ((ν 205 (mj s i)) - 1)) 602 0 from by rw [show (u2 ν 205 (mj s i) ((ν 205 (mj s i)) - 1)) 602 0 = (ν 602 0) from (u2_f (by decide))]; omega) (show (u2 ν 205 (mj s i) ((ν 205 (mj s i)) - 1)) 601 (ν 202 (mj s i)).toNat = ((2 : Nat) : Int) from by rw [show (u2 ν 205 (mj s i) ((ν 205 (mj s i)) - 1)) 601 (ν 202 (mj s i)).toNat = (ν 601 (ν 202 (mj s i)).toNat) from (u2_f (by decide))]; omega) rfl, (show 0 ≤ k ∧ k < ((((u2 ν 205 (mj s i) ((ν 205 (mj s i)) - 1)) 600 (ν 202 (mj s i)).toNat).toNat : Nat) : Int) ∧ k < 2147483648 from by rw [show (u2 ν 205 (mj s i) ((ν 205 (mj s i)) - 1)) 600 (ν 202 (mj s i)).toNat = (ν 600 (ν 202 (mj s i)).toNat) from (u2_f (by decide))]; omega), (show -128 ≤ 2 ∧ 2 < 128 from by omega), kp_w hx18 (c := 2) (i := k.toNat) (v := 2) (show (((ν 202 (mj s i)).toNat : Nat) : Int) < (u2 ν 205 (mj s i) ((ν 205 (mj s i)) - 1)) 602 0 from by rw [show (u2 ν 205 (mj s i) ((ν 205 (mj s i)) - 1)) 602 0 = (ν 602 0) from (u2_f (by decide))]; omega) (show (u2 ν 205 (mj s i) ((ν 205 (mj s i)) - 1)) 601 (ν 202 (mj s i)).toNat = ((2 : Nat) : Int) from by rw [show (u2 ν 205 (mj s i) ((ν 205 (mj s i)) - 1)) 601 (ν 202 (mj s i)).toNat = (ν 601 (ν 202 (mj s i)).toNat) from (u2_f (by decide))]; omega) rfl, ?_⟩
          have hV19 := hV17.pw (r := (ν 202 (mj s i)).toNat) (k := k.toNat) (v := 2) (by omega) (by omega) (by omega)
          have hx20 := kx_w hx18 (r := (ν 202 (mj s i)).toNat) (k := k.toNat) (v := 2)
          have t21 := (show 0 ≤ ν 290 (mj s i) ∧ ν 290 (mj s i) ≤ 1 from hV.g 290 (mj s i) rfl)
          have t22 := (show 0 ≤ ν 600 ((ν 202 (mj s i))).toNat ∧ ν 600 ((ν 202 (mj s i))).toNat ≤ 65536 from hV.g 600 ((ν 202 (mj s i))).toNat rfl)
          have t23 := (show 0 ≤ ν 601 ((ν 202 (mj s i))).toNat ∧ ν 601 ((ν 202 (mj s i))).toNat ≤ 3 from hV.g 601 ((ν 202 (mj s i))).toNat rfl)
          have t24 := (show 2 ≤ ν 602 0 from hV.l 602 0)
          have t25 := (show 0 ≤ ν 204 (mj s i) ∧ ν 204 (mj s i) ≤ 65536 from hV.g 204 (mj s i) rfl)
          exact mi_Wsub (List.forall_mem_cons.mpr ⟨(.head _), (List.forall_mem_cons.mpr ⟨(.tail _ (.head _)), (List.forall_mem_cons.mpr ⟨(.tail _ (.tail _ (.head _))), (List.forall_mem_cons.mpr ⟨(.tail _ (.tail _ (.tail _ (.head _)))), (List.forall_mem_cons.mpr ⟨(.tail _ (.tail _ (.tail _ (.tail _ (.head _))))), (fun _ h => absurd h List.not_mem_nil)⟩)⟩)⟩)⟩)⟩) (ih (k + 1) (u2 (u2 ν 205 (mj s i) ((ν 205 (mj s i)) - 1)) (1000 + (ν 202 (mj s i)).toNat) k.toNat 2) hx20 hV19 (by rw [show (u2 (u2 ν 205 (mj s i) ((ν 205 (mj s i)) - 1)) (1000 + (ν 202 (mj s i)).toNat) k.toNat 2) 290 (mj s i) = _ from (Eq.trans (u2_f (by omega)) (u2_f (by decide)))]; omega) (by omega) (by rw [show (u2 (u2 ν 205 (mj s i) ((ν 205 (mj s i)) - 1)) (1000 + (ν 202 (mj s i)).toNat) k.toNat 2) 202 (mj s i) = _ from (Eq.trans (u2_f (by omega)) (u2_f (by decide)))]; rw [show (u2 (u2 ν 205 (mj s i) ((ν 205 (mj s i)) - 1)) (1000 + (ν 202 (mj s i)).toNat) k.toNat 2) 600 ((ν 202 (mj s i))).toNat = _ from (Eq.trans (u2_f (by omega)) (u2_f (by decide)))]; omega) (by rw [show (u2 (u2 ν 205 (mj s i) ((ν 205 (mj s i)) - 1)) (1000 + (ν 202 (mj s i)).toNat) k.toNat 2) 202 (mj s i) = _ from (Eq.trans (u2_f (by omega)) (u2_f (by decide)))]; rw [show (u2 (u2 ν 205 (mj s i) ((ν 205 (mj s i)) - 1)) (1000 + (ν 202 (mj s i)).toNat) k.toNat 2) 601 ((ν 202 (mj s i))).toNat = _ from (Eq.trans (u2_f (by omega)) (u2_f (by decide)))]; omega) (by rw [show (u2 (u2 ν 205 (mj s i) ((ν 205 (mj s i)) - 1)) (1000 + (ν 202 (mj s i)).toNat) k.toNat 2) 202 (mj s i) = _ from (Eq.trans (u2_f (by omega)) (u2_f (by decide)))]; rw [show (u2 (u2 ν 205 (mj s i) ((ν 205 (mj s i)) - 1)) (1000 + (ν 202 (mj s i)).toNat) k.toNat 2) 602 0 = _ from (Eq.trans (u2_f (by omega)) (u2_f (by decide)))]; omega) (by rw [show (u2 (u2 ν 205 (mj s i) ((ν 205 (mj s i)) - 1)) (1000 + (ν 202 (mj s i)).toNat) k.toNat 2) 202 (mj s i) = _ from (Eq.trans (u2_f (by omega)) (u2_f (by decide)))]; rw [mR_u (g' := ν (1000 + (ν 202 (mj s i)).toNat)) (by omega) (fun q h1 h2 => (Eq.trans (u2_k (by omega)) (u2_f (by omega))))]; rw [show (u2 (u2 ν 205 (mj s i) ((ν 205 (mj s i)) - 1)) (1000 + (ν 202 (mj s i)).toNat) k.toNat 2) 205 (mj s i) = ((ν 205 (mj s i)) - 1) from (Eq.trans (u2_f (by omega)) (u2_s _ _ _ _))]; have z1 := mR_c (g := ν (1000 + (ν 202 (mj s i)).toNat)) (c := 3) (a := k) (b := u + n) (by omega) (by omega); have z2 := b2_c (ν (1000 + (ν 202 (mj s i)).toNat) k.toNat = 3); omega) (by rw [show (u2 (u2 ν 205 (mj s i) ((ν 205 (mj s i)) - 1)) (1000 + (ν 202 (mj s i)).toNat) k.toNat 2) 204 (mj s i) = _ from (Eq.trans (u2_f (by omega)) (u2_f (by decide)))]; omega) (by omega) (Eq.trans (by first | exact ((if_neg e1).trans (if_pos e8)).symm | (rw [v_markOut_6]; rw [if_neg e1, if_pos e8])) hvr) (Eq.trans (by first | exact ((if_neg e1).trans (if_pos e8)).symm | (rw [s_markOut_6]; rw [if_neg e1, if_pos e8])) hsr))
  have t26 := (show 0 ≤ κ 290 (mj s i) ∧ κ 290 (mj s i) ≤ 1 from hV.g 290 (mj s i) rfl)
  have t27 := (show 0 ≤ κ 202 (mj s i) from hV.l 202 (mj s i))
  have t28 := (show 0 ≤ κ 600 ((κ 202 (mj s i))).toNat ∧ κ 600 ((κ 202 (mj s i))).toNat ≤ 65536 from hV.g 600 ((κ 202 (mj s i))).toNat rfl)
  have t29 := (show 0 ≤ κ 601 ((κ 202 (mj s i))).toNat ∧ κ 601 ((κ 202 (mj s i))).toNat ≤ 3 from hV.g 601 ((κ 202 (mj s i))).toNat rfl)
  have t30 := (show 2 ≤ κ 602 0 from hV.l 602 0)
  have t31 := (show 0 ≤ κ 204 (mj s i) ∧ κ 204 (mj s i) ≤ 65536 from hV.g 204 (mj s i) rfl)
  exact mi_Wsub (List.forall_mem_cons.mpr ⟨(.head _), (List.forall_mem_cons.mpr ⟨(.tail _ (.tail _ (.head _))), (List.forall_mem_cons.mpr ⟨(.tail _ (.tail _ (.tail _ (.head _)))), (List.forall_mem_cons.mpr ⟨(.tail _ (.tail _ (.tail _ (.tail _ (.head _))))), (List.forall_mem_cons.mpr ⟨(.tail _ (.head _)), (fun _ h => absurd h List.not_mem_nil)⟩)⟩)⟩)⟩)⟩) (loop6 _ _ (n.toNat + 1) u κ hx hV (by omega) (by omega) (by omega) (by omega) (by omega) hcc (by omega) (by omega) rfl rfl)
set_option maxRecDepth 100000 in
theorem s_markOut_6_fr {f kk : Nat} {s i u n : Int} (hf : (Nat.blt f 1000 && !([204, 205].elem f)) = true) : ∀ (d : Nat) (k : Int) (ν : Nat → Nat → Int), s_markOut_6 κ s i u n d k ν f kk = ν f kk := by
  have n204 : f ≠ 204 := by rintro rfl; exact absurd hf (by decide)
  have n205 : f ≠ 205 := by rintro rfl; exact absurd hf (by decide)
  have lt : f < 1000 := Nat.le_of_ble_eq_true (Bool.and_eq_true_iff.mp hf).1
  have f204 : ∀ (m : Nat → Nat → Int) (a b : Nat) (v : Int), u2 m 204 a v f b = m f b := fun m a b v => u2_f n204
  have f205 : ∀ (m : Nat → Nat → Int) (a b : Nat) (v : Int), u2 m 205 a v f b = m f b := fun m a b v => u2_f n205
  have fw : ∀ (m : Nat → Nat → Int) (r a b : Nat) (v : Int), u2 m (1000 + r) a v f b = m f b := fun m r a b v => u2_f (by omega)
  intro d
  induction d with
  | zero => intros; rfl
  | succ d ih =>
    intro k ν
    rw [s_markOut_6]
    repeat' with_reducible apply f_ite
    all_goals first | rfl | simp only [f204, f205, fw, ih]
set_option maxRecDepth 100000 in
theorem s_markOut_fr {f kk : Nat} {s i u n : Int} (hf : (Nat.blt f 1000 && !([204, 205].elem f)) = true) : s_markOut κ s i u n f kk = κ f kk := by
  have n204 : f ≠ 204 := by rintro rfl; exact absurd hf (by decide)
  have n205 : f ≠ 205 := by rintro rfl; exact absurd hf (by decide)
  have lt : f < 1000 := Nat.le_of_ble_eq_true (Bool.and_eq_true_iff.mp hf).1
  have f204 : ∀ (m : Nat → Nat → Int) (a b : Nat) (v : Int), u2 m 204 a v f b = m f b := fun m a b v => u2_f n204
  have f205 : ∀ (m : Nat → Nat → Int) (a b : Nat) (v : Int), u2 m 205 a v f b = m f b := fun m a b v => u2_f n205
  have fw : ∀ (m : Nat → Nat → Int) (r a b : Nat) (v : Int), u2 m (1000 + r) a v f b = m f b := fun m r a b v => u2_f (by omega)
  unfold s_markOut
  repeat' with_reducible apply f_ite
  all_goals first | rfl | simp only [f204, f205, fw, s_markOut_6_fr hf]
def s_markHere_2 (κ : Nat → Nat → Int) (s i u n g : Int) : Nat → Int → (Nat → Nat → Int) → (Nat → Nat → Int)
  | 0, _, ν => ν
  | d + 1, k, ν => (if (u + n) ≤ k then (if g = 0 then (if (ν 200 (mj s i)) = 1 then (if (ν 207 (mj s i)) = 4 then (if (ν 206 (mj s i)) = (ν 203 (mj s i)) then (u2 ν 200 (mj s i) 2) else ν) else ν) else ν) else (if (ν 200 (mj s i)) = 1 then (if (ν 206 (mj s i)) = (ν 203 (mj s i)) then (u2 (u2 ν 207 (mj s i) 4) 200 (mj s i) 2) else (u2 ν 207 (mj s i) 4)) else (u2 ν 207 (mj s i) 4))) else (if (ν (1000 + (ν 202 (mj s i)).toNat) k.toNat) = 3 then (s_markHere_2 κ s i u n g d (k + 1) (u2 (u2 (u2 ν 205 (mj s i) ((ν 205 (mj s i)) - 1)) 206 (mj s i) ((ν 206 (mj s i)) + 1)) (1000 + (ν 202 (mj s i)).toNat) k.toNat 4)) else (if (ν (1000 + (ν 202 (mj s i)).toNat) k.toNat) = 4 then (s_markHere_2 κ s i u n g d (k + 1) (u2 ν (1000 + (ν 202 (mj s i)).toNat) k.toNat 4)) else (s_markHere_2 κ s i u n g d (k + 1) (u2 (u2 ν 206 (mj s i) ((ν 206 (mj s i)) + 1)) (1000 + (ν 202 (mj s i)).toNat) k.toNat 4)))))
def s_markHere (κ : Nat → Nat → Int) (s i u n g : Int) : Nat → Nat → Int := (s_markHere_2 κ s i u n g (n.toNat + 1) u κ)
set_option maxRecDepth 100000 in
theorem m_markHere (hF : mm_F G) (htr : L.stackTraces = false) (hx : kx B bx κ) (hV : kV κ) {s i u n g : Int} {a0 : Nat} (ea0 : a0 = B 2 (mj s i)) (hp : κ 290 (mj s i) = 1) (hu : 0 ≤ u) (hn : 0 ≤ n) (hl : u + n ≤ κ 600 (κ 202 (mj s i)).toNat) (hg : g = 0 ∨ g = 1) (hk2 : κ 601 (κ 202 (mj s i)).toNat = 2) (ha2 : κ 202 (mj s i) < κ 602 0) (hcc : mR (κ (1000 + (κ 202 (mj s i)).toNat)) 3 u (u + n) ≤ κ 205 (mj s i)) (he : κ 206 (mj s i) + (u + n - u) - mR (κ (1000 + (κ 202 (mj s i)).toNat)) 4 u (u + n) ≤ 65536) :
    mm_Met L G SX2_markHere [.ref a0, .int (iI u), .int (iI n), .int (iI g)] (hk G B bx h0 κ) 0 0 (mRetS none (hk G B bx h0 (s_markHere κ s i u n g)) (kx B bx (s_markHere κ s i u n g) ∧ kV (s_markHere κ s i u n g))) mm_no := by
  refine mi_meth MX2_markHere 400 hF htr okX2_markHere (av := [aR a0, aI u, aI n, aI g]) (by decide +kernel) (Nat.le_of_ble_eq_true rfl) cmX2_markHere (fun θ hc => ?_)
  have z9 : 0 ≤ κ 600 (κ 202 (mj s i)).toNat ∧ κ 600 (κ 202 (mj s i)).toNat ≤ 65536 := hV.g 600 _ rfl
  have loop2 : ∀ (S : Nat → Nat → Int) (d : Nat) (k : Int) (ν : Nat → Nat → Int) (hx : kx B bx ν) (hV : kV ν), (ν 290 (mj s i) = 1) → (u ≤ k ∧ k ≤ u + n) → (u + n ≤ ν 600 (ν 202 (mj s i)).toNat) → (ν 601 (ν 202 (mj s i)).toNat = 2) → (ν 202 (mj s i) < ν 602 0) → (mR (ν (1000 + (ν 202 (mj s i)).toNat)) 3 k (u + n) ≤ ν 205 (mj s i)) → (ν 206 (mj s i) + (u + n - k) - mR (ν (1000 + (ν 202 (mj s i)).toNat)) 4 k (u + n) ≤ 65536) → (u + n - k) < (d : Int) → s_markHere_2 κ s i u n g d k ν = S → mi_W L G MX2_markHere 0 0 (mRetS none (hk G B bx h0 S) (kx B bx S ∧ kV S)) mm_no θ 2 [(4, aI k), (0, aR (a0)), (1, aI u), (2, aI n), (3, aI g)] [] (hk G B bx h0 ν) 0 0 := by
    intro S d
    induction d with
    | zero =>
      intro k ν hx hV hp hi1 hl2 hk2 ha2 hcc he hms hsr
      omega
    | succ d ih =>
      intro k ν hx hV hp hi1 hl2 hk2 ha2 hcc he hms hsr
      have z8 := mR_b (g := ν (1000 + (ν 202 (mj s i)).toNat)) (c := 3) (a := k) (b := u + n)
      have z9 : 0 ≤ ν 600 (ν 202 (mj s i)).toNat ∧ ν 600 (ν 202 (mj s i)).toNat ≤ 65536 := hV.g 600 _ rfl
      have zc : k < u + n → mR (ν (1000 + (ν 202 (mj s i)).toNat)) 3 k (u + n) = b2 (ν (1000 + (ν 202 (mj s i)).toNat) k.toNat = 3) + mR (ν (1000 + (ν 202 (mj s i)).toNat)) 3 (k + 1) (u + n) := fun z => mR_c (by omega) z
      have zb := b2_c (ν (1000 + (ν 202 (mj s i)).toNat) k.toNat = 3)
      have zm := mR_b (g := ν (1000 + (ν 202 (mj s i)).toNat)) (c := 3) (a := k + 1) (b := u + n)
      have y8 := mR_b (g := ν (1000 + (ν 202 (mj s i)).toNat)) (c := 4) (a := k) (b := u + n)
      have y9 : 0 ≤ ν 600 (ν 202 (mj s i)).toNat ∧ ν 600 (ν 202 (mj s i)).toNat ≤ 65536 := hV.g 600 _ rfl
      have yc : k < u + n → mR (ν (1000 + (ν 202 (mj s i)).toNat)) 4 k (u + n) = b2 (ν (1000 + (ν 202 (mj s i)).toNat) k.toNat = 4) + mR (ν (1000 + (ν 202 (mj s i)).toNat)) 4 (k + 1) (u + n) := fun z => mR_c (by omega) z
      have yb := b2_c (ν (1000 + (ν 202 (mj s i)).toNat) k.toNat = 4)
      have ym := mR_b (g := ν (1000 + (ν 202 (mj s i)).toNat)) (c := 4) (a := k + 1) (b := u + n)
      refine mi_sound hc okX2_markHere 400 _ _ _ _ _ _ ?_
      refine ⟨by omega, fun (e1 : (u + n) ≤ k) => ?_, fun (e1 : ¬ ((u + n) ≤ k)) => ?_⟩
      · refine ⟨by omega, fun (e2 : g = 0) => ?_, fun (e2 : ¬ (g = 0)) => ?_⟩
        · refine ⟨_, hk_o2 hx (show ν 290 (mj s i) = 1 from hp) ea0, aI (ν 200 (mj s i)), rfl, ?_⟩
          have t3 := (show 0 ≤ ν 200 (mj s i) ∧ ν 200 (mj s i) ≤ 4 from hV.g 200 (mj s i) rfl)
          refine ⟨by omega, fun (e4 : ¬ ((ν 200 (mj s i)) = 1)) => ?_, fun (e4 : (ν 200 (mj s i)) = 1) => ?_⟩
          · exact ⟨kRetVS  (hsr.symm.trans (by first | exact (if_pos e1).trans ((if_pos e2).trans (if_neg e4)) | (rw [s_markHere_2]; rw [if_pos e1, if_pos e2, if_neg e4]))) hx hV, Nat.le_refl _, Nat.le_refl _⟩
          · refine ⟨_, hk_o2 hx (show ν 290 (mj s i) = 1 from hp) ea0, aI (ν 207 (mj s i)), rfl, ?_⟩
            have t5 := (show 0 ≤ ν 207 (mj s i) ∧ ν 207 (mj s i) ≤ 4 from hV.g 207 (mj s i) rfl)
            refine ⟨by omega, fun (e6 : ¬ ((ν 207 (mj s i)) = 4)) => ?_, fun (e6 : (ν 207 (mj s i)) = 4) => ?_⟩
            · exact ⟨kRetVS  (hsr.symm.trans (by first | exact (if_pos e1).trans ((if_pos e2).trans ((if_pos e4).trans (if_neg e6))) | (rw [s_markHere_2]; rw [if_pos e1, if_pos e2, if_pos e4, if_neg e6]))) hx hV, Nat.le_refl _, Nat.le_refl _⟩
            · refine ⟨_, hk_o2 hx (show ν 290 (mj s i) = 1 from hp) ea0, aI (ν 206 (mj s i)), rfl, ?_⟩
              have t7 := (show 0 ≤ ν 206 (mj s i) ∧ ν 206 (mj s i) ≤ 65536 from hV.g 206 (mj s i) rfl)
              refine ⟨_, hk_o2 hx (show ν 290 (mj s i) = 1 from hp) ea0, aI (ν 203 (mj s i)), rfl, ?_⟩
              have t8 := (show 0 ≤ ν 203 (mj s i) ∧ ν 203 (mj s i) ≤ 65536 from hV.g 203 (mj s i) rfl)
              refine ⟨by omega, fun (e9 : ¬ ((ν 206 (mj s i)) = (ν 203 (mj s i)))) => ?_, fun (e9 : (ν 206 (mj s i)) = (ν 203 (mj s i))) => ?_⟩
              · exact ⟨kRetVS  (hsr.symm.trans (by first | exact (if_pos e1).trans ((if_pos e2).trans ((if_pos e4).trans ((if_pos e6).trans (if_neg e9)))) | (rw [s_markHere_2]; rw [if_pos e1, if_pos e2, if_pos e4, if_pos e6, if_neg e9]))) hx hV, Nat.le_refl _, Nat.le_refl _⟩
              · refine ⟨_, hk_o2 hx (show ν 290 (mj s i) = 1 from hp) ea0, trivial, _, kp_200 hx (show ν 290 (mj s i) = 1 from hp) (v := 2) ea0, ?_⟩
                have hV10 := hV.u (f := 200) (k := (mj s i)) (v := 2) rfl (show 0 ≤ 2 ∧ 2 ≤ 4 from by omega)
                have hx11 := kx_u (f := 200) (k := (mj s i)) (v := 2) rfl hx
                exact ⟨kRetVS  (hsr.symm.trans (by first | exact (if_pos e1).trans ((if_pos e2).trans ((if_pos e4).trans ((if_pos e6).trans (if_pos e9)))) | (rw [s_markHere_2]; rw [if_pos e1, if_pos e2, if_pos e4, if_pos e6, if_pos e9]))) hx11 hV10, Nat.le_refl _, Nat.le_refl _⟩
        · refine ⟨_, hk_o2 hx (show ν 290 (mj s i) = 1 from hp) ea0, trivial, _, kp_207 hx (show ν 290 (mj s i) = 1 from hp) (v := 4) ea0, ?_⟩
          have hV12 := hV.u (f := 207) (k := (mj s i)) (v := 4) rfl (show 0 ≤ 4 ∧ 4 ≤ 4 from by omega)
          have hx13 := kx_u (f := 207) (k := (mj s i)) (v := 4) rfl hx
          refine ⟨_, hk_o2 hx13 (show (u2 ν 207 (mj s i) 4) 290 (mj s i) = 1 from ((u2_f (by decide))).trans hp) ea0, aI (ν 200 (mj s i)), congrArg aI (show (u2 ν 207 (mj s i) 4) 200 (mj s i) = (ν 200 (mj s i)) from (u2_f (by decide))), ?_⟩
          have t14 := (show 0 ≤ ν 200 (mj s i) ∧ ν 200 (mj s i) ≤ 4 from hV.g 200 (mj s i) rfl)
          refine ⟨by omega, fun (e15 : ¬ ((ν 200 (mj s i)) = 1)) => ?_, fun (e15 : (ν 200 (mj s i)) = 1) => ?_⟩
          · exact ⟨kRetVS  (hsr.symm.trans (by first | exact (if_pos e1).trans ((if_neg e2).trans (if_neg e15)) | (rw [s_markHere_2]; rw [if_pos e1, if_neg e2, if_neg e15]))) hx13 hV12, Nat.le_refl _, Nat.le_refl _⟩
          · refine ⟨_, hk_o2 hx13 (show (u2 ν 207 (mj s i) 4) 290 (mj s i) = 1 from ((u2_f (by decide))).trans hp) ea0, aI 4, congrArg aI (show (u2 ν 207 (mj s i) 4) 207 (mj s i) = 4 from (u2_s _ _ _ _)), ?_⟩
            refine ⟨by omega, fun (e : ¬ ((4 : Int) = 4)) => (e (by decide)).elim, fun _ => ?_⟩
            refine ⟨_, hk_o2 hx13 (show (u2 ν 207 (mj s i) 4) 290 (mj s i) = 1 from ((u2_f (by decide))).trans hp) ea0, aI (ν 206 (mj s i)), congrArg aI (show (u2 ν 207 (mj s i) 4) 206 (mj s i) = (ν 206 (mj s i)) from (u2_f (by decide))), ?_⟩
            have t16 := (show 0 ≤ ν 206 (mj s i) ∧ ν 206 (mj s i) ≤ 65536 from hV.g 206 (mj s i) rfl)
            refine ⟨_, hk_o2 hx13 (show (u2 ν 207 (mj s i) 4) 290 (mj s i) = 1 from ((u2_f (by decide))).trans hp) ea0, aI (ν 203 (mj s i)), congrArg aI (show (u2 ν 207 (mj s i) 4) 203 (mj s i) = (ν 203 (mj s i)) from (u2_f (by decide))), ?_⟩
            have t17 := (show 0 ≤ ν 203 (mj s i) ∧ ν 203 (mj s i) ≤ 65536 from hV.g 203 (mj s i) rfl)
            refine ⟨by omega, fun (e18 : ¬ ((ν 206 (mj s i)) = (ν 203 (mj s i)))) => ?_, fun (e18 : (ν 206 (mj s i)) = (ν 203 (mj s i))) => ?_⟩
            · exact ⟨kRetVS  (hsr.symm.trans (by first | exact (if_pos e1).trans ((if_neg e2).trans ((if_pos e15).trans (if_neg e18))) | (rw [s_markHere_2]; rw [if_pos e1, if_neg e2, if_pos e15, if_neg e18]))) hx13 hV12, Nat.le_refl _, Nat.le_refl _⟩
            · refine ⟨_, hk_o2 hx13 (show (u2 ν 207 (mj s i) 4) 290 (mj s i) = 1 from ((u2_f (by decide))).trans hp) ea0, trivial, _, kp_200 hx13 (show (u2 ν 207 (mj s i) 4) 290 (mj s i) = 1 from ((u2_f (by decide))).trans hp) (v := 2) ea0, ?_⟩
              have hV19 := hV12.u (f := 200) (k := (mj s i)) (v := 2) rfl (show 0 ≤ 2 ∧ 2 ≤ 4 from by omega)
              have hx20 := kx_u (f := 200) (k := (mj s i)) (v := 2) rfl hx13
              exact ⟨kRetVS  (hsr.symm.trans (by first | exact (if_pos e1).trans ((if_neg e2).trans ((if_pos e15).trans (if_pos e18))) | (rw [s_markHere_2]; rw [if_pos e1, if_neg e2, if_pos e15, if_pos e18]))) hx20 hV19, Nat.le_refl _, Nat.le_refl _⟩
      · refine ⟨_, hk_o2 hx (show ν 290 (mj s i) = 1 from hp) ea0, aR (B 17 (ν 202 (mj s i)).toNat), rfl, ?_⟩
        have t21 := (show 0 ≤ ν 202 (mj s i) from hV.l 202 (mj s i))
        refine ⟨_, _, (ν (1000 + (ν 202 (mj s i)).toNat) k.toNat), hk_w hx (c := 2) (show (((ν 202 (mj s i)).toNat : Nat) : Int) < ν 602 0 from by omega) (show ν 601 (ν 202 (mj s i)).toNat = ((2 : Nat) : Int) from by omega) rfl, (show 0 ≤ k ∧ k < (((ν 600 (ν 202 (mj s i)).toNat).toNat : Nat) : Int) ∧ k < 2147483648 from by omega), rfl, ?_⟩
        have t22 := (show -128 ≤ ν (1000 + (ν 202 (mj s i)).toNat) k.toNat ∧ ν (1000 + (ν 202 (mj s i)).toNat) k.toNat ≤ 256 from hV.w (ν 202 (mj s i)).toNat k.toNat)
        refine ⟨by omega, fun (e23 : ¬ ((ν (1000 + (ν 202 (mj s i)).toNat) k.toNat) = 3)) => ?_, fun (e23 : (ν (1000 + (ν 202 (mj s i)).toNat) k.toNat) = 3) => ?_⟩
        · refine ⟨_, hk_o2 hx (show ν 290 (mj s i) = 1 from hp) ea0, aR (B 17 (ν 202 (mj s i)).toNat), rfl, ?_⟩
          refine ⟨_, _, (ν (1000 + (ν 202 (mj s i)).toNat) k.toNat), hk_w hx (c := 2) (show (((ν 202 (mj s i)).toNat : Nat) : Int) < ν 602 0 from by omega) (show ν 601 (ν 202 (mj s i)).toNat = ((2 : Nat) : Int) from by omega) rfl, (show 0 ≤ k ∧ k < (((ν 600 (ν 202 (mj s i)).toNat).toNat : Nat) : Int) ∧ k < 2147483648 from by omega), rfl, ?_⟩
          refine ⟨by omega, fun (e24 : (ν (1000 + (ν 202 (mj s i)).toNat) k.toNat) = 4) => ?_, fun (e24 : ¬ ((ν (1000 + (ν 202 (mj s i)).toNat) k.toNat) = 4)) => ?_⟩
          · refine ⟨_, hk_o2 hx (show ν 290 (mj s i) = 1 from hp) ea0, aR (B 17 (ν 202 (mj s i)).toNat), rfl, ?_⟩
            refine ⟨_, _, _, hk_w hx (c := 2) (show (((ν 202 (mj s i)).toNat : Nat) : Int) < ν 602 0 from by omega) (show ν 601 (ν 202 (mj s i)).toNat = ((2 : Nat) : Int) from by omega) rfl, (show 0 ≤ k ∧ k < (((ν 600 (ν 202 (mj s i)).toNat).toNat : Nat) : Int) ∧ k < 2147483648 from by omega), (show -128 ≤ 4 ∧ 4 < 128 from by omega), kp_w hx (c := 2) (i := k.toNat) (v := 4) (show (((ν 202 (mj s i)).toNat : Nat) : Int) < ν 602 0 from by omega) (show ν 601 (ν 202 (mj s i)).toNat = ((2 : Nat) : Int) from by omega) rfl, ?_⟩
            have hV25 := hV.pw (r := (ν 202 (mj s i)).toNat) (k := k.toNat) (v := 4) (by omega) (by omega) (by omega)
            have hx26 := kx_w hx (r := (ν 202 (mj s i)).toNat) (k := k.toNat) (v := 4)
            have t27 := (show 0 ≤ ν 290 (mj s i) ∧ ν 290 (mj s i) ≤ 1 from hV.g 290 (mj s i) rfl)
            have t28 := (show 0 ≤ ν 600 ((ν 202 (mj s i))).toNat ∧ ν 600 ((ν 202 (mj s i))).toNat ≤ 65536 from hV.g 600 ((ν 202 (mj s i))).toNat rfl)
            have t29 := (show 0 ≤ ν 601 ((ν 202 (mj s i))).toNat ∧ ν 601 ((ν 202 (mj s i))).toNat ≤ 3 from hV.g 601 ((ν 202 (mj s i))).toNat rfl)
            have t30 := (show 2 ≤ ν 602 0 from hV.l 602 0)
            exact mi_Wsub (List.forall_mem_cons.mpr ⟨(.head _), (List.forall_mem_cons.mpr ⟨(.tail _ (.head _)), (List.forall_mem_cons.mpr ⟨(.tail _ (.tail _ (.head _))), (List.forall_mem_cons.mpr ⟨(.tail _ (.tail _ (.tail _ (.head _)))), (List.forall_mem_cons.mpr ⟨(.tail _ (.tail _ (.tail _ (.tail _ (.head _))))), (fun _ h => absurd h List.not_mem_nil)⟩)⟩)⟩)⟩)⟩) (ih (k + 1) (u2 ν (1000 + (ν 202 (mj s i)).toNat) k.toNat 4) hx26 hV25 (by rw [show (u2 ν (1000 + (ν 202 (mj s i)).toNat) k.toNat 4) 290 (mj s i) = _ from (u2_f (by omega))]; omega) (by omega) (by rw [show (u2 ν (1000 + (ν 202 (mj s i)).toNat) k.toNat 4) 202 (mj s i) = _ from (u2_f (by omega))]; rw [show (u2 ν (1000 + (ν 202 (mj s i)).toNat) k.toNat 4) 600 ((ν 202 (mj s i))).toNat = _ from (u2_f (by omega))]; omega) (by rw [show (u2 ν (1000 + (ν 202 (mj s i)).toNat) k.toNat 4) 202 (mj s i) = _ from (u2_f (by omega))]; rw [show (u2 ν (1000 + (ν 202 (mj s i)).toNat) k.toNat 4) 601 ((ν 202 (mj s i))).toNat = _ from (u2_f (by omega))]; omega) (by rw [show (u2 ν (1000 + (ν 202 (mj s i)).toNat) k.toNat 4) 202 (mj s i) = _ from (u2_f (by omega))]; rw [show (u2 ν (1000 + (ν 202 (mj s i)).toNat) k.toNat 4) 602 0 = _ from (u2_f (by omega))]; omega) (by rw [show (u2 ν (1000 + (ν 202 (mj s i)).toNat) k.toNat 4) 202 (mj s i) = _ from (u2_f (by omega))]; rw [mR_u (g' := ν (1000 + (ν 202 (mj s i)).toNat)) (by omega) (fun q h1 h2 => (u2_k (by omega)))]; rw [show (u2 ν (1000 + (ν 202 (mj s i)).toNat) k.toNat 4) 205 (mj s i) = (ν 205 (mj s i)) from (u2_f (by omega))]; have z1 := mR_c (g := ν (1000 + (ν 202 (mj s i)).toNat)) (c := 3) (a := k) (b := u + n) (by omega) (by omega); have z2 := b2_c (ν (1000 + (ν 202 (mj s i)).toNat) k.toNat = 3); omega) (by rw [show (u2 ν (1000 + (ν 202 (mj s i)).toNat) k.toNat 4) 202 (mj s i) = _ from (u2_f (by omega))]; rw [mR_u (g' := ν (1000 + (ν 202 (mj s i)).toNat)) (by omega) (fun q h1 h2 => (u2_k (by omega)))]; rw [show (u2 ν (1000 + (ν 202 (mj s i)).toNat) k.toNat 4) 206 (mj s i) = (ν 206 (mj s i)) from (u2_f (by omega))]; have z1 := mR_c (g := ν (1000 + (ν 202 (mj s i)).toNat)) (c := 4) (a := k) (b := u + n) (by omega) (by omega); have z2 := b2_c (ν (1000 + (ν 202 (mj s i)).toNat) k.toNat = 4); omega) (by omega) (Eq.trans (by first | exact ((if_neg e1).trans ((if_neg e23).trans (if_pos e24))).symm | (rw [s_markHere_2]; rw [if_neg e1, if_neg e23, if_pos e24])) hsr))
          · refine ⟨_, hk_o2 hx (show ν 290 (mj s i) = 1 from hp) ea0, aI (ν 206 (mj s i)), rfl, ?_⟩
            have t31 := (show 0 ≤ ν 206 (mj s i) ∧ ν 206 (mj s i) ≤ 65536 from hV.g 206 (mj s i) rfl)
            refine ⟨_, hk_o2 hx (show ν 290 (mj s i) = 1 from hp) ea0, trivial, _, kp_206 hx (show ν 290 (mj s i) = 1 from hp) (v := ((ν 206 (mj s i)) + 1)) ea0, ?_⟩
            have hV32 := hV.u (f := 206) (k := (mj s i)) (v := ((ν 206 (mj s i)) + 1)) rfl (show 0 ≤ ((ν 206 (mj s i)) + 1) ∧ ((ν 206 (mj s i)) + 1) ≤ 65536 from by omega)
            have hx33 := kx_u (f := 206) (k := (mj s i)) (v := ((ν 206 (mj s i)) + 1)) rfl hx
            refine ⟨_, hk_o2 hx33 (show (u2 ν 206 (mj s i) ((ν 206 (mj s i)) + 1)) 290 (mj s i) = 1 from ((u2_f (by decide))).trans hp) ea0, aR (B 17 (ν 202 (mj s i)).toNat), congrArg (fun q : Int => aR (B 17 q.toNat)) (show (u2 ν 206 (mj s i) ((ν 206 (mj s i)) + 1)) 202 (mj s i) = (ν 202 (mj s i)) from (u2_f (by decide))), ?_⟩
            refine ⟨_, _, _, hk_w hx33 (c := 2) (show (((ν 202 (mj s i)).toNat : Nat) : Int) < (u2 ν 206 (mj s i) ((ν 206 (mj s i)) + 1)) 602 0 from by rw [show (u2 ν 206 (mj s i) ((ν 206 (mj s i)) + 1)) 602 0 = (ν 602 0) from (u2_f (by decide))]; omega) (show (u2 ν 206 (mj s i) ((ν 206 (mj s i)) + 1)) 601 (ν 202 (mj s i)).toNat = ((2 : Nat) : Int) from by rw [show (u2 ν 206 (mj s i) ((ν 206 (mj s i)) + 1)) 601 (ν 202 (mj s i)).toNat = (ν 601 (ν 202 (mj s i)).toNat) from (u2_f (by decide))]; omega) rfl, (show 0 ≤ k ∧ k < ((((u2 ν 206 (mj s i) ((ν 206 (mj s i)) + 1)) 600 (ν 202 (mj s i)).toNat).toNat : Nat) : Int) ∧ k < 2147483648 from by rw [show (u2 ν 206 (mj s i) ((ν 206 (mj s i)) + 1)) 600 (ν 202 (mj s i)).toNat = (ν 600 (ν 202 (mj s i)).toNat) from (u2_f (by decide))]; omega), (show -128 ≤ 4 ∧ 4 < 128 from by omega), kp_w hx33 (c := 2) (i := k.toNat) (v := 4) (show (((ν 202 (mj s i)).toNat : Nat) : Int) < (u2 ν 206 (mj s i) ((ν 206 (mj s i)) + 1)) 602 0 from by rw [show (u2 ν 206 (mj s i) ((ν 206 (mj s i)) + 1)) 602 0 = (ν 602 0) from (u2_f (by decide))]; omega) (show (u2 ν 206 (mj s i) ((ν 206 (mj s i)) + 1)) 601 (ν 202 (mj s i)).toNat = ((2 : Nat) : Int) from by rw [show (u2 ν 206 (mj s i) ((ν 206 (mj s i)) + 1)) 601 (ν 202 (mj s i)).toNat = (ν 601 (ν 202 (mj s i)).toNat) from (u2_f (by decide))]; omega) rfl, ?_⟩
            have hV34 := hV32.pw (r := (ν 202 (mj s i)).toNat) (k := k.toNat) (v := 4) (by omega) (by omega) (by omega)
            have hx35 := kx_w hx33 (r := (ν 202 (mj s i)).toNat) (k := k.toNat) (v := 4)
            have t36 := (show 0 ≤ ν 290 (mj s i) ∧ ν 290 (mj s i) ≤ 1 from hV.g 290 (mj s i) rfl)
            have t37 := (show 0 ≤ ν 600 ((ν 202 (mj s i))).toNat ∧ ν 600 ((ν 202 (mj s i))).toNat ≤ 65536 from hV.g 600 ((ν 202 (mj s i))).toNat rfl)
            have t38 := (show 0 ≤ ν 601 ((ν 202 (mj s i))).toNat ∧ ν 601 ((ν 202 (mj s i))).toNat ≤ 3 from hV.g 601 ((ν 202 (mj s i))).toNat rfl)
            have t39 := (show 2 ≤ ν 602 0 from hV.l 602 0)
            exact mi_Wsub (List.forall_mem_cons.mpr ⟨(.head _), (List.forall_mem_cons.mpr ⟨(.tail _ (.head _)), (List.forall_mem_cons.mpr ⟨(.tail _ (.tail _ (.head _))), (List.forall_mem_cons.mpr ⟨(.tail _ (.tail _ (.tail _ (.head _)))), (List.forall_mem_cons.mpr ⟨(.tail _ (.tail _ (.tail _ (.tail _ (.head _))))), (fun _ h => absurd h List.not_mem_nil)⟩)⟩)⟩)⟩)⟩) (ih (k + 1) (u2 (u2 ν 206 (mj s i) ((ν 206 (mj s i)) + 1)) (1000 + (ν 202 (mj s i)).toNat) k.toNat 4) hx35 hV34 (by rw [show (u2 (u2 ν 206 (mj s i) ((ν 206 (mj s i)) + 1)) (1000 + (ν 202 (mj s i)).toNat) k.toNat 4) 290 (mj s i) = _ from (Eq.trans (u2_f (by omega)) (u2_f (by decide)))]; omega) (by omega) (by rw [show (u2 (u2 ν 206 (mj s i) ((ν 206 (mj s i)) + 1)) (1000 + (ν 202 (mj s i)).toNat) k.toNat 4) 202 (mj s i) = _ from (Eq.trans (u2_f (by omega)) (u2_f (by decide)))]; rw [show (u2 (u2 ν 206 (mj s i) ((ν 206 (mj s i)) + 1)) (1000 + (ν 202 (mj s i)).toNat) k.toNat 4) 600 ((ν 202 (mj s i))).toNat = _ from (Eq.trans (u2_f (by omega)) (u2_f (by decide)))]; omega) (by rw [show (u2 (u2 ν 206 (mj s i) ((ν 206 (mj s i)) + 1)) (1000 + (ν 202 (mj s i)).toNat) k.toNat 4) 202 (mj s i) = _ from (Eq.trans (u2_f (by omega)) (u2_f (by decide)))]; rw [show (u2 (u2 ν 206 (mj s i) ((ν 206 (mj s i)) + 1)) (1000 + (ν 202 (mj s i)).toNat) k.toNat 4) 601 ((ν 202 (mj s i))).toNat = _ from (Eq.trans (u2_f (by omega)) (u2_f (by decide)))]; omega) (by rw [show (u2 (u2 ν 206 (mj s i) ((ν 206 (mj s i)) + 1)) (1000 + (ν 202 (mj s i)).toNat) k.toNat 4) 202 (mj s i) = _ from (Eq.trans (u2_f (by omega)) (u2_f (by decide)))]; rw [show (u2 (u2 ν 206 (mj s i) ((ν 206 (mj s i)) + 1)) (1000 + (ν 202 (mj s i)).toNat) k.toNat 4) 602 0 = _ from (Eq.trans (u2_f (by omega)) (u2_f (by decide)))]; omega) (by rw [show (u2 (u2 ν 206 (mj s i) ((ν 206 (mj s i)) + 1)) (1000 + (ν 202 (mj s i)).toNat) k.toNat 4) 202 (mj s i) = _ from (Eq.trans (u2_f (by omega)) (u2_f (by decide)))]; rw [mR_u (g' := ν (1000 + (ν 202 (mj s i)).toNat)) (by omega) (fun q h1 h2 => (Eq.trans (u2_k (by omega)) (u2_f (by omega))))]; rw [show (u2 (u2 ν 206 (mj s i) ((ν 206 (mj s i)) + 1)) (1000 + (ν 202 (mj s i)).toNat) k.toNat 4) 205 (mj s i) = (ν 205 (mj s i)) from (Eq.trans (u2_f (by omega)) (u2_f (by decide)))]; have z1 := mR_c (g := ν (1000 + (ν 202 (mj s i)).toNat)) (c := 3) (a := k) (b := u + n) (by omega) (by omega); have z2 := b2_c (ν (1000 + (ν 202 (mj s i)).toNat) k.toNat = 3); omega) (by rw [show (u2 (u2 ν 206 (mj s i) ((ν 206 (mj s i)) + 1)) (1000 + (ν 202 (mj s i)).toNat) k.toNat 4) 202 (mj s i) = _ from (Eq.trans (u2_f (by omega)) (u2_f (by decide)))]; rw [mR_u (g' := ν (1000 + (ν 202 (mj s i)).toNat)) (by omega) (fun q h1 h2 => (Eq.trans (u2_k (by omega)) (u2_f (by omega))))]; rw [show (u2 (u2 ν 206 (mj s i) ((ν 206 (mj s i)) + 1)) (1000 + (ν 202 (mj s i)).toNat) k.toNat 4) 206 (mj s i) = ((ν 206 (mj s i)) + 1) from (Eq.trans (u2_f (by omega)) (u2_s _ _ _ _))]; have z1 := mR_c (g := ν (1000 + (ν 202 (mj s i)).toNat)) (c := 4) (a := k) (b := u + n) (by omega) (by omega); have z2 := b2_c (ν (1000 + (ν 202 (mj s i)).toNat) k.toNat = 4); omega) (by omega) (Eq.trans (by first | exact ((if_neg e1).trans ((if_neg e23).trans (if_neg e24))).symm | (rw [s_markHere_2]; rw [if_neg e1, if_neg e23, if_neg e24])) hsr))
        · refine ⟨_, hk_o2 hx (show ν 290 (mj s i) = 1 from hp) ea0, aI (ν 205 (mj s i)), rfl, ?_⟩
          have t40 := (show 0 ≤ ν 205 (mj s i) ∧ ν 205 (mj s i) ≤ 65536 from hV.g 205 (mj s i) rfl)
          refine ⟨_, hk_o2 hx (show ν 290 (mj s i) = 1 from hp) ea0, trivial, _, kp_205 hx (show ν 290 (mj s i) = 1 from hp) (v := ((ν 205 (mj s i)) - 1)) ea0, ?_⟩
          have hV41 := hV.u (f := 205) (k := (mj s i)) (v := ((ν 205 (mj s i)) - 1)) rfl (show 0 ≤ ((ν 205 (mj s i)) - 1) ∧ ((ν 205 (mj s i)) - 1) ≤ 65536 from by omega)
          have hx42 := kx_u (f := 205) (k := (mj s i)) (v := ((ν 205 (mj s i)) - 1)) rfl hx
          refine ⟨_, hk_o2 hx42 (show (u2 ν 205 (mj s i) ((ν 205 (mj s i)) - 1)) 290 (mj s i) = 1 from ((u2_f (by decide))).trans hp) ea0, aR (B 17 (ν 202 (mj s i)).toNat), congrArg (fun q : Int => aR (B 17 q.toNat)) (show (u2 ν 205 (mj s i) ((ν 205 (mj s i)) - 1)) 202 (mj s i) = (ν 202 (mj s i)) from (u2_f (by decide))), ?_⟩
          refine ⟨_, _, (ν (1000 + (ν 202 (mj s i)).toNat) k.toNat), hk_w hx42 (c := 2) (show (((ν 202 (mj s i)).toNat : Nat) : Int) < (u2 ν 205 (mj s i) ((ν 205 (mj s i)) - 1)) 602 0 from by rw [show (u2 ν 205 (mj s i) ((ν 205 (mj s i)) - 1)) 602 0 = (ν 602 0) from (u2_f (by decide))]; omega) (show (u2 ν 205 (mj s i) ((ν 205 (mj s i)) - 1)) 601 (ν 202 (mj s i)).toNat = ((2 : Nat) : Int) from by rw [show (u2 ν 205 (mj s i) ((ν 205 (mj s i)) - 1)) 601 (ν 202 (mj s i)).toNat = (ν 601 (ν 202 (mj s i)).toNat) from (u2_f (by decide))]; omega) rfl, (show 0 ≤ k ∧ k < ((((u2 ν 205 (mj s i) ((ν 205 (mj s i)) - 1)) 600 (ν 202 (mj s i)).toNat).toNat : Nat) : Int) ∧ k < 2147483648 from by rw [show (u2 ν 205 (mj s i) ((ν 205 (mj s i)) - 1)) 600 (ν 202 (mj s i)).toNat = (ν 600 (ν 202 (mj s i)).toNat) from (u2_f (by decide))]; omega), (u2_f (by omega)), ?_⟩
          refine ⟨by omega, fun (e : (ν (1000 + (ν 202 (mj s i)).toNat) k.toNat) = 4) => absurd e (by omega), fun _ => ?_⟩
          refine ⟨_, hk_o2 hx42 (show (u2 ν 205 (mj s i) ((ν 205 (mj s i)) - 1)) 290 (mj s i) = 1 from ((u2_f (by decide))).trans hp) ea0, aI (ν 206 (mj s i)), congrArg aI (show (u2 ν 205 (mj s i) ((ν 205 (mj s i)) - 1)) 206 (mj s i) = (ν 206 (mj s i)) from (u2_f (by decide))), ?_⟩
          have t43 := (show 0 ≤ ν 206 (mj s i) ∧ ν 206 (mj s i) ≤ 65536 from hV.g 206 (mj s i) rfl)
          refine ⟨_, hk_o2 hx42 (show (u2 ν 205 (mj s i) ((ν 205 (mj s i)) - 1)) 290 (mj s i) = 1 from ((u2_f (by decide))).trans hp) ea0, trivial, _, kp_206 hx42 (show (u2 ν 205 (mj s i) ((ν 205 (mj s i)) - 1)) 290 (mj s i) = 1 from ((u2_f (by decide))).trans hp) (v := ((ν 206 (mj s i)) + 1)) ea0, ?_⟩
          have hV44 := hV41.u (f := 206) (k := (mj s i)) (v := ((ν 206 (mj s i)) + 1)) rfl (show 0 ≤ ((ν 206 (mj s i)) + 1) ∧ ((ν 206 (mj s i)) + 1) ≤ 65536 from by omega)
          have hx45 := kx_u (f := 206) (k := (mj s i)) (v := ((ν 206 (mj s i)) + 1)) rfl hx42
          refine ⟨_, hk_o2 hx45 (show (u2 (u2 ν 205 (mj s i) ((ν 205 (mj s i)) - 1)) 206 (mj s i) ((ν 206 (mj s i)) + 1)) 290 (mj s i) = 1 from ((Eq.trans (u2_f (by decide)) (u2_f (by decide)))).trans hp) ea0, aR (B 17 (ν 202 (mj s i)).toNat), congrArg (fun q : Int => aR (B 17 q.toNat)) (show (u2 (u2 ν 205 (mj s i) ((ν 205 (mj s i)) - 1)) 206 (mj s i) ((ν 206 (mj s i)) + 1)) 202 (mj s i) = (ν 202 (mj s i)) from (Eq.trans (u2_f (by decide)) (u2_f (by decide)))), ?_⟩
          refine ⟨_, _, _, hk_w hx45 (c := 2) (show (((ν 202 (mj s i)).toNat : Nat) : Int) < (u2 (u2 ν 205 (mj s i) ((ν 205 (mj s i)) - 1)) 206 (mj s i) ((ν 206 (mj s i)) + 1)) 602 0 from by rw [show (u2 (u2 ν 205 (mj s i) ((ν 205 (mj s i)) - 1)) 206 (mj s i) ((ν 206 (mj s i)) + 1)) 602 0 = (ν 602 0) from (Eq.trans (u2_f (by decide)) (u2_f (by decide)))]; omega) (show (u2 (u2 ν 205 (mj s i) ((ν 205 (mj s i)) - 1)) 206 (mj s i) ((ν 206 (mj s i)) + 1)) 601 (ν 202 (mj s i)).toNat = ((2 : Nat) : Int) from by rw [show (u2 (u2 ν 205 (mj s i) ((ν 205 (mj s i)) - 1)) 206 (mj s i) ((ν 206 (mj s i)) + 1)) 601 (ν 202 (mj s i)).toNat = (ν 601 (ν 202 (mj s i)).toNat) from (Eq.trans (u2_f (by decide)) (u2_f (by decide)))]; omega) rfl, (show 0 ≤ k ∧ k < ((((u2 (u2 ν 205 (mj s i) ((ν 205 (mj s i)) - 1)) 206 (mj s i) ((ν 206 (mj s i)) + 1)) 600 (ν 202 (mj s i)).toNat).toNat : Nat) : Int) ∧ k < 2147483648 from by rw [show (u2 (u2 ν 205 (mj s i) ((ν 205 (mj s i)) - 1)) 206 (mj s i) ((ν 206 (mj s i)) + 1)) 600 (ν 202 (mj s i)).toNat = (ν 600 (ν 202 (mj s i)).toNat) from (Eq.trans (u2_f (by decide)) (u2_f (by decide)))]; omega), (show -128 ≤ 4 ∧ 4 < 128 from by omega), kp_w hx45 (c := 2) (i := k.toNat) (v := 4) (show (((ν 202 (mj s i)).toNat : Nat) : Int) < (u2 (u2 ν 205 (mj s i) ((ν 205 (mj s i)) - 1)) 206 (mj s i) ((ν 206 (mj s i)) + 1)) 602 0 from by rw [show (u2 (u2 ν 205 (mj s i) ((ν 205 (mj s i)) - 1)) 206 (mj s i) ((ν 206 (mj s i)) + 1)) 602 0 = (ν 602 0) from (Eq.trans (u2_f (by decide)) (u2_f (by decide)))]; omega) (show (u2 (u2 ν 205 (mj s i) ((ν 205 (mj s i)) - 1)) 206 (mj s i) ((ν 206 (mj s i)) + 1)) 601 (ν 202 (mj s i)).toNat = ((2 : Nat) : Int) from by rw [show (u2 (u2 ν 205 (mj s i) ((ν 205 (mj s i)) - 1)) 206 (mj s i) ((ν 206 (mj s i)) + 1)) 601 (ν 202 (mj s i)).toNat = (ν 601 (ν 202 (mj s i)).toNat) from (Eq.trans (u2_f (by decide)) (u2_f (by decide)))]; omega) rfl, ?_⟩
          have hV46 := hV44.pw (r := (ν 202 (mj s i)).toNat) (k := k.toNat) (v := 4) (by omega) (by omega) (by omega)
          have hx47 := kx_w hx45 (r := (ν 202 (mj s i)).toNat) (k := k.toNat) (v := 4)
          have t48 := (show 0 ≤ ν 290 (mj s i) ∧ ν 290 (mj s i) ≤ 1 from hV.g 290 (mj s i) rfl)
          have t49 := (show 0 ≤ ν 600 ((ν 202 (mj s i))).toNat ∧ ν 600 ((ν 202 (mj s i))).toNat ≤ 65536 from hV.g 600 ((ν 202 (mj s i))).toNat rfl)
          have t50 := (show 0 ≤ ν 601 ((ν 202 (mj s i))).toNat ∧ ν 601 ((ν 202 (mj s i))).toNat ≤ 3 from hV.g 601 ((ν 202 (mj s i))).toNat rfl)
          have t51 := (show 2 ≤ ν 602 0 from hV.l 602 0)
          exact mi_Wsub (List.forall_mem_cons.mpr ⟨(.head _), (List.forall_mem_cons.mpr ⟨(.tail _ (.head _)), (List.forall_mem_cons.mpr ⟨(.tail _ (.tail _ (.head _))), (List.forall_mem_cons.mpr ⟨(.tail _ (.tail _ (.tail _ (.head _)))), (List.forall_mem_cons.mpr ⟨(.tail _ (.tail _ (.tail _ (.tail _ (.head _))))), (fun _ h => absurd h List.not_mem_nil)⟩)⟩)⟩)⟩)⟩) (ih (k + 1) (u2 (u2 (u2 ν 205 (mj s i) ((ν 205 (mj s i)) - 1)) 206 (mj s i) ((ν 206 (mj s i)) + 1)) (1000 + (ν 202 (mj s i)).toNat) k.toNat 4) hx47 hV46 (by rw [show (u2 (u2 (u2 ν 205 (mj s i) ((ν 205 (mj s i)) - 1)) 206 (mj s i) ((ν 206 (mj s i)) + 1)) (1000 + (ν 202 (mj s i)).toNat) k.toNat 4) 290 (mj s i) = _ from (Eq.trans (u2_f (by omega)) (Eq.trans (u2_f (by decide)) (u2_f (by decide))))]; omega) (by omega) (by rw [show (u2 (u2 (u2 ν 205 (mj s i) ((ν 205 (mj s i)) - 1)) 206 (mj s i) ((ν 206 (mj s i)) + 1)) (1000 + (ν 202 (mj s i)).toNat) k.toNat 4) 202 (mj s i) = _ from (Eq.trans (u2_f (by omega)) (Eq.trans (u2_f (by decide)) (u2_f (by decide))))]; rw [show (u2 (u2 (u2 ν 205 (mj s i) ((ν 205 (mj s i)) - 1)) 206 (mj s i) ((ν 206 (mj s i)) + 1)) (1000 + (ν 202 (mj s i)).toNat) k.toNat 4) 600 ((ν 202 (mj s i))).toNat = _ from (Eq.trans (u2_f (by omega)) (Eq.trans (u2_f (by decide)) (u2_f (by decide))))]; omega) (by rw [show (u2 (u2 (u2 ν 205 (mj s i) ((ν 205 (mj s i)) - 1)) 206 (mj s i) ((ν 206 (mj s i)) + 1)) (1000 + (ν 202 (mj s i)).toNat) k.toNat 4) 202 (mj s i) = _ from (Eq.trans (u2_f (by omega)) (Eq.trans (u2_f (by decide)) (u2_f (by decide))))]; rw [show (u2 (u2 (u2 ν 205 (mj s i) ((ν 205 (mj s i)) - 1)) 206 (mj s i) ((ν 206 (mj s i)) + 1)) (1000 + (ν 202 (mj s i)).toNat) k.toNat 4) 601 ((ν 202 (mj s i))).toNat = _ from (Eq.trans (u2_f (by omega)) (Eq.trans (u2_f (by decide)) (u2_f (by decide))))]; omega) (by rw [show (u2 (u2 (u2 ν 205 (mj s i) ((ν 205 (mj s i)) - 1)) 206 (mj s i) ((ν 206 (mj s i)) + 1)) (1000 + (ν 202 (mj s i)).toNat) k.toNat 4) 202 (mj s i) = _ from (Eq.trans (u2_f (by omega)) (Eq.trans (u2_f (by decide)) (u2_f (by decide))))]; rw [show (u2 (u2 (u2 ν 205 (mj s i) ((ν 205 (mj s i)) - 1)) 206 (mj s i) ((ν 206 (mj s i)) + 1)) (1000 + (ν 202 (mj s i)).toNat) k.toNat 4) 602 0 = _ from (Eq.trans (u2_f (by omega)) (Eq.trans (u2_f (by decide)) (u2_f (by decide))))]; omega) (by rw [show (u2 (u2 (u2 ν 205 (mj s i) ((ν 205 (mj s i)) - 1)) 206 (mj s i) ((ν 206 (mj s i)) + 1)) (1000 + (ν 202 (mj s i)).toNat) k.toNat 4) 202 (mj s i) = _ from (Eq.trans (u2_f (by omega)) (Eq.trans (u2_f (by decide)) (u2_f (by decide))))]; rw [mR_u (g' := ν (1000 + (ν 202 (mj s i)).toNat)) (by omega) (fun q h1 h2 => (Eq.trans (u2_k (by omega)) (Eq.trans (u2_f (by omega)) (u2_f (by omega)))))]; rw [show (u2 (u2 (u2 ν 205 (mj s i) ((ν 205 (mj s i)) - 1)) 206 (mj s i) ((ν 206 (mj s i)) + 1)) (1000 + (ν 202 (mj s i)).toNat) k.toNat 4) 205 (mj s i) = ((ν 205 (mj s i)) - 1) from (Eq.trans (u2_f (by omega)) (Eq.trans (u2_f (by decide)) (u2_s _ _ _ _)))]; have z1 := mR_c (g := ν (1000 + (ν 202 (mj s i)).toNat)) (c := 3) (a := k) (b := u + n) (by omega) (by omega); have z2 := b2_c (ν (1000 + (ν 202 (mj s i)).toNat) k.toNat = 3); omega) (by rw [show (u2 (u2 (u2 ν 205 (mj s i) ((ν 205 (mj s i)) - 1)) 206 (mj s i) ((ν 206 (mj s i)) + 1)) (1000 + (ν 202 (mj s i)).toNat) k.toNat 4) 202 (mj s i) = _ from (Eq.trans (u2_f (by omega)) (Eq.trans (u2_f (by decide)) (u2_f (by decide))))]; rw [mR_u (g' := ν (1000 + (ν 202 (mj s i)).toNat)) (by omega) (fun q h1 h2 => (Eq.trans (u2_k (by omega)) (Eq.trans (u2_f (by omega)) (u2_f (by omega)))))]; rw [show (u2 (u2 (u2 ν 205 (mj s i) ((ν 205 (mj s i)) - 1)) 206 (mj s i) ((ν 206 (mj s i)) + 1)) (1000 + (ν 202 (mj s i)).toNat) k.toNat 4) 206 (mj s i) = ((ν 206 (mj s i)) + 1) from (Eq.trans (u2_f (by omega)) (u2_s _ _ _ _))]; have z1 := mR_c (g := ν (1000 + (ν 202 (mj s i)).toNat)) (c := 4) (a := k) (b := u + n) (by omega) (by omega); have z2 := b2_c (ν (1000 + (ν 202 (mj s i)).toNat) k.toNat = 4); omega) (by omega) (Eq.trans (by first | exact ((if_neg e1).trans (if_pos e23)).symm | (rw [s_markHere_2]; rw [if_neg e1, if_pos e23])) hsr))
  have t52 := (show 0 ≤ κ 290 (mj s i) ∧ κ 290 (mj s i) ≤ 1 from hV.g 290 (mj s i) rfl)
  have t53 := (show 0 ≤ κ 202 (mj s i) from hV.l 202 (mj s i))
  have t54 := (show 0 ≤ κ 600 ((κ 202 (mj s i))).toNat ∧ κ 600 ((κ 202 (mj s i))).toNat ≤ 65536 from hV.g 600 ((κ 202 (mj s i))).toNat rfl)
  have t55 := (show 0 ≤ κ 601 ((κ 202 (mj s i))).toNat ∧ κ 601 ((κ 202 (mj s i))).toNat ≤ 3 from hV.g 601 ((κ 202 (mj s i))).toNat rfl)
  have t56 := (show 2 ≤ κ 602 0 from hV.l 602 0)
  exact mi_Wsub (List.forall_mem_cons.mpr ⟨(.head _), (List.forall_mem_cons.mpr ⟨(.tail _ (.head _)), (List.forall_mem_cons.mpr ⟨(.tail _ (.tail _ (.head _))), (List.forall_mem_cons.mpr ⟨(.tail _ (.tail _ (.tail _ (.head _)))), (List.forall_mem_cons.mpr ⟨(.tail _ (.tail _ (.tail _ (.tail _ (.head _))))), (fun _ h => absurd h List.not_mem_nil)⟩)⟩)⟩)⟩)⟩) (loop2 _ (n.toNat + 1) u κ hx hV (by omega) (by omega) (by omega) (by omega) (by omega) hcc he (by omega) rfl)
set_option maxRecDepth 100000 in
theorem s_markHere_2_fr {f kk : Nat} {s i u n g : Int} (hf : (Nat.blt f 1000 && !([200, 205, 206, 207].elem f)) = true) : ∀ (d : Nat) (k : Int) (ν : Nat → Nat → Int), s_markHere_2 κ s i u n g d k ν f kk = ν f kk := by
  have n200 : f ≠ 200 := by rintro rfl; exact absurd hf (by decide)
  have n205 : f ≠ 205 := by rintro rfl; exact absurd hf (by decide)
  have n206 : f ≠ 206 := by rintro rfl; exact absurd hf (by decide)
  have n207 : f ≠ 207 := by rintro rfl; exact absurd hf (by decide)
  have lt : f < 1000 := Nat.le_of_ble_eq_true (Bool.and_eq_true_iff.mp hf).1
  have f200 : ∀ (m : Nat → Nat → Int) (a b : Nat) (v : Int), u2 m 200 a v f b = m f b := fun m a b v => u2_f n200
  have f205 : ∀ (m : Nat → Nat → Int) (a b : Nat) (v : Int), u2 m 205 a v f b = m f b := fun m a b v => u2_f n205
  have f206 : ∀ (m : Nat → Nat → Int) (a b : Nat) (v : Int), u2 m 206 a v f b = m f b := fun m a b v => u2_f n206
  have f207 : ∀ (m : Nat → Nat → Int) (a b : Nat) (v : Int), u2 m 207 a v f b = m f b := fun m a b v => u2_f n207
  have fw : ∀ (m : Nat → Nat → Int) (r a b : Nat) (v : Int), u2 m (1000 + r) a v f b = m f b := fun m r a b v => u2_f (by omega)
  intro d
  induction d with
  | zero => intros; rfl
  | succ d ih =>
    intro k ν
    rw [s_markHere_2]
    repeat' with_reducible apply f_ite
    all_goals first | rfl | simp only [f200, f205, f206, f207, fw, ih]
set_option maxRecDepth 100000 in
theorem s_markHere_fr {f kk : Nat} {s i u n g : Int} (hf : (Nat.blt f 1000 && !([200, 205, 206, 207].elem f)) = true) : s_markHere κ s i u n g f kk = κ f kk := by
  have n200 : f ≠ 200 := by rintro rfl; exact absurd hf (by decide)
  have n205 : f ≠ 205 := by rintro rfl; exact absurd hf (by decide)
  have n206 : f ≠ 206 := by rintro rfl; exact absurd hf (by decide)
  have n207 : f ≠ 207 := by rintro rfl; exact absurd hf (by decide)
  have lt : f < 1000 := Nat.le_of_ble_eq_true (Bool.and_eq_true_iff.mp hf).1
  have f200 : ∀ (m : Nat → Nat → Int) (a b : Nat) (v : Int), u2 m 200 a v f b = m f b := fun m a b v => u2_f n200
  have f205 : ∀ (m : Nat → Nat → Int) (a b : Nat) (v : Int), u2 m 205 a v f b = m f b := fun m a b v => u2_f n205
  have f206 : ∀ (m : Nat → Nat → Int) (a b : Nat) (v : Int), u2 m 206 a v f b = m f b := fun m a b v => u2_f n206
  have f207 : ∀ (m : Nat → Nat → Int) (a b : Nat) (v : Int), u2 m 207 a v f b = m f b := fun m a b v => u2_f n207
  have fw : ∀ (m : Nat → Nat → Int) (r a b : Nat) (v : Int), u2 m (1000 + r) a v f b = m f b := fun m r a b v => u2_f (by omega)
  unfold s_markHere
  repeat' with_reducible apply f_ite
  all_goals first | rfl | simp only [f200, f205, f206, f207, fw, s_markHere_2_fr hf]
def s_markLost_2 (κ : Nat → Nat → Int) (s i u n g : Int) : Nat → Int → (Nat → Nat → Int) → (Nat → Nat → Int)
  | 0, _, ν => ν
  | d + 1, k, ν => (if (u + n) ≤ k then (if g = 0 then ν else (if (ν 207 (mj s i)) = 4 then ν else (u2 ν 207 (mj s i) 3))) else (if (ν (1000 + (ν 202 (mj s i)).toNat) k.toNat) = 2 then (s_markLost_2 κ s i u n g d (k + 1) (u2 (u2 ν (1000 + (ν 202 (mj s i)).toNat) k.toNat 3) 205 (mj s i) ((ν 205 (mj s i)) + 1))) else (s_markLost_2 κ s i u n g d (k + 1) ν)))
def s_markLost (κ : Nat → Nat → Int) (s i u n g : Int) : Nat → Nat → Int := (s_markLost_2 κ s i u n g (n.toNat + 1) u κ)
set_option maxRecDepth 100000 in
theorem m_markLost (hF : mm_F G) (htr : L.stackTraces = false) (hx : kx B bx κ) (hV : kV κ) {s i u n g : Int} {a0 : Nat} (ea0 : a0 = B 2 (mj s i)) (hp : κ 290 (mj s i) = 1) (hu : 0 ≤ u) (hn : 0 ≤ n) (hl : u + n ≤ κ 600 (κ 202 (mj s i)).toNat) (hg : g = 0 ∨ g = 1) (hk2 : κ 601 (κ 202 (mj s i)).toNat = 2) (ha2 : κ 202 (mj s i) < κ 602 0) (ho : κ 205 (mj s i) + mR (κ (1000 + (κ 202 (mj s i)).toNat)) 2 u (u + n) ≤ 65536) :
    mm_Met L G SX2_markLost [.ref a0, .int (iI u), .int (iI n), .int (iI g)] (hk G B bx h0 κ) 0 0 (mRetS none (hk G B bx h0 (s_markLost κ s i u n g)) (kx B bx (s_markLost κ s i u n g) ∧ kV (s_markLost κ s i u n g))) mm_no := by
  refine mi_meth MX2_markLost 400 hF htr okX2_markLost (av := [aR a0, aI u, aI n, aI g]) (by decide +kernel) (Nat.le_of_ble_eq_true rfl) cmX2_markLost (fun θ hc => ?_)
  have z9 : 0 ≤ κ 600 (κ 202 (mj s i)).toNat ∧ κ 600 (κ 202 (mj s i)).toNat ≤ 65536 := hV.g 600 _ rfl
  have loop2 : ∀ (S : Nat → Nat → Int) (d : Nat) (k : Int) (ν : Nat → Nat → Int) (hx : kx B bx ν) (hV : kV ν), (ν 290 (mj s i) = 1) → (u ≤ k ∧ k ≤ u + n) → (u + n ≤ ν 600 (ν 202 (mj s i)).toNat) → (ν 601 (ν 202 (mj s i)).toNat = 2) → (ν 202 (mj s i) < ν 602 0) → (ν 205 (mj s i) + mR (ν (1000 + (ν 202 (mj s i)).toNat)) 2 k (u + n) ≤ 65536) → (u + n - k) < (d : Int) → s_markLost_2 κ s i u n g d k ν = S → mi_W L G MX2_markLost 0 0 (mRetS none (hk G B bx h0 S) (kx B bx S ∧ kV S)) mm_no θ 2 [(4, aI k), (0, aR (a0)), (1, aI u), (2, aI n), (3, aI g)] [] (hk G B bx h0 ν) 0 0 := by
    intro S d
    induction d with
    | zero =>
      intro k ν hx hV hp hi1 hl2 hk2 ha2 ho hms hsr
      omega
    | succ d ih =>
      intro k ν hx hV hp hi1 hl2 hk2 ha2 ho hms hsr
      have z8 := mR_b (g := ν (1000 + (ν 202 (mj s i)).toNat)) (c := 2) (a := k) (b := u + n)
      have z9 : 0 ≤ ν 600 (ν 202 (mj s i)).toNat ∧ ν 600 (ν 202 (mj s i)).toNat ≤ 65536 := hV.g 600 _ rfl
      have zc : k < u + n → mR (ν (1000 + (ν 202 (mj s i)).toNat)) 2 k (u + n) = b2 (ν (1000 + (ν 202 (mj s i)).toNat) k.toNat = 2) + mR (ν (1000 + (ν 202 (mj s i)).toNat)) 2 (k + 1) (u + n) := fun z => mR_c (by omega) z
      have zb := b2_c (ν (1000 + (ν 202 (mj s i)).toNat) k.toNat = 2)
      have zm := mR_b (g := ν (1000 + (ν 202 (mj s i)).toNat)) (c := 2) (a := k + 1) (b := u + n)
      refine mi_sound hc okX2_markLost 400 _ _ _ _ _ _ ?_
      refine ⟨by omega, fun (e1 : (u + n) ≤ k) => ?_, fun (e1 : ¬ ((u + n) ≤ k)) => ?_⟩
      · refine ⟨by omega, fun (e2 : g = 0) => ?_, fun (e2 : ¬ (g = 0)) => ?_⟩
        · exact ⟨kRetVS  (hsr.symm.trans (by first | exact (if_pos e1).trans (if_pos e2) | (rw [s_markLost_2]; rw [if_pos e1, if_pos e2]))) hx hV, Nat.le_refl _, Nat.le_refl _⟩
        · refine ⟨_, hk_o2 hx (show ν 290 (mj s i) = 1 from hp) ea0, aI (ν 207 (mj s i)), rfl, ?_⟩
          have t3 := (show 0 ≤ ν 207 (mj s i) ∧ ν 207 (mj s i) ≤ 4 from hV.g 207 (mj s i) rfl)
          refine ⟨by omega, fun (e4 : (ν 207 (mj s i)) = 4) => ?_, fun (e4 : ¬ ((ν 207 (mj s i)) = 4)) => ?_⟩
          · exact ⟨kRetVS  (hsr.symm.trans (by first | exact (if_pos e1).trans ((if_neg e2).trans (if_pos e4)) | (rw [s_markLost_2]; rw [if_pos e1, if_neg e2, if_pos e4]))) hx hV, Nat.le_refl _, Nat.le_refl _⟩
          · refine ⟨_, hk_o2 hx (show ν 290 (mj s i) = 1 from hp) ea0, trivial, _, kp_207 hx (show ν 290 (mj s i) = 1 from hp) (v := 3) ea0, ?_⟩
            have hV5 := hV.u (f := 207) (k := (mj s i)) (v := 3) rfl (show 0 ≤ 3 ∧ 3 ≤ 4 from by omega)
            have hx6 := kx_u (f := 207) (k := (mj s i)) (v := 3) rfl hx
            exact ⟨kRetVS  (hsr.symm.trans (by first | exact (if_pos e1).trans ((if_neg e2).trans (if_neg e4)) | (rw [s_markLost_2]; rw [if_pos e1, if_neg e2, if_neg e4]))) hx6 hV5, Nat.le_refl _, Nat.le_refl _⟩
      · refine ⟨_, hk_o2 hx (show ν 290 (mj s i) = 1 from hp) ea0, aR (B 17 (ν 202 (mj s i)).toNat), rfl, ?_⟩
        have t7 := (show 0 ≤ ν 202 (mj s i) from hV.l 202 (mj s i))
        refine ⟨_, _, (ν (1000 + (ν 202 (mj s i)).toNat) k.toNat), hk_w hx (c := 2) (show (((ν 202 (mj s i)).toNat : Nat) : Int) < ν 602 0 from by omega) (show ν 601 (ν 202 (mj s i)).toNat = ((2 : Nat) : Int) from by omega) rfl, (show 0 ≤ k ∧ k < (((ν 600 (ν 202 (mj s i)).toNat).toNat : Nat) : Int) ∧ k < 2147483648 from by omega), rfl, ?_⟩
        have t8 := (show -128 ≤ ν (1000 + (ν 202 (mj s i)).toNat) k.toNat ∧ ν (1000 + (ν 202 (mj s i)).toNat) k.toNat ≤ 256 from hV.w (ν 202 (mj s i)).toNat k.toNat)
        refine ⟨by omega, fun (e9 : ¬ ((ν (1000 + (ν 202 (mj s i)).toNat) k.toNat) = 2)) => ?_, fun (e9 : (ν (1000 + (ν 202 (mj s i)).toNat) k.toNat) = 2) => ?_⟩
        · have t10 := (show 0 ≤ ν 290 (mj s i) ∧ ν 290 (mj s i) ≤ 1 from hV.g 290 (mj s i) rfl)
          have t11 := (show 0 ≤ ν 600 ((ν 202 (mj s i))).toNat ∧ ν 600 ((ν 202 (mj s i))).toNat ≤ 65536 from hV.g 600 ((ν 202 (mj s i))).toNat rfl)
          have t12 := (show 0 ≤ ν 601 ((ν 202 (mj s i))).toNat ∧ ν 601 ((ν 202 (mj s i))).toNat ≤ 3 from hV.g 601 ((ν 202 (mj s i))).toNat rfl)
          have t13 := (show 2 ≤ ν 602 0 from hV.l 602 0)
          exact mi_Wsub (List.forall_mem_cons.mpr ⟨(.head _), (List.forall_mem_cons.mpr ⟨(.tail _ (.head _)), (List.forall_mem_cons.mpr ⟨(.tail _ (.tail _ (.head _))), (List.forall_mem_cons.mpr ⟨(.tail _ (.tail _ (.tail _ (.head _)))), (List.forall_mem_cons.mpr ⟨(.tail _ (.tail _ (.tail _ (.tail _ (.head _))))), (fun _ h => absurd h List.not_mem_nil)⟩)⟩)⟩)⟩)⟩) (ih (k + 1) ν hx hV (by omega) (by omega) (by omega) (by omega) (by omega) (by rw [show ν 202 (mj s i) = _ from rfl]; rw [mR_u (g' := ν (1000 + (ν 202 (mj s i)).toNat)) (by omega) (fun q h1 h2 => rfl)]; have z1 := mR_c (g := ν (1000 + (ν 202 (mj s i)).toNat)) (c := 2) (a := k) (b := u + n) (by omega) (by omega); have z2 := b2_c (ν (1000 + (ν 202 (mj s i)).toNat) k.toNat = 2); omega) (by omega) (Eq.trans (by first | exact ((if_neg e1).trans (if_neg e9)).symm | (rw [s_markLost_2]; rw [if_neg e1, if_neg e9])) hsr))
        · refine ⟨_, hk_o2 hx (show ν 290 (mj s i) = 1 from hp) ea0, aR (B 17 (ν 202 (mj s i)).toNat), rfl, ?_⟩
          refine ⟨_, _, _, hk_w hx (c := 2) (show (((ν 202 (mj s i)).toNat : Nat) : Int) < ν 602 0 from by omega) (show ν 601 (ν 202 (mj s i)).toNat = ((2 : Nat) : Int) from by omega) rfl, (show 0 ≤ k ∧ k < (((ν 600 (ν 202 (mj s i)).toNat).toNat : Nat) : Int) ∧ k < 2147483648 from by omega), (show -128 ≤ 3 ∧ 3 < 128 from by omega), kp_w hx (c := 2) (i := k.toNat) (v := 3) (show (((ν 202 (mj s i)).toNat : Nat) : Int) < ν 602 0 from by omega) (show ν 601 (ν 202 (mj s i)).toNat = ((2 : Nat) : Int) from by omega) rfl, ?_⟩
          have hV14 := hV.pw (r := (ν 202 (mj s i)).toNat) (k := k.toNat) (v := 3) (by omega) (by omega) (by omega)
          have hx15 := kx_w hx (r := (ν 202 (mj s i)).toNat) (k := k.toNat) (v := 3)
          refine ⟨_, hk_o2 hx15 (show (u2 ν (1000 + (ν 202 (mj s i)).toNat) k.toNat 3) 290 (mj s i) = 1 from ((u2_f (by omega))).trans hp) ea0, aI (ν 205 (mj s i)), congrArg aI (show (u2 ν (1000 + (ν 202 (mj s i)).toNat) k.toNat 3) 205 (mj s i) = (ν 205 (mj s i)) from (u2_f (by omega))), ?_⟩
          have t16 := (show 0 ≤ ν 205 (mj s i) ∧ ν 205 (mj s i) ≤ 65536 from hV.g 205 (mj s i) rfl)
          refine ⟨_, hk_o2 hx15 (show (u2 ν (1000 + (ν 202 (mj s i)).toNat) k.toNat 3) 290 (mj s i) = 1 from ((u2_f (by omega))).trans hp) ea0, trivial, _, kp_205 hx15 (show (u2 ν (1000 + (ν 202 (mj s i)).toNat) k.toNat 3) 290 (mj s i) = 1 from ((u2_f (by omega))).trans hp) (v := ((ν 205 (mj s i)) + 1)) ea0, ?_⟩
          have hV17 := hV14.u (f := 205) (k := (mj s i)) (v := ((ν 205 (mj s i)) + 1)) rfl (show 0 ≤ ((ν 205 (mj s i)) + 1) ∧ ((ν 205 (mj s i)) + 1) ≤ 65536 from by omega)
          have hx18 := kx_u (f := 205) (k := (mj s i)) (v := ((ν 205 (mj s i)) + 1)) rfl hx15
          have t19 := (show 0 ≤ ν 290 (mj s i) ∧ ν 290 (mj s i) ≤ 1 from hV.g 290 (mj s i) rfl)
          have t20 := (show 0 ≤ ν 600 ((ν 202 (mj s i))).toNat ∧ ν 600 ((ν 202 (mj s i))).toNat ≤ 65536 from hV.g 600 ((ν 202 (mj s i))).toNat rfl)
          have t21 := (show 0 ≤ ν 601 ((ν 202 (mj s i))).toNat ∧ ν 601 ((ν 202 (mj s i))).toNat ≤ 3 from hV.g 601 ((ν 202 (mj s i))).toNat rfl)
          have t22 := (show 2 ≤ ν 602 0 from hV.l 602 0)
          exact mi_Wsub (List.forall_mem_cons.mpr ⟨(.head _), (List.forall_mem_cons.mpr ⟨(.tail _ (.head _)), (List.forall_mem_cons.mpr ⟨(.tail _ (.tail _ (.head _))), (List.forall_mem_cons.mpr ⟨(.tail _ (.tail _ (.tail _ (.head _)))), (List.forall_mem_cons.mpr ⟨(.tail _ (.tail _ (.tail _ (.tail _ (.head _))))), (fun _ h => absurd h List.not_mem_nil)⟩)⟩)⟩)⟩)⟩) (ih (k + 1) (u2 (u2 ν (1000 + (ν 202 (mj s i)).toNat) k.toNat 3) 205 (mj s i) ((ν 205 (mj s i)) + 1)) hx18 hV17 (by rw [show (u2 (u2 ν (1000 + (ν 202 (mj s i)).toNat) k.toNat 3) 205 (mj s i) ((ν 205 (mj s i)) + 1)) 290 (mj s i) = _ from (Eq.trans (u2_f (by decide)) (u2_f (by omega)))]; omega) (by omega) (by rw [show (u2 (u2 ν (1000 + (ν 202 (mj s i)).toNat) k.toNat 3) 205 (mj s i) ((ν 205 (mj s i)) + 1)) 202 (mj s i) = _ from (Eq.trans (u2_f (by decide)) (u2_f (by omega)))]; rw [show (u2 (u2 ν (1000 + (ν 202 (mj s i)).toNat) k.toNat 3) 205 (mj s i) ((ν 205 (mj s i)) + 1)) 600 ((ν 202 (mj s i))).toNat = _ from (Eq.trans (u2_f (by decide)) (u2_f (by omega)))]; omega) (by rw [show (u2 (u2 ν (1000 + (ν 202 (mj s i)).toNat) k.toNat 3) 205 (mj s i) ((ν 205 (mj s i)) + 1)) 202 (mj s i) = _ from (Eq.trans (u2_f (by decide)) (u2_f (by omega)))]; rw [show (u2 (u2 ν (1000 + (ν 202 (mj s i)).toNat) k.toNat 3) 205 (mj s i) ((ν 205 (mj s i)) + 1)) 601 ((ν 202 (mj s i))).toNat = _ from (Eq.trans (u2_f (by decide)) (u2_f (by omega)))]; omega) (by rw [show (u2 (u2 ν (1000 + (ν 202 (mj s i)).toNat) k.toNat 3) 205 (mj s i) ((ν 205 (mj s i)) + 1)) 202 (mj s i) = _ from (Eq.trans (u2_f (by decide)) (u2_f (by omega)))]; rw [show (u2 (u2 ν (1000 + (ν 202 (mj s i)).toNat) k.toNat 3) 205 (mj s i) ((ν 205 (mj s i)) + 1)) 602 0 = _ from (Eq.trans (u2_f (by decide)) (u2_f (by omega)))]; omega) (by rw [show (u2 (u2 ν (1000 + (ν 202 (mj s i)).toNat) k.toNat 3) 205 (mj s i) ((ν 205 (mj s i)) + 1)) 202 (mj s i) = _ from (Eq.trans (u2_f (by decide)) (u2_f (by omega)))]; rw [mR_u (g' := ν (1000 + (ν 202 (mj s i)).toNat)) (by omega) (fun q h1 h2 => (Eq.trans (u2_f (by omega)) (u2_k (by omega))))]; rw [show (u2 (u2 ν (1000 + (ν 202 (mj s i)).toNat) k.toNat 3) 205 (mj s i) ((ν 205 (mj s i)) + 1)) 205 (mj s i) = ((ν 205 (mj s i)) + 1) from (u2_s _ _ _ _)]; have z1 := mR_c (g := ν (1000 + (ν 202 (mj s i)).toNat)) (c := 2) (a := k) (b := u + n) (by omega) (by omega); have z2 := b2_c (ν (1000 + (ν 202 (mj s i)).toNat) k.toNat = 2); omega) (by omega) (Eq.trans (by first | exact ((if_neg e1).trans (if_pos e9)).symm | (rw [s_markLost_2]; rw [if_neg e1, if_pos e9])) hsr))
  have t23 := (show 0 ≤ κ 290 (mj s i) ∧ κ 290 (mj s i) ≤ 1 from hV.g 290 (mj s i) rfl)
  have t24 := (show 0 ≤ κ 202 (mj s i) from hV.l 202 (mj s i))
  have t25 := (show 0 ≤ κ 600 ((κ 202 (mj s i))).toNat ∧ κ 600 ((κ 202 (mj s i))).toNat ≤ 65536 from hV.g 600 ((κ 202 (mj s i))).toNat rfl)
  have t26 := (show 0 ≤ κ 601 ((κ 202 (mj s i))).toNat ∧ κ 601 ((κ 202 (mj s i))).toNat ≤ 3 from hV.g 601 ((κ 202 (mj s i))).toNat rfl)
  have t27 := (show 2 ≤ κ 602 0 from hV.l 602 0)
  exact mi_Wsub (List.forall_mem_cons.mpr ⟨(.head _), (List.forall_mem_cons.mpr ⟨(.tail _ (.head _)), (List.forall_mem_cons.mpr ⟨(.tail _ (.tail _ (.head _))), (List.forall_mem_cons.mpr ⟨(.tail _ (.tail _ (.tail _ (.head _)))), (List.forall_mem_cons.mpr ⟨(.tail _ (.tail _ (.tail _ (.tail _ (.head _))))), (fun _ h => absurd h List.not_mem_nil)⟩)⟩)⟩)⟩)⟩) (loop2 _ (n.toNat + 1) u κ hx hV (by omega) (by omega) (by omega) (by omega) (by omega) ho (by omega) rfl)
set_option maxRecDepth 100000 in
theorem s_markLost_2_fr {f kk : Nat} {s i u n g : Int} (hf : (Nat.blt f 1000 && !([205, 207].elem f)) = true) : ∀ (d : Nat) (k : Int) (ν : Nat → Nat → Int), s_markLost_2 κ s i u n g d k ν f kk = ν f kk := by
  have n205 : f ≠ 205 := by rintro rfl; exact absurd hf (by decide)
  have n207 : f ≠ 207 := by rintro rfl; exact absurd hf (by decide)
  have lt : f < 1000 := Nat.le_of_ble_eq_true (Bool.and_eq_true_iff.mp hf).1
  have f205 : ∀ (m : Nat → Nat → Int) (a b : Nat) (v : Int), u2 m 205 a v f b = m f b := fun m a b v => u2_f n205
  have f207 : ∀ (m : Nat → Nat → Int) (a b : Nat) (v : Int), u2 m 207 a v f b = m f b := fun m a b v => u2_f n207
  have fw : ∀ (m : Nat → Nat → Int) (r a b : Nat) (v : Int), u2 m (1000 + r) a v f b = m f b := fun m r a b v => u2_f (by omega)
  intro d
  induction d with
  | zero => intros; rfl
  | succ d ih =>
    intro k ν
    rw [s_markLost_2]
    repeat' with_reducible apply f_ite
    all_goals first | rfl | simp only [f205, f207, fw, ih]
set_option maxRecDepth 100000 in
theorem s_markLost_fr {f kk : Nat} {s i u n g : Int} (hf : (Nat.blt f 1000 && !([205, 207].elem f)) = true) : s_markLost κ s i u n g f kk = κ f kk := by
  have n205 : f ≠ 205 := by rintro rfl; exact absurd hf (by decide)
  have n207 : f ≠ 207 := by rintro rfl; exact absurd hf (by decide)
  have lt : f < 1000 := Nat.le_of_ble_eq_true (Bool.and_eq_true_iff.mp hf).1
  have f205 : ∀ (m : Nat → Nat → Int) (a b : Nat) (v : Int), u2 m 205 a v f b = m f b := fun m a b v => u2_f n205
  have f207 : ∀ (m : Nat → Nat → Int) (a b : Nat) (v : Int), u2 m 207 a v f b = m f b := fun m a b v => u2_f n207
  have fw : ∀ (m : Nat → Nat → Int) (r a b : Nat) (v : Int), u2 m (1000 + r) a v f b = m f b := fun m r a b v => u2_f (by omega)
  unfold s_markLost
  repeat' with_reducible apply f_ite
  all_goals first | rfl | simp only [f205, f207, fw, s_markLost_2_fr hf]
def v_firstLost_2 (κ : Nat → Nat → Int) (s i : Int) : Nat → Int → Int
  | 0, _ => 0
  | d + 1, k => (if (κ 204 (mj s i)) ≤ k then k else (if (κ (1000 + (κ 202 (mj s i)).toNat) k.toNat) = 3 then k else (v_firstLost_2 κ s i d (k + 1))))
def v_firstLost (κ : Nat → Nat → Int) (s i : Int) : Int := (v_firstLost_2 κ s i 65537 0)
set_option maxRecDepth 100000 in
theorem m_firstLost (hF : mm_F G) (htr : L.stackTraces = false) (hx : kx B bx κ) (hV : kV κ) {s i : Int} {a0 : Nat} (ea0 : a0 = B 2 (mj s i)) (hp : κ 290 (mj s i) = 1) (hk2 : κ 601 (κ 202 (mj s i)).toNat = 2) (ha2 : κ 202 (mj s i) < κ 602 0) (hl : κ 204 (mj s i) ≤ κ 600 (κ 202 (mj s i)).toNat) :
    mm_Met L G SX2_firstLost [.ref a0] (hk G B bx h0 κ) 0 0 (mRet (some (.int (iI (v_firstLost κ s i)))) (hk G B bx h0 κ)) mm_no := by
  refine mi_meth MX2_firstLost 400 hF htr okX2_firstLost (av := [aR a0]) (by decide +kernel) (Nat.le_of_ble_eq_true rfl) cmX2_firstLost (fun θ hc => ?_)
  have z8 : 0 ≤ κ 204 (mj s i) ∧ κ 204 (mj s i) ≤ 65536 := hV.g 204 _ rfl
  have loop2 : ∀ (R : Int) (d : Nat) (k : Int), (0 ≤ k ∧ k ≤ κ 204 (mj s i)) → (κ 204 (mj s i) - k) < (d : Int) → v_firstLost_2 κ s i d k = R → mi_W L G MX2_firstLost 0 0 (mRet (some (.int (iI R))) (hk G B bx h0 κ)) mm_no θ 2 [(1, aI k), (0, aR (a0))] [] (hk G B bx h0 κ) 0 0 := by
    intro R d
    induction d with
    | zero =>
      intro k hi1 hms hvr
      have z8 : 0 ≤ κ 204 (mj s i) ∧ κ 204 (mj s i) ≤ 65536 := hV.g 204 _ rfl
      omega
    | succ d ih =>
      intro k hi1 hms hvr
      have z8 : 0 ≤ κ 204 (mj s i) ∧ κ 204 (mj s i) ≤ 65536 := hV.g 204 _ rfl
      refine mi_sound hc okX2_firstLost 400 _ _ _ _ _ _ ?_
      refine ⟨_, hk_o2 hx (show κ 290 (mj s i) = 1 from hp) ea0, aI (κ 204 (mj s i)), rfl, ?_⟩
      have t1 := (show 0 ≤ κ 204 (mj s i) ∧ κ 204 (mj s i) ≤ 65536 from hV.g 204 (mj s i) rfl)
      refine ⟨by omega, fun (e2 : (κ 204 (mj s i)) ≤ k) => ?_, fun (e2 : ¬ ((κ 204 (mj s i)) ≤ k)) => ?_⟩
      · exact ⟨kRetI (hvr.symm.trans (by first | exact if_pos e2 | (rw [v_firstLost_2]; rw [if_pos e2]))), Nat.le_refl _, Nat.le_refl _⟩
      · refine ⟨_, hk_o2 hx (show κ 290 (mj s i) = 1 from hp) ea0, aR (B 17 (κ 202 (mj s i)).toNat), rfl, ?_⟩
        have t3 := (show 0 ≤ κ 202 (mj s i) from hV.l 202 (mj s i))
        refine ⟨_, _, (κ (1000 + (κ 202 (mj s i)).toNat) k.toNat), hk_w hx (c := 2) (show (((κ 202 (mj s i)).toNat : Nat) : Int) < κ 602 0 from by omega) (show κ 601 (κ 202 (mj s i)).toNat = ((2 : Nat) : Int) from by omega) rfl, (show 0 ≤ k ∧ k < (((κ 600 (κ 202 (mj s i)).toNat).toNat : Nat) : Int) ∧ k < 2147483648 from by omega), rfl, ?_⟩
        have t4 := (show -128 ≤ κ (1000 + (κ 202 (mj s i)).toNat) k.toNat ∧ κ (1000 + (κ 202 (mj s i)).toNat) k.toNat ≤ 256 from hV.w (κ 202 (mj s i)).toNat k.toNat)
        refine ⟨by omega, fun (e5 : (κ (1000 + (κ 202 (mj s i)).toNat) k.toNat) = 3) => ?_, fun (e5 : ¬ ((κ (1000 + (κ 202 (mj s i)).toNat) k.toNat) = 3)) => ?_⟩
        · exact ⟨kRetI (hvr.symm.trans (by first | exact (if_neg e2).trans (if_pos e5) | (rw [v_firstLost_2]; rw [if_neg e2, if_pos e5]))), Nat.le_refl _, Nat.le_refl _⟩
        · exact mi_Wsub (List.forall_mem_cons.mpr ⟨(.head _), (List.forall_mem_cons.mpr ⟨(.tail _ (.head _)), (fun _ h => absurd h List.not_mem_nil)⟩)⟩) (ih (k + 1) (by omega) (by omega) (Eq.trans (by first | exact ((if_neg e2).trans (if_neg e5)).symm | (rw [v_firstLost_2]; rw [if_neg e2, if_neg e5])) hvr))
  exact mi_Wsub (List.forall_mem_cons.mpr ⟨(.head _), (List.forall_mem_cons.mpr ⟨(.tail _ (.head _)), (fun _ h => absurd h List.not_mem_nil)⟩)⟩) (loop2 _ 65537 0 (by omega) (by omega) rfl)
theorem firstLost_b2 (hV : kV κ) {s i : Int} : ∀ (d : Nat) (k : Int), 0 ≤ k → k ≤ κ 204 (mj s i) → 0 ≤ v_firstLost_2 κ s i d k ∧ v_firstLost_2 κ s i d k ≤ κ 204 (mj s i)
  | 0, k, h1, h2 => by
    have z : 0 ≤ κ 204 (mj s i) ∧ κ 204 (mj s i) ≤ 65536 := hV.g 204 _ rfl
    exact ⟨Int.le_refl _, z.1⟩
  | d + 1, k, h1, h2 => by
    rw [v_firstLost_2]
    split
    · omega
    · split
      · omega
      · exact firstLost_b2 hV d (k + 1) (by omega) (by omega)
theorem firstLost_b (hV : kV κ) {s i : Int} : 0 ≤ v_firstLost κ s i ∧ v_firstLost κ s i ≤ κ 204 (mj s i) := by
  have z : 0 ≤ κ 204 (mj s i) ∧ κ 204 (mj s i) ≤ 65536 := hV.g 204 _ rfl
  exact firstLost_b2 hV _ _ (by omega) z.1
def v_lostRun_2 (κ : Nat → Nat → Int) (s i u : Int) : Nat → Int → Int
  | 0, _ => 0
  | d + 1, k => (if (κ 204 (mj s i)) ≤ k then (k - u) else (if (κ (1000 + (κ 202 (mj s i)).toNat) k.toNat) = 3 then (v_lostRun_2 κ s i u d (k + 1)) else (k - u)))
def v_lostRun (κ : Nat → Nat → Int) (s i u : Int) : Int := (v_lostRun_2 κ s i u 65537 u)
set_option maxRecDepth 100000 in
theorem m_lostRun (hF : mm_F G) (htr : L.stackTraces = false) (hx : kx B bx κ) (hV : kV κ) {s i u : Int} {a0 : Nat} (ea0 : a0 = B 2 (mj s i)) (hp : κ 290 (mj s i) = 1) (hk2 : κ 601 (κ 202 (mj s i)).toNat = 2) (ha2 : κ 202 (mj s i) < κ 602 0) (hl : κ 204 (mj s i) ≤ κ 600 (κ 202 (mj s i)).toNat) (hu : 0 ≤ u) (hu2 : u ≤ κ 204 (mj s i)) :
    mm_Met L G SX2_lostRun [.ref a0, .int (iI u)] (hk G B bx h0 κ) 0 0 (mRet (some (.int (iI (v_lostRun κ s i u)))) (hk G B bx h0 κ)) mm_no := by
  refine mi_meth MX2_lostRun 400 hF htr okX2_lostRun (av := [aR a0, aI u]) (by decide +kernel) (Nat.le_of_ble_eq_true rfl) cmX2_lostRun (fun θ hc => ?_)
  have z8 : 0 ≤ κ 204 (mj s i) ∧ κ 204 (mj s i) ≤ 65536 := hV.g 204 _ rfl
  have loop2 : ∀ (R : Int) (d : Nat) (k : Int), (u ≤ k ∧ k ≤ κ 204 (mj s i)) → (κ 204 (mj s i) - k) < (d : Int) → v_lostRun_2 κ s i u d k = R → mi_W L G MX2_lostRun 0 0 (mRet (some (.int (iI R))) (hk G B bx h0 κ)) mm_no θ 2 [(2, aI k), (0, aR (a0)), (1, aI u)] [] (hk G B bx h0 κ) 0 0 := by
    intro R d
    induction d with
    | zero =>
      intro k hi1 hms hvr
      have z8 : 0 ≤ κ 204 (mj s i) ∧ κ 204 (mj s i) ≤ 65536 := hV.g 204 _ rfl
      omega
    | succ d ih =>
      intro k hi1 hms hvr
      have z8 : 0 ≤ κ 204 (mj s i) ∧ κ 204 (mj s i) ≤ 65536 := hV.g 204 _ rfl
      refine mi_sound hc okX2_lostRun 400 _ _ _ _ _ _ ?_
      refine ⟨_, hk_o2 hx (show κ 290 (mj s i) = 1 from hp) ea0, aI (κ 204 (mj s i)), rfl, ?_⟩
      have t1 := (show 0 ≤ κ 204 (mj s i) ∧ κ 204 (mj s i) ≤ 65536 from hV.g 204 (mj s i) rfl)
      refine ⟨by omega, fun (e2 : (κ 204 (mj s i)) ≤ k) => ?_, fun (e2 : ¬ ((κ 204 (mj s i)) ≤ k)) => ?_⟩
      · exact ⟨kRetI (hvr.symm.trans (by first | exact if_pos e2 | (rw [v_lostRun_2]; rw [if_pos e2]))), Nat.le_refl _, Nat.le_refl _⟩
      · refine ⟨_, hk_o2 hx (show κ 290 (mj s i) = 1 from hp) ea0, aR (B 17 (κ 202 (mj s i)).toNat), rfl, ?_⟩
        have t3 := (show 0 ≤ κ 202 (mj s i) from hV.l 202 (mj s i))
        refine ⟨_, _, (κ (1000 + (κ 202 (mj s i)).toNat) k.toNat), hk_w hx (c := 2) (show (((κ 202 (mj s i)).toNat : Nat) : Int) < κ 602 0 from by omega) (show κ 601 (κ 202 (mj s i)).toNat = ((2 : Nat) : Int) from by omega) rfl, (show 0 ≤ k ∧ k < (((κ 600 (κ 202 (mj s i)).toNat).toNat : Nat) : Int) ∧ k < 2147483648 from by omega), rfl, ?_⟩
        have t4 := (show -128 ≤ κ (1000 + (κ 202 (mj s i)).toNat) k.toNat ∧ κ (1000 + (κ 202 (mj s i)).toNat) k.toNat ≤ 256 from hV.w (κ 202 (mj s i)).toNat k.toNat)
        refine ⟨by omega, fun (e5 : ¬ ((κ (1000 + (κ 202 (mj s i)).toNat) k.toNat) = 3)) => ?_, fun (e5 : (κ (1000 + (κ 202 (mj s i)).toNat) k.toNat) = 3) => ?_⟩
        · exact ⟨kRetI (hvr.symm.trans (by first | exact (if_neg e2).trans (if_neg e5) | (rw [v_lostRun_2]; rw [if_neg e2, if_neg e5]))), Nat.le_refl _, Nat.le_refl _⟩
        · exact mi_Wsub (List.forall_mem_cons.mpr ⟨(.head _), (List.forall_mem_cons.mpr ⟨(.tail _ (.head _)), (List.forall_mem_cons.mpr ⟨(.tail _ (.tail _ (.head _))), (fun _ h => absurd h List.not_mem_nil)⟩)⟩)⟩) (ih (k + 1) (by omega) (by omega) (Eq.trans (by first | exact ((if_neg e2).trans (if_pos e5)).symm | (rw [v_lostRun_2]; rw [if_neg e2, if_pos e5])) hvr))
  exact mi_Wsub (List.forall_mem_cons.mpr ⟨(.head _), (List.forall_mem_cons.mpr ⟨(.tail _ (.head _)), (List.forall_mem_cons.mpr ⟨(.tail _ (.tail _ (.head _))), (fun _ h => absurd h List.not_mem_nil)⟩)⟩)⟩) (loop2 _ 65537 u (by omega) (by omega) rfl)
theorem lostRun_b2 (hV : kV κ) {s i u : Int} (hu : 0 ≤ u) (h : u ≤ κ 204 (mj s i)) : ∀ (d : Nat) (k : Int), u ≤ k → k ≤ κ 204 (mj s i) → 0 ≤ v_lostRun_2 κ s i u d k ∧ u + v_lostRun_2 κ s i u d k ≤ κ 204 (mj s i)
  | 0, k, h1, h2 => by
    have : v_lostRun_2 κ s i u 0 k = 0 := rfl
    omega
  | d + 1, k, h1, h2 => by
    rw [v_lostRun_2]
    split
    · omega
    · split
      · exact lostRun_b2 hV hu h d (k + 1) (by omega) (by omega)
      · omega
theorem lostRun_b (hV : kV κ) {s i u : Int} (hu : 0 ≤ u) (h : u ≤ κ 204 (mj s i)) : 0 ≤ v_lostRun κ s i u ∧ u + v_lostRun κ s i u ≤ κ 204 (mj s i) := lostRun_b2 hV hu h _ _ (by omega) h
end KC
