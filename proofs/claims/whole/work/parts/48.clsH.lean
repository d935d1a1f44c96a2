section KH
variable {L : Launch} {G : mmG} {B : Nat → Nat → Nat} {bx : Nat → Option (Nat × Nat)} {h0 : mmH} {κ κ' : Nat → Nat → Int}
theorem kcp_at {s z i : Int} (h1 : 0 ≤ s) (h2 : 0 ≤ z) (h3 : 0 ≤ i) (h4 : i < 10) : kcp κ s.toNat z.toNat 361 (16 * s + i).toNat = κ 360 (16 * z + i).toNat := by
  unfold kcp
  rw [uf_s]
  show (if 16 * s.toNat ≤ (16 * s + i).toNat ∧ (16 * s + i).toNat < 16 * s.toNat + 10 then κ 360 (16 * z.toNat + ((16 * s + i).toNat - 16 * s.toNat)) else κ 361 (16 * s + i).toNat) = _
  rw [if_pos ⟨by omega, by omega⟩, show 16 * z.toNat + ((16 * s + i).toNat - 16 * s.toNat) = (16 * z + i).toNat by omega]
def v_moveOut_10 (κ : Nat → Nat → Int) (s i r q : Int) : Nat → Int → Int → (Nat → Nat → Int) → Int
  | 0, _, _, _ => 0
  | d + 1, k, n, ν => (if n ≤ k then n else (v_moveOut_10 κ s i r q d (k + 1) n (u2 ν (1000 + r.toNat) k.toNat (wB ((ν (1000 + (ν 101 (mj s i)).toNat) ((ν 102 (mj s i)) + k).toNat) - 1)))))
def s_moveOut_10 (κ : Nat → Nat → Int) (s i r q : Int) : Nat → Int → Int → (Nat → Nat → Int) → (Nat → Nat → Int)
  | 0, _, _, ν => ν
  | d + 1, k, n, ν => (if n ≤ k then (s_settle (u2 ν 102 (mj s i) ((ν 102 (mj s i)) + n)) s i) else (s_moveOut_10 κ s i r q d (k + 1) n (u2 ν (1000 + r.toNat) k.toNat (wB ((ν (1000 + (ν 101 (mj s i)).toNat) ((ν 102 (mj s i)) + k).toNat) - 1)))))
def v_moveOut (κ : Nat → Nat → Int) (s i r q : Int) : Int := (v_moveOut_10 κ s i r q 2049 0 (v_minI q ((κ 103 (mj s i)) - (κ 102 (mj s i)))) κ)
def s_moveOut (κ : Nat → Nat → Int) (s i r q : Int) : Nat → Nat → Int := (s_moveOut_10 κ s i r q 2049 0 (v_minI q ((κ 103 (mj s i)) - (κ 102 (mj s i)))) κ)
set_option maxRecDepth 100000 in
theorem m_moveOut (hF : mm_F G) (htr : L.stackTraces = false) (hx : kx B bx κ) (hV : kV κ) {s i r q : Int} {a0 a1 : Nat} (ea0 : a0 = B 1 (mj s i)) (ea1 : a1 = B 17 r.toNat) (hp : κ 190 (mj s i) = 1) (hr0 : 0 ≤ r) (hq : 0 ≤ q) (hq2 : q ≤ 2048) (hk3 : κ 601 (κ 101 (mj s i)).toNat = 3) (ha3 : κ 101 (mj s i) < κ 602 0) (hl3 : κ 103 (mj s i) ≤ κ 600 (κ 101 (mj s i)).toNat) (hk4 : κ 601 r.toNat = 2) (ha4 : r < κ 602 0) (hl4 : 2048 ≤ κ 600 r.toNat) (hrr : κ 102 (mj s i) ≤ κ 103 (mj s i)) :
    mm_Met L G SX1_moveOut [.ref a0, .ref a1, .int (iI q)] (hk G B bx h0 κ) 0 0 (mRetS (some (.int (iI (v_moveOut κ s i r q)))) (hk G B bx h0 (s_moveOut κ s i r q)) (kx B bx (s_moveOut κ s i r q) ∧ kV (s_moveOut κ s i r q) ∧ (fun v _ => 0 ≤ v ∧ v ≤ q ∧ κ 102 (mj s i) + v ≤ κ 103 (mj s i)) (v_moveOut κ s i r q) (s_moveOut κ s i r q))) mm_no := by
  refine mi_meth MX1_moveOut 400 hF htr okX1_moveOut (av := [aR a0, aR a1, aI q]) (by decide +kernel) (Nat.le_of_ble_eq_true rfl) cmX1_moveOut (fun θ hc => ?_)
  have loop10 : ∀ (R : Int) (S : Nat → Nat → Int) (d : Nat) (k n : Int) (ν : Nat → Nat → Int) (hx : kx B bx ν) (hV : kV ν), (ν 190 (mj s i) = 1) → (0 ≤ k ∧ k ≤ n) → (n ≤ q ∧ ν 102 (mj s i) + n ≤ ν 103 (mj s i)) → (ν 102 (mj s i) = κ 102 (mj s i) ∧ ν 103 (mj s i) = κ 103 (mj s i)) → (ν 601 (ν 101 (mj s i)).toNat = 3) → (ν 101 (mj s i) < ν 602 0) → (ν 103 (mj s i) ≤ ν 600 (ν 101 (mj s i)).toNat) → (ν 601 r.toNat = 2) → (r < ν 602 0) → (2048 ≤ ν 600 r.toNat) → (ν 102 (mj s i) ≤ ν 103 (mj s i)) → (n - k) < (d : Int) → v_moveOut_10 κ s i r q d k n ν = R → s_moveOut_10 κ s i r q d k n ν = S → mi_W L G MX1_moveOut 0 0 (mRetS (some (.int (iI R))) (hk G B bx h0 S) (kx B bx S ∧ kV S ∧ (fun v _ => 0 ≤ v ∧ v ≤ q ∧ κ 102 (mj s i) + v ≤ κ 103 (mj s i)) R S)) mm_no θ 10 [(4, aI k), (3, aI n), (0, aR (a0)), (1, aR (a1))] [] (hk G B bx h0 ν) 0 0 := by
    intro R S d
    induction d with
    | zero =>
      intro k n ν hx hV hp hi1 hi2 hi3 hk3 ha3 hl3 hk4 ha4 hl4 hrr hms hvr hsr
      omega
    | succ d ih =>
      intro k n ν hx hV hp hi1 hi2 hi3 hk3 ha3 hl3 hk4 ha4 hl4 hrr hms hvr hsr
      have z3 : 0 ≤ ν 103 (mj s i) ∧ ν 103 (mj s i) ≤ 65536 := hV.g 103 _ rfl
      refine mi_sound hc okX1_moveOut 400 _ _ _ _ _ _ ?_
      refine ⟨by omega, fun (e1 : n ≤ k) => ?_, fun (e1 : ¬ (n ≤ k)) => ?_⟩
      · refine ⟨_, hk_o1 hx (show ν 190 (mj s i) = 1 from hp) ea0, aI (ν 102 (mj s i)), rfl, ?_⟩
        have t2 := (show 0 ≤ ν 102 (mj s i) ∧ ν 102 (mj s i) ≤ 65536 from hV.g 102 (mj s i) rfl)
        refine ⟨_, hk_o1 hx (show ν 190 (mj s i) = 1 from hp) ea0, trivial, _, kp_102 hx (show ν 190 (mj s i) = 1 from hp) (v := ((ν 102 (mj s i)) + n)) ea0, ?_⟩
        have hV3 := hV.u (f := 102) (k := (mj s i)) (v := ((ν 102 (mj s i)) + n)) rfl (show 0 ≤ ((ν 102 (mj s i)) + n) ∧ ((ν 102 (mj s i)) + n) ≤ 65536 from by omega)
        have hx4 := kx_u (f := 102) (k := (mj s i)) (v := ((ν 102 (mj s i)) + n)) rfl hx
        refine ⟨⟨_, hk_o1 hx4 (show (u2 ν 102 (mj s i) ((ν 102 (mj s i)) + n)) 190 (mj s i) = 1 from ((u2_f (by decide))).trans hp) ea0⟩, _, _, _, _, (m_settle hF htr hx4 hV3 (s := s) (i := i) ea0 (show (u2 ν 102 (mj s i) ((ν 102 (mj s i)) + n)) 190 (mj s i) = 1 from ((u2_f (by decide))).trans hp)), Nat.le_refl _, Nat.le_refl _, mkis_ (r := none) (fun ⟨hx6, hV5⟩ => ?_), fun _ _ q => q.elim⟩
        exact ⟨kRetISP (P := fun v _ => 0 ≤ v ∧ v ≤ q ∧ κ 102 (mj s i) + v ≤ κ 103 (mj s i)) (hvr.symm.trans (by first | exact if_pos e1 | (rw [v_moveOut_10]; rw [if_pos e1]))) (hsr.symm.trans (by first | exact if_pos e1 | (rw [s_moveOut_10]; rw [if_pos e1]))) hx6 hV5 (show 0 ≤ n ∧ n ≤ q ∧ κ 102 (mj s i) + n ≤ κ 103 (mj s i) from by omega), Nat.le_refl _, Nat.le_refl _⟩
      · refine ⟨_, hk_o1 hx (show ν 190 (mj s i) = 1 from hp) ea0, aR (B 17 (ν 101 (mj s i)).toNat), rfl, ?_⟩
        have t7 := (show 0 ≤ ν 101 (mj s i) from hV.l 101 (mj s i))
        refine ⟨_, hk_o1 hx (show ν 190 (mj s i) = 1 from hp) ea0, aI (ν 102 (mj s i)), rfl, ?_⟩
        have t8 := (show 0 ≤ ν 102 (mj s i) ∧ ν 102 (mj s i) ≤ 65536 from hV.g 102 (mj s i) rfl)
        refine ⟨_, _, (ν (1000 + (ν 101 (mj s i)).toNat) ((ν 102 (mj s i)) + k).toNat), hk_w hx (c := 3) (show (((ν 101 (mj s i)).toNat : Nat) : Int) < ν 602 0 from by omega) (show ν 601 (ν 101 (mj s i)).toNat = ((3 : Nat) : Int) from by omega) rfl, (show 0 ≤ ((ν 102 (mj s i)) + k) ∧ ((ν 102 (mj s i)) + k) < (((ν 600 (ν 101 (mj s i)).toNat).toNat : Nat) : Int) ∧ ((ν 102 (mj s i)) + k) < 2147483648 from by omega), rfl, ?_⟩
        have t9 := (show -128 ≤ ν (1000 + (ν 101 (mj s i)).toNat) ((ν 102 (mj s i)) + k).toNat ∧ ν (1000 + (ν 101 (mj s i)).toNat) ((ν 102 (mj s i)) + k).toNat ≤ 256 from hV.w (ν 101 (mj s i)).toNat ((ν 102 (mj s i)) + k).toNat)
        have t10 := wB_b ((ν (1000 + (ν 101 (mj s i)).toNat) ((ν 102 (mj s i)) + k).toNat) - 1)
        refine ⟨(wB ((ν (1000 + (ν 101 (mj s i)).toNat) ((ν 102 (mj s i)) + k).toNat) - 1)), i2b_c _, ?_⟩
        refine ⟨_, _, _, hk_w hx (c := 2) (show ((r.toNat : Nat) : Int) < ν 602 0 from by omega) (show ν 601 r.toNat = ((2 : Nat) : Int) from by omega) ea1, (show 0 ≤ k ∧ k < (((ν 600 r.toNat).toNat : Nat) : Int) ∧ k < 2147483648 from by omega), (show -128 ≤ (wB ((ν (1000 + (ν 101 (mj s i)).toNat) ((ν 102 (mj s i)) + k).toNat) - 1)) ∧ (wB ((ν (1000 + (ν 101 (mj s i)).toNat) ((ν 102 (mj s i)) + k).toNat) - 1)) < 128 from by omega), kp_w hx (c := 2) (i := k.toNat) (v := (wB ((ν (1000 + (ν 101 (mj s i)).toNat) ((ν 102 (mj s i)) + k).toNat) - 1))) (show ((r.toNat : Nat) : Int) < ν 602 0 from by omega) (show ν 601 r.toNat = ((2 : Nat) : Int) from by omega) ea1, ?_⟩
        have hV11 := hV.pw (r := r.toNat) (k := k.toNat) (v := (wB ((ν (1000 + (ν 101 (mj s i)).toNat) ((ν 102 (mj s i)) + k).toNat) - 1))) (by omega) (by omega) (by omega)
        have hx12 := kx_w hx (r := r.toNat) (k := k.toNat) (v := (wB ((ν (1000 + (ν 101 (mj s i)).toNat) ((ν 102 (mj s i)) + k).toNat) - 1)))
        have t13 := (show 0 ≤ ν 190 (mj s i) ∧ ν 190 (mj s i) ≤ 1 from hV.g 190 (mj s i) rfl)
        have t14 := (show 0 ≤ ν 103 (mj s i) ∧ ν 103 (mj s i) ≤ 65536 from hV.g 103 (mj s i) rfl)
        have t15 := (show 0 ≤ ν 601 ((ν 101 (mj s i))).toNat ∧ ν 601 ((ν 101 (mj s i))).toNat ≤ 3 from hV.g 601 ((ν 101 (mj s i))).toNat rfl)
        have t16 := (show 2 ≤ ν 602 0 from hV.l 602 0)
        have t17 := (show 0 ≤ ν 600 ((ν 101 (mj s i))).toNat ∧ ν 600 ((ν 101 (mj s i))).toNat ≤ 65536 from hV.g 600 ((ν 101 (mj s i))).toNat rfl)
        have t18 := (show 0 ≤ ν 601 r.toNat ∧ ν 601 r.toNat ≤ 3 from hV.g 601 r.toNat rfl)
        have t19 := (show 0 ≤ ν 600 r.toNat ∧ ν 600 r.toNat ≤ 65536 from hV.g 600 r.toNat rfl)
        exact mi_Wsub (List.forall_mem_cons.mpr ⟨(.head _), (List.forall_mem_cons.mpr ⟨(.tail _ (.head _)), (List.forall_mem_cons.mpr ⟨(.tail _ (.tail _ (.head _))), (List.forall_mem_cons.mpr ⟨(.tail _ (.tail _ (.tail _ (.head _)))), (fun _ h => absurd h List.not_mem_nil)⟩)⟩)⟩)⟩) (ih (k + 1) n (u2 ν (1000 + r.toNat) k.toNat (wB ((ν (1000 + (ν 101 (mj s i)).toNat) ((ν 102 (mj s i)) + k).toNat) - 1))) hx12 hV11 (by rw [show (u2 ν (1000 + r.toNat) k.toNat (wB ((ν (1000 + (ν 101 (mj s i)).toNat) ((ν 102 (mj s i)) + k).toNat) - 1))) 190 (mj s i) = _ from (u2_f (by omega))]; omega) (by omega) (by rw [show (u2 ν (1000 + r.toNat) k.toNat (wB ((ν (1000 + (ν 101 (mj s i)).toNat) ((ν 102 (mj s i)) + k).toNat) - 1))) 102 (mj s i) = _ from (u2_f (by omega))]; rw [show (u2 ν (1000 + r.toNat) k.toNat (wB ((ν (1000 + (ν 101 (mj s i)).toNat) ((ν 102 (mj s i)) + k).toNat) - 1))) 103 (mj s i) = _ from (u2_f (by omega))]; omega) (by rw [show (u2 ν (1000 + r.toNat) k.toNat (wB ((ν (1000 + (ν 101 (mj s i)).toNat) ((ν 102 (mj s i)) + k).toNat) - 1))) 102 (mj s i) = _ from (u2_f (by omega))]; rw [show (u2 ν (1000 + r.toNat) k.toNat (wB ((ν (1000 + (ν 101 (mj s i)).toNat) ((ν 102 (mj s i)) + k).toNat) - 1))) 103 (mj s i) = _ from (u2_f (by omega))]; omega) (by rw [show (u2 ν (1000 + r.toNat) k.toNat (wB ((ν (1000 + (ν 101 (mj s i)).toNat) ((ν 102 (mj s i)) + k).toNat) - 1))) 101 (mj s i) = _ from (u2_f (by omega))]; rw [show (u2 ν (1000 + r.toNat) k.toNat (wB ((ν (1000 + (ν 101 (mj s i)).toNat) ((ν 102 (mj s i)) + k).toNat) - 1))) 601 ((ν 101 (mj s i))).toNat = _ from (u2_f (by omega))]; omega) (by rw [show (u2 ν (1000 + r.toNat) k.toNat (wB ((ν (1000 + (ν 101 (mj s i)).toNat) ((ν 102 (mj s i)) + k).toNat) - 1))) 101 (mj s i) = _ from (u2_f (by omega))]; rw [show (u2 ν (1000 + r.toNat) k.toNat (wB ((ν (1000 + (ν 101 (mj s i)).toNat) ((ν 102 (mj s i)) + k).toNat) - 1))) 602 0 = _ from (u2_f (by omega))]; omega) (by rw [show (u2 ν (1000 + r.toNat) k.toNat (wB ((ν (1000 + (ν 101 (mj s i)).toNat) ((ν 102 (mj s i)) + k).toNat) - 1))) 103 (mj s i) = _ from (u2_f (by omega))]; rw [show (u2 ν (1000 + r.toNat) k.toNat (wB ((ν (1000 + (ν 101 (mj s i)).toNat) ((ν 102 (mj s i)) + k).toNat) - 1))) 101 (mj s i) = _ from (u2_f (by omega))]; rw [show (u2 ν (1000 + r.toNat) k.toNat (wB ((ν (1000 + (ν 101 (mj s i)).toNat) ((ν 102 (mj s i)) + k).toNat) - 1))) 600 ((ν 101 (mj s i))).toNat = _ from (u2_f (by omega))]; omega) (by rw [show (u2 ν (1000 + r.toNat) k.toNat (wB ((ν (1000 + (ν 101 (mj s i)).toNat) ((ν 102 (mj s i)) + k).toNat) - 1))) 601 r.toNat = _ from (u2_f (by omega))]; omega) (by rw [show (u2 ν (1000 + r.toNat) k.toNat (wB ((ν (1000 + (ν 101 (mj s i)).toNat) ((ν 102 (mj s i)) + k).toNat) - 1))) 602 0 = _ from (u2_f (by omega))]; omega) (by rw [show (u2 ν (1000 + r.toNat) k.toNat (wB ((ν (1000 + (ν 101 (mj s i)).toNat) ((ν 102 (mj s i)) + k).toNat) - 1))) 600 r.toNat = _ from (u2_f (by omega))]; omega) (by rw [show (u2 ν (1000 + r.toNat) k.toNat (wB ((ν (1000 + (ν 101 (mj s i)).toNat) ((ν 102 (mj s i)) + k).toNat) - 1))) 102 (mj s i) = _ from (u2_f (by omega))]; rw [show (u2 ν (1000 + r.toNat) k.toNat (wB ((ν (1000 + (ν 101 (mj s i)).toNat) ((ν 102 (mj s i)) + k).toNat) - 1))) 103 (mj s i) = _ from (u2_f (by omega))]; omega) (by omega) (Eq.trans (by first | exact (if_neg e1).symm | (rw [v_moveOut_10]; rw [if_neg e1])) hvr) (Eq.trans (by first | exact (if_neg e1).symm | (rw [s_moveOut_10]; rw [if_neg e1])) hsr))
  refine ⟨_, hk_o1 hx (show κ 190 (mj s i) = 1 from hp) ea0, aI (κ 103 (mj s i)), rfl, ?_⟩
  have t20 := (show 0 ≤ κ 103 (mj s i) ∧ κ 103 (mj s i) ≤ 65536 from hV.g 103 (mj s i) rfl)
  refine ⟨_, hk_o1 hx (show κ 190 (mj s i) = 1 from hp) ea0, aI (κ 102 (mj s i)), rfl, ?_⟩
  have t21 := (show 0 ≤ κ 102 (mj s i) ∧ κ 102 (mj s i) ≤ 65536 from hV.g 102 (mj s i) rfl)
  refine ⟨_, _, _, _, (m_minI hF htr hx hV (a := q) (b := ((κ 103 (mj s i)) - (κ 102 (mj s i)))) (by omega) (by omega) (by omega) (by omega)), Nat.le_refl _, Nat.le_refl _, mki_ (r := some (aI (v_minI q ((κ 103 (mj s i)) - (κ 102 (mj s i)))))) ?_, fun _ _ q => q.elim⟩
  have t22 := minI_b q ((κ 103 (mj s i)) - (κ 102 (mj s i)))
  have t23 := (show 0 ≤ κ 190 (mj s i) ∧ κ 190 (mj s i) ≤ 1 from hV.g 190 (mj s i) rfl)
  have t24 := (show 0 ≤ κ 101 (mj s i) from hV.l 101 (mj s i))
  have t25 := (show 0 ≤ κ 601 ((κ 101 (mj s i))).toNat ∧ κ 601 ((κ 101 (mj s i))).toNat ≤ 3 from hV.g 601 ((κ 101 (mj s i))).toNat rfl)
  have t26 := (show 2 ≤ κ 602 0 from hV.l 602 0)
  have t27 := (show 0 ≤ κ 600 ((κ 101 (mj s i))).toNat ∧ κ 600 ((κ 101 (mj s i))).toNat ≤ 65536 from hV.g 600 ((κ 101 (mj s i))).toNat rfl)
  have t28 := (show 0 ≤ κ 601 r.toNat ∧ κ 601 r.toNat ≤ 3 from hV.g 601 r.toNat rfl)
  have t29 := (show 0 ≤ κ 600 r.toNat ∧ κ 600 r.toNat ≤ 65536 from hV.g 600 r.toNat rfl)
  exact mi_Wsub (List.forall_mem_cons.mpr ⟨(.head _), (List.forall_mem_cons.mpr ⟨(.tail _ (.head _)), (List.forall_mem_cons.mpr ⟨(.tail _ (.tail _ (.head _))), (List.forall_mem_cons.mpr ⟨(.tail _ (.tail _ (.tail _ (.head _)))), (fun _ h => absurd h List.not_mem_nil)⟩)⟩)⟩)⟩) (loop10 _ _ 2049 0 (v_minI q ((κ 103 (mj s i)) - (κ 102 (mj s i)))) κ hx hV (by omega) (by omega) (by omega) (by omega) (by omega) (by omega) (by omega) (by omega) (by omega) (by omega) (by omega) (by omega) rfl rfl)
set_option maxRecDepth 100000 in
theorem s_moveOut_10_fr {f kk : Nat} {s i r q : Int} (hf : (Nat.blt f 1000 && !([100, 102].elem f)) = true) : ∀ (d : Nat) (k n : Int) (ν : Nat → Nat → Int), s_moveOut_10 κ s i r q d k n ν f kk = ν f kk := by
  have n100 : f ≠ 100 := by rintro rfl; exact absurd hf (by decide)
  have n102 : f ≠ 102 := by rintro rfl; exact absurd hf (by decide)
  have lt : f < 1000 := Nat.le_of_ble_eq_true (Bool.and_eq_true_iff.mp hf).1
  have f100 : ∀ (m : Nat → Nat → Int) (a b : Nat) (v : Int), u2 m 100 a v f b = m f b := fun m a b v => u2_f n100
  have f102 : ∀ (m : Nat → Nat → Int) (a b : Nat) (v : Int), u2 m 102 a v f b = m f b := fun m a b v => u2_f n102
  have fw : ∀ (m : Nat → Nat → Int) (r a b : Nat) (v : Int), u2 m (1000 + r) a v f b = m f b := fun m r a b v => u2_f (by omega)
  have c_settle : ∀ (m : Nat → Nat → Int) (z_s z_i : Int) (k : Nat), s_settle m z_s z_i f k = m f k := by intros; exact s_settle_fr (by simp only [List.elem_cons, List.elem_nil, beq_eq_false_iff_ne.mpr n100]; rfl)
  intro d
  induction d with
  | zero => intros; rfl
  | succ d ih =>
    intro k n ν
    rw [s_moveOut_10]
    repeat' with_reducible apply f_ite
    all_goals first | rfl | simp only [f100, f102, fw, c_settle, ih]
set_option maxRecDepth 100000 in
theorem s_moveOut_fr {f kk : Nat} {s i r q : Int} (hf : (Nat.blt f 1000 && !([100, 102].elem f)) = true) : s_moveOut κ s i r q f kk = κ f kk := by
  have n100 : f ≠ 100 := by rintro rfl; exact absurd hf (by decide)
  have n102 : f ≠ 102 := by rintro rfl; exact absurd hf (by decide)
  have lt : f < 1000 := Nat.le_of_ble_eq_true (Bool.and_eq_true_iff.mp hf).1
  have f100 : ∀ (m : Nat → Nat → Int) (a b : Nat) (v : Int), u2 m 100 a v f b = m f b := fun m a b v => u2_f n100
  have f102 : ∀ (m : Nat → Nat → Int) (a b : Nat) (v : Int), u2 m 102 a v f b = m f b := fun m a b v => u2_f n102
  have fw : ∀ (m : Nat → Nat → Int) (r a b : Nat) (v : Int), u2 m (1000 + r) a v f b = m f b := fun m r a b v => u2_f (by omega)
  have c_settle : ∀ (m : Nat → Nat → Int) (z_s z_i : Int) (k : Nat), s_settle m z_s z_i f k = m f k := by intros; exact s_settle_fr (by simp only [List.elem_cons, List.elem_nil, beq_eq_false_iff_ne.mpr n100]; rfl)
  unfold s_moveOut
  repeat' with_reducible apply f_ite
  all_goals first | rfl | simp only [f100, f102, fw, c_settle, s_moveOut_10_fr hf]
def s_learnLimits (κ : Nat → Nat → Int) (s z : Int) : Nat → Nat → Int := (u2 (u2 (u2 (kcp κ s.toNat z.toNat) 310 s.toNat ((kcp κ s.toNat z.toNat) 361 ((16 * s) + 4).toNat)) 401 ((2 * s) + 0).toNat ((kcp κ s.toNat z.toNat) 361 ((16 * s) + 8).toNat)) 401 ((2 * s) + 1).toNat ((kcp κ s.toNat z.toNat) 361 ((16 * s) + 9).toNat))
set_option maxRecDepth 100000 in
theorem m_learnLimits (hF : mm_F G) (htr : L.stackTraces = false) (hx : kx B bx κ) (hV : kV κ) {s z : Int} {a0 a1 : Nat} (ea0 : a0 = B 3 s.toNat) (ea1 : a1 = B 3 z.toNat) (h1 : 0 ≤ s) (h2 : s ≤ 1) (h3 : 0 ≤ z) (h4 : z ≤ 1) (h8 : κ 360 ((16 * z) + 8).toNat ≤ 64) (h9 : κ 360 ((16 * z) + 9).toNat ≤ 64) :
    mm_Met L G SX3_learnLimits [.ref a0, .ref a1] (hk G B bx h0 κ) 0 0 (mRetS none (hk G B bx h0 (s_learnLimits κ s z)) (kx B bx (s_learnLimits κ s z) ∧ kV (s_learnLimits κ s z))) mm_no := by
  refine mi_meth MX3_learnLimits 400 hF htr okX3_learnLimits (av := [aR a0, aR a1]) (by decide +kernel) (Nat.le_of_ble_eq_true rfl) cmX3_learnLimits (fun θ hc => ?_)
  refine ⟨_, hk_o3 hx (show z.toNat < 2 from by omega) ea1, aR (B 12 z.toNat), rfl, ?_⟩
  refine ⟨_, hk_o3 hx (show s.toNat < 2 from by omega) ea0, aR (B 13 s.toNat), rfl, ?_⟩
  refine ⟨_, hk_o3 hx (show s.toNat < 2 from by omega) ea0, aR (B 13 s.toNat), rfl, ?_⟩
  refine ⟨0, _, hk_p hx (show s.toNat < 2 from by omega) rfl, by decide, 10, rfl, ?_⟩
  refine ⟨10, 10, _, _, _, hk_g hx (show z.toNat < 2 from by omega) rfl, hk_p hx (show s.toNat < 2 from by omega) rfl, by omega, fun _ _ => trivial, kp_cp hx (show s.toNat < 2 from by omega) rfl, ?_⟩
  have hV1 : kV (kcp κ s.toNat z.toNat) := kcp_V hV
  have hx2 : kx B bx (kcp κ s.toNat z.toNat) := kcp_x hx
  have c8 : kcp κ s.toNat z.toNat 361 ((16 * s) + 8).toNat = κ 360 ((16 * z) + 8).toNat := kcp_at (by omega) (by omega) (by omega) (by omega)
  have c9 : kcp κ s.toNat z.toNat 361 ((16 * s) + 9).toNat = κ 360 ((16 * z) + 9).toNat := kcp_at (by omega) (by omega) (by omega) (by omega)
  refine ⟨_, hk_o3 hx2 (show s.toNat < 2 from by omega) ea0, aR (B 13 s.toNat), rfl, ?_⟩
  refine ⟨10, _, ((kcp κ s.toNat z.toNat) 361 ((16 * s) + 4).toNat), hk_p hx2 (show s.toNat < 2 from by omega) rfl, by omega, (kg_i (s := s) (i := 4) (by omega) (by omega) (by omega)), ?_⟩
  have t3 := (show 0 ≤ (kcp κ s.toNat z.toNat) 361 ((16 * s) + 4).toNat ∧ (kcp κ s.toNat z.toNat) 361 ((16 * s) + 4).toNat ≤ 65536 from hV1.g 361 ((16 * s) + 4).toNat rfl)
  refine ⟨by omega, ?_⟩
  refine ⟨_, hk_o3 hx2 (show s.toNat < 2 from by omega) ea0, trivial, _, kp_310 hx2 (show s.toNat < 2 from by omega) (v := ((kcp κ s.toNat z.toNat) 361 ((16 * s) + 4).toNat)) ea0, ?_⟩
  have hV4 := hV1.u (f := 310) (k := s.toNat) (v := ((kcp κ s.toNat z.toNat) 361 ((16 * s) + 4).toNat)) rfl (show 0 ≤ ((kcp κ s.toNat z.toNat) 361 ((16 * s) + 4).toNat) ∧ ((kcp κ s.toNat z.toNat) 361 ((16 * s) + 4).toNat) ≤ 4611686018427387903 from by omega)
  have hx5 := kx_u (f := 310) (k := s.toNat) (v := ((kcp κ s.toNat z.toNat) 361 ((16 * s) + 4).toNat)) rfl hx2
  refine ⟨_, hk_o3 hx5 (show s.toNat < 2 from by omega) ea0, aR (B 14 s.toNat), rfl, ?_⟩
  refine ⟨2, _, some (B 4 ((2 * s) + 0).toNat), hk_ways hx5 (show s.toNat < 2 from by omega) rfl, by omega, ka_4 (s := s) (i := 0) (by omega) (by omega) (by omega), ?_⟩
  refine ⟨_, hk_o3 hx5 (show s.toNat < 2 from by omega) ea0, aR (B 13 s.toNat), rfl, ?_⟩
  refine ⟨10, _, ((kcp κ s.toNat z.toNat) 361 ((16 * s) + 8).toNat), hk_p hx5 (show s.toNat < 2 from by omega) rfl, by omega, (kg_i (s := s) (i := 8) (by omega) (by omega) (by omega)).trans ((u2_f (by decide))), ?_⟩
  have t6 := (show 0 ≤ (kcp κ s.toNat z.toNat) 361 ((16 * s) + 8).toNat ∧ (kcp κ s.toNat z.toNat) 361 ((16 * s) + 8).toNat ≤ 65536 from hV1.g 361 ((16 * s) + 8).toNat rfl)
  refine ⟨_, hk_o4 hx5 (show ((2 * s) + 0).toNat < 4 from by omega) rfl, trivial, _, kp_401 hx5 (show ((2 * s) + 0).toNat < 4 from by omega) (v := ((kcp κ s.toNat z.toNat) 361 ((16 * s) + 8).toNat)) rfl, ?_⟩
  have hV7 := hV4.u (f := 401) (k := ((2 * s) + 0).toNat) (v := ((kcp κ s.toNat z.toNat) 361 ((16 * s) + 8).toNat)) rfl (show 0 ≤ ((kcp κ s.toNat z.toNat) 361 ((16 * s) + 8).toNat) ∧ ((kcp κ s.toNat z.toNat) 361 ((16 * s) + 8).toNat) ≤ 64 from by omega)
  have hx8 := kx_u (f := 401) (k := ((2 * s) + 0).toNat) (v := ((kcp κ s.toNat z.toNat) 361 ((16 * s) + 8).toNat)) rfl hx5
  refine ⟨_, hk_o3 hx8 (show s.toNat < 2 from by omega) ea0, aR (B 14 s.toNat), rfl, ?_⟩
  refine ⟨2, _, some (B 4 ((2 * s) + 1).toNat), hk_ways hx8 (show s.toNat < 2 from by omega) rfl, by omega, ka_4 (s := s) (i := 1) (by omega) (by omega) (by omega), ?_⟩
  refine ⟨_, hk_o3 hx8 (show s.toNat < 2 from by omega) ea0, aR (B 13 s.toNat), rfl, ?_⟩
  refine ⟨10, _, ((kcp κ s.toNat z.toNat) 361 ((16 * s) + 9).toNat), hk_p hx8 (show s.toNat < 2 from by omega) rfl, by omega, (kg_i (s := s) (i := 9) (by omega) (by omega) (by omega)).trans ((Eq.trans (u2_f (by decide)) (u2_f (by decide)))), ?_⟩
  have t9 := (show 0 ≤ (kcp κ s.toNat z.toNat) 361 ((16 * s) + 9).toNat ∧ (kcp κ s.toNat z.toNat) 361 ((16 * s) + 9).toNat ≤ 65536 from hV1.g 361 ((16 * s) + 9).toNat rfl)
  refine ⟨_, hk_o4 hx8 (show ((2 * s) + 1).toNat < 4 from by omega) rfl, trivial, _, kp_401 hx8 (show ((2 * s) + 1).toNat < 4 from by omega) (v := ((kcp κ s.toNat z.toNat) 361 ((16 * s) + 9).toNat)) rfl, ?_⟩
  have hV10 := hV7.u (f := 401) (k := ((2 * s) + 1).toNat) (v := ((kcp κ s.toNat z.toNat) 361 ((16 * s) + 9).toNat)) rfl (show 0 ≤ ((kcp κ s.toNat z.toNat) 361 ((16 * s) + 9).toNat) ∧ ((kcp κ s.toNat z.toNat) 361 ((16 * s) + 9).toNat) ≤ 64 from by omega)
  have hx11 := kx_u (f := 401) (k := ((2 * s) + 1).toNat) (v := ((kcp κ s.toNat z.toNat) 361 ((16 * s) + 9).toNat)) rfl hx8
  exact ⟨kRetVS  rfl hx11 hV10, Nat.le_refl _, Nat.le_refl _⟩
set_option maxRecDepth 100000 in
theorem s_learnLimits_fr {f kk : Nat} {s z : Int} (hf : (!([310, 361, 401].elem f)) = true) : s_learnLimits κ s z f kk = κ f kk := by
  have n310 : f ≠ 310 := by rintro rfl; exact absurd hf (by decide)
  have n361 : f ≠ 361 := by rintro rfl; exact absurd hf (by decide)
  have n401 : f ≠ 401 := by rintro rfl; exact absurd hf (by decide)
  have f310 : ∀ (m : Nat → Nat → Int) (a b : Nat) (v : Int), u2 m 310 a v f b = m f b := fun m a b v => u2_f n310
  have f361 : ∀ (m : Nat → Nat → Int) (a b : Nat) (v : Int), u2 m 361 a v f b = m f b := fun m a b v => u2_f n361
  have f401 : ∀ (m : Nat → Nat → Int) (a b : Nat) (v : Int), u2 m 401 a v f b = m f b := fun m a b v => u2_f n401
  have fc : ∀ (m : Nat → Nat → Int) (a b k : Nat), kcp m a b f k = m f k := fun m a b k => kcp_fr n361
  unfold s_learnLimits
  repeat' with_reducible apply f_ite
  all_goals first | rfl | simp only [f310, f361, f401, fc]
def e_sideAt (κ : Nat → Nat → Int) (s : Int) : Int := (if s < 0 then 1 else (if s ≤ 1 then 0 else 1))
set_option maxRecDepth 100000 in
theorem m_sideAt (hF : mm_F G) (htr : L.stackTraces = false) (hx : kx B bx κ) (hV : kV κ) {s : Int} {a0 : Nat} (ea0 : a0 = B 5 0) (h1 : -2147483648 ≤ s) (h1a : s < 2147483648) :
    mm_Met L G SX5_sideAt [.ref a0, .int (iI s)] (hk G B bx h0 κ) 1 6 (fun r h => (e_sideAt κ s) = 0 ∧ (mRet (some (.ref (B 3 s.toNat))) (hk G B bx h0 κ)) r h) (kThr (hk G B bx h0 κ) (e_sideAt κ s)) := by
  refine mi_meth MX5_sideAt 400 hF htr okX5_sideAt (av := [aR a0, aI s]) (by decide +kernel) (Nat.le_of_ble_eq_true rfl) cmX5_sideAt (fun θ hc => ?_)
  refine ⟨by omega, fun (e1 : s < 0) => ?_, fun (e1 : ¬ (s < 0)) => ?_⟩
  · exact ⟨rfl, by omega, by omega, ⟨Or.inl ⟨(by first | exact if_pos e1 | (unfold e_sideAt; rw [if_pos e1])), rfl⟩, rfl⟩⟩
  · refine ⟨by omega, fun (e2 : s ≤ 1) => ?_, fun (e2 : ¬ (s ≤ 1)) => ?_⟩
    · refine ⟨_, hk_o5 hx rfl ea0, aR (B 10 0), rfl, ?_⟩
      refine ⟨2, _, some (B 3 s.toNat), hk_sides hx rfl, by omega, ka_3 (i := s) (by omega) (by omega), ?_⟩
      exact ⟨⟨(by first | exact (if_neg e1).trans (if_pos e2) | (unfold e_sideAt; rw [if_neg e1, if_pos e2])), mRetR rfl⟩, (by first | exact Nat.le_of_ble_eq_true rfl | omega), (by first | exact Nat.le_of_ble_eq_true rfl | omega)⟩
    · exact ⟨rfl, by omega, by omega, ⟨Or.inl ⟨(by first | exact (if_neg e1).trans (if_neg e2) | (unfold e_sideAt; rw [if_neg e1, if_neg e2])), rfl⟩, rfl⟩⟩
theorem sideAt_0 {s : Int} (h : e_sideAt κ s = 0) : 0 ≤ s ∧ s ≤ 1 := by
  unfold e_sideAt at h
  repeat' split at h
  all_goals omega
def e_frameAt (κ : Nat → Nat → Int) (p : Int) : Int := (if p < 0 then 3 else (if 64 ≤ p then 3 else (if (κ 0 p.toNat) = 0 then 3 else 0)))
set_option maxRecDepth 100000 in
theorem m_frameAt (hF : mm_F G) (htr : L.stackTraces = false) (hx : kx B bx κ) (hV : kV κ) {p : Int} {a0 : Nat} (ea0 : a0 = B 5 0) (h1 : -2147483648 ≤ p) (h1a : p < 2147483648) :
    mm_Met L G SX5_frameAt [.ref a0, .int (iI p)] (hk G B bx h0 κ) 1 6 (fun r h => (e_frameAt κ p) = 0 ∧ (mRet (some (.ref (B 0 p.toNat))) (hk G B bx h0 κ)) r h) (kThr (hk G B bx h0 κ) (e_frameAt κ p)) := by
  refine mi_meth MX5_frameAt 400 hF htr okX5_frameAt (av := [aR a0, aI p]) (by decide +kernel) (Nat.le_of_ble_eq_true rfl) cmX5_frameAt (fun θ hc => ?_)
  refine ⟨by omega, fun (e1 : p < 0) => ?_, fun (e1 : ¬ (p < 0)) => ?_⟩
  · exact ⟨rfl, by omega, by omega, ⟨Or.inr (Or.inr ⟨(by first | exact if_pos e1 | (unfold e_frameAt; rw [if_pos e1])), rfl⟩), rfl⟩⟩
  · refine ⟨by omega, fun (e2 : 64 ≤ p) => ?_, fun (e2 : ¬ (64 ≤ p)) => ?_⟩
    · exact ⟨rfl, by omega, by omega, ⟨Or.inr (Or.inr ⟨(by first | exact (if_neg e1).trans (if_pos e2) | (unfold e_frameAt; rw [if_neg e1, if_pos e2])), rfl⟩), rfl⟩⟩
    · refine ⟨_, hk_o5 hx rfl ea0, aR (B 11 0), rfl, ?_⟩
      refine ⟨64, _, some (B 0 p.toNat), hk_places hx rfl, by omega, ka_0 (i := p) (by omega) (by omega), ?_⟩
      refine ⟨_, hk_o0 hx (show p.toNat < 65 from by omega) rfl, aI (κ 0 p.toNat), rfl, ?_⟩
      have t3 := (show 0 ≤ κ 0 p.toNat ∧ κ 0 p.toNat ≤ 1 from hV.g 0 p.toNat rfl)
      refine ⟨by omega, fun (e4 : ¬ ((κ 0 p.toNat) = 0)) => ?_, fun (e4 : (κ 0 p.toNat) = 0) => ?_⟩
      · refine ⟨_, hk_o5 hx rfl ea0, aR (B 11 0), rfl, ?_⟩
        refine ⟨64, _, some (B 0 p.toNat), hk_places hx rfl, by omega, ka_0 (i := p) (by omega) (by omega), ?_⟩
        exact ⟨⟨(by first | exact (if_neg e1).trans ((if_neg e2).trans (if_neg e4)) | (unfold e_frameAt; rw [if_neg e1, if_neg e2, if_neg e4])), mRetR rfl⟩, (by first | exact Nat.le_of_ble_eq_true rfl | omega), (by first | exact Nat.le_of_ble_eq_true rfl | omega)⟩
      · exact ⟨rfl, by omega, by omega, ⟨Or.inr (Or.inr ⟨(by first | exact (if_neg e1).trans ((if_neg e2).trans (if_pos e4)) | (unfold e_frameAt; rw [if_neg e1, if_neg e2, if_pos e4])), rfl⟩), rfl⟩⟩
theorem frameAt_0 {p : Int} (h : e_frameAt κ p = 0) : 0 ≤ p ∧ p < 64 ∧ ¬ κ 0 p.toNat = 0 := by
  unfold e_frameAt at h
  repeat' split at h
  all_goals omega
def e_needJoined (κ : Nat → Nat → Int) : Int := (if (κ 507 0) = 0 then 2 else 0)
set_option maxRecDepth 100000 in
theorem m_needJoined (hF : mm_F G) (htr : L.stackTraces = false) (hx : kx B bx κ) (hV : kV κ) {a0 : Nat} (ea0 : a0 = B 5 0) :
    mm_Met L G SX5_needJoined [.ref a0] (hk G B bx h0 κ) 1 6 (fun r h => (e_needJoined κ) = 0 ∧ (mRet none (hk G B bx h0 κ)) r h) (kThr (hk G B bx h0 κ) (e_needJoined κ)) := by
  refine mi_meth MX5_needJoined 400 hF htr okX5_needJoined (av := [aR a0]) (by decide +kernel) (Nat.le_of_ble_eq_true rfl) cmX5_needJoined (fun θ hc => ?_)
  refine ⟨_, hk_o5 hx rfl ea0, aI (κ 507 0), rfl, ?_⟩
  have t1 := (show 0 ≤ κ 507 0 ∧ κ 507 0 ≤ 1 from hV.g 507 0 rfl)
  refine ⟨by omega, fun (e2 : ¬ ((κ 507 0) = 0)) => ?_, fun (e2 : (κ 507 0) = 0) => ?_⟩
  · exact ⟨⟨(by first | exact if_neg e2 | (unfold e_needJoined; rw [if_neg e2])), kRetV ⟩, (by first | exact Nat.le_of_ble_eq_true rfl | omega), (by first | exact Nat.le_of_ble_eq_true rfl | omega)⟩
  · exact ⟨rfl, by omega, by omega, ⟨Or.inr (Or.inl ⟨(by first | exact if_pos e2 | (unfold e_needJoined; rw [if_pos e2])), rfl⟩), rfl⟩⟩
def v_isNumber  (v : Int) : Int := (if v < 0 then 0 else (if 4611686018427387903 < v then 0 else 1))
set_option maxRecDepth 100000 in
theorem m_isNumber (hF : mm_F G) (htr : L.stackTraces = false) (hx : kx B bx κ) (hV : kV κ) {v : Int} (h1 : -9223372036854775808 ≤ v) (h1a : v < 9223372036854775808) :
    mm_Met L G SX5_isNumber [.long (iL v)] (hk G B bx h0 κ) 0 0 (mRet (some (.int (iI (v_isNumber v)))) (hk G B bx h0 κ)) mm_no := by
  refine mi_meth MX5_isNumber 400 hF htr okX5_isNumber (av := [aL v]) (by decide +kernel) (Nat.le_of_ble_eq_true rfl) cmX5_isNumber (fun θ hc => ?_)
  refine ⟨0, rfl, ?_⟩
  refine ⟨by omega, fun (e1 : v < 0) => ?_, fun (e1 : ¬ (v < 0)) => ?_⟩
  · exact ⟨(Or.inl rfl), kRetI (by first | exact if_pos e1 | (unfold v_isNumber; rw [if_pos e1])), Nat.le_refl _, Nat.le_refl _⟩
  · refine ⟨4611686018427387903, rfl, ?_⟩
    refine ⟨by omega, fun (e2 : 4611686018427387903 < v) => ?_, fun (e2 : ¬ (4611686018427387903 < v)) => ?_⟩
    · exact ⟨(Or.inl rfl), kRetI (by first | exact (if_neg e1).trans (if_pos e2) | (unfold v_isNumber; rw [if_neg e1, if_pos e2])), Nat.le_refl _, Nat.le_refl _⟩
    · exact ⟨(Or.inr rfl), kRetI (by first | exact (if_neg e1).trans (if_neg e2) | (unfold v_isNumber; rw [if_neg e1, if_neg e2])), Nat.le_refl _, Nat.le_refl _⟩
set_option maxRecDepth 100000 in
theorem v_isNumber_b (v : Int) : 0 ≤ v_isNumber v ∧ v_isNumber v ≤ 1 := by
  unfold v_isNumber
  repeat' with_reducible apply b_ite
  all_goals decide
def v_isKind  (v : Int) : Int := (if v = 4 then 1 else (if v = 5 then 1 else (if v = 8 then 1 else (if v < 16 then 0 else (if 23 < v then 0 else 1)))))
set_option maxRecDepth 100000 in
theorem m_isKind (hF : mm_F G) (htr : L.stackTraces = false) (hx : kx B bx κ) (hV : kV κ) {v : Int} (h1 : -2147483648 ≤ v) (h1a : v < 2147483648) :
    mm_Met L G SX5_isKind [.int (iI v)] (hk G B bx h0 κ) 0 0 (mRet (some (.int (iI (v_isKind v)))) (hk G B bx h0 κ)) mm_no := by
  refine mi_meth MX5_isKind 400 hF htr okX5_isKind (av := [aI v]) (by decide +kernel) (Nat.le_of_ble_eq_true rfl) cmX5_isKind (fun θ hc => ?_)
  refine ⟨by omega, fun (e1 : v = 4) => ?_, fun (e1 : ¬ (v = 4)) => ?_⟩
  · exact ⟨(Or.inr rfl), kRetI (by first | exact if_pos e1 | (unfold v_isKind; rw [if_pos e1])), Nat.le_refl _, Nat.le_refl _⟩
  · refine ⟨by omega, fun (e2 : v = 5) => ?_, fun (e2 : ¬ (v = 5)) => ?_⟩
    · exact ⟨(Or.inr rfl), kRetI (by first | exact (if_neg e1).trans (if_pos e2) | (unfold v_isKind; rw [if_neg e1, if_pos e2])), Nat.le_refl _, Nat.le_refl _⟩
    · refine ⟨by omega, fun (e3 : v = 8) => ?_, fun (e3 : ¬ (v = 8)) => ?_⟩
      · exact ⟨(Or.inr rfl), kRetI (by first | exact (if_neg e1).trans ((if_neg e2).trans (if_pos e3)) | (unfold v_isKind; rw [if_neg e1, if_neg e2, if_pos e3])), Nat.le_refl _, Nat.le_refl _⟩
      · refine ⟨by omega, fun (e4 : v < 16) => ?_, fun (e4 : ¬ (v < 16)) => ?_⟩
        · exact ⟨(Or.inl rfl), kRetI (by first | exact (if_neg e1).trans ((if_neg e2).trans ((if_neg e3).trans (if_pos e4))) | (unfold v_isKind; rw [if_neg e1, if_neg e2, if_neg e3, if_pos e4])), Nat.le_refl _, Nat.le_refl _⟩
        · refine ⟨by omega, fun (e5 : 23 < v) => ?_, fun (e5 : ¬ (23 < v)) => ?_⟩
          · exact ⟨(Or.inl rfl), kRetI (by first | exact (if_neg e1).trans ((if_neg e2).trans ((if_neg e3).trans ((if_neg e4).trans (if_pos e5)))) | (unfold v_isKind; rw [if_neg e1, if_neg e2, if_neg e3, if_neg e4, if_pos e5])), Nat.le_refl _, Nat.le_refl _⟩
          · exact ⟨(Or.inr rfl), kRetI (by first | exact (if_neg e1).trans ((if_neg e2).trans ((if_neg e3).trans ((if_neg e4).trans (if_neg e5)))) | (unfold v_isKind; rw [if_neg e1, if_neg e2, if_neg e3, if_neg e4, if_neg e5])), Nat.le_refl _, Nat.le_refl _⟩
set_option maxRecDepth 100000 in
theorem v_isKind_b (v : Int) : 0 ≤ v_isKind v ∧ v_isKind v ≤ 1 := by
  unfold v_isKind
  repeat' with_reducible apply b_ite
  all_goals decide
def e_needCode (κ : Nat → Nat → Int) (v : Int) : Int := (if (v_isNumber v) = 0 then 1 else 0)
set_option maxRecDepth 100000 in
theorem m_needCode (hF : mm_F G) (htr : L.stackTraces = false) (hx : kx B bx κ) (hV : kV κ) {v : Int} (h1 : -9223372036854775808 ≤ v) (h1a : v < 9223372036854775808) :
    mm_Met L G SX5_needCode [.long (iL v)] (hk G B bx h0 κ) 1 6 (fun r h => (e_needCode κ v) = 0 ∧ (mRet none (hk G B bx h0 κ)) r h) (kThr (hk G B bx h0 κ) (e_needCode κ v)) := by
  refine mi_meth MX5_needCode 400 hF htr okX5_needCode (av := [aL v]) (by decide +kernel) (Nat.le_of_ble_eq_true rfl) cmX5_needCode (fun θ hc => ?_)
  refine ⟨_, _, _, _, (m_isNumber hF htr hx hV (v := v) (by omega) (by omega)), (by first | exact Nat.le_of_ble_eq_true rfl | omega), (by first | exact Nat.le_of_ble_eq_true rfl | omega), mki_ (r := some (aI (v_isNumber v))) ?_, fun _ _ q => q.elim⟩
  have t1 := v_isNumber_b v
  refine ⟨by omega, fun (e2 : ¬ ((v_isNumber v) = 0)) => ?_, fun (e2 : (v_isNumber v) = 0) => ?_⟩
  · exact ⟨⟨(by first | exact if_neg e2 | (unfold e_needCode; rw [if_neg e2])), kRetV ⟩, (by first | exact Nat.le_of_ble_eq_true rfl | omega), (by first | exact Nat.le_of_ble_eq_true rfl | omega)⟩
  · exact ⟨rfl, by omega, by omega, ⟨Or.inl ⟨(by first | exact if_pos e2 | (unfold e_needCode; rw [if_pos e2])), rfl⟩, rfl⟩⟩
theorem needCode_0 {v : Int} (h : e_needCode κ v = 0) : 0 ≤ v ∧ v ≤ 4611686018427387903 := by
  unfold e_needCode v_isNumber at h
  repeat' split at h
  all_goals omega
def v_leastFreePlace_2 (κ : Nat → Nat → Int) : Nat → Int → Int
  | 0, _ => 0
  | d + 1, k => (if 64 ≤ k then k else (if (κ 0 k.toNat) = 0 then k else (v_leastFreePlace_2 κ d (k + 1))))
def v_leastFreePlace (κ : Nat → Nat → Int) : Int := (v_leastFreePlace_2 κ 65 0)
set_option maxRecDepth 100000 in
theorem m_leastFreePlace (hF : mm_F G) (htr : L.stackTraces = false) (hx : kx B bx κ) (hV : kV κ) {a0 : Nat} (ea0 : a0 = B 5 0) :
    mm_Met L G SX5_leastFreePlace [.ref a0] (hk G B bx h0 κ) 0 0 (mRet (some (.int (iI (v_leastFreePlace κ)))) (hk G B bx h0 κ)) mm_no := by
  refine mi_meth MX5_leastFreePlace 400 hF htr okX5_leastFreePlace (av := [aR a0]) (by decide +kernel) (Nat.le_of_ble_eq_true rfl) cmX5_leastFreePlace (fun θ hc => ?_)
  have loop2 : ∀ (R : Int) (d : Nat) (k : Int), (0 ≤ k ∧ k ≤ 64) → (64 - k) < (d : Int) → v_leastFreePlace_2 κ d k = R → mi_W L G MX5_leastFreePlace 0 0 (mRet (some (.int (iI R))) (hk G B bx h0 κ)) mm_no θ 2 [(1, aI k), (0, aR (a0))] [] (hk G B bx h0 κ) 0 0 := by
    intro R d
    induction d with
    | zero =>
      intro k hi1 hms hvr
      omega
    | succ d ih =>
      intro k hi1 hms hvr
      refine mi_sound hc okX5_leastFreePlace 400 _ _ _ _ _ _ ?_
      refine ⟨by omega, fun (e1 : 64 ≤ k) => ?_, fun (e1 : ¬ (64 ≤ k)) => ?_⟩
      · exact ⟨kRetI (hvr.symm.trans (by first | exact if_pos e1 | (rw [v_leastFreePlace_2]; rw [if_pos e1]))), Nat.le_refl _, Nat.le_refl _⟩
      · refine ⟨_, hk_o5 hx rfl ea0, aR (B 11 0), rfl, ?_⟩
        refine ⟨64, _, some (B 0 k.toNat), hk_places hx rfl, by omega, ka_0 (i := k) (by omega) (by omega), ?_⟩
        refine ⟨_, hk_o0 hx (show k.toNat < 65 from by omega) rfl, aI (κ 0 k.toNat), rfl, ?_⟩
        have t2 := (show 0 ≤ κ 0 k.toNat ∧ κ 0 k.toNat ≤ 1 from hV.g 0 k.toNat rfl)
        refine ⟨by omega, fun (e3 : (κ 0 k.toNat) = 0) => ?_, fun (e3 : ¬ ((κ 0 k.toNat) = 0)) => ?_⟩
        · exact ⟨kRetI (hvr.symm.trans (by first | exact (if_neg e1).trans (if_pos e3) | (rw [v_leastFreePlace_2]; rw [if_neg e1, if_pos e3]))), Nat.le_refl _, Nat.le_refl _⟩
        · exact mi_Wsub (List.forall_mem_cons.mpr ⟨(.head _), (List.forall_mem_cons.mpr ⟨(.tail _ (.head _)), (fun _ h => absurd h List.not_mem_nil)⟩)⟩) (ih (k + 1) (by omega) (by omega) (Eq.trans (by first | exact ((if_neg e1).trans (if_neg e3)).symm | (rw [v_leastFreePlace_2]; rw [if_neg e1, if_neg e3])) hvr))
  exact mi_Wsub (List.forall_mem_cons.mpr ⟨(.head _), (List.forall_mem_cons.mpr ⟨(.tail _ (.head _)), (fun _ h => absurd h List.not_mem_nil)⟩)⟩) (loop2 _ 65 0 (by omega) (by omega) rfl)
set_option maxRecDepth 100000 in
theorem v_leastFreePlace_2_cg {κ κ' : Nat → Nat → Int} (h : ∀ f, [0].elem f = true → ∀ k, κ f k = κ' f k) : ∀ (d : Nat) (k : Int), v_leastFreePlace_2 κ d k = v_leastFreePlace_2 κ' d k := by
  have q0 := h 0 rfl
  intro d
  induction d with
  | zero => intros; rfl
  | succ d ih =>
    intro k
    rw [v_leastFreePlace_2, v_leastFreePlace_2]
    simp only [q0, ih]
set_option maxRecDepth 100000 in
theorem v_leastFreePlace_cg {κ κ' : Nat → Nat → Int} (h : ∀ f, [0].elem f = true → ∀ k, κ f k = κ' f k) : v_leastFreePlace κ = v_leastFreePlace κ' := by
  have q0 := h 0 rfl
  unfold v_leastFreePlace
  simp only [q0, v_leastFreePlace_2_cg h]
theorem leastFree_b2 : ∀ (d : Nat) (k : Int), 0 ≤ k → k ≤ 64 → 0 ≤ v_leastFreePlace_2 κ d k ∧ v_leastFreePlace_2 κ d k ≤ 64
  | 0, k, _, _ => ⟨Int.le_refl _, (by decide : (0 : Int) ≤ 64)⟩
  | d + 1, k, h1, h2 => by
    have ih := fun a b => leastFree_b2 d (k + 1) a b
    rw [v_leastFreePlace_2]
    repeat' split
    all_goals first | omega | exact ih (by omega) (by omega)
theorem leastFree_b : 0 ≤ v_leastFreePlace κ ∧ v_leastFreePlace κ ≤ 64 := leastFree_b2 _ _ (by omega) (by omega)
def s_kGrant (κ : Nat → Nat → Int) (s i v : Int) : Nat → Nat → Int := (if (e_sideAt κ s) = 0 then (if i < 4 then κ else (if i ≤ 9 then (if v < 0 then κ else (if 8 ≤ i then (if v ≤ 64 then (if (κ 507 0) = 0 then (s_setGrant κ s i v) else κ) else κ) else (if v ≤ 65536 then (if (κ 507 0) = 0 then (s_setGrant κ s i v) else κ) else κ))) else κ)) else κ)
def e_kGrant (κ : Nat → Nat → Int) (s i v : Int) : Int := (if (e_sideAt κ s) = 0 then (if i < 4 then 1 else (if i ≤ 9 then (if v < 0 then 1 else (if 8 ≤ i then (if v ≤ 64 then (if (κ 507 0) = 0 then 0 else 2) else 1) else (if v ≤ 65536 then (if (κ 507 0) = 0 then 0 else 2) else 1))) else 1)) else (e_sideAt κ s))
set_option maxRecDepth 100000 in
theorem m_kGrant (hF : mm_F G) (htr : L.stackTraces = false) (hx : kx B bx κ) (hV : kV κ) {s i v : Int} {a0 : Nat} (ea0 : a0 = B 5 0) (h1 : -2147483648 ≤ s) (h1a : s < 2147483648) (h3 : -2147483648 ≤ i) (h3a : i < 2147483648) (h5 : -2147483648 ≤ v) (h5a : v < 2147483648) :
    mm_Met L G SX5_grant [.ref a0, .int (iI s), .int (iI i), .int (iI v)] (hk G B bx h0 κ) 2 12 (fun r h => (e_kGrant κ s i v) = 0 ∧ (mRetS none (hk G B bx h0 (s_kGrant κ s i v)) (kx B bx (s_kGrant κ s i v) ∧ kV (s_kGrant κ s i v))) r h) (kThr (hk G B bx h0 κ) (e_kGrant κ s i v)) := by
  refine mi_meth MX5_grant 400 hF htr okX5_grant (av := [aR a0, aI s, aI i, aI v]) (by decide +kernel) (Nat.le_of_ble_eq_true rfl) cmX5_grant (fun θ hc => ?_)
  refine ⟨⟨_, hk_o5 hx rfl ea0⟩, _, _, _, _, (m_sideAt hF htr hx hV (s := s) ea0 (by omega) (by omega)), by omega, by omega, mkit (r := some (aR (B 3 s.toNat))) (fun e1 => ?_), fun E h1 q => kThr_up q (fun e1 => (by first | exact if_neg e1 | (unfold e_kGrant; rw [if_neg e1])))⟩
  have t2 := sideAt_0 (κ := κ) (s := s) e1
  refine ⟨by omega, fun (e3 : i < 4) => ?_, fun (e3 : ¬ (i < 4)) => ?_⟩
  · refine mi_nl [(4, aR (B 3 s.toNat)), (0, aR (a0)), (1, aI s), (2, aI i), (3, aI v)] rfl ?_
    exact ⟨rfl, by omega, by omega, ⟨Or.inl ⟨(by first | exact (if_pos e1).trans (if_pos e3) | (unfold e_kGrant; rw [if_pos e1, if_pos e3])), rfl⟩, rfl⟩⟩
  · refine mi_nl [(4, aR (B 3 s.toNat)), (0, aR (a0)), (1, aI s), (2, aI i), (3, aI v)] rfl ?_
    refine ⟨by omega, fun (e4 : i ≤ 9) => ?_, fun (e4 : ¬ (i ≤ 9)) => ?_⟩
    · refine ⟨by omega, fun (e5 : v < 0) => ?_, fun (e5 : ¬ (v < 0)) => ?_⟩
      · exact ⟨rfl, by omega, by omega, ⟨Or.inl ⟨(by first | exact (if_pos e1).trans ((if_neg e3).trans ((if_pos e4).trans (if_pos e5))) | (unfold e_kGrant; rw [if_pos e1, if_neg e3, if_pos e4, if_pos e5])), rfl⟩, rfl⟩⟩
      · refine ⟨by omega, fun (e6 : 8 ≤ i) => ?_, fun (e6 : ¬ (8 ≤ i)) => ?_⟩
        · refine ⟨by omega, fun (e7 : v ≤ 64) => ?_, fun (e7 : ¬ (v ≤ 64)) => ?_⟩
          · refine ⟨_, hk_o5 hx rfl ea0, aI (κ 507 0), rfl, ?_⟩
            have t8 := (show 0 ≤ κ 507 0 ∧ κ 507 0 ≤ 1 from hV.g 507 0 rfl)
            refine ⟨by omega, fun (e9 : (κ 507 0) = 0) => ?_, fun (e9 : ¬ ((κ 507 0) = 0)) => ?_⟩
            · refine ⟨⟨_, hk_o3 hx (show s.toNat < 2 from by omega) rfl⟩, _, _, _, _, (m_setGrant hF htr hx hV (s := s) (i := i) (v := v) rfl (by omega) (by omega) (by omega) (by omega) (by omega) (by omega)), (by first | exact Nat.le_of_ble_eq_true rfl | omega), (by first | exact Nat.le_of_ble_eq_true rfl | omega), mkis_ (r := none) (fun ⟨hx11, hV10⟩ => ?_), fun _ _ q => q.elim⟩
              exact ⟨⟨(by first | exact (if_pos e1).trans ((if_neg e3).trans ((if_pos e4).trans ((if_neg e5).trans ((if_pos e6).trans ((if_pos e7).trans (if_pos e9)))))) | (unfold e_kGrant; rw [if_pos e1, if_neg e3, if_pos e4, if_neg e5, if_pos e6, if_pos e7, if_pos e9])), kRetVS  (by first | exact (if_pos e1).trans ((if_neg e3).trans ((if_pos e4).trans ((if_neg e5).trans ((if_pos e6).trans ((if_pos e7).trans (if_pos e9)))))) | (unfold s_kGrant; rw [if_pos e1, if_neg e3, if_pos e4, if_neg e5, if_pos e6, if_pos e7, if_pos e9])) hx11 hV10⟩, (by first | exact Nat.le_of_ble_eq_true rfl | omega), (by first | exact Nat.le_of_ble_eq_true rfl | omega)⟩
            · exact ⟨rfl, by omega, by omega, ⟨Or.inr (Or.inl ⟨(by first | exact (if_pos e1).trans ((if_neg e3).trans ((if_pos e4).trans ((if_neg e5).trans ((if_pos e6).trans ((if_pos e7).trans (if_neg e9)))))) | (unfold e_kGrant; rw [if_pos e1, if_neg e3, if_pos e4, if_neg e5, if_pos e6, if_pos e7, if_neg e9])), rfl⟩), rfl⟩⟩
          · exact ⟨rfl, by omega, by omega, ⟨Or.inl ⟨(by first | exact (if_pos e1).trans ((if_neg e3).trans ((if_pos e4).trans ((if_neg e5).trans ((if_pos e6).trans (if_neg e7))))) | (unfold e_kGrant; rw [if_pos e1, if_neg e3, if_pos e4, if_neg e5, if_pos e6, if_neg e7])), rfl⟩, rfl⟩⟩
        · refine ⟨65536, rfl, ?_⟩
          refine ⟨by omega, fun (e12 : v ≤ 65536) => ?_, fun (e12 : ¬ (v ≤ 65536)) => ?_⟩
          · refine ⟨_, hk_o5 hx rfl ea0, aI (κ 507 0), rfl, ?_⟩
            have t13 := (show 0 ≤ κ 507 0 ∧ κ 507 0 ≤ 1 from hV.g 507 0 rfl)
            refine ⟨by omega, fun (e14 : (κ 507 0) = 0) => ?_, fun (e14 : ¬ ((κ 507 0) = 0)) => ?_⟩
            · refine ⟨⟨_, hk_o3 hx (show s.toNat < 2 from by omega) rfl⟩, _, _, _, _, (m_setGrant hF htr hx hV (s := s) (i := i) (v := v) rfl (by omega) (by omega) (by omega) (by omega) (by omega) (by omega)), (by first | exact Nat.le_of_ble_eq_true rfl | omega), (by first | exact Nat.le_of_ble_eq_true rfl | omega), mkis_ (r := none) (fun ⟨hx16, hV15⟩ => ?_), fun _ _ q => q.elim⟩
              exact ⟨⟨(by first | exact (if_pos e1).trans ((if_neg e3).trans ((if_pos e4).trans ((if_neg e5).trans ((if_neg e6).trans ((if_pos e12).trans (if_pos e14)))))) | (unfold e_kGrant; rw [if_pos e1, if_neg e3, if_pos e4, if_neg e5, if_neg e6, if_pos e12, if_pos e14])), kRetVS  (by first | exact (if_pos e1).trans ((if_neg e3).trans ((if_pos e4).trans ((if_neg e5).trans ((if_neg e6).trans ((if_pos e12).trans (if_pos e14)))))) | (unfold s_kGrant; rw [if_pos e1, if_neg e3, if_pos e4, if_neg e5, if_neg e6, if_pos e12, if_pos e14])) hx16 hV15⟩, (by first | exact Nat.le_of_ble_eq_true rfl | omega), (by first | exact Nat.le_of_ble_eq_true rfl | omega)⟩
            · exact ⟨rfl, by omega, by omega, ⟨Or.inr (Or.inl ⟨(by first | exact (if_pos e1).trans ((if_neg e3).trans ((if_pos e4).trans ((if_neg e5).trans ((if_neg e6).trans ((if_pos e12).trans (if_neg e14)))))) | (unfold e_kGrant; rw [if_pos e1, if_neg e3, if_pos e4, if_neg e5, if_neg e6, if_pos e12, if_neg e14])), rfl⟩), rfl⟩⟩
          · exact ⟨rfl, by omega, by omega, ⟨Or.inl ⟨(by first | exact (if_pos e1).trans ((if_neg e3).trans ((if_pos e4).trans ((if_neg e5).trans ((if_neg e6).trans (if_neg e12))))) | (unfold e_kGrant; rw [if_pos e1, if_neg e3, if_pos e4, if_neg e5, if_neg e6, if_neg e12])), rfl⟩, rfl⟩⟩
    · exact ⟨rfl, by omega, by omega, ⟨Or.inl ⟨(by first | exact (if_pos e1).trans ((if_neg e3).trans (if_neg e4)) | (unfold e_kGrant; rw [if_pos e1, if_neg e3, if_neg e4])), rfl⟩, rfl⟩⟩
set_option maxRecDepth 100000 in
theorem s_kGrant_fr {f kk : Nat} {s i v : Int} (hf : (!([314, 360].elem f)) = true) : s_kGrant κ s i v f kk = κ f kk := by
  have n314 : f ≠ 314 := by rintro rfl; exact absurd hf (by decide)
  have n360 : f ≠ 360 := by rintro rfl; exact absurd hf (by decide)
  have f314 : ∀ (m : Nat → Nat → Int) (a b : Nat) (v : Int), u2 m 314 a v f b = m f b := fun m a b v => u2_f n314
  have f360 : ∀ (m : Nat → Nat → Int) (a b : Nat) (v : Int), u2 m 360 a v f b = m f b := fun m a b v => u2_f n360
  have c_setGrant : ∀ (m : Nat → Nat → Int) (z_s z_i z_v : Int) (k : Nat), s_setGrant m z_s z_i z_v f k = m f k := by intros; exact s_setGrant_fr (by simp only [List.elem_cons, List.elem_nil, beq_eq_false_iff_ne.mpr n314, beq_eq_false_iff_ne.mpr n360]; rfl)
  unfold s_kGrant
  repeat' with_reducible apply f_ite
  all_goals first | rfl | simp only [f314, f360, c_setGrant]
def s_kJoin (κ : Nat → Nat → Int) : Nat → Nat → Int := (if (κ 507 0) = 0 then (u2 (s_learnLimits (s_learnLimits κ 0 1) 1 0) 507 0 1) else κ)
def e_kJoin (κ : Nat → Nat → Int) : Int := (if (κ 507 0) = 0 then 0 else 2)
set_option maxRecDepth 100000 in
theorem m_kJoin (hF : mm_F G) (htr : L.stackTraces = false) (hx : kx B bx κ) (hV : kV κ) {a0 : Nat} (ea0 : a0 = B 5 0) (g08 : κ 360 8 ≤ 64) (g09 : κ 360 9 ≤ 64) (g18 : κ 360 24 ≤ 64) (g19 : κ 360 25 ≤ 64) :
    mm_Met L G SX5_join [.ref a0] (hk G B bx h0 κ) 1 6 (fun r h => (e_kJoin κ) = 0 ∧ (mRetS none (hk G B bx h0 (s_kJoin κ)) (kx B bx (s_kJoin κ) ∧ kV (s_kJoin κ))) r h) (kThr (hk G B bx h0 κ) (e_kJoin κ)) := by
  refine mi_meth MX5_join 400 hF htr okX5_join (av := [aR a0]) (by decide +kernel) (Nat.le_of_ble_eq_true rfl) cmX5_join (fun θ hc => ?_)
  refine ⟨_, hk_o5 hx rfl ea0, aI (κ 507 0), rfl, ?_⟩
  have t1 := (show 0 ≤ κ 507 0 ∧ κ 507 0 ≤ 1 from hV.g 507 0 rfl)
  refine ⟨by omega, fun (e2 : (κ 507 0) = 0) => ?_, fun (e2 : ¬ ((κ 507 0) = 0)) => ?_⟩
  · refine ⟨_, hk_o5 hx rfl ea0, aR (B 10 0), rfl, ?_⟩
    refine ⟨2, _, some (B 3 0), hk_sides hx rfl, by omega, ka_3 (i := 0) (by omega) (by omega), ?_⟩
    refine ⟨_, hk_o5 hx rfl ea0, aR (B 10 0), rfl, ?_⟩
    refine ⟨2, _, some (B 3 1), hk_sides hx rfl, by omega, ka_3 (i := 1) (by omega) (by omega), ?_⟩
    refine ⟨⟨_, hk_o3 hx (show 0 < 2 from by omega) rfl⟩, _, _, _, _, (m_learnLimits hF htr hx hV (s := 0) (z := 1) rfl rfl (by omega) (by omega) (by omega) (by omega) (show κ 360 24 ≤ 64 from by omega) (show κ 360 25 ≤ 64 from by omega)), (by first | exact Nat.le_of_ble_eq_true rfl | omega), (by first | exact Nat.le_of_ble_eq_true rfl | omega), mkis_ (r := none) (fun ⟨hx4, hV3⟩ => ?_), fun _ _ q => q.elim⟩
    refine ⟨_, hk_o5 hx4 rfl ea0, aR (B 10 0), rfl, ?_⟩
    refine ⟨2, _, some (B 3 1), hk_sides hx4 rfl, by omega, ka_3 (i := 1) (by omega) (by omega), ?_⟩
    refine ⟨_, hk_o5 hx4 rfl ea0, aR (B 10 0), rfl, ?_⟩
    refine ⟨2, _, some (B 3 0), hk_sides hx4 rfl, by omega, ka_3 (i := 0) (by omega) (by omega), ?_⟩
    refine ⟨⟨_, hk_o3 hx4 (show 1 < 2 from by omega) rfl⟩, _, _, _, _, (m_learnLimits hF htr hx4 hV3 (s := 1) (z := 0) rfl rfl (by omega) (by omega) (by omega) (by omega) (show (s_learnLimits κ 0 1) 360 8 ≤ 64 from by rw [show (s_learnLimits κ 0 1) 360 8 = (κ 360 8) from (s_learnLimits_fr (by decide))]; omega) (show (s_learnLimits κ 0 1) 360 9 ≤ 64 from by rw [show (s_learnLimits κ 0 1) 360 9 = (κ 360 9) from (s_learnLimits_fr (by decide))]; omega)), (by first | exact Nat.le_of_ble_eq_true rfl | omega), (by first | exact Nat.le_of_ble_eq_true rfl | omega), mkis_ (r := none) (fun ⟨hx6, hV5⟩ => ?_), fun _ _ q => q.elim⟩
    refine ⟨_, hk_o5 hx6 rfl ea0, (show 1 = 0 ∨ 1 = 1 from by omega), _, kp_507 hx6 rfl (v := 1) ea0, ?_⟩
    have hV7 := hV5.u (f := 507) (k := 0) (v := 1) rfl (show 0 ≤ 1 ∧ 1 ≤ 1 from by omega)
    have hx8 := kx_u (f := 507) (k := 0) (v := 1) rfl hx6
    exact ⟨⟨(by first | exact if_pos e2 | (unfold e_kJoin; rw [if_pos e2])), kRetVS  (by first | exact if_pos e2 | (unfold s_kJoin; rw [if_pos e2])) hx8 hV7⟩, (by first | exact Nat.le_of_ble_eq_true rfl | omega), (by first | exact Nat.le_of_ble_eq_true rfl | omega)⟩
  · exact ⟨rfl, by omega, by omega, ⟨Or.inr (Or.inl ⟨(by first | exact if_neg e2 | (unfold e_kJoin; rw [if_neg e2])), rfl⟩), rfl⟩⟩
set_option maxRecDepth 100000 in
theorem s_kJoin_fr {f kk : Nat} (hf : (!([310, 361, 401, 507].elem f)) = true) : s_kJoin κ f kk = κ f kk := by
  have n310 : f ≠ 310 := by rintro rfl; exact absurd hf (by decide)
  have n361 : f ≠ 361 := by rintro rfl; exact absurd hf (by decide)
  have n401 : f ≠ 401 := by rintro rfl; exact absurd hf (by decide)
  have n507 : f ≠ 507 := by rintro rfl; exact absurd hf (by decide)
  have f310 : ∀ (m : Nat → Nat → Int) (a b : Nat) (v : Int), u2 m 310 a v f b = m f b := fun m a b v => u2_f n310
  have f361 : ∀ (m : Nat → Nat → Int) (a b : Nat) (v : Int), u2 m 361 a v f b = m f b := fun m a b v => u2_f n361
  have f401 : ∀ (m : Nat → Nat → Int) (a b : Nat) (v : Int), u2 m 401 a v f b = m f b := fun m a b v => u2_f n401
  have f507 : ∀ (m : Nat → Nat → Int) (a b : Nat) (v : Int), u2 m 507 a v f b = m f b := fun m a b v => u2_f n507
  have c_learnLimits : ∀ (m : Nat → Nat → Int) (z_s z_z : Int) (k : Nat), s_learnLimits m z_s z_z f k = m f k := by intros; exact s_learnLimits_fr (by simp only [List.elem_cons, List.elem_nil, beq_eq_false_iff_ne.mpr n310, beq_eq_false_iff_ne.mpr n361, beq_eq_false_iff_ne.mpr n401]; rfl)
  unfold s_kJoin
  repeat' with_reducible apply f_ite
  all_goals first | rfl | simp only [f310, f361, f401, f507, c_learnLimits]
def v_kFinish (κ : Nat → Nat → Int) (s i : Int) : Int := (if (e_sideAt κ s) = 0 then (if 0 ≤ i ∧ i < 256 ∧ (κ 290 (mj s i)) = 1 then (if (κ 200 (mj s i)) = 0 then 1 else 0) else 0) else 0)
def s_kFinish (κ : Nat → Nat → Int) (s i : Int) : Nat → Nat → Int := (if (e_sideAt κ s) = 0 then (if 0 ≤ i ∧ i < 256 ∧ (κ 290 (mj s i)) = 1 then (if (κ 200 (mj s i)) = 0 then (u2 (u2 κ 200 (mj s i) 1) 207 (mj s i) 1) else κ) else κ) else κ)
def e_kFinish (κ : Nat → Nat → Int) (s i : Int) : Int := (if (e_sideAt κ s) = 0 then (if 0 ≤ i ∧ i < 256 ∧ (κ 290 (mj s i)) = 1 then (if (κ 200 (mj s i)) = 0 then 0 else 0) else 0) else (e_sideAt κ s))
set_option maxRecDepth 100000 in
theorem m_kFinish (hF : mm_F G) (htr : L.stackTraces = false) (hx : kx B bx κ) (hV : kV κ) {s i : Int} {a0 : Nat} (ea0 : a0 = B 5 0) (h1 : -2147483648 ≤ s) (h1a : s < 2147483648) (h3 : -2147483648 ≤ i) (h3a : i < 2147483648) :
    mm_Met L G SX5_finish [.ref a0, .int (iI s), .int (iI i)] (hk G B bx h0 κ) 1 6 (fun r h => (e_kFinish κ s i) = 0 ∧ (mRetS (some (.int (iI (v_kFinish κ s i)))) (hk G B bx h0 (s_kFinish κ s i)) (kx B bx (s_kFinish κ s i) ∧ kV (s_kFinish κ s i))) r h) (kThr (hk G B bx h0 κ) (e_kFinish κ s i)) := by
  refine mi_meth MX5_finish 400 hF htr okX5_finish (av := [aR a0, aI s, aI i]) (by decide +kernel) (Nat.le_of_ble_eq_true rfl) cmX5_finish (fun θ hc => ?_)
  refine ⟨⟨_, hk_o5 hx rfl ea0⟩, _, _, _, _, (m_sideAt hF htr hx hV (s := s) ea0 (by omega) (by omega)), by omega, by omega, mkit (r := some (aR (B 3 s.toNat))) (fun e1 => ?_), fun E h1 q => kThr_up q (fun e1 => (by first | exact if_neg e1 | (unfold e_kFinish; rw [if_neg e1])))⟩
  have t2 := sideAt_0 (κ := κ) (s := s) e1
  refine (Decidable.em (0 ≤ i ∧ i < 256 ∧ (κ 290 (mj s i)) = 1)).elim (fun e3 => ?_) (fun e3 => ?_)
  · refine ⟨⟨_, hk_o3 hx (show s.toNat < 2 from by omega) rfl⟩, _, _, _, _, (m_sendingOfY hF htr hx hV (s := s) (i := i) rfl (by omega) (by omega) (by omega) (by omega) (show κ 290 (mj s i) = 1 from e3.2.2)), (by first | exact Nat.le_of_ble_eq_true rfl | omega), (by first | exact Nat.le_of_ble_eq_true rfl | omega), mki_ (r := some (aR (B 2 (mj s i)))) ?_, fun _ _ q => q.elim⟩
    refine ⟨_, hk_o2 hx (show κ 290 (mj s i) = 1 from e3.2.2) rfl, aI (κ 200 (mj s i)), rfl, ?_⟩
    have t4 := (show 0 ≤ κ 200 (mj s i) ∧ κ 200 (mj s i) ≤ 4 from hV.g 200 (mj s i) rfl)
    refine mi_nl [(3, aR (B 2 (mj s i))), (0, aR (a0)), (1, aI s), (2, aI i)] rfl ?_
    refine ⟨by omega, fun (e5 : (κ 200 (mj s i)) = 0) => ?_, fun (e5 : ¬ ((κ 200 (mj s i)) = 0)) => ?_⟩
    · refine ⟨_, hk_o2 hx (show κ 290 (mj s i) = 1 from e3.2.2) rfl, trivial, _, kp_200 hx (show κ 290 (mj s i) = 1 from e3.2.2) (v := 1) rfl, ?_⟩
      have hV6 := hV.u (f := 200) (k := (mj s i)) (v := 1) rfl (show 0 ≤ 1 ∧ 1 ≤ 4 from by omega)
      have hx7 := kx_u (f := 200) (k := (mj s i)) (v := 1) rfl hx
      refine ⟨_, hk_o2 hx7 (show (u2 κ 200 (mj s i) 1) 290 (mj s i) = 1 from ((u2_f (by decide))).trans e3.2.2) rfl, trivial, _, kp_207 hx7 (show (u2 κ 200 (mj s i) 1) 290 (mj s i) = 1 from ((u2_f (by decide))).trans e3.2.2) (v := 1) rfl, ?_⟩
      have hV8 := hV6.u (f := 207) (k := (mj s i)) (v := 1) rfl (show 0 ≤ 1 ∧ 1 ≤ 4 from by omega)
      have hx9 := kx_u (f := 207) (k := (mj s i)) (v := 1) rfl hx7
      exact ⟨(Or.inr rfl), ⟨(by first | exact (if_pos e1).trans ((if_pos e3).trans (if_pos e5)) | (unfold e_kFinish; rw [if_pos e1, if_pos e3, if_pos e5])), kRetIS (by first | exact (if_pos e1).trans ((if_pos e3).trans (if_pos e5)) | (unfold v_kFinish; rw [if_pos e1, if_pos e3, if_pos e5])) (by first | exact (if_pos e1).trans ((if_pos e3).trans (if_pos e5)) | (unfold s_kFinish; rw [if_pos e1, if_pos e3, if_pos e5])) hx9 hV8⟩, (by first | exact Nat.le_of_ble_eq_true rfl | omega), (by first | exact Nat.le_of_ble_eq_true rfl | omega)⟩
    · exact ⟨(Or.inl rfl), ⟨(by first | exact (if_pos e1).trans ((if_pos e3).trans (if_neg e5)) | (unfold e_kFinish; rw [if_pos e1, if_pos e3, if_neg e5])), kRetIS (by first | exact (if_pos e1).trans ((if_pos e3).trans (if_neg e5)) | (unfold v_kFinish; rw [if_pos e1, if_pos e3, if_neg e5])) (by first | exact (if_pos e1).trans ((if_pos e3).trans (if_neg e5)) | (unfold s_kFinish; rw [if_pos e1, if_pos e3, if_neg e5])) hx hV⟩, (by first | exact Nat.le_of_ble_eq_true rfl | omega), (by first | exact Nat.le_of_ble_eq_true rfl | omega)⟩
  · refine ⟨⟨_, hk_o3 hx (show s.toNat < 2 from by omega) rfl⟩, _, _, _, _, (m_sendingOfN hF htr hx hV (s := s) (i := i) rfl (by omega) (by omega) (by omega) (by omega) e3), (by first | exact Nat.le_of_ble_eq_true rfl | omega), (by first | exact Nat.le_of_ble_eq_true rfl | omega), mki_ (r := some aN) ?_, fun _ _ q => q.elim⟩
    exact ⟨(Or.inl rfl), ⟨(by first | exact (if_pos e1).trans (if_neg e3) | (unfold e_kFinish; rw [if_pos e1, if_neg e3])), kRetIS (by first | exact (if_pos e1).trans (if_neg e3) | (unfold v_kFinish; rw [if_pos e1, if_neg e3])) (by first | exact (if_pos e1).trans (if_neg e3) | (unfold s_kFinish; rw [if_pos e1, if_neg e3])) hx hV⟩, (by first | exact Nat.le_of_ble_eq_true rfl | omega), (by first | exact Nat.le_of_ble_eq_true rfl | omega)⟩
set_option maxRecDepth 100000 in
theorem s_kFinish_fr {f kk : Nat} {s i : Int} (hf : (!([200, 207].elem f)) = true) : s_kFinish κ s i f kk = κ f kk := by
  have n200 : f ≠ 200 := by rintro rfl; exact absurd hf (by decide)
  have n207 : f ≠ 207 := by rintro rfl; exact absurd hf (by decide)
  have f200 : ∀ (m : Nat → Nat → Int) (a b : Nat) (v : Int), u2 m 200 a v f b = m f b := fun m a b v => u2_f n200
  have f207 : ∀ (m : Nat → Nat → Int) (a b : Nat) (v : Int), u2 m 207 a v f b = m f b := fun m a b v => u2_f n207
  unfold s_kFinish
  repeat' with_reducible apply f_ite
  all_goals first | rfl | simp only [f200, f207]
def v_kReset (κ : Nat → Nat → Int) (s i c : Int) : Int := (if (e_sideAt κ s) = 0 then (if 0 ≤ i ∧ i < 256 ∧ (κ 290 (mj s i)) = 1 then (if (e_needCode κ c) = 0 then (if (v_sLive κ s i) = 0 then 0 else 1) else 0) else (if (e_needCode κ c) = 0 then 0 else 0)) else 0)
def s_kReset (κ : Nat → Nat → Int) (s i c : Int) : Nat → Nat → Int := (if (e_sideAt κ s) = 0 then (if 0 ≤ i ∧ i < 256 ∧ (κ 290 (mj s i)) = 1 then (if (e_needCode κ c) = 0 then (if (v_sLive κ s i) = 0 then κ else (u2 (u2 (u2 κ 200 (mj s i) 3) 210 (mj s i) c) 211 (mj s i) 1)) else κ) else (if (e_needCode κ c) = 0 then κ else κ)) else κ)
def e_kReset (κ : Nat → Nat → Int) (s i c : Int) : Int := (if (e_sideAt κ s) = 0 then (if 0 ≤ i ∧ i < 256 ∧ (κ 290 (mj s i)) = 1 then (if (e_needCode κ c) = 0 then (if (v_sLive κ s i) = 0 then 0 else 0) else (e_needCode κ c)) else (if (e_needCode κ c) = 0 then 0 else (e_needCode κ c))) else (e_sideAt κ s))
set_option maxRecDepth 100000 in
theorem m_kReset (hF : mm_F G) (htr : L.stackTraces = false) (hx : kx B bx κ) (hV : kV κ) {s i c : Int} {a0 : Nat} (ea0 : a0 = B 5 0) (h1 : -2147483648 ≤ s) (h1a : s < 2147483648) (h3 : -2147483648 ≤ i) (h3a : i < 2147483648) (h5 : -9223372036854775808 ≤ c) (h5a : c < 9223372036854775808) :
    mm_Met L G SX5_reset [.ref a0, .int (iI s), .int (iI i), .long (iL c)] (hk G B bx h0 κ) 2 12 (fun r h => (e_kReset κ s i c) = 0 ∧ (mRetS (some (.int (iI (v_kReset κ s i c)))) (hk G B bx h0 (s_kReset κ s i c)) (kx B bx (s_kReset κ s i c) ∧ kV (s_kReset κ s i c))) r h) (kThr (hk G B bx h0 κ) (e_kReset κ s i c)) := by
  refine mi_meth MX5_reset 400 hF htr okX5_reset (av := [aR a0, aI s, aI i, aL c]) (by decide +kernel) (Nat.le_of_ble_eq_true rfl) cmX5_reset (fun θ hc => ?_)
  refine ⟨⟨_, hk_o5 hx rfl ea0⟩, _, _, _, _, (m_sideAt hF htr hx hV (s := s) ea0 (by omega) (by omega)), by omega, by omega, mkit (r := some (aR (B 3 s.toNat))) (fun e1 => ?_), fun E h1 q => kThr_up q (fun e1 => (by first | exact if_neg e1 | (unfold e_kReset; rw [if_neg e1])))⟩
  have t2 := sideAt_0 (κ := κ) (s := s) e1
  refine (Decidable.em (0 ≤ i ∧ i < 256 ∧ (κ 290 (mj s i)) = 1)).elim (fun e3 => ?_) (fun e3 => ?_)
  · refine ⟨⟨_, hk_o3 hx (show s.toNat < 2 from by omega) rfl⟩, _, _, _, _, (m_sendingOfY hF htr hx hV (s := s) (i := i) rfl (by omega) (by omega) (by omega) (by omega) (show κ 290 (mj s i) = 1 from e3.2.2)), (by first | exact Nat.le_of_ble_eq_true rfl | omega), (by first | exact Nat.le_of_ble_eq_true rfl | omega), mki_ (r := some (aR (B 2 (mj s i)))) ?_, fun _ _ q => q.elim⟩
    refine ⟨_, _, _, _, (m_needCode hF htr hx hV (v := c) (by omega) (by omega)), by omega, by omega, mkit (r := none) (fun e4 => ?_), fun E h1 q => kThr_up q (fun e4 => (by first | exact (if_pos e1).trans ((if_pos e3).trans (if_neg e4)) | (unfold e_kReset; rw [if_pos e1, if_pos e3, if_neg e4])))⟩
    have t5 := needCode_0 (κ := κ) (v := c) e4
    refine mi_nl [(5, aR (B 2 (mj s i))), (0, aR (a0)), (1, aI s), (2, aI i), (3, aL c)] rfl ?_
    refine ⟨⟨_, hk_o2 hx (show κ 290 (mj s i) = 1 from e3.2.2) rfl⟩, _, _, _, _, (m_sLive hF htr hx hV (s := s) (i := i) rfl (show κ 290 (mj s i) = 1 from e3.2.2)), (by first | exact Nat.le_of_ble_eq_true rfl | omega), (by first | exact Nat.le_of_ble_eq_true rfl | omega), mki_ (r := some (aI (v_sLive κ s i))) ?_, fun _ _ q => q.elim⟩
    have t6 := v_sLive_b κ s i
    refine ⟨by omega, fun (e7 : ¬ ((v_sLive κ s i) = 0)) => ?_, fun (e7 : (v_sLive κ s i) = 0) => ?_⟩
    · refine ⟨⟨_, hk_o2 hx (show κ 290 (mj s i) = 1 from e3.2.2) rfl⟩, _, _, _, _, (m_giveUp hF htr hx hV (s := s) (i := i) (c := c) rfl (show κ 290 (mj s i) = 1 from e3.2.2) (by omega) (by omega)), (by first | exact Nat.le_of_ble_eq_true rfl | omega), (by first | exact Nat.le_of_ble_eq_true rfl | omega), mkis_ (r := none) (fun ⟨hx9, hV8⟩ => ?_), fun _ _ q => q.elim⟩
      have hx9 : kx B bx (u2 (u2 (u2 κ 200 (mj s i) 3) 210 (mj s i) c) 211 (mj s i) 1) := hx9
      have hV8 : kV (u2 (u2 (u2 κ 200 (mj s i) 3) 210 (mj s i) c) 211 (mj s i) 1) := hV8
      exact ⟨(Or.inr rfl), ⟨(by first | exact (if_pos e1).trans ((if_pos e3).trans ((if_pos e4).trans (if_neg e7))) | (unfold e_kReset; rw [if_pos e1, if_pos e3, if_pos e4, if_neg e7])), kRetIS (by first | exact (if_pos e1).trans ((if_pos e3).trans ((if_pos e4).trans (if_neg e7))) | (unfold v_kReset; rw [if_pos e1, if_pos e3, if_pos e4, if_neg e7])) (by first | exact (if_pos e1).trans ((if_pos e3).trans ((if_pos e4).trans (if_neg e7))) | (unfold s_kReset; rw [if_pos e1, if_pos e3, if_pos e4, if_neg e7])) hx9 hV8⟩, (by first | exact Nat.le_of_ble_eq_true rfl | omega), (by first | exact Nat.le_of_ble_eq_true rfl | omega)⟩
    · exact ⟨(Or.inl rfl), ⟨(by first | exact (if_pos e1).trans ((if_pos e3).trans ((if_pos e4).trans (if_pos e7))) | (unfold e_kReset; rw [if_pos e1, if_pos e3, if_pos e4, if_pos e7])), kRetIS (by first | exact (if_pos e1).trans ((if_pos e3).trans ((if_pos e4).trans (if_pos e7))) | (unfold v_kReset; rw [if_pos e1, if_pos e3, if_pos e4, if_pos e7])) (by first | exact (if_pos e1).trans ((if_pos e3).trans ((if_pos e4).trans (if_pos e7))) | (unfold s_kReset; rw [if_pos e1, if_pos e3, if_pos e4, if_pos e7])) hx hV⟩, (by first | exact Nat.le_of_ble_eq_true rfl | omega), (by first | exact Nat.le_of_ble_eq_true rfl | omega)⟩
  · refine ⟨⟨_, hk_o3 hx (show s.toNat < 2 from by omega) rfl⟩, _, _, _, _, (m_sendingOfN hF htr hx hV (s := s) (i := i) rfl (by omega) (by omega) (by omega) (by omega) e3), (by first | exact Nat.le_of_ble_eq_true rfl | omega), (by first | exact Nat.le_of_ble_eq_true rfl | omega), mki_ (r := some aN) ?_, fun _ _ q => q.elim⟩
    refine ⟨_, _, _, _, (m_needCode hF htr hx hV (v := c) (by omega) (by omega)), by omega, by omega, mkit (r := none) (fun e10 => ?_), fun E h1 q => kThr_up q (fun e10 => (by first | exact (if_pos e1).trans ((if_neg e3).trans (if_neg e10)) | (unfold e_kReset; rw [if_pos e1, if_neg e3, if_neg e10])))⟩
    have t11 := needCode_0 (κ := κ) (v := c) e10
    refine mi_nl [(5, aN), (0, aR (a0)), (1, aI s), (2, aI i), (3, aL c)] rfl ?_
    exact ⟨(Or.inl rfl), ⟨(by first | exact (if_pos e1).trans ((if_neg e3).trans (if_pos e10)) | (unfold e_kReset; rw [if_pos e1, if_neg e3, if_pos e10])), kRetIS (by first | exact (if_pos e1).trans ((if_neg e3).trans (if_pos e10)) | (unfold v_kReset; rw [if_pos e1, if_neg e3, if_pos e10])) (by first | exact (if_pos e1).trans ((if_neg e3).trans (if_pos e10)) | (unfold s_kReset; rw [if_pos e1, if_neg e3, if_pos e10])) hx hV⟩, (by first | exact Nat.le_of_ble_eq_true rfl | omega), (by first | exact Nat.le_of_ble_eq_true rfl | omega)⟩
set_option maxRecDepth 100000 in
theorem s_kReset_fr {f kk : Nat} {s i c : Int} (hf : (!([200, 210, 211].elem f)) = true) : s_kReset κ s i c f kk = κ f kk := by
  have n200 : f ≠ 200 := by rintro rfl; exact absurd hf (by decide)
  have n210 : f ≠ 210 := by rintro rfl; exact absurd hf (by decide)
  have n211 : f ≠ 211 := by rintro rfl; exact absurd hf (by decide)
  have f200 : ∀ (m : Nat → Nat → Int) (a b : Nat) (v : Int), u2 m 200 a v f b = m f b := fun m a b v => u2_f n200
  have f210 : ∀ (m : Nat → Nat → Int) (a b : Nat) (v : Int), u2 m 210 a v f b = m f b := fun m a b v => u2_f n210
  have f211 : ∀ (m : Nat → Nat → Int) (a b : Nat) (v : Int), u2 m 211 a v f b = m f b := fun m a b v => u2_f n211
  unfold s_kReset
  repeat' with_reducible apply f_ite
  all_goals first | rfl | simp only [f200, f210, f211]
def v_kStop (κ : Nat → Nat → Int) (s i c : Int) : Int := (if (e_sideAt κ s) = 0 then (if 0 ≤ i ∧ i < 256 ∧ (κ 190 (mj s i)) = 1 then (if (e_needCode κ c) = 0 then (if (v_rLive κ s i) = 0 then 0 else (if (κ 109 (mj s i)) = 0 then 1 else 0)) else 0) else (if (e_needCode κ c) = 0 then 0 else 0)) else 0)
def s_kStop (κ : Nat → Nat → Int) (s i c : Int) : Nat → Nat → Int := (if (e_sideAt κ s) = 0 then (if 0 ≤ i ∧ i < 256 ∧ (κ 190 (mj s i)) = 1 then (if (e_needCode κ c) = 0 then (if (v_rLive κ s i) = 0 then κ else (if (κ 109 (mj s i)) = 0 then (u2 (u2 (u2 κ 109 (mj s i) 1) 110 (mj s i) 1) 111 (mj s i) c) else κ)) else κ) else (if (e_needCode κ c) = 0 then κ else κ)) else κ)
def e_kStop (κ : Nat → Nat → Int) (s i c : Int) : Int := (if (e_sideAt κ s) = 0 then (if 0 ≤ i ∧ i < 256 ∧ (κ 190 (mj s i)) = 1 then (if (e_needCode κ c) = 0 then (if (v_rLive κ s i) = 0 then 0 else (if (κ 109 (mj s i)) = 0 then 0 else 0)) else (e_needCode κ c)) else (if (e_needCode κ c) = 0 then 0 else (e_needCode κ c))) else (e_sideAt κ s))
set_option maxRecDepth 100000 in
theorem m_kStop (hF : mm_F G) (htr : L.stackTraces = false) (hx : kx B bx κ) (hV : kV κ) {s i c : Int} {a0 : Nat} (ea0 : a0 = B 5 0) (h1 : -2147483648 ≤ s) (h1a : s < 2147483648) (h3 : -2147483648 ≤ i) (h3a : i < 2147483648) (h5 : -9223372036854775808 ≤ c) (h5a : c < 9223372036854775808) :
    mm_Met L G SX5_stop [.ref a0, .int (iI s), .int (iI i), .long (iL c)] (hk G B bx h0 κ) 2 12 (fun r h => (e_kStop κ s i c) = 0 ∧ (mRetS (some (.int (iI (v_kStop κ s i c)))) (hk G B bx h0 (s_kStop κ s i c)) (kx B bx (s_kStop κ s i c) ∧ kV (s_kStop κ s i c))) r h) (kThr (hk G B bx h0 κ) (e_kStop κ s i c)) := by
  refine mi_meth MX5_stop 400 hF htr okX5_stop (av := [aR a0, aI s, aI i, aL c]) (by decide +kernel) (Nat.le_of_ble_eq_true rfl) cmX5_stop (fun θ hc => ?_)
  refine ⟨⟨_, hk_o5 hx rfl ea0⟩, _, _, _, _, (m_sideAt hF htr hx hV (s := s) ea0 (by omega) (by omega)), by omega, by omega, mkit (r := some (aR (B 3 s.toNat))) (fun e1 => ?_), fun E h1 q => kThr_up q (fun e1 => (by first | exact if_neg e1 | (unfold e_kStop; rw [if_neg e1])))⟩
  have t2 := sideAt_0 (κ := κ) (s := s) e1
  refine (Decidable.em (0 ≤ i ∧ i < 256 ∧ (κ 190 (mj s i)) = 1)).elim (fun e3 => ?_) (fun e3 => ?_)
  · refine ⟨⟨_, hk_o3 hx (show s.toNat < 2 from by omega) rfl⟩, _, _, _, _, (m_receivingOfY hF htr hx hV (s := s) (i := i) rfl (by omega) (by omega) (by omega) (by omega) (show κ 190 (mj s i) = 1 from e3.2.2)), (by first | exact Nat.le_of_ble_eq_true rfl | omega), (by first | exact Nat.le_of_ble_eq_true rfl | omega), mki_ (r := some (aR (B 1 (mj s i)))) ?_, fun _ _ q => q.elim⟩
    refine ⟨_, _, _, _, (m_needCode hF htr hx hV (v := c) (by omega) (by omega)), by omega, by omega, mkit (r := none) (fun e4 => ?_), fun E h1 q => kThr_up q (fun e4 => (by first | exact (if_pos e1).trans ((if_pos e3).trans (if_neg e4)) | (unfold e_kStop; rw [if_pos e1, if_pos e3, if_neg e4])))⟩
    have t5 := needCode_0 (κ := κ) (v := c) e4
    refine mi_nl [(5, aR (B 1 (mj s i))), (0, aR (a0)), (1, aI s), (2, aI i), (3, aL c)] rfl ?_
    refine ⟨⟨_, hk_o1 hx (show κ 190 (mj s i) = 1 from e3.2.2) rfl⟩, _, _, _, _, (m_rLive hF htr hx hV (s := s) (i := i) rfl (show κ 190 (mj s i) = 1 from e3.2.2)), (by first | exact Nat.le_of_ble_eq_true rfl | omega), (by first | exact Nat.le_of_ble_eq_true rfl | omega), mki_ (r := some (aI (v_rLive κ s i))) ?_, fun _ _ q => q.elim⟩
    have t6 := v_rLive_b κ s i
    refine ⟨by omega, fun (e7 : (v_rLive κ s i) = 0) => ?_, fun (e7 : ¬ ((v_rLive κ s i) = 0)) => ?_⟩
    · exact ⟨(Or.inl rfl), ⟨(by first | exact (if_pos e1).trans ((if_pos e3).trans ((if_pos e4).trans (if_pos e7))) | (unfold e_kStop; rw [if_pos e1, if_pos e3, if_pos e4, if_pos e7])), kRetIS (by first | exact (if_pos e1).trans ((if_pos e3).trans ((if_pos e4).trans (if_pos e7))) | (unfold v_kStop; rw [if_pos e1, if_pos e3, if_pos e4, if_pos e7])) (by first | exact (if_pos e1).trans ((if_pos e3).trans ((if_pos e4).trans (if_pos e7))) | (unfold s_kStop; rw [if_pos e1, if_pos e3, if_pos e4, if_pos e7])) hx hV⟩, (by first | exact Nat.le_of_ble_eq_true rfl | omega), (by first | exact Nat.le_of_ble_eq_true rfl | omega)⟩
    · refine ⟨_, hk_o1 hx (show κ 190 (mj s i) = 1 from e3.2.2) rfl, aI (κ 109 (mj s i)), rfl, ?_⟩
      have t8 := (show 0 ≤ κ 109 (mj s i) ∧ κ 109 (mj s i) ≤ 1 from hV.g 109 (mj s i) rfl)
      refine ⟨by omega, fun (e9 : (κ 109 (mj s i)) = 0) => ?_, fun (e9 : ¬ ((κ 109 (mj s i)) = 0)) => ?_⟩
      · refine ⟨_, hk_o1 hx (show κ 190 (mj s i) = 1 from e3.2.2) rfl, (show 1 = 0 ∨ 1 = 1 from by omega), _, kp_109 hx (show κ 190 (mj s i) = 1 from e3.2.2) (v := 1) rfl, ?_⟩
        have hV10 := hV.u (f := 109) (k := (mj s i)) (v := 1) rfl (show 0 ≤ 1 ∧ 1 ≤ 1 from by omega)
        have hx11 := kx_u (f := 109) (k := (mj s i)) (v := 1) rfl hx
        refine ⟨_, hk_o1 hx11 (show (u2 κ 109 (mj s i) 1) 190 (mj s i) = 1 from ((u2_f (by decide))).trans e3.2.2) rfl, (show 1 = 0 ∨ 1 = 1 from by omega), _, kp_110 hx11 (show (u2 κ 109 (mj s i) 1) 190 (mj s i) = 1 from ((u2_f (by decide))).trans e3.2.2) (v := 1) rfl, ?_⟩
        have hV12 := hV10.u (f := 110) (k := (mj s i)) (v := 1) rfl (show 0 ≤ 1 ∧ 1 ≤ 1 from by omega)
        have hx13 := kx_u (f := 110) (k := (mj s i)) (v := 1) rfl hx11
        refine ⟨_, hk_o1 hx13 (show (u2 (u2 κ 109 (mj s i) 1) 110 (mj s i) 1) 190 (mj s i) = 1 from ((Eq.trans (u2_f (by decide)) (u2_f (by decide)))).trans e3.2.2) rfl, trivial, _, kp_111 hx13 (show (u2 (u2 κ 109 (mj s i) 1) 110 (mj s i) 1) 190 (mj s i) = 1 from ((Eq.trans (u2_f (by decide)) (u2_f (by decide)))).trans e3.2.2) (v := c) rfl, ?_⟩
        have hV14 := hV12.u (f := 111) (k := (mj s i)) (v := c) rfl (show 0 ≤ c ∧ c ≤ 4611686018427387903 from by omega)
        have hx15 := kx_u (f := 111) (k := (mj s i)) (v := c) rfl hx13
        exact ⟨(Or.inr rfl), ⟨(by first | exact (if_pos e1).trans ((if_pos e3).trans ((if_pos e4).trans ((if_neg e7).trans (if_pos e9)))) | (unfold e_kStop; rw [if_pos e1, if_pos e3, if_pos e4, if_neg e7, if_pos e9])), kRetIS (by first | exact (if_pos e1).trans ((if_pos e3).trans ((if_pos e4).trans ((if_neg e7).trans (if_pos e9)))) | (unfold v_kStop; rw [if_pos e1, if_pos e3, if_pos e4, if_neg e7, if_pos e9])) (by first | exact (if_pos e1).trans ((if_pos e3).trans ((if_pos e4).trans ((if_neg e7).trans (if_pos e9)))) | (unfold s_kStop; rw [if_pos e1, if_pos e3, if_pos e4, if_neg e7, if_pos e9])) hx15 hV14⟩, (by first | exact Nat.le_of_ble_eq_true rfl | omega), (by first | exact Nat.le_of_ble_eq_true rfl | omega)⟩
      · exact ⟨(Or.inl rfl), ⟨(by first | exact (if_pos e1).trans ((if_pos e3).trans ((if_pos e4).trans ((if_neg e7).trans (if_neg e9)))) | (unfold e_kStop; rw [if_pos e1, if_pos e3, if_pos e4, if_neg e7, if_neg e9])), kRetIS (by first | exact (if_pos e1).trans ((if_pos e3).trans ((if_pos e4).trans ((if_neg e7).trans (if_neg e9)))) | (unfold v_kStop; rw [if_pos e1, if_pos e3, if_pos e4, if_neg e7, if_neg e9])) (by first | exact (if_pos e1).trans ((if_pos e3).trans ((if_pos e4).trans ((if_neg e7).trans (if_neg e9)))) | (unfold s_kStop; rw [if_pos e1, if_pos e3, if_pos e4, if_neg e7, if_neg e9])) hx hV⟩, (by first | exact Nat.le_of_ble_eq_true rfl | omega), (by first | exact Nat.le_of_ble_eq_true rfl | omega)⟩
  · refine ⟨⟨_, hk_o3 hx (show s.toNat < 2 from by omega) rfl⟩, _, _, _, _, (m_receivingOfN hF htr hx hV (s := s) (i := i) rfl (by omega) (by omega) (by omega) (by omega) e3), (by first | exact Nat.le_of_ble_eq_true rfl | omega), (by first | exact Nat.le_of_ble_eq_true rfl | omega), mki_ (r := some aN) ?_, fun _ _ q => q.elim⟩
    refine ⟨_, _, _, _, (m_needCode hF htr hx hV (v := c) (by omega) (by omega)), by omega, by omega, mkit (r := none) (fun e16 => ?_), fun E h1 q => kThr_up q (fun e16 => (by first | exact (if_pos e1).trans ((if_neg e3).trans (if_neg e16)) | (unfold e_kStop; rw [if_pos e1, if_neg e3, if_neg e16])))⟩
    have t17 := needCode_0 (κ := κ) (v := c) e16
    refine mi_nl [(5, aN), (0, aR (a0)), (1, aI s), (2, aI i), (3, aL c)] rfl ?_
    exact ⟨(Or.inl rfl), ⟨(by first | exact (if_pos e1).trans ((if_neg e3).trans (if_pos e16)) | (unfold e_kStop; rw [if_pos e1, if_neg e3, if_pos e16])), kRetIS (by first | exact (if_pos e1).trans ((if_neg e3).trans (if_pos e16)) | (unfold v_kStop; rw [if_pos e1, if_neg e3, if_pos e16])) (by first | exact (if_pos e1).trans ((if_neg e3).trans (if_pos e16)) | (unfold s_kStop; rw [if_pos e1, if_neg e3, if_pos e16])) hx hV⟩, (by first | exact Nat.le_of_ble_eq_true rfl | omega), (by first | exact Nat.le_of_ble_eq_true rfl | omega)⟩
set_option maxRecDepth 100000 in
theorem s_kStop_fr {f kk : Nat} {s i c : Int} (hf : (!([109, 110, 111].elem f)) = true) : s_kStop κ s i c f kk = κ f kk := by
  have n109 : f ≠ 109 := by rintro rfl; exact absurd hf (by decide)
  have n110 : f ≠ 110 := by rintro rfl; exact absurd hf (by decide)
  have n111 : f ≠ 111 := by rintro rfl; exact absurd hf (by decide)
  have f109 : ∀ (m : Nat → Nat → Int) (a b : Nat) (v : Int), u2 m 109 a v f b = m f b := fun m a b v => u2_f n109
  have f110 : ∀ (m : Nat → Nat → Int) (a b : Nat) (v : Int), u2 m 110 a v f b = m f b := fun m a b v => u2_f n110
  have f111 : ∀ (m : Nat → Nat → Int) (a b : Nat) (v : Int), u2 m 111 a v f b = m f b := fun m a b v => u2_f n111
  unfold s_kStop
  repeat' with_reducible apply f_ite
  all_goals first | rfl | simp only [f109, f110, f111]
def v_kLine (κ : Nat → Nat → Int) (p q : Int) : Int := (if (e_frameAt κ p) = 0 then (if q = 0 then (κ 2 p.toNat) else (if q = 1 then (κ 3 p.toNat) else (if q = 2 then (κ 4 p.toNat) else (if q = 3 then (κ 5 p.toNat) else (if q = 4 then (κ 6 p.toNat) else (if q = 5 then (κ 9 p.toNat) else (if q = 6 then (κ 10 p.toNat) else 0))))))) else 0)
def e_kLine (κ : Nat → Nat → Int) (p q : Int) : Int := (if (e_frameAt κ p) = 0 then (if q = 0 then 0 else (if q = 1 then 0 else (if q = 2 then 0 else (if q = 3 then 0 else (if q = 4 then 0 else (if q = 5 then 0 else (if q = 6 then 0 else 3))))))) else (e_frameAt κ p))
set_option maxRecDepth 100000 in
theorem m_kLine (hF : mm_F G) (htr : L.stackTraces = false) (hx : kx B bx κ) (hV : kV κ) {p q : Int} {a0 : Nat} (ea0 : a0 = B 5 0) (h1 : -2147483648 ≤ p) (h1a : p < 2147483648) (h2 : -2147483648 ≤ q) (h2a : q < 2147483648) :
    mm_Met L G SX5_line [.ref a0, .int (iI p), .int (iI q)] (hk G B bx h0 κ) 2 12 (fun r h => (e_kLine κ p q) = 0 ∧ (mRet (some (.long (iL (v_kLine κ p q)))) (hk G B bx h0 κ)) r h) (kThr (hk G B bx h0 κ) (e_kLine κ p q)) := by
  refine mi_meth MX5_line 400 hF htr okX5_line (av := [aR a0, aI p, aI q]) (by decide +kernel) (Nat.le_of_ble_eq_true rfl) cmX5_line (fun θ hc => ?_)
  refine ⟨⟨_, hk_o5 hx rfl ea0⟩, _, _, _, _, (m_frameAt hF htr hx hV (p := p) ea0 (by omega) (by omega)), by omega, by omega, mkit (r := some (aR (B 0 p.toNat))) (fun e1 => ?_), fun E h1 q => kThr_up q (fun e1 => (by first | exact if_neg e1 | (unfold e_kLine; rw [if_neg e1])))⟩
  have t2 := frameAt_0 (κ := κ) (p := p) e1
  refine ⟨by omega, ⟨fun (e3 : q = 0) => ?_, fun (e4 : q = 1) => ?_, fun (e5 : q = 2) => ?_, fun (e6 : q = 3) => ?_, fun (e7 : q = 4) => ?_, fun (e8 : q = 5) => ?_, fun (e9 : q = 6) => ?_, trivial⟩, fun (e10 : q < 0 ∨ 6 < q) => ?_⟩
  · refine mi_nl [(3, aR (B 0 p.toNat)), (0, aR (a0)), (1, aI p), (2, aI q)] rfl ?_
    refine ⟨_, hk_o0 hx (show p.toNat < 65 from by omega) rfl, aI (κ 2 p.toNat), rfl, ?_⟩
    have t11 := (show 0 ≤ κ 2 p.toNat ∧ κ 2 p.toNat ≤ 1 from hV.g 2 p.toNat rfl)
    refine ⟨by omega, ?_⟩
    exact ⟨⟨(by first | exact (if_pos e1).trans (if_pos e3) | (unfold e_kLine; rw [if_pos e1, if_pos e3])), kRetL (by first | exact (if_pos e1).trans (if_pos e3) | (unfold v_kLine; rw [if_pos e1, if_pos e3]))⟩, (by first | exact Nat.le_of_ble_eq_true rfl | omega), (by first | exact Nat.le_of_ble_eq_true rfl | omega)⟩
  · have e3n : ¬ (q = 0) := by omega
    refine mi_nl [(3, aR (B 0 p.toNat)), (0, aR (a0)), (1, aI p), (2, aI q)] rfl ?_
    refine ⟨_, hk_o0 hx (show p.toNat < 65 from by omega) rfl, aI (κ 3 p.toNat), rfl, ?_⟩
    have t12 := (show 0 ≤ κ 3 p.toNat ∧ κ 3 p.toNat ≤ 23 from hV.g 3 p.toNat rfl)
    refine ⟨by omega, ?_⟩
    exact ⟨⟨(by first | exact (if_pos e1).trans ((if_neg e3n).trans (if_pos e4)) | (unfold e_kLine; rw [if_pos e1, if_neg e3n, if_pos e4])), kRetL (by first | exact (if_pos e1).trans ((if_neg e3n).trans (if_pos e4)) | (unfold v_kLine; rw [if_pos e1, if_neg e3n, if_pos e4]))⟩, (by first | exact Nat.le_of_ble_eq_true rfl | omega), (by first | exact Nat.le_of_ble_eq_true rfl | omega)⟩
  · have e3n : ¬ (q = 0) := by omega
    have e4n : ¬ (q = 1) := by omega
    refine mi_nl [(3, aR (B 0 p.toNat)), (0, aR (a0)), (1, aI p), (2, aI q)] rfl ?_
    refine ⟨_, hk_o0 hx (show p.toNat < 65 from by omega) rfl, aL (κ 4 p.toNat), rfl, ?_⟩
    have t13 := (show 0 ≤ κ 4 p.toNat ∧ κ 4 p.toNat ≤ 4611686018427387903 from hV.g 4 p.toNat rfl)
    exact ⟨⟨(by first | exact (if_pos e1).trans ((if_neg e3n).trans ((if_neg e4n).trans (if_pos e5))) | (unfold e_kLine; rw [if_pos e1, if_neg e3n, if_neg e4n, if_pos e5])), kRetL (by first | exact (if_pos e1).trans ((if_neg e3n).trans ((if_neg e4n).trans (if_pos e5))) | (unfold v_kLine; rw [if_pos e1, if_neg e3n, if_neg e4n, if_pos e5]))⟩, (by first | exact Nat.le_of_ble_eq_true rfl | omega), (by first | exact Nat.le_of_ble_eq_true rfl | omega)⟩
  · have e3n : ¬ (q = 0) := by omega
    have e4n : ¬ (q = 1) := by omega
    have e5n : ¬ (q = 2) := by omega
    refine mi_nl [(3, aR (B 0 p.toNat)), (0, aR (a0)), (1, aI p), (2, aI q)] rfl ?_
    refine ⟨_, hk_o0 hx (show p.toNat < 65 from by omega) rfl, aL (κ 5 p.toNat), rfl, ?_⟩
    have t14 := (show 0 ≤ κ 5 p.toNat ∧ κ 5 p.toNat ≤ 4611686018427387903 from hV.g 5 p.toNat rfl)
    exact ⟨⟨(by first | exact (if_pos e1).trans ((if_neg e3n).trans ((if_neg e4n).trans ((if_neg e5n).trans (if_pos e6)))) | (unfold e_kLine; rw [if_pos e1, if_neg e3n, if_neg e4n, if_neg e5n, if_pos e6])), kRetL (by first | exact (if_pos e1).trans ((if_neg e3n).trans ((if_neg e4n).trans ((if_neg e5n).trans (if_pos e6)))) | (unfold v_kLine; rw [if_pos e1, if_neg e3n, if_neg e4n, if_neg e5n, if_pos e6]))⟩, (by first | exact Nat.le_of_ble_eq_true rfl | omega), (by first | exact Nat.le_of_ble_eq_true rfl | omega)⟩
  · have e3n : ¬ (q = 0) := by omega
    have e4n : ¬ (q = 1) := by omega
    have e5n : ¬ (q = 2) := by omega
    have e6n : ¬ (q = 3) := by omega
    refine mi_nl [(3, aR (B 0 p.toNat)), (0, aR (a0)), (1, aI p), (2, aI q)] rfl ?_
    refine ⟨_, hk_o0 hx (show p.toNat < 65 from by omega) rfl, aL (κ 6 p.toNat), rfl, ?_⟩
    have t15 := (show 0 ≤ κ 6 p.toNat ∧ κ 6 p.toNat ≤ 4611686018427387903 from hV.g 6 p.toNat rfl)
    exact ⟨⟨(by first | exact (if_pos e1).trans ((if_neg e3n).trans ((if_neg e4n).trans ((if_neg e5n).trans ((if_neg e6n).trans (if_pos e7))))) | (unfold e_kLine; rw [if_pos e1, if_neg e3n, if_neg e4n, if_neg e5n, if_neg e6n, if_pos e7])), kRetL (by first | exact (if_pos e1).trans ((if_neg e3n).trans ((if_neg e4n).trans ((if_neg e5n).trans ((if_neg e6n).trans (if_pos e7))))) | (unfold v_kLine; rw [if_pos e1, if_neg e3n, if_neg e4n, if_neg e5n, if_neg e6n, if_pos e7]))⟩, (by first | exact Nat.le_of_ble_eq_true rfl | omega), (by first | exact Nat.le_of_ble_eq_true rfl | omega)⟩
  · have e3n : ¬ (q = 0) := by omega
    have e4n : ¬ (q = 1) := by omega
    have e5n : ¬ (q = 2) := by omega
    have e6n : ¬ (q = 3) := by omega
    have e7n : ¬ (q = 4) := by omega
    refine mi_nl [(3, aR (B 0 p.toNat)), (0, aR (a0)), (1, aI p), (2, aI q)] rfl ?_
    refine ⟨_, hk_o0 hx (show p.toNat < 65 from by omega) rfl, aI (κ 9 p.toNat), rfl, ?_⟩
    have t16 := (show 0 ≤ κ 9 p.toNat ∧ κ 9 p.toNat ≤ 2048 from hV.g 9 p.toNat rfl)
    refine ⟨by omega, ?_⟩
    exact ⟨⟨(by first | exact (if_pos e1).trans ((if_neg e3n).trans ((if_neg e4n).trans ((if_neg e5n).trans ((if_neg e6n).trans ((if_neg e7n).trans (if_pos e8)))))) | (unfold e_kLine; rw [if_pos e1, if_neg e3n, if_neg e4n, if_neg e5n, if_neg e6n, if_neg e7n, if_pos e8])), kRetL (by first | exact (if_pos e1).trans ((if_neg e3n).trans ((if_neg e4n).trans ((if_neg e5n).trans ((if_neg e6n).trans ((if_neg e7n).trans (if_pos e8)))))) | (unfold v_kLine; rw [if_pos e1, if_neg e3n, if_neg e4n, if_neg e5n, if_neg e6n, if_neg e7n, if_pos e8]))⟩, (by first | exact Nat.le_of_ble_eq_true rfl | omega), (by first | exact Nat.le_of_ble_eq_true rfl | omega)⟩
  · have e3n : ¬ (q = 0) := by omega
    have e4n : ¬ (q = 1) := by omega
    have e5n : ¬ (q = 2) := by omega
    have e6n : ¬ (q = 3) := by omega
    have e7n : ¬ (q = 4) := by omega
    have e8n : ¬ (q = 5) := by omega
    refine mi_nl [(3, aR (B 0 p.toNat)), (0, aR (a0)), (1, aI p), (2, aI q)] rfl ?_
    refine ⟨_, hk_o0 hx (show p.toNat < 65 from by omega) rfl, aI (κ 10 p.toNat), rfl, ?_⟩
    have t17 := (show -100 ≤ κ 10 p.toNat ∧ κ 10 p.toNat ≤ 3000 from hV.g 10 p.toNat rfl)
    refine ⟨by omega, ?_⟩
    exact ⟨⟨(by first | exact (if_pos e1).trans ((if_neg e3n).trans ((if_neg e4n).trans ((if_neg e5n).trans ((if_neg e6n).trans ((if_neg e7n).trans ((if_neg e8n).trans (if_pos e9))))))) | (unfold e_kLine; rw [if_pos e1, if_neg e3n, if_neg e4n, if_neg e5n, if_neg e6n, if_neg e7n, if_neg e8n, if_pos e9])), kRetL (by first | exact (if_pos e1).trans ((if_neg e3n).trans ((if_neg e4n).trans ((if_neg e5n).trans ((if_neg e6n).trans ((if_neg e7n).trans ((if_neg e8n).trans (if_pos e9))))))) | (unfold v_kLine; rw [if_pos e1, if_neg e3n, if_neg e4n, if_neg e5n, if_neg e6n, if_neg e7n, if_neg e8n, if_pos e9]))⟩, (by first | exact Nat.le_of_ble_eq_true rfl | omega), (by first | exact Nat.le_of_ble_eq_true rfl | omega)⟩
  · have e3n : ¬ (q = 0) := by omega
    have e4n : ¬ (q = 1) := by omega
    have e5n : ¬ (q = 2) := by omega
    have e6n : ¬ (q = 3) := by omega
    have e7n : ¬ (q = 4) := by omega
    have e8n : ¬ (q = 5) := by omega
    have e9n : ¬ (q = 6) := by omega
    refine mi_nl [(3, aR (B 0 p.toNat)), (0, aR (a0)), (1, aI p), (2, aI q)] rfl ?_
    exact ⟨rfl, by omega, by omega, ⟨Or.inr (Or.inr ⟨(by first | exact (if_pos e1).trans ((if_neg e3n).trans ((if_neg e4n).trans ((if_neg e5n).trans ((if_neg e6n).trans ((if_neg e7n).trans ((if_neg e8n).trans (if_neg e9n))))))) | (unfold e_kLine; rw [if_pos e1, if_neg e3n, if_neg e4n, if_neg e5n, if_neg e6n, if_neg e7n, if_neg e8n, if_neg e9n])), rfl⟩), rfl⟩⟩
def v_kStream (κ : Nat → Nat → Int) (s i w : Int) : Int := (if (e_sideAt κ s) = 0 then (if w < 0 then 0 else (if w ≤ 14 then (if 8 ≤ w then (if 0 ≤ i ∧ i < 256 ∧ (κ 190 (mj s i)) = 1 then (v_rTell κ s i w) else -1) else (if 0 ≤ i ∧ i < 256 ∧ (κ 290 (mj s i)) = 1 then (v_sTell κ s i w) else -1)) else 0)) else 0)
def e_kStream (κ : Nat → Nat → Int) (s i w : Int) : Int := (if (e_sideAt κ s) = 0 then (if w < 0 then 1 else (if w ≤ 14 then (if 8 ≤ w then (if 0 ≤ i ∧ i < 256 ∧ (κ 190 (mj s i)) = 1 then 0 else 0) else (if 0 ≤ i ∧ i < 256 ∧ (κ 290 (mj s i)) = 1 then 0 else 0)) else 1)) else (e_sideAt κ s))
set_option maxRecDepth 100000 in
theorem m_kStream (hF : mm_F G) (htr : L.stackTraces = false) (hx : kx B bx κ) (hV : kV κ) {s i w : Int} {a0 : Nat} (ea0 : a0 = B 5 0) (h1 : -2147483648 ≤ s) (h1a : s < 2147483648) (h3 : -2147483648 ≤ i) (h3a : i < 2147483648) (h5 : -2147483648 ≤ w) (h5a : w < 2147483648) :
    mm_Met L G SX5_stream [.ref a0, .int (iI s), .int (iI i), .int (iI w)] (hk G B bx h0 κ) 2 12 (fun r h => (e_kStream κ s i w) = 0 ∧ (mRet (some (.long (iL (v_kStream κ s i w)))) (hk G B bx h0 κ)) r h) (kThr (hk G B bx h0 κ) (e_kStream κ s i w)) := by
  refine mi_meth MX5_stream 400 hF htr okX5_stream (av := [aR a0, aI s, aI i, aI w]) (by decide +kernel) (Nat.le_of_ble_eq_true rfl) cmX5_stream (fun θ hc => ?_)
  refine ⟨⟨_, hk_o5 hx rfl ea0⟩, _, _, _, _, (m_sideAt hF htr hx hV (s := s) ea0 (by omega) (by omega)), by omega, by omega, mkit (r := some (aR (B 3 s.toNat))) (fun e1 => ?_), fun E h1 q => kThr_up q (fun e1 => (by first | exact if_neg e1 | (unfold e_kStream; rw [if_neg e1])))⟩
  have t2 := sideAt_0 (κ := κ) (s := s) e1
  refine ⟨by omega, fun (e3 : w < 0) => ?_, fun (e3 : ¬ (w < 0)) => ?_⟩
  · refine mi_nl [(4, aR (B 3 s.toNat)), (0, aR (a0)), (1, aI s), (2, aI i), (3, aI w)] rfl ?_
    exact ⟨rfl, by omega, by omega, ⟨Or.inl ⟨(by first | exact (if_pos e1).trans (if_pos e3) | (unfold e_kStream; rw [if_pos e1, if_pos e3])), rfl⟩, rfl⟩⟩
  · refine mi_nl [(4, aR (B 3 s.toNat)), (0, aR (a0)), (1, aI s), (2, aI i), (3, aI w)] rfl ?_
    refine ⟨by omega, fun (e4 : w ≤ 14) => ?_, fun (e4 : ¬ (w ≤ 14)) => ?_⟩
    · refine ⟨by omega, fun (e5 : 8 ≤ w) => ?_, fun (e5 : ¬ (8 ≤ w)) => ?_⟩
      · refine (Decidable.em (0 ≤ i ∧ i < 256 ∧ (κ 190 (mj s i)) = 1)).elim (fun e6 => ?_) (fun e6 => ?_)
        · refine ⟨⟨_, hk_o3 hx (show s.toNat < 2 from by omega) rfl⟩, _, _, _, _, (m_receivingOfY hF htr hx hV (s := s) (i := i) rfl (by omega) (by omega) (by omega) (by omega) (show κ 190 (mj s i) = 1 from e6.2.2)), (by first | exact Nat.le_of_ble_eq_true rfl | omega), (by first | exact Nat.le_of_ble_eq_true rfl | omega), mki_ (r := some (aR (B 1 (mj s i)))) ?_, fun _ _ q => q.elim⟩
          refine ⟨⟨_, hk_o1 hx (show κ 190 (mj s i) = 1 from e6.2.2) rfl⟩, _, _, _, _, (m_rTell hF htr hx hV (s := s) (i := i) (w := w) rfl (show κ 190 (mj s i) = 1 from e6.2.2) (by omega) (by omega)), (by first | exact Nat.le_of_ble_eq_true rfl | omega), (by first | exact Nat.le_of_ble_eq_true rfl | omega), mki_ (r := some (aL (v_rTell κ s i w))) ?_, fun _ _ q => q.elim⟩
          refine mi_nl [(5, aR (B 1 (mj s i))), (4, aR (B 3 s.toNat)), (0, aR (a0)), (1, aI s), (2, aI i), (3, aI w)] rfl ?_
          exact ⟨⟨(by first | exact (if_pos e1).trans ((if_neg e3).trans ((if_pos e4).trans ((if_pos e5).trans (if_pos e6)))) | (unfold e_kStream; rw [if_pos e1, if_neg e3, if_pos e4, if_pos e5, if_pos e6])), kRetL (by first | exact (if_pos e1).trans ((if_neg e3).trans ((if_pos e4).trans ((if_pos e5).trans (if_pos e6)))) | (unfold v_kStream; rw [if_pos e1, if_neg e3, if_pos e4, if_pos e5, if_pos e6]))⟩, (by first | exact Nat.le_of_ble_eq_true rfl | omega), (by first | exact Nat.le_of_ble_eq_true rfl | omega)⟩
        · refine ⟨⟨_, hk_o3 hx (show s.toNat < 2 from by omega) rfl⟩, _, _, _, _, (m_receivingOfN hF htr hx hV (s := s) (i := i) rfl (by omega) (by omega) (by omega) (by omega) e6), (by first | exact Nat.le_of_ble_eq_true rfl | omega), (by first | exact Nat.le_of_ble_eq_true rfl | omega), mki_ (r := some aN) ?_, fun _ _ q => q.elim⟩
          refine ⟨(-1), rfl, ?_⟩
          refine mi_nl [(5, aN), (4, aR (B 3 s.toNat)), (0, aR (a0)), (1, aI s), (2, aI i), (3, aI w)] rfl ?_
          exact ⟨⟨(by first | exact (if_pos e1).trans ((if_neg e3).trans ((if_pos e4).trans ((if_pos e5).trans (if_neg e6)))) | (unfold e_kStream; rw [if_pos e1, if_neg e3, if_pos e4, if_pos e5, if_neg e6])), kRetL (by first | exact (if_pos e1).trans ((if_neg e3).trans ((if_pos e4).trans ((if_pos e5).trans (if_neg e6)))) | (unfold v_kStream; rw [if_pos e1, if_neg e3, if_pos e4, if_pos e5, if_neg e6]))⟩, (by first | exact Nat.le_of_ble_eq_true rfl | omega), (by first | exact Nat.le_of_ble_eq_true rfl | omega)⟩
      · refine (Decidable.em (0 ≤ i ∧ i < 256 ∧ (κ 290 (mj s i)) = 1)).elim (fun e7 => ?_) (fun e7 => ?_)
        · refine ⟨⟨_, hk_o3 hx (show s.toNat < 2 from by omega) rfl⟩, _, _, _, _, (m_sendingOfY hF htr hx hV (s := s) (i := i) rfl (by omega) (by omega) (by omega) (by omega) (show κ 290 (mj s i) = 1 from e7.2.2)), (by first | exact Nat.le_of_ble_eq_true rfl | omega), (by first | exact Nat.le_of_ble_eq_true rfl | omega), mki_ (r := some (aR (B 2 (mj s i)))) ?_, fun _ _ q => q.elim⟩
          refine ⟨⟨_, hk_o2 hx (show κ 290 (mj s i) = 1 from e7.2.2) rfl⟩, _, _, _, _, (m_sTell hF htr hx hV (s := s) (i := i) (w := w) rfl (show κ 290 (mj s i) = 1 from e7.2.2) (by omega) (by omega)), (by first | exact Nat.le_of_ble_eq_true rfl | omega), (by first | exact Nat.le_of_ble_eq_true rfl | omega), mki_ (r := some (aL (v_sTell κ s i w))) ?_, fun _ _ q => q.elim⟩
          refine mi_nl [(5, aR (B 2 (mj s i))), (4, aR (B 3 s.toNat)), (0, aR (a0)), (1, aI s), (2, aI i), (3, aI w)] rfl ?_
          exact ⟨⟨(by first | exact (if_pos e1).trans ((if_neg e3).trans ((if_pos e4).trans ((if_neg e5).trans (if_pos e7)))) | (unfold e_kStream; rw [if_pos e1, if_neg e3, if_pos e4, if_neg e5, if_pos e7])), kRetL (by first | exact (if_pos e1).trans ((if_neg e3).trans ((if_pos e4).trans ((if_neg e5).trans (if_pos e7)))) | (unfold v_kStream; rw [if_pos e1, if_neg e3, if_pos e4, if_neg e5, if_pos e7]))⟩, (by first | exact Nat.le_of_ble_eq_true rfl | omega), (by first | exact Nat.le_of_ble_eq_true rfl | omega)⟩
        · refine ⟨⟨_, hk_o3 hx (show s.toNat < 2 from by omega) rfl⟩, _, _, _, _, (m_sendingOfN hF htr hx hV (s := s) (i := i) rfl (by omega) (by omega) (by omega) (by omega) e7), (by first | exact Nat.le_of_ble_eq_true rfl | omega), (by first | exact Nat.le_of_ble_eq_true rfl | omega), mki_ (r := some aN) ?_, fun _ _ q => q.elim⟩
          refine ⟨(-1), rfl, ?_⟩
          refine mi_nl [(5, aN), (4, aR (B 3 s.toNat)), (0, aR (a0)), (1, aI s), (2, aI i), (3, aI w)] rfl ?_
          exact ⟨⟨(by first | exact (if_pos e1).trans ((if_neg e3).trans ((if_pos e4).trans ((if_neg e5).trans (if_neg e7)))) | (unfold e_kStream; rw [if_pos e1, if_neg e3, if_pos e4, if_neg e5, if_neg e7])), kRetL (by first | exact (if_pos e1).trans ((if_neg e3).trans ((if_pos e4).trans ((if_neg e5).trans (if_neg e7)))) | (unfold v_kStream; rw [if_pos e1, if_neg e3, if_pos e4, if_neg e5, if_neg e7]))⟩, (by first | exact Nat.le_of_ble_eq_true rfl | omega), (by first | exact Nat.le_of_ble_eq_true rfl | omega)⟩
    · exact ⟨rfl, by omega, by omega, ⟨Or.inl ⟨(by first | exact (if_pos e1).trans ((if_neg e3).trans (if_neg e4)) | (unfold e_kStream; rw [if_pos e1, if_neg e3, if_neg e4])), rfl⟩, rfl⟩⟩
def v_kSide (κ : Nat → Nat → Int) (s w : Int) : Int := (if (e_sideAt κ s) = 0 then (if w < 0 then 0 else (if w ≤ 13 then (v_kTell κ s w) else 0)) else 0)
def e_kSide (κ : Nat → Nat → Int) (s w : Int) : Int := (if (e_sideAt κ s) = 0 then (if w < 0 then 1 else (if w ≤ 13 then 0 else 1)) else (e_sideAt κ s))
set_option maxRecDepth 100000 in
theorem m_kSide (hF : mm_F G) (htr : L.stackTraces = false) (hx : kx B bx κ) (hV : kV κ) {s w : Int} {a0 : Nat} (ea0 : a0 = B 5 0) (h1 : -2147483648 ≤ s) (h1a : s < 2147483648) (h5 : -2147483648 ≤ w) (h5a : w < 2147483648) :
    mm_Met L G SX5_side [.ref a0, .int (iI s), .int (iI w)] (hk G B bx h0 κ) 2 12 (fun r h => (e_kSide κ s w) = 0 ∧ (mRet (some (.long (iL (v_kSide κ s w)))) (hk G B bx h0 κ)) r h) (kThr (hk G B bx h0 κ) (e_kSide κ s w)) := by
  refine mi_meth MX5_side 400 hF htr okX5_side (av := [aR a0, aI s, aI w]) (by decide +kernel) (Nat.le_of_ble_eq_true rfl) cmX5_side (fun θ hc => ?_)
  refine ⟨⟨_, hk_o5 hx rfl ea0⟩, _, _, _, _, (m_sideAt hF htr hx hV (s := s) ea0 (by omega) (by omega)), by omega, by omega, mkit (r := some (aR (B 3 s.toNat))) (fun e1 => ?_), fun E h1 q => kThr_up q (fun e1 => (by first | exact if_neg e1 | (unfold e_kSide; rw [if_neg e1])))⟩
  have t2 := sideAt_0 (κ := κ) (s := s) e1
  refine ⟨by omega, fun (e3 : w < 0) => ?_, fun (e3 : ¬ (w < 0)) => ?_⟩
  · refine mi_nl [(3, aR (B 3 s.toNat)), (0, aR (a0)), (1, aI s), (2, aI w)] rfl ?_
    exact ⟨rfl, by omega, by omega, ⟨Or.inl ⟨(by first | exact (if_pos e1).trans (if_pos e3) | (unfold e_kSide; rw [if_pos e1, if_pos e3])), rfl⟩, rfl⟩⟩
  · refine mi_nl [(3, aR (B 3 s.toNat)), (0, aR (a0)), (1, aI s), (2, aI w)] rfl ?_
    refine ⟨by omega, fun (e4 : w ≤ 13) => ?_, fun (e4 : ¬ (w ≤ 13)) => ?_⟩
    · refine ⟨⟨_, hk_o3 hx (show s.toNat < 2 from by omega) rfl⟩, _, _, _, _, (m_kTell hF htr hx hV (s := s) (w := w) rfl (by omega) (by omega) (by omega) (by omega)), (by first | exact Nat.le_of_ble_eq_true rfl | omega), (by first | exact Nat.le_of_ble_eq_true rfl | omega), mki_ (r := some (aL (v_kTell κ s w))) ?_, fun _ _ q => q.elim⟩
      exact ⟨⟨(by first | exact (if_pos e1).trans ((if_neg e3).trans (if_pos e4)) | (unfold e_kSide; rw [if_pos e1, if_neg e3, if_pos e4])), kRetL (by first | exact (if_pos e1).trans ((if_neg e3).trans (if_pos e4)) | (unfold v_kSide; rw [if_pos e1, if_neg e3, if_pos e4]))⟩, (by first | exact Nat.le_of_ble_eq_true rfl | omega), (by first | exact Nat.le_of_ble_eq_true rfl | omega)⟩
    · exact ⟨rfl, by omega, by omega, ⟨Or.inl ⟨(by first | exact (if_pos e1).trans ((if_neg e3).trans (if_neg e4)) | (unfold e_kSide; rw [if_pos e1, if_neg e3, if_neg e4])), rfl⟩, rfl⟩⟩
end KH
