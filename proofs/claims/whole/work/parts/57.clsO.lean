section KP2
variable {L : Launch} {G : mmG} {B B' : Nat → Nat → Nat} {bx bx' : Nat → Option (Nat × Nat)} {h0 : mmH} {κ κ' : Nat → Nat → Int}
/-- a receiving part is in order -/
def kRe (κ : Nat → Nat → Int) (s i : Int) : Prop := κ 601 (κ 101 (mj s i)).toNat = 3 ∧ κ 101 (mj s i) < κ 602 0 ∧ κ 103 (mj s i) ≤ κ 600 (κ 101 (mj s i)).toNat ∧ κ 102 (mj s i) ≤ κ 103 (mj s i) ∧ κ 313 s.toNat + (κ 103 (mj s i) - κ 102 (mj s i)) ≤ 16777216
def kRA (κ : Nat → Nat → Int) (s : Int) : Prop := ∀ i, 0 ≤ i → i < 256 → κ 190 (mj s i) = 1 → kRe κ s i
def v_handOut (κ : Nat → Nat → Int) (s i r q : Int) : Int := (if 0 ≤ i ∧ i < 256 ∧ (κ 190 (mj s i)) = 1 then (if (κ 100 (mj s i)) = 4 then -2 else (v_moveOut κ s i r q)) else -1)
def s_handOut (κ : Nat → Nat → Int) (s i r q : Int) : Nat → Nat → Int := (if 0 ≤ i ∧ i < 256 ∧ (κ 190 (mj s i)) = 1 then (if (κ 100 (mj s i)) = 4 then κ else (s_growIfOver (s_growGrant (s_growDataGrant (u2 (s_moveOut κ s i r q) 313 s.toNat ((κ 313 s.toNat) + (v_moveOut κ s i r q))) s) s i) s i)) else κ)
set_option maxRecDepth 100000 in
theorem m_handOut (hF : mm_F G) (htr : L.stackTraces = false) (hx : kx B bx κ) (hV : kV κ) {s i r q : Int} {a0 a1 : Nat} (ea0 : a0 = B 3 s.toNat) (ea1 : a1 = B 17 r.toNat) (h1 : 0 ≤ s) (h2 : s ≤ 1) (h3 : -2147483648 ≤ i) (h3a : i < 2147483648) (hr : 0 ≤ r) (ha4 : r < κ 602 0) (hk4 : κ 601 r.toNat = 2) (hl4 : 2048 ≤ κ 600 r.toNat) (hq : 0 ≤ q) (hq2 : q ≤ 2048) (hC : kRA κ s) :
    mm_Met L G SX3_handOut [.ref a0, .int (iI i), .ref a1, .int (iI q)] (hk G B bx h0 κ) 0 0 (mRetS (some (.int (iI (v_handOut κ s i r q)))) (hk G B bx h0 (s_handOut κ s i r q)) (kx B bx (s_handOut κ s i r q) ∧ kV (s_handOut κ s i r q) ∧ (fun v _ => -2 ≤ v ∧ v ≤ 2048) (v_handOut κ s i r q) (s_handOut κ s i r q))) mm_no := by
  refine mi_meth MX3_handOut 400 hF htr okX3_handOut (av := [aR a0, aI i, aR a1, aI q]) (by decide +kernel) (Nat.le_of_ble_eq_true rfl) cmX3_handOut (fun θ hc => ?_)
  refine (Decidable.em (0 ≤ i ∧ i < 256 ∧ (κ 190 (mj s i)) = 1)).elim (fun e1 => ?_) (fun e1 => ?_)
  · refine ⟨⟨_, hk_o3 hx (show s.toNat < 2 from by omega) ea0⟩, _, _, _, _, (m_receivingOfY hF htr hx hV (s := s) (i := i) ea0 (by omega) (by omega) (by omega) (by omega) (show κ 190 (mj s i) = 1 from e1.2.2)), Nat.le_refl _, Nat.le_refl _, mki_ (r := some (aR (B 1 (mj s i)))) ?_, fun _ _ q => q.elim⟩
    obtain ⟨hk3, ha3, hl3, hrr, hcon⟩ := hC _ e1.1 e1.2.1 e1.2.2
    refine ⟨_, hk_o1 hx (show κ 190 (mj s i) = 1 from e1.2.2) rfl, aI (κ 100 (mj s i)), rfl, ?_⟩
    have t2 := (show 0 ≤ κ 100 (mj s i) ∧ κ 100 (mj s i) ≤ 4 from hV.g 100 (mj s i) rfl)
    refine mi_nl [(4, aR (B 1 (mj s i))), (0, aR (a0)), (1, aI i), (2, aR (a1)), (3, aI q)] rfl ?_
    refine ⟨by omega, fun (e3 : ¬ ((κ 100 (mj s i)) = 4)) => ?_, fun (e3 : (κ 100 (mj s i)) = 4) => ?_⟩
    · refine ⟨⟨_, hk_o1 hx (show κ 190 (mj s i) = 1 from e1.2.2) rfl⟩, _, _, _, _, (m_moveOut hF htr hx hV (s := s) (i := i) (r := r) (q := q) rfl ea1 (show κ 190 (mj s i) = 1 from e1.2.2) (by omega) (by omega) (by omega) (by omega) (by omega) (by omega) (by omega) (by omega) (by omega) (by omega)), Nat.le_refl _, Nat.le_refl _, mkis_ (r := some (aI (v_moveOut κ s i r q))) (fun ⟨hx5, hV4, hp6⟩ => ?_), fun _ _ q => q.elim⟩
      have hp6 : 0 ≤ (v_moveOut κ s i r q) ∧ (v_moveOut κ s i r q) ≤ q ∧ κ 102 (mj s i) + (v_moveOut κ s i r q) ≤ κ 103 (mj s i) := hp6
      refine ⟨_, hk_o3 hx5 (show s.toNat < 2 from by omega) ea0, aI (κ 313 s.toNat), congrArg aI (show (s_moveOut κ s i r q) 313 s.toNat = (κ 313 s.toNat) from (s_moveOut_fr (by decide))), ?_⟩
      have t7 := (show 0 ≤ κ 313 s.toNat ∧ κ 313 s.toNat ≤ 16777216 from hV.g 313 s.toNat rfl)
      refine mi_nl [(5, aI (v_moveOut κ s i r q)), (4, aR (B 1 (mj s i))), (0, aR (a0)), (1, aI i), (2, aR (a1)), (3, aI q)] rfl ?_
      refine ⟨_, hk_o3 hx5 (show s.toNat < 2 from by omega) ea0, trivial, _, kp_313 hx5 (show s.toNat < 2 from by omega) (v := ((κ 313 s.toNat) + (v_moveOut κ s i r q))) ea0, ?_⟩
      have hV8 := hV4.u (f := 313) (k := s.toNat) (v := ((κ 313 s.toNat) + (v_moveOut κ s i r q))) rfl (show 0 ≤ ((κ 313 s.toNat) + (v_moveOut κ s i r q)) ∧ ((κ 313 s.toNat) + (v_moveOut κ s i r q)) ≤ 16777216 from by omega)
      have hx9 := kx_u (f := 313) (k := s.toNat) (v := ((κ 313 s.toNat) + (v_moveOut κ s i r q))) rfl hx5
      refine ⟨⟨_, hk_o3 hx9 (show s.toNat < 2 from by omega) ea0⟩, _, _, _, _, (m_growDataGrant hF htr hx9 hV8 (s := s) ea0 (by omega) (by omega)), Nat.le_refl _, Nat.le_refl _, mkis_ (r := none) (fun ⟨hx11, hV10⟩ => ?_), fun _ _ q => q.elim⟩
      refine ⟨⟨_, hk_o1 hx11 (show (s_growDataGrant (u2 (s_moveOut κ s i r q) 313 s.toNat ((κ 313 s.toNat) + (v_moveOut κ s i r q))) s) 190 (mj s i) = 1 from ((Eq.trans (s_growDataGrant_fr (by decide)) (Eq.trans (u2_f (by decide)) (s_moveOut_fr (by decide))))).trans e1.2.2) rfl⟩, _, _, _, _, (m_growGrant hF htr hx11 hV10 (s := s) (i := i) rfl (show (s_growDataGrant (u2 (s_moveOut κ s i r q) 313 s.toNat ((κ 313 s.toNat) + (v_moveOut κ s i r q))) s) 190 (mj s i) = 1 from ((Eq.trans (s_growDataGrant_fr (by decide)) (Eq.trans (u2_f (by decide)) (s_moveOut_fr (by decide))))).trans e1.2.2)), Nat.le_refl _, Nat.le_refl _, mkis_ (r := none) (fun ⟨hx13, hV12⟩ => ?_), fun _ _ q => q.elim⟩
      refine ⟨⟨_, hk_o3 hx13 (show s.toNat < 2 from by omega) ea0⟩, _, _, _, _, (m_growIfOver hF htr hx13 hV12 (s := s) (i := i) ea0 (by omega) (by omega) (by omega) (by omega)), Nat.le_refl _, Nat.le_refl _, mkis_ (r := none) (fun ⟨hx15, hV14⟩ => ?_), fun _ _ q => q.elim⟩
      exact ⟨kRetISP (P := fun v _ => -2 ≤ v ∧ v ≤ 2048) (by first | exact (if_pos e1).trans (if_neg e3) | (unfold v_handOut; rw [if_pos e1, if_neg e3])) (by first | exact (if_pos e1).trans (if_neg e3) | (unfold s_handOut; rw [if_pos e1, if_neg e3])) hx15 hV14 (show -2 ≤ (v_moveOut κ s i r q) ∧ (v_moveOut κ s i r q) ≤ 2048 from by omega), Nat.le_refl _, Nat.le_refl _⟩
    · exact ⟨kRetISP (P := fun v _ => -2 ≤ v ∧ v ≤ 2048) (by first | exact (if_pos e1).trans (if_pos e3) | (unfold v_handOut; rw [if_pos e1, if_pos e3])) (by first | exact (if_pos e1).trans (if_pos e3) | (unfold s_handOut; rw [if_pos e1, if_pos e3])) hx hV (show -2 ≤ -2 ∧ -2 ≤ 2048 from by omega), Nat.le_refl _, Nat.le_refl _⟩
  · refine ⟨⟨_, hk_o3 hx (show s.toNat < 2 from by omega) ea0⟩, _, _, _, _, (m_receivingOfN hF htr hx hV (s := s) (i := i) ea0 (by omega) (by omega) (by omega) (by omega) e1), Nat.le_refl _, Nat.le_refl _, mki_ (r := some aN) ?_, fun _ _ q => q.elim⟩
    exact ⟨kRetISP (P := fun v _ => -2 ≤ v ∧ v ≤ 2048) (by first | exact if_neg e1 | (unfold v_handOut; rw [if_neg e1])) (by first | exact if_neg e1 | (unfold s_handOut; rw [if_neg e1])) hx hV (show -2 ≤ -1 ∧ -1 ≤ 2048 from by omega), Nat.le_refl _, Nat.le_refl _⟩
set_option maxRecDepth 100000 in
theorem s_handOut_fr {f kk : Nat} {s i r q : Int} (hf : (Nat.blt f 1000 && !([100, 102, 107, 108, 113, 313, 314, 315, 360, 405].elem f)) = true) : s_handOut κ s i r q f kk = κ f kk := by
  have n100 : f ≠ 100 := by rintro rfl; exact absurd hf (by decide)
  have n102 : f ≠ 102 := by rintro rfl; exact absurd hf (by decide)
  have n107 : f ≠ 107 := by rintro rfl; exact absurd hf (by decide)
  have n108 : f ≠ 108 := by rintro rfl; exact absurd hf (by decide)
  have n113 : f ≠ 113 := by rintro rfl; exact absurd hf (by decide)
  have n313 : f ≠ 313 := by rintro rfl; exact absurd hf (by decide)
  have n314 : f ≠ 314 := by rintro rfl; exact absurd hf (by decide)
  have n315 : f ≠ 315 := by rintro rfl; exact absurd hf (by decide)
  have n360 : f ≠ 360 := by rintro rfl; exact absurd hf (by decide)
  have n405 : f ≠ 405 := by rintro rfl; exact absurd hf (by decide)
  have lt : f < 1000 := Nat.le_of_ble_eq_true (Bool.and_eq_true_iff.mp hf).1
  have f100 : ∀ (m : Nat → Nat → Int) (a b : Nat) (v : Int), u2 m 100 a v f b = m f b := fun m a b v => u2_f n100
  have f102 : ∀ (m : Nat → Nat → Int) (a b : Nat) (v : Int), u2 m 102 a v f b = m f b := fun m a b v => u2_f n102
  have f107 : ∀ (m : Nat → Nat → Int) (a b : Nat) (v : Int), u2 m 107 a v f b = m f b := fun m a b v => u2_f n107
  have f108 : ∀ (m : Nat → Nat → Int) (a b : Nat) (v : Int), u2 m 108 a v f b = m f b := fun m a b v => u2_f n108
  have f113 : ∀ (m : Nat → Nat → Int) (a b : Nat) (v : Int), u2 m 113 a v f b = m f b := fun m a b v => u2_f n113
  have f313 : ∀ (m : Nat → Nat → Int) (a b : Nat) (v : Int), u2 m 313 a v f b = m f b := fun m a b v => u2_f n313
  have f314 : ∀ (m : Nat → Nat → Int) (a b : Nat) (v : Int), u2 m 314 a v f b = m f b := fun m a b v => u2_f n314
  have f315 : ∀ (m : Nat → Nat → Int) (a b : Nat) (v : Int), u2 m 315 a v f b = m f b := fun m a b v => u2_f n315
  have f360 : ∀ (m : Nat → Nat → Int) (a b : Nat) (v : Int), u2 m 360 a v f b = m f b := fun m a b v => u2_f n360
  have f405 : ∀ (m : Nat → Nat → Int) (a b : Nat) (v : Int), u2 m 405 a v f b = m f b := fun m a b v => u2_f n405
  have fw : ∀ (m : Nat → Nat → Int) (r a b : Nat) (v : Int), u2 m (1000 + r) a v f b = m f b := fun m r a b v => u2_f (by omega)
  have c_growDataGrant : ∀ (m : Nat → Nat → Int) (z_s : Int) (k : Nat), s_growDataGrant m z_s f k = m f k := by intros; exact s_growDataGrant_fr (by simp only [List.elem_cons, List.elem_nil, beq_eq_false_iff_ne.mpr n314, beq_eq_false_iff_ne.mpr n315]; rfl)
  have c_growGrant : ∀ (m : Nat → Nat → Int) (z_s z_i : Int) (k : Nat), s_growGrant m z_s z_i f k = m f k := by intros; exact s_growGrant_fr (by simp only [List.elem_cons, List.elem_nil, beq_eq_false_iff_ne.mpr n107, beq_eq_false_iff_ne.mpr n108]; rfl)
  have c_growIfOver : ∀ (m : Nat → Nat → Int) (z_s z_i : Int) (k : Nat), s_growIfOver m z_s z_i f k = m f k := by intros; exact s_growIfOver_fr (by simp only [List.elem_cons, List.elem_nil, beq_eq_false_iff_ne.mpr n113, beq_eq_false_iff_ne.mpr n360, beq_eq_false_iff_ne.mpr n405]; rfl)
  have c_moveOut : ∀ (m : Nat → Nat → Int) (z_s z_i z_r z_q : Int) (k : Nat), s_moveOut m z_s z_i z_r z_q f k = m f k := by intros; exact s_moveOut_fr (Bool.and_eq_true_iff.mpr ⟨Nat.ble_eq_true_of_le lt, by simp only [List.elem_cons, List.elem_nil, beq_eq_false_iff_ne.mpr n100, beq_eq_false_iff_ne.mpr n102]; rfl⟩)
  unfold s_handOut
  repeat' with_reducible apply f_ite
  all_goals first | rfl | simp only [f100, f102, f107, f108, f113, f313, f314, f315, f360, f405, fw, c_growDataGrant, c_growGrant, c_growIfOver, c_moveOut]
def v_kRead (κ : Nat → Nat → Int) (s i q : Int) : Int := (if (e_sideAt κ s) = 0 then (if q < 0 then 0 else (if q ≤ 2048 then (v_handOut κ s i 1 q) else 0)) else 0)
def s_kRead (κ : Nat → Nat → Int) (s i q : Int) : Nat → Nat → Int := (if (e_sideAt κ s) = 0 then (if q < 0 then κ else (if q ≤ 2048 then (u2 (s_handOut κ s i 1 q) 506 0 (v_maxI (v_handOut κ s i 1 q) 0)) else κ)) else κ)
def e_kRead (κ : Nat → Nat → Int) (s i q : Int) : Int := (if (e_sideAt κ s) = 0 then (if q < 0 then 1 else (if q ≤ 2048 then 0 else 1)) else (e_sideAt κ s))
set_option maxRecDepth 100000 in
theorem m_kRead (hF : mm_F G) (htr : L.stackTraces = false) (hx : kx B bx κ) (hV : kV κ) {s i q : Int} {a0 : Nat} (ea0 : a0 = B 5 0) (h1 : -2147483648 ≤ s) (h1a : s < 2147483648) (h3 : -2147483648 ≤ i) (h3a : i < 2147483648) (h5 : -2147483648 ≤ q) (h5a : q < 2147483648) (ha4 : 1 < κ 602 0) (hk4 : κ 601 1 = 2) (hl4 : 2048 ≤ κ 600 1) (hC : ∀ s, 0 ≤ s → s ≤ 1 → kRA κ s) :
    mm_Met L G SX5_read [.ref a0, .int (iI s), .int (iI i), .int (iI q)] (hk G B bx h0 κ) 2 12 (fun r h => (e_kRead κ s i q) = 0 ∧ (mRetS (some (.int (iI (v_kRead κ s i q)))) (hk G B bx h0 (s_kRead κ s i q)) (kx B bx (s_kRead κ s i q) ∧ kV (s_kRead κ s i q) ∧ (fun v _ => -100 ≤ v ∧ v ≤ 70000) (v_kRead κ s i q) (s_kRead κ s i q))) r h) (kThr (hk G B bx h0 κ) (e_kRead κ s i q)) := by
  refine mi_meth MX5_read 400 hF htr okX5_read (av := [aR a0, aI s, aI i, aI q]) (by decide +kernel) (Nat.le_of_ble_eq_true rfl) cmX5_read (fun θ hc => ?_)
  refine ⟨⟨_, hk_o5 hx rfl ea0⟩, _, _, _, _, (m_sideAt hF htr hx hV (s := s) ea0 (by omega) (by omega)), by omega, by omega, mkit (r := some (aR (B 3 s.toNat))) (fun e1 => ?_), fun E h1 q => kThr_up q (fun e1 => (by first | exact if_neg e1 | (unfold e_kRead; rw [if_neg e1])))⟩
  have t2 := sideAt_0 (κ := κ) (s := s) e1
  refine ⟨by omega, fun (e3 : q < 0) => ?_, fun (e3 : ¬ (q < 0)) => ?_⟩
  · refine mi_nl [(4, aR (B 3 s.toNat)), (0, aR (a0)), (1, aI s), (2, aI i), (3, aI q)] rfl ?_
    exact ⟨rfl, by omega, by omega, ⟨Or.inl ⟨(by first | exact (if_pos e1).trans (if_pos e3) | (unfold e_kRead; rw [if_pos e1, if_pos e3])), rfl⟩, rfl⟩⟩
  · refine mi_nl [(4, aR (B 3 s.toNat)), (0, aR (a0)), (1, aI s), (2, aI i), (3, aI q)] rfl ?_
    refine ⟨by omega, fun (e4 : q ≤ 2048) => ?_, fun (e4 : ¬ (q ≤ 2048)) => ?_⟩
    · refine ⟨_, hk_o5 hx rfl ea0, aR (B 17 1), rfl, ?_⟩
      refine ⟨⟨_, hk_o3 hx (show s.toNat < 2 from by omega) rfl⟩, _, _, _, _, (m_handOut hF htr hx hV (s := s) (i := i) (r := 1) (q := q) rfl rfl (by omega) (by omega) (by omega) (by omega) (by omega) (by omega) (show κ 601 1 = 2 from by omega) (show 2048 ≤ κ 600 1 from by omega) (by omega) (by omega) (hC _ (by omega) (by omega))), (by first | exact Nat.le_of_ble_eq_true rfl | omega), (by first | exact Nat.le_of_ble_eq_true rfl | omega), mkis_ (r := some (aI (v_handOut κ s i 1 q))) (fun ⟨hx6, hV5, hp7⟩ => ?_), fun _ _ q => q.elim⟩
      have hp7 : -2 ≤ (v_handOut κ s i 1 q) ∧ (v_handOut κ s i 1 q) ≤ 2048 := hp7
      refine ⟨_, _, _, _, (m_maxI hF htr hx6 hV5 (a := (v_handOut κ s i 1 q)) (b := 0) (by omega) (by omega) (by omega) (by omega)), (by first | exact Nat.le_of_ble_eq_true rfl | omega), (by first | exact Nat.le_of_ble_eq_true rfl | omega), mki_ (r := some (aI (v_maxI (v_handOut κ s i 1 q) 0))) ?_, fun _ _ q => q.elim⟩
      have t8 := maxI_b (v_handOut κ s i 1 q) 0
      refine mi_nl [(5, aI (v_handOut κ s i 1 q)), (4, aR (B 3 s.toNat)), (0, aR (a0)), (1, aI s), (2, aI i), (3, aI q)] rfl ?_
      refine ⟨_, hk_o5 hx6 rfl ea0, trivial, _, kp_506 hx6 rfl (v := (v_maxI (v_handOut κ s i 1 q) 0)) ea0, ?_⟩
      have hV9 := hV5.u (f := 506) (k := 0) (v := (v_maxI (v_handOut κ s i 1 q) 0)) rfl (show 0 ≤ (v_maxI (v_handOut κ s i 1 q) 0) ∧ (v_maxI (v_handOut κ s i 1 q) 0) ≤ 2048 from by omega)
      have hx10 := kx_u (f := 506) (k := 0) (v := (v_maxI (v_handOut κ s i 1 q) 0)) rfl hx6
      exact ⟨⟨(by first | exact (if_pos e1).trans ((if_neg e3).trans (if_pos e4)) | (unfold e_kRead; rw [if_pos e1, if_neg e3, if_pos e4])), kRetISP (P := fun v _ => -100 ≤ v ∧ v ≤ 70000) (by first | exact (if_pos e1).trans ((if_neg e3).trans (if_pos e4)) | (unfold v_kRead; rw [if_pos e1, if_neg e3, if_pos e4])) (by first | exact (if_pos e1).trans ((if_neg e3).trans (if_pos e4)) | (unfold s_kRead; rw [if_pos e1, if_neg e3, if_pos e4])) hx10 hV9 (show -100 ≤ (v_handOut κ s i 1 q) ∧ (v_handOut κ s i 1 q) ≤ 70000 from by omega)⟩, (by first | exact Nat.le_of_ble_eq_true rfl | omega), (by first | exact Nat.le_of_ble_eq_true rfl | omega)⟩
    · exact ⟨rfl, by omega, by omega, ⟨Or.inl ⟨(by first | exact (if_pos e1).trans ((if_neg e3).trans (if_neg e4)) | (unfold e_kRead; rw [if_pos e1, if_neg e3, if_neg e4])), rfl⟩, rfl⟩⟩
set_option maxRecDepth 100000 in
theorem s_kRead_fr {f kk : Nat} {s i q : Int} (hf : (Nat.blt f 1000 && !([100, 102, 107, 108, 113, 313, 314, 315, 360, 405, 506].elem f)) = true) : s_kRead κ s i q f kk = κ f kk := by
  have n100 : f ≠ 100 := by rintro rfl; exact absurd hf (by decide)
  have n102 : f ≠ 102 := by rintro rfl; exact absurd hf (by decide)
  have n107 : f ≠ 107 := by rintro rfl; exact absurd hf (by decide)
  have n108 : f ≠ 108 := by rintro rfl; exact absurd hf (by decide)
  have n113 : f ≠ 113 := by rintro rfl; exact absurd hf (by decide)
  have n313 : f ≠ 313 := by rintro rfl; exact absurd hf (by decide)
  have n314 : f ≠ 314 := by rintro rfl; exact absurd hf (by decide)
  have n315 : f ≠ 315 := by rintro rfl; exact absurd hf (by decide)
  have n360 : f ≠ 360 := by rintro rfl; exact absurd hf (by decide)
  have n405 : f ≠ 405 := by rintro rfl; exact absurd hf (by decide)
  have n506 : f ≠ 506 := by rintro rfl; exact absurd hf (by decide)
  have lt : f < 1000 := Nat.le_of_ble_eq_true (Bool.and_eq_true_iff.mp hf).1
  have f100 : ∀ (m : Nat → Nat → Int) (a b : Nat) (v : Int), u2 m 100 a v f b = m f b := fun m a b v => u2_f n100
  have f102 : ∀ (m : Nat → Nat → Int) (a b : Nat) (v : Int), u2 m 102 a v f b = m f b := fun m a b v => u2_f n102
  have f107 : ∀ (m : Nat → Nat → Int) (a b : Nat) (v : Int), u2 m 107 a v f b = m f b := fun m a b v => u2_f n107
  have f108 : ∀ (m : Nat → Nat → Int) (a b : Nat) (v : Int), u2 m 108 a v f b = m f b := fun m a b v => u2_f n108
  have f113 : ∀ (m : Nat → Nat → Int) (a b : Nat) (v : Int), u2 m 113 a v f b = m f b := fun m a b v => u2_f n113
  have f313 : ∀ (m : Nat → Nat → Int) (a b : Nat) (v : Int), u2 m 313 a v f b = m f b := fun m a b v => u2_f n313
  have f314 : ∀ (m : Nat → Nat → Int) (a b : Nat) (v : Int), u2 m 314 a v f b = m f b := fun m a b v => u2_f n314
  have f315 : ∀ (m : Nat → Nat → Int) (a b : Nat) (v : Int), u2 m 315 a v f b = m f b := fun m a b v => u2_f n315
  have f360 : ∀ (m : Nat → Nat → Int) (a b : Nat) (v : Int), u2 m 360 a v f b = m f b := fun m a b v => u2_f n360
  have f405 : ∀ (m : Nat → Nat → Int) (a b : Nat) (v : Int), u2 m 405 a v f b = m f b := fun m a b v => u2_f n405
  have f506 : ∀ (m : Nat → Nat → Int) (a b : Nat) (v : Int), u2 m 506 a v f b = m f b := fun m a b v => u2_f n506
  have fw : ∀ (m : Nat → Nat → Int) (r a b : Nat) (v : Int), u2 m (1000 + r) a v f b = m f b := fun m r a b v => u2_f (by omega)
  have c_handOut : ∀ (m : Nat → Nat → Int) (z_s z_i z_r z_q : Int) (k : Nat), s_handOut m z_s z_i z_r z_q f k = m f k := by intros; exact s_handOut_fr (Bool.and_eq_true_iff.mpr ⟨Nat.ble_eq_true_of_le lt, by simp only [List.elem_cons, List.elem_nil, beq_eq_false_iff_ne.mpr n100, beq_eq_false_iff_ne.mpr n102, beq_eq_false_iff_ne.mpr n107, beq_eq_false_iff_ne.mpr n108, beq_eq_false_iff_ne.mpr n113, beq_eq_false_iff_ne.mpr n313, beq_eq_false_iff_ne.mpr n314, beq_eq_false_iff_ne.mpr n315, beq_eq_false_iff_ne.mpr n360, beq_eq_false_iff_ne.mpr n405]; rfl⟩)
  unfold s_kRead
  repeat' with_reducible apply f_ite
  all_goals first | rfl | simp only [f100, f102, f107, f108, f113, f313, f314, f315, f360, f405, f506, fw, c_handOut]
def v_kFill (κ : Nat → Nat → Int) (s m : Int) : Int := (if (e_sideAt κ s) = 0 then (if m < 1 then 0 else (if m ≤ 1200 then (if (e_needJoined κ) = 0 then (if (v_leastFreePlace κ) = 64 then 0 else (if (v_fillNext κ s (v_leastFreePlace κ) m) = 0 then -1 else (v_leastFreePlace κ))) else 0) else 0)) else 0)
def s_kFill (κ : Nat → Nat → Int) (s m : Int) : Nat → Nat → Int := (if (e_sideAt κ s) = 0 then (if m < 1 then κ else (if m ≤ 1200 then (if (e_needJoined κ) = 0 then (if (v_leastFreePlace κ) = 64 then κ else (if (v_fillNext κ s (v_leastFreePlace κ) m) = 0 then (s_fillNext κ s (v_leastFreePlace κ) m) else (u2 (u2 (u2 (s_fillNext κ s (v_leastFreePlace κ) m) 0 (v_leastFreePlace κ).toNat 1) 1 (v_leastFreePlace κ).toNat 0) 2 (v_leastFreePlace κ).toNat s))) else κ) else κ)) else κ)
def e_kFill (κ : Nat → Nat → Int) (s m : Int) : Int := (if (e_sideAt κ s) = 0 then (if m < 1 then 1 else (if m ≤ 1200 then (if (e_needJoined κ) = 0 then (if (v_leastFreePlace κ) = 64 then 2 else (if (v_fillNext κ s (v_leastFreePlace κ) m) = 0 then 0 else 0)) else (e_needJoined κ)) else 1)) else (e_sideAt κ s))
set_option maxRecDepth 100000 in
theorem m_kFill (hF : mm_F G) (htr : L.stackTraces = false) (hx : kx B bx κ) (hV : kV κ) {s m : Int} {a0 : Nat} (ea0 : a0 = B 5 0) (h1 : -2147483648 ≤ s) (h1a : s < 2147483648) (h3 : -2147483648 ≤ m) (h3a : m < 2147483648) (hS : ∀ s, 0 ≤ s → s ≤ 1 → kSA κ s) (hlf0 : κ 307 0 < κ 306 0 ∨ κ 306 0 = 0) (hlf1 : κ 307 1 < κ 306 1 ∨ κ 306 1 = 0) :
    mm_Met L G SX5_fill [.ref a0, .int (iI s), .int (iI m)] (hk G B bx h0 κ) 4 24 (fun r h => (e_kFill κ s m) = 0 ∧ (mRetS (some (.int (iI (v_kFill κ s m)))) (hk G B bx h0 (s_kFill κ s m)) (kx B bx (s_kFill κ s m) ∧ kV (s_kFill κ s m) ∧ (fun v _ => -100 ≤ v ∧ v ≤ 70000) (v_kFill κ s m) (s_kFill κ s m))) r h) (kThr (hk G B bx h0 κ) (e_kFill κ s m)) := by
  refine mi_meth MX5_fill 400 hF htr okX5_fill (av := [aR a0, aI s, aI m]) (by decide +kernel) (Nat.le_of_ble_eq_true rfl) cmX5_fill (fun θ hc => ?_)
  have hlf : (0 ≤ s ∧ s ≤ 1) → (κ 307 s.toNat < κ 306 s.toNat ∨ κ 306 s.toNat = 0) := fun z => (show s = 0 ∨ s = 1 by omega).elim (fun e => by rw [e]; exact hlf0) (fun e => by rw [e]; exact hlf1)
  refine ⟨⟨_, hk_o5 hx rfl ea0⟩, _, _, _, _, (m_sideAt hF htr hx hV (s := s) ea0 (by omega) (by omega)), by omega, by omega, mkit (r := some (aR (B 3 s.toNat))) (fun e1 => ?_), fun E h1 q => kThr_up q (fun e1 => (by first | exact if_neg e1 | (unfold e_kFill; rw [if_neg e1])))⟩
  have t2 := sideAt_0 (κ := κ) (s := s) e1
  refine ⟨by omega, fun (e3 : m < 1) => ?_, fun (e3 : ¬ (m < 1)) => ?_⟩
  · refine mi_nl [(3, aR (B 3 s.toNat)), (0, aR (a0)), (1, aI s), (2, aI m)] rfl ?_
    exact ⟨rfl, by omega, by omega, ⟨Or.inl ⟨(by first | exact (if_pos e1).trans (if_pos e3) | (unfold e_kFill; rw [if_pos e1, if_pos e3])), rfl⟩, rfl⟩⟩
  · refine mi_nl [(3, aR (B 3 s.toNat)), (0, aR (a0)), (1, aI s), (2, aI m)] rfl ?_
    refine ⟨by omega, fun (e4 : m ≤ 1200) => ?_, fun (e4 : ¬ (m ≤ 1200)) => ?_⟩
    · refine ⟨⟨_, hk_o5 hx rfl ea0⟩, _, _, _, _, (m_needJoined hF htr hx hV ea0), by omega, by omega, mkit (r := none) (fun e5 => ?_), fun E h1 q => kThr_up q (fun e5 => (by first | exact (if_pos e1).trans ((if_neg e3).trans ((if_pos e4).trans (if_neg e5))) | (unfold e_kFill; rw [if_pos e1, if_neg e3, if_pos e4, if_neg e5])))⟩
      refine ⟨⟨_, hk_o5 hx rfl ea0⟩, _, _, _, _, (m_leastFreePlace hF htr hx hV ea0), (by first | exact Nat.le_of_ble_eq_true rfl | omega), (by first | exact Nat.le_of_ble_eq_true rfl | omega), mki_ (r := some (aI (v_leastFreePlace κ))) ?_, fun _ _ q => q.elim⟩
      have t6 := leastFree_b (κ := κ)
      refine ⟨by omega, fun (e7 : ¬ ((v_leastFreePlace κ) = 64)) => ?_, fun (e7 : (v_leastFreePlace κ) = 64) => ?_⟩
      · refine mi_nl [(4, aI (v_leastFreePlace κ)), (3, aR (B 3 s.toNat)), (0, aR (a0)), (1, aI s), (2, aI m)] rfl ?_
        refine ⟨_, hk_o5 hx rfl ea0, aR (B 11 0), rfl, ?_⟩
        refine ⟨64, _, some (B 0 (v_leastFreePlace κ).toNat), hk_places hx rfl, by omega, ka_0 (i := (v_leastFreePlace κ)) (by omega) (by omega), ?_⟩
        refine ⟨⟨_, hk_o3 hx (show s.toNat < 2 from by omega) rfl⟩, _, _, _, _, (m_fillNext hF htr hx hV (s := s) (p := (v_leastFreePlace κ)) (m := m) rfl rfl (by omega) (by omega) (by omega) (by omega) (by omega) (by omega) (hS _ (by omega) (by omega)) (by omega)), (by first | exact Nat.le_of_ble_eq_true rfl | omega), (by first | exact Nat.le_of_ble_eq_true rfl | omega), mkis_ (r := some (aI (v_fillNext κ s (v_leastFreePlace κ) m))) (fun ⟨hx9, hV8, hp10⟩ => ?_), fun _ _ q => q.elim⟩
        have hp10 : (v_fillNext κ s (v_leastFreePlace κ) m) = 0 ∨ (v_fillNext κ s (v_leastFreePlace κ) m) = 1 := hp10
        refine mi_nl [(5, aR (B 0 (v_leastFreePlace κ).toNat)), (4, aI (v_leastFreePlace κ)), (3, aR (B 3 s.toNat)), (0, aR (a0)), (1, aI s), (2, aI m)] rfl ?_
        refine ⟨by omega, fun (e11 : ¬ ((v_fillNext κ s (v_leastFreePlace κ) m) = 0)) => ?_, fun (e11 : (v_fillNext κ s (v_leastFreePlace κ) m) = 0) => ?_⟩
        · refine ⟨_, hk_o0 hx9 (show (v_leastFreePlace κ).toNat < 65 from by omega) rfl, (show 1 = 0 ∨ 1 = 1 from by omega), _, kp_0 hx9 (show (v_leastFreePlace κ).toNat < 65 from by omega) (v := 1) rfl, ?_⟩
          have hV12 := hV8.u (f := 0) (k := (v_leastFreePlace κ).toNat) (v := 1) rfl (show 0 ≤ 1 ∧ 1 ≤ 1 from by omega)
          have hx13 := kx_u (f := 0) (k := (v_leastFreePlace κ).toNat) (v := 1) rfl hx9
          refine ⟨_, hk_o0 hx13 (show (v_leastFreePlace κ).toNat < 65 from by omega) rfl, (show 0 = 0 ∨ 0 = 1 from by omega), _, kp_1 hx13 (show (v_leastFreePlace κ).toNat < 65 from by omega) (v := 0) rfl, ?_⟩
          have hV14 := hV12.u (f := 1) (k := (v_leastFreePlace κ).toNat) (v := 0) rfl (show 0 ≤ 0 ∧ 0 ≤ 1 from by omega)
          have hx15 := kx_u (f := 1) (k := (v_leastFreePlace κ).toNat) (v := 0) rfl hx13
          refine ⟨_, hk_o0 hx15 (show (v_leastFreePlace κ).toNat < 65 from by omega) rfl, trivial, _, kp_2 hx15 (show (v_leastFreePlace κ).toNat < 65 from by omega) (v := s) rfl, ?_⟩
          have hV16 := hV14.u (f := 2) (k := (v_leastFreePlace κ).toNat) (v := s) rfl (show 0 ≤ s ∧ s ≤ 1 from by omega)
          have hx17 := kx_u (f := 2) (k := (v_leastFreePlace κ).toNat) (v := s) rfl hx15
          exact ⟨⟨(by first | exact (if_pos e1).trans ((if_neg e3).trans ((if_pos e4).trans ((if_pos e5).trans ((if_neg e7).trans (if_neg e11))))) | (unfold e_kFill; rw [if_pos e1, if_neg e3, if_pos e4, if_pos e5, if_neg e7, if_neg e11])), kRetISP (P := fun v _ => -100 ≤ v ∧ v ≤ 70000) (by first | exact (if_pos e1).trans ((if_neg e3).trans ((if_pos e4).trans ((if_pos e5).trans ((if_neg e7).trans (if_neg e11))))) | (unfold v_kFill; rw [if_pos e1, if_neg e3, if_pos e4, if_pos e5, if_neg e7, if_neg e11])) (by first | exact (if_pos e1).trans ((if_neg e3).trans ((if_pos e4).trans ((if_pos e5).trans ((if_neg e7).trans (if_neg e11))))) | (unfold s_kFill; rw [if_pos e1, if_neg e3, if_pos e4, if_pos e5, if_neg e7, if_neg e11])) hx17 hV16 (show -100 ≤ (v_leastFreePlace κ) ∧ (v_leastFreePlace κ) ≤ 70000 from by omega)⟩, (by first | exact Nat.le_of_ble_eq_true rfl | omega), (by first | exact Nat.le_of_ble_eq_true rfl | omega)⟩
        · exact ⟨⟨(by first | exact (if_pos e1).trans ((if_neg e3).trans ((if_pos e4).trans ((if_pos e5).trans ((if_neg e7).trans (if_pos e11))))) | (unfold e_kFill; rw [if_pos e1, if_neg e3, if_pos e4, if_pos e5, if_neg e7, if_pos e11])), kRetISP (P := fun v _ => -100 ≤ v ∧ v ≤ 70000) (by first | exact (if_pos e1).trans ((if_neg e3).trans ((if_pos e4).trans ((if_pos e5).trans ((if_neg e7).trans (if_pos e11))))) | (unfold v_kFill; rw [if_pos e1, if_neg e3, if_pos e4, if_pos e5, if_neg e7, if_pos e11])) (by first | exact (if_pos e1).trans ((if_neg e3).trans ((if_pos e4).trans ((if_pos e5).trans ((if_neg e7).trans (if_pos e11))))) | (unfold s_kFill; rw [if_pos e1, if_neg e3, if_pos e4, if_pos e5, if_neg e7, if_pos e11])) hx9 hV8 (show -100 ≤ -1 ∧ -1 ≤ 70000 from by omega)⟩, (by first | exact Nat.le_of_ble_eq_true rfl | omega), (by first | exact Nat.le_of_ble_eq_true rfl | omega)⟩
      · refine mi_nl [(4, aI (v_leastFreePlace κ)), (3, aR (B 3 s.toNat)), (0, aR (a0)), (1, aI s), (2, aI m)] rfl ?_
        exact ⟨rfl, by omega, by omega, ⟨Or.inr (Or.inl ⟨(by first | exact (if_pos e1).trans ((if_neg e3).trans ((if_pos e4).trans ((if_pos e5).trans (if_pos e7)))) | (unfold e_kFill; rw [if_pos e1, if_neg e3, if_pos e4, if_pos e5, if_pos e7])), rfl⟩), rfl⟩⟩
    · exact ⟨rfl, by omega, by omega, ⟨Or.inl ⟨(by first | exact (if_pos e1).trans ((if_neg e3).trans (if_neg e4)) | (unfold e_kFill; rw [if_pos e1, if_neg e3, if_neg e4])), rfl⟩, rfl⟩⟩
set_option maxRecDepth 100000 in
theorem s_kFill_fr {f kk : Nat} {s m : Int} (hf : (Nat.blt f 1000 && !([0, 1, 2, 3, 4, 5, 6, 7, 8, 9, 10, 108, 110, 204, 205, 207, 209, 211, 307, 309, 311, 315, 403, 405].elem f)) = true) : s_kFill κ s m f kk = κ f kk := by
  have n0 : f ≠ 0 := by rintro rfl; exact absurd hf (by decide)
  have n1 : f ≠ 1 := by rintro rfl; exact absurd hf (by decide)
  have n2 : f ≠ 2 := by rintro rfl; exact absurd hf (by decide)
  have n3 : f ≠ 3 := by rintro rfl; exact absurd hf (by decide)
  have n4 : f ≠ 4 := by rintro rfl; exact absurd hf (by decide)
  have n5 : f ≠ 5 := by rintro rfl; exact absurd hf (by decide)
  have n6 : f ≠ 6 := by rintro rfl; exact absurd hf (by decide)
  have n7 : f ≠ 7 := by rintro rfl; exact absurd hf (by decide)
  have n8 : f ≠ 8 := by rintro rfl; exact absurd hf (by decide)
  have n9 : f ≠ 9 := by rintro rfl; exact absurd hf (by decide)
  have n10 : f ≠ 10 := by rintro rfl; exact absurd hf (by decide)
  have n108 : f ≠ 108 := by rintro rfl; exact absurd hf (by decide)
  have n110 : f ≠ 110 := by rintro rfl; exact absurd hf (by decide)
  have n204 : f ≠ 204 := by rintro rfl; exact absurd hf (by decide)
  have n205 : f ≠ 205 := by rintro rfl; exact absurd hf (by decide)
  have n207 : f ≠ 207 := by rintro rfl; exact absurd hf (by decide)
  have n209 : f ≠ 209 := by rintro rfl; exact absurd hf (by decide)
  have n211 : f ≠ 211 := by rintro rfl; exact absurd hf (by decide)
  have n307 : f ≠ 307 := by rintro rfl; exact absurd hf (by decide)
  have n309 : f ≠ 309 := by rintro rfl; exact absurd hf (by decide)
  have n311 : f ≠ 311 := by rintro rfl; exact absurd hf (by decide)
  have n315 : f ≠ 315 := by rintro rfl; exact absurd hf (by decide)
  have n403 : f ≠ 403 := by rintro rfl; exact absurd hf (by decide)
  have n405 : f ≠ 405 := by rintro rfl; exact absurd hf (by decide)
  have lt : f < 1000 := Nat.le_of_ble_eq_true (Bool.and_eq_true_iff.mp hf).1
  have f0 : ∀ (m : Nat → Nat → Int) (a b : Nat) (v : Int), u2 m 0 a v f b = m f b := fun m a b v => u2_f n0
  have f1 : ∀ (m : Nat → Nat → Int) (a b : Nat) (v : Int), u2 m 1 a v f b = m f b := fun m a b v => u2_f n1
  have f2 : ∀ (m : Nat → Nat → Int) (a b : Nat) (v : Int), u2 m 2 a v f b = m f b := fun m a b v => u2_f n2
  have f3 : ∀ (m : Nat → Nat → Int) (a b : Nat) (v : Int), u2 m 3 a v f b = m f b := fun m a b v => u2_f n3
  have f4 : ∀ (m : Nat → Nat → Int) (a b : Nat) (v : Int), u2 m 4 a v f b = m f b := fun m a b v => u2_f n4
  have f5 : ∀ (m : Nat → Nat → Int) (a b : Nat) (v : Int), u2 m 5 a v f b = m f b := fun m a b v => u2_f n5
  have f6 : ∀ (m : Nat → Nat → Int) (a b : Nat) (v : Int), u2 m 6 a v f b = m f b := fun m a b v => u2_f n6
  have f7 : ∀ (m : Nat → Nat → Int) (a b : Nat) (v : Int), u2 m 7 a v f b = m f b := fun m a b v => u2_f n7
  have f8 : ∀ (m : Nat → Nat → Int) (a b : Nat) (v : Int), u2 m 8 a v f b = m f b := fun m a b v => u2_f n8
  have f9 : ∀ (m : Nat → Nat → Int) (a b : Nat) (v : Int), u2 m 9 a v f b = m f b := fun m a b v => u2_f n9
  have f10 : ∀ (m : Nat → Nat → Int) (a b : Nat) (v : Int), u2 m 10 a v f b = m f b := fun m a b v => u2_f n10
  have f108 : ∀ (m : Nat → Nat → Int) (a b : Nat) (v : Int), u2 m 108 a v f b = m f b := fun m a b v => u2_f n108
  have f110 : ∀ (m : Nat → Nat → Int) (a b : Nat) (v : Int), u2 m 110 a v f b = m f b := fun m a b v => u2_f n110
  have f204 : ∀ (m : Nat → Nat → Int) (a b : Nat) (v : Int), u2 m 204 a v f b = m f b := fun m a b v => u2_f n204
  have f205 : ∀ (m : Nat → Nat → Int) (a b : Nat) (v : Int), u2 m 205 a v f b = m f b := fun m a b v => u2_f n205
  have f207 : ∀ (m : Nat → Nat → Int) (a b : Nat) (v : Int), u2 m 207 a v f b = m f b := fun m a b v => u2_f n207
  have f209 : ∀ (m : Nat → Nat → Int) (a b : Nat) (v : Int), u2 m 209 a v f b = m f b := fun m a b v => u2_f n209
  have f211 : ∀ (m : Nat → Nat → Int) (a b : Nat) (v : Int), u2 m 211 a v f b = m f b := fun m a b v => u2_f n211
  have f307 : ∀ (m : Nat → Nat → Int) (a b : Nat) (v : Int), u2 m 307 a v f b = m f b := fun m a b v => u2_f n307
  have f309 : ∀ (m : Nat → Nat → Int) (a b : Nat) (v : Int), u2 m 309 a v f b = m f b := fun m a b v => u2_f n309
  have f311 : ∀ (m : Nat → Nat → Int) (a b : Nat) (v : Int), u2 m 311 a v f b = m f b := fun m a b v => u2_f n311
  have f315 : ∀ (m : Nat → Nat → Int) (a b : Nat) (v : Int), u2 m 315 a v f b = m f b := fun m a b v => u2_f n315
  have f403 : ∀ (m : Nat → Nat → Int) (a b : Nat) (v : Int), u2 m 403 a v f b = m f b := fun m a b v => u2_f n403
  have f405 : ∀ (m : Nat → Nat → Int) (a b : Nat) (v : Int), u2 m 405 a v f b = m f b := fun m a b v => u2_f n405
  have fw : ∀ (m : Nat → Nat → Int) (r a b : Nat) (v : Int), u2 m (1000 + r) a v f b = m f b := fun m r a b v => u2_f (by omega)
  have c_fillNext : ∀ (m : Nat → Nat → Int) (z_s z_p z_m : Int) (k : Nat), s_fillNext m z_s z_p z_m f k = m f k := by intros; exact s_fillNext_fr (Bool.and_eq_true_iff.mpr ⟨Nat.ble_eq_true_of_le lt, by simp only [List.elem_cons, List.elem_nil, beq_eq_false_iff_ne.mpr n3, beq_eq_false_iff_ne.mpr n4, beq_eq_false_iff_ne.mpr n5, beq_eq_false_iff_ne.mpr n6, beq_eq_false_iff_ne.mpr n7, beq_eq_false_iff_ne.mpr n8, beq_eq_false_iff_ne.mpr n9, beq_eq_false_iff_ne.mpr n10, beq_eq_false_iff_ne.mpr n108, beq_eq_false_iff_ne.mpr n110, beq_eq_false_iff_ne.mpr n204, beq_eq_false_iff_ne.mpr n205, beq_eq_false_iff_ne.mpr n207, beq_eq_false_iff_ne.mpr n209, beq_eq_false_iff_ne.mpr n211, beq_eq_false_iff_ne.mpr n307, beq_eq_false_iff_ne.mpr n309, beq_eq_false_iff_ne.mpr n311, beq_eq_false_iff_ne.mpr n315, beq_eq_false_iff_ne.mpr n403, beq_eq_false_iff_ne.mpr n405]; rfl⟩)
  unfold s_kFill
  repeat' with_reducible apply f_ite
  all_goals first | rfl | simp only [f0, f1, f2, f3, f4, f5, f6, f7, f8, f9, f10, f108, f110, f204, f205, f207, f209, f211, f307, f309, f311, f315, f403, f405, fw, c_fillNext]
def v_kData (κ : Nat → Nat → Int) (p q : Int) : Int := (if (e_frameAt κ p) = 0 then (if q < 0 then 0 else (if (κ 9 p.toNat) ≤ q then 0 else (if (κ 7 p.toNat) < 0 then 0 else ((κ (1000 + (κ 7 p.toNat).toNat) ((κ 8 p.toNat) + q).toNat) % 256)))) else 0)
def e_kData (κ : Nat → Nat → Int) (p q : Int) : Int := (if (e_frameAt κ p) = 0 then (if q < 0 then 3 else (if (κ 9 p.toNat) ≤ q then 3 else (if (κ 7 p.toNat) < 0 then 3 else 0))) else (e_frameAt κ p))
set_option maxRecDepth 100000 in
theorem m_kData (hF : mm_F G) (htr : L.stackTraces = false) (hx : kx B bx κ) (hV : kV κ) {p q : Int} {a0 : Nat} (ea0 : a0 = B 5 0) (h1 : -2147483648 ≤ p) (h1a : p < 2147483648) (h2 : -2147483648 ≤ q) (h2a : q < 2147483648) (hfr : e_frameAt κ p = 0 → 0 ≤ κ 7 p.toNat → κ 601 (κ 7 p.toNat).toNat = 2 ∧ κ 7 p.toNat < κ 602 0 ∧ κ 8 p.toNat + κ 9 p.toNat ≤ κ 600 (κ 7 p.toNat).toNat) :
    mm_Met L G SX5_data [.ref a0, .int (iI p), .int (iI q)] (hk G B bx h0 κ) 2 12 (fun r h => (e_kData κ p q) = 0 ∧ (mRet (some (.int (iI (v_kData κ p q)))) (hk G B bx h0 κ)) r h) (kThr (hk G B bx h0 κ) (e_kData κ p q)) := by
  refine mi_meth MX5_data 400 hF htr okX5_data (av := [aR a0, aI p, aI q]) (by decide +kernel) (Nat.le_of_ble_eq_true rfl) cmX5_data (fun θ hc => ?_)
  have z6 : 0 ≤ κ 600 (κ 7 p.toNat).toNat ∧ κ 600 (κ 7 p.toNat).toNat ≤ 65536 := hV.g 600 _ rfl
  refine ⟨⟨_, hk_o5 hx rfl ea0⟩, _, _, _, _, (m_frameAt hF htr hx hV (p := p) ea0 (by omega) (by omega)), by omega, by omega, mkit (r := some (aR (B 0 p.toNat))) (fun e1 => ?_), fun E h1 q => kThr_up q (fun e1 => (by first | exact if_neg e1 | (unfold e_kData; rw [if_neg e1])))⟩
  have t2 := frameAt_0 (κ := κ) (p := p) e1
  refine ⟨by omega, fun (e3 : q < 0) => ?_, fun (e3 : ¬ (q < 0)) => ?_⟩
  · refine mi_nl [(3, aR (B 0 p.toNat)), (0, aR (a0)), (1, aI p), (2, aI q)] rfl ?_
    exact ⟨rfl, by omega, by omega, ⟨Or.inr (Or.inr ⟨(by first | exact (if_pos e1).trans (if_pos e3) | (unfold e_kData; rw [if_pos e1, if_pos e3])), rfl⟩), rfl⟩⟩
  · refine mi_nl [(3, aR (B 0 p.toNat)), (0, aR (a0)), (1, aI p), (2, aI q)] rfl ?_
    refine ⟨_, hk_o0 hx (show p.toNat < 65 from by omega) rfl, aI (κ 9 p.toNat), rfl, ?_⟩
    have t4 := (show 0 ≤ κ 9 p.toNat ∧ κ 9 p.toNat ≤ 2048 from hV.g 9 p.toNat rfl)
    refine ⟨by omega, fun (e5 : (κ 9 p.toNat) ≤ q) => ?_, fun (e5 : ¬ ((κ 9 p.toNat) ≤ q)) => ?_⟩
    · exact ⟨rfl, by omega, by omega, ⟨Or.inr (Or.inr ⟨(by first | exact (if_pos e1).trans ((if_neg e3).trans (if_pos e5)) | (unfold e_kData; rw [if_pos e1, if_neg e3, if_pos e5])), rfl⟩), rfl⟩⟩
    · have t6 := (show -1 ≤ κ 7 p.toNat from hV.l 7 p.toNat)
      refine (Decidable.em ((κ 7 p.toNat) < 0)).elim (fun e7 => ?_) (fun e7 => ?_)
      · refine ⟨_, hk_o0 hx (show p.toNat < 65 from by omega) rfl, aN, (congrArg (krow B) (show κ 7 p.toNat = (κ 7 p.toNat) from rfl)).trans (kr_n e7), ?_⟩
        exact ⟨rfl, by omega, by omega, ⟨Or.inr (Or.inr ⟨(by first | exact (if_pos e1).trans ((if_neg e3).trans ((if_neg e5).trans (if_pos e7))) | (unfold e_kData; rw [if_pos e1, if_neg e3, if_neg e5, if_pos e7])), rfl⟩), rfl⟩⟩
      · refine ⟨_, hk_o0 hx (show p.toNat < 65 from by omega) rfl, aR (B 17 (κ 7 p.toNat).toNat), (congrArg (krow B) (show κ 7 p.toNat = (κ 7 p.toNat) from rfl)).trans (kr_r e7), ?_⟩
        have e8 : ¬ ((κ 7 p.toNat) < 0) := by omega
        refine ⟨_, hk_o0 hx (show p.toNat < 65 from by omega) rfl, aR (B 17 (κ 7 p.toNat).toNat), (congrArg (krow B) (show κ 7 p.toNat = (κ 7 p.toNat) from rfl)).trans (kr_r e8), ?_⟩
        refine ⟨_, hk_o0 hx (show p.toNat < 65 from by omega) rfl, aI (κ 8 p.toNat), rfl, ?_⟩
        have t9 := (show 0 ≤ κ 8 p.toNat ∧ κ 8 p.toNat ≤ 65536 from hV.g 8 p.toNat rfl)
        refine ⟨_, _, (κ (1000 + (κ 7 p.toNat).toNat) ((κ 8 p.toNat) + q).toNat), hk_w hx (c := 2) (show (((κ 7 p.toNat).toNat : Nat) : Int) < κ 602 0 from by omega) (show κ 601 (κ 7 p.toNat).toNat = ((2 : Nat) : Int) from by omega) rfl, (show 0 ≤ ((κ 8 p.toNat) + q) ∧ ((κ 8 p.toNat) + q) < (((κ 600 (κ 7 p.toNat).toNat).toNat : Nat) : Int) ∧ ((κ 8 p.toNat) + q) < 2147483648 from by omega), rfl, ?_⟩
        have t10 := (show -128 ≤ κ (1000 + (κ 7 p.toNat).toNat) ((κ 8 p.toNat) + q).toNat ∧ κ (1000 + (κ 7 p.toNat).toNat) ((κ 8 p.toNat) + q).toNat ≤ 256 from hV.w (κ 7 p.toNat).toNat ((κ 8 p.toNat) + q).toNat)
        refine ⟨((κ (1000 + (κ 7 p.toNat).toNat) ((κ 8 p.toNat) + q).toNat) % 256), iI_and255 _, ?_⟩
        exact ⟨⟨(by first | exact (if_pos e1).trans ((if_neg e3).trans ((if_neg e5).trans (if_neg e7))) | (unfold e_kData; rw [if_pos e1, if_neg e3, if_neg e5, if_neg e7])), kRetI (by first | exact (if_pos e1).trans ((if_neg e3).trans ((if_neg e5).trans (if_neg e7))) | (unfold v_kData; rw [if_pos e1, if_neg e3, if_neg e5, if_neg e7]))⟩, (by first | exact Nat.le_of_ble_eq_true rfl | omega), (by first | exact Nat.le_of_ble_eq_true rfl | omega)⟩
def v_kOuts_18 (κ : Nat → Nat → Int) (q : Int) : Nat → Int → Int → Int → Int
  | 0, _, _, _ => 0
  | d + 1, v, j, n => (if n ≤ j then v else (v_kOuts_18 κ q d (v + (((κ (1000 + 1) (q + j).toNat) % 256) * 2 ^ (8 * j).toNat)) (j + 1) n))
def e_kOuts_18 (κ : Nat → Nat → Int) (q : Int) : Nat → Int → Int → Int → Int
  | 0, _, _, _ => 0
  | d + 1, v, j, n => (if n ≤ j then 0 else (e_kOuts_18 κ q d (v + (((κ (1000 + 1) (q + j).toNat) % 256) * 2 ^ (8 * j).toNat)) (j + 1) n))
def v_kOuts (κ : Nat → Nat → Int) (q : Int) : Int := (if q < 0 then 0 else (if q < (κ 506 0) then (v_kOuts_18 κ q 9 0 0 (v_minI 8 ((κ 506 0) - q))) else 0))
def e_kOuts (κ : Nat → Nat → Int) (q : Int) : Int := (if q < 0 then 3 else (if q < (κ 506 0) then (e_kOuts_18 κ q 9 0 0 (v_minI 8 ((κ 506 0) - q))) else 3))
set_option maxRecDepth 100000 in
theorem m_kOuts (hF : mm_F G) (htr : L.stackTraces = false) (hx : kx B bx κ) (hV : kV κ) {q : Int} {a0 : Nat} (ea0 : a0 = B 5 0) (h1 : -2147483648 ≤ q) (h1a : q < 2147483648) (ha4 : 1 < κ 602 0) (hk4 : κ 601 1 = 2) (hl4 : 2048 ≤ κ 600 1) :
    mm_Met L G SX5_outs [.ref a0, .int (iI q)] (hk G B bx h0 κ) 1 6 (fun r h => (e_kOuts κ q) = 0 ∧ (mRet (some (.long (iL (v_kOuts κ q)))) (hk G B bx h0 κ)) r h) (kThr (hk G B bx h0 κ) (e_kOuts κ q)) := by
  refine mi_meth MX5_outs 400 hF htr okX5_outs (av := [aR a0, aI q]) (by decide +kernel) (Nat.le_of_ble_eq_true rfl) cmX5_outs (fun θ hc => ?_)
  have loop18 : ∀ (R : Int) (E : Int) (d : Nat) (v j n : Int), (0 ≤ q ∧ q + n ≤ 2048) → (0 ≤ j ∧ j ≤ n ∧ n ≤ 8) → (0 ≤ v ∧ v < 2 ^ (8 * j).toNat) → (n - j) < (d : Int) → v_kOuts_18 κ q d v j n = R → e_kOuts_18 κ q d v j n = E → mi_W L G MX5_outs 1 6 (fun r h => E = 0 ∧ (mRet (some (.long (iL R))) (hk G B bx h0 κ)) r h) (kThr (hk G B bx h0 κ) E) θ 18 [(3, aL v), (5, aI j), (2, aI n), (0, aR (a0)), (1, aI q)] [] (hk G B bx h0 κ) 0 0 := by
    intro R E d
    induction d with
    | zero =>
      intro v j n hi0 hi1 hv hms hvr her
      omega
    | succ d ih =>
      intro v j n hi0 hi1 hv hms hvr her
      refine mi_sound hc okX5_outs 400 _ _ _ _ _ _ ?_
      refine ⟨by omega, fun (e1 : n ≤ j) => ?_, fun (e1 : ¬ (n ≤ j)) => ?_⟩
      · exact ⟨⟨(her.symm.trans (by first | exact if_pos e1 | (rw [e_kOuts_18]; rw [if_pos e1]))), kRetL (hvr.symm.trans (by first | exact if_pos e1 | (rw [v_kOuts_18]; rw [if_pos e1])))⟩, (by first | exact Nat.le_of_ble_eq_true rfl | omega), (by first | exact Nat.le_of_ble_eq_true rfl | omega)⟩
      · refine ⟨_, hk_o5 hx rfl ea0, aR (B 17 1), rfl, ?_⟩
        refine ⟨_, _, (κ (1000 + 1) (q + j).toNat), hk_w hx (c := 2) (show ((1 : Nat) : Int) < κ 602 0 from by omega) (show κ 601 1 = ((2 : Nat) : Int) from by omega) rfl, (show 0 ≤ (q + j) ∧ (q + j) < (((κ 600 1).toNat : Nat) : Int) ∧ (q + j) < 2147483648 from by omega), rfl, ?_⟩
        have t2 := (show -128 ≤ κ (1000 + 1) (q + j).toNat ∧ κ (1000 + 1) (q + j).toNat ≤ 256 from hV.w 1 (q + j).toNat)
        refine ⟨by omega, ?_⟩
        refine ⟨255, rfl, ?_⟩
        refine ⟨((κ (1000 + 1) (q + j).toNat) % 256), iL_and255 _, ?_⟩
        refine ⟨(((κ (1000 + 1) (q + j).toNat) % 256) * 2 ^ (8 * j).toNat), iL_shl (by omega) (by omega), ?_⟩
        refine ⟨(v + (((κ (1000 + 1) (q + j).toNat) % 256) * 2 ^ (8 * j).toNat)), iL_or hv (by omega) (by omega), ?_⟩
        exact mi_Wsub (List.forall_mem_cons.mpr ⟨(.tail _ (.head _)), (List.forall_mem_cons.mpr ⟨(.head _), (List.forall_mem_cons.mpr ⟨(.tail _ (.tail _ (.head _))), (List.forall_mem_cons.mpr ⟨(.tail _ (.tail _ (.tail _ (.head _)))), (List.forall_mem_cons.mpr ⟨(.tail _ (.tail _ (.tail _ (.tail _ (.head _))))), (fun _ h => absurd h List.not_mem_nil)⟩)⟩)⟩)⟩)⟩) (ih (v + (((κ (1000 + 1) (q + j).toNat) % 256) * 2 ^ (8 * j).toNat)) (j + 1) n (by omega) (by omega) (outs_v hv (by omega) (by omega)) (by omega) (Eq.trans (by first | exact (if_neg e1).symm | (rw [v_kOuts_18]; rw [if_neg e1])) hvr) (Eq.trans (by first | exact (if_neg e1).symm | (rw [e_kOuts_18]; rw [if_neg e1])) her))
  refine ⟨by omega, fun (e3 : q < 0) => ?_, fun (e3 : ¬ (q < 0)) => ?_⟩
  · exact ⟨rfl, by omega, by omega, ⟨Or.inr (Or.inr ⟨(by first | exact if_pos e3 | (unfold e_kOuts; rw [if_pos e3])), rfl⟩), rfl⟩⟩
  · refine ⟨_, hk_o5 hx rfl ea0, aI (κ 506 0), rfl, ?_⟩
    have t4 := (show 0 ≤ κ 506 0 ∧ κ 506 0 ≤ 2048 from hV.g 506 0 rfl)
    refine ⟨by omega, fun (e5 : q < (κ 506 0)) => ?_, fun (e5 : ¬ (q < (κ 506 0))) => ?_⟩
    · refine ⟨_, hk_o5 hx rfl ea0, aI (κ 506 0), rfl, ?_⟩
      refine ⟨_, _, _, _, (m_minI hF htr hx hV (a := 8) (b := ((κ 506 0) - q)) (by omega) (by omega) (by omega) (by omega)), (by first | exact Nat.le_of_ble_eq_true rfl | omega), (by first | exact Nat.le_of_ble_eq_true rfl | omega), mki_ (r := some (aI (v_minI 8 ((κ 506 0) - q)))) ?_, fun _ _ q => q.elim⟩
      have t6 := minI_b 8 ((κ 506 0) - q)
      refine ⟨0, rfl, ?_⟩
      refine mi_nl [(2, aI (v_minI 8 ((κ 506 0) - q))), (0, aR (a0)), (1, aI q)] rfl ?_
      exact mi_Wsub (List.forall_mem_cons.mpr ⟨(.tail _ (.head _)), (List.forall_mem_cons.mpr ⟨(.head _), (List.forall_mem_cons.mpr ⟨(.tail _ (.tail _ (.head _))), (List.forall_mem_cons.mpr ⟨(.tail _ (.tail _ (.tail _ (.head _)))), (List.forall_mem_cons.mpr ⟨(.tail _ (.tail _ (.tail _ (.tail _ (.head _))))), (fun _ h => absurd h List.not_mem_nil)⟩)⟩)⟩)⟩)⟩) (loop18 _ _ 9 0 0 (v_minI 8 ((κ 506 0) - q)) (by omega) (by omega) (by decide) (by omega) (by first | exact ((if_neg e3).trans (if_pos e5)).symm | (unfold v_kOuts; rw [if_neg e3, if_pos e5])) (by first | exact ((if_neg e3).trans (if_pos e5)).symm | (unfold e_kOuts; rw [if_neg e3, if_pos e5])))
    · exact ⟨rfl, by omega, by omega, ⟨Or.inr (Or.inr ⟨(by first | exact (if_neg e3).trans (if_neg e5) | (unfold e_kOuts; rw [if_neg e3, if_neg e5])), rfl⟩), rfl⟩⟩
end KP2
