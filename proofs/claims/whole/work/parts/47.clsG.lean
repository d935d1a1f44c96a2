section KG
variable {L : Launch} {G : mmG} {B : Nat → Nat → Nat} {bx : Nat → Option (Nat × Nat)} {h0 : mmH} {κ κ' : Nat → Nat → Int}
theorem streamId_8 {p : Int} (h : κ 3 p.toNat = 8) (h0 : 0 ≤ v_streamId κ p) : v_streamId κ p = κ 4 p.toNat := by
  unfold v_streamId at h0 ⊢
  rw [if_neg (by omega), if_neg (by omega), if_pos h] at h0 ⊢
  split
  · rename_i e
    rw [if_pos e] at h0
    omega
  · rfl
def s_hearLost (κ : Nat → Nat → Int) (s p : Int) : Nat → Nat → Int := (if 0 ≤ (v_streamId κ p) then (if (κ 3 p.toNat) = 5 then (if 0 ≤ (v_streamId κ p) ∧ (v_streamId κ p) < 256 ∧ (κ 190 (mj s (v_streamId κ p))) = 1 then (s_hearLostR κ p s (v_streamId κ p)) else κ) else (if (κ 3 p.toNat) = 17 then (if 0 ≤ (v_streamId κ p) ∧ (v_streamId κ p) < 256 ∧ (κ 190 (mj s (v_streamId κ p))) = 1 then (s_hearLostR κ p s (v_streamId κ p)) else κ) else (if 0 ≤ (v_streamId κ p) ∧ (v_streamId κ p) < 256 ∧ (κ 290 (mj s (v_streamId κ p))) = 1 then (s_hearLostS κ p s (v_streamId κ p)) else κ))) else (s_hearLostOfAll κ s p))
set_option maxRecDepth 100000 in
theorem m_hearLost (hF : mm_F G) (htr : L.stackTraces = false) (hx : kx B bx κ) (hV : kV κ) {s p : Int} {a0 a1 : Nat} (ea0 : a0 = B 3 s.toNat) (ea1 : a1 = B 0 p.toNat) (h1 : 0 ≤ s) (h2 : s ≤ 1) (hf1 : 0 ≤ p) (hf2 : p ≤ 64) (hS : kSA κ s) (hU : ∀ i, 0 ≤ i → i < 256 → κ 290 (mj s i) = 1 → κ 3 p.toNat = 8 → i = κ 4 p.toNat → κ 8 p.toNat + κ 9 p.toNat ≤ κ 600 (κ 202 (mj s i)).toNat) :
    mm_Met L G SX3_hearLost [.ref a0, .ref a1] (hk G B bx h0 κ) 0 0 (mRetS none (hk G B bx h0 (s_hearLost κ s p)) (kx B bx (s_hearLost κ s p) ∧ kV (s_hearLost κ s p))) mm_no := by
  refine mi_meth MX3_hearLost 400 hF htr okX3_hearLost (av := [aR a0, aR a1]) (by decide +kernel) (Nat.le_of_ble_eq_true rfl) cmX3_hearLost (fun θ hc => ?_)
  refine ⟨⟨_, hk_o0 hx (show p.toNat < 65 from by omega) ea1⟩, _, _, _, _, (m_streamId hF htr hx hV (p := p) ea1 (by omega) (by omega)), Nat.le_refl _, Nat.le_refl _, mki_ (r := some (aI (v_streamId κ p))) ?_, fun _ _ q => q.elim⟩
  have t1 := streamId_b hV (p := p)
  refine ⟨by omega, fun (e2 : 0 ≤ (v_streamId κ p)) => ?_, fun (e2 : ¬ (0 ≤ (v_streamId κ p))) => ?_⟩
  · refine mi_nl [(2, aI (v_streamId κ p)), (0, aR (a0)), (1, aR (a1))] rfl ?_
    refine ⟨_, hk_o0 hx (show p.toNat < 65 from by omega) ea1, aI (κ 3 p.toNat), rfl, ?_⟩
    have t3 := (show 0 ≤ κ 3 p.toNat ∧ κ 3 p.toNat ≤ 23 from hV.g 3 p.toNat rfl)
    refine ⟨by omega, fun (e4 : (κ 3 p.toNat) = 5) => ?_, fun (e4 : ¬ ((κ 3 p.toNat) = 5)) => ?_⟩
    · refine (Decidable.em (0 ≤ (v_streamId κ p) ∧ (v_streamId κ p) < 256 ∧ (κ 190 (mj s (v_streamId κ p))) = 1)).elim (fun e5 => ?_) (fun e5 => ?_)
      · refine ⟨⟨_, hk_o3 hx (show s.toNat < 2 from by omega) ea0⟩, _, _, _, _, (m_receivingOfY hF htr hx hV (s := s) (i := (v_streamId κ p)) ea0 (by omega) (by omega) (by omega) (by omega) (show κ 190 (mj s (v_streamId κ p)) = 1 from e5.2.2)), Nat.le_refl _, Nat.le_refl _, mki_ (r := some (aR (B 1 (mj s (v_streamId κ p))))) ?_, fun _ _ q => q.elim⟩
        refine ⟨_, _, _, _, (m_hearLostR hF htr hx hV (p := p) (s := s) (i := (v_streamId κ p)) ea1 rfl (by omega) (by omega) (show κ 190 (mj s (v_streamId κ p)) = 1 from e5.2.2)), Nat.le_refl _, Nat.le_refl _, mkis_ (r := none) (fun ⟨hx7, hV6⟩ => ?_), fun _ _ q => q.elim⟩
        exact ⟨kRetVS  (by first | exact (if_pos e2).trans ((if_pos e4).trans (if_pos e5)) | (unfold s_hearLost; rw [if_pos e2, if_pos e4, if_pos e5])) hx7 hV6, Nat.le_refl _, Nat.le_refl _⟩
      · refine ⟨⟨_, hk_o3 hx (show s.toNat < 2 from by omega) ea0⟩, _, _, _, _, (m_receivingOfN hF htr hx hV (s := s) (i := (v_streamId κ p)) ea0 (by omega) (by omega) (by omega) (by omega) e5), Nat.le_refl _, Nat.le_refl _, mki_ (r := some aN) ?_, fun _ _ q => q.elim⟩
        refine ⟨_, _, _, _, (m_hearLostRN hF htr hx hV (p := p) ea1 (by omega) (by omega)), Nat.le_refl _, Nat.le_refl _, mki_ (r := none) ?_, fun _ _ q => q.elim⟩
        exact ⟨kRetVS  (by first | exact (if_pos e2).trans ((if_pos e4).trans (if_neg e5)) | (unfold s_hearLost; rw [if_pos e2, if_pos e4, if_neg e5])) hx hV, Nat.le_refl _, Nat.le_refl _⟩
    · refine ⟨_, hk_o0 hx (show p.toNat < 65 from by omega) ea1, aI (κ 3 p.toNat), rfl, ?_⟩
      refine ⟨by omega, fun (e8 : ¬ ((κ 3 p.toNat) = 17)) => ?_, fun (e8 : (κ 3 p.toNat) = 17) => ?_⟩
      · refine (Decidable.em (0 ≤ (v_streamId κ p) ∧ (v_streamId κ p) < 256 ∧ (κ 290 (mj s (v_streamId κ p))) = 1)).elim (fun e9 => ?_) (fun e9 => ?_)
        · refine ⟨⟨_, hk_o3 hx (show s.toNat < 2 from by omega) ea0⟩, _, _, _, _, (m_sendingOfY hF htr hx hV (s := s) (i := (v_streamId κ p)) ea0 (by omega) (by omega) (by omega) (by omega) (show κ 290 (mj s (v_streamId κ p)) = 1 from e9.2.2)), Nat.le_refl _, Nat.le_refl _, mki_ (r := some (aR (B 2 (mj s (v_streamId κ p))))) ?_, fun _ _ q => q.elim⟩
          refine ⟨_, _, _, _, (m_hearLostS hF htr hx hV (p := p) (s := s) (i := (v_streamId κ p)) ea1 rfl (by omega) (by omega) (show κ 290 (mj s (v_streamId κ p)) = 1 from e9.2.2) (hS _ (by omega) (by omega) (show κ 290 (mj s (v_streamId κ p)) = 1 from e9.2.2)) (fun z => hU _ (by omega) (by omega) (show κ 290 (mj s (v_streamId κ p)) = 1 from e9.2.2) z (streamId_8 z (by omega)))), Nat.le_refl _, Nat.le_refl _, mkis_ (r := none) (fun ⟨hx11, hV10⟩ => ?_), fun _ _ q => q.elim⟩
          exact ⟨kRetVS  (by first | exact (if_pos e2).trans ((if_neg e4).trans ((if_neg e8).trans (if_pos e9))) | (unfold s_hearLost; rw [if_pos e2, if_neg e4, if_neg e8, if_pos e9])) hx11 hV10, Nat.le_refl _, Nat.le_refl _⟩
        · refine ⟨⟨_, hk_o3 hx (show s.toNat < 2 from by omega) ea0⟩, _, _, _, _, (m_sendingOfN hF htr hx hV (s := s) (i := (v_streamId κ p)) ea0 (by omega) (by omega) (by omega) (by omega) e9), Nat.le_refl _, Nat.le_refl _, mki_ (r := some aN) ?_, fun _ _ q => q.elim⟩
          refine ⟨_, _, _, _, (m_hearLostSN hF htr hx hV (p := p) ea1 (by omega) (by omega)), Nat.le_refl _, Nat.le_refl _, mki_ (r := none) ?_, fun _ _ q => q.elim⟩
          exact ⟨kRetVS  (by first | exact (if_pos e2).trans ((if_neg e4).trans ((if_neg e8).trans (if_neg e9))) | (unfold s_hearLost; rw [if_pos e2, if_neg e4, if_neg e8, if_neg e9])) hx hV, Nat.le_refl _, Nat.le_refl _⟩
      · refine (Decidable.em (0 ≤ (v_streamId κ p) ∧ (v_streamId κ p) < 256 ∧ (κ 190 (mj s (v_streamId κ p))) = 1)).elim (fun e12 => ?_) (fun e12 => ?_)
        · refine ⟨⟨_, hk_o3 hx (show s.toNat < 2 from by omega) ea0⟩, _, _, _, _, (m_receivingOfY hF htr hx hV (s := s) (i := (v_streamId κ p)) ea0 (by omega) (by omega) (by omega) (by omega) (show κ 190 (mj s (v_streamId κ p)) = 1 from e12.2.2)), Nat.le_refl _, Nat.le_refl _, mki_ (r := some (aR (B 1 (mj s (v_streamId κ p))))) ?_, fun _ _ q => q.elim⟩
          refine ⟨_, _, _, _, (m_hearLostR hF htr hx hV (p := p) (s := s) (i := (v_streamId κ p)) ea1 rfl (by omega) (by omega) (show κ 190 (mj s (v_streamId κ p)) = 1 from e12.2.2)), Nat.le_refl _, Nat.le_refl _, mkis_ (r := none) (fun ⟨hx14, hV13⟩ => ?_), fun _ _ q => q.elim⟩
          exact ⟨kRetVS  (by first | exact (if_pos e2).trans ((if_neg e4).trans ((if_pos e8).trans (if_pos e12))) | (unfold s_hearLost; rw [if_pos e2, if_neg e4, if_pos e8, if_pos e12])) hx14 hV13, Nat.le_refl _, Nat.le_refl _⟩
        · refine ⟨⟨_, hk_o3 hx (show s.toNat < 2 from by omega) ea0⟩, _, _, _, _, (m_receivingOfN hF htr hx hV (s := s) (i := (v_streamId κ p)) ea0 (by omega) (by omega) (by omega) (by omega) e12), Nat.le_refl _, Nat.le_refl _, mki_ (r := some aN) ?_, fun _ _ q => q.elim⟩
          refine ⟨_, _, _, _, (m_hearLostRN hF htr hx hV (p := p) ea1 (by omega) (by omega)), Nat.le_refl _, Nat.le_refl _, mki_ (r := none) ?_, fun _ _ q => q.elim⟩
          exact ⟨kRetVS  (by first | exact (if_pos e2).trans ((if_neg e4).trans ((if_pos e8).trans (if_neg e12))) | (unfold s_hearLost; rw [if_pos e2, if_neg e4, if_pos e8, if_neg e12])) hx hV, Nat.le_refl _, Nat.le_refl _⟩
  · refine mi_nl [(2, aI (v_streamId κ p)), (0, aR (a0)), (1, aR (a1))] rfl ?_
    refine ⟨⟨_, hk_o3 hx (show s.toNat < 2 from by omega) ea0⟩, _, _, _, _, (m_hearLostOfAll hF htr hx hV (s := s) (p := p) ea0 ea1 (by omega) (by omega) (by omega) (by omega)), Nat.le_refl _, Nat.le_refl _, mkis_ (r := none) (fun ⟨hx16, hV15⟩ => ?_), fun _ _ q => q.elim⟩
    exact ⟨kRetVS  (by first | exact if_neg e2 | (unfold s_hearLost; rw [if_neg e2])) hx16 hV15, Nat.le_refl _, Nat.le_refl _⟩
set_option maxRecDepth 100000 in
theorem s_hearLost_fr {f kk : Nat} {s p : Int} (hf : (Nat.blt f 1000 && !([108, 110, 205, 207, 209, 211, 311, 315, 403, 405].elem f)) = true) : s_hearLost κ s p f kk = κ f kk := by
  have n108 : f ≠ 108 := by rintro rfl; exact absurd hf (by decide)
  have n110 : f ≠ 110 := by rintro rfl; exact absurd hf (by decide)
  have n205 : f ≠ 205 := by rintro rfl; exact absurd hf (by decide)
  have n207 : f ≠ 207 := by rintro rfl; exact absurd hf (by decide)
  have n209 : f ≠ 209 := by rintro rfl; exact absurd hf (by decide)
  have n211 : f ≠ 211 := by rintro rfl; exact absurd hf (by decide)
  have n311 : f ≠ 311 := by rintro rfl; exact absurd hf (by decide)
  have n315 : f ≠ 315 := by rintro rfl; exact absurd hf (by decide)
  have n403 : f ≠ 403 := by rintro rfl; exact absurd hf (by decide)
  have n405 : f ≠ 405 := by rintro rfl; exact absurd hf (by decide)
  have lt : f < 1000 := Nat.le_of_ble_eq_true (Bool.and_eq_true_iff.mp hf).1
  have f108 : ∀ (m : Nat → Nat → Int) (a b : Nat) (v : Int), u2 m 108 a v f b = m f b := fun m a b v => u2_f n108
  have f110 : ∀ (m : Nat → Nat → Int) (a b : Nat) (v : Int), u2 m 110 a v f b = m f b := fun m a b v => u2_f n110
  have f205 : ∀ (m : Nat → Nat → Int) (a b : Nat) (v : Int), u2 m 205 a v f b = m f b := fun m a b v => u2_f n205
  have f207 : ∀ (m : Nat → Nat → Int) (a b : Nat) (v : Int), u2 m 207 a v f b = m f b := fun m a b v => u2_f n207
  have f209 : ∀ (m : Nat → Nat → Int) (a b : Nat) (v : Int), u2 m 209 a v f b = m f b := fun m a b v => u2_f n209
  have f211 : ∀ (m : Nat → Nat → Int) (a b : Nat) (v : Int), u2 m 211 a v f b = m f b := fun m a b v => u2_f n211
  have f311 : ∀ (m : Nat → Nat → Int) (a b : Nat) (v : Int), u2 m 311 a v f b = m f b := fun m a b v => u2_f n311
  have f315 : ∀ (m : Nat → Nat → Int) (a b : Nat) (v : Int), u2 m 315 a v f b = m f b := fun m a b v => u2_f n315
  have f403 : ∀ (m : Nat → Nat → Int) (a b : Nat) (v : Int), u2 m 403 a v f b = m f b := fun m a b v => u2_f n403
  have f405 : ∀ (m : Nat → Nat → Int) (a b : Nat) (v : Int), u2 m 405 a v f b = m f b := fun m a b v => u2_f n405
  have fw : ∀ (m : Nat → Nat → Int) (r a b : Nat) (v : Int), u2 m (1000 + r) a v f b = m f b := fun m r a b v => u2_f (by omega)
  have c_hearLostOfAll : ∀ (m : Nat → Nat → Int) (z_s z_p : Int) (k : Nat), s_hearLostOfAll m z_s z_p f k = m f k := by intros; exact s_hearLostOfAll_fr (by simp only [List.elem_cons, List.elem_nil, beq_eq_false_iff_ne.mpr n311, beq_eq_false_iff_ne.mpr n315, beq_eq_false_iff_ne.mpr n403, beq_eq_false_iff_ne.mpr n405]; rfl)
  have c_hearLostR : ∀ (m : Nat → Nat → Int) (z_p z_s z_i : Int) (k : Nat), s_hearLostR m z_p z_s z_i f k = m f k := by intros; exact s_hearLostR_fr (by simp only [List.elem_cons, List.elem_nil, beq_eq_false_iff_ne.mpr n108, beq_eq_false_iff_ne.mpr n110]; rfl)
  have c_hearLostS : ∀ (m : Nat → Nat → Int) (z_p z_s z_i : Int) (k : Nat), s_hearLostS m z_p z_s z_i f k = m f k := by intros; exact s_hearLostS_fr (Bool.and_eq_true_iff.mpr ⟨Nat.ble_eq_true_of_le lt, by simp only [List.elem_cons, List.elem_nil, beq_eq_false_iff_ne.mpr n205, beq_eq_false_iff_ne.mpr n207, beq_eq_false_iff_ne.mpr n209, beq_eq_false_iff_ne.mpr n211]; rfl⟩)
  unfold s_hearLost
  repeat' with_reducible apply f_ite
  all_goals first | rfl | simp only [f108, f110, f205, f207, f209, f211, f311, f315, f403, f405, fw, c_hearLostOfAll, c_hearLostR, c_hearLostS]
def s_hearArrived (κ : Nat → Nat → Int) (s p : Int) : Nat → Nat → Int := (if 0 ≤ (v_streamId κ p) ∧ (v_streamId κ p) < 256 ∧ (κ 290 (mj s (v_streamId κ p))) = 1 then (if (κ 3 p.toNat) = 8 then (if (κ 6 p.toNat) = 1 then (s_growIfOver (s_markHere κ s (v_streamId κ p) (κ 8 p.toNat) (κ 9 p.toNat) 1) s (v_streamId κ p)) else (s_growIfOver (s_markHere κ s (v_streamId κ p) (κ 8 p.toNat) (κ 9 p.toNat) 0) s (v_streamId κ p))) else (if (κ 3 p.toNat) = 4 then (if (κ 200 (mj s (v_streamId κ p))) = 3 then (s_growIfOver (u2 κ 200 (mj s (v_streamId κ p)) 4) s (v_streamId κ p)) else κ) else κ)) else κ)
set_option maxRecDepth 100000 in
theorem m_hearArrived (hF : mm_F G) (htr : L.stackTraces = false) (hx : kx B bx κ) (hV : kV κ) {s p : Int} {a0 a1 : Nat} (ea0 : a0 = B 3 s.toNat) (ea1 : a1 = B 0 p.toNat) (h1 : 0 ≤ s) (h2 : s ≤ 1) (hf1 : 0 ≤ p) (hf2 : p ≤ 64) (hS : kSA κ s) (hU : ∀ i, 0 ≤ i → i < 256 → κ 290 (mj s i) = 1 → κ 3 p.toNat = 8 → i = κ 4 p.toNat → κ 8 p.toNat + κ 9 p.toNat ≤ κ 600 (κ 202 (mj s i)).toNat) :
    mm_Met L G SX3_hearArrived [.ref a0, .ref a1] (hk G B bx h0 κ) 0 0 (mRetS none (hk G B bx h0 (s_hearArrived κ s p)) (kx B bx (s_hearArrived κ s p) ∧ kV (s_hearArrived κ s p))) mm_no := by
  refine mi_meth MX3_hearArrived 400 hF htr okX3_hearArrived (av := [aR a0, aR a1]) (by decide +kernel) (Nat.le_of_ble_eq_true rfl) cmX3_hearArrived (fun θ hc => ?_)
  refine ⟨⟨_, hk_o0 hx (show p.toNat < 65 from by omega) ea1⟩, _, _, _, _, (m_streamId hF htr hx hV (p := p) ea1 (by omega) (by omega)), Nat.le_refl _, Nat.le_refl _, mki_ (r := some (aI (v_streamId κ p))) ?_, fun _ _ q => q.elim⟩
  have t1 := streamId_b hV (p := p)
  refine (Decidable.em (0 ≤ (v_streamId κ p) ∧ (v_streamId κ p) < 256 ∧ (κ 290 (mj s (v_streamId κ p))) = 1)).elim (fun e2 => ?_) (fun e2 => ?_)
  · refine ⟨⟨_, hk_o3 hx (show s.toNat < 2 from by omega) ea0⟩, _, _, _, _, (m_sendingOfY hF htr hx hV (s := s) (i := (v_streamId κ p)) ea0 (by omega) (by omega) (by omega) (by omega) (show κ 290 (mj s (v_streamId κ p)) = 1 from e2.2.2)), Nat.le_refl _, Nat.le_refl _, mki_ (r := some (aR (B 2 (mj s (v_streamId κ p))))) ?_, fun _ _ q => q.elim⟩
    obtain ⟨hk2, ha2, ha1, hl, h34, hL, hH, h39⟩ := hS _ e2.1 e2.2.1 e2.2.2
    have z9 : 0 ≤ κ 600 (κ 202 (mj s (v_streamId κ p))).toNat ∧ κ 600 (κ 202 (mj s (v_streamId κ p))).toNat ≤ 65536 := hV.g 600 _ rfl
    have hu9 : κ 3 p.toNat = 8 → κ 8 p.toNat + κ 9 p.toNat ≤ κ 600 (κ 202 (mj s (v_streamId κ p))).toNat := fun z => hU _ e2.1 e2.2.1 e2.2.2 z (streamId_8 z e2.1)
    refine mi_nl [(2, aI (v_streamId κ p)), (0, aR (a0)), (1, aR (a1))] rfl ?_
    refine ⟨_, hk_o0 hx (show p.toNat < 65 from by omega) ea1, aI (κ 3 p.toNat), rfl, ?_⟩
    have t3 := (show 0 ≤ κ 3 p.toNat ∧ κ 3 p.toNat ≤ 23 from hV.g 3 p.toNat rfl)
    refine mi_nl [(3, aR (B 2 (mj s (v_streamId κ p)))), (2, aI (v_streamId κ p)), (0, aR (a0)), (1, aR (a1))] rfl ?_
    refine ⟨by omega, fun (e4 : ¬ ((κ 3 p.toNat) = 8)) => ?_, fun (e4 : (κ 3 p.toNat) = 8) => ?_⟩
    · refine ⟨_, hk_o0 hx (show p.toNat < 65 from by omega) ea1, aI (κ 3 p.toNat), rfl, ?_⟩
      refine ⟨by omega, fun (e5 : ¬ ((κ 3 p.toNat) = 4)) => ?_, fun (e5 : (κ 3 p.toNat) = 4) => ?_⟩
      · exact ⟨kRetVS  (by first | exact (if_pos e2).trans ((if_neg e4).trans (if_neg e5)) | (unfold s_hearArrived; rw [if_pos e2, if_neg e4, if_neg e5])) hx hV, Nat.le_refl _, Nat.le_refl _⟩
      · refine ⟨_, hk_o2 hx (show κ 290 (mj s (v_streamId κ p)) = 1 from e2.2.2) rfl, aI (κ 200 (mj s (v_streamId κ p))), rfl, ?_⟩
        have t6 := (show 0 ≤ κ 200 (mj s (v_streamId κ p)) ∧ κ 200 (mj s (v_streamId κ p)) ≤ 4 from hV.g 200 (mj s (v_streamId κ p)) rfl)
        refine ⟨by omega, fun (e7 : ¬ ((κ 200 (mj s (v_streamId κ p))) = 3)) => ?_, fun (e7 : (κ 200 (mj s (v_streamId κ p))) = 3) => ?_⟩
        · exact ⟨kRetVS  (by first | exact (if_pos e2).trans ((if_neg e4).trans ((if_pos e5).trans (if_neg e7))) | (unfold s_hearArrived; rw [if_pos e2, if_neg e4, if_pos e5, if_neg e7])) hx hV, Nat.le_refl _, Nat.le_refl _⟩
        · refine ⟨_, hk_o2 hx (show κ 290 (mj s (v_streamId κ p)) = 1 from e2.2.2) rfl, trivial, _, kp_200 hx (show κ 290 (mj s (v_streamId κ p)) = 1 from e2.2.2) (v := 4) rfl, ?_⟩
          have hV8 := hV.u (f := 200) (k := (mj s (v_streamId κ p))) (v := 4) rfl (show 0 ≤ 4 ∧ 4 ≤ 4 from by omega)
          have hx9 := kx_u (f := 200) (k := (mj s (v_streamId κ p))) (v := 4) rfl hx
          refine ⟨⟨_, hk_o3 hx9 (show s.toNat < 2 from by omega) ea0⟩, _, _, _, _, (m_growIfOver hF htr hx9 hV8 (s := s) (i := (v_streamId κ p)) ea0 (by omega) (by omega) (by omega) (by omega)), Nat.le_refl _, Nat.le_refl _, mkis_ (r := none) (fun ⟨hx11, hV10⟩ => ?_), fun _ _ q => q.elim⟩
          exact ⟨kRetVS  (by first | exact (if_pos e2).trans ((if_neg e4).trans ((if_pos e5).trans (if_pos e7))) | (unfold s_hearArrived; rw [if_pos e2, if_neg e4, if_pos e5, if_pos e7])) hx11 hV10, Nat.le_refl _, Nat.le_refl _⟩
    · refine ⟨_, hk_o0 hx (show p.toNat < 65 from by omega) ea1, aI (κ 8 p.toNat), rfl, ?_⟩
      have t12 := (show 0 ≤ κ 8 p.toNat ∧ κ 8 p.toNat ≤ 65536 from hV.g 8 p.toNat rfl)
      refine ⟨_, hk_o0 hx (show p.toNat < 65 from by omega) ea1, aI (κ 9 p.toNat), rfl, ?_⟩
      have t13 := (show 0 ≤ κ 9 p.toNat ∧ κ 9 p.toNat ≤ 2048 from hV.g 9 p.toNat rfl)
      refine ⟨_, hk_o0 hx (show p.toNat < 65 from by omega) ea1, aL (κ 6 p.toNat), rfl, ?_⟩
      have t14 := (show 0 ≤ κ 6 p.toNat ∧ κ 6 p.toNat ≤ 4611686018427387903 from hV.g 6 p.toNat rfl)
      refine ⟨1, rfl, ?_⟩
      refine ⟨by omega, fun (e15 : ¬ ((κ 6 p.toNat) = 1)) => ?_, fun (e15 : (κ 6 p.toNat) = 1) => ?_⟩
      · refine ⟨⟨_, hk_o2 hx (show κ 290 (mj s (v_streamId κ p)) = 1 from e2.2.2) rfl⟩, _, _, _, _, (m_markHere hF htr hx hV (s := s) (i := (v_streamId κ p)) (u := (κ 8 p.toNat)) (n := (κ 9 p.toNat)) (g := 0) rfl (show κ 290 (mj s (v_streamId κ p)) = 1 from e2.2.2) (by omega) (by omega) (by omega) (by omega) (by omega) (by omega) (by have z := mR_sub (g := κ (1000 + (κ 202 (mj s (v_streamId κ p))).toNat)) (c := 3) (u := (κ 8 p.toNat)) (v := (κ 8 p.toNat) + (κ 9 p.toNat)) (b := κ 600 (κ 202 (mj s (v_streamId κ p))).toNat) (by omega) (by omega) (by omega); omega) (by have z := mR_here (g := κ (1000 + (κ 202 (mj s (v_streamId κ p))).toNat)) (c := 4) (u := (κ 8 p.toNat)) (n := (κ 9 p.toNat)) (b := κ 600 (κ 202 (mj s (v_streamId κ p))).toNat) (by omega) (by omega) (by omega); omega)), Nat.le_refl _, Nat.le_refl _, mkis_ (r := none) (fun ⟨hx17, hV16⟩ => ?_), fun _ _ q => q.elim⟩
        refine ⟨⟨_, hk_o3 hx17 (show s.toNat < 2 from by omega) ea0⟩, _, _, _, _, (m_growIfOver hF htr hx17 hV16 (s := s) (i := (v_streamId κ p)) ea0 (by omega) (by omega) (by omega) (by omega)), Nat.le_refl _, Nat.le_refl _, mkis_ (r := none) (fun ⟨hx19, hV18⟩ => ?_), fun _ _ q => q.elim⟩
        exact ⟨kRetVS  (by first | exact (if_pos e2).trans ((if_pos e4).trans (if_neg e15)) | (unfold s_hearArrived; rw [if_pos e2, if_pos e4, if_neg e15])) hx19 hV18, Nat.le_refl _, Nat.le_refl _⟩
      · refine ⟨⟨_, hk_o2 hx (show κ 290 (mj s (v_streamId κ p)) = 1 from e2.2.2) rfl⟩, _, _, _, _, (m_markHere hF htr hx hV (s := s) (i := (v_streamId κ p)) (u := (κ 8 p.toNat)) (n := (κ 9 p.toNat)) (g := 1) rfl (show κ 290 (mj s (v_streamId κ p)) = 1 from e2.2.2) (by omega) (by omega) (by omega) (by omega) (by omega) (by omega) (by have z := mR_sub (g := κ (1000 + (κ 202 (mj s (v_streamId κ p))).toNat)) (c := 3) (u := (κ 8 p.toNat)) (v := (κ 8 p.toNat) + (κ 9 p.toNat)) (b := κ 600 (κ 202 (mj s (v_streamId κ p))).toNat) (by omega) (by omega) (by omega); omega) (by have z := mR_here (g := κ (1000 + (κ 202 (mj s (v_streamId κ p))).toNat)) (c := 4) (u := (κ 8 p.toNat)) (n := (κ 9 p.toNat)) (b := κ 600 (κ 202 (mj s (v_streamId κ p))).toNat) (by omega) (by omega) (by omega); omega)), Nat.le_refl _, Nat.le_refl _, mkis_ (r := none) (fun ⟨hx21, hV20⟩ => ?_), fun _ _ q => q.elim⟩
        refine ⟨⟨_, hk_o3 hx21 (show s.toNat < 2 from by omega) ea0⟩, _, _, _, _, (m_growIfOver hF htr hx21 hV20 (s := s) (i := (v_streamId κ p)) ea0 (by omega) (by omega) (by omega) (by omega)), Nat.le_refl _, Nat.le_refl _, mkis_ (r := none) (fun ⟨hx23, hV22⟩ => ?_), fun _ _ q => q.elim⟩
        exact ⟨kRetVS  (by first | exact (if_pos e2).trans ((if_pos e4).trans (if_pos e15)) | (unfold s_hearArrived; rw [if_pos e2, if_pos e4, if_pos e15])) hx23 hV22, Nat.le_refl _, Nat.le_refl _⟩
  · refine ⟨⟨_, hk_o3 hx (show s.toNat < 2 from by omega) ea0⟩, _, _, _, _, (m_sendingOfN hF htr hx hV (s := s) (i := (v_streamId κ p)) ea0 (by omega) (by omega) (by omega) (by omega) e2), Nat.le_refl _, Nat.le_refl _, mki_ (r := some aN) ?_, fun _ _ q => q.elim⟩
    refine mi_nl [(2, aI (v_streamId κ p)), (0, aR (a0)), (1, aR (a1))] rfl ?_
    exact ⟨kRetVS  (by first | exact if_neg e2 | (unfold s_hearArrived; rw [if_neg e2])) hx hV, Nat.le_refl _, Nat.le_refl _⟩
set_option maxRecDepth 100000 in
theorem s_hearArrived_fr {f kk : Nat} {s p : Int} (hf : (Nat.blt f 1000 && !([113, 200, 205, 206, 207, 360, 405].elem f)) = true) : s_hearArrived κ s p f kk = κ f kk := by
  have n113 : f ≠ 113 := by rintro rfl; exact absurd hf (by decide)
  have n200 : f ≠ 200 := by rintro rfl; exact absurd hf (by decide)
  have n205 : f ≠ 205 := by rintro rfl; exact absurd hf (by decide)
  have n206 : f ≠ 206 := by rintro rfl; exact absurd hf (by decide)
  have n207 : f ≠ 207 := by rintro rfl; exact absurd hf (by decide)
  have n360 : f ≠ 360 := by rintro rfl; exact absurd hf (by decide)
  have n405 : f ≠ 405 := by rintro rfl; exact absurd hf (by decide)
  have lt : f < 1000 := Nat.le_of_ble_eq_true (Bool.and_eq_true_iff.mp hf).1
  have f113 : ∀ (m : Nat → Nat → Int) (a b : Nat) (v : Int), u2 m 113 a v f b = m f b := fun m a b v => u2_f n113
  have f200 : ∀ (m : Nat → Nat → Int) (a b : Nat) (v : Int), u2 m 200 a v f b = m f b := fun m a b v => u2_f n200
  have f205 : ∀ (m : Nat → Nat → Int) (a b : Nat) (v : Int), u2 m 205 a v f b = m f b := fun m a b v => u2_f n205
  have f206 : ∀ (m : Nat → Nat → Int) (a b : Nat) (v : Int), u2 m 206 a v f b = m f b := fun m a b v => u2_f n206
  have f207 : ∀ (m : Nat → Nat → Int) (a b : Nat) (v : Int), u2 m 207 a v f b = m f b := fun m a b v => u2_f n207
  have f360 : ∀ (m : Nat → Nat → Int) (a b : Nat) (v : Int), u2 m 360 a v f b = m f b := fun m a b v => u2_f n360
  have f405 : ∀ (m : Nat → Nat → Int) (a b : Nat) (v : Int), u2 m 405 a v f b = m f b := fun m a b v => u2_f n405
  have fw : ∀ (m : Nat → Nat → Int) (r a b : Nat) (v : Int), u2 m (1000 + r) a v f b = m f b := fun m r a b v => u2_f (by omega)
  have c_growIfOver : ∀ (m : Nat → Nat → Int) (z_s z_i : Int) (k : Nat), s_growIfOver m z_s z_i f k = m f k := by intros; exact s_growIfOver_fr (by simp only [List.elem_cons, List.elem_nil, beq_eq_false_iff_ne.mpr n113, beq_eq_false_iff_ne.mpr n360, beq_eq_false_iff_ne.mpr n405]; rfl)
  have c_markHere : ∀ (m : Nat → Nat → Int) (z_s z_i z_u z_n z_g : Int) (k : Nat), s_markHere m z_s z_i z_u z_n z_g f k = m f k := by intros; exact s_markHere_fr (Bool.and_eq_true_iff.mpr ⟨Nat.ble_eq_true_of_le lt, by simp only [List.elem_cons, List.elem_nil, beq_eq_false_iff_ne.mpr n200, beq_eq_false_iff_ne.mpr n205, beq_eq_false_iff_ne.mpr n206, beq_eq_false_iff_ne.mpr n207]; rfl⟩)
  unfold s_hearArrived
  repeat' with_reducible apply f_ite
  all_goals first | rfl | simp only [f113, f200, f205, f206, f207, f360, f405, fw, c_growIfOver, c_markHere]
end KG
