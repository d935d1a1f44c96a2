section KO
variable {L : Launch} {G : mmG} {B B' : Nat → Nat → Nat} {bx bx' : Nat → Option (Nat × Nat)} {h0 : mmH} {κ κ' : Nat → Nat → Int}
theorem streamError_0 (hV : kV κ) {s a g : Int} (h0 : 0 ≤ s) (ha : 0 ≤ a) (hg8 : κ 360 ((16 * s) + 8).toNat ≤ 64) (hg9 : κ 360 ((16 * s) + 9).toNat ≤ 64) (h : v_streamError κ s a g = 0) : a < 256 := by
  have r1 : ∀ k, 0 ≤ κ 400 k ∧ κ 400 k ≤ 64 := fun k => hV.g 400 k rfl
  have r2 : κ 360 ((16 * s) + (8 + (a / 2 % 2))).toNat ≤ 64 := by
    rcases (show a / 2 % 2 = 0 ∨ a / 2 % 2 = 1 by omega) with z | z
    · rw [z]; exact hg8
    · rw [z]; exact hg9
  unfold v_streamError at h
  have r3 := r1 ((2 * s) + (a / 2 % 2)).toNat
  repeat' split at h
  all_goals omega
theorem bytesError_0 (hV : kV κ) {s i e g : Int} (h : v_bytesError κ s i e g = 0) : e ≤ 65536 := by
  have r1 : ∀ k, 0 ≤ κ 107 k ∧ κ 107 k ≤ 65536 := fun k => hV.g 107 k rfl
  have r2 : ∀ k, 0 ≤ κ 360 k ∧ κ 360 k ≤ 65536 := fun k => hV.g 360 k rfl
  have r3 := r1 (mj s i)
  have r4 := r2 ((16 * s) + (v_grantFor s i)).toNat
  unfold v_bytesError at h
  repeat' split at h
  all_goals omega
/-- the bytes end there -/
def kEnd (κ : Nat → Nat → Int) (p : Int) : Int := if κ 3 p.toNat = 4 then κ 6 p.toNat else κ 5 p.toNat + κ 9 p.toNat
/-- is it an end -/
def kGe (κ : Nat → Nat → Int) (p : Int) : Int := if κ 3 p.toNat = 4 ∨ κ 6 p.toNat = 1 then 1 else 0
def kTfr (κ : Nat → Nat → Int) (s p : Int) : Nat := if κ 3 p.toNat = 21 ∨ ¬ (v_streamError κ s (κ 4 p.toNat) 0 = 0) ∨ ¬ ((s_makeThere κ s (κ 4 p.toNat)) 190 (mj s (κ 4 p.toNat)) = 1) ∨ ¬ (v_bytesError κ s (κ 4 p.toNat) (kEnd κ p) (kGe κ p) = 0) then 0 else kRea (s_makeThere κ s (κ 4 p.toNat)) p s (κ 4 p.toNat) (kEnd κ p)
/-- what a receiving part is in, when a frame p is to be taken -/
def kTk (κ : Nat → Nat → Int) (s p : Int) : Prop := ∀ g, (g = 0 ∨ g = 1) → (κ 3 p.toNat = 4 → g = 1) → v_streamError κ s (κ 4 p.toNat) 0 = 0 → v_bytesError κ s (κ 4 p.toNat) (kEnd κ p) g = 0 → (s_makeThere κ s (κ 4 p.toNat)) 190 (mj s (κ 4 p.toNat)) = 1 → kRo (s_makeThere κ s (κ 4 p.toNat)) s (κ 4 p.toNat) p (kEnd κ p) g
/-- what taking a frame makes beside parts: only where its kind may have data -/
def kTin (κ : Nat → Nat → Int) (s p : Int) : Nat := if 16 ≤ κ 3 p.toNat ∨ κ 3 p.toNat = 5 then 0 else kTfr κ s p
def v_takeForSending (κ : Nat → Nat → Int) (s p : Int) : Int := (if (v_streamError κ s (κ 4 p.toNat) 1) = 0 then (if ((s_makeThere κ s (κ 4 p.toNat)) 290 (mj s (κ 4 p.toNat))) = 1 then (if (κ 3 p.toNat) = 17 then 0 else (if (v_sLive (s_makeThere κ s (κ 4 p.toNat)) s (κ 4 p.toNat)) = 0 then 0 else 0)) else 0) else (v_streamError κ s (κ 4 p.toNat) 1))
def s_takeForSending (κ : Nat → Nat → Int) (s p : Int) : Nat → Nat → Int := (if (v_streamError κ s (κ 4 p.toNat) 1) = 0 then (if ((s_makeThere κ s (κ 4 p.toNat)) 290 (mj s (κ 4 p.toNat))) = 1 then (if (κ 3 p.toNat) = 17 then (u2 (s_makeThere κ s (κ 4 p.toNat)) 208 (mj s (κ 4 p.toNat)) (v_maxL ((s_makeThere κ s (κ 4 p.toNat)) 208 (mj s (κ 4 p.toNat))) (κ 5 p.toNat))) else (if (v_sLive (s_makeThere κ s (κ 4 p.toNat)) s (κ 4 p.toNat)) = 0 then (s_makeThere κ s (κ 4 p.toNat)) else (u2 (u2 (u2 (s_makeThere κ s (κ 4 p.toNat)) 200 (mj s (κ 4 p.toNat)) 3) 210 (mj s (κ 4 p.toNat)) (κ 5 p.toNat)) 211 (mj s (κ 4 p.toNat)) 1))) else (s_makeThere κ s (κ 4 p.toNat))) else κ)
set_option maxRecDepth 100000 in
theorem m_takeForSending (hF : mm_F G) (htr : L.stackTraces = false) (hx : kx B bx κ) (hV : kV κ) (hW : kW κ) {s p : Int} {a0 a1 : Nat} (ea0 : a0 = B 3 s.toNat) (ea1 : a1 = B 0 p.toNat) (h1 : 0 ≤ s) (h2 : s ≤ 1) (hf1 : 0 ≤ p) (hf2 : p ≤ 64) (hg8 : κ 360 ((16 * s) + 8).toNat ≤ 64) (hg9 : κ 360 ((16 * s) + 9).toNat ≤ 64) (hN : kNT κ s) :
    mm_Met L G SX3_takeForSending [.ref a0, .ref a1] (hk G B bx h0 κ) 320 1664 (mRetW G bx B h0 κ (some (.int (iI (v_takeForSending κ s p)))) (s_takeForSending κ s p) ((fun r _ => 0 ≤ r ∧ r ≤ 6) (v_takeForSending κ s p) (s_takeForSending κ s p))) mm_no := by
  refine mi_meth MX3_takeForSending 400 hF htr okX3_takeForSending (av := [aR a0, aR a1]) (by decide +kernel) (Nat.le_of_ble_eq_true rfl) cmX3_takeForSending (fun θ hc => ?_)
  refine ⟨_, hk_o0 hx (show p.toNat < 65 from by omega) ea1, aL (κ 4 p.toNat), rfl, ?_⟩
  have t1 := (show 0 ≤ κ 4 p.toNat ∧ κ 4 p.toNat ≤ 4611686018427387903 from hV.g 4 p.toNat rfl)
  refine ⟨⟨_, hk_o3 hx (show s.toNat < 2 from by omega) ea0⟩, _, _, _, _, (m_streamError hF htr hx hV (s := s) (a := (κ 4 p.toNat)) (g := 1) ea0 (by omega) (by omega) (by omega) (by omega) (by omega)), (by first | exact Nat.le_of_ble_eq_true rfl | omega), (by first | exact Nat.le_of_ble_eq_true rfl | omega), mki_ (r := some (aI (v_streamError κ s (κ 4 p.toNat) 1))) ?_, fun _ _ q => q.elim⟩
  have t2 := v_streamError_b κ s (κ 4 p.toNat) 1
  have t3 := (streamError_0 hV (s := s) (a := (κ 4 p.toNat)) (g := 1) (by omega) (by omega) hg8 hg9)
  refine ⟨by omega, fun (e4 : (v_streamError κ s (κ 4 p.toNat) 1) = 0) => ?_, fun (e4 : ¬ ((v_streamError κ s (κ 4 p.toNat) 1) = 0)) => ?_⟩
  · refine mi_nl [(2, aI (v_streamError κ s (κ 4 p.toNat) 1)), (0, aR (a0)), (1, aR (a1))] rfl ?_
    refine ⟨_, hk_o0 hx (show p.toNat < 65 from by omega) ea1, aL (κ 4 p.toNat), rfl, ?_⟩
    refine ⟨⟨_, hk_o3 hx (show s.toNat < 2 from by omega) ea0⟩, _, _, _, _, (m_makeThere hF htr hx hV (kaw_refl (h0 := h0) (bx := bx) (B := B) hW).2.1 (s := s) (i := (κ 4 p.toNat)) ea0 (by omega) (by omega) (by omega) (by omega) hN), (by first | exact Nat.le_of_ble_eq_true rfl | omega), (by first | exact Nat.le_of_ble_eq_true rfl | omega), mkiw (r := none) (fun B7 bx7 hx6 hV5 hA7 _ => ?_), fun _ _ q => q.elim⟩
    refine mi_nl [(3, aI (κ 4 p.toNat)), (2, aI (v_streamError κ s (κ 4 p.toNat) 1)), (0, aR (a0)), (1, aR (a1))] rfl ?_
    refine ⟨_, hk_o3 hx6 (show s.toNat < 2 from by omega) (ea0.trans (hA7.1 3 s.toNat (show s.toNat < 2 from by omega)).1), aR (B7 15 s.toNat), rfl, ?_⟩
    refine (Decidable.em (((s_makeThere κ s (κ 4 p.toNat)) 290 (mj s (κ 4 p.toNat))) = 1)).elim (fun e8 => ?_) (fun e8 => ?_)
    · refine ⟨256, _, some (B7 2 (mj s (κ 4 p.toNat))), hk_ss hx6 (show s.toNat < 2 from by omega) rfl, by omega, ka_y (f := 290) (t := 2) (s := s) (i := (κ 4 p.toNat)) (by omega) (by omega) (by omega) (e8), ?_⟩
      refine ⟨_, hk_o0 hx6 (show p.toNat < 65 from by omega) (ea1.trans (hA7.1 0 p.toNat (show p.toNat < 65 from by omega)).1), aI (κ 3 p.toNat), congrArg aI (show (s_makeThere κ s (κ 4 p.toNat)) 3 p.toNat = (κ 3 p.toNat) from (s_makeThere_fr (by decide))), ?_⟩
      have t9 := (show 0 ≤ κ 3 p.toNat ∧ κ 3 p.toNat ≤ 23 from hV.g 3 p.toNat rfl)
      refine mi_nl [(4, aR (B7 2 (mj s (κ 4 p.toNat)))), (3, aI (κ 4 p.toNat)), (2, aI (v_streamError κ s (κ 4 p.toNat) 1)), (0, aR (a0)), (1, aR (a1))] rfl ?_
      refine ⟨by omega, fun (e10 : ¬ ((κ 3 p.toNat) = 17)) => ?_, fun (e10 : (κ 3 p.toNat) = 17) => ?_⟩
      · refine ⟨⟨_, hk_o2 hx6 (show (s_makeThere κ s (κ 4 p.toNat)) 290 (mj s (κ 4 p.toNat)) = 1 from e8) rfl⟩, _, _, _, _, (m_sLive hF htr hx6 hV5 (s := s) (i := (κ 4 p.toNat)) rfl (show (s_makeThere κ s (κ 4 p.toNat)) 290 (mj s (κ 4 p.toNat)) = 1 from e8)), (by first | exact Nat.le_of_ble_eq_true rfl | omega), (by first | exact Nat.le_of_ble_eq_true rfl | omega), mki_ (r := some (aI (v_sLive (s_makeThere κ s (κ 4 p.toNat)) s (κ 4 p.toNat)))) ?_, fun _ _ q => q.elim⟩
        have t11 := v_sLive_b (s_makeThere κ s (κ 4 p.toNat)) s (κ 4 p.toNat)
        refine ⟨by omega, fun (e12 : (v_sLive (s_makeThere κ s (κ 4 p.toNat)) s (κ 4 p.toNat)) = 0) => ?_, fun (e12 : ¬ ((v_sLive (s_makeThere κ s (κ 4 p.toNat)) s (κ 4 p.toNat)) = 0)) => ?_⟩
        · exact ⟨kRetIWP (P := fun r _ => 0 ≤ r ∧ r ≤ 6) (by first | exact (if_pos e4).trans ((if_pos e8).trans ((if_neg e10).trans (if_pos e12))) | (unfold v_takeForSending; rw [if_pos e4, if_pos e8, if_neg e10, if_pos e12])) (by first | exact (if_pos e4).trans ((if_pos e8).trans ((if_neg e10).trans (if_pos e12))) | (unfold s_takeForSending; rw [if_pos e4, if_pos e8, if_neg e10, if_pos e12])) hx6 hV5 (kaw_trans (kaw_refl (h0 := h0) (bx := bx) (B := B) hW) hA7) (show 0 ≤ 0 ∧ 0 ≤ 6 from by omega), (by first | exact Nat.le_of_ble_eq_true rfl | omega), (by first | exact Nat.le_of_ble_eq_true rfl | omega)⟩
        · refine ⟨_, hk_o0 hx6 (show p.toNat < 65 from by omega) (ea1.trans (hA7.1 0 p.toNat (show p.toNat < 65 from by omega)).1), aL (κ 5 p.toNat), congrArg aL (show (s_makeThere κ s (κ 4 p.toNat)) 5 p.toNat = (κ 5 p.toNat) from (s_makeThere_fr (by decide))), ?_⟩
          have t13 := (show 0 ≤ κ 5 p.toNat ∧ κ 5 p.toNat ≤ 4611686018427387903 from hV.g 5 p.toNat rfl)
          refine ⟨⟨_, hk_o2 hx6 (show (s_makeThere κ s (κ 4 p.toNat)) 290 (mj s (κ 4 p.toNat)) = 1 from e8) rfl⟩, _, _, _, _, (m_giveUp hF htr hx6 hV5 (s := s) (i := (κ 4 p.toNat)) (c := (κ 5 p.toNat)) rfl (show (s_makeThere κ s (κ 4 p.toNat)) 290 (mj s (κ 4 p.toNat)) = 1 from e8) (by omega) (by omega)), (by first | exact Nat.le_of_ble_eq_true rfl | omega), (by first | exact Nat.le_of_ble_eq_true rfl | omega), mkis_ (r := none) (fun ⟨hx15, hV14⟩ => ?_), fun _ _ q => q.elim⟩
          have hx15 : kx B7 bx7 (u2 (u2 (u2 (s_makeThere κ s (κ 4 p.toNat)) 200 (mj s (κ 4 p.toNat)) 3) 210 (mj s (κ 4 p.toNat)) (κ 5 p.toNat)) 211 (mj s (κ 4 p.toNat)) 1) := hx15
          have hV14 : kV (u2 (u2 (u2 (s_makeThere κ s (κ 4 p.toNat)) 200 (mj s (κ 4 p.toNat)) 3) 210 (mj s (κ 4 p.toNat)) (κ 5 p.toNat)) 211 (mj s (κ 4 p.toNat)) 1) := hV14
          exact ⟨kRetIWP (P := fun r _ => 0 ≤ r ∧ r ≤ 6) (by first | exact (if_pos e4).trans ((if_pos e8).trans ((if_neg e10).trans (if_neg e12))) | (unfold v_takeForSending; rw [if_pos e4, if_pos e8, if_neg e10, if_neg e12])) (by first | exact (if_pos e4).trans ((if_pos e8).trans ((if_neg e10).trans (if_neg e12))) | (unfold s_takeForSending; rw [if_pos e4, if_pos e8, if_neg e10, if_neg e12])) hx15 hV14 (kaw_u rfl (kaw_u rfl (kaw_u rfl (kaw_trans (kaw_refl (h0 := h0) (bx := bx) (B := B) hW) hA7)))) (show 0 ≤ 0 ∧ 0 ≤ 6 from by omega), (by first | exact Nat.le_of_ble_eq_true rfl | omega), (by first | exact Nat.le_of_ble_eq_true rfl | omega)⟩
      · refine ⟨_, hk_o2 hx6 (show (s_makeThere κ s (κ 4 p.toNat)) 290 (mj s (κ 4 p.toNat)) = 1 from e8) rfl, aL ((s_makeThere κ s (κ 4 p.toNat)) 208 (mj s (κ 4 p.toNat))), rfl, ?_⟩
        have t16 := (show 0 ≤ (s_makeThere κ s (κ 4 p.toNat)) 208 (mj s (κ 4 p.toNat)) ∧ (s_makeThere κ s (κ 4 p.toNat)) 208 (mj s (κ 4 p.toNat)) ≤ 4611686018427387903 from hV5.g 208 (mj s (κ 4 p.toNat)) rfl)
        refine ⟨_, hk_o0 hx6 (show p.toNat < 65 from by omega) (ea1.trans (hA7.1 0 p.toNat (show p.toNat < 65 from by omega)).1), aL (κ 5 p.toNat), congrArg aL (show (s_makeThere κ s (κ 4 p.toNat)) 5 p.toNat = (κ 5 p.toNat) from (s_makeThere_fr (by decide))), ?_⟩
        have t17 := (show 0 ≤ κ 5 p.toNat ∧ κ 5 p.toNat ≤ 4611686018427387903 from hV.g 5 p.toNat rfl)
        refine ⟨_, _, _, _, (m_maxL hF htr hx6 hV5 (a := ((s_makeThere κ s (κ 4 p.toNat)) 208 (mj s (κ 4 p.toNat)))) (b := (κ 5 p.toNat)) (by omega) (by omega) (by omega) (by omega)), (by first | exact Nat.le_of_ble_eq_true rfl | omega), (by first | exact Nat.le_of_ble_eq_true rfl | omega), mki_ (r := some (aL (v_maxL ((s_makeThere κ s (κ 4 p.toNat)) 208 (mj s (κ 4 p.toNat))) (κ 5 p.toNat)))) ?_, fun _ _ q => q.elim⟩
        have t18 := maxL_b ((s_makeThere κ s (κ 4 p.toNat)) 208 (mj s (κ 4 p.toNat))) (κ 5 p.toNat)
        refine ⟨_, hk_o2 hx6 (show (s_makeThere κ s (κ 4 p.toNat)) 290 (mj s (κ 4 p.toNat)) = 1 from e8) rfl, trivial, _, kp_208 hx6 (show (s_makeThere κ s (κ 4 p.toNat)) 290 (mj s (κ 4 p.toNat)) = 1 from e8) (v := (v_maxL ((s_makeThere κ s (κ 4 p.toNat)) 208 (mj s (κ 4 p.toNat))) (κ 5 p.toNat))) rfl, ?_⟩
        have hV19 := hV5.u (f := 208) (k := (mj s (κ 4 p.toNat))) (v := (v_maxL ((s_makeThere κ s (κ 4 p.toNat)) 208 (mj s (κ 4 p.toNat))) (κ 5 p.toNat))) rfl (show 0 ≤ (v_maxL ((s_makeThere κ s (κ 4 p.toNat)) 208 (mj s (κ 4 p.toNat))) (κ 5 p.toNat)) ∧ (v_maxL ((s_makeThere κ s (κ 4 p.toNat)) 208 (mj s (κ 4 p.toNat))) (κ 5 p.toNat)) ≤ 4611686018427387903 from by omega)
        have hx20 := kx_u (f := 208) (k := (mj s (κ 4 p.toNat))) (v := (v_maxL ((s_makeThere κ s (κ 4 p.toNat)) 208 (mj s (κ 4 p.toNat))) (κ 5 p.toNat))) rfl hx6
        exact ⟨kRetIWP (P := fun r _ => 0 ≤ r ∧ r ≤ 6) (by first | exact (if_pos e4).trans ((if_pos e8).trans (if_pos e10)) | (unfold v_takeForSending; rw [if_pos e4, if_pos e8, if_pos e10])) (by first | exact (if_pos e4).trans ((if_pos e8).trans (if_pos e10)) | (unfold s_takeForSending; rw [if_pos e4, if_pos e8, if_pos e10])) hx20 hV19 (kaw_u rfl (kaw_trans (kaw_refl (h0 := h0) (bx := bx) (B := B) hW) hA7)) (show 0 ≤ 0 ∧ 0 ≤ 6 from by omega), (by first | exact Nat.le_of_ble_eq_true rfl | omega), (by first | exact Nat.le_of_ble_eq_true rfl | omega)⟩
    · refine ⟨256, _, none, hk_ss hx6 (show s.toNat < 2 from by omega) rfl, by omega, ka_n (f := 290) (t := 2) (s := s) (i := (κ 4 p.toNat)) (by omega) (by omega) (by omega) e8, ?_⟩
      exact ⟨kRetIWP (P := fun r _ => 0 ≤ r ∧ r ≤ 6) (by first | exact (if_pos e4).trans (if_neg e8) | (unfold v_takeForSending; rw [if_pos e4, if_neg e8])) (by first | exact (if_pos e4).trans (if_neg e8) | (unfold s_takeForSending; rw [if_pos e4, if_neg e8])) hx6 hV5 (kaw_trans (kaw_refl (h0 := h0) (bx := bx) (B := B) hW) hA7) (show 0 ≤ 0 ∧ 0 ≤ 6 from by omega), (by first | exact Nat.le_of_ble_eq_true rfl | omega), (by first | exact Nat.le_of_ble_eq_true rfl | omega)⟩
  · refine mi_nl [(2, aI (v_streamError κ s (κ 4 p.toNat) 1)), (0, aR (a0)), (1, aR (a1))] rfl ?_
    exact ⟨kRetIWP (P := fun r _ => 0 ≤ r ∧ r ≤ 6) (by first | exact if_neg e4 | (unfold v_takeForSending; rw [if_neg e4])) (by first | exact if_neg e4 | (unfold s_takeForSending; rw [if_neg e4])) hx hV (kaw_refl (h0 := h0) (bx := bx) (B := B) hW) (show 0 ≤ (v_streamError κ s (κ 4 p.toNat) 1) ∧ (v_streamError κ s (κ 4 p.toNat) 1) ≤ 6 from by omega), (by first | exact Nat.le_of_ble_eq_true rfl | omega), (by first | exact Nat.le_of_ble_eq_true rfl | omega)⟩
set_option maxRecDepth 100000 in
theorem s_takeForSending_fr {f kk : Nat} {s p : Int} (hf : (Nat.blt f 1000 && !([100, 101, 102, 103, 104, 105, 106, 107, 108, 109, 110, 111, 112, 113, 190, 200, 201, 202, 203, 204, 205, 206, 207, 208, 209, 210, 211, 290, 306, 404, 600, 601, 602].elem f)) = true) : s_takeForSending κ s p f kk = κ f kk := by
  have n100 : f ≠ 100 := by rintro rfl; exact absurd hf (by decide)
  have n101 : f ≠ 101 := by rintro rfl; exact absurd hf (by decide)
  have n102 : f ≠ 102 := by rintro rfl; exact absurd hf (by decide)
  have n103 : f ≠ 103 := by rintro rfl; exact absurd hf (by decide)
  have n104 : f ≠ 104 := by rintro rfl; exact absurd hf (by decide)
  have n105 : f ≠ 105 := by rintro rfl; exact absurd hf (by decide)
  have n106 : f ≠ 106 := by rintro rfl; exact absurd hf (by decide)
  have n107 : f ≠ 107 := by rintro rfl; exact absurd hf (by decide)
  have n108 : f ≠ 108 := by rintro rfl; exact absurd hf (by decide)
  have n109 : f ≠ 109 := by rintro rfl; exact absurd hf (by decide)
  have n110 : f ≠ 110 := by rintro rfl; exact absurd hf (by decide)
  have n111 : f ≠ 111 := by rintro rfl; exact absurd hf (by decide)
  have n112 : f ≠ 112 := by rintro rfl; exact absurd hf (by decide)
  have n113 : f ≠ 113 := by rintro rfl; exact absurd hf (by decide)
  have n190 : f ≠ 190 := by rintro rfl; exact absurd hf (by decide)
  have n200 : f ≠ 200 := by rintro rfl; exact absurd hf (by decide)
  have n201 : f ≠ 201 := by rintro rfl; exact absurd hf (by decide)
  have n202 : f ≠ 202 := by rintro rfl; exact absurd hf (by decide)
  have n203 : f ≠ 203 := by rintro rfl; exact absurd hf (by decide)
  have n204 : f ≠ 204 := by rintro rfl; exact absurd hf (by decide)
  have n205 : f ≠ 205 := by rintro rfl; exact absurd hf (by decide)
  have n206 : f ≠ 206 := by rintro rfl; exact absurd hf (by decide)
  have n207 : f ≠ 207 := by rintro rfl; exact absurd hf (by decide)
  have n208 : f ≠ 208 := by rintro rfl; exact absurd hf (by decide)
  have n209 : f ≠ 209 := by rintro rfl; exact absurd hf (by decide)
  have n210 : f ≠ 210 := by rintro rfl; exact absurd hf (by decide)
  have n211 : f ≠ 211 := by rintro rfl; exact absurd hf (by decide)
  have n290 : f ≠ 290 := by rintro rfl; exact absurd hf (by decide)
  have n306 : f ≠ 306 := by rintro rfl; exact absurd hf (by decide)
  have n404 : f ≠ 404 := by rintro rfl; exact absurd hf (by decide)
  have n600 : f ≠ 600 := by rintro rfl; exact absurd hf (by decide)
  have n601 : f ≠ 601 := by rintro rfl; exact absurd hf (by decide)
  have n602 : f ≠ 602 := by rintro rfl; exact absurd hf (by decide)
  have lt : f < 1000 := Nat.le_of_ble_eq_true (Bool.and_eq_true_iff.mp hf).1
  have f100 : ∀ (m : Nat → Nat → Int) (a b : Nat) (v : Int), u2 m 100 a v f b = m f b := fun m a b v => u2_f n100
  have f101 : ∀ (m : Nat → Nat → Int) (a b : Nat) (v : Int), u2 m 101 a v f b = m f b := fun m a b v => u2_f n101
  have f102 : ∀ (m : Nat → Nat → Int) (a b : Nat) (v : Int), u2 m 102 a v f b = m f b := fun m a b v => u2_f n102
  have f103 : ∀ (m : Nat → Nat → Int) (a b : Nat) (v : Int), u2 m 103 a v f b = m f b := fun m a b v => u2_f n103
  have f104 : ∀ (m : Nat → Nat → Int) (a b : Nat) (v : Int), u2 m 104 a v f b = m f b := fun m a b v => u2_f n104
  have f105 : ∀ (m : Nat → Nat → Int) (a b : Nat) (v : Int), u2 m 105 a v f b = m f b := fun m a b v => u2_f n105
  have f106 : ∀ (m : Nat → Nat → Int) (a b : Nat) (v : Int), u2 m 106 a v f b = m f b := fun m a b v => u2_f n106
  have f107 : ∀ (m : Nat → Nat → Int) (a b : Nat) (v : Int), u2 m 107 a v f b = m f b := fun m a b v => u2_f n107
  have f108 : ∀ (m : Nat → Nat → Int) (a b : Nat) (v : Int), u2 m 108 a v f b = m f b := fun m a b v => u2_f n108
  have f109 : ∀ (m : Nat → Nat → Int) (a b : Nat) (v : Int), u2 m 109 a v f b = m f b := fun m a b v => u2_f n109
  have f110 : ∀ (m : Nat → Nat → Int) (a b : Nat) (v : Int), u2 m 110 a v f b = m f b := fun m a b v => u2_f n110
  have f111 : ∀ (m : Nat → Nat → Int) (a b : Nat) (v : Int), u2 m 111 a v f b = m f b := fun m a b v => u2_f n111
  have f112 : ∀ (m : Nat → Nat → Int) (a b : Nat) (v : Int), u2 m 112 a v f b = m f b := fun m a b v => u2_f n112
  have f113 : ∀ (m : Nat → Nat → Int) (a b : Nat) (v : Int), u2 m 113 a v f b = m f b := fun m a b v => u2_f n113
  have f190 : ∀ (m : Nat → Nat → Int) (a b : Nat) (v : Int), u2 m 190 a v f b = m f b := fun m a b v => u2_f n190
  have f200 : ∀ (m : Nat → Nat → Int) (a b : Nat) (v : Int), u2 m 200 a v f b = m f b := fun m a b v => u2_f n200
  have f201 : ∀ (m : Nat → Nat → Int) (a b : Nat) (v : Int), u2 m 201 a v f b = m f b := fun m a b v => u2_f n201
  have f202 : ∀ (m : Nat → Nat → Int) (a b : Nat) (v : Int), u2 m 202 a v f b = m f b := fun m a b v => u2_f n202
  have f203 : ∀ (m : Nat → Nat → Int) (a b : Nat) (v : Int), u2 m 203 a v f b = m f b := fun m a b v => u2_f n203
  have f204 : ∀ (m : Nat → Nat → Int) (a b : Nat) (v : Int), u2 m 204 a v f b = m f b := fun m a b v => u2_f n204
  have f205 : ∀ (m : Nat → Nat → Int) (a b : Nat) (v : Int), u2 m 205 a v f b = m f b := fun m a b v => u2_f n205
  have f206 : ∀ (m : Nat → Nat → Int) (a b : Nat) (v : Int), u2 m 206 a v f b = m f b := fun m a b v => u2_f n206
  have f207 : ∀ (m : Nat → Nat → Int) (a b : Nat) (v : Int), u2 m 207 a v f b = m f b := fun m a b v => u2_f n207
  have f208 : ∀ (m : Nat → Nat → Int) (a b : Nat) (v : Int), u2 m 208 a v f b = m f b := fun m a b v => u2_f n208
  have f209 : ∀ (m : Nat → Nat → Int) (a b : Nat) (v : Int), u2 m 209 a v f b = m f b := fun m a b v => u2_f n209
  have f210 : ∀ (m : Nat → Nat → Int) (a b : Nat) (v : Int), u2 m 210 a v f b = m f b := fun m a b v => u2_f n210
  have f211 : ∀ (m : Nat → Nat → Int) (a b : Nat) (v : Int), u2 m 211 a v f b = m f b := fun m a b v => u2_f n211
  have f290 : ∀ (m : Nat → Nat → Int) (a b : Nat) (v : Int), u2 m 290 a v f b = m f b := fun m a b v => u2_f n290
  have f306 : ∀ (m : Nat → Nat → Int) (a b : Nat) (v : Int), u2 m 306 a v f b = m f b := fun m a b v => u2_f n306
  have f404 : ∀ (m : Nat → Nat → Int) (a b : Nat) (v : Int), u2 m 404 a v f b = m f b := fun m a b v => u2_f n404
  have f600 : ∀ (m : Nat → Nat → Int) (a b : Nat) (v : Int), u2 m 600 a v f b = m f b := fun m a b v => u2_f n600
  have f601 : ∀ (m : Nat → Nat → Int) (a b : Nat) (v : Int), u2 m 601 a v f b = m f b := fun m a b v => u2_f n601
  have f602 : ∀ (m : Nat → Nat → Int) (a b : Nat) (v : Int), u2 m 602 a v f b = m f b := fun m a b v => u2_f n602
  have fw : ∀ (m : Nat → Nat → Int) (r a b : Nat) (v : Int), u2 m (1000 + r) a v f b = m f b := fun m r a b v => u2_f (by omega)
  have c_makeThere : ∀ (m : Nat → Nat → Int) (z_s z_i : Int) (k : Nat), s_makeThere m z_s z_i f k = m f k := by intros; exact s_makeThere_fr (Bool.and_eq_true_iff.mpr ⟨Nat.ble_eq_true_of_le lt, by simp only [List.elem_cons, List.elem_nil, beq_eq_false_iff_ne.mpr n100, beq_eq_false_iff_ne.mpr n101, beq_eq_false_iff_ne.mpr n102, beq_eq_false_iff_ne.mpr n103, beq_eq_false_iff_ne.mpr n104, beq_eq_false_iff_ne.mpr n105, beq_eq_false_iff_ne.mpr n106, beq_eq_false_iff_ne.mpr n107, beq_eq_false_iff_ne.mpr n108, beq_eq_false_iff_ne.mpr n109, beq_eq_false_iff_ne.mpr n110, beq_eq_false_iff_ne.mpr n111, beq_eq_false_iff_ne.mpr n112, beq_eq_false_iff_ne.mpr n113, beq_eq_false_iff_ne.mpr n190, beq_eq_false_iff_ne.mpr n200, beq_eq_false_iff_ne.mpr n201, beq_eq_false_iff_ne.mpr n202, beq_eq_false_iff_ne.mpr n203, beq_eq_false_iff_ne.mpr n204, beq_eq_false_iff_ne.mpr n205, beq_eq_false_iff_ne.mpr n206, beq_eq_false_iff_ne.mpr n207, beq_eq_false_iff_ne.mpr n208, beq_eq_false_iff_ne.mpr n209, beq_eq_false_iff_ne.mpr n210, beq_eq_false_iff_ne.mpr n211, beq_eq_false_iff_ne.mpr n290, beq_eq_false_iff_ne.mpr n306, beq_eq_false_iff_ne.mpr n404, beq_eq_false_iff_ne.mpr n600, beq_eq_false_iff_ne.mpr n601, beq_eq_false_iff_ne.mpr n602]; rfl⟩)
  unfold s_takeForSending
  repeat' with_reducible apply f_ite
  all_goals first | rfl | simp only [f100, f101, f102, f103, f104, f105, f106, f107, f108, f109, f110, f111, f112, f113, f190, f200, f201, f202, f203, f204, f205, f206, f207, f208, f209, f210, f211, f290, f306, f404, f600, f601, f602, fw, c_makeThere]
def v_takeForReceiving (κ : Nat → Nat → Int) (s p : Int) : Int := (if (v_streamError κ s (κ 4 p.toNat) 0) = 0 then (if (κ 3 p.toNat) = 21 then 0 else (if (κ 3 p.toNat) = 4 then (if (v_bytesError κ s (κ 4 p.toNat) (κ 6 p.toNat) 1) = 0 then (if ((s_makeThere κ s (κ 4 p.toNat)) 190 (mj s (κ 4 p.toNat))) = 1 then 0 else 0) else (v_bytesError κ s (κ 4 p.toNat) (κ 6 p.toNat) 1)) else (if (κ 6 p.toNat) = 1 then (if (v_bytesError κ s (κ 4 p.toNat) ((κ 5 p.toNat) + (κ 9 p.toNat)) 1) = 0 then (if ((s_makeThere κ s (κ 4 p.toNat)) 190 (mj s (κ 4 p.toNat))) = 1 then 0 else 0) else (v_bytesError κ s (κ 4 p.toNat) ((κ 5 p.toNat) + (κ 9 p.toNat)) 1)) else (if (v_bytesError κ s (κ 4 p.toNat) ((κ 5 p.toNat) + (κ 9 p.toNat)) 0) = 0 then (if ((s_makeThere κ s (κ 4 p.toNat)) 190 (mj s (κ 4 p.toNat))) = 1 then 0 else 0) else (v_bytesError κ s (κ 4 p.toNat) ((κ 5 p.toNat) + (κ 9 p.toNat)) 0))))) else (v_streamError κ s (κ 4 p.toNat) 0))
def s_takeForReceiving (κ : Nat → Nat → Int) (s p : Int) : Nat → Nat → Int := (if (v_streamError κ s (κ 4 p.toNat) 0) = 0 then (if (κ 3 p.toNat) = 21 then (s_makeThere κ s (κ 4 p.toNat)) else (if (κ 3 p.toNat) = 4 then (if (v_bytesError κ s (κ 4 p.toNat) (κ 6 p.toNat) 1) = 0 then (if ((s_makeThere κ s (κ 4 p.toNat)) 190 (mj s (κ 4 p.toNat))) = 1 then (s_reach (s_makeThere κ s (κ 4 p.toNat)) s (κ 4 p.toNat) p (κ 6 p.toNat) 1) else (s_makeThere κ s (κ 4 p.toNat))) else κ) else (if (κ 6 p.toNat) = 1 then (if (v_bytesError κ s (κ 4 p.toNat) ((κ 5 p.toNat) + (κ 9 p.toNat)) 1) = 0 then (if ((s_makeThere κ s (κ 4 p.toNat)) 190 (mj s (κ 4 p.toNat))) = 1 then (s_reach (s_makeThere κ s (κ 4 p.toNat)) s (κ 4 p.toNat) p ((κ 5 p.toNat) + (κ 9 p.toNat)) 1) else (s_makeThere κ s (κ 4 p.toNat))) else κ) else (if (v_bytesError κ s (κ 4 p.toNat) ((κ 5 p.toNat) + (κ 9 p.toNat)) 0) = 0 then (if ((s_makeThere κ s (κ 4 p.toNat)) 190 (mj s (κ 4 p.toNat))) = 1 then (s_reach (s_makeThere κ s (κ 4 p.toNat)) s (κ 4 p.toNat) p ((κ 5 p.toNat) + (κ 9 p.toNat)) 0) else (s_makeThere κ s (κ 4 p.toNat))) else κ)))) else κ)
set_option maxRecDepth 100000 in
theorem m_takeForReceiving (hF : mm_F G) (htr : L.stackTraces = false) (hx : kx B bx κ) (hV : kV κ) (hW : kW κ) {s p : Int} {a0 a1 : Nat} (ea0 : a0 = B 3 s.toNat) (ea1 : a1 = B 0 p.toNat) (h1 : 0 ≤ s) (h2 : s ≤ 1) (hf1 : 0 ≤ p) (hf2 : p ≤ 64) (hg8 : κ 360 ((16 * s) + 8).toNat ≤ 64) (hg9 : κ 360 ((16 * s) + 9).toNat ≤ 64) (hN : kNT κ s) (hT : kTk κ s p) :
    mm_Met L G SX3_takeForReceiving [.ref a0, .ref a1] (hk G B bx h0 κ) 321 (1664 + kTfr κ s p) (mRetW G bx B h0 κ (some (.int (iI (v_takeForReceiving κ s p)))) (s_takeForReceiving κ s p) ((fun r _ => 0 ≤ r ∧ r ≤ 6) (v_takeForReceiving κ s p) (s_takeForReceiving κ s p))) mm_no := by
  refine mi_meth MX3_takeForReceiving 400 hF htr okX3_takeForReceiving (av := [aR a0, aR a1]) (by decide +kernel) (Nat.le_of_ble_eq_true rfl) cmX3_takeForReceiving (fun θ hc => ?_)
  have hft : ¬ κ 3 p.toNat = 21 → v_streamError κ s (κ 4 p.toNat) 0 = 0 → (s_makeThere κ s (κ 4 p.toNat)) 190 (mj s (κ 4 p.toNat)) = 1 → v_bytesError κ s (κ 4 p.toNat) (kEnd κ p) (kGe κ p) = 0 → kTfr κ s p = kRea (s_makeThere κ s (κ 4 p.toNat)) p s (κ 4 p.toNat) (kEnd κ p) := fun a b c d => if_neg (fun z => z.elim a (fun z => z.elim (fun z => z b) (fun z => z.elim (fun z => z c) (fun z => z d))))
  have hfe : κ 3 p.toNat = 4 → kEnd κ p = κ 6 p.toNat := fun a => if_pos a
  have hfn : ¬ κ 3 p.toNat = 4 → kEnd κ p = κ 5 p.toNat + κ 9 p.toNat := fun a => if_neg a
  have hfe2 : κ 3 p.toNat = 4 → kRea (s_makeThere κ s (κ 4 p.toNat)) p s (κ 4 p.toNat) (kEnd κ p) = kRea (s_makeThere κ s (κ 4 p.toNat)) p s (κ 4 p.toNat) (κ 6 p.toNat) := fun a => by rw [hfe a]
  have hfn2 : ¬ κ 3 p.toNat = 4 → kRea (s_makeThere κ s (κ 4 p.toNat)) p s (κ 4 p.toNat) (kEnd κ p) = kRea (s_makeThere κ s (κ 4 p.toNat)) p s (κ 4 p.toNat) (κ 5 p.toNat + κ 9 p.toNat) := fun a => by rw [hfn a]
  have hg4 : κ 3 p.toNat = 4 → v_bytesError κ s (κ 4 p.toNat) (kEnd κ p) (kGe κ p) = v_bytesError κ s (κ 4 p.toNat) (κ 6 p.toNat) 1 := fun a => by rw [hfe a, show kGe κ p = 1 from if_pos (Or.inl a)]
  have hg1 : ¬ κ 3 p.toNat = 4 → κ 6 p.toNat = 1 → v_bytesError κ s (κ 4 p.toNat) (kEnd κ p) (kGe κ p) = v_bytesError κ s (κ 4 p.toNat) ((κ 5 p.toNat) + (κ 9 p.toNat)) 1 := fun a b => by rw [hfn a, show kGe κ p = 1 from if_pos (Or.inr b)]
  have hg0 : ¬ κ 3 p.toNat = 4 → ¬ κ 6 p.toNat = 1 → v_bytesError κ s (κ 4 p.toNat) (kEnd κ p) (kGe κ p) = v_bytesError κ s (κ 4 p.toNat) ((κ 5 p.toNat) + (κ 9 p.toNat)) 0 := fun a b => by rw [hfn a, show kGe κ p = 0 from if_neg (fun z => z.elim a b)]
  refine ⟨_, hk_o0 hx (show p.toNat < 65 from by omega) ea1, aL (κ 4 p.toNat), rfl, ?_⟩
  have t1 := (show 0 ≤ κ 4 p.toNat ∧ κ 4 p.toNat ≤ 4611686018427387903 from hV.g 4 p.toNat rfl)
  refine ⟨⟨_, hk_o3 hx (show s.toNat < 2 from by omega) ea0⟩, _, _, _, _, (m_streamError hF htr hx hV (s := s) (a := (κ 4 p.toNat)) (g := 0) ea0 (by omega) (by omega) (by omega) (by omega) (by omega)), (by first | exact Nat.le_of_ble_eq_true rfl | omega), (by first | exact Nat.le_of_ble_eq_true rfl | omega), mki_ (r := some (aI (v_streamError κ s (κ 4 p.toNat) 0))) ?_, fun _ _ q => q.elim⟩
  have t2 := v_streamError_b κ s (κ 4 p.toNat) 0
  have t3 := (streamError_0 hV (s := s) (a := (κ 4 p.toNat)) (g := 0) (by omega) (by omega) hg8 hg9)
  refine ⟨by omega, fun (e4 : (v_streamError κ s (κ 4 p.toNat) 0) = 0) => ?_, fun (e4 : ¬ ((v_streamError κ s (κ 4 p.toNat) 0) = 0)) => ?_⟩
  · refine mi_nl [(2, aI (v_streamError κ s (κ 4 p.toNat) 0)), (0, aR (a0)), (1, aR (a1))] rfl ?_
    refine ⟨_, hk_o0 hx (show p.toNat < 65 from by omega) ea1, aL (κ 4 p.toNat), rfl, ?_⟩
    refine ⟨_, hk_o0 hx (show p.toNat < 65 from by omega) ea1, aI (κ 3 p.toNat), rfl, ?_⟩
    have t5 := (show 0 ≤ κ 3 p.toNat ∧ κ 3 p.toNat ≤ 23 from hV.g 3 p.toNat rfl)
    refine mi_nl [(3, aI (κ 4 p.toNat)), (2, aI (v_streamError κ s (κ 4 p.toNat) 0)), (0, aR (a0)), (1, aR (a1))] rfl ?_
    refine ⟨by omega, fun (e6 : ¬ ((κ 3 p.toNat) = 21)) => ?_, fun (e6 : (κ 3 p.toNat) = 21) => ?_⟩
    · refine ⟨_, hk_o0 hx (show p.toNat < 65 from by omega) ea1, aI (κ 3 p.toNat), rfl, ?_⟩
      refine ⟨by omega, fun (e7 : (κ 3 p.toNat) = 4) => ?_, fun (e7 : ¬ ((κ 3 p.toNat) = 4)) => ?_⟩
      · refine ⟨_, hk_o0 hx (show p.toNat < 65 from by omega) ea1, aI (κ 3 p.toNat), rfl, ?_⟩
        refine mi_nl [(4, aI 1), (3, aI (κ 4 p.toNat)), (2, aI (v_streamError κ s (κ 4 p.toNat) 0)), (0, aR (a0)), (1, aR (a1))] rfl ?_
        refine ⟨by omega, fun (e : ¬ ((κ 3 p.toNat) = 4)) => absurd e (by omega), fun _ => ?_⟩
        refine ⟨_, hk_o0 hx (show p.toNat < 65 from by omega) ea1, aL (κ 6 p.toNat), rfl, ?_⟩
        have t8 := (show 0 ≤ κ 6 p.toNat ∧ κ 6 p.toNat ≤ 4611686018427387903 from hV.g 6 p.toNat rfl)
        refine ⟨⟨_, hk_o3 hx (show s.toNat < 2 from by omega) ea0⟩, _, _, _, _, (m_bytesError hF htr hx hV (s := s) (i := (κ 4 p.toNat)) (e := (κ 6 p.toNat)) (g := 1) ea0 (by omega) (by omega) (by omega) (by omega) (by omega) (by omega) (by omega)), (by first | exact Nat.le_of_ble_eq_true rfl | omega), (by first | exact Nat.le_of_ble_eq_true rfl | omega), mki_ (r := some (aI (v_bytesError κ s (κ 4 p.toNat) (κ 6 p.toNat) 1))) ?_, fun _ _ q => q.elim⟩
        have t9 := v_bytesError_b κ s (κ 4 p.toNat) (κ 6 p.toNat) 1
        have t10 := (bytesError_0 hV (s := s) (i := (κ 4 p.toNat)) (e := (κ 6 p.toNat)) (g := 1))
        refine mi_nl [(5, aL (κ 6 p.toNat)), (4, aI 1), (3, aI (κ 4 p.toNat)), (2, aI (v_streamError κ s (κ 4 p.toNat) 0)), (0, aR (a0)), (1, aR (a1))] rfl ?_
        refine ⟨by omega, fun (e11 : (v_bytesError κ s (κ 4 p.toNat) (κ 6 p.toNat) 1) = 0) => ?_, fun (e11 : ¬ ((v_bytesError κ s (κ 4 p.toNat) (κ 6 p.toNat) 1) = 0)) => ?_⟩
        · refine mi_nl [(2, aI (v_bytesError κ s (κ 4 p.toNat) (κ 6 p.toNat) 1)), (5, aL (κ 6 p.toNat)), (4, aI 1), (3, aI (κ 4 p.toNat)), (0, aR (a0)), (1, aR (a1))] rfl ?_
          refine ⟨⟨_, hk_o3 hx (show s.toNat < 2 from by omega) ea0⟩, _, _, _, _, (m_makeThere hF htr hx hV (kaw_refl (h0 := h0) (bx := bx) (B := B) hW).2.1 (s := s) (i := (κ 4 p.toNat)) ea0 (by omega) (by omega) (by omega) (by omega) hN), (by first | exact Nat.le_of_ble_eq_true rfl | omega), (by first | exact Nat.le_of_ble_eq_true rfl | omega), mkiw (r := none) (fun B14 bx14 hx13 hV12 hA14 _ => ?_), fun _ _ q => q.elim⟩
          refine ⟨_, hk_o3 hx13 (show s.toNat < 2 from by omega) (ea0.trans (hA14.1 3 s.toNat (show s.toNat < 2 from by omega)).1), aR (B14 16 s.toNat), rfl, ?_⟩
          refine (Decidable.em (((s_makeThere κ s (κ 4 p.toNat)) 190 (mj s (κ 4 p.toNat))) = 1)).elim (fun e15 => ?_) (fun e15 => ?_)
          · refine ⟨256, _, some (B14 1 (mj s (κ 4 p.toNat))), hk_rs hx13 (show s.toNat < 2 from by omega) rfl, by omega, ka_y (f := 190) (t := 1) (s := s) (i := (κ 4 p.toNat)) (by omega) (by omega) (by omega) (e15), ?_⟩
            refine ⟨_, hk_o3 hx13 (show s.toNat < 2 from by omega) (ea0.trans (hA14.1 3 s.toNat (show s.toNat < 2 from by omega)).1), aR (B14 16 s.toNat), rfl, ?_⟩
            have e16 : ((s_makeThere κ s (κ 4 p.toNat)) 190 (mj s (κ 4 p.toNat))) = 1 := by omega
            refine ⟨256, _, some (B14 1 (mj s (κ 4 p.toNat))), hk_rs hx13 (show s.toNat < 2 from by omega) rfl, by omega, ka_y (f := 190) (t := 1) (s := s) (i := (κ 4 p.toNat)) (by omega) (by omega) (by omega) (e16), ?_⟩
            refine ⟨⟨_, hk_o3 hx13 (show s.toNat < 2 from by omega) (ea0.trans (hA14.1 3 s.toNat (show s.toNat < 2 from by omega)).1)⟩, _, _, _, _, (m_reach hF htr hx13 hV12 (kaw_trans (kaw_refl (h0 := h0) (bx := bx) (B := B) hW) hA14).2.1 (s := s) (i := (κ 4 p.toNat)) (p := p) (e := (κ 6 p.toNat)) (g := 1) (ea0.trans (hA14.1 3 s.toNat (show s.toNat < 2 from by omega)).1) rfl (ea1.trans (hA14.1 0 p.toNat (show p.toNat < 65 from by omega)).1) (by omega) (by omega) (by omega) (by omega) (by omega) (by omega) (show (s_makeThere κ s (κ 4 p.toNat)) 190 (mj s (κ 4 p.toNat)) = 1 from e15) (by omega) (by omega) (by omega) (by have z : kEnd κ p = (κ 6 p.toNat) := (by unfold kEnd; first | rw [if_pos (by omega)] | rw [if_neg (by omega)]); rw [← z]; exact hT 1 (by omega) (by omega) (by omega) (by rw [z]; omega) (show (s_makeThere κ s (κ 4 p.toNat)) 190 (mj s (κ 4 p.toNat)) = 1 from e15))), (by first | exact Nat.le_of_ble_eq_true rfl | omega), (by first | exact Nat.le_of_ble_eq_true rfl | omega), mkiw (r := none) (fun B19 bx19 hx18 hV17 hA19 _ => ?_), fun _ _ q => q.elim⟩
            exact ⟨kRetIWP (P := fun r _ => 0 ≤ r ∧ r ≤ 6) (by first | exact (if_pos e4).trans ((if_neg e6).trans ((if_pos e7).trans ((if_pos e11).trans (if_pos e15)))) | (unfold v_takeForReceiving; rw [if_pos e4, if_neg e6, if_pos e7, if_pos e11, if_pos e15])) (by first | exact (if_pos e4).trans ((if_neg e6).trans ((if_pos e7).trans ((if_pos e11).trans (if_pos e15)))) | (unfold s_takeForReceiving; rw [if_pos e4, if_neg e6, if_pos e7, if_pos e11, if_pos e15])) hx18 hV17 (kaw_trans (kaw_trans (kaw_refl (h0 := h0) (bx := bx) (B := B) hW) hA14) hA19) (show 0 ≤ 0 ∧ 0 ≤ 6 from by omega), (by first | exact Nat.le_of_ble_eq_true rfl | omega), (by first | exact Nat.le_of_ble_eq_true rfl | omega)⟩
          · refine ⟨256, _, none, hk_rs hx13 (show s.toNat < 2 from by omega) rfl, by omega, ka_n (f := 190) (t := 1) (s := s) (i := (κ 4 p.toNat)) (by omega) (by omega) (by omega) e15, ?_⟩
            exact ⟨kRetIWP (P := fun r _ => 0 ≤ r ∧ r ≤ 6) (by first | exact (if_pos e4).trans ((if_neg e6).trans ((if_pos e7).trans ((if_pos e11).trans (if_neg e15)))) | (unfold v_takeForReceiving; rw [if_pos e4, if_neg e6, if_pos e7, if_pos e11, if_neg e15])) (by first | exact (if_pos e4).trans ((if_neg e6).trans ((if_pos e7).trans ((if_pos e11).trans (if_neg e15)))) | (unfold s_takeForReceiving; rw [if_pos e4, if_neg e6, if_pos e7, if_pos e11, if_neg e15])) hx13 hV12 (kaw_trans (kaw_refl (h0 := h0) (bx := bx) (B := B) hW) hA14) (show 0 ≤ 0 ∧ 0 ≤ 6 from by omega), (by first | exact Nat.le_of_ble_eq_true rfl | omega), (by first | exact Nat.le_of_ble_eq_true rfl | omega)⟩
        · refine mi_nl [(2, aI (v_bytesError κ s (κ 4 p.toNat) (κ 6 p.toNat) 1)), (5, aL (κ 6 p.toNat)), (4, aI 1), (3, aI (κ 4 p.toNat)), (0, aR (a0)), (1, aR (a1))] rfl ?_
          exact ⟨kRetIWP (P := fun r _ => 0 ≤ r ∧ r ≤ 6) (by first | exact (if_pos e4).trans ((if_neg e6).trans ((if_pos e7).trans (if_neg e11))) | (unfold v_takeForReceiving; rw [if_pos e4, if_neg e6, if_pos e7, if_neg e11])) (by first | exact (if_pos e4).trans ((if_neg e6).trans ((if_pos e7).trans (if_neg e11))) | (unfold s_takeForReceiving; rw [if_pos e4, if_neg e6, if_pos e7, if_neg e11])) hx hV (kaw_refl (h0 := h0) (bx := bx) (B := B) hW) (show 0 ≤ (v_bytesError κ s (κ 4 p.toNat) (κ 6 p.toNat) 1) ∧ (v_bytesError κ s (κ 4 p.toNat) (κ 6 p.toNat) 1) ≤ 6 from by omega), (by first | exact Nat.le_of_ble_eq_true rfl | omega), (by first | exact Nat.le_of_ble_eq_true rfl | omega)⟩
      · refine ⟨_, hk_o0 hx (show p.toNat < 65 from by omega) ea1, aL (κ 6 p.toNat), rfl, ?_⟩
        have t20 := (show 0 ≤ κ 6 p.toNat ∧ κ 6 p.toNat ≤ 4611686018427387903 from hV.g 6 p.toNat rfl)
        refine ⟨1, rfl, ?_⟩
        refine ⟨by omega, fun (e21 : ¬ ((κ 6 p.toNat) = 1)) => ?_, fun (e21 : (κ 6 p.toNat) = 1) => ?_⟩
        · refine ⟨_, hk_o0 hx (show p.toNat < 65 from by omega) ea1, aI (κ 3 p.toNat), rfl, ?_⟩
          refine mi_nl [(4, aI 0), (3, aI (κ 4 p.toNat)), (2, aI (v_streamError κ s (κ 4 p.toNat) 0)), (0, aR (a0)), (1, aR (a1))] rfl ?_
          refine ⟨by omega, fun _ => ?_, fun (e : (κ 3 p.toNat) = 4) => absurd e (by omega)⟩
          refine ⟨_, hk_o0 hx (show p.toNat < 65 from by omega) ea1, aL (κ 5 p.toNat), rfl, ?_⟩
          have t22 := (show 0 ≤ κ 5 p.toNat ∧ κ 5 p.toNat ≤ 4611686018427387903 from hV.g 5 p.toNat rfl)
          refine ⟨_, hk_o0 hx (show p.toNat < 65 from by omega) ea1, aI (κ 9 p.toNat), rfl, ?_⟩
          have t23 := (show 0 ≤ κ 9 p.toNat ∧ κ 9 p.toNat ≤ 2048 from hV.g 9 p.toNat rfl)
          refine ⟨by omega, ?_⟩
          refine ⟨⟨_, hk_o3 hx (show s.toNat < 2 from by omega) ea0⟩, _, _, _, _, (m_bytesError hF htr hx hV (s := s) (i := (κ 4 p.toNat)) (e := ((κ 5 p.toNat) + (κ 9 p.toNat))) (g := 0) ea0 (by omega) (by omega) (by omega) (by omega) (by omega) (by omega) (by omega)), (by first | exact Nat.le_of_ble_eq_true rfl | omega), (by first | exact Nat.le_of_ble_eq_true rfl | omega), mki_ (r := some (aI (v_bytesError κ s (κ 4 p.toNat) ((κ 5 p.toNat) + (κ 9 p.toNat)) 0))) ?_, fun _ _ q => q.elim⟩
          have t24 := v_bytesError_b κ s (κ 4 p.toNat) ((κ 5 p.toNat) + (κ 9 p.toNat)) 0
          have t25 := (bytesError_0 hV (s := s) (i := (κ 4 p.toNat)) (e := ((κ 5 p.toNat) + (κ 9 p.toNat))) (g := 0))
          refine mi_nl [(5, aL ((κ 5 p.toNat) + (κ 9 p.toNat))), (4, aI 0), (3, aI (κ 4 p.toNat)), (2, aI (v_streamError κ s (κ 4 p.toNat) 0)), (0, aR (a0)), (1, aR (a1))] rfl ?_
          refine ⟨by omega, fun (e26 : (v_bytesError κ s (κ 4 p.toNat) ((κ 5 p.toNat) + (κ 9 p.toNat)) 0) = 0) => ?_, fun (e26 : ¬ ((v_bytesError κ s (κ 4 p.toNat) ((κ 5 p.toNat) + (κ 9 p.toNat)) 0) = 0)) => ?_⟩
          · refine mi_nl [(2, aI (v_bytesError κ s (κ 4 p.toNat) ((κ 5 p.toNat) + (κ 9 p.toNat)) 0)), (5, aL ((κ 5 p.toNat) + (κ 9 p.toNat))), (4, aI 0), (3, aI (κ 4 p.toNat)), (0, aR (a0)), (1, aR (a1))] rfl ?_
            refine ⟨⟨_, hk_o3 hx (show s.toNat < 2 from by omega) ea0⟩, _, _, _, _, (m_makeThere hF htr hx hV (kaw_refl (h0 := h0) (bx := bx) (B := B) hW).2.1 (s := s) (i := (κ 4 p.toNat)) ea0 (by omega) (by omega) (by omega) (by omega) hN), (by first | exact Nat.le_of_ble_eq_true rfl | omega), (by first | exact Nat.le_of_ble_eq_true rfl | omega), mkiw (r := none) (fun B29 bx29 hx28 hV27 hA29 _ => ?_), fun _ _ q => q.elim⟩
            refine ⟨_, hk_o3 hx28 (show s.toNat < 2 from by omega) (ea0.trans (hA29.1 3 s.toNat (show s.toNat < 2 from by omega)).1), aR (B29 16 s.toNat), rfl, ?_⟩
            refine (Decidable.em (((s_makeThere κ s (κ 4 p.toNat)) 190 (mj s (κ 4 p.toNat))) = 1)).elim (fun e30 => ?_) (fun e30 => ?_)
            · refine ⟨256, _, some (B29 1 (mj s (κ 4 p.toNat))), hk_rs hx28 (show s.toNat < 2 from by omega) rfl, by omega, ka_y (f := 190) (t := 1) (s := s) (i := (κ 4 p.toNat)) (by omega) (by omega) (by omega) (e30), ?_⟩
              refine ⟨_, hk_o3 hx28 (show s.toNat < 2 from by omega) (ea0.trans (hA29.1 3 s.toNat (show s.toNat < 2 from by omega)).1), aR (B29 16 s.toNat), rfl, ?_⟩
              have e31 : ((s_makeThere κ s (κ 4 p.toNat)) 190 (mj s (κ 4 p.toNat))) = 1 := by omega
              refine ⟨256, _, some (B29 1 (mj s (κ 4 p.toNat))), hk_rs hx28 (show s.toNat < 2 from by omega) rfl, by omega, ka_y (f := 190) (t := 1) (s := s) (i := (κ 4 p.toNat)) (by omega) (by omega) (by omega) (e31), ?_⟩
              refine ⟨⟨_, hk_o3 hx28 (show s.toNat < 2 from by omega) (ea0.trans (hA29.1 3 s.toNat (show s.toNat < 2 from by omega)).1)⟩, _, _, _, _, (m_reach hF htr hx28 hV27 (kaw_trans (kaw_refl (h0 := h0) (bx := bx) (B := B) hW) hA29).2.1 (s := s) (i := (κ 4 p.toNat)) (p := p) (e := ((κ 5 p.toNat) + (κ 9 p.toNat))) (g := 0) (ea0.trans (hA29.1 3 s.toNat (show s.toNat < 2 from by omega)).1) rfl (ea1.trans (hA29.1 0 p.toNat (show p.toNat < 65 from by omega)).1) (by omega) (by omega) (by omega) (by omega) (by omega) (by omega) (show (s_makeThere κ s (κ 4 p.toNat)) 190 (mj s (κ 4 p.toNat)) = 1 from e30) (by omega) (by omega) (by omega) (by have z : kEnd κ p = ((κ 5 p.toNat) + (κ 9 p.toNat)) := (by unfold kEnd; first | rw [if_pos (by omega)] | rw [if_neg (by omega)]); rw [← z]; exact hT 0 (by omega) (by omega) (by omega) (by rw [z]; omega) (show (s_makeThere κ s (κ 4 p.toNat)) 190 (mj s (κ 4 p.toNat)) = 1 from e30))), (by first | exact Nat.le_of_ble_eq_true rfl | omega), (by first | exact Nat.le_of_ble_eq_true rfl | omega), mkiw (r := none) (fun B34 bx34 hx33 hV32 hA34 _ => ?_), fun _ _ q => q.elim⟩
              exact ⟨kRetIWP (P := fun r _ => 0 ≤ r ∧ r ≤ 6) (by first | exact (if_pos e4).trans ((if_neg e6).trans ((if_neg e7).trans ((if_neg e21).trans ((if_pos e26).trans (if_pos e30))))) | (unfold v_takeForReceiving; rw [if_pos e4, if_neg e6, if_neg e7, if_neg e21, if_pos e26, if_pos e30])) (by first | exact (if_pos e4).trans ((if_neg e6).trans ((if_neg e7).trans ((if_neg e21).trans ((if_pos e26).trans (if_pos e30))))) | (unfold s_takeForReceiving; rw [if_pos e4, if_neg e6, if_neg e7, if_neg e21, if_pos e26, if_pos e30])) hx33 hV32 (kaw_trans (kaw_trans (kaw_refl (h0 := h0) (bx := bx) (B := B) hW) hA29) hA34) (show 0 ≤ 0 ∧ 0 ≤ 6 from by omega), (by first | exact Nat.le_of_ble_eq_true rfl | omega), (by first | exact Nat.le_of_ble_eq_true rfl | omega)⟩
            · refine ⟨256, _, none, hk_rs hx28 (show s.toNat < 2 from by omega) rfl, by omega, ka_n (f := 190) (t := 1) (s := s) (i := (κ 4 p.toNat)) (by omega) (by omega) (by omega) e30, ?_⟩
              exact ⟨kRetIWP (P := fun r _ => 0 ≤ r ∧ r ≤ 6) (by first | exact (if_pos e4).trans ((if_neg e6).trans ((if_neg e7).trans ((if_neg e21).trans ((if_pos e26).trans (if_neg e30))))) | (unfold v_takeForReceiving; rw [if_pos e4, if_neg e6, if_neg e7, if_neg e21, if_pos e26, if_neg e30])) (by first | exact (if_pos e4).trans ((if_neg e6).trans ((if_neg e7).trans ((if_neg e21).trans ((if_pos e26).trans (if_neg e30))))) | (unfold s_takeForReceiving; rw [if_pos e4, if_neg e6, if_neg e7, if_neg e21, if_pos e26, if_neg e30])) hx28 hV27 (kaw_trans (kaw_refl (h0 := h0) (bx := bx) (B := B) hW) hA29) (show 0 ≤ 0 ∧ 0 ≤ 6 from by omega), (by first | exact Nat.le_of_ble_eq_true rfl | omega), (by first | exact Nat.le_of_ble_eq_true rfl | omega)⟩
          · refine mi_nl [(2, aI (v_bytesError κ s (κ 4 p.toNat) ((κ 5 p.toNat) + (κ 9 p.toNat)) 0)), (5, aL ((κ 5 p.toNat) + (κ 9 p.toNat))), (4, aI 0), (3, aI (κ 4 p.toNat)), (0, aR (a0)), (1, aR (a1))] rfl ?_
            exact ⟨kRetIWP (P := fun r _ => 0 ≤ r ∧ r ≤ 6) (by first | exact (if_pos e4).trans ((if_neg e6).trans ((if_neg e7).trans ((if_neg e21).trans (if_neg e26)))) | (unfold v_takeForReceiving; rw [if_pos e4, if_neg e6, if_neg e7, if_neg e21, if_neg e26])) (by first | exact (if_pos e4).trans ((if_neg e6).trans ((if_neg e7).trans ((if_neg e21).trans (if_neg e26)))) | (unfold s_takeForReceiving; rw [if_pos e4, if_neg e6, if_neg e7, if_neg e21, if_neg e26])) hx hV (kaw_refl (h0 := h0) (bx := bx) (B := B) hW) (show 0 ≤ (v_bytesError κ s (κ 4 p.toNat) ((κ 5 p.toNat) + (κ 9 p.toNat)) 0) ∧ (v_bytesError κ s (κ 4 p.toNat) ((κ 5 p.toNat) + (κ 9 p.toNat)) 0) ≤ 6 from by omega), (by first | exact Nat.le_of_ble_eq_true rfl | omega), (by first | exact Nat.le_of_ble_eq_true rfl | omega)⟩
        · refine ⟨_, hk_o0 hx (show p.toNat < 65 from by omega) ea1, aI (κ 3 p.toNat), rfl, ?_⟩
          refine mi_nl [(4, aI 1), (3, aI (κ 4 p.toNat)), (2, aI (v_streamError κ s (κ 4 p.toNat) 0)), (0, aR (a0)), (1, aR (a1))] rfl ?_
          refine ⟨by omega, fun _ => ?_, fun (e : (κ 3 p.toNat) = 4) => absurd e (by omega)⟩
          refine ⟨_, hk_o0 hx (show p.toNat < 65 from by omega) ea1, aL (κ 5 p.toNat), rfl, ?_⟩
          have t35 := (show 0 ≤ κ 5 p.toNat ∧ κ 5 p.toNat ≤ 4611686018427387903 from hV.g 5 p.toNat rfl)
          refine ⟨_, hk_o0 hx (show p.toNat < 65 from by omega) ea1, aI (κ 9 p.toNat), rfl, ?_⟩
          have t36 := (show 0 ≤ κ 9 p.toNat ∧ κ 9 p.toNat ≤ 2048 from hV.g 9 p.toNat rfl)
          refine ⟨by omega, ?_⟩
          refine ⟨⟨_, hk_o3 hx (show s.toNat < 2 from by omega) ea0⟩, _, _, _, _, (m_bytesError hF htr hx hV (s := s) (i := (κ 4 p.toNat)) (e := ((κ 5 p.toNat) + (κ 9 p.toNat))) (g := 1) ea0 (by omega) (by omega) (by omega) (by omega) (by omega) (by omega) (by omega)), (by first | exact Nat.le_of_ble_eq_true rfl | omega), (by first | exact Nat.le_of_ble_eq_true rfl | omega), mki_ (r := some (aI (v_bytesError κ s (κ 4 p.toNat) ((κ 5 p.toNat) + (κ 9 p.toNat)) 1))) ?_, fun _ _ q => q.elim⟩
          have t37 := v_bytesError_b κ s (κ 4 p.toNat) ((κ 5 p.toNat) + (κ 9 p.toNat)) 1
          have t38 := (bytesError_0 hV (s := s) (i := (κ 4 p.toNat)) (e := ((κ 5 p.toNat) + (κ 9 p.toNat))) (g := 1))
          refine mi_nl [(5, aL ((κ 5 p.toNat) + (κ 9 p.toNat))), (4, aI 1), (3, aI (κ 4 p.toNat)), (2, aI (v_streamError κ s (κ 4 p.toNat) 0)), (0, aR (a0)), (1, aR (a1))] rfl ?_
          refine ⟨by omega, fun (e39 : (v_bytesError κ s (κ 4 p.toNat) ((κ 5 p.toNat) + (κ 9 p.toNat)) 1) = 0) => ?_, fun (e39 : ¬ ((v_bytesError κ s (κ 4 p.toNat) ((κ 5 p.toNat) + (κ 9 p.toNat)) 1) = 0)) => ?_⟩
          · refine mi_nl [(2, aI (v_bytesError κ s (κ 4 p.toNat) ((κ 5 p.toNat) + (κ 9 p.toNat)) 1)), (5, aL ((κ 5 p.toNat) + (κ 9 p.toNat))), (4, aI 1), (3, aI (κ 4 p.toNat)), (0, aR (a0)), (1, aR (a1))] rfl ?_
            refine ⟨⟨_, hk_o3 hx (show s.toNat < 2 from by omega) ea0⟩, _, _, _, _, (m_makeThere hF htr hx hV (kaw_refl (h0 := h0) (bx := bx) (B := B) hW).2.1 (s := s) (i := (κ 4 p.toNat)) ea0 (by omega) (by omega) (by omega) (by omega) hN), (by first | exact Nat.le_of_ble_eq_true rfl | omega), (by first | exact Nat.le_of_ble_eq_true rfl | omega), mkiw (r := none) (fun B42 bx42 hx41 hV40 hA42 _ => ?_), fun _ _ q => q.elim⟩
            refine ⟨_, hk_o3 hx41 (show s.toNat < 2 from by omega) (ea0.trans (hA42.1 3 s.toNat (show s.toNat < 2 from by omega)).1), aR (B42 16 s.toNat), rfl, ?_⟩
            refine (Decidable.em (((s_makeThere κ s (κ 4 p.toNat)) 190 (mj s (κ 4 p.toNat))) = 1)).elim (fun e43 => ?_) (fun e43 => ?_)
            · refine ⟨256, _, some (B42 1 (mj s (κ 4 p.toNat))), hk_rs hx41 (show s.toNat < 2 from by omega) rfl, by omega, ka_y (f := 190) (t := 1) (s := s) (i := (κ 4 p.toNat)) (by omega) (by omega) (by omega) (e43), ?_⟩
              refine ⟨_, hk_o3 hx41 (show s.toNat < 2 from by omega) (ea0.trans (hA42.1 3 s.toNat (show s.toNat < 2 from by omega)).1), aR (B42 16 s.toNat), rfl, ?_⟩
              have e44 : ((s_makeThere κ s (κ 4 p.toNat)) 190 (mj s (κ 4 p.toNat))) = 1 := by omega
              refine ⟨256, _, some (B42 1 (mj s (κ 4 p.toNat))), hk_rs hx41 (show s.toNat < 2 from by omega) rfl, by omega, ka_y (f := 190) (t := 1) (s := s) (i := (κ 4 p.toNat)) (by omega) (by omega) (by omega) (e44), ?_⟩
              refine ⟨⟨_, hk_o3 hx41 (show s.toNat < 2 from by omega) (ea0.trans (hA42.1 3 s.toNat (show s.toNat < 2 from by omega)).1)⟩, _, _, _, _, (m_reach hF htr hx41 hV40 (kaw_trans (kaw_refl (h0 := h0) (bx := bx) (B := B) hW) hA42).2.1 (s := s) (i := (κ 4 p.toNat)) (p := p) (e := ((κ 5 p.toNat) + (κ 9 p.toNat))) (g := 1) (ea0.trans (hA42.1 3 s.toNat (show s.toNat < 2 from by omega)).1) rfl (ea1.trans (hA42.1 0 p.toNat (show p.toNat < 65 from by omega)).1) (by omega) (by omega) (by omega) (by omega) (by omega) (by omega) (show (s_makeThere κ s (κ 4 p.toNat)) 190 (mj s (κ 4 p.toNat)) = 1 from e43) (by omega) (by omega) (by omega) (by have z : kEnd κ p = ((κ 5 p.toNat) + (κ 9 p.toNat)) := (by unfold kEnd; first | rw [if_pos (by omega)] | rw [if_neg (by omega)]); rw [← z]; exact hT 1 (by omega) (by omega) (by omega) (by rw [z]; omega) (show (s_makeThere κ s (κ 4 p.toNat)) 190 (mj s (κ 4 p.toNat)) = 1 from e43))), (by first | exact Nat.le_of_ble_eq_true rfl | omega), (by first | exact Nat.le_of_ble_eq_true rfl | omega), mkiw (r := none) (fun B47 bx47 hx46 hV45 hA47 _ => ?_), fun _ _ q => q.elim⟩
              exact ⟨kRetIWP (P := fun r _ => 0 ≤ r ∧ r ≤ 6) (by first | exact (if_pos e4).trans ((if_neg e6).trans ((if_neg e7).trans ((if_pos e21).trans ((if_pos e39).trans (if_pos e43))))) | (unfold v_takeForReceiving; rw [if_pos e4, if_neg e6, if_neg e7, if_pos e21, if_pos e39, if_pos e43])) (by first | exact (if_pos e4).trans ((if_neg e6).trans ((if_neg e7).trans ((if_pos e21).trans ((if_pos e39).trans (if_pos e43))))) | (unfold s_takeForReceiving; rw [if_pos e4, if_neg e6, if_neg e7, if_pos e21, if_pos e39, if_pos e43])) hx46 hV45 (kaw_trans (kaw_trans (kaw_refl (h0 := h0) (bx := bx) (B := B) hW) hA42) hA47) (show 0 ≤ 0 ∧ 0 ≤ 6 from by omega), (by first | exact Nat.le_of_ble_eq_true rfl | omega), (by first | exact Nat.le_of_ble_eq_true rfl | omega)⟩
            · refine ⟨256, _, none, hk_rs hx41 (show s.toNat < 2 from by omega) rfl, by omega, ka_n (f := 190) (t := 1) (s := s) (i := (κ 4 p.toNat)) (by omega) (by omega) (by omega) e43, ?_⟩
              exact ⟨kRetIWP (P := fun r _ => 0 ≤ r ∧ r ≤ 6) (by first | exact (if_pos e4).trans ((if_neg e6).trans ((if_neg e7).trans ((if_pos e21).trans ((if_pos e39).trans (if_neg e43))))) | (unfold v_takeForReceiving; rw [if_pos e4, if_neg e6, if_neg e7, if_pos e21, if_pos e39, if_neg e43])) (by first | exact (if_pos e4).trans ((if_neg e6).trans ((if_neg e7).trans ((if_pos e21).trans ((if_pos e39).trans (if_neg e43))))) | (unfold s_takeForReceiving; rw [if_pos e4, if_neg e6, if_neg e7, if_pos e21, if_pos e39, if_neg e43])) hx41 hV40 (kaw_trans (kaw_refl (h0 := h0) (bx := bx) (B := B) hW) hA42) (show 0 ≤ 0 ∧ 0 ≤ 6 from by omega), (by first | exact Nat.le_of_ble_eq_true rfl | omega), (by first | exact Nat.le_of_ble_eq_true rfl | omega)⟩
          · refine mi_nl [(2, aI (v_bytesError κ s (κ 4 p.toNat) ((κ 5 p.toNat) + (κ 9 p.toNat)) 1)), (5, aL ((κ 5 p.toNat) + (κ 9 p.toNat))), (4, aI 1), (3, aI (κ 4 p.toNat)), (0, aR (a0)), (1, aR (a1))] rfl ?_
            exact ⟨kRetIWP (P := fun r _ => 0 ≤ r ∧ r ≤ 6) (by first | exact (if_pos e4).trans ((if_neg e6).trans ((if_neg e7).trans ((if_pos e21).trans (if_neg e39)))) | (unfold v_takeForReceiving; rw [if_pos e4, if_neg e6, if_neg e7, if_pos e21, if_neg e39])) (by first | exact (if_pos e4).trans ((if_neg e6).trans ((if_neg e7).trans ((if_pos e21).trans (if_neg e39)))) | (unfold s_takeForReceiving; rw [if_pos e4, if_neg e6, if_neg e7, if_pos e21, if_neg e39])) hx hV (kaw_refl (h0 := h0) (bx := bx) (B := B) hW) (show 0 ≤ (v_bytesError κ s (κ 4 p.toNat) ((κ 5 p.toNat) + (κ 9 p.toNat)) 1) ∧ (v_bytesError κ s (κ 4 p.toNat) ((κ 5 p.toNat) + (κ 9 p.toNat)) 1) ≤ 6 from by omega), (by first | exact Nat.le_of_ble_eq_true rfl | omega), (by first | exact Nat.le_of_ble_eq_true rfl | omega)⟩
    · refine ⟨⟨_, hk_o3 hx (show s.toNat < 2 from by omega) ea0⟩, _, _, _, _, (m_makeThere hF htr hx hV (kaw_refl (h0 := h0) (bx := bx) (B := B) hW).2.1 (s := s) (i := (κ 4 p.toNat)) ea0 (by omega) (by omega) (by omega) (by omega) hN), (by first | exact Nat.le_of_ble_eq_true rfl | omega), (by first | exact Nat.le_of_ble_eq_true rfl | omega), mkiw (r := none) (fun B50 bx50 hx49 hV48 hA50 _ => ?_), fun _ _ q => q.elim⟩
      exact ⟨kRetIWP (P := fun r _ => 0 ≤ r ∧ r ≤ 6) (by first | exact (if_pos e4).trans (if_pos e6) | (unfold v_takeForReceiving; rw [if_pos e4, if_pos e6])) (by first | exact (if_pos e4).trans (if_pos e6) | (unfold s_takeForReceiving; rw [if_pos e4, if_pos e6])) hx49 hV48 (kaw_trans (kaw_refl (h0 := h0) (bx := bx) (B := B) hW) hA50) (show 0 ≤ 0 ∧ 0 ≤ 6 from by omega), (by first | exact Nat.le_of_ble_eq_true rfl | omega), (by first | exact Nat.le_of_ble_eq_true rfl | omega)⟩
  · refine mi_nl [(2, aI (v_streamError κ s (κ 4 p.toNat) 0)), (0, aR (a0)), (1, aR (a1))] rfl ?_
    exact ⟨kRetIWP (P := fun r _ => 0 ≤ r ∧ r ≤ 6) (by first | exact if_neg e4 | (unfold v_takeForReceiving; rw [if_neg e4])) (by first | exact if_neg e4 | (unfold s_takeForReceiving; rw [if_neg e4])) hx hV (kaw_refl (h0 := h0) (bx := bx) (B := B) hW) (show 0 ≤ (v_streamError κ s (κ 4 p.toNat) 0) ∧ (v_streamError κ s (κ 4 p.toNat) 0) ≤ 6 from by omega), (by first | exact Nat.le_of_ble_eq_true rfl | omega), (by first | exact Nat.le_of_ble_eq_true rfl | omega)⟩
set_option maxRecDepth 100000 in
theorem s_takeForReceiving_fr {f kk : Nat} {s p : Int} (hf : (Nat.blt f 1000 && !([100, 101, 102, 103, 104, 105, 106, 107, 108, 109, 110, 111, 112, 113, 190, 200, 201, 202, 203, 204, 205, 206, 207, 208, 209, 210, 211, 290, 306, 312, 313, 314, 315, 360, 404, 405, 600, 601, 602].elem f)) = true) : s_takeForReceiving κ s p f kk = κ f kk := by
  have n100 : f ≠ 100 := by rintro rfl; exact absurd hf (by decide)
  have n101 : f ≠ 101 := by rintro rfl; exact absurd hf (by decide)
  have n102 : f ≠ 102 := by rintro rfl; exact absurd hf (by decide)
  have n103 : f ≠ 103 := by rintro rfl; exact absurd hf (by decide)
  have n104 : f ≠ 104 := by rintro rfl; exact absurd hf (by decide)
  have n105 : f ≠ 105 := by rintro rfl; exact absurd hf (by decide)
  have n106 : f ≠ 106 := by rintro rfl; exact absurd hf (by decide)
  have n107 : f ≠ 107 := by rintro rfl; exact absurd hf (by decide)
  have n108 : f ≠ 108 := by rintro rfl; exact absurd hf (by decide)
  have n109 : f ≠ 109 := by rintro rfl; exact absurd hf (by decide)
  have n110 : f ≠ 110 := by rintro rfl; exact absurd hf (by decide)
  have n111 : f ≠ 111 := by rintro rfl; exact absurd hf (by decide)
  have n112 : f ≠ 112 := by rintro rfl; exact absurd hf (by decide)
  have n113 : f ≠ 113 := by rintro rfl; exact absurd hf (by decide)
  have n190 : f ≠ 190 := by rintro rfl; exact absurd hf (by decide)
  have n200 : f ≠ 200 := by rintro rfl; exact absurd hf (by decide)
  have n201 : f ≠ 201 := by rintro rfl; exact absurd hf (by decide)
  have n202 : f ≠ 202 := by rintro rfl; exact absurd hf (by decide)
  have n203 : f ≠ 203 := by rintro rfl; exact absurd hf (by decide)
  have n204 : f ≠ 204 := by rintro rfl; exact absurd hf (by decide)
  have n205 : f ≠ 205 := by rintro rfl; exact absurd hf (by decide)
  have n206 : f ≠ 206 := by rintro rfl; exact absurd hf (by decide)
  have n207 : f ≠ 207 := by rintro rfl; exact absurd hf (by decide)
  have n208 : f ≠ 208 := by rintro rfl; exact absurd hf (by decide)
  have n209 : f ≠ 209 := by rintro rfl; exact absurd hf (by decide)
  have n210 : f ≠ 210 := by rintro rfl; exact absurd hf (by decide)
  have n211 : f ≠ 211 := by rintro rfl; exact absurd hf (by decide)
  have n290 : f ≠ 290 := by rintro rfl; exact absurd hf (by decide)
  have n306 : f ≠ 306 := by rintro rfl; exact absurd hf (by decide)
  have n312 : f ≠ 312 := by rintro rfl; exact absurd hf (by decide)
  have n313 : f ≠ 313 := by rintro rfl; exact absurd hf (by decide)
  have n314 : f ≠ 314 := by rintro rfl; exact absurd hf (by decide)
  have n315 : f ≠ 315 := by rintro rfl; exact absurd hf (by decide)
  have n360 : f ≠ 360 := by rintro rfl; exact absurd hf (by decide)
  have n404 : f ≠ 404 := by rintro rfl; exact absurd hf (by decide)
  have n405 : f ≠ 405 := by rintro rfl; exact absurd hf (by decide)
  have n600 : f ≠ 600 := by rintro rfl; exact absurd hf (by decide)
  have n601 : f ≠ 601 := by rintro rfl; exact absurd hf (by decide)
  have n602 : f ≠ 602 := by rintro rfl; exact absurd hf (by decide)
  have lt : f < 1000 := Nat.le_of_ble_eq_true (Bool.and_eq_true_iff.mp hf).1
  have f100 : ∀ (m : Nat → Nat → Int) (a b : Nat) (v : Int), u2 m 100 a v f b = m f b := fun m a b v => u2_f n100
  have f101 : ∀ (m : Nat → Nat → Int) (a b : Nat) (v : Int), u2 m 101 a v f b = m f b := fun m a b v => u2_f n101
  have f102 : ∀ (m : Nat → Nat → Int) (a b : Nat) (v : Int), u2 m 102 a v f b = m f b := fun m a b v => u2_f n102
  have f103 : ∀ (m : Nat → Nat → Int) (a b : Nat) (v : Int), u2 m 103 a v f b = m f b := fun m a b v => u2_f n103
  have f104 : ∀ (m : Nat → Nat → Int) (a b : Nat) (v : Int), u2 m 104 a v f b = m f b := fun m a b v => u2_f n104
  have f105 : ∀ (m : Nat → Nat → Int) (a b : Nat) (v : Int), u2 m 105 a v f b = m f b := fun m a b v => u2_f n105
  have f106 : ∀ (m : Nat → Nat → Int) (a b : Nat) (v : Int), u2 m 106 a v f b = m f b := fun m a b v => u2_f n106
  have f107 : ∀ (m : Nat → Nat → Int) (a b : Nat) (v : Int), u2 m 107 a v f b = m f b := fun m a b v => u2_f n107
  have f108 : ∀ (m : Nat → Nat → Int) (a b : Nat) (v : Int), u2 m 108 a v f b = m f b := fun m a b v => u2_f n108
  have f109 : ∀ (m : Nat → Nat → Int) (a b : Nat) (v : Int), u2 m 109 a v f b = m f b := fun m a b v => u2_f n109
  have f110 : ∀ (m : Nat → Nat → Int) (a b : Nat) (v : Int), u2 m 110 a v f b = m f b := fun m a b v => u2_f n110
  have f111 : ∀ (m : Nat → Nat → Int) (a b : Nat) (v : Int), u2 m 111 a v f b = m f b := fun m a b v => u2_f n111
  have f112 : ∀ (m : Nat → Nat → Int) (a b : Nat) (v : Int), u2 m 112 a v f b = m f b := fun m a b v => u2_f n112
  have f113 : ∀ (m : Nat → Nat → Int) (a b : Nat) (v : Int), u2 m 113 a v f b = m f b := fun m a b v => u2_f n113
  have f190 : ∀ (m : Nat → Nat → Int) (a b : Nat) (v : Int), u2 m 190 a v f b = m f b := fun m a b v => u2_f n190
  have f200 : ∀ (m : Nat → Nat → Int) (a b : Nat) (v : Int), u2 m 200 a v f b = m f b := fun m a b v => u2_f n200
  have f201 : ∀ (m : Nat → Nat → Int) (a b : Nat) (v : Int), u2 m 201 a v f b = m f b := fun m a b v => u2_f n201
  have f202 : ∀ (m : Nat → Nat → Int) (a b : Nat) (v : Int), u2 m 202 a v f b = m f b := fun m a b v => u2_f n202
  have f203 : ∀ (m : Nat → Nat → Int) (a b : Nat) (v : Int), u2 m 203 a v f b = m f b := fun m a b v => u2_f n203
  have f204 : ∀ (m : Nat → Nat → Int) (a b : Nat) (v : Int), u2 m 204 a v f b = m f b := fun m a b v => u2_f n204
  have f205 : ∀ (m : Nat → Nat → Int) (a b : Nat) (v : Int), u2 m 205 a v f b = m f b := fun m a b v => u2_f n205
  have f206 : ∀ (m : Nat → Nat → Int) (a b : Nat) (v : Int), u2 m 206 a v f b = m f b := fun m a b v => u2_f n206
  have f207 : ∀ (m : Nat → Nat → Int) (a b : Nat) (v : Int), u2 m 207 a v f b = m f b := fun m a b v => u2_f n207
  have f208 : ∀ (m : Nat → Nat → Int) (a b : Nat) (v : Int), u2 m 208 a v f b = m f b := fun m a b v => u2_f n208
  have f209 : ∀ (m : Nat → Nat → Int) (a b : Nat) (v : Int), u2 m 209 a v f b = m f b := fun m a b v => u2_f n209
  have f210 : ∀ (m : Nat → Nat → Int) (a b : Nat) (v : Int), u2 m 210 a v f b = m f b := fun m a b v => u2_f n210
  have f211 : ∀ (m : Nat → Nat → Int) (a b : Nat) (v : Int), u2 m 211 a v f b = m f b := fun m a b v => u2_f n211
  have f290 : ∀ (m : Nat → Nat → Int) (a b : Nat) (v : Int), u2 m 290 a v f b = m f b := fun m a b v => u2_f n290
  have f306 : ∀ (m : Nat → Nat → Int) (a b : Nat) (v : Int), u2 m 306 a v f b = m f b := fun m a b v => u2_f n306
  have f312 : ∀ (m : Nat → Nat → Int) (a b : Nat) (v : Int), u2 m 312 a v f b = m f b := fun m a b v => u2_f n312
  have f313 : ∀ (m : Nat → Nat → Int) (a b : Nat) (v : Int), u2 m 313 a v f b = m f b := fun m a b v => u2_f n313
  have f314 : ∀ (m : Nat → Nat → Int) (a b : Nat) (v : Int), u2 m 314 a v f b = m f b := fun m a b v => u2_f n314
  have f315 : ∀ (m : Nat → Nat → Int) (a b : Nat) (v : Int), u2 m 315 a v f b = m f b := fun m a b v => u2_f n315
  have f360 : ∀ (m : Nat → Nat → Int) (a b : Nat) (v : Int), u2 m 360 a v f b = m f b := fun m a b v => u2_f n360
  have f404 : ∀ (m : Nat → Nat → Int) (a b : Nat) (v : Int), u2 m 404 a v f b = m f b := fun m a b v => u2_f n404
  have f405 : ∀ (m : Nat → Nat → Int) (a b : Nat) (v : Int), u2 m 405 a v f b = m f b := fun m a b v => u2_f n405
  have f600 : ∀ (m : Nat → Nat → Int) (a b : Nat) (v : Int), u2 m 600 a v f b = m f b := fun m a b v => u2_f n600
  have f601 : ∀ (m : Nat → Nat → Int) (a b : Nat) (v : Int), u2 m 601 a v f b = m f b := fun m a b v => u2_f n601
  have f602 : ∀ (m : Nat → Nat → Int) (a b : Nat) (v : Int), u2 m 602 a v f b = m f b := fun m a b v => u2_f n602
  have fw : ∀ (m : Nat → Nat → Int) (r a b : Nat) (v : Int), u2 m (1000 + r) a v f b = m f b := fun m r a b v => u2_f (by omega)
  have c_makeThere : ∀ (m : Nat → Nat → Int) (z_s z_i : Int) (k : Nat), s_makeThere m z_s z_i f k = m f k := by intros; exact s_makeThere_fr (Bool.and_eq_true_iff.mpr ⟨Nat.ble_eq_true_of_le lt, by simp only [List.elem_cons, List.elem_nil, beq_eq_false_iff_ne.mpr n100, beq_eq_false_iff_ne.mpr n101, beq_eq_false_iff_ne.mpr n102, beq_eq_false_iff_ne.mpr n103, beq_eq_false_iff_ne.mpr n104, beq_eq_false_iff_ne.mpr n105, beq_eq_false_iff_ne.mpr n106, beq_eq_false_iff_ne.mpr n107, beq_eq_false_iff_ne.mpr n108, beq_eq_false_iff_ne.mpr n109, beq_eq_false_iff_ne.mpr n110, beq_eq_false_iff_ne.mpr n111, beq_eq_false_iff_ne.mpr n112, beq_eq_false_iff_ne.mpr n113, beq_eq_false_iff_ne.mpr n190, beq_eq_false_iff_ne.mpr n200, beq_eq_false_iff_ne.mpr n201, beq_eq_false_iff_ne.mpr n202, beq_eq_false_iff_ne.mpr n203, beq_eq_false_iff_ne.mpr n204, beq_eq_false_iff_ne.mpr n205, beq_eq_false_iff_ne.mpr n206, beq_eq_false_iff_ne.mpr n207, beq_eq_false_iff_ne.mpr n208, beq_eq_false_iff_ne.mpr n209, beq_eq_false_iff_ne.mpr n210, beq_eq_false_iff_ne.mpr n211, beq_eq_false_iff_ne.mpr n290, beq_eq_false_iff_ne.mpr n306, beq_eq_false_iff_ne.mpr n404, beq_eq_false_iff_ne.mpr n600, beq_eq_false_iff_ne.mpr n601, beq_eq_false_iff_ne.mpr n602]; rfl⟩)
  have c_reach : ∀ (m : Nat → Nat → Int) (z_s z_i z_p z_e z_g : Int) (k : Nat), s_reach m z_s z_i z_p z_e z_g f k = m f k := by intros; exact s_reach_fr (Bool.and_eq_true_iff.mpr ⟨Nat.ble_eq_true_of_le lt, by simp only [List.elem_cons, List.elem_nil, beq_eq_false_iff_ne.mpr n100, beq_eq_false_iff_ne.mpr n101, beq_eq_false_iff_ne.mpr n103, beq_eq_false_iff_ne.mpr n104, beq_eq_false_iff_ne.mpr n105, beq_eq_false_iff_ne.mpr n112, beq_eq_false_iff_ne.mpr n113, beq_eq_false_iff_ne.mpr n312, beq_eq_false_iff_ne.mpr n313, beq_eq_false_iff_ne.mpr n314, beq_eq_false_iff_ne.mpr n315, beq_eq_false_iff_ne.mpr n360, beq_eq_false_iff_ne.mpr n405, beq_eq_false_iff_ne.mpr n600, beq_eq_false_iff_ne.mpr n601, beq_eq_false_iff_ne.mpr n602]; rfl⟩)
  unfold s_takeForReceiving
  repeat' with_reducible apply f_ite
  all_goals first | rfl | simp only [f100, f101, f102, f103, f104, f105, f106, f107, f108, f109, f110, f111, f112, f113, f190, f200, f201, f202, f203, f204, f205, f206, f207, f208, f209, f210, f211, f290, f306, f312, f313, f314, f315, f360, f404, f405, f600, f601, f602, fw, c_makeThere, c_reach]
def v_takeIn (κ : Nat → Nat → Int) (s p : Int) : Int := (if (κ 3 p.toNat) = 5 then (v_takeForSending κ s p) else (if (κ 3 p.toNat) = 6 then (v_takeForReceiving κ s p) else (if (κ 3 p.toNat) = 7 then (v_takeForReceiving κ s p) else (if (κ 3 p.toNat) = 8 then (v_takeForReceiving κ s p) else (if (κ 3 p.toNat) = 9 then (v_takeForReceiving κ s p) else (if (κ 3 p.toNat) = 10 then (v_takeForReceiving κ s p) else (if (κ 3 p.toNat) = 11 then (v_takeForReceiving κ s p) else (if (κ 3 p.toNat) = 12 then (v_takeForReceiving κ s p) else (if (κ 3 p.toNat) = 13 then (v_takeForReceiving κ s p) else (if (κ 3 p.toNat) = 14 then (v_takeForReceiving κ s p) else (if (κ 3 p.toNat) = 15 then (v_takeForReceiving κ s p) else (if (κ 3 p.toNat) = 16 then 0 else (if (κ 3 p.toNat) = 17 then (v_takeForSending κ s p) else (if (κ 3 p.toNat) = 18 then 0 else (if (κ 3 p.toNat) = 19 then 0 else (if (κ 3 p.toNat) = 20 then 0 else (if (κ 3 p.toNat) = 21 then (v_takeForReceiving κ s p) else (if (κ 3 p.toNat) = 22 then 0 else (if (κ 3 p.toNat) = 23 then 0 else (v_takeForReceiving κ s p))))))))))))))))))))
def s_takeIn (κ : Nat → Nat → Int) (s p : Int) : Nat → Nat → Int := (if (κ 3 p.toNat) = 5 then (s_takeForSending κ s p) else (if (κ 3 p.toNat) = 6 then (s_takeForReceiving κ s p) else (if (κ 3 p.toNat) = 7 then (s_takeForReceiving κ s p) else (if (κ 3 p.toNat) = 8 then (s_takeForReceiving κ s p) else (if (κ 3 p.toNat) = 9 then (s_takeForReceiving κ s p) else (if (κ 3 p.toNat) = 10 then (s_takeForReceiving κ s p) else (if (κ 3 p.toNat) = 11 then (s_takeForReceiving κ s p) else (if (κ 3 p.toNat) = 12 then (s_takeForReceiving κ s p) else (if (κ 3 p.toNat) = 13 then (s_takeForReceiving κ s p) else (if (κ 3 p.toNat) = 14 then (s_takeForReceiving κ s p) else (if (κ 3 p.toNat) = 15 then (s_takeForReceiving κ s p) else (if (κ 3 p.toNat) = 16 then (u2 κ 310 s.toNat (v_maxL (κ 310 s.toNat) (κ 4 p.toNat))) else (if (κ 3 p.toNat) = 17 then (s_takeForSending κ s p) else (if (κ 3 p.toNat) = 18 then (s_raiseLimit κ ((2 * s) + ((κ 3 p.toNat) - 18)) (κ 4 p.toNat)) else (if (κ 3 p.toNat) = 19 then (s_raiseLimit κ ((2 * s) + ((κ 3 p.toNat) - 18)) (κ 4 p.toNat)) else (if (κ 3 p.toNat) = 20 then κ else (if (κ 3 p.toNat) = 21 then (s_takeForReceiving κ s p) else (if (κ 3 p.toNat) = 22 then κ else (if (κ 3 p.toNat) = 23 then κ else (s_takeForReceiving κ s p))))))))))))))))))))
set_option maxRecDepth 100000 in
theorem m_takeIn (hF : mm_F G) (htr : L.stackTraces = false) (hx : kx B bx κ) (hV : kV κ) (hW : kW κ) {s p : Int} {a0 a1 : Nat} (ea0 : a0 = B 3 s.toNat) (ea1 : a1 = B 0 p.toNat) (h1 : 0 ≤ s) (h2 : s ≤ 1) (hf1 : 0 ≤ p) (hf2 : p ≤ 64) (hg8 : κ 360 ((16 * s) + 8).toNat ≤ 64) (hg9 : κ 360 ((16 * s) + 9).toNat ≤ 64) (hN : kNT κ s) (hT : kTk κ s p) :
    mm_Met L G SX3_takeIn [.ref a0, .ref a1] (hk G B bx h0 κ) 321 (1664 + kTin κ s p) (mRetW G bx B h0 κ (some (.int (iI (v_takeIn κ s p)))) (s_takeIn κ s p) ((fun r _ => 0 ≤ r ∧ r ≤ 6) (v_takeIn κ s p) (s_takeIn κ s p))) mm_no := by
  refine mi_meth MX3_takeIn 400 hF htr okX3_takeIn (av := [aR a0, aR a1]) (by decide +kernel) (Nat.le_of_ble_eq_true rfl) cmX3_takeIn (fun θ hc => ?_)
  have hti : ¬ 16 ≤ κ 3 p.toNat → ¬ κ 3 p.toNat = 5 → kTin κ s p = kTfr κ s p := fun a b => if_neg (fun z => z.elim a b)
  have ht21 : κ 3 p.toNat = 21 → kTfr κ s p = 0 := fun a => if_pos (Or.inl a)
  refine ⟨_, hk_o0 hx (show p.toNat < 65 from by omega) ea1, aI (κ 3 p.toNat), rfl, ?_⟩
  have t1 := (show 0 ≤ κ 3 p.toNat ∧ κ 3 p.toNat ≤ 23 from hV.g 3 p.toNat rfl)
  refine ⟨by omega, ⟨fun (e2 : (κ 3 p.toNat) = 5) => ?_, fun (e3 : (κ 3 p.toNat) = 6) => ?_, fun (e4 : (κ 3 p.toNat) = 7) => ?_, fun (e5 : (κ 3 p.toNat) = 8) => ?_, fun (e6 : (κ 3 p.toNat) = 9) => ?_, fun (e7 : (κ 3 p.toNat) = 10) => ?_, fun (e8 : (κ 3 p.toNat) = 11) => ?_, fun (e9 : (κ 3 p.toNat) = 12) => ?_, fun (e10 : (κ 3 p.toNat) = 13) => ?_, fun (e11 : (κ 3 p.toNat) = 14) => ?_, fun (e12 : (κ 3 p.toNat) = 15) => ?_, fun (e13 : (κ 3 p.toNat) = 16) => ?_, fun (e14 : (κ 3 p.toNat) = 17) => ?_, fun (e15 : (κ 3 p.toNat) = 18) => ?_, fun (e16 : (κ 3 p.toNat) = 19) => ?_, fun (e17 : (κ 3 p.toNat) = 20) => ?_, fun (e18 : (κ 3 p.toNat) = 21) => ?_, fun (e19 : (κ 3 p.toNat) = 22) => ?_, fun (e20 : (κ 3 p.toNat) = 23) => ?_, trivial⟩, fun (e21 : (κ 3 p.toNat) < 5 ∨ 23 < (κ 3 p.toNat)) => ?_⟩
  · refine ⟨⟨_, hk_o3 hx (show s.toNat < 2 from by omega) ea0⟩, _, _, _, _, (m_takeForSending hF htr hx hV (kaw_refl (h0 := h0) (bx := bx) (B := B) hW).2.1 (s := s) (p := p) ea0 ea1 (by omega) (by omega) (by omega) (by omega) (by omega) (by omega) (by omega)), (by first | exact Nat.le_of_ble_eq_true rfl | omega), (by first | exact Nat.le_of_ble_eq_true rfl | omega), mkiw (r := some (aI (v_takeForSending κ s p))) (fun B24 bx24 hx23 hV22 hA24 hp25 => ?_), fun _ _ q => q.elim⟩
    have hp25 : 0 ≤ (v_takeForSending κ s p) ∧ (v_takeForSending κ s p) ≤ 6 := hp25
    exact ⟨kRetIWP (P := fun r _ => 0 ≤ r ∧ r ≤ 6) (by first | exact if_pos e2 | (unfold v_takeIn; rw [if_pos e2])) (by first | exact if_pos e2 | (unfold s_takeIn; rw [if_pos e2])) hx23 hV22 (kaw_trans (kaw_refl (h0 := h0) (bx := bx) (B := B) hW) hA24) (show 0 ≤ (v_takeForSending κ s p) ∧ (v_takeForSending κ s p) ≤ 6 from by omega), (by first | exact Nat.le_of_ble_eq_true rfl | omega), (by first | exact Nat.le_of_ble_eq_true rfl | omega)⟩
  · have e2n : ¬ ((κ 3 p.toNat) = 5) := by omega
    refine ⟨⟨_, hk_o3 hx (show s.toNat < 2 from by omega) ea0⟩, _, _, _, _, (m_takeForReceiving hF htr hx hV (kaw_refl (h0 := h0) (bx := bx) (B := B) hW).2.1 (s := s) (p := p) ea0 ea1 (by omega) (by omega) (by omega) (by omega) (by omega) (by omega) (by omega) (by omega)), (by first | exact Nat.le_of_ble_eq_true rfl | omega), (by first | exact Nat.le_of_ble_eq_true rfl | omega), mkiw (r := some (aI (v_takeForReceiving κ s p))) (fun B28 bx28 hx27 hV26 hA28 hp29 => ?_), fun _ _ q => q.elim⟩
    have hp29 : 0 ≤ (v_takeForReceiving κ s p) ∧ (v_takeForReceiving κ s p) ≤ 6 := hp29
    exact ⟨kRetIWP (P := fun r _ => 0 ≤ r ∧ r ≤ 6) (by first | exact (if_neg e2n).trans (if_pos e3) | (unfold v_takeIn; rw [if_neg e2n, if_pos e3])) (by first | exact (if_neg e2n).trans (if_pos e3) | (unfold s_takeIn; rw [if_neg e2n, if_pos e3])) hx27 hV26 (kaw_trans (kaw_refl (h0 := h0) (bx := bx) (B := B) hW) hA28) (show 0 ≤ (v_takeForReceiving κ s p) ∧ (v_takeForReceiving κ s p) ≤ 6 from by omega), (by first | exact Nat.le_of_ble_eq_true rfl | omega), (by first | exact Nat.le_of_ble_eq_true rfl | omega)⟩
  · have e2n : ¬ ((κ 3 p.toNat) = 5) := by omega
    have e3n : ¬ ((κ 3 p.toNat) = 6) := by omega
    refine ⟨⟨_, hk_o3 hx (show s.toNat < 2 from by omega) ea0⟩, _, _, _, _, (m_takeForReceiving hF htr hx hV (kaw_refl (h0 := h0) (bx := bx) (B := B) hW).2.1 (s := s) (p := p) ea0 ea1 (by omega) (by omega) (by omega) (by omega) (by omega) (by omega) (by omega) (by omega)), (by first | exact Nat.le_of_ble_eq_true rfl | omega), (by first | exact Nat.le_of_ble_eq_true rfl | omega), mkiw (r := some (aI (v_takeForReceiving κ s p))) (fun B32 bx32 hx31 hV30 hA32 hp33 => ?_), fun _ _ q => q.elim⟩
    have hp33 : 0 ≤ (v_takeForReceiving κ s p) ∧ (v_takeForReceiving κ s p) ≤ 6 := hp33
    exact ⟨kRetIWP (P := fun r _ => 0 ≤ r ∧ r ≤ 6) (by first | exact (if_neg e2n).trans ((if_neg e3n).trans (if_pos e4)) | (unfold v_takeIn; rw [if_neg e2n, if_neg e3n, if_pos e4])) (by first | exact (if_neg e2n).trans ((if_neg e3n).trans (if_pos e4)) | (unfold s_takeIn; rw [if_neg e2n, if_neg e3n, if_pos e4])) hx31 hV30 (kaw_trans (kaw_refl (h0 := h0) (bx := bx) (B := B) hW) hA32) (show 0 ≤ (v_takeForReceiving κ s p) ∧ (v_takeForReceiving κ s p) ≤ 6 from by omega), (by first | exact Nat.le_of_ble_eq_true rfl | omega), (by first | exact Nat.le_of_ble_eq_true rfl | omega)⟩
  · have e2n : ¬ ((κ 3 p.toNat) = 5) := by omega
    have e3n : ¬ ((κ 3 p.toNat) = 6) := by omega
    have e4n : ¬ ((κ 3 p.toNat) = 7) := by omega
    refine ⟨⟨_, hk_o3 hx (show s.toNat < 2 from by omega) ea0⟩, _, _, _, _, (m_takeForReceiving hF htr hx hV (kaw_refl (h0 := h0) (bx := bx) (B := B) hW).2.1 (s := s) (p := p) ea0 ea1 (by omega) (by omega) (by omega) (by omega) (by omega) (by omega) (by omega) (by omega)), (by first | exact Nat.le_of_ble_eq_true rfl | omega), (by first | exact Nat.le_of_ble_eq_true rfl | omega), mkiw (r := some (aI (v_takeForReceiving κ s p))) (fun B36 bx36 hx35 hV34 hA36 hp37 => ?_), fun _ _ q => q.elim⟩
    have hp37 : 0 ≤ (v_takeForReceiving κ s p) ∧ (v_takeForReceiving κ s p) ≤ 6 := hp37
    exact ⟨kRetIWP (P := fun r _ => 0 ≤ r ∧ r ≤ 6) (by first | exact (if_neg e2n).trans ((if_neg e3n).trans ((if_neg e4n).trans (if_pos e5))) | (unfold v_takeIn; rw [if_neg e2n, if_neg e3n, if_neg e4n, if_pos e5])) (by first | exact (if_neg e2n).trans ((if_neg e3n).trans ((if_neg e4n).trans (if_pos e5))) | (unfold s_takeIn; rw [if_neg e2n, if_neg e3n, if_neg e4n, if_pos e5])) hx35 hV34 (kaw_trans (kaw_refl (h0 := h0) (bx := bx) (B := B) hW) hA36) (show 0 ≤ (v_takeForReceiving κ s p) ∧ (v_takeForReceiving κ s p) ≤ 6 from by omega), (by first | exact Nat.le_of_ble_eq_true rfl | omega), (by first | exact Nat.le_of_ble_eq_true rfl | omega)⟩
  · have e2n : ¬ ((κ 3 p.toNat) = 5) := by omega
    have e3n : ¬ ((κ 3 p.toNat) = 6) := by omega
    have e4n : ¬ ((κ 3 p.toNat) = 7) := by omega
    have e5n : ¬ ((κ 3 p.toNat) = 8) := by omega
    refine ⟨⟨_, hk_o3 hx (show s.toNat < 2 from by omega) ea0⟩, _, _, _, _, (m_takeForReceiving hF htr hx hV (kaw_refl (h0 := h0) (bx := bx) (B := B) hW).2.1 (s := s) (p := p) ea0 ea1 (by omega) (by omega) (by omega) (by omega) (by omega) (by omega) (by omega) (by omega)), (by first | exact Nat.le_of_ble_eq_true rfl | omega), (by first | exact Nat.le_of_ble_eq_true rfl | omega), mkiw (r := some (aI (v_takeForReceiving κ s p))) (fun B40 bx40 hx39 hV38 hA40 hp41 => ?_), fun _ _ q => q.elim⟩
    have hp41 : 0 ≤ (v_takeForReceiving κ s p) ∧ (v_takeForReceiving κ s p) ≤ 6 := hp41
    exact ⟨kRetIWP (P := fun r _ => 0 ≤ r ∧ r ≤ 6) (by first | exact (if_neg e2n).trans ((if_neg e3n).trans ((if_neg e4n).trans ((if_neg e5n).trans (if_pos e6)))) | (unfold v_takeIn; rw [if_neg e2n, if_neg e3n, if_neg e4n, if_neg e5n, if_pos e6])) (by first | exact (if_neg e2n).trans ((if_neg e3n).trans ((if_neg e4n).trans ((if_neg e5n).trans (if_pos e6)))) | (unfold s_takeIn; rw [if_neg e2n, if_neg e3n, if_neg e4n, if_neg e5n, if_pos e6])) hx39 hV38 (kaw_trans (kaw_refl (h0 := h0) (bx := bx) (B := B) hW) hA40) (show 0 ≤ (v_takeForReceiving κ s p) ∧ (v_takeForReceiving κ s p) ≤ 6 from by omega), (by first | exact Nat.le_of_ble_eq_true rfl | omega), (by first | exact Nat.le_of_ble_eq_true rfl | omega)⟩
  · have e2n : ¬ ((κ 3 p.toNat) = 5) := by omega
    have e3n : ¬ ((κ 3 p.toNat) = 6) := by omega
    have e4n : ¬ ((κ 3 p.toNat) = 7) := by omega
    have e5n : ¬ ((κ 3 p.toNat) = 8) := by omega
    have e6n : ¬ ((κ 3 p.toNat) = 9) := by omega
    refine ⟨⟨_, hk_o3 hx (show s.toNat < 2 from by omega) ea0⟩, _, _, _, _, (m_takeForReceiving hF htr hx hV (kaw_refl (h0 := h0) (bx := bx) (B := B) hW).2.1 (s := s) (p := p) ea0 ea1 (by omega) (by omega) (by omega) (by omega) (by omega) (by omega) (by omega) (by omega)), (by first | exact Nat.le_of_ble_eq_true rfl | omega), (by first | exact Nat.le_of_ble_eq_true rfl | omega), mkiw (r := some (aI (v_takeForReceiving κ s p))) (fun B44 bx44 hx43 hV42 hA44 hp45 => ?_), fun _ _ q => q.elim⟩
    have hp45 : 0 ≤ (v_takeForReceiving κ s p) ∧ (v_takeForReceiving κ s p) ≤ 6 := hp45
    exact ⟨kRetIWP (P := fun r _ => 0 ≤ r ∧ r ≤ 6) (by first | exact (if_neg e2n).trans ((if_neg e3n).trans ((if_neg e4n).trans ((if_neg e5n).trans ((if_neg e6n).trans (if_pos e7))))) | (unfold v_takeIn; rw [if_neg e2n, if_neg e3n, if_neg e4n, if_neg e5n, if_neg e6n, if_pos e7])) (by first | exact (if_neg e2n).trans ((if_neg e3n).trans ((if_neg e4n).trans ((if_neg e5n).trans ((if_neg e6n).trans (if_pos e7))))) | (unfold s_takeIn; rw [if_neg e2n, if_neg e3n, if_neg e4n, if_neg e5n, if_neg e6n, if_pos e7])) hx43 hV42 (kaw_trans (kaw_refl (h0 := h0) (bx := bx) (B := B) hW) hA44) (show 0 ≤ (v_takeForReceiving κ s p) ∧ (v_takeForReceiving κ s p) ≤ 6 from by omega), (by first | exact Nat.le_of_ble_eq_true rfl | omega), (by first | exact Nat.le_of_ble_eq_true rfl | omega)⟩
  · have e2n : ¬ ((κ 3 p.toNat) = 5) := by omega
    have e3n : ¬ ((κ 3 p.toNat) = 6) := by omega
    have e4n : ¬ ((κ 3 p.toNat) = 7) := by omega
    have e5n : ¬ ((κ 3 p.toNat) = 8) := by omega
    have e6n : ¬ ((κ 3 p.toNat) = 9) := by omega
    have e7n : ¬ ((κ 3 p.toNat) = 10) := by omega
    refine ⟨⟨_, hk_o3 hx (show s.toNat < 2 from by omega) ea0⟩, _, _, _, _, (m_takeForReceiving hF htr hx hV (kaw_refl (h0 := h0) (bx := bx) (B := B) hW).2.1 (s := s) (p := p) ea0 ea1 (by omega) (by omega) (by omega) (by omega) (by omega) (by omega) (by omega) (by omega)), (by first | exact Nat.le_of_ble_eq_true rfl | omega), (by first | exact Nat.le_of_ble_eq_true rfl | omega), mkiw (r := some (aI (v_takeForReceiving κ s p))) (fun B48 bx48 hx47 hV46 hA48 hp49 => ?_), fun _ _ q => q.elim⟩
    have hp49 : 0 ≤ (v_takeForReceiving κ s p) ∧ (v_takeForReceiving κ s p) ≤ 6 := hp49
    exact ⟨kRetIWP (P := fun r _ => 0 ≤ r ∧ r ≤ 6) (by first | exact (if_neg e2n).trans ((if_neg e3n).trans ((if_neg e4n).trans ((if_neg e5n).trans ((if_neg e6n).trans ((if_neg e7n).trans (if_pos e8)))))) | (unfold v_takeIn; rw [if_neg e2n, if_neg e3n, if_neg e4n, if_neg e5n, if_neg e6n, if_neg e7n, if_pos e8])) (by first | exact (if_neg e2n).trans ((if_neg e3n).trans ((if_neg e4n).trans ((if_neg e5n).trans ((if_neg e6n).trans ((if_neg e7n).trans (if_pos e8)))))) | (unfold s_takeIn; rw [if_neg e2n, if_neg e3n, if_neg e4n, if_neg e5n, if_neg e6n, if_neg e7n, if_pos e8])) hx47 hV46 (kaw_trans (kaw_refl (h0 := h0) (bx := bx) (B := B) hW) hA48) (show 0 ≤ (v_takeForReceiving κ s p) ∧ (v_takeForReceiving κ s p) ≤ 6 from by omega), (by first | exact Nat.le_of_ble_eq_true rfl | omega), (by first | exact Nat.le_of_ble_eq_true rfl | omega)⟩
  · have e2n : ¬ ((κ 3 p.toNat) = 5) := by omega
    have e3n : ¬ ((κ 3 p.toNat) = 6) := by omega
    have e4n : ¬ ((κ 3 p.toNat) = 7) := by omega
    have e5n : ¬ ((κ 3 p.toNat) = 8) := by omega
    have e6n : ¬ ((κ 3 p.toNat) = 9) := by omega
    have e7n : ¬ ((κ 3 p.toNat) = 10) := by omega
    have e8n : ¬ ((κ 3 p.toNat) = 11) := by omega
    refine ⟨⟨_, hk_o3 hx (show s.toNat < 2 from by omega) ea0⟩, _, _, _, _, (m_takeForReceiving hF htr hx hV (kaw_refl (h0 := h0) (bx := bx) (B := B) hW).2.1 (s := s) (p := p) ea0 ea1 (by omega) (by omega) (by omega) (by omega) (by omega) (by omega) (by omega) (by omega)), (by first | exact Nat.le_of_ble_eq_true rfl | omega), (by first | exact Nat.le_of_ble_eq_true rfl | omega), mkiw (r := some (aI (v_takeForReceiving κ s p))) (fun B52 bx52 hx51 hV50 hA52 hp53 => ?_), fun _ _ q => q.elim⟩
    have hp53 : 0 ≤ (v_takeForReceiving κ s p) ∧ (v_takeForReceiving κ s p) ≤ 6 := hp53
    exact ⟨kRetIWP (P := fun r _ => 0 ≤ r ∧ r ≤ 6) (by first | exact (if_neg e2n).trans ((if_neg e3n).trans ((if_neg e4n).trans ((if_neg e5n).trans ((if_neg e6n).trans ((if_neg e7n).trans ((if_neg e8n).trans (if_pos e9))))))) | (unfold v_takeIn; rw [if_neg e2n, if_neg e3n, if_neg e4n, if_neg e5n, if_neg e6n, if_neg e7n, if_neg e8n, if_pos e9])) (by first | exact (if_neg e2n).trans ((if_neg e3n).trans ((if_neg e4n).trans ((if_neg e5n).trans ((if_neg e6n).trans ((if_neg e7n).trans ((if_neg e8n).trans (if_pos e9))))))) | (unfold s_takeIn; rw [if_neg e2n, if_neg e3n, if_neg e4n, if_neg e5n, if_neg e6n, if_neg e7n, if_neg e8n, if_pos e9])) hx51 hV50 (kaw_trans (kaw_refl (h0 := h0) (bx := bx) (B := B) hW) hA52) (show 0 ≤ (v_takeForReceiving κ s p) ∧ (v_takeForReceiving κ s p) ≤ 6 from by omega), (by first | exact Nat.le_of_ble_eq_true rfl | omega), (by first | exact Nat.le_of_ble_eq_true rfl | omega)⟩
  · have e2n : ¬ ((κ 3 p.toNat) = 5) := by omega
    have e3n : ¬ ((κ 3 p.toNat) = 6) := by omega
    have e4n : ¬ ((κ 3 p.toNat) = 7) := by omega
    have e5n : ¬ ((κ 3 p.toNat) = 8) := by omega
    have e6n : ¬ ((κ 3 p.toNat) = 9) := by omega
    have e7n : ¬ ((κ 3 p.toNat) = 10) := by omega
    have e8n : ¬ ((κ 3 p.toNat) = 11) := by omega
    have e9n : ¬ ((κ 3 p.toNat) = 12) := by omega
    refine ⟨⟨_, hk_o3 hx (show s.toNat < 2 from by omega) ea0⟩, _, _, _, _, (m_takeForReceiving hF htr hx hV (kaw_refl (h0 := h0) (bx := bx) (B := B) hW).2.1 (s := s) (p := p) ea0 ea1 (by omega) (by omega) (by omega) (by omega) (by omega) (by omega) (by omega) (by omega)), (by first | exact Nat.le_of_ble_eq_true rfl | omega), (by first | exact Nat.le_of_ble_eq_true rfl | omega), mkiw (r := some (aI (v_takeForReceiving κ s p))) (fun B56 bx56 hx55 hV54 hA56 hp57 => ?_), fun _ _ q => q.elim⟩
    have hp57 : 0 ≤ (v_takeForReceiving κ s p) ∧ (v_takeForReceiving κ s p) ≤ 6 := hp57
    exact ⟨kRetIWP (P := fun r _ => 0 ≤ r ∧ r ≤ 6) (by first | exact (if_neg e2n).trans ((if_neg e3n).trans ((if_neg e4n).trans ((if_neg e5n).trans ((if_neg e6n).trans ((if_neg e7n).trans ((if_neg e8n).trans ((if_neg e9n).trans (if_pos e10)))))))) | (unfold v_takeIn; rw [if_neg e2n, if_neg e3n, if_neg e4n, if_neg e5n, if_neg e6n, if_neg e7n, if_neg e8n, if_neg e9n, if_pos e10])) (by first | exact (if_neg e2n).trans ((if_neg e3n).trans ((if_neg e4n).trans ((if_neg e5n).trans ((if_neg e6n).trans ((if_neg e7n).trans ((if_neg e8n).trans ((if_neg e9n).trans (if_pos e10)))))))) | (unfold s_takeIn; rw [if_neg e2n, if_neg e3n, if_neg e4n, if_neg e5n, if_neg e6n, if_neg e7n, if_neg e8n, if_neg e9n, if_pos e10])) hx55 hV54 (kaw_trans (kaw_refl (h0 := h0) (bx := bx) (B := B) hW) hA56) (show 0 ≤ (v_takeForReceiving κ s p) ∧ (v_takeForReceiving κ s p) ≤ 6 from by omega), (by first | exact Nat.le_of_ble_eq_true rfl | omega), (by first | exact Nat.le_of_ble_eq_true rfl | omega)⟩
  · have e2n : ¬ ((κ 3 p.toNat) = 5) := by omega
    have e3n : ¬ ((κ 3 p.toNat) = 6) := by omega
    have e4n : ¬ ((κ 3 p.toNat) = 7) := by omega
    have e5n : ¬ ((κ 3 p.toNat) = 8) := by omega
    have e6n : ¬ ((κ 3 p.toNat) = 9) := by omega
    have e7n : ¬ ((κ 3 p.toNat) = 10) := by omega
    have e8n : ¬ ((κ 3 p.toNat) = 11) := by omega
    have e9n : ¬ ((κ 3 p.toNat) = 12) := by omega
    have e10n : ¬ ((κ 3 p.toNat) = 13) := by omega
    refine ⟨⟨_, hk_o3 hx (show s.toNat < 2 from by omega) ea0⟩, _, _, _, _, (m_takeForReceiving hF htr hx hV (kaw_refl (h0 := h0) (bx := bx) (B := B) hW).2.1 (s := s) (p := p) ea0 ea1 (by omega) (by omega) (by omega) (by omega) (by omega) (by omega) (by omega) (by omega)), (by first | exact Nat.le_of_ble_eq_true rfl | omega), (by first | exact Nat.le_of_ble_eq_true rfl | omega), mkiw (r := some (aI (v_takeForReceiving κ s p))) (fun B60 bx60 hx59 hV58 hA60 hp61 => ?_), fun _ _ q => q.elim⟩
    have hp61 : 0 ≤ (v_takeForReceiving κ s p) ∧ (v_takeForReceiving κ s p) ≤ 6 := hp61
    exact ⟨kRetIWP (P := fun r _ => 0 ≤ r ∧ r ≤ 6) (by first | exact (if_neg e2n).trans ((if_neg e3n).trans ((if_neg e4n).trans ((if_neg e5n).trans ((if_neg e6n).trans ((if_neg e7n).trans ((if_neg e8n).trans ((if_neg e9n).trans ((if_neg e10n).trans (if_pos e11))))))))) | (unfold v_takeIn; rw [if_neg e2n, if_neg e3n, if_neg e4n, if_neg e5n, if_neg e6n, if_neg e7n, if_neg e8n, if_neg e9n, if_neg e10n, if_pos e11])) (by first | exact (if_neg e2n).trans ((if_neg e3n).trans ((if_neg e4n).trans ((if_neg e5n).trans ((if_neg e6n).trans ((if_neg e7n).trans ((if_neg e8n).trans ((if_neg e9n).trans ((if_neg e10n).trans (if_pos e11))))))))) | (unfold s_takeIn; rw [if_neg e2n, if_neg e3n, if_neg e4n, if_neg e5n, if_neg e6n, if_neg e7n, if_neg e8n, if_neg e9n, if_neg e10n, if_pos e11])) hx59 hV58 (kaw_trans (kaw_refl (h0 := h0) (bx := bx) (B := B) hW) hA60) (show 0 ≤ (v_takeForReceiving κ s p) ∧ (v_takeForReceiving κ s p) ≤ 6 from by omega), (by first | exact Nat.le_of_ble_eq_true rfl | omega), (by first | exact Nat.le_of_ble_eq_true rfl | omega)⟩
  · have e2n : ¬ ((κ 3 p.toNat) = 5) := by omega
    have e3n : ¬ ((κ 3 p.toNat) = 6) := by omega
    have e4n : ¬ ((κ 3 p.toNat) = 7) := by omega
    have e5n : ¬ ((κ 3 p.toNat) = 8) := by omega
    have e6n : ¬ ((κ 3 p.toNat) = 9) := by omega
    have e7n : ¬ ((κ 3 p.toNat) = 10) := by omega
    have e8n : ¬ ((κ 3 p.toNat) = 11) := by omega
    have e9n : ¬ ((κ 3 p.toNat) = 12) := by omega
    have e10n : ¬ ((κ 3 p.toNat) = 13) := by omega
    have e11n : ¬ ((κ 3 p.toNat) = 14) := by omega
    refine ⟨⟨_, hk_o3 hx (show s.toNat < 2 from by omega) ea0⟩, _, _, _, _, (m_takeForReceiving hF htr hx hV (kaw_refl (h0 := h0) (bx := bx) (B := B) hW).2.1 (s := s) (p := p) ea0 ea1 (by omega) (by omega) (by omega) (by omega) (by omega) (by omega) (by omega) (by omega)), (by first | exact Nat.le_of_ble_eq_true rfl | omega), (by first | exact Nat.le_of_ble_eq_true rfl | omega), mkiw (r := some (aI (v_takeForReceiving κ s p))) (fun B64 bx64 hx63 hV62 hA64 hp65 => ?_), fun _ _ q => q.elim⟩
    have hp65 : 0 ≤ (v_takeForReceiving κ s p) ∧ (v_takeForReceiving κ s p) ≤ 6 := hp65
    exact ⟨kRetIWP (P := fun r _ => 0 ≤ r ∧ r ≤ 6) (by first | exact (if_neg e2n).trans ((if_neg e3n).trans ((if_neg e4n).trans ((if_neg e5n).trans ((if_neg e6n).trans ((if_neg e7n).trans ((if_neg e8n).trans ((if_neg e9n).trans ((if_neg e10n).trans ((if_neg e11n).trans (if_pos e12)))))))))) | (unfold v_takeIn; rw [if_neg e2n, if_neg e3n, if_neg e4n, if_neg e5n, if_neg e6n, if_neg e7n, if_neg e8n, if_neg e9n, if_neg e10n, if_neg e11n, if_pos e12])) (by first | exact (if_neg e2n).trans ((if_neg e3n).trans ((if_neg e4n).trans ((if_neg e5n).trans ((if_neg e6n).trans ((if_neg e7n).trans ((if_neg e8n).trans ((if_neg e9n).trans ((if_neg e10n).trans ((if_neg e11n).trans (if_pos e12)))))))))) | (unfold s_takeIn; rw [if_neg e2n, if_neg e3n, if_neg e4n, if_neg e5n, if_neg e6n, if_neg e7n, if_neg e8n, if_neg e9n, if_neg e10n, if_neg e11n, if_pos e12])) hx63 hV62 (kaw_trans (kaw_refl (h0 := h0) (bx := bx) (B := B) hW) hA64) (show 0 ≤ (v_takeForReceiving κ s p) ∧ (v_takeForReceiving κ s p) ≤ 6 from by omega), (by first | exact Nat.le_of_ble_eq_true rfl | omega), (by first | exact Nat.le_of_ble_eq_true rfl | omega)⟩
  · have e2n : ¬ ((κ 3 p.toNat) = 5) := by omega
    have e3n : ¬ ((κ 3 p.toNat) = 6) := by omega
    have e4n : ¬ ((κ 3 p.toNat) = 7) := by omega
    have e5n : ¬ ((κ 3 p.toNat) = 8) := by omega
    have e6n : ¬ ((κ 3 p.toNat) = 9) := by omega
    have e7n : ¬ ((κ 3 p.toNat) = 10) := by omega
    have e8n : ¬ ((κ 3 p.toNat) = 11) := by omega
    have e9n : ¬ ((κ 3 p.toNat) = 12) := by omega
    have e10n : ¬ ((κ 3 p.toNat) = 13) := by omega
    have e11n : ¬ ((κ 3 p.toNat) = 14) := by omega
    have e12n : ¬ ((κ 3 p.toNat) = 15) := by omega
    refine ⟨_, hk_o3 hx (show s.toNat < 2 from by omega) ea0, aL (κ 310 s.toNat), rfl, ?_⟩
    have t66 := (show 0 ≤ κ 310 s.toNat ∧ κ 310 s.toNat ≤ 4611686018427387903 from hV.g 310 s.toNat rfl)
    refine ⟨_, hk_o0 hx (show p.toNat < 65 from by omega) ea1, aL (κ 4 p.toNat), rfl, ?_⟩
    have t67 := (show 0 ≤ κ 4 p.toNat ∧ κ 4 p.toNat ≤ 4611686018427387903 from hV.g 4 p.toNat rfl)
    refine ⟨_, _, _, _, (m_maxL hF htr hx hV (a := (κ 310 s.toNat)) (b := (κ 4 p.toNat)) (by omega) (by omega) (by omega) (by omega)), (by first | exact Nat.le_of_ble_eq_true rfl | omega), (by first | exact Nat.le_of_ble_eq_true rfl | omega), mki_ (r := some (aL (v_maxL (κ 310 s.toNat) (κ 4 p.toNat)))) ?_, fun _ _ q => q.elim⟩
    have t68 := maxL_b (κ 310 s.toNat) (κ 4 p.toNat)
    refine ⟨_, hk_o3 hx (show s.toNat < 2 from by omega) ea0, trivial, _, kp_310 hx (show s.toNat < 2 from by omega) (v := (v_maxL (κ 310 s.toNat) (κ 4 p.toNat))) ea0, ?_⟩
    have hV69 := hV.u (f := 310) (k := s.toNat) (v := (v_maxL (κ 310 s.toNat) (κ 4 p.toNat))) rfl (show 0 ≤ (v_maxL (κ 310 s.toNat) (κ 4 p.toNat)) ∧ (v_maxL (κ 310 s.toNat) (κ 4 p.toNat)) ≤ 4611686018427387903 from by omega)
    have hx70 := kx_u (f := 310) (k := s.toNat) (v := (v_maxL (κ 310 s.toNat) (κ 4 p.toNat))) rfl hx
    exact ⟨kRetIWP (P := fun r _ => 0 ≤ r ∧ r ≤ 6) (by first | exact (if_neg e2n).trans ((if_neg e3n).trans ((if_neg e4n).trans ((if_neg e5n).trans ((if_neg e6n).trans ((if_neg e7n).trans ((if_neg e8n).trans ((if_neg e9n).trans ((if_neg e10n).trans ((if_neg e11n).trans ((if_neg e12n).trans (if_pos e13))))))))))) | (unfold v_takeIn; rw [if_neg e2n, if_neg e3n, if_neg e4n, if_neg e5n, if_neg e6n, if_neg e7n, if_neg e8n, if_neg e9n, if_neg e10n, if_neg e11n, if_neg e12n, if_pos e13])) (by first | exact (if_neg e2n).trans ((if_neg e3n).trans ((if_neg e4n).trans ((if_neg e5n).trans ((if_neg e6n).trans ((if_neg e7n).trans ((if_neg e8n).trans ((if_neg e9n).trans ((if_neg e10n).trans ((if_neg e11n).trans ((if_neg e12n).trans (if_pos e13))))))))))) | (unfold s_takeIn; rw [if_neg e2n, if_neg e3n, if_neg e4n, if_neg e5n, if_neg e6n, if_neg e7n, if_neg e8n, if_neg e9n, if_neg e10n, if_neg e11n, if_neg e12n, if_pos e13])) hx70 hV69 (kaw_u rfl (kaw_refl (h0 := h0) (bx := bx) (B := B) hW)) (show 0 ≤ 0 ∧ 0 ≤ 6 from by omega), (by first | exact Nat.le_of_ble_eq_true rfl | omega), (by first | exact Nat.le_of_ble_eq_true rfl | omega)⟩
  · have e2n : ¬ ((κ 3 p.toNat) = 5) := by omega
    have e3n : ¬ ((κ 3 p.toNat) = 6) := by omega
    have e4n : ¬ ((κ 3 p.toNat) = 7) := by omega
    have e5n : ¬ ((κ 3 p.toNat) = 8) := by omega
    have e6n : ¬ ((κ 3 p.toNat) = 9) := by omega
    have e7n : ¬ ((κ 3 p.toNat) = 10) := by omega
    have e8n : ¬ ((κ 3 p.toNat) = 11) := by omega
    have e9n : ¬ ((κ 3 p.toNat) = 12) := by omega
    have e10n : ¬ ((κ 3 p.toNat) = 13) := by omega
    have e11n : ¬ ((κ 3 p.toNat) = 14) := by omega
    have e12n : ¬ ((κ 3 p.toNat) = 15) := by omega
    have e13n : ¬ ((κ 3 p.toNat) = 16) := by omega
    refine ⟨⟨_, hk_o3 hx (show s.toNat < 2 from by omega) ea0⟩, _, _, _, _, (m_takeForSending hF htr hx hV (kaw_refl (h0 := h0) (bx := bx) (B := B) hW).2.1 (s := s) (p := p) ea0 ea1 (by omega) (by omega) (by omega) (by omega) (by omega) (by omega) (by omega)), (by first | exact Nat.le_of_ble_eq_true rfl | omega), (by first | exact Nat.le_of_ble_eq_true rfl | omega), mkiw (r := some (aI (v_takeForSending κ s p))) (fun B73 bx73 hx72 hV71 hA73 hp74 => ?_), fun _ _ q => q.elim⟩
    have hp74 : 0 ≤ (v_takeForSending κ s p) ∧ (v_takeForSending κ s p) ≤ 6 := hp74
    exact ⟨kRetIWP (P := fun r _ => 0 ≤ r ∧ r ≤ 6) (by first | exact (if_neg e2n).trans ((if_neg e3n).trans ((if_neg e4n).trans ((if_neg e5n).trans ((if_neg e6n).trans ((if_neg e7n).trans ((if_neg e8n).trans ((if_neg e9n).trans ((if_neg e10n).trans ((if_neg e11n).trans ((if_neg e12n).trans ((if_neg e13n).trans (if_pos e14)))))))))))) | (unfold v_takeIn; rw [if_neg e2n, if_neg e3n, if_neg e4n, if_neg e5n, if_neg e6n, if_neg e7n, if_neg e8n, if_neg e9n, if_neg e10n, if_neg e11n, if_neg e12n, if_neg e13n, if_pos e14])) (by first | exact (if_neg e2n).trans ((if_neg e3n).trans ((if_neg e4n).trans ((if_neg e5n).trans ((if_neg e6n).trans ((if_neg e7n).trans ((if_neg e8n).trans ((if_neg e9n).trans ((if_neg e10n).trans ((if_neg e11n).trans ((if_neg e12n).trans ((if_neg e13n).trans (if_pos e14)))))))))))) | (unfold s_takeIn; rw [if_neg e2n, if_neg e3n, if_neg e4n, if_neg e5n, if_neg e6n, if_neg e7n, if_neg e8n, if_neg e9n, if_neg e10n, if_neg e11n, if_neg e12n, if_neg e13n, if_pos e14])) hx72 hV71 (kaw_trans (kaw_refl (h0 := h0) (bx := bx) (B := B) hW) hA73) (show 0 ≤ (v_takeForSending κ s p) ∧ (v_takeForSending κ s p) ≤ 6 from by omega), (by first | exact Nat.le_of_ble_eq_true rfl | omega), (by first | exact Nat.le_of_ble_eq_true rfl | omega)⟩
  · have e2n : ¬ ((κ 3 p.toNat) = 5) := by omega
    have e3n : ¬ ((κ 3 p.toNat) = 6) := by omega
    have e4n : ¬ ((κ 3 p.toNat) = 7) := by omega
    have e5n : ¬ ((κ 3 p.toNat) = 8) := by omega
    have e6n : ¬ ((κ 3 p.toNat) = 9) := by omega
    have e7n : ¬ ((κ 3 p.toNat) = 10) := by omega
    have e8n : ¬ ((κ 3 p.toNat) = 11) := by omega
    have e9n : ¬ ((κ 3 p.toNat) = 12) := by omega
    have e10n : ¬ ((κ 3 p.toNat) = 13) := by omega
    have e11n : ¬ ((κ 3 p.toNat) = 14) := by omega
    have e12n : ¬ ((κ 3 p.toNat) = 15) := by omega
    have e13n : ¬ ((κ 3 p.toNat) = 16) := by omega
    have e14n : ¬ ((κ 3 p.toNat) = 17) := by omega
    refine ⟨_, hk_o3 hx (show s.toNat < 2 from by omega) ea0, aR (B 14 s.toNat), rfl, ?_⟩
    refine ⟨_, hk_o0 hx (show p.toNat < 65 from by omega) ea1, aI (κ 3 p.toNat), rfl, ?_⟩
    refine ⟨2, _, some (B 4 ((2 * s) + ((κ 3 p.toNat) - 18)).toNat), hk_ways hx (show s.toNat < 2 from by omega) rfl, by omega, ka_4 (s := s) (i := ((κ 3 p.toNat) - 18)) (by omega) (by omega) (by omega), ?_⟩
    refine ⟨_, hk_o0 hx (show p.toNat < 65 from by omega) ea1, aL (κ 4 p.toNat), rfl, ?_⟩
    have t75 := (show 0 ≤ κ 4 p.toNat ∧ κ 4 p.toNat ≤ 4611686018427387903 from hV.g 4 p.toNat rfl)
    refine ⟨⟨_, hk_o4 hx (show ((2 * s) + ((κ 3 p.toNat) - 18)).toNat < 4 from by omega) rfl⟩, _, _, _, _, (m_raiseLimit hF htr hx hV (w := ((2 * s) + ((κ 3 p.toNat) - 18))) (v := (κ 4 p.toNat)) rfl (by omega) (by omega) (by omega) (by omega)), (by first | exact Nat.le_of_ble_eq_true rfl | omega), (by first | exact Nat.le_of_ble_eq_true rfl | omega), mkis_ (r := none) (fun ⟨hx77, hV76⟩ => ?_), fun _ _ q => q.elim⟩
    exact ⟨kRetIWP (P := fun r _ => 0 ≤ r ∧ r ≤ 6) (by first | exact (if_neg e2n).trans ((if_neg e3n).trans ((if_neg e4n).trans ((if_neg e5n).trans ((if_neg e6n).trans ((if_neg e7n).trans ((if_neg e8n).trans ((if_neg e9n).trans ((if_neg e10n).trans ((if_neg e11n).trans ((if_neg e12n).trans ((if_neg e13n).trans ((if_neg e14n).trans (if_pos e15))))))))))))) | (unfold v_takeIn; rw [if_neg e2n, if_neg e3n, if_neg e4n, if_neg e5n, if_neg e6n, if_neg e7n, if_neg e8n, if_neg e9n, if_neg e10n, if_neg e11n, if_neg e12n, if_neg e13n, if_neg e14n, if_pos e15])) (by first | exact (if_neg e2n).trans ((if_neg e3n).trans ((if_neg e4n).trans ((if_neg e5n).trans ((if_neg e6n).trans ((if_neg e7n).trans ((if_neg e8n).trans ((if_neg e9n).trans ((if_neg e10n).trans ((if_neg e11n).trans ((if_neg e12n).trans ((if_neg e13n).trans ((if_neg e14n).trans (if_pos e15))))))))))))) | (unfold s_takeIn; rw [if_neg e2n, if_neg e3n, if_neg e4n, if_neg e5n, if_neg e6n, if_neg e7n, if_neg e8n, if_neg e9n, if_neg e10n, if_neg e11n, if_neg e12n, if_neg e13n, if_neg e14n, if_pos e15])) hx77 hV76 (kaw_cg (fun f hf k => by simp only [List.elem_eq_mem, decide_eq_true_eq, List.mem_cons, List.not_mem_nil, or_false] at hf; rcases hf with rfl | rfl | rfl | rfl | rfl | rfl | rfl <;> exact (s_raiseLimit_fr (by decide)).symm) (kaw_refl (h0 := h0) (bx := bx) (B := B) hW)) (show 0 ≤ 0 ∧ 0 ≤ 6 from by omega), (by first | exact Nat.le_of_ble_eq_true rfl | omega), (by first | exact Nat.le_of_ble_eq_true rfl | omega)⟩
  · have e2n : ¬ ((κ 3 p.toNat) = 5) := by omega
    have e3n : ¬ ((κ 3 p.toNat) = 6) := by omega
    have e4n : ¬ ((κ 3 p.toNat) = 7) := by omega
    have e5n : ¬ ((κ 3 p.toNat) = 8) := by omega
    have e6n : ¬ ((κ 3 p.toNat) = 9) := by omega
    have e7n : ¬ ((κ 3 p.toNat) = 10) := by omega
    have e8n : ¬ ((κ 3 p.toNat) = 11) := by omega
    have e9n : ¬ ((κ 3 p.toNat) = 12) := by omega
    have e10n : ¬ ((κ 3 p.toNat) = 13) := by omega
    have e11n : ¬ ((κ 3 p.toNat) = 14) := by omega
    have e12n : ¬ ((κ 3 p.toNat) = 15) := by omega
    have e13n : ¬ ((κ 3 p.toNat) = 16) := by omega
    have e14n : ¬ ((κ 3 p.toNat) = 17) := by omega
    have e15n : ¬ ((κ 3 p.toNat) = 18) := by omega
    refine ⟨_, hk_o3 hx (show s.toNat < 2 from by omega) ea0, aR (B 14 s.toNat), rfl, ?_⟩
    refine ⟨_, hk_o0 hx (show p.toNat < 65 from by omega) ea1, aI (κ 3 p.toNat), rfl, ?_⟩
    refine ⟨2, _, some (B 4 ((2 * s) + ((κ 3 p.toNat) - 18)).toNat), hk_ways hx (show s.toNat < 2 from by omega) rfl, by omega, ka_4 (s := s) (i := ((κ 3 p.toNat) - 18)) (by omega) (by omega) (by omega), ?_⟩
    refine ⟨_, hk_o0 hx (show p.toNat < 65 from by omega) ea1, aL (κ 4 p.toNat), rfl, ?_⟩
    have t78 := (show 0 ≤ κ 4 p.toNat ∧ κ 4 p.toNat ≤ 4611686018427387903 from hV.g 4 p.toNat rfl)
    refine ⟨⟨_, hk_o4 hx (show ((2 * s) + ((κ 3 p.toNat) - 18)).toNat < 4 from by omega) rfl⟩, _, _, _, _, (m_raiseLimit hF htr hx hV (w := ((2 * s) + ((κ 3 p.toNat) - 18))) (v := (κ 4 p.toNat)) rfl (by omega) (by omega) (by omega) (by omega)), (by first | exact Nat.le_of_ble_eq_true rfl | omega), (by first | exact Nat.le_of_ble_eq_true rfl | omega), mkis_ (r := none) (fun ⟨hx80, hV79⟩ => ?_), fun _ _ q => q.elim⟩
    exact ⟨kRetIWP (P := fun r _ => 0 ≤ r ∧ r ≤ 6) (by first | exact (if_neg e2n).trans ((if_neg e3n).trans ((if_neg e4n).trans ((if_neg e5n).trans ((if_neg e6n).trans ((if_neg e7n).trans ((if_neg e8n).trans ((if_neg e9n).trans ((if_neg e10n).trans ((if_neg e11n).trans ((if_neg e12n).trans ((if_neg e13n).trans ((if_neg e14n).trans ((if_neg e15n).trans (if_pos e16)))))))))))))) | (unfold v_takeIn; rw [if_neg e2n, if_neg e3n, if_neg e4n, if_neg e5n, if_neg e6n, if_neg e7n, if_neg e8n, if_neg e9n, if_neg e10n, if_neg e11n, if_neg e12n, if_neg e13n, if_neg e14n, if_neg e15n, if_pos e16])) (by first | exact (if_neg e2n).trans ((if_neg e3n).trans ((if_neg e4n).trans ((if_neg e5n).trans ((if_neg e6n).trans ((if_neg e7n).trans ((if_neg e8n).trans ((if_neg e9n).trans ((if_neg e10n).trans ((if_neg e11n).trans ((if_neg e12n).trans ((if_neg e13n).trans ((if_neg e14n).trans ((if_neg e15n).trans (if_pos e16)))))))))))))) | (unfold s_takeIn; rw [if_neg e2n, if_neg e3n, if_neg e4n, if_neg e5n, if_neg e6n, if_neg e7n, if_neg e8n, if_neg e9n, if_neg e10n, if_neg e11n, if_neg e12n, if_neg e13n, if_neg e14n, if_neg e15n, if_pos e16])) hx80 hV79 (kaw_cg (fun f hf k => by simp only [List.elem_eq_mem, decide_eq_true_eq, List.mem_cons, List.not_mem_nil, or_false] at hf; rcases hf with rfl | rfl | rfl | rfl | rfl | rfl | rfl <;> exact (s_raiseLimit_fr (by decide)).symm) (kaw_refl (h0 := h0) (bx := bx) (B := B) hW)) (show 0 ≤ 0 ∧ 0 ≤ 6 from by omega), (by first | exact Nat.le_of_ble_eq_true rfl | omega), (by first | exact Nat.le_of_ble_eq_true rfl | omega)⟩
  · have e2n : ¬ ((κ 3 p.toNat) = 5) := by omega
    have e3n : ¬ ((κ 3 p.toNat) = 6) := by omega
    have e4n : ¬ ((κ 3 p.toNat) = 7) := by omega
    have e5n : ¬ ((κ 3 p.toNat) = 8) := by omega
    have e6n : ¬ ((κ 3 p.toNat) = 9) := by omega
    have e7n : ¬ ((κ 3 p.toNat) = 10) := by omega
    have e8n : ¬ ((κ 3 p.toNat) = 11) := by omega
    have e9n : ¬ ((κ 3 p.toNat) = 12) := by omega
    have e10n : ¬ ((κ 3 p.toNat) = 13) := by omega
    have e11n : ¬ ((κ 3 p.toNat) = 14) := by omega
    have e12n : ¬ ((κ 3 p.toNat) = 15) := by omega
    have e13n : ¬ ((κ 3 p.toNat) = 16) := by omega
    have e14n : ¬ ((κ 3 p.toNat) = 17) := by omega
    have e15n : ¬ ((κ 3 p.toNat) = 18) := by omega
    have e16n : ¬ ((κ 3 p.toNat) = 19) := by omega
    exact ⟨kRetIWP (P := fun r _ => 0 ≤ r ∧ r ≤ 6) (by first | exact (if_neg e2n).trans ((if_neg e3n).trans ((if_neg e4n).trans ((if_neg e5n).trans ((if_neg e6n).trans ((if_neg e7n).trans ((if_neg e8n).trans ((if_neg e9n).trans ((if_neg e10n).trans ((if_neg e11n).trans ((if_neg e12n).trans ((if_neg e13n).trans ((if_neg e14n).trans ((if_neg e15n).trans ((if_neg e16n).trans (if_pos e17))))))))))))))) | (unfold v_takeIn; rw [if_neg e2n, if_neg e3n, if_neg e4n, if_neg e5n, if_neg e6n, if_neg e7n, if_neg e8n, if_neg e9n, if_neg e10n, if_neg e11n, if_neg e12n, if_neg e13n, if_neg e14n, if_neg e15n, if_neg e16n, if_pos e17])) (by first | exact (if_neg e2n).trans ((if_neg e3n).trans ((if_neg e4n).trans ((if_neg e5n).trans ((if_neg e6n).trans ((if_neg e7n).trans ((if_neg e8n).trans ((if_neg e9n).trans ((if_neg e10n).trans ((if_neg e11n).trans ((if_neg e12n).trans ((if_neg e13n).trans ((if_neg e14n).trans ((if_neg e15n).trans ((if_neg e16n).trans (if_pos e17))))))))))))))) | (unfold s_takeIn; rw [if_neg e2n, if_neg e3n, if_neg e4n, if_neg e5n, if_neg e6n, if_neg e7n, if_neg e8n, if_neg e9n, if_neg e10n, if_neg e11n, if_neg e12n, if_neg e13n, if_neg e14n, if_neg e15n, if_neg e16n, if_pos e17])) hx hV (kaw_refl (h0 := h0) (bx := bx) (B := B) hW) (show 0 ≤ 0 ∧ 0 ≤ 6 from by omega), (by first | exact Nat.le_of_ble_eq_true rfl | omega), (by first | exact Nat.le_of_ble_eq_true rfl | omega)⟩
  · have e2n : ¬ ((κ 3 p.toNat) = 5) := by omega
    have e3n : ¬ ((κ 3 p.toNat) = 6) := by omega
    have e4n : ¬ ((κ 3 p.toNat) = 7) := by omega
    have e5n : ¬ ((κ 3 p.toNat) = 8) := by omega
    have e6n : ¬ ((κ 3 p.toNat) = 9) := by omega
    have e7n : ¬ ((κ 3 p.toNat) = 10) := by omega
    have e8n : ¬ ((κ 3 p.toNat) = 11) := by omega
    have e9n : ¬ ((κ 3 p.toNat) = 12) := by omega
    have e10n : ¬ ((κ 3 p.toNat) = 13) := by omega
    have e11n : ¬ ((κ 3 p.toNat) = 14) := by omega
    have e12n : ¬ ((κ 3 p.toNat) = 15) := by omega
    have e13n : ¬ ((κ 3 p.toNat) = 16) := by omega
    have e14n : ¬ ((κ 3 p.toNat) = 17) := by omega
    have e15n : ¬ ((κ 3 p.toNat) = 18) := by omega
    have e16n : ¬ ((κ 3 p.toNat) = 19) := by omega
    have e17n : ¬ ((κ 3 p.toNat) = 20) := by omega
    refine ⟨⟨_, hk_o3 hx (show s.toNat < 2 from by omega) ea0⟩, _, _, _, _, (m_takeForReceiving hF htr hx hV (kaw_refl (h0 := h0) (bx := bx) (B := B) hW).2.1 (s := s) (p := p) ea0 ea1 (by omega) (by omega) (by omega) (by omega) (by omega) (by omega) (by omega) (by omega)), (by first | exact Nat.le_of_ble_eq_true rfl | omega), (by first | exact Nat.le_of_ble_eq_true rfl | omega), mkiw (r := some (aI (v_takeForReceiving κ s p))) (fun B83 bx83 hx82 hV81 hA83 hp84 => ?_), fun _ _ q => q.elim⟩
    have hp84 : 0 ≤ (v_takeForReceiving κ s p) ∧ (v_takeForReceiving κ s p) ≤ 6 := hp84
    exact ⟨kRetIWP (P := fun r _ => 0 ≤ r ∧ r ≤ 6) (by first | exact (if_neg e2n).trans ((if_neg e3n).trans ((if_neg e4n).trans ((if_neg e5n).trans ((if_neg e6n).trans ((if_neg e7n).trans ((if_neg e8n).trans ((if_neg e9n).trans ((if_neg e10n).trans ((if_neg e11n).trans ((if_neg e12n).trans ((if_neg e13n).trans ((if_neg e14n).trans ((if_neg e15n).trans ((if_neg e16n).trans ((if_neg e17n).trans (if_pos e18)))))))))))))))) | (unfold v_takeIn; rw [if_neg e2n, if_neg e3n, if_neg e4n, if_neg e5n, if_neg e6n, if_neg e7n, if_neg e8n, if_neg e9n, if_neg e10n, if_neg e11n, if_neg e12n, if_neg e13n, if_neg e14n, if_neg e15n, if_neg e16n, if_neg e17n, if_pos e18])) (by first | exact (if_neg e2n).trans ((if_neg e3n).trans ((if_neg e4n).trans ((if_neg e5n).trans ((if_neg e6n).trans ((if_neg e7n).trans ((if_neg e8n).trans ((if_neg e9n).trans ((if_neg e10n).trans ((if_neg e11n).trans ((if_neg e12n).trans ((if_neg e13n).trans ((if_neg e14n).trans ((if_neg e15n).trans ((if_neg e16n).trans ((if_neg e17n).trans (if_pos e18)))))))))))))))) | (unfold s_takeIn; rw [if_neg e2n, if_neg e3n, if_neg e4n, if_neg e5n, if_neg e6n, if_neg e7n, if_neg e8n, if_neg e9n, if_neg e10n, if_neg e11n, if_neg e12n, if_neg e13n, if_neg e14n, if_neg e15n, if_neg e16n, if_neg e17n, if_pos e18])) hx82 hV81 (kaw_trans (kaw_refl (h0 := h0) (bx := bx) (B := B) hW) hA83) (show 0 ≤ (v_takeForReceiving κ s p) ∧ (v_takeForReceiving κ s p) ≤ 6 from by omega), (by first | exact Nat.le_of_ble_eq_true rfl | omega), (by first | exact Nat.le_of_ble_eq_true rfl | omega)⟩
  · have e2n : ¬ ((κ 3 p.toNat) = 5) := by omega
    have e3n : ¬ ((κ 3 p.toNat) = 6) := by omega
    have e4n : ¬ ((κ 3 p.toNat) = 7) := by omega
    have e5n : ¬ ((κ 3 p.toNat) = 8) := by omega
    have e6n : ¬ ((κ 3 p.toNat) = 9) := by omega
    have e7n : ¬ ((κ 3 p.toNat) = 10) := by omega
    have e8n : ¬ ((κ 3 p.toNat) = 11) := by omega
    have e9n : ¬ ((κ 3 p.toNat) = 12) := by omega
    have e10n : ¬ ((κ 3 p.toNat) = 13) := by omega
    have e11n : ¬ ((κ 3 p.toNat) = 14) := by omega
    have e12n : ¬ ((κ 3 p.toNat) = 15) := by omega
    have e13n : ¬ ((κ 3 p.toNat) = 16) := by omega
    have e14n : ¬ ((κ 3 p.toNat) = 17) := by omega
    have e15n : ¬ ((κ 3 p.toNat) = 18) := by omega
    have e16n : ¬ ((κ 3 p.toNat) = 19) := by omega
    have e17n : ¬ ((κ 3 p.toNat) = 20) := by omega
    have e18n : ¬ ((κ 3 p.toNat) = 21) := by omega
    exact ⟨kRetIWP (P := fun r _ => 0 ≤ r ∧ r ≤ 6) (by first | exact (if_neg e2n).trans ((if_neg e3n).trans ((if_neg e4n).trans ((if_neg e5n).trans ((if_neg e6n).trans ((if_neg e7n).trans ((if_neg e8n).trans ((if_neg e9n).trans ((if_neg e10n).trans ((if_neg e11n).trans ((if_neg e12n).trans ((if_neg e13n).trans ((if_neg e14n).trans ((if_neg e15n).trans ((if_neg e16n).trans ((if_neg e17n).trans ((if_neg e18n).trans (if_pos e19))))))))))))))))) | (unfold v_takeIn; rw [if_neg e2n, if_neg e3n, if_neg e4n, if_neg e5n, if_neg e6n, if_neg e7n, if_neg e8n, if_neg e9n, if_neg e10n, if_neg e11n, if_neg e12n, if_neg e13n, if_neg e14n, if_neg e15n, if_neg e16n, if_neg e17n, if_neg e18n, if_pos e19])) (by first | exact (if_neg e2n).trans ((if_neg e3n).trans ((if_neg e4n).trans ((if_neg e5n).trans ((if_neg e6n).trans ((if_neg e7n).trans ((if_neg e8n).trans ((if_neg e9n).trans ((if_neg e10n).trans ((if_neg e11n).trans ((if_neg e12n).trans ((if_neg e13n).trans ((if_neg e14n).trans ((if_neg e15n).trans ((if_neg e16n).trans ((if_neg e17n).trans ((if_neg e18n).trans (if_pos e19))))))))))))))))) | (unfold s_takeIn; rw [if_neg e2n, if_neg e3n, if_neg e4n, if_neg e5n, if_neg e6n, if_neg e7n, if_neg e8n, if_neg e9n, if_neg e10n, if_neg e11n, if_neg e12n, if_neg e13n, if_neg e14n, if_neg e15n, if_neg e16n, if_neg e17n, if_neg e18n, if_pos e19])) hx hV (kaw_refl (h0 := h0) (bx := bx) (B := B) hW) (show 0 ≤ 0 ∧ 0 ≤ 6 from by omega), (by first | exact Nat.le_of_ble_eq_true rfl | omega), (by first | exact Nat.le_of_ble_eq_true rfl | omega)⟩
  · have e2n : ¬ ((κ 3 p.toNat) = 5) := by omega
    have e3n : ¬ ((κ 3 p.toNat) = 6) := by omega
    have e4n : ¬ ((κ 3 p.toNat) = 7) := by omega
    have e5n : ¬ ((κ 3 p.toNat) = 8) := by omega
    have e6n : ¬ ((κ 3 p.toNat) = 9) := by omega
    have e7n : ¬ ((κ 3 p.toNat) = 10) := by omega
    have e8n : ¬ ((κ 3 p.toNat) = 11) := by omega
    have e9n : ¬ ((κ 3 p.toNat) = 12) := by omega
    have e10n : ¬ ((κ 3 p.toNat) = 13) := by omega
    have e11n : ¬ ((κ 3 p.toNat) = 14) := by omega
    have e12n : ¬ ((κ 3 p.toNat) = 15) := by omega
    have e13n : ¬ ((κ 3 p.toNat) = 16) := by omega
    have e14n : ¬ ((κ 3 p.toNat) = 17) := by omega
    have e15n : ¬ ((κ 3 p.toNat) = 18) := by omega
    have e16n : ¬ ((κ 3 p.toNat) = 19) := by omega
    have e17n : ¬ ((κ 3 p.toNat) = 20) := by omega
    have e18n : ¬ ((κ 3 p.toNat) = 21) := by omega
    have e19n : ¬ ((κ 3 p.toNat) = 22) := by omega
    exact ⟨kRetIWP (P := fun r _ => 0 ≤ r ∧ r ≤ 6) (by first | exact (if_neg e2n).trans ((if_neg e3n).trans ((if_neg e4n).trans ((if_neg e5n).trans ((if_neg e6n).trans ((if_neg e7n).trans ((if_neg e8n).trans ((if_neg e9n).trans ((if_neg e10n).trans ((if_neg e11n).trans ((if_neg e12n).trans ((if_neg e13n).trans ((if_neg e14n).trans ((if_neg e15n).trans ((if_neg e16n).trans ((if_neg e17n).trans ((if_neg e18n).trans ((if_neg e19n).trans (if_pos e20)))))))))))))))))) | (unfold v_takeIn; rw [if_neg e2n, if_neg e3n, if_neg e4n, if_neg e5n, if_neg e6n, if_neg e7n, if_neg e8n, if_neg e9n, if_neg e10n, if_neg e11n, if_neg e12n, if_neg e13n, if_neg e14n, if_neg e15n, if_neg e16n, if_neg e17n, if_neg e18n, if_neg e19n, if_pos e20])) (by first | exact (if_neg e2n).trans ((if_neg e3n).trans ((if_neg e4n).trans ((if_neg e5n).trans ((if_neg e6n).trans ((if_neg e7n).trans ((if_neg e8n).trans ((if_neg e9n).trans ((if_neg e10n).trans ((if_neg e11n).trans ((if_neg e12n).trans ((if_neg e13n).trans ((if_neg e14n).trans ((if_neg e15n).trans ((if_neg e16n).trans ((if_neg e17n).trans ((if_neg e18n).trans ((if_neg e19n).trans (if_pos e20)))))))))))))))))) | (unfold s_takeIn; rw [if_neg e2n, if_neg e3n, if_neg e4n, if_neg e5n, if_neg e6n, if_neg e7n, if_neg e8n, if_neg e9n, if_neg e10n, if_neg e11n, if_neg e12n, if_neg e13n, if_neg e14n, if_neg e15n, if_neg e16n, if_neg e17n, if_neg e18n, if_neg e19n, if_pos e20])) hx hV (kaw_refl (h0 := h0) (bx := bx) (B := B) hW) (show 0 ≤ 0 ∧ 0 ≤ 6 from by omega), (by first | exact Nat.le_of_ble_eq_true rfl | omega), (by first | exact Nat.le_of_ble_eq_true rfl | omega)⟩
  · have e2n : ¬ ((κ 3 p.toNat) = 5) := by omega
    have e3n : ¬ ((κ 3 p.toNat) = 6) := by omega
    have e4n : ¬ ((κ 3 p.toNat) = 7) := by omega
    have e5n : ¬ ((κ 3 p.toNat) = 8) := by omega
    have e6n : ¬ ((κ 3 p.toNat) = 9) := by omega
    have e7n : ¬ ((κ 3 p.toNat) = 10) := by omega
    have e8n : ¬ ((κ 3 p.toNat) = 11) := by omega
    have e9n : ¬ ((κ 3 p.toNat) = 12) := by omega
    have e10n : ¬ ((κ 3 p.toNat) = 13) := by omega
    have e11n : ¬ ((κ 3 p.toNat) = 14) := by omega
    have e12n : ¬ ((κ 3 p.toNat) = 15) := by omega
    have e13n : ¬ ((κ 3 p.toNat) = 16) := by omega
    have e14n : ¬ ((κ 3 p.toNat) = 17) := by omega
    have e15n : ¬ ((κ 3 p.toNat) = 18) := by omega
    have e16n : ¬ ((κ 3 p.toNat) = 19) := by omega
    have e17n : ¬ ((κ 3 p.toNat) = 20) := by omega
    have e18n : ¬ ((κ 3 p.toNat) = 21) := by omega
    have e19n : ¬ ((κ 3 p.toNat) = 22) := by omega
    have e20n : ¬ ((κ 3 p.toNat) = 23) := by omega
    refine ⟨⟨_, hk_o3 hx (show s.toNat < 2 from by omega) ea0⟩, _, _, _, _, (m_takeForReceiving hF htr hx hV (kaw_refl (h0 := h0) (bx := bx) (B := B) hW).2.1 (s := s) (p := p) ea0 ea1 (by omega) (by omega) (by omega) (by omega) (by omega) (by omega) (by omega) (by omega)), (by first | exact Nat.le_of_ble_eq_true rfl | omega), (by first | exact Nat.le_of_ble_eq_true rfl | omega), mkiw (r := some (aI (v_takeForReceiving κ s p))) (fun B87 bx87 hx86 hV85 hA87 hp88 => ?_), fun _ _ q => q.elim⟩
    have hp88 : 0 ≤ (v_takeForReceiving κ s p) ∧ (v_takeForReceiving κ s p) ≤ 6 := hp88
    exact ⟨kRetIWP (P := fun r _ => 0 ≤ r ∧ r ≤ 6) (by first | exact (if_neg e2n).trans ((if_neg e3n).trans ((if_neg e4n).trans ((if_neg e5n).trans ((if_neg e6n).trans ((if_neg e7n).trans ((if_neg e8n).trans ((if_neg e9n).trans ((if_neg e10n).trans ((if_neg e11n).trans ((if_neg e12n).trans ((if_neg e13n).trans ((if_neg e14n).trans ((if_neg e15n).trans ((if_neg e16n).trans ((if_neg e17n).trans ((if_neg e18n).trans ((if_neg e19n).trans (if_neg e20n)))))))))))))))))) | (unfold v_takeIn; rw [if_neg e2n, if_neg e3n, if_neg e4n, if_neg e5n, if_neg e6n, if_neg e7n, if_neg e8n, if_neg e9n, if_neg e10n, if_neg e11n, if_neg e12n, if_neg e13n, if_neg e14n, if_neg e15n, if_neg e16n, if_neg e17n, if_neg e18n, if_neg e19n, if_neg e20n])) (by first | exact (if_neg e2n).trans ((if_neg e3n).trans ((if_neg e4n).trans ((if_neg e5n).trans ((if_neg e6n).trans ((if_neg e7n).trans ((if_neg e8n).trans ((if_neg e9n).trans ((if_neg e10n).trans ((if_neg e11n).trans ((if_neg e12n).trans ((if_neg e13n).trans ((if_neg e14n).trans ((if_neg e15n).trans ((if_neg e16n).trans ((if_neg e17n).trans ((if_neg e18n).trans ((if_neg e19n).trans (if_neg e20n)))))))))))))))))) | (unfold s_takeIn; rw [if_neg e2n, if_neg e3n, if_neg e4n, if_neg e5n, if_neg e6n, if_neg e7n, if_neg e8n, if_neg e9n, if_neg e10n, if_neg e11n, if_neg e12n, if_neg e13n, if_neg e14n, if_neg e15n, if_neg e16n, if_neg e17n, if_neg e18n, if_neg e19n, if_neg e20n])) hx86 hV85 (kaw_trans (kaw_refl (h0 := h0) (bx := bx) (B := B) hW) hA87) (show 0 ≤ (v_takeForReceiving κ s p) ∧ (v_takeForReceiving κ s p) ≤ 6 from by omega), (by first | exact Nat.le_of_ble_eq_true rfl | omega), (by first | exact Nat.le_of_ble_eq_true rfl | omega)⟩
set_option maxRecDepth 100000 in
theorem s_takeIn_fr {f kk : Nat} {s p : Int} (hf : (Nat.blt f 1000 && !([100, 101, 102, 103, 104, 105, 106, 107, 108, 109, 110, 111, 112, 113, 190, 200, 201, 202, 203, 204, 205, 206, 207, 208, 209, 210, 211, 290, 306, 310, 312, 313, 314, 315, 360, 401, 404, 405, 600, 601, 602].elem f)) = true) : s_takeIn κ s p f kk = κ f kk := by
  have n100 : f ≠ 100 := by rintro rfl; exact absurd hf (by decide)
  have n101 : f ≠ 101 := by rintro rfl; exact absurd hf (by decide)
  have n102 : f ≠ 102 := by rintro rfl; exact absurd hf (by decide)
  have n103 : f ≠ 103 := by rintro rfl; exact absurd hf (by decide)
  have n104 : f ≠ 104 := by rintro rfl; exact absurd hf (by decide)
  have n105 : f ≠ 105 := by rintro rfl; exact absurd hf (by decide)
  have n106 : f ≠ 106 := by rintro rfl; exact absurd hf (by decide)
  have n107 : f ≠ 107 := by rintro rfl; exact absurd hf (by decide)
  have n108 : f ≠ 108 := by rintro rfl; exact absurd hf (by decide)
  have n109 : f ≠ 109 := by rintro rfl; exact absurd hf (by decide)
  have n110 : f ≠ 110 := by rintro rfl; exact absurd hf (by decide)
  have n111 : f ≠ 111 := by rintro rfl; exact absurd hf (by decide)
  have n112 : f ≠ 112 := by rintro rfl; exact absurd hf (by decide)
  have n113 : f ≠ 113 := by rintro rfl; exact absurd hf (by decide)
  have n190 : f ≠ 190 := by rintro rfl; exact absurd hf (by decide)
  have n200 : f ≠ 200 := by rintro rfl; exact absurd hf (by decide)
  have n201 : f ≠ 201 := by rintro rfl; exact absurd hf (by decide)
  have n202 : f ≠ 202 := by rintro rfl; exact absurd hf (by decide)
  have n203 : f ≠ 203 := by rintro rfl; exact absurd hf (by decide)
  have n204 : f ≠ 204 := by rintro rfl; exact absurd hf (by decide)
  have n205 : f ≠ 205 := by rintro rfl; exact absurd hf (by decide)
  have n206 : f ≠ 206 := by rintro rfl; exact absurd hf (by decide)
  have n207 : f ≠ 207 := by rintro rfl; exact absurd hf (by decide)
  have n208 : f ≠ 208 := by rintro rfl; exact absurd hf (by decide)
  have n209 : f ≠ 209 := by rintro rfl; exact absurd hf (by decide)
  have n210 : f ≠ 210 := by rintro rfl; exact absurd hf (by decide)
  have n211 : f ≠ 211 := by rintro rfl; exact absurd hf (by decide)
  have n290 : f ≠ 290 := by rintro rfl; exact absurd hf (by decide)
  have n306 : f ≠ 306 := by rintro rfl; exact absurd hf (by decide)
  have n310 : f ≠ 310 := by rintro rfl; exact absurd hf (by decide)
  have n312 : f ≠ 312 := by rintro rfl; exact absurd hf (by decide)
  have n313 : f ≠ 313 := by rintro rfl; exact absurd hf (by decide)
  have n314 : f ≠ 314 := by rintro rfl; exact absurd hf (by decide)
  have n315 : f ≠ 315 := by rintro rfl; exact absurd hf (by decide)
  have n360 : f ≠ 360 := by rintro rfl; exact absurd hf (by decide)
  have n401 : f ≠ 401 := by rintro rfl; exact absurd hf (by decide)
  have n404 : f ≠ 404 := by rintro rfl; exact absurd hf (by decide)
  have n405 : f ≠ 405 := by rintro rfl; exact absurd hf (by decide)
  have n600 : f ≠ 600 := by rintro rfl; exact absurd hf (by decide)
  have n601 : f ≠ 601 := by rintro rfl; exact absurd hf (by decide)
  have n602 : f ≠ 602 := by rintro rfl; exact absurd hf (by decide)
  have lt : f < 1000 := Nat.le_of_ble_eq_true (Bool.and_eq_true_iff.mp hf).1
  have f100 : ∀ (m : Nat → Nat → Int) (a b : Nat) (v : Int), u2 m 100 a v f b = m f b := fun m a b v => u2_f n100
  have f101 : ∀ (m : Nat → Nat → Int) (a b : Nat) (v : Int), u2 m 101 a v f b = m f b := fun m a b v => u2_f n101
  have f102 : ∀ (m : Nat → Nat → Int) (a b : Nat) (v : Int), u2 m 102 a v f b = m f b := fun m a b v => u2_f n102
  have f103 : ∀ (m : Nat → Nat → Int) (a b : Nat) (v : Int), u2 m 103 a v f b = m f b := fun m a b v => u2_f n103
  have f104 : ∀ (m : Nat → Nat → Int) (a b : Nat) (v : Int), u2 m 104 a v f b = m f b := fun m a b v => u2_f n104
  have f105 : ∀ (m : Nat → Nat → Int) (a b : Nat) (v : Int), u2 m 105 a v f b = m f b := fun m a b v => u2_f n105
  have f106 : ∀ (m : Nat → Nat → Int) (a b : Nat) (v : Int), u2 m 106 a v f b = m f b := fun m a b v => u2_f n106
  have f107 : ∀ (m : Nat → Nat → Int) (a b : Nat) (v : Int), u2 m 107 a v f b = m f b := fun m a b v => u2_f n107
  have f108 : ∀ (m : Nat → Nat → Int) (a b : Nat) (v : Int), u2 m 108 a v f b = m f b := fun m a b v => u2_f n108
  have f109 : ∀ (m : Nat → Nat → Int) (a b : Nat) (v : Int), u2 m 109 a v f b = m f b := fun m a b v => u2_f n109
  have f110 : ∀ (m : Nat → Nat → Int) (a b : Nat) (v : Int), u2 m 110 a v f b = m f b := fun m a b v => u2_f n110
  have f111 : ∀ (m : Nat → Nat → Int) (a b : Nat) (v : Int), u2 m 111 a v f b = m f b := fun m a b v => u2_f n111
  have f112 : ∀ (m : Nat → Nat → Int) (a b : Nat) (v : Int), u2 m 112 a v f b = m f b := fun m a b v => u2_f n112
  have f113 : ∀ (m : Nat → Nat → Int) (a b : Nat) (v : Int), u2 m 113 a v f b = m f b := fun m a b v => u2_f n113
  have f190 : ∀ (m : Nat → Nat → Int) (a b : Nat) (v : Int), u2 m 190 a v f b = m f b := fun m a b v => u2_f n190
  have f200 : ∀ (m : Nat → Nat → Int) (a b : Nat) (v : Int), u2 m 200 a v f b = m f b := fun m a b v => u2_f n200
  have f201 : ∀ (m : Nat → Nat → Int) (a b : Nat) (v : Int), u2 m 201 a v f b = m f b := fun m a b v => u2_f n201
  have f202 : ∀ (m : Nat → Nat → Int) (a b : Nat) (v : Int), u2 m 202 a v f b = m f b := fun m a b v => u2_f n202
  have f203 : ∀ (m : Nat → Nat → Int) (a b : Nat) (v : Int), u2 m 203 a v f b = m f b := fun m a b v => u2_f n203
  have f204 : ∀ (m : Nat → Nat → Int) (a b : Nat) (v : Int), u2 m 204 a v f b = m f b := fun m a b v => u2_f n204
  have f205 : ∀ (m : Nat → Nat → Int) (a b : Nat) (v : Int), u2 m 205 a v f b = m f b := fun m a b v => u2_f n205
  have f206 : ∀ (m : Nat → Nat → Int) (a b : Nat) (v : Int), u2 m 206 a v f b = m f b := fun m a b v => u2_f n206
  have f207 : ∀ (m : Nat → Nat → Int) (a b : Nat) (v : Int), u2 m 207 a v f b = m f b := fun m a b v => u2_f n207
  have f208 : ∀ (m : Nat → Nat → Int) (a b : Nat) (v : Int), u2 m 208 a v f b = m f b := fun m a b v => u2_f n208
  have f209 : ∀ (m : Nat → Nat → Int) (a b : Nat) (v : Int), u2 m 209 a v f b = m f b := fun m a b v => u2_f n209
  have f210 : ∀ (m : Nat → Nat → Int) (a b : Nat) (v : Int), u2 m 210 a v f b = m f b := fun m a b v => u2_f n210
  have f211 : ∀ (m : Nat → Nat → Int) (a b : Nat) (v : Int), u2 m 211 a v f b = m f b := fun m a b v => u2_f n211
  have f290 : ∀ (m : Nat → Nat → Int) (a b : Nat) (v : Int), u2 m 290 a v f b = m f b := fun m a b v => u2_f n290
  have f306 : ∀ (m : Nat → Nat → Int) (a b : Nat) (v : Int), u2 m 306 a v f b = m f b := fun m a b v => u2_f n306
  have f310 : ∀ (m : Nat → Nat → Int) (a b : Nat) (v : Int), u2 m 310 a v f b = m f b := fun m a b v => u2_f n310
  have f312 : ∀ (m : Nat → Nat → Int) (a b : Nat) (v : Int), u2 m 312 a v f b = m f b := fun m a b v => u2_f n312
  have f313 : ∀ (m : Nat → Nat → Int) (a b : Nat) (v : Int), u2 m 313 a v f b = m f b := fun m a b v => u2_f n313
  have f314 : ∀ (m : Nat → Nat → Int) (a b : Nat) (v : Int), u2 m 314 a v f b = m f b := fun m a b v => u2_f n314
  have f315 : ∀ (m : Nat → Nat → Int) (a b : Nat) (v : Int), u2 m 315 a v f b = m f b := fun m a b v => u2_f n315
  have f360 : ∀ (m : Nat → Nat → Int) (a b : Nat) (v : Int), u2 m 360 a v f b = m f b := fun m a b v => u2_f n360
  have f401 : ∀ (m : Nat → Nat → Int) (a b : Nat) (v : Int), u2 m 401 a v f b = m f b := fun m a b v => u2_f n401
  have f404 : ∀ (m : Nat → Nat → Int) (a b : Nat) (v : Int), u2 m 404 a v f b = m f b := fun m a b v => u2_f n404
  have f405 : ∀ (m : Nat → Nat → Int) (a b : Nat) (v : Int), u2 m 405 a v f b = m f b := fun m a b v => u2_f n405
  have f600 : ∀ (m : Nat → Nat → Int) (a b : Nat) (v : Int), u2 m 600 a v f b = m f b := fun m a b v => u2_f n600
  have f601 : ∀ (m : Nat → Nat → Int) (a b : Nat) (v : Int), u2 m 601 a v f b = m f b := fun m a b v => u2_f n601
  have f602 : ∀ (m : Nat → Nat → Int) (a b : Nat) (v : Int), u2 m 602 a v f b = m f b := fun m a b v => u2_f n602
  have fw : ∀ (m : Nat → Nat → Int) (r a b : Nat) (v : Int), u2 m (1000 + r) a v f b = m f b := fun m r a b v => u2_f (by omega)
  have c_raiseLimit : ∀ (m : Nat → Nat → Int) (z_w z_v : Int) (k : Nat), s_raiseLimit m z_w z_v f k = m f k := by intros; exact s_raiseLimit_fr (by simp only [List.elem_cons, List.elem_nil, beq_eq_false_iff_ne.mpr n401]; rfl)
  have c_takeForReceiving : ∀ (m : Nat → Nat → Int) (z_s z_p : Int) (k : Nat), s_takeForReceiving m z_s z_p f k = m f k := by intros; exact s_takeForReceiving_fr (Bool.and_eq_true_iff.mpr ⟨Nat.ble_eq_true_of_le lt, by simp only [List.elem_cons, List.elem_nil, beq_eq_false_iff_ne.mpr n100, beq_eq_false_iff_ne.mpr n101, beq_eq_false_iff_ne.mpr n102, beq_eq_false_iff_ne.mpr n103, beq_eq_false_iff_ne.mpr n104, beq_eq_false_iff_ne.mpr n105, beq_eq_false_iff_ne.mpr n106, beq_eq_false_iff_ne.mpr n107, beq_eq_false_iff_ne.mpr n108, beq_eq_false_iff_ne.mpr n109, beq_eq_false_iff_ne.mpr n110, beq_eq_false_iff_ne.mpr n111, beq_eq_false_iff_ne.mpr n112, beq_eq_false_iff_ne.mpr n113, beq_eq_false_iff_ne.mpr n190, beq_eq_false_iff_ne.mpr n200, beq_eq_false_iff_ne.mpr n201, beq_eq_false_iff_ne.mpr n202, beq_eq_false_iff_ne.mpr n203, beq_eq_false_iff_ne.mpr n204, beq_eq_false_iff_ne.mpr n205, beq_eq_false_iff_ne.mpr n206, beq_eq_false_iff_ne.mpr n207, beq_eq_false_iff_ne.mpr n208, beq_eq_false_iff_ne.mpr n209, beq_eq_false_iff_ne.mpr n210, beq_eq_false_iff_ne.mpr n211, beq_eq_false_iff_ne.mpr n290, beq_eq_false_iff_ne.mpr n306, beq_eq_false_iff_ne.mpr n312, beq_eq_false_iff_ne.mpr n313, beq_eq_false_iff_ne.mpr n314, beq_eq_false_iff_ne.mpr n315, beq_eq_false_iff_ne.mpr n360, beq_eq_false_iff_ne.mpr n404, beq_eq_false_iff_ne.mpr n405, beq_eq_false_iff_ne.mpr n600, beq_eq_false_iff_ne.mpr n601, beq_eq_false_iff_ne.mpr n602]; rfl⟩)
  have c_takeForSending : ∀ (m : Nat → Nat → Int) (z_s z_p : Int) (k : Nat), s_takeForSending m z_s z_p f k = m f k := by intros; exact s_takeForSending_fr (Bool.and_eq_true_iff.mpr ⟨Nat.ble_eq_true_of_le lt, by simp only [List.elem_cons, List.elem_nil, beq_eq_false_iff_ne.mpr n100, beq_eq_false_iff_ne.mpr n101, beq_eq_false_iff_ne.mpr n102, beq_eq_false_iff_ne.mpr n103, beq_eq_false_iff_ne.mpr n104, beq_eq_false_iff_ne.mpr n105, beq_eq_false_iff_ne.mpr n106, beq_eq_false_iff_ne.mpr n107, beq_eq_false_iff_ne.mpr n108, beq_eq_false_iff_ne.mpr n109, beq_eq_false_iff_ne.mpr n110, beq_eq_false_iff_ne.mpr n111, beq_eq_false_iff_ne.mpr n112, beq_eq_false_iff_ne.mpr n113, beq_eq_false_iff_ne.mpr n190, beq_eq_false_iff_ne.mpr n200, beq_eq_false_iff_ne.mpr n201, beq_eq_false_iff_ne.mpr n202, beq_eq_false_iff_ne.mpr n203, beq_eq_false_iff_ne.mpr n204, beq_eq_false_iff_ne.mpr n205, beq_eq_false_iff_ne.mpr n206, beq_eq_false_iff_ne.mpr n207, beq_eq_false_iff_ne.mpr n208, beq_eq_false_iff_ne.mpr n209, beq_eq_false_iff_ne.mpr n210, beq_eq_false_iff_ne.mpr n211, beq_eq_false_iff_ne.mpr n290, beq_eq_false_iff_ne.mpr n306, beq_eq_false_iff_ne.mpr n404, beq_eq_false_iff_ne.mpr n600, beq_eq_false_iff_ne.mpr n601, beq_eq_false_iff_ne.mpr n602]; rfl⟩)
  unfold s_takeIn
  repeat' with_reducible apply f_ite
  all_goals first | rfl | simp only [f100, f101, f102, f103, f104, f105, f106, f107, f108, f109, f110, f111, f112, f113, f190, f200, f201, f202, f203, f204, f205, f206, f207, f208, f209, f210, f211, f290, f306, f310, f312, f313, f314, f315, f360, f401, f404, f405, f600, f601, f602, fw, c_raiseLimit, c_takeForReceiving, c_takeForSending]
end KO
