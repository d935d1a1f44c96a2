section KI
variable {L : Launch} {G : mmG} {B B' : Nat → Nat → Nat} {bx bx' : Nat → Option (Nat × Nat)} {h0 : mmH} {κ κ' : Nat → Nat → Int}
theorem mi_rh {M : mmM} {MC MS : Nat} {PR : Option Value → mmH → Prop} {PX : String → mmH → Prop} {θ : mmT} {f j : Nat} {l : List (Nat × AV)} {st : List AV} {h h' : mmH} {cs sl : Nat} (e : h = h') (k : mi_run L G M MC MS PR PX θ f j l st h' cs sl) : mi_run L G M MC MS PR PX θ f j l st h cs sl := e ▸ k
theorem kNr_fr {c f k : Nat} {n : Int} (h : f < 1000) (h1 : f ≠ 600) (h2 : f ≠ 601) (h3 : f ≠ 602) : kNr κ c n f k = κ f k := by
  unfold kNr
  rw [u2_f h3, u2_f h2, u2_f h1, uf_f (by omega)]
def mRetN (G : mmG) (bx : Nat → Option (Nat × Nat)) (B : Nat → Nat → Nat) (h0 : mmH) (κ : Nat → Nat → Int) (c : Nat) (ls : (Nat → Nat → Nat) → List AV) (a : Nat) (S : Nat → Nat → Int) : Option Value → mmH → Prop := fun r h => r = none ∧ ∃ B' bx', h = hk G B' bx' (va_up h0 a (some (.inr (c, (ls B').map cv)))) S ∧ kx B' bx' S ∧ kV S ∧ kaw h0 bx B κ bx' B' S ∧ bx' a = none
theorem mkin {c a : Nat} {ls : (Nat → Nat → Nat) → List AV} {S : Nat → Nat → Int} {Q : Option AV → mmH → Prop} (k : ∀ B' bx', kx B' bx' S → kV S → kaw h0 bx B κ bx' B' S → bx' a = none → Q none (hk G B' bx' (va_up h0 a (some (.inr (c, (ls B').map cv)))) S)) : ∀ v h1, mRetN G bx B h0 κ c ls a S v h1 → ∃ r', v = r'.map cv ∧ Q r' h1 := by
  rintro _ _ ⟨rfl, B', bx', rfl, a1, a2, a3, a4⟩
  exact ⟨none, rfl, k B' bx' a1 a2 a3 a4⟩
theorem kRetIWP {v v' : Int} {S : Nat → Nat → Int} {P : Int → (Nat → Nat → Int) → Prop} (e : v' = v) (e2 : S = κ') (hx : kx B' bx' κ') (hv : kV κ') (hA : kaw h0 bx B κ bx' B' κ') (hp : P v κ') : mRetW G bx B h0 κ (some (.int (iI v'))) S (P v' S) (some (.int (iI v))) (hk G B' bx' h0 κ') := by
  subst e e2
  exact ⟨rfl, B', bx', rfl, hx, hv, hA, hp⟩
theorem mm_bl2 : mm_blank 2 = [aI 0, aN, aN, aI 0, aI 0, aI 0, aI 0, aI 0, aL 0, aL 0, aL 0, aI 0].map cv := rfl
theorem mm_bl1 : mm_blank 1 = [aI 0, aN, aI 0, aI 0, aI 0, aI 0, aI 0, aI 0, aI 0, aI 0, aI 0, aL 0, aL 0, aI 0].map cv := rfl
set_option maxRecDepth 100000 in
theorem m_sInit (hF : mm_F G) (htr : L.stackTraces = false) (hx : kx B bx κ) (hV : kV κ) (hW : kW κ) {a : Nat} {c : Int} (hb : bx a = none) :
    mm_Met L G SX2_init [.ref a, .long (iL c)] (hk G B bx (va_up h0 a (some (.inr (2, mm_blank 2)))) κ) 2 0 (mRetN G bx B h0 κ 2 (fun B' => kNs_l B' (κ 602 0) (κ 602 0 + 1) c) a (kNr (kNr κ 2 0) 2 0)) mm_no := by
  refine mi_meth MX2_init 60 hF htr okX2_init (av := [aR a, aL c]) (by decide +kernel) (Nat.le_of_ble_eq_true rfl) cmX2_init (fun θ hc => ?_)
  rw [mm_bl2]
  have l602 : 2 ≤ κ 602 0 := hV.l 602 0
  refine ⟨_, hk_fr hb, trivial, _, hk_fw hb, ?_⟩
  refine ⟨by omega, by omega, by omega, fun b hn _ => ?_⟩
  have hab : a ≠ b := fun z => by rw [← z, hk_fr hb] at hn; cases hn
  obtain ⟨B1, bx1, hh1, hx1, hV1, hA1, hB1, hq1⟩ := kNr_ex hx hV hW (c := 2) (by decide) (n := 0) (by decide) (by decide) hn
  refine mi_rh hh1 ?_
  have hb1 : bx1 a = none := (hq1 a hab).trans hb
  refine ⟨_, hk_fr hb1, trivial, _, hk_fw hb1, ?_⟩
  refine ⟨by omega, by omega, by omega, fun b2 hn2 _ => ?_⟩
  have hab2 : a ≠ b2 := fun z => by rw [← z, hk_fr hb1] at hn2; cases hn2
  obtain ⟨B2, bx2, hh2, hx2, hV2, hA2, hB2, hq2⟩ := kNr_ex hx1 hV1 hA1.2.1 (c := 2) (by decide) (n := 0) (by decide) (by decide) hn2
  refine mi_rh hh2 ?_
  have hb2 : bx2 a = none := (hq2 a hab2).trans hb1
  refine ⟨_, hk_fr hb2, trivial, _, hk_fw hb2, ?_⟩
  refine ⟨-1, rfl, ?_⟩
  refine ⟨_, hk_fr hb2, trivial, _, hk_fw hb2, ?_⟩
  refine ⟨_, hk_fr hb2, trivial, _, hk_fw hb2, ?_⟩
  have k1 : kal (kNr κ 2 0) 17 (κ 602 0).toNat := (kal_nr l602).mpr (Or.inr ⟨rfl, rfl⟩)
  have e1 : B2 17 (κ 602 0).toNat = b := ((hA2.1 17 _ k1).1.symm).trans hB1
  have e2 : B2 17 (κ 602 0 + 1).toNat = b2 := by rw [← kNr_602 (κ := κ) (c := 2) (n := 0)]; exact hB2
  have el : kNs_l B2 (κ 602 0) (κ 602 0 + 1) c = [aI 0, aR b, aR b2, aI 0, aI 0, aI 0, aI 0, aI 0, aL c, aL (-1), aL 0, aI 0] := by
    unfold kNs_l
    rw [e1, e2]
  exact ⟨⟨rfl, B2, bx2, congrArg (fun l => hk G B2 bx2 (va_up h0 a (some (Sum.inr (2, List.map cv l)))) (kNr (kNr κ 2 0) 2 0)) el.symm, hx2, hV2, kaw_trans (kaw_f hA1) (kaw_f hA2), hb2⟩, by omega, by omega⟩
set_option maxRecDepth 100000 in
theorem m_rInit (hF : mm_F G) (htr : L.stackTraces = false) (hx : kx B bx κ) (hV : kV κ) (hW : kW κ) {a : Nat} {c : Int} (hb : bx a = none) :
    mm_Met L G SX1_init [.ref a, .int (iI c)] (hk G B bx (va_up h0 a (some (.inr (1, mm_blank 1)))) κ) 1 0 (mRetN G bx B h0 κ 1 (fun B' => kNq_l B' (κ 602 0) c) a (kNr κ 3 0)) mm_no := by
  refine mi_meth MX1_init 60 hF htr okX1_init (av := [aR a, aI c]) (by decide +kernel) (Nat.le_of_ble_eq_true rfl) cmX1_init (fun θ hc => ?_)
  rw [mm_bl1]
  have l602 : 2 ≤ κ 602 0 := hV.l 602 0
  refine ⟨_, hk_fr hb, trivial, _, hk_fw hb, ?_⟩
  refine ⟨by omega, by omega, by omega, fun b hn _ => ?_⟩
  have hab : a ≠ b := fun z => by rw [← z, hk_fr hb] at hn; cases hn
  obtain ⟨B1, bx1, hh1, hx1, hV1, hA1, hB1, hq1⟩ := kNr_ex hx hV hW (c := 3) (by decide) (n := 0) (by decide) (by decide) hn
  refine mi_rh hh1 ?_
  have hb1 : bx1 a = none := (hq1 a hab).trans hb
  refine ⟨_, hk_fr hb1, trivial, _, hk_fw hb1, ?_⟩
  refine ⟨_, hk_fr hb1, trivial, _, hk_fw hb1, ?_⟩
  refine ⟨_, hk_fr hb1, trivial, _, hk_fw hb1, ?_⟩
  refine ⟨_, hk_fr hb1, trivial, _, hk_fw hb1, ?_⟩
  have el : kNq_l B1 (κ 602 0) c = [aI 0, aR b, aI 0, aI 0, aI 0, aI (-1), aI c, aI c, aI 0, aI 0, aI 0, aL 0, aL 0, aI 0] := by
    unfold kNq_l
    rw [hB1]
  exact ⟨⟨rfl, B1, bx1, congrArg (fun l => hk G B1 bx1 (va_up h0 a (some (Sum.inr (1, List.map cv l)))) (kNr κ 3 0)) el.symm, hx1, hV1, kaw_f hA1, hb1⟩, by omega, by omega⟩
def s_makeParts (κ : Nat → Nat → Int) (s i : Int) : Nat → Nat → Int := (if (i % 2) = s then (if (v_kWayOf i) = 0 then (u2 (kNq (kNr (kNs (kNr (kNr κ 2 0) 2 0) (mj s i) (κ 602 0) (κ 602 0 + 1) (κ 361 ((16 * s) + (v_grantFor (1 - s) i)).toNat)) 3 0) (mj s i) ((kNs (kNr (kNr κ 2 0) 2 0) (mj s i) (κ 602 0) (κ 602 0 + 1) (κ 361 ((16 * s) + (v_grantFor (1 - s) i)).toNat)) 602 0) (κ 360 ((16 * s) + (v_grantFor s i)).toNat)) 306 s.toNat (v_maxI (κ 306 s.toNat) (i + 1))) else (u2 (kNs (kNr (kNr κ 2 0) 2 0) (mj s i) (κ 602 0) (κ 602 0 + 1) (κ 361 ((16 * s) + (v_grantFor (1 - s) i)).toNat)) 306 s.toNat (v_maxI (κ 306 s.toNat) (i + 1)))) else (if (v_kWayOf i) = 0 then (u2 (kNq (kNr (kNs (kNr (kNr κ 2 0) 2 0) (mj s i) (κ 602 0) (κ 602 0 + 1) (κ 361 ((16 * s) + (v_grantFor (1 - s) i)).toNat)) 3 0) (mj s i) ((kNs (kNr (kNr κ 2 0) 2 0) (mj s i) (κ 602 0) (κ 602 0 + 1) (κ 361 ((16 * s) + (v_grantFor (1 - s) i)).toNat)) 602 0) (κ 360 ((16 * s) + (v_grantFor s i)).toNat)) 306 s.toNat (v_maxI (κ 306 s.toNat) (i + 1))) else (u2 (kNq (kNr κ 3 0) (mj s i) (κ 602 0) (κ 360 ((16 * s) + (v_grantFor s i)).toNat)) 306 s.toNat (v_maxI (κ 306 s.toNat) (i + 1)))))
set_option maxRecDepth 100000 in
theorem m_makeParts (hF : mm_F G) (htr : L.stackTraces = false) (hx : kx B bx κ) (hV : kV κ) (hW : kW κ) {s i : Int} {a0 : Nat} (ea0 : a0 = B 3 s.toNat) (h1 : 0 ≤ s) (h2 : s ≤ 1) (h3 : 0 ≤ i) (h4 : i < 256) (hn2 : ¬ κ 290 (mj s i) = 1) (hn1 : ¬ κ 190 (mj s i) = 1) :
    mm_Met L G SX3_makeParts [.ref a0, .int (iI i)] (hk G B bx h0 κ) 5 26 (mRetW G bx B h0 κ none (s_makeParts κ s i) (True)) mm_no := by
  refine mi_meth MX3_makeParts 400 hF htr okX3_makeParts (av := [aR a0, aI i]) (by decide +kernel) (Nat.le_of_ble_eq_true rfl) cmX3_makeParts (fun θ hc => ?_)
  refine ⟨by omega, ?_⟩
  refine ⟨_, hk_o3 hx (show s.toNat < 2 from by omega) ea0, aI s, congrArg aI (Int.toNat_of_nonneg (by omega)), ?_⟩
  refine ⟨by omega, fun (e1 : ¬ ((i % 2) = s)) => ?_, fun (e1 : (i % 2) = s) => ?_⟩
  · refine ⟨_, _, _, _, (m_kWayOf hF htr hx hV (i := i) (by omega) (by omega)), (by first | exact Nat.le_of_ble_eq_true rfl | omega), (by first | exact Nat.le_of_ble_eq_true rfl | omega), mki_ (r := some (aI (v_kWayOf i))) ?_, fun _ _ q => q.elim⟩
    have t2 := kWayOf_b (i := i) (by omega)
    refine mi_nl [(2, aI 0), (0, aR (a0)), (1, aI i)] rfl ?_
    refine ⟨by omega, fun (e3 : ¬ ((v_kWayOf i) = 0)) => ?_, fun (e3 : (v_kWayOf i) = 0) => ?_⟩
    · refine ⟨by omega, fun (e : ¬ ((0 : Int) = 0)) => (e (by decide)).elim, fun _ => ?_⟩
      refine mi_nl [(3, aI 0), (2, aI 0), (0, aR (a0)), (1, aI i)] rfl ?_
      refine ⟨by omega, fun _ => ?_, fun (e : ¬ ((0 : Int) = 0)) => (e (by decide)).elim⟩
      refine ⟨by omega, fun _ => ?_, fun (e : ¬ ((0 : Int) = 0)) => (e (by decide)).elim⟩
      refine ⟨_, hk_o3 hx (show s.toNat < 2 from by omega) ea0, aR (B 16 s.toNat), rfl, ?_⟩
      refine ⟨(by first | exact Nat.le_of_ble_eq_true rfl | omega), (by first | exact Nat.le_of_ble_eq_true rfl | omega), fun an4 hnan4 _ => ?_⟩
      have hban4 := hk_no hnan4
      have hzan4 := hk_no2 hnan4
      refine mi_rh (hk_fl hban4) ?_
      refine ⟨_, hk_o3 hx (show s.toNat < 2 from by omega) ea0, aR (B 12 s.toNat), rfl, ?_⟩
      refine ⟨_, hk_o3 hx (show s.toNat < 2 from by omega) ea0, aI s, congrArg aI (Int.toNat_of_nonneg (by omega)), ?_⟩
      refine ⟨_, _, _, _, (m_grantFor hF htr hx hV (g := s) (i := i) (by omega) (by omega) (by omega) (by omega)), (by first | exact Nat.le_of_ble_eq_true rfl | omega), (by first | exact Nat.le_of_ble_eq_true rfl | omega), mki_ (r := some (aI (v_grantFor s i))) ?_, fun _ _ q => q.elim⟩
      have t5 := v_grantFor_b s i
      refine ⟨10, _, (κ 360 ((16 * s) + (v_grantFor s i)).toNat), hk_g hx (show s.toNat < 2 from by omega) rfl, by omega, (kg_i (s := s) (i := (v_grantFor s i)) (by omega) (by omega) (by omega)), ?_⟩
      have t6 := (show 0 ≤ κ 360 ((16 * s) + (v_grantFor s i)).toNat ∧ κ 360 ((16 * s) + (v_grantFor s i)).toNat ≤ 65536 from hV.g 360 ((16 * s) + (v_grantFor s i)).toNat rfl)
      have t8 := (show 2 ≤ κ 602 0 from hV.l 602 0)
      refine ⟨_, _, _, _, (m_rInit hF htr hx hV (kaw_refl (h0 := h0) (bx := bx) (B := B) hW).2.1 hban4 (c := (κ 360 ((16 * s) + (v_grantFor s i)).toNat))), (by first | exact Nat.le_of_ble_eq_true rfl | omega), (by first | exact Nat.le_of_ble_eq_true rfl | omega), mkin (fun B7 bx7 hx7 hV7 hA7 hbb7 => ?_), fun _ _ q => q.elim⟩
      have m67 : (kNr κ 3 0) 602 0 = κ 602 0 + 1 := kNr_602
      obtain ⟨B9, bx9, hh9, hx9, hV9, hA9, hB9⟩ := kNq_ex (G := G) (h0 := h0) (s := s) (i := i) (r1 := κ 602 0) (c := (κ 360 ((16 * s) + (v_grantFor s i)).toNat)) (a := an4) hx7 hV7 (kaw_trans (kaw_refl (h0 := h0) (bx := bx) (B := B) hW) hA7).2.1 (by omega) (by omega) (by omega) (by omega) (show ¬ (kNr κ 3 0) 190 (mj s i) = 1 from by rw [show (kNr κ 3 0) 190 (mj s i) = (κ 190 (mj s i)) from (kNr_o (by decide))]; omega) hbb7 hzan4 (show 0 ≤ κ 602 0 from by omega) (by omega) (by omega) (show κ 602 0 < (kNr κ 3 0) 602 0 from by rw [m67]; omega)
      refine ⟨256, _, _, _, hk_rs hx7 (show s.toNat < 2 from by omega) ((rfl : B 16 s.toNat = _).trans (hA7.1 16 s.toNat (show s.toNat < 2 from by omega)).1), hk_fr hbb7, by omega, (congrArg (fun q => va_up _ q _) (show B 16 s.toNat = _ from ((rfl : B 16 s.toNat = _).trans (hA7.1 16 s.toNat (show s.toNat < 2 from by omega)).1))).trans hh9, ?_⟩
      refine ⟨_, hk_o3 hx9 (show s.toNat < 2 from by omega) ((ea0.trans (hA7.1 3 s.toNat (show s.toNat < 2 from by omega)).1).trans (hA9.1 3 s.toNat (show s.toNat < 2 from by omega)).1), aI (κ 306 s.toNat), congrArg aI (show (kNq (kNr κ 3 0) (mj s i) (κ 602 0) (κ 360 ((16 * s) + (v_grantFor s i)).toNat)) 306 s.toNat = (κ 306 s.toNat) from (Eq.trans (kNq_o (by omega)) (kNr_o (by decide)))), ?_⟩
      have t10 := (show 0 ≤ κ 306 s.toNat ∧ κ 306 s.toNat ≤ 256 from hV.g 306 s.toNat rfl)
      refine ⟨_, _, _, _, (m_maxI hF htr hx9 hV9 (a := (κ 306 s.toNat)) (b := (i + 1)) (by omega) (by omega) (by omega) (by omega)), (by first | exact Nat.le_of_ble_eq_true rfl | omega), (by first | exact Nat.le_of_ble_eq_true rfl | omega), mki_ (r := some (aI (v_maxI (κ 306 s.toNat) (i + 1)))) ?_, fun _ _ q => q.elim⟩
      have t11 := maxI_b (κ 306 s.toNat) (i + 1)
      refine ⟨_, hk_o3 hx9 (show s.toNat < 2 from by omega) ((ea0.trans (hA7.1 3 s.toNat (show s.toNat < 2 from by omega)).1).trans (hA9.1 3 s.toNat (show s.toNat < 2 from by omega)).1), trivial, _, kp_306 hx9 (show s.toNat < 2 from by omega) (v := (v_maxI (κ 306 s.toNat) (i + 1))) ((ea0.trans (hA7.1 3 s.toNat (show s.toNat < 2 from by omega)).1).trans (hA9.1 3 s.toNat (show s.toNat < 2 from by omega)).1), ?_⟩
      have hV12 := hV9.u (f := 306) (k := s.toNat) (v := (v_maxI (κ 306 s.toNat) (i + 1))) rfl (show 0 ≤ (v_maxI (κ 306 s.toNat) (i + 1)) ∧ (v_maxI (κ 306 s.toNat) (i + 1)) ≤ 256 from by omega)
      have hx13 := kx_u (f := 306) (k := s.toNat) (v := (v_maxI (κ 306 s.toNat) (i + 1))) rfl hx9
      exact ⟨kRetVW  (by first | exact (if_neg e1).trans (if_neg e3) | (unfold s_makeParts; rw [if_neg e1, if_neg e3])) hx13 hV12 (kaw_u rfl (kaw_trans (kaw_trans (kaw_refl (h0 := h0) (bx := bx) (B := B) hW) hA7) hA9)) trivial, (by first | exact Nat.le_of_ble_eq_true rfl | omega), (by first | exact Nat.le_of_ble_eq_true rfl | omega)⟩
    · refine ⟨by omega, fun (e : ¬ ((0 : Int) = 0)) => (e (by decide)).elim, fun _ => ?_⟩
      refine mi_nl [(3, aI 1), (2, aI 0), (0, aR (a0)), (1, aI i)] rfl ?_
      refine ⟨by omega, fun (e : (1 : Int) = 0) => absurd e (by decide), fun _ => ?_⟩
      refine ⟨_, hk_o3 hx (show s.toNat < 2 from by omega) ea0, aR (B 15 s.toNat), rfl, ?_⟩
      refine ⟨(by first | exact Nat.le_of_ble_eq_true rfl | omega), (by first | exact Nat.le_of_ble_eq_true rfl | omega), fun an14 hnan14 _ => ?_⟩
      have hban14 := hk_no hnan14
      have hzan14 := hk_no2 hnan14
      refine mi_rh (hk_fl hban14) ?_
      refine ⟨_, hk_o3 hx (show s.toNat < 2 from by omega) ea0, aR (B 13 s.toNat), rfl, ?_⟩
      refine ⟨_, hk_o3 hx (show s.toNat < 2 from by omega) ea0, aI s, congrArg aI (Int.toNat_of_nonneg (by omega)), ?_⟩
      refine ⟨_, _, _, _, (m_grantFor hF htr hx hV (g := (1 - s)) (i := i) (by omega) (by omega) (by omega) (by omega)), (by first | exact Nat.le_of_ble_eq_true rfl | omega), (by first | exact Nat.le_of_ble_eq_true rfl | omega), mki_ (r := some (aI (v_grantFor (1 - s) i))) ?_, fun _ _ q => q.elim⟩
      have t15 := v_grantFor_b (1 - s) i
      refine ⟨10, _, (κ 361 ((16 * s) + (v_grantFor (1 - s) i)).toNat), hk_p hx (show s.toNat < 2 from by omega) rfl, by omega, (kg_i (s := s) (i := (v_grantFor (1 - s) i)) (by omega) (by omega) (by omega)), ?_⟩
      have t16 := (show 0 ≤ κ 361 ((16 * s) + (v_grantFor (1 - s) i)).toNat ∧ κ 361 ((16 * s) + (v_grantFor (1 - s) i)).toNat ≤ 65536 from hV.g 361 ((16 * s) + (v_grantFor (1 - s) i)).toNat rfl)
      refine ⟨by omega, ?_⟩
      have t18 := (show 2 ≤ κ 602 0 from hV.l 602 0)
      refine ⟨_, _, _, _, (m_sInit hF htr hx hV (kaw_refl (h0 := h0) (bx := bx) (B := B) hW).2.1 hban14 (c := (κ 361 ((16 * s) + (v_grantFor (1 - s) i)).toNat))), (by first | exact Nat.le_of_ble_eq_true rfl | omega), (by first | exact Nat.le_of_ble_eq_true rfl | omega), mkin (fun B17 bx17 hx17 hV17 hA17 hbb17 => ?_), fun _ _ q => q.elim⟩
      have m617 : (kNr (kNr κ 2 0) 2 0) 602 0 = κ 602 0 + 2 := by rw [kNr_602, kNr_602]; omega
      obtain ⟨B19, bx19, hh19, hx19, hV19, hA19, hB19⟩ := kNs_ex (G := G) (h0 := h0) (s := s) (i := i) (r1 := κ 602 0) (r2 := κ 602 0 + 1) (c := (κ 361 ((16 * s) + (v_grantFor (1 - s) i)).toNat)) (a := an14) hx17 hV17 (kaw_trans (kaw_refl (h0 := h0) (bx := bx) (B := B) hW) hA17).2.1 (by omega) (by omega) (by omega) (by omega) (show ¬ (kNr (kNr κ 2 0) 2 0) 290 (mj s i) = 1 from by rw [show (kNr (kNr κ 2 0) 2 0) 290 (mj s i) = (κ 290 (mj s i)) from ((kNr_o (by decide)).trans (kNr_o (by decide)))]; omega) hbb17 hzan14 (show 0 ≤ κ 602 0 from by omega) (show 0 ≤ κ 602 0 + 1 from by omega) (by omega) (by omega) (show κ 602 0 < (kNr (kNr κ 2 0) 2 0) 602 0 from by rw [m617]; omega) (show κ 602 0 + 1 < (kNr (kNr κ 2 0) 2 0) 602 0 from by rw [m617]; omega)
      refine ⟨256, _, _, _, hk_ss hx17 (show s.toNat < 2 from by omega) ((rfl : B 15 s.toNat = _).trans (hA17.1 15 s.toNat (show s.toNat < 2 from by omega)).1), hk_fr hbb17, by omega, (congrArg (fun q => va_up _ q _) (show B 15 s.toNat = _ from ((rfl : B 15 s.toNat = _).trans (hA17.1 15 s.toNat (show s.toNat < 2 from by omega)).1))).trans hh19, ?_⟩
      refine ⟨by omega, fun _ => ?_, fun (e : ¬ ((0 : Int) = 0)) => (e (by decide)).elim⟩
      refine ⟨_, hk_o3 hx19 (show s.toNat < 2 from by omega) ((ea0.trans (hA17.1 3 s.toNat (show s.toNat < 2 from by omega)).1).trans (hA19.1 3 s.toNat (show s.toNat < 2 from by omega)).1), aR (B19 16 s.toNat), rfl, ?_⟩
      refine ⟨(by first | exact Nat.le_of_ble_eq_true rfl | omega), (by first | exact Nat.le_of_ble_eq_true rfl | omega), fun an20 hnan20 _ => ?_⟩
      have hban20 := hk_no hnan20
      have hzan20 := hk_no2 hnan20
      refine mi_rh (hk_fl hban20) ?_
      refine ⟨_, hk_o3 hx19 (show s.toNat < 2 from by omega) ((ea0.trans (hA17.1 3 s.toNat (show s.toNat < 2 from by omega)).1).trans (hA19.1 3 s.toNat (show s.toNat < 2 from by omega)).1), aR (B19 12 s.toNat), rfl, ?_⟩
      refine ⟨_, hk_o3 hx19 (show s.toNat < 2 from by omega) ((ea0.trans (hA17.1 3 s.toNat (show s.toNat < 2 from by omega)).1).trans (hA19.1 3 s.toNat (show s.toNat < 2 from by omega)).1), aI s, congrArg aI (Int.toNat_of_nonneg (by omega)), ?_⟩
      refine ⟨_, _, _, _, (m_grantFor hF htr hx19 hV19 (g := s) (i := i) (by omega) (by omega) (by omega) (by omega)), (by first | exact Nat.le_of_ble_eq_true rfl | omega), (by first | exact Nat.le_of_ble_eq_true rfl | omega), mki_ (r := some (aI (v_grantFor s i))) ?_, fun _ _ q => q.elim⟩
      have t21 := v_grantFor_b s i
      refine ⟨10, _, (κ 360 ((16 * s) + (v_grantFor s i)).toNat), hk_g hx19 (show s.toNat < 2 from by omega) rfl, by omega, (kg_i (s := s) (i := (v_grantFor s i)) (by omega) (by omega) (by omega)).trans ((Eq.trans (kNs_o (by omega)) ((kNr_o (by decide)).trans (kNr_o (by decide))))), ?_⟩
      have t22 := (show 0 ≤ κ 360 ((16 * s) + (v_grantFor s i)).toNat ∧ κ 360 ((16 * s) + (v_grantFor s i)).toNat ≤ 65536 from hV.g 360 ((16 * s) + (v_grantFor s i)).toNat rfl)
      have t24 := (show 2 ≤ (kNr (kNr κ 2 0) 2 0) 602 0 from hV17.l 602 0)
      refine ⟨_, _, _, _, (m_rInit hF htr hx19 hV19 (kaw_trans (kaw_trans (kaw_refl (h0 := h0) (bx := bx) (B := B) hW) hA17) hA19).2.1 hban20 (c := (κ 360 ((16 * s) + (v_grantFor s i)).toNat))), (by first | exact Nat.le_of_ble_eq_true rfl | omega), (by first | exact Nat.le_of_ble_eq_true rfl | omega), mkin (fun B23 bx23 hx23 hV23 hA23 hbb23 => ?_), fun _ _ q => q.elim⟩
      have m623 : (kNr (kNs (kNr (kNr κ 2 0) 2 0) (mj s i) (κ 602 0) (κ 602 0 + 1) (κ 361 ((16 * s) + (v_grantFor (1 - s) i)).toNat)) 3 0) 602 0 = (kNs (kNr (kNr κ 2 0) 2 0) (mj s i) (κ 602 0) (κ 602 0 + 1) (κ 361 ((16 * s) + (v_grantFor (1 - s) i)).toNat)) 602 0 + 1 := kNr_602
      rw [show (kNs (kNr (kNr κ 2 0) 2 0) (mj s i) (κ 602 0) (κ 602 0 + 1) (κ 361 ((16 * s) + (v_grantFor (1 - s) i)).toNat)) 602 0 = ((kNr (kNr κ 2 0) 2 0) 602 0) from (kNs_o (by omega))] at m623
      obtain ⟨B25, bx25, hh25, hx25, hV25, hA25, hB25⟩ := kNq_ex (G := G) (h0 := h0) (s := s) (i := i) (r1 := (kNs (kNr (kNr κ 2 0) 2 0) (mj s i) (κ 602 0) (κ 602 0 + 1) (κ 361 ((16 * s) + (v_grantFor (1 - s) i)).toNat)) 602 0) (c := (κ 360 ((16 * s) + (v_grantFor s i)).toNat)) (a := an20) hx23 hV23 (kaw_trans (kaw_trans (kaw_trans (kaw_refl (h0 := h0) (bx := bx) (B := B) hW) hA17) hA19) hA23).2.1 (by omega) (by omega) (by omega) (by omega) (show ¬ (kNr (kNs (kNr (kNr κ 2 0) 2 0) (mj s i) (κ 602 0) (κ 602 0 + 1) (κ 361 ((16 * s) + (v_grantFor (1 - s) i)).toNat)) 3 0) 190 (mj s i) = 1 from by rw [show (kNr (kNs (kNr (kNr κ 2 0) 2 0) (mj s i) (κ 602 0) (κ 602 0 + 1) (κ 361 ((16 * s) + (v_grantFor (1 - s) i)).toNat)) 3 0) 190 (mj s i) = (κ 190 (mj s i)) from (Eq.trans (kNr_o (by decide)) (Eq.trans (kNs_o (by omega)) ((kNr_o (by decide)).trans (kNr_o (by decide)))))]; omega) hbb23 hzan20 (show 0 ≤ (kNs (kNr (kNr κ 2 0) 2 0) (mj s i) (κ 602 0) (κ 602 0 + 1) (κ 361 ((16 * s) + (v_grantFor (1 - s) i)).toNat)) 602 0 from by rw [show (kNs (kNr (kNr κ 2 0) 2 0) (mj s i) (κ 602 0) (κ 602 0 + 1) (κ 361 ((16 * s) + (v_grantFor (1 - s) i)).toNat)) 602 0 = ((kNr (kNr κ 2 0) 2 0) 602 0) from (kNs_o (by omega))]; omega) (by omega) (by omega) (show (kNs (kNr (kNr κ 2 0) 2 0) (mj s i) (κ 602 0) (κ 602 0 + 1) (κ 361 ((16 * s) + (v_grantFor (1 - s) i)).toNat)) 602 0 < (kNr (kNs (kNr (kNr κ 2 0) 2 0) (mj s i) (κ 602 0) (κ 602 0 + 1) (κ 361 ((16 * s) + (v_grantFor (1 - s) i)).toNat)) 3 0) 602 0 from by rw [m623]; rw [show (kNs (kNr (kNr κ 2 0) 2 0) (mj s i) (κ 602 0) (κ 602 0 + 1) (κ 361 ((16 * s) + (v_grantFor (1 - s) i)).toNat)) 602 0 = ((kNr (kNr κ 2 0) 2 0) 602 0) from (kNs_o (by omega))]; omega)
      refine ⟨256, _, _, _, hk_rs hx23 (show s.toNat < 2 from by omega) ((rfl : B19 16 s.toNat = _).trans (hA23.1 16 s.toNat (show s.toNat < 2 from by omega)).1), hk_fr hbb23, by omega, (congrArg (fun q => va_up _ q _) (show B19 16 s.toNat = _ from ((rfl : B19 16 s.toNat = _).trans (hA23.1 16 s.toNat (show s.toNat < 2 from by omega)).1))).trans hh25, ?_⟩
      refine ⟨_, hk_o3 hx25 (show s.toNat < 2 from by omega) ((((ea0.trans (hA17.1 3 s.toNat (show s.toNat < 2 from by omega)).1).trans (hA19.1 3 s.toNat (show s.toNat < 2 from by omega)).1).trans (hA23.1 3 s.toNat (show s.toNat < 2 from by omega)).1).trans (hA25.1 3 s.toNat (show s.toNat < 2 from by omega)).1), aI (κ 306 s.toNat), congrArg aI (show (kNq (kNr (kNs (kNr (kNr κ 2 0) 2 0) (mj s i) (κ 602 0) (κ 602 0 + 1) (κ 361 ((16 * s) + (v_grantFor (1 - s) i)).toNat)) 3 0) (mj s i) ((kNs (kNr (kNr κ 2 0) 2 0) (mj s i) (κ 602 0) (κ 602 0 + 1) (κ 361 ((16 * s) + (v_grantFor (1 - s) i)).toNat)) 602 0) (κ 360 ((16 * s) + (v_grantFor s i)).toNat)) 306 s.toNat = (κ 306 s.toNat) from (Eq.trans (kNq_o (by omega)) (Eq.trans (kNr_o (by decide)) (Eq.trans (kNs_o (by omega)) ((kNr_o (by decide)).trans (kNr_o (by decide))))))), ?_⟩
      have t26 := (show 0 ≤ κ 306 s.toNat ∧ κ 306 s.toNat ≤ 256 from hV.g 306 s.toNat rfl)
      refine ⟨_, _, _, _, (m_maxI hF htr hx25 hV25 (a := (κ 306 s.toNat)) (b := (i + 1)) (by omega) (by omega) (by omega) (by omega)), (by first | exact Nat.le_of_ble_eq_true rfl | omega), (by first | exact Nat.le_of_ble_eq_true rfl | omega), mki_ (r := some (aI (v_maxI (κ 306 s.toNat) (i + 1)))) ?_, fun _ _ q => q.elim⟩
      have t27 := maxI_b (κ 306 s.toNat) (i + 1)
      refine ⟨_, hk_o3 hx25 (show s.toNat < 2 from by omega) ((((ea0.trans (hA17.1 3 s.toNat (show s.toNat < 2 from by omega)).1).trans (hA19.1 3 s.toNat (show s.toNat < 2 from by omega)).1).trans (hA23.1 3 s.toNat (show s.toNat < 2 from by omega)).1).trans (hA25.1 3 s.toNat (show s.toNat < 2 from by omega)).1), trivial, _, kp_306 hx25 (show s.toNat < 2 from by omega) (v := (v_maxI (κ 306 s.toNat) (i + 1))) ((((ea0.trans (hA17.1 3 s.toNat (show s.toNat < 2 from by omega)).1).trans (hA19.1 3 s.toNat (show s.toNat < 2 from by omega)).1).trans (hA23.1 3 s.toNat (show s.toNat < 2 from by omega)).1).trans (hA25.1 3 s.toNat (show s.toNat < 2 from by omega)).1), ?_⟩
      have hV28 := hV25.u (f := 306) (k := s.toNat) (v := (v_maxI (κ 306 s.toNat) (i + 1))) rfl (show 0 ≤ (v_maxI (κ 306 s.toNat) (i + 1)) ∧ (v_maxI (κ 306 s.toNat) (i + 1)) ≤ 256 from by omega)
      have hx29 := kx_u (f := 306) (k := s.toNat) (v := (v_maxI (κ 306 s.toNat) (i + 1))) rfl hx25
      exact ⟨kRetVW  (by first | exact (if_neg e1).trans (if_pos e3) | (unfold s_makeParts; rw [if_neg e1, if_pos e3])) hx29 hV28 (kaw_u rfl (kaw_trans (kaw_trans (kaw_trans (kaw_trans (kaw_refl (h0 := h0) (bx := bx) (B := B) hW) hA17) hA19) hA23) hA25)) trivial, (by first | exact Nat.le_of_ble_eq_true rfl | omega), (by first | exact Nat.le_of_ble_eq_true rfl | omega)⟩
  · refine ⟨_, _, _, _, (m_kWayOf hF htr hx hV (i := i) (by omega) (by omega)), (by first | exact Nat.le_of_ble_eq_true rfl | omega), (by first | exact Nat.le_of_ble_eq_true rfl | omega), mki_ (r := some (aI (v_kWayOf i))) ?_, fun _ _ q => q.elim⟩
    have t30 := kWayOf_b (i := i) (by omega)
    refine mi_nl [(2, aI 1), (0, aR (a0)), (1, aI i)] rfl ?_
    refine ⟨by omega, fun (e31 : ¬ ((v_kWayOf i) = 0)) => ?_, fun (e31 : (v_kWayOf i) = 0) => ?_⟩
    · refine ⟨by omega, fun _ => ?_, fun (e : (1 : Int) = 0) => absurd e (by decide)⟩
      refine mi_nl [(3, aI 0), (2, aI 1), (0, aR (a0)), (1, aI i)] rfl ?_
      refine ⟨_, hk_o3 hx (show s.toNat < 2 from by omega) ea0, aR (B 15 s.toNat), rfl, ?_⟩
      refine ⟨(by first | exact Nat.le_of_ble_eq_true rfl | omega), (by first | exact Nat.le_of_ble_eq_true rfl | omega), fun an32 hnan32 _ => ?_⟩
      have hban32 := hk_no hnan32
      have hzan32 := hk_no2 hnan32
      refine mi_rh (hk_fl hban32) ?_
      refine ⟨_, hk_o3 hx (show s.toNat < 2 from by omega) ea0, aR (B 13 s.toNat), rfl, ?_⟩
      refine ⟨_, hk_o3 hx (show s.toNat < 2 from by omega) ea0, aI s, congrArg aI (Int.toNat_of_nonneg (by omega)), ?_⟩
      refine ⟨_, _, _, _, (m_grantFor hF htr hx hV (g := (1 - s)) (i := i) (by omega) (by omega) (by omega) (by omega)), (by first | exact Nat.le_of_ble_eq_true rfl | omega), (by first | exact Nat.le_of_ble_eq_true rfl | omega), mki_ (r := some (aI (v_grantFor (1 - s) i))) ?_, fun _ _ q => q.elim⟩
      have t33 := v_grantFor_b (1 - s) i
      refine ⟨10, _, (κ 361 ((16 * s) + (v_grantFor (1 - s) i)).toNat), hk_p hx (show s.toNat < 2 from by omega) rfl, by omega, (kg_i (s := s) (i := (v_grantFor (1 - s) i)) (by omega) (by omega) (by omega)), ?_⟩
      have t34 := (show 0 ≤ κ 361 ((16 * s) + (v_grantFor (1 - s) i)).toNat ∧ κ 361 ((16 * s) + (v_grantFor (1 - s) i)).toNat ≤ 65536 from hV.g 361 ((16 * s) + (v_grantFor (1 - s) i)).toNat rfl)
      refine ⟨by omega, ?_⟩
      have t36 := (show 2 ≤ κ 602 0 from hV.l 602 0)
      refine ⟨_, _, _, _, (m_sInit hF htr hx hV (kaw_refl (h0 := h0) (bx := bx) (B := B) hW).2.1 hban32 (c := (κ 361 ((16 * s) + (v_grantFor (1 - s) i)).toNat))), (by first | exact Nat.le_of_ble_eq_true rfl | omega), (by first | exact Nat.le_of_ble_eq_true rfl | omega), mkin (fun B35 bx35 hx35 hV35 hA35 hbb35 => ?_), fun _ _ q => q.elim⟩
      have m635 : (kNr (kNr κ 2 0) 2 0) 602 0 = κ 602 0 + 2 := by rw [kNr_602, kNr_602]; omega
      obtain ⟨B37, bx37, hh37, hx37, hV37, hA37, hB37⟩ := kNs_ex (G := G) (h0 := h0) (s := s) (i := i) (r1 := κ 602 0) (r2 := κ 602 0 + 1) (c := (κ 361 ((16 * s) + (v_grantFor (1 - s) i)).toNat)) (a := an32) hx35 hV35 (kaw_trans (kaw_refl (h0 := h0) (bx := bx) (B := B) hW) hA35).2.1 (by omega) (by omega) (by omega) (by omega) (show ¬ (kNr (kNr κ 2 0) 2 0) 290 (mj s i) = 1 from by rw [show (kNr (kNr κ 2 0) 2 0) 290 (mj s i) = (κ 290 (mj s i)) from ((kNr_o (by decide)).trans (kNr_o (by decide)))]; omega) hbb35 hzan32 (show 0 ≤ κ 602 0 from by omega) (show 0 ≤ κ 602 0 + 1 from by omega) (by omega) (by omega) (show κ 602 0 < (kNr (kNr κ 2 0) 2 0) 602 0 from by rw [m635]; omega) (show κ 602 0 + 1 < (kNr (kNr κ 2 0) 2 0) 602 0 from by rw [m635]; omega)
      refine ⟨256, _, _, _, hk_ss hx35 (show s.toNat < 2 from by omega) ((rfl : B 15 s.toNat = _).trans (hA35.1 15 s.toNat (show s.toNat < 2 from by omega)).1), hk_fr hbb35, by omega, (congrArg (fun q => va_up _ q _) (show B 15 s.toNat = _ from ((rfl : B 15 s.toNat = _).trans (hA35.1 15 s.toNat (show s.toNat < 2 from by omega)).1))).trans hh37, ?_⟩
      refine ⟨by omega, fun (e : (1 : Int) = 0) => absurd e (by decide), fun _ => ?_⟩
      refine ⟨by omega, fun _ => ?_, fun (e : ¬ ((0 : Int) = 0)) => (e (by decide)).elim⟩
      refine ⟨_, hk_o3 hx37 (show s.toNat < 2 from by omega) ((ea0.trans (hA35.1 3 s.toNat (show s.toNat < 2 from by omega)).1).trans (hA37.1 3 s.toNat (show s.toNat < 2 from by omega)).1), aI (κ 306 s.toNat), congrArg aI (show (kNs (kNr (kNr κ 2 0) 2 0) (mj s i) (κ 602 0) (κ 602 0 + 1) (κ 361 ((16 * s) + (v_grantFor (1 - s) i)).toNat)) 306 s.toNat = (κ 306 s.toNat) from (Eq.trans (kNs_o (by omega)) ((kNr_o (by decide)).trans (kNr_o (by decide))))), ?_⟩
      have t38 := (show 0 ≤ κ 306 s.toNat ∧ κ 306 s.toNat ≤ 256 from hV.g 306 s.toNat rfl)
      refine ⟨_, _, _, _, (m_maxI hF htr hx37 hV37 (a := (κ 306 s.toNat)) (b := (i + 1)) (by omega) (by omega) (by omega) (by omega)), (by first | exact Nat.le_of_ble_eq_true rfl | omega), (by first | exact Nat.le_of_ble_eq_true rfl | omega), mki_ (r := some (aI (v_maxI (κ 306 s.toNat) (i + 1)))) ?_, fun _ _ q => q.elim⟩
      have t39 := maxI_b (κ 306 s.toNat) (i + 1)
      refine ⟨_, hk_o3 hx37 (show s.toNat < 2 from by omega) ((ea0.trans (hA35.1 3 s.toNat (show s.toNat < 2 from by omega)).1).trans (hA37.1 3 s.toNat (show s.toNat < 2 from by omega)).1), trivial, _, kp_306 hx37 (show s.toNat < 2 from by omega) (v := (v_maxI (κ 306 s.toNat) (i + 1))) ((ea0.trans (hA35.1 3 s.toNat (show s.toNat < 2 from by omega)).1).trans (hA37.1 3 s.toNat (show s.toNat < 2 from by omega)).1), ?_⟩
      have hV40 := hV37.u (f := 306) (k := s.toNat) (v := (v_maxI (κ 306 s.toNat) (i + 1))) rfl (show 0 ≤ (v_maxI (κ 306 s.toNat) (i + 1)) ∧ (v_maxI (κ 306 s.toNat) (i + 1)) ≤ 256 from by omega)
      have hx41 := kx_u (f := 306) (k := s.toNat) (v := (v_maxI (κ 306 s.toNat) (i + 1))) rfl hx37
      exact ⟨kRetVW  (by first | exact (if_pos e1).trans (if_neg e31) | (unfold s_makeParts; rw [if_pos e1, if_neg e31])) hx41 hV40 (kaw_u rfl (kaw_trans (kaw_trans (kaw_refl (h0 := h0) (bx := bx) (B := B) hW) hA35) hA37)) trivial, (by first | exact Nat.le_of_ble_eq_true rfl | omega), (by first | exact Nat.le_of_ble_eq_true rfl | omega)⟩
    · refine ⟨by omega, fun _ => ?_, fun (e : (1 : Int) = 0) => absurd e (by decide)⟩
      refine mi_nl [(3, aI 1), (2, aI 1), (0, aR (a0)), (1, aI i)] rfl ?_
      refine ⟨_, hk_o3 hx (show s.toNat < 2 from by omega) ea0, aR (B 15 s.toNat), rfl, ?_⟩
      refine ⟨(by first | exact Nat.le_of_ble_eq_true rfl | omega), (by first | exact Nat.le_of_ble_eq_true rfl | omega), fun an42 hnan42 _ => ?_⟩
      have hban42 := hk_no hnan42
      have hzan42 := hk_no2 hnan42
      refine mi_rh (hk_fl hban42) ?_
      refine ⟨_, hk_o3 hx (show s.toNat < 2 from by omega) ea0, aR (B 13 s.toNat), rfl, ?_⟩
      refine ⟨_, hk_o3 hx (show s.toNat < 2 from by omega) ea0, aI s, congrArg aI (Int.toNat_of_nonneg (by omega)), ?_⟩
      refine ⟨_, _, _, _, (m_grantFor hF htr hx hV (g := (1 - s)) (i := i) (by omega) (by omega) (by omega) (by omega)), (by first | exact Nat.le_of_ble_eq_true rfl | omega), (by first | exact Nat.le_of_ble_eq_true rfl | omega), mki_ (r := some (aI (v_grantFor (1 - s) i))) ?_, fun _ _ q => q.elim⟩
      have t43 := v_grantFor_b (1 - s) i
      refine ⟨10, _, (κ 361 ((16 * s) + (v_grantFor (1 - s) i)).toNat), hk_p hx (show s.toNat < 2 from by omega) rfl, by omega, (kg_i (s := s) (i := (v_grantFor (1 - s) i)) (by omega) (by omega) (by omega)), ?_⟩
      have t44 := (show 0 ≤ κ 361 ((16 * s) + (v_grantFor (1 - s) i)).toNat ∧ κ 361 ((16 * s) + (v_grantFor (1 - s) i)).toNat ≤ 65536 from hV.g 361 ((16 * s) + (v_grantFor (1 - s) i)).toNat rfl)
      refine ⟨by omega, ?_⟩
      have t46 := (show 2 ≤ κ 602 0 from hV.l 602 0)
      refine ⟨_, _, _, _, (m_sInit hF htr hx hV (kaw_refl (h0 := h0) (bx := bx) (B := B) hW).2.1 hban42 (c := (κ 361 ((16 * s) + (v_grantFor (1 - s) i)).toNat))), (by first | exact Nat.le_of_ble_eq_true rfl | omega), (by first | exact Nat.le_of_ble_eq_true rfl | omega), mkin (fun B45 bx45 hx45 hV45 hA45 hbb45 => ?_), fun _ _ q => q.elim⟩
      have m645 : (kNr (kNr κ 2 0) 2 0) 602 0 = κ 602 0 + 2 := by rw [kNr_602, kNr_602]; omega
      obtain ⟨B47, bx47, hh47, hx47, hV47, hA47, hB47⟩ := kNs_ex (G := G) (h0 := h0) (s := s) (i := i) (r1 := κ 602 0) (r2 := κ 602 0 + 1) (c := (κ 361 ((16 * s) + (v_grantFor (1 - s) i)).toNat)) (a := an42) hx45 hV45 (kaw_trans (kaw_refl (h0 := h0) (bx := bx) (B := B) hW) hA45).2.1 (by omega) (by omega) (by omega) (by omega) (show ¬ (kNr (kNr κ 2 0) 2 0) 290 (mj s i) = 1 from by rw [show (kNr (kNr κ 2 0) 2 0) 290 (mj s i) = (κ 290 (mj s i)) from ((kNr_o (by decide)).trans (kNr_o (by decide)))]; omega) hbb45 hzan42 (show 0 ≤ κ 602 0 from by omega) (show 0 ≤ κ 602 0 + 1 from by omega) (by omega) (by omega) (show κ 602 0 < (kNr (kNr κ 2 0) 2 0) 602 0 from by rw [m645]; omega) (show κ 602 0 + 1 < (kNr (kNr κ 2 0) 2 0) 602 0 from by rw [m645]; omega)
      refine ⟨256, _, _, _, hk_ss hx45 (show s.toNat < 2 from by omega) ((rfl : B 15 s.toNat = _).trans (hA45.1 15 s.toNat (show s.toNat < 2 from by omega)).1), hk_fr hbb45, by omega, (congrArg (fun q => va_up _ q _) (show B 15 s.toNat = _ from ((rfl : B 15 s.toNat = _).trans (hA45.1 15 s.toNat (show s.toNat < 2 from by omega)).1))).trans hh47, ?_⟩
      refine ⟨by omega, fun (e : (1 : Int) = 0) => absurd e (by decide), fun _ => ?_⟩
      refine ⟨by omega, fun (e : (1 : Int) = 0) => absurd e (by decide), fun _ => ?_⟩
      refine ⟨_, hk_o3 hx47 (show s.toNat < 2 from by omega) ((ea0.trans (hA45.1 3 s.toNat (show s.toNat < 2 from by omega)).1).trans (hA47.1 3 s.toNat (show s.toNat < 2 from by omega)).1), aR (B47 16 s.toNat), rfl, ?_⟩
      refine ⟨(by first | exact Nat.le_of_ble_eq_true rfl | omega), (by first | exact Nat.le_of_ble_eq_true rfl | omega), fun an48 hnan48 _ => ?_⟩
      have hban48 := hk_no hnan48
      have hzan48 := hk_no2 hnan48
      refine mi_rh (hk_fl hban48) ?_
      refine ⟨_, hk_o3 hx47 (show s.toNat < 2 from by omega) ((ea0.trans (hA45.1 3 s.toNat (show s.toNat < 2 from by omega)).1).trans (hA47.1 3 s.toNat (show s.toNat < 2 from by omega)).1), aR (B47 12 s.toNat), rfl, ?_⟩
      refine ⟨_, hk_o3 hx47 (show s.toNat < 2 from by omega) ((ea0.trans (hA45.1 3 s.toNat (show s.toNat < 2 from by omega)).1).trans (hA47.1 3 s.toNat (show s.toNat < 2 from by omega)).1), aI s, congrArg aI (Int.toNat_of_nonneg (by omega)), ?_⟩
      refine ⟨_, _, _, _, (m_grantFor hF htr hx47 hV47 (g := s) (i := i) (by omega) (by omega) (by omega) (by omega)), (by first | exact Nat.le_of_ble_eq_true rfl | omega), (by first | exact Nat.le_of_ble_eq_true rfl | omega), mki_ (r := some (aI (v_grantFor s i))) ?_, fun _ _ q => q.elim⟩
      have t49 := v_grantFor_b s i
      refine ⟨10, _, (κ 360 ((16 * s) + (v_grantFor s i)).toNat), hk_g hx47 (show s.toNat < 2 from by omega) rfl, by omega, (kg_i (s := s) (i := (v_grantFor s i)) (by omega) (by omega) (by omega)).trans ((Eq.trans (kNs_o (by omega)) ((kNr_o (by decide)).trans (kNr_o (by decide))))), ?_⟩
      have t50 := (show 0 ≤ κ 360 ((16 * s) + (v_grantFor s i)).toNat ∧ κ 360 ((16 * s) + (v_grantFor s i)).toNat ≤ 65536 from hV.g 360 ((16 * s) + (v_grantFor s i)).toNat rfl)
      have t52 := (show 2 ≤ (kNr (kNr κ 2 0) 2 0) 602 0 from hV45.l 602 0)
      refine ⟨_, _, _, _, (m_rInit hF htr hx47 hV47 (kaw_trans (kaw_trans (kaw_refl (h0 := h0) (bx := bx) (B := B) hW) hA45) hA47).2.1 hban48 (c := (κ 360 ((16 * s) + (v_grantFor s i)).toNat))), (by first | exact Nat.le_of_ble_eq_true rfl | omega), (by first | exact Nat.le_of_ble_eq_true rfl | omega), mkin (fun B51 bx51 hx51 hV51 hA51 hbb51 => ?_), fun _ _ q => q.elim⟩
      have m651 : (kNr (kNs (kNr (kNr κ 2 0) 2 0) (mj s i) (κ 602 0) (κ 602 0 + 1) (κ 361 ((16 * s) + (v_grantFor (1 - s) i)).toNat)) 3 0) 602 0 = (kNs (kNr (kNr κ 2 0) 2 0) (mj s i) (κ 602 0) (κ 602 0 + 1) (κ 361 ((16 * s) + (v_grantFor (1 - s) i)).toNat)) 602 0 + 1 := kNr_602
      rw [show (kNs (kNr (kNr κ 2 0) 2 0) (mj s i) (κ 602 0) (κ 602 0 + 1) (κ 361 ((16 * s) + (v_grantFor (1 - s) i)).toNat)) 602 0 = ((kNr (kNr κ 2 0) 2 0) 602 0) from (kNs_o (by omega))] at m651
      obtain ⟨B53, bx53, hh53, hx53, hV53, hA53, hB53⟩ := kNq_ex (G := G) (h0 := h0) (s := s) (i := i) (r1 := (kNs (kNr (kNr κ 2 0) 2 0) (mj s i) (κ 602 0) (κ 602 0 + 1) (κ 361 ((16 * s) + (v_grantFor (1 - s) i)).toNat)) 602 0) (c := (κ 360 ((16 * s) + (v_grantFor s i)).toNat)) (a := an48) hx51 hV51 (kaw_trans (kaw_trans (kaw_trans (kaw_refl (h0 := h0) (bx := bx) (B := B) hW) hA45) hA47) hA51).2.1 (by omega) (by omega) (by omega) (by omega) (show ¬ (kNr (kNs (kNr (kNr κ 2 0) 2 0) (mj s i) (κ 602 0) (κ 602 0 + 1) (κ 361 ((16 * s) + (v_grantFor (1 - s) i)).toNat)) 3 0) 190 (mj s i) = 1 from by rw [show (kNr (kNs (kNr (kNr κ 2 0) 2 0) (mj s i) (κ 602 0) (κ 602 0 + 1) (κ 361 ((16 * s) + (v_grantFor (1 - s) i)).toNat)) 3 0) 190 (mj s i) = (κ 190 (mj s i)) from (Eq.trans (kNr_o (by decide)) (Eq.trans (kNs_o (by omega)) ((kNr_o (by decide)).trans (kNr_o (by decide)))))]; omega) hbb51 hzan48 (show 0 ≤ (kNs (kNr (kNr κ 2 0) 2 0) (mj s i) (κ 602 0) (κ 602 0 + 1) (κ 361 ((16 * s) + (v_grantFor (1 - s) i)).toNat)) 602 0 from by rw [show (kNs (kNr (kNr κ 2 0) 2 0) (mj s i) (κ 602 0) (κ 602 0 + 1) (κ 361 ((16 * s) + (v_grantFor (1 - s) i)).toNat)) 602 0 = ((kNr (kNr κ 2 0) 2 0) 602 0) from (kNs_o (by omega))]; omega) (by omega) (by omega) (show (kNs (kNr (kNr κ 2 0) 2 0) (mj s i) (κ 602 0) (κ 602 0 + 1) (κ 361 ((16 * s) + (v_grantFor (1 - s) i)).toNat)) 602 0 < (kNr (kNs (kNr (kNr κ 2 0) 2 0) (mj s i) (κ 602 0) (κ 602 0 + 1) (κ 361 ((16 * s) + (v_grantFor (1 - s) i)).toNat)) 3 0) 602 0 from by rw [m651]; rw [show (kNs (kNr (kNr κ 2 0) 2 0) (mj s i) (κ 602 0) (κ 602 0 + 1) (κ 361 ((16 * s) + (v_grantFor (1 - s) i)).toNat)) 602 0 = ((kNr (kNr κ 2 0) 2 0) 602 0) from (kNs_o (by omega))]; omega)
      refine ⟨256, _, _, _, hk_rs hx51 (show s.toNat < 2 from by omega) ((rfl : B47 16 s.toNat = _).trans (hA51.1 16 s.toNat (show s.toNat < 2 from by omega)).1), hk_fr hbb51, by omega, (congrArg (fun q => va_up _ q _) (show B47 16 s.toNat = _ from ((rfl : B47 16 s.toNat = _).trans (hA51.1 16 s.toNat (show s.toNat < 2 from by omega)).1))).trans hh53, ?_⟩
      refine ⟨_, hk_o3 hx53 (show s.toNat < 2 from by omega) ((((ea0.trans (hA45.1 3 s.toNat (show s.toNat < 2 from by omega)).1).trans (hA47.1 3 s.toNat (show s.toNat < 2 from by omega)).1).trans (hA51.1 3 s.toNat (show s.toNat < 2 from by omega)).1).trans (hA53.1 3 s.toNat (show s.toNat < 2 from by omega)).1), aI (κ 306 s.toNat), congrArg aI (show (kNq (kNr (kNs (kNr (kNr κ 2 0) 2 0) (mj s i) (κ 602 0) (κ 602 0 + 1) (κ 361 ((16 * s) + (v_grantFor (1 - s) i)).toNat)) 3 0) (mj s i) ((kNs (kNr (kNr κ 2 0) 2 0) (mj s i) (κ 602 0) (κ 602 0 + 1) (κ 361 ((16 * s) + (v_grantFor (1 - s) i)).toNat)) 602 0) (κ 360 ((16 * s) + (v_grantFor s i)).toNat)) 306 s.toNat = (κ 306 s.toNat) from (Eq.trans (kNq_o (by omega)) (Eq.trans (kNr_o (by decide)) (Eq.trans (kNs_o (by omega)) ((kNr_o (by decide)).trans (kNr_o (by decide))))))), ?_⟩
      have t54 := (show 0 ≤ κ 306 s.toNat ∧ κ 306 s.toNat ≤ 256 from hV.g 306 s.toNat rfl)
      refine ⟨_, _, _, _, (m_maxI hF htr hx53 hV53 (a := (κ 306 s.toNat)) (b := (i + 1)) (by omega) (by omega) (by omega) (by omega)), (by first | exact Nat.le_of_ble_eq_true rfl | omega), (by first | exact Nat.le_of_ble_eq_true rfl | omega), mki_ (r := some (aI (v_maxI (κ 306 s.toNat) (i + 1)))) ?_, fun _ _ q => q.elim⟩
      have t55 := maxI_b (κ 306 s.toNat) (i + 1)
      refine ⟨_, hk_o3 hx53 (show s.toNat < 2 from by omega) ((((ea0.trans (hA45.1 3 s.toNat (show s.toNat < 2 from by omega)).1).trans (hA47.1 3 s.toNat (show s.toNat < 2 from by omega)).1).trans (hA51.1 3 s.toNat (show s.toNat < 2 from by omega)).1).trans (hA53.1 3 s.toNat (show s.toNat < 2 from by omega)).1), trivial, _, kp_306 hx53 (show s.toNat < 2 from by omega) (v := (v_maxI (κ 306 s.toNat) (i + 1))) ((((ea0.trans (hA45.1 3 s.toNat (show s.toNat < 2 from by omega)).1).trans (hA47.1 3 s.toNat (show s.toNat < 2 from by omega)).1).trans (hA51.1 3 s.toNat (show s.toNat < 2 from by omega)).1).trans (hA53.1 3 s.toNat (show s.toNat < 2 from by omega)).1), ?_⟩
      have hV56 := hV53.u (f := 306) (k := s.toNat) (v := (v_maxI (κ 306 s.toNat) (i + 1))) rfl (show 0 ≤ (v_maxI (κ 306 s.toNat) (i + 1)) ∧ (v_maxI (κ 306 s.toNat) (i + 1)) ≤ 256 from by omega)
      have hx57 := kx_u (f := 306) (k := s.toNat) (v := (v_maxI (κ 306 s.toNat) (i + 1))) rfl hx53
      exact ⟨kRetVW  (by first | exact (if_pos e1).trans (if_pos e31) | (unfold s_makeParts; rw [if_pos e1, if_pos e31])) hx57 hV56 (kaw_u rfl (kaw_trans (kaw_trans (kaw_trans (kaw_trans (kaw_refl (h0 := h0) (bx := bx) (B := B) hW) hA45) hA47) hA51) hA53)) trivial, (by first | exact Nat.le_of_ble_eq_true rfl | omega), (by first | exact Nat.le_of_ble_eq_true rfl | omega)⟩
set_option maxRecDepth 100000 in
theorem s_makeParts_fr {f kk : Nat} {s i : Int} (hf : (Nat.blt f 1000 && !([100, 101, 102, 103, 104, 105, 106, 107, 108, 109, 110, 111, 112, 113, 190, 200, 201, 202, 203, 204, 205, 206, 207, 208, 209, 210, 211, 290, 306, 600, 601, 602].elem f)) = true) : s_makeParts κ s i f kk = κ f kk := by
  have n100 : f ≠ 100 := by rintro rfl; exact absurd hf (by decide)
  have n101 : f ≠ 101 := by rintro rfl; exact absurd hf (by decide)
  have n102 : f ≠ 102 := by rintro rfl; exact absurd hf (by decide)
  have n103 : f ≠ 103 := by rintro rfl; exact absurd hf (by decide)
  have n104 : f ≠ 104 := by rintro rfl; exact absurd hf (by decide)
  have n105 : f ≠ 105 := by rintro rfl; exact absurd hf (by decide)
  have n106 : f ≠ 106 := by rintro rfl; exact absurd hf (by decide)
  have n107 : f ≠ 107 := by rintro rfl; exact absurd hf (by decide)
  have n108 : f ≠ 108 := by rintro rfl; exact absurd hf (by decide)
  have n109 : f ≠ 109 := by rintro rfl; exact absurd hf (by decide)
  have n110 : f ≠ 110 := by rintro rfl; exact absurd hf (by decide)
  have n111 : f ≠ 111 := by rintro rfl; exact absurd hf (by decide)
  have n112 : f ≠ 112 := by rintro rfl; exact absurd hf (by decide)
  have n113 : f ≠ 113 := by rintro rfl; exact absurd hf (by decide)
  have n190 : f ≠ 190 := by rintro rfl; exact absurd hf (by decide)
  have n200 : f ≠ 200 := by rintro rfl; exact absurd hf (by decide)
  have n201 : f ≠ 201 := by rintro rfl; exact absurd hf (by decide)
  have n202 : f ≠ 202 := by rintro rfl; exact absurd hf (by decide)
  have n203 : f ≠ 203 := by rintro rfl; exact absurd hf (by decide)
  have n204 : f ≠ 204 := by rintro rfl; exact absurd hf (by decide)
  have n205 : f ≠ 205 := by rintro rfl; exact absurd hf (by decide)
  have n206 : f ≠ 206 := by rintro rfl; exact absurd hf (by decide)
  have n207 : f ≠ 207 := by rintro rfl; exact absurd hf (by decide)
  have n208 : f ≠ 208 := by rintro rfl; exact absurd hf (by decide)
  have n209 : f ≠ 209 := by rintro rfl; exact absurd hf (by decide)
  have n210 : f ≠ 210 := by rintro rfl; exact absurd hf (by decide)
  have n211 : f ≠ 211 := by rintro rfl; exact absurd hf (by decide)
  have n290 : f ≠ 290 := by rintro rfl; exact absurd hf (by decide)
  have n306 : f ≠ 306 := by rintro rfl; exact absurd hf (by decide)
  have n600 : f ≠ 600 := by rintro rfl; exact absurd hf (by decide)
  have n601 : f ≠ 601 := by rintro rfl; exact absurd hf (by decide)
  have n602 : f ≠ 602 := by rintro rfl; exact absurd hf (by decide)
  have lt : f < 1000 := Nat.le_of_ble_eq_true (Bool.and_eq_true_iff.mp hf).1
  have f100 : ∀ (m : Nat → Nat → Int) (a b : Nat) (v : Int), u2 m 100 a v f b = m f b := fun m a b v => u2_f n100
  have f101 : ∀ (m : Nat → Nat → Int) (a b : Nat) (v : Int), u2 m 101 a v f b = m f b := fun m a b v => u2_f n101
  have f102 : ∀ (m : Nat → Nat → Int) (a b : Nat) (v : Int), u2 m 102 a v f b = m f b := fun m a b v => u2_f n102
  have f103 : ∀ (m : Nat → Nat → Int) (a b : Nat) (v : Int), u2 m 103 a v f b = m f b := fun m a b v => u2_f n103
  have f104 : ∀ (m : Nat → Nat → Int) (a b : Nat) (v : Int), u2 m 104 a v f b = m f b := fun m a b v => u2_f n104
  have f105 : ∀ (m : Nat → Nat → Int) (a b : Nat) (v : Int), u2 m 105 a v f b = m f b := fun m a b v => u2_f n105
  have f106 : ∀ (m : Nat → Nat → Int) (a b : Nat) (v : Int), u2 m 106 a v f b = m f b := fun m a b v => u2_f n106
  have f107 : ∀ (m : Nat → Nat → Int) (a b : Nat) (v : Int), u2 m 107 a v f b = m f b := fun m a b v => u2_f n107
  have f108 : ∀ (m : Nat → Nat → Int) (a b : Nat) (v : Int), u2 m 108 a v f b = m f b := fun m a b v => u2_f n108
  have f109 : ∀ (m : Nat → Nat → Int) (a b : Nat) (v : Int), u2 m 109 a v f b = m f b := fun m a b v => u2_f n109
  have f110 : ∀ (m : Nat → Nat → Int) (a b : Nat) (v : Int), u2 m 110 a v f b = m f b := fun m a b v => u2_f n110
  have f111 : ∀ (m : Nat → Nat → Int) (a b : Nat) (v : Int), u2 m 111 a v f b = m f b := fun m a b v => u2_f n111
  have f112 : ∀ (m : Nat → Nat → Int) (a b : Nat) (v : Int), u2 m 112 a v f b = m f b := fun m a b v => u2_f n112
  have f113 : ∀ (m : Nat → Nat → Int) (a b : Nat) (v : Int), u2 m 113 a v f b = m f b := fun m a b v => u2_f n113
  have f190 : ∀ (m : Nat → Nat → Int) (a b : Nat) (v : Int), u2 m 190 a v f b = m f b := fun m a b v => u2_f n190
  have f200 : ∀ (m : Nat → Nat → Int) (a b : Nat) (v : Int), u2 m 200 a v f b = m f b := fun m a b v => u2_f n200
  have f201 : ∀ (m : Nat → Nat → Int) (a b : Nat) (v : Int), u2 m 201 a v f b = m f b := fun m a b v => u2_f n201
  have f202 : ∀ (m : Nat → Nat → Int) (a b : Nat) (v : Int), u2 m 202 a v f b = m f b := fun m a b v => u2_f n202
  have f203 : ∀ (m : Nat → Nat → Int) (a b : Nat) (v : Int), u2 m 203 a v f b = m f b := fun m a b v => u2_f n203
  have f204 : ∀ (m : Nat → Nat → Int) (a b : Nat) (v : Int), u2 m 204 a v f b = m f b := fun m a b v => u2_f n204
  have f205 : ∀ (m : Nat → Nat → Int) (a b : Nat) (v : Int), u2 m 205 a v f b = m f b := fun m a b v => u2_f n205
  have f206 : ∀ (m : Nat → Nat → Int) (a b : Nat) (v : Int), u2 m 206 a v f b = m f b := fun m a b v => u2_f n206
  have f207 : ∀ (m : Nat → Nat → Int) (a b : Nat) (v : Int), u2 m 207 a v f b = m f b := fun m a b v => u2_f n207
  have f208 : ∀ (m : Nat → Nat → Int) (a b : Nat) (v : Int), u2 m 208 a v f b = m f b := fun m a b v => u2_f n208
  have f209 : ∀ (m : Nat → Nat → Int) (a b : Nat) (v : Int), u2 m 209 a v f b = m f b := fun m a b v => u2_f n209
  have f210 : ∀ (m : Nat → Nat → Int) (a b : Nat) (v : Int), u2 m 210 a v f b = m f b := fun m a b v => u2_f n210
  have f211 : ∀ (m : Nat → Nat → Int) (a b : Nat) (v : Int), u2 m 211 a v f b = m f b := fun m a b v => u2_f n211
  have f290 : ∀ (m : Nat → Nat → Int) (a b : Nat) (v : Int), u2 m 290 a v f b = m f b := fun m a b v => u2_f n290
  have f306 : ∀ (m : Nat → Nat → Int) (a b : Nat) (v : Int), u2 m 306 a v f b = m f b := fun m a b v => u2_f n306
  have f600 : ∀ (m : Nat → Nat → Int) (a b : Nat) (v : Int), u2 m 600 a v f b = m f b := fun m a b v => u2_f n600
  have f601 : ∀ (m : Nat → Nat → Int) (a b : Nat) (v : Int), u2 m 601 a v f b = m f b := fun m a b v => u2_f n601
  have f602 : ∀ (m : Nat → Nat → Int) (a b : Nat) (v : Int), u2 m 602 a v f b = m f b := fun m a b v => u2_f n602
  have fr : ∀ (m : Nat → Nat → Int) (c : Nat) (n : Int) (b : Nat), kNr m c n f b = m f b := fun m c n b => kNr_fr (by omega) n600 n601 n602
  have fkNq : ∀ (m : Nat → Nat → Int) (k : Nat) (r1 c : Int) (b : Nat), kNq m k r1 c f b = m f b := fun m k r1 c b => kNq_o (by omega)
  have fkNs : ∀ (m : Nat → Nat → Int) (k : Nat) (r1 r2 c : Int) (b : Nat), kNs m k r1 r2 c f b = m f b := fun m k r1 r2 c b => kNs_o (by omega)
  have fw : ∀ (m : Nat → Nat → Int) (r a b : Nat) (v : Int), u2 m (1000 + r) a v f b = m f b := fun m r a b v => u2_f (by omega)
  unfold s_makeParts
  repeat' with_reducible apply f_ite
  all_goals first | rfl | simp only [f100, f101, f102, f103, f104, f105, f106, f107, f108, f109, f110, f111, f112, f113, f190, f200, f201, f202, f203, f204, f205, f206, f207, f208, f209, f210, f211, f290, f306, f600, f601, f602, fw, fr, fkNq, fkNs]
end KI
