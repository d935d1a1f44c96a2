section KQ
variable {L : Launch} {G : mmG} {B B' : Nat → Nat → Nat} {bx bx' : Nat → Option (Nat × Nat)} {h0 : mmH} {κ κ' : Nat → Nat → Int}
theorem ushr_k : ∀ n : Fin 64, (((iI ((n.val : Nat) : Int)).toInt64.toUInt64 &&& Int64.toUInt64 63).toNat % 64) = n.val := by decide +kernel
theorem iL_ushr {a k : Int} (h3 : 0 ≤ k) (h4 : k < 64) : ((iL a).toUInt64 >>> ((iI k).toInt64.toUInt64 &&& Int64.toUInt64 63)).toInt64 = iL (a % 18446744073709551616 / 2 ^ k.toNat) := by
  obtain ⟨n, rfl⟩ := Int.eq_ofNat_of_zero_le h3
  have hk := ushr_k ⟨n, by omega⟩
  dsimp only at hk
  apply Int64.toBitVec_inj.mp
  apply BitVec.eq_of_toNat_eq
  have hp : (1 : Int) ≤ 2 ^ n := by
    have : 1 ≤ 2 ^ n := Nat.one_le_two_pow
    exact_mod_cast this
  show ((iL a).toUInt64 >>> ((iI (n : Int)).toInt64.toUInt64 &&& Int64.toUInt64 63)).toNat = (BitVec.ofInt 64 (a % 18446744073709551616 / 2 ^ (n : Int).toNat)).toNat
  rw [UInt64.toNat_shiftRight, hk, Nat.shiftRight_eq_div_pow, BitVec.toNat_ofInt, Int.toNat_natCast]
  have e1 : (iL a).toUInt64.toNat = (a % 18446744073709551616).toNat := by
    show (BitVec.ofInt 64 a).toNat = _
    rw [BitVec.toNat_ofInt]
    rfl
  rw [e1]
  have q0 : 0 ≤ a % 18446744073709551616 := Int.emod_nonneg _ (by decide)
  have q1 : a % 18446744073709551616 < 18446744073709551616 := Int.emod_lt_of_pos _ (by decide)
  obtain ⟨A, hA⟩ := Int.eq_ofNat_of_zero_le q0
  rw [hA] at q1 ⊢
  have q2 : ((A : Int) / 2 ^ n) = ((A / 2 ^ n : Nat) : Int) := by rw [Int.natCast_ediv, Int.natCast_pow]; rfl
  have q3 : A / 2 ^ n ≤ A := Nat.div_le_self _ _
  rw [q2, Int.toNat_natCast]
  have q4 : ∀ D : Nat, D ≤ A → ((D : Int) % ((2 ^ 64 : Nat) : Int)) = D := fun D hD => Int.emod_eq_of_lt (by omega) (by omega)
  rw [q4 _ q3, Int.toNat_natCast]
def v_kFeed_16 (κ : Nat → Nat → Int) (n v : Int) : Nat → Int → (Nat → Nat → Int) → Int
  | 0, _, _ => 0
  | d + 1, k, ν => (if n ≤ k then ((ν 505 0) + n) else (v_kFeed_16 κ n v d (k + 1) (u2 ν (1000 + 0) ((ν 505 0) + k).toNat (wB (v % 18446744073709551616 / 2 ^ (8 * k).toNat)))))
def s_kFeed_16 (κ : Nat → Nat → Int) (n v : Int) : Nat → Int → (Nat → Nat → Int) → (Nat → Nat → Int)
  | 0, _, ν => ν
  | d + 1, k, ν => (if n ≤ k then (u2 ν 505 0 ((ν 505 0) + n)) else (s_kFeed_16 κ n v d (k + 1) (u2 ν (1000 + 0) ((ν 505 0) + k).toNat (wB (v % 18446744073709551616 / 2 ^ (8 * k).toNat)))))
def e_kFeed_16 (κ : Nat → Nat → Int) (n v : Int) : Nat → Int → (Nat → Nat → Int) → Int
  | 0, _, _ => 0
  | d + 1, k, ν => (if n ≤ k then 0 else (e_kFeed_16 κ n v d (k + 1) (u2 ν (1000 + 0) ((ν 505 0) + k).toNat (wB (v % 18446744073709551616 / 2 ^ (8 * k).toNat)))))
def v_kFeed (κ : Nat → Nat → Int) (n v : Int) : Int := (if n < 1 then 0 else (if n ≤ 8 then (if ((κ 505 0) + n) ≤ 2048 then (v_kFeed_16 κ n v 9 0 κ) else 0) else 0))
def s_kFeed (κ : Nat → Nat → Int) (n v : Int) : Nat → Nat → Int := (if n < 1 then κ else (if n ≤ 8 then (if ((κ 505 0) + n) ≤ 2048 then (s_kFeed_16 κ n v 9 0 κ) else κ) else κ))
def e_kFeed (κ : Nat → Nat → Int) (n v : Int) : Int := (if n < 1 then 1 else (if n ≤ 8 then (if ((κ 505 0) + n) ≤ 2048 then (e_kFeed_16 κ n v 9 0 κ) else 2) else 1))
set_option maxRecDepth 100000 in
theorem m_kFeed (hF : mm_F G) (htr : L.stackTraces = false) (hx : kx B bx κ) (hV : kV κ) {n v : Int} {a0 : Nat} (ea0 : a0 = B 5 0) (h1 : -2147483648 ≤ n) (h1a : n < 2147483648) (h2 : -9223372036854775808 ≤ v) (h2a : v < 9223372036854775808) (ha4 : 0 < κ 602 0) (hk4 : κ 601 0 = 2) (hl4 : 2048 ≤ κ 600 0) :
    mm_Met L G SX5_feed [.ref a0, .int (iI n), .long (iL v)] (hk G B bx h0 κ) 1 6 (fun r h => (e_kFeed κ n v) = 0 ∧ (mRetS (some (.int (iI (v_kFeed κ n v)))) (hk G B bx h0 (s_kFeed κ n v)) (kx B bx (s_kFeed κ n v) ∧ kV (s_kFeed κ n v) ∧ (fun v _ => -100 ≤ v ∧ v ≤ 70000) (v_kFeed κ n v) (s_kFeed κ n v))) r h) (kThr (hk G B bx h0 κ) (e_kFeed κ n v)) := by
  refine mi_meth MX5_feed 400 hF htr okX5_feed (av := [aR a0, aI n, aL v]) (by decide +kernel) (Nat.le_of_ble_eq_true rfl) cmX5_feed (fun θ hc => ?_)
  have loop16 : ∀ (R : Int) (S : Nat → Nat → Int) (E : Int) (d : Nat) (k : Int) (ν : Nat → Nat → Int) (hx : kx B bx ν) (hV : kV ν), (0 ≤ k ∧ k ≤ n) → (1 ≤ n ∧ n ≤ 8) → (ν 505 0 + n ≤ 2048) → (0 < ν 602 0) → (ν 601 0 = 2) → (2048 ≤ ν 600 0) → (n - k) < (d : Int) → v_kFeed_16 κ n v d k ν = R → s_kFeed_16 κ n v d k ν = S → e_kFeed_16 κ n v d k ν = E → mi_W L G MX5_feed 1 6 (fun r h => E = 0 ∧ (mRetS (some (.int (iI R))) (hk G B bx h0 S) (kx B bx S ∧ kV S ∧ (fun v _ => -100 ≤ v ∧ v ≤ 70000) R S)) r h) (kThr (hk G B bx h0 κ) E) θ 16 [(4, aI k), (0, aR (a0)), (1, aI n), (2, aL v)] [] (hk G B bx h0 ν) 0 0 := by
    intro R S E d
    induction d with
    | zero =>
      intro k ν hx hV hi1 hi2 hi3 ha5 hk5 hl5 hms hvr hsr her
      omega
    | succ d ih =>
      intro k ν hx hV hi1 hi2 hi3 ha5 hk5 hl5 hms hvr hsr her
      refine mi_sound hc okX5_feed 400 _ _ _ _ _ _ ?_
      refine ⟨by omega, fun (e1 : n ≤ k) => ?_, fun (e1 : ¬ (n ≤ k)) => ?_⟩
      · refine ⟨_, hk_o5 hx rfl ea0, aI (ν 505 0), rfl, ?_⟩
        have t2 := (show 0 ≤ ν 505 0 ∧ ν 505 0 ≤ 2048 from hV.g 505 0 rfl)
        refine ⟨_, hk_o5 hx rfl ea0, trivial, _, kp_505 hx rfl (v := ((ν 505 0) + n)) ea0, ?_⟩
        have hV3 := hV.u (f := 505) (k := 0) (v := ((ν 505 0) + n)) rfl (show 0 ≤ ((ν 505 0) + n) ∧ ((ν 505 0) + n) ≤ 2048 from by omega)
        have hx4 := kx_u (f := 505) (k := 0) (v := ((ν 505 0) + n)) rfl hx
        refine ⟨_, hk_o5 hx4 rfl ea0, aI ((ν 505 0) + n), congrArg aI (show (u2 ν 505 0 ((ν 505 0) + n)) 505 0 = ((ν 505 0) + n) from (u2_s _ _ _ _)), ?_⟩
        exact ⟨⟨(her.symm.trans (by first | exact if_pos e1 | (rw [e_kFeed_16]; rw [if_pos e1]))), kRetISP (P := fun v _ => -100 ≤ v ∧ v ≤ 70000) (hvr.symm.trans (by first | exact if_pos e1 | (rw [v_kFeed_16]; rw [if_pos e1]))) (hsr.symm.trans (by first | exact if_pos e1 | (rw [s_kFeed_16]; rw [if_pos e1]))) hx4 hV3 (show -100 ≤ ((ν 505 0) + n) ∧ ((ν 505 0) + n) ≤ 70000 from by omega)⟩, (by first | exact Nat.le_of_ble_eq_true rfl | omega), (by first | exact Nat.le_of_ble_eq_true rfl | omega)⟩
      · refine ⟨_, hk_o5 hx rfl ea0, aR (B 17 0), rfl, ?_⟩
        refine ⟨_, hk_o5 hx rfl ea0, aI (ν 505 0), rfl, ?_⟩
        have t5 := (show 0 ≤ ν 505 0 ∧ ν 505 0 ≤ 2048 from hV.g 505 0 rfl)
        refine ⟨(v % 18446744073709551616 / 2 ^ (8 * k).toNat), iL_ushr (by omega) (by omega), ?_⟩
        have t6 := wB_b (v % 18446744073709551616 / 2 ^ (8 * k).toNat)
        refine ⟨(wB (v % 18446744073709551616 / 2 ^ (8 * k).toNat)), i2b_c _, ?_⟩
        refine ⟨_, _, _, hk_w hx (c := 2) (show ((0 : Nat) : Int) < ν 602 0 from by omega) (show ν 601 0 = ((2 : Nat) : Int) from by omega) rfl, (show 0 ≤ ((ν 505 0) + k) ∧ ((ν 505 0) + k) < (((ν 600 0).toNat : Nat) : Int) ∧ ((ν 505 0) + k) < 2147483648 from by omega), (show -128 ≤ (wB (v % 18446744073709551616 / 2 ^ (8 * k).toNat)) ∧ (wB (v % 18446744073709551616 / 2 ^ (8 * k).toNat)) < 128 from by omega), kp_w hx (c := 2) (i := ((ν 505 0) + k).toNat) (v := (wB (v % 18446744073709551616 / 2 ^ (8 * k).toNat))) (show ((0 : Nat) : Int) < ν 602 0 from by omega) (show ν 601 0 = ((2 : Nat) : Int) from by omega) rfl, ?_⟩
        have hV7 := hV.pw (r := 0) (k := ((ν 505 0) + k).toNat) (v := (wB (v % 18446744073709551616 / 2 ^ (8 * k).toNat))) (by omega) (by omega) (by omega)
        have hx8 := kx_w hx (r := 0) (k := ((ν 505 0) + k).toNat) (v := (wB (v % 18446744073709551616 / 2 ^ (8 * k).toNat)))
        have t9 := (show 2 ≤ ν 602 0 from hV.l 602 0)
        have t10 := (show 0 ≤ ν 601 0 ∧ ν 601 0 ≤ 3 from hV.g 601 0 rfl)
        have t11 := (show 0 ≤ ν 600 0 ∧ ν 600 0 ≤ 65536 from hV.g 600 0 rfl)
        exact mi_Wsub (List.forall_mem_cons.mpr ⟨(.head _), (List.forall_mem_cons.mpr ⟨(.tail _ (.head _)), (List.forall_mem_cons.mpr ⟨(.tail _ (.tail _ (.head _))), (List.forall_mem_cons.mpr ⟨(.tail _ (.tail _ (.tail _ (.head _)))), (fun _ h => absurd h List.not_mem_nil)⟩)⟩)⟩)⟩) (ih (k + 1) (u2 ν (1000 + 0) ((ν 505 0) + k).toNat (wB (v % 18446744073709551616 / 2 ^ (8 * k).toNat))) hx8 hV7 (by omega) (by omega) (by rw [show (u2 ν (1000 + 0) ((ν 505 0) + k).toNat (wB (v % 18446744073709551616 / 2 ^ (8 * k).toNat))) 505 0 = _ from (u2_f (by omega))]; omega) (by rw [show (u2 ν (1000 + 0) ((ν 505 0) + k).toNat (wB (v % 18446744073709551616 / 2 ^ (8 * k).toNat))) 602 0 = _ from (u2_f (by omega))]; omega) (by rw [show (u2 ν (1000 + 0) ((ν 505 0) + k).toNat (wB (v % 18446744073709551616 / 2 ^ (8 * k).toNat))) 601 0 = _ from (u2_f (by omega))]; omega) (by rw [show (u2 ν (1000 + 0) ((ν 505 0) + k).toNat (wB (v % 18446744073709551616 / 2 ^ (8 * k).toNat))) 600 0 = _ from (u2_f (by omega))]; omega) (by omega) (Eq.trans (by first | exact (if_neg e1).symm | (rw [v_kFeed_16]; rw [if_neg e1])) hvr) (Eq.trans (by first | exact (if_neg e1).symm | (rw [s_kFeed_16]; rw [if_neg e1])) hsr) (Eq.trans (by first | exact (if_neg e1).symm | (rw [e_kFeed_16]; rw [if_neg e1])) her))
  refine ⟨by omega, fun (e12 : n < 1) => ?_, fun (e12 : ¬ (n < 1)) => ?_⟩
  · exact ⟨rfl, by omega, by omega, ⟨Or.inl ⟨(by first | exact if_pos e12 | (unfold e_kFeed; rw [if_pos e12])), rfl⟩, rfl⟩⟩
  · refine ⟨by omega, fun (e13 : n ≤ 8) => ?_, fun (e13 : ¬ (n ≤ 8)) => ?_⟩
    · refine ⟨_, hk_o5 hx rfl ea0, aI (κ 505 0), rfl, ?_⟩
      have t14 := (show 0 ≤ κ 505 0 ∧ κ 505 0 ≤ 2048 from hV.g 505 0 rfl)
      refine ⟨by omega, fun (e15 : ((κ 505 0) + n) ≤ 2048) => ?_, fun (e15 : ¬ (((κ 505 0) + n) ≤ 2048)) => ?_⟩
      · have t16 := (show 2 ≤ κ 602 0 from hV.l 602 0)
        have t17 := (show 0 ≤ κ 601 0 ∧ κ 601 0 ≤ 3 from hV.g 601 0 rfl)
        have t18 := (show 0 ≤ κ 600 0 ∧ κ 600 0 ≤ 65536 from hV.g 600 0 rfl)
        exact mi_Wsub (List.forall_mem_cons.mpr ⟨(.head _), (List.forall_mem_cons.mpr ⟨(.tail _ (.head _)), (List.forall_mem_cons.mpr ⟨(.tail _ (.tail _ (.head _))), (List.forall_mem_cons.mpr ⟨(.tail _ (.tail _ (.tail _ (.head _)))), (fun _ h => absurd h List.not_mem_nil)⟩)⟩)⟩)⟩) (loop16 _ _ _ 9 0 κ hx hV (by omega) (by omega) (by omega) (by omega) (by omega) (by omega) (by omega) (by first | exact ((if_neg e12).trans ((if_pos e13).trans (if_pos e15))).symm | (unfold v_kFeed; rw [if_neg e12, if_pos e13, if_pos e15])) (by first | exact ((if_neg e12).trans ((if_pos e13).trans (if_pos e15))).symm | (unfold s_kFeed; rw [if_neg e12, if_pos e13, if_pos e15])) (by first | exact ((if_neg e12).trans ((if_pos e13).trans (if_pos e15))).symm | (unfold e_kFeed; rw [if_neg e12, if_pos e13, if_pos e15])))
      · exact ⟨rfl, by omega, by omega, ⟨Or.inr (Or.inl ⟨(by first | exact (if_neg e12).trans ((if_pos e13).trans (if_neg e15)) | (unfold e_kFeed; rw [if_neg e12, if_pos e13, if_neg e15])), rfl⟩), rfl⟩⟩
    · exact ⟨rfl, by omega, by omega, ⟨Or.inl ⟨(by first | exact (if_neg e12).trans (if_neg e13) | (unfold e_kFeed; rw [if_neg e12, if_neg e13])), rfl⟩, rfl⟩⟩
set_option maxRecDepth 100000 in
theorem s_kFeed_16_fr {f kk : Nat} {n v : Int} (hf : (Nat.blt f 1000 && !([505].elem f)) = true) : ∀ (d : Nat) (k : Int) (ν : Nat → Nat → Int), s_kFeed_16 κ n v d k ν f kk = ν f kk := by
  have n505 : f ≠ 505 := by rintro rfl; exact absurd hf (by decide)
  have lt : f < 1000 := Nat.le_of_ble_eq_true (Bool.and_eq_true_iff.mp hf).1
  have f505 : ∀ (m : Nat → Nat → Int) (a b : Nat) (v : Int), u2 m 505 a v f b = m f b := fun m a b v => u2_f n505
  have fw : ∀ (m : Nat → Nat → Int) (r a b : Nat) (v : Int), u2 m (1000 + r) a v f b = m f b := fun m r a b v => u2_f (by omega)
  intro d
  induction d with
  | zero => intros; rfl
  | succ d ih =>
    intro k ν
    rw [s_kFeed_16]
    repeat' with_reducible apply f_ite
    all_goals first | rfl | simp only [f505, fw, ih]
set_option maxRecDepth 100000 in
theorem s_kFeed_fr {f kk : Nat} {n v : Int} (hf : (Nat.blt f 1000 && !([505].elem f)) = true) : s_kFeed κ n v f kk = κ f kk := by
  have n505 : f ≠ 505 := by rintro rfl; exact absurd hf (by decide)
  have lt : f < 1000 := Nat.le_of_ble_eq_true (Bool.and_eq_true_iff.mp hf).1
  have f505 : ∀ (m : Nat → Nat → Int) (a b : Nat) (v : Int), u2 m 505 a v f b = m f b := fun m a b v => u2_f n505
  have fw : ∀ (m : Nat → Nat → Int) (r a b : Nat) (v : Int), u2 m (1000 + r) a v f b = m f b := fun m r a b v => u2_f (by omega)
  unfold s_kFeed
  repeat' with_reducible apply f_ite
  all_goals first | rfl | simp only [f505, fw, s_kFeed_16_fr hf]
def s_kGone (κ : Nat → Nat → Int) (p g : Int) : Nat → Nat → Int := (if (e_frameAt κ p) = 0 then (if g = 0 then (s_hearLost (u2 κ 0 p.toNat 0) (κ 2 p.toNat) p) else (if (κ 1 p.toNat) = 0 then κ else (s_hearArrived (u2 κ 0 p.toNat 0) (κ 2 p.toNat) p))) else κ)
def e_kGone (κ : Nat → Nat → Int) (p g : Int) : Int := (if (e_frameAt κ p) = 0 then (if g = 0 then 0 else (if (κ 1 p.toNat) = 0 then 2 else 0)) else (e_frameAt κ p))
set_option maxRecDepth 100000 in
theorem m_kGone (hF : mm_F G) (htr : L.stackTraces = false) (hx : kx B bx κ) (hV : kV κ) {p g : Int} {a0 : Nat} (ea0 : a0 = B 5 0) (h1 : -2147483648 ≤ p) (h1a : p < 2147483648) (hg : g = 0 ∨ g = 1) (hS : ∀ s, 0 ≤ s → s ≤ 1 → kSA κ s) (hU : e_frameAt κ p = 0 → ∀ i, 0 ≤ i → i < 256 → κ 290 (mj (κ 2 p.toNat) i) = 1 → κ 3 p.toNat = 8 → i = κ 4 p.toNat → κ 8 p.toNat + κ 9 p.toNat ≤ κ 600 (κ 202 (mj (κ 2 p.toNat) i)).toNat) :
    mm_Met L G SX5_gone [.ref a0, .int (iI p), .int (iI g)] (hk G B bx h0 κ) 2 12 (fun r h => (e_kGone κ p g) = 0 ∧ (mRetS none (hk G B bx h0 (s_kGone κ p g)) (kx B bx (s_kGone κ p g) ∧ kV (s_kGone κ p g))) r h) (kThr (hk G B bx h0 κ) (e_kGone κ p g)) := by
  refine mi_meth MX5_gone 400 hF htr okX5_gone (av := [aR a0, aI p, aI g]) (by decide +kernel) (Nat.le_of_ble_eq_true rfl) cmX5_gone (fun θ hc => ?_)
  refine ⟨⟨_, hk_o5 hx rfl ea0⟩, _, _, _, _, (m_frameAt hF htr hx hV (p := p) ea0 (by omega) (by omega)), by omega, by omega, mkit (r := some (aR (B 0 p.toNat))) (fun e1 => ?_), fun E h1 q => kThr_up q (fun e1 => (by first | exact if_neg e1 | (unfold e_kGone; rw [if_neg e1])))⟩
  have t2 := frameAt_0 (κ := κ) (p := p) e1
  refine ⟨by omega, fun (e3 : g = 0) => ?_, fun (e3 : ¬ (g = 0)) => ?_⟩
  · refine mi_nl [(3, aR (B 0 p.toNat)), (0, aR (a0)), (1, aI p), (2, aI g)] rfl ?_
    refine ⟨_, hk_o0 hx (show p.toNat < 65 from by omega) rfl, (show 0 = 0 ∨ 0 = 1 from by omega), _, kp_0 hx (show p.toNat < 65 from by omega) (v := 0) rfl, ?_⟩
    have hV4 := hV.u (f := 0) (k := p.toNat) (v := 0) rfl (show 0 ≤ 0 ∧ 0 ≤ 1 from by omega)
    have hx5 := kx_u (f := 0) (k := p.toNat) (v := 0) rfl hx
    refine ⟨_, hk_o5 hx5 rfl ea0, aR (B 10 0), rfl, ?_⟩
    refine ⟨_, hk_o0 hx5 (show p.toNat < 65 from by omega) rfl, aI (κ 2 p.toNat), congrArg aI (show (u2 κ 0 p.toNat 0) 2 p.toNat = (κ 2 p.toNat) from (u2_f (by decide))), ?_⟩
    have t6 := (show 0 ≤ κ 2 p.toNat ∧ κ 2 p.toNat ≤ 1 from hV.g 2 p.toNat rfl)
    refine ⟨2, _, some (B 3 (κ 2 p.toNat).toNat), hk_sides hx5 rfl, by omega, ka_3 (i := (κ 2 p.toNat)) (by omega) (by omega), ?_⟩
    refine ⟨by omega, fun _ => ?_, fun (e : ¬ (g = 0)) => absurd e (by omega)⟩
    refine mi_nl [(4, aR (B 3 (κ 2 p.toNat).toNat)), (3, aR (B 0 p.toNat)), (0, aR (a0)), (1, aI p), (2, aI g)] rfl ?_
    refine ⟨⟨_, hk_o3 hx5 (show (κ 2 p.toNat).toNat < 2 from by omega) rfl⟩, _, _, _, _, (m_hearLost hF htr hx5 hV4 (s := (κ 2 p.toNat)) (p := p) rfl rfl (by omega) (by omega) (by omega) (by omega) (kSA_cg (fun f hf k => u2_f (by unfold kSf at hf; omega)) (hS _ (by omega) (by omega))) (hU (by omega))), (by first | exact Nat.le_of_ble_eq_true rfl | omega), (by first | exact Nat.le_of_ble_eq_true rfl | omega), mkis_ (r := none) (fun ⟨hx8, hV7⟩ => ?_), fun _ _ q => q.elim⟩
    exact ⟨⟨(by first | exact (if_pos e1).trans (if_pos e3) | (unfold e_kGone; rw [if_pos e1, if_pos e3])), kRetVS  (by first | exact (if_pos e1).trans (if_pos e3) | (unfold s_kGone; rw [if_pos e1, if_pos e3])) hx8 hV7⟩, (by first | exact Nat.le_of_ble_eq_true rfl | omega), (by first | exact Nat.le_of_ble_eq_true rfl | omega)⟩
  · refine mi_nl [(3, aR (B 0 p.toNat)), (0, aR (a0)), (1, aI p), (2, aI g)] rfl ?_
    refine ⟨_, hk_o0 hx (show p.toNat < 65 from by omega) rfl, aI (κ 1 p.toNat), rfl, ?_⟩
    have t9 := (show 0 ≤ κ 1 p.toNat ∧ κ 1 p.toNat ≤ 1 from hV.g 1 p.toNat rfl)
    refine ⟨by omega, fun (e10 : ¬ ((κ 1 p.toNat) = 0)) => ?_, fun (e10 : (κ 1 p.toNat) = 0) => ?_⟩
    · refine ⟨_, hk_o0 hx (show p.toNat < 65 from by omega) rfl, (show 0 = 0 ∨ 0 = 1 from by omega), _, kp_0 hx (show p.toNat < 65 from by omega) (v := 0) rfl, ?_⟩
      have hV11 := hV.u (f := 0) (k := p.toNat) (v := 0) rfl (show 0 ≤ 0 ∧ 0 ≤ 1 from by omega)
      have hx12 := kx_u (f := 0) (k := p.toNat) (v := 0) rfl hx
      refine ⟨_, hk_o5 hx12 rfl ea0, aR (B 10 0), rfl, ?_⟩
      refine ⟨_, hk_o0 hx12 (show p.toNat < 65 from by omega) rfl, aI (κ 2 p.toNat), congrArg aI (show (u2 κ 0 p.toNat 0) 2 p.toNat = (κ 2 p.toNat) from (u2_f (by decide))), ?_⟩
      have t13 := (show 0 ≤ κ 2 p.toNat ∧ κ 2 p.toNat ≤ 1 from hV.g 2 p.toNat rfl)
      refine ⟨2, _, some (B 3 (κ 2 p.toNat).toNat), hk_sides hx12 rfl, by omega, ka_3 (i := (κ 2 p.toNat)) (by omega) (by omega), ?_⟩
      refine ⟨by omega, fun (e : g = 0) => absurd e (by omega), fun _ => ?_⟩
      refine mi_nl [(4, aR (B 3 (κ 2 p.toNat).toNat)), (3, aR (B 0 p.toNat)), (0, aR (a0)), (1, aI p), (2, aI g)] rfl ?_
      refine ⟨⟨_, hk_o3 hx12 (show (κ 2 p.toNat).toNat < 2 from by omega) rfl⟩, _, _, _, _, (m_hearArrived hF htr hx12 hV11 (s := (κ 2 p.toNat)) (p := p) rfl rfl (by omega) (by omega) (by omega) (by omega) (kSA_cg (fun f hf k => u2_f (by unfold kSf at hf; omega)) (hS _ (by omega) (by omega))) (hU (by omega))), (by first | exact Nat.le_of_ble_eq_true rfl | omega), (by first | exact Nat.le_of_ble_eq_true rfl | omega), mkis_ (r := none) (fun ⟨hx15, hV14⟩ => ?_), fun _ _ q => q.elim⟩
      exact ⟨⟨(by first | exact (if_pos e1).trans ((if_neg e3).trans (if_neg e10)) | (unfold e_kGone; rw [if_pos e1, if_neg e3, if_neg e10])), kRetVS  (by first | exact (if_pos e1).trans ((if_neg e3).trans (if_neg e10)) | (unfold s_kGone; rw [if_pos e1, if_neg e3, if_neg e10])) hx15 hV14⟩, (by first | exact Nat.le_of_ble_eq_true rfl | omega), (by first | exact Nat.le_of_ble_eq_true rfl | omega)⟩
    · exact ⟨rfl, by omega, by omega, ⟨Or.inr (Or.inl ⟨(by first | exact (if_pos e1).trans ((if_neg e3).trans (if_pos e10)) | (unfold e_kGone; rw [if_pos e1, if_neg e3, if_pos e10])), rfl⟩), rfl⟩⟩
set_option maxRecDepth 100000 in
theorem s_kGone_fr {f kk : Nat} {p g : Int} (hf : (Nat.blt f 1000 && !([0, 108, 110, 113, 200, 205, 206, 207, 209, 211, 311, 315, 360, 403, 405].elem f)) = true) : s_kGone κ p g f kk = κ f kk := by
  have n0 : f ≠ 0 := by rintro rfl; exact absurd hf (by decide)
  have n108 : f ≠ 108 := by rintro rfl; exact absurd hf (by decide)
  have n110 : f ≠ 110 := by rintro rfl; exact absurd hf (by decide)
  have n113 : f ≠ 113 := by rintro rfl; exact absurd hf (by decide)
  have n200 : f ≠ 200 := by rintro rfl; exact absurd hf (by decide)
  have n205 : f ≠ 205 := by rintro rfl; exact absurd hf (by decide)
  have n206 : f ≠ 206 := by rintro rfl; exact absurd hf (by decide)
  have n207 : f ≠ 207 := by rintro rfl; exact absurd hf (by decide)
  have n209 : f ≠ 209 := by rintro rfl; exact absurd hf (by decide)
  have n211 : f ≠ 211 := by rintro rfl; exact absurd hf (by decide)
  have n311 : f ≠ 311 := by rintro rfl; exact absurd hf (by decide)
  have n315 : f ≠ 315 := by rintro rfl; exact absurd hf (by decide)
  have n360 : f ≠ 360 := by rintro rfl; exact absurd hf (by decide)
  have n403 : f ≠ 403 := by rintro rfl; exact absurd hf (by decide)
  have n405 : f ≠ 405 := by rintro rfl; exact absurd hf (by decide)
  have lt : f < 1000 := Nat.le_of_ble_eq_true (Bool.and_eq_true_iff.mp hf).1
  have f0 : ∀ (m : Nat → Nat → Int) (a b : Nat) (v : Int), u2 m 0 a v f b = m f b := fun m a b v => u2_f n0
  have f108 : ∀ (m : Nat → Nat → Int) (a b : Nat) (v : Int), u2 m 108 a v f b = m f b := fun m a b v => u2_f n108
  have f110 : ∀ (m : Nat → Nat → Int) (a b : Nat) (v : Int), u2 m 110 a v f b = m f b := fun m a b v => u2_f n110
  have f113 : ∀ (m : Nat → Nat → Int) (a b : Nat) (v : Int), u2 m 113 a v f b = m f b := fun m a b v => u2_f n113
  have f200 : ∀ (m : Nat → Nat → Int) (a b : Nat) (v : Int), u2 m 200 a v f b = m f b := fun m a b v => u2_f n200
  have f205 : ∀ (m : Nat → Nat → Int) (a b : Nat) (v : Int), u2 m 205 a v f b = m f b := fun m a b v => u2_f n205
  have f206 : ∀ (m : Nat → Nat → Int) (a b : Nat) (v : Int), u2 m 206 a v f b = m f b := fun m a b v => u2_f n206
  have f207 : ∀ (m : Nat → Nat → Int) (a b : Nat) (v : Int), u2 m 207 a v f b = m f b := fun m a b v => u2_f n207
  have f209 : ∀ (m : Nat → Nat → Int) (a b : Nat) (v : Int), u2 m 209 a v f b = m f b := fun m a b v => u2_f n209
  have f211 : ∀ (m : Nat → Nat → Int) (a b : Nat) (v : Int), u2 m 211 a v f b = m f b := fun m a b v => u2_f n211
  have f311 : ∀ (m : Nat → Nat → Int) (a b : Nat) (v : Int), u2 m 311 a v f b = m f b := fun m a b v => u2_f n311
  have f315 : ∀ (m : Nat → Nat → Int) (a b : Nat) (v : Int), u2 m 315 a v f b = m f b := fun m a b v => u2_f n315
  have f360 : ∀ (m : Nat → Nat → Int) (a b : Nat) (v : Int), u2 m 360 a v f b = m f b := fun m a b v => u2_f n360
  have f403 : ∀ (m : Nat → Nat → Int) (a b : Nat) (v : Int), u2 m 403 a v f b = m f b := fun m a b v => u2_f n403
  have f405 : ∀ (m : Nat → Nat → Int) (a b : Nat) (v : Int), u2 m 405 a v f b = m f b := fun m a b v => u2_f n405
  have fw : ∀ (m : Nat → Nat → Int) (r a b : Nat) (v : Int), u2 m (1000 + r) a v f b = m f b := fun m r a b v => u2_f (by omega)
  have c_hearArrived : ∀ (m : Nat → Nat → Int) (z_s z_p : Int) (k : Nat), s_hearArrived m z_s z_p f k = m f k := by intros; exact s_hearArrived_fr (Bool.and_eq_true_iff.mpr ⟨Nat.ble_eq_true_of_le lt, by simp only [List.elem_cons, List.elem_nil, beq_eq_false_iff_ne.mpr n113, beq_eq_false_iff_ne.mpr n200, beq_eq_false_iff_ne.mpr n205, beq_eq_false_iff_ne.mpr n206, beq_eq_false_iff_ne.mpr n207, beq_eq_false_iff_ne.mpr n360, beq_eq_false_iff_ne.mpr n405]; rfl⟩)
  have c_hearLost : ∀ (m : Nat → Nat → Int) (z_s z_p : Int) (k : Nat), s_hearLost m z_s z_p f k = m f k := by intros; exact s_hearLost_fr (Bool.and_eq_true_iff.mpr ⟨Nat.ble_eq_true_of_le lt, by simp only [List.elem_cons, List.elem_nil, beq_eq_false_iff_ne.mpr n108, beq_eq_false_iff_ne.mpr n110, beq_eq_false_iff_ne.mpr n205, beq_eq_false_iff_ne.mpr n207, beq_eq_false_iff_ne.mpr n209, beq_eq_false_iff_ne.mpr n211, beq_eq_false_iff_ne.mpr n311, beq_eq_false_iff_ne.mpr n315, beq_eq_false_iff_ne.mpr n403, beq_eq_false_iff_ne.mpr n405]; rfl⟩)
  unfold s_kGone
  repeat' with_reducible apply f_ite
  all_goals first | rfl | simp only [f0, f108, f110, f113, f200, f205, f206, f207, f209, f211, f311, f315, f360, f403, f405, fw, c_hearArrived, c_hearLost]
def v_kOpen (κ : Nat → Nat → Int) (s p : Int) : Int := (if (e_sideAt κ s) = 0 then (if (e_needJoined κ) = 0 then (if p = 0 then (v_openNext κ s 1) else (v_openNext κ s 0)) else 0) else 0)
def s_kOpen (κ : Nat → Nat → Int) (s p : Int) : Nat → Nat → Int := (if (e_sideAt κ s) = 0 then (if (e_needJoined κ) = 0 then (if p = 0 then (s_openNext κ s 1) else (s_openNext κ s 0)) else κ) else κ)
def e_kOpen (κ : Nat → Nat → Int) (s p : Int) : Int := (if (e_sideAt κ s) = 0 then (if (e_needJoined κ) = 0 then (if p = 0 then 0 else 0) else (e_needJoined κ)) else (e_sideAt κ s))
set_option maxRecDepth 100000 in
theorem m_kOpen (hF : mm_F G) (htr : L.stackTraces = false) (hx : kx B bx κ) (hV : kV κ) (hW : kW κ) {s p : Int} {a0 : Nat} (ea0 : a0 = B 5 0) (h1 : -2147483648 ≤ s) (h1a : s < 2147483648) (h3 : p = 0 ∨ p = 1) (hO : ∀ s w : Int, 0 ≤ s → s ≤ 1 → (w = 0 ∨ w = 1) → κ 400 ((2 * s) + w).toNat < κ 401 ((2 * s) + w).toNat → ¬ κ 290 (mj s ((((κ 400 ((2 * s) + w).toNat) * 4) + (w * 2)) + s)) = 1 ∧ ¬ κ 190 (mj s ((((κ 400 ((2 * s) + w).toNat) * 4) + (w * 2)) + s)) = 1) :
    mm_Met L G SX5_open [.ref a0, .int (iI s), .int (iI p)] (hk G B bx h0 κ) 7 38 (fun r h => (e_kOpen κ s p) = 0 ∧ (mRetW G bx B h0 κ (some (.int (iI (v_kOpen κ s p)))) (s_kOpen κ s p) ((fun v _ => -100 ≤ v ∧ v ≤ 70000) (v_kOpen κ s p) (s_kOpen κ s p))) r h) (kThr (hk G B bx h0 κ) (e_kOpen κ s p)) := by
  refine mi_meth MX5_open 400 hF htr okX5_open (av := [aR a0, aI s, aI p]) (by decide +kernel) (Nat.le_of_ble_eq_true rfl) cmX5_open (fun θ hc => ?_)
  refine ⟨⟨_, hk_o5 hx rfl ea0⟩, _, _, _, _, (m_sideAt hF htr hx hV (s := s) ea0 (by omega) (by omega)), by omega, by omega, mkit (r := some (aR (B 3 s.toNat))) (fun e1 => ?_), fun E h1 q => kThr_up q (fun e1 => (by first | exact if_neg e1 | (unfold e_kOpen; rw [if_neg e1])))⟩
  have t2 := sideAt_0 (κ := κ) (s := s) e1
  refine ⟨⟨_, hk_o5 hx rfl ea0⟩, _, _, _, _, (m_needJoined hF htr hx hV ea0), by omega, by omega, mkit (r := none) (fun e3 => ?_), fun E h1 q => kThr_up q (fun e3 => (by first | exact (if_pos e1).trans (if_neg e3) | (unfold e_kOpen; rw [if_pos e1, if_neg e3])))⟩
  refine mi_nl [(3, aR (B 3 s.toNat)), (0, aR (a0)), (1, aI s), (2, aI p)] rfl ?_
  refine ⟨by omega, fun (e4 : p = 0) => ?_, fun (e4 : ¬ (p = 0)) => ?_⟩
  · refine ⟨⟨_, hk_o3 hx (show s.toNat < 2 from by omega) rfl⟩, _, _, _, _, (m_openNext hF htr hx hV (kaw_refl (h0 := h0) (bx := bx) (B := B) hW).2.1 (s := s) (w := 1) rfl (by omega) (by omega) (by omega) (hO _ _ (by omega) (by omega) (by omega))), (by first | exact Nat.le_of_ble_eq_true rfl | omega), (by first | exact Nat.le_of_ble_eq_true rfl | omega), mkiw (r := some (aI (v_openNext κ s 1))) (fun B7 bx7 hx6 hV5 hA7 hp8 => ?_), fun _ _ q => q.elim⟩
    have hp8 : -100 ≤ (v_openNext κ s 1) ∧ (v_openNext κ s 1) ≤ 70000 := hp8
    exact ⟨⟨(by first | exact (if_pos e1).trans ((if_pos e3).trans (if_pos e4)) | (unfold e_kOpen; rw [if_pos e1, if_pos e3, if_pos e4])), kRetIWP (P := fun v _ => -100 ≤ v ∧ v ≤ 70000) (by first | exact (if_pos e1).trans ((if_pos e3).trans (if_pos e4)) | (unfold v_kOpen; rw [if_pos e1, if_pos e3, if_pos e4])) (by first | exact (if_pos e1).trans ((if_pos e3).trans (if_pos e4)) | (unfold s_kOpen; rw [if_pos e1, if_pos e3, if_pos e4])) hx6 hV5 (kaw_trans (kaw_refl (h0 := h0) (bx := bx) (B := B) hW) hA7) (show -100 ≤ (v_openNext κ s 1) ∧ (v_openNext κ s 1) ≤ 70000 from by omega)⟩, (by first | exact Nat.le_of_ble_eq_true rfl | omega), (by first | exact Nat.le_of_ble_eq_true rfl | omega)⟩
  · refine ⟨⟨_, hk_o3 hx (show s.toNat < 2 from by omega) rfl⟩, _, _, _, _, (m_openNext hF htr hx hV (kaw_refl (h0 := h0) (bx := bx) (B := B) hW).2.1 (s := s) (w := 0) rfl (by omega) (by omega) (by omega) (hO _ _ (by omega) (by omega) (by omega))), (by first | exact Nat.le_of_ble_eq_true rfl | omega), (by first | exact Nat.le_of_ble_eq_true rfl | omega), mkiw (r := some (aI (v_openNext κ s 0))) (fun B11 bx11 hx10 hV9 hA11 hp12 => ?_), fun _ _ q => q.elim⟩
    have hp12 : -100 ≤ (v_openNext κ s 0) ∧ (v_openNext κ s 0) ≤ 70000 := hp12
    exact ⟨⟨(by first | exact (if_pos e1).trans ((if_pos e3).trans (if_neg e4)) | (unfold e_kOpen; rw [if_pos e1, if_pos e3, if_neg e4])), kRetIWP (P := fun v _ => -100 ≤ v ∧ v ≤ 70000) (by first | exact (if_pos e1).trans ((if_pos e3).trans (if_neg e4)) | (unfold v_kOpen; rw [if_pos e1, if_pos e3, if_neg e4])) (by first | exact (if_pos e1).trans ((if_pos e3).trans (if_neg e4)) | (unfold s_kOpen; rw [if_pos e1, if_pos e3, if_neg e4])) hx10 hV9 (kaw_trans (kaw_refl (h0 := h0) (bx := bx) (B := B) hW) hA11) (show -100 ≤ (v_openNext κ s 0) ∧ (v_openNext κ s 0) ≤ 70000 from by omega)⟩, (by first | exact Nat.le_of_ble_eq_true rfl | omega), (by first | exact Nat.le_of_ble_eq_true rfl | omega)⟩
set_option maxRecDepth 100000 in
theorem s_kOpen_fr {f kk : Nat} {s p : Int} (hf : (Nat.blt f 1000 && !([100, 101, 102, 103, 104, 105, 106, 107, 108, 109, 110, 111, 112, 113, 190, 200, 201, 202, 203, 204, 205, 206, 207, 208, 209, 210, 211, 290, 306, 400, 402, 600, 601, 602].elem f)) = true) : s_kOpen κ s p f kk = κ f kk := by
  have n100 : f ≠ 100 := by rintro rfl; exact absurd hf (by decide)
  have n101 : f ≠ 101 := by rintro rfl; exact absurd hf (by decide)
  have n102 : f ≠ 102 := by rintro rfl; exact absurd hf (by decide)
  have n103 : f ≠ 103 := by rintro rfl; exact absurd hf (by decide)
  have n104 : f ≠ 104 := by rintro rfl; exact absurd hf (by decide)
  have n105 : f ≠ 105 := by rintro rfl; exact absurd hf (by decide)
  have n106 : f ≠ 106 := by rintro rfl; exact absurd hf (by decide)
  have n107 : f ≠ 107 := by rintro rfl; exact absurd hf (by decide)
  have n108 : f ≠ 108 := by rintro rfl; exact absurd hf (by decide)
  have n109 : f ≠ 109 := by rintro rfl; exact absurd hf (by decide)
  have n110 : f ≠ 110 := by rintro rfl; exact absurd hf (by decide)
  have n111 : f ≠ 111 := by rintro rfl; exact absurd hf (by decide)
  have n112 : f ≠ 112 := by rintro rfl; exact absurd hf (by decide)
  have n113 : f ≠ 113 := by rintro rfl; exact absurd hf (by decide)
  have n190 : f ≠ 190 := by rintro rfl; exact absurd hf (by decide)
  have n200 : f ≠ 200 := by rintro rfl; exact absurd hf (by decide)
  have n201 : f ≠ 201 := by rintro rfl; exact absurd hf (by decide)
  have n202 : f ≠ 202 := by rintro rfl; exact absurd hf (by decide)
  have n203 : f ≠ 203 := by rintro rfl; exact absurd hf (by decide)
  have n204 : f ≠ 204 := by rintro rfl; exact absurd hf (by decide)
  have n205 : f ≠ 205 := by rintro rfl; exact absurd hf (by decide)
  have n206 : f ≠ 206 := by rintro rfl; exact absurd hf (by decide)
  have n207 : f ≠ 207 := by rintro rfl; exact absurd hf (by decide)
  have n208 : f ≠ 208 := by rintro rfl; exact absurd hf (by decide)
  have n209 : f ≠ 209 := by rintro rfl; exact absurd hf (by decide)
  have n210 : f ≠ 210 := by rintro rfl; exact absurd hf (by decide)
  have n211 : f ≠ 211 := by rintro rfl; exact absurd hf (by decide)
  have n290 : f ≠ 290 := by rintro rfl; exact absurd hf (by decide)
  have n306 : f ≠ 306 := by rintro rfl; exact absurd hf (by decide)
  have n400 : f ≠ 400 := by rintro rfl; exact absurd hf (by decide)
  have n402 : f ≠ 402 := by rintro rfl; exact absurd hf (by decide)
  have n600 : f ≠ 600 := by rintro rfl; exact absurd hf (by decide)
  have n601 : f ≠ 601 := by rintro rfl; exact absurd hf (by decide)
  have n602 : f ≠ 602 := by rintro rfl; exact absurd hf (by decide)
  have lt : f < 1000 := Nat.le_of_ble_eq_true (Bool.and_eq_true_iff.mp hf).1
  have f100 : ∀ (m : Nat → Nat → Int) (a b : Nat) (v : Int), u2 m 100 a v f b = m f b := fun m a b v => u2_f n100
  have f101 : ∀ (m : Nat → Nat → Int) (a b : Nat) (v : Int), u2 m 101 a v f b = m f b := fun m a b v => u2_f n101
  have f102 : ∀ (m : Nat → Nat → Int) (a b : Nat) (v : Int), u2 m 102 a v f b = m f b := fun m a b v => u2_f n102
  have f103 : ∀ (m : Nat → Nat → Int) (a b : Nat) (v : Int), u2 m 103 a v f b = m f b := fun m a b v => u2_f n103
  have f104 : ∀ (m : Nat → Nat → Int) (a b : Nat) (v : Int), u2 m 104 a v f b = m f b := fun m a b v => u2_f n104
  have f105 : ∀ (m : Nat → Nat → Int) (a b : Nat) (v : Int), u2 m 105 a v f b = m f b := fun m a b v => u2_f n105
  have f106 : ∀ (m : Nat → Nat → Int) (a b : Nat) (v : Int), u2 m 106 a v f b = m f b := fun m a b v => u2_f n106
  have f107 : ∀ (m : Nat → Nat → Int) (a b : Nat) (v : Int), u2 m 107 a v f b = m f b := fun m a b v => u2_f n107
  have f108 : ∀ (m : Nat → Nat → Int) (a b : Nat) (v : Int), u2 m 108 a v f b = m f b := fun m a b v => u2_f n108
  have f109 : ∀ (m : Nat → Nat → Int) (a b : Nat) (v : Int), u2 m 109 a v f b = m f b := fun m a b v => u2_f n109
  have f110 : ∀ (m : Nat → Nat → Int) (a b : Nat) (v : Int), u2 m 110 a v f b = m f b := fun m a b v => u2_f n110
  have f111 : ∀ (m : Nat → Nat → Int) (a b : Nat) (v : Int), u2 m 111 a v f b = m f b := fun m a b v => u2_f n111
  have f112 : ∀ (m : Nat → Nat → Int) (a b : Nat) (v : Int), u2 m 112 a v f b = m f b := fun m a b v => u2_f n112
  have f113 : ∀ (m : Nat → Nat → Int) (a b : Nat) (v : Int), u2 m 113 a v f b = m f b := fun m a b v => u2_f n113
  have f190 : ∀ (m : Nat → Nat → Int) (a b : Nat) (v : Int), u2 m 190 a v f b = m f b := fun m a b v => u2_f n190
  have f200 : ∀ (m : Nat → Nat → Int) (a b : Nat) (v : Int), u2 m 200 a v f b = m f b := fun m a b v => u2_f n200
  have f201 : ∀ (m : Nat → Nat → Int) (a b : Nat) (v : Int), u2 m 201 a v f b = m f b := fun m a b v => u2_f n201
  have f202 : ∀ (m : Nat → Nat → Int) (a b : Nat) (v : Int), u2 m 202 a v f b = m f b := fun m a b v => u2_f n202
  have f203 : ∀ (m : Nat → Nat → Int) (a b : Nat) (v : Int), u2 m 203 a v f b = m f b := fun m a b v => u2_f n203
  have f204 : ∀ (m : Nat → Nat → Int) (a b : Nat) (v : Int), u2 m 204 a v f b = m f b := fun m a b v => u2_f n204
  have f205 : ∀ (m : Nat → Nat → Int) (a b : Nat) (v : Int), u2 m 205 a v f b = m f b := fun m a b v => u2_f n205
  have f206 : ∀ (m : Nat → Nat → Int) (a b : Nat) (v : Int), u2 m 206 a v f b = m f b := fun m a b v => u2_f n206
  have f207 : ∀ (m : Nat → Nat → Int) (a b : Nat) (v : Int), u2 m 207 a v f b = m f b := fun m a b v => u2_f n207
  have f208 : ∀ (m : Nat → Nat → Int) (a b : Nat) (v : Int), u2 m 208 a v f b = m f b := fun m a b v => u2_f n208
  have f209 : ∀ (m : Nat → Nat → Int) (a b : Nat) (v : Int), u2 m 209 a v f b = m f b := fun m a b v => u2_f n209
  have f210 : ∀ (m : Nat → Nat → Int) (a b : Nat) (v : Int), u2 m 210 a v f b = m f b := fun m a b v => u2_f n210
  have f211 : ∀ (m : Nat → Nat → Int) (a b : Nat) (v : Int), u2 m 211 a v f b = m f b := fun m a b v => u2_f n211
  have f290 : ∀ (m : Nat → Nat → Int) (a b : Nat) (v : Int), u2 m 290 a v f b = m f b := fun m a b v => u2_f n290
  have f306 : ∀ (m : Nat → Nat → Int) (a b : Nat) (v : Int), u2 m 306 a v f b = m f b := fun m a b v => u2_f n306
  have f400 : ∀ (m : Nat → Nat → Int) (a b : Nat) (v : Int), u2 m 400 a v f b = m f b := fun m a b v => u2_f n400
  have f402 : ∀ (m : Nat → Nat → Int) (a b : Nat) (v : Int), u2 m 402 a v f b = m f b := fun m a b v => u2_f n402
  have f600 : ∀ (m : Nat → Nat → Int) (a b : Nat) (v : Int), u2 m 600 a v f b = m f b := fun m a b v => u2_f n600
  have f601 : ∀ (m : Nat → Nat → Int) (a b : Nat) (v : Int), u2 m 601 a v f b = m f b := fun m a b v => u2_f n601
  have f602 : ∀ (m : Nat → Nat → Int) (a b : Nat) (v : Int), u2 m 602 a v f b = m f b := fun m a b v => u2_f n602
  have fw : ∀ (m : Nat → Nat → Int) (r a b : Nat) (v : Int), u2 m (1000 + r) a v f b = m f b := fun m r a b v => u2_f (by omega)
  have c_openNext : ∀ (m : Nat → Nat → Int) (z_s z_w : Int) (k : Nat), s_openNext m z_s z_w f k = m f k := by intros; exact s_openNext_fr (Bool.and_eq_true_iff.mpr ⟨Nat.ble_eq_true_of_le lt, by simp only [List.elem_cons, List.elem_nil, beq_eq_false_iff_ne.mpr n100, beq_eq_false_iff_ne.mpr n101, beq_eq_false_iff_ne.mpr n102, beq_eq_false_iff_ne.mpr n103, beq_eq_false_iff_ne.mpr n104, beq_eq_false_iff_ne.mpr n105, beq_eq_false_iff_ne.mpr n106, beq_eq_false_iff_ne.mpr n107, beq_eq_false_iff_ne.mpr n108, beq_eq_false_iff_ne.mpr n109, beq_eq_false_iff_ne.mpr n110, beq_eq_false_iff_ne.mpr n111, beq_eq_false_iff_ne.mpr n112, beq_eq_false_iff_ne.mpr n113, beq_eq_false_iff_ne.mpr n190, beq_eq_false_iff_ne.mpr n200, beq_eq_false_iff_ne.mpr n201, beq_eq_false_iff_ne.mpr n202, beq_eq_false_iff_ne.mpr n203, beq_eq_false_iff_ne.mpr n204, beq_eq_false_iff_ne.mpr n205, beq_eq_false_iff_ne.mpr n206, beq_eq_false_iff_ne.mpr n207, beq_eq_false_iff_ne.mpr n208, beq_eq_false_iff_ne.mpr n209, beq_eq_false_iff_ne.mpr n210, beq_eq_false_iff_ne.mpr n211, beq_eq_false_iff_ne.mpr n290, beq_eq_false_iff_ne.mpr n306, beq_eq_false_iff_ne.mpr n400, beq_eq_false_iff_ne.mpr n402, beq_eq_false_iff_ne.mpr n600, beq_eq_false_iff_ne.mpr n601, beq_eq_false_iff_ne.mpr n602]; rfl⟩)
  unfold s_kOpen
  repeat' with_reducible apply f_ite
  all_goals first | rfl | simp only [f100, f101, f102, f103, f104, f105, f106, f107, f108, f109, f110, f111, f112, f113, f190, f200, f201, f202, f203, f204, f205, f206, f207, f208, f209, f210, f211, f290, f306, f400, f402, f600, f601, f602, fw, c_openNext]
def v_kWrite (κ : Nat → Nat → Int) (s i : Int) : Int := (if (e_sideAt κ s) = 0 then (v_accept (u2 κ 505 0 0) s i 0 (κ 505 0)) else 0)
def s_kWrite (κ : Nat → Nat → Int) (s i : Int) : Nat → Nat → Int := (if (e_sideAt κ s) = 0 then (s_accept (u2 κ 505 0 0) s i 0 (κ 505 0)) else κ)
def e_kWrite (κ : Nat → Nat → Int) (s i : Int) : Int := (if (e_sideAt κ s) = 0 then 0 else (e_sideAt κ s))
set_option maxRecDepth 100000 in
theorem m_kWrite (hF : mm_F G) (htr : L.stackTraces = false) (hx : kx B bx κ) (hV : kV κ) (hW : kW κ) {s i : Int} {a0 : Nat} (ea0 : a0 = B 5 0) (h1 : -2147483648 ≤ s) (h1a : s < 2147483648) (h3 : -2147483648 ≤ i) (h3a : i < 2147483648) (ha4 : 0 < κ 602 0) (hk4 : κ 601 0 = 2) (hl4 : 2048 ≤ κ 600 0) (hS : ∀ s, 0 ≤ s → s ≤ 1 → kSA κ s) (hR : ∀ s, 0 ≤ s → s ≤ 1 → kSRA κ s) :
    mm_Met L G SX5_write [.ref a0, .int (iI s), .int (iI i)] (hk G B bx h0 κ) 3 (6 + kAcc κ s i (κ 505 0)) (fun r h => (e_kWrite κ s i) = 0 ∧ (mRetW G bx B h0 κ (some (.int (iI (v_kWrite κ s i)))) (s_kWrite κ s i) ((fun v _ => -100 ≤ v ∧ v ≤ 70000) (v_kWrite κ s i) (s_kWrite κ s i))) r h) (kThr (hk G B bx h0 κ) (e_kWrite κ s i)) := by
  refine mi_meth MX5_write 400 hF htr okX5_write (av := [aR a0, aI s, aI i]) (by decide +kernel) (Nat.le_of_ble_eq_true rfl) cmX5_write (fun θ hc => ?_)
  refine ⟨⟨_, hk_o5 hx rfl ea0⟩, _, _, _, _, (m_sideAt hF htr hx hV (s := s) ea0 (by omega) (by omega)), by omega, by omega, mkit (r := some (aR (B 3 s.toNat))) (fun e1 => ?_), fun E h1 q => kThr_up q (fun e1 => (by first | exact if_neg e1 | (unfold e_kWrite; rw [if_neg e1])))⟩
  have t2 := sideAt_0 (κ := κ) (s := s) e1
  refine ⟨_, hk_o5 hx rfl ea0, aI (κ 505 0), rfl, ?_⟩
  have t3 := (show 0 ≤ κ 505 0 ∧ κ 505 0 ≤ 2048 from hV.g 505 0 rfl)
  refine mi_nl [(3, aR (B 3 s.toNat)), (0, aR (a0)), (1, aI s), (2, aI i)] rfl ?_
  refine ⟨_, hk_o5 hx rfl ea0, trivial, _, kp_505 hx rfl (v := 0) ea0, ?_⟩
  have hV4 := hV.u (f := 505) (k := 0) (v := 0) rfl (show 0 ≤ 0 ∧ 0 ≤ 2048 from by omega)
  have hx5 := kx_u (f := 505) (k := 0) (v := 0) rfl hx
  refine mi_nl [(4, aI (κ 505 0)), (3, aR (B 3 s.toNat)), (0, aR (a0)), (1, aI s), (2, aI i)] rfl ?_
  refine ⟨_, hk_o5 hx5 rfl ea0, aR (B 17 0), rfl, ?_⟩
  have hka : kAcc (u2 κ 505 0 0) s i (κ 505 0) = kAcc κ s i (κ 505 0) := rfl
  refine ⟨⟨_, hk_o3 hx5 (show s.toNat < 2 from by omega) rfl⟩, _, _, _, _, (m_accept hF htr hx5 hV4 (kaw_u rfl (kaw_refl (h0 := h0) (bx := bx) (B := B) hW)).2.1 (s := s) (i := i) (r := 0) (n := (κ 505 0)) rfl rfl (by omega) (by omega) (by omega) (by omega) (by omega) (by omega) (by omega) (by rw [show (u2 κ 505 0 0) 602 0 = _ from (u2_f (by decide))]; omega) (show (u2 κ 505 0 0) 601 0 = 2 from by rw [show (u2 κ 505 0 0) 601 0 = _ from (u2_f (by decide))]; omega) (show (κ 505 0) ≤ (u2 κ 505 0 0) 600 0 from by rw [show (u2 κ 505 0 0) 600 0 = _ from (u2_f (by decide))]; omega) (kSA_cg (fun f hf k => u2_f (by unfold kSf at hf; omega)) (hS _ (by omega) (by omega))) (hR _ (by omega) (by omega))), (by first | exact Nat.le_of_ble_eq_true rfl | omega), (by first | exact Nat.le_of_ble_eq_true rfl | omega), mkiw (r := some (aI (v_accept (u2 κ 505 0 0) s i 0 (κ 505 0)))) (fun B8 bx8 hx7 hV6 hA8 hp9 => ?_), fun _ _ q => q.elim⟩
  have hp9 : -100 ≤ (v_accept (u2 κ 505 0 0) s i 0 (κ 505 0)) ∧ (v_accept (u2 κ 505 0 0) s i 0 (κ 505 0)) ≤ 70000 := hp9
  exact ⟨⟨(by first | exact if_pos e1 | (unfold e_kWrite; rw [if_pos e1])), kRetIWP (P := fun v _ => -100 ≤ v ∧ v ≤ 70000) (by first | exact if_pos e1 | (unfold v_kWrite; rw [if_pos e1])) (by first | exact if_pos e1 | (unfold s_kWrite; rw [if_pos e1])) hx7 hV6 (kaw_trans (kaw_u rfl (kaw_refl (h0 := h0) (bx := bx) (B := B) hW)) hA8) (show -100 ≤ (v_accept (u2 κ 505 0 0) s i 0 (κ 505 0)) ∧ (v_accept (u2 κ 505 0 0) s i 0 (κ 505 0)) ≤ 70000 from by omega)⟩, (by first | exact Nat.le_of_ble_eq_true rfl | omega), (by first | exact Nat.le_of_ble_eq_true rfl | omega)⟩
set_option maxRecDepth 100000 in
theorem s_kWrite_fr {f kk : Nat} {s i : Int} (hf : (Nat.blt f 1000 && !([201, 202, 203, 308, 505, 600, 601, 602].elem f)) = true) : s_kWrite κ s i f kk = κ f kk := by
  have n201 : f ≠ 201 := by rintro rfl; exact absurd hf (by decide)
  have n202 : f ≠ 202 := by rintro rfl; exact absurd hf (by decide)
  have n203 : f ≠ 203 := by rintro rfl; exact absurd hf (by decide)
  have n308 : f ≠ 308 := by rintro rfl; exact absurd hf (by decide)
  have n505 : f ≠ 505 := by rintro rfl; exact absurd hf (by decide)
  have n600 : f ≠ 600 := by rintro rfl; exact absurd hf (by decide)
  have n601 : f ≠ 601 := by rintro rfl; exact absurd hf (by decide)
  have n602 : f ≠ 602 := by rintro rfl; exact absurd hf (by decide)
  have lt : f < 1000 := Nat.le_of_ble_eq_true (Bool.and_eq_true_iff.mp hf).1
  have f201 : ∀ (m : Nat → Nat → Int) (a b : Nat) (v : Int), u2 m 201 a v f b = m f b := fun m a b v => u2_f n201
  have f202 : ∀ (m : Nat → Nat → Int) (a b : Nat) (v : Int), u2 m 202 a v f b = m f b := fun m a b v => u2_f n202
  have f203 : ∀ (m : Nat → Nat → Int) (a b : Nat) (v : Int), u2 m 203 a v f b = m f b := fun m a b v => u2_f n203
  have f308 : ∀ (m : Nat → Nat → Int) (a b : Nat) (v : Int), u2 m 308 a v f b = m f b := fun m a b v => u2_f n308
  have f505 : ∀ (m : Nat → Nat → Int) (a b : Nat) (v : Int), u2 m 505 a v f b = m f b := fun m a b v => u2_f n505
  have f600 : ∀ (m : Nat → Nat → Int) (a b : Nat) (v : Int), u2 m 600 a v f b = m f b := fun m a b v => u2_f n600
  have f601 : ∀ (m : Nat → Nat → Int) (a b : Nat) (v : Int), u2 m 601 a v f b = m f b := fun m a b v => u2_f n601
  have f602 : ∀ (m : Nat → Nat → Int) (a b : Nat) (v : Int), u2 m 602 a v f b = m f b := fun m a b v => u2_f n602
  have fw : ∀ (m : Nat → Nat → Int) (r a b : Nat) (v : Int), u2 m (1000 + r) a v f b = m f b := fun m r a b v => u2_f (by omega)
  have c_accept : ∀ (m : Nat → Nat → Int) (z_s z_i z_r z_n : Int) (k : Nat), s_accept m z_s z_i z_r z_n f k = m f k := by intros; exact s_accept_fr (Bool.and_eq_true_iff.mpr ⟨Nat.ble_eq_true_of_le lt, by simp only [List.elem_cons, List.elem_nil, beq_eq_false_iff_ne.mpr n201, beq_eq_false_iff_ne.mpr n202, beq_eq_false_iff_ne.mpr n203, beq_eq_false_iff_ne.mpr n308, beq_eq_false_iff_ne.mpr n600, beq_eq_false_iff_ne.mpr n601, beq_eq_false_iff_ne.mpr n602]; rfl⟩)
  unfold s_kWrite
  repeat' with_reducible apply f_ite
  all_goals first | rfl | simp only [f201, f202, f203, f308, f505, f600, f601, f602, fw, c_accept]
def kDel (κ : Nat → Nat → Int) (p : Int) : Nat := if e_frameAt κ p = 0 then kTin κ (1 - (κ 2 p.toNat)) p else 0
def v_kDeliver (κ : Nat → Nat → Int) (p : Int) : Int := (if (e_frameAt κ p) = 0 then (if (v_takeIn κ (1 - (κ 2 p.toNat)) p) = 0 then (v_takeIn κ (1 - (κ 2 p.toNat)) p) else (v_takeIn κ (1 - (κ 2 p.toNat)) p)) else 0)
def s_kDeliver (κ : Nat → Nat → Int) (p : Int) : Nat → Nat → Int := (if (e_frameAt κ p) = 0 then (if (v_takeIn κ (1 - (κ 2 p.toNat)) p) = 0 then (u2 (s_takeIn κ (1 - (κ 2 p.toNat)) p) 1 p.toNat 1) else (s_takeIn κ (1 - (κ 2 p.toNat)) p)) else κ)
def e_kDeliver (κ : Nat → Nat → Int) (p : Int) : Int := (if (e_frameAt κ p) = 0 then (if (v_takeIn κ (1 - (κ 2 p.toNat)) p) = 0 then 0 else 0) else (e_frameAt κ p))
set_option maxRecDepth 100000 in
theorem m_kDeliver (hF : mm_F G) (htr : L.stackTraces = false) (hx : kx B bx κ) (hV : kV κ) (hW : kW κ) {p : Int} {a0 : Nat} (ea0 : a0 = B 5 0) (h1 : -2147483648 ≤ p) (h1a : p < 2147483648) (hg8 : ∀ s : Int, 0 ≤ s → s ≤ 1 → κ 360 ((16 * s) + 8).toNat ≤ 64) (hg9 : ∀ s : Int, 0 ≤ s → s ≤ 1 → κ 360 ((16 * s) + 9).toNat ≤ 64) (hN : ∀ s, 0 ≤ s → s ≤ 1 → kNT κ s) (hT : e_frameAt κ p = 0 → kTk κ (1 - (κ 2 p.toNat)) p) :
    mm_Met L G SX5_deliver [.ref a0, .int (iI p)] (hk G B bx h0 κ) 322 (1670 + kDel κ p) (fun r h => (e_kDeliver κ p) = 0 ∧ (mRetW G bx B h0 κ (some (.int (iI (v_kDeliver κ p)))) (s_kDeliver κ p) ((fun v _ => -100 ≤ v ∧ v ≤ 70000) (v_kDeliver κ p) (s_kDeliver κ p))) r h) (kThr (hk G B bx h0 κ) (e_kDeliver κ p)) := by
  refine mi_meth MX5_deliver 400 hF htr okX5_deliver (av := [aR a0, aI p]) (by decide +kernel) (Nat.le_of_ble_eq_true rfl) cmX5_deliver (fun θ hc => ?_)
  have hdl : e_frameAt κ p = 0 → kDel κ p = kTin κ (1 - (κ 2 p.toNat)) p := fun a => if_pos a
  refine ⟨⟨_, hk_o5 hx rfl ea0⟩, _, _, _, _, (m_frameAt hF htr hx hV (p := p) ea0 (by omega) (by omega)), by omega, by omega, mkit (r := some (aR (B 0 p.toNat))) (fun e1 => ?_), fun E h1 q => kThr_up q (fun e1 => (by first | exact if_neg e1 | (unfold e_kDeliver; rw [if_neg e1])))⟩
  have t2 := frameAt_0 (κ := κ) (p := p) e1
  refine ⟨_, hk_o5 hx rfl ea0, aR (B 10 0), rfl, ?_⟩
  refine mi_nl [(2, aR (B 0 p.toNat)), (0, aR (a0)), (1, aI p)] rfl ?_
  refine ⟨_, hk_o0 hx (show p.toNat < 65 from by omega) rfl, aI (κ 2 p.toNat), rfl, ?_⟩
  have t3 := (show 0 ≤ κ 2 p.toNat ∧ κ 2 p.toNat ≤ 1 from hV.g 2 p.toNat rfl)
  refine ⟨2, _, some (B 3 (1 - (κ 2 p.toNat)).toNat), hk_sides hx rfl, by omega, ka_3 (i := (1 - (κ 2 p.toNat))) (by omega) (by omega), ?_⟩
  refine ⟨⟨_, hk_o3 hx (show (1 - (κ 2 p.toNat)).toNat < 2 from by omega) rfl⟩, _, _, _, _, (m_takeIn hF htr hx hV (kaw_refl (h0 := h0) (bx := bx) (B := B) hW).2.1 (s := (1 - (κ 2 p.toNat))) (p := p) rfl rfl (by omega) (by omega) (by omega) (by omega) (hg8 _ (by omega) (by omega)) (hg9 _ (by omega) (by omega)) (hN _ (by omega) (by omega)) (hT (by omega))), (by first | exact Nat.le_of_ble_eq_true rfl | omega), (by first | exact Nat.le_of_ble_eq_true rfl | omega), mkiw (r := some (aI (v_takeIn κ (1 - (κ 2 p.toNat)) p))) (fun B6 bx6 hx5 hV4 hA6 hp7 => ?_), fun _ _ q => q.elim⟩
  have hp7 : 0 ≤ (v_takeIn κ (1 - (κ 2 p.toNat)) p) ∧ (v_takeIn κ (1 - (κ 2 p.toNat)) p) ≤ 6 := hp7
  refine ⟨by omega, fun (e8 : ¬ ((v_takeIn κ (1 - (κ 2 p.toNat)) p) = 0)) => ?_, fun (e8 : (v_takeIn κ (1 - (κ 2 p.toNat)) p) = 0) => ?_⟩
  · refine mi_nl [(3, aI (v_takeIn κ (1 - (κ 2 p.toNat)) p)), (2, aR (B 0 p.toNat)), (0, aR (a0)), (1, aI p)] rfl ?_
    exact ⟨⟨(by first | exact (if_pos e1).trans (if_neg e8) | (unfold e_kDeliver; rw [if_pos e1, if_neg e8])), kRetIWP (P := fun v _ => -100 ≤ v ∧ v ≤ 70000) (by first | exact (if_pos e1).trans (if_neg e8) | (unfold v_kDeliver; rw [if_pos e1, if_neg e8])) (by first | exact (if_pos e1).trans (if_neg e8) | (unfold s_kDeliver; rw [if_pos e1, if_neg e8])) hx5 hV4 (kaw_trans (kaw_refl (h0 := h0) (bx := bx) (B := B) hW) hA6) (show -100 ≤ (v_takeIn κ (1 - (κ 2 p.toNat)) p) ∧ (v_takeIn κ (1 - (κ 2 p.toNat)) p) ≤ 70000 from by omega)⟩, (by first | exact Nat.le_of_ble_eq_true rfl | omega), (by first | exact Nat.le_of_ble_eq_true rfl | omega)⟩
  · refine mi_nl [(3, aI (v_takeIn κ (1 - (κ 2 p.toNat)) p)), (2, aR (B 0 p.toNat)), (0, aR (a0)), (1, aI p)] rfl ?_
    refine ⟨_, hk_o0 hx5 (show p.toNat < 65 from by omega) ((rfl : B 0 p.toNat = _).trans (hA6.1 0 p.toNat (show p.toNat < 65 from by omega)).1), (show 1 = 0 ∨ 1 = 1 from by omega), _, kp_1 hx5 (show p.toNat < 65 from by omega) (v := 1) ((rfl : B 0 p.toNat = _).trans (hA6.1 0 p.toNat (show p.toNat < 65 from by omega)).1), ?_⟩
    have hV9 := hV4.u (f := 1) (k := p.toNat) (v := 1) rfl (show 0 ≤ 1 ∧ 1 ≤ 1 from by omega)
    have hx10 := kx_u (f := 1) (k := p.toNat) (v := 1) rfl hx5
    exact ⟨⟨(by first | exact (if_pos e1).trans (if_pos e8) | (unfold e_kDeliver; rw [if_pos e1, if_pos e8])), kRetIWP (P := fun v _ => -100 ≤ v ∧ v ≤ 70000) (by first | exact (if_pos e1).trans (if_pos e8) | (unfold v_kDeliver; rw [if_pos e1, if_pos e8])) (by first | exact (if_pos e1).trans (if_pos e8) | (unfold s_kDeliver; rw [if_pos e1, if_pos e8])) hx10 hV9 (kaw_u rfl (kaw_trans (kaw_refl (h0 := h0) (bx := bx) (B := B) hW) hA6)) (show -100 ≤ (v_takeIn κ (1 - (κ 2 p.toNat)) p) ∧ (v_takeIn κ (1 - (κ 2 p.toNat)) p) ≤ 70000 from by omega)⟩, (by first | exact Nat.le_of_ble_eq_true rfl | omega), (by first | exact Nat.le_of_ble_eq_true rfl | omega)⟩
set_option maxRecDepth 100000 in
theorem s_kDeliver_fr {f kk : Nat} {p : Int} (hf : (Nat.blt f 1000 && !([1, 100, 101, 102, 103, 104, 105, 106, 107, 108, 109, 110, 111, 112, 113, 190, 200, 201, 202, 203, 204, 205, 206, 207, 208, 209, 210, 211, 290, 306, 310, 312, 313, 314, 315, 360, 401, 404, 405, 600, 601, 602].elem f)) = true) : s_kDeliver κ p f kk = κ f kk := by
  have n1 : f ≠ 1 := by rintro rfl; exact absurd hf (by decide)
  have n100 : f ≠ 100 := by rintro rfl; exact absurd hf (by decide)
  have n101 : f ≠ 101 := by rintro rfl; exact absurd hf (by decide)
  have n102 : f ≠ 102 := by rintro rfl; exact absurd hf (by decide)
  have n103 : f ≠ 103 := by rintro rfl; exact absurd hf (by decide)
  have n104 : f ≠ 104 := by rintro rfl; exact absurd hf (by decide)
  have n105 : f ≠ 105 := by rintro rfl; exact absurd hf (by decide)
  have n106 : f ≠ 106 := by rintro rfl; exact absurd hf (by decide)
  have n107 : f ≠ 107 := by rintro rfl; exact absurd hf (by decide)
  have n108 : f ≠ 108 := by rintro rfl; exact absurd hf (by decide)
  have n109 : f ≠ 109 := by rintro rfl; exact absurd hf (by decide)
  have n110 : f ≠ 110 := by rintro rfl; exact absurd hf (by decide)
  have n111 : f ≠ 111 := by rintro rfl; exact absurd hf (by decide)
  have n112 : f ≠ 112 := by rintro rfl; exact absurd hf (by decide)
  have n113 : f ≠ 113 := by rintro rfl; exact absurd hf (by decide)
  have n190 : f ≠ 190 := by rintro rfl; exact absurd hf (by decide)
  have n200 : f ≠ 200 := by rintro rfl; exact absurd hf (by decide)
  have n201 : f ≠ 201 := by rintro rfl; exact absurd hf (by decide)
  have n202 : f ≠ 202 := by rintro rfl; exact absurd hf (by decide)
  have n203 : f ≠ 203 := by rintro rfl; exact absurd hf (by decide)
  have n204 : f ≠ 204 := by rintro rfl; exact absurd hf (by decide)
  have n205 : f ≠ 205 := by rintro rfl; exact absurd hf (by decide)
  have n206 : f ≠ 206 := by rintro rfl; exact absurd hf (by decide)
  have n207 : f ≠ 207 := by rintro rfl; exact absurd hf (by decide)
  have n208 : f ≠ 208 := by rintro rfl; exact absurd hf (by decide)
  have n209 : f ≠ 209 := by rintro rfl; exact absurd hf (by decide)
  have n210 : f ≠ 210 := by rintro rfl; exact absurd hf (by decide)
  have n211 : f ≠ 211 := by rintro rfl; exact absurd hf (by decide)
  have n290 : f ≠ 290 := by rintro rfl; exact absurd hf (by decide)
  have n306 : f ≠ 306 := by rintro rfl; exact absurd hf (by decide)
  have n310 : f ≠ 310 := by rintro rfl; exact absurd hf (by decide)
  have n312 : f ≠ 312 := by rintro rfl; exact absurd hf (by decide)
  have n313 : f ≠ 313 := by rintro rfl; exact absurd hf (by decide)
  have n314 : f ≠ 314 := by rintro rfl; exact absurd hf (by decide)
  have n315 : f ≠ 315 := by rintro rfl; exact absurd hf (by decide)
  have n360 : f ≠ 360 := by rintro rfl; exact absurd hf (by decide)
  have n401 : f ≠ 401 := by rintro rfl; exact absurd hf (by decide)
  have n404 : f ≠ 404 := by rintro rfl; exact absurd hf (by decide)
  have n405 : f ≠ 405 := by rintro rfl; exact absurd hf (by decide)
  have n600 : f ≠ 600 := by rintro rfl; exact absurd hf (by decide)
  have n601 : f ≠ 601 := by rintro rfl; exact absurd hf (by decide)
  have n602 : f ≠ 602 := by rintro rfl; exact absurd hf (by decide)
  have lt : f < 1000 := Nat.le_of_ble_eq_true (Bool.and_eq_true_iff.mp hf).1
  have f1 : ∀ (m : Nat → Nat → Int) (a b : Nat) (v : Int), u2 m 1 a v f b = m f b := fun m a b v => u2_f n1
  have f100 : ∀ (m : Nat → Nat → Int) (a b : Nat) (v : Int), u2 m 100 a v f b = m f b := fun m a b v => u2_f n100
  have f101 : ∀ (m : Nat → Nat → Int) (a b : Nat) (v : Int), u2 m 101 a v f b = m f b := fun m a b v => u2_f n101
  have f102 : ∀ (m : Nat → Nat → Int) (a b : Nat) (v : Int), u2 m 102 a v f b = m f b := fun m a b v => u2_f n102
  have f103 : ∀ (m : Nat → Nat → Int) (a b : Nat) (v : Int), u2 m 103 a v f b = m f b := fun m a b v => u2_f n103
  have f104 : ∀ (m : Nat → Nat → Int) (a b : Nat) (v : Int), u2 m 104 a v f b = m f b := fun m a b v => u2_f n104
  have f105 : ∀ (m : Nat → Nat → Int) (a b : Nat) (v : Int), u2 m 105 a v f b = m f b := fun m a b v => u2_f n105
  have f106 : ∀ (m : Nat → Nat → Int) (a b : Nat) (v : Int), u2 m 106 a v f b = m f b := fun m a b v => u2_f n106
  have f107 : ∀ (m : Nat → Nat → Int) (a b : Nat) (v : Int), u2 m 107 a v f b = m f b := fun m a b v => u2_f n107
  have f108 : ∀ (m : Nat → Nat → Int) (a b : Nat) (v : Int), u2 m 108 a v f b = m f b := fun m a b v => u2_f n108
  have f109 : ∀ (m : Nat → Nat → Int) (a b : Nat) (v : Int), u2 m 109 a v f b = m f b := fun m a b v => u2_f n109
  have f110 : ∀ (m : Nat → Nat → Int) (a b : Nat) (v : Int), u2 m 110 a v f b = m f b := fun m a b v => u2_f n110
  have f111 : ∀ (m : Nat → Nat → Int) (a b : Nat) (v : Int), u2 m 111 a v f b = m f b := fun m a b v => u2_f n111
  have f112 : ∀ (m : Nat → Nat → Int) (a b : Nat) (v : Int), u2 m 112 a v f b = m f b := fun m a b v => u2_f n112
  have f113 : ∀ (m : Nat → Nat → Int) (a b : Nat) (v : Int), u2 m 113 a v f b = m f b := fun m a b v => u2_f n113
  have f190 : ∀ (m : Nat → Nat → Int) (a b : Nat) (v : Int), u2 m 190 a v f b = m f b := fun m a b v => u2_f n190
  have f200 : ∀ (m : Nat → Nat → Int) (a b : Nat) (v : Int), u2 m 200 a v f b = m f b := fun m a b v => u2_f n200
  have f201 : ∀ (m : Nat → Nat → Int) (a b : Nat) (v : Int), u2 m 201 a v f b = m f b := fun m a b v => u2_f n201
  have f202 : ∀ (m : Nat → Nat → Int) (a b : Nat) (v : Int), u2 m 202 a v f b = m f b := fun m a b v => u2_f n202
  have f203 : ∀ (m : Nat → Nat → Int) (a b : Nat) (v : Int), u2 m 203 a v f b = m f b := fun m a b v => u2_f n203
  have f204 : ∀ (m : Nat → Nat → Int) (a b : Nat) (v : Int), u2 m 204 a v f b = m f b := fun m a b v => u2_f n204
  have f205 : ∀ (m : Nat → Nat → Int) (a b : Nat) (v : Int), u2 m 205 a v f b = m f b := fun m a b v => u2_f n205
  have f206 : ∀ (m : Nat → Nat → Int) (a b : Nat) (v : Int), u2 m 206 a v f b = m f b := fun m a b v => u2_f n206
  have f207 : ∀ (m : Nat → Nat → Int) (a b : Nat) (v : Int), u2 m 207 a v f b = m f b := fun m a b v => u2_f n207
  have f208 : ∀ (m : Nat → Nat → Int) (a b : Nat) (v : Int), u2 m 208 a v f b = m f b := fun m a b v => u2_f n208
  have f209 : ∀ (m : Nat → Nat → Int) (a b : Nat) (v : Int), u2 m 209 a v f b = m f b := fun m a b v => u2_f n209
  have f210 : ∀ (m : Nat → Nat → Int) (a b : Nat) (v : Int), u2 m 210 a v f b = m f b := fun m a b v => u2_f n210
  have f211 : ∀ (m : Nat → Nat → Int) (a b : Nat) (v : Int), u2 m 211 a v f b = m f b := fun m a b v => u2_f n211
  have f290 : ∀ (m : Nat → Nat → Int) (a b : Nat) (v : Int), u2 m 290 a v f b = m f b := fun m a b v => u2_f n290
  have f306 : ∀ (m : Nat → Nat → Int) (a b : Nat) (v : Int), u2 m 306 a v f b = m f b := fun m a b v => u2_f n306
  have f310 : ∀ (m : Nat → Nat → Int) (a b : Nat) (v : Int), u2 m 310 a v f b = m f b := fun m a b v => u2_f n310
  have f312 : ∀ (m : Nat → Nat → Int) (a b : Nat) (v : Int), u2 m 312 a v f b = m f b := fun m a b v => u2_f n312
  have f313 : ∀ (m : Nat → Nat → Int) (a b : Nat) (v : Int), u2 m 313 a v f b = m f b := fun m a b v => u2_f n313
  have f314 : ∀ (m : Nat → Nat → Int) (a b : Nat) (v : Int), u2 m 314 a v f b = m f b := fun m a b v => u2_f n314
  have f315 : ∀ (m : Nat → Nat → Int) (a b : Nat) (v : Int), u2 m 315 a v f b = m f b := fun m a b v => u2_f n315
  have f360 : ∀ (m : Nat → Nat → Int) (a b : Nat) (v : Int), u2 m 360 a v f b = m f b := fun m a b v => u2_f n360
  have f401 : ∀ (m : Nat → Nat → Int) (a b : Nat) (v : Int), u2 m 401 a v f b = m f b := fun m a b v => u2_f n401
  have f404 : ∀ (m : Nat → Nat → Int) (a b : Nat) (v : Int), u2 m 404 a v f b = m f b := fun m a b v => u2_f n404
  have f405 : ∀ (m : Nat → Nat → Int) (a b : Nat) (v : Int), u2 m 405 a v f b = m f b := fun m a b v => u2_f n405
  have f600 : ∀ (m : Nat → Nat → Int) (a b : Nat) (v : Int), u2 m 600 a v f b = m f b := fun m a b v => u2_f n600
  have f601 : ∀ (m : Nat → Nat → Int) (a b : Nat) (v : Int), u2 m 601 a v f b = m f b := fun m a b v => u2_f n601
  have f602 : ∀ (m : Nat → Nat → Int) (a b : Nat) (v : Int), u2 m 602 a v f b = m f b := fun m a b v => u2_f n602
  have fw : ∀ (m : Nat → Nat → Int) (r a b : Nat) (v : Int), u2 m (1000 + r) a v f b = m f b := fun m r a b v => u2_f (by omega)
  have c_takeIn : ∀ (m : Nat → Nat → Int) (z_s z_p : Int) (k : Nat), s_takeIn m z_s z_p f k = m f k := by intros; exact s_takeIn_fr (Bool.and_eq_true_iff.mpr ⟨Nat.ble_eq_true_of_le lt, by simp only [List.elem_cons, List.elem_nil, beq_eq_false_iff_ne.mpr n100, beq_eq_false_iff_ne.mpr n101, beq_eq_false_iff_ne.mpr n102, beq_eq_false_iff_ne.mpr n103, beq_eq_false_iff_ne.mpr n104, beq_eq_false_iff_ne.mpr n105, beq_eq_false_iff_ne.mpr n106, beq_eq_false_iff_ne.mpr n107, beq_eq_false_iff_ne.mpr n108, beq_eq_false_iff_ne.mpr n109, beq_eq_false_iff_ne.mpr n110, beq_eq_false_iff_ne.mpr n111, beq_eq_false_iff_ne.mpr n112, beq_eq_false_iff_ne.mpr n113, beq_eq_false_iff_ne.mpr n190, beq_eq_false_iff_ne.mpr n200, beq_eq_false_iff_ne.mpr n201, beq_eq_false_iff_ne.mpr n202, beq_eq_false_iff_ne.mpr n203, beq_eq_false_iff_ne.mpr n204, beq_eq_false_iff_ne.mpr n205, beq_eq_false_iff_ne.mpr n206, beq_eq_false_iff_ne.mpr n207, beq_eq_false_iff_ne.mpr n208, beq_eq_false_iff_ne.mpr n209, beq_eq_false_iff_ne.mpr n210, beq_eq_false_iff_ne.mpr n211, beq_eq_false_iff_ne.mpr n290, beq_eq_false_iff_ne.mpr n306, beq_eq_false_iff_ne.mpr n310, beq_eq_false_iff_ne.mpr n312, beq_eq_false_iff_ne.mpr n313, beq_eq_false_iff_ne.mpr n314, beq_eq_false_iff_ne.mpr n315, beq_eq_false_iff_ne.mpr n360, beq_eq_false_iff_ne.mpr n401, beq_eq_false_iff_ne.mpr n404, beq_eq_false_iff_ne.mpr n405, beq_eq_false_iff_ne.mpr n600, beq_eq_false_iff_ne.mpr n601, beq_eq_false_iff_ne.mpr n602]; rfl⟩)
  unfold s_kDeliver
  repeat' with_reducible apply f_ite
  all_goals first | rfl | simp only [f1, f100, f101, f102, f103, f104, f105, f106, f107, f108, f109, f110, f111, f112, f113, f190, f200, f201, f202, f203, f204, f205, f206, f207, f208, f209, f210, f211, f290, f306, f310, f312, f313, f314, f315, f360, f401, f404, f405, f600, f601, f602, fw, c_takeIn]
def kTake (κ : Nat → Nat → Int) (u a b c : Int) : Nat → Nat → Int := u2 (u2 (u2 (u2 (u2 (u2 (u2 (u2 κ 3 64 u) 4 64 a) 5 64 b) 6 64 c) 7 64 0) 8 64 0) 9 64 (κ 505 0)) 505 0 0
/-- the call is allowed -/
abbrev kTc (κ : Nat → Nat → Int) (s u a b c : Int) : Prop := e_sideAt κ s = 0 ∧ ¬ v_isKind u = 0 ∧ ¬ v_isNumber a = 0 ∧ ¬ v_isNumber b = 0 ∧ ¬ v_isNumber c = 0 ∧ (u = 8 → b ≤ 4611686018427380000 ∧ c ≤ 1) ∧ e_needJoined κ = 0
def kTkc (κ : Nat → Nat → Int) (s u a b c : Int) : Nat := if kTc κ s u a b c then kTin (kTake κ u a b c) s 64 else 0
theorem isKind_1 {u : Int} (h : ¬ v_isKind u = 0) : u = 4 ∨ u = 5 ∨ u = 8 ∨ (16 ≤ u ∧ u ≤ 23) := by
  unfold v_isKind at h
  repeat' split at h
  all_goals omega
theorem isNumber_1 {v : Int} (h : ¬ v_isNumber v = 0) : 0 ≤ v ∧ v ≤ 4611686018427387903 := by
  unfold v_isNumber at h
  repeat' split at h
  all_goals omega
def v_kTakeM (κ : Nat → Nat → Int) (s u a b c : Int) : Int := (if (e_sideAt κ s) = 0 then (if (v_isKind u) = 0 then 0 else (if (v_isNumber a) = 0 then 0 else (if (v_isNumber b) = 0 then 0 else (if (v_isNumber c) = 0 then 0 else (if u = 8 then (if 4611686018427380000 < b then 0 else (if c ≤ 1 then (if (e_needJoined κ) = 0 then (v_takeIn (u2 (u2 (u2 (u2 (u2 (u2 (u2 (u2 κ 3 64 u) 4 64 a) 5 64 b) 6 64 c) 7 64 0) 8 64 0) 9 64 (κ 505 0)) 505 0 0) s 64) else 0) else 0)) else (if (e_needJoined κ) = 0 then (v_takeIn (u2 (u2 (u2 (u2 (u2 (u2 (u2 (u2 κ 3 64 u) 4 64 a) 5 64 b) 6 64 c) 7 64 0) 8 64 0) 9 64 (κ 505 0)) 505 0 0) s 64) else 0)))))) else 0)
def s_kTakeM (κ : Nat → Nat → Int) (s u a b c : Int) : Nat → Nat → Int := (if (e_sideAt κ s) = 0 then (if (v_isKind u) = 0 then κ else (if (v_isNumber a) = 0 then κ else (if (v_isNumber b) = 0 then κ else (if (v_isNumber c) = 0 then κ else (if u = 8 then (if 4611686018427380000 < b then κ else (if c ≤ 1 then (if (e_needJoined κ) = 0 then (s_takeIn (u2 (u2 (u2 (u2 (u2 (u2 (u2 (u2 κ 3 64 u) 4 64 a) 5 64 b) 6 64 c) 7 64 0) 8 64 0) 9 64 (κ 505 0)) 505 0 0) s 64) else κ) else κ)) else (if (e_needJoined κ) = 0 then (s_takeIn (u2 (u2 (u2 (u2 (u2 (u2 (u2 (u2 κ 3 64 u) 4 64 a) 5 64 b) 6 64 c) 7 64 0) 8 64 0) 9 64 (κ 505 0)) 505 0 0) s 64) else κ)))))) else κ)
def e_kTakeM (κ : Nat → Nat → Int) (s u a b c : Int) : Int := (if (e_sideAt κ s) = 0 then (if (v_isKind u) = 0 then 1 else (if (v_isNumber a) = 0 then 1 else (if (v_isNumber b) = 0 then 1 else (if (v_isNumber c) = 0 then 1 else (if u = 8 then (if 4611686018427380000 < b then 1 else (if c ≤ 1 then (if (e_needJoined κ) = 0 then 0 else (e_needJoined κ)) else 1)) else (if (e_needJoined κ) = 0 then 0 else (e_needJoined κ))))))) else (e_sideAt κ s))
set_option maxRecDepth 100000 in
theorem m_kTakeM (hF : mm_F G) (htr : L.stackTraces = false) (hx : kx B bx κ) (hV : kV κ) (hW : kW κ) {s u a b c : Int} {a0 : Nat} (ea0 : a0 = B 5 0) (h1 : -2147483648 ≤ s) (h1a : s < 2147483648) (h3 : -2147483648 ≤ u) (h3a : u < 2147483648) (h4 : -9223372036854775808 ≤ a) (h4a : a < 9223372036854775808) (h5 : -9223372036854775808 ≤ b) (h5a : b < 9223372036854775808) (h6 : -9223372036854775808 ≤ c) (h6a : c < 9223372036854775808) (ha4 : 0 < κ 602 0) (hk4 : κ 601 0 = 2) (hl4 : 2048 ≤ κ 600 0) (hg8 : ∀ s : Int, 0 ≤ s → s ≤ 1 → κ 360 ((16 * s) + 8).toNat ≤ 64) (hg9 : ∀ s : Int, 0 ≤ s → s ≤ 1 → κ 360 ((16 * s) + 9).toNat ≤ 64) (hN : ∀ s, 0 ≤ s → s ≤ 1 → kNT κ s) (hT : kTc κ s u a b c → kTk (kTake κ u a b c) s 64) :
    mm_Met L G SX5_take [.ref a0, .int (iI s), .int (iI u), .long (iL a), .long (iL b), .long (iL c)] (hk G B bx h0 κ) 324 (1682 + kTkc κ s u a b c) (fun r h => (e_kTakeM κ s u a b c) = 0 ∧ (mRetW G bx B h0 κ (some (.int (iI (v_kTakeM κ s u a b c)))) (s_kTakeM κ s u a b c) ((fun v _ => -100 ≤ v ∧ v ≤ 70000) (v_kTakeM κ s u a b c) (s_kTakeM κ s u a b c))) r h) (kThr (hk G B bx h0 κ) (e_kTakeM κ s u a b c)) := by
  refine mi_meth MX5_take 400 hF htr okX5_take (av := [aR a0, aI s, aI u, aL a, aL b, aL c]) (by decide +kernel) (Nat.le_of_ble_eq_true rfl) cmX5_take (fun θ hc => ?_)
  have hkc : e_sideAt κ s = 0 → ¬ (v_isKind u = 0) → ¬ (v_isNumber a = 0) → ¬ (v_isNumber b = 0) → ¬ (v_isNumber c = 0) → (u = 8 → b ≤ 4611686018427380000 ∧ c ≤ 1) → e_needJoined κ = 0 → kTkc κ s u a b c = kTin (kTake κ u a b c) s 64 := fun z1 z2 z3 z4 z5 z6 z7 => if_pos ⟨z1, z2, z3, z4, z5, z6, z7⟩
  refine ⟨⟨_, hk_o5 hx rfl ea0⟩, _, _, _, _, (m_sideAt hF htr hx hV (s := s) ea0 (by omega) (by omega)), by omega, by omega, mkit (r := some (aR (B 3 s.toNat))) (fun e1 => ?_), fun E h1 q => kThr_up q (fun e1 => (by first | exact if_neg e1 | (unfold e_kTakeM; rw [if_neg e1])))⟩
  have t2 := sideAt_0 (κ := κ) (s := s) e1
  refine ⟨_, _, _, _, (m_isKind hF htr hx hV (v := u) (by omega) (by omega)), (by first | exact Nat.le_of_ble_eq_true rfl | omega), (by first | exact Nat.le_of_ble_eq_true rfl | omega), mki_ (r := some (aI (v_isKind u))) ?_, fun _ _ q => q.elim⟩
  have t3 := v_isKind_b u
  have t4 := (isKind_1 (u := u))
  refine mi_nl [(9, aR (B 3 s.toNat)), (0, aR (a0)), (1, aI s), (2, aI u), (3, aL a), (5, aL b), (7, aL c)] rfl ?_
  refine ⟨by omega, fun (e5 : (v_isKind u) = 0) => ?_, fun (e5 : ¬ ((v_isKind u) = 0)) => ?_⟩
  · exact ⟨rfl, by omega, by omega, ⟨Or.inl ⟨(by first | exact (if_pos e1).trans (if_pos e5) | (unfold e_kTakeM; rw [if_pos e1, if_pos e5])), rfl⟩, rfl⟩⟩
  · refine ⟨_, _, _, _, (m_isNumber hF htr hx hV (v := a) (by omega) (by omega)), (by first | exact Nat.le_of_ble_eq_true rfl | omega), (by first | exact Nat.le_of_ble_eq_true rfl | omega), mki_ (r := some (aI (v_isNumber a))) ?_, fun _ _ q => q.elim⟩
    have t6 := v_isNumber_b a
    have t7 := (isNumber_1 (v := a))
    refine ⟨by omega, fun (e8 : (v_isNumber a) = 0) => ?_, fun (e8 : ¬ ((v_isNumber a) = 0)) => ?_⟩
    · exact ⟨rfl, by omega, by omega, ⟨Or.inl ⟨(by first | exact (if_pos e1).trans ((if_neg e5).trans (if_pos e8)) | (unfold e_kTakeM; rw [if_pos e1, if_neg e5, if_pos e8])), rfl⟩, rfl⟩⟩
    · refine ⟨_, _, _, _, (m_isNumber hF htr hx hV (v := b) (by omega) (by omega)), (by first | exact Nat.le_of_ble_eq_true rfl | omega), (by first | exact Nat.le_of_ble_eq_true rfl | omega), mki_ (r := some (aI (v_isNumber b))) ?_, fun _ _ q => q.elim⟩
      have t9 := v_isNumber_b b
      have t10 := (isNumber_1 (v := b))
      refine ⟨by omega, fun (e11 : (v_isNumber b) = 0) => ?_, fun (e11 : ¬ ((v_isNumber b) = 0)) => ?_⟩
      · exact ⟨rfl, by omega, by omega, ⟨Or.inl ⟨(by first | exact (if_pos e1).trans ((if_neg e5).trans ((if_neg e8).trans (if_pos e11))) | (unfold e_kTakeM; rw [if_pos e1, if_neg e5, if_neg e8, if_pos e11])), rfl⟩, rfl⟩⟩
      · refine ⟨_, _, _, _, (m_isNumber hF htr hx hV (v := c) (by omega) (by omega)), (by first | exact Nat.le_of_ble_eq_true rfl | omega), (by first | exact Nat.le_of_ble_eq_true rfl | omega), mki_ (r := some (aI (v_isNumber c))) ?_, fun _ _ q => q.elim⟩
        have t12 := v_isNumber_b c
        have t13 := (isNumber_1 (v := c))
        refine ⟨by omega, fun (e14 : ¬ ((v_isNumber c) = 0)) => ?_, fun (e14 : (v_isNumber c) = 0) => ?_⟩
        · refine ⟨by omega, fun (e15 : ¬ (u = 8)) => ?_, fun (e15 : u = 8) => ?_⟩
          · refine ⟨⟨_, hk_o5 hx rfl ea0⟩, _, _, _, _, (m_needJoined hF htr hx hV ea0), by omega, by omega, mkit (r := none) (fun e16 => ?_), fun E h1 q => kThr_up q (fun e16 => (by first | exact (if_pos e1).trans ((if_neg e5).trans ((if_neg e8).trans ((if_neg e11).trans ((if_neg e14).trans ((if_neg e15).trans (if_neg e16)))))) | (unfold e_kTakeM; rw [if_pos e1, if_neg e5, if_neg e8, if_neg e11, if_neg e14, if_neg e15, if_neg e16])))⟩
            refine ⟨_, hk_o5 hx rfl ea0, aR (B 0 64), rfl, ?_⟩
            refine ⟨⟨_, hk_o0 hx (show 64 < 65 from by omega) rfl⟩, _, _, _, _, (m_setFields hF htr hx hV (p := 64) (t := u) (a := a) (b := b) (c := c) rfl (by omega) (by omega) (by omega) (by omega) (by omega) (by omega) (by omega) (by omega) (by omega) (by omega)), (by first | exact Nat.le_of_ble_eq_true rfl | omega), (by first | exact Nat.le_of_ble_eq_true rfl | omega), mkis_ (r := none) (fun ⟨hx18, hV17⟩ => ?_), fun _ _ q => q.elim⟩
            have hx18 : kx B bx (u2 (u2 (u2 (u2 κ 3 64 u) 4 64 a) 5 64 b) 6 64 c) := hx18
            have hV17 : kV (u2 (u2 (u2 (u2 κ 3 64 u) 4 64 a) 5 64 b) 6 64 c) := hV17
            refine ⟨_, hk_o5 hx18 rfl ea0, aR (B 0 64), rfl, ?_⟩
            refine ⟨_, hk_o5 hx18 rfl ea0, aR (B 17 0), rfl, ?_⟩
            refine ⟨_, hk_o5 hx18 rfl ea0, aI (κ 505 0), congrArg aI (show (u2 (u2 (u2 (u2 κ 3 64 u) 4 64 a) 5 64 b) 6 64 c) 505 0 = (κ 505 0) from (Eq.trans (u2_f (by decide)) (Eq.trans (u2_f (by decide)) (Eq.trans (u2_f (by decide)) (u2_f (by decide)))))), ?_⟩
            have t19 := (show 0 ≤ κ 505 0 ∧ κ 505 0 ≤ 2048 from hV.g 505 0 rfl)
            refine ⟨⟨_, hk_o0 hx18 (show 64 < 65 from by omega) rfl⟩, _, _, _, _, (m_setData hF htr hx18 hV17 (p := 64) (r := 0) (u := 0) (n := (κ 505 0)) rfl rfl (by omega) (by omega) (by omega) (by omega) (by omega) (by omega) (by omega)), (by first | exact Nat.le_of_ble_eq_true rfl | omega), (by first | exact Nat.le_of_ble_eq_true rfl | omega), mkis_ (r := none) (fun ⟨hx21, hV20⟩ => ?_), fun _ _ q => q.elim⟩
            have hx21 : kx B bx (u2 (u2 (u2 (u2 (u2 (u2 (u2 κ 3 64 u) 4 64 a) 5 64 b) 6 64 c) 7 64 0) 8 64 0) 9 64 (κ 505 0)) := hx21
            have hV20 : kV (u2 (u2 (u2 (u2 (u2 (u2 (u2 κ 3 64 u) 4 64 a) 5 64 b) 6 64 c) 7 64 0) 8 64 0) 9 64 (κ 505 0)) := hV20
            refine ⟨_, hk_o5 hx21 rfl ea0, trivial, _, kp_505 hx21 rfl (v := 0) ea0, ?_⟩
            have hV22 := hV20.u (f := 505) (k := 0) (v := 0) rfl (show 0 ≤ 0 ∧ 0 ≤ 2048 from by omega)
            have hx23 := kx_u (f := 505) (k := 0) (v := 0) rfl hx21
            refine ⟨_, hk_o5 hx23 rfl ea0, aR (B 0 64), rfl, ?_⟩
            have hkt : kTin (u2 (u2 (u2 (u2 (u2 (u2 (u2 (u2 κ 3 64 u) 4 64 a) 5 64 b) 6 64 c) 7 64 0) 8 64 0) 9 64 (κ 505 0)) 505 0 0) s 64 = kTin (kTake κ u a b c) s 64 := rfl
            refine ⟨⟨_, hk_o3 hx23 (show s.toNat < 2 from by omega) rfl⟩, _, _, _, _, (m_takeIn hF htr hx23 hV22 (kaw_u rfl (kaw_u rfl (kaw_u rfl (kaw_r (by decide) (show 0 < (u2 (u2 (u2 (u2 κ 3 64 u) 4 64 a) 5 64 b) 6 64 c) 602 0 from by rw [show (u2 (u2 (u2 (u2 κ 3 64 u) 4 64 a) 5 64 b) 6 64 c) 602 0 = (κ 602 0) from (Eq.trans (u2_f (by decide)) (Eq.trans (u2_f (by decide)) (Eq.trans (u2_f (by decide)) (u2_f (by decide)))))]; omega) (kaw_u rfl (kaw_u rfl (kaw_u rfl (kaw_u rfl (kaw_refl (h0 := h0) (bx := bx) (B := B) hW))))))))).2.1 (s := s) (p := 64) rfl rfl (by omega) (by omega) (by omega) (by omega) (hg8 _ (by omega) (by omega)) (hg9 _ (by omega) (by omega)) (hN _ (by omega) (by omega)) (hT ⟨by omega, by omega, by omega, by omega, by omega, by omega, by omega⟩)), (by first | exact Nat.le_of_ble_eq_true rfl | omega), (by first | exact Nat.le_of_ble_eq_true rfl | omega), mkiw (r := some (aI (v_takeIn (u2 (u2 (u2 (u2 (u2 (u2 (u2 (u2 κ 3 64 u) 4 64 a) 5 64 b) 6 64 c) 7 64 0) 8 64 0) 9 64 (κ 505 0)) 505 0 0) s 64))) (fun B26 bx26 hx25 hV24 hA26 hp27 => ?_), fun _ _ q => q.elim⟩
            have hp27 : 0 ≤ (v_takeIn (u2 (u2 (u2 (u2 (u2 (u2 (u2 (u2 κ 3 64 u) 4 64 a) 5 64 b) 6 64 c) 7 64 0) 8 64 0) 9 64 (κ 505 0)) 505 0 0) s 64) ∧ (v_takeIn (u2 (u2 (u2 (u2 (u2 (u2 (u2 (u2 κ 3 64 u) 4 64 a) 5 64 b) 6 64 c) 7 64 0) 8 64 0) 9 64 (κ 505 0)) 505 0 0) s 64) ≤ 6 := hp27
            exact ⟨⟨(by first | exact (if_pos e1).trans ((if_neg e5).trans ((if_neg e8).trans ((if_neg e11).trans ((if_neg e14).trans ((if_neg e15).trans (if_pos e16)))))) | (unfold e_kTakeM; rw [if_pos e1, if_neg e5, if_neg e8, if_neg e11, if_neg e14, if_neg e15, if_pos e16])), kRetIWP (P := fun v _ => -100 ≤ v ∧ v ≤ 70000) (by first | exact (if_pos e1).trans ((if_neg e5).trans ((if_neg e8).trans ((if_neg e11).trans ((if_neg e14).trans ((if_neg e15).trans (if_pos e16)))))) | (unfold v_kTakeM; rw [if_pos e1, if_neg e5, if_neg e8, if_neg e11, if_neg e14, if_neg e15, if_pos e16])) (by first | exact (if_pos e1).trans ((if_neg e5).trans ((if_neg e8).trans ((if_neg e11).trans ((if_neg e14).trans ((if_neg e15).trans (if_pos e16)))))) | (unfold s_kTakeM; rw [if_pos e1, if_neg e5, if_neg e8, if_neg e11, if_neg e14, if_neg e15, if_pos e16])) hx25 hV24 (kaw_trans (kaw_u rfl (kaw_u rfl (kaw_u rfl (kaw_r (by decide) (show 0 < (u2 (u2 (u2 (u2 κ 3 64 u) 4 64 a) 5 64 b) 6 64 c) 602 0 from by rw [show (u2 (u2 (u2 (u2 κ 3 64 u) 4 64 a) 5 64 b) 6 64 c) 602 0 = (κ 602 0) from (Eq.trans (u2_f (by decide)) (Eq.trans (u2_f (by decide)) (Eq.trans (u2_f (by decide)) (u2_f (by decide)))))]; omega) (kaw_u rfl (kaw_u rfl (kaw_u rfl (kaw_u rfl (kaw_refl (h0 := h0) (bx := bx) (B := B) hW))))))))) hA26) (show -100 ≤ (v_takeIn (u2 (u2 (u2 (u2 (u2 (u2 (u2 (u2 κ 3 64 u) 4 64 a) 5 64 b) 6 64 c) 7 64 0) 8 64 0) 9 64 (κ 505 0)) 505 0 0) s 64) ∧ (v_takeIn (u2 (u2 (u2 (u2 (u2 (u2 (u2 (u2 κ 3 64 u) 4 64 a) 5 64 b) 6 64 c) 7 64 0) 8 64 0) 9 64 (κ 505 0)) 505 0 0) s 64) ≤ 70000 from by omega)⟩, (by first | exact Nat.le_of_ble_eq_true rfl | omega), (by first | exact Nat.le_of_ble_eq_true rfl | omega)⟩
          · refine ⟨4611686018427380000, rfl, ?_⟩
            refine ⟨by omega, fun (e28 : 4611686018427380000 < b) => ?_, fun (e28 : ¬ (4611686018427380000 < b)) => ?_⟩
            · exact ⟨rfl, by omega, by omega, ⟨Or.inl ⟨(by first | exact (if_pos e1).trans ((if_neg e5).trans ((if_neg e8).trans ((if_neg e11).trans ((if_neg e14).trans ((if_pos e15).trans (if_pos e28)))))) | (unfold e_kTakeM; rw [if_pos e1, if_neg e5, if_neg e8, if_neg e11, if_neg e14, if_pos e15, if_pos e28])), rfl⟩, rfl⟩⟩
            · refine ⟨1, rfl, ?_⟩
              refine ⟨by omega, fun (e29 : c ≤ 1) => ?_, fun (e29 : ¬ (c ≤ 1)) => ?_⟩
              · refine ⟨⟨_, hk_o5 hx rfl ea0⟩, _, _, _, _, (m_needJoined hF htr hx hV ea0), by omega, by omega, mkit (r := none) (fun e30 => ?_), fun E h1 q => kThr_up q (fun e30 => (by first | exact (if_pos e1).trans ((if_neg e5).trans ((if_neg e8).trans ((if_neg e11).trans ((if_neg e14).trans ((if_pos e15).trans ((if_neg e28).trans ((if_pos e29).trans (if_neg e30)))))))) | (unfold e_kTakeM; rw [if_pos e1, if_neg e5, if_neg e8, if_neg e11, if_neg e14, if_pos e15, if_neg e28, if_pos e29, if_neg e30])))⟩
                refine ⟨_, hk_o5 hx rfl ea0, aR (B 0 64), rfl, ?_⟩
                refine ⟨⟨_, hk_o0 hx (show 64 < 65 from by omega) rfl⟩, _, _, _, _, (m_setFields hF htr hx hV (p := 64) (t := u) (a := a) (b := b) (c := c) rfl (by omega) (by omega) (by omega) (by omega) (by omega) (by omega) (by omega) (by omega) (by omega) (by omega)), (by first | exact Nat.le_of_ble_eq_true rfl | omega), (by first | exact Nat.le_of_ble_eq_true rfl | omega), mkis_ (r := none) (fun ⟨hx32, hV31⟩ => ?_), fun _ _ q => q.elim⟩
                have hx32 : kx B bx (u2 (u2 (u2 (u2 κ 3 64 u) 4 64 a) 5 64 b) 6 64 c) := hx32
                have hV31 : kV (u2 (u2 (u2 (u2 κ 3 64 u) 4 64 a) 5 64 b) 6 64 c) := hV31
                refine ⟨_, hk_o5 hx32 rfl ea0, aR (B 0 64), rfl, ?_⟩
                refine ⟨_, hk_o5 hx32 rfl ea0, aR (B 17 0), rfl, ?_⟩
                refine ⟨_, hk_o5 hx32 rfl ea0, aI (κ 505 0), congrArg aI (show (u2 (u2 (u2 (u2 κ 3 64 u) 4 64 a) 5 64 b) 6 64 c) 505 0 = (κ 505 0) from (Eq.trans (u2_f (by decide)) (Eq.trans (u2_f (by decide)) (Eq.trans (u2_f (by decide)) (u2_f (by decide)))))), ?_⟩
                have t33 := (show 0 ≤ κ 505 0 ∧ κ 505 0 ≤ 2048 from hV.g 505 0 rfl)
                refine ⟨⟨_, hk_o0 hx32 (show 64 < 65 from by omega) rfl⟩, _, _, _, _, (m_setData hF htr hx32 hV31 (p := 64) (r := 0) (u := 0) (n := (κ 505 0)) rfl rfl (by omega) (by omega) (by omega) (by omega) (by omega) (by omega) (by omega)), (by first | exact Nat.le_of_ble_eq_true rfl | omega), (by first | exact Nat.le_of_ble_eq_true rfl | omega), mkis_ (r := none) (fun ⟨hx35, hV34⟩ => ?_), fun _ _ q => q.elim⟩
                have hx35 : kx B bx (u2 (u2 (u2 (u2 (u2 (u2 (u2 κ 3 64 u) 4 64 a) 5 64 b) 6 64 c) 7 64 0) 8 64 0) 9 64 (κ 505 0)) := hx35
                have hV34 : kV (u2 (u2 (u2 (u2 (u2 (u2 (u2 κ 3 64 u) 4 64 a) 5 64 b) 6 64 c) 7 64 0) 8 64 0) 9 64 (κ 505 0)) := hV34
                refine ⟨_, hk_o5 hx35 rfl ea0, trivial, _, kp_505 hx35 rfl (v := 0) ea0, ?_⟩
                have hV36 := hV34.u (f := 505) (k := 0) (v := 0) rfl (show 0 ≤ 0 ∧ 0 ≤ 2048 from by omega)
                have hx37 := kx_u (f := 505) (k := 0) (v := 0) rfl hx35
                refine ⟨_, hk_o5 hx37 rfl ea0, aR (B 0 64), rfl, ?_⟩
                have hkt : kTin (u2 (u2 (u2 (u2 (u2 (u2 (u2 (u2 κ 3 64 u) 4 64 a) 5 64 b) 6 64 c) 7 64 0) 8 64 0) 9 64 (κ 505 0)) 505 0 0) s 64 = kTin (kTake κ u a b c) s 64 := rfl
                refine ⟨⟨_, hk_o3 hx37 (show s.toNat < 2 from by omega) rfl⟩, _, _, _, _, (m_takeIn hF htr hx37 hV36 (kaw_u rfl (kaw_u rfl (kaw_u rfl (kaw_r (by decide) (show 0 < (u2 (u2 (u2 (u2 κ 3 64 u) 4 64 a) 5 64 b) 6 64 c) 602 0 from by rw [show (u2 (u2 (u2 (u2 κ 3 64 u) 4 64 a) 5 64 b) 6 64 c) 602 0 = (κ 602 0) from (Eq.trans (u2_f (by decide)) (Eq.trans (u2_f (by decide)) (Eq.trans (u2_f (by decide)) (u2_f (by decide)))))]; omega) (kaw_u rfl (kaw_u rfl (kaw_u rfl (kaw_u rfl (kaw_refl (h0 := h0) (bx := bx) (B := B) hW))))))))).2.1 (s := s) (p := 64) rfl rfl (by omega) (by omega) (by omega) (by omega) (hg8 _ (by omega) (by omega)) (hg9 _ (by omega) (by omega)) (hN _ (by omega) (by omega)) (hT ⟨by omega, by omega, by omega, by omega, by omega, by omega, by omega⟩)), (by first | exact Nat.le_of_ble_eq_true rfl | omega), (by first | exact Nat.le_of_ble_eq_true rfl | omega), mkiw (r := some (aI (v_takeIn (u2 (u2 (u2 (u2 (u2 (u2 (u2 (u2 κ 3 64 u) 4 64 a) 5 64 b) 6 64 c) 7 64 0) 8 64 0) 9 64 (κ 505 0)) 505 0 0) s 64))) (fun B40 bx40 hx39 hV38 hA40 hp41 => ?_), fun _ _ q => q.elim⟩
                have hp41 : 0 ≤ (v_takeIn (u2 (u2 (u2 (u2 (u2 (u2 (u2 (u2 κ 3 64 u) 4 64 a) 5 64 b) 6 64 c) 7 64 0) 8 64 0) 9 64 (κ 505 0)) 505 0 0) s 64) ∧ (v_takeIn (u2 (u2 (u2 (u2 (u2 (u2 (u2 (u2 κ 3 64 u) 4 64 a) 5 64 b) 6 64 c) 7 64 0) 8 64 0) 9 64 (κ 505 0)) 505 0 0) s 64) ≤ 6 := hp41
                exact ⟨⟨(by first | exact (if_pos e1).trans ((if_neg e5).trans ((if_neg e8).trans ((if_neg e11).trans ((if_neg e14).trans ((if_pos e15).trans ((if_neg e28).trans ((if_pos e29).trans (if_pos e30)))))))) | (unfold e_kTakeM; rw [if_pos e1, if_neg e5, if_neg e8, if_neg e11, if_neg e14, if_pos e15, if_neg e28, if_pos e29, if_pos e30])), kRetIWP (P := fun v _ => -100 ≤ v ∧ v ≤ 70000) (by first | exact (if_pos e1).trans ((if_neg e5).trans ((if_neg e8).trans ((if_neg e11).trans ((if_neg e14).trans ((if_pos e15).trans ((if_neg e28).trans ((if_pos e29).trans (if_pos e30)))))))) | (unfold v_kTakeM; rw [if_pos e1, if_neg e5, if_neg e8, if_neg e11, if_neg e14, if_pos e15, if_neg e28, if_pos e29, if_pos e30])) (by first | exact (if_pos e1).trans ((if_neg e5).trans ((if_neg e8).trans ((if_neg e11).trans ((if_neg e14).trans ((if_pos e15).trans ((if_neg e28).trans ((if_pos e29).trans (if_pos e30)))))))) | (unfold s_kTakeM; rw [if_pos e1, if_neg e5, if_neg e8, if_neg e11, if_neg e14, if_pos e15, if_neg e28, if_pos e29, if_pos e30])) hx39 hV38 (kaw_trans (kaw_u rfl (kaw_u rfl (kaw_u rfl (kaw_r (by decide) (show 0 < (u2 (u2 (u2 (u2 κ 3 64 u) 4 64 a) 5 64 b) 6 64 c) 602 0 from by rw [show (u2 (u2 (u2 (u2 κ 3 64 u) 4 64 a) 5 64 b) 6 64 c) 602 0 = (κ 602 0) from (Eq.trans (u2_f (by decide)) (Eq.trans (u2_f (by decide)) (Eq.trans (u2_f (by decide)) (u2_f (by decide)))))]; omega) (kaw_u rfl (kaw_u rfl (kaw_u rfl (kaw_u rfl (kaw_refl (h0 := h0) (bx := bx) (B := B) hW))))))))) hA40) (show -100 ≤ (v_takeIn (u2 (u2 (u2 (u2 (u2 (u2 (u2 (u2 κ 3 64 u) 4 64 a) 5 64 b) 6 64 c) 7 64 0) 8 64 0) 9 64 (κ 505 0)) 505 0 0) s 64) ∧ (v_takeIn (u2 (u2 (u2 (u2 (u2 (u2 (u2 (u2 κ 3 64 u) 4 64 a) 5 64 b) 6 64 c) 7 64 0) 8 64 0) 9 64 (κ 505 0)) 505 0 0) s 64) ≤ 70000 from by omega)⟩, (by first | exact Nat.le_of_ble_eq_true rfl | omega), (by first | exact Nat.le_of_ble_eq_true rfl | omega)⟩
              · exact ⟨rfl, by omega, by omega, ⟨Or.inl ⟨(by first | exact (if_pos e1).trans ((if_neg e5).trans ((if_neg e8).trans ((if_neg e11).trans ((if_neg e14).trans ((if_pos e15).trans ((if_neg e28).trans (if_neg e29))))))) | (unfold e_kTakeM; rw [if_pos e1, if_neg e5, if_neg e8, if_neg e11, if_neg e14, if_pos e15, if_neg e28, if_neg e29])), rfl⟩, rfl⟩⟩
        · exact ⟨rfl, by omega, by omega, ⟨Or.inl ⟨(by first | exact (if_pos e1).trans ((if_neg e5).trans ((if_neg e8).trans ((if_neg e11).trans (if_pos e14)))) | (unfold e_kTakeM; rw [if_pos e1, if_neg e5, if_neg e8, if_neg e11, if_pos e14])), rfl⟩, rfl⟩⟩
set_option maxRecDepth 100000 in
theorem s_kTakeM_fr {f kk : Nat} {s u a b c : Int} (hf : (Nat.blt f 1000 && !([3, 4, 5, 6, 7, 8, 9, 100, 101, 102, 103, 104, 105, 106, 107, 108, 109, 110, 111, 112, 113, 190, 200, 201, 202, 203, 204, 205, 206, 207, 208, 209, 210, 211, 290, 306, 310, 312, 313, 314, 315, 360, 401, 404, 405, 505, 600, 601, 602].elem f)) = true) : s_kTakeM κ s u a b c f kk = κ f kk := by
  have n3 : f ≠ 3 := by rintro rfl; exact absurd hf (by decide)
  have n4 : f ≠ 4 := by rintro rfl; exact absurd hf (by decide)
  have n5 : f ≠ 5 := by rintro rfl; exact absurd hf (by decide)
  have n6 : f ≠ 6 := by rintro rfl; exact absurd hf (by decide)
  have n7 : f ≠ 7 := by rintro rfl; exact absurd hf (by decide)
  have n8 : f ≠ 8 := by rintro rfl; exact absurd hf (by decide)
  have n9 : f ≠ 9 := by rintro rfl; exact absurd hf (by decide)
  have n100 : f ≠ 100 := by rintro rfl; exact absurd hf (by decide)
  have n101 : f ≠ 101 := by rintro rfl; exact absurd hf (by decide)
  have n102 : f ≠ 102 := by rintro rfl; exact absurd hf (by decide)
  have n103 : f ≠ 103 := by rintro rfl; exact absurd hf (by decide)
  have n104 : f ≠ 104 := by rintro rfl; exact absurd hf (by decide)
  have n105 : f ≠ 105 := by rintro rfl; exact absurd hf (by decide)
  have n106 : f ≠ 106 := by rintro rfl; exact absurd hf (by decide)
  have n107 : f ≠ 107 := by rintro rfl; exact absurd hf (by decide)
  have n108 : f ≠ 108 := by rintro rfl; exact absurd hf (by decide)
  have n109 : f ≠ 109 := by rintro rfl; exact absurd hf (by decide)
  have n110 : f ≠ 110 := by rintro rfl; exact absurd hf (by decide)
  have n111 : f ≠ 111 := by rintro rfl; exact absurd hf (by decide)
  have n112 : f ≠ 112 := by rintro rfl; exact absurd hf (by decide)
  have n113 : f ≠ 113 := by rintro rfl; exact absurd hf (by decide)
  have n190 : f ≠ 190 := by rintro rfl; exact absurd hf (by decide)
  have n200 : f ≠ 200 := by rintro rfl; exact absurd hf (by decide)
  have n201 : f ≠ 201 := by rintro rfl; exact absurd hf (by decide)
  have n202 : f ≠ 202 := by rintro rfl; exact absurd hf (by decide)
  have n203 : f ≠ 203 := by rintro rfl; exact absurd hf (by decide)
  have n204 : f ≠ 204 := by rintro rfl; exact absurd hf (by decide)
  have n205 : f ≠ 205 := by rintro rfl; exact absurd hf (by decide)
  have n206 : f ≠ 206 := by rintro rfl; exact absurd hf (by decide)
  have n207 : f ≠ 207 := by rintro rfl; exact absurd hf (by decide)
  have n208 : f ≠ 208 := by rintro rfl; exact absurd hf (by decide)
  have n209 : f ≠ 209 := by rintro rfl; exact absurd hf (by decide)
  have n210 : f ≠ 210 := by rintro rfl; exact absurd hf (by decide)
  have n211 : f ≠ 211 := by rintro rfl; exact absurd hf (by decide)
  have n290 : f ≠ 290 := by rintro rfl; exact absurd hf (by decide)
  have n306 : f ≠ 306 := by rintro rfl; exact absurd hf (by decide)
  have n310 : f ≠ 310 := by rintro rfl; exact absurd hf (by decide)
  have n312 : f ≠ 312 := by rintro rfl; exact absurd hf (by decide)
  have n313 : f ≠ 313 := by rintro rfl; exact absurd hf (by decide)
  have n314 : f ≠ 314 := by rintro rfl; exact absurd hf (by decide)
  have n315 : f ≠ 315 := by rintro rfl; exact absurd hf (by decide)
  have n360 : f ≠ 360 := by rintro rfl; exact absurd hf (by decide)
  have n401 : f ≠ 401 := by rintro rfl; exact absurd hf (by decide)
  have n404 : f ≠ 404 := by rintro rfl; exact absurd hf (by decide)
  have n405 : f ≠ 405 := by rintro rfl; exact absurd hf (by decide)
  have n505 : f ≠ 505 := by rintro rfl; exact absurd hf (by decide)
  have n600 : f ≠ 600 := by rintro rfl; exact absurd hf (by decide)
  have n601 : f ≠ 601 := by rintro rfl; exact absurd hf (by decide)
  have n602 : f ≠ 602 := by rintro rfl; exact absurd hf (by decide)
  have lt : f < 1000 := Nat.le_of_ble_eq_true (Bool.and_eq_true_iff.mp hf).1
  have f3 : ∀ (m : Nat → Nat → Int) (a b : Nat) (v : Int), u2 m 3 a v f b = m f b := fun m a b v => u2_f n3
  have f4 : ∀ (m : Nat → Nat → Int) (a b : Nat) (v : Int), u2 m 4 a v f b = m f b := fun m a b v => u2_f n4
  have f5 : ∀ (m : Nat → Nat → Int) (a b : Nat) (v : Int), u2 m 5 a v f b = m f b := fun m a b v => u2_f n5
  have f6 : ∀ (m : Nat → Nat → Int) (a b : Nat) (v : Int), u2 m 6 a v f b = m f b := fun m a b v => u2_f n6
  have f7 : ∀ (m : Nat → Nat → Int) (a b : Nat) (v : Int), u2 m 7 a v f b = m f b := fun m a b v => u2_f n7
  have f8 : ∀ (m : Nat → Nat → Int) (a b : Nat) (v : Int), u2 m 8 a v f b = m f b := fun m a b v => u2_f n8
  have f9 : ∀ (m : Nat → Nat → Int) (a b : Nat) (v : Int), u2 m 9 a v f b = m f b := fun m a b v => u2_f n9
  have f100 : ∀ (m : Nat → Nat → Int) (a b : Nat) (v : Int), u2 m 100 a v f b = m f b := fun m a b v => u2_f n100
  have f101 : ∀ (m : Nat → Nat → Int) (a b : Nat) (v : Int), u2 m 101 a v f b = m f b := fun m a b v => u2_f n101
  have f102 : ∀ (m : Nat → Nat → Int) (a b : Nat) (v : Int), u2 m 102 a v f b = m f b := fun m a b v => u2_f n102
  have f103 : ∀ (m : Nat → Nat → Int) (a b : Nat) (v : Int), u2 m 103 a v f b = m f b := fun m a b v => u2_f n103
  have f104 : ∀ (m : Nat → Nat → Int) (a b : Nat) (v : Int), u2 m 104 a v f b = m f b := fun m a b v => u2_f n104
  have f105 : ∀ (m : Nat → Nat → Int) (a b : Nat) (v : Int), u2 m 105 a v f b = m f b := fun m a b v => u2_f n105
  have f106 : ∀ (m : Nat → Nat → Int) (a b : Nat) (v : Int), u2 m 106 a v f b = m f b := fun m a b v => u2_f n106
  have f107 : ∀ (m : Nat → Nat → Int) (a b : Nat) (v : Int), u2 m 107 a v f b = m f b := fun m a b v => u2_f n107
  have f108 : ∀ (m : Nat → Nat → Int) (a b : Nat) (v : Int), u2 m 108 a v f b = m f b := fun m a b v => u2_f n108
  have f109 : ∀ (m : Nat → Nat → Int) (a b : Nat) (v : Int), u2 m 109 a v f b = m f b := fun m a b v => u2_f n109
  have f110 : ∀ (m : Nat → Nat → Int) (a b : Nat) (v : Int), u2 m 110 a v f b = m f b := fun m a b v => u2_f n110
  have f111 : ∀ (m : Nat → Nat → Int) (a b : Nat) (v : Int), u2 m 111 a v f b = m f b := fun m a b v => u2_f n111
  have f112 : ∀ (m : Nat → Nat → Int) (a b : Nat) (v : Int), u2 m 112 a v f b = m f b := fun m a b v => u2_f n112
  have f113 : ∀ (m : Nat → Nat → Int) (a b : Nat) (v : Int), u2 m 113 a v f b = m f b := fun m a b v => u2_f n113
  have f190 : ∀ (m : Nat → Nat → Int) (a b : Nat) (v : Int), u2 m 190 a v f b = m f b := fun m a b v => u2_f n190
  have f200 : ∀ (m : Nat → Nat → Int) (a b : Nat) (v : Int), u2 m 200 a v f b = m f b := fun m a b v => u2_f n200
  have f201 : ∀ (m : Nat → Nat → Int) (a b : Nat) (v : Int), u2 m 201 a v f b = m f b := fun m a b v => u2_f n201
  have f202 : ∀ (m : Nat → Nat → Int) (a b : Nat) (v : Int), u2 m 202 a v f b = m f b := fun m a b v => u2_f n202
  have f203 : ∀ (m : Nat → Nat → Int) (a b : Nat) (v : Int), u2 m 203 a v f b = m f b := fun m a b v => u2_f n203
  have f204 : ∀ (m : Nat → Nat → Int) (a b : Nat) (v : Int), u2 m 204 a v f b = m f b := fun m a b v => u2_f n204
  have f205 : ∀ (m : Nat → Nat → Int) (a b : Nat) (v : Int), u2 m 205 a v f b = m f b := fun m a b v => u2_f n205
  have f206 : ∀ (m : Nat → Nat → Int) (a b : Nat) (v : Int), u2 m 206 a v f b = m f b := fun m a b v => u2_f n206
  have f207 : ∀ (m : Nat → Nat → Int) (a b : Nat) (v : Int), u2 m 207 a v f b = m f b := fun m a b v => u2_f n207
  have f208 : ∀ (m : Nat → Nat → Int) (a b : Nat) (v : Int), u2 m 208 a v f b = m f b := fun m a b v => u2_f n208
  have f209 : ∀ (m : Nat → Nat → Int) (a b : Nat) (v : Int), u2 m 209 a v f b = m f b := fun m a b v => u2_f n209
  have f210 : ∀ (m : Nat → Nat → Int) (a b : Nat) (v : Int), u2 m 210 a v f b = m f b := fun m a b v => u2_f n210
  have f211 : ∀ (m : Nat → Nat → Int) (a b : Nat) (v : Int), u2 m 211 a v f b = m f b := fun m a b v => u2_f n211
  have f290 : ∀ (m : Nat → Nat → Int) (a b : Nat) (v : Int), u2 m 290 a v f b = m f b := fun m a b v => u2_f n290
  have f306 : ∀ (m : Nat → Nat → Int) (a b : Nat) (v : Int), u2 m 306 a v f b = m f b := fun m a b v => u2_f n306
  have f310 : ∀ (m : Nat → Nat → Int) (a b : Nat) (v : Int), u2 m 310 a v f b = m f b := fun m a b v => u2_f n310
  have f312 : ∀ (m : Nat → Nat → Int) (a b : Nat) (v : Int), u2 m 312 a v f b = m f b := fun m a b v => u2_f n312
  have f313 : ∀ (m : Nat → Nat → Int) (a b : Nat) (v : Int), u2 m 313 a v f b = m f b := fun m a b v => u2_f n313
  have f314 : ∀ (m : Nat → Nat → Int) (a b : Nat) (v : Int), u2 m 314 a v f b = m f b := fun m a b v => u2_f n314
  have f315 : ∀ (m : Nat → Nat → Int) (a b : Nat) (v : Int), u2 m 315 a v f b = m f b := fun m a b v => u2_f n315
  have f360 : ∀ (m : Nat → Nat → Int) (a b : Nat) (v : Int), u2 m 360 a v f b = m f b := fun m a b v => u2_f n360
  have f401 : ∀ (m : Nat → Nat → Int) (a b : Nat) (v : Int), u2 m 401 a v f b = m f b := fun m a b v => u2_f n401
  have f404 : ∀ (m : Nat → Nat → Int) (a b : Nat) (v : Int), u2 m 404 a v f b = m f b := fun m a b v => u2_f n404
  have f405 : ∀ (m : Nat → Nat → Int) (a b : Nat) (v : Int), u2 m 405 a v f b = m f b := fun m a b v => u2_f n405
  have f505 : ∀ (m : Nat → Nat → Int) (a b : Nat) (v : Int), u2 m 505 a v f b = m f b := fun m a b v => u2_f n505
  have f600 : ∀ (m : Nat → Nat → Int) (a b : Nat) (v : Int), u2 m 600 a v f b = m f b := fun m a b v => u2_f n600
  have f601 : ∀ (m : Nat → Nat → Int) (a b : Nat) (v : Int), u2 m 601 a v f b = m f b := fun m a b v => u2_f n601
  have f602 : ∀ (m : Nat → Nat → Int) (a b : Nat) (v : Int), u2 m 602 a v f b = m f b := fun m a b v => u2_f n602
  have fw : ∀ (m : Nat → Nat → Int) (r a b : Nat) (v : Int), u2 m (1000 + r) a v f b = m f b := fun m r a b v => u2_f (by omega)
  have c_takeIn : ∀ (m : Nat → Nat → Int) (z_s z_p : Int) (k : Nat), s_takeIn m z_s z_p f k = m f k := by intros; exact s_takeIn_fr (Bool.and_eq_true_iff.mpr ⟨Nat.ble_eq_true_of_le lt, by simp only [List.elem_cons, List.elem_nil, beq_eq_false_iff_ne.mpr n100, beq_eq_false_iff_ne.mpr n101, beq_eq_false_iff_ne.mpr n102, beq_eq_false_iff_ne.mpr n103, beq_eq_false_iff_ne.mpr n104, beq_eq_false_iff_ne.mpr n105, beq_eq_false_iff_ne.mpr n106, beq_eq_false_iff_ne.mpr n107, beq_eq_false_iff_ne.mpr n108, beq_eq_false_iff_ne.mpr n109, beq_eq_false_iff_ne.mpr n110, beq_eq_false_iff_ne.mpr n111, beq_eq_false_iff_ne.mpr n112, beq_eq_false_iff_ne.mpr n113, beq_eq_false_iff_ne.mpr n190, beq_eq_false_iff_ne.mpr n200, beq_eq_false_iff_ne.mpr n201, beq_eq_false_iff_ne.mpr n202, beq_eq_false_iff_ne.mpr n203, beq_eq_false_iff_ne.mpr n204, beq_eq_false_iff_ne.mpr n205, beq_eq_false_iff_ne.mpr n206, beq_eq_false_iff_ne.mpr n207, beq_eq_false_iff_ne.mpr n208, beq_eq_false_iff_ne.mpr n209, beq_eq_false_iff_ne.mpr n210, beq_eq_false_iff_ne.mpr n211, beq_eq_false_iff_ne.mpr n290, beq_eq_false_iff_ne.mpr n306, beq_eq_false_iff_ne.mpr n310, beq_eq_false_iff_ne.mpr n312, beq_eq_false_iff_ne.mpr n313, beq_eq_false_iff_ne.mpr n314, beq_eq_false_iff_ne.mpr n315, beq_eq_false_iff_ne.mpr n360, beq_eq_false_iff_ne.mpr n401, beq_eq_false_iff_ne.mpr n404, beq_eq_false_iff_ne.mpr n405, beq_eq_false_iff_ne.mpr n600, beq_eq_false_iff_ne.mpr n601, beq_eq_false_iff_ne.mpr n602]; rfl⟩)
  unfold s_kTakeM
  repeat' with_reducible apply f_ite
  all_goals first | rfl | simp only [f3, f4, f5, f6, f7, f8, f9, f100, f101, f102, f103, f104, f105, f106, f107, f108, f109, f110, f111, f112, f113, f190, f200, f201, f202, f203, f204, f205, f206, f207, f208, f209, f210, f211, f290, f306, f310, f312, f313, f314, f315, f360, f401, f404, f405, f505, f600, f601, f602, fw, c_takeIn]
end KQ
