section MR5
variable {L : Launch} {G : mmG} {A : Nat → Nat} {ax : Nat → Option Nat} {h0 : mmH} {μ : Nat → Nat → Int}
def s_join (μ : Nat → Nat → Int) : Nat → Nat → Int := (if (μ 1 0) = 0 then (u2 (u2 (u2 (u2 (u2 (u2 (u2 (u2 μ 0 0 (if (μ 1 0) = 0 then 0 else 1)) 1 0 1) 7 0 (μ 6 20)) 7 1 (μ 6 24)) 7 2 (μ 6 25)) 7 3 (μ 6 4)) 7 4 (μ 6 8)) 7 5 (μ 6 9)) else (u2 μ 0 0 (if (μ 1 0) = 0 then 0 else 1)))
set_option maxRecDepth 100000 in
theorem m_join (hF : mm_F G) (htr : L.stackTraces = false) (hx : mx A ax) (hV : mV μ)  :
    mm_Met L G SX6_join [.ref (A 99)] (hm G A ax h0 μ) 0 0 (mRetS none (hm G A ax h0 (s_join μ)) (mV (s_join μ))) mm_no := by
  refine mi_meth MX6_join 300 hF htr okX6_join (av := [aR (A 99)]) (by decide +kernel) (Nat.le_of_ble_eq_true rfl) cmX6_join (fun θ hc => ?_)
  refine ⟨_, hm_oi hx, aI (μ 1 0), rfl, ?_⟩
  have t1 := (show 0 ≤ μ 1 0 ∧ μ 1 0 ≤ 1 from hV.g 1 0)
  refine ⟨⟨_, hm_oi hx⟩, _, _, _, _, (m_failsV hF htr hx (v := (μ 1 0)) (c := 1) (by omega)), Nat.le_refl _, Nat.le_refl _, mki_ (r := some (aI (μ 1 0))) ?_, fun _ _ q => q.elim⟩
  have hV2 := hV.u (f := 0) (k := 0) (v := (if (μ 1 0) = 0 then 0 else 1)) (show 0 ≤ (if (μ 1 0) = 0 then 0 else 1) ∧ (if (μ 1 0) = 0 then 0 else 1) ≤ 2 from by split <;> omega)
  refine ⟨by omega, fun (e3 : (μ 1 0) = 0) => ?_, fun (e3 : ¬ ((μ 1 0) = 0)) => ?_⟩
  · refine ⟨_, hm_oi hx, (show 1 = 0 ∨ 1 = 1 from by omega), _, hm_putO hx (f := 1) (v := 1) rfl rfl, ?_⟩
    have hV4 := hV2.u (f := 1) (k := 0) (v := 1) (show 0 ≤ 1 ∧ 1 ≤ 1 from by omega)
    refine ⟨by omega, fun (e : (2 : Int) ≤ 0) => absurd e (by decide), fun _ => ?_⟩
    refine ⟨_, hm_oi hx, aR (A 7), rfl, ?_⟩
    refine ⟨_, hm_oi hx, aR (A 6), rfl, ?_⟩
    refine ⟨32, _, (μ 6 20), hm_a hx 6 rfl, by omega, (Eq.trans (u2_f (by decide)) (u2_f (by decide))), ?_⟩
    have t5 := (show 0 ≤ μ 6 20 ∧ μ 6 20 ≤ 65536 from hV.g 6 20)
    refine ⟨by omega, ?_⟩
    refine ⟨6, _, _, hm_a hx 7 rfl, by omega, hm_pl hx (i := 0) (v := (μ 6 20)) rfl rfl rfl, ?_⟩
    have hV6 := hV4.u (f := 7) (k := 0) (v := (μ 6 20)) (show 0 ≤ (μ 6 20) ∧ (μ 6 20) ≤ 4611686018427387903 from by omega)
    refine ⟨by omega, fun (e : (2 : Int) ≤ 0) => absurd e (by decide), fun _ => ?_⟩
    refine ⟨_, hm_oi hx, aR (A 7), rfl, ?_⟩
    refine ⟨_, hm_oi hx, aR (A 6), rfl, ?_⟩
    refine ⟨32, _, (μ 6 24), hm_a hx 6 rfl, by omega, (Eq.trans (u2_f (by decide)) (Eq.trans (u2_f (by decide)) (u2_f (by decide)))), ?_⟩
    have t7 := (show 0 ≤ μ 6 24 ∧ μ 6 24 ≤ 65536 from hV.g 6 24)
    refine ⟨by omega, ?_⟩
    refine ⟨6, _, _, hm_a hx 7 rfl, by omega, hm_pl hx (i := 1) (v := (μ 6 24)) rfl rfl rfl, ?_⟩
    have hV8 := hV6.u (f := 7) (k := 1) (v := (μ 6 24)) (show 0 ≤ (μ 6 24) ∧ (μ 6 24) ≤ 4611686018427387903 from by omega)
    refine ⟨by omega, fun (e : (2 : Int) ≤ (0 + 1)) => absurd e (by decide), fun _ => ?_⟩
    refine ⟨_, hm_oi hx, aR (A 7), rfl, ?_⟩
    refine ⟨_, hm_oi hx, aR (A 6), rfl, ?_⟩
    refine ⟨32, _, (μ 6 25), hm_a hx 6 rfl, by omega, (Eq.trans (u2_f (by decide)) (Eq.trans (u2_f (by decide)) (Eq.trans (u2_f (by decide)) (u2_f (by decide))))), ?_⟩
    have t9 := (show 0 ≤ μ 6 25 ∧ μ 6 25 ≤ 65536 from hV.g 6 25)
    refine ⟨by omega, ?_⟩
    refine ⟨6, _, _, hm_a hx 7 rfl, by omega, hm_pl hx (i := 2) (v := (μ 6 25)) rfl rfl rfl, ?_⟩
    have hV10 := hV8.u (f := 7) (k := 2) (v := (μ 6 25)) (show 0 ≤ (μ 6 25) ∧ (μ 6 25) ≤ 4611686018427387903 from by omega)
    refine ⟨by omega, fun _ => ?_, fun (e : ¬ ((2 : Int) ≤ ((0 + 1) + 1))) => (e (by decide)).elim⟩
    refine ⟨by omega, fun (e : (2 : Int) ≤ (0 + 1)) => absurd e (by decide), fun _ => ?_⟩
    refine ⟨_, hm_oi hx, aR (A 7), rfl, ?_⟩
    refine ⟨_, hm_oi hx, aR (A 6), rfl, ?_⟩
    refine ⟨32, _, (μ 6 4), hm_a hx 6 rfl, by omega, (Eq.trans (u2_f (by decide)) (Eq.trans (u2_f (by decide)) (Eq.trans (u2_f (by decide)) (Eq.trans (u2_f (by decide)) (u2_f (by decide)))))), ?_⟩
    have t11 := (show 0 ≤ μ 6 4 ∧ μ 6 4 ≤ 65536 from hV.g 6 4)
    refine ⟨by omega, ?_⟩
    refine ⟨6, _, _, hm_a hx 7 rfl, by omega, hm_pl hx (i := 3) (v := (μ 6 4)) rfl rfl rfl, ?_⟩
    have hV12 := hV10.u (f := 7) (k := 3) (v := (μ 6 4)) (show 0 ≤ (μ 6 4) ∧ (μ 6 4) ≤ 4611686018427387903 from by omega)
    refine ⟨by omega, fun (e : (2 : Int) ≤ 0) => absurd e (by decide), fun _ => ?_⟩
    refine ⟨_, hm_oi hx, aR (A 7), rfl, ?_⟩
    refine ⟨_, hm_oi hx, aR (A 6), rfl, ?_⟩
    refine ⟨32, _, (μ 6 8), hm_a hx 6 rfl, by omega, (Eq.trans (u2_f (by decide)) (Eq.trans (u2_f (by decide)) (Eq.trans (u2_f (by decide)) (Eq.trans (u2_f (by decide)) (Eq.trans (u2_f (by decide)) (u2_f (by decide))))))), ?_⟩
    have t13 := (show 0 ≤ μ 6 8 ∧ μ 6 8 ≤ 65536 from hV.g 6 8)
    refine ⟨by omega, ?_⟩
    refine ⟨6, _, _, hm_a hx 7 rfl, by omega, hm_pl hx (i := 4) (v := (μ 6 8)) rfl rfl rfl, ?_⟩
    have hV14 := hV12.u (f := 7) (k := 4) (v := (μ 6 8)) (show 0 ≤ (μ 6 8) ∧ (μ 6 8) ≤ 4611686018427387903 from by omega)
    refine ⟨by omega, fun (e : (2 : Int) ≤ (0 + 1)) => absurd e (by decide), fun _ => ?_⟩
    refine ⟨_, hm_oi hx, aR (A 7), rfl, ?_⟩
    refine ⟨_, hm_oi hx, aR (A 6), rfl, ?_⟩
    refine ⟨32, _, (μ 6 9), hm_a hx 6 rfl, by omega, (Eq.trans (u2_f (by decide)) (Eq.trans (u2_f (by decide)) (Eq.trans (u2_f (by decide)) (Eq.trans (u2_f (by decide)) (Eq.trans (u2_f (by decide)) (Eq.trans (u2_f (by decide)) (u2_f (by decide)))))))), ?_⟩
    have t15 := (show 0 ≤ μ 6 9 ∧ μ 6 9 ≤ 65536 from hV.g 6 9)
    refine ⟨by omega, ?_⟩
    refine ⟨6, _, _, hm_a hx 7 rfl, by omega, hm_pl hx (i := 5) (v := (μ 6 9)) rfl rfl rfl, ?_⟩
    have hV16 := hV14.u (f := 7) (k := 5) (v := (μ 6 9)) (show 0 ≤ (μ 6 9) ∧ (μ 6 9) ≤ 4611686018427387903 from by omega)
    refine ⟨by omega, fun _ => ?_, fun (e : ¬ ((2 : Int) ≤ ((0 + 1) + 1))) => (e (by decide)).elim⟩
    refine ⟨by omega, fun _ => ?_, fun (e : ¬ ((2 : Int) ≤ ((0 + 1) + 1))) => (e (by decide)).elim⟩
    exact ⟨mRetVS (by unfold s_join; rw [if_pos e3]) hV16, Nat.le_refl _, Nat.le_refl _⟩
  · exact ⟨mRetVS (by unfold s_join; rw [if_neg e3]) hV2, Nat.le_refl _, Nat.le_refl _⟩
set_option maxRecDepth 100000 in
theorem s_join_fr {f kk : Nat} (hf : [0, 1, 7].elem f = false) : s_join μ f kk = μ f kk := by
  have n0 : f ≠ 0 := by rintro rfl; exact absurd hf (by decide)
  have n1 : f ≠ 1 := by rintro rfl; exact absurd hf (by decide)
  have n7 : f ≠ 7 := by rintro rfl; exact absurd hf (by decide)
  have f0 : ∀ (m : Nat → Nat → Int) (a b : Nat) (v : Int), u2 m 0 a v f b = m f b := fun m a b v => u2_f n0
  have f1 : ∀ (m : Nat → Nat → Int) (a b : Nat) (v : Int), u2 m 1 a v f b = m f b := fun m a b v => u2_f n1
  have f7 : ∀ (m : Nat → Nat → Int) (a b : Nat) (v : Int), u2 m 7 a v f b = m f b := fun m a b v => u2_f n7
  unfold s_join
  repeat' with_reducible apply f_ite
  all_goals first | rfl | simp only [f0, f1, f7]
def v_feed_30 (μ : Nat → Nat → Int) (n v : Int) : Nat → Int → (Nat → Nat → Int) → Int
  | 0, _, _ => 0
  | d + 1, k, ν => (if n ≤ k then ((ν 3 0) + n) else (v_feed_30 μ n v d (k + 1) (u2 ν 2 ((ν 3 0) + k).toNat ((v / 2 ^ (8 * k).toNat) % 256))))
def s_feed_30 (μ : Nat → Nat → Int) (n v : Int) : Nat → Int → (Nat → Nat → Int) → (Nat → Nat → Int)
  | 0, _, ν => ν
  | d + 1, k, ν => (if n ≤ k then (u2 ν 3 0 ((ν 3 0) + n)) else (s_feed_30 μ n v d (k + 1) (u2 ν 2 ((ν 3 0) + k).toNat ((v / 2 ^ (8 * k).toNat) % 256))))
def v_feed (μ : Nat → Nat → Int) (n v : Int) : Int := (if n < 1 then 0 else (if n ≤ 8 then (if ((μ 3 0) + n) ≤ 2048 then (v_feed_30 μ n v 9 0 (u2 (u2 μ 0 0 0) 0 0 0)) else 0) else 0))
def s_feed (μ : Nat → Nat → Int) (n v : Int) : Nat → Nat → Int := (if n < 1 then (u2 μ 0 0 1) else (if n ≤ 8 then (if ((μ 3 0) + n) ≤ 2048 then (s_feed_30 μ n v 9 0 (u2 (u2 μ 0 0 0) 0 0 0)) else (u2 (u2 μ 0 0 0) 0 0 2)) else (u2 μ 0 0 1)))
set_option maxRecDepth 100000 in
theorem m_feed (hF : mm_F G) (htr : L.stackTraces = false) (hx : mx A ax) (hV : mV μ) {n v : Int} (h1 : -2147483648 ≤ n) (h1a : n < 2147483648) (h2 : -9223372036854775808 ≤ v) (h2a : v < 9223372036854775808) :
    mm_Met L G SX6_feed [.ref (A 99), .int (iI n), .long (iL v)] (hm G A ax h0 μ) 0 0 (mRetS (some (.int (iI (v_feed μ n v)))) (hm G A ax h0 (s_feed μ n v)) (mV (s_feed μ n v))) mm_no := by
  refine mi_meth MX6_feed 400 hF htr okX6_feed (av := [aR (A 99), aI n, aL v]) (by decide +kernel) (Nat.le_of_ble_eq_true rfl) cmX6_feed (fun θ hc => ?_)
  have loop30 : ∀ (R : Int) (S : Nat → Nat → Int) (d : Nat) (k : Int) (ν : Nat → Nat → Int) (hV : mV ν), (0 ≤ k) → (k ≤ n) → (1 ≤ n ∧ n ≤ 8) → (ν 3 0 + n ≤ 2048) → (n - k) < (d : Int) → v_feed_30 μ n v d k ν = R → s_feed_30 μ n v d k ν = S → mi_W L G MX6_feed 0 0 (mRetS (some (.int (iI R))) (hm G A ax h0 S) (mV S)) mm_no θ 30 [(4, aI k), (0, aR (A 99)), (1, aI n), (2, aL v)] [] (hm G A ax h0 ν) 0 0 := by
    intro R S d
    induction d with
    | zero =>
      intro k ν hV hi1 hi2 hi3 hi4 hms hvr hsr
      omega
    | succ d ih =>
      intro k ν hV hi1 hi2 hi3 hi4 hms hvr hsr
      refine mi_sound hc okX6_feed 400 _ _ _ _ _ _ ?_
      refine ⟨by omega, fun (e1 : n ≤ k) => ?_, fun (e1 : ¬ (n ≤ k)) => ?_⟩
      · refine ⟨_, hm_oi hx, aI (ν 3 0), rfl, ?_⟩
        have t2 := (show 0 ≤ ν 3 0 ∧ ν 3 0 ≤ 2048 from hV.g 3 0)
        refine ⟨_, hm_oi hx, trivial, _, hm_putO hx (f := 3) (v := ((ν 3 0) + n)) rfl rfl, ?_⟩
        have hV3 := hV.u (f := 3) (k := 0) (v := ((ν 3 0) + n)) (show 0 ≤ ((ν 3 0) + n) ∧ ((ν 3 0) + n) ≤ 2048 from by omega)
        refine ⟨_, hm_oi hx, aI ((ν 3 0) + n), rfl, ?_⟩
        exact ⟨mRetIS (hvr.symm.trans (by rw [v_feed_30]; rw [if_pos e1])) (hsr.symm.trans (by rw [s_feed_30]; rw [if_pos e1])) hV3, Nat.le_refl _, Nat.le_refl _⟩
      · refine ⟨_, hm_oi hx, aR (A 2), rfl, ?_⟩
        refine ⟨_, hm_oi hx, aI (ν 3 0), rfl, ?_⟩
        have t4 := (show 0 ≤ ν 3 0 ∧ ν 3 0 ≤ 2048 from hV.g 3 0)
        refine ⟨(v / 2 ^ (8 * k).toNat), iL_shr (by omega) (by omega) (by omega) (by omega), ?_⟩
        refine ⟨255, rfl, ?_⟩
        refine ⟨((v / 2 ^ (8 * k).toNat) % 256), iL_and255 _, ?_⟩
        refine ⟨2048, _, _, hm_a hx 2 rfl, by omega, trivial, hm_pi hx (i := ((ν 3 0) + k).toNat) (v := ((v / 2 ^ (8 * k).toNat) % 256)) rfl rfl rfl rfl, ?_⟩
        have hV5 := hV.u (f := 2) (k := ((ν 3 0) + k).toNat) (v := ((v / 2 ^ (8 * k).toNat) % 256)) (show 0 ≤ ((v / 2 ^ (8 * k).toNat) % 256) ∧ ((v / 2 ^ (8 * k).toNat) % 256) ≤ 255 from by omega)
        exact mi_Wsub (List.forall_mem_cons.mpr ⟨(.head _), List.forall_mem_cons.mpr ⟨(.tail _ (.head _)), List.forall_mem_cons.mpr ⟨(.tail _ (.tail _ (.head _))), List.forall_mem_cons.mpr ⟨(.tail _ (.tail _ (.tail _ (.head _)))), fun _ h => absurd h List.not_mem_nil⟩⟩⟩⟩) (ih (k + 1) (u2 ν 2 ((ν 3 0) + k).toNat ((v / 2 ^ (8 * k).toNat) % 256)) hV5 (show 0 ≤ (k + 1) from by omega) (show (k + 1) ≤ n from by omega) (show 1 ≤ n ∧ n ≤ 8 from by omega) (show (ν 3 0) + n ≤ 2048 from by omega) (show (n - (k + 1)) < (d : Int) from by omega) (Eq.trans (by rw [v_feed_30]; rw [if_neg e1]) hvr) (Eq.trans (by rw [s_feed_30]; rw [if_neg e1]) hsr))
  refine ⟨by omega, fun (e6 : n < 1) => ?_, fun (e6 : ¬ (n < 1)) => ?_⟩
  · refine ⟨⟨_, hm_oi hx⟩, _, _, _, _, (m_fails1 hF htr hx (c := 1)), Nat.le_refl _, Nat.le_refl _, mki_ (r := some (aI 1)) ?_, fun _ _ q => q.elim⟩
    have hV7 := hV.u (f := 0) (k := 0) (v := 1) (show 0 ≤ 1 ∧ 1 ≤ 2 from by omega)
    refine ⟨by omega, fun _ => ?_, fun (e : (1 : Int) = 0) => absurd e (by decide)⟩
    exact ⟨mRetIS (by unfold v_feed; rw [if_pos e6]) (by unfold s_feed; rw [if_pos e6]) hV7, Nat.le_refl _, Nat.le_refl _⟩
  · refine ⟨by omega, fun (e8 : n ≤ 8) => ?_, fun (e8 : ¬ (n ≤ 8)) => ?_⟩
    · refine ⟨⟨_, hm_oi hx⟩, _, _, _, _, (m_fails0 hF htr hx (c := 1)), Nat.le_refl _, Nat.le_refl _, mki_ (r := some (aI 0)) ?_, fun _ _ q => q.elim⟩
      have hV9 := hV.u (f := 0) (k := 0) (v := 0) (show 0 ≤ 0 ∧ 0 ≤ 2 from by omega)
      refine ⟨by omega, fun (e : ¬ ((0 : Int) = 0)) => (e (by decide)).elim, fun _ => ?_⟩
      refine ⟨_, hm_oi hx, aI (μ 3 0), rfl, ?_⟩
      have t10 := (show 0 ≤ μ 3 0 ∧ μ 3 0 ≤ 2048 from hV.g 3 0)
      refine ⟨by omega, fun (e11 : ((μ 3 0) + n) ≤ 2048) => ?_, fun (e11 : ¬ (((μ 3 0) + n) ≤ 2048)) => ?_⟩
      · refine ⟨⟨_, hm_oi hx⟩, _, _, _, _, (m_fails0 hF htr hx (c := 2)), Nat.le_refl _, Nat.le_refl _, mki_ (r := some (aI 0)) ?_, fun _ _ q => q.elim⟩
        have hV12 := hV9.u (f := 0) (k := 0) (v := 0) (show 0 ≤ 0 ∧ 0 ≤ 2 from by omega)
        refine ⟨by omega, fun _ => ?_, fun (e : ¬ ((0 : Int) = 0)) => (e (by decide)).elim⟩
        exact mi_Wsub (List.forall_mem_cons.mpr ⟨(.head _), List.forall_mem_cons.mpr ⟨(.tail _ (.head _)), List.forall_mem_cons.mpr ⟨(.tail _ (.tail _ (.head _))), List.forall_mem_cons.mpr ⟨(.tail _ (.tail _ (.tail _ (.head _)))), fun _ h => absurd h List.not_mem_nil⟩⟩⟩⟩) (loop30 _ _ 9 0 (u2 (u2 μ 0 0 0) 0 0 0) hV12 (show 0 ≤ 0 from by omega) (show 0 ≤ n from by omega) (show 1 ≤ n ∧ n ≤ 8 from by omega) (show (μ 3 0) + n ≤ 2048 from by omega) (show (n - 0) < (9 : Int) from by omega) (by unfold v_feed; rw [if_neg e6, if_pos e8, if_pos e11]) (by unfold s_feed; rw [if_neg e6, if_pos e8, if_pos e11]))
      · refine ⟨⟨_, hm_oi hx⟩, _, _, _, _, (m_fails1 hF htr hx (c := 2)), Nat.le_refl _, Nat.le_refl _, mki_ (r := some (aI 1)) ?_, fun _ _ q => q.elim⟩
        have hV13 := hV9.u (f := 0) (k := 0) (v := 2) (show 0 ≤ 2 ∧ 2 ≤ 2 from by omega)
        refine ⟨by omega, fun (e : (1 : Int) = 0) => absurd e (by decide), fun _ => ?_⟩
        exact ⟨mRetIS (by unfold v_feed; rw [if_neg e6, if_pos e8, if_neg e11]) (by unfold s_feed; rw [if_neg e6, if_pos e8, if_neg e11]) hV13, Nat.le_refl _, Nat.le_refl _⟩
    · refine ⟨⟨_, hm_oi hx⟩, _, _, _, _, (m_fails1 hF htr hx (c := 1)), Nat.le_refl _, Nat.le_refl _, mki_ (r := some (aI 1)) ?_, fun _ _ q => q.elim⟩
      have hV14 := hV.u (f := 0) (k := 0) (v := 1) (show 0 ≤ 1 ∧ 1 ≤ 2 from by omega)
      refine ⟨by omega, fun _ => ?_, fun (e : (1 : Int) = 0) => absurd e (by decide)⟩
      exact ⟨mRetIS (by unfold v_feed; rw [if_neg e6, if_neg e8]) (by unfold s_feed; rw [if_neg e6, if_neg e8]) hV14, Nat.le_refl _, Nat.le_refl _⟩
set_option maxRecDepth 100000 in
theorem s_feed_30_fr {f kk : Nat} {n v : Int} (hf : [0, 2, 3].elem f = false) : ∀ (d : Nat) (k : Int) (ν : Nat → Nat → Int), s_feed_30 μ n v d k ν f kk = ν f kk := by
  have n0 : f ≠ 0 := by rintro rfl; exact absurd hf (by decide)
  have n2 : f ≠ 2 := by rintro rfl; exact absurd hf (by decide)
  have n3 : f ≠ 3 := by rintro rfl; exact absurd hf (by decide)
  have f0 : ∀ (m : Nat → Nat → Int) (a b : Nat) (v : Int), u2 m 0 a v f b = m f b := fun m a b v => u2_f n0
  have f2 : ∀ (m : Nat → Nat → Int) (a b : Nat) (v : Int), u2 m 2 a v f b = m f b := fun m a b v => u2_f n2
  have f3 : ∀ (m : Nat → Nat → Int) (a b : Nat) (v : Int), u2 m 3 a v f b = m f b := fun m a b v => u2_f n3
  intro d
  induction d with
  | zero => intros; rfl
  | succ d ih =>
    intro k ν
    rw [s_feed_30]
    repeat' with_reducible apply f_ite
    all_goals first | rfl | simp only [f0, f2, f3, ih]
set_option maxRecDepth 100000 in
theorem s_feed_fr {f kk : Nat} {n v : Int} (hf : [0, 2, 3].elem f = false) : s_feed μ n v f kk = μ f kk := by
  have n0 : f ≠ 0 := by rintro rfl; exact absurd hf (by decide)
  have n2 : f ≠ 2 := by rintro rfl; exact absurd hf (by decide)
  have n3 : f ≠ 3 := by rintro rfl; exact absurd hf (by decide)
  have f0 : ∀ (m : Nat → Nat → Int) (a b : Nat) (v : Int), u2 m 0 a v f b = m f b := fun m a b v => u2_f n0
  have f2 : ∀ (m : Nat → Nat → Int) (a b : Nat) (v : Int), u2 m 2 a v f b = m f b := fun m a b v => u2_f n2
  have f3 : ∀ (m : Nat → Nat → Int) (a b : Nat) (v : Int), u2 m 3 a v f b = m f b := fun m a b v => u2_f n3
  unfold s_feed
  repeat' with_reducible apply f_ite
  all_goals first | rfl | simp only [f0, f2, f3, s_feed_30_fr hf]
def v_write_28 (μ : Nat → Nat → Int) (s i : Int) : Nat → Int → Int → (Nat → Nat → Int) → Int
  | 0, _, _, _ => 0
  | d + 1, k, n, ν => (if n ≤ k then k else (if 65536 ≤ (ν 36 s.toNat) then k else (v_write_28 μ s i d (k + 1) n (u2 (u2 (u2 (u2 ν 37 ((65536 * s) + (ν 36 s.toNat)).toNat i) 38 ((65536 * s) + (ν 36 s.toNat)).toNat (wB (ν 2 k.toNat))) 39 ((65536 * s) + (ν 36 s.toNat)).toNat 0) 36 s.toNat ((ν 36 s.toNat) + 1)))))
def s_write_28 (μ : Nat → Nat → Int) (s i : Int) : Nat → Int → Int → (Nat → Nat → Int) → (Nat → Nat → Int)
  | 0, _, _, ν => ν
  | d + 1, k, n, ν => (if n ≤ k then ν else (if 65536 ≤ (ν 36 s.toNat) then ν else (s_write_28 μ s i d (k + 1) n (u2 (u2 (u2 (u2 ν 37 ((65536 * s) + (ν 36 s.toNat)).toNat i) 38 ((65536 * s) + (ν 36 s.toNat)).toNat (wB (ν 2 k.toNat))) 39 ((65536 * s) + (ν 36 s.toNat)).toNat 0) 36 s.toNat ((ν 36 s.toNat) + 1)))))
def v_write (μ : Nat → Nat → Int) (s i : Int) : Int := (if s < 0 ∨ 1 < s then 0 else (if (0 ≤ i ∧ i < 256 ∧ (u2 (u2 μ 0 0 (if (b2 (s < 0 ∨ 1 < s)) = 0 then 0 else 1)) 3 0 0) 17 (mj s i) = 1) ∧ (i / 2 % 2 = 0 ∨ i % 2 = s) then (if (mSend μ s i) = 0 then (v_write_28 μ s i 2049 0 (μ 3 0) (u2 (u2 μ 0 0 (if (b2 (s < 0 ∨ 1 < s)) = 0 then 0 else 1)) 3 0 0)) else -1) else -1))
def s_write (μ : Nat → Nat → Int) (s i : Int) : Nat → Nat → Int := (if s < 0 ∨ 1 < s then (u2 μ 0 0 (if (b2 (s < 0 ∨ 1 < s)) = 0 then 0 else 1)) else (if (0 ≤ i ∧ i < 256 ∧ (u2 (u2 μ 0 0 (if (b2 (s < 0 ∨ 1 < s)) = 0 then 0 else 1)) 3 0 0) 17 (mj s i) = 1) ∧ (i / 2 % 2 = 0 ∨ i % 2 = s) then (if (mSend μ s i) = 0 then (s_write_28 μ s i 2049 0 (μ 3 0) (u2 (u2 μ 0 0 (if (b2 (s < 0 ∨ 1 < s)) = 0 then 0 else 1)) 3 0 0)) else (u2 (u2 μ 0 0 (if (b2 (s < 0 ∨ 1 < s)) = 0 then 0 else 1)) 3 0 0)) else (u2 (u2 μ 0 0 (if (b2 (s < 0 ∨ 1 < s)) = 0 then 0 else 1)) 3 0 0)))
set_option maxRecDepth 100000 in
theorem m_write (hF : mm_F G) (htr : L.stackTraces = false) (hx : mx A ax) (hV : mV μ) {s i : Int} (h1 : -2147483648 ≤ s) (h2 : s < 2147483648) (h3 : -2147483648 ≤ i) (h4 : i < 2147483648) :
    mm_Met L G SX6_write [.ref (A 99), .int (iI s), .int (iI i)] (hm G A ax h0 μ) 0 0 (mRetS (some (.int (iI (v_write μ s i)))) (hm G A ax h0 (s_write μ s i)) (mV (s_write μ s i))) mm_no := by
  refine mi_meth MX6_write 400 hF htr okX6_write (av := [aR (A 99), aI s, aI i]) (by decide +kernel) (Nat.le_of_ble_eq_true rfl) cmX6_write (fun θ hc => ?_)
  have loop28 : ∀ (R : Int) (S : Nat → Nat → Int) (d : Nat) (k n : Int) (ν : Nat → Nat → Int) (hV : mV ν), (0 ≤ s ∧ s ≤ 1) → (0 ≤ i ∧ i < 256) → (0 ≤ k) → (k ≤ n) → (0 ≤ n ∧ n ≤ 2048) → (n - k) < (d : Int) → v_write_28 μ s i d k n ν = R → s_write_28 μ s i d k n ν = S → mi_W L G MX6_write 0 0 (mRetS (some (.int (iI R))) (hm G A ax h0 S) (mV S)) mm_no θ 28 [(4, aI k), (3, aI n), (0, aR (A 99)), (1, aI s), (2, aI i)] [] (hm G A ax h0 ν) 0 0 := by
    intro R S d
    induction d with
    | zero =>
      intro k n ν hV hi0 hj hi1 hi2 hi3 hms hvr hsr
      omega
    | succ d ih =>
      intro k n ν hV hi0 hj hi1 hi2 hi3 hms hvr hsr
      refine mi_sound hc okX6_write 400 _ _ _ _ _ _ ?_
      refine ⟨by omega, fun (e1 : n ≤ k) => ?_, fun (e1 : ¬ (n ≤ k)) => ?_⟩
      · exact ⟨mRetIS (hvr.symm.trans (by rw [v_write_28]; rw [if_pos e1])) (hsr.symm.trans (by rw [s_write_28]; rw [if_pos e1])) hV, Nat.le_refl _, Nat.le_refl _⟩
      · refine ⟨_, hm_oi hx, aR (A 36), rfl, ?_⟩
        refine ⟨2, _, (ν 36 s.toNat), hm_a hx 36 rfl, by omega, rfl, ?_⟩
        have t2 := (show 0 ≤ ν 36 s.toNat ∧ ν 36 s.toNat ≤ 65536 from hV.g 36 s.toNat)
        refine ⟨65536, rfl, ?_⟩
        refine ⟨by omega, fun (e3 : 65536 ≤ (ν 36 s.toNat)) => ?_, fun (e3 : ¬ (65536 ≤ (ν 36 s.toNat))) => ?_⟩
        · exact ⟨mRetIS (hvr.symm.trans (by rw [v_write_28]; rw [if_neg e1, if_pos e3])) (hsr.symm.trans (by rw [s_write_28]; rw [if_neg e1, if_pos e3])) hV, Nat.le_refl _, Nat.le_refl _⟩
        · refine ⟨65536, rfl, ?_⟩
          refine ⟨_, hm_oi hx, aR (A 36), rfl, ?_⟩
          refine ⟨2, _, (ν 36 s.toNat), hm_a hx 36 rfl, by omega, rfl, ?_⟩
          refine ⟨_, hm_oi hx, aR (A 37), rfl, ?_⟩
          refine ⟨i, i2s_c (by omega) (by omega), ?_⟩
          refine ⟨131072, _, _, hm_a hx 37 rfl, by omega, (show -32768 ≤ i ∧ i < 32768 from by omega), hm_pi hx (i := ((65536 * s) + (ν 36 s.toNat)).toNat) (v := i) rfl rfl rfl rfl, ?_⟩
          have hV4 := hV.u (f := 37) (k := ((65536 * s) + (ν 36 s.toNat)).toNat) (v := i) (show 0 ≤ i ∧ i ≤ 255 from by omega)
          refine ⟨_, hm_oi hx, aR (A 38), rfl, ?_⟩
          refine ⟨_, hm_oi hx, aR (A 2), rfl, ?_⟩
          refine ⟨2048, _, (ν 2 k.toNat), hm_a hx 2 rfl, by omega, (u2_f (by decide)), ?_⟩
          have t5 := (show 0 ≤ ν 2 k.toNat ∧ ν 2 k.toNat ≤ 255 from hV.g 2 k.toNat)
          have t6 := wB_b (ν 2 k.toNat)
          refine ⟨(wB (ν 2 k.toNat)), i2b_c _, ?_⟩
          refine ⟨131072, _, _, hm_a hx 38 rfl, by omega, (show -128 ≤ (wB (ν 2 k.toNat)) ∧ (wB (ν 2 k.toNat)) < 128 from by omega), hm_pi hx (i := ((65536 * s) + (ν 36 s.toNat)).toNat) (v := (wB (ν 2 k.toNat))) rfl rfl rfl rfl, ?_⟩
          have hV7 := hV4.u (f := 38) (k := ((65536 * s) + (ν 36 s.toNat)).toNat) (v := (wB (ν 2 k.toNat))) (show -128 ≤ (wB (ν 2 k.toNat)) ∧ (wB (ν 2 k.toNat)) ≤ 127 from by omega)
          refine ⟨_, hm_oi hx, aR (A 39), rfl, ?_⟩
          refine ⟨131072, _, _, hm_a hx 39 rfl, by omega, (show -128 ≤ 0 ∧ 0 < 128 from by omega), hm_pi hx (i := ((65536 * s) + (ν 36 s.toNat)).toNat) (v := 0) rfl rfl rfl rfl, ?_⟩
          have hV8 := hV7.u (f := 39) (k := ((65536 * s) + (ν 36 s.toNat)).toNat) (v := 0) (show 0 ≤ 0 ∧ 0 ≤ 3 from by omega)
          refine ⟨_, hm_oi hx, aR (A 36), rfl, ?_⟩
          refine ⟨2, _, (ν 36 s.toNat), hm_a hx 36 rfl, by omega, (Eq.trans (u2_f (by decide)) (Eq.trans (u2_f (by decide)) (u2_f (by decide)))), ?_⟩
          refine ⟨2, _, _, hm_a hx 36 rfl, by omega, trivial, hm_pi hx (i := s.toNat) (v := ((ν 36 s.toNat) + 1)) rfl rfl rfl rfl, ?_⟩
          have hV9 := hV8.u (f := 36) (k := s.toNat) (v := ((ν 36 s.toNat) + 1)) (show 0 ≤ ((ν 36 s.toNat) + 1) ∧ ((ν 36 s.toNat) + 1) ≤ 65536 from by omega)
          exact mi_Wsub (List.forall_mem_cons.mpr ⟨(.head _), List.forall_mem_cons.mpr ⟨(.tail _ (.tail _ (.head _))), List.forall_mem_cons.mpr ⟨(.tail _ (.tail _ (.tail _ (.head _)))), List.forall_mem_cons.mpr ⟨(.tail _ (.tail _ (.tail _ (.tail _ (.head _))))), List.forall_mem_cons.mpr ⟨(.tail _ (.tail _ (.tail _ (.tail _ (.tail _ (.head _)))))), fun _ h => absurd h List.not_mem_nil⟩⟩⟩⟩⟩) (ih (k + 1) n (u2 (u2 (u2 (u2 ν 37 ((65536 * s) + (ν 36 s.toNat)).toNat i) 38 ((65536 * s) + (ν 36 s.toNat)).toNat (wB (ν 2 k.toNat))) 39 ((65536 * s) + (ν 36 s.toNat)).toNat 0) 36 s.toNat ((ν 36 s.toNat) + 1)) hV9 (show 0 ≤ s ∧ s ≤ 1 from by omega) (show 0 ≤ i ∧ i < 256 from by omega) (show 0 ≤ (k + 1) from by omega) (show (k + 1) ≤ n from by omega) (show 0 ≤ n ∧ n ≤ 2048 from by omega) (show (n - (k + 1)) < (d : Int) from by omega) (Eq.trans (by rw [v_write_28]; rw [if_neg e1, if_neg e3]) hvr) (Eq.trans (by rw [s_write_28]; rw [if_neg e1, if_neg e3]) hsr))
  refine ⟨_, _, _, _, (m_noSide hF htr (s := s) (by omega) (by omega)), Nat.le_refl _, Nat.le_refl _, mki_ (r := some (aI (b2 (s < 0 ∨ 1 < s)))) ?_, fun _ _ q => q.elim⟩
  refine ⟨⟨_, hm_oi hx⟩, _, _, _, _, (m_failsV hF htr hx (v := (b2 (s < 0 ∨ 1 < s))) (c := 1) (b2_01 _)), Nat.le_refl _, Nat.le_refl _, mki_ (r := some (aI (b2 (s < 0 ∨ 1 < s)))) ?_, fun _ _ q => q.elim⟩
  have hV10 := hV.u (f := 0) (k := 0) (v := (if (b2 (s < 0 ∨ 1 < s)) = 0 then 0 else 1)) (show 0 ≤ (if (b2 (s < 0 ∨ 1 < s)) = 0 then 0 else 1) ∧ (if (b2 (s < 0 ∨ 1 < s)) = 0 then 0 else 1) ≤ 2 from by split <;> omega)
  refine ⟨by have := b2_r (s < 0 ∨ 1 < s); omega, fun e11 => ?_, fun e11 => ?_⟩
  · have e11 : ¬ (s < 0 ∨ 1 < s) := b2_e0.mp e11
    refine ⟨_, hm_oi hx, aI (μ 3 0), rfl, ?_⟩
    have t12 := (show 0 ≤ μ 3 0 ∧ μ 3 0 ≤ 2048 from hV.g 3 0)
    refine ⟨_, hm_oi hx, trivial, _, hm_putO hx (f := 3) (v := 0) rfl rfl, ?_⟩
    have hV13 := hV10.u (f := 3) (k := 0) (v := 0) (show 0 ≤ 0 ∧ 0 ≤ 2048 from by omega)
    refine ⟨⟨_, hm_oi hx⟩, _, _, _, _, (m_hasSending hF htr hx hV13.T (s := s) (i := i) (by omega) (by omega) (by omega) (by omega)), Nat.le_refl _, Nat.le_refl _, mki_ (r := some (aI (b2 ((0 ≤ i ∧ i < 256 ∧ (u2 (u2 μ 0 0 (if (b2 (s < 0 ∨ 1 < s)) = 0 then 0 else 1)) 3 0 0) 17 (mj s i) = 1) ∧ (i / 2 % 2 = 0 ∨ i % 2 = s))))) ?_, fun _ _ q => q.elim⟩
    refine ⟨by have := b2_r ((0 ≤ i ∧ i < 256 ∧ (u2 (u2 μ 0 0 (if (b2 (s < 0 ∨ 1 < s)) = 0 then 0 else 1)) 3 0 0) 17 (mj s i) = 1) ∧ (i / 2 % 2 = 0 ∨ i % 2 = s)); omega, fun e14 => ?_, fun e14 => ?_⟩
    · have e14 : ¬ ((0 ≤ i ∧ i < 256 ∧ (u2 (u2 μ 0 0 (if (b2 (s < 0 ∨ 1 < s)) = 0 then 0 else 1)) 3 0 0) 17 (mj s i) = 1) ∧ (i / 2 % 2 = 0 ∨ i % 2 = s)) := b2_e0.mp e14
      exact ⟨mRetIS (by unfold v_write; rw [if_neg e11, if_neg e14]) (by unfold s_write; rw [if_neg e11, if_neg e14]) hV13, Nat.le_refl _, Nat.le_refl _⟩
    · have e14 : (0 ≤ i ∧ i < 256 ∧ (u2 (u2 μ 0 0 (if (b2 (s < 0 ∨ 1 < s)) = 0 then 0 else 1)) 3 0 0) 17 (mj s i) = 1) ∧ (i / 2 % 2 = 0 ∨ i % 2 = s) := b2_n0.mp e14
      have ev15 : (mSend (u2 (u2 μ 0 0 (if (b2 (s < 0 ∨ 1 < s)) = 0 then 0 else 1)) 3 0 0) s i) = (mSend μ s i) := (mSend_cg (by intro f hf k; simp only [List.elem_eq_mem, decide_eq_true_eq, List.mem_cons, List.not_mem_nil, or_false] at hf; rcases hf with rfl | rfl | rfl | rfl | rfl | rfl <;> first | exact (Eq.trans (u2_f (by decide)) (u2_f (by decide)))))
      refine ⟨⟨_, hm_oi hx⟩, _, _, _, _, (m_sending hF htr hx hV13.T hV13.N (s := s) (i := i) (by omega) (by omega) (by omega) (by omega)), Nat.le_refl _, Nat.le_refl _, mkiE (r := some (aI (mSend μ s i))) (congrArg (fun q => some (Value.int q)) (congrArg iI ev15)) ?_, fun _ _ q => q.elim⟩
      have t16 := hV13.snd s i
      rw [ev15] at t16
      refine ⟨by omega, fun (e17 : (mSend μ s i) = 0) => ?_, fun (e17 : ¬ ((mSend μ s i) = 0)) => ?_⟩
      · exact mi_Wsub (List.forall_mem_cons.mpr ⟨(.head _), List.forall_mem_cons.mpr ⟨(.tail _ (.head _)), List.forall_mem_cons.mpr ⟨(.tail _ (.tail _ (.head _))), List.forall_mem_cons.mpr ⟨(.tail _ (.tail _ (.tail _ (.head _)))), List.forall_mem_cons.mpr ⟨(.tail _ (.tail _ (.tail _ (.tail _ (.head _))))), fun _ h => absurd h List.not_mem_nil⟩⟩⟩⟩⟩) (loop28 _ _ 2049 0 (μ 3 0) (u2 (u2 μ 0 0 (if (b2 (s < 0 ∨ 1 < s)) = 0 then 0 else 1)) 3 0 0) hV13 (show 0 ≤ s ∧ s ≤ 1 from by omega) (show 0 ≤ i ∧ i < 256 from by omega) (show 0 ≤ 0 from by omega) (show 0 ≤ (μ 3 0) from by omega) (show 0 ≤ (μ 3 0) ∧ (μ 3 0) ≤ 2048 from by omega) (show ((μ 3 0) - 0) < (2049 : Int) from by omega) (by unfold v_write; rw [if_neg e11, if_pos e14, if_pos e17]) (by unfold s_write; rw [if_neg e11, if_pos e14, if_pos e17]))
      · exact ⟨mRetIS (by unfold v_write; rw [if_neg e11, if_pos e14, if_neg e17]) (by unfold s_write; rw [if_neg e11, if_pos e14, if_neg e17]) hV13, Nat.le_refl _, Nat.le_refl _⟩
  · have e11 : s < 0 ∨ 1 < s := b2_n0.mp e11
    exact ⟨mRetIS (by unfold v_write; rw [if_pos e11]) (by unfold s_write; rw [if_pos e11]) hV10, Nat.le_refl _, Nat.le_refl _⟩
set_option maxRecDepth 100000 in
theorem s_write_28_fr {f kk : Nat} {s i : Int} (hf : [0, 3, 36, 37, 38, 39].elem f = false) : ∀ (d : Nat) (k n : Int) (ν : Nat → Nat → Int), s_write_28 μ s i d k n ν f kk = ν f kk := by
  have n0 : f ≠ 0 := by rintro rfl; exact absurd hf (by decide)
  have n3 : f ≠ 3 := by rintro rfl; exact absurd hf (by decide)
  have n36 : f ≠ 36 := by rintro rfl; exact absurd hf (by decide)
  have n37 : f ≠ 37 := by rintro rfl; exact absurd hf (by decide)
  have n38 : f ≠ 38 := by rintro rfl; exact absurd hf (by decide)
  have n39 : f ≠ 39 := by rintro rfl; exact absurd hf (by decide)
  have f0 : ∀ (m : Nat → Nat → Int) (a b : Nat) (v : Int), u2 m 0 a v f b = m f b := fun m a b v => u2_f n0
  have f3 : ∀ (m : Nat → Nat → Int) (a b : Nat) (v : Int), u2 m 3 a v f b = m f b := fun m a b v => u2_f n3
  have f36 : ∀ (m : Nat → Nat → Int) (a b : Nat) (v : Int), u2 m 36 a v f b = m f b := fun m a b v => u2_f n36
  have f37 : ∀ (m : Nat → Nat → Int) (a b : Nat) (v : Int), u2 m 37 a v f b = m f b := fun m a b v => u2_f n37
  have f38 : ∀ (m : Nat → Nat → Int) (a b : Nat) (v : Int), u2 m 38 a v f b = m f b := fun m a b v => u2_f n38
  have f39 : ∀ (m : Nat → Nat → Int) (a b : Nat) (v : Int), u2 m 39 a v f b = m f b := fun m a b v => u2_f n39
  intro d
  induction d with
  | zero => intros; rfl
  | succ d ih =>
    intro k n ν
    rw [s_write_28]
    repeat' with_reducible apply f_ite
    all_goals first | rfl | simp only [f0, f3, f36, f37, f38, f39, ih]
set_option maxRecDepth 100000 in
theorem s_write_fr {f kk : Nat} {s i : Int} (hf : [0, 3, 36, 37, 38, 39].elem f = false) : s_write μ s i f kk = μ f kk := by
  have n0 : f ≠ 0 := by rintro rfl; exact absurd hf (by decide)
  have n3 : f ≠ 3 := by rintro rfl; exact absurd hf (by decide)
  have n36 : f ≠ 36 := by rintro rfl; exact absurd hf (by decide)
  have n37 : f ≠ 37 := by rintro rfl; exact absurd hf (by decide)
  have n38 : f ≠ 38 := by rintro rfl; exact absurd hf (by decide)
  have n39 : f ≠ 39 := by rintro rfl; exact absurd hf (by decide)
  have f0 : ∀ (m : Nat → Nat → Int) (a b : Nat) (v : Int), u2 m 0 a v f b = m f b := fun m a b v => u2_f n0
  have f3 : ∀ (m : Nat → Nat → Int) (a b : Nat) (v : Int), u2 m 3 a v f b = m f b := fun m a b v => u2_f n3
  have f36 : ∀ (m : Nat → Nat → Int) (a b : Nat) (v : Int), u2 m 36 a v f b = m f b := fun m a b v => u2_f n36
  have f37 : ∀ (m : Nat → Nat → Int) (a b : Nat) (v : Int), u2 m 37 a v f b = m f b := fun m a b v => u2_f n37
  have f38 : ∀ (m : Nat → Nat → Int) (a b : Nat) (v : Int), u2 m 38 a v f b = m f b := fun m a b v => u2_f n38
  have f39 : ∀ (m : Nat → Nat → Int) (a b : Nat) (v : Int), u2 m 39 a v f b = m f b := fun m a b v => u2_f n39
  unfold s_write
  repeat' with_reducible apply f_ite
  all_goals first | rfl | simp only [f0, f3, f36, f37, f38, f39, s_write_28_fr hf]
end MR5
