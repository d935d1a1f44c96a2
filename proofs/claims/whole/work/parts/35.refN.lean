section MR15
variable {L : Launch} {G : mmG} {A : Nat → Nat} {ax : Nat → Option Nat} {h0 : mmH} {μ ν : Nat → Nat → Int}
theorem isHere_p {s i o : Int} (h : v_isHere μ s i o = 1) : 0 ≤ v_pieceAt μ s i (o / 64) := by
  unfold v_isHere at h
  repeat' split at h
  all_goals omega
theorem readyOf_h7 {s i : Int} : ∀ (d : Nat) (n o : Int), n ≤ o → o < v_readyOf_7 μ s i d n → (0 ≤ n) → v_isHere μ s i o = 1
  | 0, n, o, h1, h2, h3 => by
    have : v_readyOf_7 μ s i 0 n = 0 := rfl
    omega
  | d + 1, n, o, h1, h2, h3 => by
    rw [v_readyOf_7] at h2
    split at h2
    · omega
    · rename_i e
      by_cases q : o = n
      · subst q
        have : v_isHere μ s i o = 0 ∨ v_isHere μ s i o = 1 := by
          unfold v_isHere
          repeat' split
          all_goals omega
        omega
      · exact readyOf_h7 d (n + 1) o (by omega) h2 (by omega)
theorem readyOf_h (hV : mV μ) {s i : Int} (o : Int) (h1 : μ 27 (mj s i) ≤ o) (h2 : o < v_readyOf μ s i) : v_isHere μ s i o = 1 := readyOf_h7 65537 _ o h1 h2 (hV 27 _).1
def v_read_43 (μ : Nat → Nat → Int) (s i q : Int) : Nat → Int → (Nat → Nat → Int) → Int
  | 0, _, _ => 0
  | d + 1, y, ν => (if q ≤ (ν 5 0) then (if (ν 5 0) ≤ 0 then (ν 5 0) else (if (v_receiving ν s i) = 0 then (ν 5 0) else (ν 5 0))) else (if y ≤ (ν 27 (mj s i)) then (if (ν 5 0) ≤ 0 then (ν 5 0) else (if (v_receiving ν s i) = 0 then (ν 5 0) else (ν 5 0))) else (v_read_43 μ s i q d y (u2 (u2 (u2 ν 4 (ν 5 0).toNat ((v_byteAt ν s i (ν 27 (mj s i))) % 256)) 5 0 ((ν 5 0) + 1)) 27 (mj s i) ((ν 27 (mj s i)) + 1)))))
def s_read_43 (μ : Nat → Nat → Int) (s i q : Int) : Nat → Int → (Nat → Nat → Int) → (Nat → Nat → Int)
  | 0, _, ν => ν
  | d + 1, y, ν => (if q ≤ (ν 5 0) then (if (ν 5 0) ≤ 0 then (s_looksOver ν s i) else (if (v_receiving ν s i) = 0 then (s_looksOver (s_growStream (s_growData ν s) s i) s i) else (s_looksOver (s_growData ν s) s i))) else (if y ≤ (ν 27 (mj s i)) then (if (ν 5 0) ≤ 0 then (s_looksOver ν s i) else (if (v_receiving ν s i) = 0 then (s_looksOver (s_growStream (s_growData ν s) s i) s i) else (s_looksOver (s_growData ν s) s i))) else (s_read_43 μ s i q d y (u2 (u2 (u2 ν 4 (ν 5 0).toNat ((v_byteAt ν s i (ν 27 (mj s i))) % 256)) 5 0 ((ν 5 0) + 1)) 27 (mj s i) ((ν 27 (mj s i)) + 1)))))
def v_read (μ : Nat → Nat → Int) (s i q : Int) : Int := (if s < 0 ∨ 1 < s then 0 else (if q < 0 then 0 else (if q ≤ 2048 then (if (0 ≤ i ∧ i < 256 ∧ (u2 (u2 μ 0 0 0) 5 0 0) 17 (mj s i) = 1) ∧ (i / 2 % 2 = 0 ∨ ¬ i % 2 = s) then (if (μ 28 (mj s i)) = 0 then (v_read_43 μ s i q 2049 (v_readyOf μ s i) (u2 (u2 μ 0 0 0) 5 0 0)) else -2) else -1) else 0)))
def s_read (μ : Nat → Nat → Int) (s i q : Int) : Nat → Nat → Int := (if s < 0 ∨ 1 < s then (u2 μ 0 0 1) else (if q < 0 then (u2 μ 0 0 1) else (if q ≤ 2048 then (if (0 ≤ i ∧ i < 256 ∧ (u2 (u2 μ 0 0 0) 5 0 0) 17 (mj s i) = 1) ∧ (i / 2 % 2 = 0 ∨ ¬ i % 2 = s) then (if (μ 28 (mj s i)) = 0 then (s_read_43 μ s i q 2049 (v_readyOf μ s i) (u2 (u2 μ 0 0 0) 5 0 0)) else (u2 (u2 μ 0 0 0) 5 0 0)) else (u2 (u2 μ 0 0 0) 5 0 0)) else (u2 μ 0 0 1))))
set_option maxRecDepth 100000 in
theorem m_read (hF : mm_F G) (htr : L.stackTraces = false) (hx : mx A ax) (hV : mV μ) {s i q : Int} (h1 : -2147483648 ≤ s) (h2 : s < 2147483648) (h3 : -2147483648 ≤ i) (h4 : i < 2147483648) (h5 : -2147483648 ≤ q) (h5a : q < 2147483648) :
    mm_Met L G SX6_read [.ref (A 99), .int (iI s), .int (iI i), .int (iI q)] (hm G A ax h0 μ) 0 0 (mRetS (some (.int (iI (v_read μ s i q)))) (hm G A ax h0 (s_read μ s i q)) (mV (s_read μ s i q))) mm_no := by
  refine mi_meth MX6_read 400 hF htr okX6_read (av := [aR (A 99), aI s, aI i, aI q]) (by decide +kernel) (Nat.le_of_ble_eq_true rfl) cmX6_read (fun θ hc => ?_)
  have loop43 : ∀ (R : Int) (S : Nat → Nat → Int) (d : Nat) (y : Int) (ν : Nat → Nat → Int) (hV : mV ν), (0 ≤ s ∧ s ≤ 1) → (0 ≤ i ∧ i < 256) → (0 ≤ q ∧ q ≤ 2048) → (0 ≤ ν 5 0 ∧ ν 5 0 ≤ q) → (0 ≤ y ∧ y ≤ 65536) → (∀ o, ν 27 (mj s i) ≤ o → o < y → v_isHere ν s i o = 1) → (q - ν 5 0) < (d : Int) → v_read_43 μ s i q d y ν = R → s_read_43 μ s i q d y ν = S → mi_W L G MX6_read 0 0 (mRetS (some (.int (iI R))) (hm G A ax h0 S) (mV S)) mm_no θ 43 [(5, aL y), (0, aR (A 99)), (1, aI s), (2, aI i), (3, aI q), (4, aI ((256 * s) + i))] [] (hm G A ax h0 ν) 0 0 := by
    intro R S d
    induction d with
    | zero =>
      intro y ν hV hi0 hi1 hi2 hi3 hi4 hh hms hvr hsr
      omega
    | succ d ih =>
      intro y ν hV hi0 hi1 hi2 hi3 hi4 hh hms hvr hsr
      have hbt : ν 27 (mj s i) < y → 0 ≤ v_pieceAt ν s i (ν 27 (mj s i) / 64) := fun e => isHere_p (hh _ (Int.le_refl _) e)
      refine mi_sound hc okX6_read 400 _ _ _ _ _ _ ?_
      refine ⟨_, hm_oi hx, aI (ν 5 0), rfl, ?_⟩
      have t1 := (show 0 ≤ ν 5 0 ∧ ν 5 0 ≤ 2048 from hV.g 5 0)
      refine ⟨by omega, fun (e2 : q ≤ (ν 5 0)) => ?_, fun (e2 : ¬ (q ≤ (ν 5 0))) => ?_⟩
      · refine ⟨_, hm_oi hx, aI (ν 5 0), rfl, ?_⟩
        refine ⟨by omega, fun (e3 : (ν 5 0) ≤ 0) => ?_, fun (e3 : ¬ ((ν 5 0) ≤ 0)) => ?_⟩
        · refine ⟨⟨_, hm_oi hx⟩, _, _, _, _, (m_looksOver hF htr hx hV (s := s) (i := i) (by omega) (by omega) (by omega) (by omega)), Nat.le_refl _, Nat.le_refl _, mkis_ (r := none) (fun hV4 => ?_), fun _ _ q => q.elim⟩
          refine ⟨_, hm_oi hx, aI (ν 5 0), congrArg aI (show (s_looksOver ν s i) 5 0 = (ν 5 0) from (s_looksOver_fr (by decide))), ?_⟩
          exact ⟨mRetIS (hvr.symm.trans (by first | exact (if_pos e2).trans (if_pos e3) | (rw [v_read_43]; rw [if_pos e2, if_pos e3]))) (hsr.symm.trans (by first | exact (if_pos e2).trans (if_pos e3) | (rw [s_read_43]; rw [if_pos e2, if_pos e3]))) hV4, Nat.le_refl _, Nat.le_refl _⟩
        · refine ⟨⟨_, hm_oi hx⟩, _, _, _, _, (m_growData hF htr hx hV (s := s) (by omega) (by omega)), Nat.le_refl _, Nat.le_refl _, mkis_ (r := none) (fun hV5 => ?_), fun _ _ q => q.elim⟩
          have ev6 : (v_receiving (s_growData ν s) s i) = (v_receiving ν s i) := (v_receiving_cg (by intro f hf k; simp only [List.elem_eq_mem, decide_eq_true_eq, List.mem_cons, List.not_mem_nil, or_false] at hf; rcases hf with rfl | rfl | rfl | rfl | rfl | rfl | rfl <;> first | exact (s_growData_fr (by decide))))
          refine ⟨⟨_, hm_oi hx⟩, _, _, _, _, (m_receiving hF htr hx hV5 (s := s) (i := i) (by omega) (by omega) (by omega) (by omega)), Nat.le_refl _, Nat.le_refl _, mkiE (r := some (aI (v_receiving ν s i))) (congrArg (fun q => some (Value.int q)) (congrArg iI ev6)) ?_, fun _ _ q => q.elim⟩
          have t7 := v_receiving_b (s_growData ν s) s i
          rw [ev6] at t7
          refine ⟨by omega, fun (e8 : ¬ ((v_receiving ν s i) = 0)) => ?_, fun (e8 : (v_receiving ν s i) = 0) => ?_⟩
          · refine ⟨⟨_, hm_oi hx⟩, _, _, _, _, (m_looksOver hF htr hx hV5 (s := s) (i := i) (by omega) (by omega) (by omega) (by omega)), Nat.le_refl _, Nat.le_refl _, mkis_ (r := none) (fun hV9 => ?_), fun _ _ q => q.elim⟩
            refine ⟨_, hm_oi hx, aI (ν 5 0), congrArg aI (show (s_looksOver (s_growData ν s) s i) 5 0 = (ν 5 0) from (Eq.trans (s_looksOver_fr (by decide)) (s_growData_fr (by decide)))), ?_⟩
            exact ⟨mRetIS (hvr.symm.trans (by first | exact (if_pos e2).trans ((if_neg e3).trans (if_neg e8)) | (rw [v_read_43]; rw [if_pos e2, if_neg e3, if_neg e8]))) (hsr.symm.trans (by first | exact (if_pos e2).trans ((if_neg e3).trans (if_neg e8)) | (rw [s_read_43]; rw [if_pos e2, if_neg e3, if_neg e8]))) hV9, Nat.le_refl _, Nat.le_refl _⟩
          · refine ⟨⟨_, hm_oi hx⟩, _, _, _, _, (m_growStream hF htr hx hV5 (s := s) (i := i) (by omega) (by omega) (by omega) (by omega)), Nat.le_refl _, Nat.le_refl _, mkis_ (r := none) (fun hV10 => ?_), fun _ _ q => q.elim⟩
            refine ⟨⟨_, hm_oi hx⟩, _, _, _, _, (m_looksOver hF htr hx hV10 (s := s) (i := i) (by omega) (by omega) (by omega) (by omega)), Nat.le_refl _, Nat.le_refl _, mkis_ (r := none) (fun hV11 => ?_), fun _ _ q => q.elim⟩
            refine ⟨_, hm_oi hx, aI (ν 5 0), congrArg aI (show (s_looksOver (s_growStream (s_growData ν s) s i) s i) 5 0 = (ν 5 0) from (Eq.trans (s_looksOver_fr (by decide)) (Eq.trans (s_growStream_fr (by decide)) (s_growData_fr (by decide))))), ?_⟩
            exact ⟨mRetIS (hvr.symm.trans (by first | exact (if_pos e2).trans ((if_neg e3).trans (if_pos e8)) | (rw [v_read_43]; rw [if_pos e2, if_neg e3, if_pos e8]))) (hsr.symm.trans (by first | exact (if_pos e2).trans ((if_neg e3).trans (if_pos e8)) | (rw [s_read_43]; rw [if_pos e2, if_neg e3, if_pos e8]))) hV11, Nat.le_refl _, Nat.le_refl _⟩
      · refine ⟨_, hm_oi hx, aR (A 27), rfl, ?_⟩
        refine ⟨512, _, (ν 27 (mj s i)), hm_a hx 27 rfl, by omega, rfl, ?_⟩
        have t12 := (show 0 ≤ ν 27 (mj s i) ∧ ν 27 (mj s i) ≤ 65536 from hV.g 27 (mj s i))
        refine ⟨by omega, fun (e13 : y ≤ (ν 27 (mj s i))) => ?_, fun (e13 : ¬ (y ≤ (ν 27 (mj s i)))) => ?_⟩
        · refine ⟨_, hm_oi hx, aI (ν 5 0), rfl, ?_⟩
          refine ⟨by omega, fun (e14 : (ν 5 0) ≤ 0) => ?_, fun (e14 : ¬ ((ν 5 0) ≤ 0)) => ?_⟩
          · refine ⟨⟨_, hm_oi hx⟩, _, _, _, _, (m_looksOver hF htr hx hV (s := s) (i := i) (by omega) (by omega) (by omega) (by omega)), Nat.le_refl _, Nat.le_refl _, mkis_ (r := none) (fun hV15 => ?_), fun _ _ q => q.elim⟩
            refine ⟨_, hm_oi hx, aI (ν 5 0), congrArg aI (show (s_looksOver ν s i) 5 0 = (ν 5 0) from (s_looksOver_fr (by decide))), ?_⟩
            exact ⟨mRetIS (hvr.symm.trans (by first | exact (if_neg e2).trans ((if_pos e13).trans (if_pos e14)) | (rw [v_read_43]; rw [if_neg e2, if_pos e13, if_pos e14]))) (hsr.symm.trans (by first | exact (if_neg e2).trans ((if_pos e13).trans (if_pos e14)) | (rw [s_read_43]; rw [if_neg e2, if_pos e13, if_pos e14]))) hV15, Nat.le_refl _, Nat.le_refl _⟩
          · refine ⟨⟨_, hm_oi hx⟩, _, _, _, _, (m_growData hF htr hx hV (s := s) (by omega) (by omega)), Nat.le_refl _, Nat.le_refl _, mkis_ (r := none) (fun hV16 => ?_), fun _ _ q => q.elim⟩
            have ev17 : (v_receiving (s_growData ν s) s i) = (v_receiving ν s i) := (v_receiving_cg (by intro f hf k; simp only [List.elem_eq_mem, decide_eq_true_eq, List.mem_cons, List.not_mem_nil, or_false] at hf; rcases hf with rfl | rfl | rfl | rfl | rfl | rfl | rfl <;> first | exact (s_growData_fr (by decide))))
            refine ⟨⟨_, hm_oi hx⟩, _, _, _, _, (m_receiving hF htr hx hV16 (s := s) (i := i) (by omega) (by omega) (by omega) (by omega)), Nat.le_refl _, Nat.le_refl _, mkiE (r := some (aI (v_receiving ν s i))) (congrArg (fun q => some (Value.int q)) (congrArg iI ev17)) ?_, fun _ _ q => q.elim⟩
            have t18 := v_receiving_b (s_growData ν s) s i
            rw [ev17] at t18
            refine ⟨by omega, fun (e19 : ¬ ((v_receiving ν s i) = 0)) => ?_, fun (e19 : (v_receiving ν s i) = 0) => ?_⟩
            · refine ⟨⟨_, hm_oi hx⟩, _, _, _, _, (m_looksOver hF htr hx hV16 (s := s) (i := i) (by omega) (by omega) (by omega) (by omega)), Nat.le_refl _, Nat.le_refl _, mkis_ (r := none) (fun hV20 => ?_), fun _ _ q => q.elim⟩
              refine ⟨_, hm_oi hx, aI (ν 5 0), congrArg aI (show (s_looksOver (s_growData ν s) s i) 5 0 = (ν 5 0) from (Eq.trans (s_looksOver_fr (by decide)) (s_growData_fr (by decide)))), ?_⟩
              exact ⟨mRetIS (hvr.symm.trans (by first | exact (if_neg e2).trans ((if_pos e13).trans ((if_neg e14).trans (if_neg e19))) | (rw [v_read_43]; rw [if_neg e2, if_pos e13, if_neg e14, if_neg e19]))) (hsr.symm.trans (by first | exact (if_neg e2).trans ((if_pos e13).trans ((if_neg e14).trans (if_neg e19))) | (rw [s_read_43]; rw [if_neg e2, if_pos e13, if_neg e14, if_neg e19]))) hV20, Nat.le_refl _, Nat.le_refl _⟩
            · refine ⟨⟨_, hm_oi hx⟩, _, _, _, _, (m_growStream hF htr hx hV16 (s := s) (i := i) (by omega) (by omega) (by omega) (by omega)), Nat.le_refl _, Nat.le_refl _, mkis_ (r := none) (fun hV21 => ?_), fun _ _ q => q.elim⟩
              refine ⟨⟨_, hm_oi hx⟩, _, _, _, _, (m_looksOver hF htr hx hV21 (s := s) (i := i) (by omega) (by omega) (by omega) (by omega)), Nat.le_refl _, Nat.le_refl _, mkis_ (r := none) (fun hV22 => ?_), fun _ _ q => q.elim⟩
              refine ⟨_, hm_oi hx, aI (ν 5 0), congrArg aI (show (s_looksOver (s_growStream (s_growData ν s) s i) s i) 5 0 = (ν 5 0) from (Eq.trans (s_looksOver_fr (by decide)) (Eq.trans (s_growStream_fr (by decide)) (s_growData_fr (by decide))))), ?_⟩
              exact ⟨mRetIS (hvr.symm.trans (by first | exact (if_neg e2).trans ((if_pos e13).trans ((if_neg e14).trans (if_pos e19))) | (rw [v_read_43]; rw [if_neg e2, if_pos e13, if_neg e14, if_pos e19]))) (hsr.symm.trans (by first | exact (if_neg e2).trans ((if_pos e13).trans ((if_neg e14).trans (if_pos e19))) | (rw [s_read_43]; rw [if_neg e2, if_pos e13, if_neg e14, if_pos e19]))) hV22, Nat.le_refl _, Nat.le_refl _⟩
        · refine ⟨_, hm_oi hx, aR (A 4), rfl, ?_⟩
          refine ⟨_, hm_oi hx, aI (ν 5 0), rfl, ?_⟩
          refine ⟨_, hm_oi hx, aR (A 27), rfl, ?_⟩
          refine ⟨512, _, (ν 27 (mj s i)), hm_a hx 27 rfl, by omega, rfl, ?_⟩
          refine ⟨⟨_, hm_oi hx⟩, _, _, _, _, (m_byteAt hF htr hx hV (s := s) (i := i) (o := (ν 27 (mj s i))) (by omega) (by omega) (by omega) (by omega) (by omega) (by omega) (by omega)), Nat.le_refl _, Nat.le_refl _, mki_ (r := some (aI (v_byteAt ν s i (ν 27 (mj s i))))) ?_, fun _ _ q => q.elim⟩
          refine ⟨((v_byteAt ν s i (ν 27 (mj s i))) % 256), iI_and255 _, ?_⟩
          refine ⟨2048, _, _, hm_a hx 4 rfl, by omega, trivial, hm_pi hx (i := (ν 5 0).toNat) (v := ((v_byteAt ν s i (ν 27 (mj s i))) % 256)) rfl rfl rfl rfl, ?_⟩
          have hV23 := hV.u (f := 4) (k := (ν 5 0).toNat) (v := ((v_byteAt ν s i (ν 27 (mj s i))) % 256)) (show 0 ≤ ((v_byteAt ν s i (ν 27 (mj s i))) % 256) ∧ ((v_byteAt ν s i (ν 27 (mj s i))) % 256) ≤ 255 from by omega)
          refine ⟨_, hm_oi hx, aI (ν 5 0), rfl, ?_⟩
          refine ⟨_, hm_oi hx, trivial, _, hm_putO hx (f := 5) (v := ((ν 5 0) + 1)) rfl rfl, ?_⟩
          have hV24 := hV23.u (f := 5) (k := 0) (v := ((ν 5 0) + 1)) (show 0 ≤ ((ν 5 0) + 1) ∧ ((ν 5 0) + 1) ≤ 2048 from by omega)
          refine ⟨_, hm_oi hx, aR (A 27), rfl, ?_⟩
          refine ⟨512, _, (ν 27 (mj s i)), hm_a hx 27 rfl, by omega, (Eq.trans (u2_f (by decide)) (u2_f (by decide))), ?_⟩
          refine ⟨1, rfl, ?_⟩
          refine ⟨512, _, _, hm_a hx 27 rfl, by omega, hm_pl hx (i := (mj s i)) (v := ((ν 27 (mj s i)) + 1)) rfl rfl rfl, ?_⟩
          have hV25 := hV24.u (f := 27) (k := (mj s i)) (v := ((ν 27 (mj s i)) + 1)) (show 0 ≤ ((ν 27 (mj s i)) + 1) ∧ ((ν 27 (mj s i)) + 1) ≤ 65536 from by omega)
          exact mi_Wsub (List.forall_mem_cons.mpr ⟨(.head _), List.forall_mem_cons.mpr ⟨(.tail _ (.head _)), List.forall_mem_cons.mpr ⟨(.tail _ (.tail _ (.head _))), List.forall_mem_cons.mpr ⟨(.tail _ (.tail _ (.tail _ (.head _)))), List.forall_mem_cons.mpr ⟨(.tail _ (.tail _ (.tail _ (.tail _ (.head _))))), List.forall_mem_cons.mpr ⟨(.tail _ (.tail _ (.tail _ (.tail _ (.tail _ (.head _)))))), fun _ h => absurd h List.not_mem_nil⟩⟩⟩⟩⟩⟩) (ih y (u2 (u2 (u2 ν 4 (ν 5 0).toNat ((v_byteAt ν s i (ν 27 (mj s i))) % 256)) 5 0 ((ν 5 0) + 1)) 27 (mj s i) ((ν 27 (mj s i)) + 1)) hV25 (show 0 ≤ s ∧ s ≤ 1 from by omega) (show 0 ≤ i ∧ i < 256 from by omega) (show 0 ≤ q ∧ q ≤ 2048 from by omega) (show 0 ≤ ((ν 5 0) + 1) ∧ ((ν 5 0) + 1) ≤ q from by omega) (show 0 ≤ y ∧ y ≤ 65536 from by omega) (fun o a b => by have a' : _ ≤ o := a; rw [u2_s] at a'; rw [v_isHere_u (by decide), v_isHere_u (by decide), v_isHere_u (by decide)]; exact hh o (by omega) b) (show (q - ((ν 5 0) + 1)) < (d : Int) from by omega) (Eq.trans (by first | exact ((if_neg e2).trans (if_neg e13)).symm | (rw [v_read_43]; rw [if_neg e2, if_neg e13])) hvr) (Eq.trans (by first | exact ((if_neg e2).trans (if_neg e13)).symm | (rw [s_read_43]; rw [if_neg e2, if_neg e13])) hsr))
  refine ⟨_, _, _, _, (m_noSide hF htr (s := s) (by omega) (by omega)), Nat.le_refl _, Nat.le_refl _, mki_ (r := some (aI (b2 (s < 0 ∨ 1 < s)))) ?_, fun _ _ q => q.elim⟩
  refine ⟨by have := b2_r (s < 0 ∨ 1 < s); omega, fun e26 => ?_, fun e26 => ?_⟩
  · have e26 : s < 0 ∨ 1 < s := b2_n0.mp e26
    refine ⟨⟨_, hm_oi hx⟩, _, _, _, _, (m_fails1 hF htr hx (c := 1)), Nat.le_refl _, Nat.le_refl _, mki_ (r := some (aI 1)) ?_, fun _ _ q => q.elim⟩
    have hV27 := hV.u (f := 0) (k := 0) (v := 1) (show 0 ≤ 1 ∧ 1 ≤ 2 from by omega)
    refine ⟨by omega, fun (e : (1 : Int) = 0) => absurd e (by decide), fun _ => ?_⟩
    exact ⟨mRetIS (by first | exact if_pos e26 | (unfold v_read; rw [if_pos e26])) (by first | exact if_pos e26 | (unfold s_read; rw [if_pos e26])) hV27, Nat.le_refl _, Nat.le_refl _⟩
  · have e26 : ¬ (s < 0 ∨ 1 < s) := b2_e0.mp e26
    refine ⟨by omega, fun (e28 : q < 0) => ?_, fun (e28 : ¬ (q < 0)) => ?_⟩
    · refine ⟨⟨_, hm_oi hx⟩, _, _, _, _, (m_fails1 hF htr hx (c := 1)), Nat.le_refl _, Nat.le_refl _, mki_ (r := some (aI 1)) ?_, fun _ _ q => q.elim⟩
      have hV29 := hV.u (f := 0) (k := 0) (v := 1) (show 0 ≤ 1 ∧ 1 ≤ 2 from by omega)
      refine ⟨by omega, fun (e : (1 : Int) = 0) => absurd e (by decide), fun _ => ?_⟩
      exact ⟨mRetIS (by first | exact (if_neg e26).trans (if_pos e28) | (unfold v_read; rw [if_neg e26, if_pos e28])) (by first | exact (if_neg e26).trans (if_pos e28) | (unfold s_read; rw [if_neg e26, if_pos e28])) hV29, Nat.le_refl _, Nat.le_refl _⟩
    · refine ⟨by omega, fun (e30 : q ≤ 2048) => ?_, fun (e30 : ¬ (q ≤ 2048)) => ?_⟩
      · refine ⟨⟨_, hm_oi hx⟩, _, _, _, _, (m_fails0 hF htr hx (c := 1)), Nat.le_refl _, Nat.le_refl _, mki_ (r := some (aI 0)) ?_, fun _ _ q => q.elim⟩
        have hV31 := hV.u (f := 0) (k := 0) (v := 0) (show 0 ≤ 0 ∧ 0 ≤ 2 from by omega)
        refine ⟨by omega, fun _ => ?_, fun (e : ¬ ((0 : Int) = 0)) => (e (by decide)).elim⟩
        refine ⟨_, hm_oi hx, trivial, _, hm_putO hx (f := 5) (v := 0) rfl rfl, ?_⟩
        have hV32 := hV31.u (f := 5) (k := 0) (v := 0) (show 0 ≤ 0 ∧ 0 ≤ 2048 from by omega)
        refine ⟨⟨_, hm_oi hx⟩, _, _, _, _, (m_hasReceiving hF htr hx hV32.T (s := s) (i := i) (by omega) (by omega) (by omega) (by omega)), Nat.le_refl _, Nat.le_refl _, mki_ (r := some (aI (b2 ((0 ≤ i ∧ i < 256 ∧ (u2 (u2 μ 0 0 0) 5 0 0) 17 (mj s i) = 1) ∧ (i / 2 % 2 = 0 ∨ ¬ i % 2 = s))))) ?_, fun _ _ q => q.elim⟩
        refine ⟨by have := b2_r ((0 ≤ i ∧ i < 256 ∧ (u2 (u2 μ 0 0 0) 5 0 0) 17 (mj s i) = 1) ∧ (i / 2 % 2 = 0 ∨ ¬ i % 2 = s)); omega, fun e33 => ?_, fun e33 => ?_⟩
        · have e33 : (0 ≤ i ∧ i < 256 ∧ (u2 (u2 μ 0 0 0) 5 0 0) 17 (mj s i) = 1) ∧ (i / 2 % 2 = 0 ∨ ¬ i % 2 = s) := b2_n0.mp e33
          refine ⟨_, _, _, _, (m_at hF htr (s := s) (i := i)), Nat.le_refl _, Nat.le_refl _, mki_ (r := some (aI ((256 * s) + i))) ?_, fun _ _ q => q.elim⟩
          refine ⟨_, hm_oi hx, aR (A 28), rfl, ?_⟩
          refine mi_nl [(4, aI ((256 * s) + i)), (0, aR (A 99)), (1, aI s), (2, aI i), (3, aI q)] rfl ?_
          refine ⟨512, _, (μ 28 (mj s i)), hm_a hx 28 rfl, by omega, (Eq.trans (u2_f (by decide)) (u2_f (by decide))), ?_⟩
          have t34 := (show 0 ≤ μ 28 (mj s i) ∧ μ 28 (mj s i) ≤ 1 from hV.g 28 (mj s i))
          refine ⟨by omega, fun (e35 : (μ 28 (mj s i)) = 0) => ?_, fun (e35 : ¬ ((μ 28 (mj s i)) = 0)) => ?_⟩
          · have ev36 : (v_readyOf (u2 (u2 μ 0 0 0) 5 0 0) s i) = (v_readyOf μ s i) := (v_readyOf_cg (by intro f hf k; simp only [List.elem_eq_mem, decide_eq_true_eq, List.mem_cons, List.not_mem_nil, or_false] at hf; rcases hf with rfl | rfl | rfl | rfl | rfl <;> first | exact (Eq.trans (u2_f (by decide)) (u2_f (by decide)))))
            refine ⟨⟨_, hm_oi hx⟩, _, _, _, _, (m_readyOf hF htr hx hV32 (s := s) (i := i) (by omega) (by omega) (by omega) (by omega)), Nat.le_refl _, Nat.le_refl _, mkiE (r := some (aL (v_readyOf μ s i))) (congrArg (fun q => some (Value.long q)) (congrArg iL ev36)) ?_, fun _ _ q => q.elim⟩
            have t37 := readyOf_b hV32 s i (by omega)
            rw [ev36] at t37
            exact mi_Wsub (List.forall_mem_cons.mpr ⟨(.head _), List.forall_mem_cons.mpr ⟨(.tail _ (.tail _ (.head _))), List.forall_mem_cons.mpr ⟨(.tail _ (.tail _ (.tail _ (.head _)))), List.forall_mem_cons.mpr ⟨(.tail _ (.tail _ (.tail _ (.tail _ (.head _))))), List.forall_mem_cons.mpr ⟨(.tail _ (.tail _ (.tail _ (.tail _ (.tail _ (.head _)))))), List.forall_mem_cons.mpr ⟨(.tail _ (.head _)), fun _ h => absurd h List.not_mem_nil⟩⟩⟩⟩⟩⟩) (loop43 _ _ 2049 (v_readyOf μ s i) (u2 (u2 μ 0 0 0) 5 0 0) hV32 (show 0 ≤ s ∧ s ≤ 1 from by omega) (show 0 ≤ i ∧ i < 256 from by omega) (show 0 ≤ q ∧ q ≤ 2048 from by omega) (show 0 ≤ 0 ∧ 0 ≤ q from by omega) (show 0 ≤ (v_readyOf μ s i) ∧ (v_readyOf μ s i) ≤ 65536 from by omega) (fun o a b => by rw [v_isHere_u (by decide), v_isHere_u (by decide)]; exact readyOf_h hV o a b) (show (q - 0) < (2049 : Int) from by omega) (by first | exact ((if_neg e26).trans ((if_neg e28).trans ((if_pos e30).trans ((if_pos e33).trans (if_pos e35))))).symm | (unfold v_read; rw [if_neg e26, if_neg e28, if_pos e30, if_pos e33, if_pos e35])) (by first | exact ((if_neg e26).trans ((if_neg e28).trans ((if_pos e30).trans ((if_pos e33).trans (if_pos e35))))).symm | (unfold s_read; rw [if_neg e26, if_neg e28, if_pos e30, if_pos e33, if_pos e35])))
          · exact ⟨mRetIS (by first | exact (if_neg e26).trans ((if_neg e28).trans ((if_pos e30).trans ((if_pos e33).trans (if_neg e35)))) | (unfold v_read; rw [if_neg e26, if_neg e28, if_pos e30, if_pos e33, if_neg e35])) (by first | exact (if_neg e26).trans ((if_neg e28).trans ((if_pos e30).trans ((if_pos e33).trans (if_neg e35)))) | (unfold s_read; rw [if_neg e26, if_neg e28, if_pos e30, if_pos e33, if_neg e35])) hV32, Nat.le_refl _, Nat.le_refl _⟩
        · have e33 : ¬ ((0 ≤ i ∧ i < 256 ∧ (u2 (u2 μ 0 0 0) 5 0 0) 17 (mj s i) = 1) ∧ (i / 2 % 2 = 0 ∨ ¬ i % 2 = s)) := b2_e0.mp e33
          exact ⟨mRetIS (by first | exact (if_neg e26).trans ((if_neg e28).trans ((if_pos e30).trans (if_neg e33))) | (unfold v_read; rw [if_neg e26, if_neg e28, if_pos e30, if_neg e33])) (by first | exact (if_neg e26).trans ((if_neg e28).trans ((if_pos e30).trans (if_neg e33))) | (unfold s_read; rw [if_neg e26, if_neg e28, if_pos e30, if_neg e33])) hV32, Nat.le_refl _, Nat.le_refl _⟩
      · refine ⟨⟨_, hm_oi hx⟩, _, _, _, _, (m_fails1 hF htr hx (c := 1)), Nat.le_refl _, Nat.le_refl _, mki_ (r := some (aI 1)) ?_, fun _ _ q => q.elim⟩
        have hV38 := hV.u (f := 0) (k := 0) (v := 1) (show 0 ≤ 1 ∧ 1 ≤ 2 from by omega)
        refine ⟨by omega, fun (e : (1 : Int) = 0) => absurd e (by decide), fun _ => ?_⟩
        exact ⟨mRetIS (by first | exact (if_neg e26).trans ((if_neg e28).trans (if_neg e30)) | (unfold v_read; rw [if_neg e26, if_neg e28, if_neg e30])) (by first | exact (if_neg e26).trans ((if_neg e28).trans (if_neg e30)) | (unfold s_read; rw [if_neg e26, if_neg e28, if_neg e30])) hV38, Nat.le_refl _, Nat.le_refl _⟩
set_option maxRecDepth 100000 in
theorem s_read_43_fr {f kk : Nat} {s i q : Int} (hf : [0, 4, 5, 10, 11, 12, 13, 27, 30, 31, 35].elem f = false) : ∀ (d : Nat) (y : Int) (ν : Nat → Nat → Int), s_read_43 μ s i q d y ν f kk = ν f kk := by
  have n0 : f ≠ 0 := by rintro rfl; exact absurd hf (by decide)
  have n4 : f ≠ 4 := by rintro rfl; exact absurd hf (by decide)
  have n5 : f ≠ 5 := by rintro rfl; exact absurd hf (by decide)
  have n10 : f ≠ 10 := by rintro rfl; exact absurd hf (by decide)
  have n11 : f ≠ 11 := by rintro rfl; exact absurd hf (by decide)
  have n12 : f ≠ 12 := by rintro rfl; exact absurd hf (by decide)
  have n13 : f ≠ 13 := by rintro rfl; exact absurd hf (by decide)
  have n27 : f ≠ 27 := by rintro rfl; exact absurd hf (by decide)
  have n30 : f ≠ 30 := by rintro rfl; exact absurd hf (by decide)
  have n31 : f ≠ 31 := by rintro rfl; exact absurd hf (by decide)
  have n35 : f ≠ 35 := by rintro rfl; exact absurd hf (by decide)
  have f0 : ∀ (m : Nat → Nat → Int) (a b : Nat) (v : Int), u2 m 0 a v f b = m f b := fun m a b v => u2_f n0
  have f4 : ∀ (m : Nat → Nat → Int) (a b : Nat) (v : Int), u2 m 4 a v f b = m f b := fun m a b v => u2_f n4
  have f5 : ∀ (m : Nat → Nat → Int) (a b : Nat) (v : Int), u2 m 5 a v f b = m f b := fun m a b v => u2_f n5
  have f10 : ∀ (m : Nat → Nat → Int) (a b : Nat) (v : Int), u2 m 10 a v f b = m f b := fun m a b v => u2_f n10
  have f11 : ∀ (m : Nat → Nat → Int) (a b : Nat) (v : Int), u2 m 11 a v f b = m f b := fun m a b v => u2_f n11
  have f12 : ∀ (m : Nat → Nat → Int) (a b : Nat) (v : Int), u2 m 12 a v f b = m f b := fun m a b v => u2_f n12
  have f13 : ∀ (m : Nat → Nat → Int) (a b : Nat) (v : Int), u2 m 13 a v f b = m f b := fun m a b v => u2_f n13
  have f27 : ∀ (m : Nat → Nat → Int) (a b : Nat) (v : Int), u2 m 27 a v f b = m f b := fun m a b v => u2_f n27
  have f30 : ∀ (m : Nat → Nat → Int) (a b : Nat) (v : Int), u2 m 30 a v f b = m f b := fun m a b v => u2_f n30
  have f31 : ∀ (m : Nat → Nat → Int) (a b : Nat) (v : Int), u2 m 31 a v f b = m f b := fun m a b v => u2_f n31
  have f35 : ∀ (m : Nat → Nat → Int) (a b : Nat) (v : Int), u2 m 35 a v f b = m f b := fun m a b v => u2_f n35
  have c_growData : ∀ (m : Nat → Nat → Int) (z_s : Int) (k : Nat), s_growData m z_s f k = m f k := by intros; exact s_growData_fr (by simp only [List.elem_cons, List.elem_nil, beq_eq_false_iff_ne.mpr n11, beq_eq_false_iff_ne.mpr n12]; try rfl)
  have c_growStream : ∀ (m : Nat → Nat → Int) (z_s z_i : Int) (k : Nat), s_growStream m z_s z_i f k = m f k := by intros; exact s_growStream_fr (by simp only [List.elem_cons, List.elem_nil, beq_eq_false_iff_ne.mpr n30, beq_eq_false_iff_ne.mpr n31]; try rfl)
  have c_looksOver : ∀ (m : Nat → Nat → Int) (z_s z_i : Int) (k : Nat), s_looksOver m z_s z_i f k = m f k := by intros; exact s_looksOver_fr (by simp only [List.elem_cons, List.elem_nil, beq_eq_false_iff_ne.mpr n10, beq_eq_false_iff_ne.mpr n13, beq_eq_false_iff_ne.mpr n35]; try rfl)
  intro d
  induction d with
  | zero => intros; rfl
  | succ d ih =>
    intro y ν
    rw [s_read_43]
    repeat' with_reducible apply f_ite
    all_goals first | rfl | simp only [f0, f4, f5, f10, f11, f12, f13, f27, f30, f31, f35, c_growData, c_growStream, c_looksOver, ih]
set_option maxRecDepth 100000 in
theorem s_read_fr {f kk : Nat} {s i q : Int} (hf : [0, 4, 5, 10, 11, 12, 13, 27, 30, 31, 35].elem f = false) : s_read μ s i q f kk = μ f kk := by
  have n0 : f ≠ 0 := by rintro rfl; exact absurd hf (by decide)
  have n4 : f ≠ 4 := by rintro rfl; exact absurd hf (by decide)
  have n5 : f ≠ 5 := by rintro rfl; exact absurd hf (by decide)
  have n10 : f ≠ 10 := by rintro rfl; exact absurd hf (by decide)
  have n11 : f ≠ 11 := by rintro rfl; exact absurd hf (by decide)
  have n12 : f ≠ 12 := by rintro rfl; exact absurd hf (by decide)
  have n13 : f ≠ 13 := by rintro rfl; exact absurd hf (by decide)
  have n27 : f ≠ 27 := by rintro rfl; exact absurd hf (by decide)
  have n30 : f ≠ 30 := by rintro rfl; exact absurd hf (by decide)
  have n31 : f ≠ 31 := by rintro rfl; exact absurd hf (by decide)
  have n35 : f ≠ 35 := by rintro rfl; exact absurd hf (by decide)
  have f0 : ∀ (m : Nat → Nat → Int) (a b : Nat) (v : Int), u2 m 0 a v f b = m f b := fun m a b v => u2_f n0
  have f4 : ∀ (m : Nat → Nat → Int) (a b : Nat) (v : Int), u2 m 4 a v f b = m f b := fun m a b v => u2_f n4
  have f5 : ∀ (m : Nat → Nat → Int) (a b : Nat) (v : Int), u2 m 5 a v f b = m f b := fun m a b v => u2_f n5
  have f10 : ∀ (m : Nat → Nat → Int) (a b : Nat) (v : Int), u2 m 10 a v f b = m f b := fun m a b v => u2_f n10
  have f11 : ∀ (m : Nat → Nat → Int) (a b : Nat) (v : Int), u2 m 11 a v f b = m f b := fun m a b v => u2_f n11
  have f12 : ∀ (m : Nat → Nat → Int) (a b : Nat) (v : Int), u2 m 12 a v f b = m f b := fun m a b v => u2_f n12
  have f13 : ∀ (m : Nat → Nat → Int) (a b : Nat) (v : Int), u2 m 13 a v f b = m f b := fun m a b v => u2_f n13
  have f27 : ∀ (m : Nat → Nat → Int) (a b : Nat) (v : Int), u2 m 27 a v f b = m f b := fun m a b v => u2_f n27
  have f30 : ∀ (m : Nat → Nat → Int) (a b : Nat) (v : Int), u2 m 30 a v f b = m f b := fun m a b v => u2_f n30
  have f31 : ∀ (m : Nat → Nat → Int) (a b : Nat) (v : Int), u2 m 31 a v f b = m f b := fun m a b v => u2_f n31
  have f35 : ∀ (m : Nat → Nat → Int) (a b : Nat) (v : Int), u2 m 35 a v f b = m f b := fun m a b v => u2_f n35
  have c_growData : ∀ (m : Nat → Nat → Int) (z_s : Int) (k : Nat), s_growData m z_s f k = m f k := by intros; exact s_growData_fr (by simp only [List.elem_cons, List.elem_nil, beq_eq_false_iff_ne.mpr n11, beq_eq_false_iff_ne.mpr n12]; try rfl)
  have c_growStream : ∀ (m : Nat → Nat → Int) (z_s z_i : Int) (k : Nat), s_growStream m z_s z_i f k = m f k := by intros; exact s_growStream_fr (by simp only [List.elem_cons, List.elem_nil, beq_eq_false_iff_ne.mpr n30, beq_eq_false_iff_ne.mpr n31]; try rfl)
  have c_looksOver : ∀ (m : Nat → Nat → Int) (z_s z_i : Int) (k : Nat), s_looksOver m z_s z_i f k = m f k := by intros; exact s_looksOver_fr (by simp only [List.elem_cons, List.elem_nil, beq_eq_false_iff_ne.mpr n10, beq_eq_false_iff_ne.mpr n13, beq_eq_false_iff_ne.mpr n35]; try rfl)
  unfold s_read
  repeat' with_reducible apply f_ite
  all_goals first | rfl | simp only [f0, f4, f5, f10, f11, f12, f13, f27, f30, f31, f35, c_growData, c_growStream, c_looksOver, s_read_43_fr hf]
def v_line (μ : Nat → Nat → Int) (p q : Int) : Int := (if (v_noPlace μ p) = 0 then (if q < 0 then 0 else (if q ≤ 6 then (if q = 0 then (μ 51 p.toNat) else (if q = 1 then (μ 52 p.toNat) else (if q = 2 then (μ 53 p.toNat) else (if q = 3 then (μ 54 p.toNat) else (if q = 4 then (μ 55 p.toNat) else (if q = 5 then (μ 56 p.toNat) else (μ 57 p.toNat))))))) else 0)) else 0)
def s_line (μ : Nat → Nat → Int) (p q : Int) : Nat → Nat → Int := (if (v_noPlace μ p) = 0 then (if q < 0 then (u2 μ 0 0 1) else (if q ≤ 6 then (if q = 0 then (u2 μ 0 0 0) else (if q = 1 then (u2 μ 0 0 0) else (if q = 2 then (u2 μ 0 0 0) else (if q = 3 then (u2 μ 0 0 0) else (if q = 4 then (u2 μ 0 0 0) else (if q = 5 then (u2 μ 0 0 0) else (u2 μ 0 0 0))))))) else (u2 μ 0 0 1))) else (u2 μ 0 0 1))
set_option maxRecDepth 100000 in
theorem m_line (hF : mm_F G) (htr : L.stackTraces = false) (hx : mx A ax) (hV : mV μ) {p q : Int} (h1 : -2147483648 ≤ p) (h1a : p < 2147483648) (h2 : -2147483648 ≤ q) (h2a : q < 2147483648) :
    mm_Met L G SX6_line [.ref (A 99), .int (iI p), .int (iI q)] (hm G A ax h0 μ) 0 0 (mRetS (some (.long (iL (v_line μ p q)))) (hm G A ax h0 (s_line μ p q)) (mV (s_line μ p q))) mm_no := by
  refine mi_meth MX6_line 400 hF htr okX6_line (av := [aR (A 99), aI p, aI q]) (by decide +kernel) (Nat.le_of_ble_eq_true rfl) cmX6_line (fun θ hc => ?_)
  refine ⟨⟨_, hm_oi hx⟩, _, _, _, _, (m_noPlace hF htr hx hV (p := p) (by omega) (by omega)), Nat.le_refl _, Nat.le_refl _, mki_ (r := some (aI (v_noPlace μ p))) ?_, fun _ _ q => q.elim⟩
  have t1 := noPlace_b (μ := μ) (p := p)
  refine ⟨by omega, fun (e2 : ¬ ((v_noPlace μ p) = 0)) => ?_, fun (e2 : (v_noPlace μ p) = 0) => ?_⟩
  · refine ⟨⟨_, hm_oi hx⟩, _, _, _, _, (m_fails1 hF htr hx (c := 1)), Nat.le_refl _, Nat.le_refl _, mki_ (r := some (aI 1)) ?_, fun _ _ q => q.elim⟩
    have hV3 := hV.u (f := 0) (k := 0) (v := 1) (show 0 ≤ 1 ∧ 1 ≤ 2 from by omega)
    refine ⟨by omega, fun (e : (1 : Int) = 0) => absurd e (by decide), fun _ => ?_⟩
    refine ⟨0, rfl, ?_⟩
    exact ⟨mRetLS (by first | exact if_neg e2 | (unfold v_line; rw [if_neg e2])) (by first | exact if_neg e2 | (unfold s_line; rw [if_neg e2])) hV3, Nat.le_refl _, Nat.le_refl _⟩
  · refine ⟨by omega, fun (e4 : q < 0) => ?_, fun (e4 : ¬ (q < 0)) => ?_⟩
    · refine ⟨⟨_, hm_oi hx⟩, _, _, _, _, (m_fails1 hF htr hx (c := 1)), Nat.le_refl _, Nat.le_refl _, mki_ (r := some (aI 1)) ?_, fun _ _ q => q.elim⟩
      have hV5 := hV.u (f := 0) (k := 0) (v := 1) (show 0 ≤ 1 ∧ 1 ≤ 2 from by omega)
      refine ⟨by omega, fun (e : (1 : Int) = 0) => absurd e (by decide), fun _ => ?_⟩
      refine ⟨0, rfl, ?_⟩
      exact ⟨mRetLS (by first | exact (if_pos e2).trans (if_pos e4) | (unfold v_line; rw [if_pos e2, if_pos e4])) (by first | exact (if_pos e2).trans (if_pos e4) | (unfold s_line; rw [if_pos e2, if_pos e4])) hV5, Nat.le_refl _, Nat.le_refl _⟩
    · refine ⟨by omega, fun (e6 : q ≤ 6) => ?_, fun (e6 : ¬ (q ≤ 6)) => ?_⟩
      · refine ⟨⟨_, hm_oi hx⟩, _, _, _, _, (m_fails0 hF htr hx (c := 1)), Nat.le_refl _, Nat.le_refl _, mki_ (r := some (aI 0)) ?_, fun _ _ q => q.elim⟩
        have hV7 := hV.u (f := 0) (k := 0) (v := 0) (show 0 ≤ 0 ∧ 0 ≤ 2 from by omega)
        refine ⟨by omega, fun _ => ?_, fun (e : ¬ ((0 : Int) = 0)) => (e (by decide)).elim⟩
        refine ⟨by omega, ⟨fun (e8 : q = 0) => ?_, fun (e9 : q = 1) => ?_, fun (e10 : q = 2) => ?_, fun (e11 : q = 3) => ?_, fun (e12 : q = 4) => ?_, fun (e13 : q = 5) => ?_, trivial⟩, fun (e14 : q < 0 ∨ 5 < q) => ?_⟩
        · refine ⟨_, hm_oi hx, aR (A 51), rfl, ?_⟩
          refine ⟨64, _, (μ 51 p.toNat), hm_a hx 51 rfl, by omega, (u2_f (by decide)), ?_⟩
          have t15 := (show 0 ≤ μ 51 p.toNat ∧ μ 51 p.toNat ≤ 1 from hV.g 51 p.toNat)
          refine ⟨by omega, ?_⟩
          exact ⟨mRetLS (by first | exact (if_pos e2).trans ((if_neg e4).trans ((if_pos e6).trans (if_pos e8))) | (unfold v_line; rw [if_pos e2, if_neg e4, if_pos e6, if_pos e8])) (by first | exact (if_pos e2).trans ((if_neg e4).trans ((if_pos e6).trans (if_pos e8))) | (unfold s_line; rw [if_pos e2, if_neg e4, if_pos e6, if_pos e8])) hV7, Nat.le_refl _, Nat.le_refl _⟩
        · have e8n : ¬ (q = 0) := by omega
          refine ⟨_, hm_oi hx, aR (A 52), rfl, ?_⟩
          refine ⟨64, _, (μ 52 p.toNat), hm_a hx 52 rfl, by omega, (u2_f (by decide)), ?_⟩
          have t16 := (show 0 ≤ μ 52 p.toNat ∧ μ 52 p.toNat ≤ 23 from hV.g 52 p.toNat)
          refine ⟨by omega, ?_⟩
          exact ⟨mRetLS (by first | exact (if_pos e2).trans ((if_neg e4).trans ((if_pos e6).trans ((if_neg e8n).trans (if_pos e9)))) | (unfold v_line; rw [if_pos e2, if_neg e4, if_pos e6, if_neg e8n, if_pos e9])) (by first | exact (if_pos e2).trans ((if_neg e4).trans ((if_pos e6).trans ((if_neg e8n).trans (if_pos e9)))) | (unfold s_line; rw [if_pos e2, if_neg e4, if_pos e6, if_neg e8n, if_pos e9])) hV7, Nat.le_refl _, Nat.le_refl _⟩
        · have e8n : ¬ (q = 0) := by omega
          have e9n : ¬ (q = 1) := by omega
          refine ⟨_, hm_oi hx, aR (A 53), rfl, ?_⟩
          refine ⟨64, _, (μ 53 p.toNat), hm_a hx 53 rfl, by omega, (u2_f (by decide)), ?_⟩
          have t17 := (show 0 ≤ μ 53 p.toNat ∧ μ 53 p.toNat ≤ 4611686018427387903 from hV.g 53 p.toNat)
          exact ⟨mRetLS (by first | exact (if_pos e2).trans ((if_neg e4).trans ((if_pos e6).trans ((if_neg e8n).trans ((if_neg e9n).trans (if_pos e10))))) | (unfold v_line; rw [if_pos e2, if_neg e4, if_pos e6, if_neg e8n, if_neg e9n, if_pos e10])) (by first | exact (if_pos e2).trans ((if_neg e4).trans ((if_pos e6).trans ((if_neg e8n).trans ((if_neg e9n).trans (if_pos e10))))) | (unfold s_line; rw [if_pos e2, if_neg e4, if_pos e6, if_neg e8n, if_neg e9n, if_pos e10])) hV7, Nat.le_refl _, Nat.le_refl _⟩
        · have e8n : ¬ (q = 0) := by omega
          have e9n : ¬ (q = 1) := by omega
          have e10n : ¬ (q = 2) := by omega
          refine ⟨_, hm_oi hx, aR (A 54), rfl, ?_⟩
          refine ⟨64, _, (μ 54 p.toNat), hm_a hx 54 rfl, by omega, (u2_f (by decide)), ?_⟩
          have t18 := (show 0 ≤ μ 54 p.toNat ∧ μ 54 p.toNat ≤ 4611686018427387903 from hV.g 54 p.toNat)
          exact ⟨mRetLS (by first | exact (if_pos e2).trans ((if_neg e4).trans ((if_pos e6).trans ((if_neg e8n).trans ((if_neg e9n).trans ((if_neg e10n).trans (if_pos e11)))))) | (unfold v_line; rw [if_pos e2, if_neg e4, if_pos e6, if_neg e8n, if_neg e9n, if_neg e10n, if_pos e11])) (by first | exact (if_pos e2).trans ((if_neg e4).trans ((if_pos e6).trans ((if_neg e8n).trans ((if_neg e9n).trans ((if_neg e10n).trans (if_pos e11)))))) | (unfold s_line; rw [if_pos e2, if_neg e4, if_pos e6, if_neg e8n, if_neg e9n, if_neg e10n, if_pos e11])) hV7, Nat.le_refl _, Nat.le_refl _⟩
        · have e8n : ¬ (q = 0) := by omega
          have e9n : ¬ (q = 1) := by omega
          have e10n : ¬ (q = 2) := by omega
          have e11n : ¬ (q = 3) := by omega
          refine ⟨_, hm_oi hx, aR (A 55), rfl, ?_⟩
          refine ⟨64, _, (μ 55 p.toNat), hm_a hx 55 rfl, by omega, (u2_f (by decide)), ?_⟩
          have t19 := (show 0 ≤ μ 55 p.toNat ∧ μ 55 p.toNat ≤ 4611686018427387903 from hV.g 55 p.toNat)
          exact ⟨mRetLS (by first | exact (if_pos e2).trans ((if_neg e4).trans ((if_pos e6).trans ((if_neg e8n).trans ((if_neg e9n).trans ((if_neg e10n).trans ((if_neg e11n).trans (if_pos e12))))))) | (unfold v_line; rw [if_pos e2, if_neg e4, if_pos e6, if_neg e8n, if_neg e9n, if_neg e10n, if_neg e11n, if_pos e12])) (by first | exact (if_pos e2).trans ((if_neg e4).trans ((if_pos e6).trans ((if_neg e8n).trans ((if_neg e9n).trans ((if_neg e10n).trans ((if_neg e11n).trans (if_pos e12))))))) | (unfold s_line; rw [if_pos e2, if_neg e4, if_pos e6, if_neg e8n, if_neg e9n, if_neg e10n, if_neg e11n, if_pos e12])) hV7, Nat.le_refl _, Nat.le_refl _⟩
        · have e8n : ¬ (q = 0) := by omega
          have e9n : ¬ (q = 1) := by omega
          have e10n : ¬ (q = 2) := by omega
          have e11n : ¬ (q = 3) := by omega
          have e12n : ¬ (q = 4) := by omega
          refine ⟨_, hm_oi hx, aR (A 56), rfl, ?_⟩
          refine ⟨64, _, (μ 56 p.toNat), hm_a hx 56 rfl, by omega, (u2_f (by decide)), ?_⟩
          have t20 := (show 0 ≤ μ 56 p.toNat ∧ μ 56 p.toNat ≤ 1200 from hV.g 56 p.toNat)
          refine ⟨by omega, ?_⟩
          exact ⟨mRetLS (by first | exact (if_pos e2).trans ((if_neg e4).trans ((if_pos e6).trans ((if_neg e8n).trans ((if_neg e9n).trans ((if_neg e10n).trans ((if_neg e11n).trans ((if_neg e12n).trans (if_pos e13)))))))) | (unfold v_line; rw [if_pos e2, if_neg e4, if_pos e6, if_neg e8n, if_neg e9n, if_neg e10n, if_neg e11n, if_neg e12n, if_pos e13])) (by first | exact (if_pos e2).trans ((if_neg e4).trans ((if_pos e6).trans ((if_neg e8n).trans ((if_neg e9n).trans ((if_neg e10n).trans ((if_neg e11n).trans ((if_neg e12n).trans (if_pos e13)))))))) | (unfold s_line; rw [if_pos e2, if_neg e4, if_pos e6, if_neg e8n, if_neg e9n, if_neg e10n, if_neg e11n, if_neg e12n, if_pos e13])) hV7, Nat.le_refl _, Nat.le_refl _⟩
        · have e8n : ¬ (q = 0) := by omega
          have e9n : ¬ (q = 1) := by omega
          have e10n : ¬ (q = 2) := by omega
          have e11n : ¬ (q = 3) := by omega
          have e12n : ¬ (q = 4) := by omega
          have e13n : ¬ (q = 5) := by omega
          refine ⟨_, hm_oi hx, aR (A 57), rfl, ?_⟩
          refine ⟨64, _, (μ 57 p.toNat), hm_a hx 57 rfl, by omega, (u2_f (by decide)), ?_⟩
          have t21 := (show 0 ≤ μ 57 p.toNat ∧ μ 57 p.toNat ≤ 2100 from hV.g 57 p.toNat)
          refine ⟨by omega, ?_⟩
          exact ⟨mRetLS (by first | exact (if_pos e2).trans ((if_neg e4).trans ((if_pos e6).trans ((if_neg e8n).trans ((if_neg e9n).trans ((if_neg e10n).trans ((if_neg e11n).trans ((if_neg e12n).trans (if_neg e13n)))))))) | (unfold v_line; rw [if_pos e2, if_neg e4, if_pos e6, if_neg e8n, if_neg e9n, if_neg e10n, if_neg e11n, if_neg e12n, if_neg e13n])) (by first | exact (if_pos e2).trans ((if_neg e4).trans ((if_pos e6).trans ((if_neg e8n).trans ((if_neg e9n).trans ((if_neg e10n).trans ((if_neg e11n).trans ((if_neg e12n).trans (if_neg e13n)))))))) | (unfold s_line; rw [if_pos e2, if_neg e4, if_pos e6, if_neg e8n, if_neg e9n, if_neg e10n, if_neg e11n, if_neg e12n, if_neg e13n])) hV7, Nat.le_refl _, Nat.le_refl _⟩
      · refine ⟨⟨_, hm_oi hx⟩, _, _, _, _, (m_fails1 hF htr hx (c := 1)), Nat.le_refl _, Nat.le_refl _, mki_ (r := some (aI 1)) ?_, fun _ _ q => q.elim⟩
        have hV22 := hV.u (f := 0) (k := 0) (v := 1) (show 0 ≤ 1 ∧ 1 ≤ 2 from by omega)
        refine ⟨by omega, fun (e : (1 : Int) = 0) => absurd e (by decide), fun _ => ?_⟩
        refine ⟨0, rfl, ?_⟩
        exact ⟨mRetLS (by first | exact (if_pos e2).trans ((if_neg e4).trans (if_neg e6)) | (unfold v_line; rw [if_pos e2, if_neg e4, if_neg e6])) (by first | exact (if_pos e2).trans ((if_neg e4).trans (if_neg e6)) | (unfold s_line; rw [if_pos e2, if_neg e4, if_neg e6])) hV22, Nat.le_refl _, Nat.le_refl _⟩
set_option maxRecDepth 100000 in
theorem s_line_fr {f kk : Nat} {p q : Int} (hf : [0].elem f = false) : s_line μ p q f kk = μ f kk := by
  have n0 : f ≠ 0 := by rintro rfl; exact absurd hf (by decide)
  have f0 : ∀ (m : Nat → Nat → Int) (a b : Nat) (v : Int), u2 m 0 a v f b = m f b := fun m a b v => u2_f n0
  unfold s_line
  repeat' with_reducible apply f_ite
  all_goals first | rfl | simp only [f0]
def v_data (μ : Nat → Nat → Int) (p q : Int) : Int := (if (v_noPlace μ p) = 0 then (if q < 0 then 0 else (if q < (μ 56 p.toNat) then ((μ 60 ((1200 * p) + q).toNat) % 256) else 0)) else 0)
def s_data (μ : Nat → Nat → Int) (p q : Int) : Nat → Nat → Int := (if (v_noPlace μ p) = 0 then (if q < 0 then (u2 (u2 μ 0 0 (if (v_noPlace μ p) = 0 then 0 else 1)) 0 0 1) else (if q < (μ 56 p.toNat) then (u2 (u2 μ 0 0 (if (v_noPlace μ p) = 0 then 0 else 1)) 0 0 0) else (u2 (u2 μ 0 0 (if (v_noPlace μ p) = 0 then 0 else 1)) 0 0 1))) else (u2 μ 0 0 (if (v_noPlace μ p) = 0 then 0 else 1)))
set_option maxRecDepth 100000 in
theorem m_data (hF : mm_F G) (htr : L.stackTraces = false) (hx : mx A ax) (hV : mV μ) {p q : Int} (h1 : -2147483648 ≤ p) (h1a : p < 2147483648) (h2 : -2147483648 ≤ q) (h2a : q < 2147483648) :
    mm_Met L G SX6_data [.ref (A 99), .int (iI p), .int (iI q)] (hm G A ax h0 μ) 0 0 (mRetS (some (.int (iI (v_data μ p q)))) (hm G A ax h0 (s_data μ p q)) (mV (s_data μ p q))) mm_no := by
  refine mi_meth MX6_data 400 hF htr okX6_data (av := [aR (A 99), aI p, aI q]) (by decide +kernel) (Nat.le_of_ble_eq_true rfl) cmX6_data (fun θ hc => ?_)
  refine ⟨⟨_, hm_oi hx⟩, _, _, _, _, (m_noPlace hF htr hx hV (p := p) (by omega) (by omega)), Nat.le_refl _, Nat.le_refl _, mki_ (r := some (aI (v_noPlace μ p))) ?_, fun _ _ q => q.elim⟩
  have t1 := noPlace_b (μ := μ) (p := p)
  refine ⟨⟨_, hm_oi hx⟩, _, _, _, _, (m_failsV hF htr hx (v := (v_noPlace μ p)) (c := 1) (by omega)), Nat.le_refl _, Nat.le_refl _, mki_ (r := some (aI (v_noPlace μ p))) ?_, fun _ _ q => q.elim⟩
  have hV2 := hV.u (f := 0) (k := 0) (v := (if (v_noPlace μ p) = 0 then 0 else 1)) (show 0 ≤ (if (v_noPlace μ p) = 0 then 0 else 1) ∧ (if (v_noPlace μ p) = 0 then 0 else 1) ≤ 2 from by split <;> omega)
  refine ⟨by omega, fun (e3 : ¬ ((v_noPlace μ p) = 0)) => ?_, fun (e3 : (v_noPlace μ p) = 0) => ?_⟩
  · exact ⟨mRetIS (by first | exact if_neg e3 | (unfold v_data; rw [if_neg e3])) (by first | exact if_neg e3 | (unfold s_data; rw [if_neg e3])) hV2, Nat.le_refl _, Nat.le_refl _⟩
  · refine ⟨by omega, fun (e4 : q < 0) => ?_, fun (e4 : ¬ (q < 0)) => ?_⟩
    · refine ⟨⟨_, hm_oi hx⟩, _, _, _, _, (m_fails1 hF htr hx (c := 1)), Nat.le_refl _, Nat.le_refl _, mki_ (r := some (aI 1)) ?_, fun _ _ q => q.elim⟩
      have hV5 := hV2.u (f := 0) (k := 0) (v := 1) (show 0 ≤ 1 ∧ 1 ≤ 2 from by omega)
      refine ⟨by omega, fun (e : (1 : Int) = 0) => absurd e (by decide), fun _ => ?_⟩
      exact ⟨mRetIS (by first | exact (if_pos e3).trans (if_pos e4) | (unfold v_data; rw [if_pos e3, if_pos e4])) (by first | exact (if_pos e3).trans (if_pos e4) | (unfold s_data; rw [if_pos e3, if_pos e4])) hV5, Nat.le_refl _, Nat.le_refl _⟩
    · refine ⟨_, hm_oi hx, aR (A 56), rfl, ?_⟩
      refine ⟨64, _, (μ 56 p.toNat), hm_a hx 56 rfl, by omega, (u2_f (by decide)), ?_⟩
      have t6 := (show 0 ≤ μ 56 p.toNat ∧ μ 56 p.toNat ≤ 1200 from hV.g 56 p.toNat)
      refine ⟨by omega, fun (e7 : q < (μ 56 p.toNat)) => ?_, fun (e7 : ¬ (q < (μ 56 p.toNat))) => ?_⟩
      · refine ⟨⟨_, hm_oi hx⟩, _, _, _, _, (m_fails0 hF htr hx (c := 1)), Nat.le_refl _, Nat.le_refl _, mki_ (r := some (aI 0)) ?_, fun _ _ q => q.elim⟩
        have hV8 := hV2.u (f := 0) (k := 0) (v := 0) (show 0 ≤ 0 ∧ 0 ≤ 2 from by omega)
        refine ⟨by omega, fun _ => ?_, fun (e : ¬ ((0 : Int) = 0)) => (e (by decide)).elim⟩
        refine ⟨_, hm_oi hx, aR (A 60), rfl, ?_⟩
        refine ⟨76800, _, (μ 60 ((1200 * p) + q).toNat), hm_a hx 60 rfl, by omega, (Eq.trans (u2_f (by decide)) (u2_f (by decide))), ?_⟩
        have t9 := (show -128 ≤ μ 60 ((1200 * p) + q).toNat ∧ μ 60 ((1200 * p) + q).toNat ≤ 127 from hV.g 60 ((1200 * p) + q).toNat)
        refine ⟨((μ 60 ((1200 * p) + q).toNat) % 256), iI_and255 _, ?_⟩
        exact ⟨mRetIS (by first | exact (if_pos e3).trans ((if_neg e4).trans (if_pos e7)) | (unfold v_data; rw [if_pos e3, if_neg e4, if_pos e7])) (by first | exact (if_pos e3).trans ((if_neg e4).trans (if_pos e7)) | (unfold s_data; rw [if_pos e3, if_neg e4, if_pos e7])) hV8, Nat.le_refl _, Nat.le_refl _⟩
      · refine ⟨⟨_, hm_oi hx⟩, _, _, _, _, (m_fails1 hF htr hx (c := 1)), Nat.le_refl _, Nat.le_refl _, mki_ (r := some (aI 1)) ?_, fun _ _ q => q.elim⟩
        have hV10 := hV2.u (f := 0) (k := 0) (v := 1) (show 0 ≤ 1 ∧ 1 ≤ 2 from by omega)
        refine ⟨by omega, fun (e : (1 : Int) = 0) => absurd e (by decide), fun _ => ?_⟩
        exact ⟨mRetIS (by first | exact (if_pos e3).trans ((if_neg e4).trans (if_neg e7)) | (unfold v_data; rw [if_pos e3, if_neg e4, if_neg e7])) (by first | exact (if_pos e3).trans ((if_neg e4).trans (if_neg e7)) | (unfold s_data; rw [if_pos e3, if_neg e4, if_neg e7])) hV10, Nat.le_refl _, Nat.le_refl _⟩
set_option maxRecDepth 100000 in
theorem s_data_fr {f kk : Nat} {p q : Int} (hf : [0].elem f = false) : s_data μ p q f kk = μ f kk := by
  have n0 : f ≠ 0 := by rintro rfl; exact absurd hf (by decide)
  have f0 : ∀ (m : Nat → Nat → Int) (a b : Nat) (v : Int), u2 m 0 a v f b = m f b := fun m a b v => u2_f n0
  unfold s_data
  repeat' with_reducible apply f_ite
  all_goals first | rfl | simp only [f0]
def v_outs_19 (μ : Nat → Nat → Int) (q : Int) : Nat → Int → Int → (Nat → Nat → Int) → Int
  | 0, _, _, _ => 0
  | d + 1, v, j, ν => (if 8 ≤ j then v else (if (ν 5 0) ≤ (q + j) then v else (v_outs_19 μ q d (v + ((ν 4 (q + j).toNat) * 2 ^ (8 * j).toNat)) (j + 1) ν)))
def s_outs_19 (μ : Nat → Nat → Int) (q : Int) : Nat → Int → Int → (Nat → Nat → Int) → (Nat → Nat → Int)
  | 0, _, _, ν => ν
  | d + 1, v, j, ν => (if 8 ≤ j then ν else (if (ν 5 0) ≤ (q + j) then ν else (s_outs_19 μ q d (v + ((ν 4 (q + j).toNat) * 2 ^ (8 * j).toNat)) (j + 1) ν)))
def v_outs (μ : Nat → Nat → Int) (q : Int) : Int := (if q < 0 then 0 else (if q < (μ 5 0) then (v_outs_19 μ q 9 0 0 (u2 μ 0 0 0)) else 0))
def s_outs (μ : Nat → Nat → Int) (q : Int) : Nat → Nat → Int := (if q < 0 then (u2 μ 0 0 1) else (if q < (μ 5 0) then (s_outs_19 μ q 9 0 0 (u2 μ 0 0 0)) else (u2 μ 0 0 1)))
set_option maxRecDepth 100000 in
theorem m_outs (hF : mm_F G) (htr : L.stackTraces = false) (hx : mx A ax) (hV : mV μ) {q : Int} (h1 : -2147483648 ≤ q) (h1a : q < 2147483648) :
    mm_Met L G SX6_outs [.ref (A 99), .int (iI q)] (hm G A ax h0 μ) 0 0 (mRetS (some (.long (iL (v_outs μ q)))) (hm G A ax h0 (s_outs μ q)) (mV (s_outs μ q))) mm_no := by
  refine mi_meth MX6_outs 400 hF htr okX6_outs (av := [aR (A 99), aI q]) (by decide +kernel) (Nat.le_of_ble_eq_true rfl) cmX6_outs (fun θ hc => ?_)
  have loop19 : ∀ (R : Int) (S : Nat → Nat → Int) (d : Nat) (v j : Int) (ν : Nat → Nat → Int) (hV : mV ν), (0 ≤ q ∧ q < ν 5 0) → (0 ≤ j ∧ j ≤ 8) → (0 ≤ v ∧ v < 2 ^ (8 * j).toNat) → (8 - j) < (d : Int) → v_outs_19 μ q d v j ν = R → s_outs_19 μ q d v j ν = S → mi_W L G MX6_outs 0 0 (mRetS (some (.long (iL R))) (hm G A ax h0 S) (mV S)) mm_no θ 19 [(2, aL v), (4, aI j), (0, aR (A 99)), (1, aI q)] [] (hm G A ax h0 ν) 0 0 := by
    intro R S d
    induction d with
    | zero =>
      intro v j ν hV hi0 hi1 hv hms hvr hsr
      omega
    | succ d ih =>
      intro v j ν hV hi0 hi1 hv hms hvr hsr
      refine mi_sound hc okX6_outs 400 _ _ _ _ _ _ ?_
      refine ⟨by omega, fun (e1 : 8 ≤ j) => ?_, fun (e1 : ¬ (8 ≤ j)) => ?_⟩
      · exact ⟨mRetLS (hvr.symm.trans (by first | exact if_pos e1 | (rw [v_outs_19]; rw [if_pos e1]))) (hsr.symm.trans (by first | exact if_pos e1 | (rw [s_outs_19]; rw [if_pos e1]))) hV, Nat.le_refl _, Nat.le_refl _⟩
      · refine ⟨_, hm_oi hx, aI (ν 5 0), rfl, ?_⟩
        have t2 := (show 0 ≤ ν 5 0 ∧ ν 5 0 ≤ 2048 from hV.g 5 0)
        refine ⟨by omega, fun (e3 : (ν 5 0) ≤ (q + j)) => ?_, fun (e3 : ¬ ((ν 5 0) ≤ (q + j))) => ?_⟩
        · exact ⟨mRetLS (hvr.symm.trans (by first | exact (if_neg e1).trans (if_pos e3) | (rw [v_outs_19]; rw [if_neg e1, if_pos e3]))) (hsr.symm.trans (by first | exact (if_neg e1).trans (if_pos e3) | (rw [s_outs_19]; rw [if_neg e1, if_pos e3]))) hV, Nat.le_refl _, Nat.le_refl _⟩
        · refine ⟨_, hm_oi hx, aR (A 4), rfl, ?_⟩
          refine ⟨2048, _, (ν 4 (q + j).toNat), hm_a hx 4 rfl, by omega, rfl, ?_⟩
          have t4 := (show 0 ≤ ν 4 (q + j).toNat ∧ ν 4 (q + j).toNat ≤ 255 from hV.g 4 (q + j).toNat)
          refine ⟨by omega, ?_⟩
          refine ⟨((ν 4 (q + j).toNat) * 2 ^ (8 * j).toNat), iL_shl (by omega) (by omega), ?_⟩
          refine ⟨(v + ((ν 4 (q + j).toNat) * 2 ^ (8 * j).toNat)), iL_or hv (by omega) (by omega), ?_⟩
          exact mi_Wsub (List.forall_mem_cons.mpr ⟨(.tail _ (.head _)), List.forall_mem_cons.mpr ⟨(.head _), List.forall_mem_cons.mpr ⟨(.tail _ (.tail _ (.head _))), List.forall_mem_cons.mpr ⟨(.tail _ (.tail _ (.tail _ (.head _)))), fun _ h => absurd h List.not_mem_nil⟩⟩⟩⟩) (ih (v + ((ν 4 (q + j).toNat) * 2 ^ (8 * j).toNat)) (j + 1) ν hV (show 0 ≤ q ∧ q < (ν 5 0) from by omega) (show 0 ≤ (j + 1) ∧ (j + 1) ≤ 8 from by omega) (outs_v hv (by omega) (by omega)) (show (8 - (j + 1)) < (d : Int) from by omega) (Eq.trans (by first | exact ((if_neg e1).trans (if_neg e3)).symm | (rw [v_outs_19]; rw [if_neg e1, if_neg e3])) hvr) (Eq.trans (by first | exact ((if_neg e1).trans (if_neg e3)).symm | (rw [s_outs_19]; rw [if_neg e1, if_neg e3])) hsr))
  refine ⟨by omega, fun (e5 : q < 0) => ?_, fun (e5 : ¬ (q < 0)) => ?_⟩
  · refine ⟨⟨_, hm_oi hx⟩, _, _, _, _, (m_fails1 hF htr hx (c := 1)), Nat.le_refl _, Nat.le_refl _, mki_ (r := some (aI 1)) ?_, fun _ _ q => q.elim⟩
    have hV6 := hV.u (f := 0) (k := 0) (v := 1) (show 0 ≤ 1 ∧ 1 ≤ 2 from by omega)
    refine ⟨by omega, fun (e : (1 : Int) = 0) => absurd e (by decide), fun _ => ?_⟩
    refine ⟨0, rfl, ?_⟩
    exact ⟨mRetLS (by first | exact if_pos e5 | (unfold v_outs; rw [if_pos e5])) (by first | exact if_pos e5 | (unfold s_outs; rw [if_pos e5])) hV6, Nat.le_refl _, Nat.le_refl _⟩
  · refine ⟨_, hm_oi hx, aI (μ 5 0), rfl, ?_⟩
    have t7 := (show 0 ≤ μ 5 0 ∧ μ 5 0 ≤ 2048 from hV.g 5 0)
    refine ⟨by omega, fun (e8 : q < (μ 5 0)) => ?_, fun (e8 : ¬ (q < (μ 5 0))) => ?_⟩
    · refine ⟨⟨_, hm_oi hx⟩, _, _, _, _, (m_fails0 hF htr hx (c := 1)), Nat.le_refl _, Nat.le_refl _, mki_ (r := some (aI 0)) ?_, fun _ _ q => q.elim⟩
      have hV9 := hV.u (f := 0) (k := 0) (v := 0) (show 0 ≤ 0 ∧ 0 ≤ 2 from by omega)
      refine ⟨by omega, fun _ => ?_, fun (e : ¬ ((0 : Int) = 0)) => (e (by decide)).elim⟩
      refine ⟨0, rfl, ?_⟩
      exact mi_Wsub (List.forall_mem_cons.mpr ⟨(.tail _ (.head _)), List.forall_mem_cons.mpr ⟨(.head _), List.forall_mem_cons.mpr ⟨(.tail _ (.tail _ (.head _))), List.forall_mem_cons.mpr ⟨(.tail _ (.tail _ (.tail _ (.head _)))), fun _ h => absurd h List.not_mem_nil⟩⟩⟩⟩) (loop19 _ _ 9 0 0 (u2 μ 0 0 0) hV9 (show 0 ≤ q ∧ q < (μ 5 0) from by omega) (show 0 ≤ 0 ∧ 0 ≤ 8 from by omega) (by decide) (show (8 - 0) < (9 : Int) from by omega) (by first | exact ((if_neg e5).trans (if_pos e8)).symm | (unfold v_outs; rw [if_neg e5, if_pos e8])) (by first | exact ((if_neg e5).trans (if_pos e8)).symm | (unfold s_outs; rw [if_neg e5, if_pos e8])))
    · refine ⟨⟨_, hm_oi hx⟩, _, _, _, _, (m_fails1 hF htr hx (c := 1)), Nat.le_refl _, Nat.le_refl _, mki_ (r := some (aI 1)) ?_, fun _ _ q => q.elim⟩
      have hV10 := hV.u (f := 0) (k := 0) (v := 1) (show 0 ≤ 1 ∧ 1 ≤ 2 from by omega)
      refine ⟨by omega, fun (e : (1 : Int) = 0) => absurd e (by decide), fun _ => ?_⟩
      refine ⟨0, rfl, ?_⟩
      exact ⟨mRetLS (by first | exact (if_neg e5).trans (if_neg e8) | (unfold v_outs; rw [if_neg e5, if_neg e8])) (by first | exact (if_neg e5).trans (if_neg e8) | (unfold s_outs; rw [if_neg e5, if_neg e8])) hV10, Nat.le_refl _, Nat.le_refl _⟩
set_option maxRecDepth 100000 in
theorem s_outs_19_fr {f kk : Nat} {q : Int} (hf : [0].elem f = false) : ∀ (d : Nat) (v j : Int) (ν : Nat → Nat → Int), s_outs_19 μ q d v j ν f kk = ν f kk := by
  have n0 : f ≠ 0 := by rintro rfl; exact absurd hf (by decide)
  have f0 : ∀ (m : Nat → Nat → Int) (a b : Nat) (v : Int), u2 m 0 a v f b = m f b := fun m a b v => u2_f n0
  intro d
  induction d with
  | zero => intros; rfl
  | succ d ih =>
    intro v j ν
    rw [s_outs_19]
    repeat' with_reducible apply f_ite
    all_goals first | rfl | simp only [f0, ih]
set_option maxRecDepth 100000 in
theorem s_outs_fr {f kk : Nat} {q : Int} (hf : [0].elem f = false) : s_outs μ q f kk = μ f kk := by
  have n0 : f ≠ 0 := by rintro rfl; exact absurd hf (by decide)
  have f0 : ∀ (m : Nat → Nat → Int) (a b : Nat) (v : Int), u2 m 0 a v f b = m f b := fun m a b v => u2_f n0
  unfold s_outs
  repeat' with_reducible apply f_ite
  all_goals first | rfl | simp only [f0, s_outs_19_fr hf]
def v_endOf (μ : Nat → Nat → Int) (q : Int) : Int := (if (μ 19 q.toNat) = 0 then 0 else (1 + (μ 20 q.toNat)))
set_option maxRecDepth 100000 in
theorem m_endOf (hF : mm_F G) (htr : L.stackTraces = false) (hx : mx A ax) (hV : mV μ) {q : Int} (h1 : 0 ≤ q) (h2 : q < 512) :
    mm_Met L G SX6_endOf [.ref (A 99), .int (iI q)] (hm G A ax h0 μ) 0 0 (mRet (some (.int (iI (v_endOf μ q)))) (hm G A ax h0 μ)) mm_no := by
  refine mi_meth MX6_endOf 400 hF htr okX6_endOf (av := [aR (A 99), aI q]) (by decide +kernel) (Nat.le_of_ble_eq_true rfl) cmX6_endOf (fun θ hc => ?_)
  refine ⟨_, hm_oi hx, aR (A 19), rfl, ?_⟩
  refine ⟨512, _, (μ 19 q.toNat), hm_a hx 19 rfl, by omega, rfl, ?_⟩
  have t1 := (show 0 ≤ μ 19 q.toNat ∧ μ 19 q.toNat ≤ 1 from hV.g 19 q.toNat)
  refine ⟨by omega, fun (e2 : ¬ ((μ 19 q.toNat) = 0)) => ?_, fun (e2 : (μ 19 q.toNat) = 0) => ?_⟩
  · refine ⟨_, hm_oi hx, aR (A 20), rfl, ?_⟩
    refine ⟨512, _, (μ 20 q.toNat), hm_a hx 20 rfl, by omega, rfl, ?_⟩
    have t3 := (show 0 ≤ μ 20 q.toNat ∧ μ 20 q.toNat ≤ 3 from hV.g 20 q.toNat)
    exact ⟨mRetI (by first | exact if_neg e2 | (unfold v_endOf; rw [if_neg e2])) rfl, Nat.le_refl _, Nat.le_refl _⟩
  · exact ⟨mRetI (by first | exact if_pos e2 | (unfold v_endOf; rw [if_pos e2])) rfl, Nat.le_refl _, Nat.le_refl _⟩
set_option maxRecDepth 100000 in
theorem v_endOf_cg {μ μ' : Nat → Nat → Int} {q : Int} (h : ∀ f, [19, 20].elem f = true → ∀ k, μ f k = μ' f k) : v_endOf μ q = v_endOf μ' q := by
  have q19 := h 19 rfl
  have q20 := h 20 rfl
  unfold v_endOf
  simp only [q19, q20]
theorem v_endOf_u {f k : Nat} {v : Int} {q : Int} (hf : [19, 20].elem f = false) : v_endOf (u2 μ f k v) q = v_endOf μ q := v_endOf_cg (fun g hg q => u2_f (by rintro rfl; rw [hg] at hf; cases hf))
theorem endOf_b (hV : mV μ) {q : Int} : 0 ≤ v_endOf μ q ∧ v_endOf μ q ≤ 4 := by
  have r : 0 ≤ μ 20 q.toNat ∧ μ 20 q.toNat ≤ 3 := hV 20 _
  unfold v_endOf
  repeat' split
  all_goals omega
def v_sendingLook (μ : Nat → Nat → Int) (s i w : Int) : Int := (if w = 0 then (mSend μ s i) else (if w = 1 then (mCnt μ s i (-1) (mTot μ s)) else (if w = 2 then (mCnt μ s i (-2) (mTot μ s)) else (if w = 3 then (μ 18 (mj s i)) else (if w = 4 then (if (μ 21 (mj s i)) ≤ 0 then 0 else (μ 23 (mj s i))) else (if w = 5 then (mCnt μ s i 2 (mTot μ s)) else (if w = 6 then (mCnt μ s i 3 (mTot μ s)) else (v_endOf μ ((256 * s) + i)))))))))
set_option maxRecDepth 100000 in
theorem m_sendingLook (hF : mm_F G) (htr : L.stackTraces = false) (hx : mx A ax) (hV : mV μ) {s i w : Int} (h1 : 0 ≤ s) (h2 : s ≤ 1) (h3 : 0 ≤ i) (h4 : i < 256) (h5 : 0 ≤ w) (h6 : w ≤ 7) :
    mm_Met L G SX6_sendingLook [.ref (A 99), .int (iI s), .int (iI i), .int (iI w)] (hm G A ax h0 μ) 0 0 (mRet (some (.long (iL (v_sendingLook μ s i w)))) (hm G A ax h0 μ)) mm_no := by
  refine mi_meth MX6_sendingLook 400 hF htr okX6_sendingLook (av := [aR (A 99), aI s, aI i, aI w]) (by decide +kernel) (Nat.le_of_ble_eq_true rfl) cmX6_sendingLook (fun θ hc => ?_)
  refine ⟨_, _, _, _, (m_at hF htr (s := s) (i := i)), Nat.le_refl _, Nat.le_refl _, mki_ (r := some (aI ((256 * s) + i))) ?_, fun _ _ q => q.elim⟩
  refine ⟨by omega, ⟨fun (e1 : w = 0) => ?_, fun (e2 : w = 1) => ?_, fun (e3 : w = 2) => ?_, fun (e4 : w = 3) => ?_, fun (e5 : w = 4) => ?_, fun (e6 : w = 5) => ?_, fun (e7 : w = 6) => ?_, trivial⟩, fun (e8 : w < 0 ∨ 6 < w) => ?_⟩
  · refine mi_nl [(4, aI ((256 * s) + i)), (0, aR (A 99)), (1, aI s), (2, aI i), (3, aI w)] rfl ?_
    refine ⟨⟨_, hm_oi hx⟩, _, _, _, _, (m_sending hF htr hx hV.T hV.N (s := s) (i := i) (by omega) (by omega) (by omega) (by omega)), Nat.le_refl _, Nat.le_refl _, mki_ (r := some (aI (mSend μ s i))) ?_, fun _ _ q => q.elim⟩
    have t9 := hV.snd s i
    refine ⟨by omega, ?_⟩
    exact ⟨mRetL (by first | exact if_pos e1 | (unfold v_sendingLook; rw [if_pos e1])) rfl, Nat.le_refl _, Nat.le_refl _⟩
  · have e1n : ¬ (w = 0) := by omega
    refine mi_nl [(4, aI ((256 * s) + i)), (0, aR (A 99)), (1, aI s), (2, aI i), (3, aI w)] rfl ?_
    refine ⟨⟨_, hm_oi hx⟩, _, _, _, _, (m_written hF htr hx hV.T hV.N (s := s) (i := i) (by omega) (by omega) (by omega) (by omega)), Nat.le_refl _, Nat.le_refl _, mki_ (r := some (aI (mCnt μ s i (-1) (mTot μ s)))) ?_, fun _ _ q => q.elim⟩
    have t10 := hV.cnt (s := s) i (-1) (by omega) (by omega)
    refine ⟨by omega, ?_⟩
    exact ⟨mRetL (by first | exact (if_neg e1n).trans (if_pos e2) | (unfold v_sendingLook; rw [if_neg e1n, if_pos e2])) rfl, Nat.le_refl _, Nat.le_refl _⟩
  · have e1n : ¬ (w = 0) := by omega
    have e2n : ¬ (w = 1) := by omega
    refine mi_nl [(4, aI ((256 * s) + i)), (0, aR (A 99)), (1, aI s), (2, aI i), (3, aI w)] rfl ?_
    refine ⟨⟨_, hm_oi hx⟩, _, _, _, _, (m_sent hF htr hx hV.T hV.N (s := s) (i := i) (by omega) (by omega) (by omega) (by omega)), Nat.le_refl _, Nat.le_refl _, mki_ (r := some (aI (mCnt μ s i (-2) (mTot μ s)))) ?_, fun _ _ q => q.elim⟩
    have t11 := hV.cnt (s := s) i (-2) (by omega) (by omega)
    refine ⟨by omega, ?_⟩
    exact ⟨mRetL (by first | exact (if_neg e1n).trans ((if_neg e2n).trans (if_pos e3)) | (unfold v_sendingLook; rw [if_neg e1n, if_neg e2n, if_pos e3])) rfl, Nat.le_refl _, Nat.le_refl _⟩
  · have e1n : ¬ (w = 0) := by omega
    have e2n : ¬ (w = 1) := by omega
    have e3n : ¬ (w = 2) := by omega
    refine mi_nl [(4, aI ((256 * s) + i)), (0, aR (A 99)), (1, aI s), (2, aI i), (3, aI w)] rfl ?_
    refine ⟨_, hm_oi hx, aR (A 18), rfl, ?_⟩
    refine ⟨512, _, (μ 18 (mj s i)), hm_a hx 18 rfl, by omega, rfl, ?_⟩
    have t12 := (show 0 ≤ μ 18 (mj s i) ∧ μ 18 (mj s i) ≤ 4611686018427387903 from hV.g 18 (mj s i))
    exact ⟨mRetL (by first | exact (if_neg e1n).trans ((if_neg e2n).trans ((if_neg e3n).trans (if_pos e4))) | (unfold v_sendingLook; rw [if_neg e1n, if_neg e2n, if_neg e3n, if_pos e4])) rfl, Nat.le_refl _, Nat.le_refl _⟩
  · have e1n : ¬ (w = 0) := by omega
    have e2n : ¬ (w = 1) := by omega
    have e3n : ¬ (w = 2) := by omega
    have e4n : ¬ (w = 3) := by omega
    refine mi_nl [(4, aI ((256 * s) + i)), (0, aR (A 99)), (1, aI s), (2, aI i), (3, aI w)] rfl ?_
    refine ⟨_, hm_oi hx, aR (A 21), rfl, ?_⟩
    refine ⟨512, _, (μ 21 (mj s i)), hm_a hx 21 rfl, by omega, rfl, ?_⟩
    have t13 := (show 0 ≤ μ 21 (mj s i) ∧ μ 21 (mj s i) ≤ 2 from hV.g 21 (mj s i))
    refine ⟨by omega, fun (e14 : (μ 21 (mj s i)) ≤ 0) => ?_, fun (e14 : ¬ ((μ 21 (mj s i)) ≤ 0)) => ?_⟩
    · refine ⟨0, rfl, ?_⟩
      exact ⟨mRetL (by first | exact (if_neg e1n).trans ((if_neg e2n).trans ((if_neg e3n).trans ((if_neg e4n).trans ((if_pos e5).trans (if_pos e14))))) | (unfold v_sendingLook; rw [if_neg e1n, if_neg e2n, if_neg e3n, if_neg e4n, if_pos e5, if_pos e14])) rfl, Nat.le_refl _, Nat.le_refl _⟩
    · refine ⟨_, hm_oi hx, aR (A 23), rfl, ?_⟩
      refine ⟨512, _, (μ 23 (mj s i)), hm_a hx 23 rfl, by omega, rfl, ?_⟩
      have t15 := (show 0 ≤ μ 23 (mj s i) ∧ μ 23 (mj s i) ≤ 4611686018427387903 from hV.g 23 (mj s i))
      exact ⟨mRetL (by first | exact (if_neg e1n).trans ((if_neg e2n).trans ((if_neg e3n).trans ((if_neg e4n).trans ((if_pos e5).trans (if_neg e14))))) | (unfold v_sendingLook; rw [if_neg e1n, if_neg e2n, if_neg e3n, if_neg e4n, if_pos e5, if_neg e14])) rfl, Nat.le_refl _, Nat.le_refl _⟩
  · have e1n : ¬ (w = 0) := by omega
    have e2n : ¬ (w = 1) := by omega
    have e3n : ¬ (w = 2) := by omega
    have e4n : ¬ (w = 3) := by omega
    have e5n : ¬ (w = 4) := by omega
    refine mi_nl [(4, aI ((256 * s) + i)), (0, aR (A 99)), (1, aI s), (2, aI i), (3, aI w)] rfl ?_
    refine ⟨⟨_, hm_oi hx⟩, _, _, _, _, (m_count hF htr hx hV.T hV.N (s := s) (i := i) (st := 2) (by omega) (by omega) (by omega) (by omega) (by omega) (by omega)), Nat.le_refl _, Nat.le_refl _, mki_ (r := some (aI (mCnt μ s i 2 (mTot μ s)))) ?_, fun _ _ q => q.elim⟩
    have t16 := hV.cnt (s := s) i 2 (by omega) (by omega)
    refine ⟨by omega, ?_⟩
    exact ⟨mRetL (by first | exact (if_neg e1n).trans ((if_neg e2n).trans ((if_neg e3n).trans ((if_neg e4n).trans ((if_neg e5n).trans (if_pos e6))))) | (unfold v_sendingLook; rw [if_neg e1n, if_neg e2n, if_neg e3n, if_neg e4n, if_neg e5n, if_pos e6])) rfl, Nat.le_refl _, Nat.le_refl _⟩
  · have e1n : ¬ (w = 0) := by omega
    have e2n : ¬ (w = 1) := by omega
    have e3n : ¬ (w = 2) := by omega
    have e4n : ¬ (w = 3) := by omega
    have e5n : ¬ (w = 4) := by omega
    have e6n : ¬ (w = 5) := by omega
    refine mi_nl [(4, aI ((256 * s) + i)), (0, aR (A 99)), (1, aI s), (2, aI i), (3, aI w)] rfl ?_
    refine ⟨⟨_, hm_oi hx⟩, _, _, _, _, (m_count hF htr hx hV.T hV.N (s := s) (i := i) (st := 3) (by omega) (by omega) (by omega) (by omega) (by omega) (by omega)), Nat.le_refl _, Nat.le_refl _, mki_ (r := some (aI (mCnt μ s i 3 (mTot μ s)))) ?_, fun _ _ q => q.elim⟩
    have t17 := hV.cnt (s := s) i 3 (by omega) (by omega)
    refine ⟨by omega, ?_⟩
    exact ⟨mRetL (by first | exact (if_neg e1n).trans ((if_neg e2n).trans ((if_neg e3n).trans ((if_neg e4n).trans ((if_neg e5n).trans ((if_neg e6n).trans (if_pos e7)))))) | (unfold v_sendingLook; rw [if_neg e1n, if_neg e2n, if_neg e3n, if_neg e4n, if_neg e5n, if_neg e6n, if_pos e7])) rfl, Nat.le_refl _, Nat.le_refl _⟩
  · have e1n : ¬ (w = 0) := by omega
    have e2n : ¬ (w = 1) := by omega
    have e3n : ¬ (w = 2) := by omega
    have e4n : ¬ (w = 3) := by omega
    have e5n : ¬ (w = 4) := by omega
    have e6n : ¬ (w = 5) := by omega
    have e7n : ¬ (w = 6) := by omega
    refine mi_nl [(4, aI ((256 * s) + i)), (0, aR (A 99)), (1, aI s), (2, aI i), (3, aI w)] rfl ?_
    refine ⟨⟨_, hm_oi hx⟩, _, _, _, _, (m_endOf hF htr hx hV (q := ((256 * s) + i)) (by omega) (by omega)), Nat.le_refl _, Nat.le_refl _, mki_ (r := some (aI (v_endOf μ ((256 * s) + i)))) ?_, fun _ _ q => q.elim⟩
    have t18 := endOf_b hV (q := ((256 * s) + i))
    refine ⟨by omega, ?_⟩
    exact ⟨mRetL (by first | exact (if_neg e1n).trans ((if_neg e2n).trans ((if_neg e3n).trans ((if_neg e4n).trans ((if_neg e5n).trans ((if_neg e6n).trans (if_neg e7n)))))) | (unfold v_sendingLook; rw [if_neg e1n, if_neg e2n, if_neg e3n, if_neg e4n, if_neg e5n, if_neg e6n, if_neg e7n])) rfl, Nat.le_refl _, Nat.le_refl _⟩
def v_receivingLook (μ : Nat → Nat → Int) (s i w : Int) : Int := (if w = 8 then (v_receiving μ s i) else (if w = 9 then (μ 27 (mj s i)) else (if w = 10 then (v_readyOf μ s i) else (if w = 11 then (μ 25 (mj s i)) else (if w = 12 then (μ 26 (mj s i)) else (if w = 13 then (μ 30 (mj s i)) else (if (μ 28 (mj s i)) = 0 then 0 else (μ 29 (mj s i)))))))))
set_option maxRecDepth 100000 in
theorem m_receivingLook (hF : mm_F G) (htr : L.stackTraces = false) (hx : mx A ax) (hV : mV μ) {s i w : Int} (h1 : 0 ≤ s) (h2 : s ≤ 1) (h3 : 0 ≤ i) (h4 : i < 256) (h5 : 8 ≤ w) (h6 : w ≤ 14) :
    mm_Met L G SX6_receivingLook [.ref (A 99), .int (iI s), .int (iI i), .int (iI w)] (hm G A ax h0 μ) 0 0 (mRet (some (.long (iL (v_receivingLook μ s i w)))) (hm G A ax h0 μ)) mm_no := by
  refine mi_meth MX6_receivingLook 400 hF htr okX6_receivingLook (av := [aR (A 99), aI s, aI i, aI w]) (by decide +kernel) (Nat.le_of_ble_eq_true rfl) cmX6_receivingLook (fun θ hc => ?_)
  refine ⟨_, _, _, _, (m_at hF htr (s := s) (i := i)), Nat.le_refl _, Nat.le_refl _, mki_ (r := some (aI ((256 * s) + i))) ?_, fun _ _ q => q.elim⟩
  refine ⟨by omega, ⟨fun (e1 : w = 8) => ?_, fun (e2 : w = 9) => ?_, fun (e3 : w = 10) => ?_, fun (e4 : w = 11) => ?_, fun (e5 : w = 12) => ?_, fun (e6 : w = 13) => ?_, trivial⟩, fun (e7 : w < 8 ∨ 13 < w) => ?_⟩
  · refine mi_nl [(4, aI ((256 * s) + i)), (0, aR (A 99)), (1, aI s), (2, aI i), (3, aI w)] rfl ?_
    refine ⟨⟨_, hm_oi hx⟩, _, _, _, _, (m_receiving hF htr hx hV (s := s) (i := i) (by omega) (by omega) (by omega) (by omega)), Nat.le_refl _, Nat.le_refl _, mki_ (r := some (aI (v_receiving μ s i))) ?_, fun _ _ q => q.elim⟩
    have t8 := v_receiving_b μ s i
    refine ⟨by omega, ?_⟩
    exact ⟨mRetL (by first | exact if_pos e1 | (unfold v_receivingLook; rw [if_pos e1])) rfl, Nat.le_refl _, Nat.le_refl _⟩
  · have e1n : ¬ (w = 8) := by omega
    refine mi_nl [(4, aI ((256 * s) + i)), (0, aR (A 99)), (1, aI s), (2, aI i), (3, aI w)] rfl ?_
    refine ⟨_, hm_oi hx, aR (A 27), rfl, ?_⟩
    refine ⟨512, _, (μ 27 (mj s i)), hm_a hx 27 rfl, by omega, rfl, ?_⟩
    have t9 := (show 0 ≤ μ 27 (mj s i) ∧ μ 27 (mj s i) ≤ 65536 from hV.g 27 (mj s i))
    exact ⟨mRetL (by first | exact (if_neg e1n).trans (if_pos e2) | (unfold v_receivingLook; rw [if_neg e1n, if_pos e2])) rfl, Nat.le_refl _, Nat.le_refl _⟩
  · have e1n : ¬ (w = 8) := by omega
    have e2n : ¬ (w = 9) := by omega
    refine mi_nl [(4, aI ((256 * s) + i)), (0, aR (A 99)), (1, aI s), (2, aI i), (3, aI w)] rfl ?_
    refine ⟨⟨_, hm_oi hx⟩, _, _, _, _, (m_readyOf hF htr hx hV (s := s) (i := i) (by omega) (by omega) (by omega) (by omega)), Nat.le_refl _, Nat.le_refl _, mki_ (r := some (aL (v_readyOf μ s i))) ?_, fun _ _ q => q.elim⟩
    have t10 := readyOf_b hV s i (by omega)
    exact ⟨mRetL (by first | exact (if_neg e1n).trans ((if_neg e2n).trans (if_pos e3)) | (unfold v_receivingLook; rw [if_neg e1n, if_neg e2n, if_pos e3])) rfl, Nat.le_refl _, Nat.le_refl _⟩
  · have e1n : ¬ (w = 8) := by omega
    have e2n : ¬ (w = 9) := by omega
    have e3n : ¬ (w = 10) := by omega
    refine mi_nl [(4, aI ((256 * s) + i)), (0, aR (A 99)), (1, aI s), (2, aI i), (3, aI w)] rfl ?_
    refine ⟨_, hm_oi hx, aR (A 25), rfl, ?_⟩
    refine ⟨512, _, (μ 25 (mj s i)), hm_a hx 25 rfl, by omega, rfl, ?_⟩
    have t11 := (show 0 ≤ μ 25 (mj s i) ∧ μ 25 (mj s i) ≤ 65536 from hV.g 25 (mj s i))
    exact ⟨mRetL (by first | exact (if_neg e1n).trans ((if_neg e2n).trans ((if_neg e3n).trans (if_pos e4))) | (unfold v_receivingLook; rw [if_neg e1n, if_neg e2n, if_neg e3n, if_pos e4])) rfl, Nat.le_refl _, Nat.le_refl _⟩
  · have e1n : ¬ (w = 8) := by omega
    have e2n : ¬ (w = 9) := by omega
    have e3n : ¬ (w = 10) := by omega
    have e4n : ¬ (w = 11) := by omega
    refine mi_nl [(4, aI ((256 * s) + i)), (0, aR (A 99)), (1, aI s), (2, aI i), (3, aI w)] rfl ?_
    refine ⟨_, hm_oi hx, aR (A 26), rfl, ?_⟩
    refine ⟨512, _, (μ 26 (mj s i)), hm_a hx 26 rfl, by omega, rfl, ?_⟩
    have t12 := (show -1 ≤ μ 26 (mj s i) ∧ μ 26 (mj s i) ≤ 65536 from hV.g 26 (mj s i))
    exact ⟨mRetL (by first | exact (if_neg e1n).trans ((if_neg e2n).trans ((if_neg e3n).trans ((if_neg e4n).trans (if_pos e5)))) | (unfold v_receivingLook; rw [if_neg e1n, if_neg e2n, if_neg e3n, if_neg e4n, if_pos e5])) rfl, Nat.le_refl _, Nat.le_refl _⟩
  · have e1n : ¬ (w = 8) := by omega
    have e2n : ¬ (w = 9) := by omega
    have e3n : ¬ (w = 10) := by omega
    have e4n : ¬ (w = 11) := by omega
    have e5n : ¬ (w = 12) := by omega
    refine mi_nl [(4, aI ((256 * s) + i)), (0, aR (A 99)), (1, aI s), (2, aI i), (3, aI w)] rfl ?_
    refine ⟨_, hm_oi hx, aR (A 30), rfl, ?_⟩
    refine ⟨512, _, (μ 30 (mj s i)), hm_a hx 30 rfl, by omega, rfl, ?_⟩
    have t13 := (show 0 ≤ μ 30 (mj s i) ∧ μ 30 (mj s i) ≤ 65536 from hV.g 30 (mj s i))
    exact ⟨mRetL (by first | exact (if_neg e1n).trans ((if_neg e2n).trans ((if_neg e3n).trans ((if_neg e4n).trans ((if_neg e5n).trans (if_pos e6))))) | (unfold v_receivingLook; rw [if_neg e1n, if_neg e2n, if_neg e3n, if_neg e4n, if_neg e5n, if_pos e6])) rfl, Nat.le_refl _, Nat.le_refl _⟩
  · have e1n : ¬ (w = 8) := by omega
    have e2n : ¬ (w = 9) := by omega
    have e3n : ¬ (w = 10) := by omega
    have e4n : ¬ (w = 11) := by omega
    have e5n : ¬ (w = 12) := by omega
    have e6n : ¬ (w = 13) := by omega
    refine mi_nl [(4, aI ((256 * s) + i)), (0, aR (A 99)), (1, aI s), (2, aI i), (3, aI w)] rfl ?_
    refine ⟨_, hm_oi hx, aR (A 28), rfl, ?_⟩
    refine ⟨512, _, (μ 28 (mj s i)), hm_a hx 28 rfl, by omega, rfl, ?_⟩
    have t14 := (show 0 ≤ μ 28 (mj s i) ∧ μ 28 (mj s i) ≤ 1 from hV.g 28 (mj s i))
    refine ⟨by omega, fun (e15 : (μ 28 (mj s i)) = 0) => ?_, fun (e15 : ¬ ((μ 28 (mj s i)) = 0)) => ?_⟩
    · refine ⟨0, rfl, ?_⟩
      exact ⟨mRetL (by first | exact (if_neg e1n).trans ((if_neg e2n).trans ((if_neg e3n).trans ((if_neg e4n).trans ((if_neg e5n).trans ((if_neg e6n).trans (if_pos e15)))))) | (unfold v_receivingLook; rw [if_neg e1n, if_neg e2n, if_neg e3n, if_neg e4n, if_neg e5n, if_neg e6n, if_pos e15])) rfl, Nat.le_refl _, Nat.le_refl _⟩
    · refine ⟨_, hm_oi hx, aR (A 29), rfl, ?_⟩
      refine ⟨512, _, (μ 29 (mj s i)), hm_a hx 29 rfl, by omega, rfl, ?_⟩
      have t16 := (show 0 ≤ μ 29 (mj s i) ∧ μ 29 (mj s i) ≤ 4611686018427387903 from hV.g 29 (mj s i))
      exact ⟨mRetL (by first | exact (if_neg e1n).trans ((if_neg e2n).trans ((if_neg e3n).trans ((if_neg e4n).trans ((if_neg e5n).trans ((if_neg e6n).trans (if_neg e15)))))) | (unfold v_receivingLook; rw [if_neg e1n, if_neg e2n, if_neg e3n, if_neg e4n, if_neg e5n, if_neg e6n, if_neg e15])) rfl, Nat.le_refl _, Nat.le_refl _⟩
def v_stream (μ : Nat → Nat → Int) (s i w : Int) : Int := (if s < 0 ∨ 1 < s then 0 else (if w < 0 then 0 else (if w ≤ 14 then (if 8 ≤ w then (if (0 ≤ i ∧ i < 256 ∧ (u2 μ 0 0 0) 17 (mj s i) = 1) ∧ (i / 2 % 2 = 0 ∨ ¬ i % 2 = s) then (v_receivingLook (u2 μ 0 0 0) s i w) else -1) else (if (0 ≤ i ∧ i < 256 ∧ (u2 μ 0 0 0) 17 (mj s i) = 1) ∧ (i / 2 % 2 = 0 ∨ i % 2 = s) then (v_sendingLook (u2 μ 0 0 0) s i w) else -1)) else 0)))
def s_stream (μ : Nat → Nat → Int) (s i w : Int) : Nat → Nat → Int := (if s < 0 ∨ 1 < s then (u2 μ 0 0 1) else (if w < 0 then (u2 μ 0 0 1) else (if w ≤ 14 then (if 8 ≤ w then (if (0 ≤ i ∧ i < 256 ∧ (u2 μ 0 0 0) 17 (mj s i) = 1) ∧ (i / 2 % 2 = 0 ∨ ¬ i % 2 = s) then (u2 μ 0 0 0) else (u2 μ 0 0 0)) else (if (0 ≤ i ∧ i < 256 ∧ (u2 μ 0 0 0) 17 (mj s i) = 1) ∧ (i / 2 % 2 = 0 ∨ i % 2 = s) then (u2 μ 0 0 0) else (u2 μ 0 0 0))) else (u2 μ 0 0 1))))
set_option maxRecDepth 100000 in
theorem m_stream (hF : mm_F G) (htr : L.stackTraces = false) (hx : mx A ax) (hV : mV μ) {s i w : Int} (h1 : -2147483648 ≤ s) (h2 : s < 2147483648) (h3 : -2147483648 ≤ i) (h4 : i < 2147483648) (h5 : -2147483648 ≤ w) (h5a : w < 2147483648) :
    mm_Met L G SX6_stream [.ref (A 99), .int (iI s), .int (iI i), .int (iI w)] (hm G A ax h0 μ) 0 0 (mRetS (some (.long (iL (v_stream μ s i w)))) (hm G A ax h0 (s_stream μ s i w)) (mV (s_stream μ s i w))) mm_no := by
  refine mi_meth MX6_stream 400 hF htr okX6_stream (av := [aR (A 99), aI s, aI i, aI w]) (by decide +kernel) (Nat.le_of_ble_eq_true rfl) cmX6_stream (fun θ hc => ?_)
  refine ⟨_, _, _, _, (m_noSide hF htr (s := s) (by omega) (by omega)), Nat.le_refl _, Nat.le_refl _, mki_ (r := some (aI (b2 (s < 0 ∨ 1 < s)))) ?_, fun _ _ q => q.elim⟩
  refine ⟨by have := b2_r (s < 0 ∨ 1 < s); omega, fun e1 => ?_, fun e1 => ?_⟩
  · have e1 : s < 0 ∨ 1 < s := b2_n0.mp e1
    refine ⟨⟨_, hm_oi hx⟩, _, _, _, _, (m_fails1 hF htr hx (c := 1)), Nat.le_refl _, Nat.le_refl _, mki_ (r := some (aI 1)) ?_, fun _ _ q => q.elim⟩
    have hV2 := hV.u (f := 0) (k := 0) (v := 1) (show 0 ≤ 1 ∧ 1 ≤ 2 from by omega)
    refine ⟨by omega, fun (e : (1 : Int) = 0) => absurd e (by decide), fun _ => ?_⟩
    refine ⟨0, rfl, ?_⟩
    exact ⟨mRetLS (by first | exact if_pos e1 | (unfold v_stream; rw [if_pos e1])) (by first | exact if_pos e1 | (unfold s_stream; rw [if_pos e1])) hV2, Nat.le_refl _, Nat.le_refl _⟩
  · have e1 : ¬ (s < 0 ∨ 1 < s) := b2_e0.mp e1
    refine ⟨by omega, fun (e3 : w < 0) => ?_, fun (e3 : ¬ (w < 0)) => ?_⟩
    · refine ⟨⟨_, hm_oi hx⟩, _, _, _, _, (m_fails1 hF htr hx (c := 1)), Nat.le_refl _, Nat.le_refl _, mki_ (r := some (aI 1)) ?_, fun _ _ q => q.elim⟩
      have hV4 := hV.u (f := 0) (k := 0) (v := 1) (show 0 ≤ 1 ∧ 1 ≤ 2 from by omega)
      refine ⟨by omega, fun (e : (1 : Int) = 0) => absurd e (by decide), fun _ => ?_⟩
      refine ⟨0, rfl, ?_⟩
      exact ⟨mRetLS (by first | exact (if_neg e1).trans (if_pos e3) | (unfold v_stream; rw [if_neg e1, if_pos e3])) (by first | exact (if_neg e1).trans (if_pos e3) | (unfold s_stream; rw [if_neg e1, if_pos e3])) hV4, Nat.le_refl _, Nat.le_refl _⟩
    · refine ⟨by omega, fun (e5 : w ≤ 14) => ?_, fun (e5 : ¬ (w ≤ 14)) => ?_⟩
      · refine ⟨⟨_, hm_oi hx⟩, _, _, _, _, (m_fails0 hF htr hx (c := 1)), Nat.le_refl _, Nat.le_refl _, mki_ (r := some (aI 0)) ?_, fun _ _ q => q.elim⟩
        have hV6 := hV.u (f := 0) (k := 0) (v := 0) (show 0 ≤ 0 ∧ 0 ≤ 2 from by omega)
        refine ⟨by omega, fun _ => ?_, fun (e : ¬ ((0 : Int) = 0)) => (e (by decide)).elim⟩
        refine ⟨by omega, fun (e7 : 8 ≤ w) => ?_, fun (e7 : ¬ (8 ≤ w)) => ?_⟩
        · refine ⟨⟨_, hm_oi hx⟩, _, _, _, _, (m_hasReceiving hF htr hx hV6.T (s := s) (i := i) (by omega) (by omega) (by omega) (by omega)), Nat.le_refl _, Nat.le_refl _, mki_ (r := some (aI (b2 ((0 ≤ i ∧ i < 256 ∧ (u2 μ 0 0 0) 17 (mj s i) = 1) ∧ (i / 2 % 2 = 0 ∨ ¬ i % 2 = s))))) ?_, fun _ _ q => q.elim⟩
          refine ⟨by have := b2_r ((0 ≤ i ∧ i < 256 ∧ (u2 μ 0 0 0) 17 (mj s i) = 1) ∧ (i / 2 % 2 = 0 ∨ ¬ i % 2 = s)); omega, fun e8 => ?_, fun e8 => ?_⟩
          · have e8 : ¬ ((0 ≤ i ∧ i < 256 ∧ (u2 μ 0 0 0) 17 (mj s i) = 1) ∧ (i / 2 % 2 = 0 ∨ ¬ i % 2 = s)) := b2_e0.mp e8
            refine ⟨(-1), rfl, ?_⟩
            exact ⟨mRetLS (by first | exact (if_neg e1).trans ((if_neg e3).trans ((if_pos e5).trans ((if_pos e7).trans (if_neg e8)))) | (unfold v_stream; rw [if_neg e1, if_neg e3, if_pos e5, if_pos e7, if_neg e8])) (by first | exact (if_neg e1).trans ((if_neg e3).trans ((if_pos e5).trans ((if_pos e7).trans (if_neg e8)))) | (unfold s_stream; rw [if_neg e1, if_neg e3, if_pos e5, if_pos e7, if_neg e8])) hV6, Nat.le_refl _, Nat.le_refl _⟩
          · have e8 : (0 ≤ i ∧ i < 256 ∧ (u2 μ 0 0 0) 17 (mj s i) = 1) ∧ (i / 2 % 2 = 0 ∨ ¬ i % 2 = s) := b2_n0.mp e8
            refine ⟨⟨_, hm_oi hx⟩, _, _, _, _, (m_receivingLook hF htr hx hV6 (s := s) (i := i) (w := w) (by omega) (by omega) (by omega) (by omega) (by omega) (by omega)), Nat.le_refl _, Nat.le_refl _, mki_ (r := some (aL (v_receivingLook (u2 μ 0 0 0) s i w))) ?_, fun _ _ q => q.elim⟩
            exact ⟨mRetLS (by first | exact (if_neg e1).trans ((if_neg e3).trans ((if_pos e5).trans ((if_pos e7).trans (if_pos e8)))) | (unfold v_stream; rw [if_neg e1, if_neg e3, if_pos e5, if_pos e7, if_pos e8])) (by first | exact (if_neg e1).trans ((if_neg e3).trans ((if_pos e5).trans ((if_pos e7).trans (if_pos e8)))) | (unfold s_stream; rw [if_neg e1, if_neg e3, if_pos e5, if_pos e7, if_pos e8])) hV6, Nat.le_refl _, Nat.le_refl _⟩
        · refine ⟨⟨_, hm_oi hx⟩, _, _, _, _, (m_hasSending hF htr hx hV6.T (s := s) (i := i) (by omega) (by omega) (by omega) (by omega)), Nat.le_refl _, Nat.le_refl _, mki_ (r := some (aI (b2 ((0 ≤ i ∧ i < 256 ∧ (u2 μ 0 0 0) 17 (mj s i) = 1) ∧ (i / 2 % 2 = 0 ∨ i % 2 = s))))) ?_, fun _ _ q => q.elim⟩
          refine ⟨by have := b2_r ((0 ≤ i ∧ i < 256 ∧ (u2 μ 0 0 0) 17 (mj s i) = 1) ∧ (i / 2 % 2 = 0 ∨ i % 2 = s)); omega, fun e9 => ?_, fun e9 => ?_⟩
          · have e9 : ¬ ((0 ≤ i ∧ i < 256 ∧ (u2 μ 0 0 0) 17 (mj s i) = 1) ∧ (i / 2 % 2 = 0 ∨ i % 2 = s)) := b2_e0.mp e9
            refine ⟨(-1), rfl, ?_⟩
            exact ⟨mRetLS (by first | exact (if_neg e1).trans ((if_neg e3).trans ((if_pos e5).trans ((if_neg e7).trans (if_neg e9)))) | (unfold v_stream; rw [if_neg e1, if_neg e3, if_pos e5, if_neg e7, if_neg e9])) (by first | exact (if_neg e1).trans ((if_neg e3).trans ((if_pos e5).trans ((if_neg e7).trans (if_neg e9)))) | (unfold s_stream; rw [if_neg e1, if_neg e3, if_pos e5, if_neg e7, if_neg e9])) hV6, Nat.le_refl _, Nat.le_refl _⟩
          · have e9 : (0 ≤ i ∧ i < 256 ∧ (u2 μ 0 0 0) 17 (mj s i) = 1) ∧ (i / 2 % 2 = 0 ∨ i % 2 = s) := b2_n0.mp e9
            refine ⟨⟨_, hm_oi hx⟩, _, _, _, _, (m_sendingLook hF htr hx hV6 (s := s) (i := i) (w := w) (by omega) (by omega) (by omega) (by omega) (by omega) (by omega)), Nat.le_refl _, Nat.le_refl _, mki_ (r := some (aL (v_sendingLook (u2 μ 0 0 0) s i w))) ?_, fun _ _ q => q.elim⟩
            exact ⟨mRetLS (by first | exact (if_neg e1).trans ((if_neg e3).trans ((if_pos e5).trans ((if_neg e7).trans (if_pos e9)))) | (unfold v_stream; rw [if_neg e1, if_neg e3, if_pos e5, if_neg e7, if_pos e9])) (by first | exact (if_neg e1).trans ((if_neg e3).trans ((if_pos e5).trans ((if_neg e7).trans (if_pos e9)))) | (unfold s_stream; rw [if_neg e1, if_neg e3, if_pos e5, if_neg e7, if_pos e9])) hV6, Nat.le_refl _, Nat.le_refl _⟩
      · refine ⟨⟨_, hm_oi hx⟩, _, _, _, _, (m_fails1 hF htr hx (c := 1)), Nat.le_refl _, Nat.le_refl _, mki_ (r := some (aI 1)) ?_, fun _ _ q => q.elim⟩
        have hV10 := hV.u (f := 0) (k := 0) (v := 1) (show 0 ≤ 1 ∧ 1 ≤ 2 from by omega)
        refine ⟨by omega, fun (e : (1 : Int) = 0) => absurd e (by decide), fun _ => ?_⟩
        refine ⟨0, rfl, ?_⟩
        exact ⟨mRetLS (by first | exact (if_neg e1).trans ((if_neg e3).trans (if_neg e5)) | (unfold v_stream; rw [if_neg e1, if_neg e3, if_neg e5])) (by first | exact (if_neg e1).trans ((if_neg e3).trans (if_neg e5)) | (unfold s_stream; rw [if_neg e1, if_neg e3, if_neg e5])) hV10, Nat.le_refl _, Nat.le_refl _⟩
set_option maxRecDepth 100000 in
theorem s_stream_fr {f kk : Nat} {s i w : Int} (hf : [0].elem f = false) : s_stream μ s i w f kk = μ f kk := by
  have n0 : f ≠ 0 := by rintro rfl; exact absurd hf (by decide)
  have f0 : ∀ (m : Nat → Nat → Int) (a b : Nat) (v : Int), u2 m 0 a v f b = m f b := fun m a b v => u2_f n0
  unfold s_stream
  repeat' with_reducible apply f_ite
  all_goals first | rfl | simp only [f0]
def v_side (μ : Nat → Nat → Int) (s w : Int) : Int := (if s < 0 ∨ 1 < s then 0 else (if w < 0 then 0 else (if w ≤ 13 then (if w = 0 then (mAll μ s (mTot μ s)) else (if w = 1 then (μ 7 (3 * s).toNat) else (if w = 2 then (v_received μ s) else (if w = 3 then (v_consumed μ s) else (if w = 4 then (μ 11 s.toNat) else (if w = 5 then (μ 8 (((2 * s) + w) - 5).toNat) else (if w = 6 then (μ 8 (((2 * s) + w) - 5).toNat) else (if w = 7 then (μ 7 (((3 * s) + w) - 6).toNat) else (if w = 8 then (μ 7 (((3 * s) + w) - 6).toNat) else (if w = 9 then (μ 9 (((2 * s) + w) - 9).toNat) else (if w = 10 then (μ 9 (((2 * s) + w) - 9).toNat) else (if w = 11 then (μ 10 (((2 * s) + w) - 11).toNat) else (if w = 12 then (μ 10 (((2 * s) + w) - 11).toNat) else (μ 36 s.toNat)))))))))))))) else 0)))
def s_side (μ : Nat → Nat → Int) (s w : Int) : Nat → Nat → Int := (if s < 0 ∨ 1 < s then (u2 μ 0 0 1) else (if w < 0 then (u2 μ 0 0 1) else (if w ≤ 13 then (if w = 0 then (u2 μ 0 0 0) else (if w = 1 then (u2 μ 0 0 0) else (if w = 2 then (u2 μ 0 0 0) else (if w = 3 then (u2 μ 0 0 0) else (if w = 4 then (u2 μ 0 0 0) else (if w = 5 then (u2 μ 0 0 0) else (if w = 6 then (u2 μ 0 0 0) else (if w = 7 then (u2 μ 0 0 0) else (if w = 8 then (u2 μ 0 0 0) else (if w = 9 then (u2 μ 0 0 0) else (if w = 10 then (u2 μ 0 0 0) else (if w = 11 then (u2 μ 0 0 0) else (if w = 12 then (u2 μ 0 0 0) else (u2 μ 0 0 0)))))))))))))) else (u2 μ 0 0 1))))
set_option maxRecDepth 100000 in
theorem m_side (hF : mm_F G) (htr : L.stackTraces = false) (hx : mx A ax) (hV : mV μ) {s w : Int} (h1 : -2147483648 ≤ s) (h2 : s < 2147483648) (h3 : -2147483648 ≤ w) (h3a : w < 2147483648) :
    mm_Met L G SX6_side [.ref (A 99), .int (iI s), .int (iI w)] (hm G A ax h0 μ) 0 0 (mRetS (some (.long (iL (v_side μ s w)))) (hm G A ax h0 (s_side μ s w)) (mV (s_side μ s w))) mm_no := by
  refine mi_meth MX6_side 400 hF htr okX6_side (av := [aR (A 99), aI s, aI w]) (by decide +kernel) (Nat.le_of_ble_eq_true rfl) cmX6_side (fun θ hc => ?_)
  refine ⟨_, _, _, _, (m_noSide hF htr (s := s) (by omega) (by omega)), Nat.le_refl _, Nat.le_refl _, mki_ (r := some (aI (b2 (s < 0 ∨ 1 < s)))) ?_, fun _ _ q => q.elim⟩
  refine ⟨by have := b2_r (s < 0 ∨ 1 < s); omega, fun e1 => ?_, fun e1 => ?_⟩
  · have e1 : s < 0 ∨ 1 < s := b2_n0.mp e1
    refine ⟨⟨_, hm_oi hx⟩, _, _, _, _, (m_fails1 hF htr hx (c := 1)), Nat.le_refl _, Nat.le_refl _, mki_ (r := some (aI 1)) ?_, fun _ _ q => q.elim⟩
    have hV2 := hV.u (f := 0) (k := 0) (v := 1) (show 0 ≤ 1 ∧ 1 ≤ 2 from by omega)
    refine ⟨by omega, fun (e : (1 : Int) = 0) => absurd e (by decide), fun _ => ?_⟩
    refine ⟨0, rfl, ?_⟩
    exact ⟨mRetLS (by first | exact if_pos e1 | (unfold v_side; rw [if_pos e1])) (by first | exact if_pos e1 | (unfold s_side; rw [if_pos e1])) hV2, Nat.le_refl _, Nat.le_refl _⟩
  · have e1 : ¬ (s < 0 ∨ 1 < s) := b2_e0.mp e1
    refine ⟨by omega, fun (e3 : w < 0) => ?_, fun (e3 : ¬ (w < 0)) => ?_⟩
    · refine ⟨⟨_, hm_oi hx⟩, _, _, _, _, (m_fails1 hF htr hx (c := 1)), Nat.le_refl _, Nat.le_refl _, mki_ (r := some (aI 1)) ?_, fun _ _ q => q.elim⟩
      have hV4 := hV.u (f := 0) (k := 0) (v := 1) (show 0 ≤ 1 ∧ 1 ≤ 2 from by omega)
      refine ⟨by omega, fun (e : (1 : Int) = 0) => absurd e (by decide), fun _ => ?_⟩
      refine ⟨0, rfl, ?_⟩
      exact ⟨mRetLS (by first | exact (if_neg e1).trans (if_pos e3) | (unfold v_side; rw [if_neg e1, if_pos e3])) (by first | exact (if_neg e1).trans (if_pos e3) | (unfold s_side; rw [if_neg e1, if_pos e3])) hV4, Nat.le_refl _, Nat.le_refl _⟩
    · refine ⟨by omega, fun (e5 : w ≤ 13) => ?_, fun (e5 : ¬ (w ≤ 13)) => ?_⟩
      · refine ⟨⟨_, hm_oi hx⟩, _, _, _, _, (m_fails0 hF htr hx (c := 1)), Nat.le_refl _, Nat.le_refl _, mki_ (r := some (aI 0)) ?_, fun _ _ q => q.elim⟩
        have hV6 := hV.u (f := 0) (k := 0) (v := 0) (show 0 ≤ 0 ∧ 0 ≤ 2 from by omega)
        refine ⟨by omega, fun _ => ?_, fun (e : ¬ ((0 : Int) = 0)) => (e (by decide)).elim⟩
        refine ⟨by omega, ⟨fun (e7 : w = 0) => ?_, fun (e8 : w = 1) => ?_, fun (e9 : w = 2) => ?_, fun (e10 : w = 3) => ?_, fun (e11 : w = 4) => ?_, fun (e12 : w = 5) => ?_, fun (e13 : w = 6) => ?_, fun (e14 : w = 7) => ?_, fun (e15 : w = 8) => ?_, fun (e16 : w = 9) => ?_, fun (e17 : w = 10) => ?_, fun (e18 : w = 11) => ?_, fun (e19 : w = 12) => ?_, trivial⟩, fun (e20 : w < 0 ∨ 12 < w) => ?_⟩
        · have ev21 : (mAll (u2 μ 0 0 0) s (mTot (u2 μ 0 0 0) s)) = (mAll μ s (mTot μ s)) := (mAll_cg (by intro f hf k; simp only [List.elem_eq_mem, decide_eq_true_eq, List.mem_cons, List.not_mem_nil, or_false] at hf; rcases hf with rfl | rfl <;> first | exact (u2_f (by decide))))
          refine ⟨⟨_, hm_oi hx⟩, _, _, _, _, (m_allSent hF htr hx hV6.T hV6.N (s := s) (by omega) (by omega)), Nat.le_refl _, Nat.le_refl _, mkiE (r := some (aI (mAll μ s (mTot μ s)))) (congrArg (fun q => some (Value.int q)) (congrArg iI ev21)) ?_, fun _ _ q => q.elim⟩
          have t22 := hV6.all (s := s) (by omega) (by omega)
          rw [ev21] at t22
          refine ⟨by omega, ?_⟩
          exact ⟨mRetLS (by first | exact (if_neg e1).trans ((if_neg e3).trans ((if_pos e5).trans (if_pos e7))) | (unfold v_side; rw [if_neg e1, if_neg e3, if_pos e5, if_pos e7])) (by first | exact (if_neg e1).trans ((if_neg e3).trans ((if_pos e5).trans (if_pos e7))) | (unfold s_side; rw [if_neg e1, if_neg e3, if_pos e5, if_pos e7])) hV6, Nat.le_refl _, Nat.le_refl _⟩
        · have e7n : ¬ (w = 0) := by omega
          refine ⟨_, hm_oi hx, aR (A 7), rfl, ?_⟩
          refine ⟨6, _, (μ 7 (3 * s).toNat), hm_a hx 7 rfl, by omega, (u2_f (by decide)), ?_⟩
          have t23 := (show 0 ≤ μ 7 (3 * s).toNat ∧ μ 7 (3 * s).toNat ≤ 4611686018427387903 from hV.g 7 (3 * s).toNat)
          exact ⟨mRetLS (by first | exact (if_neg e1).trans ((if_neg e3).trans ((if_pos e5).trans ((if_neg e7n).trans (if_pos e8)))) | (unfold v_side; rw [if_neg e1, if_neg e3, if_pos e5, if_neg e7n, if_pos e8])) (by first | exact (if_neg e1).trans ((if_neg e3).trans ((if_pos e5).trans ((if_neg e7n).trans (if_pos e8)))) | (unfold s_side; rw [if_neg e1, if_neg e3, if_pos e5, if_neg e7n, if_pos e8])) hV6, Nat.le_refl _, Nat.le_refl _⟩
        · have e7n : ¬ (w = 0) := by omega
          have e8n : ¬ (w = 1) := by omega
          have ev24 : (v_received (u2 μ 0 0 0) s) = (v_received μ s) := (v_received_cg (by intro f hf k; simp only [List.elem_eq_mem, decide_eq_true_eq, List.mem_cons, List.not_mem_nil, or_false] at hf; subst hf; first | exact (u2_f (by decide))))
          refine ⟨⟨_, hm_oi hx⟩, _, _, _, _, (m_received hF htr hx hV6 (s := s) (by omega) (by omega)), Nat.le_refl _, Nat.le_refl _, mkiE (r := some (aL (v_received μ s))) (congrArg (fun q => some (Value.long q)) (congrArg iL ev24)) ?_, fun _ _ q => q.elim⟩
          have t25 := received_b hV6 s
          rw [ev24] at t25
          exact ⟨mRetLS (by first | exact (if_neg e1).trans ((if_neg e3).trans ((if_pos e5).trans ((if_neg e7n).trans ((if_neg e8n).trans (if_pos e9))))) | (unfold v_side; rw [if_neg e1, if_neg e3, if_pos e5, if_neg e7n, if_neg e8n, if_pos e9])) (by first | exact (if_neg e1).trans ((if_neg e3).trans ((if_pos e5).trans ((if_neg e7n).trans ((if_neg e8n).trans (if_pos e9))))) | (unfold s_side; rw [if_neg e1, if_neg e3, if_pos e5, if_neg e7n, if_neg e8n, if_pos e9])) hV6, Nat.le_refl _, Nat.le_refl _⟩
        · have e7n : ¬ (w = 0) := by omega
          have e8n : ¬ (w = 1) := by omega
          have e9n : ¬ (w = 2) := by omega
          have ev26 : (v_consumed (u2 μ 0 0 0) s) = (v_consumed μ s) := (v_consumed_cg (by intro f hf k; simp only [List.elem_eq_mem, decide_eq_true_eq, List.mem_cons, List.not_mem_nil, or_false] at hf; rcases hf with rfl | rfl | rfl <;> first | exact (u2_f (by decide))))
          refine ⟨⟨_, hm_oi hx⟩, _, _, _, _, (m_consumed hF htr hx hV6 (s := s) (by omega) (by omega)), Nat.le_refl _, Nat.le_refl _, mkiE (r := some (aL (v_consumed μ s))) (congrArg (fun q => some (Value.long q)) (congrArg iL ev26)) ?_, fun _ _ q => q.elim⟩
          have t27 := consumed_b hV6 s
          rw [ev26] at t27
          exact ⟨mRetLS (by first | exact (if_neg e1).trans ((if_neg e3).trans ((if_pos e5).trans ((if_neg e7n).trans ((if_neg e8n).trans ((if_neg e9n).trans (if_pos e10)))))) | (unfold v_side; rw [if_neg e1, if_neg e3, if_pos e5, if_neg e7n, if_neg e8n, if_neg e9n, if_pos e10])) (by first | exact (if_neg e1).trans ((if_neg e3).trans ((if_pos e5).trans ((if_neg e7n).trans ((if_neg e8n).trans ((if_neg e9n).trans (if_pos e10)))))) | (unfold s_side; rw [if_neg e1, if_neg e3, if_pos e5, if_neg e7n, if_neg e8n, if_neg e9n, if_pos e10])) hV6, Nat.le_refl _, Nat.le_refl _⟩
        · have e7n : ¬ (w = 0) := by omega
          have e8n : ¬ (w = 1) := by omega
          have e9n : ¬ (w = 2) := by omega
          have e10n : ¬ (w = 3) := by omega
          refine ⟨_, hm_oi hx, aR (A 11), rfl, ?_⟩
          refine ⟨2, _, (μ 11 s.toNat), hm_a hx 11 rfl, by omega, (u2_f (by decide)), ?_⟩
          have t28 := (show 0 ≤ μ 11 s.toNat ∧ μ 11 s.toNat ≤ 65536 from hV.g 11 s.toNat)
          exact ⟨mRetLS (by first | exact (if_neg e1).trans ((if_neg e3).trans ((if_pos e5).trans ((if_neg e7n).trans ((if_neg e8n).trans ((if_neg e9n).trans ((if_neg e10n).trans (if_pos e11))))))) | (unfold v_side; rw [if_neg e1, if_neg e3, if_pos e5, if_neg e7n, if_neg e8n, if_neg e9n, if_neg e10n, if_pos e11])) (by first | exact (if_neg e1).trans ((if_neg e3).trans ((if_pos e5).trans ((if_neg e7n).trans ((if_neg e8n).trans ((if_neg e9n).trans ((if_neg e10n).trans (if_pos e11))))))) | (unfold s_side; rw [if_neg e1, if_neg e3, if_pos e5, if_neg e7n, if_neg e8n, if_neg e9n, if_neg e10n, if_pos e11])) hV6, Nat.le_refl _, Nat.le_refl _⟩
        · have e7n : ¬ (w = 0) := by omega
          have e8n : ¬ (w = 1) := by omega
          have e9n : ¬ (w = 2) := by omega
          have e10n : ¬ (w = 3) := by omega
          have e11n : ¬ (w = 4) := by omega
          refine ⟨_, hm_oi hx, aR (A 8), rfl, ?_⟩
          refine ⟨4, _, (μ 8 (((2 * s) + w) - 5).toNat), hm_a hx 8 rfl, by omega, (u2_f (by decide)), ?_⟩
          have t29 := (show 0 ≤ μ 8 (((2 * s) + w) - 5).toNat ∧ μ 8 (((2 * s) + w) - 5).toNat ≤ 64 from hV.g 8 (((2 * s) + w) - 5).toNat)
          refine ⟨by omega, ?_⟩
          exact ⟨mRetLS (by first | exact (if_neg e1).trans ((if_neg e3).trans ((if_pos e5).trans ((if_neg e7n).trans ((if_neg e8n).trans ((if_neg e9n).trans ((if_neg e10n).trans ((if_neg e11n).trans (if_pos e12)))))))) | (unfold v_side; rw [if_neg e1, if_neg e3, if_pos e5, if_neg e7n, if_neg e8n, if_neg e9n, if_neg e10n, if_neg e11n, if_pos e12])) (by first | exact (if_neg e1).trans ((if_neg e3).trans ((if_pos e5).trans ((if_neg e7n).trans ((if_neg e8n).trans ((if_neg e9n).trans ((if_neg e10n).trans ((if_neg e11n).trans (if_pos e12)))))))) | (unfold s_side; rw [if_neg e1, if_neg e3, if_pos e5, if_neg e7n, if_neg e8n, if_neg e9n, if_neg e10n, if_neg e11n, if_pos e12])) hV6, Nat.le_refl _, Nat.le_refl _⟩
        · have e7n : ¬ (w = 0) := by omega
          have e8n : ¬ (w = 1) := by omega
          have e9n : ¬ (w = 2) := by omega
          have e10n : ¬ (w = 3) := by omega
          have e11n : ¬ (w = 4) := by omega
          have e12n : ¬ (w = 5) := by omega
          refine ⟨_, hm_oi hx, aR (A 8), rfl, ?_⟩
          refine ⟨4, _, (μ 8 (((2 * s) + w) - 5).toNat), hm_a hx 8 rfl, by omega, (u2_f (by decide)), ?_⟩
          have t30 := (show 0 ≤ μ 8 (((2 * s) + w) - 5).toNat ∧ μ 8 (((2 * s) + w) - 5).toNat ≤ 64 from hV.g 8 (((2 * s) + w) - 5).toNat)
          refine ⟨by omega, ?_⟩
          exact ⟨mRetLS (by first | exact (if_neg e1).trans ((if_neg e3).trans ((if_pos e5).trans ((if_neg e7n).trans ((if_neg e8n).trans ((if_neg e9n).trans ((if_neg e10n).trans ((if_neg e11n).trans ((if_neg e12n).trans (if_pos e13))))))))) | (unfold v_side; rw [if_neg e1, if_neg e3, if_pos e5, if_neg e7n, if_neg e8n, if_neg e9n, if_neg e10n, if_neg e11n, if_neg e12n, if_pos e13])) (by first | exact (if_neg e1).trans ((if_neg e3).trans ((if_pos e5).trans ((if_neg e7n).trans ((if_neg e8n).trans ((if_neg e9n).trans ((if_neg e10n).trans ((if_neg e11n).trans ((if_neg e12n).trans (if_pos e13))))))))) | (unfold s_side; rw [if_neg e1, if_neg e3, if_pos e5, if_neg e7n, if_neg e8n, if_neg e9n, if_neg e10n, if_neg e11n, if_neg e12n, if_pos e13])) hV6, Nat.le_refl _, Nat.le_refl _⟩
        · have e7n : ¬ (w = 0) := by omega
          have e8n : ¬ (w = 1) := by omega
          have e9n : ¬ (w = 2) := by omega
          have e10n : ¬ (w = 3) := by omega
          have e11n : ¬ (w = 4) := by omega
          have e12n : ¬ (w = 5) := by omega
          have e13n : ¬ (w = 6) := by omega
          refine ⟨_, hm_oi hx, aR (A 7), rfl, ?_⟩
          refine ⟨6, _, (μ 7 (((3 * s) + w) - 6).toNat), hm_a hx 7 rfl, by omega, (u2_f (by decide)), ?_⟩
          have t31 := (show 0 ≤ μ 7 (((3 * s) + w) - 6).toNat ∧ μ 7 (((3 * s) + w) - 6).toNat ≤ 4611686018427387903 from hV.g 7 (((3 * s) + w) - 6).toNat)
          exact ⟨mRetLS (by first | exact (if_neg e1).trans ((if_neg e3).trans ((if_pos e5).trans ((if_neg e7n).trans ((if_neg e8n).trans ((if_neg e9n).trans ((if_neg e10n).trans ((if_neg e11n).trans ((if_neg e12n).trans ((if_neg e13n).trans (if_pos e14)))))))))) | (unfold v_side; rw [if_neg e1, if_neg e3, if_pos e5, if_neg e7n, if_neg e8n, if_neg e9n, if_neg e10n, if_neg e11n, if_neg e12n, if_neg e13n, if_pos e14])) (by first | exact (if_neg e1).trans ((if_neg e3).trans ((if_pos e5).trans ((if_neg e7n).trans ((if_neg e8n).trans ((if_neg e9n).trans ((if_neg e10n).trans ((if_neg e11n).trans ((if_neg e12n).trans ((if_neg e13n).trans (if_pos e14)))))))))) | (unfold s_side; rw [if_neg e1, if_neg e3, if_pos e5, if_neg e7n, if_neg e8n, if_neg e9n, if_neg e10n, if_neg e11n, if_neg e12n, if_neg e13n, if_pos e14])) hV6, Nat.le_refl _, Nat.le_refl _⟩
        · have e7n : ¬ (w = 0) := by omega
          have e8n : ¬ (w = 1) := by omega
          have e9n : ¬ (w = 2) := by omega
          have e10n : ¬ (w = 3) := by omega
          have e11n : ¬ (w = 4) := by omega
          have e12n : ¬ (w = 5) := by omega
          have e13n : ¬ (w = 6) := by omega
          have e14n : ¬ (w = 7) := by omega
          refine ⟨_, hm_oi hx, aR (A 7), rfl, ?_⟩
          refine ⟨6, _, (μ 7 (((3 * s) + w) - 6).toNat), hm_a hx 7 rfl, by omega, (u2_f (by decide)), ?_⟩
          have t32 := (show 0 ≤ μ 7 (((3 * s) + w) - 6).toNat ∧ μ 7 (((3 * s) + w) - 6).toNat ≤ 4611686018427387903 from hV.g 7 (((3 * s) + w) - 6).toNat)
          exact ⟨mRetLS (by first | exact (if_neg e1).trans ((if_neg e3).trans ((if_pos e5).trans ((if_neg e7n).trans ((if_neg e8n).trans ((if_neg e9n).trans ((if_neg e10n).trans ((if_neg e11n).trans ((if_neg e12n).trans ((if_neg e13n).trans ((if_neg e14n).trans (if_pos e15))))))))))) | (unfold v_side; rw [if_neg e1, if_neg e3, if_pos e5, if_neg e7n, if_neg e8n, if_neg e9n, if_neg e10n, if_neg e11n, if_neg e12n, if_neg e13n, if_neg e14n, if_pos e15])) (by first | exact (if_neg e1).trans ((if_neg e3).trans ((if_pos e5).trans ((if_neg e7n).trans ((if_neg e8n).trans ((if_neg e9n).trans ((if_neg e10n).trans ((if_neg e11n).trans ((if_neg e12n).trans ((if_neg e13n).trans ((if_neg e14n).trans (if_pos e15))))))))))) | (unfold s_side; rw [if_neg e1, if_neg e3, if_pos e5, if_neg e7n, if_neg e8n, if_neg e9n, if_neg e10n, if_neg e11n, if_neg e12n, if_neg e13n, if_neg e14n, if_pos e15])) hV6, Nat.le_refl _, Nat.le_refl _⟩
        · have e7n : ¬ (w = 0) := by omega
          have e8n : ¬ (w = 1) := by omega
          have e9n : ¬ (w = 2) := by omega
          have e10n : ¬ (w = 3) := by omega
          have e11n : ¬ (w = 4) := by omega
          have e12n : ¬ (w = 5) := by omega
          have e13n : ¬ (w = 6) := by omega
          have e14n : ¬ (w = 7) := by omega
          have e15n : ¬ (w = 8) := by omega
          refine ⟨_, hm_oi hx, aR (A 9), rfl, ?_⟩
          refine ⟨4, _, (μ 9 (((2 * s) + w) - 9).toNat), hm_a hx 9 rfl, by omega, (u2_f (by decide)), ?_⟩
          have t33 := (show 0 ≤ μ 9 (((2 * s) + w) - 9).toNat ∧ μ 9 (((2 * s) + w) - 9).toNat ≤ 64 from hV.g 9 (((2 * s) + w) - 9).toNat)
          refine ⟨by omega, ?_⟩
          exact ⟨mRetLS (by first | exact (if_neg e1).trans ((if_neg e3).trans ((if_pos e5).trans ((if_neg e7n).trans ((if_neg e8n).trans ((if_neg e9n).trans ((if_neg e10n).trans ((if_neg e11n).trans ((if_neg e12n).trans ((if_neg e13n).trans ((if_neg e14n).trans ((if_neg e15n).trans (if_pos e16)))))))))))) | (unfold v_side; rw [if_neg e1, if_neg e3, if_pos e5, if_neg e7n, if_neg e8n, if_neg e9n, if_neg e10n, if_neg e11n, if_neg e12n, if_neg e13n, if_neg e14n, if_neg e15n, if_pos e16])) (by first | exact (if_neg e1).trans ((if_neg e3).trans ((if_pos e5).trans ((if_neg e7n).trans ((if_neg e8n).trans ((if_neg e9n).trans ((if_neg e10n).trans ((if_neg e11n).trans ((if_neg e12n).trans ((if_neg e13n).trans ((if_neg e14n).trans ((if_neg e15n).trans (if_pos e16)))))))))))) | (unfold s_side; rw [if_neg e1, if_neg e3, if_pos e5, if_neg e7n, if_neg e8n, if_neg e9n, if_neg e10n, if_neg e11n, if_neg e12n, if_neg e13n, if_neg e14n, if_neg e15n, if_pos e16])) hV6, Nat.le_refl _, Nat.le_refl _⟩
        · have e7n : ¬ (w = 0) := by omega
          have e8n : ¬ (w = 1) := by omega
          have e9n : ¬ (w = 2) := by omega
          have e10n : ¬ (w = 3) := by omega
          have e11n : ¬ (w = 4) := by omega
          have e12n : ¬ (w = 5) := by omega
          have e13n : ¬ (w = 6) := by omega
          have e14n : ¬ (w = 7) := by omega
          have e15n : ¬ (w = 8) := by omega
          have e16n : ¬ (w = 9) := by omega
          refine ⟨_, hm_oi hx, aR (A 9), rfl, ?_⟩
          refine ⟨4, _, (μ 9 (((2 * s) + w) - 9).toNat), hm_a hx 9 rfl, by omega, (u2_f (by decide)), ?_⟩
          have t34 := (show 0 ≤ μ 9 (((2 * s) + w) - 9).toNat ∧ μ 9 (((2 * s) + w) - 9).toNat ≤ 64 from hV.g 9 (((2 * s) + w) - 9).toNat)
          refine ⟨by omega, ?_⟩
          exact ⟨mRetLS (by first | exact (if_neg e1).trans ((if_neg e3).trans ((if_pos e5).trans ((if_neg e7n).trans ((if_neg e8n).trans ((if_neg e9n).trans ((if_neg e10n).trans ((if_neg e11n).trans ((if_neg e12n).trans ((if_neg e13n).trans ((if_neg e14n).trans ((if_neg e15n).trans ((if_neg e16n).trans (if_pos e17))))))))))))) | (unfold v_side; rw [if_neg e1, if_neg e3, if_pos e5, if_neg e7n, if_neg e8n, if_neg e9n, if_neg e10n, if_neg e11n, if_neg e12n, if_neg e13n, if_neg e14n, if_neg e15n, if_neg e16n, if_pos e17])) (by first | exact (if_neg e1).trans ((if_neg e3).trans ((if_pos e5).trans ((if_neg e7n).trans ((if_neg e8n).trans ((if_neg e9n).trans ((if_neg e10n).trans ((if_neg e11n).trans ((if_neg e12n).trans ((if_neg e13n).trans ((if_neg e14n).trans ((if_neg e15n).trans ((if_neg e16n).trans (if_pos e17))))))))))))) | (unfold s_side; rw [if_neg e1, if_neg e3, if_pos e5, if_neg e7n, if_neg e8n, if_neg e9n, if_neg e10n, if_neg e11n, if_neg e12n, if_neg e13n, if_neg e14n, if_neg e15n, if_neg e16n, if_pos e17])) hV6, Nat.le_refl _, Nat.le_refl _⟩
        · have e7n : ¬ (w = 0) := by omega
          have e8n : ¬ (w = 1) := by omega
          have e9n : ¬ (w = 2) := by omega
          have e10n : ¬ (w = 3) := by omega
          have e11n : ¬ (w = 4) := by omega
          have e12n : ¬ (w = 5) := by omega
          have e13n : ¬ (w = 6) := by omega
          have e14n : ¬ (w = 7) := by omega
          have e15n : ¬ (w = 8) := by omega
          have e16n : ¬ (w = 9) := by omega
          have e17n : ¬ (w = 10) := by omega
          refine ⟨_, hm_oi hx, aR (A 10), rfl, ?_⟩
          refine ⟨4, _, (μ 10 (((2 * s) + w) - 11).toNat), hm_a hx 10 rfl, by omega, (u2_f (by decide)), ?_⟩
          have t35 := (show 0 ≤ μ 10 (((2 * s) + w) - 11).toNat ∧ μ 10 (((2 * s) + w) - 11).toNat ≤ 64 from hV.g 10 (((2 * s) + w) - 11).toNat)
          refine ⟨by omega, ?_⟩
          exact ⟨mRetLS (by first | exact (if_neg e1).trans ((if_neg e3).trans ((if_pos e5).trans ((if_neg e7n).trans ((if_neg e8n).trans ((if_neg e9n).trans ((if_neg e10n).trans ((if_neg e11n).trans ((if_neg e12n).trans ((if_neg e13n).trans ((if_neg e14n).trans ((if_neg e15n).trans ((if_neg e16n).trans ((if_neg e17n).trans (if_pos e18)))))))))))))) | (unfold v_side; rw [if_neg e1, if_neg e3, if_pos e5, if_neg e7n, if_neg e8n, if_neg e9n, if_neg e10n, if_neg e11n, if_neg e12n, if_neg e13n, if_neg e14n, if_neg e15n, if_neg e16n, if_neg e17n, if_pos e18])) (by first | exact (if_neg e1).trans ((if_neg e3).trans ((if_pos e5).trans ((if_neg e7n).trans ((if_neg e8n).trans ((if_neg e9n).trans ((if_neg e10n).trans ((if_neg e11n).trans ((if_neg e12n).trans ((if_neg e13n).trans ((if_neg e14n).trans ((if_neg e15n).trans ((if_neg e16n).trans ((if_neg e17n).trans (if_pos e18)))))))))))))) | (unfold s_side; rw [if_neg e1, if_neg e3, if_pos e5, if_neg e7n, if_neg e8n, if_neg e9n, if_neg e10n, if_neg e11n, if_neg e12n, if_neg e13n, if_neg e14n, if_neg e15n, if_neg e16n, if_neg e17n, if_pos e18])) hV6, Nat.le_refl _, Nat.le_refl _⟩
        · have e7n : ¬ (w = 0) := by omega
          have e8n : ¬ (w = 1) := by omega
          have e9n : ¬ (w = 2) := by omega
          have e10n : ¬ (w = 3) := by omega
          have e11n : ¬ (w = 4) := by omega
          have e12n : ¬ (w = 5) := by omega
          have e13n : ¬ (w = 6) := by omega
          have e14n : ¬ (w = 7) := by omega
          have e15n : ¬ (w = 8) := by omega
          have e16n : ¬ (w = 9) := by omega
          have e17n : ¬ (w = 10) := by omega
          have e18n : ¬ (w = 11) := by omega
          refine ⟨_, hm_oi hx, aR (A 10), rfl, ?_⟩
          refine ⟨4, _, (μ 10 (((2 * s) + w) - 11).toNat), hm_a hx 10 rfl, by omega, (u2_f (by decide)), ?_⟩
          have t36 := (show 0 ≤ μ 10 (((2 * s) + w) - 11).toNat ∧ μ 10 (((2 * s) + w) - 11).toNat ≤ 64 from hV.g 10 (((2 * s) + w) - 11).toNat)
          refine ⟨by omega, ?_⟩
          exact ⟨mRetLS (by first | exact (if_neg e1).trans ((if_neg e3).trans ((if_pos e5).trans ((if_neg e7n).trans ((if_neg e8n).trans ((if_neg e9n).trans ((if_neg e10n).trans ((if_neg e11n).trans ((if_neg e12n).trans ((if_neg e13n).trans ((if_neg e14n).trans ((if_neg e15n).trans ((if_neg e16n).trans ((if_neg e17n).trans ((if_neg e18n).trans (if_pos e19))))))))))))))) | (unfold v_side; rw [if_neg e1, if_neg e3, if_pos e5, if_neg e7n, if_neg e8n, if_neg e9n, if_neg e10n, if_neg e11n, if_neg e12n, if_neg e13n, if_neg e14n, if_neg e15n, if_neg e16n, if_neg e17n, if_neg e18n, if_pos e19])) (by first | exact (if_neg e1).trans ((if_neg e3).trans ((if_pos e5).trans ((if_neg e7n).trans ((if_neg e8n).trans ((if_neg e9n).trans ((if_neg e10n).trans ((if_neg e11n).trans ((if_neg e12n).trans ((if_neg e13n).trans ((if_neg e14n).trans ((if_neg e15n).trans ((if_neg e16n).trans ((if_neg e17n).trans ((if_neg e18n).trans (if_pos e19))))))))))))))) | (unfold s_side; rw [if_neg e1, if_neg e3, if_pos e5, if_neg e7n, if_neg e8n, if_neg e9n, if_neg e10n, if_neg e11n, if_neg e12n, if_neg e13n, if_neg e14n, if_neg e15n, if_neg e16n, if_neg e17n, if_neg e18n, if_pos e19])) hV6, Nat.le_refl _, Nat.le_refl _⟩
        · have e7n : ¬ (w = 0) := by omega
          have e8n : ¬ (w = 1) := by omega
          have e9n : ¬ (w = 2) := by omega
          have e10n : ¬ (w = 3) := by omega
          have e11n : ¬ (w = 4) := by omega
          have e12n : ¬ (w = 5) := by omega
          have e13n : ¬ (w = 6) := by omega
          have e14n : ¬ (w = 7) := by omega
          have e15n : ¬ (w = 8) := by omega
          have e16n : ¬ (w = 9) := by omega
          have e17n : ¬ (w = 10) := by omega
          have e18n : ¬ (w = 11) := by omega
          have e19n : ¬ (w = 12) := by omega
          refine ⟨_, hm_oi hx, aR (A 36), rfl, ?_⟩
          refine ⟨2, _, (μ 36 s.toNat), hm_a hx 36 rfl, by omega, (u2_f (by decide)), ?_⟩
          have t37 := (show 0 ≤ μ 36 s.toNat ∧ μ 36 s.toNat ≤ 65536 from hV.g 36 s.toNat)
          refine ⟨by omega, ?_⟩
          exact ⟨mRetLS (by first | exact (if_neg e1).trans ((if_neg e3).trans ((if_pos e5).trans ((if_neg e7n).trans ((if_neg e8n).trans ((if_neg e9n).trans ((if_neg e10n).trans ((if_neg e11n).trans ((if_neg e12n).trans ((if_neg e13n).trans ((if_neg e14n).trans ((if_neg e15n).trans ((if_neg e16n).trans ((if_neg e17n).trans ((if_neg e18n).trans (if_neg e19n))))))))))))))) | (unfold v_side; rw [if_neg e1, if_neg e3, if_pos e5, if_neg e7n, if_neg e8n, if_neg e9n, if_neg e10n, if_neg e11n, if_neg e12n, if_neg e13n, if_neg e14n, if_neg e15n, if_neg e16n, if_neg e17n, if_neg e18n, if_neg e19n])) (by first | exact (if_neg e1).trans ((if_neg e3).trans ((if_pos e5).trans ((if_neg e7n).trans ((if_neg e8n).trans ((if_neg e9n).trans ((if_neg e10n).trans ((if_neg e11n).trans ((if_neg e12n).trans ((if_neg e13n).trans ((if_neg e14n).trans ((if_neg e15n).trans ((if_neg e16n).trans ((if_neg e17n).trans ((if_neg e18n).trans (if_neg e19n))))))))))))))) | (unfold s_side; rw [if_neg e1, if_neg e3, if_pos e5, if_neg e7n, if_neg e8n, if_neg e9n, if_neg e10n, if_neg e11n, if_neg e12n, if_neg e13n, if_neg e14n, if_neg e15n, if_neg e16n, if_neg e17n, if_neg e18n, if_neg e19n])) hV6, Nat.le_refl _, Nat.le_refl _⟩
      · refine ⟨⟨_, hm_oi hx⟩, _, _, _, _, (m_fails1 hF htr hx (c := 1)), Nat.le_refl _, Nat.le_refl _, mki_ (r := some (aI 1)) ?_, fun _ _ q => q.elim⟩
        have hV38 := hV.u (f := 0) (k := 0) (v := 1) (show 0 ≤ 1 ∧ 1 ≤ 2 from by omega)
        refine ⟨by omega, fun (e : (1 : Int) = 0) => absurd e (by decide), fun _ => ?_⟩
        refine ⟨0, rfl, ?_⟩
        exact ⟨mRetLS (by first | exact (if_neg e1).trans ((if_neg e3).trans (if_neg e5)) | (unfold v_side; rw [if_neg e1, if_neg e3, if_neg e5])) (by first | exact (if_neg e1).trans ((if_neg e3).trans (if_neg e5)) | (unfold s_side; rw [if_neg e1, if_neg e3, if_neg e5])) hV38, Nat.le_refl _, Nat.le_refl _⟩
set_option maxRecDepth 100000 in
theorem s_side_fr {f kk : Nat} {s w : Int} (hf : [0].elem f = false) : s_side μ s w f kk = μ f kk := by
  have n0 : f ≠ 0 := by rintro rfl; exact absurd hf (by decide)
  have f0 : ∀ (m : Nat → Nat → Int) (a b : Nat) (v : Int), u2 m 0 a v f b = m f b := fun m a b v => u2_f n0
  unfold s_side
  repeat' with_reducible apply f_ite
  all_goals first | rfl | simp only [f0]
def v_thrown (μ : Nat → Nat → Int) : Int := (μ 0 0)
set_option maxRecDepth 100000 in
theorem m_thrown (hF : mm_F G) (htr : L.stackTraces = false) (hx : mx A ax) (hV : mV μ)  :
    mm_Met L G SX6_thrown [.ref (A 99)] (hm G A ax h0 μ) 0 0 (mRet (some (.int (iI (v_thrown μ)))) (hm G A ax h0 μ)) mm_no := by
  refine mi_meth MX6_thrown 400 hF htr okX6_thrown (av := [aR (A 99)]) (by decide +kernel) (Nat.le_of_ble_eq_true rfl) cmX6_thrown (fun θ hc => ?_)
  refine ⟨_, hm_oi hx, aI (μ 0 0), rfl, ?_⟩
  have t1 := (show 0 ≤ μ 0 0 ∧ μ 0 0 ≤ 2 from hV.g 0 0)
  exact ⟨mRetI rfl rfl, Nat.le_refl _, Nat.le_refl _⟩
end MR15
