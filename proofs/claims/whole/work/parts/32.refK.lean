section MR12
variable {L : Launch} {G : mmG} {A : Nat → Nat} {ax : Nat → Option Nat} {h0 : mmH} {μ ν : Nat → Nat → Int}
def v_takeStream_77 (μ : Nat → Nat → Int) (s : Int) : Nat → Int → Int → Int → (Nat → Nat → Int) → Int
  | 0, _, _, _, _ => 0
  | d + 1, j, t, i, ν => (if (ν 49 0) ≤ j then 0 else (if 2 ≤ t then 0 else (v_takeStream_77 μ s d (j + 1) t i (s_comes ν s i ((ν 47 0) + j) (ν 50 j.toNat)))))
def s_takeStream_77 (μ : Nat → Nat → Int) (s : Int) : Nat → Int → Int → Int → (Nat → Nat → Int) → (Nat → Nat → Int)
  | 0, _, _, _, ν => ν
  | d + 1, j, t, i, ν => (if (ν 49 0) ≤ j then (s_looksOver ν s i) else (if 2 ≤ t then (s_looksOver ν s i) else (s_takeStream_77 μ s d (j + 1) t i (s_comes ν s i ((ν 47 0) + j) (ν 50 j.toNat)))))
def v_takeStream (μ : Nat → Nat → Int) (s : Int) : Int := (if (v_meant μ s (μ 46 0) 0) ≤ 0 then (if (μ 48 0) = 1 then (if (v_reaches μ s (μ 46 0) ((μ 47 0) + (μ 49 0)) 1) ≤ 0 then (if ((μ 47 0) + (μ 49 0)) ≤ (μ 25 (mj s (μ 46 0))) then (v_takeStream_77 μ s 2049 0 (v_receiving μ s (μ 46 0)) (μ 46 0) (u2 (s_comesThere μ s (μ 46 0)) 26 (mj s (μ 46 0)) ((μ 47 0) + (μ 49 0)))) else (v_takeStream_77 μ s 2049 0 (v_receiving μ s (μ 46 0)) (μ 46 0) (u2 (u2 (s_comesThere μ s (μ 46 0)) 25 (mj s (μ 46 0)) ((μ 47 0) + (μ 49 0))) 26 (mj s (μ 46 0)) ((μ 47 0) + (μ 49 0))))) else (v_reaches μ s (μ 46 0) ((μ 47 0) + (μ 49 0)) 1)) else (if (v_reaches μ s (μ 46 0) ((μ 47 0) + (μ 49 0)) 0) ≤ 0 then (if ((μ 47 0) + (μ 49 0)) ≤ (μ 25 (mj s (μ 46 0))) then (v_takeStream_77 μ s 2049 0 (v_receiving μ s (μ 46 0)) (μ 46 0) (s_comesThere μ s (μ 46 0))) else (v_takeStream_77 μ s 2049 0 (v_receiving μ s (μ 46 0)) (μ 46 0) (u2 (s_comesThere μ s (μ 46 0)) 25 (mj s (μ 46 0)) ((μ 47 0) + (μ 49 0))))) else (v_reaches μ s (μ 46 0) ((μ 47 0) + (μ 49 0)) 0))) else (v_meant μ s (μ 46 0) 0))
def s_takeStream (μ : Nat → Nat → Int) (s : Int) : Nat → Nat → Int := (if (v_meant μ s (μ 46 0) 0) ≤ 0 then (if (μ 48 0) = 1 then (if (v_reaches μ s (μ 46 0) ((μ 47 0) + (μ 49 0)) 1) ≤ 0 then (if ((μ 47 0) + (μ 49 0)) ≤ (μ 25 (mj s (μ 46 0))) then (s_takeStream_77 μ s 2049 0 (v_receiving μ s (μ 46 0)) (μ 46 0) (u2 (s_comesThere μ s (μ 46 0)) 26 (mj s (μ 46 0)) ((μ 47 0) + (μ 49 0)))) else (s_takeStream_77 μ s 2049 0 (v_receiving μ s (μ 46 0)) (μ 46 0) (u2 (u2 (s_comesThere μ s (μ 46 0)) 25 (mj s (μ 46 0)) ((μ 47 0) + (μ 49 0))) 26 (mj s (μ 46 0)) ((μ 47 0) + (μ 49 0))))) else μ) else (if (v_reaches μ s (μ 46 0) ((μ 47 0) + (μ 49 0)) 0) ≤ 0 then (if ((μ 47 0) + (μ 49 0)) ≤ (μ 25 (mj s (μ 46 0))) then (s_takeStream_77 μ s 2049 0 (v_receiving μ s (μ 46 0)) (μ 46 0) (s_comesThere μ s (μ 46 0))) else (s_takeStream_77 μ s 2049 0 (v_receiving μ s (μ 46 0)) (μ 46 0) (u2 (s_comesThere μ s (μ 46 0)) 25 (mj s (μ 46 0)) ((μ 47 0) + (μ 49 0))))) else μ)) else μ)
set_option maxRecDepth 100000 in
theorem m_takeStream (hF : mm_F G) (htr : L.stackTraces = false) (hx : mx A ax) (hV : mV μ) {s : Int} (h1 : 0 ≤ s) (h2 : s ≤ 1) (hP : mP2 μ) :
    mm_Met L G SX6_takeStream [.ref (A 99), .int (iI s)] (hm G A ax h0 μ) 0 0 (mRetS (some (.int (iI (v_takeStream μ s)))) (hm G A ax h0 (s_takeStream μ s)) (mV (s_takeStream μ s) ∧ (fun r m => (0 ≤ r ∧ r ≤ 6) ∧ mP2 m) (v_takeStream μ s) (s_takeStream μ s))) mm_no := by
  refine mi_meth MX6_takeStream 400 hF htr okX6_takeStream (av := [aR (A 99), aI s]) (by decide +kernel) (Nat.le_of_ble_eq_true rfl) cmX6_takeStream (fun θ hc => ?_)
  have loop77 : ∀ (R : Int) (S : Nat → Nat → Int) (d : Nat) (j t i : Int) (ν : Nat → Nat → Int) (hV : mV ν), (0 ≤ j ∧ j ≤ ν 49 0) → (0 ≤ t ∧ t ≤ 4) → (0 ≤ i ∧ i < 256) → (ν 47 0 + ν 49 0 ≤ ν 25 (mj s i)) → (mP2 ν) → (ν 49 0 - j) < (d : Int) → v_takeStream_77 μ s d j t i ν = R → s_takeStream_77 μ s d j t i ν = S → mi_W L G MX6_takeStream 0 0 (mRetS (some (.int (iI R))) (hm G A ax h0 S) (mV S ∧ (fun r m => (0 ≤ r ∧ r ≤ 6) ∧ mP2 m) R S)) mm_no θ 77 [(8, aI j), (7, aI t), (3, aI i), (0, aR (A 99)), (1, aI s)] [] (hm G A ax h0 ν) 0 0 := by
    intro R S d
    induction d with
    | zero =>
      intro j t i ν hV hi1 hi2 hi3 hi4 hP hms hvr hsr
      have z1 : 0 ≤ ν 49 0 ∧ ν 49 0 ≤ 2048 := hV 49 0
      omega
    | succ d ih =>
      intro j t i ν hV hi1 hi2 hi3 hi4 hP hms hvr hsr
      have hlt := mPi_lt hV (hP s h1 h2)
      have h25 : 0 ≤ ν 25 (mj s i) ∧ ν 25 (mj s i) ≤ 65536 := hV 25 _
      have h47 : 0 ≤ ν 47 0 ∧ ν 47 0 ≤ 4611686018427387903 := hV 47 0
      refine mi_sound hc okX6_takeStream 400 _ _ _ _ _ _ ?_
      refine ⟨_, hm_oi hx, aI (ν 49 0), rfl, ?_⟩
      have t1 := (show 0 ≤ ν 49 0 ∧ ν 49 0 ≤ 2048 from hV.g 49 0)
      refine ⟨by omega, fun (e2 : (ν 49 0) ≤ j) => ?_, fun (e2 : ¬ ((ν 49 0) ≤ j)) => ?_⟩
      · refine ⟨⟨_, hm_oi hx⟩, _, _, _, _, (m_looksOver hF htr hx hV (s := s) (i := i) (by omega) (by omega) (by omega) (by omega)), Nat.le_refl _, Nat.le_refl _, mkis_ (r := none) (fun hV3 => ?_), fun _ _ q => q.elim⟩
        exact ⟨mRetIP (P := fun r m => (0 ≤ r ∧ r ≤ 6) ∧ mP2 m) (hvr.symm.trans (by first | exact if_pos e2 | (rw [v_takeStream_77]; rw [if_pos e2]))) (hsr.symm.trans (by first | exact if_pos e2 | (rw [s_takeStream_77]; rw [if_pos e2]))) hV3 ⟨by omega, (mP2_cg (by intro f hf k; simp only [List.elem_eq_mem, decide_eq_true_eq, List.mem_cons, List.not_mem_nil, or_false] at hf; rcases hf with rfl | rfl | rfl | rfl <;> exact ((s_looksOver_fr (by decide))).symm) hP)⟩, Nat.le_refl _, Nat.le_refl _⟩
      · refine ⟨by omega, fun (e4 : 2 ≤ t) => ?_, fun (e4 : ¬ (2 ≤ t)) => ?_⟩
        · refine ⟨⟨_, hm_oi hx⟩, _, _, _, _, (m_looksOver hF htr hx hV (s := s) (i := i) (by omega) (by omega) (by omega) (by omega)), Nat.le_refl _, Nat.le_refl _, mkis_ (r := none) (fun hV5 => ?_), fun _ _ q => q.elim⟩
          exact ⟨mRetIP (P := fun r m => (0 ≤ r ∧ r ≤ 6) ∧ mP2 m) (hvr.symm.trans (by first | exact (if_neg e2).trans (if_pos e4) | (rw [v_takeStream_77]; rw [if_neg e2, if_pos e4]))) (hsr.symm.trans (by first | exact (if_neg e2).trans (if_pos e4) | (rw [s_takeStream_77]; rw [if_neg e2, if_pos e4]))) hV5 ⟨by omega, (mP2_cg (by intro f hf k; simp only [List.elem_eq_mem, decide_eq_true_eq, List.mem_cons, List.not_mem_nil, or_false] at hf; rcases hf with rfl | rfl | rfl | rfl <;> exact ((s_looksOver_fr (by decide))).symm) hP)⟩, Nat.le_refl _, Nat.le_refl _⟩
        · refine ⟨_, hm_oi hx, aL (ν 47 0), rfl, ?_⟩
          have t6 := (show 0 ≤ ν 47 0 ∧ ν 47 0 ≤ 4611686018427387903 from hV.g 47 0)
          refine ⟨by omega, ?_⟩
          refine ⟨_, hm_oi hx, aR (A 50), rfl, ?_⟩
          refine ⟨2048, _, (ν 50 j.toNat), hm_a hx 50 rfl, by omega, rfl, ?_⟩
          have t7 := (show -128 ≤ ν 50 j.toNat ∧ ν 50 j.toNat ≤ 127 from hV.g 50 j.toNat)
          refine ⟨⟨_, hm_oi hx⟩, _, _, _, _, (m_comes hF htr hx hV (s := s) (i := i) (o := ((ν 47 0) + j)) (b := (ν 50 j.toNat)) (by omega) (by omega) (by omega) (by omega) (by omega) (by omega) (by omega) (by omega) (by omega)), Nat.le_refl _, Nat.le_refl _, mkis_ (r := none) (fun hV8 => ?_), fun _ _ q => q.elim⟩
          have t9 := (show 0 ≤ ν 25 (mj s i) ∧ ν 25 (mj s i) ≤ 65536 from hV.g 25 (mj s i))
          exact mi_Wsub (List.forall_mem_cons.mpr ⟨(.head _), List.forall_mem_cons.mpr ⟨(.tail _ (.head _)), List.forall_mem_cons.mpr ⟨(.tail _ (.tail _ (.head _))), List.forall_mem_cons.mpr ⟨(.tail _ (.tail _ (.tail _ (.head _)))), List.forall_mem_cons.mpr ⟨(.tail _ (.tail _ (.tail _ (.tail _ (.head _))))), fun _ h => absurd h List.not_mem_nil⟩⟩⟩⟩⟩) (ih (j + 1) t i (s_comes ν s i ((ν 47 0) + j) (ν 50 j.toNat)) hV8 (by rw [show (s_comes ν s i ((ν 47 0) + j) (ν 50 j.toNat)) 49 0 = _ from (s_comes_fr (by decide))]; omega) (show 0 ≤ t ∧ t ≤ 4 from by omega) (show 0 ≤ i ∧ i < 256 from by omega) (by rw [show (s_comes ν s i ((ν 47 0) + j) (ν 50 j.toNat)) 47 0 = _ from (s_comes_fr (by decide))]; rw [show (s_comes ν s i ((ν 47 0) + j) (ν 50 j.toNat)) 49 0 = _ from (s_comes_fr (by decide))]; rw [show (s_comes ν s i ((ν 47 0) + j) (ν 50 j.toNat)) 25 (mj s i) = _ from (s_comes_fr (by decide))]; omega) (comes_p2 hV (by omega) (by omega) (by omega) (by omega) hP) (by rw [show (s_comes ν s i ((ν 47 0) + j) (ν 50 j.toNat)) 49 0 = _ from (s_comes_fr (by decide))]; omega) (Eq.trans (by first | exact ((if_neg e2).trans (if_neg e4)).symm | (rw [v_takeStream_77]; rw [if_neg e2, if_neg e4])) hvr) (Eq.trans (by first | exact ((if_neg e2).trans (if_neg e4)).symm | (rw [s_takeStream_77]; rw [if_neg e2, if_neg e4])) hsr))
  refine ⟨_, hm_oi hx, aL (μ 46 0), rfl, ?_⟩
  have t10 := (show 0 ≤ μ 46 0 ∧ μ 46 0 ≤ 4611686018427387903 from hV.g 46 0)
  refine ⟨⟨_, hm_oi hx⟩, _, _, _, _, (m_meant hF htr hx hV (s := s) (a := (μ 46 0)) (p := 0) (by omega) (by omega) (by omega) (by omega) (by omega)), Nat.le_refl _, Nat.le_refl _, mki_ (r := some (aI (v_meant μ s (μ 46 0) 0))) ?_, fun _ _ q => q.elim⟩
  have t11 := v_meant_b μ s (μ 46 0) 0
  have t12 := (meant_0 (μ := μ) (s := s) (a := (μ 46 0)) (p := 0) hV)
  refine ⟨by omega, fun (e13 : (v_meant μ s (μ 46 0) 0) ≤ 0) => ?_, fun (e13 : ¬ ((v_meant μ s (μ 46 0) 0) ≤ 0)) => ?_⟩
  · refine mi_nl [(2, aI (v_meant μ s (μ 46 0) 0)), (0, aR (A 99)), (1, aI s)] rfl ?_
    refine ⟨_, hm_oi hx, aL (μ 46 0), rfl, ?_⟩
    refine ⟨_, _, _, _, (m_at hF htr (s := s) (i := (μ 46 0))), Nat.le_refl _, Nat.le_refl _, mki_ (r := some (aI ((256 * s) + (μ 46 0)))) ?_, fun _ _ q => q.elim⟩
    refine mi_nl [(3, aI (μ 46 0)), (2, aI (v_meant μ s (μ 46 0) 0)), (0, aR (A 99)), (1, aI s)] rfl ?_
    refine ⟨_, hm_oi hx, aL (μ 47 0), rfl, ?_⟩
    have t14 := (show 0 ≤ μ 47 0 ∧ μ 47 0 ≤ 4611686018427387903 from hV.g 47 0)
    refine mi_nl [(4, aI ((256 * s) + (μ 46 0))), (3, aI (μ 46 0)), (2, aI (v_meant μ s (μ 46 0) 0)), (0, aR (A 99)), (1, aI s)] rfl ?_
    refine ⟨_, hm_oi hx, aI (μ 49 0), rfl, ?_⟩
    have t15 := (show 0 ≤ μ 49 0 ∧ μ 49 0 ≤ 2048 from hV.g 49 0)
    refine ⟨by omega, ?_⟩
    refine ⟨_, hm_oi hx, aL (μ 48 0), rfl, ?_⟩
    have t16 := (show 0 ≤ μ 48 0 ∧ μ 48 0 ≤ 4611686018427387903 from hV.g 48 0)
    refine mi_nl [(5, aL ((μ 47 0) + (μ 49 0))), (4, aI ((256 * s) + (μ 46 0))), (3, aI (μ 46 0)), (2, aI (v_meant μ s (μ 46 0) 0)), (0, aR (A 99)), (1, aI s)] rfl ?_
    refine ⟨1, rfl, ?_⟩
    refine ⟨by omega, fun (e17 : ¬ ((μ 48 0) = 1)) => ?_, fun (e17 : (μ 48 0) = 1) => ?_⟩
    · refine ⟨⟨_, hm_oi hx⟩, _, _, _, _, (m_reaches hF htr hx hV (s := s) (i := (μ 46 0)) (e := ((μ 47 0) + (μ 49 0))) (p := 0) (by omega) (by omega) (by omega) (by omega) (by omega) (by omega) (by omega)), Nat.le_refl _, Nat.le_refl _, mki_ (r := some (aI (v_reaches μ s (μ 46 0) ((μ 47 0) + (μ 49 0)) 0))) ?_, fun _ _ q => q.elim⟩
      have t18 := v_reaches_b μ s (μ 46 0) ((μ 47 0) + (μ 49 0)) 0
      have t19 := (reaches_0 (μ := μ) (s := s) (i := (μ 46 0)) (e := ((μ 47 0) + (μ 49 0))) (p := 0) hV)
      refine ⟨by omega, fun (e20 : (v_reaches μ s (μ 46 0) ((μ 47 0) + (μ 49 0)) 0) ≤ 0) => ?_, fun (e20 : ¬ ((v_reaches μ s (μ 46 0) ((μ 47 0) + (μ 49 0)) 0) ≤ 0)) => ?_⟩
      · refine mi_nl [(2, aI (v_reaches μ s (μ 46 0) ((μ 47 0) + (μ 49 0)) 0)), (5, aL ((μ 47 0) + (μ 49 0))), (4, aI ((256 * s) + (μ 46 0))), (3, aI (μ 46 0)), (0, aR (A 99)), (1, aI s)] rfl ?_
        refine ⟨⟨_, hm_oi hx⟩, _, _, _, _, (m_comesThere hF htr hx hV (s := s) (i := (μ 46 0)) (by omega) (by omega) (by omega) (by omega)), Nat.le_refl _, Nat.le_refl _, mkis_ (r := none) (fun hV21 => ?_), fun _ _ q => q.elim⟩
        have ev22 : (v_receiving (s_comesThere μ s (μ 46 0)) s (μ 46 0)) = (v_receiving μ s (μ 46 0)) := (v_receiving_cg (by intro f hf k; simp only [List.elem_eq_mem, decide_eq_true_eq, List.mem_cons, List.not_mem_nil, or_false] at hf; rcases hf with rfl | rfl | rfl | rfl | rfl | rfl | rfl <;> first | exact (s_comesThere_fr (by decide))))
        refine ⟨⟨_, hm_oi hx⟩, _, _, _, _, (m_receiving hF htr hx hV21 (s := s) (i := (μ 46 0)) (by omega) (by omega) (by omega) (by omega)), Nat.le_refl _, Nat.le_refl _, mkiE (r := some (aI (v_receiving μ s (μ 46 0)))) (congrArg (fun q => some (Value.int q)) (congrArg iI ev22)) ?_, fun _ _ q => q.elim⟩
        have t23 := v_receiving_b (s_comesThere μ s (μ 46 0)) s (μ 46 0)
        rw [ev22] at t23
        refine ⟨_, hm_oi hx, aR (A 25), rfl, ?_⟩
        refine mi_nl [(7, aI (v_receiving μ s (μ 46 0))), (2, aI (v_reaches μ s (μ 46 0) ((μ 47 0) + (μ 49 0)) 0)), (5, aL ((μ 47 0) + (μ 49 0))), (4, aI ((256 * s) + (μ 46 0))), (3, aI (μ 46 0)), (0, aR (A 99)), (1, aI s)] rfl ?_
        refine ⟨512, _, (μ 25 (mj s (μ 46 0))), hm_a hx 25 rfl, by omega, (s_comesThere_fr (by decide)), ?_⟩
        have t24 := (show 0 ≤ μ 25 (mj s (μ 46 0)) ∧ μ 25 (mj s (μ 46 0)) ≤ 65536 from hV.g 25 (mj s (μ 46 0)))
        refine ⟨by omega, fun (e25 : ((μ 47 0) + (μ 49 0)) ≤ (μ 25 (mj s (μ 46 0)))) => ?_, fun (e25 : ¬ (((μ 47 0) + (μ 49 0)) ≤ (μ 25 (mj s (μ 46 0))))) => ?_⟩
        · refine ⟨_, hm_oi hx, aL (μ 48 0), congrArg aL (show (s_comesThere μ s (μ 46 0)) 48 0 = (μ 48 0) from (s_comesThere_fr (by decide))), ?_⟩
          refine ⟨1, rfl, ?_⟩
          refine ⟨by omega, fun _ => ?_, fun (e : (μ 48 0) = 1) => absurd e (by omega)⟩
          exact mi_Wsub (List.forall_mem_cons.mpr ⟨(.head _), List.forall_mem_cons.mpr ⟨(.tail _ (.head _)), List.forall_mem_cons.mpr ⟨(.tail _ (.tail _ (.tail _ (.tail _ (.tail _ (.head _)))))), List.forall_mem_cons.mpr ⟨(.tail _ (.tail _ (.tail _ (.tail _ (.tail _ (.tail _ (.head _))))))), List.forall_mem_cons.mpr ⟨(.tail _ (.tail _ (.tail _ (.tail _ (.tail _ (.tail _ (.tail _ (.head _)))))))), fun _ h => absurd h List.not_mem_nil⟩⟩⟩⟩⟩) (loop77 _ _ 2049 0 (v_receiving μ s (μ 46 0)) (μ 46 0) (s_comesThere μ s (μ 46 0)) hV21 (by rw [show (s_comesThere μ s (μ 46 0)) 49 0 = _ from (s_comesThere_fr (by decide))]; omega) (show 0 ≤ (v_receiving μ s (μ 46 0)) ∧ (v_receiving μ s (μ 46 0)) ≤ 4 from by omega) (show 0 ≤ (μ 46 0) ∧ (μ 46 0) < 256 from by omega) (by rw [show (s_comesThere μ s (μ 46 0)) 47 0 = _ from (s_comesThere_fr (by decide))]; rw [show (s_comesThere μ s (μ 46 0)) 49 0 = _ from (s_comesThere_fr (by decide))]; rw [show (s_comesThere μ s (μ 46 0)) 25 (mj s (μ 46 0)) = _ from (s_comesThere_fr (by decide))]; omega) (mP2_cg (by intro f hf k; simp only [List.elem_eq_mem, decide_eq_true_eq, List.mem_cons, List.not_mem_nil, or_false] at hf; rcases hf with rfl | rfl | rfl | rfl <;> exact ((s_comesThere_fr (by decide))).symm) hP) (by rw [show (s_comesThere μ s (μ 46 0)) 49 0 = _ from (s_comesThere_fr (by decide))]; omega) (by first | exact ((if_pos e13).trans ((if_neg e17).trans ((if_pos e20).trans (if_pos e25)))).symm | (unfold v_takeStream; rw [if_pos e13, if_neg e17, if_pos e20, if_pos e25])) (by first | exact ((if_pos e13).trans ((if_neg e17).trans ((if_pos e20).trans (if_pos e25)))).symm | (unfold s_takeStream; rw [if_pos e13, if_neg e17, if_pos e20, if_pos e25])))
        · refine ⟨_, hm_oi hx, aR (A 25), rfl, ?_⟩
          refine ⟨512, _, _, hm_a hx 25 rfl, by omega, hm_pl hx (i := (mj s (μ 46 0))) (v := ((μ 47 0) + (μ 49 0))) rfl rfl rfl, ?_⟩
          have hV27 := hV21.u (f := 25) (k := (mj s (μ 46 0))) (v := ((μ 47 0) + (μ 49 0))) (show 0 ≤ ((μ 47 0) + (μ 49 0)) ∧ ((μ 47 0) + (μ 49 0)) ≤ 65536 from by omega)
          refine ⟨_, hm_oi hx, aL (μ 48 0), congrArg aL (show (u2 (s_comesThere μ s (μ 46 0)) 25 (mj s (μ 46 0)) ((μ 47 0) + (μ 49 0))) 48 0 = (μ 48 0) from (Eq.trans (u2_f (by decide)) (s_comesThere_fr (by decide)))), ?_⟩
          refine ⟨1, rfl, ?_⟩
          refine ⟨by omega, fun _ => ?_, fun (e : (μ 48 0) = 1) => absurd e (by omega)⟩
          exact mi_Wsub (List.forall_mem_cons.mpr ⟨(.head _), List.forall_mem_cons.mpr ⟨(.tail _ (.head _)), List.forall_mem_cons.mpr ⟨(.tail _ (.tail _ (.tail _ (.tail _ (.tail _ (.head _)))))), List.forall_mem_cons.mpr ⟨(.tail _ (.tail _ (.tail _ (.tail _ (.tail _ (.tail _ (.head _))))))), List.forall_mem_cons.mpr ⟨(.tail _ (.tail _ (.tail _ (.tail _ (.tail _ (.tail _ (.tail _ (.head _)))))))), fun _ h => absurd h List.not_mem_nil⟩⟩⟩⟩⟩) (loop77 _ _ 2049 0 (v_receiving μ s (μ 46 0)) (μ 46 0) (u2 (s_comesThere μ s (μ 46 0)) 25 (mj s (μ 46 0)) ((μ 47 0) + (μ 49 0))) hV27 (by rw [show (u2 (s_comesThere μ s (μ 46 0)) 25 (mj s (μ 46 0)) ((μ 47 0) + (μ 49 0))) 49 0 = _ from (Eq.trans (u2_f (by decide)) (s_comesThere_fr (by decide)))]; omega) (show 0 ≤ (v_receiving μ s (μ 46 0)) ∧ (v_receiving μ s (μ 46 0)) ≤ 4 from by omega) (show 0 ≤ (μ 46 0) ∧ (μ 46 0) < 256 from by omega) (by rw [show (u2 (s_comesThere μ s (μ 46 0)) 25 (mj s (μ 46 0)) ((μ 47 0) + (μ 49 0))) 47 0 = _ from (Eq.trans (u2_f (by decide)) (s_comesThere_fr (by decide)))]; rw [show (u2 (s_comesThere μ s (μ 46 0)) 25 (mj s (μ 46 0)) ((μ 47 0) + (μ 49 0))) 49 0 = _ from (Eq.trans (u2_f (by decide)) (s_comesThere_fr (by decide)))]; rw [show (u2 (s_comesThere μ s (μ 46 0)) 25 (mj s (μ 46 0)) ((μ 47 0) + (μ 49 0))) 25 (mj s (μ 46 0)) = _ from (u2_s _ _ _ _)]; omega) (high_p2 (μ := μ) (s := s) (i := (μ 46 0)) (e := ((μ 47 0) + (μ 49 0))) hP (by intro f hf k; simp only [List.elem_eq_mem, decide_eq_true_eq, List.mem_cons, List.not_mem_nil, or_false] at hf; rcases hf with rfl | rfl | rfl | rfl <;> first | exact ((s_comesThere_fr (by decide))).symm) (by omega) (by omega) (by omega) (by omega) (by omega) (by omega)) (by rw [show (u2 (s_comesThere μ s (μ 46 0)) 25 (mj s (μ 46 0)) ((μ 47 0) + (μ 49 0))) 49 0 = _ from (Eq.trans (u2_f (by decide)) (s_comesThere_fr (by decide)))]; omega) (by first | exact ((if_pos e13).trans ((if_neg e17).trans ((if_pos e20).trans (if_neg e25)))).symm | (unfold v_takeStream; rw [if_pos e13, if_neg e17, if_pos e20, if_neg e25])) (by first | exact ((if_pos e13).trans ((if_neg e17).trans ((if_pos e20).trans (if_neg e25)))).symm | (unfold s_takeStream; rw [if_pos e13, if_neg e17, if_pos e20, if_neg e25])))
      · refine mi_nl [(2, aI (v_reaches μ s (μ 46 0) ((μ 47 0) + (μ 49 0)) 0)), (5, aL ((μ 47 0) + (μ 49 0))), (4, aI ((256 * s) + (μ 46 0))), (3, aI (μ 46 0)), (0, aR (A 99)), (1, aI s)] rfl ?_
        exact ⟨mRetIP (P := fun r m => (0 ≤ r ∧ r ≤ 6) ∧ mP2 m) (by first | exact (if_pos e13).trans ((if_neg e17).trans (if_neg e20)) | (unfold v_takeStream; rw [if_pos e13, if_neg e17, if_neg e20])) (by first | exact (if_pos e13).trans ((if_neg e17).trans (if_neg e20)) | (unfold s_takeStream; rw [if_pos e13, if_neg e17, if_neg e20])) hV ⟨by omega, hP⟩, Nat.le_refl _, Nat.le_refl _⟩
    · refine ⟨⟨_, hm_oi hx⟩, _, _, _, _, (m_reaches hF htr hx hV (s := s) (i := (μ 46 0)) (e := ((μ 47 0) + (μ 49 0))) (p := 1) (by omega) (by omega) (by omega) (by omega) (by omega) (by omega) (by omega)), Nat.le_refl _, Nat.le_refl _, mki_ (r := some (aI (v_reaches μ s (μ 46 0) ((μ 47 0) + (μ 49 0)) 1))) ?_, fun _ _ q => q.elim⟩
      have t29 := v_reaches_b μ s (μ 46 0) ((μ 47 0) + (μ 49 0)) 1
      have t30 := (reaches_0 (μ := μ) (s := s) (i := (μ 46 0)) (e := ((μ 47 0) + (μ 49 0))) (p := 1) hV)
      refine ⟨by omega, fun (e31 : (v_reaches μ s (μ 46 0) ((μ 47 0) + (μ 49 0)) 1) ≤ 0) => ?_, fun (e31 : ¬ ((v_reaches μ s (μ 46 0) ((μ 47 0) + (μ 49 0)) 1) ≤ 0)) => ?_⟩
      · refine mi_nl [(2, aI (v_reaches μ s (μ 46 0) ((μ 47 0) + (μ 49 0)) 1)), (5, aL ((μ 47 0) + (μ 49 0))), (4, aI ((256 * s) + (μ 46 0))), (3, aI (μ 46 0)), (0, aR (A 99)), (1, aI s)] rfl ?_
        refine ⟨⟨_, hm_oi hx⟩, _, _, _, _, (m_comesThere hF htr hx hV (s := s) (i := (μ 46 0)) (by omega) (by omega) (by omega) (by omega)), Nat.le_refl _, Nat.le_refl _, mkis_ (r := none) (fun hV32 => ?_), fun _ _ q => q.elim⟩
        have ev33 : (v_receiving (s_comesThere μ s (μ 46 0)) s (μ 46 0)) = (v_receiving μ s (μ 46 0)) := (v_receiving_cg (by intro f hf k; simp only [List.elem_eq_mem, decide_eq_true_eq, List.mem_cons, List.not_mem_nil, or_false] at hf; rcases hf with rfl | rfl | rfl | rfl | rfl | rfl | rfl <;> first | exact (s_comesThere_fr (by decide))))
        refine ⟨⟨_, hm_oi hx⟩, _, _, _, _, (m_receiving hF htr hx hV32 (s := s) (i := (μ 46 0)) (by omega) (by omega) (by omega) (by omega)), Nat.le_refl _, Nat.le_refl _, mkiE (r := some (aI (v_receiving μ s (μ 46 0)))) (congrArg (fun q => some (Value.int q)) (congrArg iI ev33)) ?_, fun _ _ q => q.elim⟩
        have t34 := v_receiving_b (s_comesThere μ s (μ 46 0)) s (μ 46 0)
        rw [ev33] at t34
        refine ⟨_, hm_oi hx, aR (A 25), rfl, ?_⟩
        refine mi_nl [(7, aI (v_receiving μ s (μ 46 0))), (2, aI (v_reaches μ s (μ 46 0) ((μ 47 0) + (μ 49 0)) 1)), (5, aL ((μ 47 0) + (μ 49 0))), (4, aI ((256 * s) + (μ 46 0))), (3, aI (μ 46 0)), (0, aR (A 99)), (1, aI s)] rfl ?_
        refine ⟨512, _, (μ 25 (mj s (μ 46 0))), hm_a hx 25 rfl, by omega, (s_comesThere_fr (by decide)), ?_⟩
        have t35 := (show 0 ≤ μ 25 (mj s (μ 46 0)) ∧ μ 25 (mj s (μ 46 0)) ≤ 65536 from hV.g 25 (mj s (μ 46 0)))
        refine ⟨by omega, fun (e36 : ((μ 47 0) + (μ 49 0)) ≤ (μ 25 (mj s (μ 46 0)))) => ?_, fun (e36 : ¬ (((μ 47 0) + (μ 49 0)) ≤ (μ 25 (mj s (μ 46 0))))) => ?_⟩
        · refine ⟨_, hm_oi hx, aL (μ 48 0), congrArg aL (show (s_comesThere μ s (μ 46 0)) 48 0 = (μ 48 0) from (s_comesThere_fr (by decide))), ?_⟩
          refine ⟨1, rfl, ?_⟩
          refine ⟨by omega, fun (e : ¬ ((μ 48 0) = 1)) => absurd e (by omega), fun _ => ?_⟩
          refine ⟨_, hm_oi hx, aR (A 26), rfl, ?_⟩
          refine ⟨512, _, _, hm_a hx 26 rfl, by omega, hm_pl hx (i := (mj s (μ 46 0))) (v := ((μ 47 0) + (μ 49 0))) rfl rfl rfl, ?_⟩
          have hV38 := hV32.u (f := 26) (k := (mj s (μ 46 0))) (v := ((μ 47 0) + (μ 49 0))) (show -1 ≤ ((μ 47 0) + (μ 49 0)) ∧ ((μ 47 0) + (μ 49 0)) ≤ 65536 from by omega)
          exact mi_Wsub (List.forall_mem_cons.mpr ⟨(.head _), List.forall_mem_cons.mpr ⟨(.tail _ (.head _)), List.forall_mem_cons.mpr ⟨(.tail _ (.tail _ (.tail _ (.tail _ (.tail _ (.head _)))))), List.forall_mem_cons.mpr ⟨(.tail _ (.tail _ (.tail _ (.tail _ (.tail _ (.tail _ (.head _))))))), List.forall_mem_cons.mpr ⟨(.tail _ (.tail _ (.tail _ (.tail _ (.tail _ (.tail _ (.tail _ (.head _)))))))), fun _ h => absurd h List.not_mem_nil⟩⟩⟩⟩⟩) (loop77 _ _ 2049 0 (v_receiving μ s (μ 46 0)) (μ 46 0) (u2 (s_comesThere μ s (μ 46 0)) 26 (mj s (μ 46 0)) ((μ 47 0) + (μ 49 0))) hV38 (by rw [show (u2 (s_comesThere μ s (μ 46 0)) 26 (mj s (μ 46 0)) ((μ 47 0) + (μ 49 0))) 49 0 = _ from (Eq.trans (u2_f (by decide)) (s_comesThere_fr (by decide)))]; omega) (show 0 ≤ (v_receiving μ s (μ 46 0)) ∧ (v_receiving μ s (μ 46 0)) ≤ 4 from by omega) (show 0 ≤ (μ 46 0) ∧ (μ 46 0) < 256 from by omega) (by rw [show (u2 (s_comesThere μ s (μ 46 0)) 26 (mj s (μ 46 0)) ((μ 47 0) + (μ 49 0))) 47 0 = _ from (Eq.trans (u2_f (by decide)) (s_comesThere_fr (by decide)))]; rw [show (u2 (s_comesThere μ s (μ 46 0)) 26 (mj s (μ 46 0)) ((μ 47 0) + (μ 49 0))) 49 0 = _ from (Eq.trans (u2_f (by decide)) (s_comesThere_fr (by decide)))]; rw [show (u2 (s_comesThere μ s (μ 46 0)) 26 (mj s (μ 46 0)) ((μ 47 0) + (μ 49 0))) 25 (mj s (μ 46 0)) = _ from (Eq.trans (u2_f (by decide)) (s_comesThere_fr (by decide)))]; omega) (mP2_u (by decide) (mP2_cg (by intro f hf k; simp only [List.elem_eq_mem, decide_eq_true_eq, List.mem_cons, List.not_mem_nil, or_false] at hf; rcases hf with rfl | rfl | rfl | rfl <;> exact ((s_comesThere_fr (by decide))).symm) hP)) (by rw [show (u2 (s_comesThere μ s (μ 46 0)) 26 (mj s (μ 46 0)) ((μ 47 0) + (μ 49 0))) 49 0 = _ from (Eq.trans (u2_f (by decide)) (s_comesThere_fr (by decide)))]; omega) (by first | exact ((if_pos e13).trans ((if_pos e17).trans ((if_pos e31).trans (if_pos e36)))).symm | (unfold v_takeStream; rw [if_pos e13, if_pos e17, if_pos e31, if_pos e36])) (by first | exact ((if_pos e13).trans ((if_pos e17).trans ((if_pos e31).trans (if_pos e36)))).symm | (unfold s_takeStream; rw [if_pos e13, if_pos e17, if_pos e31, if_pos e36])))
        · refine ⟨_, hm_oi hx, aR (A 25), rfl, ?_⟩
          refine ⟨512, _, _, hm_a hx 25 rfl, by omega, hm_pl hx (i := (mj s (μ 46 0))) (v := ((μ 47 0) + (μ 49 0))) rfl rfl rfl, ?_⟩
          have hV39 := hV32.u (f := 25) (k := (mj s (μ 46 0))) (v := ((μ 47 0) + (μ 49 0))) (show 0 ≤ ((μ 47 0) + (μ 49 0)) ∧ ((μ 47 0) + (μ 49 0)) ≤ 65536 from by omega)
          refine ⟨_, hm_oi hx, aL (μ 48 0), congrArg aL (show (u2 (s_comesThere μ s (μ 46 0)) 25 (mj s (μ 46 0)) ((μ 47 0) + (μ 49 0))) 48 0 = (μ 48 0) from (Eq.trans (u2_f (by decide)) (s_comesThere_fr (by decide)))), ?_⟩
          refine ⟨1, rfl, ?_⟩
          refine ⟨by omega, fun (e : ¬ ((μ 48 0) = 1)) => absurd e (by omega), fun _ => ?_⟩
          refine ⟨_, hm_oi hx, aR (A 26), rfl, ?_⟩
          refine ⟨512, _, _, hm_a hx 26 rfl, by omega, hm_pl hx (i := (mj s (μ 46 0))) (v := ((μ 47 0) + (μ 49 0))) rfl rfl rfl, ?_⟩
          have hV41 := hV39.u (f := 26) (k := (mj s (μ 46 0))) (v := ((μ 47 0) + (μ 49 0))) (show -1 ≤ ((μ 47 0) + (μ 49 0)) ∧ ((μ 47 0) + (μ 49 0)) ≤ 65536 from by omega)
          exact mi_Wsub (List.forall_mem_cons.mpr ⟨(.head _), List.forall_mem_cons.mpr ⟨(.tail _ (.head _)), List.forall_mem_cons.mpr ⟨(.tail _ (.tail _ (.tail _ (.tail _ (.tail _ (.head _)))))), List.forall_mem_cons.mpr ⟨(.tail _ (.tail _ (.tail _ (.tail _ (.tail _ (.tail _ (.head _))))))), List.forall_mem_cons.mpr ⟨(.tail _ (.tail _ (.tail _ (.tail _ (.tail _ (.tail _ (.tail _ (.head _)))))))), fun _ h => absurd h List.not_mem_nil⟩⟩⟩⟩⟩) (loop77 _ _ 2049 0 (v_receiving μ s (μ 46 0)) (μ 46 0) (u2 (u2 (s_comesThere μ s (μ 46 0)) 25 (mj s (μ 46 0)) ((μ 47 0) + (μ 49 0))) 26 (mj s (μ 46 0)) ((μ 47 0) + (μ 49 0))) hV41 (by rw [show (u2 (u2 (s_comesThere μ s (μ 46 0)) 25 (mj s (μ 46 0)) ((μ 47 0) + (μ 49 0))) 26 (mj s (μ 46 0)) ((μ 47 0) + (μ 49 0))) 49 0 = _ from (Eq.trans (u2_f (by decide)) (Eq.trans (u2_f (by decide)) (s_comesThere_fr (by decide))))]; omega) (show 0 ≤ (v_receiving μ s (μ 46 0)) ∧ (v_receiving μ s (μ 46 0)) ≤ 4 from by omega) (show 0 ≤ (μ 46 0) ∧ (μ 46 0) < 256 from by omega) (by rw [show (u2 (u2 (s_comesThere μ s (μ 46 0)) 25 (mj s (μ 46 0)) ((μ 47 0) + (μ 49 0))) 26 (mj s (μ 46 0)) ((μ 47 0) + (μ 49 0))) 47 0 = _ from (Eq.trans (u2_f (by decide)) (Eq.trans (u2_f (by decide)) (s_comesThere_fr (by decide))))]; rw [show (u2 (u2 (s_comesThere μ s (μ 46 0)) 25 (mj s (μ 46 0)) ((μ 47 0) + (μ 49 0))) 26 (mj s (μ 46 0)) ((μ 47 0) + (μ 49 0))) 49 0 = _ from (Eq.trans (u2_f (by decide)) (Eq.trans (u2_f (by decide)) (s_comesThere_fr (by decide))))]; rw [show (u2 (u2 (s_comesThere μ s (μ 46 0)) 25 (mj s (μ 46 0)) ((μ 47 0) + (μ 49 0))) 26 (mj s (μ 46 0)) ((μ 47 0) + (μ 49 0))) 25 (mj s (μ 46 0)) = _ from (Eq.trans (u2_f (by decide)) (u2_s _ _ _ _))]; omega) (mP2_u (by decide) (high_p2 (μ := μ) (s := s) (i := (μ 46 0)) (e := ((μ 47 0) + (μ 49 0))) hP (by intro f hf k; simp only [List.elem_eq_mem, decide_eq_true_eq, List.mem_cons, List.not_mem_nil, or_false] at hf; rcases hf with rfl | rfl | rfl | rfl <;> first | exact ((s_comesThere_fr (by decide))).symm) (by omega) (by omega) (by omega) (by omega) (by omega) (by omega))) (by rw [show (u2 (u2 (s_comesThere μ s (μ 46 0)) 25 (mj s (μ 46 0)) ((μ 47 0) + (μ 49 0))) 26 (mj s (μ 46 0)) ((μ 47 0) + (μ 49 0))) 49 0 = _ from (Eq.trans (u2_f (by decide)) (Eq.trans (u2_f (by decide)) (s_comesThere_fr (by decide))))]; omega) (by first | exact ((if_pos e13).trans ((if_pos e17).trans ((if_pos e31).trans (if_neg e36)))).symm | (unfold v_takeStream; rw [if_pos e13, if_pos e17, if_pos e31, if_neg e36])) (by first | exact ((if_pos e13).trans ((if_pos e17).trans ((if_pos e31).trans (if_neg e36)))).symm | (unfold s_takeStream; rw [if_pos e13, if_pos e17, if_pos e31, if_neg e36])))
      · refine mi_nl [(2, aI (v_reaches μ s (μ 46 0) ((μ 47 0) + (μ 49 0)) 1)), (5, aL ((μ 47 0) + (μ 49 0))), (4, aI ((256 * s) + (μ 46 0))), (3, aI (μ 46 0)), (0, aR (A 99)), (1, aI s)] rfl ?_
        exact ⟨mRetIP (P := fun r m => (0 ≤ r ∧ r ≤ 6) ∧ mP2 m) (by first | exact (if_pos e13).trans ((if_pos e17).trans (if_neg e31)) | (unfold v_takeStream; rw [if_pos e13, if_pos e17, if_neg e31])) (by first | exact (if_pos e13).trans ((if_pos e17).trans (if_neg e31)) | (unfold s_takeStream; rw [if_pos e13, if_pos e17, if_neg e31])) hV ⟨by omega, hP⟩, Nat.le_refl _, Nat.le_refl _⟩
  · refine mi_nl [(2, aI (v_meant μ s (μ 46 0) 0)), (0, aR (A 99)), (1, aI s)] rfl ?_
    exact ⟨mRetIP (P := fun r m => (0 ≤ r ∧ r ≤ 6) ∧ mP2 m) (by first | exact if_neg e13 | (unfold v_takeStream; rw [if_neg e13])) (by first | exact if_neg e13 | (unfold s_takeStream; rw [if_neg e13])) hV ⟨by omega, hP⟩, Nat.le_refl _, Nat.le_refl _⟩
set_option maxRecDepth 100000 in
theorem s_takeStream_77_fr {f kk : Nat} {s : Int} (hf : [9, 10, 13, 17, 18, 25, 26, 30, 35, 40, 41, 42, 43, 44].elem f = false) : ∀ (d : Nat) (j t i : Int) (ν : Nat → Nat → Int), s_takeStream_77 μ s d j t i ν f kk = ν f kk := by
  have n9 : f ≠ 9 := by rintro rfl; exact absurd hf (by decide)
  have n10 : f ≠ 10 := by rintro rfl; exact absurd hf (by decide)
  have n13 : f ≠ 13 := by rintro rfl; exact absurd hf (by decide)
  have n17 : f ≠ 17 := by rintro rfl; exact absurd hf (by decide)
  have n18 : f ≠ 18 := by rintro rfl; exact absurd hf (by decide)
  have n25 : f ≠ 25 := by rintro rfl; exact absurd hf (by decide)
  have n26 : f ≠ 26 := by rintro rfl; exact absurd hf (by decide)
  have n30 : f ≠ 30 := by rintro rfl; exact absurd hf (by decide)
  have n35 : f ≠ 35 := by rintro rfl; exact absurd hf (by decide)
  have n40 : f ≠ 40 := by rintro rfl; exact absurd hf (by decide)
  have n41 : f ≠ 41 := by rintro rfl; exact absurd hf (by decide)
  have n42 : f ≠ 42 := by rintro rfl; exact absurd hf (by decide)
  have n43 : f ≠ 43 := by rintro rfl; exact absurd hf (by decide)
  have n44 : f ≠ 44 := by rintro rfl; exact absurd hf (by decide)
  have f9 : ∀ (m : Nat → Nat → Int) (a b : Nat) (v : Int), u2 m 9 a v f b = m f b := fun m a b v => u2_f n9
  have f10 : ∀ (m : Nat → Nat → Int) (a b : Nat) (v : Int), u2 m 10 a v f b = m f b := fun m a b v => u2_f n10
  have f13 : ∀ (m : Nat → Nat → Int) (a b : Nat) (v : Int), u2 m 13 a v f b = m f b := fun m a b v => u2_f n13
  have f17 : ∀ (m : Nat → Nat → Int) (a b : Nat) (v : Int), u2 m 17 a v f b = m f b := fun m a b v => u2_f n17
  have f18 : ∀ (m : Nat → Nat → Int) (a b : Nat) (v : Int), u2 m 18 a v f b = m f b := fun m a b v => u2_f n18
  have f25 : ∀ (m : Nat → Nat → Int) (a b : Nat) (v : Int), u2 m 25 a v f b = m f b := fun m a b v => u2_f n25
  have f26 : ∀ (m : Nat → Nat → Int) (a b : Nat) (v : Int), u2 m 26 a v f b = m f b := fun m a b v => u2_f n26
  have f30 : ∀ (m : Nat → Nat → Int) (a b : Nat) (v : Int), u2 m 30 a v f b = m f b := fun m a b v => u2_f n30
  have f35 : ∀ (m : Nat → Nat → Int) (a b : Nat) (v : Int), u2 m 35 a v f b = m f b := fun m a b v => u2_f n35
  have f40 : ∀ (m : Nat → Nat → Int) (a b : Nat) (v : Int), u2 m 40 a v f b = m f b := fun m a b v => u2_f n40
  have f41 : ∀ (m : Nat → Nat → Int) (a b : Nat) (v : Int), u2 m 41 a v f b = m f b := fun m a b v => u2_f n41
  have f42 : ∀ (m : Nat → Nat → Int) (a b : Nat) (v : Int), u2 m 42 a v f b = m f b := fun m a b v => u2_f n42
  have f43 : ∀ (m : Nat → Nat → Int) (a b : Nat) (v : Int), u2 m 43 a v f b = m f b := fun m a b v => u2_f n43
  have f44 : ∀ (m : Nat → Nat → Int) (a b : Nat) (v : Int), u2 m 44 a v f b = m f b := fun m a b v => u2_f n44
  have c_comes : ∀ (m : Nat → Nat → Int) (z_s z_i z_o z_b : Int) (k : Nat), s_comes m z_s z_i z_o z_b f k = m f k := by intros; exact s_comes_fr (by simp only [List.elem_cons, List.elem_nil, beq_eq_false_iff_ne.mpr n40, beq_eq_false_iff_ne.mpr n41, beq_eq_false_iff_ne.mpr n42, beq_eq_false_iff_ne.mpr n43, beq_eq_false_iff_ne.mpr n44]; try rfl)
  have c_comesThere : ∀ (m : Nat → Nat → Int) (z_s z_i : Int) (k : Nat), s_comesThere m z_s z_i f k = m f k := by intros; exact s_comesThere_fr (by simp only [List.elem_cons, List.elem_nil, beq_eq_false_iff_ne.mpr n9, beq_eq_false_iff_ne.mpr n17, beq_eq_false_iff_ne.mpr n18, beq_eq_false_iff_ne.mpr n30]; try rfl)
  have c_looksOver : ∀ (m : Nat → Nat → Int) (z_s z_i : Int) (k : Nat), s_looksOver m z_s z_i f k = m f k := by intros; exact s_looksOver_fr (by simp only [List.elem_cons, List.elem_nil, beq_eq_false_iff_ne.mpr n10, beq_eq_false_iff_ne.mpr n13, beq_eq_false_iff_ne.mpr n35]; try rfl)
  intro d
  induction d with
  | zero => intros; rfl
  | succ d ih =>
    intro j t i ν
    rw [s_takeStream_77]
    repeat' with_reducible apply f_ite
    all_goals first | rfl | simp only [f9, f10, f13, f17, f18, f25, f26, f30, f35, f40, f41, f42, f43, f44, c_comes, c_comesThere, c_looksOver, ih]
set_option maxRecDepth 100000 in
theorem s_takeStream_fr {f kk : Nat} {s : Int} (hf : [9, 10, 13, 17, 18, 25, 26, 30, 35, 40, 41, 42, 43, 44].elem f = false) : s_takeStream μ s f kk = μ f kk := by
  have n9 : f ≠ 9 := by rintro rfl; exact absurd hf (by decide)
  have n10 : f ≠ 10 := by rintro rfl; exact absurd hf (by decide)
  have n13 : f ≠ 13 := by rintro rfl; exact absurd hf (by decide)
  have n17 : f ≠ 17 := by rintro rfl; exact absurd hf (by decide)
  have n18 : f ≠ 18 := by rintro rfl; exact absurd hf (by decide)
  have n25 : f ≠ 25 := by rintro rfl; exact absurd hf (by decide)
  have n26 : f ≠ 26 := by rintro rfl; exact absurd hf (by decide)
  have n30 : f ≠ 30 := by rintro rfl; exact absurd hf (by decide)
  have n35 : f ≠ 35 := by rintro rfl; exact absurd hf (by decide)
  have n40 : f ≠ 40 := by rintro rfl; exact absurd hf (by decide)
  have n41 : f ≠ 41 := by rintro rfl; exact absurd hf (by decide)
  have n42 : f ≠ 42 := by rintro rfl; exact absurd hf (by decide)
  have n43 : f ≠ 43 := by rintro rfl; exact absurd hf (by decide)
  have n44 : f ≠ 44 := by rintro rfl; exact absurd hf (by decide)
  have f9 : ∀ (m : Nat → Nat → Int) (a b : Nat) (v : Int), u2 m 9 a v f b = m f b := fun m a b v => u2_f n9
  have f10 : ∀ (m : Nat → Nat → Int) (a b : Nat) (v : Int), u2 m 10 a v f b = m f b := fun m a b v => u2_f n10
  have f13 : ∀ (m : Nat → Nat → Int) (a b : Nat) (v : Int), u2 m 13 a v f b = m f b := fun m a b v => u2_f n13
  have f17 : ∀ (m : Nat → Nat → Int) (a b : Nat) (v : Int), u2 m 17 a v f b = m f b := fun m a b v => u2_f n17
  have f18 : ∀ (m : Nat → Nat → Int) (a b : Nat) (v : Int), u2 m 18 a v f b = m f b := fun m a b v => u2_f n18
  have f25 : ∀ (m : Nat → Nat → Int) (a b : Nat) (v : Int), u2 m 25 a v f b = m f b := fun m a b v => u2_f n25
  have f26 : ∀ (m : Nat → Nat → Int) (a b : Nat) (v : Int), u2 m 26 a v f b = m f b := fun m a b v => u2_f n26
  have f30 : ∀ (m : Nat → Nat → Int) (a b : Nat) (v : Int), u2 m 30 a v f b = m f b := fun m a b v => u2_f n30
  have f35 : ∀ (m : Nat → Nat → Int) (a b : Nat) (v : Int), u2 m 35 a v f b = m f b := fun m a b v => u2_f n35
  have f40 : ∀ (m : Nat → Nat → Int) (a b : Nat) (v : Int), u2 m 40 a v f b = m f b := fun m a b v => u2_f n40
  have f41 : ∀ (m : Nat → Nat → Int) (a b : Nat) (v : Int), u2 m 41 a v f b = m f b := fun m a b v => u2_f n41
  have f42 : ∀ (m : Nat → Nat → Int) (a b : Nat) (v : Int), u2 m 42 a v f b = m f b := fun m a b v => u2_f n42
  have f43 : ∀ (m : Nat → Nat → Int) (a b : Nat) (v : Int), u2 m 43 a v f b = m f b := fun m a b v => u2_f n43
  have f44 : ∀ (m : Nat → Nat → Int) (a b : Nat) (v : Int), u2 m 44 a v f b = m f b := fun m a b v => u2_f n44
  have c_comes : ∀ (m : Nat → Nat → Int) (z_s z_i z_o z_b : Int) (k : Nat), s_comes m z_s z_i z_o z_b f k = m f k := by intros; exact s_comes_fr (by simp only [List.elem_cons, List.elem_nil, beq_eq_false_iff_ne.mpr n40, beq_eq_false_iff_ne.mpr n41, beq_eq_false_iff_ne.mpr n42, beq_eq_false_iff_ne.mpr n43, beq_eq_false_iff_ne.mpr n44]; try rfl)
  have c_comesThere : ∀ (m : Nat → Nat → Int) (z_s z_i : Int) (k : Nat), s_comesThere m z_s z_i f k = m f k := by intros; exact s_comesThere_fr (by simp only [List.elem_cons, List.elem_nil, beq_eq_false_iff_ne.mpr n9, beq_eq_false_iff_ne.mpr n17, beq_eq_false_iff_ne.mpr n18, beq_eq_false_iff_ne.mpr n30]; try rfl)
  have c_looksOver : ∀ (m : Nat → Nat → Int) (z_s z_i : Int) (k : Nat), s_looksOver m z_s z_i f k = m f k := by intros; exact s_looksOver_fr (by simp only [List.elem_cons, List.elem_nil, beq_eq_false_iff_ne.mpr n10, beq_eq_false_iff_ne.mpr n13, beq_eq_false_iff_ne.mpr n35]; try rfl)
  unfold s_takeStream
  repeat' with_reducible apply f_ite
  all_goals first | rfl | simp only [f9, f10, f13, f17, f18, f25, f26, f30, f35, f40, f41, f42, f43, f44, c_comes, c_comesThere, c_looksOver, s_takeStream_77_fr hf]
def v_takeReset (μ : Nat → Nat → Int) (s : Int) : Int := (if (v_meant μ s (μ 46 0) 0) ≤ 0 then (if (v_reaches μ s (μ 46 0) (μ 48 0) 1) ≤ 0 then (if (v_receiving μ s (μ 46 0)) ≤ 1 then 0 else 0) else (v_reaches μ s (μ 46 0) (μ 48 0) 1)) else (v_meant μ s (μ 46 0) 0))
def s_takeReset (μ : Nat → Nat → Int) (s : Int) : Nat → Nat → Int := (if (v_meant μ s (μ 46 0) 0) ≤ 0 then (if (v_reaches μ s (μ 46 0) (μ 48 0) 1) ≤ 0 then (if (v_receiving μ s (μ 46 0)) ≤ 1 then (s_looksOver (s_growData (u2 (u2 (u2 (u2 (s_comesThere μ s (μ 46 0)) 25 (mj s (μ 46 0)) (μ 48 0)) 26 (mj s (μ 46 0)) (μ 48 0)) 28 (mj s (μ 46 0)) 1) 29 (mj s (μ 46 0)) (μ 47 0)) s) s (μ 46 0)) else (u2 (u2 (s_comesThere μ s (μ 46 0)) 25 (mj s (μ 46 0)) (μ 48 0)) 26 (mj s (μ 46 0)) (μ 48 0))) else μ) else μ)
set_option maxRecDepth 100000 in
theorem m_takeReset (hF : mm_F G) (htr : L.stackTraces = false) (hx : mx A ax) (hV : mV μ) {s : Int} (h1 : 0 ≤ s) (h2 : s ≤ 1) (hP : mP2 μ) :
    mm_Met L G SX6_takeReset [.ref (A 99), .int (iI s)] (hm G A ax h0 μ) 0 0 (mRetS (some (.int (iI (v_takeReset μ s)))) (hm G A ax h0 (s_takeReset μ s)) (mV (s_takeReset μ s) ∧ (fun r m => (0 ≤ r ∧ r ≤ 6) ∧ mP2 m) (v_takeReset μ s) (s_takeReset μ s))) mm_no := by
  refine mi_meth MX6_takeReset 400 hF htr okX6_takeReset (av := [aR (A 99), aI s]) (by decide +kernel) (Nat.le_of_ble_eq_true rfl) cmX6_takeReset (fun θ hc => ?_)
  refine ⟨_, hm_oi hx, aL (μ 46 0), rfl, ?_⟩
  have t1 := (show 0 ≤ μ 46 0 ∧ μ 46 0 ≤ 4611686018427387903 from hV.g 46 0)
  refine ⟨⟨_, hm_oi hx⟩, _, _, _, _, (m_meant hF htr hx hV (s := s) (a := (μ 46 0)) (p := 0) (by omega) (by omega) (by omega) (by omega) (by omega)), Nat.le_refl _, Nat.le_refl _, mki_ (r := some (aI (v_meant μ s (μ 46 0) 0))) ?_, fun _ _ q => q.elim⟩
  have t2 := v_meant_b μ s (μ 46 0) 0
  have t3 := (meant_0 (μ := μ) (s := s) (a := (μ 46 0)) (p := 0) hV)
  refine ⟨by omega, fun (e4 : (v_meant μ s (μ 46 0) 0) ≤ 0) => ?_, fun (e4 : ¬ ((v_meant μ s (μ 46 0) 0) ≤ 0)) => ?_⟩
  · refine mi_nl [(2, aI (v_meant μ s (μ 46 0) 0)), (0, aR (A 99)), (1, aI s)] rfl ?_
    refine ⟨_, hm_oi hx, aL (μ 46 0), rfl, ?_⟩
    refine ⟨_, _, _, _, (m_at hF htr (s := s) (i := (μ 46 0))), Nat.le_refl _, Nat.le_refl _, mki_ (r := some (aI ((256 * s) + (μ 46 0)))) ?_, fun _ _ q => q.elim⟩
    refine mi_nl [(3, aI (μ 46 0)), (2, aI (v_meant μ s (μ 46 0) 0)), (0, aR (A 99)), (1, aI s)] rfl ?_
    refine ⟨_, hm_oi hx, aL (μ 48 0), rfl, ?_⟩
    have t5 := (show 0 ≤ μ 48 0 ∧ μ 48 0 ≤ 4611686018427387903 from hV.g 48 0)
    refine mi_nl [(4, aI ((256 * s) + (μ 46 0))), (3, aI (μ 46 0)), (2, aI (v_meant μ s (μ 46 0) 0)), (0, aR (A 99)), (1, aI s)] rfl ?_
    refine ⟨⟨_, hm_oi hx⟩, _, _, _, _, (m_reaches hF htr hx hV (s := s) (i := (μ 46 0)) (e := (μ 48 0)) (p := 1) (by omega) (by omega) (by omega) (by omega) (by omega) (by omega) (by omega)), Nat.le_refl _, Nat.le_refl _, mki_ (r := some (aI (v_reaches μ s (μ 46 0) (μ 48 0) 1))) ?_, fun _ _ q => q.elim⟩
    have t6 := v_reaches_b μ s (μ 46 0) (μ 48 0) 1
    have t7 := (reaches_0 (μ := μ) (s := s) (i := (μ 46 0)) (e := (μ 48 0)) (p := 1) hV)
    refine ⟨by omega, fun (e8 : (v_reaches μ s (μ 46 0) (μ 48 0) 1) ≤ 0) => ?_, fun (e8 : ¬ ((v_reaches μ s (μ 46 0) (μ 48 0) 1) ≤ 0)) => ?_⟩
    · refine mi_nl [(2, aI (v_reaches μ s (μ 46 0) (μ 48 0) 1)), (4, aI ((256 * s) + (μ 46 0))), (3, aI (μ 46 0)), (0, aR (A 99)), (1, aI s)] rfl ?_
      refine ⟨⟨_, hm_oi hx⟩, _, _, _, _, (m_comesThere hF htr hx hV (s := s) (i := (μ 46 0)) (by omega) (by omega) (by omega) (by omega)), Nat.le_refl _, Nat.le_refl _, mkis_ (r := none) (fun hV9 => ?_), fun _ _ q => q.elim⟩
      have ev10 : (v_receiving (s_comesThere μ s (μ 46 0)) s (μ 46 0)) = (v_receiving μ s (μ 46 0)) := (v_receiving_cg (by intro f hf k; simp only [List.elem_eq_mem, decide_eq_true_eq, List.mem_cons, List.not_mem_nil, or_false] at hf; rcases hf with rfl | rfl | rfl | rfl | rfl | rfl | rfl <;> first | exact (s_comesThere_fr (by decide))))
      refine ⟨⟨_, hm_oi hx⟩, _, _, _, _, (m_receiving hF htr hx hV9 (s := s) (i := (μ 46 0)) (by omega) (by omega) (by omega) (by omega)), Nat.le_refl _, Nat.le_refl _, mkiE (r := some (aI (v_receiving μ s (μ 46 0)))) (congrArg (fun q => some (Value.int q)) (congrArg iI ev10)) ?_, fun _ _ q => q.elim⟩
      have t11 := v_receiving_b (s_comesThere μ s (μ 46 0)) s (μ 46 0)
      rw [ev10] at t11
      refine ⟨_, hm_oi hx, aR (A 25), rfl, ?_⟩
      refine mi_nl [(5, aI (v_receiving μ s (μ 46 0))), (2, aI (v_reaches μ s (μ 46 0) (μ 48 0) 1)), (4, aI ((256 * s) + (μ 46 0))), (3, aI (μ 46 0)), (0, aR (A 99)), (1, aI s)] rfl ?_
      refine ⟨_, hm_oi hx, aL (μ 48 0), congrArg aL (show (s_comesThere μ s (μ 46 0)) 48 0 = (μ 48 0) from (s_comesThere_fr (by decide))), ?_⟩
      refine ⟨512, _, _, hm_a hx 25 rfl, by omega, hm_pl hx (i := (mj s (μ 46 0))) (v := (μ 48 0)) rfl rfl rfl, ?_⟩
      have hV12 := hV9.u (f := 25) (k := (mj s (μ 46 0))) (v := (μ 48 0)) (show 0 ≤ (μ 48 0) ∧ (μ 48 0) ≤ 65536 from by omega)
      refine ⟨_, hm_oi hx, aR (A 26), rfl, ?_⟩
      refine ⟨_, hm_oi hx, aL (μ 48 0), congrArg aL (show (u2 (s_comesThere μ s (μ 46 0)) 25 (mj s (μ 46 0)) (μ 48 0)) 48 0 = (μ 48 0) from (Eq.trans (u2_f (by decide)) (s_comesThere_fr (by decide)))), ?_⟩
      refine ⟨512, _, _, hm_a hx 26 rfl, by omega, hm_pl hx (i := (mj s (μ 46 0))) (v := (μ 48 0)) rfl rfl rfl, ?_⟩
      have hV13 := hV12.u (f := 26) (k := (mj s (μ 46 0))) (v := (μ 48 0)) (show -1 ≤ (μ 48 0) ∧ (μ 48 0) ≤ 65536 from by omega)
      refine ⟨by omega, fun (e14 : (v_receiving μ s (μ 46 0)) ≤ 1) => ?_, fun (e14 : ¬ ((v_receiving μ s (μ 46 0)) ≤ 1)) => ?_⟩
      · refine ⟨_, hm_oi hx, aR (A 28), rfl, ?_⟩
        refine ⟨512, _, _, hm_a hx 28 rfl, by omega, (show 1 = 0 ∨ 1 = 1 from by omega), hm_pi hx (i := (mj s (μ 46 0))) (v := 1) rfl rfl rfl rfl, ?_⟩
        have hV15 := hV13.u (f := 28) (k := (mj s (μ 46 0))) (v := 1) (show 0 ≤ 1 ∧ 1 ≤ 1 from by omega)
        refine ⟨_, hm_oi hx, aR (A 29), rfl, ?_⟩
        refine ⟨_, hm_oi hx, aL (μ 47 0), congrArg aL (show (u2 (u2 (u2 (s_comesThere μ s (μ 46 0)) 25 (mj s (μ 46 0)) (μ 48 0)) 26 (mj s (μ 46 0)) (μ 48 0)) 28 (mj s (μ 46 0)) 1) 47 0 = (μ 47 0) from (Eq.trans (u2_f (by decide)) (Eq.trans (u2_f (by decide)) (Eq.trans (u2_f (by decide)) (s_comesThere_fr (by decide)))))), ?_⟩
        have t16 := (show 0 ≤ μ 47 0 ∧ μ 47 0 ≤ 4611686018427387903 from hV.g 47 0)
        refine ⟨512, _, _, hm_a hx 29 rfl, by omega, hm_pl hx (i := (mj s (μ 46 0))) (v := (μ 47 0)) rfl rfl rfl, ?_⟩
        have hV17 := hV15.u (f := 29) (k := (mj s (μ 46 0))) (v := (μ 47 0)) (show 0 ≤ (μ 47 0) ∧ (μ 47 0) ≤ 4611686018427387903 from by omega)
        refine ⟨⟨_, hm_oi hx⟩, _, _, _, _, (m_growData hF htr hx hV17 (s := s) (by omega) (by omega)), Nat.le_refl _, Nat.le_refl _, mkis_ (r := none) (fun hV18 => ?_), fun _ _ q => q.elim⟩
        refine ⟨⟨_, hm_oi hx⟩, _, _, _, _, (m_looksOver hF htr hx hV18 (s := s) (i := (μ 46 0)) (by omega) (by omega) (by omega) (by omega)), Nat.le_refl _, Nat.le_refl _, mkis_ (r := none) (fun hV19 => ?_), fun _ _ q => q.elim⟩
        exact ⟨mRetIP (P := fun r m => (0 ≤ r ∧ r ≤ 6) ∧ mP2 m) (by first | exact (if_pos e4).trans ((if_pos e8).trans (if_pos e14)) | (unfold v_takeReset; rw [if_pos e4, if_pos e8, if_pos e14])) (by first | exact (if_pos e4).trans ((if_pos e8).trans (if_pos e14)) | (unfold s_takeReset; rw [if_pos e4, if_pos e8, if_pos e14])) hV19 ⟨by omega, (mP2_cg (by intro f hf k; simp only [List.elem_eq_mem, decide_eq_true_eq, List.mem_cons, List.not_mem_nil, or_false] at hf; rcases hf with rfl | rfl | rfl | rfl <;> exact ((s_looksOver_fr (by decide))).symm) (mP2_cg (by intro f hf k; simp only [List.elem_eq_mem, decide_eq_true_eq, List.mem_cons, List.not_mem_nil, or_false] at hf; rcases hf with rfl | rfl | rfl | rfl <;> exact ((s_growData_fr (by decide))).symm) (mP2_u (by decide) (mP2_u (by decide) (mP2_u (by decide) (high_p2 (μ := μ) (s := s) (i := (μ 46 0)) (e := (μ 48 0)) hP (by intro f hf k; simp only [List.elem_eq_mem, decide_eq_true_eq, List.mem_cons, List.not_mem_nil, or_false] at hf; rcases hf with rfl | rfl | rfl | rfl <;> first | exact ((s_comesThere_fr (by decide))).symm) (by omega) (by omega) (by omega) (by omega) (by omega) (by omega)))))))⟩, Nat.le_refl _, Nat.le_refl _⟩
      · exact ⟨mRetIP (P := fun r m => (0 ≤ r ∧ r ≤ 6) ∧ mP2 m) (by first | exact (if_pos e4).trans ((if_pos e8).trans (if_neg e14)) | (unfold v_takeReset; rw [if_pos e4, if_pos e8, if_neg e14])) (by first | exact (if_pos e4).trans ((if_pos e8).trans (if_neg e14)) | (unfold s_takeReset; rw [if_pos e4, if_pos e8, if_neg e14])) hV13 ⟨by omega, (mP2_u (by decide) (high_p2 (μ := μ) (s := s) (i := (μ 46 0)) (e := (μ 48 0)) hP (by intro f hf k; simp only [List.elem_eq_mem, decide_eq_true_eq, List.mem_cons, List.not_mem_nil, or_false] at hf; rcases hf with rfl | rfl | rfl | rfl <;> first | exact ((s_comesThere_fr (by decide))).symm) (by omega) (by omega) (by omega) (by omega) (by omega) (by omega)))⟩, Nat.le_refl _, Nat.le_refl _⟩
    · refine mi_nl [(2, aI (v_reaches μ s (μ 46 0) (μ 48 0) 1)), (4, aI ((256 * s) + (μ 46 0))), (3, aI (μ 46 0)), (0, aR (A 99)), (1, aI s)] rfl ?_
      exact ⟨mRetIP (P := fun r m => (0 ≤ r ∧ r ≤ 6) ∧ mP2 m) (by first | exact (if_pos e4).trans (if_neg e8) | (unfold v_takeReset; rw [if_pos e4, if_neg e8])) (by first | exact (if_pos e4).trans (if_neg e8) | (unfold s_takeReset; rw [if_pos e4, if_neg e8])) hV ⟨by omega, hP⟩, Nat.le_refl _, Nat.le_refl _⟩
  · refine mi_nl [(2, aI (v_meant μ s (μ 46 0) 0)), (0, aR (A 99)), (1, aI s)] rfl ?_
    exact ⟨mRetIP (P := fun r m => (0 ≤ r ∧ r ≤ 6) ∧ mP2 m) (by first | exact if_neg e4 | (unfold v_takeReset; rw [if_neg e4])) (by first | exact if_neg e4 | (unfold s_takeReset; rw [if_neg e4])) hV ⟨by omega, hP⟩, Nat.le_refl _, Nat.le_refl _⟩
set_option maxRecDepth 100000 in
theorem s_takeReset_fr {f kk : Nat} {s : Int} (hf : [9, 10, 11, 12, 13, 17, 18, 25, 26, 28, 29, 30, 35].elem f = false) : s_takeReset μ s f kk = μ f kk := by
  have n9 : f ≠ 9 := by rintro rfl; exact absurd hf (by decide)
  have n10 : f ≠ 10 := by rintro rfl; exact absurd hf (by decide)
  have n11 : f ≠ 11 := by rintro rfl; exact absurd hf (by decide)
  have n12 : f ≠ 12 := by rintro rfl; exact absurd hf (by decide)
  have n13 : f ≠ 13 := by rintro rfl; exact absurd hf (by decide)
  have n17 : f ≠ 17 := by rintro rfl; exact absurd hf (by decide)
  have n18 : f ≠ 18 := by rintro rfl; exact absurd hf (by decide)
  have n25 : f ≠ 25 := by rintro rfl; exact absurd hf (by decide)
  have n26 : f ≠ 26 := by rintro rfl; exact absurd hf (by decide)
  have n28 : f ≠ 28 := by rintro rfl; exact absurd hf (by decide)
  have n29 : f ≠ 29 := by rintro rfl; exact absurd hf (by decide)
  have n30 : f ≠ 30 := by rintro rfl; exact absurd hf (by decide)
  have n35 : f ≠ 35 := by rintro rfl; exact absurd hf (by decide)
  have f9 : ∀ (m : Nat → Nat → Int) (a b : Nat) (v : Int), u2 m 9 a v f b = m f b := fun m a b v => u2_f n9
  have f10 : ∀ (m : Nat → Nat → Int) (a b : Nat) (v : Int), u2 m 10 a v f b = m f b := fun m a b v => u2_f n10
  have f11 : ∀ (m : Nat → Nat → Int) (a b : Nat) (v : Int), u2 m 11 a v f b = m f b := fun m a b v => u2_f n11
  have f12 : ∀ (m : Nat → Nat → Int) (a b : Nat) (v : Int), u2 m 12 a v f b = m f b := fun m a b v => u2_f n12
  have f13 : ∀ (m : Nat → Nat → Int) (a b : Nat) (v : Int), u2 m 13 a v f b = m f b := fun m a b v => u2_f n13
  have f17 : ∀ (m : Nat → Nat → Int) (a b : Nat) (v : Int), u2 m 17 a v f b = m f b := fun m a b v => u2_f n17
  have f18 : ∀ (m : Nat → Nat → Int) (a b : Nat) (v : Int), u2 m 18 a v f b = m f b := fun m a b v => u2_f n18
  have f25 : ∀ (m : Nat → Nat → Int) (a b : Nat) (v : Int), u2 m 25 a v f b = m f b := fun m a b v => u2_f n25
  have f26 : ∀ (m : Nat → Nat → Int) (a b : Nat) (v : Int), u2 m 26 a v f b = m f b := fun m a b v => u2_f n26
  have f28 : ∀ (m : Nat → Nat → Int) (a b : Nat) (v : Int), u2 m 28 a v f b = m f b := fun m a b v => u2_f n28
  have f29 : ∀ (m : Nat → Nat → Int) (a b : Nat) (v : Int), u2 m 29 a v f b = m f b := fun m a b v => u2_f n29
  have f30 : ∀ (m : Nat → Nat → Int) (a b : Nat) (v : Int), u2 m 30 a v f b = m f b := fun m a b v => u2_f n30
  have f35 : ∀ (m : Nat → Nat → Int) (a b : Nat) (v : Int), u2 m 35 a v f b = m f b := fun m a b v => u2_f n35
  have c_comesThere : ∀ (m : Nat → Nat → Int) (z_s z_i : Int) (k : Nat), s_comesThere m z_s z_i f k = m f k := by intros; exact s_comesThere_fr (by simp only [List.elem_cons, List.elem_nil, beq_eq_false_iff_ne.mpr n9, beq_eq_false_iff_ne.mpr n17, beq_eq_false_iff_ne.mpr n18, beq_eq_false_iff_ne.mpr n30]; try rfl)
  have c_growData : ∀ (m : Nat → Nat → Int) (z_s : Int) (k : Nat), s_growData m z_s f k = m f k := by intros; exact s_growData_fr (by simp only [List.elem_cons, List.elem_nil, beq_eq_false_iff_ne.mpr n11, beq_eq_false_iff_ne.mpr n12]; try rfl)
  have c_looksOver : ∀ (m : Nat → Nat → Int) (z_s z_i : Int) (k : Nat), s_looksOver m z_s z_i f k = m f k := by intros; exact s_looksOver_fr (by simp only [List.elem_cons, List.elem_nil, beq_eq_false_iff_ne.mpr n10, beq_eq_false_iff_ne.mpr n13, beq_eq_false_iff_ne.mpr n35]; try rfl)
  unfold s_takeReset
  repeat' with_reducible apply f_ite
  all_goals first | rfl | simp only [f9, f10, f11, f12, f13, f17, f18, f25, f26, f28, f29, f30, f35, c_comesThere, c_growData, c_looksOver]
def v_takeOther (μ : Nat → Nat → Int) (s : Int) : Int := (if (μ 45 0) = 21 then (if (v_meant μ s (μ 46 0) 0) ≤ 0 then 0 else (v_meant μ s (μ 46 0) 0)) else (if (v_meant μ s (μ 46 0) 1) ≤ 0 then (if (μ 45 0) = 5 then (if 2 ≤ (mSend μ s (μ 46 0)) then 0 else 0) else (if (μ 45 0) = 17 then 0 else 0)) else (v_meant μ s (μ 46 0) 1)))
def s_takeOther (μ : Nat → Nat → Int) (s : Int) : Nat → Nat → Int := (if (μ 45 0) = 21 then (if (v_meant μ s (μ 46 0) 0) ≤ 0 then (s_comesThere μ s (μ 46 0)) else μ) else (if (v_meant μ s (μ 46 0) 1) ≤ 0 then (if (μ 45 0) = 5 then (if 2 ≤ (mSend μ s (μ 46 0)) then (s_comesThere μ s (μ 46 0)) else (s_doReset (s_comesThere μ s (μ 46 0)) s (μ 46 0) (μ 47 0))) else (if (μ 45 0) = 17 then (u2 (s_comesThere μ s (μ 46 0)) 18 (mj s (μ 46 0)) (if (μ 47 0) < ((s_comesThere μ s (μ 46 0)) 18 (mj s (μ 46 0))) then ((s_comesThere μ s (μ 46 0)) 18 (mj s (μ 46 0))) else (μ 47 0))) else (s_comesThere μ s (μ 46 0)))) else μ))
set_option maxRecDepth 100000 in
theorem m_takeOther (hF : mm_F G) (htr : L.stackTraces = false) (hx : mx A ax) (hV : mV μ) {s : Int} (h1 : 0 ≤ s) (h2 : s ≤ 1) (hP : mP2 μ) :
    mm_Met L G SX6_takeOther [.ref (A 99), .int (iI s)] (hm G A ax h0 μ) 0 0 (mRetS (some (.int (iI (v_takeOther μ s)))) (hm G A ax h0 (s_takeOther μ s)) (mV (s_takeOther μ s) ∧ (fun r m => (0 ≤ r ∧ r ≤ 6) ∧ mP2 m) (v_takeOther μ s) (s_takeOther μ s))) mm_no := by
  refine mi_meth MX6_takeOther 400 hF htr okX6_takeOther (av := [aR (A 99), aI s]) (by decide +kernel) (Nat.le_of_ble_eq_true rfl) cmX6_takeOther (fun θ hc => ?_)
  refine ⟨_, hm_oi hx, aL (μ 46 0), rfl, ?_⟩
  have t1 := (show 0 ≤ μ 46 0 ∧ μ 46 0 ≤ 4611686018427387903 from hV.g 46 0)
  refine ⟨_, hm_oi hx, aI (μ 45 0), rfl, ?_⟩
  have t2 := (show 0 ≤ μ 45 0 ∧ μ 45 0 ≤ 23 from hV.g 45 0)
  refine ⟨by omega, fun (e3 : (μ 45 0) = 21) => ?_, fun (e3 : ¬ ((μ 45 0) = 21)) => ?_⟩
  · refine ⟨⟨_, hm_oi hx⟩, _, _, _, _, (m_meant hF htr hx hV (s := s) (a := (μ 46 0)) (p := 0) (by omega) (by omega) (by omega) (by omega) (by omega)), Nat.le_refl _, Nat.le_refl _, mki_ (r := some (aI (v_meant μ s (μ 46 0) 0))) ?_, fun _ _ q => q.elim⟩
    have t4 := v_meant_b μ s (μ 46 0) 0
    have t5 := (meant_0 (μ := μ) (s := s) (a := (μ 46 0)) (p := 0) hV)
    refine ⟨by omega, fun (e6 : (v_meant μ s (μ 46 0) 0) ≤ 0) => ?_, fun (e6 : ¬ ((v_meant μ s (μ 46 0) 0) ≤ 0)) => ?_⟩
    · refine mi_nl [(2, aI (v_meant μ s (μ 46 0) 0)), (0, aR (A 99)), (1, aI s)] rfl ?_
      refine ⟨_, hm_oi hx, aL (μ 46 0), rfl, ?_⟩
      refine ⟨⟨_, hm_oi hx⟩, _, _, _, _, (m_comesThere hF htr hx hV (s := s) (i := (μ 46 0)) (by omega) (by omega) (by omega) (by omega)), Nat.le_refl _, Nat.le_refl _, mkis_ (r := none) (fun hV7 => ?_), fun _ _ q => q.elim⟩
      refine mi_nl [(3, aI (μ 46 0)), (2, aI (v_meant μ s (μ 46 0) 0)), (0, aR (A 99)), (1, aI s)] rfl ?_
      refine ⟨_, hm_oi hx, aI (μ 45 0), congrArg aI (show (s_comesThere μ s (μ 46 0)) 45 0 = (μ 45 0) from (s_comesThere_fr (by decide))), ?_⟩
      refine ⟨by omega, fun _ => ?_, fun (e : (μ 45 0) = 5) => absurd e (by omega)⟩
      refine ⟨_, hm_oi hx, aI (μ 45 0), congrArg aI (show (s_comesThere μ s (μ 46 0)) 45 0 = (μ 45 0) from (s_comesThere_fr (by decide))), ?_⟩
      refine ⟨by omega, fun _ => ?_, fun (e : (μ 45 0) = 17) => absurd e (by omega)⟩
      exact ⟨mRetIP (P := fun r m => (0 ≤ r ∧ r ≤ 6) ∧ mP2 m) (by first | exact (if_pos e3).trans (if_pos e6) | (unfold v_takeOther; rw [if_pos e3, if_pos e6])) (by first | exact (if_pos e3).trans (if_pos e6) | (unfold s_takeOther; rw [if_pos e3, if_pos e6])) hV7 ⟨by omega, (mP2_cg (by intro f hf k; simp only [List.elem_eq_mem, decide_eq_true_eq, List.mem_cons, List.not_mem_nil, or_false] at hf; rcases hf with rfl | rfl | rfl | rfl <;> exact ((s_comesThere_fr (by decide))).symm) hP)⟩, Nat.le_refl _, Nat.le_refl _⟩
    · refine mi_nl [(2, aI (v_meant μ s (μ 46 0) 0)), (0, aR (A 99)), (1, aI s)] rfl ?_
      exact ⟨mRetIP (P := fun r m => (0 ≤ r ∧ r ≤ 6) ∧ mP2 m) (by first | exact (if_pos e3).trans (if_neg e6) | (unfold v_takeOther; rw [if_pos e3, if_neg e6])) (by first | exact (if_pos e3).trans (if_neg e6) | (unfold s_takeOther; rw [if_pos e3, if_neg e6])) hV ⟨by omega, hP⟩, Nat.le_refl _, Nat.le_refl _⟩
  · refine ⟨⟨_, hm_oi hx⟩, _, _, _, _, (m_meant hF htr hx hV (s := s) (a := (μ 46 0)) (p := 1) (by omega) (by omega) (by omega) (by omega) (by omega)), Nat.le_refl _, Nat.le_refl _, mki_ (r := some (aI (v_meant μ s (μ 46 0) 1))) ?_, fun _ _ q => q.elim⟩
    have t10 := v_meant_b μ s (μ 46 0) 1
    have t11 := (meant_0 (μ := μ) (s := s) (a := (μ 46 0)) (p := 1) hV)
    refine ⟨by omega, fun (e12 : (v_meant μ s (μ 46 0) 1) ≤ 0) => ?_, fun (e12 : ¬ ((v_meant μ s (μ 46 0) 1) ≤ 0)) => ?_⟩
    · refine mi_nl [(2, aI (v_meant μ s (μ 46 0) 1)), (0, aR (A 99)), (1, aI s)] rfl ?_
      refine ⟨_, hm_oi hx, aL (μ 46 0), rfl, ?_⟩
      refine ⟨⟨_, hm_oi hx⟩, _, _, _, _, (m_comesThere hF htr hx hV (s := s) (i := (μ 46 0)) (by omega) (by omega) (by omega) (by omega)), Nat.le_refl _, Nat.le_refl _, mkis_ (r := none) (fun hV13 => ?_), fun _ _ q => q.elim⟩
      refine mi_nl [(3, aI (μ 46 0)), (2, aI (v_meant μ s (μ 46 0) 1)), (0, aR (A 99)), (1, aI s)] rfl ?_
      refine ⟨_, hm_oi hx, aI (μ 45 0), congrArg aI (show (s_comesThere μ s (μ 46 0)) 45 0 = (μ 45 0) from (s_comesThere_fr (by decide))), ?_⟩
      refine ⟨by omega, fun (e14 : ¬ ((μ 45 0) = 5)) => ?_, fun (e14 : (μ 45 0) = 5) => ?_⟩
      · refine ⟨_, hm_oi hx, aI (μ 45 0), congrArg aI (show (s_comesThere μ s (μ 46 0)) 45 0 = (μ 45 0) from (s_comesThere_fr (by decide))), ?_⟩
        refine ⟨by omega, fun (e15 : ¬ ((μ 45 0) = 17)) => ?_, fun (e15 : (μ 45 0) = 17) => ?_⟩
        · exact ⟨mRetIP (P := fun r m => (0 ≤ r ∧ r ≤ 6) ∧ mP2 m) (by first | exact (if_neg e3).trans ((if_pos e12).trans ((if_neg e14).trans (if_neg e15))) | (unfold v_takeOther; rw [if_neg e3, if_pos e12, if_neg e14, if_neg e15])) (by first | exact (if_neg e3).trans ((if_pos e12).trans ((if_neg e14).trans (if_neg e15))) | (unfold s_takeOther; rw [if_neg e3, if_pos e12, if_neg e14, if_neg e15])) hV13 ⟨by omega, (mP2_cg (by intro f hf k; simp only [List.elem_eq_mem, decide_eq_true_eq, List.mem_cons, List.not_mem_nil, or_false] at hf; rcases hf with rfl | rfl | rfl | rfl <;> exact ((s_comesThere_fr (by decide))).symm) hP)⟩, Nat.le_refl _, Nat.le_refl _⟩
        · refine ⟨_, hm_oi hx, aR (A 18), rfl, ?_⟩
          refine ⟨_, _, _, _, (m_at hF htr (s := s) (i := (μ 46 0))), Nat.le_refl _, Nat.le_refl _, mki_ (r := some (aI ((256 * s) + (μ 46 0)))) ?_, fun _ _ q => q.elim⟩
          refine ⟨_, hm_oi hx, aR (A 18), rfl, ?_⟩
          refine ⟨_, _, _, _, (m_at hF htr (s := s) (i := (μ 46 0))), Nat.le_refl _, Nat.le_refl _, mki_ (r := some (aI ((256 * s) + (μ 46 0)))) ?_, fun _ _ q => q.elim⟩
          refine ⟨512, _, ((s_comesThere μ s (μ 46 0)) 18 (mj s (μ 46 0))), hm_a hx 18 rfl, by omega, rfl, ?_⟩
          have t16 := (show 0 ≤ (s_comesThere μ s (μ 46 0)) 18 (mj s (μ 46 0)) ∧ (s_comesThere μ s (μ 46 0)) 18 (mj s (μ 46 0)) ≤ 4611686018427387903 from hV13.g 18 (mj s (μ 46 0)))
          refine ⟨_, hm_oi hx, aL (μ 47 0), congrArg aL (show (s_comesThere μ s (μ 46 0)) 47 0 = (μ 47 0) from (s_comesThere_fr (by decide))), ?_⟩
          have t17 := (show 0 ≤ μ 47 0 ∧ μ 47 0 ≤ 4611686018427387903 from hV.g 47 0)
          refine ⟨_, _, _, _, (m_greater hF htr (a := ((s_comesThere μ s (μ 46 0)) 18 (mj s (μ 46 0)))) (b := (μ 47 0)) (by omega) (by omega) (by omega) (by omega)), Nat.le_refl _, Nat.le_refl _, mki_ (r := some (aL (if (μ 47 0) < ((s_comesThere μ s (μ 46 0)) 18 (mj s (μ 46 0))) then ((s_comesThere μ s (μ 46 0)) 18 (mj s (μ 46 0))) else (μ 47 0)))) ?_, fun _ _ q => q.elim⟩
          refine ⟨512, _, _, hm_a hx 18 rfl, by omega, hm_pl hx (i := (mj s (μ 46 0))) (v := (if (μ 47 0) < ((s_comesThere μ s (μ 46 0)) 18 (mj s (μ 46 0))) then ((s_comesThere μ s (μ 46 0)) 18 (mj s (μ 46 0))) else (μ 47 0))) rfl rfl rfl, ?_⟩
          have hV18 := hV13.u (f := 18) (k := (mj s (μ 46 0))) (v := (if (μ 47 0) < ((s_comesThere μ s (μ 46 0)) 18 (mj s (μ 46 0))) then ((s_comesThere μ s (μ 46 0)) 18 (mj s (μ 46 0))) else (μ 47 0))) (show 0 ≤ (if (μ 47 0) < ((s_comesThere μ s (μ 46 0)) 18 (mj s (μ 46 0))) then ((s_comesThere μ s (μ 46 0)) 18 (mj s (μ 46 0))) else (μ 47 0)) ∧ (if (μ 47 0) < ((s_comesThere μ s (μ 46 0)) 18 (mj s (μ 46 0))) then ((s_comesThere μ s (μ 46 0)) 18 (mj s (μ 46 0))) else (μ 47 0)) ≤ 4611686018427387903 from by omega)
          exact ⟨mRetIP (P := fun r m => (0 ≤ r ∧ r ≤ 6) ∧ mP2 m) (by first | exact (if_neg e3).trans ((if_pos e12).trans ((if_neg e14).trans (if_pos e15))) | (unfold v_takeOther; rw [if_neg e3, if_pos e12, if_neg e14, if_pos e15])) (by first | exact (if_neg e3).trans ((if_pos e12).trans ((if_neg e14).trans (if_pos e15))) | (unfold s_takeOther; rw [if_neg e3, if_pos e12, if_neg e14, if_pos e15])) hV18 ⟨by omega, (mP2_u (by decide) (mP2_cg (by intro f hf k; simp only [List.elem_eq_mem, decide_eq_true_eq, List.mem_cons, List.not_mem_nil, or_false] at hf; rcases hf with rfl | rfl | rfl | rfl <;> exact ((s_comesThere_fr (by decide))).symm) hP))⟩, Nat.le_refl _, Nat.le_refl _⟩
      · have ev19 : (mSend (s_comesThere μ s (μ 46 0)) s (μ 46 0)) = (mSend μ s (μ 46 0)) := (mSend_cg (by intro f hf k; simp only [List.elem_eq_mem, decide_eq_true_eq, List.mem_cons, List.not_mem_nil, or_false] at hf; rcases hf with rfl | rfl | rfl | rfl | rfl | rfl <;> first | exact (s_comesThere_fr (by decide))))
        refine ⟨⟨_, hm_oi hx⟩, _, _, _, _, (m_sending hF htr hx hV13.T hV13.N (s := s) (i := (μ 46 0)) (by omega) (by omega) (by omega) (by omega)), Nat.le_refl _, Nat.le_refl _, mkiE (r := some (aI (mSend μ s (μ 46 0)))) (congrArg (fun q => some (Value.int q)) (congrArg iI ev19)) ?_, fun _ _ q => q.elim⟩
        have t20 := hV13.snd s (μ 46 0)
        rw [ev19] at t20
        refine ⟨by omega, fun (e21 : 2 ≤ (mSend μ s (μ 46 0))) => ?_, fun (e21 : ¬ (2 ≤ (mSend μ s (μ 46 0)))) => ?_⟩
        · refine ⟨_, hm_oi hx, aI (μ 45 0), congrArg aI (show (s_comesThere μ s (μ 46 0)) 45 0 = (μ 45 0) from (s_comesThere_fr (by decide))), ?_⟩
          refine ⟨by omega, fun _ => ?_, fun (e : (μ 45 0) = 17) => absurd e (by omega)⟩
          exact ⟨mRetIP (P := fun r m => (0 ≤ r ∧ r ≤ 6) ∧ mP2 m) (by first | exact (if_neg e3).trans ((if_pos e12).trans ((if_pos e14).trans (if_pos e21))) | (unfold v_takeOther; rw [if_neg e3, if_pos e12, if_pos e14, if_pos e21])) (by first | exact (if_neg e3).trans ((if_pos e12).trans ((if_pos e14).trans (if_pos e21))) | (unfold s_takeOther; rw [if_neg e3, if_pos e12, if_pos e14, if_pos e21])) hV13 ⟨by omega, (mP2_cg (by intro f hf k; simp only [List.elem_eq_mem, decide_eq_true_eq, List.mem_cons, List.not_mem_nil, or_false] at hf; rcases hf with rfl | rfl | rfl | rfl <;> exact ((s_comesThere_fr (by decide))).symm) hP)⟩, Nat.le_refl _, Nat.le_refl _⟩
        · refine ⟨_, hm_oi hx, aL (μ 47 0), congrArg aL (show (s_comesThere μ s (μ 46 0)) 47 0 = (μ 47 0) from (s_comesThere_fr (by decide))), ?_⟩
          have t23 := (show 0 ≤ μ 47 0 ∧ μ 47 0 ≤ 4611686018427387903 from hV.g 47 0)
          refine ⟨⟨_, hm_oi hx⟩, _, _, _, _, (m_doReset hF htr hx hV13 (s := s) (i := (μ 46 0)) (c := (μ 47 0)) (by omega) (by omega) (by omega) (by omega) (by omega) (by omega)), Nat.le_refl _, Nat.le_refl _, mkis_ (r := none) (fun hV24 => ?_), fun _ _ q => q.elim⟩
          refine ⟨_, hm_oi hx, aI (μ 45 0), congrArg aI (show (s_doReset (s_comesThere μ s (μ 46 0)) s (μ 46 0) (μ 47 0)) 45 0 = (μ 45 0) from (Eq.trans (s_doReset_fr (by decide)) (s_comesThere_fr (by decide)))), ?_⟩
          refine ⟨by omega, fun _ => ?_, fun (e : (μ 45 0) = 17) => absurd e (by omega)⟩
          exact ⟨mRetIP (P := fun r m => (0 ≤ r ∧ r ≤ 6) ∧ mP2 m) (by first | exact (if_neg e3).trans ((if_pos e12).trans ((if_pos e14).trans (if_neg e21))) | (unfold v_takeOther; rw [if_neg e3, if_pos e12, if_pos e14, if_neg e21])) (by first | exact (if_neg e3).trans ((if_pos e12).trans ((if_pos e14).trans (if_neg e21))) | (unfold s_takeOther; rw [if_neg e3, if_pos e12, if_pos e14, if_neg e21])) hV24 ⟨by omega, (mP2_cg (by intro f hf k; simp only [List.elem_eq_mem, decide_eq_true_eq, List.mem_cons, List.not_mem_nil, or_false] at hf; rcases hf with rfl | rfl | rfl | rfl <;> exact ((s_doReset_fr (by decide))).symm) (mP2_cg (by intro f hf k; simp only [List.elem_eq_mem, decide_eq_true_eq, List.mem_cons, List.not_mem_nil, or_false] at hf; rcases hf with rfl | rfl | rfl | rfl <;> exact ((s_comesThere_fr (by decide))).symm) hP))⟩, Nat.le_refl _, Nat.le_refl _⟩
    · refine mi_nl [(2, aI (v_meant μ s (μ 46 0) 1)), (0, aR (A 99)), (1, aI s)] rfl ?_
      exact ⟨mRetIP (P := fun r m => (0 ≤ r ∧ r ≤ 6) ∧ mP2 m) (by first | exact (if_neg e3).trans (if_neg e12) | (unfold v_takeOther; rw [if_neg e3, if_neg e12])) (by first | exact (if_neg e3).trans (if_neg e12) | (unfold s_takeOther; rw [if_neg e3, if_neg e12])) hV ⟨by omega, hP⟩, Nat.le_refl _, Nat.le_refl _⟩
set_option maxRecDepth 100000 in
theorem s_takeOther_fr {f kk : Nat} {s : Int} (hf : [9, 17, 18, 21, 22, 23, 30].elem f = false) : s_takeOther μ s f kk = μ f kk := by
  have n9 : f ≠ 9 := by rintro rfl; exact absurd hf (by decide)
  have n17 : f ≠ 17 := by rintro rfl; exact absurd hf (by decide)
  have n18 : f ≠ 18 := by rintro rfl; exact absurd hf (by decide)
  have n21 : f ≠ 21 := by rintro rfl; exact absurd hf (by decide)
  have n22 : f ≠ 22 := by rintro rfl; exact absurd hf (by decide)
  have n23 : f ≠ 23 := by rintro rfl; exact absurd hf (by decide)
  have n30 : f ≠ 30 := by rintro rfl; exact absurd hf (by decide)
  have f9 : ∀ (m : Nat → Nat → Int) (a b : Nat) (v : Int), u2 m 9 a v f b = m f b := fun m a b v => u2_f n9
  have f17 : ∀ (m : Nat → Nat → Int) (a b : Nat) (v : Int), u2 m 17 a v f b = m f b := fun m a b v => u2_f n17
  have f18 : ∀ (m : Nat → Nat → Int) (a b : Nat) (v : Int), u2 m 18 a v f b = m f b := fun m a b v => u2_f n18
  have f21 : ∀ (m : Nat → Nat → Int) (a b : Nat) (v : Int), u2 m 21 a v f b = m f b := fun m a b v => u2_f n21
  have f22 : ∀ (m : Nat → Nat → Int) (a b : Nat) (v : Int), u2 m 22 a v f b = m f b := fun m a b v => u2_f n22
  have f23 : ∀ (m : Nat → Nat → Int) (a b : Nat) (v : Int), u2 m 23 a v f b = m f b := fun m a b v => u2_f n23
  have f30 : ∀ (m : Nat → Nat → Int) (a b : Nat) (v : Int), u2 m 30 a v f b = m f b := fun m a b v => u2_f n30
  have c_comesThere : ∀ (m : Nat → Nat → Int) (z_s z_i : Int) (k : Nat), s_comesThere m z_s z_i f k = m f k := by intros; exact s_comesThere_fr (by simp only [List.elem_cons, List.elem_nil, beq_eq_false_iff_ne.mpr n9, beq_eq_false_iff_ne.mpr n17, beq_eq_false_iff_ne.mpr n18, beq_eq_false_iff_ne.mpr n30]; try rfl)
  have c_doReset : ∀ (m : Nat → Nat → Int) (z_s z_i z_c : Int) (k : Nat), s_doReset m z_s z_i z_c f k = m f k := by intros; exact s_doReset_fr (by simp only [List.elem_cons, List.elem_nil, beq_eq_false_iff_ne.mpr n21, beq_eq_false_iff_ne.mpr n22, beq_eq_false_iff_ne.mpr n23]; try rfl)
  unfold s_takeOther
  repeat' with_reducible apply f_ite
  all_goals first | rfl | simp only [f9, f17, f18, f21, f22, f23, f30, c_comesThere, c_doReset]
end MR12
