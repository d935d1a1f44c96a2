section MR2
variable {L : Launch} {G : mmG} {A : Nat → Nat} {ax : Nat → Option Nat} {h0 : mmH} {μ : Nat → Nat → Int}
def mPieOk (μ : Nat → Nat → Int) : Prop := ∀ k, k < 2 → 0 ≤ μ 40 k ∧ μ 40 k ≤ 1408
theorem mCnt_t (hN : mTotOk μ) {s : Int} (i st : Int) (h1 : 0 ≤ s) (h2 : s ≤ 1) : 0 ≤ mCnt μ s i st (mTot μ s) ∧ mCnt μ s i st (mTot μ s) ≤ 65536 := by
  have := mCnt_b (μ := μ) s i st (mTot μ s)
  have hN0 := hN s.toNat (by omega)
  have : mTot μ s ≤ 65536 := by unfold mTot; omega
  omega
theorem mAll_t (hN : mTotOk μ) {s : Int} (h1 : 0 ≤ s) (h2 : s ≤ 1) : 0 ≤ mAll μ s (mTot μ s) ∧ mAll μ s (mTot μ s) ≤ 65536 := by
  have := mAll_b (μ := μ) s (mTot μ s)
  have hN0 := hN s.toNat (by omega)
  have : mTot μ s ≤ 65536 := by unfold mTot; omega
  omega
theorem mSize_b (a : Int) : 1 ≤ mSize a ∧ mSize a ≤ 8 := by
  unfold mSize
  split
  · omega
  · split
    · omega
    · split <;> omega
theorem mSend_b (h21 : ∀ k, 0 ≤ μ 21 k ∧ μ 21 k ≤ 2) (s i : Int) : 0 ≤ mSend μ s i ∧ mSend μ s i ≤ 4 := by
  have := h21 (mj s i)
  unfold mSend
  split
  · omega
  · split
    · omega
    · split <;> omega
def v_pieceAt_4 (μ : Nat → Nat → Int) (s i n : Int) : Nat → Int → Int
  | 0, _ => -1
  | d + 1, p => (if ((1408 * s) + (μ 40 s.toNat)) ≤ p then -1 else (if (μ 41 p.toNat) = i then (if (μ 42 p.toNat) = n then p else (v_pieceAt_4 μ s i n d (p + 1))) else (v_pieceAt_4 μ s i n d (p + 1))))
def v_pieceAt (μ : Nat → Nat → Int) (s i n : Int) : Int := (v_pieceAt_4 μ s i n 1409 (1408 * s))
set_option maxRecDepth 100000 in
theorem m_pieceAt (hF : mm_F G) (htr : L.stackTraces = false) (hx : mx A ax) (hT : mT μ) {s i n : Int} (hP : mPieOk μ) (h1 : 0 ≤ s) (h2 : s ≤ 1) (h3 : -2147483648 ≤ i) (h4 : i < 2147483648) (h5 : -2147483648 ≤ n) (h6 : n < 2147483648) :
    mm_Met L G SX6_pieceAt [.ref (A 99), .int (iI s), .int (iI i), .int (iI n)] (hm G A ax h0 μ) 0 0 (mRet (some (.int (iI (v_pieceAt μ s i n)))) (hm G A ax h0 μ)) mm_no := by
  refine mi_meth MX6_pieceAt 400 hF htr okX6_pieceAt (av := [aR (A 99), aI s, aI i, aI n]) (by decide +kernel) (Nat.le_of_ble_eq_true rfl) cmX6_pieceAt (fun θ hc => ?_)
  have hP0 := hP s.toNat (by omega)
  have loop4 : ∀ (R : Int) (d : Nat) (p : Int), (1408 * s ≤ p) → (p ≤ 1408 * s + μ 40 s.toNat) → (1408 * s + μ 40 s.toNat - p) < (d : Int) → v_pieceAt_4 μ s i n d p = R → mi_W L G MX6_pieceAt 0 0 (mRet (some (.int (iI R))) (hm G A ax h0 μ)) mm_no θ 4 [(4, aI p), (0, aR (A 99)), (1, aI s), (2, aI i), (3, aI n)] [] (hm G A ax h0 μ) 0 0 := by
    intro R d
    induction d with
    | zero =>
      intro p hi1 hi2 hms hvr
      omega
    | succ d ih =>
      intro p hi1 hi2 hms hvr
      refine mi_sound hc okX6_pieceAt 400 _ _ _ _ _ _ ?_
      refine ⟨_, hm_oi hx, aR (A 40), rfl, ?_⟩
      refine ⟨2, _, (μ 40 s.toNat), hm_a hx 40 rfl, by omega, rfl, ?_⟩
      have t1 := hT.i (f := 40) s.toNat rfl
      refine ⟨by omega, fun (e2 : ((1408 * s) + (μ 40 s.toNat)) ≤ p) => ?_, fun (e2 : ¬ (((1408 * s) + (μ 40 s.toNat)) ≤ p)) => ?_⟩
      · exact ⟨mRetI (hvr.symm.trans (by rw [v_pieceAt_4]; rw [if_pos e2])) rfl, Nat.le_refl _, Nat.le_refl _⟩
      · refine ⟨_, hm_oi hx, aR (A 41), rfl, ?_⟩
        refine ⟨2816, _, (μ 41 p.toNat), hm_a hx 41 rfl, by omega, rfl, ?_⟩
        have t3 := hT.i (f := 41) p.toNat rfl
        refine ⟨by omega, fun (e4 : ¬ ((μ 41 p.toNat) = i)) => ?_, fun (e4 : (μ 41 p.toNat) = i) => ?_⟩
        · exact mi_Wsub (List.forall_mem_cons.mpr ⟨(.head _), List.forall_mem_cons.mpr ⟨(.tail _ (.head _)), List.forall_mem_cons.mpr ⟨(.tail _ (.tail _ (.head _))), List.forall_mem_cons.mpr ⟨(.tail _ (.tail _ (.tail _ (.head _)))), List.forall_mem_cons.mpr ⟨(.tail _ (.tail _ (.tail _ (.tail _ (.head _))))), fun _ h => absurd h List.not_mem_nil⟩⟩⟩⟩⟩) (ih (p + 1) (by omega) (by omega) (by omega) (Eq.trans (by rw [v_pieceAt_4]; rw [if_neg e2, if_neg e4]) hvr))
        · refine ⟨_, hm_oi hx, aR (A 42), rfl, ?_⟩
          refine ⟨2816, _, (μ 42 p.toNat), hm_a hx 42 rfl, by omega, rfl, ?_⟩
          have t5 := hT.i (f := 42) p.toNat rfl
          refine ⟨by omega, fun (e6 : ¬ ((μ 42 p.toNat) = n)) => ?_, fun (e6 : (μ 42 p.toNat) = n) => ?_⟩
          · exact mi_Wsub (List.forall_mem_cons.mpr ⟨(.head _), List.forall_mem_cons.mpr ⟨(.tail _ (.head _)), List.forall_mem_cons.mpr ⟨(.tail _ (.tail _ (.head _))), List.forall_mem_cons.mpr ⟨(.tail _ (.tail _ (.tail _ (.head _)))), List.forall_mem_cons.mpr ⟨(.tail _ (.tail _ (.tail _ (.tail _ (.head _))))), fun _ h => absurd h List.not_mem_nil⟩⟩⟩⟩⟩) (ih (p + 1) (by omega) (by omega) (by omega) (Eq.trans (by rw [v_pieceAt_4]; rw [if_neg e2, if_pos e4, if_neg e6]) hvr))
          · exact ⟨mRetI (hvr.symm.trans (by rw [v_pieceAt_4]; rw [if_neg e2, if_pos e4, if_pos e6])) rfl, Nat.le_refl _, Nat.le_refl _⟩
  exact mi_Wsub (List.forall_mem_cons.mpr ⟨(.head _), List.forall_mem_cons.mpr ⟨(.tail _ (.head _)), List.forall_mem_cons.mpr ⟨(.tail _ (.tail _ (.head _))), List.forall_mem_cons.mpr ⟨(.tail _ (.tail _ (.tail _ (.head _)))), List.forall_mem_cons.mpr ⟨(.tail _ (.tail _ (.tail _ (.tail _ (.head _))))), fun _ h => absurd h List.not_mem_nil⟩⟩⟩⟩⟩) (loop4 _ 1409 (1408 * s) (by omega) (by omega) (by omega) rfl)
theorem pieceAt_b4 {s i n : Int} : ∀ (d : Nat) (p : Int), 0 ≤ p → v_pieceAt_4 μ s i n d p = -1 ∨ (0 ≤ v_pieceAt_4 μ s i n d p ∧ p ≤ v_pieceAt_4 μ s i n d p ∧ v_pieceAt_4 μ s i n d p < 1408 * s + μ 40 s.toNat ∧ μ 41 (v_pieceAt_4 μ s i n d p).toNat = i ∧ μ 42 (v_pieceAt_4 μ s i n d p).toNat = n)
  | 0, _, _ => Or.inl rfl
  | d + 1, p, hp => by
    have ih := pieceAt_b4 (s := s) (i := i) (n := n) d (p + 1) (by omega)
    rw [v_pieceAt_4]
    split
    · exact Or.inl rfl
    · rename_i e
      split
      · rename_i e1
        split
        · rename_i e2
          exact Or.inr ⟨hp, by omega, by omega, e1, e2⟩
        · rcases ih with q | q
          · exact Or.inl q
          · exact Or.inr ⟨q.1, by omega, q.2.2.1, q.2.2.2⟩
      · rcases ih with q | q
        · exact Or.inl q
        · exact Or.inr ⟨q.1, by omega, q.2.2.1, q.2.2.2⟩
theorem pieceAt_c {s : Int} (i n : Int) (h1 : 0 ≤ s) : v_pieceAt μ s i n = -1 ∨ (0 ≤ v_pieceAt μ s i n ∧ 1408 * s ≤ v_pieceAt μ s i n ∧ v_pieceAt μ s i n < 1408 * s + μ 40 s.toNat ∧ μ 41 (v_pieceAt μ s i n).toNat = i ∧ μ 42 (v_pieceAt μ s i n).toNat = n) := pieceAt_b4 _ _ (by omega)
theorem pieceAt_b (hP : mPieOk μ) {s : Int} (i n : Int) (h1 : 0 ≤ s) (h2 : s ≤ 1) : -1 ≤ v_pieceAt μ s i n ∧ v_pieceAt μ s i n < 2816 := by
  have hP0 := hP s.toNat (by omega)
  rcases pieceAt_c (μ := μ) i n h1 with q | q <;> omega
def mQOk (μ : Nat → Nat → Int) : Prop := ∀ k, 0 ≤ μ 42 k ∧ μ 42 k < 1024
def s_comes (μ : Nat → Nat → Int) (s i o b : Int) : Nat → Nat → Int := (if 0 ≤ (v_pieceAt μ s i (o / 64)) then (if (μ 44 ((64 * (v_pieceAt μ s i (o / 64))) + (o % 64)).toNat) = 0 then (u2 (u2 μ 44 ((64 * (v_pieceAt μ s i (o / 64))) + (o % 64)).toNat 1) 43 ((64 * (v_pieceAt μ s i (o / 64))) + (o % 64)).toNat b) else μ) else (if (μ 44 ((64 * ((1408 * s) + (μ 40 s.toNat))) + (o % 64)).toNat) = 0 then (u2 (u2 (u2 (u2 (u2 μ 40 s.toNat ((μ 40 s.toNat) + 1)) 41 ((1408 * s) + (μ 40 s.toNat)).toNat i) 42 ((1408 * s) + (μ 40 s.toNat)).toNat (o / 64)) 44 ((64 * ((1408 * s) + (μ 40 s.toNat))) + (o % 64)).toNat 1) 43 ((64 * ((1408 * s) + (μ 40 s.toNat))) + (o % 64)).toNat b) else (u2 (u2 (u2 μ 40 s.toNat ((μ 40 s.toNat) + 1)) 41 ((1408 * s) + (μ 40 s.toNat)).toNat i) 42 ((1408 * s) + (μ 40 s.toNat)).toNat (o / 64))))
set_option maxRecDepth 100000 in
theorem m_comes (hF : mm_F G) (htr : L.stackTraces = false) (hx : mx A ax) (hT : mT μ) {s i o b : Int} (hP : mPieOk μ) (h1 : 0 ≤ s) (h2 : s ≤ 1) (h3 : -2147483648 ≤ i) (h4 : i < 2147483648) (h5 : 0 ≤ o) (h6 : o < 137438953472) (h7 : -128 ≤ b) (h8 : b < 128) (h9 : μ 40 s.toNat < 1408) :
    mm_Met L G SX6_comes [.ref (A 99), .int (iI s), .int (iI i), .long (iL o), .int (iI b)] (hm G A ax h0 μ) 0 0 (mRet none (hm G A ax h0 (s_comes μ s i o b))) mm_no := by
  refine mi_meth MX6_comes 400 hF htr okX6_comes (av := [aR (A 99), aI s, aI i, aL o, aI b]) (by decide +kernel) (Nat.le_of_ble_eq_true rfl) cmX6_comes (fun θ hc => ?_)
  have hP0 := hP s.toNat (by omega)
  refine ⟨64, rfl, ?_⟩
  refine ⟨by omega, ?_⟩
  refine ⟨⟨_, hm_oi hx⟩, _, _, _, _, (m_pieceAt hF htr hx hT (s := s) (i := i) (n := (o / 64)) hP (by omega) (by omega) (by omega) (by omega) (by omega) (by omega)), Nat.le_refl _, Nat.le_refl _, mki_ (r := some (aI (v_pieceAt μ s i (o / 64)))) ?_, fun _ _ q => q.elim⟩
  have t1 := pieceAt_b hP (s := s) i (o / 64) (by omega) (by omega)
  refine ⟨by omega, fun (e2 : 0 ≤ (v_pieceAt μ s i (o / 64))) => ?_, fun (e2 : ¬ (0 ≤ (v_pieceAt μ s i (o / 64)))) => ?_⟩
  · refine ⟨64, rfl, ?_⟩
    refine ⟨by omega, ?_⟩
    refine ⟨_, hm_oi hx, aR (A 44), rfl, ?_⟩
    refine ⟨180224, _, (μ 44 ((64 * (v_pieceAt μ s i (o / 64))) + (o % 64)).toNat), hm_a hx 44 rfl, by omega, rfl, ?_⟩
    have t3 := hT.b (f := 44) ((64 * (v_pieceAt μ s i (o / 64))) + (o % 64)).toNat rfl
    refine ⟨by omega, fun (e4 : (μ 44 ((64 * (v_pieceAt μ s i (o / 64))) + (o % 64)).toNat) = 0) => ?_, fun (e4 : ¬ ((μ 44 ((64 * (v_pieceAt μ s i (o / 64))) + (o % 64)).toNat) = 0)) => ?_⟩
    · refine ⟨_, hm_oi hx, aR (A 44), rfl, ?_⟩
      refine ⟨180224, _, _, hm_a hx 44 rfl, by omega, (show 1 = 0 ∨ 1 = 1 from by omega), hm_pi hx rfl rfl rfl rfl, ?_⟩
      have hT5 := hT.u (f := 44) (k := ((64 * (v_pieceAt μ s i (o / 64))) + (o % 64)).toNat) (v := 1) (fun _ => by omega) (fun _ => by omega) (by omega) (fun q => absurd q (by decide))
      refine ⟨_, hm_oi hx, aR (A 43), rfl, ?_⟩
      refine ⟨180224, _, _, hm_a hx 43 rfl, by omega, (show -128 ≤ b ∧ b < 128 from by omega), hm_pi hx rfl rfl rfl rfl, ?_⟩
      have hT6 := hT5.u (f := 43) (k := ((64 * (v_pieceAt μ s i (o / 64))) + (o % 64)).toNat) (v := b) (fun q => absurd q (by decide)) (fun _ => by omega) (by omega) (fun _ => by omega)
      exact ⟨mRetV (by unfold s_comes; rw [if_pos e2, if_pos e4]), Nat.le_refl _, Nat.le_refl _⟩
    · exact ⟨mRetV (by unfold s_comes; rw [if_pos e2, if_neg e4]), Nat.le_refl _, Nat.le_refl _⟩
  · refine ⟨_, hm_oi hx, aR (A 40), rfl, ?_⟩
    refine ⟨2, _, (μ 40 s.toNat), hm_a hx 40 rfl, by omega, rfl, ?_⟩
    have t7 := hT.i (f := 40) s.toNat rfl
    refine ⟨_, hm_oi hx, aR (A 40), rfl, ?_⟩
    refine ⟨2, _, (μ 40 s.toNat), hm_a hx 40 rfl, by omega, rfl, ?_⟩
    refine ⟨2, _, _, hm_a hx 40 rfl, by omega, trivial, hm_pi hx rfl rfl rfl rfl, ?_⟩
    have hT8 := hT.u (f := 40) (k := s.toNat) (v := ((μ 40 s.toNat) + 1)) (fun q => absurd q (by decide)) (fun _ => by omega) (by omega) (fun q => absurd q (by decide))
    refine ⟨_, hm_oi hx, aR (A 41), rfl, ?_⟩
    refine ⟨2816, _, _, hm_a hx 41 rfl, by omega, trivial, hm_pi hx rfl rfl rfl rfl, ?_⟩
    have hT9 := hT8.u (f := 41) (k := ((1408 * s) + (μ 40 s.toNat)).toNat) (v := i) (fun q => absurd q (by decide)) (fun _ => by omega) (by omega) (fun q => absurd q (by decide))
    refine ⟨_, hm_oi hx, aR (A 42), rfl, ?_⟩
    refine ⟨2816, _, _, hm_a hx 42 rfl, by omega, trivial, hm_pi hx rfl rfl rfl rfl, ?_⟩
    have hT10 := hT9.u (f := 42) (k := ((1408 * s) + (μ 40 s.toNat)).toNat) (v := (o / 64)) (fun q => absurd q (by decide)) (fun _ => by omega) (by omega) (fun q => absurd q (by decide))
    refine ⟨64, rfl, ?_⟩
    refine ⟨by omega, ?_⟩
    refine ⟨_, hm_oi hx, aR (A 44), rfl, ?_⟩
    refine ⟨180224, _, (μ 44 ((64 * ((1408 * s) + (μ 40 s.toNat))) + (o % 64)).toNat), hm_a hx 44 rfl, by omega, (Eq.trans (u2_f (by decide)) (Eq.trans (u2_f (by decide)) (u2_f (by decide)))), ?_⟩
    have t11 := hT.b (f := 44) ((64 * ((1408 * s) + (μ 40 s.toNat))) + (o % 64)).toNat rfl
    refine ⟨by omega, fun (e12 : (μ 44 ((64 * ((1408 * s) + (μ 40 s.toNat))) + (o % 64)).toNat) = 0) => ?_, fun (e12 : ¬ ((μ 44 ((64 * ((1408 * s) + (μ 40 s.toNat))) + (o % 64)).toNat) = 0)) => ?_⟩
    · refine ⟨_, hm_oi hx, aR (A 44), rfl, ?_⟩
      refine ⟨180224, _, _, hm_a hx 44 rfl, by omega, (show 1 = 0 ∨ 1 = 1 from by omega), hm_pi hx rfl rfl rfl rfl, ?_⟩
      have hT13 := hT10.u (f := 44) (k := ((64 * ((1408 * s) + (μ 40 s.toNat))) + (o % 64)).toNat) (v := 1) (fun _ => by omega) (fun _ => by omega) (by omega) (fun q => absurd q (by decide))
      refine ⟨_, hm_oi hx, aR (A 43), rfl, ?_⟩
      refine ⟨180224, _, _, hm_a hx 43 rfl, by omega, (show -128 ≤ b ∧ b < 128 from by omega), hm_pi hx rfl rfl rfl rfl, ?_⟩
      have hT14 := hT13.u (f := 43) (k := ((64 * ((1408 * s) + (μ 40 s.toNat))) + (o % 64)).toNat) (v := b) (fun q => absurd q (by decide)) (fun _ => by omega) (by omega) (fun _ => by omega)
      exact ⟨mRetV (by unfold s_comes; rw [if_neg e2, if_pos e12]), Nat.le_refl _, Nat.le_refl _⟩
    · exact ⟨mRetV (by unfold s_comes; rw [if_neg e2, if_neg e12]), Nat.le_refl _, Nat.le_refl _⟩
def v_isHere (μ : Nat → Nat → Int) (s i o : Int) : Int := (if (v_pieceAt μ s i (o / 64)) < 0 then 0 else (if (μ 44 ((64 * (v_pieceAt μ s i (o / 64))) + (o % 64)).toNat) = 0 then 0 else 1))
set_option maxRecDepth 100000 in
theorem m_isHere (hF : mm_F G) (htr : L.stackTraces = false) (hx : mx A ax) (hT : mT μ) {s i o : Int} (hP : mPieOk μ) (h1 : 0 ≤ s) (h2 : s ≤ 1) (h3 : -2147483648 ≤ i) (h4 : i < 2147483648) (h5 : 0 ≤ o) (h6 : o < 137438953472) :
    mm_Met L G SX6_isHere [.ref (A 99), .int (iI s), .int (iI i), .long (iL o)] (hm G A ax h0 μ) 0 0 (mRet (some (.int (iI (v_isHere μ s i o)))) (hm G A ax h0 μ)) mm_no := by
  refine mi_meth MX6_isHere 400 hF htr okX6_isHere (av := [aR (A 99), aI s, aI i, aL o]) (by decide +kernel) (Nat.le_of_ble_eq_true rfl) cmX6_isHere (fun θ hc => ?_)
  have hP0 := hP s.toNat (by omega)
  refine ⟨64, rfl, ?_⟩
  refine ⟨by omega, ?_⟩
  refine ⟨⟨_, hm_oi hx⟩, _, _, _, _, (m_pieceAt hF htr hx hT (s := s) (i := i) (n := (o / 64)) hP (by omega) (by omega) (by omega) (by omega) (by omega) (by omega)), Nat.le_refl _, Nat.le_refl _, mki_ (r := some (aI (v_pieceAt μ s i (o / 64)))) ?_, fun _ _ q => q.elim⟩
  have t1 := pieceAt_b hP (s := s) i (o / 64) (by omega) (by omega)
  refine ⟨by omega, fun (e2 : (v_pieceAt μ s i (o / 64)) < 0) => ?_, fun (e2 : ¬ ((v_pieceAt μ s i (o / 64)) < 0)) => ?_⟩
  · exact ⟨(Or.inl rfl), mRetI (by unfold v_isHere; rw [if_pos e2]) rfl, Nat.le_refl _, Nat.le_refl _⟩
  · refine ⟨_, hm_oi hx, aR (A 44), rfl, ?_⟩
    refine ⟨64, rfl, ?_⟩
    refine ⟨by omega, ?_⟩
    refine ⟨180224, _, (μ 44 ((64 * (v_pieceAt μ s i (o / 64))) + (o % 64)).toNat), hm_a hx 44 rfl, by omega, rfl, ?_⟩
    have t3 := hT.b (f := 44) ((64 * (v_pieceAt μ s i (o / 64))) + (o % 64)).toNat rfl
    refine ⟨by omega, fun (e4 : (μ 44 ((64 * (v_pieceAt μ s i (o / 64))) + (o % 64)).toNat) = 0) => ?_, fun (e4 : ¬ ((μ 44 ((64 * (v_pieceAt μ s i (o / 64))) + (o % 64)).toNat) = 0)) => ?_⟩
    · exact ⟨(Or.inl rfl), mRetI (by unfold v_isHere; rw [if_neg e2, if_pos e4]) rfl, Nat.le_refl _, Nat.le_refl _⟩
    · exact ⟨(Or.inr rfl), mRetI (by unfold v_isHere; rw [if_neg e2, if_neg e4]) rfl, Nat.le_refl _, Nat.le_refl _⟩
theorem isHere_b (hQ : mQOk μ) {s : Int} (i : Int) {o : Int} (h1 : 0 ≤ s) (h5 : 0 ≤ o) : v_isHere μ s i o = 0 ∨ (v_isHere μ s i o = 1 ∧ o < 65536) := by
  unfold v_isHere
  split
  · exact Or.inl rfl
  · split
    · exact Or.inl rfl
    · rcases pieceAt_c (μ := μ) (s := s) i (o / 64) h1 with q | q
      · omega
      · have := hQ (v_pieceAt μ s i (o / 64)).toNat
        exact Or.inr ⟨rfl, by omega⟩
def v_byteAt (μ : Nat → Nat → Int) (s i o : Int) : Int := (μ 43 ((64 * (v_pieceAt μ s i (o / 64))) + (o % 64)).toNat)
set_option maxRecDepth 100000 in
theorem m_byteAt (hF : mm_F G) (htr : L.stackTraces = false) (hx : mx A ax) (hT : mT μ) {s i o : Int} (hP : mPieOk μ) (h1 : 0 ≤ s) (h2 : s ≤ 1) (h3 : -2147483648 ≤ i) (h4 : i < 2147483648) (h5 : 0 ≤ o) (h6 : o < 137438953472) (h7 : 0 ≤ v_pieceAt μ s i (o / 64)) :
    mm_Met L G SX6_byteAt [.ref (A 99), .int (iI s), .int (iI i), .long (iL o)] (hm G A ax h0 μ) 0 0 (mRet (some (.int (iI (v_byteAt μ s i o)))) (hm G A ax h0 μ)) mm_no := by
  refine mi_meth MX6_byteAt 400 hF htr okX6_byteAt (av := [aR (A 99), aI s, aI i, aL o]) (by decide +kernel) (Nat.le_of_ble_eq_true rfl) cmX6_byteAt (fun θ hc => ?_)
  have hP0 := hP s.toNat (by omega)
  refine ⟨_, hm_oi hx, aR (A 43), rfl, ?_⟩
  refine ⟨64, rfl, ?_⟩
  refine ⟨by omega, ?_⟩
  refine ⟨⟨_, hm_oi hx⟩, _, _, _, _, (m_pieceAt hF htr hx hT (s := s) (i := i) (n := (o / 64)) hP (by omega) (by omega) (by omega) (by omega) (by omega) (by omega)), Nat.le_refl _, Nat.le_refl _, mki_ (r := some (aI (v_pieceAt μ s i (o / 64)))) ?_, fun _ _ q => q.elim⟩
  have t1 := pieceAt_b hP (s := s) i (o / 64) (by omega) (by omega)
  refine ⟨64, rfl, ?_⟩
  refine ⟨by omega, ?_⟩
  refine ⟨180224, _, (μ 43 ((64 * (v_pieceAt μ s i (o / 64))) + (o % 64)).toNat), hm_a hx 43 rfl, by omega, rfl, ?_⟩
  have t2 := hT.y (f := 43) ((64 * (v_pieceAt μ s i (o / 64))) + (o % 64)).toNat rfl
  exact ⟨(by omega), mRetI rfl rfl, Nat.le_refl _, Nat.le_refl _⟩
def v_readyOf_7 (μ : Nat → Nat → Int) (s i : Int) : Nat → Int → Int
  | 0, _ => 0
  | d + 1, n => (if (v_isHere μ s i n) = 0 then n else (v_readyOf_7 μ s i d (n + 1)))
def v_readyOf (μ : Nat → Nat → Int) (s i : Int) : Int := (v_readyOf_7 μ s i 65537 (μ 27 (mj s i)))
set_option maxRecDepth 100000 in
theorem m_readyOf (hF : mm_F G) (htr : L.stackTraces = false) (hx : mx A ax) (hT : mT μ) {s i : Int} (hP : mPieOk μ) (hQ : mQOk μ) (h1 : 0 ≤ s) (h2 : s ≤ 1) (h3 : 0 ≤ i) (h4 : i < 256) (h5 : 0 ≤ μ 27 (mj s i)) (h6 : μ 27 (mj s i) ≤ 65536) :
    mm_Met L G SX6_readyOf [.ref (A 99), .int (iI s), .int (iI i)] (hm G A ax h0 μ) 0 0 (mRet (some (.long (iL (v_readyOf μ s i)))) (hm G A ax h0 μ)) mm_no := by
  refine mi_meth MX6_readyOf 400 hF htr okX6_readyOf (av := [aR (A 99), aI s, aI i]) (by decide +kernel) (Nat.le_of_ble_eq_true rfl) cmX6_readyOf (fun θ hc => ?_)
  have loop7 : ∀ (R : Int) (d : Nat) (n : Int), (0 ≤ n) → (n ≤ 65536) → (65536 - n) < (d : Int) → v_readyOf_7 μ s i d n = R → mi_W L G MX6_readyOf 0 0 (mRet (some (.long (iL R))) (hm G A ax h0 μ)) mm_no θ 7 [(3, aL n), (0, aR (A 99)), (1, aI s), (2, aI i)] [] (hm G A ax h0 μ) 0 0 := by
    intro R d
    induction d with
    | zero =>
      intro n hi1 hi2 hms hvr
      omega
    | succ d ih =>
      intro n hi1 hi2 hms hvr
      refine mi_sound hc okX6_readyOf 400 _ _ _ _ _ _ ?_
      refine ⟨⟨_, hm_oi hx⟩, _, _, _, _, (m_isHere hF htr hx hT (s := s) (i := i) (o := n) hP (by omega) (by omega) (by omega) (by omega) (by omega) (by omega)), Nat.le_refl _, Nat.le_refl _, mki_ (r := some (aI (v_isHere μ s i n))) ?_, fun _ _ q => q.elim⟩
      have t1 := isHere_b (μ := μ) hQ (s := s) i (o := n) (by omega) (by omega)
      refine ⟨by omega, fun (e2 : (v_isHere μ s i n) = 0) => ?_, fun (e2 : ¬ ((v_isHere μ s i n) = 0)) => ?_⟩
      · exact ⟨mRetL (hvr.symm.trans (by rw [v_readyOf_7]; rw [if_pos e2])) rfl, Nat.le_refl _, Nat.le_refl _⟩
      · refine ⟨1, rfl, ?_⟩
        exact mi_Wsub (List.forall_mem_cons.mpr ⟨(.head _), List.forall_mem_cons.mpr ⟨(.tail _ (.head _)), List.forall_mem_cons.mpr ⟨(.tail _ (.tail _ (.head _))), List.forall_mem_cons.mpr ⟨(.tail _ (.tail _ (.tail _ (.head _)))), fun _ h => absurd h List.not_mem_nil⟩⟩⟩⟩) (ih (n + 1) (by omega) (by omega) (by omega) (Eq.trans (by rw [v_readyOf_7]; rw [if_neg e2]) hvr))
  refine ⟨_, hm_oi hx, aR (A 27), rfl, ?_⟩
  refine ⟨_, _, _, _, (m_at hF htr (s := s) (i := i)), Nat.le_refl _, Nat.le_refl _, mki_ (r := some (aI ((256 * s) + i))) ?_, fun _ _ q => q.elim⟩
  refine ⟨512, _, (μ 27 (mj s i)), hm_a hx 27 rfl, by omega, rfl, ?_⟩
  have t3 := hT.l 27 (mj s i)
  exact mi_Wsub (List.forall_mem_cons.mpr ⟨(.head _), List.forall_mem_cons.mpr ⟨(.tail _ (.head _)), List.forall_mem_cons.mpr ⟨(.tail _ (.tail _ (.head _))), List.forall_mem_cons.mpr ⟨(.tail _ (.tail _ (.tail _ (.head _)))), fun _ h => absurd h List.not_mem_nil⟩⟩⟩⟩) (loop7 _ 65537 (μ 27 (mj s i)) (by omega) (by omega) (by omega) rfl)
end MR2
