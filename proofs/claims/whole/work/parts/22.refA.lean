section MR2
variable {L : Launch} {G : mmG} {A : Nat → Nat} {ax : Nat → Option Nat} {h0 : mmH} {μ : Nat → Nat → Int}
/-! what the fields may hold -/
def vlo (f : Nat) : Int := match f with
  | 0 => 0
  | 1 => 0
  | 2 => 0
  | 3 => 0
  | 4 => 0
  | 5 => 0
  | 6 => 0
  | 7 => 0
  | 8 => 0
  | 9 => 0
  | 10 => 0
  | 11 => 0
  | 12 => 0
  | 13 => 0
  | 14 => -1
  | 15 => 0
  | 16 => -1
  | 17 => 0
  | 18 => 0
  | 19 => 0
  | 20 => 0
  | 21 => 0
  | 22 => 0
  | 23 => 0
  | 24 => -1
  | 25 => 0
  | 26 => -1
  | 27 => 0
  | 28 => 0
  | 29 => 0
  | 30 => 0
  | 31 => 0
  | 32 => 0
  | 33 => 0
  | 34 => 0
  | 35 => 0
  | 36 => 0
  | 37 => 0
  | 38 => -128
  | 39 => 0
  | 40 => 0
  | 41 => 0
  | 42 => 0
  | 43 => -128
  | 44 => 0
  | 45 => 0
  | 46 => 0
  | 47 => 0
  | 48 => 0
  | 49 => 0
  | 50 => -128
  | 51 => 0
  | 52 => 0
  | 53 => 0
  | 54 => 0
  | 55 => 0
  | 56 => 0
  | 57 => 0
  | 58 => 0
  | 59 => 0
  | 60 => -128
  | _ => 0
def vhi (f : Nat) : Int := match f with
  | 0 => 2
  | 1 => 1
  | 2 => 255
  | 3 => 2048
  | 4 => 255
  | 5 => 2048
  | 6 => 65536
  | 7 => 4611686018427387903
  | 8 => 64
  | 9 => 64
  | 10 => 64
  | 11 => 65536
  | 12 => 1
  | 13 => 1
  | 14 => 4611686018427387903
  | 15 => 1
  | 16 => 255
  | 17 => 1
  | 18 => 4611686018427387903
  | 19 => 1
  | 20 => 3
  | 21 => 2
  | 22 => 1
  | 23 => 4611686018427387903
  | 24 => 4611686018427387903
  | 25 => 65536
  | 26 => 65536
  | 27 => 65536
  | 28 => 1
  | 29 => 4611686018427387903
  | 30 => 65536
  | 31 => 1
  | 32 => 1
  | 33 => 1
  | 34 => 4611686018427387903
  | 35 => 1
  | 36 => 65536
  | 37 => 255
  | 38 => 127
  | 39 => 3
  | 40 => 1408
  | 41 => 255
  | 42 => 1023
  | 43 => 127
  | 44 => 1
  | 45 => 23
  | 46 => 4611686018427387903
  | 47 => 4611686018427387903
  | 48 => 4611686018427387903
  | 49 => 2048
  | 50 => 127
  | 51 => 1
  | 52 => 23
  | 53 => 4611686018427387903
  | 54 => 4611686018427387903
  | 55 => 4611686018427387903
  | 56 => 1200
  | 57 => 2100
  | 58 => 1
  | 59 => 1
  | 60 => 127
  | _ => 0
def mV (μ : Nat → Nat → Int) : Prop := ∀ f k, vlo f ≤ μ f k ∧ μ f k ≤ vhi f
theorem mV.g (h : mV μ) (f k : Nat) : vlo f ≤ μ f k ∧ μ f k ≤ vhi f := h f k
theorem mV.u (h : mV μ) {f k : Nat} {v : Int} (hv : vlo f ≤ v ∧ v ≤ vhi f) : mV (u2 μ f k v) := by
  intro f' k'
  unfold u2
  split
  · rename_i q
    obtain ⟨rfl, rfl⟩ := q
    exact hv
  · exact h f' k'
def vok (f : Nat) : Bool := (mBool f == false || (decide (vlo f = 0) && decide (vhi f = 1))) && ((mLong f == true || (decide (-2147483648 ≤ vlo f) && decide (vhi f < 2147483648))) && ((decide (-4611686018427387904 ≤ vlo f) && decide (vhi f ≤ 4611686018427387904)) && (mB8 f == false || (decide (-128 ≤ vlo f) && decide (vhi f < 128)))))
theorem vok_a : ∀ f, f < 61 → vok f = true := by decide +kernel
theorem mf_ty_big {f : Nat} (h : 61 ≤ f) : mf_ty f = 99 := by
  unfold mf_ty
  split <;> first | omega | rfl
theorem vlo_big {f : Nat} (h : 61 ≤ f) : vlo f = 0 := by
  unfold vlo
  split <;> first | omega | rfl
theorem vhi_big {f : Nat} (h : 61 ≤ f) : vhi f = 0 := by
  unfold vhi
  split <;> first | omega | rfl
theorem vok_b {f : Nat} (h : 61 ≤ f) : vok f = true := by
  have e1 : mBool f = false := by
    unfold mBool
    rw [mf_ty_big h, show (f == 1) = false from beq_eq_false_iff_ne.mpr (by omega)]
    rfl
  have e2 : mB8 f = false := by
    unfold mB8
    rw [mf_ty_big h]
    rfl
  unfold vok
  rw [e1, e2, vlo_big h, vhi_big h]
  simp
theorem mV.T (h : mV μ) : mT μ := by
  intro f k
  have hb := h f k
  have ho : vok f = true := by
    by_cases q : f < 61
    · exact vok_a f q
    · exact vok_b (by omega)
  unfold vok at ho
  simp only [Bool.and_eq_true, Bool.or_eq_true, beq_iff_eq, decide_eq_true_eq] at ho
  obtain ⟨o1, o2, o3, o4⟩ := ho
  refine ⟨fun q => ?_, fun q => ?_, by omega, fun q => ?_⟩
  · rw [q] at o1
    rcases o1 with o1 | o1
    · cases o1
    · omega
  · rw [q] at o2
    rcases o2 with o2 | o2
    · cases o2
    · omega
  · rw [q] at o4
    rcases o4 with o4 | o4
    · cases o4
    · omega
theorem mV.N (h : mV μ) : mTotOk μ := fun k _ => h 36 k
theorem mV.cnt (hV : mV μ) {s : Int} (i st : Int) (h1 : 0 ≤ s) (h2 : s ≤ 1) : 0 ≤ mCnt μ s i st (mTot μ s) ∧ mCnt μ s i st (mTot μ s) ≤ 65536 := by
  have := mCnt_b (μ := μ) s i st (mTot μ s)
  have hN0 := hV.N s.toNat (by omega)
  have : mTot μ s ≤ 65536 := by unfold mTot; omega
  omega
theorem mV.all (hV : mV μ) {s : Int} (h1 : 0 ≤ s) (h2 : s ≤ 1) : 0 ≤ mAll μ s (mTot μ s) ∧ mAll μ s (mTot μ s) ≤ 65536 := by
  have := mAll_b (μ := μ) s (mTot μ s)
  have hN0 := hV.N s.toNat (by omega)
  have : mTot μ s ≤ 65536 := by unfold mTot; omega
  omega
theorem mTot_cg {μ μ' : Nat → Nat → Int} (h : ∀ k, μ 36 k = μ' 36 k) (s : Int) : mTot μ s = mTot μ' s := by unfold mTot; rw [h]
theorem mCnt_cgn {μ μ' : Nat → Nat → Int} (h : ∀ f, [36, 37, 39].elem f = true → ∀ k, μ f k = μ' f k) (s i st : Int) (n : Nat) : mCnt μ s i st n = mCnt μ' s i st n := by
  induction n with
  | zero => rfl
  | succ n ih => simp only [mCnt, ih, h 37 rfl, h 39 rfl]
theorem mCnt_cg {μ μ' : Nat → Nat → Int} (h : ∀ f, [36, 37, 39].elem f = true → ∀ k, μ f k = μ' f k) {s i st : Int} : mCnt μ s i st (mTot μ s) = mCnt μ' s i st (mTot μ' s) := by rw [mCnt_cgn h, mTot_cg (h 36 rfl)]
theorem mAll_cg {μ μ' : Nat → Nat → Int} (h : ∀ f, [36, 39].elem f = true → ∀ k, μ f k = μ' f k) {s : Int} : mAll μ s (mTot μ s) = mAll μ' s (mTot μ' s) := by
  rw [mTot_cg (h 36 rfl)]
  generalize mTot μ' s = n
  induction n with
  | zero => rfl
  | succ n ih => simp only [mAll, ih, h 39 rfl]
theorem mSend_cg {μ μ' : Nat → Nat → Int} (h : ∀ f, [19, 20, 21, 36, 37, 39].elem f = true → ∀ k, μ f k = μ' f k) {s i : Int} : mSend μ s i = mSend μ' s i := by
  have c : ∀ st, mCnt μ s i st (mTot μ s) = mCnt μ' s i st (mTot μ' s) := fun st => mCnt_cg (fun f hf k => h f (by simp only [List.elem_eq_mem, decide_eq_true_eq, List.mem_cons, List.not_mem_nil, or_false] at hf ⊢; omega) k)
  unfold mSend
  simp only [c, h 19 rfl, h 20 rfl, h 21 rfl]
theorem mSize_b (a : Int) : 1 ≤ mSize a ∧ mSize a ≤ 8 := by
  unfold mSize
  split
  · omega
  · split
    · omega
    · split <;> omega
theorem mV.snd (hV : mV μ) (s i : Int) : 0 ≤ mSend μ s i ∧ mSend μ s i ≤ 4 := by
  have : 0 ≤ μ 21 (mj s i) ∧ μ 21 (mj s i) ≤ 2 := hV 21 (mj s i)
  unfold mSend
  split
  · omega
  · split
    · omega
    · split <;> omega
theorem mRetIS {v v' : Int} {μ' : Nat → Nat → Int} (e : v' = v) (e2 : μ' = μ) (hv : mV μ) : mRetS (some (.int (iI v'))) (hm G A ax h0 μ') (mV μ') (some (.int (iI v))) (hm G A ax h0 μ) := by
  subst e e2
  exact ⟨⟨rfl, rfl⟩, hv⟩
theorem mRetIP {v v' : Int} {μ' : Nat → Nat → Int} {P : Int → (Nat → Nat → Int) → Prop} (e : v' = v) (e2 : μ' = μ) (hv : mV μ) (hp : P v μ) : mRetS (some (.int (iI v'))) (hm G A ax h0 μ') (mV μ' ∧ P v' μ') (some (.int (iI v))) (hm G A ax h0 μ) := by
  subst e e2
  exact ⟨⟨rfl, rfl⟩, hv, hp⟩
theorem mRetVP {μ' : Nat → Nat → Int} {P : Int → (Nat → Nat → Int) → Prop} (e2 : μ' = μ) (hv : mV μ) (hp : P 0 μ) : mRetS none (hm G A ax h0 μ') (mV μ' ∧ P 0 μ') none (hm G A ax h0 μ) := by
  subst e2
  exact ⟨⟨rfl, rfl⟩, hv, hp⟩
theorem mRetLS {v v' : Int} {μ' : Nat → Nat → Int} (e : v' = v) (e2 : μ' = μ) (hv : mV μ) : mRetS (some (.long (iL v'))) (hm G A ax h0 μ') (mV μ') (some (.long (iL v))) (hm G A ax h0 μ) := by
  subst e e2
  exact ⟨⟨rfl, rfl⟩, hv⟩
theorem mRetVS {μ' : Nat → Nat → Int} (e2 : μ' = μ) (hv : mV μ) : mRetS none (hm G A ax h0 μ') (mV μ') none (hm G A ax h0 μ) := by
  subst e2
  exact ⟨⟨rfl, rfl⟩, hv⟩
def v_pieceAt_4 (μ : Nat → Nat → Int) (s i n : Int) : Nat → Int → Int
  | 0, _ => -1
  | d + 1, p => (if ((1408 * s) + (μ 40 s.toNat)) ≤ p then -1 else (if (μ 41 p.toNat) = i then (if (μ 42 p.toNat) = n then p else (v_pieceAt_4 μ s i n d (p + 1))) else (v_pieceAt_4 μ s i n d (p + 1))))
def v_pieceAt (μ : Nat → Nat → Int) (s i n : Int) : Int := (v_pieceAt_4 μ s i n 1409 (1408 * s))
set_option maxRecDepth 100000 in
theorem m_pieceAt (hF : mm_F G) (htr : L.stackTraces = false) (hx : mx A ax) (hV : mV μ) {s i n : Int} (h1 : 0 ≤ s) (h2 : s ≤ 1) (h3 : -2147483648 ≤ i) (h4 : i < 2147483648) (h5 : -2147483648 ≤ n) (h6 : n < 2147483648) :
    mm_Met L G SX6_pieceAt [.ref (A 99), .int (iI s), .int (iI i), .int (iI n)] (hm G A ax h0 μ) 0 0 (mRet (some (.int (iI (v_pieceAt μ s i n)))) (hm G A ax h0 μ)) mm_no := by
  refine mi_meth MX6_pieceAt 400 hF htr okX6_pieceAt (av := [aR (A 99), aI s, aI i, aI n]) (by decide +kernel) (Nat.le_of_ble_eq_true rfl) cmX6_pieceAt (fun θ hc => ?_)
  have hP0 : 0 ≤ μ 40 s.toNat ∧ μ 40 s.toNat ≤ 1408 := hV 40 s.toNat
  have loop4 : ∀ (R : Int) (d : Nat) (p : Int), (1408 * s ≤ p) → (p ≤ 1408 * s + μ 40 s.toNat) → (1408 * s + μ 40 s.toNat - p) < (d : Int) → v_pieceAt_4 μ s i n d p = R → mi_W L G MX6_pieceAt 0 0 (mRet (some (.int (iI R))) (hm G A ax h0 μ)) mm_no θ 4 [(4, aI p), (0, aR (A 99)), (1, aI s), (2, aI i), (3, aI n)] [] (hm G A ax h0 μ) 0 0 := by
    intro R d
    induction d with
    | zero =>
      intro p hi1 hi2 hms hvr
      omega
    | succ d ih =>
      intro p hi1 hi2 hms hvr
      refine mi_sound hc okX6_pieceAt 400 _ _ _ _ _ _ ?_
      refine ⟨_, hm_oi hx, aR (A 40), rfl, ?_⟩
      refine ⟨2, _, (μ 40 s.toNat), hm_a hx 40 rfl, by omega, rfl, ?_⟩
      have t1 := (show 0 ≤ μ 40 s.toNat ∧ μ 40 s.toNat ≤ 1408 from hV.g 40 s.toNat)
      refine ⟨by omega, fun (e2 : ((1408 * s) + (μ 40 s.toNat)) ≤ p) => ?_, fun (e2 : ¬ (((1408 * s) + (μ 40 s.toNat)) ≤ p)) => ?_⟩
      · exact ⟨mRetI (hvr.symm.trans (by rw [v_pieceAt_4]; rw [if_pos e2])) rfl, Nat.le_refl _, Nat.le_refl _⟩
      · refine ⟨_, hm_oi hx, aR (A 41), rfl, ?_⟩
        refine ⟨2816, _, (μ 41 p.toNat), hm_a hx 41 rfl, by omega, rfl, ?_⟩
        have t3 := (show 0 ≤ μ 41 p.toNat ∧ μ 41 p.toNat ≤ 255 from hV.g 41 p.toNat)
        refine ⟨by omega, fun (e4 : ¬ ((μ 41 p.toNat) = i)) => ?_, fun (e4 : (μ 41 p.toNat) = i) => ?_⟩
        · exact mi_Wsub (List.forall_mem_cons.mpr ⟨(.head _), List.forall_mem_cons.mpr ⟨(.tail _ (.head _)), List.forall_mem_cons.mpr ⟨(.tail _ (.tail _ (.head _))), List.forall_mem_cons.mpr ⟨(.tail _ (.tail _ (.tail _ (.head _)))), List.forall_mem_cons.mpr ⟨(.tail _ (.tail _ (.tail _ (.tail _ (.head _))))), fun _ h => absurd h List.not_mem_nil⟩⟩⟩⟩⟩) (ih (p + 1) (by omega) (by omega) (by omega) (Eq.trans (by rw [v_pieceAt_4]; rw [if_neg e2, if_neg e4]) hvr))
        · refine ⟨_, hm_oi hx, aR (A 42), rfl, ?_⟩
          refine ⟨2816, _, (μ 42 p.toNat), hm_a hx 42 rfl, by omega, rfl, ?_⟩
          have t5 := (show 0 ≤ μ 42 p.toNat ∧ μ 42 p.toNat ≤ 1023 from hV.g 42 p.toNat)
          refine ⟨by omega, fun (e6 : ¬ ((μ 42 p.toNat) = n)) => ?_, fun (e6 : (μ 42 p.toNat) = n) => ?_⟩
          · exact mi_Wsub (List.forall_mem_cons.mpr ⟨(.head _), List.forall_mem_cons.mpr ⟨(.tail _ (.head _)), List.forall_mem_cons.mpr ⟨(.tail _ (.tail _ (.head _))), List.forall_mem_cons.mpr ⟨(.tail _ (.tail _ (.tail _ (.head _)))), List.forall_mem_cons.mpr ⟨(.tail _ (.tail _ (.tail _ (.tail _ (.head _))))), fun _ h => absurd h List.not_mem_nil⟩⟩⟩⟩⟩) (ih (p + 1) (by omega) (by omega) (by omega) (Eq.trans (by rw [v_pieceAt_4]; rw [if_neg e2, if_pos e4, if_neg e6]) hvr))
          · exact ⟨mRetI (hvr.symm.trans (by rw [v_pieceAt_4]; rw [if_neg e2, if_pos e4, if_pos e6])) rfl, Nat.le_refl _, Nat.le_refl _⟩
  exact mi_Wsub (List.forall_mem_cons.mpr ⟨(.head _), List.forall_mem_cons.mpr ⟨(.tail _ (.head _)), List.forall_mem_cons.mpr ⟨(.tail _ (.tail _ (.head _))), List.forall_mem_cons.mpr ⟨(.tail _ (.tail _ (.tail _ (.head _)))), List.forall_mem_cons.mpr ⟨(.tail _ (.tail _ (.tail _ (.tail _ (.head _))))), fun _ h => absurd h List.not_mem_nil⟩⟩⟩⟩⟩) (loop4 _ 1409 (1408 * s) (by omega) (by omega) (by omega) rfl)
set_option maxRecDepth 100000 in
theorem v_pieceAt_4_cg {μ μ' : Nat → Nat → Int} {s i n : Int} (h : ∀ f, [40, 41, 42].elem f = true → ∀ k, μ f k = μ' f k) : ∀ (d : Nat) (p : Int), v_pieceAt_4 μ s i n d p = v_pieceAt_4 μ' s i n d p := by
  have q40 := h 40 rfl
  have q41 := h 41 rfl
  have q42 := h 42 rfl
  intro d
  induction d with
  | zero => intros; rfl
  | succ d ih =>
    intro p
    rw [v_pieceAt_4, v_pieceAt_4]
    simp only [q40, q41, q42, ih]
set_option maxRecDepth 100000 in
theorem v_pieceAt_cg {μ μ' : Nat → Nat → Int} {s i n : Int} (h : ∀ f, [40, 41, 42].elem f = true → ∀ k, μ f k = μ' f k) : v_pieceAt μ s i n = v_pieceAt μ' s i n := by
  have q40 := h 40 rfl
  have q41 := h 41 rfl
  have q42 := h 42 rfl
  unfold v_pieceAt
  simp only [q40, q41, q42, v_pieceAt_4_cg h]
theorem v_pieceAt_u {f k : Nat} {v : Int} {s i n : Int} (hf : [40, 41, 42].elem f = false) : v_pieceAt (u2 μ f k v) s i n = v_pieceAt μ s i n := v_pieceAt_cg (fun g hg q => u2_f (by rintro rfl; rw [hg] at hf; cases hf))
theorem pieceAt_b4 {s i n : Int} : ∀ (d : Nat) (p : Int), 0 ≤ p → v_pieceAt_4 μ s i n d p = -1 ∨ (0 ≤ v_pieceAt_4 μ s i n d p ∧ p ≤ v_pieceAt_4 μ s i n d p ∧ v_pieceAt_4 μ s i n d p < 1408 * s + μ 40 s.toNat ∧ μ 41 (v_pieceAt_4 μ s i n d p).toNat = i ∧ μ 42 (v_pieceAt_4 μ s i n d p).toNat = n)
  | 0, _, _ => Or.inl rfl
  | d + 1, p, hp => by
    have ih := pieceAt_b4 (s := s) (i := i) (n := n) d (p + 1) (by omega)
    rw [v_pieceAt_4]
    split
    · exact Or.inl rfl
    · rename_i e
      split
      · rename_i e1
        split
        · rename_i e2
          exact Or.inr ⟨hp, by omega, by omega, e1, e2⟩
        · rcases ih with q | q
          · exact Or.inl q
          · exact Or.inr ⟨q.1, by omega, q.2.2.1, q.2.2.2⟩
      · rcases ih with q | q
        · exact Or.inl q
        · exact Or.inr ⟨q.1, by omega, q.2.2.1, q.2.2.2⟩
theorem pieceAt_c {s : Int} (i n : Int) (h1 : 0 ≤ s) : v_pieceAt μ s i n = -1 ∨ (0 ≤ v_pieceAt μ s i n ∧ 1408 * s ≤ v_pieceAt μ s i n ∧ v_pieceAt μ s i n < 1408 * s + μ 40 s.toNat ∧ μ 41 (v_pieceAt μ s i n).toNat = i ∧ μ 42 (v_pieceAt μ s i n).toNat = n) := pieceAt_b4 _ _ (by omega)
theorem pieceAt_b (hV : mV μ) {s : Int} (i n : Int) (h1 : 0 ≤ s) (h2 : s ≤ 1) : -1 ≤ v_pieceAt μ s i n ∧ v_pieceAt μ s i n < 2816 := by
  have hP0 : 0 ≤ μ 40 s.toNat ∧ μ 40 s.toNat ≤ 1408 := hV 40 s.toNat
  rcases pieceAt_c (μ := μ) i n h1 with q | q <;> omega
def s_comes (μ : Nat → Nat → Int) (s i o b : Int) : Nat → Nat → Int := (if 0 ≤ (v_pieceAt μ s i (o / 64)) then (if (μ 44 ((64 * (v_pieceAt μ s i (o / 64))) + (o % 64)).toNat) = 0 then (u2 (u2 μ 44 ((64 * (v_pieceAt μ s i (o / 64))) + (o % 64)).toNat 1) 43 ((64 * (v_pieceAt μ s i (o / 64))) + (o % 64)).toNat b) else μ) else (if (μ 44 ((64 * ((1408 * s) + (μ 40 s.toNat))) + (o % 64)).toNat) = 0 then (u2 (u2 (u2 (u2 (u2 μ 40 s.toNat ((μ 40 s.toNat) + 1)) 41 ((1408 * s) + (μ 40 s.toNat)).toNat i) 42 ((1408 * s) + (μ 40 s.toNat)).toNat (o / 64)) 44 ((64 * ((1408 * s) + (μ 40 s.toNat))) + (o % 64)).toNat 1) 43 ((64 * ((1408 * s) + (μ 40 s.toNat))) + (o % 64)).toNat b) else (u2 (u2 (u2 μ 40 s.toNat ((μ 40 s.toNat) + 1)) 41 ((1408 * s) + (μ 40 s.toNat)).toNat i) 42 ((1408 * s) + (μ 40 s.toNat)).toNat (o / 64))))
set_option maxRecDepth 100000 in
theorem m_comes (hF : mm_F G) (htr : L.stackTraces = false) (hx : mx A ax) (hV : mV μ) {s i o b : Int} (h1 : 0 ≤ s) (h2 : s ≤ 1) (h3 : 0 ≤ i) (h4 : i < 256) (h5 : 0 ≤ o) (h6 : o < 65536) (h7 : -128 ≤ b) (h8 : b < 128) (h9 : μ 40 s.toNat < 1408) :
    mm_Met L G SX6_comes [.ref (A 99), .int (iI s), .int (iI i), .long (iL o), .int (iI b)] (hm G A ax h0 μ) 0 0 (mRetS none (hm G A ax h0 (s_comes μ s i o b)) (mV (s_comes μ s i o b))) mm_no := by
  refine mi_meth MX6_comes 400 hF htr okX6_comes (av := [aR (A 99), aI s, aI i, aL o, aI b]) (by decide +kernel) (Nat.le_of_ble_eq_true rfl) cmX6_comes (fun θ hc => ?_)
  refine ⟨64, rfl, ?_⟩
  refine ⟨by omega, ?_⟩
  refine ⟨⟨_, hm_oi hx⟩, _, _, _, _, (m_pieceAt hF htr hx hV (s := s) (i := i) (n := (o / 64)) (by omega) (by omega) (by omega) (by omega) (by omega) (by omega)), Nat.le_refl _, Nat.le_refl _, mki_ (r := some (aI (v_pieceAt μ s i (o / 64)))) ?_, fun _ _ q => q.elim⟩
  have t1 := pieceAt_b hV (s := s) i (o / 64) (by omega) (by omega)
  refine ⟨by omega, fun (e2 : 0 ≤ (v_pieceAt μ s i (o / 64))) => ?_, fun (e2 : ¬ (0 ≤ (v_pieceAt μ s i (o / 64)))) => ?_⟩
  · refine ⟨64, rfl, ?_⟩
    refine ⟨by omega, ?_⟩
    refine ⟨_, hm_oi hx, aR (A 44), rfl, ?_⟩
    refine ⟨180224, _, (μ 44 ((64 * (v_pieceAt μ s i (o / 64))) + (o % 64)).toNat), hm_a hx 44 rfl, by omega, rfl, ?_⟩
    have t3 := (show 0 ≤ μ 44 ((64 * (v_pieceAt μ s i (o / 64))) + (o % 64)).toNat ∧ μ 44 ((64 * (v_pieceAt μ s i (o / 64))) + (o % 64)).toNat ≤ 1 from hV.g 44 ((64 * (v_pieceAt μ s i (o / 64))) + (o % 64)).toNat)
    refine ⟨by omega, fun (e4 : (μ 44 ((64 * (v_pieceAt μ s i (o / 64))) + (o % 64)).toNat) = 0) => ?_, fun (e4 : ¬ ((μ 44 ((64 * (v_pieceAt μ s i (o / 64))) + (o % 64)).toNat) = 0)) => ?_⟩
    · refine ⟨_, hm_oi hx, aR (A 44), rfl, ?_⟩
      refine ⟨180224, _, _, hm_a hx 44 rfl, by omega, (show 1 = 0 ∨ 1 = 1 from by omega), hm_pi hx (i := ((64 * (v_pieceAt μ s i (o / 64))) + (o % 64)).toNat) (v := 1) rfl rfl rfl rfl, ?_⟩
      have hV5 := hV.u (f := 44) (k := ((64 * (v_pieceAt μ s i (o / 64))) + (o % 64)).toNat) (v := 1) (show 0 ≤ 1 ∧ 1 ≤ 1 from by omega)
      refine ⟨_, hm_oi hx, aR (A 43), rfl, ?_⟩
      refine ⟨180224, _, _, hm_a hx 43 rfl, by omega, (show -128 ≤ b ∧ b < 128 from by omega), hm_pi hx (i := ((64 * (v_pieceAt μ s i (o / 64))) + (o % 64)).toNat) (v := b) rfl rfl rfl rfl, ?_⟩
      have hV6 := hV5.u (f := 43) (k := ((64 * (v_pieceAt μ s i (o / 64))) + (o % 64)).toNat) (v := b) (show -128 ≤ b ∧ b ≤ 127 from by omega)
      exact ⟨mRetVS (by unfold s_comes; rw [if_pos e2, if_pos e4]) hV6, Nat.le_refl _, Nat.le_refl _⟩
    · exact ⟨mRetVS (by unfold s_comes; rw [if_pos e2, if_neg e4]) hV, Nat.le_refl _, Nat.le_refl _⟩
  · refine ⟨_, hm_oi hx, aR (A 40), rfl, ?_⟩
    refine ⟨2, _, (μ 40 s.toNat), hm_a hx 40 rfl, by omega, rfl, ?_⟩
    have t7 := (show 0 ≤ μ 40 s.toNat ∧ μ 40 s.toNat ≤ 1408 from hV.g 40 s.toNat)
    refine ⟨_, hm_oi hx, aR (A 40), rfl, ?_⟩
    refine ⟨2, _, (μ 40 s.toNat), hm_a hx 40 rfl, by omega, rfl, ?_⟩
    refine ⟨2, _, _, hm_a hx 40 rfl, by omega, trivial, hm_pi hx (i := s.toNat) (v := ((μ 40 s.toNat) + 1)) rfl rfl rfl rfl, ?_⟩
    have hV8 := hV.u (f := 40) (k := s.toNat) (v := ((μ 40 s.toNat) + 1)) (show 0 ≤ ((μ 40 s.toNat) + 1) ∧ ((μ 40 s.toNat) + 1) ≤ 1408 from by omega)
    refine ⟨_, hm_oi hx, aR (A 41), rfl, ?_⟩
    refine ⟨2816, _, _, hm_a hx 41 rfl, by omega, trivial, hm_pi hx (i := ((1408 * s) + (μ 40 s.toNat)).toNat) (v := i) rfl rfl rfl rfl, ?_⟩
    have hV9 := hV8.u (f := 41) (k := ((1408 * s) + (μ 40 s.toNat)).toNat) (v := i) (show 0 ≤ i ∧ i ≤ 255 from by omega)
    refine ⟨_, hm_oi hx, aR (A 42), rfl, ?_⟩
    refine ⟨2816, _, _, hm_a hx 42 rfl, by omega, trivial, hm_pi hx (i := ((1408 * s) + (μ 40 s.toNat)).toNat) (v := (o / 64)) rfl rfl rfl rfl, ?_⟩
    have hV10 := hV9.u (f := 42) (k := ((1408 * s) + (μ 40 s.toNat)).toNat) (v := (o / 64)) (show 0 ≤ (o / 64) ∧ (o / 64) ≤ 1023 from by omega)
    refine ⟨64, rfl, ?_⟩
    refine ⟨by omega, ?_⟩
    refine ⟨_, hm_oi hx, aR (A 44), rfl, ?_⟩
    refine ⟨180224, _, (μ 44 ((64 * ((1408 * s) + (μ 40 s.toNat))) + (o % 64)).toNat), hm_a hx 44 rfl, by omega, (Eq.trans (u2_f (by decide)) (Eq.trans (u2_f (by decide)) (u2_f (by decide)))), ?_⟩
    have t11 := (show 0 ≤ μ 44 ((64 * ((1408 * s) + (μ 40 s.toNat))) + (o % 64)).toNat ∧ μ 44 ((64 * ((1408 * s) + (μ 40 s.toNat))) + (o % 64)).toNat ≤ 1 from hV.g 44 ((64 * ((1408 * s) + (μ 40 s.toNat))) + (o % 64)).toNat)
    refine ⟨by omega, fun (e12 : (μ 44 ((64 * ((1408 * s) + (μ 40 s.toNat))) + (o % 64)).toNat) = 0) => ?_, fun (e12 : ¬ ((μ 44 ((64 * ((1408 * s) + (μ 40 s.toNat))) + (o % 64)).toNat) = 0)) => ?_⟩
    · refine ⟨_, hm_oi hx, aR (A 44), rfl, ?_⟩
      refine ⟨180224, _, _, hm_a hx 44 rfl, by omega, (show 1 = 0 ∨ 1 = 1 from by omega), hm_pi hx (i := ((64 * ((1408 * s) + (μ 40 s.toNat))) + (o % 64)).toNat) (v := 1) rfl rfl rfl rfl, ?_⟩
      have hV13 := hV10.u (f := 44) (k := ((64 * ((1408 * s) + (μ 40 s.toNat))) + (o % 64)).toNat) (v := 1) (show 0 ≤ 1 ∧ 1 ≤ 1 from by omega)
      refine ⟨_, hm_oi hx, aR (A 43), rfl, ?_⟩
      refine ⟨180224, _, _, hm_a hx 43 rfl, by omega, (show -128 ≤ b ∧ b < 128 from by omega), hm_pi hx (i := ((64 * ((1408 * s) + (μ 40 s.toNat))) + (o % 64)).toNat) (v := b) rfl rfl rfl rfl, ?_⟩
      have hV14 := hV13.u (f := 43) (k := ((64 * ((1408 * s) + (μ 40 s.toNat))) + (o % 64)).toNat) (v := b) (show -128 ≤ b ∧ b ≤ 127 from by omega)
      exact ⟨mRetVS (by unfold s_comes; rw [if_neg e2, if_pos e12]) hV14, Nat.le_refl _, Nat.le_refl _⟩
    · exact ⟨mRetVS (by unfold s_comes; rw [if_neg e2, if_neg e12]) hV10, Nat.le_refl _, Nat.le_refl _⟩
set_option maxRecDepth 100000 in
theorem s_comes_fr {f kk : Nat} {s i o b : Int} (hf : [40, 41, 42, 43, 44].elem f = false) : s_comes μ s i o b f kk = μ f kk := by
  have n40 : f ≠ 40 := by rintro rfl; exact absurd hf (by decide)
  have n41 : f ≠ 41 := by rintro rfl; exact absurd hf (by decide)
  have n42 : f ≠ 42 := by rintro rfl; exact absurd hf (by decide)
  have n43 : f ≠ 43 := by rintro rfl; exact absurd hf (by decide)
  have n44 : f ≠ 44 := by rintro rfl; exact absurd hf (by decide)
  have f40 : ∀ (m : Nat → Nat → Int) (a b : Nat) (v : Int), u2 m 40 a v f b = m f b := fun m a b v => u2_f n40
  have f41 : ∀ (m : Nat → Nat → Int) (a b : Nat) (v : Int), u2 m 41 a v f b = m f b := fun m a b v => u2_f n41
  have f42 : ∀ (m : Nat → Nat → Int) (a b : Nat) (v : Int), u2 m 42 a v f b = m f b := fun m a b v => u2_f n42
  have f43 : ∀ (m : Nat → Nat → Int) (a b : Nat) (v : Int), u2 m 43 a v f b = m f b := fun m a b v => u2_f n43
  have f44 : ∀ (m : Nat → Nat → Int) (a b : Nat) (v : Int), u2 m 44 a v f b = m f b := fun m a b v => u2_f n44
  unfold s_comes
  repeat' with_reducible apply f_ite
  all_goals first | rfl | simp only [f40, f41, f42, f43, f44]
def v_isHere (μ : Nat → Nat → Int) (s i o : Int) : Int := (if (v_pieceAt μ s i (o / 64)) < 0 then 0 else (if (μ 44 ((64 * (v_pieceAt μ s i (o / 64))) + (o % 64)).toNat) = 0 then 0 else 1))
set_option maxRecDepth 100000 in
theorem m_isHere (hF : mm_F G) (htr : L.stackTraces = false) (hx : mx A ax) (hV : mV μ) {s i o : Int} (h1 : 0 ≤ s) (h2 : s ≤ 1) (h3 : -2147483648 ≤ i) (h4 : i < 2147483648) (h5 : 0 ≤ o) (h6 : o < 137438953472) :
    mm_Met L G SX6_isHere [.ref (A 99), .int (iI s), .int (iI i), .long (iL o)] (hm G A ax h0 μ) 0 0 (mRet (some (.int (iI (v_isHere μ s i o)))) (hm G A ax h0 μ)) mm_no := by
  refine mi_meth MX6_isHere 400 hF htr okX6_isHere (av := [aR (A 99), aI s, aI i, aL o]) (by decide +kernel) (Nat.le_of_ble_eq_true rfl) cmX6_isHere (fun θ hc => ?_)
  refine ⟨64, rfl, ?_⟩
  refine ⟨by omega, ?_⟩
  refine ⟨⟨_, hm_oi hx⟩, _, _, _, _, (m_pieceAt hF htr hx hV (s := s) (i := i) (n := (o / 64)) (by omega) (by omega) (by omega) (by omega) (by omega) (by omega)), Nat.le_refl _, Nat.le_refl _, mki_ (r := some (aI (v_pieceAt μ s i (o / 64)))) ?_, fun _ _ q => q.elim⟩
  have t1 := pieceAt_b hV (s := s) i (o / 64) (by omega) (by omega)
  refine ⟨by omega, fun (e2 : (v_pieceAt μ s i (o / 64)) < 0) => ?_, fun (e2 : ¬ ((v_pieceAt μ s i (o / 64)) < 0)) => ?_⟩
  · exact ⟨(Or.inl rfl), mRetI (by unfold v_isHere; rw [if_pos e2]) rfl, Nat.le_refl _, Nat.le_refl _⟩
  · refine ⟨_, hm_oi hx, aR (A 44), rfl, ?_⟩
    refine ⟨64, rfl, ?_⟩
    refine ⟨by omega, ?_⟩
    refine ⟨180224, _, (μ 44 ((64 * (v_pieceAt μ s i (o / 64))) + (o % 64)).toNat), hm_a hx 44 rfl, by omega, rfl, ?_⟩
    have t3 := (show 0 ≤ μ 44 ((64 * (v_pieceAt μ s i (o / 64))) + (o % 64)).toNat ∧ μ 44 ((64 * (v_pieceAt μ s i (o / 64))) + (o % 64)).toNat ≤ 1 from hV.g 44 ((64 * (v_pieceAt μ s i (o / 64))) + (o % 64)).toNat)
    refine ⟨by omega, fun (e4 : (μ 44 ((64 * (v_pieceAt μ s i (o / 64))) + (o % 64)).toNat) = 0) => ?_, fun (e4 : ¬ ((μ 44 ((64 * (v_pieceAt μ s i (o / 64))) + (o % 64)).toNat) = 0)) => ?_⟩
    · exact ⟨(Or.inl rfl), mRetI (by unfold v_isHere; rw [if_neg e2, if_pos e4]) rfl, Nat.le_refl _, Nat.le_refl _⟩
    · exact ⟨(Or.inr rfl), mRetI (by unfold v_isHere; rw [if_neg e2, if_neg e4]) rfl, Nat.le_refl _, Nat.le_refl _⟩
set_option maxRecDepth 100000 in
theorem v_isHere_cg {μ μ' : Nat → Nat → Int} {s i o : Int} (h : ∀ f, [40, 41, 42, 44].elem f = true → ∀ k, μ f k = μ' f k) : v_isHere μ s i o = v_isHere μ' s i o := by
  have q40 := h 40 rfl
  have q41 := h 41 rfl
  have q42 := h 42 rfl
  have q44 := h 44 rfl
  have c_X6_pieceAt : ∀ (z_s z_i z_n : Int), v_pieceAt μ z_s z_i z_n = v_pieceAt μ' z_s z_i z_n := fun _ _ _ => v_pieceAt_cg (fun f hf k => h f (by simp only [List.elem_eq_mem, decide_eq_true_eq, List.mem_cons, List.not_mem_nil, or_false] at hf ⊢; omega) k)
  unfold v_isHere
  simp only [q40, q41, q42, q44, c_X6_pieceAt]
theorem v_isHere_u {f k : Nat} {v : Int} {s i o : Int} (hf : [40, 41, 42, 44].elem f = false) : v_isHere (u2 μ f k v) s i o = v_isHere μ s i o := v_isHere_cg (fun g hg q => u2_f (by rintro rfl; rw [hg] at hf; cases hf))
theorem isHere_b (hV : mV μ) {s : Int} (i : Int) {o : Int} (h1 : 0 ≤ s) (h5 : 0 ≤ o) : v_isHere μ s i o = 0 ∨ (v_isHere μ s i o = 1 ∧ o < 65536) := by
  unfold v_isHere
  split
  · exact Or.inl rfl
  · split
    · exact Or.inl rfl
    · rcases pieceAt_c (μ := μ) (s := s) i (o / 64) h1 with q | q
      · omega
      · have : 0 ≤ μ 42 (v_pieceAt μ s i (o / 64)).toNat ∧ μ 42 (v_pieceAt μ s i (o / 64)).toNat ≤ 1023 := hV 42 (v_pieceAt μ s i (o / 64)).toNat
        exact Or.inr ⟨rfl, by omega⟩
def v_byteAt (μ : Nat → Nat → Int) (s i o : Int) : Int := (μ 43 ((64 * (v_pieceAt μ s i (o / 64))) + (o % 64)).toNat)
set_option maxRecDepth 100000 in
theorem m_byteAt (hF : mm_F G) (htr : L.stackTraces = false) (hx : mx A ax) (hV : mV μ) {s i o : Int} (h1 : 0 ≤ s) (h2 : s ≤ 1) (h3 : -2147483648 ≤ i) (h4 : i < 2147483648) (h5 : 0 ≤ o) (h6 : o < 137438953472) (h7 : 0 ≤ v_pieceAt μ s i (o / 64)) :
    mm_Met L G SX6_byteAt [.ref (A 99), .int (iI s), .int (iI i), .long (iL o)] (hm G A ax h0 μ) 0 0 (mRet (some (.int (iI (v_byteAt μ s i o)))) (hm G A ax h0 μ)) mm_no := by
  refine mi_meth MX6_byteAt 400 hF htr okX6_byteAt (av := [aR (A 99), aI s, aI i, aL o]) (by decide +kernel) (Nat.le_of_ble_eq_true rfl) cmX6_byteAt (fun θ hc => ?_)
  refine ⟨_, hm_oi hx, aR (A 43), rfl, ?_⟩
  refine ⟨64, rfl, ?_⟩
  refine ⟨by omega, ?_⟩
  refine ⟨⟨_, hm_oi hx⟩, _, _, _, _, (m_pieceAt hF htr hx hV (s := s) (i := i) (n := (o / 64)) (by omega) (by omega) (by omega) (by omega) (by omega) (by omega)), Nat.le_refl _, Nat.le_refl _, mki_ (r := some (aI (v_pieceAt μ s i (o / 64)))) ?_, fun _ _ q => q.elim⟩
  have t1 := pieceAt_b hV (s := s) i (o / 64) (by omega) (by omega)
  refine ⟨64, rfl, ?_⟩
  refine ⟨by omega, ?_⟩
  refine ⟨180224, _, (μ 43 ((64 * (v_pieceAt μ s i (o / 64))) + (o % 64)).toNat), hm_a hx 43 rfl, by omega, rfl, ?_⟩
  have t2 := (show -128 ≤ μ 43 ((64 * (v_pieceAt μ s i (o / 64))) + (o % 64)).toNat ∧ μ 43 ((64 * (v_pieceAt μ s i (o / 64))) + (o % 64)).toNat ≤ 127 from hV.g 43 ((64 * (v_pieceAt μ s i (o / 64))) + (o % 64)).toNat)
  exact ⟨(by omega), mRetI rfl rfl, Nat.le_refl _, Nat.le_refl _⟩
set_option maxRecDepth 100000 in
theorem v_byteAt_cg {μ μ' : Nat → Nat → Int} {s i o : Int} (h : ∀ f, [40, 41, 42, 43].elem f = true → ∀ k, μ f k = μ' f k) : v_byteAt μ s i o = v_byteAt μ' s i o := by
  have q40 := h 40 rfl
  have q41 := h 41 rfl
  have q42 := h 42 rfl
  have q43 := h 43 rfl
  have c_X6_pieceAt : ∀ (z_s z_i z_n : Int), v_pieceAt μ z_s z_i z_n = v_pieceAt μ' z_s z_i z_n := fun _ _ _ => v_pieceAt_cg (fun f hf k => h f (by simp only [List.elem_eq_mem, decide_eq_true_eq, List.mem_cons, List.not_mem_nil, or_false] at hf ⊢; omega) k)
  unfold v_byteAt
  simp only [q40, q41, q42, q43, c_X6_pieceAt]
theorem v_byteAt_u {f k : Nat} {v : Int} {s i o : Int} (hf : [40, 41, 42, 43].elem f = false) : v_byteAt (u2 μ f k v) s i o = v_byteAt μ s i o := v_byteAt_cg (fun g hg q => u2_f (by rintro rfl; rw [hg] at hf; cases hf))
def v_readyOf_7 (μ : Nat → Nat → Int) (s i : Int) : Nat → Int → Int
  | 0, _ => 0
  | d + 1, n => (if (v_isHere μ s i n) = 0 then n else (v_readyOf_7 μ s i d (n + 1)))
def v_readyOf (μ : Nat → Nat → Int) (s i : Int) : Int := (v_readyOf_7 μ s i 65537 (μ 27 (mj s i)))
set_option maxRecDepth 100000 in
theorem m_readyOf (hF : mm_F G) (htr : L.stackTraces = false) (hx : mx A ax) (hV : mV μ) {s i : Int} (h1 : 0 ≤ s) (h2 : s ≤ 1) (h3 : 0 ≤ i) (h4 : i < 256) :
    mm_Met L G SX6_readyOf [.ref (A 99), .int (iI s), .int (iI i)] (hm G A ax h0 μ) 0 0 (mRet (some (.long (iL (v_readyOf μ s i)))) (hm G A ax h0 μ)) mm_no := by
  refine mi_meth MX6_readyOf 400 hF htr okX6_readyOf (av := [aR (A 99), aI s, aI i]) (by decide +kernel) (Nat.le_of_ble_eq_true rfl) cmX6_readyOf (fun θ hc => ?_)
  have loop7 : ∀ (R : Int) (d : Nat) (n : Int), (0 ≤ n) → (n ≤ 65536) → (65536 - n) < (d : Int) → v_readyOf_7 μ s i d n = R → mi_W L G MX6_readyOf 0 0 (mRet (some (.long (iL R))) (hm G A ax h0 μ)) mm_no θ 7 [(3, aL n), (0, aR (A 99)), (1, aI s), (2, aI i)] [] (hm G A ax h0 μ) 0 0 := by
    intro R d
    induction d with
    | zero =>
      intro n hi1 hi2 hms hvr
      omega
    | succ d ih =>
      intro n hi1 hi2 hms hvr
      refine mi_sound hc okX6_readyOf 400 _ _ _ _ _ _ ?_
      refine ⟨⟨_, hm_oi hx⟩, _, _, _, _, (m_isHere hF htr hx hV (s := s) (i := i) (o := n) (by omega) (by omega) (by omega) (by omega) (by omega) (by omega)), Nat.le_refl _, Nat.le_refl _, mki_ (r := some (aI (v_isHere μ s i n))) ?_, fun _ _ q => q.elim⟩
      have t1 := isHere_b hV (s := s) i (o := n) (by omega) (by omega)
      refine ⟨by omega, fun (e2 : (v_isHere μ s i n) = 0) => ?_, fun (e2 : ¬ ((v_isHere μ s i n) = 0)) => ?_⟩
      · exact ⟨mRetL (hvr.symm.trans (by rw [v_readyOf_7]; rw [if_pos e2])) rfl, Nat.le_refl _, Nat.le_refl _⟩
      · refine ⟨1, rfl, ?_⟩
        exact mi_Wsub (List.forall_mem_cons.mpr ⟨(.head _), List.forall_mem_cons.mpr ⟨(.tail _ (.head _)), List.forall_mem_cons.mpr ⟨(.tail _ (.tail _ (.head _))), List.forall_mem_cons.mpr ⟨(.tail _ (.tail _ (.tail _ (.head _)))), fun _ h => absurd h List.not_mem_nil⟩⟩⟩⟩) (ih (n + 1) (by omega) (by omega) (by omega) (Eq.trans (by rw [v_readyOf_7]; rw [if_neg e2]) hvr))
  refine ⟨_, hm_oi hx, aR (A 27), rfl, ?_⟩
  refine ⟨_, _, _, _, (m_at hF htr (s := s) (i := i)), Nat.le_refl _, Nat.le_refl _, mki_ (r := some (aI ((256 * s) + i))) ?_, fun _ _ q => q.elim⟩
  refine ⟨512, _, (μ 27 (mj s i)), hm_a hx 27 rfl, by omega, rfl, ?_⟩
  have t3 := (show 0 ≤ μ 27 (mj s i) ∧ μ 27 (mj s i) ≤ 65536 from hV.g 27 (mj s i))
  exact mi_Wsub (List.forall_mem_cons.mpr ⟨(.head _), List.forall_mem_cons.mpr ⟨(.tail _ (.head _)), List.forall_mem_cons.mpr ⟨(.tail _ (.tail _ (.head _))), List.forall_mem_cons.mpr ⟨(.tail _ (.tail _ (.tail _ (.head _)))), fun _ h => absurd h List.not_mem_nil⟩⟩⟩⟩) (loop7 _ 65537 (μ 27 (mj s i)) (by omega) (by omega) (by omega) rfl)
set_option maxRecDepth 100000 in
theorem v_readyOf_7_cg {μ μ' : Nat → Nat → Int} {s i : Int} (h : ∀ f, [27, 40, 41, 42, 44].elem f = true → ∀ k, μ f k = μ' f k) : ∀ (d : Nat) (n : Int), v_readyOf_7 μ s i d n = v_readyOf_7 μ' s i d n := by
  have q27 := h 27 rfl
  have q40 := h 40 rfl
  have q41 := h 41 rfl
  have q42 := h 42 rfl
  have q44 := h 44 rfl
  have c_X6_isHere : ∀ (z_s z_i z_o : Int), v_isHere μ z_s z_i z_o = v_isHere μ' z_s z_i z_o := fun _ _ _ => v_isHere_cg (fun f hf k => h f (by simp only [List.elem_eq_mem, decide_eq_true_eq, List.mem_cons, List.not_mem_nil, or_false] at hf ⊢; omega) k)
  intro d
  induction d with
  | zero => intros; rfl
  | succ d ih =>
    intro n
    rw [v_readyOf_7, v_readyOf_7]
    simp only [q27, q40, q41, q42, q44, c_X6_isHere, ih]
set_option maxRecDepth 100000 in
theorem v_readyOf_cg {μ μ' : Nat → Nat → Int} {s i : Int} (h : ∀ f, [27, 40, 41, 42, 44].elem f = true → ∀ k, μ f k = μ' f k) : v_readyOf μ s i = v_readyOf μ' s i := by
  have q27 := h 27 rfl
  have q40 := h 40 rfl
  have q41 := h 41 rfl
  have q42 := h 42 rfl
  have q44 := h 44 rfl
  have c_X6_isHere : ∀ (z_s z_i z_o : Int), v_isHere μ z_s z_i z_o = v_isHere μ' z_s z_i z_o := fun _ _ _ => v_isHere_cg (fun f hf k => h f (by simp only [List.elem_eq_mem, decide_eq_true_eq, List.mem_cons, List.not_mem_nil, or_false] at hf ⊢; omega) k)
  unfold v_readyOf
  simp only [q27, q40, q41, q42, q44, c_X6_isHere, v_readyOf_7_cg h]
theorem v_readyOf_u {f k : Nat} {v : Int} {s i : Int} (hf : [27, 40, 41, 42, 44].elem f = false) : v_readyOf (u2 μ f k v) s i = v_readyOf μ s i := v_readyOf_cg (fun g hg q => u2_f (by rintro rfl; rw [hg] at hf; cases hf))
theorem readyOf_b7 (hV : mV μ) (s i : Int) (h1 : 0 ≤ s) : ∀ (d : Nat) (n : Int), 0 ≤ n → n ≤ 65536 → 0 ≤ v_readyOf_7 μ s i d n ∧ v_readyOf_7 μ s i d n ≤ 65536
  | 0, n, h2, h3 => ⟨Int.le_refl _, (by decide : (0 : Int) ≤ 65536)⟩
  | d + 1, n, h2, h3 => by
    have q := isHere_b hV (s := s) i (o := n) h1 h2
    rw [v_readyOf_7]
    split
    · exact ⟨h2, h3⟩
    · exact readyOf_b7 hV s i h1 d (n + 1) (by omega) (by omega)
theorem readyOf_b (hV : mV μ) (s i : Int) (h1 : 0 ≤ s) : 0 ≤ v_readyOf μ s i ∧ v_readyOf μ s i ≤ 65536 := readyOf_b7 hV s i h1 _ _ (hV 27 _).1 (hV 27 _).2
end MR2
