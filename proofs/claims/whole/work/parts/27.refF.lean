section MR7
variable {L : Launch} {G : mmG} {A : Nat → Nat} {ax : Nat → Option Nat} {h0 : mmH} {μ : Nat → Nat → Int}
theorem mRem_cnt (s i : Int) (n : Nat) : mCnt μ s i (-1) n = mRem (μ 37) i (65536 * s).toNat n := by
  induction n with
  | zero => rfl
  | succ n ih =>
    rw [mRem_s, ← ih, mCnt]
    congr 1
    simp
def v_placeOf_6 (μ : Nat → Nat → Int) (s i o : Int) : Nat → Int → Int → Int
  | 0, _, _ => 0
  | d + 1, k, l => (if (μ 37 k.toNat) = i then (if l ≤ 0 then k else (v_placeOf_6 μ s i o d (k + 1) (l - 1))) else (v_placeOf_6 μ s i o d (k + 1) (l - 0)))
def v_placeOf (μ : Nat → Nat → Int) (s i o : Int) : Int := (v_placeOf_6 μ s i o 65537 (65536 * s) o)
set_option maxRecDepth 100000 in
theorem m_placeOf (hF : mm_F G) (htr : L.stackTraces = false) (hx : mx A ax) (hV : mV μ) {s i o : Int} (h1 : 0 ≤ s) (h2 : s ≤ 1) (h3 : 0 ≤ i) (h4 : i < 256) (h5 : 0 ≤ o) (h6 : o < mRem (μ 37) i (65536 * s).toNat (μ 36 s.toNat).toNat) :
    mm_Met L G SX6_placeOf [.ref (A 99), .int (iI s), .int (iI i), .int (iI o)] (hm G A ax h0 μ) 0 0 (mRet (some (.int (iI (v_placeOf μ s i o)))) (hm G A ax h0 μ)) mm_no := by
  refine mi_meth MX6_placeOf 400 hF htr okX6_placeOf (av := [aR (A 99), aI s, aI i, aI o]) (by decide +kernel) (Nat.le_of_ble_eq_true rfl) cmX6_placeOf (fun θ hc => ?_)
  have hN0 : 0 ≤ μ 36 s.toNat ∧ μ 36 s.toNat ≤ 65536 := hV 36 s.toNat
  have h6 : o < mRem (μ 37) i (65536 * s).toNat (65536 * s + μ 36 s.toNat - 65536 * s).toNat := by rw [show 65536 * s + μ 36 s.toNat - 65536 * s = μ 36 s.toNat by omega]; exact h6
  have loop6 : ∀ (R : Int) (d : Nat) (k l : Int), (65536 * s ≤ k) → (0 ≤ l ∧ l ≤ o) → (l < mRem (μ 37) i k.toNat (65536 * s + μ 36 s.toNat - k).toNat) → (65536 * s + μ 36 s.toNat - k) < (d : Int) → v_placeOf_6 μ s i o d k l = R → mi_W L G MX6_placeOf 0 0 (mRet (some (.int (iI R))) (hm G A ax h0 μ)) mm_no θ 6 [(5, aI k), (4, aI l), (0, aR (A 99)), (1, aI s), (2, aI i)] [] (hm G A ax h0 μ) 0 0 := by
    intro R d
    induction d with
    | zero =>
      intro k l hi1 hi2 hi3 hms hvr
      have q := mRem_c (by omega) hi2.1 hi3
      omega
    | succ d ih =>
      intro k l hi1 hi2 hi3 hms hvr
      have q := mRem_c (by omega) hi2.1 hi3
      have q8 : o ≤ 65536 := by have := mRem_le (μ 37) i (μ 36 s.toNat).toNat (65536 * s).toNat; rw [show (65536 * s + μ 36 s.toNat - 65536 * s).toNat = (μ 36 s.toNat).toNat by omega] at h6; omega
      have qb := b2_c (μ 37 k.toNat = i)
      refine mi_sound hc okX6_placeOf 400 _ _ _ _ _ _ ?_
      refine ⟨_, hm_oi hx, aR (A 37), rfl, ?_⟩
      refine ⟨131072, _, (μ 37 k.toNat), hm_a hx 37 rfl, by omega, rfl, ?_⟩
      have t1 := (show 0 ≤ μ 37 k.toNat ∧ μ 37 k.toNat ≤ 255 from hV.g 37 k.toNat)
      refine ⟨by omega, fun (e2 : ¬ ((μ 37 k.toNat) = i)) => ?_, fun (e2 : (μ 37 k.toNat) = i) => ?_⟩
      · refine ⟨_, hm_oi hx, aR (A 37), rfl, ?_⟩
        refine ⟨131072, _, (μ 37 k.toNat), hm_a hx 37 rfl, by omega, rfl, ?_⟩
        refine ⟨by omega, fun _ => ?_, fun (e : (μ 37 k.toNat) = i) => absurd e (by omega)⟩
        exact mi_Wsub (List.forall_mem_cons.mpr ⟨(.head _), List.forall_mem_cons.mpr ⟨(.tail _ (.head _)), List.forall_mem_cons.mpr ⟨(.tail _ (.tail _ (.head _))), List.forall_mem_cons.mpr ⟨(.tail _ (.tail _ (.tail _ (.head _)))), List.forall_mem_cons.mpr ⟨(.tail _ (.tail _ (.tail _ (.tail _ (.head _))))), fun _ h => absurd h List.not_mem_nil⟩⟩⟩⟩⟩) (ih (k + 1) (l - 0) (by omega) (by omega) (by omega) (by omega) (Eq.trans (by rw [v_placeOf_6]; rw [if_neg e2]) hvr))
      · refine ⟨by omega, fun (e4 : l ≤ 0) => ?_, fun (e4 : ¬ (l ≤ 0)) => ?_⟩
        · exact ⟨mRetI (hvr.symm.trans (by rw [v_placeOf_6]; rw [if_pos e2, if_pos e4])) rfl, Nat.le_refl _, Nat.le_refl _⟩
        · refine ⟨_, hm_oi hx, aR (A 37), rfl, ?_⟩
          refine ⟨131072, _, (μ 37 k.toNat), hm_a hx 37 rfl, by omega, rfl, ?_⟩
          refine ⟨by omega, fun (e : ¬ ((μ 37 k.toNat) = i)) => absurd e (by omega), fun _ => ?_⟩
          exact mi_Wsub (List.forall_mem_cons.mpr ⟨(.head _), List.forall_mem_cons.mpr ⟨(.tail _ (.head _)), List.forall_mem_cons.mpr ⟨(.tail _ (.tail _ (.head _))), List.forall_mem_cons.mpr ⟨(.tail _ (.tail _ (.tail _ (.head _)))), List.forall_mem_cons.mpr ⟨(.tail _ (.tail _ (.tail _ (.tail _ (.head _))))), fun _ h => absurd h List.not_mem_nil⟩⟩⟩⟩⟩) (ih (k + 1) (l - 1) (by omega) (by omega) (by omega) (by omega) (Eq.trans (by rw [v_placeOf_6]; rw [if_pos e2, if_neg e4]) hvr))
  refine ⟨65536, rfl, ?_⟩
  exact mi_Wsub (List.forall_mem_cons.mpr ⟨(.head _), List.forall_mem_cons.mpr ⟨(.tail _ (.head _)), List.forall_mem_cons.mpr ⟨(.tail _ (.tail _ (.head _))), List.forall_mem_cons.mpr ⟨(.tail _ (.tail _ (.tail _ (.head _)))), List.forall_mem_cons.mpr ⟨(.tail _ (.tail _ (.tail _ (.tail _ (.head _))))), fun _ h => absurd h List.not_mem_nil⟩⟩⟩⟩⟩) (loop6 _ 65537 (65536 * s) o (by omega) (by omega) (by omega) (by omega) rfl)
set_option maxRecDepth 100000 in
theorem v_placeOf_6_cg {μ μ' : Nat → Nat → Int} {s i o : Int} (h : ∀ f, [37].elem f = true → ∀ k, μ f k = μ' f k) : ∀ (d : Nat) (k l : Int), v_placeOf_6 μ s i o d k l = v_placeOf_6 μ' s i o d k l := by
  have q37 := h 37 rfl
  intro d
  induction d with
  | zero => intros; rfl
  | succ d ih =>
    intro k l
    rw [v_placeOf_6, v_placeOf_6]
    simp only [q37, ih]
set_option maxRecDepth 100000 in
theorem v_placeOf_cg {μ μ' : Nat → Nat → Int} {s i o : Int} (h : ∀ f, [37].elem f = true → ∀ k, μ f k = μ' f k) : v_placeOf μ s i o = v_placeOf μ' s i o := by
  have q37 := h 37 rfl
  unfold v_placeOf
  simp only [q37, v_placeOf_6_cg h]
theorem v_placeOf_u {f k : Nat} {v : Int} {s i o : Int} (hf : [37].elem f = false) : v_placeOf (u2 μ f k v) s i o = v_placeOf μ s i o := v_placeOf_cg (fun g hg q => u2_f (by rintro rfl; rw [hg] at hf; cases hf))
theorem placeOf_b6 {s i : Int} {o : Int} (h1 : 0 ≤ s) : ∀ (d : Nat) (k l : Int), 65536 * s ≤ k → 0 ≤ l → l < mRem (μ 37) i k.toNat (65536 * s + μ 36 s.toNat - k).toNat → 65536 * s + μ 36 s.toNat - k < d → k ≤ v_placeOf_6 μ s i o d k l ∧ v_placeOf_6 μ s i o d k l < 65536 * s + μ 36 s.toNat ∧ μ 37 (v_placeOf_6 μ s i o d k l).toNat = i
  | 0, k, l, g1, g2, g3, g4 => by
    have q := mRem_c (by omega) g2 g3
    omega
  | d + 1, k, l, g1, g2, g3, g4 => by
    have q := mRem_c (by omega) g2 g3
    have qb := b2_c (μ 37 k.toNat = i)
    rw [v_placeOf_6]
    split
    · rename_i e
      split
      · exact ⟨Int.le_refl _, q.1, e⟩
      · have ih := placeOf_b6 (i := i) (o := o) h1 d (k + 1) (l - 1) (by omega) (by omega) (by omega) (by omega)
        exact ⟨by omega, ih.2⟩
    · rename_i e
      have ih := placeOf_b6 (i := i) (o := o) h1 d (k + 1) (l - 0) (by omega) (by omega) (by omega) (by omega)
      exact ⟨by omega, ih.2⟩
theorem placeOf_b (hV : mV μ) {s i o : Int} (h1 : 0 ≤ s) (h2 : s ≤ 1) (h5 : 0 ≤ o) (h6 : o < mRem (μ 37) i (65536 * s).toNat (μ 36 s.toNat).toNat) : 65536 * s ≤ v_placeOf μ s i o ∧ v_placeOf μ s i o < 65536 * s + μ 36 s.toNat ∧ μ 36 s.toNat ≤ 65536 ∧ μ 37 (v_placeOf μ s i o).toNat = i := by
  have hN0 : 0 ≤ μ 36 s.toNat ∧ μ 36 s.toNat ≤ 65536 := hV 36 s.toNat
  have := placeOf_b6 (μ := μ) (i := i) (o := o) h1 65537 (65536 * s) o (Int.le_refl _) h5 (by rw [show 65536 * s + μ 36 s.toNat - 65536 * s = μ 36 s.toNat by omega]; exact h6) (by omega)
  exact ⟨this.1, this.2.1, hN0.2, this.2.2⟩
def v_firstIn_6 (μ : Nat → Nat → Int) (s i t : Int) : Nat → Int → Int → Int
  | 0, _, _ => -1
  | d + 1, k, o => (if ((65536 * s) + (μ 36 s.toNat)) ≤ k then -1 else (if (μ 37 k.toNat) = i then (if (μ 39 k.toNat) = t then o else (v_firstIn_6 μ s i t d (k + 1) (o + 1))) else (v_firstIn_6 μ s i t d (k + 1) o)))
def v_firstIn (μ : Nat → Nat → Int) (s i t : Int) : Int := (v_firstIn_6 μ s i t 65537 (65536 * s) 0)
set_option maxRecDepth 100000 in
theorem m_firstIn (hF : mm_F G) (htr : L.stackTraces = false) (hx : mx A ax) (hV : mV μ) {s i t : Int} (h1 : 0 ≤ s) (h2 : s ≤ 1) (h3 : 0 ≤ i) (h4 : i < 256) (h5 : 0 ≤ t) (h5a : t ≤ 3) :
    mm_Met L G SX6_firstIn [.ref (A 99), .int (iI s), .int (iI i), .int (iI t)] (hm G A ax h0 μ) 0 0 (mRet (some (.int (iI (v_firstIn μ s i t)))) (hm G A ax h0 μ)) mm_no := by
  refine mi_meth MX6_firstIn 400 hF htr okX6_firstIn (av := [aR (A 99), aI s, aI i, aI t]) (by decide +kernel) (Nat.le_of_ble_eq_true rfl) cmX6_firstIn (fun θ hc => ?_)
  have hN0 : 0 ≤ μ 36 s.toNat ∧ μ 36 s.toNat ≤ 65536 := hV 36 s.toNat
  have loop6 : ∀ (R : Int) (d : Nat) (k o : Int), (65536 * s ≤ k) → (k ≤ 65536 * s + μ 36 s.toNat) → (0 ≤ o) → (65536 * s + μ 36 s.toNat - k) < (d : Int) → v_firstIn_6 μ s i t d k o = R → mi_W L G MX6_firstIn 0 0 (mRet (some (.int (iI R))) (hm G A ax h0 μ)) mm_no θ 6 [(5, aI k), (4, aI o), (0, aR (A 99)), (1, aI s), (2, aI i), (3, aI t)] [] (hm G A ax h0 μ) 0 0 := by
    intro R d
    induction d with
    | zero =>
      intro k o hi1 hi2 hi3 hms hvr
      omega
    | succ d ih =>
      intro k o hi1 hi2 hi3 hms hvr
      refine mi_sound hc okX6_firstIn 400 _ _ _ _ _ _ ?_
      refine ⟨65536, rfl, ?_⟩
      refine ⟨_, hm_oi hx, aR (A 36), rfl, ?_⟩
      refine ⟨2, _, (μ 36 s.toNat), hm_a hx 36 rfl, by omega, rfl, ?_⟩
      have t1 := (show 0 ≤ μ 36 s.toNat ∧ μ 36 s.toNat ≤ 65536 from hV.g 36 s.toNat)
      refine ⟨by omega, fun (e2 : ((65536 * s) + (μ 36 s.toNat)) ≤ k) => ?_, fun (e2 : ¬ (((65536 * s) + (μ 36 s.toNat)) ≤ k)) => ?_⟩
      · exact ⟨mRetI (hvr.symm.trans (by rw [v_firstIn_6]; rw [if_pos e2])) rfl, Nat.le_refl _, Nat.le_refl _⟩
      · refine ⟨_, hm_oi hx, aR (A 37), rfl, ?_⟩
        refine ⟨131072, _, (μ 37 k.toNat), hm_a hx 37 rfl, by omega, rfl, ?_⟩
        have t3 := (show 0 ≤ μ 37 k.toNat ∧ μ 37 k.toNat ≤ 255 from hV.g 37 k.toNat)
        refine ⟨by omega, fun (e4 : (μ 37 k.toNat) = i) => ?_, fun (e4 : ¬ ((μ 37 k.toNat) = i)) => ?_⟩
        · refine ⟨_, hm_oi hx, aR (A 39), rfl, ?_⟩
          refine ⟨131072, _, (μ 39 k.toNat), hm_a hx 39 rfl, by omega, rfl, ?_⟩
          have t5 := (show 0 ≤ μ 39 k.toNat ∧ μ 39 k.toNat ≤ 3 from hV.g 39 k.toNat)
          refine ⟨by omega, fun (e6 : ¬ ((μ 39 k.toNat) = t)) => ?_, fun (e6 : (μ 39 k.toNat) = t) => ?_⟩
          · exact mi_Wsub (List.forall_mem_cons.mpr ⟨(.head _), List.forall_mem_cons.mpr ⟨(.tail _ (.head _)), List.forall_mem_cons.mpr ⟨(.tail _ (.tail _ (.head _))), List.forall_mem_cons.mpr ⟨(.tail _ (.tail _ (.tail _ (.head _)))), List.forall_mem_cons.mpr ⟨(.tail _ (.tail _ (.tail _ (.tail _ (.head _))))), List.forall_mem_cons.mpr ⟨(.tail _ (.tail _ (.tail _ (.tail _ (.tail _ (.head _)))))), fun _ h => absurd h List.not_mem_nil⟩⟩⟩⟩⟩⟩) (ih (k + 1) (o + 1) (by omega) (by omega) (by omega) (by omega) (Eq.trans (by rw [v_firstIn_6]; rw [if_neg e2, if_pos e4, if_neg e6]) hvr))
          · exact ⟨mRetI (hvr.symm.trans (by rw [v_firstIn_6]; rw [if_neg e2, if_pos e4, if_pos e6])) rfl, Nat.le_refl _, Nat.le_refl _⟩
        · exact mi_Wsub (List.forall_mem_cons.mpr ⟨(.head _), List.forall_mem_cons.mpr ⟨(.tail _ (.head _)), List.forall_mem_cons.mpr ⟨(.tail _ (.tail _ (.head _))), List.forall_mem_cons.mpr ⟨(.tail _ (.tail _ (.tail _ (.head _)))), List.forall_mem_cons.mpr ⟨(.tail _ (.tail _ (.tail _ (.tail _ (.head _))))), List.forall_mem_cons.mpr ⟨(.tail _ (.tail _ (.tail _ (.tail _ (.tail _ (.head _)))))), fun _ h => absurd h List.not_mem_nil⟩⟩⟩⟩⟩⟩) (ih (k + 1) o (by omega) (by omega) (by omega) (by omega) (Eq.trans (by rw [v_firstIn_6]; rw [if_neg e2, if_neg e4]) hvr))
  refine ⟨65536, rfl, ?_⟩
  exact mi_Wsub (List.forall_mem_cons.mpr ⟨(.head _), List.forall_mem_cons.mpr ⟨(.tail _ (.head _)), List.forall_mem_cons.mpr ⟨(.tail _ (.tail _ (.head _))), List.forall_mem_cons.mpr ⟨(.tail _ (.tail _ (.tail _ (.head _)))), List.forall_mem_cons.mpr ⟨(.tail _ (.tail _ (.tail _ (.tail _ (.head _))))), List.forall_mem_cons.mpr ⟨(.tail _ (.tail _ (.tail _ (.tail _ (.tail _ (.head _)))))), fun _ h => absurd h List.not_mem_nil⟩⟩⟩⟩⟩⟩) (loop6 _ 65537 (65536 * s) 0 (by omega) (by omega) (by omega) (by omega) rfl)
set_option maxRecDepth 100000 in
theorem v_firstIn_6_cg {μ μ' : Nat → Nat → Int} {s i t : Int} (h : ∀ f, [36, 37, 39].elem f = true → ∀ k, μ f k = μ' f k) : ∀ (d : Nat) (k o : Int), v_firstIn_6 μ s i t d k o = v_firstIn_6 μ' s i t d k o := by
  have q36 := h 36 rfl
  have q37 := h 37 rfl
  have q39 := h 39 rfl
  intro d
  induction d with
  | zero => intros; rfl
  | succ d ih =>
    intro k o
    rw [v_firstIn_6, v_firstIn_6]
    simp only [q36, q37, q39, ih]
set_option maxRecDepth 100000 in
theorem v_firstIn_cg {μ μ' : Nat → Nat → Int} {s i t : Int} (h : ∀ f, [36, 37, 39].elem f = true → ∀ k, μ f k = μ' f k) : v_firstIn μ s i t = v_firstIn μ' s i t := by
  have q36 := h 36 rfl
  have q37 := h 37 rfl
  have q39 := h 39 rfl
  unfold v_firstIn
  simp only [q36, q37, q39, v_firstIn_6_cg h]
theorem v_firstIn_u {f k : Nat} {v : Int} {s i t : Int} (hf : [36, 37, 39].elem f = false) : v_firstIn (u2 μ f k v) s i t = v_firstIn μ s i t := v_firstIn_cg (fun g hg q => u2_f (by rintro rfl; rw [hg] at hf; cases hf))
theorem firstIn_b6 {s i t : Int} (h1 : 0 ≤ s) (n : Nat) (hn : (n : Int) = μ 36 s.toNat) : ∀ (d m : Nat), v_firstIn_6 μ s i t d (65536 * s + m) (mCnt μ s i (-1) m) = -1 ∨ (0 ≤ v_firstIn_6 μ s i t d (65536 * s + m) (mCnt μ s i (-1) m) ∧ v_firstIn_6 μ s i t d (65536 * s + m) (mCnt μ s i (-1) m) < mCnt μ s i (-1) n)
  | 0, m => Or.inl rfl
  | d + 1, m => by
    have ih := firstIn_b6 (i := i) (t := t) h1 n hn d (m + 1)
    have cb := mCnt_b (μ := μ) s i (-1) m
    have hix : (65536 * s + (m : Int)).toNat = (65536 * s).toNat + m := by omega
    have hst : mCnt μ s i (-1) (m + 1) = mCnt μ s i (-1) m + b2 (μ 37 ((65536 * s).toNat + m) = i) := by rw [mRem_cnt, mRem_cnt, mRem_s]
    have hmono : ∀ a b, a ≤ b → mCnt μ s i (-1) a ≤ mCnt μ s i (-1) b := by
      intro a b hab
      obtain ⟨c, rfl⟩ := Nat.le.dest hab
      clear hab
      induction c with
      | zero => exact Int.le_refl _
      | succ c ihc =>
        have := b2_r (μ 37 ((65536 * s).toNat + (a + c)) = i)
        have e : mCnt μ s i (-1) (a + (c + 1)) = mCnt μ s i (-1) (a + c) + b2 (μ 37 ((65536 * s).toNat + (a + c)) = i) := by rw [mRem_cnt, mRem_cnt]; exact mRem_s _ _ _ _
        omega
    have qb := b2_c (μ 37 ((65536 * s).toNat + m) = i)
    rw [v_firstIn_6, hix]
    split
    · exact Or.inl rfl
    · rename_i e0
      have := hmono (m + 1) n (by omega)
      split
      · rename_i e
        split
        · exact Or.inr ⟨by omega, by omega⟩
        · rw [show 65536 * s + (m : Int) + 1 = 65536 * s + ((m + 1 : Nat) : Int) by omega, show mCnt μ s i (-1) m + 1 = mCnt μ s i (-1) (m + 1) by omega]
          exact ih
      · rename_i e
        rw [show 65536 * s + (m : Int) + 1 = 65536 * s + ((m + 1 : Nat) : Int) by omega]
        rw [show mCnt μ s i (-1) (m + 1) = mCnt μ s i (-1) m by omega] at ih
        exact ih
theorem firstIn_b (hV : mV μ) {s : Int} (i t : Int) (h1 : 0 ≤ s) (h2 : s ≤ 1) : v_firstIn μ s i t = -1 ∨ (0 ≤ v_firstIn μ s i t ∧ v_firstIn μ s i t < mCnt μ s i (-1) (mTot μ s)) := by
  have hN0 : 0 ≤ μ 36 s.toNat ∧ μ 36 s.toNat ≤ 65536 := hV 36 s.toNat
  have := firstIn_b6 (μ := μ) (i := i) (t := t) h1 (mTot μ s) (by unfold mTot; omega) 65537 0
  rw [show 65536 * s + ((0 : Nat) : Int) = 65536 * s by omega] at this
  exact this
def v_allowed (μ : Nat → Nat → Int) (s i : Int) : Int := (if ((μ 7 (3 * s).toNat) - (mAll μ s (mTot μ s))) ≤ ((μ 18 (mj s i)) - (mCnt μ s i (-2) (mTot μ s))) then (if 0 ≤ ((μ 7 (3 * s).toNat) - (mAll μ s (mTot μ s))) then ((μ 7 (3 * s).toNat) - (mAll μ s (mTot μ s))) else 0) else (if 0 ≤ ((μ 18 (mj s i)) - (mCnt μ s i (-2) (mTot μ s))) then ((μ 18 (mj s i)) - (mCnt μ s i (-2) (mTot μ s))) else 0))
set_option maxRecDepth 100000 in
theorem m_allowed (hF : mm_F G) (htr : L.stackTraces = false) (hx : mx A ax) (hV : mV μ) {s i : Int} (h1 : 0 ≤ s) (h2 : s ≤ 1) (h3 : 0 ≤ i) (h4 : i < 256) :
    mm_Met L G SX6_allowed [.ref (A 99), .int (iI s), .int (iI i)] (hm G A ax h0 μ) 0 0 (mRet (some (.long (iL (v_allowed μ s i)))) (hm G A ax h0 μ)) mm_no := by
  refine mi_meth MX6_allowed 400 hF htr okX6_allowed (av := [aR (A 99), aI s, aI i]) (by decide +kernel) (Nat.le_of_ble_eq_true rfl) cmX6_allowed (fun θ hc => ?_)
  refine ⟨_, hm_oi hx, aR (A 18), rfl, ?_⟩
  refine ⟨_, _, _, _, (m_at hF htr (s := s) (i := i)), Nat.le_refl _, Nat.le_refl _, mki_ (r := some (aI ((256 * s) + i))) ?_, fun _ _ q => q.elim⟩
  refine ⟨512, _, (μ 18 (mj s i)), hm_a hx 18 rfl, by omega, rfl, ?_⟩
  have t1 := (show 0 ≤ μ 18 (mj s i) ∧ μ 18 (mj s i) ≤ 4611686018427387903 from hV.g 18 (mj s i))
  refine ⟨⟨_, hm_oi hx⟩, _, _, _, _, (m_sent hF htr hx hV.T hV.N (s := s) (i := i) (by omega) (by omega) (by omega) (by omega)), Nat.le_refl _, Nat.le_refl _, mki_ (r := some (aI (mCnt μ s i (-2) (mTot μ s)))) ?_, fun _ _ q => q.elim⟩
  have t2 := hV.cnt (s := s) i (-2) (by omega) (by omega)
  refine ⟨by omega, ?_⟩
  refine ⟨_, hm_oi hx, aR (A 7), rfl, ?_⟩
  refine ⟨6, _, (μ 7 (3 * s).toNat), hm_a hx 7 rfl, by omega, rfl, ?_⟩
  have t3 := (show 0 ≤ μ 7 (3 * s).toNat ∧ μ 7 (3 * s).toNat ≤ 4611686018427387903 from hV.g 7 (3 * s).toNat)
  refine ⟨⟨_, hm_oi hx⟩, _, _, _, _, (m_allSent hF htr hx hV.T hV.N (s := s) (by omega) (by omega)), Nat.le_refl _, Nat.le_refl _, mki_ (r := some (aI (mAll μ s (mTot μ s)))) ?_, fun _ _ q => q.elim⟩
  have t4 := hV.all (s := s) (by omega) (by omega)
  refine ⟨by omega, ?_⟩
  refine ⟨by omega, fun (e5 : ((μ 7 (3 * s).toNat) - (mAll μ s (mTot μ s))) ≤ ((μ 18 (mj s i)) - (mCnt μ s i (-2) (mTot μ s)))) => ?_, fun (e5 : ¬ (((μ 7 (3 * s).toNat) - (mAll μ s (mTot μ s))) ≤ ((μ 18 (mj s i)) - (mCnt μ s i (-2) (mTot μ s))))) => ?_⟩
  · refine ⟨0, rfl, ?_⟩
    refine ⟨by omega, fun (e6 : 0 ≤ ((μ 7 (3 * s).toNat) - (mAll μ s (mTot μ s)))) => ?_, fun (e6 : ¬ (0 ≤ ((μ 7 (3 * s).toNat) - (mAll μ s (mTot μ s))))) => ?_⟩
    · exact ⟨mRetL (by unfold v_allowed; rw [if_pos e5, if_pos e6]) rfl, Nat.le_refl _, Nat.le_refl _⟩
    · refine ⟨0, rfl, ?_⟩
      exact ⟨mRetL (by unfold v_allowed; rw [if_pos e5, if_neg e6]) rfl, Nat.le_refl _, Nat.le_refl _⟩
  · refine ⟨0, rfl, ?_⟩
    refine ⟨by omega, fun (e7 : 0 ≤ ((μ 18 (mj s i)) - (mCnt μ s i (-2) (mTot μ s)))) => ?_, fun (e7 : ¬ (0 ≤ ((μ 18 (mj s i)) - (mCnt μ s i (-2) (mTot μ s))))) => ?_⟩
    · exact ⟨mRetL (by unfold v_allowed; rw [if_neg e5, if_pos e7]) rfl, Nat.le_refl _, Nat.le_refl _⟩
    · refine ⟨0, rfl, ?_⟩
      exact ⟨mRetL (by unfold v_allowed; rw [if_neg e5, if_neg e7]) rfl, Nat.le_refl _, Nat.le_refl _⟩
set_option maxRecDepth 100000 in
theorem v_allowed_cg {μ μ' : Nat → Nat → Int} {s i : Int} (h : ∀ f, [7, 18, 36, 37, 39].elem f = true → ∀ k, μ f k = μ' f k) : v_allowed μ s i = v_allowed μ' s i := by
  have q7 := h 7 rfl
  have q18 := h 18 rfl
  have q36 := h 36 rfl
  have q37 := h 37 rfl
  have q39 := h 39 rfl
  have c_X6_allSent : ∀ (s : Int), mAll μ s (mTot μ s) = mAll μ' s (mTot μ' s) := fun s => mAll_cg (fun f hf k => h f (by simp only [List.elem_eq_mem, decide_eq_true_eq, List.mem_cons, List.not_mem_nil, or_false] at hf ⊢; omega) k)
  have c_X6_sent : ∀ (s i st : Int), mCnt μ s i st (mTot μ s) = mCnt μ' s i st (mTot μ' s) := fun s i st => mCnt_cg (fun f hf k => h f (by simp only [List.elem_eq_mem, decide_eq_true_eq, List.mem_cons, List.not_mem_nil, or_false] at hf ⊢; omega) k)
  unfold v_allowed
  simp only [q7, q18, q36, q37, q39, c_X6_allSent, c_X6_sent]
theorem v_allowed_u {f k : Nat} {v : Int} {s i : Int} (hf : [7, 18, 36, 37, 39].elem f = false) : v_allowed (u2 μ f k v) s i = v_allowed μ s i := v_allowed_cg (fun g hg q => u2_f (by rintro rfl; rw [hg] at hf; cases hf))
theorem allowed_b (hV : mV μ) {s : Int} (i : Int) (h1 : 0 ≤ s) (h2 : s ≤ 1) : 0 ≤ v_allowed μ s i ∧ v_allowed μ s i ≤ 4611686018427387903 := by
  have q1 := hV.cnt (s := s) i (-2) h1 h2
  have q2 := hV.all (s := s) h1 h2
  have q3 : 0 ≤ μ 18 (mj s i) ∧ μ 18 (mj s i) ≤ 4611686018427387903 := hV 18 _
  have q4 : 0 ≤ μ 7 (3 * s).toNat ∧ μ 7 (3 * s).toNat ≤ 4611686018427387903 := hV 7 _
  unfold v_allowed
  repeat' split
  all_goals omega
def v_endAlone (μ : Nat → Nat → Int) (s i r : Int) : Int := (if (v_bytes (u2 μ 48 0 1)) ≤ r then 1 else 0)
def s_endAlone (μ : Nat → Nat → Int) (s i r : Int) : Nat → Nat → Int := (if (v_bytes (u2 μ 48 0 1)) ≤ r then (u2 (u2 μ 48 0 1) 20 (mj s i) 1) else (u2 μ 48 0 1))
set_option maxRecDepth 100000 in
theorem m_endAlone (hF : mm_F G) (htr : L.stackTraces = false) (hx : mx A ax) (hV : mV μ) {s i r : Int} (h1 : 0 ≤ s) (h2 : s ≤ 1) (h3 : 0 ≤ i) (h4 : i < 256) (h5 : 1 ≤ r) (h5a : r ≤ 1200) (h6 : μ 49 0 ≤ 1200) :
    mm_Met L G SX6_endAlone [.ref (A 99), .int (iI s), .int (iI i), .int (iI r)] (hm G A ax h0 μ) 0 0 (mRetS (some (.int (iI (v_endAlone μ s i r)))) (hm G A ax h0 (s_endAlone μ s i r)) (mV (s_endAlone μ s i r) ∧ (fun r m => r = 1 → m 49 0 ≤ 1200) (v_endAlone μ s i r) (s_endAlone μ s i r))) mm_no := by
  refine mi_meth MX6_endAlone 400 hF htr okX6_endAlone (av := [aR (A 99), aI s, aI i, aI r]) (by decide +kernel) (Nat.le_of_ble_eq_true rfl) cmX6_endAlone (fun θ hc => ?_)
  refine ⟨1, rfl, ?_⟩
  refine ⟨_, hm_oi hx, trivial, _, hm_putO hx (f := 48) (v := 1) rfl rfl, ?_⟩
  have hV1 := hV.u (f := 48) (k := 0) (v := 1) (show 0 ≤ 1 ∧ 1 ≤ 4611686018427387903 from by omega)
  refine ⟨⟨_, hm_oi hx⟩, _, _, _, _, (m_bytes hF htr hx hV1), Nat.le_refl _, Nat.le_refl _, mki_ (r := some (aI (v_bytes (u2 μ 48 0 1)))) ?_, fun _ _ q => q.elim⟩
  have t2 := (show 1 ≤ v_bytes (u2 μ 48 0 1) ∧ v_bytes (u2 μ 48 0 1) ≤ 2100 ∧ ((μ 45 0) = 8 → (μ 49 0) + 2 ≤ v_bytes (u2 μ 48 0 1)) from bytes_b hV1)
  refine ⟨by omega, fun (e3 : (v_bytes (u2 μ 48 0 1)) ≤ r) => ?_, fun (e3 : ¬ ((v_bytes (u2 μ 48 0 1)) ≤ r)) => ?_⟩
  · refine ⟨_, hm_oi hx, aR (A 20), rfl, ?_⟩
    refine ⟨_, _, _, _, (m_at hF htr (s := s) (i := i)), Nat.le_refl _, Nat.le_refl _, mki_ (r := some (aI ((256 * s) + i))) ?_, fun _ _ q => q.elim⟩
    refine ⟨512, _, _, hm_a hx 20 rfl, by omega, trivial, hm_pi hx (i := (mj s i)) (v := 1) rfl rfl rfl rfl, ?_⟩
    have hV4 := hV1.u (f := 20) (k := (mj s i)) (v := 1) (show 0 ≤ 1 ∧ 1 ≤ 3 from by omega)
    exact ⟨(Or.inr rfl), mRetIP (P := fun r m => r = 1 → m 49 0 ≤ 1200) (by unfold v_endAlone; rw [if_pos e3]) (by unfold s_endAlone; rw [if_pos e3]) hV4 (fun (q : 1 = 1) => by first | assumption | omega), Nat.le_refl _, Nat.le_refl _⟩
  · exact ⟨(Or.inl rfl), mRetIP (P := fun r m => r = 1 → m 49 0 ≤ 1200) (by unfold v_endAlone; rw [if_neg e3]) (by unfold s_endAlone; rw [if_neg e3]) hV1 (fun (q : 0 = 1) => by first | assumption | omega), Nat.le_refl _, Nat.le_refl _⟩
set_option maxRecDepth 100000 in
theorem s_endAlone_fr {f kk : Nat} {s i r : Int} (hf : [20, 48].elem f = false) : s_endAlone μ s i r f kk = μ f kk := by
  have n20 : f ≠ 20 := by rintro rfl; exact absurd hf (by decide)
  have n48 : f ≠ 48 := by rintro rfl; exact absurd hf (by decide)
  have f20 : ∀ (m : Nat → Nat → Int) (a b : Nat) (v : Int), u2 m 20 a v f b = m f b := fun m a b v => u2_f n20
  have f48 : ∀ (m : Nat → Nat → Int) (a b : Nat) (v : Int), u2 m 48 a v f b = m f b := fun m a b v => u2_f n48
  unfold s_endAlone
  repeat' with_reducible apply f_ite
  all_goals first | rfl | simp only [f20, f48]
set_option maxRecDepth 100000 in
theorem v_endAlone_b (μ : Nat → Nat → Int) (s i r : Int) : 0 ≤ v_endAlone μ s i r ∧ v_endAlone μ s i r ≤ 1 := by
  unfold v_endAlone
  repeat' with_reducible apply b_ite
  all_goals decide
end MR7
