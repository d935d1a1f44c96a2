section MDC
variable {L : Launch} {G : mmG} {A : Nat → Nat} {ax : Nat → Option Nat} {h0 h : mmH} {μ : Nat → Nat → Int}
/-- how many of the first n bytes that side s has written are stream i's and in the state st (-1: in any, -2: sent) -/
def mCnt (μ : Nat → Nat → Int) (s i st : Int) : Nat → Int
  | 0 => 0
  | n + 1 => mCnt μ s i st n + b2 (μ 37 ((65536 * s).toNat + n) = i ∧ (st = -1 ∨ μ 39 ((65536 * s).toNat + n) = st ∨ (st = -2 ∧ ¬ μ 39 ((65536 * s).toNat + n) = 0)))
theorem mCnt_b (s i st : Int) (n : Nat) : 0 ≤ mCnt μ s i st n ∧ mCnt μ s i st n ≤ n := by
  induction n with
  | zero => exact ⟨Int.le_refl _, Int.le_refl _⟩
  | succ n ih =>
    rcases b2_01 (μ 37 ((65536 * s).toNat + n) = i ∧ (st = -1 ∨ μ 39 ((65536 * s).toNat + n) = st ∨ (st = -2 ∧ ¬ μ 39 ((65536 * s).toNat + n) = 0))) with q | q <;> simp only [mCnt, q] <;> omega
/-- how many bytes a side has written -/
def mTot (μ : Nat → Nat → Int) (s : Int) : Nat := (μ 36 s.toNat).toNat
def mTotOk (μ : Nat → Nat → Int) : Prop := ∀ k, k < 2 → 0 ≤ μ 36 k ∧ μ 36 k ≤ 65536
set_option maxRecDepth 100000 in
theorem m_count (hF : mm_F G) (htr : L.stackTraces = false) (hx : mx A ax) (hT : mT μ) (hN : mTotOk μ) {s i st : Int} (h1 : 0 ≤ s) (h2 : s ≤ 1) (h3 : -2147483648 ≤ i) (h4 : i < 2147483648) (h5 : -2147483648 ≤ st) (h6 : st < 2147483648) :
    mm_Met L G SX6_count [.ref (A 99), .int (iI s), .int (iI i), .int (iI st)] (hm G A ax h0 μ) 0 0 (mRet (some (.int (iI (mCnt μ s i st (mTot μ s))))) (hm G A ax h0 μ)) mm_no := by
  refine mm_meth MX6_count 150 hF htr okX6_count (by decide +kernel) (Nat.le_of_ble_eq_true rfl) cmX6_count (fun θ hc => ?_)
  have hN0 := hN s.toNat (by omega)
  have loop : ∀ (d m : Nat), m + d = mTot μ s → mm_W L G MX6_count 0 0 (mRet (some (.int (iI (mCnt μ s i st (mTot μ s))))) (hm G A ax h0 μ)) mm_no θ 6 [(5, .int (iI (65536 * s + m))), (4, .int (iI (mCnt μ s i st m))), (0, .ref (A 99)), (1, .int (iI s)), (2, .int (iI i)), (3, .int (iI st))] [] (hm G A ax h0 μ) 0 0 := by
    intro d
    induction d with
    | zero =>
      intro m hmd
      refine mm_sound hc okX6_count 60 _ _ _ _ _ _ ?_
      refine ⟨_, hm_o hx, ?_⟩
      refine ⟨_, _, hm_a hx 36 rfl, iI_in (n := 2) (by omega) (by omega) (by omega), ?_⟩
      have hlim : Int32.ofNat 65536 * iI s + iI (μ 36 (iI s).toNatClampNeg) = iI (65536 * s + m) := by
        rw [nat_c, iI_mul, iI_ix (by omega) (by omega), iI_add]
        unfold mTot at hmd
        congr 1
        omega
      refine ⟨fun e => ?_, fun e => ?_⟩
      · have hmm : m = mTot μ s := by omega
        subst hmm
        exact ⟨⟨rfl, rfl⟩, Nat.le_refl _, Nat.le_refl _⟩
      · exact absurd (by rw [hlim]; exact Int32.le_refl _) e
    | succ d ih =>
      intro m hmd
      refine mm_sound hc okX6_count 60 _ _ _ _ _ _ ?_
      refine ⟨_, hm_o hx, ?_⟩
      refine ⟨_, _, hm_a hx 36 rfl, iI_in (n := 2) (by omega) (by omega) (by omega), ?_⟩
      have hcm := mCnt_b (μ := μ) s i st m
      have hmt : mTot μ s ≤ 65536 := by unfold mTot; omega
      have hlim : Int32.ofNat 65536 * iI s + iI (μ 36 (iI s).toNatClampNeg) = iI (65536 * s + mTot μ s) := by
        rw [nat_c, iI_mul, iI_ix (by omega) (by omega), iI_add]
        unfold mTot
        congr 1
        omega
      have hix : (iI (65536 * s + m)).toNatClampNeg = (65536 * s).toNat + m := by rw [iI_ix (by omega) (by omega)]; omega
      have hvi : vp_in (iI (65536 * s + m)) 131072 := iI_in (by omega) (by omega) (by omega)
      have hoi := hT.i (f := 37) ((65536 * s).toNat + m) rfl
      have hmi := hT.i (f := 39) ((65536 * s).toNat + m) rfl
      have hinc : iI (65536 * s + m) + Int32.ofInt 1 = iI (65536 * s + ((m + 1 : Nat) : Int)) := by rw [iI_add]; congr 1; omega
      have skip : ∀ c : Int, mCnt μ s i st (m + 1) = c → mm_W L G MX6_count 0 0 (mRet (some (.int (iI (mCnt μ s i st (mTot μ s))))) (hm G A ax h0 μ)) mm_no θ 6 [(5, .int (iI (65536 * s + m) + Int32.ofInt 1)), (4, .int (iI c)), (0, .ref (A 99)), (1, .int (iI s)), (2, .int (iI i)), (3, .int (iI st))] [] (hm G A ax h0 μ) 0 0 := by
        intro c hcc
        rw [hinc, ← hcc]
        exact ih (m + 1) (by omega)
      have yes : (μ 37 ((65536 * s).toNat + m) = i ∧ (st = -1 ∨ μ 39 ((65536 * s).toNat + m) = st ∨ (st = -2 ∧ ¬ μ 39 ((65536 * s).toNat + m) = 0))) → mCnt μ s i st (m + 1) = mCnt μ s i st m + 1 := fun q => by rw [mCnt, b2_t q]
      have no : ¬ (μ 37 ((65536 * s).toNat + m) = i ∧ (st = -1 ∨ μ 39 ((65536 * s).toNat + m) = st ∨ (st = -2 ∧ ¬ μ 39 ((65536 * s).toNat + m) = 0))) → mCnt μ s i st (m + 1) = mCnt μ s i st m := fun q => by rw [mCnt, b2_f q]; omega
      have yesW : (μ 37 ((65536 * s).toNat + m) = i ∧ (st = -1 ∨ μ 39 ((65536 * s).toNat + m) = st ∨ (st = -2 ∧ ¬ μ 39 ((65536 * s).toNat + m) = 0))) → mm_W L G MX6_count 0 0 (mRet (some (.int (iI (mCnt μ s i st (mTot μ s))))) (hm G A ax h0 μ)) mm_no θ 6 [(5, .int (iI (65536 * s + m) + Int32.ofInt 1)), (4, .int (iI (mCnt μ s i st m) + Int32.ofInt 1)), (0, .ref (A 99)), (1, .int (iI s)), (2, .int (iI i)), (3, .int (iI st))] [] (hm G A ax h0 μ) 0 0 := by
        intro q
        rw [iI_add (mCnt μ s i st m)]
        exact skip _ (yes q)
      refine ⟨fun e => ?_, fun e => ?_⟩
      · dsimp only [mm_cond, mm_ncond] at e
        rw [hlim, iI_le (by omega) (by omega) (by omega) (by omega)] at e
        omega
      · refine ⟨_, hm_o hx, ?_⟩
        refine ⟨_, _, hm_a hx 37 rfl, hvi, ?_⟩
        refine ⟨fun e1 => ?_, fun e1 => ?_⟩
        · dsimp only [mm_cond, mm_ncond] at e1
          rw [hix, iI_eq (by omega) (by omega) h3 h4] at e1
          exact skip _ (no (fun q => e1 q.1))
        · dsimp only [mm_cond, mm_ncond] at e1
          rw [hix, iI_eq (by omega) (by omega) h3 h4] at e1
          refine ⟨fun e2 => ?_, fun e2 => ?_⟩
          · dsimp only [mm_cond, mm_ncond] at e2
            rw [iI_eq (b := -1) h5 h6 (by omega) (by omega)] at e2
            exact yesW ⟨e1, Or.inl e2⟩
          · dsimp only [mm_cond, mm_ncond] at e2
            rw [iI_eq (b := -1) h5 h6 (by omega) (by omega)] at e2
            refine ⟨_, hm_o hx, ?_⟩
            refine ⟨_, _, hm_a hx 39 rfl, hvi, ?_⟩
            refine ⟨fun e3 => ?_, fun e3 => ?_⟩
            · dsimp only [mm_cond, mm_ncond] at e3
              rw [hix, iI_eq (by omega) (by omega) h5 h6] at e3
              exact yesW ⟨e1, Or.inr (Or.inl e3)⟩
            · dsimp only [mm_cond, mm_ncond] at e3
              rw [hix, iI_eq (by omega) (by omega) h5 h6] at e3
              refine ⟨fun e4 => ?_, fun e4 => ?_⟩
              · dsimp only [mm_cond, mm_ncond] at e4
                rw [iI_eq (b := -2) h5 h6 (by omega) (by omega)] at e4
                exact skip _ (no (fun q => by omega))
              · dsimp only [mm_cond, mm_ncond] at e4
                rw [iI_eq (b := -2) h5 h6 (by omega) (by omega)] at e4
                refine ⟨_, hm_o hx, ?_⟩
                refine ⟨_, _, hm_a hx 39 rfl, hvi, ?_⟩
                refine ⟨fun e5 => ?_, fun e5 => ?_⟩
                · dsimp only [mm_cond, mm_ncond] at e5
                  rw [hix, iI_eqz (by omega) (by omega)] at e5
                  exact skip _ (no (fun q => by omega))
                · dsimp only [mm_cond, mm_ncond] at e5
                  rw [hix, iI_eqz (by omega) (by omega)] at e5
                  exact yesW ⟨e1, Or.inr (Or.inr ⟨e4, e5⟩)⟩
  have h9 := loop (mTot μ s) 0 (by omega)
  have e9 : Int32.ofNat 65536 * iI s = iI (65536 * s + ((0 : Nat) : Int)) := by rw [nat_c, iI_mul]; congr 1; omega
  rw [← e9] at h9
  exact h9
end MDC
