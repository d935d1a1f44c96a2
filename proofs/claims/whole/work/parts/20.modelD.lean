section MDD
variable {L : Launch} {G : mmG} {A : Nat → Nat} {ax : Nat → Option Nat} {h0 h : mmH} {μ : Nat → Nat → Int}
set_option maxRecDepth 100000 in
theorem m_written (hF : mm_F G) (htr : L.stackTraces = false) (hx : mx A ax) (hT : mT μ) (hN : mTotOk μ) {s i : Int} (h1 : 0 ≤ s) (h2 : s ≤ 1) (h3 : -2147483648 ≤ i) (h4 : i < 2147483648) :
    mm_Met L G SX6_written [.ref (A 99), .int (iI s), .int (iI i)] (hm G A ax h0 μ) 0 0 (mRet (some (.int (iI (mCnt μ s i (-1) (mTot μ s))))) (hm G A ax h0 μ)) mm_no := by
  refine mm_meth MX6_written 150 hF htr okX6_written (by decide +kernel) (Nat.le_of_ble_eq_true rfl) cmX6_written (fun θ hc => ?_)
  refine ⟨⟨_, hm_o hx⟩, _, _, _, _, m_count hF htr hx hT hN (st := -1) h1 h2 h3 h4 (by omega) (by omega), Nat.le_refl _, Nat.le_refl _, mk_ ?_, fun _ _ q => q.elim⟩
  exact ⟨⟨rfl, rfl⟩, Nat.le_refl _, Nat.le_refl _⟩
set_option maxRecDepth 100000 in
theorem m_sent (hF : mm_F G) (htr : L.stackTraces = false) (hx : mx A ax) (hT : mT μ) (hN : mTotOk μ) {s i : Int} (h1 : 0 ≤ s) (h2 : s ≤ 1) (h3 : -2147483648 ≤ i) (h4 : i < 2147483648) :
    mm_Met L G SX6_sent [.ref (A 99), .int (iI s), .int (iI i)] (hm G A ax h0 μ) 0 0 (mRet (some (.int (iI (mCnt μ s i (-2) (mTot μ s))))) (hm G A ax h0 μ)) mm_no := by
  refine mm_meth MX6_sent 150 hF htr okX6_sent (by decide +kernel) (Nat.le_of_ble_eq_true rfl) cmX6_sent (fun θ hc => ?_)
  refine ⟨⟨_, hm_o hx⟩, _, _, _, _, m_count hF htr hx hT hN (st := -2) h1 h2 h3 h4 (by omega) (by omega), Nat.le_refl _, Nat.le_refl _, mk_ ?_, fun _ _ q => q.elim⟩
  exact ⟨⟨rfl, rfl⟩, Nat.le_refl _, Nat.le_refl _⟩
/-- how many of the first n bytes of a side are sent -/
def mAll (μ : Nat → Nat → Int) (s : Int) : Nat → Int
  | 0 => 0
  | n + 1 => mAll μ s n + b2 (¬ μ 39 ((65536 * s).toNat + n) = 0)
theorem mAll_b (s : Int) (n : Nat) : 0 ≤ mAll μ s n ∧ mAll μ s n ≤ n := by
  induction n with
  | zero => exact ⟨Int.le_refl _, Int.le_refl _⟩
  | succ n ih => rcases b2_01 (¬ μ 39 ((65536 * s).toNat + n) = 0) with q | q <;> simp only [mAll, q] <;> omega
set_option maxRecDepth 100000 in
theorem m_allSent (hF : mm_F G) (htr : L.stackTraces = false) (hx : mx A ax) (hT : mT μ) (hN : mTotOk μ) {s : Int} (h1 : 0 ≤ s) (h2 : s ≤ 1) :
    mm_Met L G SX6_allSent [.ref (A 99), .int (iI s)] (hm G A ax h0 μ) 0 0 (mRet (some (.int (iI (mAll μ s (mTot μ s))))) (hm G A ax h0 μ)) mm_no := by
  refine mm_meth MX6_allSent 150 hF htr okX6_allSent (by decide +kernel) (Nat.le_of_ble_eq_true rfl) cmX6_allSent (fun θ hc => ?_)
  have hN0 := hN s.toNat (by omega)
  have hmt : mTot μ s ≤ 65536 := by unfold mTot; omega
  have hlim : Int32.ofNat 65536 * iI s + iI (μ 36 (iI s).toNatClampNeg) = iI (65536 * s + mTot μ s) := by
    rw [nat_c, iI_mul, iI_ix (by omega) (by omega), iI_add]
    unfold mTot
    congr 1
    omega
  have loop : ∀ (d m : Nat), m + d = mTot μ s → mm_W L G MX6_allSent 0 0 (mRet (some (.int (iI (mAll μ s (mTot μ s))))) (hm G A ax h0 μ)) mm_no θ 6 [(3, .int (iI (65536 * s + m))), (2, .int (iI (mAll μ s m))), (0, .ref (A 99)), (1, .int (iI s))] [] (hm G A ax h0 μ) 0 0 := by
    intro d
    induction d with
    | zero =>
      intro m hmd
      refine mm_sound hc okX6_allSent 60 _ _ _ _ _ _ ?_
      refine ⟨_, hm_o hx, ?_⟩
      refine ⟨_, _, hm_a hx 36 rfl, iI_in (n := 2) (by omega) (by omega) (by omega), ?_⟩
      obtain rfl : m = mTot μ s := by omega
      refine ⟨fun e => ?_, fun e => ?_⟩
      · exact ⟨⟨rfl, rfl⟩, Nat.le_refl _, Nat.le_refl _⟩
      · exact absurd (by rw [hlim]; exact Int32.le_refl _) e
    | succ d ih =>
      intro m hmd
      refine mm_sound hc okX6_allSent 60 _ _ _ _ _ _ ?_
      refine ⟨_, hm_o hx, ?_⟩
      refine ⟨_, _, hm_a hx 36 rfl, iI_in (n := 2) (by omega) (by omega) (by omega), ?_⟩
      have hcm := mAll_b (μ := μ) s m
      have hix : (iI (65536 * s + m)).toNatClampNeg = (65536 * s).toNat + m := by rw [iI_ix (by omega) (by omega)]; omega
      have hvi : vp_in (iI (65536 * s + m)) 131072 := iI_in (by omega) (by omega) (by omega)
      have hmi := hT.i (f := 39) ((65536 * s).toNat + m) rfl
      have hinc : iI (65536 * s + m) + Int32.ofInt 1 = iI (65536 * s + ((m + 1 : Nat) : Int)) := by rw [iI_add]; congr 1; omega
      have go : ∀ c : Int, mAll μ s (m + 1) = mAll μ s m + c → mm_W L G MX6_allSent 0 0 (mRet (some (.int (iI (mAll μ s (mTot μ s))))) (hm G A ax h0 μ)) mm_no θ 6 [(3, .int (iI (65536 * s + m) + Int32.ofInt 1)), (2, .int (iI (mAll μ s m) + iI c)), (0, .ref (A 99)), (1, .int (iI s))] [] (hm G A ax h0 μ) 0 0 := by
        intro c hcc
        rw [hinc, iI_add (mAll μ s m), ← hcc]
        exact ih (m + 1) (by omega)
      refine ⟨fun e => ?_, fun e => ?_⟩
      · dsimp only [mm_cond, mm_ncond] at e
        rw [hlim, iI_le (by omega) (by omega) (by omega) (by omega)] at e
        omega
      · refine ⟨_, hm_o hx, ?_⟩
        refine ⟨_, _, hm_a hx 39 rfl, hvi, ?_⟩
        refine ⟨fun e1 => ?_, fun e1 => ?_⟩
        · dsimp only [mm_cond, mm_ncond] at e1
          rw [hix, iI_eqz (by omega) (by omega)] at e1
          exact go 0 (by rw [mAll, b2_f (by omega)])
        · dsimp only [mm_cond, mm_ncond] at e1
          rw [hix, iI_eqz (by omega) (by omega)] at e1
          exact go 1 (by rw [mAll, b2_t e1])
  have h9 := loop (mTot μ s) 0 (by omega)
  have e9 : Int32.ofNat 65536 * iI s = iI (65536 * s + ((0 : Nat) : Int)) := by rw [nat_c, iI_mul]; congr 1; omega
  rw [← e9] at h9
  exact h9
/-- the state of a sending part -/
def mSend (μ : Nat → Nat → Int) (s i : Int) : Int := if 0 < μ 21 (mj s i) then 2 + μ 21 (mj s i) else if μ 19 (mj s i) = 0 then 0 else if μ 20 (mj s i) = 3 ∧ mCnt μ s i 3 (mTot μ s) = mCnt μ s i (-1) (mTot μ s) then 2 else 1
set_option maxRecDepth 100000 in
theorem m_sending (hF : mm_F G) (htr : L.stackTraces = false) (hx : mx A ax) (hT : mT μ) (hN : mTotOk μ) {s i : Int} (h1 : 0 ≤ s) (h2 : s ≤ 1) (h3 : 0 ≤ i) (h4 : i < 256) :
    mm_Met L G SX6_sending [.ref (A 99), .int (iI s), .int (iI i)] (hm G A ax h0 μ) 0 0 (mRet (some (.int (iI (mSend μ s i)))) (hm G A ax h0 μ)) mm_no := by
  refine mm_meth MX6_sending 150 hF htr okX6_sending (by decide +kernel) (Nat.le_of_ble_eq_true rfl) cmX6_sending (fun θ hc => ?_)
  have hN0 := hN s.toNat (by omega)
  have hmt : mTot μ s ≤ 65536 := by unfold mTot; omega
  have i21 := hT.i (f := 21) (mj s i) rfl
  have i20 := hT.i (f := 20) (mj s i) rfl
  have i19 := hT.b (f := 19) (mj s i) rfl
  have c3 := mCnt_b (μ := μ) s i 3 (mTot μ s)
  have c1 := mCnt_b (μ := μ) s i (-1) (mTot μ s)
  have hj := mj_ix h1 h2 h3 h4
  have hi := mj_in h1 h2 h3 h4
  refine ⟨_, _, _, _, m_at hF htr, Nat.le_refl _, Nat.le_refl _, mk_ ?_, fun _ _ q => q.elim⟩
  refine ⟨_, hm_o hx, ?_⟩
  refine ⟨_, _, hm_a hx 21 rfl, hi, ?_⟩
  refine ⟨fun e => ?_, fun e => ?_⟩
  · dsimp only [mm_cond, mm_ncond] at e
    rw [hj, iI_lez (by omega) (by omega)] at e
    refine ⟨_, hm_o hx, ?_⟩
    refine ⟨_, _, hm_a hx 19 rfl, hi, ?_⟩
    refine ⟨fun e1 => ?_, fun e1 => ?_⟩
    · dsimp only [mm_cond, mm_ncond] at e1
      rw [hj, iI_eqz (by omega) (by omega)] at e1
      refine ⟨_, hm_o hx, ?_⟩
      refine ⟨_, _, hm_a hx 20 rfl, hi, ?_⟩
      refine ⟨fun e2 => ?_, fun e2 => ?_⟩
      · dsimp only [mm_cond, mm_ncond] at e2
        rw [hj, iI_eq (b := 3) (by omega) (by omega) (by omega) (by omega)] at e2
        exact ⟨⟨by unfold mSend; rw [if_neg (by omega), if_neg e1, if_neg (fun q => e2 q.1)], rfl⟩, Nat.le_refl _, Nat.le_refl _⟩
      · dsimp only [mm_cond, mm_ncond] at e2
        rw [hj, iI_eq (b := 3) (by omega) (by omega) (by omega) (by omega)] at e2
        refine ⟨⟨_, hm_o hx⟩, _, _, _, _, m_count hF htr hx hT hN (st := 3) h1 h2 (by omega) (by omega) (by omega) (by omega), Nat.le_refl _, Nat.le_refl _, mk_ ?_, fun _ _ q => q.elim⟩
        refine ⟨⟨_, hm_o hx⟩, _, _, _, _, m_written hF htr hx hT hN h1 h2 (by omega) (by omega), Nat.le_refl _, Nat.le_refl _, mk_ ?_, fun _ _ q => q.elim⟩
        refine ⟨fun e3 => ?_, fun e3 => ?_⟩
        · dsimp only [mm_cond, mm_ncond] at e3
          rw [iI_eq (by omega) (by omega) (by omega) (by omega)] at e3
          exact ⟨⟨by unfold mSend; rw [if_neg (by omega), if_neg e1, if_neg (fun q => e3 q.2)], rfl⟩, Nat.le_refl _, Nat.le_refl _⟩
        · dsimp only [mm_cond, mm_ncond] at e3
          rw [iI_eq (by omega) (by omega) (by omega) (by omega)] at e3
          exact ⟨⟨by unfold mSend; rw [if_neg (by omega), if_neg e1, if_pos ⟨e2, e3⟩], rfl⟩, Nat.le_refl _, Nat.le_refl _⟩
    · dsimp only [mm_cond, mm_ncond] at e1
      rw [hj, iI_eqz (by omega) (by omega)] at e1
      exact ⟨⟨by unfold mSend; rw [if_neg (by omega), if_pos e1], rfl⟩, Nat.le_refl _, Nat.le_refl _⟩
  · dsimp only [mm_cond, mm_ncond] at e
    rw [hj, iI_lez (by omega) (by omega)] at e
    refine ⟨_, hm_o hx, ?_⟩
    refine ⟨_, _, hm_a hx 21 rfl, hi, ?_⟩
    exact ⟨⟨by unfold mSend; rw [if_pos (by omega), hj]; exact congrArg (fun q => some (Value.int q)) (iI_add 2 _), rfl⟩, Nat.le_refl _, Nat.le_refl _⟩
set_option maxRecDepth 100000 in
theorem m_isOpenSending (hF : mm_F G) (htr : L.stackTraces = false) (hx : mx A ax) (hT : mT μ) (hN : mTotOk μ) {s i : Int} (h1 : 0 ≤ s) (h2 : s ≤ 1) (h3 : -2147483648 ≤ i) (h4 : i < 2147483648) (h5 : μ 21 (mj s i) ≤ 2) :
    mm_Met L G SX6_isOpenSending [.ref (A 99), .int (iI s), .int (iI i)] (hm G A ax h0 μ) 0 0 (mRet (some (.int (iI (b2 (((0 ≤ i ∧ i < 256 ∧ μ 17 (mj s i) = 1) ∧ (i / 2 % 2 = 0 ∨ i % 2 = s)) ∧ mSend μ s i < 2))))) (hm G A ax h0 μ)) mm_no := by
  refine mm_meth MX6_isOpenSending 150 hF htr okX6_isOpenSending (by decide +kernel) (Nat.le_of_ble_eq_true rfl) cmX6_isOpenSending (fun θ hc => ?_)
  have i21 := hT.i (f := 21) (mj s i) rfl
  refine ⟨⟨_, hm_o hx⟩, _, _, _, _, m_hasSending hF htr hx hT h1 h2 h3 h4, Nat.le_refl _, Nat.le_refl _, mk_ ?_, fun _ _ q => q.elim⟩
  refine ⟨fun e => ?_, fun e => ?_⟩
  · have e := b2_z.mp e
    exact ⟨Or.inl rfl, ⟨by rw [b2_f (fun q => e q.1)], rfl⟩, Nat.le_refl _, Nat.le_refl _⟩
  · have e : (0 ≤ i ∧ i < 256 ∧ μ 17 (mj s i) = 1) ∧ (i / 2 % 2 = 0 ∨ i % 2 = s) := Decidable.byContradiction fun q => e (b2_z.mpr q)
    refine ⟨⟨_, hm_o hx⟩, _, _, _, _, m_sending hF htr hx hT hN h1 h2 (by omega) (by omega), Nat.le_refl _, Nat.le_refl _, mk_ ?_, fun _ _ q => q.elim⟩
    have hs : -2147483648 ≤ mSend μ s i ∧ mSend μ s i < 2147483648 := by unfold mSend; split <;> (try split) <;> (try split) <;> omega
    refine ⟨fun e2 => ?_, fun e2 => ?_⟩
    · dsimp only [mm_cond, mm_ncond] at e2
      rw [iI_le (a := 2) (by omega) (by omega) (by omega) (by omega)] at e2
      exact ⟨Or.inl rfl, ⟨by rw [b2_f (fun q => by omega)], rfl⟩, Nat.le_refl _, Nat.le_refl _⟩
    · dsimp only [mm_cond, mm_ncond] at e2
      rw [iI_le (a := 2) (by omega) (by omega) (by omega) (by omega)] at e2
      exact ⟨Or.inr rfl, ⟨by rw [b2_t ⟨e, by omega⟩], rfl⟩, Nat.le_refl _, Nat.le_refl _⟩
end MDD
