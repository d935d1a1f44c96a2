section MDB
variable {L : Launch} {G : mmG} {A : Nat → Nat} {ax : Nat → Option Nat} {h0 h : mmH} {μ : Nat → Nat → Int}
/-- the place of a stream on a side -/
def mj (s i : Int) : Nat := (256 * s + i).toNat
theorem mj_ix {s i : Int} (h1 : 0 ≤ s) (h2 : s ≤ 1) (h3 : 0 ≤ i) (h4 : i < 256) : (iI (256 * s + i)).toNatClampNeg = mj s i := iI_ix (by omega) (by omega)
theorem mj_in {s i : Int} (h1 : 0 ≤ s) (h2 : s ≤ 1) (h3 : 0 ≤ i) (h4 : i < 256) : vp_in (iI (256 * s + i)) 512 := iI_in (by omega) (by omega) (by omega)
/-- what kinds of numbers the fields hold -/
def mBool (f : Nat) : Bool := f == 1 || mf_ty f == 4
def mLong (f : Nat) : Bool := f == 46 || (f == 47 || (f == 48 || mf_ty f == 1))
def mB8 (f : Nat) : Bool := mf_ty f == 2
def mT (μ : Nat → Nat → Int) : Prop := ∀ f k, (mBool f = true → μ f k = 0 ∨ μ f k = 1) ∧ (mLong f = false → -2147483648 ≤ μ f k ∧ μ f k < 2147483648) ∧ (-4611686018427387904 ≤ μ f k ∧ μ f k ≤ 4611686018427387904) ∧ (mB8 f = true → -128 ≤ μ f k ∧ μ f k < 128)
theorem mT.y {f : Nat} (h : mT μ) (k : Nat) (hf : mB8 f = true) : -128 ≤ μ f k ∧ μ f k < 128 := (h f k).2.2.2 hf
theorem mT.b {f : Nat} (h : mT μ) (k : Nat) (hf : mBool f = true) : μ f k = 0 ∨ μ f k = 1 := (h f k).1 hf
theorem mT.i {f : Nat} (h : mT μ) (k : Nat) (hf : mLong f = false) : -2147483648 ≤ μ f k ∧ μ f k < 2147483648 := (h f k).2.1 hf
theorem mT.l (h : mT μ) (f k : Nat) : -4611686018427387904 ≤ μ f k ∧ μ f k ≤ 4611686018427387904 := (h f k).2.2.1
def mThere (μ : Nat → Nat → Int) (s i : Int) : Prop := 0 ≤ i ∧ i < 256 ∧ μ 17 (mj s i) = 1
/-- who sends, who gets -/
def mSends (s i : Int) : Prop := i / 2 % 2 = 0 ∨ i % 2 = s
def mGets (s i : Int) : Prop := i / 2 % 2 = 0 ∨ ¬ i % 2 = s
set_option maxRecDepth 100000 in
theorem m_isThere (hF : mm_F G) (htr : L.stackTraces = false) (hx : mx A ax) (hT : mT μ) {s i : Int} (h1 : 0 ≤ s) (h2 : s ≤ 1) (h3 : -2147483648 ≤ i) (h4 : i < 2147483648) :
    mm_Met L G SX6_isThere [.ref (A 99), .int (iI s), .int (iI i)] (hm G A ax h0 μ) 0 0 (fun r h1 => r = some (.int (iI (b2 (0 ≤ i ∧ i < 256 ∧ μ 17 (mj s i) = 1)))) ∧ h1 = hm G A ax h0 μ) mm_no := by
  refine mm_meth MX6_isThere 100 hF htr okX6_isThere (by decide +kernel) (Nat.le_of_ble_eq_true rfl) cmX6_isThere (fun θ hc => ?_)
  refine ⟨fun e => ?_, fun e => ?_⟩
  · have e := (iI_ltz h3 h4).mp e
    exact ⟨Or.inl rfl, ⟨by rw [b2_f (by omega)], rfl⟩, Nat.le_refl _, Nat.le_refl _⟩
  · have e : ¬ i < 0 := fun q => e ((iI_ltz h3 h4).mpr q)
    refine ⟨fun e2 => ?_, fun e2 => ?_⟩
    · have e2 := (iI_le (a := 256) (by omega) (by omega) h3 h4).mp e2
      exact ⟨Or.inl rfl, ⟨by rw [b2_f (by omega)], rfl⟩, Nat.le_refl _, Nat.le_refl _⟩
    · have e2 : ¬ 256 ≤ i := fun q => e2 ((iI_le (a := 256) (by omega) (by omega) h3 h4).mpr q)
      refine ⟨_, hm_o hx, ?_⟩
      refine ⟨0, 0, _, _, m_at hF htr, Nat.le_refl _, Nat.le_refl _, ?_, fun _ _ q => q.elim⟩
      rintro _ _ ⟨rfl, rfl⟩
      refine ⟨_, _, hm_a hx 17 rfl, mj_in h1 h2 (by omega) (by omega), ?_⟩
      have hb := hT.b (f := 17) (mj s i) rfl
      refine ⟨fun e3 => ?_, fun e3 => ?_⟩
      · rw [mj_ix h1 h2 (by omega) (by omega)] at e3
        have e3 := (iI_eqz (by omega) (by omega)).mp e3
        exact ⟨Or.inl rfl, ⟨by rw [b2_f (by omega)], rfl⟩, Nat.le_refl _, Nat.le_refl _⟩
      · rw [mj_ix h1 h2 (by omega) (by omega)] at e3
        have e3 : ¬ μ 17 (mj s i) = 0 := fun q => e3 ((iI_eqz (by omega) (by omega)).mpr q)
        exact ⟨Or.inr rfl, ⟨by rw [b2_t (by omega)], rfl⟩, Nat.le_refl _, Nat.le_refl _⟩
/-- a method's answer and the heap behind it -/
def mRet (v : Option Value) (h' : mmH) : Option Value → mmH → Prop := fun r h1 => r = v ∧ h1 = h'
theorem mk_ {v : Option Value} {h' : mmH} {Q : Option Value → mmH → Prop} (k : Q v h') : ∀ r h1, mRet v h' r h1 → Q r h1 := by
  rintro _ _ ⟨rfl, rfl⟩
  exact k
theorem nat_c : Int32.ofNat 65536 = iI 65536 := rfl
set_option maxRecDepth 100000 in
theorem m_hasSending (hF : mm_F G) (htr : L.stackTraces = false) (hx : mx A ax) (hT : mT μ) {s i : Int} (h1 : 0 ≤ s) (h2 : s ≤ 1) (h3 : -2147483648 ≤ i) (h4 : i < 2147483648) :
    mm_Met L G SX6_hasSending [.ref (A 99), .int (iI s), .int (iI i)] (hm G A ax h0 μ) 0 0 (mRet (some (.int (iI (b2 ((0 ≤ i ∧ i < 256 ∧ μ 17 (mj s i) = 1) ∧ (i / 2 % 2 = 0 ∨ i % 2 = s)))))) (hm G A ax h0 μ)) mm_no := by
  refine mm_meth MX6_hasSending 100 hF htr okX6_hasSending (by decide +kernel) (Nat.le_of_ble_eq_true rfl) cmX6_hasSending (fun θ hc => ?_)
  refine ⟨⟨_, hm_o hx⟩, _, _, _, _, (m_isThere hF htr hx hT h1 h2 h3 h4), Nat.le_refl _, Nat.le_refl _, mk_ ?_, fun _ _ q => q.elim⟩
  refine ⟨fun e => ?_, fun e => ?_⟩
  · have e := b2_z.mp e
    exact ⟨Or.inl rfl, ⟨by rw [b2_f (fun q => e q.1)], rfl⟩, Nat.le_refl _, Nat.le_refl _⟩
  · have e : 0 ≤ i ∧ i < 256 ∧ μ 17 (mj s i) = 1 := Decidable.byContradiction fun q => e (b2_z.mpr q)
    have hs := m_sends (L := L) (h := hm G A ax h0 μ) hF htr (a := i) (s := s) (by omega) (by omega) (by omega) (by omega)
    rw [← iI_l h3 h4] at hs
    refine ⟨_, _, _, _, hs, Nat.le_refl _, Nat.le_refl _, mk_ ?_, fun _ _ q => q.elim⟩
    refine ⟨fun e2 => ?_, fun e2 => ?_⟩
    · have e2 := b2_z.mp e2
      exact ⟨Or.inl rfl, ⟨by rw [b2_f (fun q => e2 q.2)], rfl⟩, Nat.le_refl _, Nat.le_refl _⟩
    · have e2 : i / 2 % 2 = 0 ∨ i % 2 = s := Decidable.byContradiction fun q => e2 (b2_z.mpr q)
      exact ⟨Or.inr rfl, ⟨by rw [b2_t ⟨e, e2⟩], rfl⟩, Nat.le_refl _, Nat.le_refl _⟩
set_option maxRecDepth 100000 in
theorem m_hasReceiving (hF : mm_F G) (htr : L.stackTraces = false) (hx : mx A ax) (hT : mT μ) {s i : Int} (h1 : 0 ≤ s) (h2 : s ≤ 1) (h3 : -2147483648 ≤ i) (h4 : i < 2147483648) :
    mm_Met L G SX6_hasReceiving [.ref (A 99), .int (iI s), .int (iI i)] (hm G A ax h0 μ) 0 0 (mRet (some (.int (iI (b2 ((0 ≤ i ∧ i < 256 ∧ μ 17 (mj s i) = 1) ∧ (i / 2 % 2 = 0 ∨ ¬ i % 2 = s)))))) (hm G A ax h0 μ)) mm_no := by
  refine mm_meth MX6_hasReceiving 100 hF htr okX6_hasReceiving (by decide +kernel) (Nat.le_of_ble_eq_true rfl) cmX6_hasReceiving (fun θ hc => ?_)
  refine ⟨⟨_, hm_o hx⟩, _, _, _, _, (m_isThere hF htr hx hT h1 h2 h3 h4), Nat.le_refl _, Nat.le_refl _, mk_ ?_, fun _ _ q => q.elim⟩
  refine ⟨fun e => ?_, fun e => ?_⟩
  · have e := b2_z.mp e
    exact ⟨Or.inl rfl, ⟨by rw [b2_f (fun q => e q.1)], rfl⟩, Nat.le_refl _, Nat.le_refl _⟩
  · have e : 0 ≤ i ∧ i < 256 ∧ μ 17 (mj s i) = 1 := Decidable.byContradiction fun q => e (b2_z.mpr q)
    have hs := m_receives (L := L) (h := hm G A ax h0 μ) hF htr (a := i) (s := s) (by omega) (by omega) (by omega) (by omega)
    rw [← iI_l h3 h4] at hs
    refine ⟨_, _, _, _, hs, Nat.le_refl _, Nat.le_refl _, mk_ ?_, fun _ _ q => q.elim⟩
    refine ⟨fun e2 => ?_, fun e2 => ?_⟩
    · have e2 := b2_z.mp e2
      exact ⟨Or.inl rfl, ⟨by rw [b2_f (fun q => e2 q.2)], rfl⟩, Nat.le_refl _, Nat.le_refl _⟩
    · have e2 : i / 2 % 2 = 0 ∨ ¬ i % 2 = s := Decidable.byContradiction fun q => e2 (b2_z.mpr q)
      exact ⟨Or.inr rfl, ⟨by rw [b2_t ⟨e, e2⟩], rfl⟩, Nat.le_refl _, Nat.le_refl _⟩
/-- which grant is for a stream on a side -/
def mg (s i : Int) : Int := 16 * s + (if i / 2 % 2 = 1 then 7 else if i % 2 = s then 5 else 6)
set_option maxRecDepth 100000 in
theorem m_grantOf (hF : mm_F G) (htr : L.stackTraces = false) (hx : mx A ax) {s i : Int} (h1 : 0 ≤ s) (h2 : s ≤ 1) (h3 : 0 ≤ i) (h4 : i < 256) :
    mm_Met L G SX6_grantOf [.ref (A 99), .int (iI s), .int (iI i)] (hm G A ax h0 μ) 0 0 (mRet (some (.int (iI (μ 6 (mg s i).toNat)))) (hm G A ax h0 μ)) mm_no := by
  refine mm_meth MX6_grantOf 100 hF htr okX6_grantOf (by decide +kernel) (Nat.le_of_ble_eq_true rfl) cmX6_grantOf (fun θ hc => ?_)
  have hw := m_wayOf (L := L) (h := hm G A ax h0 μ) hF htr (a := i) (by omega) (by omega)
  rw [← iI_l (by omega) (by omega)] at hw
  have ho := m_opens (L := L) (h := hm G A ax h0 μ) hF htr (a := i) (s := s) (by omega) (by omega) (by omega) (by omega)
  rw [← iI_l (by omega) (by omega)] at ho
  have fin : ∀ c : Int, 0 ≤ c → c < 16 → mg s i = 16 * s + c → vp_in (iI 16 * iI s + iI c) 32 ∧ (iI 16 * iI s + iI c).toNatClampNeg = (mg s i).toNat := by
    intro c c1 c2 e
    rw [iI_mul, iI_add, ← e]
    exact ⟨iI_in (by omega) (by omega) (by omega), iI_ix (by omega) (by omega)⟩
  refine ⟨_, hm_o hx, ?_⟩
  refine ⟨_, _, _, _, hw, Nat.le_refl _, Nat.le_refl _, mk_ ?_, fun _ _ q => q.elim⟩
  refine ⟨fun e => ?_, fun e => ?_⟩
  · have e : ¬ i / 2 % 2 = 1 := fun q => e ((iI_eq (b := 1) (by omega) (by omega) (by omega) (by omega)).mpr q)
    refine ⟨_, _, _, _, ho, Nat.le_refl _, Nat.le_refl _, mk_ ?_, fun _ _ q => q.elim⟩
    refine ⟨fun e2 => ?_, fun e2 => ?_⟩
    · have e2 := b2_z.mp e2
      obtain ⟨f1, f2⟩ := fin 6 (by omega) (by omega) (by unfold mg; rw [if_neg e, if_neg e2])
      exact ⟨_, _, hm_a hx 6 rfl, f1, ⟨congrArg (fun k => some (Value.int (iI (μ 6 k)))) f2, rfl⟩, Nat.le_refl _, Nat.le_refl _⟩
    · have e2 : i % 2 = s := Decidable.byContradiction fun q => e2 (b2_z.mpr q)
      obtain ⟨f1, f2⟩ := fin 5 (by omega) (by omega) (by unfold mg; rw [if_neg e, if_pos e2])
      exact ⟨_, _, hm_a hx 6 rfl, f1, ⟨congrArg (fun k => some (Value.int (iI (μ 6 k)))) f2, rfl⟩, Nat.le_refl _, Nat.le_refl _⟩
  · have e := (iI_eq (b := 1) (by omega) (by omega) (by omega) (by omega)).mp e
    obtain ⟨f1, f2⟩ := fin 7 (by omega) (by omega) (by unfold mg; rw [if_pos e])
    exact ⟨_, _, hm_a hx 6 rfl, f1, ⟨congrArg (fun k => some (Value.int (iI (μ 6 k)))) f2, rfl⟩, Nat.le_refl _, Nat.le_refl _⟩
set_option maxRecDepth 100000 in
theorem m_limitOf (hF : mm_F G) (htr : L.stackTraces = false) (hx : mx A ax) (hT : mT μ) {s i : Int} (h1 : 0 ≤ s) (h2 : s ≤ 1) (h3 : 0 ≤ i) (h4 : i < 256) :
    mm_Met L G SX6_limitOf [.ref (A 99), .int (iI s), .int (iI i)] (hm G A ax h0 μ) 0 0 (mRet (some (.long (iL (μ 6 (mg (1 - s) i).toNat)))) (hm G A ax h0 μ)) mm_no := by
  refine mm_meth MX6_limitOf 100 hF htr okX6_limitOf (by decide +kernel) (Nat.le_of_ble_eq_true rfl) cmX6_limitOf (fun θ hc => ?_)
  have hg := m_grantOf (L := L) (h0 := h0) hF htr hx (μ := μ) (s := 1 - s) (i := i) (by omega) (by omega) h3 h4
  rw [← iI_sub] at hg
  refine ⟨⟨_, hm_o hx⟩, _, _, _, _, hg, Nat.le_refl _, Nat.le_refl _, mk_ ?_, fun _ _ q => q.elim⟩
  have := hT.i (f := 6) (mg (1 - s) i).toNat rfl
  exact ⟨⟨by rw [iI_l (by omega) (by omega)], rfl⟩, Nat.le_refl _, Nat.le_refl _⟩
/-- a stream begins on a side -/
def mBegin (μ : Nat → Nat → Int) (s i : Int) : Nat → Nat → Int := u2 (u2 (u2 μ 17 (mj s i) 1) 30 (mj s i) (μ 6 (mg s i).toNat)) 18 (mj s i) (μ 6 (mg (1 - s) i).toNat)
theorem mT.u (hT : mT μ) {f k : Nat} {v : Int} (h1 : mBool f = true → v = 0 ∨ v = 1) (h2 : mLong f = false → -2147483648 ≤ v ∧ v < 2147483648) (h3 : -4611686018427387904 ≤ v ∧ v ≤ 4611686018427387904) (h4 : mB8 f = true → -128 ≤ v ∧ v < 128) : mT (u2 μ f k v) := by
  intro f' k'
  unfold u2
  split
  · rename_i h
    obtain ⟨rfl, rfl⟩ := h
    exact ⟨h1, h2, h3, h4⟩
  · exact hT f' k'
set_option maxRecDepth 100000 in
theorem m_begin (hF : mm_F G) (htr : L.stackTraces = false) (hx : mx A ax) (hT : mT μ) {s i : Int} (h1 : 0 ≤ s) (h2 : s ≤ 1) (h3 : 0 ≤ i) (h4 : i < 256) :
    mm_Met L G SX6_begin [.ref (A 99), .int (iI s), .int (iI i)] (hm G A ax h0 μ) 0 0 (mRet none (hm G A ax h0 (mBegin μ s i))) mm_no := by
  refine mm_meth MX6_begin 100 hF htr okX6_begin (by decide +kernel) (Nat.le_of_ble_eq_true rfl) cmX6_begin (fun θ hc => ?_)
  have hT1 : mT (u2 μ 17 (mj s i) 1) := hT.u (fun _ => Or.inr rfl) (fun _ => ⟨by omega, by omega⟩) ⟨by omega, by omega⟩ (fun q => by cases q)
  have hg := hT.i (f := 6) (mg s i).toNat rfl
  refine ⟨_, _, _, _, (m_at hF htr), Nat.le_refl _, Nat.le_refl _, mk_ ?_, fun _ _ q => q.elim⟩
  refine ⟨_, hm_o hx, ?_⟩
  refine ⟨_, _, hm_a hx 17 rfl, mj_in h1 h2 h3 h4, ?_⟩
  refine mm_rh (h' := hm G A ax h0 (u2 μ 17 (mj s i) 1)) (by rw [mj_ix h1 h2 h3 h4]; exact hm_put hx rfl (marr_I (f := 17) (v := 1) (by decide) rfl)) ?_
  refine ⟨_, hm_o hx, ?_⟩
  refine ⟨⟨_, hm_o hx⟩, _, _, _, _, (m_grantOf hF htr hx h1 h2 h3 h4), Nat.le_refl _, Nat.le_refl _, mk_ ?_, fun _ _ q => q.elim⟩
  refine ⟨_, _, hm_a hx 30 rfl, mj_in h1 h2 h3 h4, ?_⟩
  refine mm_rh (h' := hm G A ax h0 (u2 (u2 μ 17 (mj s i) 1) 30 (mj s i) (μ 6 (mg s i).toNat))) (by rw [mj_ix h1 h2 h3 h4, u2_f (by decide), iI_l (by omega) (by omega)]; exact hm_put hx rfl (marr_L rfl rfl)) ?_
  refine ⟨_, hm_o hx, ?_⟩
  have hT2 : mT (u2 (u2 μ 17 (mj s i) 1) 30 (mj s i) (μ 6 (mg s i).toNat)) := hT1.u (fun q => by cases q) (fun q => by cases q) ⟨by omega, by omega⟩ (fun q => by cases q)
  refine ⟨⟨_, hm_o hx⟩, _, _, _, _, (m_limitOf hF htr hx hT2 h1 h2 h3 h4), Nat.le_refl _, Nat.le_refl _, mk_ ?_, fun _ _ q => q.elim⟩
  refine ⟨_, _, hm_a hx 18 rfl, mj_in h1 h2 h3 h4, ?_⟩
  refine ⟨⟨rfl, ?_⟩, Nat.le_refl _, Nat.le_refl _⟩
  rw [mj_ix h1 h2 h3 h4, u2_f (by decide), u2_f (by decide)]
  exact hm_put hx rfl (marr_L rfl rfl)
end MDB
