section MDA
variable {L : Launch} {G : mmG} {A : Nat → Nat} {ax : Nat → Option Nat} {h0 h : mmH} {μ : Nat → Nat → Int}
set_option maxRecDepth 100000 in
theorem m_noSide (hF : mm_F G) (htr : L.stackTraces = false) {s : Int} (h1 : -2147483648 ≤ s) (h2 : s < 2147483648) :
    mm_Met L G SX6_noSide [.int (iI s)] h 0 0 (fun r h1 => r = some (.int (iI (b2 (s < 0 ∨ 1 < s)))) ∧ h1 = h) mm_no := by
  refine mm_meth MX6_noSide 100 hF htr okX6_noSide (by decide +kernel) (Nat.le_of_ble_eq_true rfl) cmX6_noSide (fun θ hc => ?_)
  refine ⟨fun e => ?_, fun e => ?_⟩
  · have e := (iI_ltz h1 h2).mp e
    exact ⟨Or.inr rfl, ⟨by rw [b2_t (Or.inl e)], rfl⟩, Nat.le_refl _, Nat.le_refl _⟩
  · have e : ¬ s < 0 := fun q => e ((iI_ltz h1 h2).mpr q)
    refine ⟨fun e2 => ?_, fun e2 => ?_⟩
    · have e2 := (iI_le (b := 1) h1 h2 (by omega) (by omega)).mp e2
      exact ⟨Or.inl rfl, ⟨by rw [b2_f (by omega)], rfl⟩, Nat.le_refl _, Nat.le_refl _⟩
    · have e2 : ¬ s ≤ 1 := fun q => e2 ((iI_le (b := 1) h1 h2 (by omega) (by omega)).mpr q)
      exact ⟨Or.inr rfl, ⟨by rw [b2_t (by omega)], rfl⟩, Nat.le_refl _, Nat.le_refl _⟩
set_option maxRecDepth 100000 in
theorem m_at (hF : mm_F G) (htr : L.stackTraces = false) {s i : Int} :
    mm_Met L G SX6_at [.int (iI s), .int (iI i)] h 0 0 (fun r h1 => r = some (.int (iI (256 * s + i))) ∧ h1 = h) mm_no := by
  refine mm_meth MX6_at 100 hF htr okX6_at (by decide +kernel) (Nat.le_of_ble_eq_true rfl) cmX6_at (fun θ hc => ?_)
  exact ⟨⟨by rw [show (Int32.ofInt 256 : Int32) = iI 256 from rfl, iI_mul, iI_add], rfl⟩, Nat.le_refl _, Nat.le_refl _⟩
set_option maxRecDepth 100000 in
/-- fails(bad, code): thrown is code or 0 -/
theorem m_fails (hF : mm_F G) (htr : L.stackTraces = false) (hx : mx A ax) {p : Prop} [Decidable p] {c : Int} :
    mm_Met L G SX6_fails [.ref (A 99), .int (iI (b2 p)), .int (iI c)] (hm G A ax h0 μ) 0 0 (fun r h1 => r = some (.int (iI (b2 p))) ∧ h1 = hm G A ax h0 (u2 μ 0 0 (if p then c else 0))) mm_no := by
  refine mm_meth MX6_fails 100 hF htr okX6_fails (by decide +kernel) (Nat.le_of_ble_eq_true rfl) cmX6_fails (fun θ hc => ?_)
  refine ⟨fun e => ?_, fun e => ?_⟩
  · have e : ¬ p := b2_z.mp e
    refine ⟨_, hm_o hx, trivial, ?_⟩
    refine ⟨(by rcases b2_01 p with q | q <;> rw [q] <;> decide), ⟨rfl, ?_⟩, Nat.le_refl _, Nat.le_refl _⟩
    rw [if_neg e]
    exact hm_putO hx rfl rfl
  · have e : p := by
      by_cases hp : p
      · exact hp
      · exact absurd (b2_z.mpr hp) e
    refine ⟨_, hm_o hx, trivial, ?_⟩
    refine ⟨(by rcases b2_01 p with q | q <;> rw [q] <;> decide), ⟨rfl, ?_⟩, Nat.le_refl _, Nat.le_refl _⟩
    rw [if_pos e]
    exact hm_putO hx rfl rfl
set_option maxRecDepth 100000 in
theorem m_wayOf (hF : mm_F G) (htr : L.stackTraces = false) {a : Int} (h1 : 0 ≤ a) (h2 : a < 4611686018427387904) :
    mm_Met L G SX6_wayOf [.long (iL a)] h 0 0 (fun r h1 => r = some (.int (iI (a / 2 % 2))) ∧ h1 = h) mm_no := by
  refine mm_meth MX6_wayOf 100 hF htr okX6_wayOf (by decide +kernel) (Nat.le_of_ble_eq_true rfl) cmX6_wayOf (fun θ hc => ?_)
  refine ⟨⟨?_, rfl⟩, Nat.le_refl _, Nat.le_refl _⟩
  show some (Value.int (((iL a >>> ((iI 1).toInt64 &&& 63)) &&& iL 1).toInt32)) = _
  rw [iL_shr1 h1 h2, iL_and1 (by omega) (by omega), iL_i]
set_option maxRecDepth 100000 in
theorem m_opens (hF : mm_F G) (htr : L.stackTraces = false) {a s : Int} (h1 : 0 ≤ a) (h2 : a < 4611686018427387904) (h3 : -2147483648 ≤ s) (h4 : s < 2147483648) :
    mm_Met L G SX6_opens [.int (iI s), .long (iL a)] h 0 0 (fun r h1 => r = some (.int (iI (b2 (a % 2 = s)))) ∧ h1 = h) mm_no := by
  refine mm_meth MX6_opens 100 hF htr okX6_opens (by decide +kernel) (Nat.le_of_ble_eq_true rfl) cmX6_opens (fun θ hc => ?_)
  have key : lg_cmp (iL a &&& iL 1) (iI s).toInt64 = 0 ↔ a % 2 = s := by
    rw [iL_and1 h1 h2, iI_l h3 h4]
    exact lc_eq (by omega) (by omega) (by omega) (by omega)
  refine ⟨fun e => ?_, fun e => ?_⟩
  · have e : ¬ a % 2 = s := fun q => e (key.mpr q)
    exact ⟨Or.inl rfl, ⟨by rw [b2_f e], rfl⟩, Nat.le_refl _, Nat.le_refl _⟩
  · have e : a % 2 = s := key.mp e
    exact ⟨Or.inr rfl, ⟨by rw [b2_t e], rfl⟩, Nat.le_refl _, Nat.le_refl _⟩
set_option maxRecDepth 100000 in
theorem m_sends (hF : mm_F G) (htr : L.stackTraces = false) {a s : Int} (h1 : 0 ≤ a) (h2 : a < 4611686018427387904) (h3 : -2147483648 ≤ s) (h4 : s < 2147483648) :
    mm_Met L G SX6_sends [.int (iI s), .long (iL a)] h 0 0 (fun r h1 => r = some (.int (iI (b2 (a / 2 % 2 = 0 ∨ a % 2 = s)))) ∧ h1 = h) mm_no := by
  refine mm_meth MX6_sends 100 hF htr okX6_sends (by decide +kernel) (Nat.le_of_ble_eq_true rfl) cmX6_sends (fun θ hc => ?_)
  refine ⟨0, 0, _, _, m_wayOf hF htr h1 h2, Nat.le_refl _, Nat.le_refl _, ?_, fun _ _ q => q.elim⟩
  rintro _ _ ⟨rfl, rfl⟩
  refine ⟨fun e => ?_, fun e => ?_⟩
  · have e := (iI_eqz (by omega) (by omega)).mp e
    exact ⟨Or.inr rfl, ⟨by rw [b2_t (Or.inl e)], rfl⟩, Nat.le_refl _, Nat.le_refl _⟩
  · have e : ¬ a / 2 % 2 = 0 := fun q => e ((iI_eqz (by omega) (by omega)).mpr q)
    refine ⟨0, 0, _, _, m_opens hF htr h1 h2 h3 h4, Nat.le_refl _, Nat.le_refl _, ?_, fun _ _ q => q.elim⟩
    rintro _ _ ⟨rfl, rfl⟩
    refine ⟨fun e2 => ?_, fun e2 => ?_⟩
    · have e2 := b2_z.mp e2
      exact ⟨Or.inl rfl, ⟨by rw [b2_f (by omega)], rfl⟩, Nat.le_refl _, Nat.le_refl _⟩
    · have e2 : a % 2 = s := Decidable.byContradiction fun q => e2 (b2_z.mpr q)
      exact ⟨Or.inr rfl, ⟨by rw [b2_t (Or.inr e2)], rfl⟩, Nat.le_refl _, Nat.le_refl _⟩
set_option maxRecDepth 100000 in
theorem m_receives (hF : mm_F G) (htr : L.stackTraces = false) {a s : Int} (h1 : 0 ≤ a) (h2 : a < 4611686018427387904) (h3 : -2147483648 ≤ s) (h4 : s < 2147483648) :
    mm_Met L G SX6_receives [.int (iI s), .long (iL a)] h 0 0 (fun r h1 => r = some (.int (iI (b2 (a / 2 % 2 = 0 ∨ ¬ a % 2 = s)))) ∧ h1 = h) mm_no := by
  refine mm_meth MX6_receives 100 hF htr okX6_receives (by decide +kernel) (Nat.le_of_ble_eq_true rfl) cmX6_receives (fun θ hc => ?_)
  refine ⟨0, 0, _, _, m_wayOf hF htr h1 h2, Nat.le_refl _, Nat.le_refl _, ?_, fun _ _ q => q.elim⟩
  rintro _ _ ⟨rfl, rfl⟩
  refine ⟨fun e => ?_, fun e => ?_⟩
  · have e := (iI_eqz (by omega) (by omega)).mp e
    exact ⟨Or.inr rfl, ⟨by rw [b2_t (Or.inl e)], rfl⟩, Nat.le_refl _, Nat.le_refl _⟩
  · have e : ¬ a / 2 % 2 = 0 := fun q => e ((iI_eqz (by omega) (by omega)).mpr q)
    refine ⟨0, 0, _, _, m_opens hF htr h1 h2 h3 h4, Nat.le_refl _, Nat.le_refl _, ?_, fun _ _ q => q.elim⟩
    rintro _ _ ⟨rfl, rfl⟩
    refine ⟨fun e2 => ?_, fun e2 => ?_⟩
    · have e2 : a % 2 = s := Decidable.byContradiction fun q => e2 (b2_z.mpr q)
      exact ⟨Or.inl rfl, ⟨by rw [b2_f (by omega)], rfl⟩, Nat.le_refl _, Nat.le_refl _⟩
    · have e2 := b2_z.mp e2
      exact ⟨Or.inr rfl, ⟨by rw [b2_t (Or.inr e2)], rfl⟩, Nat.le_refl _, Nat.le_refl _⟩
set_option maxRecDepth 100000 in
theorem m_greater (hF : mm_F G) (htr : L.stackTraces = false) {a b : Int} (h1 : -9223372036854775808 ≤ a) (h2 : a < 9223372036854775808) (h3 : -9223372036854775808 ≤ b) (h4 : b < 9223372036854775808) :
    mm_Met L G SX6_greater [.long (iL a), .long (iL b)] h 0 0 (fun r h1 => r = some (.long (iL (if b < a then a else b))) ∧ h1 = h) mm_no := by
  refine mm_meth MX6_greater 100 hF htr okX6_greater (by decide +kernel) (Nat.le_of_ble_eq_true rfl) cmX6_greater (fun θ hc => ?_)
  refine ⟨fun e => ?_, fun e => ?_⟩
  · have e := (lc_le h1 h2 h3 h4).mp e
    exact ⟨⟨by rw [if_neg (by omega)], rfl⟩, Nat.le_refl _, Nat.le_refl _⟩
  · have e : ¬ a ≤ b := fun q => e ((lc_le h1 h2 h3 h4).mpr q)
    exact ⟨⟨by rw [if_pos (by omega)], rfl⟩, Nat.le_refl _, Nat.le_refl _⟩
/-- how many bytes a number has -/
def mSize (v : Int) : Int := if v < 64 then 1 else if v < 16384 then 2 else if v < 1073741824 then 4 else 8
set_option maxRecDepth 100000 in
theorem m_sizeOf (hF : mm_F G) (htr : L.stackTraces = false) {a : Int} (h1 : -9223372036854775808 ≤ a) (h2 : a < 9223372036854775808) :
    mm_Met L G SX6_sizeOf [.long (iL a)] h 0 0 (fun r h1 => r = some (.int (iI (mSize a))) ∧ h1 = h) mm_no := by
  refine mm_meth MX6_sizeOf 100 hF htr okX6_sizeOf (by decide +kernel) (Nat.le_of_ble_eq_true rfl) cmX6_sizeOf (fun θ hc => ?_)
  unfold mSize
  refine ⟨fun e => ?_, fun e => ?_⟩
  · have e := (lc_ge (b := 64) h1 h2 (by omega) (by omega)).mp e
    rw [if_neg (by omega)]
    refine ⟨fun e2 => ?_, fun e2 => ?_⟩
    · have e2 := (lc_ge (b := 16384) h1 h2 (by omega) (by omega)).mp e2
      rw [if_neg (by omega)]
      refine ⟨fun e3 => ?_, fun e3 => ?_⟩
      · have e3 := (lc_ge (b := 1073741824) h1 h2 (by omega) (by omega)).mp e3
        rw [if_neg (by omega)]
        exact ⟨⟨rfl, rfl⟩, Nat.le_refl _, Nat.le_refl _⟩
      · have e3 : ¬ 1073741824 ≤ a := fun q => e3 ((lc_ge (b := 1073741824) h1 h2 (by omega) (by omega)).mpr q)
        rw [if_pos (by omega)]
        exact ⟨⟨rfl, rfl⟩, Nat.le_refl _, Nat.le_refl _⟩
    · have e2 : ¬ 16384 ≤ a := fun q => e2 ((lc_ge (b := 16384) h1 h2 (by omega) (by omega)).mpr q)
      rw [if_pos (by omega)]
      exact ⟨⟨rfl, rfl⟩, Nat.le_refl _, Nat.le_refl _⟩
  · have e : ¬ 64 ≤ a := fun q => e ((lc_ge (b := 64) h1 h2 (by omega) (by omega)).mpr q)
    rw [if_pos (by omega)]
    exact ⟨⟨rfl, rfl⟩, Nat.le_refl _, Nat.le_refl _⟩
end MDA
