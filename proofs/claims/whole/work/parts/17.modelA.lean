section MDA
variable {L : Launch} {G : mmG} {A : Nat → Nat} {ax : Nat → Option Nat} {h0 h : mmH} {μ : Nat → Nat → Int}
set_option maxRecDepth 100000 in
theorem m_noSide (hF : mm_F G) (htr : L.stackTraces = false) {s : Int} (h1 : -2147483648 ≤ s) (h2 : s < 2147483648) :
    mm_Met L G SX6_noSide [.int (iI s)] h 0 0 (fun r h1 => r = some (.int (iI (b2 (s < 0 ∨ 1 < s)))) ∧ h1 = h) mm_no := by
  refine mm_meth MX6_noSide 100 hF htr okX6_noSide (by decide +kernel) (Nat.le_of_ble_eq_true rfl) cmX6_noSide (fun θ hc => ?_)
  refine ⟨fun e => ?_, fun e => ?_⟩
  · have e := (iI_ltz h1 h2).mp e
    exact ⟨Or.inr rfl, ⟨by rw [b2_t (Or.inl e)], rfl⟩, Nat.le_refl _, Nat.le_refl _⟩
  · have e : ¬ s < 0 := fun q => e ((iI_ltz h1 h2).mpr q)
    refine ⟨fun e2 => ?_, fun e2 => ?_⟩
    · have e2 := (iI_le (b := 1) h1 h2 (by omega) (by omega)).mp e2
      exact ⟨Or.inl rfl, ⟨by rw [b2_f (by omega)], rfl⟩, Nat.le_refl _, Nat.le_refl _⟩
    · have e2 : ¬ s ≤ 1 := fun q => e2 ((iI_le (b := 1) h1 h2 (by omega) (by omega)).mpr q)
      exact ⟨Or.inr rfl, ⟨by rw [b2_t (by omega)], rfl⟩, Nat.le_refl _, Nat.le_refl _⟩
set_option maxRecDepth 100000 in
theorem m_at (hF : mm_F G) (htr : L.stackTraces = false) {s i : Int} :
    mm_Met L G SX6_at [.int (iI s), .int (iI i)] h 0 0 (fun r h1 => r = some (.int (iI (256 * s + i))) ∧ h1 = h) mm_no := by
  refine mm_meth MX6_at 100 hF htr okX6_at (by decide +kernel) (Nat.le_of_ble_eq_true rfl) cmX6_at (fun θ hc => ?_)
  exact ⟨⟨by rw [show (Int32.ofInt 256 : Int32) = iI 256 from rfl, iI_mul, iI_add], rfl⟩, Nat.le_refl _, Nat.le_refl _⟩
set_option maxRecDepth 100000 in
/-- fails(bad, code): thrown is code or 0 -/
theorem m_fails (hF : mm_F G) (htr : L.stackTraces = false) (hx : mx A ax) {p : Prop} [Decidable p] {c : Int} :
    mm_Met L G SX6_fails [.ref (A 99), .int (iI (b2 p)), .int (iI c)] (hm G A ax h0 μ) 0 0 (fun r h1 => r = some (.int (iI (b2 p))) ∧ h1 = hm G A ax h0 (u2 μ 0 0 (if p then c else 0))) mm_no := by
  refine mm_meth MX6_fails 100 hF htr okX6_fails (by decide +kernel) (Nat.le_of_ble_eq_true rfl) cmX6_fails (fun θ hc => ?_)
  refine ⟨fun e => ?_, fun e => ?_⟩
  · have e : ¬ p := b2_z.mp e
    refine ⟨_, hm_o hx, trivial, ?_⟩
    refine ⟨(by rcases b2_01 p with q | q <;> rw [q] <;> decide), ⟨rfl, ?_⟩, Nat.le_refl _, Nat.le_refl _⟩
    rw [if_neg e]
    exact hm_putO hx rfl rfl
  · have e : p := by
      by_cases hp : p
      · exact hp
      · exact absurd (b2_z.mpr hp) e
    refine ⟨_, hm_o hx, trivial, ?_⟩
    refine ⟨(by rcases b2_01 p with q | q <;> rw [q] <;> decide), ⟨rfl, ?_⟩, Nat.le_refl _, Nat.le_refl _⟩
    rw [if_pos e]
    exact hm_putO hx rfl rfl
end MDA
