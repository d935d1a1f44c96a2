/-! whole numbers in the machine's ints and longs -/
abbrev iI (a : Int) : Int32 := Int32.ofInt a
abbrev iL (a : Int) : Int64 := Int64.ofInt a
theorem iI_t {a : Int} (h1 : -2147483648 ≤ a) (h2 : a < 2147483648) : (iI a).toInt = a := Int32.toInt_ofInt_of_le (by omega) (by omega)
theorem iL_t {a : Int} (h1 : -9223372036854775808 ≤ a) (h2 : a < 9223372036854775808) : (iL a).toInt = a := Int64.toInt_ofInt_of_le (by omega) (by omega)
theorem iI_add (a b : Int) : iI a + iI b = iI (a + b) := (Int32.ofInt_add a b).symm
theorem iI_sub (a b : Int) : iI a - iI b = iI (a - b) := (Int32.ofInt_sub a b).symm
theorem iI_mul (a b : Int) : iI a * iI b = iI (a * b) := (Int32.ofInt_mul a b).symm
theorem iL_add (a b : Int) : iL a + iL b = iL (a + b) := (Int64.ofInt_add a b).symm
theorem iL_sub (a b : Int) : iL a - iL b = iL (a - b) := (Int64.ofInt_sub a b).symm
theorem iL_mul (a b : Int) : iL a * iL b = iL (a * b) := (Int64.ofInt_mul a b).symm
theorem iI_lt {a b : Int} (h1 : -2147483648 ≤ a) (h2 : a < 2147483648) (h3 : -2147483648 ≤ b) (h4 : b < 2147483648) : iI a < iI b ↔ a < b := by
  rw [Int32.lt_iff_toInt_lt, iI_t h1 h2, iI_t h3 h4]
theorem iI_le {a b : Int} (h1 : -2147483648 ≤ a) (h2 : a < 2147483648) (h3 : -2147483648 ≤ b) (h4 : b < 2147483648) : iI a ≤ iI b ↔ a ≤ b := by
  rw [Int32.le_iff_toInt_le, iI_t h1 h2, iI_t h3 h4]
theorem iI_eq {a b : Int} (h1 : -2147483648 ≤ a) (h2 : a < 2147483648) (h3 : -2147483648 ≤ b) (h4 : b < 2147483648) : iI a = iI b ↔ a = b := by
  rw [← Int32.toInt_inj, iI_t h1 h2, iI_t h3 h4]
theorem iL_lt {a b : Int} (h1 : -9223372036854775808 ≤ a) (h2 : a < 9223372036854775808) (h3 : -9223372036854775808 ≤ b) (h4 : b < 9223372036854775808) : iL a < iL b ↔ a < b := by
  rw [Int64.lt_iff_toInt_lt, iL_t h1 h2, iL_t h3 h4]
theorem iL_le {a b : Int} (h1 : -9223372036854775808 ≤ a) (h2 : a < 9223372036854775808) (h3 : -9223372036854775808 ≤ b) (h4 : b < 9223372036854775808) : iL a ≤ iL b ↔ a ≤ b := by
  rw [Int64.le_iff_toInt_le, iL_t h1 h2, iL_t h3 h4]
theorem iL_eq {a b : Int} (h1 : -9223372036854775808 ≤ a) (h2 : a < 9223372036854775808) (h3 : -9223372036854775808 ≤ b) (h4 : b < 9223372036854775808) : iL a = iL b ↔ a = b := by
  rw [← Int64.toInt_inj, iL_t h1 h2, iL_t h3 h4]
theorem iI_ix {a : Int} (h1 : 0 ≤ a) (h2 : a < 2147483648) : (iI a).toNatClampNeg = a.toNat := by
  show (iI a).toInt.toNat = a.toNat
  rw [iI_t (by omega) h2]
theorem iI_in {a : Int} {n : Nat} (h1 : 0 ≤ a) (h2 : a < n) (h3 : n ≤ 2147483648) : vp_in (iI a) n := by
  rw [vp_in_iff, iI_t (by omega) (by omega)]
  exact ⟨h1, h2⟩
theorem iI_div {a b : Int} (h1 : 0 ≤ a) (h2 : a < 2147483648) (h3 : 0 < b) (h4 : b < 2147483648) : iI a / iI b = iI (a / b) := by
  apply Int32.toInt_inj.mp
  have hd : a / b ≤ a := Int.ediv_le_self b h1
  have hd0 : 0 ≤ a / b := Int.ediv_nonneg h1 (by omega)
  rw [Int32.toInt_div_of_ne_right _ _ (by intro q; have q2 := congrArg Int32.toInt q; rw [iI_t (by omega) h4] at q2; rw [(by decide : (-1 : Int32).toInt = -1)] at q2; omega), iI_t (by omega) h2, iI_t (by omega) h4, iI_t (by omega) (by omega), Int.tdiv_eq_ediv_of_nonneg h1]
theorem iI_rem {a b : Int} (h1 : 0 ≤ a) (h2 : a < 2147483648) (h3 : 0 < b) (h4 : b < 2147483648) : iI a - iI a / iI b * iI b = iI (a % b) := by
  rw [iI_div h1 h2 h3 h4, iI_mul, iI_sub]
  congr 1
  have := Int.mul_ediv_add_emod a b
  rw [Int.mul_comm] at this
  omega
theorem iL_div {a b : Int} (h1 : 0 ≤ a) (h2 : a < 9223372036854775808) (h3 : 0 < b) (h4 : b < 9223372036854775808) : iL a / iL b = iL (a / b) := by
  apply Int64.toInt_inj.mp
  have hd : a / b ≤ a := Int.ediv_le_self b h1
  have hd0 : 0 ≤ a / b := Int.ediv_nonneg h1 (by omega)
  rw [Int64.toInt_div_of_ne_right _ _ (by intro q; have q2 := congrArg Int64.toInt q; rw [iL_t (by omega) h4] at q2; rw [(by decide : (-1 : Int64).toInt = -1)] at q2; omega), iL_t (by omega) h2, iL_t (by omega) h4, iL_t (by omega) (by omega), Int.tdiv_eq_ediv_of_nonneg h1]
theorem iL_rem {a b : Int} (h1 : 0 ≤ a) (h2 : a < 9223372036854775808) (h3 : 0 < b) (h4 : b < 9223372036854775808) : iL a - iL a / iL b * iL b = iL (a % b) := by
  rw [iL_div h1 h2 h3 h4, iL_mul, iL_sub]
  congr 1
  have := Int.mul_ediv_add_emod a b
  rw [Int.mul_comm] at this
  omega
theorem iI_l {a : Int} (h1 : -2147483648 ≤ a) (h2 : a < 2147483648) : (iI a).toInt64 = iL a := by
  apply Int64.toInt_inj.mp
  rw [Int32.toInt_toInt64, iI_t h1 h2, iL_t (by omega) (by omega)]
theorem iL_i (a : Int) : (iL a).toInt32 = iI a := Int64.toInt32_ofInt
theorem iI_of (x : Int32) : ∃ a : Int, -2147483648 ≤ a ∧ a < 2147483648 ∧ x = iI a := ⟨x.toInt, Int32.le_toInt x, by have := Int32.toInt_lt x; omega, (Int32.ofInt_toInt x).symm⟩
theorem iL_of (x : Int64) : ∃ a : Int, -9223372036854775808 ≤ a ∧ a < 9223372036854775808 ∧ x = iL a := ⟨x.toInt, Int64.le_toInt x, by have := Int64.toInt_lt x; omega, (Int64.ofInt_toInt x).symm⟩
/-! compares of longs -/
theorem lc_cases (x y : Int64) : (lg_cmp x y = 1 ∧ y < x) ∨ (lg_cmp x y = 0 ∧ x = y) ∨ (lg_cmp x y = -1 ∧ x < y) := by
  unfold lg_cmp
  split
  · rename_i h; exact Or.inl ⟨rfl, h⟩
  · split
    · rename_i h; exact Or.inr (Or.inl ⟨rfl, h⟩)
    · rename_i h1 h2
      refine Or.inr (Or.inr ⟨rfl, ?_⟩)
      have h1 := Int64.not_lt.mp h1
      rw [Int64.lt_iff_toInt_lt]
      rw [Int64.le_iff_toInt_le] at h1
      have : x.toInt ≠ y.toInt := fun q => h2 (Int64.toInt_inj.mp q)
      omega
theorem lc_lt {a b : Int} (h1 : -9223372036854775808 ≤ a) (h2 : a < 9223372036854775808) (h3 : -9223372036854775808 ≤ b) (h4 : b < 9223372036854775808) : lg_cmp (iL a) (iL b) < 0 ↔ a < b := by
  rcases lc_cases (iL a) (iL b) with ⟨e, h⟩ | ⟨e, h⟩ | ⟨e, h⟩
  · rw [e]; rw [iL_lt h3 h4 h1 h2] at h; exact ⟨fun q => absurd q (by decide), fun q => by omega⟩
  · rw [e]; rw [iL_eq h1 h2 h3 h4] at h; exact ⟨fun q => absurd q (by decide), fun q => by omega⟩
  · rw [e]; rw [iL_lt h1 h2 h3 h4] at h; exact ⟨fun _ => h, fun _ => by decide⟩
theorem lc_le {a b : Int} (h1 : -9223372036854775808 ≤ a) (h2 : a < 9223372036854775808) (h3 : -9223372036854775808 ≤ b) (h4 : b < 9223372036854775808) : lg_cmp (iL a) (iL b) ≤ 0 ↔ a ≤ b := by
  rcases lc_cases (iL a) (iL b) with ⟨e, h⟩ | ⟨e, h⟩ | ⟨e, h⟩
  · rw [e]; rw [iL_lt h3 h4 h1 h2] at h; exact ⟨fun q => absurd q (by decide), fun q => by omega⟩
  · rw [e]; rw [iL_eq h1 h2 h3 h4] at h; exact ⟨fun _ => by omega, fun _ => by decide⟩
  · rw [e]; rw [iL_lt h1 h2 h3 h4] at h; exact ⟨fun _ => by omega, fun _ => by decide⟩
theorem lc_gt {a b : Int} (h1 : -9223372036854775808 ≤ a) (h2 : a < 9223372036854775808) (h3 : -9223372036854775808 ≤ b) (h4 : b < 9223372036854775808) : 0 < lg_cmp (iL a) (iL b) ↔ b < a := by
  have := lc_le h1 h2 h3 h4
  rw [← Int32.not_le, this]; omega
theorem lc_ge {a b : Int} (h1 : -9223372036854775808 ≤ a) (h2 : a < 9223372036854775808) (h3 : -9223372036854775808 ≤ b) (h4 : b < 9223372036854775808) : 0 ≤ lg_cmp (iL a) (iL b) ↔ b ≤ a := by
  have := lc_lt h1 h2 h3 h4
  rw [← Int32.not_lt, this]; omega
theorem lc_eq {a b : Int} (h1 : -9223372036854775808 ≤ a) (h2 : a < 9223372036854775808) (h3 : -9223372036854775808 ≤ b) (h4 : b < 9223372036854775808) : lg_cmp (iL a) (iL b) = 0 ↔ a = b := by
  rcases lc_cases (iL a) (iL b) with ⟨e, h⟩ | ⟨e, h⟩ | ⟨e, h⟩
  · rw [e]; rw [iL_lt h3 h4 h1 h2] at h; exact ⟨fun q => absurd q (by decide), fun q => by omega⟩
  · rw [e]; rw [iL_eq h1 h2 h3 h4] at h; exact ⟨fun _ => h, fun _ => rfl⟩
  · rw [e]; rw [iL_lt h1 h2 h3 h4] at h; exact ⟨fun q => absurd q (by decide), fun q => by omega⟩
theorem iI_nb {a : Int} (h1 : -128 ≤ a) (h2 : a < 128) : vp_nar .byte (iI a) = iI a := by
  rw [vp_nar_byte]
  apply Int32.toInt_inj.mp
  rw [Int8.toInt_toInt32, Int32.toInt_toInt8, iI_t (by omega) (by omega)]
  exact Int.bmod_eq_of_le (by omega) (by omega)
theorem iI_nz {a : Int} (h : a = 0 ∨ a = 1) : vp_nar .boolean (iI a) = iI a := by rcases h with rfl | rfl <;> rfl
/-- cells of the map -/
theorem up_s {α : Type} (f : Nat → α) (k : Nat) (v : α) : va_up f k v k = v := if_pos rfl
theorem up_n {α : Type} {f : Nat → α} {k j : Nat} {v : α} (h : j ≠ k) : va_up f k v j = f j := if_neg h
def mm_no : String → mmH → Prop := fun _ _ => False
theorem iI_ltz {a : Int} (h1 : -2147483648 ≤ a) (h2 : a < 2147483648) : iI a < 0 ↔ a < 0 := iI_lt (b := 0) h1 h2 (by omega) (by omega)
theorem iI_lez {a : Int} (h1 : -2147483648 ≤ a) (h2 : a < 2147483648) : iI a ≤ 0 ↔ a ≤ 0 := iI_le (b := 0) h1 h2 (by omega) (by omega)
theorem iI_gtz {a : Int} (h1 : -2147483648 ≤ a) (h2 : a < 2147483648) : 0 < iI a ↔ 0 < a := iI_lt (a := 0) (by omega) (by omega) h1 h2
theorem iI_gez {a : Int} (h1 : -2147483648 ≤ a) (h2 : a < 2147483648) : 0 ≤ iI a ↔ 0 ≤ a := iI_le (a := 0) (by omega) (by omega) h1 h2
theorem iI_eqz {a : Int} (h1 : -2147483648 ≤ a) (h2 : a < 2147483648) : iI a = 0 ↔ a = 0 := iI_eq (b := 0) h1 h2 (by omega) (by omega)
/-- a truth as a number -/
def b2 (p : Prop) [Decidable p] : Int := if p then 1 else 0
theorem b2_t {p : Prop} [Decidable p] (h : p) : b2 p = 1 := if_pos h
theorem b2_f {p : Prop} [Decidable p] (h : ¬ p) : b2 p = 0 := if_neg h
theorem b2_01 (p : Prop) [Decidable p] : b2 p = 0 ∨ b2 p = 1 := by unfold b2; split <;> simp
theorem b2_z {p : Prop} [Decidable p] : iI (b2 p) = 0 ↔ ¬ p := by
  by_cases h : p
  · rw [b2_t h]; exact ⟨fun q => absurd q (by decide), fun q => absurd h q⟩
  · rw [b2_f h]; exact ⟨fun _ => h, fun _ => rfl⟩
