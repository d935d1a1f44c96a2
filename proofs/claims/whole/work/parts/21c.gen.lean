section MGN
theorem b_ite {c : Prop} [Decidable c] {a b lo hi : Int} (ha : lo ≤ a ∧ a ≤ hi) (hb : lo ≤ b ∧ b ≤ hi) : lo ≤ (if c then a else b) ∧ (if c then a else b) ≤ hi := by
  split <;> assumption
theorem f_ite {c : Prop} [Decidable c] {a b : Nat → Nat → Int} {f k : Nat} {r : Int} (ha : a f k = r) (hb : b f k = r) : (if c then a else b) f k = r := by
  split <;> assumption
def mRetS (v : Option Value) (h' : mmH) (P : Prop) : Option Value → mmH → Prop := fun r h1 => (r = v ∧ h1 = h') ∧ P
theorem mkis_ {r : Option AV} {h' : mmH} {P : Prop} {Q : Option AV → mmH → Prop} (k : P → Q r h') : ∀ v h1, mRetS (r.map cv) h' P v h1 → ∃ r', v = r'.map cv ∧ Q r' h1 := by
  rintro _ _ ⟨⟨rfl, rfl⟩, p⟩
  exact ⟨r, rfl, k p⟩
theorem mkiE {v : Option Value} {r : Option AV} {h' : mmH} {Q : Option AV → mmH → Prop} (e : v = r.map cv) (k : Q r h') : ∀ v' h1, mRet v h' v' h1 → ∃ r', v' = r'.map cv ∧ Q r' h1 := by
  rintro _ _ ⟨rfl, rfl⟩
  exact ⟨r, e, k⟩
def wB (a : Int) : Int := (a + 128) % 256 - 128
theorem wB_b (a : Int) : -128 ≤ wB a ∧ wB a ≤ 127 := by unfold wB; omega
theorem i2b_c (a : Int) : (iI a).toInt8.toInt32 = iI (wB a) := by
  apply Int32.toInt_inj.mp
  have := wB_b a
  rw [Int8.toInt_toInt32, Int32.toInt_toInt8, iI_t (a := wB a) (by omega) (by omega)]
  show (Int32.ofInt a).toInt.bmod (2 ^ 8) = wB a
  rw [Int32.toInt_ofInt]
  rw [show Int32.size = 4294967296 from rfl]
  unfold wB
  simp only [Int.bmod]
  split <;> split <;> omega
theorem i2s_c {a : Int} (h1 : -32768 ≤ a) (h2 : a < 32768) : (iI a).toInt16.toInt32 = iI a := iI_ns h1 h2
theorem iI_and255 (a : Int) : iI a &&& iI 255 = iI (a % 256) := by
  apply Int32.toBitVec_inj.mp
  rw [Int32.toBitVec_and]
  show BitVec.ofInt 32 a &&& BitVec.ofInt 32 255 = BitVec.ofInt 32 (a % 256)
  apply BitVec.eq_of_toNat_eq
  rw [BitVec.toNat_and, BitVec.toNat_ofInt, BitVec.toNat_ofInt, BitVec.toNat_ofInt]
  rw [show ((255 : Int) % ((2 ^ 32 : Nat) : Int)).toNat = 2 ^ 8 - 1 from by decide, Nat.and_two_pow_sub_one_eq_mod]
  omega
theorem iL_and255 (a : Int) : iL a &&& iL 255 = iL (a % 256) := by
  apply Int64.toBitVec_inj.mp
  rw [Int64.toBitVec_and]
  show BitVec.ofInt 64 a &&& BitVec.ofInt 64 255 = BitVec.ofInt 64 (a % 256)
  apply BitVec.eq_of_toNat_eq
  rw [BitVec.toNat_and, BitVec.toNat_ofInt, BitVec.toNat_ofInt, BitVec.toNat_ofInt]
  rw [show ((255 : Int) % ((2 ^ 64 : Nat) : Int)).toNat = 2 ^ 8 - 1 from by decide, Nat.and_two_pow_sub_one_eq_mod]
  omega
theorem iL_shr {a k : Int} (h1 : -9223372036854775808 ≤ a) (h2 : a < 9223372036854775808) (h3 : 0 ≤ k) (h4 : k < 64) : iL a >>> ((iI k).toInt64 &&& 63) = iL (a / 2 ^ k.toNat) := by
  obtain ⟨n, rfl⟩ := Int.eq_ofNat_of_zero_le h3
  rw [iI_N, wb_c n (by omega)]
  apply Int64.toInt_inj.mp
  have hs : (iL a >>> lN n).toBitVec = (iL a).toBitVec.sshiftRight n := by
    show (iL a).toBitVec.sshiftRight' ((lN n).toBitVec.smod 64) = _
    rw [wb_tb, wb_sm n (by omega)]
    show (iL a).toBitVec.sshiftRight (BitVec.ofNat 64 n).toNat = _
    rw [BitVec.toNat_ofNat, Nat.mod_eq_of_lt (by omega)]
  have ht : (iL a >>> lN n).toInt = (iL a).toInt >>> n := by
    show (iL a >>> lN n).toBitVec.toInt = _
    rw [hs, BitVec.toInt_sshiftRight]
    rfl
  have hp : (1 : Int) ≤ 2 ^ n := by
    have : 1 ≤ 2 ^ n := Nat.one_le_two_pow
    exact_mod_cast this
  have b1 : a / 2 ^ n < 9223372036854775808 := by
    have := Int.ediv_le_self (2 ^ n) (show (0 : Int) ≤ 9223372036854775807 by decide)
    exact Int.ediv_lt_of_lt_mul (by omega) (by
      have := Int.mul_le_mul_of_nonneg_left hp (show (0 : Int) ≤ 9223372036854775808 by decide)
      omega)
  have b2' : -9223372036854775808 ≤ a / 2 ^ n := by
    apply Int.le_ediv_of_mul_le (by omega)
    have := Int.mul_le_mul_of_nonneg_left hp (show (0 : Int) ≤ 9223372036854775808 by decide)
    omega
  rw [ht, iL_t h1 h2, Int.toNat_natCast, Int.shiftRight_eq_div_pow]
  rw [show ((2 ^ n : Nat) : Int) = (2 : Int) ^ n from by push_cast; rfl]
  rw [iL_t b2' b1]
theorem iL_shl {a k : Int} (h3 : 0 ≤ k) (h4 : k < 64) : iL a <<< ((iI k).toInt64 &&& 63) = iL (a * 2 ^ k.toNat) := by
  obtain ⟨n, rfl⟩ := Int.eq_ofNat_of_zero_le h3
  rw [iI_N, wb_c n (by omega)]
  apply Int64.toBitVec_inj.mp
  have hs : (iL a <<< lN n).toBitVec = (iL a).toBitVec <<< n := by
    show (iL a).toBitVec <<< ((lN n).toBitVec.smod 64) = _
    rw [wb_tb, wb_sm n (by omega), BitVec.shiftLeft_eq', BitVec.toNat_ofNat, Nat.mod_eq_of_lt (by omega)]
  rw [hs, Int.toNat_natCast]
  show BitVec.ofInt 64 a <<< n = BitVec.ofInt 64 (a * 2 ^ n)
  apply BitVec.eq_of_toNat_eq
  rw [BitVec.toNat_shiftLeft, BitVec.toNat_ofInt, BitVec.toNat_ofInt, Nat.shiftLeft_eq]
  apply Int.ofNat_inj.mp
  have q1 : 0 ≤ a % ((2 ^ 64 : Nat) : Int) := Int.emod_nonneg _ (by decide)
  have q2 : 0 ≤ a * 2 ^ n % ((2 ^ 64 : Nat) : Int) := Int.emod_nonneg _ (by decide)
  rw [Int.natCast_emod, Int.natCast_mul, Int.toNat_of_nonneg q1, Int.toNat_of_nonneg q2, Int.natCast_pow]
  rw [Int.mul_emod (a % _), Int.emod_emod_of_dvd _ (Int.dvd_refl _), ← Int.mul_emod]
  rfl
theorem pow8 (j : Int) (hj : 0 ≤ j) : (1 : Int) ≤ 2 ^ (8 * j).toNat ∧ (2 : Int) ^ (8 * (j + 1)).toNat = 256 * 2 ^ (8 * j).toNat := by
  have : 1 ≤ 2 ^ (8 * j).toNat := Nat.one_le_two_pow
  refine ⟨by exact_mod_cast this, ?_⟩
  rw [show (8 * (j + 1)).toNat = (8 * j).toNat + 8 by omega, Int.pow_add, Int.mul_comm]
  rfl
theorem outs_v {v x j : Int} (hv : 0 ≤ v ∧ v < 2 ^ (8 * j).toNat) (hj : 0 ≤ j) (hx : 0 ≤ x ∧ x ≤ 255) : 0 ≤ v + x * 2 ^ (8 * j).toNat ∧ v + x * 2 ^ (8 * j).toNat < 2 ^ (8 * (j + 1)).toNat := by
  have p := pow8 j hj
  rw [p.2]
  have q1 := Int.mul_le_mul_of_nonneg_right hx.2 (show (0 : Int) ≤ 2 ^ (8 * j).toNat by omega)
  have q2 := Int.mul_nonneg hx.1 (show (0 : Int) ≤ 2 ^ (8 * j).toNat by omega)
  omega
theorem iL_or {v x j : Int} (hv : 0 ≤ v ∧ v < 2 ^ (8 * j).toNat) (hj : 0 ≤ j ∧ j ≤ 7) (hx : 0 ≤ x ∧ x ≤ 255) : iL v ||| iL (x * 2 ^ (8 * j).toNat) = iL (v + x * 2 ^ (8 * j).toNat) := by
  have hb := outs_v hv hj.1 hx
  have hc := outs_v (v := 0) ⟨Int.le_refl _, by have := (pow8 j hj.1).1; omega⟩ hj.1 hx
  obtain ⟨V, rfl⟩ := Int.eq_ofNat_of_zero_le hv.1
  obtain ⟨X, rfl⟩ := Int.eq_ofNat_of_zero_le hx.1
  have h64 : (2 : Int) ^ (8 * (j + 1)).toNat ≤ 18446744073709551616 := by
    rcases (show j = 0 ∨ j = 1 ∨ j = 2 ∨ j = 3 ∨ j = 4 ∨ j = 5 ∨ j = 6 ∨ j = 7 by omega) with rfl | rfl | rfl | rfl | rfl | rfl | rfl | rfl <;> decide
  generalize (8 * j).toNat = n at *
  have hV : V < 2 ^ n := by
    have := hv.2
    rw [show (2 : Int) ^ n = ((2 ^ n : Nat) : Int) from by rw [Int.natCast_pow]; rfl] at this
    omega
  have eX : (X : Int) * 2 ^ n = ((X * 2 ^ n : Nat) : Int) := by rw [Int.natCast_mul, Int.natCast_pow]; rfl
  rw [eX] at hb hc ⊢
  apply Int64.toBitVec_inj.mp
  rw [Int64.toBitVec_or]
  show BitVec.ofInt 64 _ ||| BitVec.ofInt 64 _ = BitVec.ofInt 64 _
  apply BitVec.eq_of_toNat_eq
  rw [BitVec.toNat_or, BitVec.toNat_ofInt, BitVec.toNat_ofInt, BitVec.toNat_ofInt]
  have e1 : ((V : Int) % ((2 ^ 64 : Nat) : Int)).toNat = V := by omega
  have e2 : (((X * 2 ^ n : Nat) : Int) % ((2 ^ 64 : Nat) : Int)).toNat = X * 2 ^ n := by omega
  have e3 : ((V + ((X * 2 ^ n : Nat) : Int)) % ((2 ^ 64 : Nat) : Int)).toNat = V + X * 2 ^ n := by omega
  rw [e1, e2, e3, ← Nat.shiftLeft_eq, Nat.or_comm, ← Nat.shiftLeft_add_eq_or_of_lt hV, Nat.add_comm]
end MGN
