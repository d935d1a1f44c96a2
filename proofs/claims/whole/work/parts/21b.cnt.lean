section MC
/-- how many of n places from a on hold i -/
def mRem (g : Nat → Int) (i : Int) : Nat → Nat → Int
  | _, 0 => 0
  | a, n + 1 => b2 (g a = i) + mRem g i (a + 1) n
theorem b2_c (p : Prop) [Decidable p] : (p ∧ b2 p = 1) ∨ (¬ p ∧ b2 p = 0) := by
  unfold b2
  split
  · exact Or.inl ⟨by assumption, rfl⟩
  · exact Or.inr ⟨by assumption, rfl⟩
theorem mRem_c {g : Nat → Int} {i k E l : Int} (h1 : 0 ≤ k) (h2 : 0 ≤ l) (h3 : l < mRem g i k.toNat (E - k).toNat) : k < E ∧ mRem g i k.toNat (E - k).toNat = b2 (g k.toNat = i) + mRem g i (k + 1).toNat (E - (k + 1)).toNat := by
  cases hn : (E - k).toNat with
  | zero =>
    rw [hn] at h3
    exact absurd (show l < 0 from h3) (by omega)
  | succ n =>
    refine ⟨by omega, ?_⟩
    rw [show (k + 1).toNat = k.toNat + 1 by omega, show (E - (k + 1)).toNat = n by omega]
    rfl
theorem mRem_s (g : Nat → Int) (i : Int) (n : Nat) : ∀ a, mRem g i a (n + 1) = mRem g i a n + b2 (g (a + n) = i) := by
  induction n with
  | zero => intro a; show b2 (g a = i) + 0 = 0 + b2 (g (a + 0) = i); simp
  | succ n ih =>
    intro a
    show b2 (g a = i) + mRem g i (a + 1) (n + 1) = (b2 (g a = i) + mRem g i (a + 1) n) + b2 (g (a + (n + 1)) = i)
    rw [ih, show a + 1 + n = a + (n + 1) by omega]
    omega
theorem mRem_le (g : Nat → Int) (i : Int) (n : Nat) : ∀ a, 0 ≤ mRem g i a n ∧ mRem g i a n ≤ n := by
  induction n with
  | zero => intro a; exact ⟨Int.le_refl _, Int.le_refl _⟩
  | succ n ih =>
    intro a
    have := ih (a + 1)
    have := b2_r (g a = i)
    show 0 ≤ b2 (g a = i) + mRem g i (a + 1) n ∧ b2 (g a = i) + mRem g i (a + 1) n ≤ _
    omega
theorem mRem_cg {g g' : Nat → Int} {i : Int} : ∀ (n a : Nat), (∀ q, a ≤ q → q < a + n → g q = g' q) → mRem g i a n = mRem g' i a n
  | 0, _, _ => rfl
  | n + 1, a, h => by
    show b2 (g a = i) + mRem g i (a + 1) n = b2 (g' a = i) + mRem g' i (a + 1) n
    rw [h a (Nat.le_refl _) (by omega), mRem_cg n (a + 1) (fun q h1 h2 => h q (by omega) (by omega))]
/-- counts at places given as Int -/
def mR (g : Nat → Int) (c a b : Int) : Int := mRem g c a.toNat (b - a).toNat
theorem mR_e {g : Nat → Int} {c a b : Int} (h : b ≤ a) : mR g c a b = 0 := by
  unfold mR
  rw [show (b - a).toNat = 0 by omega]
  rfl
theorem mR_c {g : Nat → Int} {c a b : Int} (h1 : 0 ≤ a) (h2 : a < b) : mR g c a b = b2 (g a.toNat = c) + mR g c (a + 1) b := by
  unfold mR
  rw [show (b - a).toNat = (b - (a + 1)).toNat + 1 by omega, show (a + 1).toNat = a.toNat + 1 by omega]
  rfl
theorem mR_u {g g' : Nat → Int} {c a b : Int} (h0 : 0 ≤ a) (h : ∀ q : Nat, a ≤ q → q < b → g q = g' q) : mR g c a b = mR g' c a b := by
  unfold mR
  by_cases e : b ≤ a
  · rw [show (b - a).toNat = 0 by omega]
    rfl
  · exact mRem_cg _ _ (fun q h1 h2 => h q (by omega) (by omega))
theorem mR_b {g : Nat → Int} {c a b : Int} : 0 ≤ mR g c a b ∧ (a ≤ b → mR g c a b ≤ b - a) := by
  unfold mR
  have := mRem_le g c (b - a).toNat a.toNat
  omega
theorem mR_s {g : Nat → Int} {c a b : Int} (h1 : 0 ≤ a) (h2 : a ≤ b) : mR g c a (b + 1) = mR g c a b + b2 (g b.toNat = c) := by
  unfold mR
  rw [show (b + 1 - a).toNat = (b - a).toNat + 1 by omega, mRem_s, show a.toNat + (b - a).toNat = b.toNat by omega]
end MC
