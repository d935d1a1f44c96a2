section R31
variable {κ μ κ' μ' κ1 μ1 : Nat → Nat → Int} {O O' : Nat → Nat}
theorem meant_e (hV : mV μ) (hR : kRel κ μ O) {s a g : Int} (h1 : 0 ≤ s) (h2 : s ≤ 1) (a0 : 0 ≤ a) (hg : g = 0 ∨ g = 1) : v_meant μ s a g = v_streamError κ s a g ∧ (v_streamError κ s a g = 0 → a < 256 ∧ (a % 2 = s → μ 17 (mj s a) = 1) ∧ (g = 0 → a / 2 % 2 = 0 ∨ ¬ a % 2 = s) ∧ (g = 1 → a / 2 % 2 = 0 ∨ a % 2 = s)) := by
  obtain ⟨q1, q2, q3, q4, q5, q6, q7, q8, q9, _⟩ := hR.W (w := a / 2 % 2) h1 h2 (by omega) (by omega)
  have v17 : 0 ≤ μ 17 (mj s a) ∧ μ 17 (mj s a) ≤ 1 := hV 17 _
  have v8 : 0 ≤ μ 8 (2 * s + a / 2 % 2).toNat ∧ μ 8 (2 * s + a / 2 % 2).toNat ≤ 64 := hV 8 _
  unfold v_meant v_streamError
  rw [q1, q6]
  by_cases own : a % 2 = s
  · simp only [if_pos own]
    by_cases big : 256 ≤ a
    · have n8 : ¬ a / 4 < μ 8 (2 * s + a / 2 % 2).toNat := by omega
      simp only [if_pos big, if_neg n8]
      exact ⟨trivial, fun z => absurd z (by decide)⟩
    · have hT := (hR.T h1 h2 a0 (by omega)).1
      simp only [if_neg big]
      by_cases th : μ 17 (mj s a) = 0
      · have n8 : ¬ a / 4 < μ 8 (2 * s + a / 2 % 2).toNat := fun z => by
          have := hT.mpr (Or.inl ⟨own, z⟩)
          omega
        simp only [if_pos th, if_neg n8]
        exact ⟨trivial, fun z => absurd z (by decide)⟩
      · have h17 : μ 17 (mj s a) = 1 := by omega
        have y8 : a / 4 < μ 8 (2 * s + a / 2 % 2).toNat := by
          rcases hT.mp h17 with z | z
          · exact z.2
          · exact absurd own z.1
        simp only [if_neg th, if_pos y8]
        rcases hg with rfl | rfl
        · simp only [if_true]
          by_cases w : a / 2 % 2 = 0
          · have w1 : ¬ a / 2 % 2 = 1 := by omega
            simp only [if_pos (show a / 2 % 2 = 0 ∨ ¬ a % 2 = s from Or.inl w), if_neg w1]
            exact ⟨trivial, fun _ => ⟨by omega, fun _ => h17, fun _ => Or.inl w, fun z => absurd z (by decide)⟩⟩
          · have w1 : a / 2 % 2 = 1 := by omega
            simp only [if_neg (show ¬ (a / 2 % 2 = 0 ∨ ¬ a % 2 = s) by omega), if_pos w1, Int.reduceEq, if_false]
            exact ⟨trivial, fun z => absurd z (by decide)⟩
        · simp only [Int.reduceEq, if_false, if_true, if_pos (show a / 2 % 2 = 0 ∨ a % 2 = s from Or.inr own), ite_self]
          exact ⟨trivial, fun _ => ⟨by omega, fun _ => h17, fun z => absurd z (by decide), fun _ => Or.inr own⟩⟩
  · simp only [if_neg own]
    rcases hg with rfl | rfl
    · simp only [if_true, if_pos (show a / 2 % 2 = 0 ∨ ¬ a % 2 = s from Or.inr own), ite_self]
      refine ⟨trivial, fun z => ⟨?_, fun y => absurd y own, fun _ => Or.inr own, fun y => absurd y (by decide)⟩⟩
      split at z
      · omega
      · omega
    · simp only [Int.reduceEq, if_false]
      by_cases w : a / 2 % 2 = 0
      · have w1 : ¬ a / 2 % 2 = 1 := by omega
        simp only [if_pos (show a / 2 % 2 = 0 ∨ a % 2 = s from Or.inl w), if_neg w1]
        refine ⟨trivial, fun z => ⟨?_, fun y => absurd y own, fun y => absurd y (by decide), fun _ => Or.inl w⟩⟩
        split at z
        · omega
        · omega
      · have w1 : a / 2 % 2 = 1 := by omega
        simp only [if_neg (show ¬ (a / 2 % 2 = 0 ∨ a % 2 = s) by omega), if_pos w1]
        exact ⟨trivial, fun z => absurd z (by decide)⟩
theorem reaches_e (hV : mV μ) (hR : kRel κ μ O) {s i e g : Int} (h1 : 0 ≤ s) (h2 : s ≤ 1) (h3 : 0 ≤ i) (h4 : i < 256) (e0 : 0 ≤ e) (hg : g = 0 ∨ g = 1) (hrc : i / 2 % 2 = 0 ∨ ¬ i % 2 = s) : v_reaches μ s i e g = v_bytesError κ s i e g := by
  obtain ⟨q1, q2, q3, q4, q5, q6, q7, q8, q9, q10, q11, q12, q13, q14, q15⟩ := hR.S h1 h2
  have hB := hR.B h1 h2 h3 h4
  have v17 : 0 ≤ μ 17 (mj s i) ∧ μ 17 (mj s i) ≤ 1 := hV 17 _
  -- the last two checks
  have tail : ∀ al hi : Int, hi = μ 25 (mj s i) → (if e ≤ hi then (if al < e then (3 : Int) else (if v_received μ s + 0 ≤ μ 11 s.toNat then 0 else 3)) else (if al < e then 3 else (if v_received μ s + (e - hi) ≤ μ 11 s.toNat then 0 else 3))) = (if al < e then 3 else (if e ≤ hi then 0 else (if κ 312 s.toNat + (e - hi) ≤ κ 314 s.toNat then 0 else 3))) := by
    intro al hi _
    rw [q5, q7]
    by_cases c : al < e
    · simp only [if_pos c, ite_self]
    · simp only [if_neg c]
      by_cases d : e ≤ hi
      · rw [if_pos d, if_pos d, if_pos (by omega)]
      · rw [if_neg d, if_neg d]
  unfold v_reaches v_bytesError
  by_cases hp : κ 190 (mj s i) = 1
  · obtain ⟨t1, t2, t3, t4, t5, t6, t7, t8, t9, t10, t11, t12⟩ := (hB.2.1 hp).1
    have h17 : ¬ μ 17 (mj s i) = 0 := by have := (hB.1.mp hp).1; omega
    simp only [if_pos hp, if_neg h17, t2, t3, t5]
    rw [tail _ _ rfl]
  · have h17 : μ 17 (mj s i) = 0 := by
      by_cases z : μ 17 (mj s i) = 1
      · exact absurd (hB.1.mpr ⟨z, hrc⟩) hp
      · omega
    obtain ⟨b1, b2', _⟩ := hB.2.2 hp
    have e6 := q10 (if i / 2 % 2 = 1 then 7 else if i % 2 = s then 5 else 6) (by split; omega; split <;> omega) (by split; omega; split <;> omega)
    have e6' : κ 360 (16 * s + v_grantFor s i).toNat = μ 6 (mg s i).toNat := by rw [grantFor_e _ _ _ h3]; exact e6
    have t0 := tail (μ 6 (mg s i).toNat) 0 b1.symm
    simp only [if_neg hp, if_pos h17, b1, b2', e6', Int.reduceLT, Int.reduceNeg, if_true]
    rw [t0]
end R31
