section KV2
theorem klo_0 (f : Nat) (h : f ≠ 602) : klo f ≤ 0 ∧ 0 ≤ khi f := by
  by_cases q : f < 1000
  · exact (show ∀ f, f < 1000 → f ≠ 602 → klo f ≤ 0 ∧ 0 ≤ khi f by decide +kernel) f q h
  · obtain ⟨r, rfl⟩ := Nat.le.dest (show 1000 ≤ f by omega)
    rw [klo_big, khi_big]
    exact ⟨by decide, by decide⟩
theorem k00_V : kV k00 := by
  refine ⟨fun f k => ?_, fun r k _ => ?_⟩
  · unfold k00
    split
    · exact ⟨by decide, fun z => absurd z (by decide)⟩
    · exact ⟨by decide, fun _ => by decide⟩
    · exact ⟨by decide, fun _ => by decide⟩
    · exact ⟨by decide, fun _ => by decide⟩
    · exact ⟨by decide, fun _ => by decide⟩
    · exact ⟨by decide, fun _ => by decide⟩
    · split <;> exact ⟨by decide, fun _ => by decide⟩
    · split <;> exact ⟨by decide, fun _ => by decide⟩
    · split <;> exact ⟨by decide, fun _ => by decide⟩
    · exact ⟨by decide, fun z => absurd z (by decide)⟩
    · have := klo_0 f (by assumption)
      exact ⟨this.1, fun _ => this.2⟩
  · unfold k00
    split <;> first | omega | decide
theorem k00_W : kW k00 := ⟨fun k h => absurd h (by show ¬ (0 : Int) = 1; decide), fun k h => absurd h (by show ¬ (0 : Int) = 1; decide), fun k => by show (-1 : Int) < 2; decide⟩
/-- in which order the cells are made -/
def kidx (t k : Nat) : Nat := match t with
  | 5 => 0
  | 10 => 1
  | 11 => 2
  | 0 => if k = 64 then 3 else 22 + k
  | 17 => 4 + k
  | 3 => 6 + 8 * k
  | 12 => 7 + 8 * k
  | 13 => 8 + 8 * k
  | 14 => 9 + 8 * k
  | 4 => 10 + 8 * (k / 2) + k % 2
  | 15 => 12 + 8 * k
  | 16 => 13 + 8 * k
  | _ => 0
def kA0 (t k : Nat) : Prop := (t = 0 ∧ k < 65) ∨ (t = 3 ∧ k < 2) ∨ (t = 4 ∧ k < 4) ∨ (t = 5 ∧ k = 0) ∨ (t = 10 ∧ k = 0) ∨ (t = 11 ∧ k = 0) ∨ (12 ≤ t ∧ t ≤ 16 ∧ k < 2) ∨ (t = 17 ∧ k < 2)
theorem kal_00 {t k : Nat} (h : kal k00 t k) : kA0 t k := by
  unfold kal at h
  unfold kA0
  split at h
  · omega
  · exact absurd h (by show ¬ (0 : Int) = 1; decide)
  · exact absurd h (by show ¬ (0 : Int) = 1; decide)
  · omega
  · omega
  · omega
  · omega
  · omega
  · omega
  · omega
  · omega
  · omega
  · omega
  · have h : (k : Int) < 2 := h
    omega
  · exact h.elim
end KV2
