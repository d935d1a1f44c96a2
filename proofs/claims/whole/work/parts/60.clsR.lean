section KS
variable {L : Launch} {G : mmG} {B : Nat → Nat → Nat} {bx : Nat → Option (Nat × Nat)} {h0 H : mmH} {κ : Nat → Nat → Int} {A : Nat → Nat} {ax : Nat → Option Nat} {μ : Nat → Nat → Int}
/-- a heap that has the class's cells at distinct addresses, and the rest elsewhere -/
theorem hk_of (inj : ∀ t k t' k', kal κ t k → kal κ t' k' → B t k = B t' k' → t = t' ∧ k = k') (pt : ∀ t k, kal κ t k → H (B t k) = some (kc G B κ t k)) (oth : ∀ q, (∀ t k, kal κ t k → q ≠ B t k) → H q = h0 q) :
    ∃ bx, H = hk G B bx h0 κ ∧ kx B bx κ ∧ ∀ q, bx q ≠ none → ∃ t k, kal κ t k ∧ q = B t k := by
  classical
  have key : ∃ bx : Nat → Option (Nat × Nat), (∀ t k, kal κ t k → bx (B t k) = some (t, k)) ∧ ∀ a t k, bx a = some (t, k) → a = B t k ∧ kal κ t k := by
    refine ⟨fun q => if h : ∃ p : Nat × Nat, kal κ p.1 p.2 ∧ B p.1 p.2 = q then some h.choose else none, fun t k hk => ?_, fun a t k e => ?_⟩
    · have h : ∃ p : Nat × Nat, kal κ p.1 p.2 ∧ B p.1 p.2 = B t k := ⟨(t, k), hk, rfl⟩
      dsimp only
      rw [dif_pos h]
      have s := h.choose_spec
      have i := inj _ _ _ _ s.1 hk s.2
      exact congrArg some (Prod.ext i.1 i.2)
    · dsimp only at e
      split at e
      · rename_i h
        have s := h.choose_spec
        rw [Option.some.inj e] at s
        exact ⟨s.2.symm, s.1⟩
      · cases e
  obtain ⟨bx, k1, k2⟩ := key
  refine ⟨bx, ?_, ⟨k1, k2⟩, fun q hq => ?_⟩
  · funext q
    unfold hk
    cases e : bx q with
    | none => exact oth q (fun t k hk z => by rw [z, k1 t k hk] at e; cases e)
    | some p =>
      obtain ⟨t, k⟩ := p
      have w := k2 q t k e
      rw [w.1]
      exact pt t k w.2
  · cases e : bx q with
    | none => exact absurd e hq
    | some p => exact ⟨p.1, p.2, (k2 q p.1 p.2 e).2, (k2 q p.1 p.2 e).1⟩
/-- the class's cells and the reference's, apart from each other -/
theorem hk_hm (hd : ∀ q, bx q = none ∨ ax q = none) : hk G B bx (hm G A ax h0 μ) κ = hm G A ax (hk G B bx h0 κ) μ := by
  funext q
  show (match bx q with | none => hm G A ax h0 μ q | some p => some (kc G B κ p.1 p.2)) = (match ax q with | none => hk G B bx h0 κ q | some f => if f = 99 then some (.inr (6, mobj A μ)) else some (marr G μ f))
  rcases hd q with e | e
  · rw [e]
    show hm G A ax h0 μ q = _
    unfold hm
    cases hA : ax q with
    | none =>
      show h0 q = hk G B bx h0 κ q
      unfold hk
      rw [e]
    | some f => rfl
  · rw [e]
    show _ = hk G B bx h0 κ q
    unfold hk
    cases hb : bx q with
    | none =>
      show hm G A ax h0 μ q = h0 q
      unfold hm
      rw [e]
    | some p => rfl
theorem ne_of {h : mmH} {x y : Nat} {e : va_E} (hx : h x = some e) (hy : h y = none) : x ≠ y := fun z => by rw [z, hy] at hx; cases hx
/-- the class's state when it is new -/
def k00 : Nat → Nat → Int := fun f k => match f with
  | 7 => -1
  | 307 => -1
  | 311 => -1
  | 314 => 4096
  | 402 => -1
  | 403 => -1
  | 360 => match k % 16 with
    | 4 => 4096
    | 5 => 1024
    | 6 => 1024
    | 7 => 1024
    | 8 => 4
    | 9 => 4
    | _ => 0
  | 600 => if k < 2 then 2048 else 0
  | 601 => if k < 2 then 2 else 0
  | 602 => 2
  | _ => 0
end KS
