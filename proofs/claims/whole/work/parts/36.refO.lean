section MR16
variable {L : Launch} {G : mmG} {A : Nat → Nat} {ax : Nat → Option Nat} {h0 : mmH} {μ ν : Nat → Nat → Int}
/-! the reference is made: its arrays, newest first, as pairs of address and field -/
def cfl (G : mmG) (h : mmH) : List (Nat × Nat) → mmH
  | [] => h
  | p :: l => va_up (cfl G h l) p.1 (some (.inl (mm_dA G (mf_ty p.2), mm_zero (mf_ty p.2) (mf_len p.2))))
def cnd (a : Nat) : List (Nat × Nat) → Prop
  | [] => True
  | p :: l => p.1 ≠ a ∧ (∀ q ∈ l, q.1 ≠ p.1) ∧ cnd a l
theorem cfl_no {h : mmH} {b : Nat} : ∀ {l : List (Nat × Nat)}, cfl G h l b = none → ∀ q ∈ l, q.1 ≠ b
  | [], _, _, hq => absurd hq List.not_mem_nil
  | p :: l, hb, q, hq => by
    have hb : va_up (cfl G h l) p.1 (some (.inl (mm_dA G (mf_ty p.2), mm_zero (mf_ty p.2) (mf_len p.2)))) b = none := hb
    by_cases e : b = p.1
    · rw [e, up_s] at hb; cases hb
    · rw [up_n e] at hb
      rcases List.mem_cons.mp hq with z | z
      · rw [z]; exact fun w => e w.symm
      · exact cfl_no hb q z
theorem cnd_c {h : mmH} {a b f : Nat} {o : va_E} {l : List (Nat × Nat)} (hn : va_up (cfl G h l) a (some o) b = none) (hd : cnd a l) : cnd a ((b, f) :: l) := by
  have e : b ≠ a := fun z => by rw [z, up_s] at hn; cases hn
  rw [up_n e] at hn
  exact ⟨e, cfl_no hn, hd⟩
theorem cs_r {h : mmH} {a b : Nat} {fs : List AV} {r : Option va_E} (hn : va_up h a (some (.inr (6, fs.map cv))) b = none) : va_up (va_up h a (some (.inr (6, fs.map cv)))) b r a = some (.inr (6, fs.map cv)) := by
  have e : a ≠ b := fun z => by rw [← z, up_s] at hn; cases hn
  rw [up_n e, up_s]
theorem cs_u {h : mmH} {a b f t n : Nat} {o o' : va_E} {l : List (Nat × Nat)} (ht : mf_ty f = t) (hl : mf_len f = n) : va_up (va_up (va_up (cfl G h l) a (some o)) b (some (.inl (mm_dA G t, mm_zero t n)))) a (some o') = va_up (cfl G h ((b, f) :: l)) a (some o') := by
  subst ht hl
  funext q
  by_cases e : q = a
  · rw [e, up_s, up_s]
  · rw [up_n e, up_n e]
    show _ = va_up (cfl G h l) b (some (.inl (mm_dA G (mf_ty f), mm_zero (mf_ty f) (mf_len f)))) q
    by_cases e2 : q = b
    · rw [e2, up_s, up_s]
    · rw [up_n e2, up_n e2, up_n e]
def cA (a : Nat) (l : List (Nat × Nat)) (f : Nat) : Nat := if f = 99 then a else match l.find? (fun p => p.2 == f) with
  | some p => p.1
  | none => 0
def cX (a : Nat) (l : List (Nat × Nat)) (q : Nat) : Option Nat := if q = a then some 99 else match l.find? (fun p => p.1 == q) with
  | some p => some p.2
  | none => none
theorem cfl_at {h : mmH} (q : Nat) : ∀ l : List (Nat × Nat), cfl G h l q = match l.find? (fun p => p.1 == q) with
    | some p => some (.inl (mm_dA G (mf_ty p.2), mm_zero (mf_ty p.2) (mf_len p.2)))
    | none => h q
  | [] => rfl
  | p :: l => by
    show va_up (cfl G h l) p.1 _ q = _
    by_cases e : q = p.1
    · rw [e, up_s, List.find?_cons_of_pos (by simp)]
    · rw [up_n e, List.find?_cons_of_neg (by simpa using fun z => e z.symm), cfl_at q l]
theorem cnd_u {a : Nat} : ∀ {l : List (Nat × Nat)}, cnd a l → ∀ p ∈ l, p.1 ≠ a ∧ ∀ q ∈ l, q.1 = p.1 → q = p
  | [], _, _, hp => absurd hp List.not_mem_nil
  | r :: l, hd, p, hp => by
    have ih := cnd_u hd.2.2
    rcases List.mem_cons.mp hp with z | z
    · subst z
      refine ⟨hd.1, fun q hq e => ?_⟩
      rcases List.mem_cons.mp hq with w | w
      · exact w
      · exact absurd e (hd.2.1 q w)
    · refine ⟨(ih p z).1, fun q hq e => ?_⟩
      rcases List.mem_cons.mp hq with w | w
      · subst w; exact absurd e.symm (hd.2.1 p z)
      · exact (ih p z).2 q w e
theorem mz_con (f : Nat) : mm_zero (mf_ty f) (mf_len f) = (mf_len f, mcon (fun _ _ => 0) f) := by
  unfold mm_zero mcon
  by_cases h : mf_ty f = 1
  · rw [h]; rfl
  · split
    · rename_i z; exact absurd z h
    · split
      · rename_i z; exact absurd z h
      · rfl
theorem cnd_mx {a : Nat} {l : List (Nat × Nat)} (hd : cnd a l) (hf : ∀ f, mf_is f = true → ∃ b, (b, f) ∈ l) (hs : ∀ p ∈ l, mf_is p.2 = true) (hu : ∀ p ∈ l, ∀ q ∈ l, p.2 = q.2 → p = q) : mx (cA a l) (cX a l) := by
  have g : ∀ p ∈ l, cA a l p.2 = p.1 := fun p hp => by
    unfold cA
    rw [if_neg (mf_99 (hs p hp))]
    cases e : l.find? (fun q => q.2 == p.2) with
    | none => exact absurd (List.find?_eq_none.mp e p hp) (by simp)
    | some q =>
      have h1 := List.mem_of_find?_eq_some e
      have h2 := List.find?_some e
      rw [hu q h1 p hp (by simpa using h2)]
  have x : ∀ p ∈ l, cX a l p.1 = some p.2 := fun p hp => by
    unfold cX
    rw [if_neg (cnd_u hd p hp).1]
    cases e : l.find? (fun q => q.1 == p.1) with
    | none => exact absurd (List.find?_eq_none.mp e p hp) (by simp)
    | some q =>
      have h1 := List.mem_of_find?_eq_some e
      have h2 := List.find?_some e
      rw [(cnd_u hd p hp).2 q h1 (by simpa using h2)]
  refine ⟨fun f hf' => ?_, ?_, fun q f e => ?_⟩
  · obtain ⟨b, hb⟩ := hf f hf'
    rw [show cA a l f = b from g _ hb]
    exact x _ hb
  · show (if (if 99 = 99 then a else _) = a then _ else _) = _
    rw [if_pos rfl, if_pos rfl]
  · unfold cX at e
    split at e
    · rename_i z
      cases e
      exact ⟨by unfold cA; rw [if_pos rfl]; exact z, Or.inl rfl⟩
    · split at e
      · rename_i p hp
        cases e
        have h1 := List.mem_of_find?_eq_some hp
        have h2 := List.find?_some hp
        exact ⟨by rw [g p h1]; exact (by simpa using h2 : p.1 = q).symm, Or.inr (hs p h1)⟩
      · cases e
theorem cnd_hm {h : mmH} {a : Nat} {l : List (Nat × Nat)} : va_up (cfl G h l) a (some (.inr (6, mobj (cA a l) (fun _ _ => 0)))) = hm G (cA a l) (cX a l) h (fun _ _ => 0) ∨ ∃ p ∈ l, p.2 = 99 := by
  by_cases hs : ∃ p ∈ l, p.2 = 99
  · exact Or.inr hs
  · refine Or.inl ?_
    funext q
    unfold hm cX
    by_cases e : q = a
    · rw [e, up_s, if_pos rfl]; rfl
    · rw [up_n e, if_neg e, cfl_at]
      cases z : l.find? (fun p => p.1 == q) with
      | none => rfl
      | some p =>
        dsimp only
        rw [if_neg (fun w => hs ⟨p, List.mem_of_find?_eq_some z, w⟩)]
        unfold marr
        rw [mz_con]
end MR16
