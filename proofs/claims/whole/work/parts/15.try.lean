section TRY
variable {L : Launch} {G : mmG} {h : mmH}
def mm_no : String → mmH → Prop := fun _ _ => False
set_option maxRecDepth 100000 in
theorem t_Sending_isLive (hF : mm_F G) (htr : L.stackTraces = false) {a : Nat} {v : Int32} {fs : List Value} (ha : h a = some (.inr (2, .int v :: fs))) :
    mm_Met L G SX2_isLive [.ref a] h 0 0 (fun r h1 => r = some (.int (if v = 0 ∨ v = 1 then 1 else 0)) ∧ h1 = h) mm_no := by
  refine mm_meth MX2_isLive 100 hF htr okX2_isLive (by decide +kernel) (Nat.le_of_ble_eq_true rfl) (fun θ hc => ?_)
  refine ⟨_, ha, ?_⟩
  refine ⟨fun e => ?_, fun e => ?_⟩
  · have e : v = 0 := e
    exact ⟨Or.inr rfl, ⟨by rw [if_pos (Or.inl e)]; rfl, rfl⟩, Nat.le_refl _, Nat.le_refl _⟩
  · have e : ¬ v = 0 := e
    refine ⟨_, ha, ?_⟩
    refine ⟨fun e2 => ?_, fun e2 => ?_⟩
    · have e2 : ¬ v = 1 := e2
      exact ⟨Or.inl rfl, ⟨by rw [if_neg (fun q => q.elim e e2)]; rfl, rfl⟩, Nat.le_refl _, Nat.le_refl _⟩
    · have e2 : v = 1 := e2
      exact ⟨Or.inr rfl, ⟨by rw [if_pos (Or.inr e2)]; rfl, rfl⟩, Nat.le_refl _, Nat.le_refl _⟩
set_option maxRecDepth 100000 in
/-- giveUp -/
theorem t_Sending_giveUp (hF : mm_F G) (htr : L.stackTraces = false) {a : Nat} {why : Int64} {f0 f1 f2 f3 f4 f5 f6 f7 f8 f9 f10 f11 : Value} (ha : h a = some (.inr (2, [f0, f1, f2, f3, f4, f5, f6, f7, f8, f9, f10, f11]))) :
    mm_Met L G SX2_giveUp [.ref a, .long why] h 0 0 (fun r h1 => r = none ∧ h1 = va_up h a (some (.inr (2, [.int 3, f1, f2, f3, f4, f5, f6, f7, f8, f9, .long why, .int 1])))) mm_no := by
  refine mm_meth MX2_giveUp 100 hF htr okX2_giveUp (by decide +kernel) (Nat.le_of_ble_eq_true rfl) (fun θ hc => ?_)
  refine ⟨_, ha, trivial, ?_⟩
  refine ⟨_, if_pos rfl, trivial, ?_⟩
  refine ⟨_, if_pos rfl, Or.inr rfl, ?_⟩
  refine ⟨⟨rfl, ?_⟩, Nat.le_refl _, Nat.le_refl _⟩
  rw [bx_uu, bx_uu]
  rfl
set_option maxRecDepth 100000 in
theorem t_Sending_hasUnsent (hF : mm_F G) (htr : L.stackTraces = false) {a : Nat} {v wr se : Int32} {f1 f2 : Value} {fs : List Value} (ha : h a = some (.inr (2, .int v :: f1 :: f2 :: .int wr :: .int se :: fs))) :
    mm_Met L G SX2_hasUnsent [.ref a] h 0 0 (fun r h1 => r = some (.int (if (v = 0 ∨ v = 1) ∧ se < wr then 1 else 0)) ∧ h1 = h) mm_no := by
  refine mm_meth MX2_hasUnsent 100 hF htr okX2_hasUnsent (by decide +kernel) (Nat.le_of_ble_eq_true rfl) (fun θ hc => ?_)
  refine ⟨⟨_, ha⟩, 0, 0, _, _, t_Sending_isLive hF htr ha, Nat.le_refl _, Nat.le_refl _, ?_, fun _ _ q => q.elim⟩
  rintro _ _ ⟨rfl, rfl⟩
  refine ⟨fun e => ?_, fun e => ?_⟩
  · sorry
  · sorry
end TRY
