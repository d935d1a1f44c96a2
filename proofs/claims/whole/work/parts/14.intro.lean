section MSI
variable {L : Launch} {G : mmG} {M : mmM} {MC MS : Nat} {PR : Option Value → mmH → Prop} {PX : String → mmH → Prop} {h : mmH}
/-- a method's contract out of its walk -/
theorem mm_intro (M : mmM) (hF : mm_F G) (htr : L.stackTraces = false) {av : List Value} (hst : (plainName (mm_y M.1).cls && (decide ((mm_y M.1).cls = M.2.1) && Nat.beq (mm_pc M 0) 0)) = true) (hlen : (lg_sl av).length ≤ mm_nL M.1) (hcw : ∀ S ∈ M.2.2.2.1, mm_cw S ∈ lw_tbl)
    (body : ∀ θ : mmT, mm_C L G M θ → mm_W L G M MC MS PR PX θ 0 (lv_args 0 av) [] h 0 0) : mm_Met L G M.1 av h MC MS PR PX := by
  simp only [Bool.and_eq_true, decide_eq_true_eq] at hst
  obtain ⟨hy, hcls, hpc⟩ := hst
  have hpc := Nat.eq_of_beq_eq_true hpc
  have fin : ∀ (p : Program) (e : Env) (s : State) (m : MethodId) (args : Array Value) (below : List Frame) (meth : Method) (c : Code) (s₁ : State), BodyLoose p L (mm_y M.1) (headSpec (mm_ws M.1) (mm_room M.1 MC MS)) (mm_b M.1) (mm_nL M.1) (mm_r M.1) e s m args below meth c s₁ → c.maxLocals = mm_nL M.1 → c.exceptionTable.toList = tableOf (mm_hh M.1) → mm_Pc G av h args s →
      W p L e (mm_room M.1 MC MS) s m args below meth c s.heap [] 0 0 (vx_MQ below (mm_Qc G PR) (mm_XC G PX) args s MC MS (mm_A G)) (entryFrame m args (mm_nL M.1)) := by
    intro p e s m args below meth c s₁ B hml htab hv
    obtain ⟨rfl, hR, hW⟩ := hv
    have hC : mm_C L G M (p, e, s, m, av.toArray, below, meth, c) := ⟨hF, B.exec, B.bytes, hml, B.returns, hcls ▸ findClass_of_methodNamed B.named, B.notSynchronized, hW, (name_of_methodNamed B.named B.method).1, htab, htr, ⟨hR.1, hR.2.1⟩, hcw⟩
    have hl := lv_entry av (n := mm_nL M.1) hlen
    rw [lg_entry_eq]
    have K := body _ hC s.heap [] _ hR hl (fun _ h => nomatch h)
    rw [hpc] at K
    exact K
  by_cases hh : mm_plain M.1 = true
  · refine vx_ofW (cc := mm_b M.1) (maxL := mm_nL M.1) (ret := mm_r M.1) (ws' := []) hy (by rw [mm_ws, mm_cw_plain hh]) ?_
    intro p e s m args below meth c s₁ B hml ht hv
    refine fin p e s m args below meth c s₁ B hml ?_ hv
    have e9 : mm_hh M.1 = [] := List.isEmpty_iff.mp hh
    rw [e9]
    cases hx : c.exceptionTable.toList with
    | nil => rfl
    | cons a r => exact (ht a (by rw [hx]; exact List.mem_cons_self)).elim
  · have hh : (!mm_plain M.1) = true := by simpa using hh
    refine vx_ofWH (cc := mm_b M.1) (maxL := mm_nL M.1) (ret := mm_r M.1) (hh := mm_hh M.1) (ws' := []) hy (by rw [mm_ws, mm_cw_with hh]) ?_
    intro p e s m args below meth c s₁ B hml hv
    refine fin p e s m args below meth c s₁ B hml ?_ hv
    exact vx_table (x := mm_y M.1) B (atoms_spec (ws := mm_ws M.1) B.pre _ (by rw [mm_ws, mm_cw_with hh]; exact List.mem_singleton.mpr rfl))
/-- .. by a run -/
theorem mm_meth (M : mmM) (f : Nat) (hF : mm_F G) (htr : L.stackTraces = false) (hok : mm_ok M = true) {av : List Value} (hst : (plainName (mm_y M.1).cls && (decide ((mm_y M.1).cls = M.2.1) && Nat.beq (mm_pc M 0) 0)) = true) (hlen : (lg_sl av).length ≤ mm_nL M.1) (hcw : ∀ S ∈ M.2.2.2.1, mm_cw S ∈ lw_tbl)
    (body : ∀ θ : mmT, mm_C L G M θ → mm_run L G M MC MS PR PX θ f 0 (lv_args 0 av) [] h 0 0) : mm_Met L G M.1 av h MC MS PR PX :=
  mm_intro M hF htr hst hlen hcw (fun θ hc => mm_sound hc hok f _ _ _ _ _ _ (body θ hc))
/-- a contract that says less, and asks more room -/
theorem mm_Met.mono {S : mmS} {av : List Value} {PR' : Option Value → mmH → Prop} {PX' : String → mmH → Prop} (hM : mm_Met L G S av h MC MS PR PX) (h1 : ∀ v h1, PR v h1 → PR' v h1) (h2 : ∀ E h1, PX E h1 → PX' E h1) : mm_Met L G S av h MC MS PR' PX' := by
  intro p e ha hc hk s m args below hf happ hP hK
  obtain ⟨n, o, g1, g2, g3, hq⟩ := hM p e ha hc hk s m args below hf happ hP hK
  refine ⟨n, o, g1, g2, g3, ?_⟩
  rcases hq with ⟨⟨v, h9, e1, hp, hR⟩, hq⟩ | ⟨q, e1, E, ce, Ls, ⟨h9, hp, hR⟩, hq⟩
  · exact Or.inl ⟨⟨v, h9, e1, h1 v h9 hp, hR⟩, hq⟩
  · exact Or.inr ⟨q, e1, E, ce, Ls, ⟨h9, h2 E h9 hp, hR⟩, hq⟩
end MSI
