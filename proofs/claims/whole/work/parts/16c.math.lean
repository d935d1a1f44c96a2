section Bodies
variable {l : Launch}
/-- a body of a class of which the model runs other methods itself -/
theorem vx_ofWF {y : MethodName} {ws ws' : List Cond} {rm : Room} {Pc : Array Value → State → Prop} {Qc : Array Value → State → Outcome → State → Prop} {XC : String → State → State → Prop} {mc ms : Nat} {free : Addr → Prop} {cc : ByteArray} {maxL : Nat} {ret : Option FieldType}
    (hy : plainFor y = true) (hw : ws = Cond.code y cc maxL ret :: ws')
    (body : ∀ p e s m args below meth c s₁, BodyLoose p l y (headSpec ws rm) cc maxL ret e s m args below meth c s₁ → c.maxLocals = maxL → (∀ x ∈ c.exceptionTable.toList, False) → Pc args s →
      W p l e (headSpec ws rm).room s m args below meth c s.heap [] 0 0 (vx_MQ below Qc XC args s mc ms free) (entryFrame m args maxL)) : vx_Met l y ws rm Pc Qc XC mc ms free := by
  refine MetFree.of_bodySF (code := cc) (maxLocals := maxL) (ret := ret) hy ?_ ?_
  · intro args s m h hn
    obtain ⟨meth, c, h1, h2, h3, h4, h5, h6, -, -⟩ := Cond.code_spec hn (atoms_spec (ws := ws) h _ (by rw [hw]; exact List.mem_cons_self))
    exact ⟨meth, c, h1, h2, h3, h4, h5, h6⟩
  · intro p e s m args below meth c s₁ B hml hP _
    have hh0 : s₁.heap = s.heap := by rw [B.state]; rfl
    have ht : ∀ x ∈ c.exceptionTable.toList, False := by
      obtain ⟨meth9, c9, h1, h2, -, -, -, -, h7, -⟩ := Cond.code_spec B.named (atoms_spec (ws := ws) B.pre _ (by rw [hw]; exact List.mem_cons_self))
      cases Option.some.inj (h1.symm.trans B.method)
      cases Option.some.inj (h2.symm.trans (Stand.of_body B).code)
      intro x hx
      rw [Array.isEmpty_iff.mp h7] at hx
      cases hx
    obtain ⟨t, a1, o, b1, b2, b3⟩ := body p e s m args below meth c s₁ B hml ht hP s₁ hh0 (Stand.of_body B)
    exact ⟨t, o, a1, b1, b2, b3⟩
end Bodies
section MSF
variable {L : Launch} {G : mmG} {M : mmM} {MC MS : Nat} {PR : Option Value → mmH → Prop} {PX : String → mmH → Prop}
theorem mm_introF {h : mmH} (M : mmM) (hF : mm_F G) (htr : L.stackTraces = false) {av : List Value} (hpl : plainFor (mm_y M.1) = true) (hh : mm_plain M.1 = true) (hst : ((decide ((mm_y M.1).cls = M.2.1) && Nat.beq (mm_pc M 0) 0)) = true) (hlen : (lg_sl av).length ≤ mm_nL M.1) (hcw : ∀ S ∈ M.2.2.2.1, mm_cw S ∈ lw_tbl)
    (body : ∀ θ : mmT, mm_C L G M θ → mm_W L G M MC MS PR PX θ 0 (lv_args 0 av) [] h 0 0) : mm_Met L G M.1 av h MC MS PR PX := by
  simp only [Bool.and_eq_true, decide_eq_true_eq] at hst
  obtain ⟨hcls, hpc⟩ := hst
  have hpc := Nat.eq_of_beq_eq_true hpc
  have fin : ∀ (p : Program) (e : Env) (s : State) (m : MethodId) (args : Array Value) (below : List Frame) (meth : Method) (c : Code) (s₁ : State), BodyLoose p L (mm_y M.1) (headSpec (mm_ws M.1) (mm_room M.1 MC MS)) (mm_b M.1) (mm_nL M.1) (mm_r M.1) e s m args below meth c s₁ → c.maxLocals = mm_nL M.1 → c.exceptionTable.toList = tableOf (mm_hh M.1) → mm_Pc G av h args s →
      W p L e (mm_room M.1 MC MS) s m args below meth c s.heap [] 0 0 (vx_MQ below (mm_Qc G PR) (mm_XC G PX) args s MC MS (mm_A G)) (entryFrame m args (mm_nL M.1)) := by
    intro p e s m args below meth c s₁ B hml htab hv
    obtain ⟨rfl, hR, hW⟩ := hv
    have hC : mm_C L G M (p, e, s, m, av.toArray, below, meth, c) := ⟨hF, B.exec, B.bytes, hml, B.returns, hcls ▸ findClass_of_methodNamed B.named, B.notSynchronized, hW, (name_of_methodNamed B.named B.method).1, htab, htr, ⟨hR.1, hR.2.1⟩, hcw⟩
    have hl := lv_entry av (n := mm_nL M.1) hlen
    rw [lg_entry_eq]
    have K := body _ hC s.heap [] _ hR hl (fun _ h => nomatch h)
    rw [hpc] at K
    exact K
  refine vx_ofWF (cc := mm_b M.1) (maxL := mm_nL M.1) (ret := mm_r M.1) (ws' := []) hpl (by rw [mm_ws, mm_cw_plain hh]) ?_
  intro p e s m args below meth c s₁ B hml ht hv
  refine fin p e s m args below meth c s₁ B hml ?_ hv
  have e9 : mm_hh M.1 = [] := List.isEmpty_iff.mp hh
  rw [e9]
  cases hx : c.exceptionTable.toList with
  | nil => rfl
  | cons a r => exact (ht a (by rw [hx]; exact List.mem_cons_self)).elim
theorem mi_methF (M : mmM) (f : Nat) (hF : mm_F G) (htr : L.stackTraces = false) (hok : mm_ok M = true) {av : List AV} {h : mmH} (hpl : plainFor (mm_y M.1) = true) (hh : mm_plain M.1 = true) (hst : (decide ((mm_y M.1).cls = M.2.1) && Nat.beq (mm_pc M 0) 0) = true) (hlen : (lg_sl (av.map cv)).length ≤ mm_nL M.1) (hcw : ∀ S ∈ M.2.2.2.1, mm_cw S ∈ lw_tbl)
    (body : ∀ θ : mmT, mm_C L G M θ → mi_run L G M MC MS PR PX θ f 0 (mi_args 0 av) [] h 0 0) : mm_Met L G M.1 (av.map cv) h MC MS PR PX :=
  mm_introF M hF htr hpl hh hst hlen hcw (fun θ hc => mm_sound hc hok f _ _ _ _ _ _ (by
    have := mi_run_c f _ _ _ _ _ _ (body θ hc)
    rw [mi_args_c] at this
    exact this))
end MSF
