/-! the law: its entry, its contract -/
section LE
variable {L : Launch} {G : mmG} {A : Nat → Nat} {ax : Nat → Option Nat} {B : Nat → Nat → Nat} {bx : Nat → Option (Nat × Nat)} {ao : Nat} {κ μ : Nat → Nat → Int}
theorem hm_no {h : mmH} {a : Nat} (e : hm G A ax h μ a = none) : ax a = none := by
  unfold hm at e
  cases z : ax a with
  | none => rfl
  | some f =>
    rw [z] at e
    have e : (if f = 99 then some (.inr (6, mobj A μ)) else some (marr G μ f)) = (none : Option va_E) := e
    split at e <;> cases e
theorem hm_no2 {h : mmH} {a : Nat} (e : hm G A ax h μ a = none) : h a = none := by
  have z := hm_no e
  unfold hm at e
  rw [z] at e
  exact e
theorem oc_zero : (.inl (mm_dA G 1, mm_zero 1 1) : va_E) = oc G (fun _ => 0) := rfl
theorem lH_new (h1 : ax ao = none) (h2 : bx ao = none) : va_up (hm G A ax (hk G B bx (fun _ => none) κ) μ) ao (some (oc G (fun _ => 0))) = hm G A ax (hk G B bx (va_up (fun _ => none) ao (some (oc G (fun _ => 0)))) κ) μ := by
  funext q
  by_cases e : q = ao
  · subst e
    rw [up_s]
    unfold hm
    rw [h1]
    show _ = hk G B bx _ κ q
    rw [hk_rest h2, up_s]
  · rw [up_n e]
    unfold hm
    cases ax q with
    | some f => rfl
    | none =>
      show hk G B bx _ κ q = hk G B bx _ κ q
      unfold hk
      cases bx q with
      | some p => rfl
      | none =>
        show (fun _ => none) q = va_up (fun _ => none) ao (some (oc G (fun _ => 0))) q
        rw [up_n e]
set_option maxRecDepth 100000 in
set_option maxHeartbeats 4000000 in
theorem m_law (hF : mm_F G) (htr : L.stackTraces = false) (hl : G.2.2.2.2.2.1 ≤ 4608) : mm_Met L G SL_law [.ref G.2.2.2.2.1] (fun _ => none) 601024 7293034 lwPR mm_no := by
  refine mi_meth ML_law 40 hF htr okL_law (av := [aR G.2.2.2.2.1]) (by decide +kernel) (Nat.le_of_ble_eq_true rfl) cmL_law (fun θ hc => ?_)
  refine ⟨by decide, by decide, fun a0 ha0 hA0 => ?_⟩
  refine ⟨_, _, _, _, m_hInit hF htr, by decide, by decide, fun v h1 q => ?_, fun _ _ q => q.elim⟩
  obtain ⟨rfl, B, bx, hx, hb, -, rfl⟩ := q
  refine ⟨none, rfl, ?_⟩
  refine ⟨by decide, by decide, fun a1 ha1 hA1 => ?_⟩
  refine mi_nl [(1, aR a0), (0, aR G.2.2.2.2.1)] rfl ?_
  refine ⟨_, _, _, _, m_init6 hF htr, by decide, by decide, fun v h1 q => ?_, fun _ _ q => q.elim⟩
  obtain ⟨A, ax, mX, hA, hfr, ⟨rfl, rfl⟩, hV⟩ := q
  refine ⟨none, rfl, ?_⟩
  refine ⟨⟨by decide, by decide⟩, by decide, by decide, fun ao hao hAo => ?_⟩
  have x1 : ax ao = none := hm_no hao
  have x2 : bx ao = none := hk_no (hm_no2 hao)
  have hs : lS B bx A ax ao k00 := ⟨hx, mX, fun q => by
    cases e : ax q with
    | none => exact Or.inr rfl
    | some f =>
      refine Or.inl ?_
      rcases hfr q f e with z | z
      · rw [z]; exact hk_no ha1
      · exact hk_no z, x2, x1⟩
  have w : lwN L G θ A ax ao a0 13 0 0 := lw_loop hc hl (G.2.2.2.2.2.1 + 1) 0 (by omega) (by omega)
  have hp : ((858689 : Nat) : Int) ≤ 1000000 + 1700 * ((0 : Nat) : Int) + kPot k00 := by rw [Pot_00]; decide
  have k := w k00 m00 B bx (fun _ => 0) (fun _ => 0) 140 858689 hs (lI_00 hV) hb (by omega) hp
  rw [lH_hm hs, ← lH_new x1 x2] at k
  subst hA
  exact mi_Wsub (l' := [(4, aI 0), (3, aR ao), (2, aR (A 99)), (1, aR a0), (0, aR G.2.2.2.2.1)]) (List.forall_mem_cons.mpr ⟨.tail _ (.tail _ (.tail _ (.tail _ (.head _)))), List.forall_mem_cons.mpr ⟨.tail _ (.tail _ (.tail _ (.head _))), List.forall_mem_cons.mpr ⟨.tail _ (.tail _ (.head _)), List.forall_mem_cons.mpr ⟨.tail _ (.head _), List.forall_mem_cons.mpr ⟨.head _, fun _ h => absurd h List.not_mem_nil⟩⟩⟩⟩⟩) k
end LE
