/-! the law's loop -/
section LL
variable {L : Launch} {G : mmG} {θ : mmT} {A : Nat → Nat} {ax : Nat → Option Nat} {ao b5 n : Nat}
theorem ix_law : [88, 148, 172, 272, 356, 424, 499, 618, 737, 817, 885, 941, 1005, 1211, 1278, 1346, 1401, 1480].map (fun o => mm_ix ML_law (((40 : Nat) : Int) + o)) = [25, 67, 79, 148, 201, 246, 294, 376, 458, 513, 558, 593, 633, 780, 824, 869, 903, 957] := by decide +kernel
theorem ix_def : mm_ix ML_law (((40 : Nat) : Int) + 1547) = 1001 := by decide +kernel
theorem sw_gen {a : Int} {T : Nat → Prop} {f : Int → Nat} : ∀ (os : List Int) (js : List Nat) (lo : Int), os.map f = js → (∀ j ∈ js, T j) → mi_swc a (fun o => T (f o)) os lo
  | [], _, _, _, _ => trivial
  | o :: r, js, lo, e, h => by
    subst e
    exact ⟨fun _ => h _ (List.mem_map.mpr ⟨o, List.mem_cons_self, rfl⟩), sw_gen r _ (lo + 1) rfl (fun j hj => h j (List.mem_cons_of_mem _ hj))⟩
set_option maxRecDepth 100000 in
theorem lw_inc (hc : mm_C L G ML_law θ) (nx : lwN L G θ A ax ao b5 13 (n + 1) (n + 1)) : lwN L G θ A ax ao b5 1001 n (n + 1) := by
  intro κ μ B bx O o cs sl hs hI hb hcs hsl
  have w := nx κ μ B bx O o cs sl hs hI hb hcs hsl
  have e : 9 * ((n + 1 : Nat) : Int) = 9 * (n : Int) + 9 := by omega
  rw [e] at w
  refine mi_sound hc okL_law 10 _ _ _ _ _ _ ?_
  exact mi_Wsub (l' := [(4, aI (9 * (n : Int) + 9)), (0, aR G.2.2.2.2.1), (1, aR b5), (2, aR (A 99)), (3, aR ao)]) (List.forall_mem_cons.mpr ⟨.tail _ (.head _), List.forall_mem_cons.mpr ⟨.tail _ (.tail _ (.head _)), List.forall_mem_cons.mpr ⟨.tail _ (.tail _ (.tail _ (.head _))), List.forall_mem_cons.mpr ⟨.tail _ (.tail _ (.tail _ (.tail _ (.head _)))), List.forall_mem_cons.mpr ⟨.head _, fun _ h => absurd h List.not_mem_nil⟩⟩⟩⟩⟩) w
set_option maxRecDepth 100000 in
set_option maxHeartbeats 4000000 in
theorem lw_head (hc : mm_C L G ML_law θ) (hl : G.2.2.2.2.2.1 ≤ 4608) (hn : 9 * n ≤ G.2.2.2.2.2.1) (nx : 9 * n + 9 ≤ G.2.2.2.2.2.1 → lwN L G θ A ax ao b5 13 (n + 1) (n + 1)) : lwN L G θ A ax ao b5 13 n n := by
  intro κ μ B bx O o cs sl hs hI hb hcs hsl
  have pb := Pot_b hI.1 hI.2.2.1
  refine mi_sound hc okL_law 30 _ _ _ _ _ _ ?_
  refine ⟨rfl, ?_⟩
  refine ⟨⟨by omega, by omega, by omega, by omega⟩, fun _ => ?_, fun nc => ?_⟩
  · exact ⟨Or.inr rfl, rfl, by omega, by omega⟩
  have nc : ¬ ((G.2.2.2.2.2.1 : Nat) : Int) - 9 < 9 * (n : Int) := nc
  have hk : 9 * n + 9 ≤ G.2.2.2.2.2.1 := by omega
  have ni := lw_inc hc (nx hk)
  refine ⟨rfl, ⟨by omega, by omega, by omega⟩, ?_⟩
  refine ⟨_, i32_s _, ?_⟩
  refine ⟨⟨i32_lo _, i32_hi _⟩, ?_, fun _ => ?_⟩
  · refine sw_gen (f := fun o => mm_ix ML_law (((40 : Nat) : Int) + o)) (T := fun j => match ML_law.2.2.2.2.1.elem j with
      | true => mm_W L G ML_law 601024 7293034 lwPR mm_no θ j (cl [(0, aR G.2.2.2.2.1), (1, aR b5), (2, aR (A 99)), (3, aR ao), (4, aI (9 * (n : Int)))]) (([] : List AV).map cv) (lH G A ax B bx ao o κ μ) cs sl
      | false => mi_run L G ML_law 601024 7293034 lwPR mm_no θ 18 j [(0, aR G.2.2.2.2.1), (1, aR b5), (2, aR (A 99)), (3, aR ao), (4, aI (9 * (n : Int)))] [] (lH G A ax B bx ao o κ μ) cs sl) _ _ 0 ix_law ?_
    refine List.forall_mem_cons.mpr ⟨lc_grant hc hk hl ni κ μ B bx O o cs sl hs hI hb hcs hsl, ?_⟩
    refine List.forall_mem_cons.mpr ⟨lc_join hc hk hl ni κ μ B bx O o cs sl hs hI hb hcs hsl, ?_⟩
    refine List.forall_mem_cons.mpr ⟨lc_feed hc hk hl ni κ μ B bx O o cs sl hs hI hb hcs hsl, ?_⟩
    refine List.forall_mem_cons.mpr ⟨lc_open hc hk hl ni κ μ B bx O o cs sl hs hI hb hcs hsl, ?_⟩
    refine List.forall_mem_cons.mpr ⟨lc_write hc hk hl ni κ μ B bx O o cs sl hs hI hb hcs hsl, ?_⟩
    refine List.forall_mem_cons.mpr ⟨lc_finish hc hk hl ni κ μ B bx O o cs sl hs hI hb hcs hsl, ?_⟩
    refine List.forall_mem_cons.mpr ⟨lc_reset hc hk hl ni κ μ B bx O o cs sl hs hI hb hcs hsl, ?_⟩
    refine List.forall_mem_cons.mpr ⟨lc_stop hc hk hl ni κ μ B bx O o cs sl hs hI hb hcs hsl, ?_⟩
    refine List.forall_mem_cons.mpr ⟨lc_read hc hk hl ni κ μ B bx O o cs sl hs hI hb hcs hsl, ?_⟩
    refine List.forall_mem_cons.mpr ⟨lc_fill hc hk hl ni κ μ B bx O o cs sl hs hI hb hcs hsl, ?_⟩
    refine List.forall_mem_cons.mpr ⟨lc_deliver hc hk hl ni κ μ B bx O o cs sl hs hI hb hcs hsl, ?_⟩
    refine List.forall_mem_cons.mpr ⟨lc_gone hc hk hl ni κ μ B bx O o cs sl hs hI hb hcs hsl, ?_⟩
    refine List.forall_mem_cons.mpr ⟨lc_take hc hk hl ni κ μ B bx O o cs sl hs hI hb hcs hsl, ?_⟩
    refine List.forall_mem_cons.mpr ⟨lc_line hc hk hl ni κ μ B bx O o cs sl hs hI hb hcs hsl, ?_⟩
    refine List.forall_mem_cons.mpr ⟨lc_data hc hk hl ni κ μ B bx O o cs sl hs hI hb hcs hsl, ?_⟩
    refine List.forall_mem_cons.mpr ⟨lc_outs hc hk hl ni κ μ B bx O o cs sl hs hI hb hcs hsl, ?_⟩
    refine List.forall_mem_cons.mpr ⟨lc_stream hc hk hl ni κ μ B bx O o cs sl hs hI hb hcs hsl, ?_⟩
    refine List.forall_mem_cons.mpr ⟨lc_side hc hk hl ni κ μ B bx O o cs sl hs hI hb hcs hsl, ?_⟩
    exact fun _ h => absurd h List.not_mem_nil
  · have w := ni κ μ B bx O o cs sl hs hI hb (by omega) (by omega)
    show (match ML_law.2.2.2.2.1.elem (mm_ix ML_law (((40 : Nat) : Int) + 1547)) with
      | true => mm_W L G ML_law 601024 7293034 lwPR mm_no θ (mm_ix ML_law (((40 : Nat) : Int) + 1547)) (cl [(0, aR G.2.2.2.2.1), (1, aR b5), (2, aR (A 99)), (3, aR ao), (4, aI (9 * (n : Int)))]) (([] : List AV).map cv) (lH G A ax B bx ao o κ μ) cs sl
      | false => mi_run L G ML_law 601024 7293034 lwPR mm_no θ 18 (mm_ix ML_law (((40 : Nat) : Int) + 1547)) [(0, aR G.2.2.2.2.1), (1, aR b5), (2, aR (A 99)), (3, aR ao), (4, aI (9 * (n : Int)))] [] (lH G A ax B bx ao o κ μ) cs sl)
    rw [ix_def]
    exact w
theorem lw_loop (hc : mm_C L G ML_law θ) (hl : G.2.2.2.2.2.1 ≤ 4608) : ∀ k n : Nat, 9 * n ≤ G.2.2.2.2.2.1 → G.2.2.2.2.2.1 < 9 * n + 9 * k → lwN L G θ A ax ao b5 13 n n := by
  intro k
  induction k with
  | zero => intro n h1 h2; omega
  | succ k ih => intro n h1 h2; exact lw_head hc hl h1 (fun h3 => ih (n + 1) (by omega) (by omega))
end LL
