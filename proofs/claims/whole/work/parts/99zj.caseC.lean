section LC3
variable {L : Launch} {G : mmG} {θ : mmT} {A : Nat → Nat} {ax : Nat → Option Nat} {ao b5 n : Nat}
set_option maxRecDepth 100000 in
set_option maxHeartbeats 4000000 in
theorem lc_take (hc : mm_C L G ML_law θ) (hn : 9 * n + 9 ≤ G.2.2.2.2.2.1) (hl : G.2.2.2.2.2.1 ≤ 4608) (nx : lwN L G θ A ax ao b5 1001 n (n + 1)) : lwN L G θ A ax ao b5 633 n n := by
  intro κ μ B bx O o cs sl hs hI hb hcs hsl
  subst hb
  have hF : mm_F G := hc.1
  have htr : L.stackTraces = false := hc.2.2.2.2.2.2.2.2.2.2.1
  have pb := Pot_b hI.1 hI.2.2.1
  have bd := kTkc_le κ (sx G n 1) (sx G n 2) (lx G n 3 4) (lx G n 5 6) (lx G n 7 8)
  refine mi_sound hc okL_law 200 _ _ _ _ _ _ ?_
  refine ⟨rfl, by omega, ?_⟩
  refine ⟨rfl, by omega, ?_⟩
  refine ⟨rfl, by omega, ?_⟩
  refine ⟨⟨i32_lo _, i32_hi _⟩, ?_⟩
  refine ⟨_, i64_s _, ?_⟩
  refine ⟨rfl, by omega, ?_⟩
  refine ⟨⟨i32_lo _, i32_hi _⟩, ?_⟩
  refine ⟨4294967295, rfl, ?_⟩
  refine ⟨_, i64_s _, ?_⟩
  refine ⟨_, i64_s _, ?_⟩
  refine ⟨rfl, by omega, ?_⟩
  refine ⟨⟨i32_lo _, i32_hi _⟩, ?_⟩
  refine ⟨_, i64_s _, ?_⟩
  refine ⟨rfl, by omega, ?_⟩
  refine ⟨⟨i32_lo _, i32_hi _⟩, ?_⟩
  refine ⟨4294967295, rfl, ?_⟩
  refine ⟨_, i64_s _, ?_⟩
  refine ⟨_, i64_s _, ?_⟩
  refine ⟨rfl, by omega, ?_⟩
  refine ⟨⟨i32_lo _, i32_hi _⟩, ?_⟩
  refine ⟨_, i64_s _, ?_⟩
  refine ⟨rfl, by omega, ?_⟩
  refine ⟨⟨i32_lo _, i32_hi _⟩, ?_⟩
  refine ⟨4294967295, rfl, ?_⟩
  refine ⟨_, i64_s _, ?_⟩
  refine ⟨_, i64_s _, ?_⟩
  refine ⟨_, _, _, _, w_take (s := (sx G n 1)) (u := (sx G n 2)) (a := (lx G n 3 4)) (b := (lx G n 5 6)) (c := (lx G n 7 8)) hF htr hs hI (i32_lo _) (i32_hi _) (i32_lo _) (i32_hi _) (i64_lo _) (i64_hi _) (i64_lo _) (i64_hi _) (i64_lo _) (i64_hi _), by omega, by omega, fun v h1 q => ?_, fun _ _ q => q.elim⟩
  obtain ⟨B', bx', κ', o', rfl, rfl, hs', hb', qq⟩ := q
  refine ⟨some (aI (kR 2 (e_kTakeM κ (sx G n 1) (sx G n 2) (lx G n 3 4) (lx G n 5 6) (lx G n 7 8)))), rfl, ?_⟩
  refine ⟨rfl, by omega, ?_⟩
  refine mi_nl [(5, _), (0, _), (1, _), (2, _), (3, _), (4, _)] rfl ?_
  refine ⟨rfl, by omega, ?_⟩
  refine ⟨rfl, by omega, ?_⟩
  refine ⟨⟨i32_lo _, i32_hi _⟩, ?_⟩
  refine ⟨_, i64_s _, ?_⟩
  refine ⟨rfl, by omega, ?_⟩
  refine ⟨⟨i32_lo _, i32_hi _⟩, ?_⟩
  refine ⟨4294967295, rfl, ?_⟩
  refine ⟨_, i64_s _, ?_⟩
  refine ⟨_, i64_s _, ?_⟩
  refine ⟨rfl, by omega, ?_⟩
  refine ⟨⟨i32_lo _, i32_hi _⟩, ?_⟩
  refine ⟨_, i64_s _, ?_⟩
  refine ⟨rfl, by omega, ?_⟩
  refine ⟨⟨i32_lo _, i32_hi _⟩, ?_⟩
  refine ⟨4294967295, rfl, ?_⟩
  refine ⟨_, i64_s _, ?_⟩
  refine ⟨_, i64_s _, ?_⟩
  refine ⟨rfl, by omega, ?_⟩
  refine ⟨⟨i32_lo _, i32_hi _⟩, ?_⟩
  refine ⟨_, i64_s _, ?_⟩
  refine ⟨rfl, by omega, ?_⟩
  refine ⟨⟨i32_lo _, i32_hi _⟩, ?_⟩
  refine ⟨4294967295, rfl, ?_⟩
  refine ⟨_, i64_s _, ?_⟩
  refine ⟨_, i64_s _, ?_⟩
  refine ⟨lH_A hs', _, _, _, _, n_take (s := (sx G n 1)) (u := (sx G n 2)) (a := (lx G n 3 4)) (b := (lx G n 5 6)) (c := (lx G n 7 8)) hF htr hs' hI (i32_lo _) (i32_hi _) (i32_lo _) (i32_hi _) (i64_lo _) (i64_hi _) (i64_lo _) (i64_hi _) (i64_lo _) (i64_hi _), by omega, by omega, mkis_ (r := some (aI (v_take μ (sx G n 1) (sx G n 2) (lx G n 3 4) (lx G n 5 6) (lx G n 7 8)))) (fun ⟨hV', hB', hP'⟩ => ?_), fun _ _ q => q.elim⟩
  obtain ⟨k1, ⟨O', kI, kp⟩, ka⟩ := K_take hI (sx G n 1) (sx G n 2) (lx G n 3 4) (lx G n 5 6) (lx G n 7 8) hV' hB' hP' qq
  have v0 : 0 ≤ (s_take μ (sx G n 1) (sx G n 2) (lx G n 3 4) (lx G n 5 6) (lx G n 7 8)) 0 0 ∧ (s_take μ (sx G n 1) (sx G n 2) (lx G n 3 4) (lx G n 5 6) (lx G n 7 8)) 0 0 ≤ 2 := hV' 0 0
  refine ⟨lH_A hs', _, _, _, _, n_thrown hF htr hs' hV', by omega, by omega, mki_ (r := some (aI ((s_take μ (sx G n 1) (sx G n 2) (lx G n 3 4) (lx G n 5 6) (lx G n 7 8)) 0 0))) ?_, fun _ _ q => q.elim⟩
  refine mi_nl [(6, _), (5, _), (0, _), (1, _), (2, _), (3, _), (4, _)] rfl ?_
  have fin := nx κ' (s_take μ (sx G n 1) (sx G n 2) (lx G n 3 4) (lx G n 5 6) (lx G n 7 8)) B' bx' O' o' (cs + 324 + 0 + 0) (sl + (1682 + kTkc κ (sx G n 1) (sx G n 2) (lx G n 3 4) (lx G n 5 6) (lx G n 7 8)) + 0 + 0) hs' kI hb' (by omega) (by omega)
  refine ⟨by omega, fun _ => ?_, fun ne => absurd k1 ne⟩
  refine ⟨by omega, fun _ => mi_Wsub (List.forall_mem_cons.mpr ⟨.tail _ (.tail _ (.head _)), List.forall_mem_cons.mpr ⟨.tail _ (.tail _ (.tail _ (.head _))), List.forall_mem_cons.mpr ⟨.tail _ (.tail _ (.tail _ (.tail _ (.head _)))), List.forall_mem_cons.mpr ⟨.tail _ (.tail _ (.tail _ (.tail _ (.tail _ (.head _))))), List.forall_mem_cons.mpr ⟨.tail _ (.tail _ (.tail _ (.tail _ (.tail _ (.tail _ (.head _)))))), fun _ h => absurd h List.not_mem_nil⟩⟩⟩⟩⟩) fin, fun ez => ?_⟩
  have e0 := kR_z (show kR 2 (e_kTakeM κ (sx G n 1) (sx G n 2) (lx G n 3 4) (lx G n 5 6) (lx G n 7 8)) = 0 from ez)
  refine ⟨1, (fun q => (iL (o' q)).toInt), _, (lH_ao hs').trans (congrArg some (oc_n o')), by omega, rfl, ?_⟩
  obtain ⟨a1, a2⟩ := ka e0
  have a3 : (iL (o' 0)).toInt = v_take μ (sx G n 1) (sx G n 2) (lx G n 3 4) (lx G n 5 6) (lx G n 7 8) := by rw [a1]; exact iL_t (by omega) (by omega)
  refine ⟨a2, ?_⟩
  exact ⟨⟨i64_lo _, i64_hi _, by omega, by omega⟩, fun _ => mi_Wsub (List.forall_mem_cons.mpr ⟨.tail _ (.tail _ (.head _)), List.forall_mem_cons.mpr ⟨.tail _ (.tail _ (.tail _ (.head _))), List.forall_mem_cons.mpr ⟨.tail _ (.tail _ (.tail _ (.tail _ (.head _)))), List.forall_mem_cons.mpr ⟨.tail _ (.tail _ (.tail _ (.tail _ (.tail _ (.head _))))), List.forall_mem_cons.mpr ⟨.tail _ (.tail _ (.tail _ (.tail _ (.tail _ (.tail _ (.head _)))))), fun _ h => absurd h List.not_mem_nil⟩⟩⟩⟩⟩) fin, fun ne => absurd a3 ne⟩
set_option maxRecDepth 100000 in
set_option maxHeartbeats 4000000 in
theorem lc_line (hc : mm_C L G ML_law θ) (hn : 9 * n + 9 ≤ G.2.2.2.2.2.1) (hl : G.2.2.2.2.2.1 ≤ 4608) (nx : lwN L G θ A ax ao b5 1001 n (n + 1)) : lwN L G θ A ax ao b5 780 n n := by
  intro κ μ B bx O o cs sl hs hI hb hcs hsl
  subst hb
  have hF : mm_F G := hc.1
  have htr : L.stackTraces = false := hc.2.2.2.2.2.2.2.2.2.2.1
  have pb := Pot_b hI.1 hI.2.2.1
  refine mi_sound hc okL_law 200 _ _ _ _ _ _ ?_
  refine ⟨rfl, by omega, ?_⟩
  refine ⟨rfl, by omega, ?_⟩
  refine ⟨_, _, _, _, w_line (p := (sx G n 1)) (q := (sx G n 2)) hF htr hs hI (i32_lo _) (i32_hi _) (i32_lo _) (i32_hi _), by omega, by omega, fun v h1 q => ?_, fun _ _ q => q.elim⟩
  obtain ⟨B', bx', κ', o', rfl, rfl, hs', hb', qq⟩ := q
  refine ⟨some (aI (kR 2 (e_kLine κ (sx G n 1) (sx G n 2)))), rfl, ?_⟩
  refine ⟨rfl, by omega, ?_⟩
  refine mi_nl [(5, _), (0, _), (1, _), (2, _), (3, _), (4, _)] rfl ?_
  refine ⟨rfl, by omega, ?_⟩
  refine ⟨lH_A hs', _, _, _, _, n_line (p := (sx G n 1)) (q := (sx G n 2)) hF htr hs' hI (i32_lo _) (i32_hi _) (i32_lo _) (i32_hi _), by omega, by omega, fun v h1 q => ?_, fun _ _ q => q.elim⟩
  obtain ⟨⟨rfl, rfl⟩, hV'⟩ := q
  refine ⟨some (aL (iL (v_line μ (sx G n 1) (sx G n 2))).toInt), congrArg (fun z => some (Value.long z)) (i64_s _), ?_⟩
  obtain ⟨k1, ⟨O', kI, kp⟩, ka⟩ := K_line hI (sx G n 1) (sx G n 2) hV' qq
  have v0 : 0 ≤ (s_line μ (sx G n 1) (sx G n 2)) 0 0 ∧ (s_line μ (sx G n 1) (sx G n 2)) 0 0 ≤ 2 := hV' 0 0
  refine ⟨lH_A hs', _, _, _, _, n_thrown hF htr hs' hV', by omega, by omega, mki_ (r := some (aI ((s_line μ (sx G n 1) (sx G n 2)) 0 0))) ?_, fun _ _ q => q.elim⟩
  refine mi_nl [(6, _), (5, _), (0, _), (1, _), (2, _), (3, _), (4, _)] rfl ?_
  have fin := nx κ' (s_line μ (sx G n 1) (sx G n 2)) B' bx' O' o' (cs + 2 + 0 + 0) (sl + 12 + 0 + 0) hs' kI hb' (by omega) (by omega)
  refine ⟨by omega, fun _ => ?_, fun ne => absurd k1 ne⟩
  refine ⟨by omega, fun _ => mi_Wsub (List.forall_mem_cons.mpr ⟨.tail _ (.tail _ (.head _)), List.forall_mem_cons.mpr ⟨.tail _ (.tail _ (.tail _ (.head _))), List.forall_mem_cons.mpr ⟨.tail _ (.tail _ (.tail _ (.tail _ (.head _)))), List.forall_mem_cons.mpr ⟨.tail _ (.tail _ (.tail _ (.tail _ (.tail _ (.head _))))), List.forall_mem_cons.mpr ⟨.tail _ (.tail _ (.tail _ (.tail _ (.tail _ (.tail _ (.head _)))))), fun _ h => absurd h List.not_mem_nil⟩⟩⟩⟩⟩) fin, fun ez => ?_⟩
  have e0 := kR_z (show kR 2 (e_kLine κ (sx G n 1) (sx G n 2)) = 0 from ez)
  refine ⟨1, (fun q => (iL (o' q)).toInt), _, (lH_ao hs').trans (congrArg some (oc_n o')), by omega, rfl, ?_⟩
  have a3 : (iL (o' 0)).toInt = (iL (v_line μ (sx G n 1) (sx G n 2))).toInt := by rw [ka e0]
  exact ⟨⟨i64_lo _, i64_hi _, i64_lo _, i64_hi _⟩, fun _ => mi_Wsub (List.forall_mem_cons.mpr ⟨.tail _ (.tail _ (.head _)), List.forall_mem_cons.mpr ⟨.tail _ (.tail _ (.tail _ (.head _))), List.forall_mem_cons.mpr ⟨.tail _ (.tail _ (.tail _ (.tail _ (.head _)))), List.forall_mem_cons.mpr ⟨.tail _ (.tail _ (.tail _ (.tail _ (.tail _ (.head _))))), List.forall_mem_cons.mpr ⟨.tail _ (.tail _ (.tail _ (.tail _ (.tail _ (.tail _ (.head _)))))), fun _ h => absurd h List.not_mem_nil⟩⟩⟩⟩⟩) fin, fun ne => absurd a3 ne⟩
set_option maxRecDepth 100000 in
set_option maxHeartbeats 4000000 in
theorem lc_data (hc : mm_C L G ML_law θ) (hn : 9 * n + 9 ≤ G.2.2.2.2.2.1) (hl : G.2.2.2.2.2.1 ≤ 4608) (nx : lwN L G θ A ax ao b5 1001 n (n + 1)) : lwN L G θ A ax ao b5 824 n n := by
  intro κ μ B bx O o cs sl hs hI hb hcs hsl
  subst hb
  have hF : mm_F G := hc.1
  have htr : L.stackTraces = false := hc.2.2.2.2.2.2.2.2.2.2.1
  have pb := Pot_b hI.1 hI.2.2.1
  refine mi_sound hc okL_law 200 _ _ _ _ _ _ ?_
  refine ⟨rfl, by omega, ?_⟩
  refine ⟨rfl, by omega, ?_⟩
  refine ⟨_, _, _, _, w_data (p := (sx G n 1)) (q := (sx G n 2)) hF htr hs hI (i32_lo _) (i32_hi _) (i32_lo _) (i32_hi _), by omega, by omega, fun v h1 q => ?_, fun _ _ q => q.elim⟩
  obtain ⟨B', bx', κ', o', rfl, rfl, hs', hb', qq⟩ := q
  refine ⟨some (aI (kR 2 (e_kData κ (sx G n 1) (sx G n 2)))), rfl, ?_⟩
  refine ⟨rfl, by omega, ?_⟩
  refine mi_nl [(5, _), (0, _), (1, _), (2, _), (3, _), (4, _)] rfl ?_
  refine ⟨rfl, by omega, ?_⟩
  refine ⟨lH_A hs', _, _, _, _, n_data (p := (sx G n 1)) (q := (sx G n 2)) hF htr hs' hI (i32_lo _) (i32_hi _) (i32_lo _) (i32_hi _), by omega, by omega, mkis_ (r := some (aI (v_data μ (sx G n 1) (sx G n 2)))) (fun hV' => ?_), fun _ _ q => q.elim⟩
  obtain ⟨k1, ⟨O', kI, kp⟩, ka⟩ := K_data hI (sx G n 1) (sx G n 2) hV' qq
  have v0 : 0 ≤ (s_data μ (sx G n 1) (sx G n 2)) 0 0 ∧ (s_data μ (sx G n 1) (sx G n 2)) 0 0 ≤ 2 := hV' 0 0
  refine ⟨lH_A hs', _, _, _, _, n_thrown hF htr hs' hV', by omega, by omega, mki_ (r := some (aI ((s_data μ (sx G n 1) (sx G n 2)) 0 0))) ?_, fun _ _ q => q.elim⟩
  refine mi_nl [(6, _), (5, _), (0, _), (1, _), (2, _), (3, _), (4, _)] rfl ?_
  have fin := nx κ' (s_data μ (sx G n 1) (sx G n 2)) B' bx' O' o' (cs + 2 + 0 + 0) (sl + 12 + 0 + 0) hs' kI hb' (by omega) (by omega)
  refine ⟨by omega, fun _ => ?_, fun ne => absurd k1 ne⟩
  refine ⟨by omega, fun _ => mi_Wsub (List.forall_mem_cons.mpr ⟨.tail _ (.tail _ (.head _)), List.forall_mem_cons.mpr ⟨.tail _ (.tail _ (.tail _ (.head _))), List.forall_mem_cons.mpr ⟨.tail _ (.tail _ (.tail _ (.tail _ (.head _)))), List.forall_mem_cons.mpr ⟨.tail _ (.tail _ (.tail _ (.tail _ (.tail _ (.head _))))), List.forall_mem_cons.mpr ⟨.tail _ (.tail _ (.tail _ (.tail _ (.tail _ (.tail _ (.head _)))))), fun _ h => absurd h List.not_mem_nil⟩⟩⟩⟩⟩) fin, fun ez => ?_⟩
  have e0 := kR_z (show kR 2 (e_kData κ (sx G n 1) (sx G n 2)) = 0 from ez)
  refine ⟨1, (fun q => (iL (o' q)).toInt), _, (lH_ao hs').trans (congrArg some (oc_n o')), by omega, rfl, ?_⟩
  obtain ⟨a1, a2⟩ := ka e0
  have a3 : (iL (o' 0)).toInt = v_data μ (sx G n 1) (sx G n 2) := by rw [a1]; exact iL_t (by omega) (by omega)
  refine ⟨a2, ?_⟩
  exact ⟨⟨i64_lo _, i64_hi _, by omega, by omega⟩, fun _ => mi_Wsub (List.forall_mem_cons.mpr ⟨.tail _ (.tail _ (.head _)), List.forall_mem_cons.mpr ⟨.tail _ (.tail _ (.tail _ (.head _))), List.forall_mem_cons.mpr ⟨.tail _ (.tail _ (.tail _ (.tail _ (.head _)))), List.forall_mem_cons.mpr ⟨.tail _ (.tail _ (.tail _ (.tail _ (.tail _ (.head _))))), List.forall_mem_cons.mpr ⟨.tail _ (.tail _ (.tail _ (.tail _ (.tail _ (.tail _ (.head _)))))), fun _ h => absurd h List.not_mem_nil⟩⟩⟩⟩⟩) fin, fun ne => absurd a3 ne⟩
set_option maxRecDepth 100000 in
set_option maxHeartbeats 4000000 in
theorem lc_outs (hc : mm_C L G ML_law θ) (hn : 9 * n + 9 ≤ G.2.2.2.2.2.1) (hl : G.2.2.2.2.2.1 ≤ 4608) (nx : lwN L G θ A ax ao b5 1001 n (n + 1)) : lwN L G θ A ax ao b5 869 n n := by
  intro κ μ B bx O o cs sl hs hI hb hcs hsl
  subst hb
  have hF : mm_F G := hc.1
  have htr : L.stackTraces = false := hc.2.2.2.2.2.2.2.2.2.2.1
  have pb := Pot_b hI.1 hI.2.2.1
  refine mi_sound hc okL_law 200 _ _ _ _ _ _ ?_
  refine ⟨rfl, by omega, ?_⟩
  refine ⟨_, _, _, _, w_outs (q := (sx G n 1)) hF htr hs hI (i32_lo _) (i32_hi _), by omega, by omega, fun v h1 q => ?_, fun _ _ q => q.elim⟩
  obtain ⟨B', bx', κ', o', rfl, rfl, hs', hb', qq⟩ := q
  refine ⟨some (aI (kR 2 (e_kOuts κ (sx G n 1)))), rfl, ?_⟩
  refine ⟨rfl, by omega, ?_⟩
  refine mi_nl [(5, _), (0, _), (1, _), (2, _), (3, _), (4, _)] rfl ?_
  refine ⟨lH_A hs', _, _, _, _, n_outs (q := (sx G n 1)) hF htr hs' hI (i32_lo _) (i32_hi _), by omega, by omega, fun v h1 q => ?_, fun _ _ q => q.elim⟩
  obtain ⟨⟨rfl, rfl⟩, hV'⟩ := q
  refine ⟨some (aL (iL (v_outs μ (sx G n 1))).toInt), congrArg (fun z => some (Value.long z)) (i64_s _), ?_⟩
  obtain ⟨k1, ⟨O', kI, kp⟩, ka⟩ := K_outs hI (sx G n 1) hV' qq
  have v0 : 0 ≤ (s_outs μ (sx G n 1)) 0 0 ∧ (s_outs μ (sx G n 1)) 0 0 ≤ 2 := hV' 0 0
  refine ⟨lH_A hs', _, _, _, _, n_thrown hF htr hs' hV', by omega, by omega, mki_ (r := some (aI ((s_outs μ (sx G n 1)) 0 0))) ?_, fun _ _ q => q.elim⟩
  refine mi_nl [(6, _), (5, _), (0, _), (1, _), (2, _), (3, _), (4, _)] rfl ?_
  have fin := nx κ' (s_outs μ (sx G n 1)) B' bx' O' o' (cs + 1 + 0 + 0) (sl + 6 + 0 + 0) hs' kI hb' (by omega) (by omega)
  refine ⟨by omega, fun _ => ?_, fun ne => absurd k1 ne⟩
  refine ⟨by omega, fun _ => mi_Wsub (List.forall_mem_cons.mpr ⟨.tail _ (.tail _ (.head _)), List.forall_mem_cons.mpr ⟨.tail _ (.tail _ (.tail _ (.head _))), List.forall_mem_cons.mpr ⟨.tail _ (.tail _ (.tail _ (.tail _ (.head _)))), List.forall_mem_cons.mpr ⟨.tail _ (.tail _ (.tail _ (.tail _ (.tail _ (.head _))))), List.forall_mem_cons.mpr ⟨.tail _ (.tail _ (.tail _ (.tail _ (.tail _ (.tail _ (.head _)))))), fun _ h => absurd h List.not_mem_nil⟩⟩⟩⟩⟩) fin, fun ez => ?_⟩
  have e0 := kR_z (show kR 2 (e_kOuts κ (sx G n 1)) = 0 from ez)
  refine ⟨1, (fun q => (iL (o' q)).toInt), _, (lH_ao hs').trans (congrArg some (oc_n o')), by omega, rfl, ?_⟩
  have a3 : (iL (o' 0)).toInt = (iL (v_outs μ (sx G n 1))).toInt := by rw [ka e0]
  exact ⟨⟨i64_lo _, i64_hi _, i64_lo _, i64_hi _⟩, fun _ => mi_Wsub (List.forall_mem_cons.mpr ⟨.tail _ (.tail _ (.head _)), List.forall_mem_cons.mpr ⟨.tail _ (.tail _ (.tail _ (.head _))), List.forall_mem_cons.mpr ⟨.tail _ (.tail _ (.tail _ (.tail _ (.head _)))), List.forall_mem_cons.mpr ⟨.tail _ (.tail _ (.tail _ (.tail _ (.tail _ (.head _))))), List.forall_mem_cons.mpr ⟨.tail _ (.tail _ (.tail _ (.tail _ (.tail _ (.tail _ (.head _)))))), fun _ h => absurd h List.not_mem_nil⟩⟩⟩⟩⟩) fin, fun ne => absurd a3 ne⟩
set_option maxRecDepth 100000 in
set_option maxHeartbeats 4000000 in
theorem lc_stream (hc : mm_C L G ML_law θ) (hn : 9 * n + 9 ≤ G.2.2.2.2.2.1) (hl : G.2.2.2.2.2.1 ≤ 4608) (nx : lwN L G θ A ax ao b5 1001 n (n + 1)) : lwN L G θ A ax ao b5 903 n n := by
  intro κ μ B bx O o cs sl hs hI hb hcs hsl
  subst hb
  have hF : mm_F G := hc.1
  have htr : L.stackTraces = false := hc.2.2.2.2.2.2.2.2.2.2.1
  have pb := Pot_b hI.1 hI.2.2.1
  refine mi_sound hc okL_law 200 _ _ _ _ _ _ ?_
  refine ⟨rfl, by omega, ?_⟩
  refine ⟨rfl, by omega, ?_⟩
  refine ⟨rfl, by omega, ?_⟩
  refine ⟨_, _, _, _, w_stream (s := (sx G n 1)) (i := (sx G n 2)) (w := (sx G n 3)) hF htr hs hI (i32_lo _) (i32_hi _) (i32_lo _) (i32_hi _) (i32_lo _) (i32_hi _), by omega, by omega, fun v h1 q => ?_, fun _ _ q => q.elim⟩
  obtain ⟨B', bx', κ', o', rfl, rfl, hs', hb', qq⟩ := q
  refine ⟨some (aI (kR 2 (e_kStream κ (sx G n 1) (sx G n 2) (sx G n 3)))), rfl, ?_⟩
  refine ⟨rfl, by omega, ?_⟩
  refine mi_nl [(5, _), (0, _), (1, _), (2, _), (3, _), (4, _)] rfl ?_
  refine ⟨rfl, by omega, ?_⟩
  refine ⟨rfl, by omega, ?_⟩
  refine ⟨lH_A hs', _, _, _, _, n_stream (s := (sx G n 1)) (i := (sx G n 2)) (w := (sx G n 3)) hF htr hs' hI (i32_lo _) (i32_hi _) (i32_lo _) (i32_hi _) (i32_lo _) (i32_hi _), by omega, by omega, fun v h1 q => ?_, fun _ _ q => q.elim⟩
  obtain ⟨⟨rfl, rfl⟩, hV'⟩ := q
  refine ⟨some (aL (iL (v_stream μ (sx G n 1) (sx G n 2) (sx G n 3))).toInt), congrArg (fun z => some (Value.long z)) (i64_s _), ?_⟩
  obtain ⟨k1, ⟨O', kI, kp⟩, ka⟩ := K_stream hI (sx G n 1) (sx G n 2) (sx G n 3) hV' qq
  have v0 : 0 ≤ (s_stream μ (sx G n 1) (sx G n 2) (sx G n 3)) 0 0 ∧ (s_stream μ (sx G n 1) (sx G n 2) (sx G n 3)) 0 0 ≤ 2 := hV' 0 0
  refine ⟨lH_A hs', _, _, _, _, n_thrown hF htr hs' hV', by omega, by omega, mki_ (r := some (aI ((s_stream μ (sx G n 1) (sx G n 2) (sx G n 3)) 0 0))) ?_, fun _ _ q => q.elim⟩
  refine mi_nl [(6, _), (5, _), (0, _), (1, _), (2, _), (3, _), (4, _)] rfl ?_
  have fin := nx κ' (s_stream μ (sx G n 1) (sx G n 2) (sx G n 3)) B' bx' O' o' (cs + 2 + 0 + 0) (sl + 12 + 0 + 0) hs' kI hb' (by omega) (by omega)
  refine ⟨by omega, fun _ => ?_, fun ne => absurd k1 ne⟩
  refine ⟨by omega, fun _ => mi_Wsub (List.forall_mem_cons.mpr ⟨.tail _ (.tail _ (.head _)), List.forall_mem_cons.mpr ⟨.tail _ (.tail _ (.tail _ (.head _))), List.forall_mem_cons.mpr ⟨.tail _ (.tail _ (.tail _ (.tail _ (.head _)))), List.forall_mem_cons.mpr ⟨.tail _ (.tail _ (.tail _ (.tail _ (.tail _ (.head _))))), List.forall_mem_cons.mpr ⟨.tail _ (.tail _ (.tail _ (.tail _ (.tail _ (.tail _ (.head _)))))), fun _ h => absurd h List.not_mem_nil⟩⟩⟩⟩⟩) fin, fun ez => ?_⟩
  have e0 := kR_z (show kR 2 (e_kStream κ (sx G n 1) (sx G n 2) (sx G n 3)) = 0 from ez)
  refine ⟨1, (fun q => (iL (o' q)).toInt), _, (lH_ao hs').trans (congrArg some (oc_n o')), by omega, rfl, ?_⟩
  have a3 : (iL (o' 0)).toInt = (iL (v_stream μ (sx G n 1) (sx G n 2) (sx G n 3))).toInt := by rw [ka e0]
  exact ⟨⟨i64_lo _, i64_hi _, i64_lo _, i64_hi _⟩, fun _ => mi_Wsub (List.forall_mem_cons.mpr ⟨.tail _ (.tail _ (.head _)), List.forall_mem_cons.mpr ⟨.tail _ (.tail _ (.tail _ (.head _))), List.forall_mem_cons.mpr ⟨.tail _ (.tail _ (.tail _ (.tail _ (.head _)))), List.forall_mem_cons.mpr ⟨.tail _ (.tail _ (.tail _ (.tail _ (.tail _ (.head _))))), List.forall_mem_cons.mpr ⟨.tail _ (.tail _ (.tail _ (.tail _ (.tail _ (.tail _ (.head _)))))), fun _ h => absurd h List.not_mem_nil⟩⟩⟩⟩⟩) fin, fun ne => absurd a3 ne⟩
set_option maxRecDepth 100000 in
set_option maxHeartbeats 4000000 in
theorem lc_side (hc : mm_C L G ML_law θ) (hn : 9 * n + 9 ≤ G.2.2.2.2.2.1) (hl : G.2.2.2.2.2.1 ≤ 4608) (nx : lwN L G θ A ax ao b5 1001 n (n + 1)) : lwN L G θ A ax ao b5 957 n n := by
  intro κ μ B bx O o cs sl hs hI hb hcs hsl
  subst hb
  have hF : mm_F G := hc.1
  have htr : L.stackTraces = false := hc.2.2.2.2.2.2.2.2.2.2.1
  have pb := Pot_b hI.1 hI.2.2.1
  refine mi_sound hc okL_law 200 _ _ _ _ _ _ ?_
  refine ⟨rfl, by omega, ?_⟩
  refine ⟨rfl, by omega, ?_⟩
  refine ⟨_, _, _, _, w_side (s := (sx G n 1)) (w := (sx G n 2)) hF htr hs hI (i32_lo _) (i32_hi _) (i32_lo _) (i32_hi _), by omega, by omega, fun v h1 q => ?_, fun _ _ q => q.elim⟩
  obtain ⟨B', bx', κ', o', rfl, rfl, hs', hb', qq⟩ := q
  refine ⟨some (aI (kR 2 (e_kSide κ (sx G n 1) (sx G n 2)))), rfl, ?_⟩
  refine ⟨rfl, by omega, ?_⟩
  refine mi_nl [(5, _), (0, _), (1, _), (2, _), (3, _), (4, _)] rfl ?_
  refine ⟨rfl, by omega, ?_⟩
  refine ⟨lH_A hs', _, _, _, _, n_side (s := (sx G n 1)) (w := (sx G n 2)) hF htr hs' hI (i32_lo _) (i32_hi _) (i32_lo _) (i32_hi _), by omega, by omega, fun v h1 q => ?_, fun _ _ q => q.elim⟩
  obtain ⟨⟨rfl, rfl⟩, hV'⟩ := q
  refine ⟨some (aL (iL (v_side μ (sx G n 1) (sx G n 2))).toInt), congrArg (fun z => some (Value.long z)) (i64_s _), ?_⟩
  obtain ⟨k1, ⟨O', kI, kp⟩, ka⟩ := K_side hI (sx G n 1) (sx G n 2) hV' qq
  have v0 : 0 ≤ (s_side μ (sx G n 1) (sx G n 2)) 0 0 ∧ (s_side μ (sx G n 1) (sx G n 2)) 0 0 ≤ 2 := hV' 0 0
  refine ⟨lH_A hs', _, _, _, _, n_thrown hF htr hs' hV', by omega, by omega, mki_ (r := some (aI ((s_side μ (sx G n 1) (sx G n 2)) 0 0))) ?_, fun _ _ q => q.elim⟩
  refine mi_nl [(6, _), (5, _), (0, _), (1, _), (2, _), (3, _), (4, _)] rfl ?_
  have fin := nx κ' (s_side μ (sx G n 1) (sx G n 2)) B' bx' O' o' (cs + 2 + 0 + 0) (sl + 12 + 0 + 0) hs' kI hb' (by omega) (by omega)
  refine ⟨by omega, fun _ => ?_, fun ne => absurd k1 ne⟩
  refine ⟨by omega, fun _ => mi_Wsub (List.forall_mem_cons.mpr ⟨.tail _ (.tail _ (.head _)), List.forall_mem_cons.mpr ⟨.tail _ (.tail _ (.tail _ (.head _))), List.forall_mem_cons.mpr ⟨.tail _ (.tail _ (.tail _ (.tail _ (.head _)))), List.forall_mem_cons.mpr ⟨.tail _ (.tail _ (.tail _ (.tail _ (.tail _ (.head _))))), List.forall_mem_cons.mpr ⟨.tail _ (.tail _ (.tail _ (.tail _ (.tail _ (.tail _ (.head _)))))), fun _ h => absurd h List.not_mem_nil⟩⟩⟩⟩⟩) fin, fun ez => ?_⟩
  have e0 := kR_z (show kR 2 (e_kSide κ (sx G n 1) (sx G n 2)) = 0 from ez)
  refine ⟨1, (fun q => (iL (o' q)).toInt), _, (lH_ao hs').trans (congrArg some (oc_n o')), by omega, rfl, ?_⟩
  have a3 : (iL (o' 0)).toInt = (iL (v_side μ (sx G n 1) (sx G n 2))).toInt := by rw [ka e0]
  exact ⟨⟨i64_lo _, i64_hi _, i64_lo _, i64_hi _⟩, fun _ => mi_Wsub (List.forall_mem_cons.mpr ⟨.tail _ (.tail _ (.head _)), List.forall_mem_cons.mpr ⟨.tail _ (.tail _ (.tail _ (.head _))), List.forall_mem_cons.mpr ⟨.tail _ (.tail _ (.tail _ (.tail _ (.head _)))), List.forall_mem_cons.mpr ⟨.tail _ (.tail _ (.tail _ (.tail _ (.tail _ (.head _))))), List.forall_mem_cons.mpr ⟨.tail _ (.tail _ (.tail _ (.tail _ (.tail _ (.tail _ (.head _)))))), fun _ h => absurd h List.not_mem_nil⟩⟩⟩⟩⟩) fin, fun ne => absurd a3 ne⟩
end LC3
