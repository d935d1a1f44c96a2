section LC2
variable {L : Launch} {G : mmG} {θ : mmT} {A : Nat → Nat} {ax : Nat → Option Nat} {ao b5 n : Nat}
set_option maxRecDepth 100000 in
set_option maxHeartbeats 4000000 in
theorem lc_reset (hc : mm_C L G ML_law θ) (hn : 9 * n + 9 ≤ G.2.2.2.2.2.1) (hl : G.2.2.2.2.2.1 ≤ 4608) (nx : lwN L G θ A ax ao b5 1001 n (n + 1)) : lwN L G θ A ax ao b5 294 n n := by
  intro κ μ B bx O o cs sl hs hI hb hcs hsl
  subst hb
  have hF : mm_F G := hc.1
  have htr : L.stackTraces = false := hc.2.2.2.2.2.2.2.2.2.2.1
  have pb := Pot_b hI.1 hI.2.2.1
  refine mi_sound hc okL_law 200 _ _ _ _ _ _ ?_
  refine ⟨rfl, by omega, ?_⟩
  refine ⟨rfl, by omega, ?_⟩
  refine ⟨rfl, by omega, ?_⟩
  refine ⟨⟨i32_lo _, i32_hi _⟩, ?_⟩
  refine ⟨_, i64_s _, ?_⟩
  refine ⟨rfl, by omega, ?_⟩
  refine ⟨⟨i32_lo _, i32_hi _⟩, ?_⟩
  refine ⟨4294967295, rfl, ?_⟩
  refine ⟨_, i64_s _, ?_⟩
  refine ⟨_, i64_s _, ?_⟩
  refine ⟨_, _, _, _, w_reset (s := (sx G n 1)) (i := (sx G n 2)) (c := (lx G n 3 4)) hF htr hs hI (i32_lo _) (i32_hi _) (i32_lo _) (i32_hi _) (i64_lo _) (i64_hi _), by omega, by omega, fun v h1 q => ?_, fun _ _ q => q.elim⟩
  obtain ⟨B', bx', κ', o', rfl, rfl, hs', hb', qq⟩ := q
  refine ⟨some (aI (kR 2 (e_kReset κ (sx G n 1) (sx G n 2) (lx G n 3 4)))), rfl, ?_⟩
  refine ⟨rfl, by omega, ?_⟩
  refine mi_nl [(5, _), (0, _), (1, _), (2, _), (3, _), (4, _)] rfl ?_
  refine ⟨rfl, by omega, ?_⟩
  refine ⟨rfl, by omega, ?_⟩
  refine ⟨⟨i32_lo _, i32_hi _⟩, ?_⟩
  refine ⟨_, i64_s _, ?_⟩
  refine ⟨rfl, by omega, ?_⟩
  refine ⟨⟨i32_lo _, i32_hi _⟩, ?_⟩
  refine ⟨4294967295, rfl, ?_⟩
  refine ⟨_, i64_s _, ?_⟩
  refine ⟨_, i64_s _, ?_⟩
  refine ⟨lH_A hs', _, _, _, _, n_reset (s := (sx G n 1)) (i := (sx G n 2)) (c := (lx G n 3 4)) hF htr hs' hI (i32_lo _) (i32_hi _) (i32_lo _) (i32_hi _) (i64_lo _) (i64_hi _), by omega, by omega, mkis_ (r := some (aI (v_reset μ (sx G n 1) (sx G n 2) (lx G n 3 4)))) (fun hV' => ?_), fun _ _ q => q.elim⟩
  obtain ⟨k1, ⟨O', kI, kp⟩, ka⟩ := K_reset hI (sx G n 1) (sx G n 2) (lx G n 3 4) hV' qq
  have v0 : 0 ≤ (s_reset μ (sx G n 1) (sx G n 2) (lx G n 3 4)) 0 0 ∧ (s_reset μ (sx G n 1) (sx G n 2) (lx G n 3 4)) 0 0 ≤ 2 := hV' 0 0
  refine ⟨lH_A hs', _, _, _, _, n_thrown hF htr hs' hV', by omega, by omega, mki_ (r := some (aI ((s_reset μ (sx G n 1) (sx G n 2) (lx G n 3 4)) 0 0))) ?_, fun _ _ q => q.elim⟩
  refine mi_nl [(6, _), (5, _), (0, _), (1, _), (2, _), (3, _), (4, _)] rfl ?_
  have fin := nx κ' (s_reset μ (sx G n 1) (sx G n 2) (lx G n 3 4)) B' bx' O' o' (cs + 2 + 0 + 0) (sl + 12 + 0 + 0) hs' kI hb' (by omega) (by omega)
  refine ⟨by omega, fun _ => ?_, fun ne => absurd k1 ne⟩
  refine ⟨by omega, fun _ => mi_Wsub (List.forall_mem_cons.mpr ⟨.tail _ (.tail _ (.head _)), List.forall_mem_cons.mpr ⟨.tail _ (.tail _ (.tail _ (.head _))), List.forall_mem_cons.mpr ⟨.tail _ (.tail _ (.tail _ (.tail _ (.head _)))), List.forall_mem_cons.mpr ⟨.tail _ (.tail _ (.tail _ (.tail _ (.tail _ (.head _))))), List.forall_mem_cons.mpr ⟨.tail _ (.tail _ (.tail _ (.tail _ (.tail _ (.tail _ (.head _)))))), fun _ h => absurd h List.not_mem_nil⟩⟩⟩⟩⟩) fin, fun ez => ?_⟩
  have e0 := kR_z (show kR 2 (e_kReset κ (sx G n 1) (sx G n 2) (lx G n 3 4)) = 0 from ez)
  refine ⟨1, (fun q => (iL (o' q)).toInt), _, (lH_ao hs').trans (congrArg some (oc_n o')), by omega, rfl, ?_⟩
  obtain ⟨a1, a2⟩ := ka e0
  have a3 : (iL (o' 0)).toInt = v_reset μ (sx G n 1) (sx G n 2) (lx G n 3 4) := by rw [a1]; exact iL_t (by omega) (by omega)
  refine ⟨by omega, fun (y : v_reset μ (sx G n 1) (sx G n 2) (lx G n 3 4) = 0) => ?_, fun (y : ¬ v_reset μ (sx G n 1) (sx G n 2) (lx G n 3 4) = 0) => ?_⟩
  · refine ⟨0, rfl, ?_⟩
    exact ⟨⟨i64_lo _, i64_hi _, by omega, by omega⟩, fun _ => mi_Wsub (List.forall_mem_cons.mpr ⟨.tail _ (.tail _ (.head _)), List.forall_mem_cons.mpr ⟨.tail _ (.tail _ (.tail _ (.head _))), List.forall_mem_cons.mpr ⟨.tail _ (.tail _ (.tail _ (.tail _ (.head _)))), List.forall_mem_cons.mpr ⟨.tail _ (.tail _ (.tail _ (.tail _ (.tail _ (.head _))))), List.forall_mem_cons.mpr ⟨.tail _ (.tail _ (.tail _ (.tail _ (.tail _ (.tail _ (.head _)))))), fun _ h => absurd h List.not_mem_nil⟩⟩⟩⟩⟩) fin, fun ne => absurd (a3.trans y) ne⟩
  · refine ⟨1, rfl, ?_⟩
    exact ⟨⟨i64_lo _, i64_hi _, by omega, by omega⟩, fun _ => mi_Wsub (List.forall_mem_cons.mpr ⟨.tail _ (.tail _ (.head _)), List.forall_mem_cons.mpr ⟨.tail _ (.tail _ (.tail _ (.head _))), List.forall_mem_cons.mpr ⟨.tail _ (.tail _ (.tail _ (.tail _ (.head _)))), List.forall_mem_cons.mpr ⟨.tail _ (.tail _ (.tail _ (.tail _ (.tail _ (.head _))))), List.forall_mem_cons.mpr ⟨.tail _ (.tail _ (.tail _ (.tail _ (.tail _ (.tail _ (.head _)))))), fun _ h => absurd h List.not_mem_nil⟩⟩⟩⟩⟩) fin, fun ne => absurd (show (iL (o' 0)).toInt = 1 by omega) ne⟩
set_option maxRecDepth 100000 in
set_option maxHeartbeats 4000000 in
theorem lc_stop (hc : mm_C L G ML_law θ) (hn : 9 * n + 9 ≤ G.2.2.2.2.2.1) (hl : G.2.2.2.2.2.1 ≤ 4608) (nx : lwN L G θ A ax ao b5 1001 n (n + 1)) : lwN L G θ A ax ao b5 376 n n := by
  intro κ μ B bx O o cs sl hs hI hb hcs hsl
  subst hb
  have hF : mm_F G := hc.1
  have htr : L.stackTraces = false := hc.2.2.2.2.2.2.2.2.2.2.1
  have pb := Pot_b hI.1 hI.2.2.1
  refine mi_sound hc okL_law 200 _ _ _ _ _ _ ?_
  refine ⟨rfl, by omega, ?_⟩
  refine ⟨rfl, by omega, ?_⟩
  refine ⟨rfl, by omega, ?_⟩
  refine ⟨⟨i32_lo _, i32_hi _⟩, ?_⟩
  refine ⟨_, i64_s _, ?_⟩
  refine ⟨rfl, by omega, ?_⟩
  refine ⟨⟨i32_lo _, i32_hi _⟩, ?_⟩
  refine ⟨4294967295, rfl, ?_⟩
  refine ⟨_, i64_s _, ?_⟩
  refine ⟨_, i64_s _, ?_⟩
  refine ⟨_, _, _, _, w_stop (s := (sx G n 1)) (i := (sx G n 2)) (c := (lx G n 3 4)) hF htr hs hI (i32_lo _) (i32_hi _) (i32_lo _) (i32_hi _) (i64_lo _) (i64_hi _), by omega, by omega, fun v h1 q => ?_, fun _ _ q => q.elim⟩
  obtain ⟨B', bx', κ', o', rfl, rfl, hs', hb', qq⟩ := q
  refine ⟨some (aI (kR 2 (e_kStop κ (sx G n 1) (sx G n 2) (lx G n 3 4)))), rfl, ?_⟩
  refine ⟨rfl, by omega, ?_⟩
  refine mi_nl [(5, _), (0, _), (1, _), (2, _), (3, _), (4, _)] rfl ?_
  refine ⟨rfl, by omega, ?_⟩
  refine ⟨rfl, by omega, ?_⟩
  refine ⟨⟨i32_lo _, i32_hi _⟩, ?_⟩
  refine ⟨_, i64_s _, ?_⟩
  refine ⟨rfl, by omega, ?_⟩
  refine ⟨⟨i32_lo _, i32_hi _⟩, ?_⟩
  refine ⟨4294967295, rfl, ?_⟩
  refine ⟨_, i64_s _, ?_⟩
  refine ⟨_, i64_s _, ?_⟩
  refine ⟨lH_A hs', _, _, _, _, n_stop (s := (sx G n 1)) (i := (sx G n 2)) (c := (lx G n 3 4)) hF htr hs' hI (i32_lo _) (i32_hi _) (i32_lo _) (i32_hi _) (i64_lo _) (i64_hi _), by omega, by omega, mkis_ (r := some (aI (v_stop μ (sx G n 1) (sx G n 2) (lx G n 3 4)))) (fun hV' => ?_), fun _ _ q => q.elim⟩
  obtain ⟨k1, ⟨O', kI, kp⟩, ka⟩ := K_stop hI (sx G n 1) (sx G n 2) (lx G n 3 4) hV' qq
  have v0 : 0 ≤ (s_stop μ (sx G n 1) (sx G n 2) (lx G n 3 4)) 0 0 ∧ (s_stop μ (sx G n 1) (sx G n 2) (lx G n 3 4)) 0 0 ≤ 2 := hV' 0 0
  refine ⟨lH_A hs', _, _, _, _, n_thrown hF htr hs' hV', by omega, by omega, mki_ (r := some (aI ((s_stop μ (sx G n 1) (sx G n 2) (lx G n 3 4)) 0 0))) ?_, fun _ _ q => q.elim⟩
  refine mi_nl [(6, _), (5, _), (0, _), (1, _), (2, _), (3, _), (4, _)] rfl ?_
  have fin := nx κ' (s_stop μ (sx G n 1) (sx G n 2) (lx G n 3 4)) B' bx' O' o' (cs + 2 + 0 + 0) (sl + 12 + 0 + 0) hs' kI hb' (by omega) (by omega)
  refine ⟨by omega, fun _ => ?_, fun ne => absurd k1 ne⟩
  refine ⟨by omega, fun _ => mi_Wsub (List.forall_mem_cons.mpr ⟨.tail _ (.tail _ (.head _)), List.forall_mem_cons.mpr ⟨.tail _ (.tail _ (.tail _ (.head _))), List.forall_mem_cons.mpr ⟨.tail _ (.tail _ (.tail _ (.tail _ (.head _)))), List.forall_mem_cons.mpr ⟨.tail _ (.tail _ (.tail _ (.tail _ (.tail _ (.head _))))), List.forall_mem_cons.mpr ⟨.tail _ (.tail _ (.tail _ (.tail _ (.tail _ (.tail _ (.head _)))))), fun _ h => absurd h List.not_mem_nil⟩⟩⟩⟩⟩) fin, fun ez => ?_⟩
  have e0 := kR_z (show kR 2 (e_kStop κ (sx G n 1) (sx G n 2) (lx G n 3 4)) = 0 from ez)
  refine ⟨1, (fun q => (iL (o' q)).toInt), _, (lH_ao hs').trans (congrArg some (oc_n o')), by omega, rfl, ?_⟩
  obtain ⟨a1, a2⟩ := ka e0
  have a3 : (iL (o' 0)).toInt = v_stop μ (sx G n 1) (sx G n 2) (lx G n 3 4) := by rw [a1]; exact iL_t (by omega) (by omega)
  refine ⟨by omega, fun (y : v_stop μ (sx G n 1) (sx G n 2) (lx G n 3 4) = 0) => ?_, fun (y : ¬ v_stop μ (sx G n 1) (sx G n 2) (lx G n 3 4) = 0) => ?_⟩
  · refine ⟨0, rfl, ?_⟩
    exact ⟨⟨i64_lo _, i64_hi _, by omega, by omega⟩, fun _ => mi_Wsub (List.forall_mem_cons.mpr ⟨.tail _ (.tail _ (.head _)), List.forall_mem_cons.mpr ⟨.tail _ (.tail _ (.tail _ (.head _))), List.forall_mem_cons.mpr ⟨.tail _ (.tail _ (.tail _ (.tail _ (.head _)))), List.forall_mem_cons.mpr ⟨.tail _ (.tail _ (.tail _ (.tail _ (.tail _ (.head _))))), List.forall_mem_cons.mpr ⟨.tail _ (.tail _ (.tail _ (.tail _ (.tail _ (.tail _ (.head _)))))), fun _ h => absurd h List.not_mem_nil⟩⟩⟩⟩⟩) fin, fun ne => absurd (a3.trans y) ne⟩
  · refine ⟨1, rfl, ?_⟩
    exact ⟨⟨i64_lo _, i64_hi _, by omega, by omega⟩, fun _ => mi_Wsub (List.forall_mem_cons.mpr ⟨.tail _ (.tail _ (.head _)), List.forall_mem_cons.mpr ⟨.tail _ (.tail _ (.tail _ (.head _))), List.forall_mem_cons.mpr ⟨.tail _ (.tail _ (.tail _ (.tail _ (.head _)))), List.forall_mem_cons.mpr ⟨.tail _ (.tail _ (.tail _ (.tail _ (.tail _ (.head _))))), List.forall_mem_cons.mpr ⟨.tail _ (.tail _ (.tail _ (.tail _ (.tail _ (.tail _ (.head _)))))), fun _ h => absurd h List.not_mem_nil⟩⟩⟩⟩⟩) fin, fun ne => absurd (show (iL (o' 0)).toInt = 1 by omega) ne⟩
set_option maxRecDepth 100000 in
set_option maxHeartbeats 4000000 in
theorem lc_read (hc : mm_C L G ML_law θ) (hn : 9 * n + 9 ≤ G.2.2.2.2.2.1) (hl : G.2.2.2.2.2.1 ≤ 4608) (nx : lwN L G θ A ax ao b5 1001 n (n + 1)) : lwN L G θ A ax ao b5 458 n n := by
  intro κ μ B bx O o cs sl hs hI hb hcs hsl
  subst hb
  have hF : mm_F G := hc.1
  have htr : L.stackTraces = false := hc.2.2.2.2.2.2.2.2.2.2.1
  have pb := Pot_b hI.1 hI.2.2.1
  refine mi_sound hc okL_law 200 _ _ _ _ _ _ ?_
  refine ⟨rfl, by omega, ?_⟩
  refine ⟨rfl, by omega, ?_⟩
  refine ⟨rfl, by omega, ?_⟩
  refine ⟨_, _, _, _, w_read (s := (sx G n 1)) (i := (sx G n 2)) (q := (sx G n 3)) hF htr hs hI (i32_lo _) (i32_hi _) (i32_lo _) (i32_hi _) (i32_lo _) (i32_hi _), by omega, by omega, fun v h1 q => ?_, fun _ _ q => q.elim⟩
  obtain ⟨B', bx', κ', o', rfl, rfl, hs', hb', qq⟩ := q
  refine ⟨some (aI (kR 2 (e_kRead κ (sx G n 1) (sx G n 2) (sx G n 3)))), rfl, ?_⟩
  refine ⟨rfl, by omega, ?_⟩
  refine mi_nl [(5, _), (0, _), (1, _), (2, _), (3, _), (4, _)] rfl ?_
  refine ⟨rfl, by omega, ?_⟩
  refine ⟨rfl, by omega, ?_⟩
  refine ⟨lH_A hs', _, _, _, _, n_read (s := (sx G n 1)) (i := (sx G n 2)) (q := (sx G n 3)) hF htr hs' hI (i32_lo _) (i32_hi _) (i32_lo _) (i32_hi _) (i32_lo _) (i32_hi _), by omega, by omega, mkis_ (r := some (aI (v_read μ (sx G n 1) (sx G n 2) (sx G n 3)))) (fun hV' => ?_), fun _ _ q => q.elim⟩
  obtain ⟨k1, ⟨O', kI, kp⟩, ka⟩ := K_read hI (sx G n 1) (sx G n 2) (sx G n 3) hV' qq
  have v0 : 0 ≤ (s_read μ (sx G n 1) (sx G n 2) (sx G n 3)) 0 0 ∧ (s_read μ (sx G n 1) (sx G n 2) (sx G n 3)) 0 0 ≤ 2 := hV' 0 0
  refine ⟨lH_A hs', _, _, _, _, n_thrown hF htr hs' hV', by omega, by omega, mki_ (r := some (aI ((s_read μ (sx G n 1) (sx G n 2) (sx G n 3)) 0 0))) ?_, fun _ _ q => q.elim⟩
  refine mi_nl [(6, _), (5, _), (0, _), (1, _), (2, _), (3, _), (4, _)] rfl ?_
  have fin := nx κ' (s_read μ (sx G n 1) (sx G n 2) (sx G n 3)) B' bx' O' o' (cs + 2 + 0 + 0) (sl + 12 + 0 + 0) hs' kI hb' (by omega) (by omega)
  refine ⟨by omega, fun _ => ?_, fun ne => absurd k1 ne⟩
  refine ⟨by omega, fun _ => mi_Wsub (List.forall_mem_cons.mpr ⟨.tail _ (.tail _ (.head _)), List.forall_mem_cons.mpr ⟨.tail _ (.tail _ (.tail _ (.head _))), List.forall_mem_cons.mpr ⟨.tail _ (.tail _ (.tail _ (.tail _ (.head _)))), List.forall_mem_cons.mpr ⟨.tail _ (.tail _ (.tail _ (.tail _ (.tail _ (.head _))))), List.forall_mem_cons.mpr ⟨.tail _ (.tail _ (.tail _ (.tail _ (.tail _ (.tail _ (.head _)))))), fun _ h => absurd h List.not_mem_nil⟩⟩⟩⟩⟩) fin, fun ez => ?_⟩
  have e0 := kR_z (show kR 2 (e_kRead κ (sx G n 1) (sx G n 2) (sx G n 3)) = 0 from ez)
  refine ⟨1, (fun q => (iL (o' q)).toInt), _, (lH_ao hs').trans (congrArg some (oc_n o')), by omega, rfl, ?_⟩
  obtain ⟨a1, a2⟩ := ka e0
  have a3 : (iL (o' 0)).toInt = v_read μ (sx G n 1) (sx G n 2) (sx G n 3) := by rw [a1]; exact iL_t (by omega) (by omega)
  refine ⟨a2, ?_⟩
  exact ⟨⟨i64_lo _, i64_hi _, by omega, by omega⟩, fun _ => mi_Wsub (List.forall_mem_cons.mpr ⟨.tail _ (.tail _ (.head _)), List.forall_mem_cons.mpr ⟨.tail _ (.tail _ (.tail _ (.head _))), List.forall_mem_cons.mpr ⟨.tail _ (.tail _ (.tail _ (.tail _ (.head _)))), List.forall_mem_cons.mpr ⟨.tail _ (.tail _ (.tail _ (.tail _ (.tail _ (.head _))))), List.forall_mem_cons.mpr ⟨.tail _ (.tail _ (.tail _ (.tail _ (.tail _ (.tail _ (.head _)))))), fun _ h => absurd h List.not_mem_nil⟩⟩⟩⟩⟩) fin, fun ne => absurd a3 ne⟩
set_option maxRecDepth 100000 in
set_option maxHeartbeats 4000000 in
theorem lc_fill (hc : mm_C L G ML_law θ) (hn : 9 * n + 9 ≤ G.2.2.2.2.2.1) (hl : G.2.2.2.2.2.1 ≤ 4608) (nx : lwN L G θ A ax ao b5 1001 n (n + 1)) : lwN L G θ A ax ao b5 513 n n := by
  intro κ μ B bx O o cs sl hs hI hb hcs hsl
  subst hb
  have hF : mm_F G := hc.1
  have htr : L.stackTraces = false := hc.2.2.2.2.2.2.2.2.2.2.1
  have pb := Pot_b hI.1 hI.2.2.1
  refine mi_sound hc okL_law 200 _ _ _ _ _ _ ?_
  refine ⟨rfl, by omega, ?_⟩
  refine ⟨rfl, by omega, ?_⟩
  refine ⟨_, _, _, _, w_fill (s := (sx G n 1)) (r := (sx G n 2)) hF htr hs hI (i32_lo _) (i32_hi _) (i32_lo _) (i32_hi _), by omega, by omega, fun v h1 q => ?_, fun _ _ q => q.elim⟩
  obtain ⟨B', bx', κ', o', rfl, rfl, hs', hb', qq⟩ := q
  refine ⟨some (aI (kR 2 (e_kFill κ (sx G n 1) (sx G n 2)))), rfl, ?_⟩
  refine ⟨rfl, by omega, ?_⟩
  refine mi_nl [(5, _), (0, _), (1, _), (2, _), (3, _), (4, _)] rfl ?_
  refine ⟨rfl, by omega, ?_⟩
  refine ⟨lH_A hs', _, _, _, _, n_fill (s := (sx G n 1)) (r := (sx G n 2)) hF htr hs' hI (i32_lo _) (i32_hi _) (i32_lo _) (i32_hi _), by omega, by omega, mkis_ (r := some (aI (v_fill μ (sx G n 1) (sx G n 2)))) (fun ⟨hV', hL'⟩ => ?_), fun _ _ q => q.elim⟩
  obtain ⟨k1, ⟨O', kI, kp⟩, ka⟩ := K_fill hI (sx G n 1) (sx G n 2) hV' hL' qq
  have v0 : 0 ≤ (s_fill μ (sx G n 1) (sx G n 2)) 0 0 ∧ (s_fill μ (sx G n 1) (sx G n 2)) 0 0 ≤ 2 := hV' 0 0
  refine ⟨lH_A hs', _, _, _, _, n_thrown hF htr hs' hV', by omega, by omega, mki_ (r := some (aI ((s_fill μ (sx G n 1) (sx G n 2)) 0 0))) ?_, fun _ _ q => q.elim⟩
  refine mi_nl [(6, _), (5, _), (0, _), (1, _), (2, _), (3, _), (4, _)] rfl ?_
  have fin := nx κ' (s_fill μ (sx G n 1) (sx G n 2)) B' bx' O' o' (cs + 4 + 0 + 0) (sl + 24 + 0 + 0) hs' kI hb' (by omega) (by omega)
  refine ⟨by omega, fun _ => ?_, fun ne => absurd k1 ne⟩
  refine ⟨by omega, fun _ => mi_Wsub (List.forall_mem_cons.mpr ⟨.tail _ (.tail _ (.head _)), List.forall_mem_cons.mpr ⟨.tail _ (.tail _ (.tail _ (.head _))), List.forall_mem_cons.mpr ⟨.tail _ (.tail _ (.tail _ (.tail _ (.head _)))), List.forall_mem_cons.mpr ⟨.tail _ (.tail _ (.tail _ (.tail _ (.tail _ (.head _))))), List.forall_mem_cons.mpr ⟨.tail _ (.tail _ (.tail _ (.tail _ (.tail _ (.tail _ (.head _)))))), fun _ h => absurd h List.not_mem_nil⟩⟩⟩⟩⟩) fin, fun ez => ?_⟩
  have e0 := kR_z (show kR 2 (e_kFill κ (sx G n 1) (sx G n 2)) = 0 from ez)
  refine ⟨1, (fun q => (iL (o' q)).toInt), _, (lH_ao hs').trans (congrArg some (oc_n o')), by omega, rfl, ?_⟩
  obtain ⟨a1, a2⟩ := ka e0
  have a3 : (iL (o' 0)).toInt = v_fill μ (sx G n 1) (sx G n 2) := by rw [a1]; exact iL_t (by omega) (by omega)
  refine ⟨a2, ?_⟩
  exact ⟨⟨i64_lo _, i64_hi _, by omega, by omega⟩, fun _ => mi_Wsub (List.forall_mem_cons.mpr ⟨.tail _ (.tail _ (.head _)), List.forall_mem_cons.mpr ⟨.tail _ (.tail _ (.tail _ (.head _))), List.forall_mem_cons.mpr ⟨.tail _ (.tail _ (.tail _ (.tail _ (.head _)))), List.forall_mem_cons.mpr ⟨.tail _ (.tail _ (.tail _ (.tail _ (.tail _ (.head _))))), List.forall_mem_cons.mpr ⟨.tail _ (.tail _ (.tail _ (.tail _ (.tail _ (.tail _ (.head _)))))), fun _ h => absurd h List.not_mem_nil⟩⟩⟩⟩⟩) fin, fun ne => absurd a3 ne⟩
set_option maxRecDepth 100000 in
set_option maxHeartbeats 4000000 in
theorem lc_deliver (hc : mm_C L G ML_law θ) (hn : 9 * n + 9 ≤ G.2.2.2.2.2.1) (hl : G.2.2.2.2.2.1 ≤ 4608) (nx : lwN L G θ A ax ao b5 1001 n (n + 1)) : lwN L G θ A ax ao b5 558 n n := by
  intro κ μ B bx O o cs sl hs hI hb hcs hsl
  subst hb
  have hF : mm_F G := hc.1
  have htr : L.stackTraces = false := hc.2.2.2.2.2.2.2.2.2.2.1
  have pb := Pot_b hI.1 hI.2.2.1
  have bd := kDel_le κ (sx G n 1)
  refine mi_sound hc okL_law 200 _ _ _ _ _ _ ?_
  refine ⟨rfl, by omega, ?_⟩
  refine ⟨_, _, _, _, w_deliver (p := (sx G n 1)) hF htr hs hI (i32_lo _) (i32_hi _), by omega, by omega, fun v h1 q => ?_, fun _ _ q => q.elim⟩
  obtain ⟨B', bx', κ', o', rfl, rfl, hs', hb', qq⟩ := q
  refine ⟨some (aI (kR 2 (e_kDeliver κ (sx G n 1)))), rfl, ?_⟩
  refine ⟨rfl, by omega, ?_⟩
  refine mi_nl [(5, _), (0, _), (1, _), (2, _), (3, _), (4, _)] rfl ?_
  refine ⟨lH_A hs', _, _, _, _, n_deliver (p := (sx G n 1)) hF htr hs' hI (i32_lo _) (i32_hi _), by omega, by omega, mkis_ (r := some (aI (v_deliver μ (sx G n 1)))) (fun ⟨hV', hB', hP'⟩ => ?_), fun _ _ q => q.elim⟩
  obtain ⟨k1, ⟨O', kI, kp⟩, ka⟩ := K_deliver hI (sx G n 1) hV' hB' hP' qq
  have v0 : 0 ≤ (s_deliver μ (sx G n 1)) 0 0 ∧ (s_deliver μ (sx G n 1)) 0 0 ≤ 2 := hV' 0 0
  refine ⟨lH_A hs', _, _, _, _, n_thrown hF htr hs' hV', by omega, by omega, mki_ (r := some (aI ((s_deliver μ (sx G n 1)) 0 0))) ?_, fun _ _ q => q.elim⟩
  refine mi_nl [(6, _), (5, _), (0, _), (1, _), (2, _), (3, _), (4, _)] rfl ?_
  have fin := nx κ' (s_deliver μ (sx G n 1)) B' bx' O' o' (cs + 322 + 0 + 0) (sl + (1670 + kDel κ (sx G n 1)) + 0 + 0) hs' kI hb' (by omega) (by omega)
  refine ⟨by omega, fun _ => ?_, fun ne => absurd k1 ne⟩
  refine ⟨by omega, fun _ => mi_Wsub (List.forall_mem_cons.mpr ⟨.tail _ (.tail _ (.head _)), List.forall_mem_cons.mpr ⟨.tail _ (.tail _ (.tail _ (.head _))), List.forall_mem_cons.mpr ⟨.tail _ (.tail _ (.tail _ (.tail _ (.head _)))), List.forall_mem_cons.mpr ⟨.tail _ (.tail _ (.tail _ (.tail _ (.tail _ (.head _))))), List.forall_mem_cons.mpr ⟨.tail _ (.tail _ (.tail _ (.tail _ (.tail _ (.tail _ (.head _)))))), fun _ h => absurd h List.not_mem_nil⟩⟩⟩⟩⟩) fin, fun ez => ?_⟩
  have e0 := kR_z (show kR 2 (e_kDeliver κ (sx G n 1)) = 0 from ez)
  refine ⟨1, (fun q => (iL (o' q)).toInt), _, (lH_ao hs').trans (congrArg some (oc_n o')), by omega, rfl, ?_⟩
  obtain ⟨a1, a2⟩ := ka e0
  have a3 : (iL (o' 0)).toInt = v_deliver μ (sx G n 1) := by rw [a1]; exact iL_t (by omega) (by omega)
  refine ⟨a2, ?_⟩
  exact ⟨⟨i64_lo _, i64_hi _, by omega, by omega⟩, fun _ => mi_Wsub (List.forall_mem_cons.mpr ⟨.tail _ (.tail _ (.head _)), List.forall_mem_cons.mpr ⟨.tail _ (.tail _ (.tail _ (.head _))), List.forall_mem_cons.mpr ⟨.tail _ (.tail _ (.tail _ (.tail _ (.head _)))), List.forall_mem_cons.mpr ⟨.tail _ (.tail _ (.tail _ (.tail _ (.tail _ (.head _))))), List.forall_mem_cons.mpr ⟨.tail _ (.tail _ (.tail _ (.tail _ (.tail _ (.tail _ (.head _)))))), fun _ h => absurd h List.not_mem_nil⟩⟩⟩⟩⟩) fin, fun ne => absurd a3 ne⟩
set_option maxRecDepth 100000 in
set_option maxHeartbeats 4000000 in
theorem lc_gone (hc : mm_C L G ML_law θ) (hn : 9 * n + 9 ≤ G.2.2.2.2.2.1) (hl : G.2.2.2.2.2.1 ≤ 4608) (nx : lwN L G θ A ax ao b5 1001 n (n + 1)) : lwN L G θ A ax ao b5 593 n n := by
  intro κ μ B bx O o cs sl hs hI hb hcs hsl
  subst hb
  have hF : mm_F G := hc.1
  have htr : L.stackTraces = false := hc.2.2.2.2.2.2.2.2.2.2.1
  have pb := Pot_b hI.1 hI.2.2.1
  by_cases z : sx G n 2 = 0
  · refine mi_sound hc okL_law 200 _ _ _ _ _ _ ?_
    refine ⟨rfl, by omega, ?_⟩
    refine ⟨rfl, by omega, ?_⟩
    refine ⟨⟨i32_lo _, i32_hi _⟩, fun _ => ?_, fun e => absurd z e⟩
    refine ⟨_, _, _, _, w_gone (p := (sx G n 1)) (g := 0) hF htr hs hI (i32_lo _) (i32_hi _) (Or.inl rfl), by omega, by omega, fun v h1 q => ?_, fun _ _ q => q.elim⟩
    obtain ⟨B', bx', κ', o', rfl, rfl, hs', hb', qq⟩ := q
    refine ⟨some (aI (kR 2 (e_kGone κ (sx G n 1) 0))), rfl, ?_⟩
    refine ⟨rfl, by omega, ?_⟩
    refine mi_nl [(5, _), (0, _), (1, _), (2, _), (3, _), (4, _)] rfl ?_
    refine ⟨rfl, by omega, ?_⟩
    refine ⟨⟨i32_lo _, i32_hi _⟩, fun _ => ?_, fun e => absurd z e⟩
    refine ⟨lH_A hs', _, _, _, _, n_gone (p := (sx G n 1)) (g := 0) hF htr hs' hI (i32_lo _) (i32_hi _) (Or.inl rfl), by omega, by omega, mkis_ (r := none) (fun ⟨hV', hL'⟩ => ?_), fun _ _ q => q.elim⟩
    obtain ⟨k1, ⟨O', kI, kp⟩⟩ := K_gone hI (sx G n 1) 0 hV' hL' qq
    have v0 : 0 ≤ (s_gone μ (sx G n 1) 0) 0 0 ∧ (s_gone μ (sx G n 1) 0) 0 0 ≤ 2 := hV' 0 0
    refine ⟨lH_A hs', _, _, _, _, n_thrown hF htr hs' hV', by omega, by omega, mki_ (r := some (aI ((s_gone μ (sx G n 1) 0) 0 0))) ?_, fun _ _ q => q.elim⟩
    have fin := nx κ' (s_gone μ (sx G n 1) 0) B' bx' O' o' (cs + 2 + 0 + 0) (sl + 12 + 0 + 0) hs' kI hb' (by omega) (by omega)
    refine ⟨by omega, fun _ => ?_, fun ne => absurd k1 ne⟩
    exact mi_Wsub (List.forall_mem_cons.mpr ⟨.tail _ (.head _), List.forall_mem_cons.mpr ⟨.tail _ (.tail _ (.head _)), List.forall_mem_cons.mpr ⟨.tail _ (.tail _ (.tail _ (.head _))), List.forall_mem_cons.mpr ⟨.tail _ (.tail _ (.tail _ (.tail _ (.head _)))), List.forall_mem_cons.mpr ⟨.tail _ (.tail _ (.tail _ (.tail _ (.tail _ (.head _))))), fun _ h => absurd h List.not_mem_nil⟩⟩⟩⟩⟩) fin
  · refine mi_sound hc okL_law 200 _ _ _ _ _ _ ?_
    refine ⟨rfl, by omega, ?_⟩
    refine ⟨rfl, by omega, ?_⟩
    refine ⟨⟨i32_lo _, i32_hi _⟩, fun e => absurd e z, fun _ => ?_⟩
    refine ⟨_, _, _, _, w_gone (p := (sx G n 1)) (g := 1) hF htr hs hI (i32_lo _) (i32_hi _) (Or.inr rfl), by omega, by omega, fun v h1 q => ?_, fun _ _ q => q.elim⟩
    obtain ⟨B', bx', κ', o', rfl, rfl, hs', hb', qq⟩ := q
    refine ⟨some (aI (kR 2 (e_kGone κ (sx G n 1) 1))), rfl, ?_⟩
    refine ⟨rfl, by omega, ?_⟩
    refine mi_nl [(5, _), (0, _), (1, _), (2, _), (3, _), (4, _)] rfl ?_
    refine ⟨rfl, by omega, ?_⟩
    refine ⟨⟨i32_lo _, i32_hi _⟩, fun e => absurd e z, fun _ => ?_⟩
    refine ⟨lH_A hs', _, _, _, _, n_gone (p := (sx G n 1)) (g := 1) hF htr hs' hI (i32_lo _) (i32_hi _) (Or.inr rfl), by omega, by omega, mkis_ (r := none) (fun ⟨hV', hL'⟩ => ?_), fun _ _ q => q.elim⟩
    obtain ⟨k1, ⟨O', kI, kp⟩⟩ := K_gone hI (sx G n 1) 1 hV' hL' qq
    have v0 : 0 ≤ (s_gone μ (sx G n 1) 1) 0 0 ∧ (s_gone μ (sx G n 1) 1) 0 0 ≤ 2 := hV' 0 0
    refine ⟨lH_A hs', _, _, _, _, n_thrown hF htr hs' hV', by omega, by omega, mki_ (r := some (aI ((s_gone μ (sx G n 1) 1) 0 0))) ?_, fun _ _ q => q.elim⟩
    have fin := nx κ' (s_gone μ (sx G n 1) 1) B' bx' O' o' (cs + 2 + 0 + 0) (sl + 12 + 0 + 0) hs' kI hb' (by omega) (by omega)
    refine ⟨by omega, fun _ => ?_, fun ne => absurd k1 ne⟩
    exact mi_Wsub (List.forall_mem_cons.mpr ⟨.tail _ (.head _), List.forall_mem_cons.mpr ⟨.tail _ (.tail _ (.head _)), List.forall_mem_cons.mpr ⟨.tail _ (.tail _ (.tail _ (.head _))), List.forall_mem_cons.mpr ⟨.tail _ (.tail _ (.tail _ (.tail _ (.head _)))), List.forall_mem_cons.mpr ⟨.tail _ (.tail _ (.tail _ (.tail _ (.tail _ (.head _))))), fun _ h => absurd h List.not_mem_nil⟩⟩⟩⟩⟩) fin
end LC2
