section LC0
variable {L : Launch} {G : mmG} {θ : mmT} {A : Nat → Nat} {ax : Nat → Option Nat} {ao b5 n : Nat} {κ : Nat → Nat → Int}
/-- the ints of the script; two of them as one number -/
abbrev sx (G : mmG) (n : Nat) (j : Int) : Int := (G.2.2.2.2.2.2 (9 * (n : Int) + j).toNat).toInt
abbrev lx (G : mmG) (n : Nat) (j j' : Int) : Int := (iL ((iL (sx G n j) <<< ((iI 32).toInt64 &&& 63)).toInt) ||| iL ((iL (sx G n j') &&& iL 4294967295).toInt)).toInt
def lwPR : Option Value → mmH → Prop := fun r _ => r = some (.int 1)
/-- the law comes to its end from entry j on, in the n-th call, with the room of m calls used -/
def lwN (L : Launch) (G : mmG) (θ : mmT) (A : Nat → Nat) (ax : Nat → Option Nat) (ao b5 j n m : Nat) : Prop := ∀ (κ μ : Nat → Nat → Int) (B : Nat → Nat → Nat) (bx : Nat → Option (Nat × Nat)) (O : Nat → Nat) (o : Nat → Int) (cs sl : Nat), lS B bx A ax ao κ → lI κ μ O → B 5 0 = b5 → cs ≤ 1000 + 330 * m → (sl : Int) ≤ 1000000 + 1700 * m + kPot κ → mi_W L G ML_law 601024 7293034 lwPR mm_no θ j [(0, aR G.2.2.2.2.1), (1, aR b5), (2, aR (A 99)), (3, aR ao), (4, aI (9 * (n : Int)))] [] (lH G A ax B bx ao o κ μ) cs sl
theorem kR_z {e : Int} (h : kR 2 e = 0) : e = 0 := by
  by_cases z : e = 0
  · exact z
  · rw [kR_n z] at h
    unfold kCd at h
    split at h <;> omega
theorem oc_n (o : Nat → Int) : oc G o = .inl (mm_dA G 1, 1, .inr (.inl (fun q => iL ((fun q => (iL (o q)).toInt) q)))) := by
  unfold oc
  have : (fun q => iL (o q)) = (fun q => iL ((fun q => (iL (o q)).toInt) q)) := funext fun q => i64_s _
  rw [this]
theorem grown_le (a b : Int) : v_grownLength a b ≤ 65536 := by
  have := grown_c a b
  omega
theorem kBri_le (κ : Nat → Nat → Int) (p s i u : Int) : kBri κ p s i u ≤ 65536 := by
  unfold kBri
  have := grown_le (κ 600 (κ 101 (mj s i)).toNat) (u + κ 9 p.toNat)
  repeat' split
  all_goals omega
theorem kRea_le (κ : Nat → Nat → Int) (p s i e : Int) : kRea κ p s i e ≤ 65536 := by
  unfold kRea
  split
  · omega
  · exact kBri_le _ _ _ _ _
theorem kTfr_le (κ : Nat → Nat → Int) (s p : Int) : kTfr κ s p ≤ 65536 := by
  unfold kTfr
  split
  · omega
  · exact kRea_le _ _ _ _ _
theorem kTin_le (κ : Nat → Nat → Int) (s p : Int) : kTin κ s p ≤ 65536 := by
  unfold kTin
  split
  · omega
  · exact kTfr_le _ _ _
theorem kDel_le (κ : Nat → Nat → Int) (p : Int) : kDel κ p ≤ 65536 := by
  unfold kDel
  split
  · exact kTin_le _ _ _
  · omega
theorem kTkc_le (κ : Nat → Nat → Int) (s u a b c : Int) : kTkc κ s u a b c ≤ 65536 := by
  unfold kTkc
  split
  · exact kTin_le _ _ _
  · omega
theorem kWr_le (κ : Nat → Nat → Int) (s i : Int) : kWr κ s i ≤ 131072 := by
  unfold kWr kAcc kApp
  have := grown_le (κ 600 (κ 201 (mj s i)).toNat) (κ 203 (mj s i) + v_minI (κ 505 0) (65536 - κ 308 s.toNat))
  repeat' split
  all_goals omega
end LC0
section LC1
variable {L : Launch} {G : mmG} {θ : mmT} {A : Nat → Nat} {ax : Nat → Option Nat} {ao b5 n : Nat}
set_option maxRecDepth 100000 in
set_option maxHeartbeats 4000000 in
theorem lc_grant (hc : mm_C L G ML_law θ) (hn : 9 * n + 9 ≤ G.2.2.2.2.2.1) (hl : G.2.2.2.2.2.1 ≤ 4608) (nx : lwN L G θ A ax ao b5 1001 n (n + 1)) : lwN L G θ A ax ao b5 25 n n := by
  intro κ μ B bx O o cs sl hs hI hb hcs hsl
  subst hb
  have hF : mm_F G := hc.1
  have htr : L.stackTraces = false := hc.2.2.2.2.2.2.2.2.2.2.1
  have pb := Pot_b hI.1 hI.2.2.1
  refine mi_sound hc okL_law 200 _ _ _ _ _ _ ?_
  refine ⟨rfl, by omega, ?_⟩
  refine ⟨rfl, by omega, ?_⟩
  refine ⟨rfl, by omega, ?_⟩
  refine ⟨_, _, _, _, w_grant (s := (sx G n 1)) (i := (sx G n 2)) (v := (sx G n 3)) hF htr hs hI (i32_lo _) (i32_hi _) (i32_lo _) (i32_hi _) (i32_lo _) (i32_hi _), by omega, by omega, fun v h1 q => ?_, fun _ _ q => q.elim⟩
  obtain ⟨B', bx', κ', o', rfl, rfl, hs', hb', qq⟩ := q
  refine ⟨some (aI (kR 2 (e_kGrant κ (sx G n 1) (sx G n 2) (sx G n 3)))), rfl, ?_⟩
  refine ⟨rfl, by omega, ?_⟩
  refine mi_nl [(5, _), (0, _), (1, _), (2, _), (3, _), (4, _)] rfl ?_
  refine ⟨rfl, by omega, ?_⟩
  refine ⟨rfl, by omega, ?_⟩
  refine ⟨lH_A hs', _, _, _, _, n_grant (s := (sx G n 1)) (i := (sx G n 2)) (v := (sx G n 3)) hF htr hs' hI (i32_lo _) (i32_hi _) (i32_lo _) (i32_hi _) (i32_lo _) (i32_hi _), by omega, by omega, mkis_ (r := none) (fun hV' => ?_), fun _ _ q => q.elim⟩
  obtain ⟨k1, ⟨O', kI, kp⟩⟩ := K_grant hI (sx G n 1) (sx G n 2) (sx G n 3) hV' qq
  have v0 : 0 ≤ (s_grant μ (sx G n 1) (sx G n 2) (sx G n 3)) 0 0 ∧ (s_grant μ (sx G n 1) (sx G n 2) (sx G n 3)) 0 0 ≤ 2 := hV' 0 0
  refine ⟨lH_A hs', _, _, _, _, n_thrown hF htr hs' hV', by omega, by omega, mki_ (r := some (aI ((s_grant μ (sx G n 1) (sx G n 2) (sx G n 3)) 0 0))) ?_, fun _ _ q => q.elim⟩
  have fin := nx κ' (s_grant μ (sx G n 1) (sx G n 2) (sx G n 3)) B' bx' O' o' (cs + 2 + 0 + 0) (sl + 12 + 0 + 0) hs' kI hb' (by omega) (by omega)
  refine ⟨by omega, fun _ => ?_, fun ne => absurd k1 ne⟩
  exact mi_Wsub (List.forall_mem_cons.mpr ⟨.tail _ (.head _), List.forall_mem_cons.mpr ⟨.tail _ (.tail _ (.head _)), List.forall_mem_cons.mpr ⟨.tail _ (.tail _ (.tail _ (.head _))), List.forall_mem_cons.mpr ⟨.tail _ (.tail _ (.tail _ (.tail _ (.head _)))), List.forall_mem_cons.mpr ⟨.tail _ (.tail _ (.tail _ (.tail _ (.tail _ (.head _))))), fun _ h => absurd h List.not_mem_nil⟩⟩⟩⟩⟩) fin
set_option maxRecDepth 100000 in
set_option maxHeartbeats 4000000 in
theorem lc_join (hc : mm_C L G ML_law θ) (hn : 9 * n + 9 ≤ G.2.2.2.2.2.1) (hl : G.2.2.2.2.2.1 ≤ 4608) (nx : lwN L G θ A ax ao b5 1001 n (n + 1)) : lwN L G θ A ax ao b5 67 n n := by
  intro κ μ B bx O o cs sl hs hI hb hcs hsl
  subst hb
  have hF : mm_F G := hc.1
  have htr : L.stackTraces = false := hc.2.2.2.2.2.2.2.2.2.2.1
  have pb := Pot_b hI.1 hI.2.2.1
  refine mi_sound hc okL_law 200 _ _ _ _ _ _ ?_
  refine ⟨_, _, _, _, w_join hF htr hs hI, by omega, by omega, fun v h1 q => ?_, fun _ _ q => q.elim⟩
  obtain ⟨B', bx', κ', o', rfl, rfl, hs', hb', qq⟩ := q
  refine ⟨some (aI (kR 1 (e_kJoin κ))), rfl, ?_⟩
  refine ⟨lH_A hs', _, _, _, _, n_join hF htr hs' hI, by omega, by omega, mkis_ (r := none) (fun hV' => ?_), fun _ _ q => q.elim⟩
  refine mi_nl [(5, _), (0, _), (1, _), (2, _), (3, _), (4, _)] rfl ?_
  obtain ⟨k1, ⟨O', kI, kp⟩⟩ := K_join hI hV' qq
  have v0 : 0 ≤ (s_join μ) 0 0 ∧ (s_join μ) 0 0 ≤ 2 := hV' 0 0
  refine ⟨lH_A hs', _, _, _, _, n_thrown hF htr hs' hV', by omega, by omega, mki_ (r := some (aI ((s_join μ) 0 0))) ?_, fun _ _ q => q.elim⟩
  have fin := nx κ' (s_join μ) B' bx' O' o' (cs + 1 + 0 + 0) (sl + 6 + 0 + 0) hs' kI hb' (by omega) (by omega)
  refine ⟨by omega, fun _ => ?_, fun ne => absurd k1 ne⟩
  exact mi_Wsub (List.forall_mem_cons.mpr ⟨.tail _ (.head _), List.forall_mem_cons.mpr ⟨.tail _ (.tail _ (.head _)), List.forall_mem_cons.mpr ⟨.tail _ (.tail _ (.tail _ (.head _))), List.forall_mem_cons.mpr ⟨.tail _ (.tail _ (.tail _ (.tail _ (.head _)))), List.forall_mem_cons.mpr ⟨.tail _ (.tail _ (.tail _ (.tail _ (.tail _ (.head _))))), fun _ h => absurd h List.not_mem_nil⟩⟩⟩⟩⟩) fin
set_option maxRecDepth 100000 in
set_option maxHeartbeats 4000000 in
theorem lc_feed (hc : mm_C L G ML_law θ) (hn : 9 * n + 9 ≤ G.2.2.2.2.2.1) (hl : G.2.2.2.2.2.1 ≤ 4608) (nx : lwN L G θ A ax ao b5 1001 n (n + 1)) : lwN L G θ A ax ao b5 79 n n := by
  intro κ μ B bx O o cs sl hs hI hb hcs hsl
  subst hb
  have hF : mm_F G := hc.1
  have htr : L.stackTraces = false := hc.2.2.2.2.2.2.2.2.2.2.1
  have pb := Pot_b hI.1 hI.2.2.1
  refine mi_sound hc okL_law 200 _ _ _ _ _ _ ?_
  refine ⟨rfl, by omega, ?_⟩
  refine ⟨rfl, by omega, ?_⟩
  refine ⟨⟨i32_lo _, i32_hi _⟩, ?_⟩
  refine ⟨_, i64_s _, ?_⟩
  refine ⟨rfl, by omega, ?_⟩
  refine ⟨⟨i32_lo _, i32_hi _⟩, ?_⟩
  refine ⟨4294967295, rfl, ?_⟩
  refine ⟨_, i64_s _, ?_⟩
  refine ⟨_, i64_s _, ?_⟩
  refine ⟨_, _, _, _, w_feed (n := (sx G n 1)) (v := (lx G n 2 3)) hF htr hs hI (i32_lo _) (i32_hi _) (i64_lo _) (i64_hi _), by omega, by omega, fun v h1 q => ?_, fun _ _ q => q.elim⟩
  obtain ⟨B', bx', κ', o', rfl, rfl, hs', hb', qq⟩ := q
  refine ⟨some (aI (kR 2 (e_kFeed κ (sx G n 1) (lx G n 2 3)))), rfl, ?_⟩
  refine ⟨rfl, by omega, ?_⟩
  refine mi_nl [(5, _), (0, _), (1, _), (2, _), (3, _), (4, _)] rfl ?_
  refine ⟨rfl, by omega, ?_⟩
  refine ⟨⟨i32_lo _, i32_hi _⟩, ?_⟩
  refine ⟨_, i64_s _, ?_⟩
  refine ⟨rfl, by omega, ?_⟩
  refine ⟨⟨i32_lo _, i32_hi _⟩, ?_⟩
  refine ⟨4294967295, rfl, ?_⟩
  refine ⟨_, i64_s _, ?_⟩
  refine ⟨_, i64_s _, ?_⟩
  refine ⟨lH_A hs', _, _, _, _, n_feed (n := (sx G n 1)) (v := (lx G n 2 3)) hF htr hs' hI (i32_lo _) (i32_hi _) (i64_lo _) (i64_hi _), by omega, by omega, mkis_ (r := some (aI (v_feed μ (sx G n 1) (lx G n 2 3)))) (fun hV' => ?_), fun _ _ q => q.elim⟩
  obtain ⟨k1, ⟨O', kI, kp⟩, ka⟩ := K_feed hI (sx G n 1) (lx G n 2 3) hV' qq
  have v0 : 0 ≤ (s_feed μ (sx G n 1) (lx G n 2 3)) 0 0 ∧ (s_feed μ (sx G n 1) (lx G n 2 3)) 0 0 ≤ 2 := hV' 0 0
  refine ⟨lH_A hs', _, _, _, _, n_thrown hF htr hs' hV', by omega, by omega, mki_ (r := some (aI ((s_feed μ (sx G n 1) (lx G n 2 3)) 0 0))) ?_, fun _ _ q => q.elim⟩
  refine mi_nl [(6, _), (5, _), (0, _), (1, _), (2, _), (3, _), (4, _)] rfl ?_
  have fin := nx κ' (s_feed μ (sx G n 1) (lx G n 2 3)) B' bx' O' o' (cs + 1 + 0 + 0) (sl + 6 + 0 + 0) hs' kI hb' (by omega) (by omega)
  refine ⟨by omega, fun _ => ?_, fun ne => absurd k1 ne⟩
  refine ⟨by omega, fun _ => mi_Wsub (List.forall_mem_cons.mpr ⟨.tail _ (.tail _ (.head _)), List.forall_mem_cons.mpr ⟨.tail _ (.tail _ (.tail _ (.head _))), List.forall_mem_cons.mpr ⟨.tail _ (.tail _ (.tail _ (.tail _ (.head _)))), List.forall_mem_cons.mpr ⟨.tail _ (.tail _ (.tail _ (.tail _ (.tail _ (.head _))))), List.forall_mem_cons.mpr ⟨.tail _ (.tail _ (.tail _ (.tail _ (.tail _ (.tail _ (.head _)))))), fun _ h => absurd h List.not_mem_nil⟩⟩⟩⟩⟩) fin, fun ez => ?_⟩
  have e0 := kR_z (show kR 2 (e_kFeed κ (sx G n 1) (lx G n 2 3)) = 0 from ez)
  refine ⟨1, (fun q => (iL (o' q)).toInt), _, (lH_ao hs').trans (congrArg some (oc_n o')), by omega, rfl, ?_⟩
  obtain ⟨a1, a2⟩ := ka e0
  have a3 : (iL (o' 0)).toInt = v_feed μ (sx G n 1) (lx G n 2 3) := by rw [a1]; exact iL_t (by omega) (by omega)
  refine ⟨a2, ?_⟩
  exact ⟨⟨i64_lo _, i64_hi _, by omega, by omega⟩, fun _ => mi_Wsub (List.forall_mem_cons.mpr ⟨.tail _ (.tail _ (.head _)), List.forall_mem_cons.mpr ⟨.tail _ (.tail _ (.tail _ (.head _))), List.forall_mem_cons.mpr ⟨.tail _ (.tail _ (.tail _ (.tail _ (.head _)))), List.forall_mem_cons.mpr ⟨.tail _ (.tail _ (.tail _ (.tail _ (.tail _ (.head _))))), List.forall_mem_cons.mpr ⟨.tail _ (.tail _ (.tail _ (.tail _ (.tail _ (.tail _ (.head _)))))), fun _ h => absurd h List.not_mem_nil⟩⟩⟩⟩⟩) fin, fun ne => absurd a3 ne⟩
set_option maxRecDepth 100000 in
set_option maxHeartbeats 4000000 in
theorem lc_open (hc : mm_C L G ML_law θ) (hn : 9 * n + 9 ≤ G.2.2.2.2.2.1) (hl : G.2.2.2.2.2.1 ≤ 4608) (nx : lwN L G θ A ax ao b5 1001 n (n + 1)) : lwN L G θ A ax ao b5 148 n n := by
  intro κ μ B bx O o cs sl hs hI hb hcs hsl
  subst hb
  have hF : mm_F G := hc.1
  have htr : L.stackTraces = false := hc.2.2.2.2.2.2.2.2.2.2.1
  have pb := Pot_b hI.1 hI.2.2.1
  by_cases z : sx G n 2 = 0
  · refine mi_sound hc okL_law 200 _ _ _ _ _ _ ?_
    refine ⟨rfl, by omega, ?_⟩
    refine ⟨rfl, by omega, ?_⟩
    refine ⟨⟨i32_lo _, i32_hi _⟩, fun _ => ?_, fun e => absurd z e⟩
    refine ⟨_, _, _, _, w_open (s := (sx G n 1)) (p := 0) hF htr hs hI (i32_lo _) (i32_hi _) (Or.inl rfl), by omega, by omega, fun v h1 q => ?_, fun _ _ q => q.elim⟩
    obtain ⟨B', bx', κ', o', rfl, rfl, hs', hb', qq⟩ := q
    refine ⟨some (aI (kR 2 (e_kOpen κ (sx G n 1) 0))), rfl, ?_⟩
    refine ⟨rfl, by omega, ?_⟩
    refine mi_nl [(5, _), (0, _), (1, _), (2, _), (3, _), (4, _)] rfl ?_
    refine ⟨rfl, by omega, ?_⟩
    refine ⟨⟨i32_lo _, i32_hi _⟩, fun _ => ?_, fun e => absurd z e⟩
    refine ⟨lH_A hs', _, _, _, _, n_open (s := (sx G n 1)) (p := 0) hF htr hs' hI (i32_lo _) (i32_hi _) (Or.inl rfl), by omega, by omega, mkis_ (r := some (aI (v_open μ (sx G n 1) 0))) (fun hV' => ?_), fun _ _ q => q.elim⟩
    obtain ⟨k1, ⟨O', kI, kp⟩, ka⟩ := K_open hI (sx G n 1) 0 hV' (Or.inl rfl) qq
    have v0 : 0 ≤ (s_open μ (sx G n 1) 0) 0 0 ∧ (s_open μ (sx G n 1) 0) 0 0 ≤ 2 := hV' 0 0
    refine ⟨lH_A hs', _, _, _, _, n_thrown hF htr hs' hV', by omega, by omega, mki_ (r := some (aI ((s_open μ (sx G n 1) 0) 0 0))) ?_, fun _ _ q => q.elim⟩
    refine mi_nl [(6, _), (5, _), (0, _), (1, _), (2, _), (3, _), (4, _)] rfl ?_
    have fin := nx κ' (s_open μ (sx G n 1) 0) B' bx' O' o' (cs + 7 + 0 + 0) (sl + 38 + 0 + 0) hs' kI hb' (by omega) (by omega)
    refine ⟨by omega, fun _ => ?_, fun ne => absurd k1 ne⟩
    refine ⟨by omega, fun _ => mi_Wsub (List.forall_mem_cons.mpr ⟨.tail _ (.tail _ (.head _)), List.forall_mem_cons.mpr ⟨.tail _ (.tail _ (.tail _ (.head _))), List.forall_mem_cons.mpr ⟨.tail _ (.tail _ (.tail _ (.tail _ (.head _)))), List.forall_mem_cons.mpr ⟨.tail _ (.tail _ (.tail _ (.tail _ (.tail _ (.head _))))), List.forall_mem_cons.mpr ⟨.tail _ (.tail _ (.tail _ (.tail _ (.tail _ (.tail _ (.head _)))))), fun _ h => absurd h List.not_mem_nil⟩⟩⟩⟩⟩) fin, fun ez => ?_⟩
    have e0 := kR_z (show kR 2 (e_kOpen κ (sx G n 1) 0) = 0 from ez)
    refine ⟨1, (fun q => (iL (o' q)).toInt), _, (lH_ao hs').trans (congrArg some (oc_n o')), by omega, rfl, ?_⟩
    obtain ⟨a1, a2⟩ := ka e0
    have a3 : (iL (o' 0)).toInt = v_open μ (sx G n 1) 0 := by rw [a1]; exact iL_t (by omega) (by omega)
    refine ⟨a2, ?_⟩
    exact ⟨⟨i64_lo _, i64_hi _, by omega, by omega⟩, fun _ => mi_Wsub (List.forall_mem_cons.mpr ⟨.tail _ (.tail _ (.head _)), List.forall_mem_cons.mpr ⟨.tail _ (.tail _ (.tail _ (.head _))), List.forall_mem_cons.mpr ⟨.tail _ (.tail _ (.tail _ (.tail _ (.head _)))), List.forall_mem_cons.mpr ⟨.tail _ (.tail _ (.tail _ (.tail _ (.tail _ (.head _))))), List.forall_mem_cons.mpr ⟨.tail _ (.tail _ (.tail _ (.tail _ (.tail _ (.tail _ (.head _)))))), fun _ h => absurd h List.not_mem_nil⟩⟩⟩⟩⟩) fin, fun ne => absurd a3 ne⟩
  · refine mi_sound hc okL_law 200 _ _ _ _ _ _ ?_
    refine ⟨rfl, by omega, ?_⟩
    refine ⟨rfl, by omega, ?_⟩
    refine ⟨⟨i32_lo _, i32_hi _⟩, fun e => absurd e z, fun _ => ?_⟩
    refine ⟨_, _, _, _, w_open (s := (sx G n 1)) (p := 1) hF htr hs hI (i32_lo _) (i32_hi _) (Or.inr rfl), by omega, by omega, fun v h1 q => ?_, fun _ _ q => q.elim⟩
    obtain ⟨B', bx', κ', o', rfl, rfl, hs', hb', qq⟩ := q
    refine ⟨some (aI (kR 2 (e_kOpen κ (sx G n 1) 1))), rfl, ?_⟩
    refine ⟨rfl, by omega, ?_⟩
    refine mi_nl [(5, _), (0, _), (1, _), (2, _), (3, _), (4, _)] rfl ?_
    refine ⟨rfl, by omega, ?_⟩
    refine ⟨⟨i32_lo _, i32_hi _⟩, fun e => absurd e z, fun _ => ?_⟩
    refine ⟨lH_A hs', _, _, _, _, n_open (s := (sx G n 1)) (p := 1) hF htr hs' hI (i32_lo _) (i32_hi _) (Or.inr rfl), by omega, by omega, mkis_ (r := some (aI (v_open μ (sx G n 1) 1))) (fun hV' => ?_), fun _ _ q => q.elim⟩
    obtain ⟨k1, ⟨O', kI, kp⟩, ka⟩ := K_open hI (sx G n 1) 1 hV' (Or.inr rfl) qq
    have v0 : 0 ≤ (s_open μ (sx G n 1) 1) 0 0 ∧ (s_open μ (sx G n 1) 1) 0 0 ≤ 2 := hV' 0 0
    refine ⟨lH_A hs', _, _, _, _, n_thrown hF htr hs' hV', by omega, by omega, mki_ (r := some (aI ((s_open μ (sx G n 1) 1) 0 0))) ?_, fun _ _ q => q.elim⟩
    refine mi_nl [(6, _), (5, _), (0, _), (1, _), (2, _), (3, _), (4, _)] rfl ?_
    have fin := nx κ' (s_open μ (sx G n 1) 1) B' bx' O' o' (cs + 7 + 0 + 0) (sl + 38 + 0 + 0) hs' kI hb' (by omega) (by omega)
    refine ⟨by omega, fun _ => ?_, fun ne => absurd k1 ne⟩
    refine ⟨by omega, fun _ => mi_Wsub (List.forall_mem_cons.mpr ⟨.tail _ (.tail _ (.head _)), List.forall_mem_cons.mpr ⟨.tail _ (.tail _ (.tail _ (.head _))), List.forall_mem_cons.mpr ⟨.tail _ (.tail _ (.tail _ (.tail _ (.head _)))), List.forall_mem_cons.mpr ⟨.tail _ (.tail _ (.tail _ (.tail _ (.tail _ (.head _))))), List.forall_mem_cons.mpr ⟨.tail _ (.tail _ (.tail _ (.tail _ (.tail _ (.tail _ (.head _)))))), fun _ h => absurd h List.not_mem_nil⟩⟩⟩⟩⟩) fin, fun ez => ?_⟩
    have e0 := kR_z (show kR 2 (e_kOpen κ (sx G n 1) 1) = 0 from ez)
    refine ⟨1, (fun q => (iL (o' q)).toInt), _, (lH_ao hs').trans (congrArg some (oc_n o')), by omega, rfl, ?_⟩
    obtain ⟨a1, a2⟩ := ka e0
    have a3 : (iL (o' 0)).toInt = v_open μ (sx G n 1) 1 := by rw [a1]; exact iL_t (by omega) (by omega)
    refine ⟨a2, ?_⟩
    exact ⟨⟨i64_lo _, i64_hi _, by omega, by omega⟩, fun _ => mi_Wsub (List.forall_mem_cons.mpr ⟨.tail _ (.tail _ (.head _)), List.forall_mem_cons.mpr ⟨.tail _ (.tail _ (.tail _ (.head _))), List.forall_mem_cons.mpr ⟨.tail _ (.tail _ (.tail _ (.tail _ (.head _)))), List.forall_mem_cons.mpr ⟨.tail _ (.tail _ (.tail _ (.tail _ (.tail _ (.head _))))), List.forall_mem_cons.mpr ⟨.tail _ (.tail _ (.tail _ (.tail _ (.tail _ (.tail _ (.head _)))))), fun _ h => absurd h List.not_mem_nil⟩⟩⟩⟩⟩) fin, fun ne => absurd a3 ne⟩
set_option maxRecDepth 100000 in
set_option maxHeartbeats 4000000 in
theorem lc_write (hc : mm_C L G ML_law θ) (hn : 9 * n + 9 ≤ G.2.2.2.2.2.1) (hl : G.2.2.2.2.2.1 ≤ 4608) (nx : lwN L G θ A ax ao b5 1001 n (n + 1)) : lwN L G θ A ax ao b5 201 n n := by
  intro κ μ B bx O o cs sl hs hI hb hcs hsl
  subst hb
  have hF : mm_F G := hc.1
  have htr : L.stackTraces = false := hc.2.2.2.2.2.2.2.2.2.2.1
  have pb := Pot_b hI.1 hI.2.2.1
  have bd := kWr_le κ (sx G n 1) (sx G n 2)
  refine mi_sound hc okL_law 200 _ _ _ _ _ _ ?_
  refine ⟨rfl, by omega, ?_⟩
  refine ⟨rfl, by omega, ?_⟩
  refine ⟨_, _, _, _, w_write (s := (sx G n 1)) (i := (sx G n 2)) hF htr hs hI (i32_lo _) (i32_hi _) (i32_lo _) (i32_hi _), by omega, by omega, fun v h1 q => ?_, fun _ _ q => q.elim⟩
  obtain ⟨B', bx', κ', o', rfl, rfl, hs', hb', qq⟩ := q
  refine ⟨some (aI (kR 2 (e_kWrite κ (sx G n 1) (sx G n 2)))), rfl, ?_⟩
  refine ⟨rfl, by omega, ?_⟩
  refine mi_nl [(5, _), (0, _), (1, _), (2, _), (3, _), (4, _)] rfl ?_
  refine ⟨rfl, by omega, ?_⟩
  refine ⟨lH_A hs', _, _, _, _, n_write (s := (sx G n 1)) (i := (sx G n 2)) hF htr hs' hI (i32_lo _) (i32_hi _) (i32_lo _) (i32_hi _), by omega, by omega, mkis_ (r := some (aI (v_write μ (sx G n 1) (sx G n 2)))) (fun hV' => ?_), fun _ _ q => q.elim⟩
  obtain ⟨k1, ⟨O', kI, kp⟩, ka⟩ := K_write hI (sx G n 1) (sx G n 2) hV' qq
  have v0 : 0 ≤ (s_write μ (sx G n 1) (sx G n 2)) 0 0 ∧ (s_write μ (sx G n 1) (sx G n 2)) 0 0 ≤ 2 := hV' 0 0
  refine ⟨lH_A hs', _, _, _, _, n_thrown hF htr hs' hV', by omega, by omega, mki_ (r := some (aI ((s_write μ (sx G n 1) (sx G n 2)) 0 0))) ?_, fun _ _ q => q.elim⟩
  refine mi_nl [(6, _), (5, _), (0, _), (1, _), (2, _), (3, _), (4, _)] rfl ?_
  have fin := nx κ' (s_write μ (sx G n 1) (sx G n 2)) B' bx' O' o' (cs + 3 + 0 + 0) (sl + (6 + kWr κ (sx G n 1) (sx G n 2)) + 0 + 0) hs' kI hb' (by omega) (by omega)
  refine ⟨by omega, fun _ => ?_, fun ne => absurd k1 ne⟩
  refine ⟨by omega, fun _ => mi_Wsub (List.forall_mem_cons.mpr ⟨.tail _ (.tail _ (.head _)), List.forall_mem_cons.mpr ⟨.tail _ (.tail _ (.tail _ (.head _))), List.forall_mem_cons.mpr ⟨.tail _ (.tail _ (.tail _ (.tail _ (.head _)))), List.forall_mem_cons.mpr ⟨.tail _ (.tail _ (.tail _ (.tail _ (.tail _ (.head _))))), List.forall_mem_cons.mpr ⟨.tail _ (.tail _ (.tail _ (.tail _ (.tail _ (.tail _ (.head _)))))), fun _ h => absurd h List.not_mem_nil⟩⟩⟩⟩⟩) fin, fun ez => ?_⟩
  have e0 := kR_z (show kR 2 (e_kWrite κ (sx G n 1) (sx G n 2)) = 0 from ez)
  refine ⟨1, (fun q => (iL (o' q)).toInt), _, (lH_ao hs').trans (congrArg some (oc_n o')), by omega, rfl, ?_⟩
  obtain ⟨a1, a2⟩ := ka e0
  have a3 : (iL (o' 0)).toInt = v_write μ (sx G n 1) (sx G n 2) := by rw [a1]; exact iL_t (by omega) (by omega)
  refine ⟨a2, ?_⟩
  exact ⟨⟨i64_lo _, i64_hi _, by omega, by omega⟩, fun _ => mi_Wsub (List.forall_mem_cons.mpr ⟨.tail _ (.tail _ (.head _)), List.forall_mem_cons.mpr ⟨.tail _ (.tail _ (.tail _ (.head _))), List.forall_mem_cons.mpr ⟨.tail _ (.tail _ (.tail _ (.tail _ (.head _)))), List.forall_mem_cons.mpr ⟨.tail _ (.tail _ (.tail _ (.tail _ (.tail _ (.head _))))), List.forall_mem_cons.mpr ⟨.tail _ (.tail _ (.tail _ (.tail _ (.tail _ (.tail _ (.head _)))))), fun _ h => absurd h List.not_mem_nil⟩⟩⟩⟩⟩) fin, fun ne => absurd a3 ne⟩
set_option maxRecDepth 100000 in
set_option maxHeartbeats 4000000 in
theorem lc_finish (hc : mm_C L G ML_law θ) (hn : 9 * n + 9 ≤ G.2.2.2.2.2.1) (hl : G.2.2.2.2.2.1 ≤ 4608) (nx : lwN L G θ A ax ao b5 1001 n (n + 1)) : lwN L G θ A ax ao b5 246 n n := by
  intro κ μ B bx O o cs sl hs hI hb hcs hsl
  subst hb
  have hF : mm_F G := hc.1
  have htr : L.stackTraces = false := hc.2.2.2.2.2.2.2.2.2.2.1
  have pb := Pot_b hI.1 hI.2.2.1
  refine mi_sound hc okL_law 200 _ _ _ _ _ _ ?_
  refine ⟨rfl, by omega, ?_⟩
  refine ⟨rfl, by omega, ?_⟩
  refine ⟨_, _, _, _, w_finish (s := (sx G n 1)) (i := (sx G n 2)) hF htr hs hI (i32_lo _) (i32_hi _) (i32_lo _) (i32_hi _), by omega, by omega, fun v h1 q => ?_, fun _ _ q => q.elim⟩
  obtain ⟨B', bx', κ', o', rfl, rfl, hs', hb', qq⟩ := q
  refine ⟨some (aI (kR 2 (e_kFinish κ (sx G n 1) (sx G n 2)))), rfl, ?_⟩
  refine ⟨rfl, by omega, ?_⟩
  refine mi_nl [(5, _), (0, _), (1, _), (2, _), (3, _), (4, _)] rfl ?_
  refine ⟨rfl, by omega, ?_⟩
  refine ⟨lH_A hs', _, _, _, _, n_finish (s := (sx G n 1)) (i := (sx G n 2)) hF htr hs' hI (i32_lo _) (i32_hi _) (i32_lo _) (i32_hi _), by omega, by omega, mkis_ (r := some (aI (v_finish μ (sx G n 1) (sx G n 2)))) (fun hV' => ?_), fun _ _ q => q.elim⟩
  obtain ⟨k1, ⟨O', kI, kp⟩, ka⟩ := K_finish hI (sx G n 1) (sx G n 2) hV' qq
  have v0 : 0 ≤ (s_finish μ (sx G n 1) (sx G n 2)) 0 0 ∧ (s_finish μ (sx G n 1) (sx G n 2)) 0 0 ≤ 2 := hV' 0 0
  refine ⟨lH_A hs', _, _, _, _, n_thrown hF htr hs' hV', by omega, by omega, mki_ (r := some (aI ((s_finish μ (sx G n 1) (sx G n 2)) 0 0))) ?_, fun _ _ q => q.elim⟩
  refine mi_nl [(6, _), (5, _), (0, _), (1, _), (2, _), (3, _), (4, _)] rfl ?_
  have fin := nx κ' (s_finish μ (sx G n 1) (sx G n 2)) B' bx' O' o' (cs + 1 + 0 + 0) (sl + 6 + 0 + 0) hs' kI hb' (by omega) (by omega)
  refine ⟨by omega, fun _ => ?_, fun ne => absurd k1 ne⟩
  refine ⟨by omega, fun _ => mi_Wsub (List.forall_mem_cons.mpr ⟨.tail _ (.tail _ (.head _)), List.forall_mem_cons.mpr ⟨.tail _ (.tail _ (.tail _ (.head _))), List.forall_mem_cons.mpr ⟨.tail _ (.tail _ (.tail _ (.tail _ (.head _)))), List.forall_mem_cons.mpr ⟨.tail _ (.tail _ (.tail _ (.tail _ (.tail _ (.head _))))), List.forall_mem_cons.mpr ⟨.tail _ (.tail _ (.tail _ (.tail _ (.tail _ (.tail _ (.head _)))))), fun _ h => absurd h List.not_mem_nil⟩⟩⟩⟩⟩) fin, fun ez => ?_⟩
  have e0 := kR_z (show kR 2 (e_kFinish κ (sx G n 1) (sx G n 2)) = 0 from ez)
  refine ⟨1, (fun q => (iL (o' q)).toInt), _, (lH_ao hs').trans (congrArg some (oc_n o')), by omega, rfl, ?_⟩
  obtain ⟨a1, a2⟩ := ka e0
  have a3 : (iL (o' 0)).toInt = v_finish μ (sx G n 1) (sx G n 2) := by rw [a1]; exact iL_t (by omega) (by omega)
  refine ⟨by omega, fun (y : v_finish μ (sx G n 1) (sx G n 2) = 0) => ?_, fun (y : ¬ v_finish μ (sx G n 1) (sx G n 2) = 0) => ?_⟩
  · refine ⟨0, rfl, ?_⟩
    exact ⟨⟨i64_lo _, i64_hi _, by omega, by omega⟩, fun _ => mi_Wsub (List.forall_mem_cons.mpr ⟨.tail _ (.tail _ (.head _)), List.forall_mem_cons.mpr ⟨.tail _ (.tail _ (.tail _ (.head _))), List.forall_mem_cons.mpr ⟨.tail _ (.tail _ (.tail _ (.tail _ (.head _)))), List.forall_mem_cons.mpr ⟨.tail _ (.tail _ (.tail _ (.tail _ (.tail _ (.head _))))), List.forall_mem_cons.mpr ⟨.tail _ (.tail _ (.tail _ (.tail _ (.tail _ (.tail _ (.head _)))))), fun _ h => absurd h List.not_mem_nil⟩⟩⟩⟩⟩) fin, fun ne => absurd (a3.trans y) ne⟩
  · refine ⟨1, rfl, ?_⟩
    exact ⟨⟨i64_lo _, i64_hi _, by omega, by omega⟩, fun _ => mi_Wsub (List.forall_mem_cons.mpr ⟨.tail _ (.tail _ (.head _)), List.forall_mem_cons.mpr ⟨.tail _ (.tail _ (.tail _ (.head _))), List.forall_mem_cons.mpr ⟨.tail _ (.tail _ (.tail _ (.tail _ (.head _)))), List.forall_mem_cons.mpr ⟨.tail _ (.tail _ (.tail _ (.tail _ (.tail _ (.head _))))), List.forall_mem_cons.mpr ⟨.tail _ (.tail _ (.tail _ (.tail _ (.tail _ (.tail _ (.head _)))))), fun _ h => absurd h List.not_mem_nil⟩⟩⟩⟩⟩) fin, fun ne => absurd (show (iL (o' 0)).toInt = 1 by omega) ne⟩
end LC1
