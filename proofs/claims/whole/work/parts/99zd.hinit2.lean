section KI2
variable {L : Launch} {G : mmG} {h0 : mmH}
set_option maxRecDepth 100000 in
set_option maxHeartbeats 4000000 in
theorem m_hInit (hF : mm_F G) (htr : L.stackTraces = false) {a : Nat} :
    mm_Met L G SX5_init [.ref a] (va_up h0 a (some (.inr (5, mm_blank 5)))) 85 6001 (fun r h1 => r = none ∧ ∃ B bx, kx B bx k00 ∧ B 5 0 = a ∧ (∀ q, bx q ≠ none → q = a ∨ h0 q = none) ∧ h1 = hk G B bx h0 k00) mm_no := by
  refine mi_meth MX5_init 300 hF htr okX5_init (av := [aR a]) (by decide +kernel) (Nat.le_of_ble_eq_true rfl) cmX5_init (fun θ hc => ?_)
  have loop : ∀ (d : Nat) (A : Nat → Nat) (F : List Nat) (H : mmH) (k : Nat), A 0 = a → k + d = 64 → F.length = k → lh h0 H a (hL G A F) → mi_W L G MX5_init 85 6001 (fun r h1 => r = none ∧ ∃ B bx, kx B bx k00 ∧ B 5 0 = a ∧ (∀ q, bx q ≠ none → q = a ∨ h0 q = none) ∧ h1 = hk G B bx h0 k00) mm_no θ 41 [(1, aI (k : Int)), (0, aR a)] [] H (21 + k) (5297 + 11 * k) := by
    intro d
    induction d with
    | zero =>
      intro A F H k hA hk hl h
      subst hA
      refine mi_sound hc okX5_init 60 _ _ _ _ _ _ ?_
      refine ⟨by omega, fun _ => ?_, fun (e : ¬ (64 ≤ (k : Int))) => absurd (show 64 ≤ (k : Int) by omega) e⟩
      obtain ⟨B, bx, x1, x2, x3, x4⟩ := hinit_fin (by omega) h
      exact ⟨⟨rfl, B, bx, x1, x2, x3, x4⟩, by omega, by omega⟩
    | succ d ih =>
      intro A F H k hA hk hl h
      subst hA
      have n0 : mm_N 0 = 11 := rfl
      refine mi_sound hc okX5_init 60 _ _ _ _ _ _ ?_
      refine ⟨by omega, fun (e : 64 ≤ (k : Int)) => absurd e (by omega), fun _ => ?_⟩
      refine ⟨_, lh_at 0 h rfl, aR (A 2), rfl, ?_⟩
      refine ⟨by omega, by omega, fun b nb _ => ?_⟩
      have l1 := lh_al (e := cFr) h nb
      refine ⟨_, _, _, _, m_fInit hF htr, by omega, by omega, mki_ (r := none) ?_, fun _ _ q => q.elim⟩
      obtain ⟨H2, e2⟩ : ∃ H2, va_up (va_up H b (some cFr)) (A 2) (some (.inl (mm_dA G 5, 64, mm_inr (va_up (fun q => F[q]?) ((k : Int)).toNat (some b))))) = H2 := ⟨_, rfl⟩
      have ek : ((k : Int)).toNat = k := by omega
      have l2 := lh_set (e' := cPl G (F ++ [b])) 2 l1 rfl
      have eH : va_up (va_up H b (some cFr)) (A 2) (some (cPl G (F ++ [b]))) = H2 := by
        rw [← e2, ek, pl_up hl]
        rfl
      rw [eH] at l2
      have l3 : lh h0 H2 (A 0) (hL G A (F ++ [b])) := by
        have : (hL G A F ++ [(b, cFr)]).set 2 (A 2, cPl G (F ++ [b])) = hL G A (F ++ [b]) := by
          unfold hL
          rw [List.map_append, ← List.append_assoc]
          rfl
        rw [← this]
        exact l2
      refine ⟨64, _, _, H2, lh_at 2 l1 rfl, up_s _ _ _, by omega, e2, ?_⟩
      have w := ih A (F ++ [b]) H2 (k + 1) rfl (by omega) (by rw [List.length_append, hl]; rfl) l3
      rw [show ((k + 1 : Nat) : Int) = (k : Int) + 1 by omega, show 21 + (k + 1) = 21 + k + 1 + 0 by omega, show 5297 + 11 * (k + 1) = 5297 + 11 * k + mm_N 0 + 0 by omega] at w
      exact mi_Wsub (List.forall_mem_cons.mpr ⟨(.head _), (List.forall_mem_cons.mpr ⟨(.tail _ (.head _)), (fun _ h => absurd h List.not_mem_nil)⟩)⟩) w
  rw [mm_bl5]
  have l0 := lh_0 (h0 := h0) (a := a) (e := .inr (5, [aN, aN, aN, aN, aN, aI 0, aI 0, aI 0].map cv))
  refine ⟨by omega, (Nat.le_of_ble_eq_true rfl), (Nat.le_of_ble_eq_true rfl), fun sd n_sd _ => ?_⟩
  have l1 : lh h0 _ a [(a, .inr (5, [aN, aN, aN, aN, aN, aI 0, aI 0, aI 0].map cv)), (sd, .inl (mm_dA G 8, 2, mm_inr (fun _ => none)))] := lh_al (e := .inl (mm_dA G 8, 2, mm_inr (fun _ => none))) l0 n_sd
  refine ⟨[aN, aN, aN, aN, aN, aI 0, aI 0, aI 0], lh_at 0 l1 rfl, trivial, _, rfl, ?_⟩
  have l2 : lh h0 _ a [(a, .inr (5, [aR sd, aN, aN, aN, aN, aI 0, aI 0, aI 0].map cv)), (sd, .inl (mm_dA G 8, 2, mm_inr (fun _ => none)))] := lh_set (e' := .inr (5, [aR sd, aN, aN, aN, aN, aI 0, aI 0, aI 0].map cv)) 0 l1 rfl
  refine ⟨by omega, (Nat.le_of_ble_eq_true rfl), (Nat.le_of_ble_eq_true rfl), fun pl n_pl _ => ?_⟩
  have l3 : lh h0 _ a [(a, .inr (5, [aR sd, aN, aN, aN, aN, aI 0, aI 0, aI 0].map cv)), (sd, .inl (mm_dA G 8, 2, mm_inr (fun _ => none))), (pl, cPl G [])] := lh_al (e := cPl G []) l2 n_pl
  refine ⟨[aR sd, aN, aN, aN, aN, aI 0, aI 0, aI 0], lh_at 0 l3 rfl, trivial, _, rfl, ?_⟩
  have l4 : lh h0 _ a [(a, .inr (5, [aR sd, aR pl, aN, aN, aN, aI 0, aI 0, aI 0].map cv)), (sd, .inl (mm_dA G 8, 2, mm_inr (fun _ => none))), (pl, cPl G [])] := lh_set (e' := .inr (5, [aR sd, aR pl, aN, aN, aN, aI 0, aI 0, aI 0].map cv)) 0 l3 rfl
  refine ⟨(Nat.le_of_ble_eq_true rfl), (Nat.le_of_ble_eq_true rfl), fun tk n_tk _ => ?_⟩
  have l5 : lh h0 _ a [(a, .inr (5, [aR sd, aR pl, aN, aN, aN, aI 0, aI 0, aI 0].map cv)), (sd, .inl (mm_dA G 8, 2, mm_inr (fun _ => none))), (pl, cPl G []), (tk, cFr)] := lh_al (e := cFr) l4 n_tk
  refine ⟨_, _, _, _, m_fInit hF htr, (Nat.le_of_ble_eq_true rfl), (Nat.le_of_ble_eq_true rfl), mki_ (r := none) ?_, fun _ _ q => q.elim⟩
  refine ⟨[aR sd, aR pl, aN, aN, aN, aI 0, aI 0, aI 0], lh_at 0 l5 rfl, trivial, _, rfl, ?_⟩
  have l6 : lh h0 _ a [(a, .inr (5, [aR sd, aR pl, aR tk, aN, aN, aI 0, aI 0, aI 0].map cv)), (sd, .inl (mm_dA G 8, 2, mm_inr (fun _ => none))), (pl, cPl G []), (tk, cFr)] := lh_set (e' := .inr (5, [aR sd, aR pl, aR tk, aN, aN, aI 0, aI 0, aI 0].map cv)) 0 l5 rfl
  refine ⟨by omega, (Nat.le_of_ble_eq_true rfl), (Nat.le_of_ble_eq_true rfl), fun tp n_tp _ => ?_⟩
  have l7 : lh h0 _ a [(a, .inr (5, [aR sd, aR pl, aR tk, aN, aN, aI 0, aI 0, aI 0].map cv)), (sd, .inl (mm_dA G 8, 2, mm_inr (fun _ => none))), (pl, cPl G []), (tk, cFr), (tp, cBy G)] := lh_al (e := cBy G) l6 n_tp
  refine ⟨[aR sd, aR pl, aR tk, aN, aN, aI 0, aI 0, aI 0], lh_at 0 l7 rfl, trivial, _, rfl, ?_⟩
  have l8 : lh h0 _ a [(a, .inr (5, [aR sd, aR pl, aR tk, aR tp, aN, aI 0, aI 0, aI 0].map cv)), (sd, .inl (mm_dA G 8, 2, mm_inr (fun _ => none))), (pl, cPl G []), (tk, cFr), (tp, cBy G)] := lh_set (e' := .inr (5, [aR sd, aR pl, aR tk, aR tp, aN, aI 0, aI 0, aI 0].map cv)) 0 l7 rfl
  refine ⟨by omega, (Nat.le_of_ble_eq_true rfl), (Nat.le_of_ble_eq_true rfl), fun hd n_hd _ => ?_⟩
  have l9 : lh h0 _ a [(a, .inr (5, [aR sd, aR pl, aR tk, aR tp, aN, aI 0, aI 0, aI 0].map cv)), (sd, .inl (mm_dA G 8, 2, mm_inr (fun _ => none))), (pl, cPl G []), (tk, cFr), (tp, cBy G), (hd, cBy G)] := lh_al (e := cBy G) l8 n_hd
  refine ⟨[aR sd, aR pl, aR tk, aR tp, aN, aI 0, aI 0, aI 0], lh_at 0 l9 rfl, trivial, _, rfl, ?_⟩
  have l10 : lh h0 _ a [(a, .inr (5, [aR sd, aR pl, aR tk, aR tp, aR hd, aI 0, aI 0, aI 0].map cv)), (sd, .inl (mm_dA G 8, 2, mm_inr (fun _ => none))), (pl, cPl G []), (tk, cFr), (tp, cBy G), (hd, cBy G)] := lh_set (e' := .inr (5, [aR sd, aR pl, aR tk, aR tp, aR hd, aI 0, aI 0, aI 0].map cv)) 0 l9 rfl
  refine ⟨_, lh_at 0 l10 rfl, aR sd, rfl, ?_⟩
  refine ⟨(Nat.le_of_ble_eq_true rfl), (Nat.le_of_ble_eq_true rfl), fun s0 n_s0 _ => ?_⟩
  refine ⟨_, _, _, _, m_sdInit hF htr (c := 0), (Nat.le_of_ble_eq_true rfl), (Nat.le_of_ble_eq_true rfl), fun v hh0 q => ?_, fun _ _ q => q.elim⟩
  obtain ⟨rfl, g0, pg0, ws0, wa0, wb0, ss0, rs0, kn0, kd0⟩ := q
  refine ⟨none, rfl, ?_⟩
  have l11 : lh h0 hh0 a [(a, .inr (5, [aR sd, aR pl, aR tk, aR tp, aR hd, aI 0, aI 0, aI 0].map cv)), (sd, .inl (mm_dA G 8, 2, mm_inr (fun _ => none))), (pl, cPl G []), (tk, cFr), (tp, cBy G), (hd, cBy G), (s0, cSd G 0 g0 pg0 ws0 wa0 wb0 ss0 rs0), (g0, cGr G 0 g0 pg0 ws0 wa0 wb0 ss0 rs0), (pg0, cPg G 0 g0 pg0 ws0 wa0 wb0 ss0 rs0), (ws0, cWs G 0 g0 pg0 ws0 wa0 wb0 ss0 rs0), (wa0, cW0 G 0 g0 pg0 ws0 wa0 wb0 ss0 rs0), (wb0, cW1 G 0 g0 pg0 ws0 wa0 wb0 ss0 rs0), (ss0, cSs G 0 g0 pg0 ws0 wa0 wb0 ss0 rs0), (rs0, cRs G 0 g0 pg0 ws0 wa0 wb0 ss0 rs0)] := lh_sd l10 n_s0 kn0 kd0
  refine ⟨2, (fun _ => none), _, _, lh_at 1 l11 rfl, lh_at 6 l11 rfl, by omega, rfl, ?_⟩
  have l12 : lh h0 _ a [(a, .inr (5, [aR sd, aR pl, aR tk, aR tp, aR hd, aI 0, aI 0, aI 0].map cv)), (sd, .inl (mm_dA G 8, 2, mm_inr (va_up (fun _ => none) (0 : Int).toNat (some s0)))), (pl, cPl G []), (tk, cFr), (tp, cBy G), (hd, cBy G), (s0, cSd G 0 g0 pg0 ws0 wa0 wb0 ss0 rs0), (g0, cGr G 0 g0 pg0 ws0 wa0 wb0 ss0 rs0), (pg0, cPg G 0 g0 pg0 ws0 wa0 wb0 ss0 rs0), (ws0, cWs G 0 g0 pg0 ws0 wa0 wb0 ss0 rs0), (wa0, cW0 G 0 g0 pg0 ws0 wa0 wb0 ss0 rs0), (wb0, cW1 G 0 g0 pg0 ws0 wa0 wb0 ss0 rs0), (ss0, cSs G 0 g0 pg0 ws0 wa0 wb0 ss0 rs0), (rs0, cRs G 0 g0 pg0 ws0 wa0 wb0 ss0 rs0)] := lh_set (e' := .inl (mm_dA G 8, 2, mm_inr (va_up (fun _ => none) (0 : Int).toNat (some s0)))) 1 l11 rfl
  refine ⟨_, lh_at 0 l12 rfl, aR sd, rfl, ?_⟩
  refine ⟨(Nat.le_of_ble_eq_true rfl), (Nat.le_of_ble_eq_true rfl), fun s1 n_s1 _ => ?_⟩
  refine ⟨_, _, _, _, m_sdInit hF htr (c := 1), (Nat.le_of_ble_eq_true rfl), (Nat.le_of_ble_eq_true rfl), fun v hh1 q => ?_, fun _ _ q => q.elim⟩
  obtain ⟨rfl, g1, pg1, ws1, wa1, wb1, ss1, rs1, kn1, kd1⟩ := q
  refine ⟨none, rfl, ?_⟩
  have l13 : lh h0 hh1 a [(a, .inr (5, [aR sd, aR pl, aR tk, aR tp, aR hd, aI 0, aI 0, aI 0].map cv)), (sd, .inl (mm_dA G 8, 2, mm_inr (va_up (fun _ => none) (0 : Int).toNat (some s0)))), (pl, cPl G []), (tk, cFr), (tp, cBy G), (hd, cBy G), (s0, cSd G 0 g0 pg0 ws0 wa0 wb0 ss0 rs0), (g0, cGr G 0 g0 pg0 ws0 wa0 wb0 ss0 rs0), (pg0, cPg G 0 g0 pg0 ws0 wa0 wb0 ss0 rs0), (ws0, cWs G 0 g0 pg0 ws0 wa0 wb0 ss0 rs0), (wa0, cW0 G 0 g0 pg0 ws0 wa0 wb0 ss0 rs0), (wb0, cW1 G 0 g0 pg0 ws0 wa0 wb0 ss0 rs0), (ss0, cSs G 0 g0 pg0 ws0 wa0 wb0 ss0 rs0), (rs0, cRs G 0 g0 pg0 ws0 wa0 wb0 ss0 rs0), (s1, cSd G 1 g1 pg1 ws1 wa1 wb1 ss1 rs1), (g1, cGr G 1 g1 pg1 ws1 wa1 wb1 ss1 rs1), (pg1, cPg G 1 g1 pg1 ws1 wa1 wb1 ss1 rs1), (ws1, cWs G 1 g1 pg1 ws1 wa1 wb1 ss1 rs1), (wa1, cW0 G 1 g1 pg1 ws1 wa1 wb1 ss1 rs1), (wb1, cW1 G 1 g1 pg1 ws1 wa1 wb1 ss1 rs1), (ss1, cSs G 1 g1 pg1 ws1 wa1 wb1 ss1 rs1), (rs1, cRs G 1 g1 pg1 ws1 wa1 wb1 ss1 rs1)] := lh_sd l12 n_s1 kn1 kd1
  refine ⟨2, (va_up (fun _ => none) (0 : Int).toNat (some s0)), _, _, lh_at 1 l13 rfl, lh_at 14 l13 rfl, by omega, rfl, ?_⟩
  have l14 : lh h0 _ a [(a, .inr (5, [aR sd, aR pl, aR tk, aR tp, aR hd, aI 0, aI 0, aI 0].map cv)), (sd, .inl (mm_dA G 8, 2, mm_inr (va_up (va_up (fun _ => none) (0 : Int).toNat (some s0)) (1 : Int).toNat (some s1)))), (pl, cPl G []), (tk, cFr), (tp, cBy G), (hd, cBy G), (s0, cSd G 0 g0 pg0 ws0 wa0 wb0 ss0 rs0), (g0, cGr G 0 g0 pg0 ws0 wa0 wb0 ss0 rs0), (pg0, cPg G 0 g0 pg0 ws0 wa0 wb0 ss0 rs0), (ws0, cWs G 0 g0 pg0 ws0 wa0 wb0 ss0 rs0), (wa0, cW0 G 0 g0 pg0 ws0 wa0 wb0 ss0 rs0), (wb0, cW1 G 0 g0 pg0 ws0 wa0 wb0 ss0 rs0), (ss0, cSs G 0 g0 pg0 ws0 wa0 wb0 ss0 rs0), (rs0, cRs G 0 g0 pg0 ws0 wa0 wb0 ss0 rs0), (s1, cSd G 1 g1 pg1 ws1 wa1 wb1 ss1 rs1), (g1, cGr G 1 g1 pg1 ws1 wa1 wb1 ss1 rs1), (pg1, cPg G 1 g1 pg1 ws1 wa1 wb1 ss1 rs1), (ws1, cWs G 1 g1 pg1 ws1 wa1 wb1 ss1 rs1), (wa1, cW0 G 1 g1 pg1 ws1 wa1 wb1 ss1 rs1), (wb1, cW1 G 1 g1 pg1 ws1 wa1 wb1 ss1 rs1), (ss1, cSs G 1 g1 pg1 ws1 wa1 wb1 ss1 rs1), (rs1, cRs G 1 g1 pg1 ws1 wa1 wb1 ss1 rs1)] := lh_set (e' := .inl (mm_dA G 8, 2, mm_inr (va_up (va_up (fun _ => none) (0 : Int).toNat (some s0)) (1 : Int).toNat (some s1)))) 1 l13 rfl
  have fin : lh h0 _ a (hL G (fun i => [a, sd, pl, tk, tp, hd, s0, g0, pg0, ws0, wa0, wb0, ss0, rs0, s1, g1, pg1, ws1, wa1, wb1, ss1, rs1].getD i 0) []) := l14
  exact mi_Wsub (List.forall_mem_cons.mpr ⟨(.head _), (List.forall_mem_cons.mpr ⟨(.tail _ (.head _)), (fun _ h => absurd h List.not_mem_nil)⟩)⟩) (loop 64 (fun i => [a, sd, pl, tk, tp, hd, s0, g0, pg0, ws0, wa0, wb0, ss0, rs0, s1, g1, pg1, ws1, wa1, wb1, ss1, rs1].getD i 0) [] _ 0 rfl rfl rfl fin)
end KI2
