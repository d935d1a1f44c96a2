section MR3
variable {L : Launch} {G : mmG} {A : Nat → Nat} {ax : Nat → Option Nat} {h0 : mmH} {μ : Nat → Nat → Int}
def v_receiving (μ : Nat → Nat → Int) (s i : Int) : Int := (if (μ 28 (mj s i)) = 0 then (if 0 ≤ (μ 26 (mj s i)) then (if (μ 27 (mj s i)) = (μ 26 (mj s i)) then 3 else (if (v_readyOf μ s i) = (μ 26 (mj s i)) then 2 else 1)) else 0) else 4)
set_option maxRecDepth 100000 in
theorem m_receiving (hF : mm_F G) (htr : L.stackTraces = false) (hx : mx A ax) (hV : mV μ) {s i : Int} (h1 : 0 ≤ s) (h2 : s ≤ 1) (h3 : 0 ≤ i) (h4 : i < 256) :
    mm_Met L G SX6_receiving [.ref (A 99), .int (iI s), .int (iI i)] (hm G A ax h0 μ) 0 0 (mRet (some (.int (iI (v_receiving μ s i)))) (hm G A ax h0 μ)) mm_no := by
  refine mi_meth MX6_receiving 400 hF htr okX6_receiving (av := [aR (A 99), aI s, aI i]) (by decide +kernel) (Nat.le_of_ble_eq_true rfl) cmX6_receiving (fun θ hc => ?_)
  refine ⟨_, _, _, _, (m_at hF htr (s := s) (i := i)), Nat.le_refl _, Nat.le_refl _, mki_ (r := some (aI ((256 * s) + i))) ?_, fun _ _ q => q.elim⟩
  refine ⟨_, hm_oi hx, aR (A 28), rfl, ?_⟩
  refine ⟨512, _, (μ 28 (mj s i)), hm_a hx 28 rfl, by omega, rfl, ?_⟩
  have t1 := (show 0 ≤ μ 28 (mj s i) ∧ μ 28 (mj s i) ≤ 1 from hV.g 28 (mj s i))
  refine ⟨by omega, fun (e2 : (μ 28 (mj s i)) = 0) => ?_, fun (e2 : ¬ ((μ 28 (mj s i)) = 0)) => ?_⟩
  · refine ⟨_, hm_oi hx, aR (A 26), rfl, ?_⟩
    refine ⟨512, _, (μ 26 (mj s i)), hm_a hx 26 rfl, by omega, rfl, ?_⟩
    have t3 := (show -1 ≤ μ 26 (mj s i) ∧ μ 26 (mj s i) ≤ 65536 from hV.g 26 (mj s i))
    refine ⟨0, rfl, ?_⟩
    refine ⟨by omega, fun (e4 : 0 ≤ (μ 26 (mj s i))) => ?_, fun (e4 : ¬ (0 ≤ (μ 26 (mj s i)))) => ?_⟩
    · refine ⟨_, hm_oi hx, aR (A 27), rfl, ?_⟩
      refine ⟨512, _, (μ 27 (mj s i)), hm_a hx 27 rfl, by omega, rfl, ?_⟩
      have t5 := (show 0 ≤ μ 27 (mj s i) ∧ μ 27 (mj s i) ≤ 65536 from hV.g 27 (mj s i))
      refine ⟨_, hm_oi hx, aR (A 26), rfl, ?_⟩
      refine ⟨512, _, (μ 26 (mj s i)), hm_a hx 26 rfl, by omega, rfl, ?_⟩
      refine ⟨by omega, fun (e6 : ¬ ((μ 27 (mj s i)) = (μ 26 (mj s i)))) => ?_, fun (e6 : (μ 27 (mj s i)) = (μ 26 (mj s i))) => ?_⟩
      · refine ⟨⟨_, hm_oi hx⟩, _, _, _, _, (m_readyOf hF htr hx hV (s := s) (i := i) (by omega) (by omega) (by omega) (by omega)), Nat.le_refl _, Nat.le_refl _, mki_ (r := some (aL (v_readyOf μ s i))) ?_, fun _ _ q => q.elim⟩
        have t7 := readyOf_b hV s i (by omega)
        refine ⟨_, hm_oi hx, aR (A 26), rfl, ?_⟩
        refine ⟨512, _, (μ 26 (mj s i)), hm_a hx 26 rfl, by omega, rfl, ?_⟩
        refine ⟨by omega, fun (e8 : ¬ ((v_readyOf μ s i) = (μ 26 (mj s i)))) => ?_, fun (e8 : (v_readyOf μ s i) = (μ 26 (mj s i))) => ?_⟩
        · exact ⟨mRetI (by unfold v_receiving; rw [if_pos e2, if_pos e4, if_neg e6, if_neg e8]) rfl, Nat.le_refl _, Nat.le_refl _⟩
        · exact ⟨mRetI (by unfold v_receiving; rw [if_pos e2, if_pos e4, if_neg e6, if_pos e8]) rfl, Nat.le_refl _, Nat.le_refl _⟩
      · exact ⟨mRetI (by unfold v_receiving; rw [if_pos e2, if_pos e4, if_pos e6]) rfl, Nat.le_refl _, Nat.le_refl _⟩
    · exact ⟨mRetI (by unfold v_receiving; rw [if_pos e2, if_neg e4]) rfl, Nat.le_refl _, Nat.le_refl _⟩
  · exact ⟨mRetI (by unfold v_receiving; rw [if_neg e2]) rfl, Nat.le_refl _, Nat.le_refl _⟩
set_option maxRecDepth 100000 in
theorem v_receiving_cg {μ μ' : Nat → Nat → Int} {s i : Int} (h : ∀ f, [26, 27, 28, 40, 41, 42, 44].elem f = true → ∀ k, μ f k = μ' f k) : v_receiving μ s i = v_receiving μ' s i := by
  have q26 := h 26 rfl
  have q27 := h 27 rfl
  have q28 := h 28 rfl
  have q40 := h 40 rfl
  have q41 := h 41 rfl
  have q42 := h 42 rfl
  have q44 := h 44 rfl
  have c_X6_readyOf : ∀ (z_s z_i : Int), v_readyOf μ z_s z_i = v_readyOf μ' z_s z_i := fun _ _ => v_readyOf_cg (fun f hf k => h f (by simp only [List.elem_eq_mem, decide_eq_true_eq, List.mem_cons, List.not_mem_nil, or_false] at hf ⊢; omega) k)
  unfold v_receiving
  simp only [q26, q27, q28, q40, q41, q42, q44, c_X6_readyOf]
theorem v_receiving_u {f k : Nat} {v : Int} {s i : Int} (hf : [26, 27, 28, 40, 41, 42, 44].elem f = false) : v_receiving (u2 μ f k v) s i = v_receiving μ s i := v_receiving_cg (fun g hg q => u2_f (by rintro rfl; rw [hg] at hf; cases hf))
set_option maxRecDepth 100000 in
theorem v_receiving_b (μ : Nat → Nat → Int) (s i : Int) : 0 ≤ v_receiving μ s i ∧ v_receiving μ s i ≤ 4 := by
  unfold v_receiving
  repeat' with_reducible apply b_ite
  all_goals decide
def v_received_4 (μ : Nat → Nat → Int) (s : Int) : Nat → Int → Int → Int
  | 0, _, _ => 0
  | d + 1, n, k => (if 256 ≤ k then n else (v_received_4 μ s d (n + (μ 25 (mj s k))) (k + 1)))
def v_received (μ : Nat → Nat → Int) (s : Int) : Int := (v_received_4 μ s 257 0 0)
set_option maxRecDepth 100000 in
theorem m_received (hF : mm_F G) (htr : L.stackTraces = false) (hx : mx A ax) (hV : mV μ) {s : Int} (h1 : 0 ≤ s) (h2 : s ≤ 1) :
    mm_Met L G SX6_received [.ref (A 99), .int (iI s)] (hm G A ax h0 μ) 0 0 (mRet (some (.long (iL (v_received μ s)))) (hm G A ax h0 μ)) mm_no := by
  refine mi_meth MX6_received 400 hF htr okX6_received (av := [aR (A 99), aI s]) (by decide +kernel) (Nat.le_of_ble_eq_true rfl) cmX6_received (fun θ hc => ?_)
  have loop4 : ∀ (R : Int) (d : Nat) (n k : Int), (0 ≤ k) → (k ≤ 256) → (256 - k) < (d : Int) → v_received_4 μ s d n k = R → mi_W L G MX6_received 0 0 (mRet (some (.long (iL R))) (hm G A ax h0 μ)) mm_no θ 4 [(2, aL n), (4, aI k), (0, aR (A 99)), (1, aI s)] [] (hm G A ax h0 μ) 0 0 := by
    intro R d
    induction d with
    | zero =>
      intro n k hi1 hi2 hms hvr
      omega
    | succ d ih =>
      intro n k hi1 hi2 hms hvr
      refine mi_sound hc okX6_received 400 _ _ _ _ _ _ ?_
      refine ⟨by omega, fun (e1 : 256 ≤ k) => ?_, fun (e1 : ¬ (256 ≤ k)) => ?_⟩
      · exact ⟨mRetL (hvr.symm.trans (by rw [v_received_4]; rw [if_pos e1])) rfl, Nat.le_refl _, Nat.le_refl _⟩
      · refine ⟨_, hm_oi hx, aR (A 25), rfl, ?_⟩
        refine ⟨_, _, _, _, (m_at hF htr (s := s) (i := k)), Nat.le_refl _, Nat.le_refl _, mki_ (r := some (aI ((256 * s) + k))) ?_, fun _ _ q => q.elim⟩
        refine ⟨512, _, (μ 25 (mj s k)), hm_a hx 25 rfl, by omega, rfl, ?_⟩
        have t2 := (show 0 ≤ μ 25 (mj s k) ∧ μ 25 (mj s k) ≤ 65536 from hV.g 25 (mj s k))
        exact mi_Wsub (List.forall_mem_cons.mpr ⟨(.tail _ (.head _)), List.forall_mem_cons.mpr ⟨(.head _), List.forall_mem_cons.mpr ⟨(.tail _ (.tail _ (.head _))), List.forall_mem_cons.mpr ⟨(.tail _ (.tail _ (.tail _ (.head _)))), fun _ h => absurd h List.not_mem_nil⟩⟩⟩⟩) (ih (n + (μ 25 (mj s k))) (k + 1) (by omega) (by omega) (by omega) (Eq.trans (by rw [v_received_4]; rw [if_neg e1]) hvr))
  refine ⟨0, rfl, ?_⟩
  exact mi_Wsub (List.forall_mem_cons.mpr ⟨(.tail _ (.head _)), List.forall_mem_cons.mpr ⟨(.head _), List.forall_mem_cons.mpr ⟨(.tail _ (.tail _ (.head _))), List.forall_mem_cons.mpr ⟨(.tail _ (.tail _ (.tail _ (.head _)))), fun _ h => absurd h List.not_mem_nil⟩⟩⟩⟩) (loop4 _ 257 0 0 (by omega) (by omega) (by omega) rfl)
set_option maxRecDepth 100000 in
theorem v_received_4_cg {μ μ' : Nat → Nat → Int} {s : Int} (h : ∀ f, [25].elem f = true → ∀ k, μ f k = μ' f k) : ∀ (d : Nat) (n k : Int), v_received_4 μ s d n k = v_received_4 μ' s d n k := by
  have q25 := h 25 rfl
  intro d
  induction d with
  | zero => intros; rfl
  | succ d ih =>
    intro n k
    rw [v_received_4, v_received_4]
    simp only [q25, ih]
set_option maxRecDepth 100000 in
theorem v_received_cg {μ μ' : Nat → Nat → Int} {s : Int} (h : ∀ f, [25].elem f = true → ∀ k, μ f k = μ' f k) : v_received μ s = v_received μ' s := by
  have q25 := h 25 rfl
  unfold v_received
  simp only [q25, v_received_4_cg h]
theorem v_received_u {f k : Nat} {v : Int} {s : Int} (hf : [25].elem f = false) : v_received (u2 μ f k v) s = v_received μ s := v_received_cg (fun g hg q => u2_f (by rintro rfl; rw [hg] at hf; cases hf))
theorem received_b4 (hV : mV μ) (s : Int) : ∀ (d : Nat) (n k : Int), k ≤ 256 → 256 - k < d → n ≤ v_received_4 μ s d n k ∧ v_received_4 μ s d n k ≤ n + 65536 * (256 - k)
  | 0, n, k, h1, h2 => by omega
  | d + 1, n, k, h1, h2 => by
    rw [v_received_4]
    split
    · omega
    · have ih := received_b4 hV s d (n + μ 25 (mj s k)) (k + 1) (by omega) (by omega)
      have : 0 ≤ μ 25 (mj s k) ∧ μ 25 (mj s k) ≤ 65536 := hV 25 (mj s k)
      omega
theorem received_b (hV : mV μ) (s : Int) : 0 ≤ v_received μ s ∧ v_received μ s ≤ 16777216 := received_b4 hV s _ _ _ (by omega) (by omega)
def v_consumed_4 (μ : Nat → Nat → Int) (s : Int) : Nat → Int → Int → Int
  | 0, _, _ => 0
  | d + 1, n, k => (if 256 ≤ k then n else (if (μ 28 (mj s k)) = 0 then (v_consumed_4 μ s d (n + (μ 27 (mj s k))) (k + 1)) else (v_consumed_4 μ s d (n + (μ 26 (mj s k))) (k + 1))))
def v_consumed (μ : Nat → Nat → Int) (s : Int) : Int := (v_consumed_4 μ s 257 0 0)
set_option maxRecDepth 100000 in
theorem m_consumed (hF : mm_F G) (htr : L.stackTraces = false) (hx : mx A ax) (hV : mV μ) {s : Int} (h1 : 0 ≤ s) (h2 : s ≤ 1) :
    mm_Met L G SX6_consumed [.ref (A 99), .int (iI s)] (hm G A ax h0 μ) 0 0 (mRet (some (.long (iL (v_consumed μ s)))) (hm G A ax h0 μ)) mm_no := by
  refine mi_meth MX6_consumed 400 hF htr okX6_consumed (av := [aR (A 99), aI s]) (by decide +kernel) (Nat.le_of_ble_eq_true rfl) cmX6_consumed (fun θ hc => ?_)
  have loop4 : ∀ (R : Int) (d : Nat) (n k : Int), (0 ≤ k) → (k ≤ 256) → (256 - k) < (d : Int) → v_consumed_4 μ s d n k = R → mi_W L G MX6_consumed 0 0 (mRet (some (.long (iL R))) (hm G A ax h0 μ)) mm_no θ 4 [(2, aL n), (4, aI k), (0, aR (A 99)), (1, aI s)] [] (hm G A ax h0 μ) 0 0 := by
    intro R d
    induction d with
    | zero =>
      intro n k hi1 hi2 hms hvr
      omega
    | succ d ih =>
      intro n k hi1 hi2 hms hvr
      refine mi_sound hc okX6_consumed 400 _ _ _ _ _ _ ?_
      refine ⟨by omega, fun (e1 : 256 ≤ k) => ?_, fun (e1 : ¬ (256 ≤ k)) => ?_⟩
      · exact ⟨mRetL (hvr.symm.trans (by rw [v_consumed_4]; rw [if_pos e1])) rfl, Nat.le_refl _, Nat.le_refl _⟩
      · refine ⟨_, hm_oi hx, aR (A 28), rfl, ?_⟩
        refine ⟨_, _, _, _, (m_at hF htr (s := s) (i := k)), Nat.le_refl _, Nat.le_refl _, mki_ (r := some (aI ((256 * s) + k))) ?_, fun _ _ q => q.elim⟩
        refine ⟨512, _, (μ 28 (mj s k)), hm_a hx 28 rfl, by omega, rfl, ?_⟩
        have t2 := (show 0 ≤ μ 28 (mj s k) ∧ μ 28 (mj s k) ≤ 1 from hV.g 28 (mj s k))
        refine ⟨by omega, fun (e3 : (μ 28 (mj s k)) = 0) => ?_, fun (e3 : ¬ ((μ 28 (mj s k)) = 0)) => ?_⟩
        · refine ⟨_, hm_oi hx, aR (A 27), rfl, ?_⟩
          refine ⟨_, _, _, _, (m_at hF htr (s := s) (i := k)), Nat.le_refl _, Nat.le_refl _, mki_ (r := some (aI ((256 * s) + k))) ?_, fun _ _ q => q.elim⟩
          refine ⟨512, _, (μ 27 (mj s k)), hm_a hx 27 rfl, by omega, rfl, ?_⟩
          have t4 := (show 0 ≤ μ 27 (mj s k) ∧ μ 27 (mj s k) ≤ 65536 from hV.g 27 (mj s k))
          exact mi_Wsub (List.forall_mem_cons.mpr ⟨(.tail _ (.head _)), List.forall_mem_cons.mpr ⟨(.head _), List.forall_mem_cons.mpr ⟨(.tail _ (.tail _ (.head _))), List.forall_mem_cons.mpr ⟨(.tail _ (.tail _ (.tail _ (.head _)))), fun _ h => absurd h List.not_mem_nil⟩⟩⟩⟩) (ih (n + (μ 27 (mj s k))) (k + 1) (by omega) (by omega) (by omega) (Eq.trans (by rw [v_consumed_4]; rw [if_neg e1, if_pos e3]) hvr))
        · refine ⟨_, hm_oi hx, aR (A 26), rfl, ?_⟩
          refine ⟨_, _, _, _, (m_at hF htr (s := s) (i := k)), Nat.le_refl _, Nat.le_refl _, mki_ (r := some (aI ((256 * s) + k))) ?_, fun _ _ q => q.elim⟩
          refine ⟨512, _, (μ 26 (mj s k)), hm_a hx 26 rfl, by omega, rfl, ?_⟩
          have t5 := (show -1 ≤ μ 26 (mj s k) ∧ μ 26 (mj s k) ≤ 65536 from hV.g 26 (mj s k))
          exact mi_Wsub (List.forall_mem_cons.mpr ⟨(.tail _ (.head _)), List.forall_mem_cons.mpr ⟨(.head _), List.forall_mem_cons.mpr ⟨(.tail _ (.tail _ (.head _))), List.forall_mem_cons.mpr ⟨(.tail _ (.tail _ (.tail _ (.head _)))), fun _ h => absurd h List.not_mem_nil⟩⟩⟩⟩) (ih (n + (μ 26 (mj s k))) (k + 1) (by omega) (by omega) (by omega) (Eq.trans (by rw [v_consumed_4]; rw [if_neg e1, if_neg e3]) hvr))
  refine ⟨0, rfl, ?_⟩
  exact mi_Wsub (List.forall_mem_cons.mpr ⟨(.tail _ (.head _)), List.forall_mem_cons.mpr ⟨(.head _), List.forall_mem_cons.mpr ⟨(.tail _ (.tail _ (.head _))), List.forall_mem_cons.mpr ⟨(.tail _ (.tail _ (.tail _ (.head _)))), fun _ h => absurd h List.not_mem_nil⟩⟩⟩⟩) (loop4 _ 257 0 0 (by omega) (by omega) (by omega) rfl)
set_option maxRecDepth 100000 in
theorem v_consumed_4_cg {μ μ' : Nat → Nat → Int} {s : Int} (h : ∀ f, [26, 27, 28].elem f = true → ∀ k, μ f k = μ' f k) : ∀ (d : Nat) (n k : Int), v_consumed_4 μ s d n k = v_consumed_4 μ' s d n k := by
  have q26 := h 26 rfl
  have q27 := h 27 rfl
  have q28 := h 28 rfl
  intro d
  induction d with
  | zero => intros; rfl
  | succ d ih =>
    intro n k
    rw [v_consumed_4, v_consumed_4]
    simp only [q26, q27, q28, ih]
set_option maxRecDepth 100000 in
theorem v_consumed_cg {μ μ' : Nat → Nat → Int} {s : Int} (h : ∀ f, [26, 27, 28].elem f = true → ∀ k, μ f k = μ' f k) : v_consumed μ s = v_consumed μ' s := by
  have q26 := h 26 rfl
  have q27 := h 27 rfl
  have q28 := h 28 rfl
  unfold v_consumed
  simp only [q26, q27, q28, v_consumed_4_cg h]
theorem v_consumed_u {f k : Nat} {v : Int} {s : Int} (hf : [26, 27, 28].elem f = false) : v_consumed (u2 μ f k v) s = v_consumed μ s := v_consumed_cg (fun g hg q => u2_f (by rintro rfl; rw [hg] at hf; cases hf))
theorem consumed_b4 (hV : mV μ) (s : Int) : ∀ (d : Nat) (n k : Int), k ≤ 256 → 256 - k < d → n - (256 - k) ≤ v_consumed_4 μ s d n k ∧ v_consumed_4 μ s d n k ≤ n + 65536 * (256 - k)
  | 0, n, k, h1, h2 => by omega
  | d + 1, n, k, h1, h2 => by
    have q1 : -1 ≤ μ 26 (mj s k) ∧ μ 26 (mj s k) ≤ 65536 := hV 26 (mj s k)
    have q2 : 0 ≤ μ 27 (mj s k) ∧ μ 27 (mj s k) ≤ 65536 := hV 27 (mj s k)
    rw [v_consumed_4]
    split
    · omega
    · split
      · have ih := consumed_b4 hV s d (n + μ 27 (mj s k)) (k + 1) (by omega) (by omega)
        omega
      · have ih := consumed_b4 hV s d (n + μ 26 (mj s k)) (k + 1) (by omega) (by omega)
        omega
theorem consumed_b (hV : mV μ) (s : Int) : -256 ≤ v_consumed μ s ∧ v_consumed μ s ≤ 16777216 := consumed_b4 hV s _ _ _ (by omega) (by omega)
def v_grows (μ : Nat → Nat → Int) (a b c : Int) : Int := (if (2 * (a - b)) < c then 0 else (if a ≤ b then 0 else 1))
set_option maxRecDepth 100000 in
theorem m_grows (hF : mm_F G) (htr : L.stackTraces = false) (hx : mx A ax) (hV : mV μ) {a b c : Int} (h1 : -1099511627776 ≤ a) (h2 : a ≤ 1099511627776) (h3 : -1099511627776 ≤ b) (h4 : b ≤ 1099511627776) (h5 : -1099511627776 ≤ c) (h6 : c ≤ 1099511627776) :
    mm_Met L G SX6_grows [.long (iL a), .long (iL b), .long (iL c)] (hm G A ax h0 μ) 0 0 (mRet (some (.int (iI (v_grows μ a b c)))) (hm G A ax h0 μ)) mm_no := by
  refine mi_meth MX6_grows 400 hF htr okX6_grows (av := [aL a, aL b, aL c]) (by decide +kernel) (Nat.le_of_ble_eq_true rfl) cmX6_grows (fun θ hc => ?_)
  refine ⟨2, rfl, ?_⟩
  refine ⟨by omega, fun (e1 : (2 * (a - b)) < c) => ?_, fun (e1 : ¬ ((2 * (a - b)) < c)) => ?_⟩
  · exact ⟨(Or.inl rfl), mRetI (by unfold v_grows; rw [if_pos e1]) rfl, Nat.le_refl _, Nat.le_refl _⟩
  · refine ⟨by omega, fun (e2 : a ≤ b) => ?_, fun (e2 : ¬ (a ≤ b)) => ?_⟩
    · exact ⟨(Or.inl rfl), mRetI (by unfold v_grows; rw [if_neg e1, if_pos e2]) rfl, Nat.le_refl _, Nat.le_refl _⟩
    · exact ⟨(Or.inr rfl), mRetI (by unfold v_grows; rw [if_neg e1, if_neg e2]) rfl, Nat.le_refl _, Nat.le_refl _⟩
set_option maxRecDepth 100000 in
theorem v_grows_b (μ : Nat → Nat → Int) (a b c : Int) : 0 ≤ v_grows μ a b c ∧ v_grows μ a b c ≤ 1 := by
  unfold v_grows
  repeat' with_reducible apply b_ite
  all_goals decide
def s_growData (μ : Nat → Nat → Int) (s : Int) : Nat → Nat → Int := (if (v_grows μ ((v_consumed μ s) + (μ 6 ((16 * s) + 4).toNat)) (μ 11 s.toNat) (μ 6 ((16 * s) + 4).toNat)) = 0 then μ else (if 65536 ≤ ((v_consumed μ s) + (μ 6 ((16 * s) + 4).toNat)) then (if (μ 11 s.toNat) < 65536 then (u2 (u2 μ 11 s.toNat 65536) 12 s.toNat 1) else μ) else (if (μ 11 s.toNat) < ((v_consumed μ s) + (μ 6 ((16 * s) + 4).toNat)) then (u2 (u2 μ 11 s.toNat ((v_consumed μ s) + (μ 6 ((16 * s) + 4).toNat))) 12 s.toNat 1) else μ)))
set_option maxRecDepth 100000 in
theorem m_growData (hF : mm_F G) (htr : L.stackTraces = false) (hx : mx A ax) (hV : mV μ) {s : Int} (h1 : 0 ≤ s) (h2 : s ≤ 1) :
    mm_Met L G SX6_growData [.ref (A 99), .int (iI s)] (hm G A ax h0 μ) 0 0 (mRetS none (hm G A ax h0 (s_growData μ s)) (mV (s_growData μ s))) mm_no := by
  refine mi_meth MX6_growData 400 hF htr okX6_growData (av := [aR (A 99), aI s]) (by decide +kernel) (Nat.le_of_ble_eq_true rfl) cmX6_growData (fun θ hc => ?_)
  refine ⟨_, hm_oi hx, aR (A 6), rfl, ?_⟩
  refine ⟨32, _, (μ 6 ((16 * s) + 4).toNat), hm_a hx 6 rfl, by omega, rfl, ?_⟩
  have t1 := (show 0 ≤ μ 6 ((16 * s) + 4).toNat ∧ μ 6 ((16 * s) + 4).toNat ≤ 65536 from hV.g 6 ((16 * s) + 4).toNat)
  refine ⟨by omega, ?_⟩
  refine ⟨⟨_, hm_oi hx⟩, _, _, _, _, (m_consumed hF htr hx hV (s := s) (by omega) (by omega)), Nat.le_refl _, Nat.le_refl _, mki_ (r := some (aL (v_consumed μ s))) ?_, fun _ _ q => q.elim⟩
  have t2 := consumed_b hV s
  refine ⟨_, hm_oi hx, aR (A 11), rfl, ?_⟩
  refine ⟨2, _, (μ 11 s.toNat), hm_a hx 11 rfl, by omega, rfl, ?_⟩
  have t3 := (show 0 ≤ μ 11 s.toNat ∧ μ 11 s.toNat ≤ 65536 from hV.g 11 s.toNat)
  refine ⟨_, _, _, _, (m_grows hF htr hx hV (a := ((v_consumed μ s) + (μ 6 ((16 * s) + 4).toNat))) (b := (μ 11 s.toNat)) (c := (μ 6 ((16 * s) + 4).toNat)) (by omega) (by omega) (by omega) (by omega) (by omega) (by omega)), Nat.le_refl _, Nat.le_refl _, mki_ (r := some (aI (v_grows μ ((v_consumed μ s) + (μ 6 ((16 * s) + 4).toNat)) (μ 11 s.toNat) (μ 6 ((16 * s) + 4).toNat)))) ?_, fun _ _ q => q.elim⟩
  have t4 := v_grows_b μ ((v_consumed μ s) + (μ 6 ((16 * s) + 4).toNat)) (μ 11 s.toNat) (μ 6 ((16 * s) + 4).toNat)
  refine ⟨by omega, fun (e5 : ¬ ((v_grows μ ((v_consumed μ s) + (μ 6 ((16 * s) + 4).toNat)) (μ 11 s.toNat) (μ 6 ((16 * s) + 4).toNat)) = 0)) => ?_, fun (e5 : (v_grows μ ((v_consumed μ s) + (μ 6 ((16 * s) + 4).toNat)) (μ 11 s.toNat) (μ 6 ((16 * s) + 4).toNat)) = 0) => ?_⟩
  · refine ⟨65536, rfl, ?_⟩
    refine ⟨by omega, fun (e6 : 65536 ≤ ((v_consumed μ s) + (μ 6 ((16 * s) + 4).toNat))) => ?_, fun (e6 : ¬ (65536 ≤ ((v_consumed μ s) + (μ 6 ((16 * s) + 4).toNat)))) => ?_⟩
    · refine ⟨65536, rfl, ?_⟩
      refine ⟨_, hm_oi hx, aR (A 11), rfl, ?_⟩
      refine ⟨2, _, (μ 11 s.toNat), hm_a hx 11 rfl, by omega, rfl, ?_⟩
      refine ⟨by omega, fun (e7 : (μ 11 s.toNat) < 65536) => ?_, fun (e7 : ¬ ((μ 11 s.toNat) < 65536)) => ?_⟩
      · refine ⟨_, hm_oi hx, aR (A 11), rfl, ?_⟩
        refine ⟨2, _, _, hm_a hx 11 rfl, by omega, hm_pl hx (i := s.toNat) (v := 65536) rfl rfl rfl, ?_⟩
        have hV8 := hV.u (f := 11) (k := s.toNat) (v := 65536) (show 0 ≤ 65536 ∧ 65536 ≤ 65536 from by omega)
        refine ⟨_, hm_oi hx, aR (A 12), rfl, ?_⟩
        refine ⟨2, _, _, hm_a hx 12 rfl, by omega, (show 1 = 0 ∨ 1 = 1 from by omega), hm_pi hx (i := s.toNat) (v := 1) rfl rfl rfl rfl, ?_⟩
        have hV9 := hV8.u (f := 12) (k := s.toNat) (v := 1) (show 0 ≤ 1 ∧ 1 ≤ 1 from by omega)
        exact ⟨mRetVS (by unfold s_growData; rw [if_neg e5, if_pos e6, if_pos e7]) hV9, Nat.le_refl _, Nat.le_refl _⟩
      · exact ⟨mRetVS (by unfold s_growData; rw [if_neg e5, if_pos e6, if_neg e7]) hV, Nat.le_refl _, Nat.le_refl _⟩
    · refine ⟨_, hm_oi hx, aR (A 11), rfl, ?_⟩
      refine ⟨2, _, (μ 11 s.toNat), hm_a hx 11 rfl, by omega, rfl, ?_⟩
      refine ⟨by omega, fun (e10 : (μ 11 s.toNat) < ((v_consumed μ s) + (μ 6 ((16 * s) + 4).toNat))) => ?_, fun (e10 : ¬ ((μ 11 s.toNat) < ((v_consumed μ s) + (μ 6 ((16 * s) + 4).toNat)))) => ?_⟩
      · refine ⟨_, hm_oi hx, aR (A 11), rfl, ?_⟩
        refine ⟨2, _, _, hm_a hx 11 rfl, by omega, hm_pl hx (i := s.toNat) (v := ((v_consumed μ s) + (μ 6 ((16 * s) + 4).toNat))) rfl rfl rfl, ?_⟩
        have hV11 := hV.u (f := 11) (k := s.toNat) (v := ((v_consumed μ s) + (μ 6 ((16 * s) + 4).toNat))) (show 0 ≤ ((v_consumed μ s) + (μ 6 ((16 * s) + 4).toNat)) ∧ ((v_consumed μ s) + (μ 6 ((16 * s) + 4).toNat)) ≤ 65536 from by omega)
        refine ⟨_, hm_oi hx, aR (A 12), rfl, ?_⟩
        refine ⟨2, _, _, hm_a hx 12 rfl, by omega, (show 1 = 0 ∨ 1 = 1 from by omega), hm_pi hx (i := s.toNat) (v := 1) rfl rfl rfl rfl, ?_⟩
        have hV12 := hV11.u (f := 12) (k := s.toNat) (v := 1) (show 0 ≤ 1 ∧ 1 ≤ 1 from by omega)
        exact ⟨mRetVS (by unfold s_growData; rw [if_neg e5, if_neg e6, if_pos e10]) hV12, Nat.le_refl _, Nat.le_refl _⟩
      · exact ⟨mRetVS (by unfold s_growData; rw [if_neg e5, if_neg e6, if_neg e10]) hV, Nat.le_refl _, Nat.le_refl _⟩
  · exact ⟨mRetVS (by unfold s_growData; rw [if_pos e5]) hV, Nat.le_refl _, Nat.le_refl _⟩
set_option maxRecDepth 100000 in
theorem s_growData_fr {f kk : Nat} {s : Int} (hf : [11, 12].elem f = false) : s_growData μ s f kk = μ f kk := by
  have n11 : f ≠ 11 := by rintro rfl; exact absurd hf (by decide)
  have n12 : f ≠ 12 := by rintro rfl; exact absurd hf (by decide)
  have f11 : ∀ (m : Nat → Nat → Int) (a b : Nat) (v : Int), u2 m 11 a v f b = m f b := fun m a b v => u2_f n11
  have f12 : ∀ (m : Nat → Nat → Int) (a b : Nat) (v : Int), u2 m 12 a v f b = m f b := fun m a b v => u2_f n12
  unfold s_growData
  repeat' with_reducible apply f_ite
  all_goals first | rfl | simp only [f11, f12]
def s_growStream (μ : Nat → Nat → Int) (s i : Int) : Nat → Nat → Int := (if (v_grows μ ((μ 27 (mj s i)) + (μ 6 (mg s i).toNat)) (μ 30 (mj s i)) (μ 6 (mg s i).toNat)) = 0 then μ else (if 65536 ≤ ((μ 27 (mj s i)) + (μ 6 (mg s i).toNat)) then (if (μ 30 (mj s i)) < 65536 then (u2 (u2 μ 30 (mj s i) 65536) 31 (mj s i) 1) else μ) else (if (μ 30 (mj s i)) < ((μ 27 (mj s i)) + (μ 6 (mg s i).toNat)) then (u2 (u2 μ 30 (mj s i) ((μ 27 (mj s i)) + (μ 6 (mg s i).toNat))) 31 (mj s i) 1) else μ)))
set_option maxRecDepth 100000 in
theorem m_growStream (hF : mm_F G) (htr : L.stackTraces = false) (hx : mx A ax) (hV : mV μ) {s i : Int} (h1 : 0 ≤ s) (h2 : s ≤ 1) (h3 : 0 ≤ i) (h4 : i < 256) :
    mm_Met L G SX6_growStream [.ref (A 99), .int (iI s), .int (iI i)] (hm G A ax h0 μ) 0 0 (mRetS none (hm G A ax h0 (s_growStream μ s i)) (mV (s_growStream μ s i))) mm_no := by
  refine mi_meth MX6_growStream 400 hF htr okX6_growStream (av := [aR (A 99), aI s, aI i]) (by decide +kernel) (Nat.le_of_ble_eq_true rfl) cmX6_growStream (fun θ hc => ?_)
  refine ⟨_, _, _, _, (m_at hF htr (s := s) (i := i)), Nat.le_refl _, Nat.le_refl _, mki_ (r := some (aI ((256 * s) + i))) ?_, fun _ _ q => q.elim⟩
  refine ⟨⟨_, hm_oi hx⟩, _, _, _, _, (m_grantOf hF htr hx (s := s) (i := i) (by omega) (by omega) (by omega) (by omega)), Nat.le_refl _, Nat.le_refl _, mki_ (r := some (aI (μ 6 (mg s i).toNat))) ?_, fun _ _ q => q.elim⟩
  have t1 := (show 0 ≤ μ 6 (mg s i).toNat ∧ μ 6 (mg s i).toNat ≤ 65536 from hV.g 6 _)
  refine ⟨by omega, ?_⟩
  refine ⟨_, hm_oi hx, aR (A 27), rfl, ?_⟩
  refine ⟨512, _, (μ 27 (mj s i)), hm_a hx 27 rfl, by omega, rfl, ?_⟩
  have t2 := (show 0 ≤ μ 27 (mj s i) ∧ μ 27 (mj s i) ≤ 65536 from hV.g 27 (mj s i))
  refine ⟨_, hm_oi hx, aR (A 30), rfl, ?_⟩
  refine ⟨512, _, (μ 30 (mj s i)), hm_a hx 30 rfl, by omega, rfl, ?_⟩
  have t3 := (show 0 ≤ μ 30 (mj s i) ∧ μ 30 (mj s i) ≤ 65536 from hV.g 30 (mj s i))
  refine ⟨_, _, _, _, (m_grows hF htr hx hV (a := ((μ 27 (mj s i)) + (μ 6 (mg s i).toNat))) (b := (μ 30 (mj s i))) (c := (μ 6 (mg s i).toNat)) (by omega) (by omega) (by omega) (by omega) (by omega) (by omega)), Nat.le_refl _, Nat.le_refl _, mki_ (r := some (aI (v_grows μ ((μ 27 (mj s i)) + (μ 6 (mg s i).toNat)) (μ 30 (mj s i)) (μ 6 (mg s i).toNat)))) ?_, fun _ _ q => q.elim⟩
  have t4 := v_grows_b μ ((μ 27 (mj s i)) + (μ 6 (mg s i).toNat)) (μ 30 (mj s i)) (μ 6 (mg s i).toNat)
  refine ⟨by omega, fun (e5 : ¬ ((v_grows μ ((μ 27 (mj s i)) + (μ 6 (mg s i).toNat)) (μ 30 (mj s i)) (μ 6 (mg s i).toNat)) = 0)) => ?_, fun (e5 : (v_grows μ ((μ 27 (mj s i)) + (μ 6 (mg s i).toNat)) (μ 30 (mj s i)) (μ 6 (mg s i).toNat)) = 0) => ?_⟩
  · refine ⟨65536, rfl, ?_⟩
    refine ⟨by omega, fun (e6 : 65536 ≤ ((μ 27 (mj s i)) + (μ 6 (mg s i).toNat))) => ?_, fun (e6 : ¬ (65536 ≤ ((μ 27 (mj s i)) + (μ 6 (mg s i).toNat)))) => ?_⟩
    · refine ⟨65536, rfl, ?_⟩
      refine ⟨_, hm_oi hx, aR (A 30), rfl, ?_⟩
      refine ⟨512, _, (μ 30 (mj s i)), hm_a hx 30 rfl, by omega, rfl, ?_⟩
      refine ⟨by omega, fun (e7 : (μ 30 (mj s i)) < 65536) => ?_, fun (e7 : ¬ ((μ 30 (mj s i)) < 65536)) => ?_⟩
      · refine ⟨_, hm_oi hx, aR (A 30), rfl, ?_⟩
        refine ⟨512, _, _, hm_a hx 30 rfl, by omega, hm_pl hx (i := (mj s i)) (v := 65536) rfl rfl rfl, ?_⟩
        have hV8 := hV.u (f := 30) (k := (mj s i)) (v := 65536) (show 0 ≤ 65536 ∧ 65536 ≤ 65536 from by omega)
        refine ⟨_, hm_oi hx, aR (A 31), rfl, ?_⟩
        refine ⟨512, _, _, hm_a hx 31 rfl, by omega, (show 1 = 0 ∨ 1 = 1 from by omega), hm_pi hx (i := (mj s i)) (v := 1) rfl rfl rfl rfl, ?_⟩
        have hV9 := hV8.u (f := 31) (k := (mj s i)) (v := 1) (show 0 ≤ 1 ∧ 1 ≤ 1 from by omega)
        exact ⟨mRetVS (by unfold s_growStream; rw [if_neg e5, if_pos e6, if_pos e7]) hV9, Nat.le_refl _, Nat.le_refl _⟩
      · exact ⟨mRetVS (by unfold s_growStream; rw [if_neg e5, if_pos e6, if_neg e7]) hV, Nat.le_refl _, Nat.le_refl _⟩
    · refine ⟨_, hm_oi hx, aR (A 30), rfl, ?_⟩
      refine ⟨512, _, (μ 30 (mj s i)), hm_a hx 30 rfl, by omega, rfl, ?_⟩
      refine ⟨by omega, fun (e10 : (μ 30 (mj s i)) < ((μ 27 (mj s i)) + (μ 6 (mg s i).toNat))) => ?_, fun (e10 : ¬ ((μ 30 (mj s i)) < ((μ 27 (mj s i)) + (μ 6 (mg s i).toNat)))) => ?_⟩
      · refine ⟨_, hm_oi hx, aR (A 30), rfl, ?_⟩
        refine ⟨512, _, _, hm_a hx 30 rfl, by omega, hm_pl hx (i := (mj s i)) (v := ((μ 27 (mj s i)) + (μ 6 (mg s i).toNat))) rfl rfl rfl, ?_⟩
        have hV11 := hV.u (f := 30) (k := (mj s i)) (v := ((μ 27 (mj s i)) + (μ 6 (mg s i).toNat))) (show 0 ≤ ((μ 27 (mj s i)) + (μ 6 (mg s i).toNat)) ∧ ((μ 27 (mj s i)) + (μ 6 (mg s i).toNat)) ≤ 65536 from by omega)
        refine ⟨_, hm_oi hx, aR (A 31), rfl, ?_⟩
        refine ⟨512, _, _, hm_a hx 31 rfl, by omega, (show 1 = 0 ∨ 1 = 1 from by omega), hm_pi hx (i := (mj s i)) (v := 1) rfl rfl rfl rfl, ?_⟩
        have hV12 := hV11.u (f := 31) (k := (mj s i)) (v := 1) (show 0 ≤ 1 ∧ 1 ≤ 1 from by omega)
        exact ⟨mRetVS (by unfold s_growStream; rw [if_neg e5, if_neg e6, if_pos e10]) hV12, Nat.le_refl _, Nat.le_refl _⟩
      · exact ⟨mRetVS (by unfold s_growStream; rw [if_neg e5, if_neg e6, if_neg e10]) hV, Nat.le_refl _, Nat.le_refl _⟩
  · exact ⟨mRetVS (by unfold s_growStream; rw [if_pos e5]) hV, Nat.le_refl _, Nat.le_refl _⟩
set_option maxRecDepth 100000 in
theorem s_growStream_fr {f kk : Nat} {s i : Int} (hf : [30, 31].elem f = false) : s_growStream μ s i f kk = μ f kk := by
  have n30 : f ≠ 30 := by rintro rfl; exact absurd hf (by decide)
  have n31 : f ≠ 31 := by rintro rfl; exact absurd hf (by decide)
  have f30 : ∀ (m : Nat → Nat → Int) (a b : Nat) (v : Int), u2 m 30 a v f b = m f b := fun m a b v => u2_f n30
  have f31 : ∀ (m : Nat → Nat → Int) (a b : Nat) (v : Int), u2 m 31 a v f b = m f b := fun m a b v => u2_f n31
  unfold s_growStream
  repeat' with_reducible apply f_ite
  all_goals first | rfl | simp only [f30, f31]
def s_looksOver (μ : Nat → Nat → Int) (s i : Int) : Nat → Nat → Int := (if i % 2 = s then μ else (if (μ 35 (mj s i)) = 0 then (if (μ 17 (mj s i)) = 0 then μ else (if i / 2 % 2 = 0 ∨ ¬ i % 2 = s then (if (v_receiving μ s i) ≤ 2 then (if i / 2 % 2 = 0 ∨ i % 2 = s then (if (mSend μ s i) = 2 then μ else (if (mSend μ s i) = 4 then μ else μ)) else μ) else (if i / 2 % 2 = 0 ∨ i % 2 = s then (if (mSend μ s i) = 2 then (if (μ 10 ((2 * s) + (i / 2 % 2)).toNat) = 64 then (u2 μ 35 (mj s i) 1) else (u2 (u2 (u2 μ 35 (mj s i) 1) 10 ((2 * s) + (i / 2 % 2)).toNat ((μ 10 ((2 * s) + (i / 2 % 2)).toNat) + 1)) 13 ((2 * s) + (i / 2 % 2)).toNat 1)) else (if (mSend μ s i) = 4 then (if (μ 10 ((2 * s) + (i / 2 % 2)).toNat) = 64 then (u2 μ 35 (mj s i) 1) else (u2 (u2 (u2 μ 35 (mj s i) 1) 10 ((2 * s) + (i / 2 % 2)).toNat ((μ 10 ((2 * s) + (i / 2 % 2)).toNat) + 1)) 13 ((2 * s) + (i / 2 % 2)).toNat 1)) else μ)) else (if (μ 10 ((2 * s) + (i / 2 % 2)).toNat) = 64 then (u2 μ 35 (mj s i) 1) else (u2 (u2 (u2 μ 35 (mj s i) 1) 10 ((2 * s) + (i / 2 % 2)).toNat ((μ 10 ((2 * s) + (i / 2 % 2)).toNat) + 1)) 13 ((2 * s) + (i / 2 % 2)).toNat 1)))) else (if i / 2 % 2 = 0 ∨ i % 2 = s then (if (mSend μ s i) = 2 then (if (μ 10 ((2 * s) + (i / 2 % 2)).toNat) = 64 then (u2 μ 35 (mj s i) 1) else (u2 (u2 (u2 μ 35 (mj s i) 1) 10 ((2 * s) + (i / 2 % 2)).toNat ((μ 10 ((2 * s) + (i / 2 % 2)).toNat) + 1)) 13 ((2 * s) + (i / 2 % 2)).toNat 1)) else (if (mSend μ s i) = 4 then (if (μ 10 ((2 * s) + (i / 2 % 2)).toNat) = 64 then (u2 μ 35 (mj s i) 1) else (u2 (u2 (u2 μ 35 (mj s i) 1) 10 ((2 * s) + (i / 2 % 2)).toNat ((μ 10 ((2 * s) + (i / 2 % 2)).toNat) + 1)) 13 ((2 * s) + (i / 2 % 2)).toNat 1)) else μ)) else (if (μ 10 ((2 * s) + (i / 2 % 2)).toNat) = 64 then (u2 μ 35 (mj s i) 1) else (u2 (u2 (u2 μ 35 (mj s i) 1) 10 ((2 * s) + (i / 2 % 2)).toNat ((μ 10 ((2 * s) + (i / 2 % 2)).toNat) + 1)) 13 ((2 * s) + (i / 2 % 2)).toNat 1))))) else μ))
set_option maxRecDepth 100000 in
theorem m_looksOver (hF : mm_F G) (htr : L.stackTraces = false) (hx : mx A ax) (hV : mV μ) {s i : Int} (h1 : 0 ≤ s) (h2 : s ≤ 1) (h3 : 0 ≤ i) (h4 : i < 256) :
    mm_Met L G SX6_looksOver [.ref (A 99), .int (iI s), .int (iI i)] (hm G A ax h0 μ) 0 0 (mRetS none (hm G A ax h0 (s_looksOver μ s i)) (mV (s_looksOver μ s i))) mm_no := by
  refine mi_meth MX6_looksOver 400 hF htr okX6_looksOver (av := [aR (A 99), aI s, aI i]) (by decide +kernel) (Nat.le_of_ble_eq_true rfl) cmX6_looksOver (fun θ hc => ?_)
  refine ⟨_, _, _, _, (m_at hF htr (s := s) (i := i)), Nat.le_refl _, Nat.le_refl _, mki_ (r := some (aI ((256 * s) + i))) ?_, fun _ _ q => q.elim⟩
  refine ⟨by omega, ?_⟩
  refine ⟨_, _, _, _, (m_opens hF htr (a := i) (s := s) (by omega) (by omega) (by omega) (by omega)), Nat.le_refl _, Nat.le_refl _, mki_ (r := some (aI (b2 (i % 2 = s)))) ?_, fun _ _ q => q.elim⟩
  refine ⟨by have := b2_r (i % 2 = s); omega, fun e1 => ?_, fun e1 => ?_⟩
  · have e1 : i % 2 = s := b2_n0.mp e1
    exact ⟨mRetVS (by unfold s_looksOver; rw [if_pos e1]) hV, Nat.le_refl _, Nat.le_refl _⟩
  · have e1 : ¬ (i % 2 = s) := b2_e0.mp e1
    refine ⟨_, hm_oi hx, aR (A 35), rfl, ?_⟩
    refine ⟨512, _, (μ 35 (mj s i)), hm_a hx 35 rfl, by omega, rfl, ?_⟩
    have t2 := (show 0 ≤ μ 35 (mj s i) ∧ μ 35 (mj s i) ≤ 1 from hV.g 35 (mj s i))
    refine ⟨by omega, fun (e3 : ¬ ((μ 35 (mj s i)) = 0)) => ?_, fun (e3 : (μ 35 (mj s i)) = 0) => ?_⟩
    · exact ⟨mRetVS (by unfold s_looksOver; rw [if_neg e1, if_neg e3]) hV, Nat.le_refl _, Nat.le_refl _⟩
    · refine ⟨_, hm_oi hx, aR (A 17), rfl, ?_⟩
      refine ⟨512, _, (μ 17 (mj s i)), hm_a hx 17 rfl, by omega, rfl, ?_⟩
      have t4 := (show 0 ≤ μ 17 (mj s i) ∧ μ 17 (mj s i) ≤ 1 from hV.g 17 (mj s i))
      refine ⟨by omega, fun (e5 : ¬ ((μ 17 (mj s i)) = 0)) => ?_, fun (e5 : (μ 17 (mj s i)) = 0) => ?_⟩
      · refine ⟨by omega, ?_⟩
        refine ⟨_, _, _, _, (m_receives hF htr (a := i) (s := s) (by omega) (by omega) (by omega) (by omega)), Nat.le_refl _, Nat.le_refl _, mki_ (r := some (aI (b2 (i / 2 % 2 = 0 ∨ ¬ i % 2 = s)))) ?_, fun _ _ q => q.elim⟩
        refine ⟨by have := b2_r (i / 2 % 2 = 0 ∨ ¬ i % 2 = s); omega, fun e6 => ?_, fun e6 => ?_⟩
        · have e6 : ¬ (i / 2 % 2 = 0 ∨ ¬ i % 2 = s) := b2_e0.mp e6
          refine ⟨by omega, ?_⟩
          refine ⟨_, _, _, _, (m_sends hF htr (a := i) (s := s) (by omega) (by omega) (by omega) (by omega)), Nat.le_refl _, Nat.le_refl _, mki_ (r := some (aI (b2 (i / 2 % 2 = 0 ∨ i % 2 = s)))) ?_, fun _ _ q => q.elim⟩
          refine ⟨by have := b2_r (i / 2 % 2 = 0 ∨ i % 2 = s); omega, fun e7 => ?_, fun e7 => ?_⟩
          · have e7 : ¬ (i / 2 % 2 = 0 ∨ i % 2 = s) := b2_e0.mp e7
            refine ⟨by omega, fun (e : (1 : Int) = 0) => absurd e (by decide), fun _ => ?_⟩
            refine ⟨by omega, fun _ => ?_, fun (e : (1 : Int) = 0) => absurd e (by decide)⟩
            refine ⟨_, hm_oi hx, aR (A 35), rfl, ?_⟩
            refine ⟨512, _, _, hm_a hx 35 rfl, by omega, (show 1 = 0 ∨ 1 = 1 from by omega), hm_pi hx (i := (mj s i)) (v := 1) rfl rfl rfl rfl, ?_⟩
            have hV8 := hV.u (f := 35) (k := (mj s i)) (v := 1) (show 0 ≤ 1 ∧ 1 ≤ 1 from by omega)
            refine ⟨by omega, ?_⟩
            refine ⟨_, _, _, _, (m_wayOf hF htr (a := i) (by omega) (by omega)), Nat.le_refl _, Nat.le_refl _, mki_ (r := some (aI (i / 2 % 2))) ?_, fun _ _ q => q.elim⟩
            refine ⟨_, hm_oi hx, aR (A 10), rfl, ?_⟩
            refine ⟨4, _, (μ 10 ((2 * s) + (i / 2 % 2)).toNat), hm_a hx 10 rfl, by omega, (u2_f (by decide)), ?_⟩
            have t9 := (show 0 ≤ μ 10 ((2 * s) + (i / 2 % 2)).toNat ∧ μ 10 ((2 * s) + (i / 2 % 2)).toNat ≤ 64 from hV.g 10 ((2 * s) + (i / 2 % 2)).toNat)
            refine ⟨by omega, fun (e10 : ¬ ((μ 10 ((2 * s) + (i / 2 % 2)).toNat) = 64)) => ?_, fun (e10 : (μ 10 ((2 * s) + (i / 2 % 2)).toNat) = 64) => ?_⟩
            · refine ⟨_, hm_oi hx, aR (A 10), rfl, ?_⟩
              refine ⟨4, _, (μ 10 ((2 * s) + (i / 2 % 2)).toNat), hm_a hx 10 rfl, by omega, (u2_f (by decide)), ?_⟩
              refine ⟨4, _, _, hm_a hx 10 rfl, by omega, trivial, hm_pi hx (i := ((2 * s) + (i / 2 % 2)).toNat) (v := ((μ 10 ((2 * s) + (i / 2 % 2)).toNat) + 1)) rfl rfl rfl rfl, ?_⟩
              have hV11 := hV8.u (f := 10) (k := ((2 * s) + (i / 2 % 2)).toNat) (v := ((μ 10 ((2 * s) + (i / 2 % 2)).toNat) + 1)) (show 0 ≤ ((μ 10 ((2 * s) + (i / 2 % 2)).toNat) + 1) ∧ ((μ 10 ((2 * s) + (i / 2 % 2)).toNat) + 1) ≤ 64 from by omega)
              refine ⟨_, hm_oi hx, aR (A 13), rfl, ?_⟩
              refine ⟨4, _, _, hm_a hx 13 rfl, by omega, (show 1 = 0 ∨ 1 = 1 from by omega), hm_pi hx (i := ((2 * s) + (i / 2 % 2)).toNat) (v := 1) rfl rfl rfl rfl, ?_⟩
              have hV12 := hV11.u (f := 13) (k := ((2 * s) + (i / 2 % 2)).toNat) (v := 1) (show 0 ≤ 1 ∧ 1 ≤ 1 from by omega)
              exact ⟨mRetVS (by unfold s_looksOver; rw [if_neg e1, if_pos e3, if_neg e5, if_neg e6, if_neg e7, if_neg e10]) hV12, Nat.le_refl _, Nat.le_refl _⟩
            · exact ⟨mRetVS (by unfold s_looksOver; rw [if_neg e1, if_pos e3, if_neg e5, if_neg e6, if_neg e7, if_pos e10]) hV8, Nat.le_refl _, Nat.le_refl _⟩
          · have e7 : i / 2 % 2 = 0 ∨ i % 2 = s := b2_n0.mp e7
            refine ⟨⟨_, hm_oi hx⟩, _, _, _, _, (m_sending hF htr hx hV.T hV.N (s := s) (i := i) (by omega) (by omega) (by omega) (by omega)), Nat.le_refl _, Nat.le_refl _, mki_ (r := some (aI (mSend μ s i))) ?_, fun _ _ q => q.elim⟩
            have t13 := hV.snd s i
            refine ⟨by omega, fun (e14 : (mSend μ s i) = 2) => ?_, fun (e14 : ¬ ((mSend μ s i) = 2)) => ?_⟩
            · refine ⟨by omega, fun (e : (1 : Int) = 0) => absurd e (by decide), fun _ => ?_⟩
              refine ⟨by omega, fun _ => ?_, fun (e : (1 : Int) = 0) => absurd e (by decide)⟩
              refine ⟨_, hm_oi hx, aR (A 35), rfl, ?_⟩
              refine ⟨512, _, _, hm_a hx 35 rfl, by omega, (show 1 = 0 ∨ 1 = 1 from by omega), hm_pi hx (i := (mj s i)) (v := 1) rfl rfl rfl rfl, ?_⟩
              have hV15 := hV.u (f := 35) (k := (mj s i)) (v := 1) (show 0 ≤ 1 ∧ 1 ≤ 1 from by omega)
              refine ⟨by omega, ?_⟩
              refine ⟨_, _, _, _, (m_wayOf hF htr (a := i) (by omega) (by omega)), Nat.le_refl _, Nat.le_refl _, mki_ (r := some (aI (i / 2 % 2))) ?_, fun _ _ q => q.elim⟩
              refine ⟨_, hm_oi hx, aR (A 10), rfl, ?_⟩
              refine ⟨4, _, (μ 10 ((2 * s) + (i / 2 % 2)).toNat), hm_a hx 10 rfl, by omega, (u2_f (by decide)), ?_⟩
              have t16 := (show 0 ≤ μ 10 ((2 * s) + (i / 2 % 2)).toNat ∧ μ 10 ((2 * s) + (i / 2 % 2)).toNat ≤ 64 from hV.g 10 ((2 * s) + (i / 2 % 2)).toNat)
              refine ⟨by omega, fun (e17 : ¬ ((μ 10 ((2 * s) + (i / 2 % 2)).toNat) = 64)) => ?_, fun (e17 : (μ 10 ((2 * s) + (i / 2 % 2)).toNat) = 64) => ?_⟩
              · refine ⟨_, hm_oi hx, aR (A 10), rfl, ?_⟩
                refine ⟨4, _, (μ 10 ((2 * s) + (i / 2 % 2)).toNat), hm_a hx 10 rfl, by omega, (u2_f (by decide)), ?_⟩
                refine ⟨4, _, _, hm_a hx 10 rfl, by omega, trivial, hm_pi hx (i := ((2 * s) + (i / 2 % 2)).toNat) (v := ((μ 10 ((2 * s) + (i / 2 % 2)).toNat) + 1)) rfl rfl rfl rfl, ?_⟩
                have hV18 := hV15.u (f := 10) (k := ((2 * s) + (i / 2 % 2)).toNat) (v := ((μ 10 ((2 * s) + (i / 2 % 2)).toNat) + 1)) (show 0 ≤ ((μ 10 ((2 * s) + (i / 2 % 2)).toNat) + 1) ∧ ((μ 10 ((2 * s) + (i / 2 % 2)).toNat) + 1) ≤ 64 from by omega)
                refine ⟨_, hm_oi hx, aR (A 13), rfl, ?_⟩
                refine ⟨4, _, _, hm_a hx 13 rfl, by omega, (show 1 = 0 ∨ 1 = 1 from by omega), hm_pi hx (i := ((2 * s) + (i / 2 % 2)).toNat) (v := 1) rfl rfl rfl rfl, ?_⟩
                have hV19 := hV18.u (f := 13) (k := ((2 * s) + (i / 2 % 2)).toNat) (v := 1) (show 0 ≤ 1 ∧ 1 ≤ 1 from by omega)
                exact ⟨mRetVS (by unfold s_looksOver; rw [if_neg e1, if_pos e3, if_neg e5, if_neg e6, if_pos e7, if_pos e14, if_neg e17]) hV19, Nat.le_refl _, Nat.le_refl _⟩
              · exact ⟨mRetVS (by unfold s_looksOver; rw [if_neg e1, if_pos e3, if_neg e5, if_neg e6, if_pos e7, if_pos e14, if_pos e17]) hV15, Nat.le_refl _, Nat.le_refl _⟩
            · refine ⟨⟨_, hm_oi hx⟩, _, _, _, _, (m_sending hF htr hx hV.T hV.N (s := s) (i := i) (by omega) (by omega) (by omega) (by omega)), Nat.le_refl _, Nat.le_refl _, mki_ (r := some (aI (mSend μ s i))) ?_, fun _ _ q => q.elim⟩
              refine ⟨by omega, fun (e20 : ¬ ((mSend μ s i) = 4)) => ?_, fun (e20 : (mSend μ s i) = 4) => ?_⟩
              · refine ⟨by omega, fun (e : (1 : Int) = 0) => absurd e (by decide), fun _ => ?_⟩
                refine ⟨by omega, fun (e : ¬ ((0 : Int) = 0)) => (e (by decide)).elim, fun _ => ?_⟩
                exact ⟨mRetVS (by unfold s_looksOver; rw [if_neg e1, if_pos e3, if_neg e5, if_neg e6, if_pos e7, if_neg e14, if_neg e20]) hV, Nat.le_refl _, Nat.le_refl _⟩
              · refine ⟨by omega, fun (e : (1 : Int) = 0) => absurd e (by decide), fun _ => ?_⟩
                refine ⟨by omega, fun _ => ?_, fun (e : (1 : Int) = 0) => absurd e (by decide)⟩
                refine ⟨_, hm_oi hx, aR (A 35), rfl, ?_⟩
                refine ⟨512, _, _, hm_a hx 35 rfl, by omega, (show 1 = 0 ∨ 1 = 1 from by omega), hm_pi hx (i := (mj s i)) (v := 1) rfl rfl rfl rfl, ?_⟩
                have hV21 := hV.u (f := 35) (k := (mj s i)) (v := 1) (show 0 ≤ 1 ∧ 1 ≤ 1 from by omega)
                refine ⟨by omega, ?_⟩
                refine ⟨_, _, _, _, (m_wayOf hF htr (a := i) (by omega) (by omega)), Nat.le_refl _, Nat.le_refl _, mki_ (r := some (aI (i / 2 % 2))) ?_, fun _ _ q => q.elim⟩
                refine ⟨_, hm_oi hx, aR (A 10), rfl, ?_⟩
                refine ⟨4, _, (μ 10 ((2 * s) + (i / 2 % 2)).toNat), hm_a hx 10 rfl, by omega, (u2_f (by decide)), ?_⟩
                have t22 := (show 0 ≤ μ 10 ((2 * s) + (i / 2 % 2)).toNat ∧ μ 10 ((2 * s) + (i / 2 % 2)).toNat ≤ 64 from hV.g 10 ((2 * s) + (i / 2 % 2)).toNat)
                refine ⟨by omega, fun (e23 : ¬ ((μ 10 ((2 * s) + (i / 2 % 2)).toNat) = 64)) => ?_, fun (e23 : (μ 10 ((2 * s) + (i / 2 % 2)).toNat) = 64) => ?_⟩
                · refine ⟨_, hm_oi hx, aR (A 10), rfl, ?_⟩
                  refine ⟨4, _, (μ 10 ((2 * s) + (i / 2 % 2)).toNat), hm_a hx 10 rfl, by omega, (u2_f (by decide)), ?_⟩
                  refine ⟨4, _, _, hm_a hx 10 rfl, by omega, trivial, hm_pi hx (i := ((2 * s) + (i / 2 % 2)).toNat) (v := ((μ 10 ((2 * s) + (i / 2 % 2)).toNat) + 1)) rfl rfl rfl rfl, ?_⟩
                  have hV24 := hV21.u (f := 10) (k := ((2 * s) + (i / 2 % 2)).toNat) (v := ((μ 10 ((2 * s) + (i / 2 % 2)).toNat) + 1)) (show 0 ≤ ((μ 10 ((2 * s) + (i / 2 % 2)).toNat) + 1) ∧ ((μ 10 ((2 * s) + (i / 2 % 2)).toNat) + 1) ≤ 64 from by omega)
                  refine ⟨_, hm_oi hx, aR (A 13), rfl, ?_⟩
                  refine ⟨4, _, _, hm_a hx 13 rfl, by omega, (show 1 = 0 ∨ 1 = 1 from by omega), hm_pi hx (i := ((2 * s) + (i / 2 % 2)).toNat) (v := 1) rfl rfl rfl rfl, ?_⟩
                  have hV25 := hV24.u (f := 13) (k := ((2 * s) + (i / 2 % 2)).toNat) (v := 1) (show 0 ≤ 1 ∧ 1 ≤ 1 from by omega)
                  exact ⟨mRetVS (by unfold s_looksOver; rw [if_neg e1, if_pos e3, if_neg e5, if_neg e6, if_pos e7, if_neg e14, if_pos e20, if_neg e23]) hV25, Nat.le_refl _, Nat.le_refl _⟩
                · exact ⟨mRetVS (by unfold s_looksOver; rw [if_neg e1, if_pos e3, if_neg e5, if_neg e6, if_pos e7, if_neg e14, if_pos e20, if_pos e23]) hV21, Nat.le_refl _, Nat.le_refl _⟩
        · have e6 : i / 2 % 2 = 0 ∨ ¬ i % 2 = s := b2_n0.mp e6
          refine ⟨⟨_, hm_oi hx⟩, _, _, _, _, (m_receiving hF htr hx hV (s := s) (i := i) (by omega) (by omega) (by omega) (by omega)), Nat.le_refl _, Nat.le_refl _, mki_ (r := some (aI (v_receiving μ s i))) ?_, fun _ _ q => q.elim⟩
          have t26 := v_receiving_b μ s i
          refine ⟨by omega, fun (e27 : (v_receiving μ s i) ≤ 2) => ?_, fun (e27 : ¬ ((v_receiving μ s i) ≤ 2)) => ?_⟩
          · refine ⟨by omega, ?_⟩
            refine ⟨_, _, _, _, (m_sends hF htr (a := i) (s := s) (by omega) (by omega) (by omega) (by omega)), Nat.le_refl _, Nat.le_refl _, mki_ (r := some (aI (b2 (i / 2 % 2 = 0 ∨ i % 2 = s)))) ?_, fun _ _ q => q.elim⟩
            refine ⟨by have := b2_r (i / 2 % 2 = 0 ∨ i % 2 = s); omega, fun e28 => ?_, fun e28 => ?_⟩
            · have e28 : ¬ (i / 2 % 2 = 0 ∨ i % 2 = s) := b2_e0.mp e28
              refine ⟨by omega, fun _ => ?_, fun (e : ¬ ((0 : Int) = 0)) => (e (by decide)).elim⟩
              exact ⟨mRetVS (by unfold s_looksOver; rw [if_neg e1, if_pos e3, if_neg e5, if_pos e6, if_pos e27, if_neg e28]) hV, Nat.le_refl _, Nat.le_refl _⟩
            · have e28 : i / 2 % 2 = 0 ∨ i % 2 = s := b2_n0.mp e28
              refine ⟨⟨_, hm_oi hx⟩, _, _, _, _, (m_sending hF htr hx hV.T hV.N (s := s) (i := i) (by omega) (by omega) (by omega) (by omega)), Nat.le_refl _, Nat.le_refl _, mki_ (r := some (aI (mSend μ s i))) ?_, fun _ _ q => q.elim⟩
              have t29 := hV.snd s i
              refine ⟨by omega, fun (e30 : (mSend μ s i) = 2) => ?_, fun (e30 : ¬ ((mSend μ s i) = 2)) => ?_⟩
              · refine ⟨by omega, fun _ => ?_, fun (e : ¬ ((0 : Int) = 0)) => (e (by decide)).elim⟩
                exact ⟨mRetVS (by unfold s_looksOver; rw [if_neg e1, if_pos e3, if_neg e5, if_pos e6, if_pos e27, if_pos e28, if_pos e30]) hV, Nat.le_refl _, Nat.le_refl _⟩
              · refine ⟨⟨_, hm_oi hx⟩, _, _, _, _, (m_sending hF htr hx hV.T hV.N (s := s) (i := i) (by omega) (by omega) (by omega) (by omega)), Nat.le_refl _, Nat.le_refl _, mki_ (r := some (aI (mSend μ s i))) ?_, fun _ _ q => q.elim⟩
                refine ⟨by omega, fun (e31 : ¬ ((mSend μ s i) = 4)) => ?_, fun (e31 : (mSend μ s i) = 4) => ?_⟩
                · refine ⟨by omega, fun _ => ?_, fun (e : ¬ ((0 : Int) = 0)) => (e (by decide)).elim⟩
                  exact ⟨mRetVS (by unfold s_looksOver; rw [if_neg e1, if_pos e3, if_neg e5, if_pos e6, if_pos e27, if_pos e28, if_neg e30, if_neg e31]) hV, Nat.le_refl _, Nat.le_refl _⟩
                · refine ⟨by omega, fun _ => ?_, fun (e : ¬ ((0 : Int) = 0)) => (e (by decide)).elim⟩
                  exact ⟨mRetVS (by unfold s_looksOver; rw [if_neg e1, if_pos e3, if_neg e5, if_pos e6, if_pos e27, if_pos e28, if_neg e30, if_pos e31]) hV, Nat.le_refl _, Nat.le_refl _⟩
          · refine ⟨by omega, ?_⟩
            refine ⟨_, _, _, _, (m_sends hF htr (a := i) (s := s) (by omega) (by omega) (by omega) (by omega)), Nat.le_refl _, Nat.le_refl _, mki_ (r := some (aI (b2 (i / 2 % 2 = 0 ∨ i % 2 = s)))) ?_, fun _ _ q => q.elim⟩
            refine ⟨by have := b2_r (i / 2 % 2 = 0 ∨ i % 2 = s); omega, fun e32 => ?_, fun e32 => ?_⟩
            · have e32 : ¬ (i / 2 % 2 = 0 ∨ i % 2 = s) := b2_e0.mp e32
              refine ⟨by omega, fun (e : (1 : Int) = 0) => absurd e (by decide), fun _ => ?_⟩
              refine ⟨by omega, fun _ => ?_, fun (e : (1 : Int) = 0) => absurd e (by decide)⟩
              refine ⟨_, hm_oi hx, aR (A 35), rfl, ?_⟩
              refine ⟨512, _, _, hm_a hx 35 rfl, by omega, (show 1 = 0 ∨ 1 = 1 from by omega), hm_pi hx (i := (mj s i)) (v := 1) rfl rfl rfl rfl, ?_⟩
              have hV33 := hV.u (f := 35) (k := (mj s i)) (v := 1) (show 0 ≤ 1 ∧ 1 ≤ 1 from by omega)
              refine ⟨by omega, ?_⟩
              refine ⟨_, _, _, _, (m_wayOf hF htr (a := i) (by omega) (by omega)), Nat.le_refl _, Nat.le_refl _, mki_ (r := some (aI (i / 2 % 2))) ?_, fun _ _ q => q.elim⟩
              refine ⟨_, hm_oi hx, aR (A 10), rfl, ?_⟩
              refine ⟨4, _, (μ 10 ((2 * s) + (i / 2 % 2)).toNat), hm_a hx 10 rfl, by omega, (u2_f (by decide)), ?_⟩
              have t34 := (show 0 ≤ μ 10 ((2 * s) + (i / 2 % 2)).toNat ∧ μ 10 ((2 * s) + (i / 2 % 2)).toNat ≤ 64 from hV.g 10 ((2 * s) + (i / 2 % 2)).toNat)
              refine ⟨by omega, fun (e35 : ¬ ((μ 10 ((2 * s) + (i / 2 % 2)).toNat) = 64)) => ?_, fun (e35 : (μ 10 ((2 * s) + (i / 2 % 2)).toNat) = 64) => ?_⟩
              · refine ⟨_, hm_oi hx, aR (A 10), rfl, ?_⟩
                refine ⟨4, _, (μ 10 ((2 * s) + (i / 2 % 2)).toNat), hm_a hx 10 rfl, by omega, (u2_f (by decide)), ?_⟩
                refine ⟨4, _, _, hm_a hx 10 rfl, by omega, trivial, hm_pi hx (i := ((2 * s) + (i / 2 % 2)).toNat) (v := ((μ 10 ((2 * s) + (i / 2 % 2)).toNat) + 1)) rfl rfl rfl rfl, ?_⟩
                have hV36 := hV33.u (f := 10) (k := ((2 * s) + (i / 2 % 2)).toNat) (v := ((μ 10 ((2 * s) + (i / 2 % 2)).toNat) + 1)) (show 0 ≤ ((μ 10 ((2 * s) + (i / 2 % 2)).toNat) + 1) ∧ ((μ 10 ((2 * s) + (i / 2 % 2)).toNat) + 1) ≤ 64 from by omega)
                refine ⟨_, hm_oi hx, aR (A 13), rfl, ?_⟩
                refine ⟨4, _, _, hm_a hx 13 rfl, by omega, (show 1 = 0 ∨ 1 = 1 from by omega), hm_pi hx (i := ((2 * s) + (i / 2 % 2)).toNat) (v := 1) rfl rfl rfl rfl, ?_⟩
                have hV37 := hV36.u (f := 13) (k := ((2 * s) + (i / 2 % 2)).toNat) (v := 1) (show 0 ≤ 1 ∧ 1 ≤ 1 from by omega)
                exact ⟨mRetVS (by unfold s_looksOver; rw [if_neg e1, if_pos e3, if_neg e5, if_pos e6, if_neg e27, if_neg e32, if_neg e35]) hV37, Nat.le_refl _, Nat.le_refl _⟩
              · exact ⟨mRetVS (by unfold s_looksOver; rw [if_neg e1, if_pos e3, if_neg e5, if_pos e6, if_neg e27, if_neg e32, if_pos e35]) hV33, Nat.le_refl _, Nat.le_refl _⟩
            · have e32 : i / 2 % 2 = 0 ∨ i % 2 = s := b2_n0.mp e32
              refine ⟨⟨_, hm_oi hx⟩, _, _, _, _, (m_sending hF htr hx hV.T hV.N (s := s) (i := i) (by omega) (by omega) (by omega) (by omega)), Nat.le_refl _, Nat.le_refl _, mki_ (r := some (aI (mSend μ s i))) ?_, fun _ _ q => q.elim⟩
              have t38 := hV.snd s i
              refine ⟨by omega, fun (e39 : (mSend μ s i) = 2) => ?_, fun (e39 : ¬ ((mSend μ s i) = 2)) => ?_⟩
              · refine ⟨by omega, fun (e : (1 : Int) = 0) => absurd e (by decide), fun _ => ?_⟩
                refine ⟨by omega, fun _ => ?_, fun (e : (1 : Int) = 0) => absurd e (by decide)⟩
                refine ⟨_, hm_oi hx, aR (A 35), rfl, ?_⟩
                refine ⟨512, _, _, hm_a hx 35 rfl, by omega, (show 1 = 0 ∨ 1 = 1 from by omega), hm_pi hx (i := (mj s i)) (v := 1) rfl rfl rfl rfl, ?_⟩
                have hV40 := hV.u (f := 35) (k := (mj s i)) (v := 1) (show 0 ≤ 1 ∧ 1 ≤ 1 from by omega)
                refine ⟨by omega, ?_⟩
                refine ⟨_, _, _, _, (m_wayOf hF htr (a := i) (by omega) (by omega)), Nat.le_refl _, Nat.le_refl _, mki_ (r := some (aI (i / 2 % 2))) ?_, fun _ _ q => q.elim⟩
                refine ⟨_, hm_oi hx, aR (A 10), rfl, ?_⟩
                refine ⟨4, _, (μ 10 ((2 * s) + (i / 2 % 2)).toNat), hm_a hx 10 rfl, by omega, (u2_f (by decide)), ?_⟩
                have t41 := (show 0 ≤ μ 10 ((2 * s) + (i / 2 % 2)).toNat ∧ μ 10 ((2 * s) + (i / 2 % 2)).toNat ≤ 64 from hV.g 10 ((2 * s) + (i / 2 % 2)).toNat)
                refine ⟨by omega, fun (e42 : ¬ ((μ 10 ((2 * s) + (i / 2 % 2)).toNat) = 64)) => ?_, fun (e42 : (μ 10 ((2 * s) + (i / 2 % 2)).toNat) = 64) => ?_⟩
                · refine ⟨_, hm_oi hx, aR (A 10), rfl, ?_⟩
                  refine ⟨4, _, (μ 10 ((2 * s) + (i / 2 % 2)).toNat), hm_a hx 10 rfl, by omega, (u2_f (by decide)), ?_⟩
                  refine ⟨4, _, _, hm_a hx 10 rfl, by omega, trivial, hm_pi hx (i := ((2 * s) + (i / 2 % 2)).toNat) (v := ((μ 10 ((2 * s) + (i / 2 % 2)).toNat) + 1)) rfl rfl rfl rfl, ?_⟩
                  have hV43 := hV40.u (f := 10) (k := ((2 * s) + (i / 2 % 2)).toNat) (v := ((μ 10 ((2 * s) + (i / 2 % 2)).toNat) + 1)) (show 0 ≤ ((μ 10 ((2 * s) + (i / 2 % 2)).toNat) + 1) ∧ ((μ 10 ((2 * s) + (i / 2 % 2)).toNat) + 1) ≤ 64 from by omega)
                  refine ⟨_, hm_oi hx, aR (A 13), rfl, ?_⟩
                  refine ⟨4, _, _, hm_a hx 13 rfl, by omega, (show 1 = 0 ∨ 1 = 1 from by omega), hm_pi hx (i := ((2 * s) + (i / 2 % 2)).toNat) (v := 1) rfl rfl rfl rfl, ?_⟩
                  have hV44 := hV43.u (f := 13) (k := ((2 * s) + (i / 2 % 2)).toNat) (v := 1) (show 0 ≤ 1 ∧ 1 ≤ 1 from by omega)
                  exact ⟨mRetVS (by unfold s_looksOver; rw [if_neg e1, if_pos e3, if_neg e5, if_pos e6, if_neg e27, if_pos e32, if_pos e39, if_neg e42]) hV44, Nat.le_refl _, Nat.le_refl _⟩
                · exact ⟨mRetVS (by unfold s_looksOver; rw [if_neg e1, if_pos e3, if_neg e5, if_pos e6, if_neg e27, if_pos e32, if_pos e39, if_pos e42]) hV40, Nat.le_refl _, Nat.le_refl _⟩
              · refine ⟨⟨_, hm_oi hx⟩, _, _, _, _, (m_sending hF htr hx hV.T hV.N (s := s) (i := i) (by omega) (by omega) (by omega) (by omega)), Nat.le_refl _, Nat.le_refl _, mki_ (r := some (aI (mSend μ s i))) ?_, fun _ _ q => q.elim⟩
                refine ⟨by omega, fun (e45 : ¬ ((mSend μ s i) = 4)) => ?_, fun (e45 : (mSend μ s i) = 4) => ?_⟩
                · refine ⟨by omega, fun (e : (1 : Int) = 0) => absurd e (by decide), fun _ => ?_⟩
                  refine ⟨by omega, fun (e : ¬ ((0 : Int) = 0)) => (e (by decide)).elim, fun _ => ?_⟩
                  exact ⟨mRetVS (by unfold s_looksOver; rw [if_neg e1, if_pos e3, if_neg e5, if_pos e6, if_neg e27, if_pos e32, if_neg e39, if_neg e45]) hV, Nat.le_refl _, Nat.le_refl _⟩
                · refine ⟨by omega, fun (e : (1 : Int) = 0) => absurd e (by decide), fun _ => ?_⟩
                  refine ⟨by omega, fun _ => ?_, fun (e : (1 : Int) = 0) => absurd e (by decide)⟩
                  refine ⟨_, hm_oi hx, aR (A 35), rfl, ?_⟩
                  refine ⟨512, _, _, hm_a hx 35 rfl, by omega, (show 1 = 0 ∨ 1 = 1 from by omega), hm_pi hx (i := (mj s i)) (v := 1) rfl rfl rfl rfl, ?_⟩
                  have hV46 := hV.u (f := 35) (k := (mj s i)) (v := 1) (show 0 ≤ 1 ∧ 1 ≤ 1 from by omega)
                  refine ⟨by omega, ?_⟩
                  refine ⟨_, _, _, _, (m_wayOf hF htr (a := i) (by omega) (by omega)), Nat.le_refl _, Nat.le_refl _, mki_ (r := some (aI (i / 2 % 2))) ?_, fun _ _ q => q.elim⟩
                  refine ⟨_, hm_oi hx, aR (A 10), rfl, ?_⟩
                  refine ⟨4, _, (μ 10 ((2 * s) + (i / 2 % 2)).toNat), hm_a hx 10 rfl, by omega, (u2_f (by decide)), ?_⟩
                  have t47 := (show 0 ≤ μ 10 ((2 * s) + (i / 2 % 2)).toNat ∧ μ 10 ((2 * s) + (i / 2 % 2)).toNat ≤ 64 from hV.g 10 ((2 * s) + (i / 2 % 2)).toNat)
                  refine ⟨by omega, fun (e48 : ¬ ((μ 10 ((2 * s) + (i / 2 % 2)).toNat) = 64)) => ?_, fun (e48 : (μ 10 ((2 * s) + (i / 2 % 2)).toNat) = 64) => ?_⟩
                  · refine ⟨_, hm_oi hx, aR (A 10), rfl, ?_⟩
                    refine ⟨4, _, (μ 10 ((2 * s) + (i / 2 % 2)).toNat), hm_a hx 10 rfl, by omega, (u2_f (by decide)), ?_⟩
                    refine ⟨4, _, _, hm_a hx 10 rfl, by omega, trivial, hm_pi hx (i := ((2 * s) + (i / 2 % 2)).toNat) (v := ((μ 10 ((2 * s) + (i / 2 % 2)).toNat) + 1)) rfl rfl rfl rfl, ?_⟩
                    have hV49 := hV46.u (f := 10) (k := ((2 * s) + (i / 2 % 2)).toNat) (v := ((μ 10 ((2 * s) + (i / 2 % 2)).toNat) + 1)) (show 0 ≤ ((μ 10 ((2 * s) + (i / 2 % 2)).toNat) + 1) ∧ ((μ 10 ((2 * s) + (i / 2 % 2)).toNat) + 1) ≤ 64 from by omega)
                    refine ⟨_, hm_oi hx, aR (A 13), rfl, ?_⟩
                    refine ⟨4, _, _, hm_a hx 13 rfl, by omega, (show 1 = 0 ∨ 1 = 1 from by omega), hm_pi hx (i := ((2 * s) + (i / 2 % 2)).toNat) (v := 1) rfl rfl rfl rfl, ?_⟩
                    have hV50 := hV49.u (f := 13) (k := ((2 * s) + (i / 2 % 2)).toNat) (v := 1) (show 0 ≤ 1 ∧ 1 ≤ 1 from by omega)
                    exact ⟨mRetVS (by unfold s_looksOver; rw [if_neg e1, if_pos e3, if_neg e5, if_pos e6, if_neg e27, if_pos e32, if_neg e39, if_pos e45, if_neg e48]) hV50, Nat.le_refl _, Nat.le_refl _⟩
                  · exact ⟨mRetVS (by unfold s_looksOver; rw [if_neg e1, if_pos e3, if_neg e5, if_pos e6, if_neg e27, if_pos e32, if_neg e39, if_pos e45, if_pos e48]) hV46, Nat.le_refl _, Nat.le_refl _⟩
      · exact ⟨mRetVS (by unfold s_looksOver; rw [if_neg e1, if_pos e3, if_pos e5]) hV, Nat.le_refl _, Nat.le_refl _⟩
set_option maxRecDepth 100000 in
theorem s_looksOver_fr {f kk : Nat} {s i : Int} (hf : [10, 13, 35].elem f = false) : s_looksOver μ s i f kk = μ f kk := by
  have n10 : f ≠ 10 := by rintro rfl; exact absurd hf (by decide)
  have n13 : f ≠ 13 := by rintro rfl; exact absurd hf (by decide)
  have n35 : f ≠ 35 := by rintro rfl; exact absurd hf (by decide)
  have f10 : ∀ (m : Nat → Nat → Int) (a b : Nat) (v : Int), u2 m 10 a v f b = m f b := fun m a b v => u2_f n10
  have f13 : ∀ (m : Nat → Nat → Int) (a b : Nat) (v : Int), u2 m 13 a v f b = m f b := fun m a b v => u2_f n13
  have f35 : ∀ (m : Nat → Nat → Int) (a b : Nat) (v : Int), u2 m 35 a v f b = m f b := fun m a b v => u2_f n35
  unfold s_looksOver
  repeat' with_reducible apply f_ite
  all_goals first | rfl | simp only [f10, f13, f35]
def s_begins (μ : Nat → Nat → Int) (s i : Int) : Nat → Nat → Int := (u2 (u2 (u2 μ 17 (mj s i) 1) 30 (mj s i) ((u2 μ 17 (mj s i) 1) 6 (mg s i).toNat)) 18 (mj s i) ((u2 (u2 μ 17 (mj s i) 1) 30 (mj s i) ((u2 μ 17 (mj s i) 1) 6 (mg s i).toNat)) 6 (mg (1 - s) i).toNat))
set_option maxRecDepth 100000 in
theorem m_begins (hF : mm_F G) (htr : L.stackTraces = false) (hx : mx A ax) (hV : mV μ) {s i : Int} (h1 : 0 ≤ s) (h2 : s ≤ 1) (h3 : 0 ≤ i) (h4 : i < 256) :
    mm_Met L G SX6_begin [.ref (A 99), .int (iI s), .int (iI i)] (hm G A ax h0 μ) 0 0 (mRetS none (hm G A ax h0 (s_begins μ s i)) (mV (s_begins μ s i))) mm_no := by
  refine mi_meth MX6_begin 400 hF htr okX6_begin (av := [aR (A 99), aI s, aI i]) (by decide +kernel) (Nat.le_of_ble_eq_true rfl) cmX6_begin (fun θ hc => ?_)
  refine ⟨_, _, _, _, (m_at hF htr (s := s) (i := i)), Nat.le_refl _, Nat.le_refl _, mki_ (r := some (aI ((256 * s) + i))) ?_, fun _ _ q => q.elim⟩
  refine ⟨_, hm_oi hx, aR (A 17), rfl, ?_⟩
  refine ⟨512, _, _, hm_a hx 17 rfl, by omega, (show 1 = 0 ∨ 1 = 1 from by omega), hm_pi hx (i := (mj s i)) (v := 1) rfl rfl rfl rfl, ?_⟩
  have hV1 := hV.u (f := 17) (k := (mj s i)) (v := 1) (show 0 ≤ 1 ∧ 1 ≤ 1 from by omega)
  refine ⟨_, hm_oi hx, aR (A 30), rfl, ?_⟩
  refine ⟨⟨_, hm_oi hx⟩, _, _, _, _, (m_grantOf hF htr hx (s := s) (i := i) (by omega) (by omega) (by omega) (by omega)), Nat.le_refl _, Nat.le_refl _, mki_ (r := some (aI ((u2 μ 17 (mj s i) 1) 6 (mg s i).toNat))) ?_, fun _ _ q => q.elim⟩
  have t2 := (show 0 ≤ (u2 μ 17 (mj s i) 1) 6 (mg s i).toNat ∧ (u2 μ 17 (mj s i) 1) 6 (mg s i).toNat ≤ 65536 from hV1.g 6 _)
  refine ⟨by omega, ?_⟩
  refine ⟨512, _, _, hm_a hx 30 rfl, by omega, hm_pl hx (i := (mj s i)) (v := ((u2 μ 17 (mj s i) 1) 6 (mg s i).toNat)) rfl rfl rfl, ?_⟩
  have hV3 := hV1.u (f := 30) (k := (mj s i)) (v := ((u2 μ 17 (mj s i) 1) 6 (mg s i).toNat)) (show 0 ≤ ((u2 μ 17 (mj s i) 1) 6 (mg s i).toNat) ∧ ((u2 μ 17 (mj s i) 1) 6 (mg s i).toNat) ≤ 65536 from by omega)
  refine ⟨_, hm_oi hx, aR (A 18), rfl, ?_⟩
  refine ⟨⟨_, hm_oi hx⟩, _, _, _, _, (m_limitOf hF htr hx hV3.T (s := s) (i := i) (by omega) (by omega) (by omega) (by omega)), Nat.le_refl _, Nat.le_refl _, mki_ (r := some (aL ((u2 (u2 μ 17 (mj s i) 1) 30 (mj s i) ((u2 μ 17 (mj s i) 1) 6 (mg s i).toNat)) 6 (mg (1 - s) i).toNat))) ?_, fun _ _ q => q.elim⟩
  have t4 := (show 0 ≤ (u2 (u2 μ 17 (mj s i) 1) 30 (mj s i) ((u2 μ 17 (mj s i) 1) 6 (mg s i).toNat)) 6 (mg (1 - s) i).toNat ∧ (u2 (u2 μ 17 (mj s i) 1) 30 (mj s i) ((u2 μ 17 (mj s i) 1) 6 (mg s i).toNat)) 6 (mg (1 - s) i).toNat ≤ 65536 from hV3.g 6 _)
  refine ⟨512, _, _, hm_a hx 18 rfl, by omega, hm_pl hx (i := (mj s i)) (v := ((u2 (u2 μ 17 (mj s i) 1) 30 (mj s i) ((u2 μ 17 (mj s i) 1) 6 (mg s i).toNat)) 6 (mg (1 - s) i).toNat)) rfl rfl rfl, ?_⟩
  have hV5 := hV3.u (f := 18) (k := (mj s i)) (v := ((u2 (u2 μ 17 (mj s i) 1) 30 (mj s i) ((u2 μ 17 (mj s i) 1) 6 (mg s i).toNat)) 6 (mg (1 - s) i).toNat)) (show 0 ≤ ((u2 (u2 μ 17 (mj s i) 1) 30 (mj s i) ((u2 μ 17 (mj s i) 1) 6 (mg s i).toNat)) 6 (mg (1 - s) i).toNat) ∧ ((u2 (u2 μ 17 (mj s i) 1) 30 (mj s i) ((u2 μ 17 (mj s i) 1) 6 (mg s i).toNat)) 6 (mg (1 - s) i).toNat) ≤ 4611686018427387903 from by omega)
  exact ⟨mRetVS rfl hV5, Nat.le_refl _, Nat.le_refl _⟩
set_option maxRecDepth 100000 in
theorem s_begins_fr {f kk : Nat} {s i : Int} (hf : [17, 18, 30].elem f = false) : s_begins μ s i f kk = μ f kk := by
  have n17 : f ≠ 17 := by rintro rfl; exact absurd hf (by decide)
  have n18 : f ≠ 18 := by rintro rfl; exact absurd hf (by decide)
  have n30 : f ≠ 30 := by rintro rfl; exact absurd hf (by decide)
  have f17 : ∀ (m : Nat → Nat → Int) (a b : Nat) (v : Int), u2 m 17 a v f b = m f b := fun m a b v => u2_f n17
  have f18 : ∀ (m : Nat → Nat → Int) (a b : Nat) (v : Int), u2 m 18 a v f b = m f b := fun m a b v => u2_f n18
  have f30 : ∀ (m : Nat → Nat → Int) (a b : Nat) (v : Int), u2 m 30 a v f b = m f b := fun m a b v => u2_f n30
  unfold s_begins
  repeat' with_reducible apply f_ite
  all_goals first | rfl | simp only [f17, f18, f30]
def v_finish (μ : Nat → Nat → Int) (s i : Int) : Int := (if s < 0 ∨ 1 < s then 0 else (if (0 ≤ i ∧ i < 256 ∧ (u2 μ 0 0 (if (b2 (s < 0 ∨ 1 < s)) = 0 then 0 else 1)) 17 (mj s i) = 1) ∧ (i / 2 % 2 = 0 ∨ i % 2 = s) then (if (mSend μ s i) = 0 then 1 else 0) else 0))
def s_finish (μ : Nat → Nat → Int) (s i : Int) : Nat → Nat → Int := (if s < 0 ∨ 1 < s then (u2 μ 0 0 (if (b2 (s < 0 ∨ 1 < s)) = 0 then 0 else 1)) else (if (0 ≤ i ∧ i < 256 ∧ (u2 μ 0 0 (if (b2 (s < 0 ∨ 1 < s)) = 0 then 0 else 1)) 17 (mj s i) = 1) ∧ (i / 2 % 2 = 0 ∨ i % 2 = s) then (if (mSend μ s i) = 0 then (u2 (u2 (u2 μ 0 0 (if (b2 (s < 0 ∨ 1 < s)) = 0 then 0 else 1)) 19 (mj s i) 1) 20 (mj s i) 0) else (u2 μ 0 0 (if (b2 (s < 0 ∨ 1 < s)) = 0 then 0 else 1))) else (u2 μ 0 0 (if (b2 (s < 0 ∨ 1 < s)) = 0 then 0 else 1))))
set_option maxRecDepth 100000 in
theorem m_finish (hF : mm_F G) (htr : L.stackTraces = false) (hx : mx A ax) (hV : mV μ) {s i : Int} (h1 : -2147483648 ≤ s) (h2 : s < 2147483648) (h3 : -2147483648 ≤ i) (h4 : i < 2147483648) :
    mm_Met L G SX6_finish [.ref (A 99), .int (iI s), .int (iI i)] (hm G A ax h0 μ) 0 0 (mRetS (some (.int (iI (v_finish μ s i)))) (hm G A ax h0 (s_finish μ s i)) (mV (s_finish μ s i))) mm_no := by
  refine mi_meth MX6_finish 400 hF htr okX6_finish (av := [aR (A 99), aI s, aI i]) (by decide +kernel) (Nat.le_of_ble_eq_true rfl) cmX6_finish (fun θ hc => ?_)
  refine ⟨_, _, _, _, (m_noSide hF htr (s := s) (by omega) (by omega)), Nat.le_refl _, Nat.le_refl _, mki_ (r := some (aI (b2 (s < 0 ∨ 1 < s)))) ?_, fun _ _ q => q.elim⟩
  refine ⟨⟨_, hm_oi hx⟩, _, _, _, _, (m_failsV hF htr hx (v := (b2 (s < 0 ∨ 1 < s))) (c := 1) (b2_01 _)), Nat.le_refl _, Nat.le_refl _, mki_ (r := some (aI (b2 (s < 0 ∨ 1 < s)))) ?_, fun _ _ q => q.elim⟩
  have hV1 := hV.u (f := 0) (k := 0) (v := (if (b2 (s < 0 ∨ 1 < s)) = 0 then 0 else 1)) (show 0 ≤ (if (b2 (s < 0 ∨ 1 < s)) = 0 then 0 else 1) ∧ (if (b2 (s < 0 ∨ 1 < s)) = 0 then 0 else 1) ≤ 2 from by split <;> omega)
  refine ⟨by have := b2_r (s < 0 ∨ 1 < s); omega, fun e2 => ?_, fun e2 => ?_⟩
  · have e2 : s < 0 ∨ 1 < s := b2_n0.mp e2
    exact ⟨(Or.inl rfl), mRetIS (by unfold v_finish; rw [if_pos e2]) (by unfold s_finish; rw [if_pos e2]) hV1, Nat.le_refl _, Nat.le_refl _⟩
  · have e2 : ¬ (s < 0 ∨ 1 < s) := b2_e0.mp e2
    refine ⟨⟨_, hm_oi hx⟩, _, _, _, _, (m_hasSending hF htr hx hV1.T (s := s) (i := i) (by omega) (by omega) (by omega) (by omega)), Nat.le_refl _, Nat.le_refl _, mki_ (r := some (aI (b2 ((0 ≤ i ∧ i < 256 ∧ (u2 μ 0 0 (if (b2 (s < 0 ∨ 1 < s)) = 0 then 0 else 1)) 17 (mj s i) = 1) ∧ (i / 2 % 2 = 0 ∨ i % 2 = s))))) ?_, fun _ _ q => q.elim⟩
    refine ⟨by have := b2_r ((0 ≤ i ∧ i < 256 ∧ (u2 μ 0 0 (if (b2 (s < 0 ∨ 1 < s)) = 0 then 0 else 1)) 17 (mj s i) = 1) ∧ (i / 2 % 2 = 0 ∨ i % 2 = s)); omega, fun e3 => ?_, fun e3 => ?_⟩
    · have e3 : ¬ ((0 ≤ i ∧ i < 256 ∧ (u2 μ 0 0 (if (b2 (s < 0 ∨ 1 < s)) = 0 then 0 else 1)) 17 (mj s i) = 1) ∧ (i / 2 % 2 = 0 ∨ i % 2 = s)) := b2_e0.mp e3
      exact ⟨(Or.inl rfl), mRetIS (by unfold v_finish; rw [if_neg e2, if_neg e3]) (by unfold s_finish; rw [if_neg e2, if_neg e3]) hV1, Nat.le_refl _, Nat.le_refl _⟩
    · have e3 : (0 ≤ i ∧ i < 256 ∧ (u2 μ 0 0 (if (b2 (s < 0 ∨ 1 < s)) = 0 then 0 else 1)) 17 (mj s i) = 1) ∧ (i / 2 % 2 = 0 ∨ i % 2 = s) := b2_n0.mp e3
      have ev4 : (mSend (u2 μ 0 0 (if (b2 (s < 0 ∨ 1 < s)) = 0 then 0 else 1)) s i) = (mSend μ s i) := (mSend_cg (by intro f hf k; simp only [List.elem_eq_mem, decide_eq_true_eq, List.mem_cons, List.not_mem_nil, or_false] at hf; rcases hf with rfl | rfl | rfl | rfl | rfl | rfl <;> first | exact (u2_f (by decide))))
      refine ⟨⟨_, hm_oi hx⟩, _, _, _, _, (m_sending hF htr hx hV1.T hV1.N (s := s) (i := i) (by omega) (by omega) (by omega) (by omega)), Nat.le_refl _, Nat.le_refl _, mkiE (r := some (aI (mSend μ s i))) (congrArg (fun q => some (Value.int q)) (congrArg iI ev4)) ?_, fun _ _ q => q.elim⟩
      have t5 := hV1.snd s i
      rw [ev4] at t5
      refine ⟨by omega, fun (e6 : (mSend μ s i) = 0) => ?_, fun (e6 : ¬ ((mSend μ s i) = 0)) => ?_⟩
      · refine ⟨_, hm_oi hx, aR (A 19), rfl, ?_⟩
        refine ⟨_, _, _, _, (m_at hF htr (s := s) (i := i)), Nat.le_refl _, Nat.le_refl _, mki_ (r := some (aI ((256 * s) + i))) ?_, fun _ _ q => q.elim⟩
        refine ⟨512, _, _, hm_a hx 19 rfl, by omega, (show 1 = 0 ∨ 1 = 1 from by omega), hm_pi hx (i := (mj s i)) (v := 1) rfl rfl rfl rfl, ?_⟩
        have hV7 := hV1.u (f := 19) (k := (mj s i)) (v := 1) (show 0 ≤ 1 ∧ 1 ≤ 1 from by omega)
        refine ⟨_, hm_oi hx, aR (A 20), rfl, ?_⟩
        refine ⟨_, _, _, _, (m_at hF htr (s := s) (i := i)), Nat.le_refl _, Nat.le_refl _, mki_ (r := some (aI ((256 * s) + i))) ?_, fun _ _ q => q.elim⟩
        refine ⟨512, _, _, hm_a hx 20 rfl, by omega, trivial, hm_pi hx (i := (mj s i)) (v := 0) rfl rfl rfl rfl, ?_⟩
        have hV8 := hV7.u (f := 20) (k := (mj s i)) (v := 0) (show 0 ≤ 0 ∧ 0 ≤ 3 from by omega)
        exact ⟨(Or.inr rfl), mRetIS (by unfold v_finish; rw [if_neg e2, if_pos e3, if_pos e6]) (by unfold s_finish; rw [if_neg e2, if_pos e3, if_pos e6]) hV8, Nat.le_refl _, Nat.le_refl _⟩
      · exact ⟨(Or.inl rfl), mRetIS (by unfold v_finish; rw [if_neg e2, if_pos e3, if_neg e6]) (by unfold s_finish; rw [if_neg e2, if_pos e3, if_neg e6]) hV1, Nat.le_refl _, Nat.le_refl _⟩
set_option maxRecDepth 100000 in
theorem s_finish_fr {f kk : Nat} {s i : Int} (hf : [0, 19, 20].elem f = false) : s_finish μ s i f kk = μ f kk := by
  have n0 : f ≠ 0 := by rintro rfl; exact absurd hf (by decide)
  have n19 : f ≠ 19 := by rintro rfl; exact absurd hf (by decide)
  have n20 : f ≠ 20 := by rintro rfl; exact absurd hf (by decide)
  have f0 : ∀ (m : Nat → Nat → Int) (a b : Nat) (v : Int), u2 m 0 a v f b = m f b := fun m a b v => u2_f n0
  have f19 : ∀ (m : Nat → Nat → Int) (a b : Nat) (v : Int), u2 m 19 a v f b = m f b := fun m a b v => u2_f n19
  have f20 : ∀ (m : Nat → Nat → Int) (a b : Nat) (v : Int), u2 m 20 a v f b = m f b := fun m a b v => u2_f n20
  unfold s_finish
  repeat' with_reducible apply f_ite
  all_goals first | rfl | simp only [f0, f19, f20]
def s_doReset (μ : Nat → Nat → Int) (s i c : Int) : Nat → Nat → Int := (u2 (u2 (u2 μ 21 (mj s i) 1) 23 (mj s i) c) 22 (mj s i) 1)
set_option maxRecDepth 100000 in
theorem m_doReset (hF : mm_F G) (htr : L.stackTraces = false) (hx : mx A ax) (hV : mV μ) {s i c : Int} (h1 : 0 ≤ s) (h2 : s ≤ 1) (h3 : 0 ≤ i) (h4 : i < 256) (h5 : 0 ≤ c) (h6 : c ≤ 4611686018427387903) :
    mm_Met L G SX6_doReset [.ref (A 99), .int (iI s), .int (iI i), .long (iL c)] (hm G A ax h0 μ) 0 0 (mRetS none (hm G A ax h0 (s_doReset μ s i c)) (mV (s_doReset μ s i c))) mm_no := by
  refine mi_meth MX6_doReset 400 hF htr okX6_doReset (av := [aR (A 99), aI s, aI i, aL c]) (by decide +kernel) (Nat.le_of_ble_eq_true rfl) cmX6_doReset (fun θ hc => ?_)
  refine ⟨_, _, _, _, (m_at hF htr (s := s) (i := i)), Nat.le_refl _, Nat.le_refl _, mki_ (r := some (aI ((256 * s) + i))) ?_, fun _ _ q => q.elim⟩
  refine ⟨_, hm_oi hx, aR (A 21), rfl, ?_⟩
  refine ⟨512, _, _, hm_a hx 21 rfl, by omega, trivial, hm_pi hx (i := (mj s i)) (v := 1) rfl rfl rfl rfl, ?_⟩
  have hV1 := hV.u (f := 21) (k := (mj s i)) (v := 1) (show 0 ≤ 1 ∧ 1 ≤ 2 from by omega)
  refine ⟨_, hm_oi hx, aR (A 23), rfl, ?_⟩
  refine ⟨512, _, _, hm_a hx 23 rfl, by omega, hm_pl hx (i := (mj s i)) (v := c) rfl rfl rfl, ?_⟩
  have hV2 := hV1.u (f := 23) (k := (mj s i)) (v := c) (show 0 ≤ c ∧ c ≤ 4611686018427387903 from by omega)
  refine ⟨_, hm_oi hx, aR (A 22), rfl, ?_⟩
  refine ⟨512, _, _, hm_a hx 22 rfl, by omega, (show 1 = 0 ∨ 1 = 1 from by omega), hm_pi hx (i := (mj s i)) (v := 1) rfl rfl rfl rfl, ?_⟩
  have hV3 := hV2.u (f := 22) (k := (mj s i)) (v := 1) (show 0 ≤ 1 ∧ 1 ≤ 1 from by omega)
  exact ⟨mRetVS rfl hV3, Nat.le_refl _, Nat.le_refl _⟩
set_option maxRecDepth 100000 in
theorem s_doReset_fr {f kk : Nat} {s i c : Int} (hf : [21, 22, 23].elem f = false) : s_doReset μ s i c f kk = μ f kk := by
  have n21 : f ≠ 21 := by rintro rfl; exact absurd hf (by decide)
  have n22 : f ≠ 22 := by rintro rfl; exact absurd hf (by decide)
  have n23 : f ≠ 23 := by rintro rfl; exact absurd hf (by decide)
  have f21 : ∀ (m : Nat → Nat → Int) (a b : Nat) (v : Int), u2 m 21 a v f b = m f b := fun m a b v => u2_f n21
  have f22 : ∀ (m : Nat → Nat → Int) (a b : Nat) (v : Int), u2 m 22 a v f b = m f b := fun m a b v => u2_f n22
  have f23 : ∀ (m : Nat → Nat → Int) (a b : Nat) (v : Int), u2 m 23 a v f b = m f b := fun m a b v => u2_f n23
  unfold s_doReset
  repeat' with_reducible apply f_ite
  all_goals first | rfl | simp only [f21, f22, f23]
def v_reset (μ : Nat → Nat → Int) (s i c : Int) : Int := (if s < 0 ∨ 1 < s then 0 else (if c < 0 then 0 else (if c ≤ 4611686018427387903 then (if ((0 ≤ i ∧ i < 256 ∧ (u2 μ 0 0 0) 17 (mj s i) = 1) ∧ (i / 2 % 2 = 0 ∨ i % 2 = s)) ∧ mSend (u2 μ 0 0 0) s i < 2 then 1 else 0) else 0)))
def s_reset (μ : Nat → Nat → Int) (s i c : Int) : Nat → Nat → Int := (if s < 0 ∨ 1 < s then (u2 μ 0 0 1) else (if c < 0 then (u2 μ 0 0 1) else (if c ≤ 4611686018427387903 then (if ((0 ≤ i ∧ i < 256 ∧ (u2 μ 0 0 0) 17 (mj s i) = 1) ∧ (i / 2 % 2 = 0 ∨ i % 2 = s)) ∧ mSend (u2 μ 0 0 0) s i < 2 then (s_doReset (u2 μ 0 0 0) s i c) else (u2 μ 0 0 0)) else (u2 μ 0 0 1))))
set_option maxRecDepth 100000 in
theorem m_reset (hF : mm_F G) (htr : L.stackTraces = false) (hx : mx A ax) (hV : mV μ) {s i c : Int} (h1 : -2147483648 ≤ s) (h2 : s < 2147483648) (h3 : -2147483648 ≤ i) (h4 : i < 2147483648) (h5 : -9223372036854775808 ≤ c) (h6 : c < 9223372036854775808) :
    mm_Met L G SX6_reset [.ref (A 99), .int (iI s), .int (iI i), .long (iL c)] (hm G A ax h0 μ) 0 0 (mRetS (some (.int (iI (v_reset μ s i c)))) (hm G A ax h0 (s_reset μ s i c)) (mV (s_reset μ s i c))) mm_no := by
  refine mi_meth MX6_reset 400 hF htr okX6_reset (av := [aR (A 99), aI s, aI i, aL c]) (by decide +kernel) (Nat.le_of_ble_eq_true rfl) cmX6_reset (fun θ hc => ?_)
  refine ⟨_, _, _, _, (m_noSide hF htr (s := s) (by omega) (by omega)), Nat.le_refl _, Nat.le_refl _, mki_ (r := some (aI (b2 (s < 0 ∨ 1 < s)))) ?_, fun _ _ q => q.elim⟩
  refine ⟨by have := b2_r (s < 0 ∨ 1 < s); omega, fun e1 => ?_, fun e1 => ?_⟩
  · have e1 : s < 0 ∨ 1 < s := b2_n0.mp e1
    refine ⟨⟨_, hm_oi hx⟩, _, _, _, _, (m_fails1 hF htr hx (c := 1)), Nat.le_refl _, Nat.le_refl _, mki_ (r := some (aI 1)) ?_, fun _ _ q => q.elim⟩
    have hV2 := hV.u (f := 0) (k := 0) (v := 1) (show 0 ≤ 1 ∧ 1 ≤ 2 from by omega)
    refine ⟨by omega, fun _ => ?_, fun (e : (1 : Int) = 0) => absurd e (by decide)⟩
    exact ⟨(Or.inl rfl), mRetIS (by unfold v_reset; rw [if_pos e1]) (by unfold s_reset; rw [if_pos e1]) hV2, Nat.le_refl _, Nat.le_refl _⟩
  · have e1 : ¬ (s < 0 ∨ 1 < s) := b2_e0.mp e1
    refine ⟨0, rfl, ?_⟩
    refine ⟨by omega, fun (e3 : c < 0) => ?_, fun (e3 : ¬ (c < 0)) => ?_⟩
    · refine ⟨⟨_, hm_oi hx⟩, _, _, _, _, (m_fails1 hF htr hx (c := 1)), Nat.le_refl _, Nat.le_refl _, mki_ (r := some (aI 1)) ?_, fun _ _ q => q.elim⟩
      have hV4 := hV.u (f := 0) (k := 0) (v := 1) (show 0 ≤ 1 ∧ 1 ≤ 2 from by omega)
      refine ⟨by omega, fun _ => ?_, fun (e : (1 : Int) = 0) => absurd e (by decide)⟩
      exact ⟨(Or.inl rfl), mRetIS (by unfold v_reset; rw [if_neg e1, if_pos e3]) (by unfold s_reset; rw [if_neg e1, if_pos e3]) hV4, Nat.le_refl _, Nat.le_refl _⟩
    · refine ⟨4611686018427387903, rfl, ?_⟩
      refine ⟨by omega, fun (e5 : c ≤ 4611686018427387903) => ?_, fun (e5 : ¬ (c ≤ 4611686018427387903)) => ?_⟩
      · refine ⟨⟨_, hm_oi hx⟩, _, _, _, _, (m_fails0 hF htr hx (c := 1)), Nat.le_refl _, Nat.le_refl _, mki_ (r := some (aI 0)) ?_, fun _ _ q => q.elim⟩
        have hV6 := hV.u (f := 0) (k := 0) (v := 0) (show 0 ≤ 0 ∧ 0 ≤ 2 from by omega)
        refine ⟨by omega, fun (e : ¬ ((0 : Int) = 0)) => (e (by decide)).elim, fun _ => ?_⟩
        refine ⟨⟨_, hm_oi hx⟩, _, _, _, _, (m_isOpenSending hF htr hx hV6.T hV6.N (s := s) (i := i) (by omega) (by omega) (by omega) (by omega) (hV6.g 21 _).2), Nat.le_refl _, Nat.le_refl _, mki_ (r := some (aI (b2 (((0 ≤ i ∧ i < 256 ∧ (u2 μ 0 0 0) 17 (mj s i) = 1) ∧ (i / 2 % 2 = 0 ∨ i % 2 = s)) ∧ mSend (u2 μ 0 0 0) s i < 2)))) ?_, fun _ _ q => q.elim⟩
        refine ⟨by have := b2_r (((0 ≤ i ∧ i < 256 ∧ (u2 μ 0 0 0) 17 (mj s i) = 1) ∧ (i / 2 % 2 = 0 ∨ i % 2 = s)) ∧ mSend (u2 μ 0 0 0) s i < 2); omega, fun e7 => ?_, fun e7 => ?_⟩
        · have e7 : ((0 ≤ i ∧ i < 256 ∧ (u2 μ 0 0 0) 17 (mj s i) = 1) ∧ (i / 2 % 2 = 0 ∨ i % 2 = s)) ∧ mSend (u2 μ 0 0 0) s i < 2 := b2_n0.mp e7
          refine ⟨⟨_, hm_oi hx⟩, _, _, _, _, (m_doReset hF htr hx hV6 (s := s) (i := i) (c := c) (by omega) (by omega) (by omega) (by omega) (by omega) (by omega)), Nat.le_refl _, Nat.le_refl _, mkis_ (r := none) (fun hV8 => ?_), fun _ _ q => q.elim⟩
          exact ⟨(Or.inr rfl), mRetIS (by unfold v_reset; rw [if_neg e1, if_neg e3, if_pos e5, if_pos e7]) (by unfold s_reset; rw [if_neg e1, if_neg e3, if_pos e5, if_pos e7]) hV8, Nat.le_refl _, Nat.le_refl _⟩
        · have e7 : ¬ (((0 ≤ i ∧ i < 256 ∧ (u2 μ 0 0 0) 17 (mj s i) = 1) ∧ (i / 2 % 2 = 0 ∨ i % 2 = s)) ∧ mSend (u2 μ 0 0 0) s i < 2) := b2_e0.mp e7
          exact ⟨(Or.inl rfl), mRetIS (by unfold v_reset; rw [if_neg e1, if_neg e3, if_pos e5, if_neg e7]) (by unfold s_reset; rw [if_neg e1, if_neg e3, if_pos e5, if_neg e7]) hV6, Nat.le_refl _, Nat.le_refl _⟩
      · refine ⟨⟨_, hm_oi hx⟩, _, _, _, _, (m_fails1 hF htr hx (c := 1)), Nat.le_refl _, Nat.le_refl _, mki_ (r := some (aI 1)) ?_, fun _ _ q => q.elim⟩
        have hV9 := hV.u (f := 0) (k := 0) (v := 1) (show 0 ≤ 1 ∧ 1 ≤ 2 from by omega)
        refine ⟨by omega, fun _ => ?_, fun (e : (1 : Int) = 0) => absurd e (by decide)⟩
        exact ⟨(Or.inl rfl), mRetIS (by unfold v_reset; rw [if_neg e1, if_neg e3, if_neg e5]) (by unfold s_reset; rw [if_neg e1, if_neg e3, if_neg e5]) hV9, Nat.le_refl _, Nat.le_refl _⟩
set_option maxRecDepth 100000 in
theorem s_reset_fr {f kk : Nat} {s i c : Int} (hf : [0, 21, 22, 23].elem f = false) : s_reset μ s i c f kk = μ f kk := by
  have n0 : f ≠ 0 := by rintro rfl; exact absurd hf (by decide)
  have n21 : f ≠ 21 := by rintro rfl; exact absurd hf (by decide)
  have n22 : f ≠ 22 := by rintro rfl; exact absurd hf (by decide)
  have n23 : f ≠ 23 := by rintro rfl; exact absurd hf (by decide)
  have f0 : ∀ (m : Nat → Nat → Int) (a b : Nat) (v : Int), u2 m 0 a v f b = m f b := fun m a b v => u2_f n0
  have f21 : ∀ (m : Nat → Nat → Int) (a b : Nat) (v : Int), u2 m 21 a v f b = m f b := fun m a b v => u2_f n21
  have f22 : ∀ (m : Nat → Nat → Int) (a b : Nat) (v : Int), u2 m 22 a v f b = m f b := fun m a b v => u2_f n22
  have f23 : ∀ (m : Nat → Nat → Int) (a b : Nat) (v : Int), u2 m 23 a v f b = m f b := fun m a b v => u2_f n23
  have c_doReset : ∀ (m : Nat → Nat → Int) (z_s z_i z_c : Int) (k : Nat), s_doReset m z_s z_i z_c f k = m f k := by intros; exact s_doReset_fr (by simp only [List.elem_cons, List.elem_nil, beq_eq_false_iff_ne.mpr n21, beq_eq_false_iff_ne.mpr n22, beq_eq_false_iff_ne.mpr n23]; try rfl)
  unfold s_reset
  repeat' with_reducible apply f_ite
  all_goals first | rfl | simp only [f0, f21, f22, f23, c_doReset]
def v_stop (μ : Nat → Nat → Int) (s i c : Int) : Int := (if s < 0 ∨ 1 < s then 0 else (if c < 0 then 0 else (if c ≤ 4611686018427387903 then (if (0 ≤ i ∧ i < 256 ∧ (u2 μ 0 0 0) 17 (mj s i) = 1) ∧ (i / 2 % 2 = 0 ∨ ¬ i % 2 = s) then (if 1 < (v_receiving μ s i) then 0 else (if (μ 32 (mj s i)) = 0 then 1 else 0)) else 0) else 0)))
def s_stop (μ : Nat → Nat → Int) (s i c : Int) : Nat → Nat → Int := (if s < 0 ∨ 1 < s then (u2 μ 0 0 1) else (if c < 0 then (u2 μ 0 0 1) else (if c ≤ 4611686018427387903 then (if (0 ≤ i ∧ i < 256 ∧ (u2 μ 0 0 0) 17 (mj s i) = 1) ∧ (i / 2 % 2 = 0 ∨ ¬ i % 2 = s) then (if 1 < (v_receiving μ s i) then (u2 μ 0 0 0) else (if (μ 32 (mj s i)) = 0 then (u2 (u2 (u2 (u2 μ 0 0 0) 32 (mj s i) 1) 33 (mj s i) 1) 34 (mj s i) c) else (u2 μ 0 0 0))) else (u2 μ 0 0 0)) else (u2 μ 0 0 1))))
set_option maxRecDepth 100000 in
theorem m_stop (hF : mm_F G) (htr : L.stackTraces = false) (hx : mx A ax) (hV : mV μ) {s i c : Int} (h1 : -2147483648 ≤ s) (h2 : s < 2147483648) (h3 : -2147483648 ≤ i) (h4 : i < 2147483648) (h5 : -9223372036854775808 ≤ c) (h6 : c < 9223372036854775808) :
    mm_Met L G SX6_stop [.ref (A 99), .int (iI s), .int (iI i), .long (iL c)] (hm G A ax h0 μ) 0 0 (mRetS (some (.int (iI (v_stop μ s i c)))) (hm G A ax h0 (s_stop μ s i c)) (mV (s_stop μ s i c))) mm_no := by
  refine mi_meth MX6_stop 400 hF htr okX6_stop (av := [aR (A 99), aI s, aI i, aL c]) (by decide +kernel) (Nat.le_of_ble_eq_true rfl) cmX6_stop (fun θ hc => ?_)
  refine ⟨_, _, _, _, (m_noSide hF htr (s := s) (by omega) (by omega)), Nat.le_refl _, Nat.le_refl _, mki_ (r := some (aI (b2 (s < 0 ∨ 1 < s)))) ?_, fun _ _ q => q.elim⟩
  refine ⟨by have := b2_r (s < 0 ∨ 1 < s); omega, fun e1 => ?_, fun e1 => ?_⟩
  · have e1 : s < 0 ∨ 1 < s := b2_n0.mp e1
    refine ⟨⟨_, hm_oi hx⟩, _, _, _, _, (m_fails1 hF htr hx (c := 1)), Nat.le_refl _, Nat.le_refl _, mki_ (r := some (aI 1)) ?_, fun _ _ q => q.elim⟩
    have hV2 := hV.u (f := 0) (k := 0) (v := 1) (show 0 ≤ 1 ∧ 1 ≤ 2 from by omega)
    refine ⟨by omega, fun _ => ?_, fun (e : (1 : Int) = 0) => absurd e (by decide)⟩
    exact ⟨(Or.inl rfl), mRetIS (by unfold v_stop; rw [if_pos e1]) (by unfold s_stop; rw [if_pos e1]) hV2, Nat.le_refl _, Nat.le_refl _⟩
  · have e1 : ¬ (s < 0 ∨ 1 < s) := b2_e0.mp e1
    refine ⟨0, rfl, ?_⟩
    refine ⟨by omega, fun (e3 : c < 0) => ?_, fun (e3 : ¬ (c < 0)) => ?_⟩
    · refine ⟨⟨_, hm_oi hx⟩, _, _, _, _, (m_fails1 hF htr hx (c := 1)), Nat.le_refl _, Nat.le_refl _, mki_ (r := some (aI 1)) ?_, fun _ _ q => q.elim⟩
      have hV4 := hV.u (f := 0) (k := 0) (v := 1) (show 0 ≤ 1 ∧ 1 ≤ 2 from by omega)
      refine ⟨by omega, fun _ => ?_, fun (e : (1 : Int) = 0) => absurd e (by decide)⟩
      exact ⟨(Or.inl rfl), mRetIS (by unfold v_stop; rw [if_neg e1, if_pos e3]) (by unfold s_stop; rw [if_neg e1, if_pos e3]) hV4, Nat.le_refl _, Nat.le_refl _⟩
    · refine ⟨4611686018427387903, rfl, ?_⟩
      refine ⟨by omega, fun (e5 : c ≤ 4611686018427387903) => ?_, fun (e5 : ¬ (c ≤ 4611686018427387903)) => ?_⟩
      · refine ⟨⟨_, hm_oi hx⟩, _, _, _, _, (m_fails0 hF htr hx (c := 1)), Nat.le_refl _, Nat.le_refl _, mki_ (r := some (aI 0)) ?_, fun _ _ q => q.elim⟩
        have hV6 := hV.u (f := 0) (k := 0) (v := 0) (show 0 ≤ 0 ∧ 0 ≤ 2 from by omega)
        refine ⟨by omega, fun (e : ¬ ((0 : Int) = 0)) => (e (by decide)).elim, fun _ => ?_⟩
        refine ⟨⟨_, hm_oi hx⟩, _, _, _, _, (m_hasReceiving hF htr hx hV6.T (s := s) (i := i) (by omega) (by omega) (by omega) (by omega)), Nat.le_refl _, Nat.le_refl _, mki_ (r := some (aI (b2 ((0 ≤ i ∧ i < 256 ∧ (u2 μ 0 0 0) 17 (mj s i) = 1) ∧ (i / 2 % 2 = 0 ∨ ¬ i % 2 = s))))) ?_, fun _ _ q => q.elim⟩
        refine ⟨by have := b2_r ((0 ≤ i ∧ i < 256 ∧ (u2 μ 0 0 0) 17 (mj s i) = 1) ∧ (i / 2 % 2 = 0 ∨ ¬ i % 2 = s)); omega, fun e7 => ?_, fun e7 => ?_⟩
        · have e7 : ¬ ((0 ≤ i ∧ i < 256 ∧ (u2 μ 0 0 0) 17 (mj s i) = 1) ∧ (i / 2 % 2 = 0 ∨ ¬ i % 2 = s)) := b2_e0.mp e7
          exact ⟨(Or.inl rfl), mRetIS (by unfold v_stop; rw [if_neg e1, if_neg e3, if_pos e5, if_neg e7]) (by unfold s_stop; rw [if_neg e1, if_neg e3, if_pos e5, if_neg e7]) hV6, Nat.le_refl _, Nat.le_refl _⟩
        · have e7 : (0 ≤ i ∧ i < 256 ∧ (u2 μ 0 0 0) 17 (mj s i) = 1) ∧ (i / 2 % 2 = 0 ∨ ¬ i % 2 = s) := b2_n0.mp e7
          have ev8 : (v_receiving (u2 μ 0 0 0) s i) = (v_receiving μ s i) := (v_receiving_cg (by intro f hf k; simp only [List.elem_eq_mem, decide_eq_true_eq, List.mem_cons, List.not_mem_nil, or_false] at hf; rcases hf with rfl | rfl | rfl | rfl | rfl | rfl | rfl <;> first | exact (u2_f (by decide))))
          refine ⟨⟨_, hm_oi hx⟩, _, _, _, _, (m_receiving hF htr hx hV6 (s := s) (i := i) (by omega) (by omega) (by omega) (by omega)), Nat.le_refl _, Nat.le_refl _, mkiE (r := some (aI (v_receiving μ s i))) (congrArg (fun q => some (Value.int q)) (congrArg iI ev8)) ?_, fun _ _ q => q.elim⟩
          have t9 := v_receiving_b (u2 μ 0 0 0) s i
          rw [ev8] at t9
          refine ⟨by omega, fun (e10 : 1 < (v_receiving μ s i)) => ?_, fun (e10 : ¬ (1 < (v_receiving μ s i))) => ?_⟩
          · exact ⟨(Or.inl rfl), mRetIS (by unfold v_stop; rw [if_neg e1, if_neg e3, if_pos e5, if_pos e7, if_pos e10]) (by unfold s_stop; rw [if_neg e1, if_neg e3, if_pos e5, if_pos e7, if_pos e10]) hV6, Nat.le_refl _, Nat.le_refl _⟩
          · refine ⟨_, hm_oi hx, aR (A 32), rfl, ?_⟩
            refine ⟨_, _, _, _, (m_at hF htr (s := s) (i := i)), Nat.le_refl _, Nat.le_refl _, mki_ (r := some (aI ((256 * s) + i))) ?_, fun _ _ q => q.elim⟩
            refine ⟨512, _, (μ 32 (mj s i)), hm_a hx 32 rfl, by omega, (u2_f (by decide)), ?_⟩
            have t11 := (show 0 ≤ μ 32 (mj s i) ∧ μ 32 (mj s i) ≤ 1 from hV.g 32 (mj s i))
            refine ⟨by omega, fun (e12 : (μ 32 (mj s i)) = 0) => ?_, fun (e12 : ¬ ((μ 32 (mj s i)) = 0)) => ?_⟩
            · refine ⟨_, hm_oi hx, aR (A 32), rfl, ?_⟩
              refine ⟨_, _, _, _, (m_at hF htr (s := s) (i := i)), Nat.le_refl _, Nat.le_refl _, mki_ (r := some (aI ((256 * s) + i))) ?_, fun _ _ q => q.elim⟩
              refine ⟨512, _, _, hm_a hx 32 rfl, by omega, (show 1 = 0 ∨ 1 = 1 from by omega), hm_pi hx (i := (mj s i)) (v := 1) rfl rfl rfl rfl, ?_⟩
              have hV13 := hV6.u (f := 32) (k := (mj s i)) (v := 1) (show 0 ≤ 1 ∧ 1 ≤ 1 from by omega)
              refine ⟨_, hm_oi hx, aR (A 33), rfl, ?_⟩
              refine ⟨_, _, _, _, (m_at hF htr (s := s) (i := i)), Nat.le_refl _, Nat.le_refl _, mki_ (r := some (aI ((256 * s) + i))) ?_, fun _ _ q => q.elim⟩
              refine ⟨512, _, _, hm_a hx 33 rfl, by omega, (show 1 = 0 ∨ 1 = 1 from by omega), hm_pi hx (i := (mj s i)) (v := 1) rfl rfl rfl rfl, ?_⟩
              have hV14 := hV13.u (f := 33) (k := (mj s i)) (v := 1) (show 0 ≤ 1 ∧ 1 ≤ 1 from by omega)
              refine ⟨_, hm_oi hx, aR (A 34), rfl, ?_⟩
              refine ⟨_, _, _, _, (m_at hF htr (s := s) (i := i)), Nat.le_refl _, Nat.le_refl _, mki_ (r := some (aI ((256 * s) + i))) ?_, fun _ _ q => q.elim⟩
              refine ⟨512, _, _, hm_a hx 34 rfl, by omega, hm_pl hx (i := (mj s i)) (v := c) rfl rfl rfl, ?_⟩
              have hV15 := hV14.u (f := 34) (k := (mj s i)) (v := c) (show 0 ≤ c ∧ c ≤ 4611686018427387903 from by omega)
              exact ⟨(Or.inr rfl), mRetIS (by unfold v_stop; rw [if_neg e1, if_neg e3, if_pos e5, if_pos e7, if_neg e10, if_pos e12]) (by unfold s_stop; rw [if_neg e1, if_neg e3, if_pos e5, if_pos e7, if_neg e10, if_pos e12]) hV15, Nat.le_refl _, Nat.le_refl _⟩
            · exact ⟨(Or.inl rfl), mRetIS (by unfold v_stop; rw [if_neg e1, if_neg e3, if_pos e5, if_pos e7, if_neg e10, if_neg e12]) (by unfold s_stop; rw [if_neg e1, if_neg e3, if_pos e5, if_pos e7, if_neg e10, if_neg e12]) hV6, Nat.le_refl _, Nat.le_refl _⟩
      · refine ⟨⟨_, hm_oi hx⟩, _, _, _, _, (m_fails1 hF htr hx (c := 1)), Nat.le_refl _, Nat.le_refl _, mki_ (r := some (aI 1)) ?_, fun _ _ q => q.elim⟩
        have hV16 := hV.u (f := 0) (k := 0) (v := 1) (show 0 ≤ 1 ∧ 1 ≤ 2 from by omega)
        refine ⟨by omega, fun _ => ?_, fun (e : (1 : Int) = 0) => absurd e (by decide)⟩
        exact ⟨(Or.inl rfl), mRetIS (by unfold v_stop; rw [if_neg e1, if_neg e3, if_neg e5]) (by unfold s_stop; rw [if_neg e1, if_neg e3, if_neg e5]) hV16, Nat.le_refl _, Nat.le_refl _⟩
set_option maxRecDepth 100000 in
theorem s_stop_fr {f kk : Nat} {s i c : Int} (hf : [0, 32, 33, 34].elem f = false) : s_stop μ s i c f kk = μ f kk := by
  have n0 : f ≠ 0 := by rintro rfl; exact absurd hf (by decide)
  have n32 : f ≠ 32 := by rintro rfl; exact absurd hf (by decide)
  have n33 : f ≠ 33 := by rintro rfl; exact absurd hf (by decide)
  have n34 : f ≠ 34 := by rintro rfl; exact absurd hf (by decide)
  have f0 : ∀ (m : Nat → Nat → Int) (a b : Nat) (v : Int), u2 m 0 a v f b = m f b := fun m a b v => u2_f n0
  have f32 : ∀ (m : Nat → Nat → Int) (a b : Nat) (v : Int), u2 m 32 a v f b = m f b := fun m a b v => u2_f n32
  have f33 : ∀ (m : Nat → Nat → Int) (a b : Nat) (v : Int), u2 m 33 a v f b = m f b := fun m a b v => u2_f n33
  have f34 : ∀ (m : Nat → Nat → Int) (a b : Nat) (v : Int), u2 m 34 a v f b = m f b := fun m a b v => u2_f n34
  unfold s_stop
  repeat' with_reducible apply f_ite
  all_goals first | rfl | simp only [f0, f32, f33, f34]
end MR3
