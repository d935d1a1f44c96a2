section R42
variable {κ μ κ' μ' κ1 μ1 κc μc : Nat → Nat → Int} {O O' : Nat → Nat}
/-- stops -/
theorem stop_l {s p r : Int} (h1 : 0 ≤ s) (h2 : s ≤ 1) (p0 : 0 ≤ p) (p1 : p < 64) : ∀ (m d dc k : Nat) (ν μν : Nat → Nat → Int), k + m = 256 → m < d → (ν 306 s.toNat - k < dc) → fS ν μν O p →
    (v_fillStop_2 κ s p r dc k ν = 1 ∧ v_fillsResets_47 μ s r d k μν = 1 ∧ fR (s_fillStop_2 κ s p r dc k ν) (s_fillsResets_47 μ s r d k μν) O s p) ∨ (v_fillStop_2 κ s p r dc k ν = 0 ∧ ∃ μν', v_fillsResets_47 μ s r d k μν = 0 ∧ s_fillsResets_47 μ s r d k μν = μν' ∧ fS (s_fillStop_2 κ s p r dc k ν) μν' O p) := by
  intro m
  induction m with
  | zero =>
    intro d dc k ν μν e1 e2 e3 h
    obtain ⟨d, rfl⟩ : ∃ d', d = d' + 1 := ⟨d - 1, by omega⟩
    have t306 : ν 306 s.toNat ≤ 256 := (h.2.2.2.2 _).2.2.2.2.1
    have hc : v_fillStop_2 κ s p r dc k ν = 0 ∧ s_fillStop_2 κ s p r dc k ν = ν := by
      cases dc with
      | zero => exact ⟨rfl, rfl⟩
      | succ dc => exact ⟨by rw [v_fillStop_2, if_pos (by omega)], by rw [s_fillStop_2, if_pos (by omega)]⟩
    refine Or.inr ⟨hc.1, μν, ?_, ?_, by rw [hc.2]; exact h⟩
    · rw [v_fillsResets_47, if_pos (by omega)]
    · rw [s_fillsResets_47, if_pos (by omega)]
  | succ m ih =>
    intro d dc k ν μν e1 e2 e3 h
    obtain ⟨d, rfl⟩ : ∃ d', d = d' + 1 := ⟨d - 1, by omega⟩
    obtain ⟨hR, hI, hV, h0, hQ⟩ := h
    have h3 : (0 : Int) ≤ (k : Int) := by omega
    have h4 : (k : Int) < 256 := by omega
    have kc : (k : Int) + 1 = ((k + 1 : Nat) : Int) := by omega
    have n256 : ¬ (256 : Int) ≤ (k : Int) := by omega
    have hB := hR.B h1 h2 h3 h4
    have v33 : 0 ≤ μν 33 (mj s k) ∧ μν 33 (mj s k) ≤ 1 := hV 33 _
    have vr := v_receiving_b μν s k
    have skipR : (¬ (¬ μν 33 (mj s k) = 0 ∧ v_receiving μν s k < 2)) → v_fillsResets_47 μ s r (d + 1) k μν = v_fillsResets_47 μ s r d (k + 1 : Nat) μν ∧ s_fillsResets_47 μ s r (d + 1) k μν = s_fillsResets_47 μ s r d (k + 1 : Nat) μν := fun z => by
      constructor
      · rw [v_fillsResets_47, if_neg n256, kc]
        repeat' split
        all_goals first | rfl | omega
      · rw [s_fillsResets_47, if_neg n256, kc]
        repeat' split
        all_goals first | rfl | omega
    by_cases top : ν 306 s.toNat ≤ (k : Int)
    · have hc : ∀ dc' k' : Nat, ν 306 s.toNat ≤ (k' : Int) → v_fillStop_2 κ s p r dc' k' ν = 0 ∧ s_fillStop_2 κ s p r dc' k' ν = ν := fun dc' k' z => by
        cases dc' with
        | zero => exact ⟨rfl, rfl⟩
        | succ dc' => exact ⟨by rw [v_fillStop_2, if_pos z], by rw [s_fillStop_2, if_pos z]⟩
      have np := (top_17 hV hR h1 h2 h3 h4 top).2
      have z33 := (hB.2.2 np).2.2.2.2.2.2.1
      obtain ⟨r1, r2⟩ := skipR (fun z => by omega)
      have := ih d 0 (k + 1) ν μν (by omega) (by omega) (by omega) ⟨hR, hI, hV, h0, hQ⟩
      rw [(hc 0 (k + 1) (by omega)).1, (hc 0 (k + 1) (by omega)).2] at this
      rw [(hc dc k top).1, (hc dc k top).2, r1, r2]
      exact this
    · obtain ⟨dc, rfl⟩ : ∃ d', dc = d' + 1 := ⟨dc - 1, by omega⟩
      have skipC : (¬ (ν 190 (mj s k) = 1 ∧ ¬ v_rLive ν s k = 0 ∧ ¬ ν 110 (mj s k) = 0)) → v_fillStop_2 κ s p r (dc + 1) k ν = v_fillStop_2 κ s p r dc (k + 1 : Nat) ν ∧ s_fillStop_2 κ s p r (dc + 1) k ν = s_fillStop_2 κ s p r dc (k + 1 : Nat) ν := fun z => by
        constructor
        · rw [v_fillStop_2, if_neg top, kc]
          repeat' split
          all_goals first | rfl | omega
        · rw [s_fillStop_2, if_neg top, kc]
          repeat' split
          all_goals first | rfl | omega
      by_cases np : ν 190 (mj s k) = 1
      · obtain ⟨t1, t2, t3, t4, t5, t6, t7, t8, t9, t10, t11, t12⟩ := (hB.2.1 np).1
        have hrv := rB_recv hV h1 hB np
        have lc := rLive_c ν s k
        by_cases go : ¬ μν 33 (mj s k) = 0 ∧ v_receiving μν s k < 2
        · have c1 : ¬ v_rLive ν s k = 0 := by omega
          have c2 : ¬ ν 110 (mj s k) = 0 := by omega
          have c3 : ¬ 2 ≤ v_receiving μν s k := by omega
          have v34 : 0 ≤ μν 34 (mj s k) ∧ μν 34 (mj s k) ≤ 4611686018427387903 := hV 34 _
          obtain ⟨l1, l2, l3, l4⟩ := lay_s (t := 5) (a := k) (b := μν 34 (mj s k)) (c := 0) (m := r) p0 p1 ⟨hR, hI, hV, h0, hQ⟩ (by decide) (by decide) (by omega) v34 (by omega)
          have lv := fits_v (κ := ν) (μ := μν) (p := p) (t := 5) (a := k) (b := μν 34 (mj s k)) (c := 0) (m := r) (by decide)
          rw [v_fillStop_2, s_fillStop_2, v_fillsResets_47, s_fillsResets_47]
          simp only [if_neg top, if_neg n256, if_pos np, if_neg c1, if_neg c2, if_neg c3, if_neg go.1, t9, lv]
          by_cases ok : v_lays μν 5 k (μν 34 (mj s k)) 0 r = 0
          · simp only [if_pos ok, kc]
            refine ih d dc (k + 1) _ _ (by omega) (by omega) ?_ l1
            rw [(fits_o (κ := ν) (p := p)).1 _ _ (by omega)]
            omega
          · simp only [if_neg ok]
            have fo := fun f (hf : 10 < f) q => (fits_o (κ := ν) (p := p) (t := 5) (a := k) (b := μν 34 (mj s k)) (c := 0) (m := r)).1 f q (by omega)
            have lo := fun f (hf : ¬ (45 ≤ f ∧ f ≤ 49)) q => s_lays_fr (μ := μν) (kk := q) (f := f) (t := 5) (a := k) (b := μν 34 (mj s k)) (c := 0) (r := r) (by
              simp only [List.elem_eq_mem, List.mem_cons, List.not_mem_nil, or_false, decide_eq_false_iff_not]
              omega)
            have np' : s_fits ν p 5 k (μν 34 (mj s k)) 0 r 190 (mj s k) = 1 := by rw [fo _ (by omega)]; exact np
            refine Or.inl ⟨trivial, trivial, fR_fl l1 l2 (fun _ => by rw [l4]; exact ⟨h4, np'⟩) (g_recv l1.2.2.1 l1.1 l1.2.1 h1 h2 h3 h4 np' (fun f k z => u2_n (by omega)) (fun f k z => u2_n (by omega)) ?_ ?_) (fun f k z => u2_n (by omega)) (fun f k x y => u2_n (by omega)) (l1.2.2.1.u (f := 33) (by decide))⟩
            · rw [u2_f (by decide), u2_f (by decide), fo _ (by omega), lo _ (by omega)]; exact t6
            · rw [u2_s, u2_s]
        · obtain ⟨r1, r2⟩ := skipR go
          obtain ⟨s1, s2⟩ := skipC (fun z => go (by omega))
          rw [r1, r2, s1, s2]
          exact ih d dc (k + 1) ν μν (by omega) (by omega) (by omega) ⟨hR, hI, hV, h0, hQ⟩
      · have z33 := (hB.2.2 np).2.2.2.2.2.2.1
        obtain ⟨r1, r2⟩ := skipR (fun z => by omega)
        obtain ⟨s1, s2⟩ := skipC (fun z => np z.1)
        rw [r1, r2, s1, s2]
        exact ih d dc (k + 1) ν μν (by omega) (by omega) (by omega) ⟨hR, hI, hV, h0, hQ⟩
/-- limits of streams -/
theorem grant_l {s p r : Int} (h1 : 0 ≤ s) (h2 : s ≤ 1) (p0 : 0 ≤ p) (p1 : p < 64) : ∀ (m d dc k : Nat) (ν μν : Nat → Nat → Int), k + m = 256 → m < d → (ν 306 s.toNat - k < dc) → fS ν μν O p →
    (v_fillGrant_2 κ s p r dc k ν = 1 ∧ v_fillsGrants_25 μ s r d k μν = 1 ∧ fR (s_fillGrant_2 κ s p r dc k ν) (s_fillsGrants_25 μ s r d k μν) O s p) ∨ (v_fillGrant_2 κ s p r dc k ν = 0 ∧ ∃ μν', v_fillsGrants_25 μ s r d k μν = v_fillsGrants_65 μ s r 3 0 μν' ∧ s_fillsGrants_25 μ s r d k μν = s_fillsGrants_65 μ s r 3 0 μν' ∧ fS (s_fillGrant_2 κ s p r dc k ν) μν' O p) := by
  intro m
  induction m with
  | zero =>
    intro d dc k ν μν e1 e2 e3 h
    obtain ⟨d, rfl⟩ : ∃ d', d = d' + 1 := ⟨d - 1, by omega⟩
    have t306 : ν 306 s.toNat ≤ 256 := (h.2.2.2.2 _).2.2.2.2.1
    have hc : v_fillGrant_2 κ s p r dc k ν = 0 ∧ s_fillGrant_2 κ s p r dc k ν = ν := by
      cases dc with
      | zero => exact ⟨rfl, rfl⟩
      | succ dc => exact ⟨by rw [v_fillGrant_2, if_pos (by omega)], by rw [s_fillGrant_2, if_pos (by omega)]⟩
    refine Or.inr ⟨hc.1, μν, ?_, ?_, by rw [hc.2]; exact h⟩
    · rw [v_fillsGrants_25, if_pos (by omega)]
    · rw [s_fillsGrants_25, if_pos (by omega)]
  | succ m ih =>
    intro d dc k ν μν e1 e2 e3 h
    obtain ⟨d, rfl⟩ : ∃ d', d = d' + 1 := ⟨d - 1, by omega⟩
    obtain ⟨hR, hI, hV, h0, hQ⟩ := h
    have h3 : (0 : Int) ≤ (k : Int) := by omega
    have h4 : (k : Int) < 256 := by omega
    have kc : (k : Int) + 1 = ((k + 1 : Nat) : Int) := by omega
    have n256 : ¬ (256 : Int) ≤ (k : Int) := by omega
    have hB := hR.B h1 h2 h3 h4
    have v31 : 0 ≤ μν 31 (mj s k) ∧ μν 31 (mj s k) ≤ 1 := hV 31 _
    have vr := v_receiving_b μν s k
    have skipR : (¬ (¬ μν 31 (mj s k) = 0 ∧ v_receiving μν s k = 0)) → v_fillsGrants_25 μ s r (d + 1) k μν = v_fillsGrants_25 μ s r d (k + 1 : Nat) μν ∧ s_fillsGrants_25 μ s r (d + 1) k μν = s_fillsGrants_25 μ s r d (k + 1 : Nat) μν := fun z => by
      constructor
      · rw [v_fillsGrants_25, if_neg n256, kc]
        repeat' split
        all_goals first | rfl | omega
      · rw [s_fillsGrants_25, if_neg n256, kc]
        repeat' split
        all_goals first | rfl | omega
    by_cases top : ν 306 s.toNat ≤ (k : Int)
    · have hc : ∀ dc' k' : Nat, ν 306 s.toNat ≤ (k' : Int) → v_fillGrant_2 κ s p r dc' k' ν = 0 ∧ s_fillGrant_2 κ s p r dc' k' ν = ν := fun dc' k' z => by
        cases dc' with
        | zero => exact ⟨rfl, rfl⟩
        | succ dc' => exact ⟨by rw [v_fillGrant_2, if_pos z], by rw [s_fillGrant_2, if_pos z]⟩
      have np := (top_17 hV hR h1 h2 h3 h4 top).2
      have z33 := (hB.2.2 np).2.2.2.2.1
      obtain ⟨r1, r2⟩ := skipR (fun z => by omega)
      have := ih d 0 (k + 1) ν μν (by omega) (by omega) (by omega) ⟨hR, hI, hV, h0, hQ⟩
      rw [(hc 0 (k + 1) (by omega)).1, (hc 0 (k + 1) (by omega)).2] at this
      rw [(hc dc k top).1, (hc dc k top).2, r1, r2]
      exact this
    · obtain ⟨dc, rfl⟩ : ∃ d', dc = d' + 1 := ⟨dc - 1, by omega⟩
      have skipC : (¬ (ν 190 (mj s k) = 1 ∧ ν 100 (mj s k) = 0 ∧ ¬ ν 108 (mj s k) = 0)) → v_fillGrant_2 κ s p r (dc + 1) k ν = v_fillGrant_2 κ s p r dc (k + 1 : Nat) ν ∧ s_fillGrant_2 κ s p r (dc + 1) k ν = s_fillGrant_2 κ s p r dc (k + 1 : Nat) ν := fun z => by
        constructor
        · rw [v_fillGrant_2, if_neg top, kc]
          repeat' split
          all_goals first | rfl | omega
        · rw [s_fillGrant_2, if_neg top, kc]
          repeat' split
          all_goals first | rfl | omega
      by_cases np : ν 190 (mj s k) = 1
      · obtain ⟨t1, t2, t3, t4, t5, t6, t7, t8, t9, t10, t11, t12⟩ := (hB.2.1 np).1
        have hrv := rB_recv hV h1 hB np
        by_cases go : ¬ μν 31 (mj s k) = 0 ∧ v_receiving μν s k = 0
        · have c1 : ν 100 (mj s k) = 0 := by omega
          have c2 : ¬ ν 108 (mj s k) = 0 := by omega
          have v30 : 0 ≤ μν 30 (mj s k) ∧ μν 30 (mj s k) ≤ 4611686018427387903 := by
            have w : 0 ≤ μν 30 (mj s k) ∧ μν 30 (mj s k) ≤ 65536 := hV 30 _
            omega
          obtain ⟨l1, l2, l3, l4⟩ := lay_s (t := 17) (a := k) (b := μν 30 (mj s k)) (c := 0) (m := r) p0 p1 ⟨hR, hI, hV, h0, hQ⟩ (by decide) (by decide) (by omega) v30 (by omega)
          have lv := fits_v (κ := ν) (μ := μν) (p := p) (t := 17) (a := k) (b := μν 30 (mj s k)) (c := 0) (m := r) (by decide)
          rw [v_fillGrant_2, s_fillGrant_2, v_fillsGrants_25, s_fillsGrants_25]
          simp only [if_neg top, if_neg n256, if_pos np, if_pos c1, if_neg c2, if_neg go.1, if_pos go.2, t5, lv]
          by_cases ok : v_lays μν 17 k (μν 30 (mj s k)) 0 r = 0
          · simp only [if_pos ok, kc]
            refine ih d dc (k + 1) _ _ (by omega) (by omega) ?_ l1
            rw [(fits_o (κ := ν) (p := p)).1 _ _ (by omega)]
            omega
          · simp only [if_neg ok]
            have fo := fun f (hf : 10 < f) q => (fits_o (κ := ν) (p := p) (t := 17) (a := k) (b := μν 30 (mj s k)) (c := 0) (m := r)).1 f q (by omega)
            have lo := fun f (hf : ¬ (45 ≤ f ∧ f ≤ 49)) q => s_lays_fr (μ := μν) (kk := q) (f := f) (t := 17) (a := k) (b := μν 30 (mj s k)) (c := 0) (r := r) (by
              simp only [List.elem_eq_mem, List.mem_cons, List.not_mem_nil, or_false, decide_eq_false_iff_not]
              omega)
            have np' : s_fits ν p 17 k (μν 30 (mj s k)) 0 r 190 (mj s k) = 1 := by rw [fo _ (by omega)]; exact np
            refine Or.inl ⟨trivial, trivial, fR_fl l1 l2 (fun _ => by rw [l4]; exact ⟨h4, np'⟩) (g_recv l1.2.2.1 l1.1 l1.2.1 h1 h2 h3 h4 np' (fun f k z => u2_n (by omega)) (fun f k z => u2_n (by omega)) ?_ ?_) (fun f k z => u2_n (by omega)) (fun f k x y => u2_n (by omega)) (l1.2.2.1.u (f := 31) (by decide))⟩
            · rw [u2_s, u2_s]
            · rw [u2_f (by decide), u2_f (by decide), fo _ (by omega), lo _ (by omega)]; exact t8
        · obtain ⟨r1, r2⟩ := skipR go
          obtain ⟨s1, s2⟩ := skipC (fun z => go (by omega))
          rw [r1, r2, s1, s2]
          exact ih d dc (k + 1) ν μν (by omega) (by omega) (by omega) ⟨hR, hI, hV, h0, hQ⟩
      · have z33 := (hB.2.2 np).2.2.2.2.1
        obtain ⟨r1, r2⟩ := skipR (fun z => by omega)
        obtain ⟨s1, s2⟩ := skipC (fun z => np z.1)
        rw [r1, r2, s1, s2]
        exact ih d dc (k + 1) ν μν (by omega) (by omega) (by omega) ⟨hR, hI, hV, h0, hQ⟩
/-- a stream that waits, in both -/
theorem waits_n (hR : kRel κ μ O) {s i : Int} (h1 : 0 ≤ s) (h2 : s ≤ 1) (h3 : 0 ≤ i) (h4 : i < 256) (hp : ¬ κ 290 (mj s i) = 1) : v_waits μ s i = 0 := by
  unfold v_waits
  rw [if_neg]
  intro z
  exact hp ((hR.A h1 h2 h3 h4).1.mpr ⟨z.1.1.2.2, z.1.2⟩)
theorem waits_y (hV : mV μ) (hR : kRel κ μ O) (hQ : kQ κ) {s i : Int} (h1 : 0 ≤ s) (h2 : s ≤ 1) (h3 : 0 ≤ i) (h4 : i < 256) (hp : κ 290 (mj s i) = 1) : v_waits μ s i = v_sHasUnsent κ s i := by
  have hA := hR.A h1 h2 h3 h4
  obtain ⟨_, _, c3, c4⟩ := rA_cnt hV (hQ _).1 h1 hA hp
  have hs := rA_send hV (hQ _).1 h1 hA hp
  have hb := hV.snd s i
  have th := hA.1.mp hp
  unfold v_waits v_sHasUnsent
  rw [c3, c4, hs]
  rw [hs] at hb
  rcases sLive_c κ s i with ⟨el, hl⟩ | ⟨el, hl⟩
  · rw [if_pos ⟨⟨⟨h3, h4, th.1⟩, th.2⟩, by omega⟩, if_neg (show ¬ v_sLive κ s i = 0 by omega)]
  · rw [if_neg (fun z => by omega), if_pos el]
/-- streams that are blocked -/
theorem blocked_l {s p r : Int} (h1 : 0 ≤ s) (h2 : s ≤ 1) (p0 : 0 ≤ p) (p1 : p < 64) : ∀ (m d dc k : Nat) (ν μν : Nat → Nat → Int), k + m = 256 → m < d → (ν 306 s.toNat - k < dc) → fS ν μν O p →
    (v_fillBlocked_2 κ s p r dc k ν = 1 ∧ v_fillsBlocked_73 μ s r d k μν = 1 ∧ fR (s_fillBlocked_2 κ s p r dc k ν) (s_fillsBlocked_73 μ s r d k μν) O s p) ∨ (v_fillBlocked_2 κ s p r dc k ν = 0 ∧ ∃ μν', v_fillsBlocked_73 μ s r d k μν = v_fillsBlocked_132 μ s r 3 0 μν' ∧ s_fillsBlocked_73 μ s r d k μν = s_fillsBlocked_132 μ s r 3 0 μν' ∧ fS (s_fillBlocked_2 κ s p r dc k ν) μν' O p) := by
  intro m
  induction m with
  | zero =>
    intro d dc k ν μν e1 e2 e3 h
    obtain ⟨d, rfl⟩ : ∃ d', d = d' + 1 := ⟨d - 1, by omega⟩
    have t306 : ν 306 s.toNat ≤ 256 := (h.2.2.2.2 _).2.2.2.2.1
    have hc : v_fillBlocked_2 κ s p r dc k ν = 0 ∧ s_fillBlocked_2 κ s p r dc k ν = ν := by
      cases dc with
      | zero => exact ⟨rfl, rfl⟩
      | succ dc => exact ⟨by rw [v_fillBlocked_2, if_pos (by omega)], by rw [s_fillBlocked_2, if_pos (by omega)]⟩
    refine Or.inr ⟨hc.1, μν, ?_, ?_, by rw [hc.2]; exact h⟩
    · rw [v_fillsBlocked_73, if_pos (by omega)]
    · rw [s_fillsBlocked_73, if_pos (by omega)]
  | succ m ih =>
    intro d dc k ν μν e1 e2 e3 h
    obtain ⟨d, rfl⟩ : ∃ d', d = d' + 1 := ⟨d - 1, by omega⟩
    obtain ⟨hR, hI, hV, h0, hQ⟩ := h
    have h3 : (0 : Int) ≤ (k : Int) := by omega
    have h4 : (k : Int) < 256 := by omega
    have kc : (k : Int) + 1 = ((k + 1 : Nat) : Int) := by omega
    have n256 : ¬ (256 : Int) ≤ (k : Int) := by omega
    have hA := hR.A h1 h2 h3 h4
    have vw := v_waits_b μν s k
    have skipR : (¬ (¬ v_waits μν s k = 0 ∧ mCnt μν s k (-2) (mTot μν s) = μν 18 (mj s k) ∧ ¬ μν 24 (mj s k) = μν 18 (mj s k))) → v_fillsBlocked_73 μ s r (d + 1) k μν = v_fillsBlocked_73 μ s r d (k + 1 : Nat) μν ∧ s_fillsBlocked_73 μ s r (d + 1) k μν = s_fillsBlocked_73 μ s r d (k + 1 : Nat) μν := fun z => by
      constructor
      · rw [v_fillsBlocked_73, if_neg n256, kc]
        repeat' split
        all_goals first | rfl | omega
      · rw [s_fillsBlocked_73, if_neg n256, kc]
        repeat' split
        all_goals first | rfl | omega
    by_cases top : ν 306 s.toNat ≤ (k : Int)
    · have hc : ∀ dc' k' : Nat, ν 306 s.toNat ≤ (k' : Int) → v_fillBlocked_2 κ s p r dc' k' ν = 0 ∧ s_fillBlocked_2 κ s p r dc' k' ν = ν := fun dc' k' z => by
        cases dc' with
        | zero => exact ⟨rfl, rfl⟩
        | succ dc' => exact ⟨by rw [v_fillBlocked_2, if_pos z], by rw [s_fillBlocked_2, if_pos z]⟩
      have np := (top_17 hV hR h1 h2 h3 h4 top).1
      have zw := waits_n hR h1 h2 h3 h4 np
      obtain ⟨r1, r2⟩ := skipR (fun z => by omega)
      have := ih d 0 (k + 1) ν μν (by omega) (by omega) (by omega) ⟨hR, hI, hV, h0, hQ⟩
      rw [(hc 0 (k + 1) (by omega)).1, (hc 0 (k + 1) (by omega)).2] at this
      rw [(hc dc k top).1, (hc dc k top).2, r1, r2]
      exact this
    · obtain ⟨dc, rfl⟩ : ∃ d', dc = d' + 1 := ⟨dc - 1, by omega⟩
      have skipC : (¬ (ν 290 (mj s k) = 1 ∧ ¬ v_sHasUnsent ν s k = 0 ∧ ν 204 (mj s k) = ν 208 (mj s k) ∧ ¬ ν 209 (mj s k) = ν 208 (mj s k))) → v_fillBlocked_2 κ s p r (dc + 1) k ν = v_fillBlocked_2 κ s p r dc (k + 1 : Nat) ν ∧ s_fillBlocked_2 κ s p r (dc + 1) k ν = s_fillBlocked_2 κ s p r dc (k + 1 : Nat) ν := fun z => by
        constructor
        · rw [v_fillBlocked_2, if_neg top, kc]
          repeat' split
          all_goals first | rfl | omega
        · rw [s_fillBlocked_2, if_neg top, kc]
          repeat' split
          all_goals first | rfl | omega
      by_cases np : ν 290 (mj s k) = 1
      · obtain ⟨t1, t2, t3, t4, t5, t6, t7⟩ := (hA.2.1 np).1
        have hw := waits_y hV hR hQ h1 h2 h3 h4 np
        obtain ⟨_, _, hc3, _⟩ := rA_cnt hV (hQ _).1 h1 hA np
        by_cases go : ¬ v_waits μν s k = 0 ∧ mCnt μν s k (-2) (mTot μν s) = μν 18 (mj s k) ∧ ¬ μν 24 (mj s k) = μν 18 (mj s k)
        · have c1 : ¬ v_sHasUnsent ν s k = 0 := by omega
          have c2 : ν 204 (mj s k) = ν 208 (mj s k) := by omega
          have c3 : ¬ ν 209 (mj s k) = ν 208 (mj s k) := by omega
          have v18 : 0 ≤ μν 18 (mj s k) ∧ μν 18 (mj s k) ≤ 4611686018427387903 := hV 18 _
          rw [t3] at c2 c3
          rw [t4] at c3
          have c2' : ν 204 (mj s k) = μν 18 (mj s k) := c2
          obtain ⟨l1, l2, l3, l4⟩ := lay_s (t := 21) (a := k) (b := μν 18 (mj s k)) (c := 0) (m := r) p0 p1 ⟨hR, hI, hV, h0, hQ⟩ (by decide) (by decide) (by omega) v18 (by omega)
          have lv := fits_v (κ := ν) (μ := μν) (p := p) (t := 21) (a := k) (b := μν 18 (mj s k)) (c := 0) (m := r) (by decide)
          rw [v_fillBlocked_2, s_fillBlocked_2, v_fillsBlocked_73, s_fillsBlocked_73]
          simp only [if_neg top, if_neg n256, if_pos np, if_neg c1, t3, t4, if_pos c2, if_neg c3, if_neg go.1, if_pos go.2.1, if_neg go.2.2, lv]
          by_cases ok : v_lays μν 21 k (μν 18 (mj s k)) 0 r = 0
          · simp only [if_pos ok, kc]
            refine ih d dc (k + 1) _ _ (by omega) (by omega) ?_ l1
            rw [(fits_o (κ := ν) (p := p)).1 _ _ (by omega)]
            omega
          · simp only [if_neg ok]
            have fo := fun f (hf : 10 < f) q => (fits_o (κ := ν) (p := p) (t := 21) (a := k) (b := μν 18 (mj s k)) (c := 0) (m := r)).1 f q (by omega)
            have lo := fun f (hf : ¬ (45 ≤ f ∧ f ≤ 49)) q => s_lays_fr (μ := μν) (kk := q) (f := f) (t := 21) (a := k) (b := μν 18 (mj s k)) (c := 0) (r := r) (by
              simp only [List.elem_eq_mem, List.mem_cons, List.not_mem_nil, or_false, decide_eq_false_iff_not]
              omega)
            have np' : s_fits ν p 21 k (μν 18 (mj s k)) 0 r 290 (mj s k) = 1 := by rw [fo _ (by omega)]; exact np
            refine Or.inl ⟨trivial, trivial, fR_fl l1 l2 (by rw [l3]; omega) (g_send l1.2.2.1 l1.1 l1.2.1 h1 h2 h3 h4 np' (fun f k z => u2_n z) (fun f k z => u2_n z) ?_) (fun f k z => u2_n (by omega)) (fun f k x y => u2_n (by omega)) (l1.2.2.1.u (f := 24) ⟨show (-1 : Int) ≤ _ by omega, v18.2⟩)⟩
            rw [u2_s, u2_s]
        · obtain ⟨r1, r2⟩ := skipR go
          obtain ⟨s1, s2⟩ := skipC (fun z => go (by omega))
          rw [r1, r2, s1, s2]
          exact ih d dc (k + 1) ν μν (by omega) (by omega) (by omega) ⟨hR, hI, hV, h0, hQ⟩
      · have zw := waits_n hR h1 h2 h3 h4 np
        obtain ⟨r1, r2⟩ := skipR (fun z => by omega)
        obtain ⟨s1, s2⟩ := skipC (fun z => np z.1)
        rw [r1, r2, s1, s2]
        exact ih d dc (k + 1) ν μν (by omega) (by omega) (by omega) ⟨hR, hI, hV, h0, hQ⟩
end R42
