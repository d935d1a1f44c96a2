section R41
variable {κ μ κ' μ' κ1 μ1 κc μc : Nat → Nat → Int} {O O' : Nat → Nat}
theorem width_e (a : Int) : v_width a = mSize a := by
  unfold v_width mSize
  repeat' split
  all_goals omega
/-- while a frame is being filled at the free place p -/
def fS (κ μ : Nat → Nat → Int) (O : Nat → Nat) (p : Int) : Prop := kRel κ μ O ∧ kInv κ ∧ mV μ ∧ κ 0 p.toNat = 0 ∧ kQ κ
/-- a frame without data stands there -/
def fN (κ μ : Nat → Nat → Int) (p : Int) : Prop := κ 3 p.toNat = μ 45 0 ∧ κ 4 p.toNat = μ 46 0 ∧ κ 5 p.toNat = μ 47 0 ∧ κ 6 p.toNat = μ 48 0 ∧ κ 9 p.toNat = 0 ∧ μ 49 0 = 0 ∧ κ 7 p.toNat = -1 ∧ κ 10 p.toNat = v_bytes μ ∧ ¬ μ 45 0 = 8
/-- changes of the free place and of the reference's workplace -/
theorem fS_sc {p : Int} (p0 : 0 ≤ p) (p1 : p < 64) (h : fS κ μ O p) (hk : ∀ f k, ¬ (3 ≤ f ∧ f ≤ 10 ∧ k = p.toNat) → κ' f k = κ f k) (hm : ∀ f k, ¬ (45 ≤ f ∧ f ≤ 50) → μ' f k = μ f k) (hV' : mV μ') : fS κ' μ' O p := by
  obtain ⟨a, b, c, d, e⟩ := h
  refine ⟨?_, Inv_cg b (fun f k z => hk _ _ (by omega)) (fun k z => hk _ _ (by omega)), hV', by rw [hk _ _ (by omega)]; exact d, fun k => ?_⟩
  · refine Rel_F c a (fun q => q = p.toNat) (fun f k z => hk f k (by omega)) (fun f k x y z => hm f k (by omega)) (fun q hq e' => ?_)
    have e'' : q = p.toNat := e'
    subst e''
    have := (a.2.2.1 p.toNat hq).1
    exact ⟨by rw [hk _ _ (by omega), hm _ _ (by omega)]; exact this, fun z => by rw [hk _ _ (by omega)] at z; omega⟩
  · have := e k
    rw [hk _ _ (by omega), hk _ _ (by omega), hk _ _ (by omega), hk _ _ (by omega), hk _ _ (by omega)]
    exact this
theorem fits_o {p t a b c m : Int} : (∀ f k, ¬ (3 ≤ f ∧ f ≤ 10 ∧ k = p.toNat) → s_fits κ p t a b c m f k = κ f k) ∧ s_fits κ p t a b c m 3 p.toNat = t ∧ s_fits κ p t a b c m 4 p.toNat = a ∧ s_fits κ p t a b c m 5 p.toNat = b ∧ s_fits κ p t a b c m 6 p.toNat = c ∧ s_fits κ p t a b c m 7 p.toNat = -1 ∧ s_fits κ p t a b c m 9 p.toNat = 0 ∧ s_fits κ p t a b c m 10 p.toNat = (if t = 4 then 1 + v_width a + v_width b + v_width c else if t = 5 ∨ t = 17 ∨ t = 21 then 1 + v_width a + v_width b else 1 + v_width a) := by
  unfold s_fits
  repeat' split
  all_goals (refine ⟨fun f k z => ?_, ?_, ?_, ?_, ?_, ?_, ?_, ?_⟩)
  all_goals first
    | (simp (disch := omega) only [u2_n, u2_s]; done)
    | (simp (disch := omega) only [u2_n, u2_s]; omega)
    | omega
theorem lays_e {t a b c r : Int} : s_lays μ t a b c r = u2 (u2 (u2 (u2 (u2 μ 45 0 t) 46 0 a) 47 0 b) 48 0 c) 49 0 0 := by
  unfold s_lays
  split <;> rfl
theorem bytes_n {t a b c : Int} (h : ¬ t = 8) : v_bytes (u2 (u2 (u2 (u2 (u2 μ 45 0 t) 46 0 a) 47 0 b) 48 0 c) 49 0 0) = (if t = 4 then 1 + mSize a + mSize b + mSize c else if t = 5 ∨ t = 17 ∨ t = 21 then 1 + mSize a + mSize b else 1 + mSize a) := by
  unfold v_bytes
  simp (disch := omega) only [u2_f, u2_s]
  rw [if_neg h]
  repeat' split
  all_goals first | rfl | omega
theorem fits_v {p t a b c m : Int} (h : ¬ t = 8) : v_fits κ p t a b c m = v_lays μ t a b c m := by
  unfold v_lays
  rw [bytes_n h]
  unfold v_fits
  simp only [width_e]
  repeat' split
  all_goals first | rfl | omega
theorem lay_s {p t a b c m : Int} (p0 : 0 ≤ p) (p1 : p < 64) (h : fS κ μ O p) (ht : ¬ t = 8) (t0 : 0 ≤ t ∧ t ≤ 23) (ha : 0 ≤ a ∧ a ≤ 4611686018427387903) (hb : 0 ≤ b ∧ b ≤ 4611686018427387903) (hc : 0 ≤ c ∧ c ≤ 4611686018427387903) : fS (s_fits κ p t a b c m) (s_lays μ t a b c m) O p ∧ fN (s_fits κ p t a b c m) (s_lays μ t a b c m) p ∧ s_lays μ t a b c m 45 0 = t ∧ s_lays μ t a b c m 46 0 = a := by
  obtain ⟨f1, f2, f3, f4, f5, f6, f7, f8⟩ := fits_o (κ := κ) (p := p) (t := t) (a := a) (b := b) (c := c) (m := m)
  refine ⟨fS_sc p0 p1 h f1 (fun f k z => s_lays_fr (by
    simp only [List.elem_eq_mem, List.mem_cons, List.not_mem_nil, or_false, decide_eq_false_iff_not]
    omega)) ?_, ?_, ?_, ?_⟩
  · rw [lays_e]
    exact ((((h.2.2.1.u (f := 45) t0).u (f := 46) ha).u (f := 47) hb).u (f := 48) hc).u (f := 49) (by decide)
  · unfold fN
    rw [f2, f3, f4, f5, f6, f7, f8, lays_e, bytes_n ht]
    simp only [width_e]
    simp (disch := omega) only [u2_f, u2_s]
    exact ⟨trivial, trivial, trivial, trivial, trivial, trivial, trivial, trivial, ht⟩
  · rw [lays_e]
    simp (disch := omega) only [u2_f, u2_s]
  · rw [lays_e]
    simp (disch := omega) only [u2_f, u2_s]
/-- a frame without data that is to be laid -/
def fR (κ μ : Nat → Nat → Int) (O : Nat → Nat) (s p : Int) : Prop := fS κ μ O p ∧ fN κ μ p ∧ (μ 45 0 = 5 ∨ μ 45 0 = 17 → μ 46 0 < 256 ∧ κ 190 (mj s (μ 46 0)) = 1)
/-- one flag behind it -/
theorem fR_fl {s p : Int} (h : fS κ μ O p) (hN : fN κ μ p) (h5 : μ 45 0 = 5 ∨ μ 45 0 = 17 → μ 46 0 < 256 ∧ κ 190 (mj s (μ 46 0)) = 1) (hR : kRel κ' μ' O ∧ kInv κ') (hk : ∀ f k, f = 190 ∨ f ≤ 10 ∨ f = 204 ∨ f = 113 ∨ f = 360 ∨ f = 306 ∨ f = 307 → κ' f k = κ f k) (hm : ∀ f k, 45 ≤ f → f ≤ 50 → μ' f k = μ f k) (hV' : mV μ') : fR κ' μ' O s p := by
  obtain ⟨a, b, c, d, e⟩ := h
  refine ⟨⟨hR.1, hR.2, hV', by rw [hk _ _ (by omega)]; exact d, fun k => ?_⟩, ?_, ?_⟩
  · have := e k
    rw [hk 204 _ (by omega), hk 113 _ (by omega), hk 360 _ (by omega), hk 306 _ (by omega), hk 307 _ (by omega)]
    exact this
  · unfold fN at hN ⊢
    rw [hk 3 _ (by omega), hk 4 _ (by omega), hk 5 _ (by omega), hk 6 _ (by omega), hk 7 _ (by omega), hk 9 _ (by omega), hk 10 _ (by omega), hm 45 _ (by omega) (by omega), hm 46 _ (by omega) (by omega), hm 47 _ (by omega) (by omega), hm 48 _ (by omega) (by omega), hm 49 _ (by omega) (by omega), v_bytes_cg (μ := μ') (μ' := μ) (fun f hf k => hm f k (by
      simp only [List.elem_eq_mem, decide_eq_true_eq, List.mem_cons, List.not_mem_nil, or_false] at hf
      omega) (by
      simp only [List.elem_eq_mem, decide_eq_true_eq, List.mem_cons, List.not_mem_nil, or_false] at hf
      omega))]
    exact hN
  · rw [hm 45 _ (by omega) (by omega), hm 46 _ (by omega) (by omega), hk 190 _ (by omega)]
    exact h5
theorem g_rst (hV : mV μ) (hR : kRel κ μ O) (hI : kInv κ) {s i : Int} (h1 : 0 ≤ s) (h2 : s ≤ 1) (h3 : 0 ≤ i) (h4 : i < 256) (hp : κ 290 (mj s i) = 1) : kRel (u2 κ 211 (mj s i) 0) (u2 μ 22 (mj s i) 0) O ∧ kInv (u2 κ 211 (mj s i) 0) := by
  have hA := hR.A h1 h2 h3 h4
  obtain ⟨y1, y2, y3, y4, y5, y6, y7⟩ := (hA.2.1 hp).1
  refine ⟨Rel_A hV hR h1 h2 h3 h4 (fun f k z => u2_n (by omega)) (fun f k z y => u2_n (by omega)) (by rw [u2_n (by omega)]; exact Int.le_refl _) (fun z => by rw [u2_n (by omega)]; exact z) ?_, Inv_cg hI (fun f k z => u2_n (by omega)) (fun k z => u2_n (by omega))⟩
  refine rA_f hA hp (fun f a => u2_n (by omega)) (fun f k a => u2_n (by omega)) (u2_n (by omega)) (fun f a b k => u2_n (by omega)) ?_
  have hw : mW (u2 μ 22 (mj s i) 0) s i = mW μ s i := mW_cg (fun f hf k => u2_n (by
    simp only [List.elem_eq_mem, decide_eq_true_eq, List.mem_cons, List.not_mem_nil, or_false] at hf
    omega)) s i
  unfold rA1
  rw [hw]
  simp (disch := omega) only [u2_f, u2_s]
  exact ⟨y1, y2, y3, y4, y5, fun _ => trivial, y7⟩
/-- streams from the top on are not there -/
theorem top_17 (hV : mV μ) (hR : kRel κ μ O) {s k : Int} (h1 : 0 ≤ s) (h2 : s ≤ 1) (h3 : 0 ≤ k) (h4 : k < 256) (ht : κ 306 s.toNat ≤ k) : ¬ κ 290 (mj s k) = 1 ∧ ¬ κ 190 (mj s k) = 1 := by
  have hT := (hR.T h1 h2 h3 h4).2
  exact ⟨fun z => by have := hT ((hR.A h1 h2 h3 h4).1.mp z).1; omega, fun z => by have := hT ((hR.B h1 h2 h3 h4).1.mp z).1; omega⟩
/-- resets -/
theorem reset_l {s p r : Int} (h1 : 0 ≤ s) (h2 : s ≤ 1) (p0 : 0 ≤ p) (p1 : p < 64) : ∀ (m d dc k : Nat) (ν μν : Nat → Nat → Int), k + m = 256 → m < d → (ν 306 s.toNat - k < dc) → fS ν μν O p →
    (v_fillReset_2 κ s p r dc k ν = 1 ∧ v_fillsResets_2 μ s r d k μν = 1 ∧ fR (s_fillReset_2 κ s p r dc k ν) (s_fillsResets_2 μ s r d k μν) O s p) ∨ (v_fillReset_2 κ s p r dc k ν = 0 ∧ ∃ μν', v_fillsResets_2 μ s r d k μν = v_fillsResets_47 μ s r 257 0 μν' ∧ s_fillsResets_2 μ s r d k μν = s_fillsResets_47 μ s r 257 0 μν' ∧ fS (s_fillReset_2 κ s p r dc k ν) μν' O p) := by
  intro m
  induction m with
  | zero =>
    intro d dc k ν μν e1 e2 e3 h
    obtain ⟨d, rfl⟩ : ∃ d', d = d' + 1 := ⟨d - 1, by omega⟩
    have t306 : ν 306 s.toNat ≤ 256 := (h.2.2.2.2 _).2.2.2.2.1
    have hc : v_fillReset_2 κ s p r dc k ν = 0 ∧ s_fillReset_2 κ s p r dc k ν = ν := by
      cases dc with
      | zero => exact ⟨rfl, rfl⟩
      | succ dc => exact ⟨by rw [v_fillReset_2, if_pos (by omega)], by rw [s_fillReset_2, if_pos (by omega)]⟩
    refine Or.inr ⟨hc.1, μν, ?_, ?_, by rw [hc.2]; exact h⟩
    · rw [v_fillsResets_2, if_pos (by omega)]
    · rw [s_fillsResets_2, if_pos (by omega)]
  | succ m ih =>
    intro d dc k ν μν e1 e2 e3 h
    obtain ⟨d, rfl⟩ : ∃ d', d = d' + 1 := ⟨d - 1, by omega⟩
    obtain ⟨hR, hI, hV, h0, hQ⟩ := h
    have h3 : (0 : Int) ≤ (k : Int) := by omega
    have h4 : (k : Int) < 256 := by omega
    have kc : (k : Int) + 1 = ((k + 1 : Nat) : Int) := by omega
    have hA := hR.A h1 h2 h3 h4
    have n256 : ¬ (256 : Int) ≤ (k : Int) := by omega
    have v21 : 0 ≤ μν 21 (mj s k) ∧ μν 21 (mj s k) ≤ 2 := hV 21 _
    have v22 : 0 ≤ μν 22 (mj s k) ∧ μν 22 (mj s k) ≤ 1 := hV 22 _
    -- the reference goes on
    have skipR : (¬ (¬ μν 22 (mj s k) = 0 ∧ μν 21 (mj s k) = 1)) → v_fillsResets_2 μ s r (d + 1) k μν = v_fillsResets_2 μ s r d (k + 1 : Nat) μν ∧ s_fillsResets_2 μ s r (d + 1) k μν = s_fillsResets_2 μ s r d (k + 1 : Nat) μν := fun z => by
      rw [v_fillsResets_2, s_fillsResets_2, if_neg n256, if_neg n256, kc]
      by_cases x : μν 22 (mj s k) = 0
      · rw [if_pos x, if_pos x]; exact ⟨rfl, rfl⟩
      · have y : ¬ μν 21 (mj s k) = 1 := fun y => z ⟨x, y⟩
        rw [if_neg x, if_neg x, if_neg y, if_neg y]; exact ⟨rfl, rfl⟩
    by_cases top : ν 306 s.toNat ≤ (k : Int)
    · have hc : ∀ dc' k' : Nat, ν 306 s.toNat ≤ (k' : Int) → v_fillReset_2 κ s p r dc' k' ν = 0 ∧ s_fillReset_2 κ s p r dc' k' ν = ν := fun dc' k' z => by
        cases dc' with
        | zero => exact ⟨rfl, rfl⟩
        | succ dc' => exact ⟨by rw [v_fillReset_2, if_pos z], by rw [s_fillReset_2, if_pos z]⟩
      have np := (top_17 hV hR h1 h2 h3 h4 top).1
      have z21 := (hA.2.2 np).2.2.2.1
      obtain ⟨r1, r2⟩ := skipR (fun z => by omega)
      have := ih d 0 (k + 1) ν μν (by omega) (by omega) (by omega) ⟨hR, hI, hV, h0, hQ⟩
      rw [(hc 0 (k + 1) (by omega)).1, (hc 0 (k + 1) (by omega)).2] at this
      rw [(hc dc k top).1, (hc dc k top).2, r1, r2]
      exact this
    · obtain ⟨dc, rfl⟩ : ∃ d', dc = d' + 1 := ⟨dc - 1, by omega⟩
      have skipC : (¬ (ν 290 (mj s k) = 1 ∧ ν 200 (mj s k) = 3 ∧ ¬ ν 211 (mj s k) = 0)) → v_fillReset_2 κ s p r (dc + 1) k ν = v_fillReset_2 κ s p r dc (k + 1 : Nat) ν ∧ s_fillReset_2 κ s p r (dc + 1) k ν = s_fillReset_2 κ s p r dc (k + 1 : Nat) ν := fun z => by
        rw [v_fillReset_2, s_fillReset_2, if_neg top, if_neg top, kc]
        by_cases x : ν 290 (mj s k) = 1
        · rw [if_pos x, if_pos x]
          by_cases y : ν 200 (mj s k) = 3
          · have w : ν 211 (mj s k) = 0 := by
              by_cases w : ν 211 (mj s k) = 0
              · exact w
              · exact absurd ⟨x, y, w⟩ z
            rw [if_pos y, if_pos y, if_pos w, if_pos w]; exact ⟨rfl, rfl⟩
          · rw [if_neg y, if_neg y]; exact ⟨rfl, rfl⟩
        · rw [if_neg x, if_neg x]; exact ⟨rfl, rfl⟩
      by_cases hp : ν 290 (mj s k) = 1
      · obtain ⟨y1, y2, y3, y4, y5, y6, y7⟩ := (hA.2.1 hp).1
        have e3' : ν 200 (mj s k) = 3 ↔ μν 21 (mj s k) = 1 := by
          rw [y7]
          constructor
          · intro z
            revert z
            repeat' split
            all_goals omega
          · intro z
            rw [if_pos (by omega), z]; rfl
        by_cases go : ¬ μν 22 (mj s k) = 0 ∧ μν 21 (mj s k) = 1
        · have e211 := y6 go.2
          have c200 : ν 200 (mj s k) = 3 := e3'.mpr go.2
          have c211 : ¬ ν 211 (mj s k) = 0 := by rw [e211]; exact go.1
          have e210 : ν 210 (mj s k) = μν 23 (mj s k) := by rw [y5, if_pos (by omega)]
          obtain ⟨_, _, c3, _⟩ := rA_cnt hV (hQ _).1 h1 hA hp
          have v204 : 0 ≤ ν 204 (mj s k) := (hQ _).1
          have v204' : ν 204 (mj s k) ≤ 65536 := by
            have := (hA.2.1 hp).2.2.1
            have := mW_le hV s k
            have v36 : μν 36 s.toNat ≤ 65536 := (hV 36 _).2
            omega
          have v23 : 0 ≤ μν 23 (mj s k) ∧ μν 23 (mj s k) ≤ 4611686018427387903 := hV 23 _
          obtain ⟨l1, l2, l3, l4⟩ := lay_s (t := 4) (a := k) (b := μν 23 (mj s k)) (c := ν 204 (mj s k)) (m := r) p0 p1 ⟨hR, hI, hV, h0, hQ⟩ (by decide) (by decide) (by omega) v23 (by omega)
          have lv := fits_v (κ := ν) (μ := μν) (p := p) (t := 4) (a := k) (b := μν 23 (mj s k)) (c := ν 204 (mj s k)) (m := r) (by decide)
          have lb := v_lays_b μν 4 k (μν 23 (mj s k)) (ν 204 (mj s k)) r
          rw [v_fillReset_2, s_fillReset_2, v_fillsResets_2, s_fillsResets_2]
          simp only [if_neg top, if_neg n256, if_pos hp, if_pos c200, if_neg c211, if_neg go.1, if_pos go.2, e210, c3, lv]
          by_cases ok : v_lays μν 4 k (μν 23 (mj s k)) (ν 204 (mj s k)) r = 0
          · simp only [if_pos ok, kc]
            refine ih d dc (k + 1) _ _ (by omega) (by omega) ?_ l1
            rw [(fits_o (κ := ν) (p := p)).1 _ _ (by omega)]
            omega
          · simp only [if_neg ok]
            have hp' : s_fits ν p 4 k (μν 23 (mj s k)) (ν 204 (mj s k)) r 290 (mj s k) = 1 := by rw [(fits_o (κ := ν) (p := p)).1 _ _ (by omega)]; exact hp
            refine Or.inl ⟨trivial, trivial, fR_fl l1 l2 (by rw [l3]; omega) (g_rst l1.2.2.1 l1.1 l1.2.1 h1 h2 h3 h4 hp') (fun f k z => u2_n (by omega)) (fun f k x y => u2_n (by omega)) (l1.2.2.1.u (f := 22) (by decide))⟩
        · obtain ⟨r1, r2⟩ := skipR go
          obtain ⟨s1, s2⟩ := skipC (fun z => by
            have w := e3'.mp z.2.1
            have := y6 w
            exact go ⟨by rw [← this]; exact z.2.2, w⟩)
          rw [r1, r2, s1, s2]
          exact ih d dc (k + 1) ν μν (by omega) (by omega) (by omega) ⟨hR, hI, hV, h0, hQ⟩
      · have z21 := (hA.2.2 hp).2.2.2.1
        obtain ⟨r1, r2⟩ := skipR (fun z => by omega)
        obtain ⟨s1, s2⟩ := skipC (fun z => hp z.1)
        rw [r1, r2, s1, s2]
        exact ih d dc (k + 1) ν μν (by omega) (by omega) (by omega) ⟨hR, hI, hV, h0, hQ⟩
end R41
