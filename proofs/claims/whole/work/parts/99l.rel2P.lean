section R43
variable {κ μ κ' μ' κ1 μ1 κc μc : Nat → Nat → Int} {O O' : Nat → Nat}
theorem side_e (hR : kRel κ μ O) {s : Int} (h1 : 0 ≤ s) (h2 : s ≤ 1) : κ 315 s.toNat = μ 12 s.toNat ∧ κ 311 s.toNat = μ 14 (3 * s).toNat ∧ ∀ w : Int, 0 ≤ w → w ≤ 1 → κ 405 (2 * s + w).toNat = μ 13 (2 * s + w).toNat ∧ κ 403 (2 * s + w).toNat = μ 14 (3 * s + 1 + w).toNat := by
  obtain ⟨q1, q2, q3, q4, q5, q6, q7, q8, q9, _⟩ := hR.S h1 h2
  exact ⟨q8, q4, fun w w0 w1 => ⟨(hR.W h1 h2 w0 w1).2.2.2.2.1, (hR.W h1 h2 w0 w1).2.2.1⟩⟩
/-- limits of the numbers of streams -/
theorem sgrant_l {s p r : Int} (h1 : 0 ≤ s) (h2 : s ≤ 1) (p0 : 0 ≤ p) (p1 : p < 64) : ∀ (m d dc k : Nat) (ν μν : Nat → Nat → Int), k + m = 2 → m < d → m < dc → fS ν μν O p →
    (v_fillStreamsGrant_2 κ s p r dc k ν = 1 ∧ v_fillsGrants_65 μ s r d k μν = 1 ∧ fR (s_fillStreamsGrant_2 κ s p r dc k ν) (s_fillsGrants_65 μ s r d k μν) O s p) ∨ (v_fillStreamsGrant_2 κ s p r dc k ν = 0 ∧ v_fillsGrants_65 μ s r d k μν = 0 ∧ fS (s_fillStreamsGrant_2 κ s p r dc k ν) (s_fillsGrants_65 μ s r d k μν) O p) := by
  intro m
  induction m with
  | zero =>
    intro d dc k ν μν e1 e2 e3 h
    obtain ⟨d, rfl⟩ : ∃ d', d = d' + 1 := ⟨d - 1, by omega⟩
    obtain ⟨dc, rfl⟩ : ∃ d', dc = d' + 1 := ⟨dc - 1, by omega⟩
    have n2 : (2 : Int) ≤ (k : Int) := by omega
    rw [v_fillStreamsGrant_2, s_fillStreamsGrant_2, v_fillsGrants_65, s_fillsGrants_65]
    simp only [if_pos n2]
    exact Or.inr ⟨trivial, trivial, h⟩
  | succ m ih =>
    intro d dc k ν μν e1 e2 e3 h
    obtain ⟨d, rfl⟩ : ∃ d', d = d' + 1 := ⟨d - 1, by omega⟩
    obtain ⟨dc, rfl⟩ : ∃ d', dc = d' + 1 := ⟨dc - 1, by omega⟩
    have h' := h
    obtain ⟨hR, hI, hV, h0, hQ⟩ := h
    have n2 : ¬ (2 : Int) ≤ (k : Int) := by omega
    have kc : (k : Int) + 1 = ((k + 1 : Nat) : Int) := by omega
    obtain ⟨w1, w2, w3, w4, w5, w6, w7, _⟩ := hR.W (w := k) h1 h2 (by omega) (by omega)
    rw [v_fillStreamsGrant_2, s_fillStreamsGrant_2, v_fillsGrants_65, s_fillsGrants_65]
    simp only [if_neg n2, w5, w6]
    by_cases go : μν 13 (2 * s + k).toNat = 0
    · simp only [if_pos go, kc]
      exact ih d dc (k + 1) ν μν (by omega) (by omega) (by omega) h'
    · simp only [if_neg go]
      have v10 : 0 ≤ μν 10 (2 * s + k).toNat ∧ μν 10 (2 * s + k).toNat ≤ 4611686018427387903 := by
        have w : 0 ≤ μν 10 (2 * s + k).toNat ∧ μν 10 (2 * s + k).toNat ≤ 64 := hV 10 _
        omega
      obtain ⟨l1, l2, l3, l4⟩ := lay_s (t := 18 + k) (a := μν 10 (2 * s + k).toNat) (b := 0) (c := 0) (m := r) p0 p1 h' (by omega) (by omega) v10 (by omega) (by omega)
      have lv := fits_v (κ := ν) (μ := μν) (p := p) (t := 18 + k) (a := μν 10 (2 * s + k).toNat) (b := 0) (c := 0) (m := r) (by omega)
      simp only [lv]
      by_cases ok : v_lays μν (18 + k) (μν 10 (2 * s + k).toNat) 0 0 r = 0
      · simp only [if_pos ok, kc]
        exact ih d dc (k + 1) _ _ (by omega) (by omega) (by omega) l1
      · simp only [if_neg ok]
        obtain ⟨y1, y2, y3⟩ := side_e l1.1 h1 h2
        refine Or.inl ⟨trivial, trivial, fR_fl l1 l2 (by rw [l3]; omega) (g_side l1.2.2.1 l1.1 l1.2.1 h1 h2 (fun f k x y => u2_n (by omega)) (fun f k x y z => u2_n (by omega)) (by rw [u2_f (by decide), u2_f (by decide)]; exact y1) (by rw [u2_f (by decide), u2_f (by decide)]; exact y2) (fun w a b => ?_)) (fun f k z => u2_n (by omega)) (fun f k x y => u2_n (by omega)) (l1.2.2.1.u (f := 13) (by decide))⟩
        refine ⟨?_, by rw [u2_f (by decide), u2_f (by decide)]; exact (y3 w a b).2⟩
        by_cases z : w = k
        · rw [z, u2_s, u2_s]
        · rw [u2_n (by omega), u2_n (by omega)]; exact (y3 w a b).1
/-- numbers of streams that are blocked -/
theorem sblocked_l {s p r : Int} (h1 : 0 ≤ s) (h2 : s ≤ 1) (p0 : 0 ≤ p) (p1 : p < 64) : ∀ (m d dc k : Nat) (ν μν : Nat → Nat → Int), k + m = 2 → m < d → m < dc → fS ν μν O p →
    (v_fillStreamsBlocked_2 κ s p r dc k ν = 1 ∧ v_fillsBlocked_132 μ s r d k μν = 1 ∧ fR (s_fillStreamsBlocked_2 κ s p r dc k ν) (s_fillsBlocked_132 μ s r d k μν) O s p) ∨ (v_fillStreamsBlocked_2 κ s p r dc k ν = 0 ∧ v_fillsBlocked_132 μ s r d k μν = 0 ∧ fS (s_fillStreamsBlocked_2 κ s p r dc k ν) (s_fillsBlocked_132 μ s r d k μν) O p) := by
  intro m
  induction m with
  | zero =>
    intro d dc k ν μν e1 e2 e3 h
    obtain ⟨d, rfl⟩ : ∃ d', d = d' + 1 := ⟨d - 1, by omega⟩
    obtain ⟨dc, rfl⟩ : ∃ d', dc = d' + 1 := ⟨dc - 1, by omega⟩
    have n2 : (2 : Int) ≤ (k : Int) := by omega
    rw [v_fillStreamsBlocked_2, s_fillStreamsBlocked_2, v_fillsBlocked_132, s_fillsBlocked_132]
    simp only [if_pos n2]
    exact Or.inr ⟨trivial, trivial, h⟩
  | succ m ih =>
    intro d dc k ν μν e1 e2 e3 h
    obtain ⟨d, rfl⟩ : ∃ d', d = d' + 1 := ⟨d - 1, by omega⟩
    obtain ⟨dc, rfl⟩ : ∃ d', dc = d' + 1 := ⟨dc - 1, by omega⟩
    have h' := h
    obtain ⟨hR, hI, hV, h0, hQ⟩ := h
    have n2 : ¬ (2 : Int) ≤ (k : Int) := by omega
    have kc : (k : Int) + 1 = ((k + 1 : Nat) : Int) := by omega
    obtain ⟨w1, w2, w3, w4, w5, w6, w7, w8, w9, w10, w11, _⟩ := hR.W (w := k) h1 h2 (by omega) (by omega)
    have v15 : 0 ≤ μν 15 (2 * s + k).toNat ∧ μν 15 (2 * s + k).toNat ≤ 1 := hV 15 _
    rw [v_fillStreamsBlocked_2, s_fillStreamsBlocked_2, v_fillsBlocked_132, s_fillsBlocked_132]
    rw [w2, w1] at w11
    simp only [if_neg n2, w2, w3]
    by_cases go : ν 402 (2 * s + k).toNat = μν 7 (3 * s + 1 + k).toNat
    · obtain ⟨g1, g2⟩ := w11.mp go
      have c15 : ¬ μν 15 (2 * s + k).toNat = 0 := by omega
      have c8 : ¬ μν 8 (2 * s + k).toNat < μν 7 (3 * s + 1 + k).toNat := by omega
      simp only [if_pos go, if_neg c15, if_neg c8]
      by_cases c14 : μν 14 (3 * s + 1 + k).toNat = μν 7 (3 * s + 1 + k).toNat
      · simp only [if_pos c14, kc]
        exact ih d dc (k + 1) ν μν (by omega) (by omega) (by omega) h'
      · simp only [if_neg c14]
        have v7 : 0 ≤ μν 7 (3 * s + 1 + k).toNat ∧ μν 7 (3 * s + 1 + k).toNat ≤ 4611686018427387903 := hV 7 _
        obtain ⟨l1, l2, l3, l4⟩ := lay_s (t := 22 + k) (a := μν 7 (3 * s + 1 + k).toNat) (b := 0) (c := 0) (m := r) p0 p1 h' (by omega) (by omega) v7 (by omega) (by omega)
        have lv := fits_v (κ := ν) (μ := μν) (p := p) (t := 22 + k) (a := μν 7 (3 * s + 1 + k).toNat) (b := 0) (c := 0) (m := r) (by omega)
        simp only [lv]
        by_cases ok : v_lays μν (22 + k) (μν 7 (3 * s + 1 + k).toNat) 0 0 r = 0
        · simp only [if_pos ok, kc]
          exact ih d dc (k + 1) _ _ (by omega) (by omega) (by omega) l1
        · simp only [if_neg ok]
          obtain ⟨y1, y2, y3⟩ := side_e l1.1 h1 h2
          refine Or.inl ⟨trivial, trivial, fR_fl l1 l2 (by rw [l3]; omega) (g_side l1.2.2.1 l1.1 l1.2.1 h1 h2 (fun f k x y => u2_n (by omega)) (fun f k x y z => u2_n (by omega)) (by rw [u2_f (by decide), u2_f (by decide)]; exact y1) (by rw [u2_f (by decide), u2_n (by omega)]; exact y2) (fun w a b => ?_)) (fun f k z => u2_n (by omega)) (fun f k x y => u2_n (by omega)) (l1.2.2.1.u (f := 14) ⟨show (-1 : Int) ≤ _ by omega, v7.2⟩)⟩
          refine ⟨by rw [u2_f (by decide), u2_f (by decide)]; exact (y3 w a b).1, ?_⟩
          by_cases z : w = k
          · rw [z, u2_s, u2_s]
          · rw [u2_n (by omega), u2_n (by omega)]; exact (y3 w a b).2
    · have hx : v_fillsBlocked_132 μ s r d (k + 1 : Nat) μν = (if μν 15 (2 * s + k).toNat = 0 then v_fillsBlocked_132 μ s r d (k + 1 : Nat) μν else (if μν 8 (2 * s + k).toNat < μν 7 (3 * s + 1 + k).toNat then v_fillsBlocked_132 μ s r d (k + 1 : Nat) μν else (if μν 14 (3 * s + 1 + k).toNat = μν 7 (3 * s + 1 + k).toNat then v_fillsBlocked_132 μ s r d (k + 1 : Nat) μν else (if v_lays μν (22 + k) (μν 7 (3 * s + 1 + k).toNat) 0 0 r = 0 then v_fillsBlocked_132 μ s r d (k + 1 : Nat) (s_lays μν (22 + k) (μν 7 (3 * s + 1 + k).toNat) 0 0 r) else 1)))) := by
        by_cases c15 : μν 15 (2 * s + k).toNat = 0
        · rw [if_pos c15]
        · rw [if_neg c15, if_pos]
          by_cases c8 : μν 8 (2 * s + k).toNat < μν 7 (3 * s + 1 + k).toNat
          · exact c8
          · exact absurd (w11.mpr ⟨by omega, by omega⟩) go
      have hy : s_fillsBlocked_132 μ s r d (k + 1 : Nat) μν = (if μν 15 (2 * s + k).toNat = 0 then s_fillsBlocked_132 μ s r d (k + 1 : Nat) μν else (if μν 8 (2 * s + k).toNat < μν 7 (3 * s + 1 + k).toNat then s_fillsBlocked_132 μ s r d (k + 1 : Nat) μν else (if μν 14 (3 * s + 1 + k).toNat = μν 7 (3 * s + 1 + k).toNat then s_fillsBlocked_132 μ s r d (k + 1 : Nat) μν else (if v_lays μν (22 + k) (μν 7 (3 * s + 1 + k).toNat) 0 0 r = 0 then s_fillsBlocked_132 μ s r d (k + 1 : Nat) (s_lays μν (22 + k) (μν 7 (3 * s + 1 + k).toNat) 0 0 r) else (u2 (s_lays μν (22 + k) (μν 7 (3 * s + 1 + k).toNat) 0 0 r) 14 (3 * s + 1 + k).toNat (μν 7 (3 * s + 1 + k).toNat)))))) := by
        by_cases c15 : μν 15 (2 * s + k).toNat = 0
        · rw [if_pos c15]
        · rw [if_neg c15, if_pos]
          by_cases c8 : μν 8 (2 * s + k).toNat < μν 7 (3 * s + 1 + k).toNat
          · exact c8
          · exact absurd (w11.mpr ⟨by omega, by omega⟩) go
      simp only [if_neg go, kc]
      rw [← hx, ← hy]
      exact ih d dc (k + 1) ν μν (by omega) (by omega) (by omega) h'
/-- limit of all data -/
theorem dgrant_s {s p r : Int} (h1 : 0 ≤ s) (h2 : s ≤ 1) (p0 : 0 ≤ p) (p1 : p < 64) (h : fS κ μ O p) :
    (v_fillDataGrant κ s p r = 1 ∧ v_fillsGrants μ s r = 1 ∧ fR (s_fillDataGrant κ s p r) (s_fillsGrants μ s r) O s p) ∨ (v_fillDataGrant κ s p r = 0 ∧ ∃ μ', v_fillsGrants μ s r = v_fillsGrants_25 μ s r 257 0 μ' ∧ s_fillsGrants μ s r = s_fillsGrants_25 μ s r 257 0 μ' ∧ fS (s_fillDataGrant κ s p r) μ' O p) := by
  have h' := h
  obtain ⟨hR, hI, hV, h0, hQ⟩ := h
  obtain ⟨q1, q2, q3, q4, q5, q6, q7, q8, q9, _⟩ := hR.S h1 h2
  unfold v_fillDataGrant s_fillDataGrant v_fillsGrants s_fillsGrants
  rw [q8, q7]
  by_cases go : μ 12 s.toNat = 0
  · simp only [if_pos go]
    exact Or.inr ⟨trivial, μ, rfl, rfl, h'⟩
  · simp only [if_neg go]
    have v11 : 0 ≤ μ 11 s.toNat ∧ μ 11 s.toNat ≤ 4611686018427387903 := by
      have w : 0 ≤ μ 11 s.toNat ∧ μ 11 s.toNat ≤ 65536 := hV 11 _
      omega
    obtain ⟨l1, l2, l3, l4⟩ := lay_s (t := 16) (a := μ 11 s.toNat) (b := 0) (c := 0) (m := r) p0 p1 h' (by decide) (by decide) v11 (by omega) (by omega)
    have lv := fits_v (κ := κ) (μ := μ) (p := p) (t := 16) (a := μ 11 s.toNat) (b := 0) (c := 0) (m := r) (by decide)
    simp only [lv]
    by_cases ok : v_lays μ 16 (μ 11 s.toNat) 0 0 r = 0
    · simp only [if_pos ok]
      exact Or.inr ⟨trivial, _, rfl, rfl, l1⟩
    · simp only [if_neg ok]
      obtain ⟨y1, y2, y3⟩ := side_e l1.1 h1 h2
      refine Or.inl ⟨trivial, trivial, fR_fl l1 l2 (by rw [l3]; omega) (g_side l1.2.2.1 l1.1 l1.2.1 h1 h2 (fun f k x y => u2_n (by omega)) (fun f k x y z => u2_n (by omega)) (by rw [u2_s, u2_s]) (by rw [u2_f (by decide), u2_f (by decide)]; exact y2) (fun w a b => ?_)) (fun f k z => u2_n (by omega)) (fun f k x y => u2_n (by omega)) (l1.2.2.1.u (f := 12) (by decide))⟩
      rw [u2_f (by decide), u2_f (f := 12) (f' := 13) (by decide), u2_f (f := 315) (f' := 403) (by decide), u2_f (f := 12) (f' := 14) (by decide)]
      exact y3 w a b
/-- some stream waits -/
def eBv (μ : Nat → Nat → Int) (s r b : Int) : Int := (if b = 0 then (v_fillsBlocked_73 μ s r 257 0 μ) else (if (mAll μ s (mTot μ s)) = (μ 7 (3 * s).toNat) then (if (μ 14 (3 * s).toNat) = (μ 7 (3 * s).toNat) then (v_fillsBlocked_73 μ s r 257 0 μ) else (if (v_lays μ 20 (μ 7 (3 * s).toNat) 0 0 r) = 0 then (v_fillsBlocked_73 μ s r 257 0 (s_lays μ 20 (μ 7 (3 * s).toNat) 0 0 r)) else 1)) else (v_fillsBlocked_73 μ s r 257 0 μ)))
def eBs (μ : Nat → Nat → Int) (s r b : Int) : Nat → Nat → Int := (if b = 0 then (s_fillsBlocked_73 μ s r 257 0 μ) else (if (mAll μ s (mTot μ s)) = (μ 7 (3 * s).toNat) then (if (μ 14 (3 * s).toNat) = (μ 7 (3 * s).toNat) then (s_fillsBlocked_73 μ s r 257 0 μ) else (if (v_lays μ 20 (μ 7 (3 * s).toNat) 0 0 r) = 0 then (s_fillsBlocked_73 μ s r 257 0 (s_lays μ 20 (μ 7 (3 * s).toNat) 0 0 r)) else (u2 (s_lays μ 20 (μ 7 (3 * s).toNat) 0 0 r) 14 (3 * s).toNat (μ 7 (3 * s).toNat)))) else (s_fillsBlocked_73 μ s r 257 0 μ)))
theorem some_l {s p r : Int} (h1 : 0 ≤ s) (h2 : s ≤ 1) (h : fS κ μ O p) : ∀ (m d dc k : Nat), k + m = 256 → m < d → (κ 306 s.toNat - k < dc) → ∃ b : Int, v_fillsBlocked_4 μ s r d k 0 = eBv μ s r b ∧ s_fillsBlocked_4 μ s r d k 0 = eBs μ s r b ∧ (b = 0 ↔ v_kHasUnsent_2 κ s dc k = 0) := by
  obtain ⟨hR, hI, hV, h0, hQ⟩ := h
  intro m
  induction m with
  | zero =>
    intro d dc k e1 e2 e3
    obtain ⟨d, rfl⟩ : ∃ d', d = d' + 1 := ⟨d - 1, by omega⟩
    have t306 : κ 306 s.toNat ≤ 256 := (hQ _).2.2.2.2.1
    refine ⟨0, ?_, ?_, fun _ => ?_, fun _ => rfl⟩
    · rw [v_fillsBlocked_4, if_pos (by omega)]; rfl
    · rw [s_fillsBlocked_4, if_pos (by omega)]; rfl
    · cases dc with
      | zero => rfl
      | succ dc => rw [v_kHasUnsent_2, if_pos (by omega)]
  | succ m ih =>
    intro d dc k e1 e2 e3
    obtain ⟨d, rfl⟩ : ∃ d', d = d' + 1 := ⟨d - 1, by omega⟩
    have n256 : ¬ (256 : Int) ≤ (k : Int) := by omega
    have kc : (k : Int) + 1 = ((k + 1 : Nat) : Int) := by omega
    have h3 : (0 : Int) ≤ (k : Int) := by omega
    have h4 : (k : Int) < 256 := by omega
    have ev : v_fillsBlocked_4 μ s r (d + 1) k 0 = v_fillsBlocked_4 μ s r d (k + 1 : Nat) (v_waits μ s k) := by
      rw [v_fillsBlocked_4, if_neg n256, if_pos rfl, kc]
    have es : s_fillsBlocked_4 μ s r (d + 1) k 0 = s_fillsBlocked_4 μ s r d (k + 1 : Nat) (v_waits μ s k) := by
      rw [s_fillsBlocked_4, if_neg n256, if_pos rfl, kc]
    rw [ev, es]
    have found : ∀ b : Int, ¬ b = 0 → v_fillsBlocked_4 μ s r d (k + 1 : Nat) b = eBv μ s r b ∧ s_fillsBlocked_4 μ s r d (k + 1 : Nat) b = eBs μ s r b := fun b hb => by
      obtain ⟨d, rfl⟩ : ∃ d', d = d' + 1 := ⟨d - 1, by omega⟩
      rw [v_fillsBlocked_4, s_fillsBlocked_4]
      unfold eBv eBs
      by_cases z : (256 : Int) ≤ ((k + 1 : Nat) : Int)
      · simp only [if_pos z]; exact ⟨trivial, trivial⟩
      · simp only [if_neg z, if_neg hb]; exact ⟨trivial, trivial⟩
    by_cases top : κ 306 s.toNat ≤ (k : Int)
    · have np := (top_17 hV hR h1 h2 h3 h4 top).1
      rw [waits_n hR h1 h2 h3 h4 np]
      obtain ⟨b, b1, b2', b3⟩ := ih d 0 (k + 1) (by omega) (by omega) (by omega)
      refine ⟨b, b1, b2', ?_⟩
      rw [b3]
      have hc : ∀ dc' k' : Nat, κ 306 s.toNat ≤ (k' : Int) → v_kHasUnsent_2 κ s dc' k' = 0 := fun dc' k' z => by
        cases dc' with
        | zero => rfl
        | succ dc' => rw [v_kHasUnsent_2, if_pos z]
      rw [hc 0 (k + 1) (by omega), hc dc k top]
    · obtain ⟨dc, rfl⟩ : ∃ d', dc = d' + 1 := ⟨dc - 1, by omega⟩
      have eu : v_kHasUnsent_2 κ s (dc + 1) k = (if κ 290 (mj s k) = 1 then (if v_sHasUnsent κ s k = 0 then v_kHasUnsent_2 κ s dc (k + 1 : Nat) else 1) else v_kHasUnsent_2 κ s dc (k + 1 : Nat)) := by
        rw [v_kHasUnsent_2, if_neg top, kc]
      rw [eu]
      by_cases np : κ 290 (mj s k) = 1
      · rw [if_pos np, waits_y hV hR hQ h1 h2 h3 h4 np]
        by_cases z : v_sHasUnsent κ s k = 0
        · rw [if_pos z, z]
          exact ih d dc (k + 1) (by omega) (by omega) (by omega)
        · rw [if_neg z]
          obtain ⟨f1, f2⟩ := found _ z
          exact ⟨_, f1, f2, fun y => absurd y z, fun y => absurd y (by decide)⟩
      · rw [if_neg np, waits_n hR h1 h2 h3 h4 np]
        exact ih d dc (k + 1) (by omega) (by omega) (by omega)
theorem dblocked_s {s p r : Int} (h1 : 0 ≤ s) (h2 : s ≤ 1) (p0 : 0 ≤ p) (p1 : p < 64) (h : fS κ μ O p) :
    (v_fillDataBlocked κ s p r = 1 ∧ v_fillsBlocked μ s r = 1 ∧ fR (s_fillDataBlocked κ s p r) (s_fillsBlocked μ s r) O s p) ∨ (v_fillDataBlocked κ s p r = 0 ∧ ∃ μ', v_fillsBlocked μ s r = v_fillsBlocked_73 μ s r 257 0 μ' ∧ s_fillsBlocked μ s r = s_fillsBlocked_73 μ s r 257 0 μ' ∧ fS (s_fillDataBlocked κ s p r) μ' O p) := by
  have h' := h
  obtain ⟨hR, hI, hV, h0, hQ⟩ := h
  obtain ⟨q1, q2, q3, q4, q5, q6, q7, q8, q9, q10, q11, q12, _⟩ := hR.S h1 h2
  have t306 : κ 306 s.toNat ≤ 256 := (hQ _).2.2.2.2.1
  obtain ⟨b, b1, b2', b3⟩ := some_l (r := r) h1 h2 h' 256 257 257 0 (by omega) (by omega) (by omega)
  have eV : v_fillsBlocked μ s r = eBv μ s r b := b1
  have eS : s_fillsBlocked μ s r = eBs μ s r b := b2'
  have b3' : b = 0 ↔ v_kHasUnsent κ s = 0 := b3
  rw [eV, eS]
  unfold v_fillDataBlocked s_fillDataBlocked eBv eBs
  rw [q2, q3, q4]
  by_cases c1 : mAll μ s (mTot μ s) = μ 7 (3 * s).toNat
  · have n1 : ¬ mAll μ s (mTot μ s) < μ 7 (3 * s).toNat := by omega
    simp only [if_neg n1, if_pos c1]
    by_cases c2 : μ 14 (3 * s).toNat = μ 7 (3 * s).toNat
    · simp only [if_pos c2, ite_self]
      exact Or.inr ⟨trivial, μ, rfl, rfl, h'⟩
    · simp only [if_neg c2]
      by_cases c3 : b = 0
      · simp only [if_pos c3, if_pos (b3'.mp c3)]
        exact Or.inr ⟨trivial, μ, rfl, rfl, h'⟩
      · simp only [if_neg c3, if_neg (fun z => c3 (b3'.mpr z))]
        have v7 : 0 ≤ μ 7 (3 * s).toNat ∧ μ 7 (3 * s).toNat ≤ 4611686018427387903 := hV 7 _
        obtain ⟨l1, l2, l3, l4⟩ := lay_s (t := 20) (a := μ 7 (3 * s).toNat) (b := 0) (c := 0) (m := r) p0 p1 h' (by decide) (by decide) v7 (by omega) (by omega)
        have lv := fits_v (κ := κ) (μ := μ) (p := p) (t := 20) (a := μ 7 (3 * s).toNat) (b := 0) (c := 0) (m := r) (by decide)
        simp only [lv]
        by_cases ok : v_lays μ 20 (μ 7 (3 * s).toNat) 0 0 r = 0
        · simp only [if_pos ok]
          exact Or.inr ⟨trivial, _, rfl, rfl, l1⟩
        · simp only [if_neg ok]
          obtain ⟨y1, y2, y3⟩ := side_e l1.1 h1 h2
          refine Or.inl ⟨trivial, trivial, fR_fl l1 l2 (by rw [l3]; omega) (g_side l1.2.2.1 l1.1 l1.2.1 h1 h2 (fun f k x y => u2_n (by omega)) (fun f k x y z => u2_n (by omega)) (by rw [u2_f (by decide), u2_f (by decide)]; exact y1) (by rw [u2_s, u2_s]) (fun w a b => ?_)) (fun f k z => u2_n (by omega)) (fun f k x y => u2_n (by omega)) (l1.2.2.1.u (f := 14) ⟨show (-1 : Int) ≤ _ by omega, v7.2⟩)⟩
          rw [u2_f (f := 311) (f' := 405) (by decide), u2_f (f := 14) (f' := 13) (by decide), u2_f (f := 311) (f' := 403) (by decide), u2_n (f := 14) (f' := 14) (by omega)]
          exact y3 w a b
  · have n1 : mAll μ s (mTot μ s) < μ 7 (3 * s).toNat := by omega
    simp only [if_pos n1, if_neg c1, ite_self]
    exact Or.inr ⟨trivial, μ, rfl, rfl, h'⟩
end R43
