section R51
variable {κ μ κ' μ' κ1 μ1 κc μc μb : Nat → Nat → Int} {O O' : Nat → Nat}
theorem free_l (he : ∀ q : Nat, q < 64 → κ 0 q = μ 58 q) : ∀ (m d k : Nat), k + m = 64 → m < d → (v_freePlace_2 μ d k = -1 ∧ v_leastFreePlace_2 κ d k = 64) ∨ (∃ p : Nat, v_freePlace_2 μ d k = p ∧ v_leastFreePlace_2 κ d k = p ∧ p < 64 ∧ κ 0 p = 0) := by
  intro m
  induction m with
  | zero =>
    intro d k e1 e2
    obtain ⟨d, rfl⟩ : ∃ d', d = d' + 1 := ⟨d - 1, by omega⟩
    rw [v_freePlace_2, v_leastFreePlace_2, if_pos (show (64 : Int) ≤ (k : Int) by omega), if_pos (show (64 : Int) ≤ (k : Int) by omega)]
    exact Or.inl ⟨rfl, by omega⟩
  | succ m ih =>
    intro d k e1 e2
    obtain ⟨d, rfl⟩ : ∃ d', d = d' + 1 := ⟨d - 1, by omega⟩
    rw [v_freePlace_2, v_leastFreePlace_2, if_neg (show ¬ (64 : Int) ≤ (k : Int) by omega), if_neg (show ¬ (64 : Int) ≤ (k : Int) by omega), show ((k : Int)).toNat = k by omega, ← he k (by omega)]
    by_cases c : κ 0 k = 0
    · rw [if_pos c, if_pos c]
      exact Or.inr ⟨k, rfl, rfl, by omega, c⟩
    · rw [if_neg c, if_neg c, show (k : Int) + 1 = ((k + 1 : Nat) : Int) by omega]
      exact ih d (k + 1) (by omega) (by omega)
/-- the data are laid -/
theorem lay94_l {s r : Int} {p : Nat} : ∀ (m d k : Nat) (ν : Nat → Nat → Int), ν 49 0 = k + m → m < d → ∃ ν', s_fill_94 μ s r d k p ν = ν' ∧ v_fill_94 μ s r d k p ν = p ∧ (∀ f q, ¬ (f = 60 ∧ 1200 * p + k ≤ q ∧ q < 1200 * p + k + m) → ν' f q = ν f q) ∧ (∀ j : Nat, k ≤ j → j < k + m → ν' 60 (1200 * p + j) = ν 50 j) := by
  intro m
  induction m with
  | zero =>
    intro d k ν e1 e2
    obtain ⟨d, rfl⟩ : ∃ d', d = d' + 1 := ⟨d - 1, by omega⟩
    rw [s_fill_94, v_fill_94, if_pos (by omega), if_pos (by omega)]
    exact ⟨ν, rfl, rfl, fun _ _ _ => rfl, fun j x y => by omega⟩
  | succ m ih =>
    intro d k ν e1 e2
    obtain ⟨d, rfl⟩ : ∃ d', d = d' + 1 := ⟨d - 1, by omega⟩
    rw [s_fill_94, v_fill_94, if_neg (show ¬ ν 49 0 ≤ (k : Int) by omega), if_neg (show ¬ ν 49 0 ≤ (k : Int) by omega), show (1200 * (p : Int) + (k : Int)).toNat = 1200 * p + k by omega, show ((k : Int)).toNat = k by omega, show (k : Int) + 1 = ((k + 1 : Nat) : Int) by omega]
    obtain ⟨ν', i1, i2, i3, i4⟩ := ih d (k + 1) (u2 ν 60 (1200 * p + k) (ν 50 k)) (by rw [u2_f (by decide)]; omega) (by omega)
    refine ⟨ν', i1, i2, fun f q z => ?_, fun j x y => ?_⟩
    · rw [i3 f q (by omega), u2_n (by omega)]
    · by_cases z : j = k
      · rw [z, i3 60 _ (by omega), u2_s]
      · rw [i4 j (by omega) (by omega), u2_f (by decide)]
set_option maxHeartbeats 2000000 in
theorem lay_R {s : Int} {p : Nat} {M : Nat → Nat → Int} (h1 : 0 ≤ s) (h2 : s ≤ 1) (p1 : p < 64) (h : fS κ μ O p) (hD : fR κ μ O s p ∨ fD κ μ O s p) (hM : M = u2 (u2 (u2 (u2 (u2 (u2 (u2 (u2 (u2 μ 58 p 1) 51 p s) 52 p (μ 45 0)) 53 p (μ 46 0)) 54 p (μ 47 0)) 55 p (μ 48 0)) 56 p (μ 49 0)) 57 p (v_bytes μ)) 59 p 0) {r : Int} :
    v_fill_94 μc s r 1201 0 p M = p ∧ kRel (u2 (u2 (u2 κ 0 p 1) 1 p 0) 2 p s) (s_fill_94 μc s r 1201 0 p M) O ∧ kInv (u2 (u2 (u2 κ 0 p 1) 1 p 0) 2 p s) ∧ s_fill_94 μc s r 1201 0 p M 0 0 = μ 0 0 := by
  obtain ⟨hR, hI, hV, h0, hQ⟩ := h
  have pn : ((p : Int)).toNat = p := by omega
  have hn : 0 ≤ μ 49 0 ∧ μ 49 0 ≤ 1200 := by
    have v49 : 0 ≤ μ 49 0 := (hV 49 _).1
    rcases hD with x | x
    · have := x.2.1.2.2.2.2.2.1
      omega
    · have z1 := x.1.2.2.2.2.2.1
      have z2 := x.2.1
      omega
  have hMo : ∀ f k, ¬ (51 ≤ f ∧ f ≤ 59 ∧ k = p) → M f k = μ f k := fun f k z => by
    rw [hM, u2_n (by omega), u2_n (by omega), u2_n (by omega), u2_n (by omega), u2_n (by omega), u2_n (by omega), u2_n (by omega), u2_n (by omega), u2_n (by omega)]
  have hMs : M 58 p = 1 ∧ M 51 p = s ∧ M 52 p = μ 45 0 ∧ M 53 p = μ 46 0 ∧ M 54 p = μ 47 0 ∧ M 55 p = μ 48 0 ∧ M 56 p = μ 49 0 ∧ M 57 p = v_bytes μ ∧ M 59 p = 0 := by
    rw [hM]
    refine ⟨?_, ?_, ?_, ?_, ?_, ?_, ?_, ?_, ?_⟩
    all_goals simp (disch := decide) only [u2_f, u2_s]
  obtain ⟨g1, g2, g3, g4, g5, g6, g7, g8, g9⟩ := hMs
  obtain ⟨ν, i1, i2, i3, i4⟩ := lay94_l (μ := μc) (s := s) (r := r) (p := p) (μ 49 0).toNat 1201 0 M (by rw [hMo 49 0 (by omega)]; omega) (by omega)
  have i1' : s_fill_94 μc s r 1201 0 p M = ν := i1
  have i2' : v_fill_94 μc s r 1201 0 p M = p := i2
  rw [i1', i2']
  have ko : ∀ f k, ¬ (f ≤ 2 ∧ k = p) → u2 (u2 (u2 κ 0 p 1) 1 p 0) 2 p s f k = κ f k := fun f k z => by
    rw [u2_n (by omega), u2_n (by omega), u2_n (by omega)]
  have n0 : ∀ f k, ¬ (51 ≤ f ∧ f ≤ 59 ∧ k = p) → ¬ (f = 60 ∧ k / 1200 = p) → ν f k = μ f k := fun f k x y => by
    rw [i3 f k (by omega), hMo f k x]
  refine ⟨rfl, ?_, Inv_cg hI (fun f k z => ko f k (by omega)) (fun k z => ko _ _ (by omega)), n0 0 0 (by omega) (by omega)⟩
  refine Rel_F hV hR (fun q => q = p) (fun f k z => ko f k (by omega)) (fun f k x y z => n0 f k (by omega) z) (fun q hq e => ?_)
  have e' : q = p := e
  subst e'
  have k0 : u2 (u2 (u2 κ 0 q 1) 1 q 0) 2 q s 0 q = 1 ∧ u2 (u2 (u2 κ 0 q 1) 1 q 0) 2 q s 1 q = 0 ∧ u2 (u2 (u2 κ 0 q 1) 1 q 0) 2 q s 2 q = s := by
    refine ⟨?_, ?_, ?_⟩
    all_goals simp (disch := decide) only [u2_f, u2_s]
  generalize u2 (u2 (u2 κ 0 q 1) 1 q 0) 2 q s = K at *
  obtain ⟨k0, k1, k2⟩ := k0
  have nq : ∀ f, f ≠ 60 → ν f q = M f q := fun f z => i3 f q (by omega)
  unfold rF rF1 rF2
  rw [k0, k1, k2, nq 51 (by omega), nq 52 (by omega), nq 53 (by omega), nq 54 (by omega), nq 55 (by omega), nq 56 (by omega), nq 57 (by omega), nq 58 (by omega), nq 59 (by omega), g1, g2, g3, g4, g5, g6, g7, g8, g9, ko 3 _ (by omega), ko 4 _ (by omega), ko 5 _ (by omega), ko 6 _ (by omega), ko 7 _ (by omega), ko 8 _ (by omega), ko 9 _ (by omega), ko 10 _ (by omega), ko 602 _ (by omega), ko 600 _ (by omega), ko 601 _ (by omega), ko 204 _ (by omega), ko 290 _ (by omega), ko 190 _ (by omega), n0 19 _ (by omega) (by omega)]
  refine ⟨rfl, fun _ => ?_⟩
  rcases hD with ⟨_, ⟨y1, y2, y3, y4, y5, y6, y7, y8, y9⟩, y10⟩ | ⟨⟨y1, y2, y3, y4, y5, y6, y7⟩, z0, z1, z2, z3, z4, z5, z6, z7, z8, z9, z10, z11, z12⟩
  · rw [pn] at *
    refine ⟨⟨rfl, rfl, y1, y2, y3, y4, by omega, y8⟩, fun _ => ⟨y5, y7⟩, fun z => ?_, fun z => by omega⟩
    rw [y1] at z
    rw [y2]
    exact y10 z
  · rw [pn] at *
    refine ⟨⟨rfl, rfl, by omega, y3, y4, y5, y6, y7⟩, fun z => absurd y1 z, fun z => by omega, fun _ => ⟨z1, z3, z4, z5, z6, z7, z8, z9, z10, z11, fun j hj => ?_⟩⟩
    rw [i4 j (by omega) (by omega), hMo 50 _ (by omega), ko _ _ (by omega)]
    exact z12 j hj
set_option maxHeartbeats 2000000 in
theorem R_fill (hV : mV μ) (hK : kV κ) (hR : kRel κ μ O) (hI : kInv κ) (s r : Int) : s_fill μ s r 0 0 = kR 2 (e_kFill κ s r) ∧ (e_kFill κ s r = 0 → v_fill μ s r = v_kFill κ s r ∧ kRel (s_kFill κ s r) (s_fill μ s r) O ∧ kInv (s_kFill κ s r)) ∧ (¬ e_kFill κ s r = 0 → kRel κ (s_fill μ s r) O) := by
  unfold s_fill v_fill e_kFill v_kFill s_kFill
  rcases sideAt_c (κ := κ) s with ⟨e, h1, h2⟩ | ⟨e, h⟩
  · rw [e]
    simp only [if_neg (show ¬ (s < 0 ∨ 1 < s) by omega), if_true]
    by_cases c1 : r < 1
    · simp only [if_pos c1]
      exact ⟨by rw [u2_s]; rfl, fun z => absurd z (by decide), fun _ => Rel_u0 hV hR⟩
    simp only [if_neg c1]
    by_cases c2' : ¬ r ≤ 1200
    · simp only [if_neg c2']
      exact ⟨by rw [u2_s]; rfl, fun z => absurd z (by decide), fun _ => Rel_u0 hV hR⟩
    have c2 : r ≤ 1200 := by omega
    simp only [if_pos c2]
    have hj := hR.1.2.2.1
    have two : kRel κ (u2 (u2 μ 0 0 0) 0 0 2) O := Rel_0 hV hR (fun f k z => by rw [u2_f (by omega), u2_f (by omega)])
    have v1 : 0 ≤ μ 1 0 ∧ μ 1 0 ≤ 1 := hV 1 _
    unfold e_needJoined
    rw [hj]
    have hfp : (v_freePlace μ = -1 ∧ v_leastFreePlace κ = 64) ∨ (∃ p : Nat, v_freePlace μ = p ∧ v_leastFreePlace κ = p ∧ p < 64 ∧ κ 0 p = 0) := free_l (fun q hq => (hR.2.2.1 q hq).1) 64 65 0 (by omega) (by omega)
    by_cases c3 : μ 1 0 = 0
    · simp only [if_pos c3, ite_self, if_neg (show ¬ (2 : Int) = 0 by decide)]
      exact ⟨by rw [u2_s]; rfl, fun z => absurd z (by decide), fun _ => two⟩
    simp only [if_neg c3, if_true]
    rcases hfp with ⟨f1, f2⟩ | ⟨p, f1, f2, f3, f4⟩
    · rw [f1, f2]
      simp only [if_pos (show (-1 : Int) < 0 by decide), if_true]
      exact ⟨by rw [u2_s]; rfl, fun z => absurd z (by decide), fun _ => two⟩
    · rw [f1, f2]
      simp only [if_neg (show ¬ (p : Int) < 0 by omega), if_neg (show ¬ (p : Int) = 64 by omega), ite_self, if_true]
      have hS : fS κ (u2 (u2 μ 0 0 0) 0 0 0) O p := by
        refine ⟨Rel_0 hV hR (fun f k z => by rw [u2_f (by omega), u2_f (by omega)]), hI, (hV.u (f := 0) (by decide)).u (f := 0) (by decide), ?_, hK.q⟩
        rw [show ((p : Int)).toNat = p by omega]
        exact f4
      have e00 : s_fills (u2 (u2 μ 0 0 0) 0 0 0) s r 0 0 = 0 := by
        rw [s_fills_fr (by decide), u2_s]
      rcases R_fills (r := r) h1 h2 (by omega) (by omega) (by omega) c2 hS with ⟨x1, x2, x3, x4⟩ | ⟨x1, x2, x3⟩
      · simp only [x1, x2, if_neg (show ¬ (1 : Int) = 0 by decide)]
        rw [show ((p : Int)).toNat = p by omega]
        obtain ⟨l1, l2, l3, l4⟩ := lay_R (μc := μ) (r := r) h1 h2 f3 x3 x4 rfl
        refine ⟨?_, fun _ => ⟨l1, l2, l3⟩, fun z => absurd trivial z⟩
        rw [l4, e00]; rfl
      · simp only [x1, x2, if_true]
        exact ⟨by rw [e00]; rfl, fun _ => ⟨trivial, x3.1, x3.2.1⟩, fun z => absurd trivial z⟩
  · rw [e]
    simp only [if_pos h, if_neg (show ¬ (1 : Int) = 0 by decide)]
    exact ⟨by rw [u2_s]; rfl, fun z => absurd z (by decide), fun _ => Rel_u0 hV hR⟩
end R51
