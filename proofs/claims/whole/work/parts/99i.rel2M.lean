section R40
variable {κ μ κ' μ' κ1 μ1 κc μc : Nat → Nat → Int} {O O' : Nat → Nat}
/-- what take may be called with -/
def tkN (u a b c : Int) : Prop := 0 ≤ a ∧ a ≤ 4611686018427387903 ∧ 0 ≤ b ∧ b ≤ 4611686018427387903 ∧ 0 ≤ c ∧ c ≤ 4611686018427387903 ∧ (u = 8 → b ≤ 4611686018427380000 ∧ c ≤ 1)
def tkK (u : Int) : Prop := u = 4 ∨ u = 5 ∨ u = 8 ∨ (16 ≤ u ∧ u ≤ 23)
theorem take19_y {s u a b c y : Int} (h : tkN u a b c) : s_take_19 μ s u a b c 1 y = s_take_57 μ s u a b c 1 1 y ∧ v_take_19 μ s u a b c 1 y = v_take_57 μ s u a b c 1 1 y := by
  obtain ⟨h1, h2, h3, h4, h5, h6, h7⟩ := h
  rw [s_take_19, v_take_19]
  by_cases e : u = 8
  · obtain ⟨h8, h9⟩ := h7 e
    simp only [if_neg (show ¬ a < 0 by omega), if_neg (show ¬ 4611686018427387903 < a by omega), if_neg (show ¬ b < 0 by omega), if_pos e, if_neg (show ¬ 4611686018427380000 < b by omega), if_neg (show ¬ c < 0 by omega), if_neg (show ¬ 1 < c by omega)]
    exact ⟨trivial, trivial⟩
  · simp only [if_neg (show ¬ a < 0 by omega), if_neg (show ¬ 4611686018427387903 < a by omega), if_neg (show ¬ b < 0 by omega), if_neg e, if_neg (show ¬ 4611686018427387903 < b by omega), if_neg (show ¬ c < 0 by omega), if_neg (show ¬ 4611686018427387903 < c by omega)]
    exact ⟨trivial, trivial⟩
theorem take19_n {s u a b c y : Int} (h : ¬ tkN u a b c) : s_take_19 μ s u a b c 1 y = s_take_57 μ s u a b c 1 0 y := by
  rw [s_take_19]
  by_cases x1 : a < 0
  · rw [if_pos x1]
  rw [if_neg x1]
  by_cases x2 : 4611686018427387903 < a
  · rw [if_pos x2]
  rw [if_neg x2]
  by_cases x3 : b < 0
  · rw [if_pos x3]
  rw [if_neg x3]
  by_cases e : u = 8
  · rw [if_pos e]
    by_cases x4 : 4611686018427380000 < b
    · rw [if_pos x4]
    rw [if_neg x4]
    by_cases x5 : c < 0
    · rw [if_pos x5]
    rw [if_neg x5]
    by_cases x6 : 1 < c
    · rw [if_pos x6]
    exact absurd ⟨by omega, by omega, by omega, by omega, by omega, by omega, fun _ => ⟨by omega, by omega⟩⟩ h
  · rw [if_neg e]
    by_cases x4 : 4611686018427387903 < b
    · rw [if_pos x4]
    rw [if_neg x4]
    by_cases x5 : c < 0
    · rw [if_pos x5]
    rw [if_neg x5]
    by_cases x6 : 4611686018427387903 < c
    · rw [if_pos x6]
    exact absurd ⟨by omega, by omega, by omega, by omega, by omega, by omega, fun z => absurd z e⟩ h
theorem take_y {s u a b c : Int} (h : tkK u) : s_take μ s u a b c = s_take_19 μ s u a b c 1 1 ∧ v_take μ s u a b c = v_take_19 μ s u a b c 1 1 := by
  unfold s_take v_take
  rcases h with h | h | h | h
  · simp only [if_pos h]; exact ⟨trivial, trivial⟩
  · simp only [if_neg (show ¬ u = 4 by omega), if_pos h]; exact ⟨trivial, trivial⟩
  · simp only [if_neg (show ¬ u = 4 by omega), if_neg (show ¬ u = 5 by omega), if_pos h]; exact ⟨trivial, trivial⟩
  · simp only [if_neg (show ¬ u = 4 by omega), if_neg (show ¬ u = 5 by omega), if_neg (show ¬ u = 8 by omega), if_neg (show ¬ u < 16 by omega), if_neg (show ¬ 23 < u by omega)]; exact ⟨trivial, trivial⟩
theorem take_n {s u a b c : Int} (h : ¬ tkK u) : s_take μ s u a b c = s_take_19 μ s u a b c 1 0 := by
  unfold tkK at h
  unfold s_take
  rw [if_neg (by omega), if_neg (by omega), if_neg (by omega)]
  by_cases x : u < 16
  · rw [if_pos x]
  · rw [if_neg x, if_pos (by omega)]
theorem s57_bad {s u a b c z y : Int} (h : (s < 0 ∨ 1 < s) ∨ y = 0 ∨ z = 0) : s_take_57 μ s u a b c 1 z y = u2 μ 0 0 1 := by
  rw [s_take_57]
  by_cases x : s < 0 ∨ 1 < s
  · rw [if_pos x]
  · rw [if_neg x]
    by_cases w : y = 0
    · rw [if_pos w]
    · rw [if_neg w, if_pos (by omega)]
theorem take_bad {s u a b c : Int} (h : (s < 0 ∨ 1 < s) ∨ ¬ tkK u ∨ ¬ tkN u a b c) : s_take μ s u a b c = u2 μ 0 0 1 := by
  have key : ∀ y : Int, ((s < 0 ∨ 1 < s) ∨ y = 0 ∨ ¬ tkN u a b c) → s_take_19 μ s u a b c 1 y = u2 μ 0 0 1 := by
    intro y hy
    by_cases n : tkN u a b c
    · rw [(take19_y n).1]
      exact s57_bad (by rcases hy with q | q | q; exact Or.inl q; exact Or.inr (Or.inl q); exact absurd n q)
    · rw [take19_n n]
      exact s57_bad (Or.inr (Or.inr rfl))
  by_cases k : tkK u
  · rw [(take_y k).1]
    exact key 1 (by rcases h with q | q | q; exact Or.inl q; exact absurd k q; exact Or.inr (Or.inr q))
  · rw [take_n k]
    exact key 0 (Or.inr (Or.inl rfl))
theorem isKind_c (u : Int) : (v_isKind u = 1 ∧ tkK u) ∨ (v_isKind u = 0 ∧ ¬ tkK u) := by
  unfold v_isKind tkK
  repeat' split
  all_goals omega
theorem isNumber_c (v : Int) : (v_isNumber v = 1 ∧ 0 ≤ v ∧ v ≤ 4611686018427387903) ∨ (v_isNumber v = 0 ∧ ¬ (0 ≤ v ∧ v ≤ 4611686018427387903)) := by
  unfold v_isNumber
  repeat' split
  all_goals omega
theorem take101_l {s u a b c : Int} : ∀ (d m k : Nat) (ν : Nat → Nat → Int), m < d → mV ν → ν 3 0 = k + m → (∀ j : Nat, j < k → ν 50 j = wB (ν 2 j)) → ∃ ν', s_take_101 μ s u a b c d k ν = s_takes (u2 ν' 3 0 0) s ∧ v_take_101 μ s u a b c d k ν = v_takes (u2 ν' 3 0 0) s ∧ mV ν' ∧ (∀ f q, f ≠ 50 → ν' f q = ν f q) ∧ ∀ j : Nat, (j : Int) < ν 3 0 → ν' 50 j = wB (ν 2 j) := by
  intro d
  induction d with
  | zero => intro m k ν g1; omega
  | succ d ih =>
    intro m
    cases m with
    | zero =>
      intro k ν g1 g2 g3 g4
      refine ⟨ν, ?_, ?_, g2, fun _ _ _ => rfl, fun j hj => g4 j (by omega)⟩
      · rw [s_take_101, if_pos (by omega)]
      · rw [v_take_101, if_pos (by omega)]
    | succ m =>
      intro k ν g1 g2 g3 g4
      have e1 : s_take_101 μ s u a b c (d + 1) k ν = s_take_101 μ s u a b c d (k + 1 : Nat) (u2 ν 50 k (wB (ν 2 k))) := by
        rw [s_take_101, if_neg (by omega), show ((k : Int)).toNat = k by omega, show (k : Int) + 1 = ((k + 1 : Nat) : Int) by omega]
      have e2 : v_take_101 μ s u a b c (d + 1) k ν = v_take_101 μ s u a b c d (k + 1 : Nat) (u2 ν 50 k (wB (ν 2 k))) := by
        rw [v_take_101, if_neg (by omega), show ((k : Int)).toNat = k by omega, show (k : Int) + 1 = ((k + 1 : Nat) : Int) by omega]
      rw [e1, e2]
      have hw : -128 ≤ wB (ν 2 k) ∧ wB (ν 2 k) ≤ 127 := by unfold wB; omega
      obtain ⟨ν', i1, i2, i3, i4, i5⟩ := ih m (k + 1) (u2 ν 50 k (wB (ν 2 k))) (by omega) (g2.u (f := 50) hw) (by rw [u2_f (by decide)]; omega) (fun j hj => by
        rw [u2_f (f := 50) (f' := 2) (by decide)]
        by_cases z : j = k
        · rw [z, u2_s]
        · rw [u2_n (by omega)]; exact g4 j (by omega))
      rw [u2_f (f := 50) (f' := 3) (by decide)] at i5
      exact ⟨ν', i1, i2, i3, fun f q x => by rw [i4 f q x, u2_f x], fun j hj => by
        have := i5 j hj
        rw [u2_f (f := 50) (f' := 2) (by decide)] at this
        exact this⟩
theorem R_take (hV : mV μ) (hK : kV κ) (hR : kRel κ μ O) (hI : kInv κ) (hP : mP2 μ) (s u a b c : Int) : s_take μ s u a b c 0 0 = kR 2 (e_kTakeM κ s u a b c) ∧ (e_kTakeM κ s u a b c = 0 → v_take μ s u a b c = v_kTakeM κ s u a b c ∧ ∃ O', kRel (s_kTakeM κ s u a b c) (s_take μ s u a b c) O' ∧ kInv (s_kTakeM κ s u a b c)) ∧ (¬ e_kTakeM κ s u a b c = 0 → kRel κ (s_take μ s u a b c) O) := by
  have bad : ((s < 0 ∨ 1 < s) ∨ ¬ tkK u ∨ ¬ tkN u a b c) → e_kTakeM κ s u a b c = 1 → s_take μ s u a b c 0 0 = kR 2 (e_kTakeM κ s u a b c) ∧ (e_kTakeM κ s u a b c = 0 → v_take μ s u a b c = v_kTakeM κ s u a b c ∧ ∃ O', kRel (s_kTakeM κ s u a b c) (s_take μ s u a b c) O' ∧ kInv (s_kTakeM κ s u a b c)) ∧ (¬ e_kTakeM κ s u a b c = 0 → kRel κ (s_take μ s u a b c) O) := fun x y => by
    rw [take_bad x, y]
    exact ⟨by rw [u2_s]; rfl, fun z => absurd z (by decide), fun _ => Rel_u0 hV hR⟩
  rcases sideAt_c (κ := κ) s with ⟨e, h1, h2⟩ | ⟨e, h⟩
  · rcases isKind_c u with ⟨ek, hk⟩ | ⟨ek, hk⟩
    · have nk : ¬ v_isKind u = 0 := by omega
      rcases isNumber_c a with ⟨ea, ha⟩ | ⟨ea, ha⟩
      · have na : ¬ v_isNumber a = 0 := by omega
        rcases isNumber_c b with ⟨eb, hb⟩ | ⟨eb, hb⟩
        · have nb : ¬ v_isNumber b = 0 := by omega
          rcases isNumber_c c with ⟨ec, hc⟩ | ⟨ec, hc⟩
          · have nc : ¬ v_isNumber c = 0 := by omega
            by_cases good : u = 8 → b ≤ 4611686018427380000 ∧ c ≤ 1
            · have hN : tkN u a b c := ⟨ha.1, ha.2, hb.1, hb.2, hc.1, hc.2, good⟩
              have eS0 : s_take μ s u a b c = s_take_57 μ s u a b c 1 1 1 := by rw [(take_y hk).1, (take19_y hN).1]
              have eV0 : v_take μ s u a b c = v_take_57 μ s u a b c 1 1 1 := by rw [(take_y hk).2, (take19_y hN).2]
              have hns : ¬ (s < 0 ∨ 1 < s) := by omega
              have eE0 : e_kTakeM κ s u a b c = if e_needJoined κ = 0 then 0 else e_needJoined κ := by
                unfold e_kTakeM
                by_cases e8 : u = 8
                · obtain ⟨g1, g2⟩ := good e8
                  simp only [if_pos e, if_neg nk, if_neg na, if_neg nb, if_neg nc, if_pos e8, if_neg (show ¬ 4611686018427380000 < b by omega), if_pos g2]
                · simp only [if_pos e, if_neg nk, if_neg na, if_neg nb, if_neg nc, if_neg e8]
              rcases needJoined_c hV hR with ⟨ej, hj⟩ | ⟨ej, hj⟩
              · have hj0 : ¬ μ 1 0 = 0 := by omega
                obtain ⟨κ0, hκ0⟩ : ∃ κ0, κ0 = (u2 (u2 (u2 (u2 (u2 (u2 (u2 (u2 κ 3 64 u) 4 64 a) 5 64 b) 6 64 c) 7 64 0) 8 64 0) 9 64 (κ 505 0)) 505 0 0) := ⟨_, rfl⟩
                have eK : s_kTakeM κ s u a b c = s_takeIn κ0 s 64 := by
                  unfold s_kTakeM
                  by_cases e8 : u = 8
                  · obtain ⟨g1, g2⟩ := good e8
                    simp only [if_pos e, if_neg nk, if_neg na, if_neg nb, if_neg nc, if_pos e8, if_neg (show ¬ 4611686018427380000 < b by omega), if_pos g2, if_pos ej, hκ0]
                  · simp only [if_pos e, if_neg nk, if_neg na, if_neg nb, if_neg nc, if_neg e8, if_pos ej, hκ0]
                have eW : v_kTakeM κ s u a b c = v_takeIn κ0 s 64 := by
                  unfold v_kTakeM
                  by_cases e8 : u = 8
                  · obtain ⟨g1, g2⟩ := good e8
                    simp only [if_pos e, if_neg nk, if_neg na, if_neg nb, if_neg nc, if_pos e8, if_neg (show ¬ 4611686018427380000 < b by omega), if_pos g2, if_pos ej, hκ0]
                  · simp only [if_pos e, if_neg nk, if_neg na, if_neg nb, if_neg nc, if_neg e8, if_pos ej, hκ0]
                obtain ⟨M0, hM0⟩ : ∃ M0, M0 = (u2 (u2 (u2 (u2 (u2 (u2 (u2 μ 0 0 0) 0 0 0) 45 0 u) 46 0 a) 47 0 b) 48 0 c) 49 0 (μ 3 0)) := ⟨_, rfl⟩
                have eS : s_take μ s u a b c = s_take_101 μ s u a b c 2049 0 M0 := by
                  rw [eS0, s_take_57, if_neg hns, if_neg (by decide), if_neg (by decide), if_neg hj0, hM0]
                have eV : v_take μ s u a b c = v_take_101 μ s u a b c 2049 0 M0 := by
                  rw [eV0, v_take_57, if_neg hns, if_neg (by decide), if_neg (by decide), if_neg hj0, hM0]
                have v3 : 0 ≤ μ 3 0 ∧ μ 3 0 ≤ 2048 := hV 3 0
                have hu : 0 ≤ u ∧ u ≤ 23 := by unfold tkK at hk; omega
                have hV0 : mV M0 := by
                  rw [hM0]
                  exact ((((((hV.u (f := 0) (by decide)).u (f := 0) (by decide)).u (f := 45) hu).u (f := 46) ha).u (f := 47) hb).u (f := 48) hc).u (f := 49) v3
                have m0 : ∀ f k, ¬ (f = 0 ∨ (45 ≤ f ∧ f ≤ 49)) → M0 f k = μ f k := fun f k z => by
                  rw [hM0, u2_f (by omega), u2_f (by omega), u2_f (by omega), u2_f (by omega), u2_f (by omega), u2_f (by omega), u2_f (by omega)]
                obtain ⟨ν, n1, n2, n3, n4, n5⟩ := take101_l (μ := μ) (s := s) (u := u) (a := a) (b := b) (c := c) 2049 (μ 3 0).toNat 0 M0 (by omega) hV0 (by rw [m0 _ _ (by omega)]; omega) (fun j hj => by omega)
                have n1' : s_take_101 μ s u a b c 2049 0 M0 = _ := n1
                have n2' : v_take_101 μ s u a b c 2049 0 M0 = _ := n2
                have nm : ∀ f k, ¬ (f = 0 ∨ (45 ≤ f ∧ f ≤ 50)) → ν f k = μ f k := fun f k z => by rw [n4 f k (by omega), m0 f k (by omega)]
                have nv : ∀ f k, f ≠ 3 → (u2 ν 3 0 0) f k = ν f k := fun f k z => u2_f z
                have hVν : mV (u2 ν 3 0 0) := n3.u (f := 3) (by decide)
                -- the tape is empty now in both
                have hk0 : ∀ f k, ¬ (f ≤ 10 ∧ k = 64) → ¬ (f = 505 ∧ k = 0) → κ0 f k = κ f k := fun f k x y => by
                  rw [hκ0, u2_n y, u2_n (by omega), u2_n (by omega), u2_n (by omega), u2_n (by omega), u2_n (by omega), u2_n (by omega), u2_n (by omega)]
                have hR1 : kRel κ0 (u2 ν 3 0 0) O := by
                  have hRa : kRel (u2 κ 505 0 0) (u2 (u2 μ 0 0 0) 3 0 0) O := tape_0 hV hR
                  have hVa : mV (u2 (u2 μ 0 0 0) 3 0 0) := (hV.u (f := 0) (by decide)).u (f := 3) (by decide)
                  refine Rel_F hVa hRa (fun _ => False) (fun f k z => ?_) (fun f k x y z => ?_) (fun q _ z => z.elim)
                  · by_cases w : f = 505 ∧ k = 0
                    · rw [w.1, w.2, u2_s, hκ0, u2_s]
                    · rw [hk0 f k (fun q => z ⟨q.1, Or.inr (by omega)⟩) w, u2_n w]
                  · by_cases w : f = 3 ∧ k = 0
                    · rw [w.1, w.2, u2_s, u2_s]
                    · rw [u2_n w, nm f k x, u2_n w, u2_f (by omega)]
                have hI1 : kInv κ0 := Inv_cg hI (fun f k z => hk0 _ _ (by omega) (by omega)) (fun k z => hk0 _ _ (by omega) (by omega))
                have hQ1 : kQ κ0 := fun k => by
                  have := hK.q k
                  rw [hk0 _ _ (by omega) (by omega), hk0 _ _ (by omega) (by omega), hk0 _ _ (by omega) (by omega), hk0 _ _ (by omega) (by omega), hk0 _ _ (by omega) (by omega)]
                  exact this
                have hP1 : mP2 (u2 ν 3 0 0) := mP2_u (by decide) (mP2_cg (fun f hf k => by
                  simp only [List.elem_eq_mem, decide_eq_true_eq, List.mem_cons, List.not_mem_nil, or_false] at hf
                  exact (nm f k (by omega)).symm) hP)
                have hO0 : O 0 = 0 := hR.1.2.2.2.2.2.1.2.2
                have k602 : 2 ≤ κ 602 0 := hR.1.2.2.2.2.2.2.2
                have e505 : κ 505 0 = μ 3 0 := hR.1.1
                have x9 : κ0 9 64 = κ 505 0 := by rw [hκ0, u2_f (by decide), u2_s]
                have x7 : κ0 7 64 = 0 := by rw [hκ0, u2_f (by decide), u2_f (by decide), u2_f (by decide), u2_s]
                have x8 : κ0 8 64 = 0 := by rw [hκ0, u2_f (by decide), u2_f (by decide), u2_s]
                have hT1 : fT κ0 (u2 ν 3 0 0) O 64 := by
                  refine ⟨?_, ?_, ?_, ?_, ?_, ?_, fun z => ?_, fun j hj => ?_⟩
                  · show κ0 3 64 = _
                    rw [nv _ _ (by decide), n4 _ _ (by decide), hM0, hκ0]
                    simp (disch := omega) only [u2_f, u2_s]
                  · show κ0 4 64 = _
                    rw [nv _ _ (by decide), n4 _ _ (by decide), hM0, hκ0]
                    simp (disch := omega) only [u2_f, u2_s]
                  · show κ0 5 64 = _
                    rw [nv _ _ (by decide), n4 _ _ (by decide), hM0, hκ0]
                    simp (disch := omega) only [u2_f, u2_s]
                  · show κ0 6 64 = _
                    rw [nv _ _ (by decide), n4 _ _ (by decide), hM0, hκ0]
                    simp (disch := omega) only [u2_f, u2_s]
                  · show κ0 9 64 = _
                    rw [nv _ _ (by decide), n4 _ _ (by decide), hM0, x9, u2_s, e505]
                  · show 0 ≤ κ0 8 64
                    rw [x8]; exact Int.le_refl _
                  · show 0 ≤ κ0 7 64 ∧ κ0 7 64 < κ0 602 0 ∧ ¬ O (κ0 7 64).toNat % 4 = 3
                    rw [x7, hk0 _ _ (by omega) (by omega)]
                    refine ⟨by decide, by omega, ?_⟩
                    show ¬ O 0 % 4 = 3
                    rw [hO0]; decide
                  · have hj' : (j : Int) < κ0 9 64 := hj
                    show κ0 (1000 + (κ0 7 64).toNat) ((κ0 8 64).toNat + j) = _
                    rw [x9] at hj'
                    rw [x7, x8, show 1000 + (0 : Int).toNat = 1000 from rfl, show (0 : Int).toNat + j = j by simp, hk0 _ _ (by omega) (by omega), nv _ _ (by decide), n5 j (by rw [m0 _ _ (by omega)]; omega), m0 2 _ (by omega)]
                    exact hR.1.2.2.2.1 j hj'
                have k45 : (u2 ν 3 0 0) 45 0 = u := by rw [nv _ _ (by decide), n4 _ _ (by decide), hM0]; simp (disch := omega) only [u2_f, u2_s]
                obtain ⟨tv, O', tR, tI⟩ := R_takes hVν hQ1 hR1 hI1 hP1 (by rw [nv _ _ (by decide), nm _ _ (by omega)]; exact hj) h1 h2 hT1 (by rw [k45]; exact hk)
                rw [eE0, if_pos ej, eS, eV, eK, eW, n1', n2', tv]
                refine ⟨?_, fun _ => ⟨rfl, O', tR, tI⟩, fun z => absurd rfl z⟩
                rw [s_takes_fr (by decide), nv _ _ (by decide), n4 _ _ (by decide), hM0]
                simp (disch := omega) only [u2_f, u2_s]
                rfl
              · have eS : s_take μ s u a b c = u2 (u2 μ 0 0 0) 0 0 2 := by
                  rw [eS0, s_take_57, if_neg hns, if_neg (by decide), if_neg (by decide), if_pos hj]
                rw [eE0, if_neg (by omega), ej, eS]
                exact ⟨by rw [u2_s]; rfl, fun z => absurd z (by decide), fun _ => Rel_0 hV hR (fun f k z => by rw [u2_f (by omega), u2_f (by omega)])⟩
            · have e8 : u = 8 := by
                by_cases w : u = 8
                · exact w
                · exact absurd (fun z => absurd z w) good
              refine bad (Or.inr (Or.inr (fun n => good n.2.2.2.2.2.2))) ?_
              unfold e_kTakeM
              simp only [if_pos e, if_neg nk, if_neg na, if_neg nb, if_neg nc, if_pos e8]
              by_cases w : 4611686018427380000 < b
              · rw [if_pos w]
              · rw [if_neg w, if_neg (fun q => good (fun _ => ⟨by omega, q⟩))]
          · refine bad (Or.inr (Or.inr (fun n => hc ⟨n.2.2.2.2.1, n.2.2.2.2.2.1⟩))) ?_
            simp only [e_kTakeM, if_pos e, if_neg nk, if_neg na, if_neg nb, if_pos ec]
        · refine bad (Or.inr (Or.inr (fun n => hb ⟨n.2.2.1, n.2.2.2.1⟩))) ?_
          simp only [e_kTakeM, if_pos e, if_neg nk, if_neg na, if_pos eb]
      · refine bad (Or.inr (Or.inr (fun n => ha ⟨n.1, n.2.1⟩))) ?_
        simp only [e_kTakeM, if_pos e, if_neg nk, if_pos ea]
    · refine bad (Or.inr (Or.inl hk)) ?_
      simp only [e_kTakeM, if_pos e, if_pos ek]
  · refine bad (Or.inl h) ?_
    unfold e_kTakeM
    rw [if_neg (show ¬ e_sideAt κ s = 0 by omega), e]
end R40
