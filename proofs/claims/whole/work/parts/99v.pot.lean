section R61
variable {κ μ κ' μ' ν E : Nat → Nat → Int} {O O' : Nat → Nat}
/-! what rows have cost, by the lengths that they have now -/
def kgl (n : Int) : Int := if n = 65536 then 262144 else 3 * n
theorem kgl_0 {n : Int} (h : 0 ≤ n) : 0 ≤ kgl n := by unfold kgl; split <;> omega
theorem kgl_4 {n : Int} (h : 0 ≤ n) : kgl n ≤ 4 * n := by unfold kgl; split <;> omega
theorem grown_c (a b : Int) : v_grownLength a b = 65536 ∨ (v_grownLength a b < 65536 ∧ b ≤ v_grownLength a b ∧ 2 * a ≤ v_grownLength a b) := by
  unfold v_grownLength v_minI v_maxI
  repeat' split
  all_goals omega
theorem kgl_g {a b : Int} (h1 : 0 ≤ a) (h2 : a < b) (h3 : b ≤ 65536) : kgl a + v_grownLength a b ≤ kgl (v_grownLength a b) ∧ 0 ≤ v_grownLength a b := by
  have c := grown_c a b
  generalize v_grownLength a b = g at c ⊢
  unfold kgl
  repeat' split
  all_goals omega
def kw (κ : Nat → Nat → Int) (k : Nat) : Int := (if κ 290 k = 1 then 2 * kgl (κ 600 (κ 201 k).toNat) else 0) + (if κ 190 k = 1 then kgl (κ 600 (κ 101 k).toNat) else 0)
def kPs (κ : Nat → Nat → Int) (s : Int) : Int := mSum (fun j => kw κ (mj s j)) 256
def kPot (κ : Nat → Nat → Int) : Int := kPs κ 0 + kPs κ 1
theorem kPot_le (h : ∀ t j : Int, 0 ≤ t → t ≤ 1 → 0 ≤ j → j < 256 → kw κ (mj t j) ≤ kw κ' (mj t j)) : kPot κ ≤ kPot κ' := by
  have a := mSum_le (h := fun j => kw κ (mj 0 j)) (h' := fun j => kw κ' (mj 0 j)) 256 (fun k hk => h 0 k (by omega) (by omega) (by omega) (by omega))
  have b := mSum_le (h := fun j => kw κ (mj 1 j)) (h' := fun j => kw κ' (mj 1 j)) 256 (fun k hk => h 1 k (by omega) (by omega) (by omega) (by omega))
  unfold kPot kPs
  omega
theorem mSum_c {h h' : Nat → Int} {j : Nat} {c : Int} (n : Nat) (hj : j < n) (hh : ∀ k, k < n → k ≠ j → h k ≤ h' k) (hc : h j + c ≤ h' j) : mSum h n + c ≤ mSum h' n := by
  have := mSum_u (h := h) (j := j) (v := h j + c) n
  rw [if_pos hj] at this
  have le := mSum_le (h := fun k => if k = j then h j + c else h k) (h' := h') n (fun k hk => by
    show (if k = j then h j + c else h k) ≤ h' k
    by_cases z : k = j
    · rw [if_pos z, z]; exact hc
    · rw [if_neg z]; exact hh k hk z)
  omega
theorem kPot_c {s i c : Int} (h1 : 0 ≤ s) (h2 : s ≤ 1) (h3 : 0 ≤ i) (h4 : i < 256) (h : ∀ t j : Int, 0 ≤ t → t ≤ 1 → 0 ≤ j → j < 256 → ¬ (t = s ∧ j = i) → kw κ (mj t j) ≤ kw κ' (mj t j)) (hc : kw κ (mj s i) + c ≤ kw κ' (mj s i)) : kPot κ + c ≤ kPot κ' := by
  have hi : ((i.toNat : Nat) : Int) = i := by omega
  rcases (show s = 0 ∨ s = 1 by omega) with e | e
  · rw [e] at hc h
    have a := mSum_c (h := fun j => kw κ (mj 0 j)) (h' := fun j => kw κ' (mj 0 j)) (j := i.toNat) (c := c) 256 (by omega) (fun k hk z => h 0 k (by omega) (by omega) (by omega) (by omega) (by omega)) (by
      show kw κ (mj 0 ((i.toNat : Nat) : Int)) + c ≤ kw κ' (mj 0 ((i.toNat : Nat) : Int))
      rw [hi]; exact hc)
    have b := mSum_le (h := fun j => kw κ (mj 1 j)) (h' := fun j => kw κ' (mj 1 j)) 256 (fun k hk => h 1 k (by omega) (by omega) (by omega) (by omega) (by omega))
    unfold kPot kPs
    omega
  · rw [e] at hc h
    have a := mSum_c (h := fun j => kw κ (mj 1 j)) (h' := fun j => kw κ' (mj 1 j)) (j := i.toNat) (c := c) 256 (by omega) (fun k hk z => h 1 k (by omega) (by omega) (by omega) (by omega) (by omega)) (by
      show kw κ (mj 1 ((i.toNat : Nat) : Int)) + c ≤ kw κ' (mj 1 ((i.toNat : Nat) : Int))
      rw [hi]; exact hc)
    have b := mSum_le (h := fun j => kw κ (mj 0 j)) (h' := fun j => kw κ' (mj 0 j)) 256 (fun k hk => h 0 k (by omega) (by omega) (by omega) (by omega) (by omega))
    unfold kPot kPs
    omega
theorem kw_e {k : Nat} (h290 : κ' 290 k = κ 290 k) (h190 : κ' 190 k = κ 190 k) (h201 : κ 290 k = 1 → κ' 600 (κ' 201 k).toNat = κ 600 (κ 201 k).toNat) (h101 : κ 190 k = 1 → κ' 600 (κ' 101 k).toNat = κ 600 (κ 101 k).toNat) : kw κ' k = kw κ k := by
  unfold kw
  rw [h290, h190]
  have a : (if κ 290 k = 1 then 2 * kgl (κ' 600 (κ' 201 k).toNat) else 0) = (if κ 290 k = 1 then 2 * kgl (κ 600 (κ 201 k).toNat) else 0) := by
    by_cases e : κ 290 k = 1
    · rw [if_pos e, if_pos e, h201 e]
    · rw [if_neg e, if_neg e]
  have b : (if κ 190 k = 1 then kgl (κ' 600 (κ' 101 k).toNat) else 0) = (if κ 190 k = 1 then kgl (κ 600 (κ 101 k).toNat) else 0) := by
    by_cases e : κ 190 k = 1
    · rw [if_pos e, if_pos e, h101 e]
    · rw [if_neg e, if_neg e]
  rw [a, b]
def kPf (f : Nat) : Prop := f = 101 ∨ f = 190 ∨ f = 201 ∨ f = 290 ∨ f = 600
theorem kPot_cg (h : ∀ f, kPf f → ∀ k, κ' f k = κ f k) : kPot κ' = kPot κ := by
  have e : ∀ k, kw κ' k = kw κ k := fun k => kw_e (h 290 (by unfold kPf; omega) k) (h 190 (by unfold kPf; omega) k) (fun _ => by rw [h 201 (by unfold kPf; omega), h 600 (by unfold kPf; omega)]) (fun _ => by rw [h 101 (by unfold kPf; omega), h 600 (by unfold kPf; omega)])
  unfold kPot kPs
  simp only [e]
theorem kPot_ge (h : ∀ f, kPf f → ∀ k, κ' f k = κ f k) : kPot κ + ((0 : Nat) : Int) ≤ kPot κ' := by
  rw [kPot_cg h]; simp
/-- the rows that are spoken of are there -/
def kRg (κ : Nat → Nat → Int) : Prop := ∀ t j : Int, 0 ≤ t → t ≤ 1 → 0 ≤ j → j < 256 → (κ 290 (mj t j) = 1 → 0 ≤ κ 201 (mj t j) ∧ κ 201 (mj t j) < κ 602 0 ∧ 0 ≤ κ 600 (κ 201 (mj t j)).toNat) ∧ (κ 190 (mj t j) = 1 → 0 ≤ κ 101 (mj t j) ∧ κ 101 (mj t j) < κ 602 0 ∧ 0 ≤ κ 600 (κ 101 (mj t j)).toNat)
theorem kRg_cg (h : ∀ f, kPf f ∨ f = 602 → ∀ k, κ' f k = κ f k) (g : kRg κ) : kRg κ' := by
  intro t j g1 g2 g3 g4
  have q := g t j g1 g2 g3 g4
  rw [h 290 (by unfold kPf; omega), h 190 (by unfold kPf; omega), h 201 (by unfold kPf; omega), h 101 (by unfold kPf; omega), h 602 (by omega), h 600 (by unfold kPf; omega), h 600 (by unfold kPf; omega)]
  exact q
theorem Rel_Rg (hR : kRel κ μ O) : kRg κ := by
  intro t j g1 g2 g3 g4
  obtain ⟨hT, hA, hB⟩ := Rel_at hR g1 g2 g3 g4
  refine ⟨fun z => ?_, fun z => ?_⟩
  · obtain ⟨a1, ⟨⟨b1, b2, b3, b4⟩, d, e1, e2, e3⟩, a3⟩ := hA.2.1 z
    have := mW_b μ t j
    have := a1.1
    exact ⟨by omega, b2, by omega⟩
  · obtain ⟨b1, ⟨c1, c2, c3, c4, c5, c6⟩, b3⟩ := hB.2.1 z
    exact ⟨by omega, c2, c6⟩
/-- a stream that was not there comes -/
theorem parts_p {s i : Int} (h602 : 2 ≤ κ 602 0) (hg : kRg κ) (hn : ¬ κ 290 (mj s i) = 1 ∧ ¬ κ 190 (mj s i) = 1) {R1 R2 R3 : Nat} (h : nwK κ κ' s i R1 R2 R3) : kPot κ ≤ kPot κ' ∧ kRg κ' ∧ 2 ≤ κ' 602 0 := by
  obtain ⟨n1, n2, n3, n4, n5, n6, n7⟩ := h
  have keep : ∀ f k, (f = 101 ∨ f = 190 ∨ f = 201 ∨ f = 290) → k ≠ mj s i → κ' f k = κ f k := fun f k x y => n1 f k (by omega) (by omega) (by omega) (by omega) (by omega)
  have row : ∀ r : Nat, (r : Int) < κ 602 0 → κ' 600 r = κ 600 r := fun r x => n1 600 r (by omega) (by omega) (by omega) (by omega) (by omega)
  have s1 : κ' 290 (mj s i) = 1 → κ' 201 (mj s i) = R1 ∧ (R1 : Int) < κ' 602 0 ∧ κ' 600 R1 = 0 := by
    intro z
    by_cases e : i / 2 % 2 = 0 ∨ i % 2 = s
    · obtain ⟨x1, x2, x3, x4, x5, x6, x7, x8, x9, x10, x11, x12, x13, x14, x15, x16, x17, x18, x19, x20⟩ := n4 e
      exact ⟨x3, x15, x19⟩
    · exact absurd (by rw [← n5 e 290 (by omega)]; exact z) hn.1
  have s2 : κ' 190 (mj s i) = 1 → κ' 101 (mj s i) = R3 ∧ (R3 : Int) < κ' 602 0 ∧ κ' 600 R3 = 0 := by
    intro z
    by_cases e : i / 2 % 2 = 0 ∨ ¬ i % 2 = s
    · obtain ⟨x1, x2, x3, x4, x5, x6, x7, x8, x9, x10, x11, x12, x13, x14, x15, x16, x17, x18, x19, x20, x21⟩ := n6 e
      exact ⟨x3, x17, x20⟩
    · exact absurd (by rw [← n7 e 190 (by omega)]; exact z) hn.2
  refine ⟨kPot_le (fun t j g1 g2 g3 g4 => ?_), fun t j g1 g2 g3 g4 => ?_, by omega⟩
  · by_cases e : mj t j = mj s i
    · rw [e]
      have a : kw κ (mj s i) = 0 := by unfold kw; rw [if_neg hn.1, if_neg hn.2]; rfl
      have b1 : 0 ≤ (if κ' 290 (mj s i) = 1 then 2 * kgl (κ' 600 (κ' 201 (mj s i)).toNat) else 0) := by
        by_cases z : κ' 290 (mj s i) = 1
        · rw [if_pos z, (s1 z).1, Int.toNat_natCast, (s1 z).2.2]; decide
        · rw [if_neg z]; exact Int.le_refl _
      have b2 : 0 ≤ (if κ' 190 (mj s i) = 1 then kgl (κ' 600 (κ' 101 (mj s i)).toNat) else 0) := by
        by_cases z : κ' 190 (mj s i) = 1
        · rw [if_pos z, (s2 z).1, Int.toNat_natCast, (s2 z).2.2]; decide
        · rw [if_neg z]; exact Int.le_refl _
      rw [a]
      unfold kw
      omega
    · refine Int.le_of_eq (kw_e (keep _ _ (by omega) e) (keep _ _ (by omega) e) (fun z => ?_) (fun z => ?_)).symm
      · have := (hg t j g1 g2 g3 g4).1 z
        rw [keep 201 _ (by omega) e, row _ (by omega)]
      · have := (hg t j g1 g2 g3 g4).2 z
        rw [keep 101 _ (by omega) e, row _ (by omega)]
  · by_cases e : mj t j = mj s i
    · rw [e]
      refine ⟨fun z => ?_, fun z => ?_⟩
      · obtain ⟨x1, x2, x3⟩ := s1 z
        rw [x1, Int.toNat_natCast, x3]
        exact ⟨by omega, x2, Int.le_refl _⟩
      · obtain ⟨x1, x2, x3⟩ := s2 z
        rw [x1, Int.toNat_natCast, x3]
        exact ⟨by omega, x2, Int.le_refl _⟩
    · have q := hg t j g1 g2 g3 g4
      rw [keep 290 _ (by omega) e, keep 190 _ (by omega) e, keep 201 _ (by omega) e, keep 101 _ (by omega) e]
      refine ⟨fun z => ?_, fun z => ?_⟩
      · have w := q.1 z
        rw [row _ (by omega)]
        exact ⟨w.1, by omega, w.2.2⟩
      · have w := q.2 z
        rw [row _ (by omega)]
        exact ⟨w.1, by omega, w.2.2⟩
theorem there_p {s i : Int} (h1 : 0 ≤ s) (h2 : s ≤ 1) (h3 : 0 ≤ i) (h4 : i < 256) : ∀ (d : Nat) (n : Int) (ν : Nat → Nat → Int), 0 ≤ n → 2 ≤ ν 602 0 → kRg ν → (∀ m, n ≤ m → m < 64 → ¬ ν 290 (mj s ((m * 4) + (i % 4))) = 1 ∧ ¬ ν 190 (mj s ((m * 4) + (i % 4))) = 1) → kPot ν ≤ kPot (s_makeThere_16 κ s i d n ν) ∧ kRg (s_makeThere_16 κ s i d n ν) ∧ 2 ≤ s_makeThere_16 κ s i d n ν 602 0
  | 0, n, ν, g0, g1, g2, g3 => ⟨Int.le_refl _, g2, g1⟩
  | d + 1, n, ν, g0, g1, g2, g3 => by
    rw [s_makeThere_16]
    by_cases e : i / 4 < n
    · rw [if_pos e]
      refine ⟨Int.le_of_eq (kPot_cg (fun f hf k => u2_f (by unfold kPf at hf; omega))).symm, kRg_cg (fun f hf k => u2_f (by unfold kPf at hf; omega)) g2, ?_⟩
      rw [u2_f (by decide)]; exact g1
    · rw [if_neg e]
      obtain ⟨R1, R2, R3, h⟩ := makeParts_s (κ := ν) g1 h1 h2 (i := (n * 4) + (i % 4)) (by omega) (by omega)
      obtain ⟨p1, p2, p3⟩ := parts_p g1 g2 (g3 n (Int.le_refl _) (by omega)) h
      have keep : ∀ m, n + 1 ≤ m → m < 64 → ¬ s_makeParts ν s ((n * 4) + (i % 4)) 290 (mj s ((m * 4) + (i % 4))) = 1 ∧ ¬ s_makeParts ν s ((n * 4) + (i % 4)) 190 (mj s ((m * 4) + (i % 4))) = 1 := fun m x y => by
        have q := g3 m (by omega) y
        have hne : mj s ((m * 4) + (i % 4)) ≠ mj s ((n * 4) + (i % 4)) := by unfold mj; omega
        rw [h.1 290 _ (by omega) (by omega) (by omega) (by omega) (by omega), h.1 190 _ (by omega) (by omega) (by omega) (by omega) (by omega)]
        exact q
      obtain ⟨i1, i2, i3⟩ := there_p h1 h2 h3 h4 d (n + 1) _ (by omega) p3 p2 keep
      exact ⟨Int.le_trans p1 i1, i2, i3⟩
theorem makeThere_p {s i : Int} (h1 : 0 ≤ s) (h2 : s ≤ 1) (h3 : 0 ≤ i) (h4 : i < 256) (k404 : 0 ≤ κ 404 ((2 * s) + (v_kWayOf i)).toNat) (h602 : 2 ≤ κ 602 0) (hg : kRg κ) (hN : kNT κ s) : kPot κ ≤ kPot (s_makeThere κ s i) ∧ kRg (s_makeThere κ s i) ∧ 2 ≤ s_makeThere κ s i 602 0 := by
  unfold s_makeThere
  by_cases e : i % 2 = s
  · rw [if_pos e]; exact ⟨Int.le_refl _, hg, h602⟩
  · rw [if_neg e]
    exact there_p h1 h2 h3 h4 65 _ κ k404 h602 hg (fun m x y => hN i h3 h4 e m x y)
/-- a row is made anew, longer -/
theorem grow_S {s i g : Int} (h1 : 0 ≤ s) (h2 : s ≤ 1) (h3 : 0 ≤ i) (h4 : i < 256) (hg : kRg κ) (hp : κ 290 (mj s i) = 1) (e290 : ∀ k, E 290 k = κ 290 k) (e190 : ∀ k, E 190 k = κ 190 k) (e101 : ∀ k, E 101 k = κ 101 k) (e201 : ∀ k, k ≠ mj s i → E 201 k = κ 201 k) (row : ∀ r : Nat, (r : Int) < κ 602 0 → E 600 r = κ 600 r) (hG : E 600 (E 201 (mj s i)).toNat = g) (hk : kgl (κ 600 (κ 201 (mj s i)).toNat) + g ≤ kgl g) : kPot κ + 2 * g ≤ kPot E := by
  refine kPot_c h1 h2 h3 h4 (fun t j g1 g2 g3 g4 z => ?_) ?_
  · have hne := mj_ne h1 h3 h4 g1 g3 g4 z
    refine Int.le_of_eq (kw_e (e290 _) (e190 _) (fun z => ?_) (fun z => ?_)).symm
    · have := (hg t j g1 g2 g3 g4).1 z
      rw [e201 _ hne, row _ (by omega)]
    · have := (hg t j g1 g2 g3 g4).2 z
      rw [e101, row _ (by omega)]
  · unfold kw
    rw [e290, e190, e101, if_pos hp, if_pos hp, hG]
    have b : (if κ 190 (mj s i) = 1 then kgl (E 600 (κ 101 (mj s i)).toNat) else 0) = (if κ 190 (mj s i) = 1 then kgl (κ 600 (κ 101 (mj s i)).toNat) else 0) := by
      by_cases e : κ 190 (mj s i) = 1
      · have := (hg s i h1 h2 h3 h4).2 e
        rw [if_pos e, if_pos e, row _ (by omega)]
      · rw [if_neg e, if_neg e]
    rw [b]
    omega
theorem grow_R {s i g : Int} (h1 : 0 ≤ s) (h2 : s ≤ 1) (h3 : 0 ≤ i) (h4 : i < 256) (hg : kRg κ) (hp : κ 190 (mj s i) = 1) (e290 : ∀ k, E 290 k = κ 290 k) (e190 : ∀ k, E 190 k = κ 190 k) (e201 : ∀ k, E 201 k = κ 201 k) (e101 : ∀ k, k ≠ mj s i → E 101 k = κ 101 k) (row : ∀ r : Nat, (r : Int) < κ 602 0 → E 600 r = κ 600 r) (hG : E 600 (E 101 (mj s i)).toNat = g) (hk : kgl (κ 600 (κ 101 (mj s i)).toNat) + g ≤ kgl g) : kPot κ + g ≤ kPot E := by
  refine kPot_c h1 h2 h3 h4 (fun t j g1 g2 g3 g4 z => ?_) ?_
  · have hne := mj_ne h1 h3 h4 g1 g3 g4 z
    refine Int.le_of_eq (kw_e (e290 _) (e190 _) (fun z => ?_) (fun z => ?_)).symm
    · have := (hg t j g1 g2 g3 g4).1 z
      rw [e201, row _ (by omega)]
    · have := (hg t j g1 g2 g3 g4).2 z
      rw [e101 _ hne, row _ (by omega)]
  · unfold kw
    rw [e290, e190, e201, if_pos hp, if_pos hp, hG]
    have b : (if κ 290 (mj s i) = 1 then 2 * kgl (E 600 (κ 201 (mj s i)).toNat) else 0) = (if κ 290 (mj s i) = 1 then 2 * kgl (κ 600 (κ 201 (mj s i)).toNat) else 0) := by
      by_cases e : κ 290 (mj s i) = 1
      · have := (hg s i h1 h2 h3 h4).1 e
        rw [if_pos e, if_pos e, row _ (by omega)]
      · rw [if_neg e, if_neg e]
    rw [b]
    omega
theorem append_p {s i r n : Int} (h1 : 0 ≤ s) (h2 : s ≤ 1) (h3 : 0 ≤ i) (h4 : i < 256) (h602 : 2 ≤ κ 602 0) (hg : kRg κ) (hp : κ 290 (mj s i) = 1) (hw : κ 203 (mj s i) + n ≤ 65536) : kPot κ + kApp κ s i n ≤ kPot (s_append κ s i r n) := by
  unfold s_append kApp
  by_cases c : (κ 203 (mj s i)) + n ≤ κ 600 (κ 201 (mj s i)).toNat
  · rw [if_pos c, if_neg (by omega)]
    exact kPot_ge (fun f hf k => by unfold kPf at hf; rw [u2_f (by omega), uf_f (by omega)])
  · rw [if_neg c, if_pos (by omega)]
    have q := (hg s i h1 h2 h3 h4).1 hp
    have gg := kgl_g (a := κ 600 (κ 201 (mj s i)).toNat) (b := κ 203 (mj s i) + n) (by omega) (by omega) hw
    rw [show (((2 * v_grownLength (κ 600 (κ 201 (mj s i)).toNat) (κ 203 (mj s i) + n)).toNat : Nat) : Int) = 2 * v_grownLength (κ 600 (κ 201 (mj s i)).toNat) (κ 203 (mj s i) + n) by omega]
    refine grow_S h1 h2 h3 h4 hg hp (fun k => ?_) (fun k => ?_) (fun k => ?_) (fun k z => ?_) (fun r z => ?_) ?_ gg.1
    · rw [u2_f (by decide), uf_f (by omega), u2_f (by decide), u2_f (by decide), uf_f (by omega), uf_f (by omega), kNr_o (by decide), kNr_o (by decide)]
    · rw [u2_f (by decide), uf_f (by omega), u2_f (by decide), u2_f (by decide), uf_f (by omega), uf_f (by omega), kNr_o (by decide), kNr_o (by decide)]
    · rw [u2_f (by decide), uf_f (by omega), u2_f (by decide), u2_f (by decide), uf_f (by omega), uf_f (by omega), kNr_o (by decide), kNr_o (by decide)]
    · rw [u2_f (by decide), uf_f (by omega), u2_f (by decide), u2_n (by omega), uf_f (by omega), uf_f (by omega), kNr_o (by decide), kNr_o (by decide)]
    · rw [u2_f (by decide), uf_f (by omega), u2_f (by decide), u2_f (by decide), uf_f (by omega), uf_f (by omega), kNr_600, kNr_602, if_neg (by omega), kNr_600, if_neg (by omega)]
    · rw [u2_f (f := 203) (f' := 201) (by decide), uf_f (f' := 201) (by omega), u2_f (f := 202) (f' := 201) (by decide), u2_s]
      rw [u2_f (by decide), uf_f (by omega), u2_f (by decide), u2_f (by decide), uf_f (by omega), uf_f (by omega), kNr_600, kNr_602, if_neg (by omega), kNr_600, if_pos rfl]
theorem br69_o {s i p u : Int} {f k : Nat} (hf : f ≠ 103) : ∀ (d : Nat) (ν : Nat → Nat → Int), s_bringIn_69 κ s i p u d ν f k = ν f k
  | 0, _ => rfl
  | d + 1, ν => by
    rw [s_bringIn_69]
    split
    · rfl
    · split
      · rfl
      · rw [br69_o hf d, u2_f hf]
theorem br38_o {s i p u : Int} {f k : Nat} (hf : f ≠ 103) (hl : f < 1000) : ∀ (d : Nat) (q : Int) (ν : Nat → Nat → Int), s_bringIn_38 κ s i p u d q ν f k = ν f k
  | 0, _, _ => rfl
  | d + 1, q, ν => by
    rw [s_bringIn_38]
    split
    · exact br69_o hf _ _
    · split
      · rw [br38_o hf hl d, u2_f (by omega)]
      · exact br38_o hf hl d _ _
theorem bring_p {s i p u : Int} (h1 : 0 ≤ s) (h2 : s ≤ 1) (h3 : 0 ≤ i) (h4 : i < 256) (h602 : 2 ≤ κ 602 0) (hg : kRg κ) (hp : κ 190 (mj s i) = 1) (hu : u + κ 9 p.toNat ≤ 65536) : kPot κ + kBri κ p s i u ≤ kPot (s_bringIn κ s i p u) := by
  unfold s_bringIn kBri
  by_cases c1 : κ 9 p.toNat = 0
  · rw [if_pos c1, if_pos (Or.inl c1)]; simp
  by_cases c2 : κ 7 p.toNat < 0
  · rw [if_neg c1, if_pos c2, if_pos (Or.inr c2)]; simp
  rw [if_neg c1, if_neg c2, if_neg (fun z => z.elim c1 c2)]
  by_cases c3 : u + κ 9 p.toNat ≤ κ 600 (κ 101 (mj s i)).toNat
  · rw [if_pos c3, if_neg (by omega)]
    exact kPot_ge (fun f hf k => by unfold kPf at hf; exact br38_o (by omega) (by omega) _ _ _)
  · rw [if_neg c3, if_pos (by omega)]
    refine Int.le_trans ?_ (Int.le_of_eq (kPot_cg (fun f hf k => br38_o (by unfold kPf at hf; omega) (by unfold kPf at hf; omega) _ _ _)).symm)
    have q := (hg s i h1 h2 h3 h4).2 hp
    have gg := kgl_g (a := κ 600 (κ 101 (mj s i)).toNat) (b := u + κ 9 p.toNat) (by omega) (by omega) hu
    rw [show (((v_grownLength (κ 600 (κ 101 (mj s i)).toNat) (u + κ 9 p.toNat)).toNat : Nat) : Int) = v_grownLength (κ 600 (κ 101 (mj s i)).toNat) (u + κ 9 p.toNat) by omega]
    refine grow_R h1 h2 h3 h4 hg hp (fun k => ?_) (fun k => ?_) (fun k => ?_) (fun k z => ?_) (fun r z => ?_) ?_ gg.1
    · rw [u2_f (by decide), uf_f (by omega), kNr_o (by decide)]
    · rw [u2_f (by decide), uf_f (by omega), kNr_o (by decide)]
    · rw [u2_f (by decide), uf_f (by omega), kNr_o (by decide)]
    · rw [u2_n (by omega), uf_f (by omega), kNr_o (by decide)]
    · rw [u2_f (by decide), uf_f (by omega), kNr_600, if_neg (by omega)]
    · rw [u2_s, u2_f (by decide), uf_f (by omega), kNr_600, if_pos rfl]
end R61
