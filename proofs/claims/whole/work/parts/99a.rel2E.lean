section R32
variable {κ μ κ' μ' κ1 μ1 : Nat → Nat → Int} {O O' : Nat → Nat}
theorem comes_V (hV : mV μ) (hP : mP2 μ) {s i o b : Int} (h1 : 0 ≤ s) (h2 : s ≤ 1) (h3 : 0 ≤ i) (h4 : i < 256) (o0 : 0 ≤ o) (o1 : o < 65536) (b0 : -128 ≤ b ∧ b ≤ 127) : mV (s_comes μ s i o b) := by
  have hl := mPi_lt hV (hP s h1 h2)
  have h40 : 0 ≤ μ 40 s.toNat ∧ μ 40 s.toNat ≤ 1408 := hV 40 s.toNat
  have x40 : mV (u2 (u2 (u2 μ 40 s.toNat ((μ 40 s.toNat) + 1)) 41 ((1408 * s) + (μ 40 s.toNat)).toNat i) 42 ((1408 * s) + (μ 40 s.toNat)).toNat (o / 64)) :=
    ((hV.u (f := 40) ⟨show (0 : Int) ≤ _ by omega, show _ ≤ (1408 : Int) by omega⟩).u (f := 41) ⟨show (0 : Int) ≤ i from h3, show i ≤ 255 by omega⟩).u (f := 42) ⟨show (0 : Int) ≤ o / 64 by omega, show o / 64 ≤ 1023 by omega⟩
  unfold s_comes
  split
  · split
    · exact (hV.u (f := 44) (by decide)).u (f := 43) b0
    · exact hV
  · split
    · exact (x40.u (f := 44) (by decide)).u (f := 43) b0
    · exact x40
theorem comes_l {s i t : Int} (h1 : 0 ≤ s) (h2 : s ≤ 1) (h3 : 0 ≤ i) (h4 : i < 256) (ht : t < 2) : ∀ (d m j : Nat) (ν : Nat → Nat → Int), m < d → mV ν → mP2 ν → mHz ν → ν 49 0 = j + m → 0 ≤ ν 47 0 → ν 47 0 + j + m ≤ ν 25 (mj s i) →
    ∃ ν', s_takeStream_77 μ s d j t i ν = s_looksOver ν' s i ∧ mV ν' ∧ mP2 ν' ∧ mHz ν' ∧ (∀ f k, ¬ (40 ≤ f ∧ f ≤ 44) → ν' f k = ν f k) ∧ (∀ t' i' : Int, 0 ≤ t' → t' ≤ 1 → ¬ (t' = s ∧ i' = i) → mX ν' t' i' = mX ν t' i') ∧ ∀ o : Nat, mX ν' s i o = if ν 47 0 + j ≤ (o : Int) ∧ (o : Int) < ν 47 0 + j + m ∧ mX ν s i o = 0 then ν 50 (o - (ν 47 0).toNat) % 256 + 1 else mX ν s i o := by
  intro d
  induction d with
  | zero => intro m j ν g1; omega
  | succ d ih =>
    intro m
    cases m with
    | zero =>
      intro j ν g1 g2 g3 g4 g5 g6 g7
      refine ⟨ν, ?_, g2, g3, g4, fun _ _ _ => rfl, fun _ _ _ _ _ => rfl, fun o => ?_⟩
      · rw [s_takeStream_77, if_pos (by omega)]
      · rw [if_neg (by omega)]
    | succ m =>
      intro j ν g1 g2 g3 g4 g5 g6 g7
      have v25 : ν 25 (mj s i) ≤ 65536 := (g2 25 _).2
      have hcast : ν 47 0 + (j : Int) = (((ν 47 0).toNat + j : Nat) : Int) := by omega
      have hh : (((ν 47 0).toNat + j : Nat) : Int) < ν 25 (mj s i) := by omega
      have e1 : s_takeStream_77 μ s (d + 1) j t i ν = s_takeStream_77 μ s d (j + 1 : Nat) t i (s_comes ν s i (((ν 47 0).toNat + j : Nat) : Int) (ν 50 j)) := by
        rw [s_takeStream_77, if_neg (by omega), if_neg (by omega), hcast, show (j : Int) + 1 = ((j + 1 : Nat) : Int) by omega, show ((j : Int)).toNat = j by omega]
      rw [e1]
      have cfr : ∀ f k, ¬ (40 ≤ f ∧ f ≤ 44) → s_comes ν s i (((ν 47 0).toNat + j : Nat) : Int) (ν 50 j) f k = ν f k := fun f k z => s_comes_fr (by
        simp only [List.elem_eq_mem, List.mem_cons, List.not_mem_nil, or_false, decide_eq_false_iff_not]
        omega)
      have hX := fun (s' i' : Int) (a : 0 ≤ s') (b : s' ≤ 1) (o' : Nat) => comes_X (b := ν 50 j) (i' := i') g2 g3 g4 h1 h2 hh a b o'
      obtain ⟨ν', i1, i2, i3, i4, i5, i6, i7⟩ := ih m (j + 1) (s_comes ν s i (((ν 47 0).toNat + j : Nat) : Int) (ν 50 j)) (by omega) (comes_V g2 g3 h1 h2 h3 h4 (by omega) (by omega) (g2 50 _)) (comes_p2 g2 h1 h2 (by omega) hh g3) (comes_Z g2 g3 g4 h1 h2 (by omega)) (by rw [cfr _ _ (by omega)]; omega) (by rw [cfr _ _ (by omega)]; exact g6) (by rw [cfr _ _ (by omega), cfr _ _ (by omega)]; omega)
      rw [cfr 47 _ (by omega)] at i7
      refine ⟨ν', i1, i2, i3, i4, fun f k z => by rw [i5 f k z, cfr f k z], fun t' i' a b z => ?_, fun o => ?_⟩
      · rw [i6 t' i' a b z]
        funext o
        rw [hX t' i' a b o, if_neg (fun y => z ⟨y.1, y.2.1⟩)]
      · rw [i7 o, hX s i h1 h2 o, cfr 50 _ (by omega)]
        by_cases y : o = (ν 47 0).toNat + j
        · rw [if_neg (show ¬ (ν 47 0 + ((j + 1 : Nat) : Int) ≤ (o : Int) ∧ (o : Int) < ν 47 0 + ((j + 1 : Nat) : Int) + m ∧ _) by omega)]
          by_cases z : mX ν s i o = 0
          · rw [if_pos ⟨rfl, rfl, y, by rw [← y]; exact z⟩, if_pos ⟨by omega, by omega, z⟩, show o - (ν 47 0).toNat = j by omega]
          · rw [if_neg (fun w => z (by rw [y]; exact w.2.2.2)), if_neg (fun w => z w.2.2)]
        · rw [if_neg (show ¬ (s = s ∧ i = i ∧ o = (ν 47 0).toNat + j ∧ mX ν s i ((ν 47 0).toNat + j) = 0) from fun w => y w.2.2.1)]
          by_cases w : ν 47 0 + j ≤ (o : Int) ∧ (o : Int) < ν 47 0 + j + ((m + 1 : Nat) : Int) ∧ mX ν s i o = 0
          · rw [if_pos w, if_pos ⟨by omega, by omega, w.2.2⟩]
          · rw [if_neg w, if_neg (fun z => w ⟨by omega, by omega, z.2.2⟩)]
/-- the class's cells -/
theorem ready_l {s i p u : Int} : ∀ (d : Nat) (ν : Nat → Nat → Int), 0 ≤ ν 103 (mj s i) → ν 103 (mj s i) ≤ ν 600 (ν 101 (mj s i)).toNat → ν 103 (mj s i) ≤ 65536 → 65536 - ν 103 (mj s i) < d → ν (1000 + (ν 101 (mj s i)).toNat) 65536 = 0 →
    ∃ R : Int, s_bringIn_69 κ s i p u d ν = u2 ν 103 (mj s i) R ∧ ν 103 (mj s i) ≤ R ∧ R ≤ ν 600 (ν 101 (mj s i)).toNat ∧ (∀ o : Nat, ν 103 (mj s i) ≤ o → (o : Int) < R → ¬ ν (1000 + (ν 101 (mj s i)).toNat) o = 0) ∧ (R = ν 600 (ν 101 (mj s i)).toNat ∨ ν (1000 + (ν 101 (mj s i)).toNat) R.toNat = 0)
  | 0, ν, g0, g1, g1', g2, g3 => by omega
  | d + 1, ν, g0, g1, g1', g2, g3 => by
    rw [s_bringIn_69]
    by_cases c : ν 600 (ν 101 (mj s i)).toNat ≤ ν 103 (mj s i)
    · rw [if_pos c]
      exact ⟨ν 103 (mj s i), u2_id.symm, Int.le_refl _, g1, fun o x y => by omega, Or.inl (by omega)⟩
    · rw [if_neg c]
      by_cases z : ν (1000 + (ν 101 (mj s i)).toNat) (ν 103 (mj s i)).toNat = 0
      · rw [if_pos z]
        exact ⟨ν 103 (mj s i), u2_id.symm, Int.le_refl _, g1, fun o x y => by omega, Or.inr z⟩
      · rw [if_neg z]
        have e : ∀ f k, ¬ (f = 103 ∧ k = mj s i) → (u2 ν 103 (mj s i) (ν 103 (mj s i) + 1)) f k = ν f k := fun f k x => u2_n x
        have e3 : (u2 ν 103 (mj s i) (ν 103 (mj s i) + 1)) 103 (mj s i) = ν 103 (mj s i) + 1 := u2_s _ _ _ _
        obtain ⟨R, r1, r2, r3, r4, r5⟩ := ready_l (s := s) (i := i) (p := p) (u := u) d (u2 ν 103 (mj s i) (ν 103 (mj s i) + 1)) (by rw [e3]; omega) (by rw [e3, e _ _ (by omega), e _ _ (by omega)]; omega) (by
          rw [e3]
          by_cases w : ν 103 (mj s i) = 65536
          · rw [w] at z; exact absurd g3 z
          · omega) (by rw [e3]; omega) (by rw [e 101 _ (by omega), e _ _ (by omega)]; exact g3)
        rw [e3] at r2 r4
        rw [e _ _ (by omega), e _ _ (by omega)] at r3
        refine ⟨R, ?_, by omega, r3, fun o x y => ?_, ?_⟩
        · rw [r1]
          funext a b
          unfold u2
          split <;> rfl
        · by_cases w : (o : Int) = ν 103 (mj s i)
          · rw [show o = (ν 103 (mj s i)).toNat by omega]; exact z
          · have := r4 o (by omega) y
            rw [e 101 _ (by omega), e _ _ (by omega)] at this
            exact this
        · rw [e 101 _ (by omega), e _ _ (by omega), e _ _ (by omega)] at r5
          exact r5
theorem bring_l {s i p u : Int} (u0 : 0 ≤ u) : ∀ (d m k : Nat) (ν : Nat → Nat → Int), m < d → ν 9 p.toNat = k + m → ν 101 (mj s i) ≠ ν 7 p.toNat → 0 ≤ ν 101 (mj s i) → 0 ≤ ν 7 p.toNat → 0 ≤ ν 8 p.toNat →
    ∃ ν', s_bringIn_38 κ s i p u d k ν = s_bringIn_69 κ s i p u 65537 ν' ∧ (∀ f q, f ≠ 1000 + (ν 101 (mj s i)).toNat → ν' f q = ν f q) ∧ ∀ o : Nat, ν' (1000 + (ν 101 (mj s i)).toNat) o = if u + k ≤ (o : Int) ∧ (o : Int) < u + k + m ∧ ν (1000 + (ν 101 (mj s i)).toNat) o = 0 then ν (1000 + (ν 7 p.toNat).toNat) ((ν 8 p.toNat).toNat + (o - u.toNat)) % 256 + 1 else ν (1000 + (ν 101 (mj s i)).toNat) o
  | 0, m, k, ν, g1, _, _, _, _, _ => by omega
  | d + 1, 0, k, ν, g1, g2, g3, g4, g5, g6 => by
    refine ⟨ν, ?_, fun _ _ _ => rfl, fun o => ?_⟩
    · rw [s_bringIn_38, if_pos (by omega)]
    · rw [if_neg (by omega)]
  | d + 1, m + 1, k, ν, g1, g2, g3, g4, g5, g6 => by
    have hix : (u + (k : Int)).toNat = u.toNat + k := by omega
    by_cases z : ν (1000 + (ν 101 (mj s i)).toNat) (u.toNat + k) = 0
    · have e1 : s_bringIn_38 κ s i p u (d + 1) k ν = s_bringIn_38 κ s i p u d (k + 1 : Nat) (u2 ν (1000 + (ν 101 (mj s i)).toNat) (u.toNat + k) (ν (1000 + (ν 7 p.toNat).toNat) ((ν 8 p.toNat).toNat + k) % 256 + 1)) := by
        rw [s_bringIn_38, if_neg (by omega), hix, if_pos z, show (ν 8 p.toNat + (k : Int)).toNat = (ν 8 p.toNat).toNat + k by omega, show (k : Int) + 1 = ((k + 1 : Nat) : Int) by omega]
      rw [e1]
      have e : ∀ f q, f ≠ 1000 + (ν 101 (mj s i)).toNat → (u2 ν (1000 + (ν 101 (mj s i)).toNat) (u.toNat + k) (ν (1000 + (ν 7 p.toNat).toNat) ((ν 8 p.toNat).toNat + k) % 256 + 1)) f q = ν f q := fun f q x => u2_f x
      have er : ∀ q, (u2 ν (1000 + (ν 101 (mj s i)).toNat) (u.toNat + k) (ν (1000 + (ν 7 p.toNat).toNat) ((ν 8 p.toNat).toNat + k) % 256 + 1)) (1000 + (ν 101 (mj s i)).toNat) q = if q = u.toNat + k then ν (1000 + (ν 7 p.toNat).toNat) ((ν 8 p.toNat).toNat + k) % 256 + 1 else ν (1000 + (ν 101 (mj s i)).toNat) q := fun q => u2_g
      obtain ⟨ν', i1, i2, i3⟩ := bring_l (s := s) (i := i) (p := p) u0 d m (k + 1) (u2 ν (1000 + (ν 101 (mj s i)).toNat) (u.toNat + k) (ν (1000 + (ν 7 p.toNat).toNat) ((ν 8 p.toNat).toNat + k) % 256 + 1)) (by omega) (by rw [e _ _ (by omega)]; omega) (by rw [e _ _ (by omega), e _ _ (by omega)]; exact g3) (by rw [e _ _ (by omega)]; exact g4) (by rw [e _ _ (by omega)]; exact g5) (by rw [e _ _ (by omega)]; exact g6)
      rw [e 101 _ (by omega)] at i2 i3
      refine ⟨ν', i1, fun f q x => by rw [i2 f q x, e f q x], fun o => ?_⟩
      rw [i3 o, er, e 7 _ (by omega), e 8 _ (by omega), e _ _ (by omega)]
      by_cases y : o = u.toNat + k
      · rw [if_neg (show ¬ (u + ((k + 1 : Nat) : Int) ≤ (o : Int) ∧ (o : Int) < u + ((k + 1 : Nat) : Int) + m ∧ _) by omega), if_pos y, if_pos ⟨by omega, by omega, by rw [y]; exact z⟩, show o - u.toNat = k by omega]
      · rw [if_neg y]
        by_cases w : u + k ≤ (o : Int) ∧ (o : Int) < u + k + ((m + 1 : Nat) : Int) ∧ ν (1000 + (ν 101 (mj s i)).toNat) o = 0
        · rw [if_pos w, if_pos ⟨by omega, by omega, w.2.2⟩]
        · rw [if_neg w, if_neg (fun x => w ⟨by omega, by omega, x.2.2⟩)]
    · have e1 : s_bringIn_38 κ s i p u (d + 1) k ν = s_bringIn_38 κ s i p u d (k + 1 : Nat) ν := by
        rw [s_bringIn_38, if_neg (by omega), hix, if_neg z, show (k : Int) + 1 = ((k + 1 : Nat) : Int) by omega]
      rw [e1]
      obtain ⟨ν', i1, i2, i3⟩ := bring_l (s := s) (i := i) (p := p) u0 d m (k + 1) ν (by omega) (by omega) g3 g4 g5 g6
      refine ⟨ν', i1, i2, fun o => ?_⟩
      rw [i3 o]
      by_cases y : o = u.toNat + k
      · rw [if_neg (show ¬ (u + ((k + 1 : Nat) : Int) ≤ (o : Int) ∧ (o : Int) < u + ((k + 1 : Nat) : Int) + m ∧ _) by omega), if_neg (fun w => z (by rw [← y]; exact w.2.2))]
      · by_cases w : u + k ≤ (o : Int) ∧ (o : Int) < u + k + ((m + 1 : Nat) : Int) ∧ ν (1000 + (ν 101 (mj s i)).toNat) o = 0
        · rw [if_pos w, if_pos ⟨by omega, by omega, w.2.2⟩]
        · rw [if_neg w, if_neg (fun x => w ⟨by omega, by omega, x.2.2⟩)]
end R32
