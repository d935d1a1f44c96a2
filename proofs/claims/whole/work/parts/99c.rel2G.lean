section R34
variable {κ μ κ' μ' κ1 μ1 : Nat → Nat → Int} {O O' : Nat → Nat}
/-- rows owned by a receiving part -/
def rcO (O : Nat → Nat) (c : Int) (k : Nat) : Nat → Nat := fun r => if (r : Int) < c then O r else 4 * k + 3
set_option maxHeartbeats 4000000 in
theorem take_R (hV : mV μ) (hR : kRel κ μ O) {s i : Int} (h1 : 0 ≤ s) (h2 : s ≤ 1) (h3 : 0 ≤ i) (h4 : i < 256) (hp : κ 190 (mj s i) = 1) {R3 : Nat}
    (hk : ∀ f k, ¬ ((f = 100 ∨ f = 101 ∨ f = 103 ∨ f = 104 ∨ f = 105) ∧ k = mj s i) → ¬ (f = 312 ∧ k = s.toNat) → ¬ ((f = 600 ∨ f = 601) ∧ κ 602 0 ≤ (k : Int)) → ¬ (1000 ≤ f ∧ κ 602 0 ≤ ((f - 1000 : Nat) : Int)) → f ≠ 602 → f ≠ 1000 + (κ 101 (mj s i)).toNat → κ' f k = κ f k)
    (k602 : κ 602 0 ≤ κ' 602 0) (k101 : κ' 101 (mj s i) = R3) (kr0 : 2 ≤ R3) (kr1 : (R3 : Int) < κ' 602 0) (kr2 : (R3 : Int) = κ 101 (mj s i) ∨ κ 602 0 ≤ (R3 : Int)) (k601 : κ' 601 R3 = 3) (k600 : 0 ≤ κ' 600 R3) (k600' : κ' 600 R3 ≤ 2 * μ' 25 (mj s i))
    (k104 : κ' 104 (mj s i) = μ' 25 (mj s i)) (k105 : κ' 105 (mj s i) = μ' 26 (mj s i)) (k312 : κ' 312 s.toNat = κ 312 s.toNat + (μ' 25 (mj s i) - μ 25 (mj s i)))
    (kcell : ∀ o : Nat, κ' (1000 + R3) o = mX μ' s i o) (k103a : κ 102 (mj s i) ≤ κ' 103 (mj s i)) (k103b : ∀ o : Nat, (o : Int) < κ' 103 (mj s i) → ¬ mX μ' s i o = 0) (k103c : mX μ' s i (κ' 103 (mj s i)).toNat = 0) (kin : ∀ o : Nat, ¬ mX μ' s i o = 0 → (o : Int) < μ' 25 (mj s i) ∧ (o : Int) < κ' 600 R3)
    (k100 : κ' 100 (mj s i) = (if μ 28 (mj s i) = 0 then (if 0 ≤ μ' 26 (mj s i) then (if μ 27 (mj s i) = μ' 26 (mj s i) then 3 else (if κ' 103 (mj s i) = μ' 26 (mj s i) then 2 else 1)) else 0) else 4))
    (hm : ∀ f k, ¬ ((f = 25 ∨ f = 26) ∧ k = mj s i) → ¬ (40 ≤ f ∧ f ≤ 44) → μ' f k = μ f k) (h26 : μ 28 (mj s i) = 1 → μ' 26 (mj s i) = μ 26 (mj s i)) (h26' : 0 ≤ μ' 26 (mj s i) → μ' 25 (mj s i) ≤ μ' 26 (mj s i))
    (hrec : v_received μ s + (μ' 25 (mj s i) - μ 25 (mj s i)) ≤ μ 11 s.toNat) (hX : ∀ t j : Int, 0 ≤ t → t ≤ 1 → ¬ (t = s ∧ j = i) → mX μ' t j = mX μ t j) (hZ : mHz μ') : kRel κ' μ' (rcO O (κ 602 0) (mj s i)) := by
  have hB := hR.B h1 h2 h3 h4
  obtain ⟨b1, b2', b3⟩ := hB.2.1 hp
  obtain ⟨t1, t2, t3, t4, t5, t6, t7, t8, t9, t10, t11, t12⟩ := b1
  obtain ⟨c1, c2, c3, c4, c5, c6, c7⟩ := b3
  obtain ⟨p1, p2, p3, p4, p5, p6⟩ := b2'
  have k2 : 2 ≤ κ 602 0 := hR.1.2.2.2.2.2.2.2
  have v28 : 0 ≤ μ 28 (mj s i) ∧ μ 28 (mj s i) ≤ 1 := hV 28 _
  have hO : ∀ r : Nat, (r : Int) < κ 602 0 → rcO O (κ 602 0) (mj s i) r = O r := fun r x => if_pos x
  refine Rel_st hV hR h1 h2 h3 h4 (fun f k x => ?_) (fun f k x => hm f k (by unfold mCh at x; omega) (by unfold mCh at x; omega)) k602 hO (by rw [hk _ _ (by omega) (by omega) (by omega) (by omega) (by omega) (by omega)]; exact Int.le_refl _) (fun _ => by rw [hk _ _ (by omega) (by omega) (by omega) (by omega) (by omega) (by omega)]; exact Int.le_refl _) (fun x => by rw [hm _ _ (by omega) (by omega)]; exact x) (fun t j a b _ _ z => hX t j a b z) hZ ?_ ?_ ?_ ?_
  · unfold kCh at x
    refine hk f k (by omega) (by omega) (by omega) (by omega) (by omega) (fun z => x (Or.inr (Or.inl ⟨by omega, Or.inr (Or.inl ?_)⟩)))
    rw [z, show 1000 + (κ 101 (mj s i)).toNat - 1000 = (κ 101 (mj s i)).toNat by omega]
    exact p4
  · obtain ⟨q1, q2, q3, q4, q5, q6, q7, q8, q9, q10, q11, q12, q13, q14, q15⟩ := hR.S h1 h2
    have hrc : v_received μ' s = v_received μ s + (μ' 25 (mj s i) - μ 25 (mj s i)) := received_up h1 h3 h4 (fun k z => hm _ _ (by omega) (by omega))
    have hcc : v_consumed μ' s = v_consumed μ s := by
      rw [consumed_up (μ := μ) h1 h3 h4 (fun f k a z => hm _ _ (by omega) (by omega)), hm 28 _ (by omega) (by omega), hm 27 _ (by omega) (by omega)]
      by_cases z : μ 28 (mj s i) = 0
      · rw [if_pos z, if_pos z]; omega
      · rw [if_neg z, if_neg z, h26 (by omega)]; omega
    have hall : mAll μ' s (mTot μ' s) = mAll μ s (mTot μ s) := by
      rw [mTot_cg (μ' := μ) (fun k => hm _ _ (by omega) (by omega))]
      exact mAll_cgr _ (fun q _ => hm _ _ (by omega) (by omega))
    have hh : ∀ f k, f < 600 → ¬ (100 ≤ f ∧ f ≤ 105) → f ≠ 312 → κ' f k = κ f k := fun f k x y z => hk _ _ (by omega) (by omega) (by omega) (by omega) (by omega) (by omega)
    unfold rS
    rw [hrc, hcc, hall, k312, hh 308 _ (by omega) (by omega) (by omega), hh 309 _ (by omega) (by omega) (by omega), hh 310 _ (by omega) (by omega) (by omega), hh 311 _ (by omega) (by omega) (by omega), hh 313 _ (by omega) (by omega) (by omega), hh 314 _ (by omega) (by omega) (by omega), hh 315 _ (by omega) (by omega) (by omega), hh 307 _ (by omega) (by omega) (by omega), hh 306 _ (by omega) (by omega) (by omega), hm 36 _ (by omega) (by omega), hm 7 _ (by omega) (by omega), hm 14 _ (by omega) (by omega), hm 11 _ (by omega) (by omega), hm 12 _ (by omega) (by omega), hm 16 _ (by omega) (by omega), hm 1 _ (by omega) (by omega)]
    refine ⟨q1, q2, q3, q4, by omega, q6, q7, q8, q9, fun x x1 x2 => ?_, fun y x x1 x2 => ?_, q12, by omega, q14, fun y => ⟨(q15 y).1, fun x x1 x2 => ?_⟩⟩
    · rw [hh 360 _ (by omega) (by omega) (by omega), hm 6 _ (by omega) (by omega)]; exact q10 x x1 x2
    · rw [hh 361 _ (by omega) (by omega) (by omega), hm 6 _ (by omega) (by omega)]; exact q11 y x x1 x2
    · rw [hm 17 _ (by omega) (by omega)]; exact (q15 y).2 x x1 x2
  · intro w w0 w1
    exact rW_cg h1 h2 w0 w1 (fun f a b => hk _ _ (by omega) (by omega) (by omega) (by omega) (by omega) (by omega)) (hk _ _ (by omega) (by omega) (by omega) (by omega) (by omega) (by omega)) (fun f a => hm _ _ (by omega) (by omega)) (hm _ _ (by omega) (by omega)) (hm _ _ (by omega) (by omega)) (hm _ _ (by omega) (by omega)) (hm _ _ (by omega) (by omega)) (hR.W h1 h2 w0 w1)
  · have hAm := rA_m (μ := μ) (μ' := μ') (s := s) (i := i) (fun f a b k => hm _ _ (by omega) (by omega))
    refine rA_cg (fun f a => hk _ _ (by omega) (by omega) (by omega) (by omega) (by omega) (by omega)) (fun r a b c => ⟨hk _ _ (by omega) (by omega) (by omega) (by omega) (by omega) (by omega), hk _ _ (by omega) (by omega) (by omega) (by omega) (by omega) (by omega), hO r b, fun o => hk _ _ (by omega) (by omega) (by omega) (by omega) (by omega) (fun z => ?_)⟩) k602 (fun f a b => hm _ _ (by omega) (by omega)) hAm.1 hAm.2 (hR.A h1 h2 h3 h4)
    rw [show r = (κ 101 (mj s i)).toNat by omega, p4] at c
    omega
  · have hh : ∀ f, f = 190 ∨ f = 102 ∨ (106 ≤ f ∧ f ≤ 113) → κ' f (mj s i) = κ f (mj s i) := fun f x => hk _ _ (by omega) (by omega) (by omega) (by omega) (by omega) (by omega)
    refine ⟨by rw [hh 190 (by omega), hm 17 _ (by omega) (by omega)]; exact hB.1, fun _ => ⟨?_, ?_, ?_⟩, fun z => absurd (by rw [hh 190 (by omega)]; exact hp) z⟩
    · unfold rB1
      rw [k100, k104, k105, hh 102 (by omega), hh 106 (by omega), hh 107 (by omega), hh 108 (by omega), hh 109 (by omega), hh 110 (by omega), hh 111 (by omega), hh 112 (by omega), hh 113 (by omega), hm 27 _ (by omega) (by omega), hm 28 _ (by omega) (by omega), hm 29 _ (by omega) (by omega), hm 30 _ (by omega) (by omega), hm 31 _ (by omega) (by omega), hm 32 _ (by omega) (by omega), hm 33 _ (by omega) (by omega), hm 34 _ (by omega) (by omega), hm 35 _ (by omega) (by omega), hm 6 _ (by omega) (by omega)]
      exact ⟨t1, rfl, rfl, t4, t5, t6, t7, t8, t9, t10, t11, rfl⟩
    · unfold rB2
      rw [k101, k104]
      simp only [Int.toNat_natCast]
      refine ⟨by omega, kr1, k601, ?_, k600', k600⟩
      rcases kr2 with z | z
      · rw [hO _ (by omega), show R3 = (κ 101 (mj s i)).toNat by omega]; exact p4
      · unfold rcO
        rw [if_neg (by omega)]
    · unfold rB3
      rw [k101, k104, hh 102 (by omega)]
      simp only [Int.toNat_natCast]
      refine ⟨k103a, kcell, k103b, k103c, kin, h26', fun z => ?_⟩
      rw [hm 28 _ (by omega) (by omega)] at z
      rw [h26 z]; exact c7 z
end R34
