section R10
variable {κ μ κ' μ' : Nat → Nat → Int} {O O' : Nat → Nat}
theorem Rel_H (hV : mV μ) (hR : kRel κ μ O) (hk : ∀ f k, ¬ ((f = 505 ∨ f = 506) ∧ k = 0) → ¬ (f = 1000 ∨ f = 1001) → κ' f k = κ f k) (hm : ∀ f k, ¬ (f = 0 ∨ (45 ≤ f ∧ f ≤ 50)) → ¬ (2 ≤ f ∧ f ≤ 5) → μ' f k = μ f k) (hH : rH κ' μ' O) : kRel κ' μ' O := by
  have e602 : κ' 602 0 = κ 602 0 := hk _ _ (by omega) (by omega)
  have hX : ∀ t j : Int, mX μ' t j = mX μ t j := fun t j => mX_cg (fun f hf k => by
    simp only [List.elem_eq_mem, decide_eq_true_eq, List.mem_cons, List.not_mem_nil, or_false] at hf
    exact hm f k (by omega) (by omega))
  refine ⟨hH, ?_, ?_, mHz_cg (fun f k a => hm f k (by omega) (by omega)) hR.2.2.2⟩
  · intro s h1 h2
    obtain ⟨q1, q2, q3⟩ := hR.2.1 s h1 h2
    refine ⟨?_, ?_, fun i h3 h4 => ?_⟩
    · exact rS_cg h1 h2 (fun f a b => hk _ _ (by omega) (by omega)) (fun f k a b c => hk _ _ (by omega) (by omega)) (fun f a => hm _ _ (by omega) (by omega)) (hm _ _ (by omega) (by omega)) (hm _ _ (by omega) (by omega)) (hm _ _ (by omega) (by omega)) (fun k => hm _ _ (by omega) (by omega)) (fun j _ _ => hm _ _ (by omega) (by omega)) (by rw [mTot_cg (fun k => hm 36 k (by omega) (by omega))]; exact mAll_cgr _ (fun q hq => hm _ _ (by omega) (by omega))) (v_received_cg (fun f hf k => by
        simp only [List.elem_eq_mem, decide_eq_true_eq, List.mem_cons, List.not_mem_nil, or_false] at hf
        exact hm f k (by omega) (by omega))) (v_consumed_cg (fun f hf k => by
        simp only [List.elem_eq_mem, decide_eq_true_eq, List.mem_cons, List.not_mem_nil, or_false] at hf
        exact hm f k (by omega) (by omega))) q1
    · exact fun w w0 w1 => rW_cg h1 h2 w0 w1 (fun f a b => hk _ _ (by omega) (by omega)) (hk _ _ (by omega) (by omega)) (fun f a => hm _ _ (by omega) (by omega)) (hm _ _ (by omega) (by omega)) (hm _ _ (by omega) (by omega)) (hm _ _ (by omega) (by omega)) (hm _ _ (by omega) (by omega)) (q2 w w0 w1)
    · obtain ⟨c1, c2, c3⟩ := q3 i h3 h4
      have hAm := rA_m (μ := μ) (μ' := μ') (s := s) (i := i) (fun f a b k => hm f k (by omega) (by omega))
      refine ⟨rT_cg (by rw [hk _ _ (by omega) (by omega)]; exact Int.le_refl _) (hm _ _ (by omega) (by omega)) (hm _ _ (by omega) (by omega)) (hm _ _ (by omega) (by omega)) c1, ?_, ?_⟩
      · exact rA_cg (fun f a => hk _ _ (by omega) (by omega)) (fun r a b c => ⟨hk _ _ (by omega) (by omega), hk _ _ (by omega) (by omega), rfl, fun o => hk _ _ (by omega) (by omega)⟩) (by omega) (fun f a b => hm _ _ (by omega) (by omega)) hAm.1 hAm.2 c2
      · exact rB_cg (fun f a => hk _ _ (by omega) (by omega)) (fun r a b c => ⟨hk _ _ (by omega) (by omega), hk _ _ (by omega) (by omega), rfl, fun o => hk _ _ (by omega) (by omega)⟩) (by omega) (fun f a => hm _ _ (by omega) (by omega)) (fun _ => hm _ _ (by omega) (by omega)) (hX s i) c3
  · intro p hp
    have hf := hR.2.2.1 p hp
    refine rF_cg (fun f a => hk _ _ (by omega) (by omega)) (fun f a b => hm _ _ (by omega) (by omega)) (fun j a => hm _ _ (by omega) (by omega)) hV (fun k a => by rw [hk _ _ (by omega) (by omega)]; exact a) (fun k a => ⟨by rw [hk _ _ (by omega) (by omega)]; exact a, by rw [hk _ _ (by omega) (by omega)]; exact Int.le_refl _, fun z => by rw [hm _ _ (by omega) (by omega)]; exact z⟩) (by omega) (fun r a b c d => ⟨hk _ _ (by omega) (by omega), hk _ _ (by omega) (by omega), rfl⟩) (fun a b j c => ?_) hf
    have := ((hf.2 a).2.2.2 b).2.2.2.2.2.1
    exact hk _ _ (by omega) (by omega)
theorem Inv_cg (hI : kInv κ) (hk : ∀ f k, f = 100 ∨ f = 102 ∨ f = 106 ∨ f = 107 ∨ f = 113 ∨ f = 200 ∨ f = 190 ∨ f = 290 ∨ f = 313 ∨ f = 314 → κ' f k = κ f k) (h36 : ∀ k, k % 16 = 4 → κ' 360 k = κ 360 k) : kInv κ' := by
  intro t g1 g2
  obtain ⟨a, b⟩ := hI t g1 g2
  refine ⟨iD_cg (fun f z => hk _ _ (by omega)) (h36 _ (by omega)) a, fun j g3 g4 => ?_⟩
  obtain ⟨c, d⟩ := b j g3 g4
  exact ⟨iG_cg (fun f z => hk _ _ (by omega)) c, iO_cg (fun f z => hk _ _ (by omega)) d⟩
theorem feed_b {v k : Int} (h1 : 0 ≤ k) (h2 : k < 8) : wB (v % 18446744073709551616 / 2 ^ (8 * k).toNat) = wB ((v / 2 ^ (8 * k).toNat) % 256) := by
  unfold wB
  rcases (show k = 0 ∨ k = 1 ∨ k = 2 ∨ k = 3 ∨ k = 4 ∨ k = 5 ∨ k = 6 ∨ k = 7 by omega) with rfl | rfl | rfl | rfl | rfl | rfl | rfl | rfl
  · rw [show (2 : Int) ^ (8 * (0 : Int)).toNat = 1 from rfl]; omega
  · rw [show (2 : Int) ^ (8 * (1 : Int)).toNat = 256 from rfl]; omega
  · rw [show (2 : Int) ^ (8 * (2 : Int)).toNat = 65536 from rfl]; omega
  · rw [show (2 : Int) ^ (8 * (3 : Int)).toNat = 16777216 from rfl]; omega
  · rw [show (2 : Int) ^ (8 * (4 : Int)).toNat = 4294967296 from rfl]; omega
  · rw [show (2 : Int) ^ (8 * (5 : Int)).toNat = 1099511627776 from rfl]; omega
  · rw [show (2 : Int) ^ (8 * (6 : Int)).toNat = 281474976710656 from rfl]; omega
  · rw [show (2 : Int) ^ (8 * (7 : Int)).toNat = 72057594037927936 from rfl]; omega
theorem feed_l {n v : Int} (hn : n ≤ 8) : ∀ (d : Nat) (k : Int) (ν κν : Nat → Nat → Int), 0 ≤ k → k ≤ n → n - k < d → κν 505 0 = ν 3 0 → 0 ≤ ν 3 0 → (∀ j : Nat, (j : Int) < ν 3 0 + k → κν 1000 j = wB (ν 2 j)) →
    s_feed_30 μ n v d k ν 3 0 = ν 3 0 + n ∧ s_kFeed_16 κ n v d k κν 505 0 = ν 3 0 + n ∧ v_feed_30 μ n v d k ν = ν 3 0 + n ∧ v_kFeed_16 κ n v d k κν = ν 3 0 + n ∧ (∀ j : Nat, (j : Int) < ν 3 0 + n → s_kFeed_16 κ n v d k κν 1000 j = wB (s_feed_30 μ n v d k ν 2 j)) ∧ (∀ f q, f ≠ 2 → ¬ (f = 3 ∧ q = 0) → s_feed_30 μ n v d k ν f q = ν f q) ∧ ∀ f q, f ≠ 1000 → ¬ (f = 505 ∧ q = 0) → s_kFeed_16 κ n v d k κν f q = κν f q
  | 0, k, ν, κν, g1, g2, g3, g4, g5, g6 => by omega
  | d + 1, k, ν, κν, g1, g2, g3, g4, g5, g6 => by
    rw [s_feed_30, s_kFeed_16, v_feed_30, v_kFeed_16]
    by_cases e : n ≤ k
    · rw [if_pos e, if_pos e, if_pos e, if_pos e]
      have ek : k = n := by omega
      subst ek
      refine ⟨u2_s _ _ _ _, by rw [u2_s, g4], rfl, by rw [g4], fun j hj => ?_, fun f q a b => u2_n b, fun f q a b => u2_n b⟩
      rw [u2_f (by decide), u2_f (by decide)]
      exact g6 j hj
    · rw [if_neg e, if_neg e, if_neg e, if_neg e]
      have ih := feed_l (n := n) (v := v) hn d (k + 1) (u2 ν 2 (ν 3 0 + k).toNat (v / 2 ^ (8 * k).toNat % 256)) (u2 κν (1000 + 0) (κν 505 0 + k).toNat (wB (v % 18446744073709551616 / 2 ^ (8 * k).toNat))) (by omega) (by omega) (by omega) (by rw [u2_f (by decide), u2_f (by decide)]; exact g4) (by rw [u2_f (by decide)]; exact g5) (fun j hj => by
        rw [u2_f (by decide)] at hj
        by_cases z : j = (ν 3 0 + k).toNat
        · rw [show (1000 + 0 : Nat) = 1000 from rfl, g4, z, u2_s, u2_s]
          exact feed_b g1 (by omega)
        · rw [show (1000 + 0 : Nat) = 1000 from rfl, g4, u2_n (fun y => z y.2), u2_n (fun y => z y.2)]
          exact g6 j (by omega))
      rw [u2_f (by decide)] at ih
      obtain ⟨i1, i2, i3, i4, i5, i6, i7⟩ := ih
      refine ⟨i1, i2, i3, i4, i5, fun f q a b => ?_, fun f q a b => ?_⟩
      · rw [i6 f q a b, u2_f a]
      · rw [i7 f q a b, u2_f a]
theorem R_feed (hV : mV μ) (hR : kRel κ μ O) (hI : kInv κ) (n v : Int) : s_feed μ n v 0 0 = kR 2 (e_kFeed κ n v) ∧ (e_kFeed κ n v = 0 → v_feed μ n v = v_kFeed κ n v ∧ kRel (s_kFeed κ n v) (s_feed μ n v) O ∧ kInv (s_kFeed κ n v)) ∧ (¬ e_kFeed κ n v = 0 → kRel κ (s_feed μ n v) O) := by
  have he0 : ∀ (d : Nat) (k : Int) (ν : Nat → Nat → Int), e_kFeed_16 κ n v d k ν = 0 := by
    intro d
    induction d with
    | zero => intro _ _; rfl
    | succ d ih => intro k ν; rw [e_kFeed_16]; split; rfl; exact ih _ _
  have e5 : κ 505 0 = μ 3 0 := hR.1.1
  unfold s_feed e_kFeed v_feed v_kFeed s_kFeed
  rw [he0, e5]
  by_cases a : n < 1
  · simp only [if_pos a]
    exact ⟨by rw [u2_s]; rfl, fun z => absurd z (by decide), fun _ => Rel_u0 hV hR⟩
  · simp only [if_neg a]
    by_cases b : n ≤ 8
    · simp only [if_pos b]
      by_cases c : μ 3 0 + n ≤ 2048
      · simp only [if_pos c]
        have h3 : 0 ≤ μ 3 0 := (hV 3 0).1
        have v3 : (u2 (u2 μ 0 0 0) 0 0 0) 3 0 = μ 3 0 := by rw [u2_f (by decide), u2_f (by decide)]
        obtain ⟨i1, i2, i3, i4, i5, i6, i7⟩ := feed_l (μ := μ) (κ := κ) (n := n) (v := v) b 9 0 (u2 (u2 μ 0 0 0) 0 0 0) κ (by omega) (by omega) (by omega) (by rw [v3]; exact e5) (by rw [v3]; exact h3) (fun j hj => by
          rw [v3] at hj
          rw [u2_f (by decide), u2_f (by decide)]
          exact hR.1.2.2.2.1 j (by omega))
        rw [v3] at i1 i2 i3 i4 i5
        refine ⟨by rw [i6 _ _ (by decide) (by decide), u2_s]; rfl, fun _ => ⟨by rw [i3, i4], ?_, Inv_cg hI (fun f k z => i7 _ _ (by omega) (by omega)) (fun k z => i7 _ _ (by omega) (by omega))⟩, fun z => absurd trivial z⟩
        refine Rel_H hV hR (fun f k y z => i7 _ _ (by omega) (by omega)) (fun f k y z => by rw [i6 _ _ (by omega) (by omega), u2_f (by omega), u2_f (by omega)]) ?_
        obtain ⟨q1, q2, q3, q4, q5, q6, q7, q8⟩ := hR.1
        have em : ∀ f k, f ≠ 0 → f ≠ 2 → f ≠ 3 → s_feed_30 μ n v 9 0 (u2 (u2 μ 0 0 0) 0 0 0) f k = μ f k := fun f k x y z => by rw [i6 _ _ y (by omega), u2_f x, u2_f x]
        unfold rH
        rw [i1, i2, i7 506 0 (by decide) (by decide), i7 507 0 (by decide) (by decide), i7 600 0 (by decide) (by decide), i7 601 0 (by decide) (by decide), i7 600 1 (by decide) (by decide), i7 601 1 (by decide) (by decide), i7 602 0 (by decide) (by decide), em 5 0 (by decide) (by decide) (by decide), em 1 0 (by decide) (by decide) (by decide)]
        refine ⟨rfl, q2, q3, i5, fun j hj => ?_, q6, q7, q8⟩
        rw [i7 _ _ (by decide) (by omega), em 4 _ (by decide) (by decide) (by decide)]
        exact q5 j hj
      · simp only [if_neg c]
        refine ⟨by rw [u2_s]; rfl, fun z => absurd z (by decide), fun _ => Rel_0 hV hR (fun f k z => by rw [u2_f (by omega), u2_f (by omega)])⟩
    · simp only [if_neg b]
      exact ⟨by rw [u2_s]; rfl, fun z => absurd z (by decide), fun _ => Rel_u0 hV hR⟩
end R10
