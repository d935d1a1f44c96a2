section R35
variable {κ μ κ' μ' κ1 μ1 κc μc : Nat → Nat → Int} {O O' : Nat → Nat}
/-- the frame that is taken, in both -/
def fT (κ μ : Nat → Nat → Int) (O : Nat → Nat) (p : Int) : Prop :=
  κ 3 p.toNat = μ 45 0 ∧ κ 4 p.toNat = μ 46 0 ∧ κ 5 p.toNat = μ 47 0 ∧ κ 6 p.toNat = μ 48 0 ∧ κ 9 p.toNat = μ 49 0 ∧ 0 ≤ κ 8 p.toNat ∧ (0 < κ 9 p.toNat → 0 ≤ κ 7 p.toNat ∧ κ 7 p.toNat < κ 602 0 ∧ ¬ O (κ 7 p.toNat).toNat % 4 = 3) ∧ ∀ j : Nat, (j : Int) < κ 9 p.toNat → κ (1000 + (κ 7 p.toNat).toNat) ((κ 8 p.toNat).toNat + j) = μ 50 j
theorem fT_mv {p : Int} (h : fT κ μ O p) (hr : rowS κ κ' O O') (hk : ∀ f, 3 ≤ f → f ≤ 9 → κ' f p.toNat = κ f p.toNat) (hm : ∀ f k, 45 ≤ f → f ≤ 50 → μ' f k = μ f k) : fT κ' μ' O' p := by
  obtain ⟨a1, a2, a3, a4, a5, a6, a7, a8⟩ := h
  unfold fT
  rw [hk 3 (by omega) (by omega), hk 4 (by omega) (by omega), hk 5 (by omega) (by omega), hk 6 (by omega) (by omega), hk 7 (by omega) (by omega), hk 8 (by omega) (by omega), hk 9 (by omega) (by omega), hm 45 _ (by omega) (by omega), hm 46 _ (by omega) (by omega), hm 47 _ (by omega) (by omega), hm 48 _ (by omega) (by omega), hm 49 _ (by omega) (by omega)]
  refine ⟨a1, a2, a3, a4, a5, a6, fun z => ?_, fun j hj => ?_⟩
  · obtain ⟨x, y, w⟩ := a7 z
    obtain ⟨_, _, r3, _⟩ := hr.2 _ (show (((κ 7 p.toNat).toNat : Nat) : Int) < κ 602 0 by omega)
    have := hr.1
    refine ⟨x, by omega, ?_⟩
    rw [r3]; exact w
  · obtain ⟨x, y, w⟩ := a7 (by omega)
    obtain ⟨_, _, _, r4⟩ := hr.2 _ (show (((κ 7 p.toNat).toNat : Nat) : Int) < κ 602 0 by omega)
    rw [r4, hm 50 _ (by omega) (by omega)]; exact a8 j hj
theorem growIfOver_o0 {s i : Int} (h3 : 0 ≤ i) : (∀ f k, f ≠ 113 → f ≠ 360 → f ≠ 405 → s_growIfOver κ s i f k = κ f k) ∧ (∀ k, k ≠ mj s i → s_growIfOver κ s i 113 k = κ 113 k) ∧ ∀ k, k % 16 = 4 → s_growIfOver κ s i 360 k = κ 360 k := by
  have hwy := kWayOf_b h3
  refine ⟨fun f k x y z => s_growIfOver_fr (by
      simp only [List.elem_eq_mem, List.mem_cons, List.not_mem_nil, or_false, Bool.not_eq_true', decide_eq_false_iff_not]
      omega), fun k x => ?_, fun k x => ?_⟩
  · rw [growIfOver_e]
    split
    · split
      · exact u2_n (by omega)
      · rw [u2_n (by omega), u2_n (by omega), u2_n (by omega)]
    · rfl
  · rw [growIfOver_e]
    split
    · split
      · exact u2_n (by omega)
      · rw [u2_n (by omega), u2_n (by omega), u2_n (by omega)]
    · rfl
/-- bytes have been brought in: the relation behind it -/
theorem live_a (hV : mV μ) (hR : kRel κ μ O) {s i : Int} (h1 : 0 ≤ s) (h2 : s ≤ 1) (h3 : 0 ≤ i) (h4 : i < 256) (hp : κ 190 (mj s i) = 1) {κb μ2 : Nat → Nat → Int} {R3 : Nat} (z28 : μ 28 (mj s i) = 0) (w26 : 0 ≤ μ 26 (mj s i) → 0 ≤ μ2 26 (mj s i)) (h26' : 0 ≤ μ2 26 (mj s i) → μ2 25 (mj s i) ≤ μ2 26 (mj s i)) (hrec : v_received μ s + (μ2 25 (mj s i) - μ 25 (mj s i)) ≤ μ 11 s.toNat)
    (kb : ∀ f k, ¬ ((f = 101 ∨ f = 103 ∨ f = 104 ∨ f = 105) ∧ k = mj s i) → ¬ (f = 312 ∧ k = s.toNat) → ¬ ((f = 600 ∨ f = 601) ∧ κ 602 0 ≤ (k : Int)) → ¬ (1000 ≤ f ∧ κ 602 0 ≤ ((f - 1000 : Nat) : Int)) → f ≠ 602 → f ≠ 1000 + (κ 101 (mj s i)).toNat → κb f k = κ f k)
    (x2 : κ 602 0 ≤ κb 602 0) (x3 : κb 101 (mj s i) = R3) (x4 : 2 ≤ R3) (x5 : (R3 : Int) < κb 602 0) (x6 : (R3 : Int) = κ 101 (mj s i) ∨ κ 602 0 ≤ (R3 : Int)) (x7 : κb 601 R3 = 3) (x8 : 0 ≤ κb 600 R3) (x9 : κb 600 R3 ≤ 2 * μ2 25 (mj s i)) (hcell : ∀ o : Nat, κb (1000 + R3) o = mX μ2 s i o) (x12 : κ 103 (mj s i) ≤ κb 103 (mj s i)) (x14 : ∀ o : Nat, κ 103 (mj s i) ≤ o → (o : Int) < κb 103 (mj s i) → ¬ κb (1000 + R3) o = 0) (x15 : κb (1000 + R3) (κb 103 (mj s i)).toNat = 0)
    (kb104 : κb 104 (mj s i) = μ2 25 (mj s i)) (kb105 : κb 105 (mj s i) = μ2 26 (mj s i)) (kb312 : κb 312 s.toNat = κ 312 s.toNat + (μ2 25 (mj s i) - μ 25 (mj s i))) (kb102 : κb 102 (mj s i) = κ 102 (mj s i)) (kb100 : κb 100 (mj s i) = κ 100 (mj s i)) (kin : ∀ o : Nat, ¬ mX μ2 s i o = 0 → (o : Int) < μ2 25 (mj s i) ∧ (o : Int) < κb 600 R3) (old : ∀ o : Nat, ¬ mX μ s i o = 0 → ¬ mX μ2 s i o = 0) (ready : κb 103 (mj s i) ≤ μ2 25 (mj s i))
    (n2 : ∀ f k, ¬ ((f = 25 ∨ f = 26) ∧ k = mj s i) → ¬ (40 ≤ f ∧ f ≤ 44) → μ2 f k = μ f k) (m6 : ∀ t j : Int, 0 ≤ t → t ≤ 1 → ¬ (t = s ∧ j = i) → mX μ2 t j = mX μ t j) (mZ2 : mHz μ2) : kRel (s_settle κb s i) μ2 (rcO O (κ 602 0) (mj s i)) := by
  obtain ⟨b1, b2', b3⟩ := (hR.B h1 h2 h3 h4).2.1 hp
  have t1 := b1.1
  have t12 := b1.2.2.2.2.2.2.2.2.2.2.2
  have c1 := b3.1
  have c3 := b3.2.2.1
  clear b1 b2' b3
  have g : ∀ f, f ≠ 100 → ∀ k, s_settle κb s i f k = κb f k := fun f y k => by rw [settle_e, u2_f y]
  refine take_R hV hR h1 h2 h3 h4 hp (R3 := R3) (fun f k y1 y2 y3 y4 y5 y6 => ?_) (by rw [g 602 (by decide)]; exact x2) (by rw [g 101 (by decide)]; exact x3) x4 (by rw [g 602 (by decide)]; exact x5) x6 (by rw [g 601 (by decide)]; exact x7) (by rw [g 600 (by decide)]; exact x8) (by rw [g 600 (by decide)]; exact x9) (by rw [g 104 (by decide)]; exact kb104) (by rw [g 105 (by decide)]; exact kb105) (by rw [g 312 (by decide)]; exact kb312) (fun o => by rw [g _ (by omega)]; exact hcell o) (by rw [g 103 (by decide)]; exact Int.le_trans c1 x12) (fun o ho => ?_) (by rw [g 103 (by decide), ← hcell]; exact x15) (fun o z => by rw [g 600 (by decide)]; exact kin o z) ?_ n2 (fun z => by rw [z28] at z; exact absurd z (by decide)) h26' hrec m6 mZ2
  · rw [settle_e, u2_n (fun z => y1 ⟨Or.inl z.1, z.2⟩), kb f k (fun z => y1 ⟨Or.inr z.1, z.2⟩) y2 y3 y4 y5 y6]
  · rw [g 103 (by decide)] at ho
    by_cases z : κ 103 (mj s i) ≤ (o : Int)
    · rw [← hcell]; exact x14 o z ho
    · exact old o (c3 o (by omega))
  · rw [g 103 (by decide), settle_e, u2_s, kb105, kb102, kb100, if_pos z28]
    clear n2 m6 mZ2 kin old hcell kb x14 x15 c3 g
    by_cases w : 0 ≤ μ2 26 (mj s i)
    · have := h26' w
      rw [if_pos w, if_pos w]
      by_cases w2 : μ2 26 (mj s i) ≤ κb 103 (mj s i)
      · rw [if_pos w2]
        by_cases w3 : μ2 26 (mj s i) ≤ κ 102 (mj s i)
        · rw [if_pos w3, if_pos (by omega)]
        · rw [if_neg w3, if_neg (by omega), if_pos (by omega)]
      · rw [if_neg w2, if_neg (by omega), if_neg (by omega)]
    · rw [if_neg w, if_neg w, t12, if_pos z28, if_neg (fun y => w (w26 y))]
/-- .. and what follows it -/
theorem live_b (hK : kQ κ) (hI : kInv κ) {s i : Int} (h1 : 0 ≤ s) (h2 : s ≤ 1) (h3 : 0 ≤ i) (h4 : i < 256) (hp : κ 190 (mj s i) = 1) {κs μ2 : Nat → Nat → Int} {O2 : Nat → Nat} (hl : κ 100 (mj s i) = 0 ∨ κ 100 (mj s i) = 1) (mV2 : mV μ2) (hR' : kRel κs μ2 O2)
    (hS : ∀ f k, f < 600 → ¬ ((f = 100 ∨ f = 101 ∨ f = 103 ∨ f = 104 ∨ f = 105) ∧ k = mj s i) → f ≠ 312 → κs f k = κ f k) (h100 : κs 100 (mj s i) = 0 → κ 100 (mj s i) = 0) : ∃ O', kRel (s_growIfOver κs s i) (s_looksOver μ2 s i) O' ∧ kInv (s_growIfOver κs s i) := by
  have k204 : 0 ≤ κ 204 (mj s i) := (hK _).1
  have k113 : 0 ≤ κ 113 (mj s i) ∧ κ 113 (mj s i) ≤ 1 := ⟨(hK _).2.1, (hK _).2.2.1⟩
  have hIo := ((hI s h1 h2).2 i h3 h4).2 hp
  have q : ∀ f, f < 600 → f ≠ 100 → f ≠ 101 → f ≠ 103 → f ≠ 104 → f ≠ 105 → f ≠ 312 → ∀ k, κs f k = κ f k := fun f a b c d e g h k => hS f k a (fun z => by omega) h
  have o := R_over mV2 hR' h1 h2 h3 h4 (by rw [q 204 (by decide) (by decide) (by decide) (by decide) (by decide) (by decide) (by decide)]; exact k204) (by rw [q 113 (by decide) (by decide) (by decide) (by decide) (by decide) (by decide) (by decide)]; exact k113) (fun y1 y2 y3 => by
    rw [q 113 (by decide) (by decide) (by decide) (by decide) (by decide) (by decide) (by decide)] at y3
    obtain ⟨w1, w2⟩ := (hIo y2).mp y3
    omega)
  refine ⟨_, o.1, ?_⟩
  obtain ⟨fo, fo2, fo3⟩ := growIfOver_o0 (κ := κs) (s := s) (i := i) h3
  refine Inv_st hI h1 h2 h3 h4 (fun f k x y => ?_) (fun f k x => ?_) (fun f k x y => ?_) (fun k x => by rw [fo3 _ x, q 360 (by decide) (by decide) (by decide) (by decide) (by decide) (by decide) (by decide)]) (iD_cg (fun f x => ?_) (by rw [fo3 _ (by omega), q 360 (by decide) (by decide) (by decide) (by decide) (by decide) (by decide) (by decide)]) (hI s h1 h2).1) (fun x y => ?_) o.2
  · by_cases w : f = 113
    · rw [w, fo2 k y, q 113 (by decide) (by decide) (by decide) (by decide) (by decide) (by decide) (by decide)]
    · clear o hR'
      rw [fo _ _ w (by omega) (by omega), hS _ _ (by omega) (fun z => y z.2) (by omega)]
  · clear o hR'
    rw [fo _ _ (by omega) (by omega) (by omega), hS _ _ (by omega) (by omega) (by omega)]
  · clear o hR'
    rw [fo _ _ (by omega) (by omega) (by omega), hS _ _ (by omega) (by omega) (by omega)]
  · clear o hR'
    rw [fo _ _ (by omega) (by omega) (by omega), hS _ _ (by omega) (by omega) (by omega)]
  · rw [fo 102 _ (by decide) (by decide) (by decide), fo 106 _ (by decide) (by decide) (by decide), fo 107 _ (by decide) (by decide) (by decide), q 102 (by decide) (by decide) (by decide) (by decide) (by decide) (by decide) (by decide), q 106 (by decide) (by decide) (by decide) (by decide) (by decide) (by decide) (by decide), q 107 (by decide) (by decide) (by decide) (by decide) (by decide) (by decide) (by decide)]
    rw [fo 100 _ (by decide) (by decide) (by decide)] at y
    exact ((hI s h1 h2).2 i h3 h4).1 hp (h100 y)
end R35
