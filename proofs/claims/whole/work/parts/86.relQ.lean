section R18
variable {κ μ κ' μ' κt : Nat → Nat → Int} {O O' : Nat → Nat}
theorem nwK_u {s i v : Int} {f0 k0 R1 R2 R3 : Nat} (h0 : f0 = 400 ∨ f0 = 404) (h : nwK κ κ' s i R1 R2 R3) : nwK (u2 κ f0 k0 v) (u2 κ' f0 k0 v) s i R1 R2 R3 := by
  obtain ⟨a, b, c, d, e, f, g⟩ := h
  have x : ∀ (κ : Nat → Nat → Int) (f k : Nat), f ≠ 400 → f ≠ 404 → u2 κ f0 k0 v f k = κ f k := fun κ f k y z => u2_f (by omega)
  unfold nwK
  rw [x κ 602 0 (by omega) (by omega), x κ' 602 0 (by omega) (by omega), x κ' 306 _ (by omega) (by omega), x κ 306 _ (by omega) (by omega)]
  refine ⟨fun f k y1 y2 y3 y4 y5 => ?_, b, c, fun z => ?_, fun z f y => ?_, fun z => ?_, fun z f y => ?_⟩
  · unfold u2
    split
    · rfl
    · exact a f k y1 y2 y3 y4 y5
  · have := d z
    simp (disch := omega) only [x]
    exact this
  · rw [x _ _ _ (by omega) (by omega), x _ _ _ (by omega) (by omega)]; exact e z f y
  · have := f z
    simp (disch := omega) only [x]
    exact this
  · rw [x _ _ _ (by omega) (by omega), x _ _ _ (by omega) (by omega)]; exact g z f y
/-- who owns the rows of a new stream -/
def nwO (O : Nat → Nat) (c : Int) (k R1 R2 : Nat) : Nat → Nat := fun r => if (r : Int) < c then O r else if r = R1 then 4 * k + 1 else if r = R2 then 4 * k + 2 else 4 * k + 3
theorem grantFor_e (s i g : Int) (h : 0 ≤ i) : (16 * s + v_grantFor g i).toNat = (16 * s + (if i / 2 % 2 = 1 then 7 else if i % 2 = g then 5 else 6)).toNat := by
  unfold v_grantFor
  rw [(kWayOf_b h).1]
/-- some ranges that stay -/
def kQ (κ : Nat → Nat → Int) : Prop := ∀ k, 0 ≤ κ 204 k ∧ 0 ≤ κ 113 k ∧ κ 113 k ≤ 1 ∧ 0 ≤ κ 360 k ∧ κ 306 k ≤ 256 ∧ -1 ≤ κ 307 k
theorem kV.q (hK : kV κ) : kQ κ := fun k => ⟨(hK.1 204 k).1, (hK.1 113 k).1, (hK.1 113 k).2 rfl, (hK.1 360 k).1, (hK.1 306 k).2 rfl, (hK.1 307 k).1⟩
set_option maxHeartbeats 8000000 in
theorem R_begin (hV : mV μ) (hR : kRel κ μ O) (hI : kInv κ) (hK : kQ κ) {s i : Int} (h1 : 0 ≤ s) (h2 : s ≤ 1) (h3 : 0 ≤ i) (h4 : i < 256) (hj : μ 1 0 = 1) (h17 : μ 17 (mj s i) = 0) {R1 R2 R3 : Nat}
    (hκ : ∀ f k, ¬ ((f = 400 ∨ f = 404) ∧ k = (2 * s + i / 2 % 2).toNat) → κt f k = κ f k) (hN : nwK κt κ' s i R1 R2 R3)
    (hm : ∀ f k, ¬ (f = 0 ∨ (45 ≤ f ∧ f ≤ 50)) → ¬ ((f = 17 ∨ f = 18 ∨ f = 30) ∧ k = mj s i) → ¬ ((f = 8 ∨ f = 9 ∨ f = 15) ∧ k = (2 * s + i / 2 % 2).toNat) → μ' f k = μ f k)
    (m17 : μ' 17 (mj s i) = 1) (m18 : μ' 18 (mj s i) = μ 6 (mg (1 - s) i).toNat) (m30 : μ' 30 (mj s i) = μ 6 (mg s i).toNat)
    (hcnt : (i % 2 = s ∧ i / 4 = μ 8 (2 * s + i / 2 % 2).toNat ∧ μ' 8 (2 * s + i / 2 % 2).toNat = μ 8 (2 * s + i / 2 % 2).toNat + 1 ∧ μ' 9 (2 * s + i / 2 % 2).toNat = μ 9 (2 * s + i / 2 % 2).toNat) ∨ (¬ i % 2 = s ∧ i / 4 = μ 9 (2 * s + i / 2 % 2).toNat ∧ μ' 9 (2 * s + i / 2 % 2).toNat = μ 9 (2 * s + i / 2 % 2).toNat + 1 ∧ μ' 8 (2 * s + i / 2 % 2).toNat = μ 8 (2 * s + i / 2 % 2).toNat))
    (hW : rW κ' μ' s (i / 2 % 2)) : kRel κ' μ' (nwO O (κ 602 0) (mj s i) R1 R2) ∧ kInv κ' ∧ kQ κ' := by
  obtain ⟨n1, n2, n3, n4, n5, n6, n7⟩ := hN
  have t602 : κt 602 0 = κ 602 0 := hκ _ _ (by omega)
  have t306 : κt 306 s.toNat = κ 306 s.toNat := hκ _ _ (by omega)
  rw [t602] at n1 n2 n4 n6
  rw [t306] at n3
  have h306 : κ 306 s.toNat ≤ κ' 306 s.toNat ∧ i + 1 ≤ κ' 306 s.toNat ∧ κ' 306 s.toNat ≤ 256 := by
    have : κ 306 s.toNat ≤ 256 := (hK _).2.2.2.2.1
    rw [n3]
    unfold v_maxI
    split <;> omega
  have k2 : 2 ≤ κ 602 0 := hR.1.2.2.2.2.2.2.2
  -- all that stays
  have hk : ∀ f k, ¬ (((100 ≤ f ∧ f ≤ 113) ∨ f = 190 ∨ (200 ≤ f ∧ f ≤ 211) ∨ f = 290) ∧ k = mj s i) → ¬ ((f = 600 ∨ f = 601) ∧ κ 602 0 ≤ (k : Int)) → ¬ (1000 ≤ f ∧ κ 602 0 ≤ ((f - 1000 : Nat) : Int)) → f ≠ 602 → ¬ (f = 306 ∧ k = s.toNat) → ¬ ((f = 400 ∨ f = 404) ∧ k = (2 * s + i / 2 % 2).toNat) → κ' f k = κ f k := fun f k x1 x2 x3 x4 x5 x6 => by
    rw [n1 f k x1 x2 x3 x4 x5, hκ f k x6]
  have hO : ∀ r : Nat, (r : Int) < κ 602 0 → nwO O (κ 602 0) (mj s i) R1 R2 r = O r := fun r x => if_pos x
  have hX : ∀ t j : Int, mX μ' t j = mX μ t j := fun t j => mX_cg (fun f hf k => by
    simp only [List.elem_eq_mem, decide_eq_true_eq, List.mem_cons, List.not_mem_nil, or_false] at hf
    exact hm f k (by omega) (by omega) (by omega))
  have hAm : ∀ t j : Int, mW μ' t j = mW μ t j ∧ ∀ o : Nat, (o : Int) < mW μ t j → μ' 38 (v_placeOf μ' t j o).toNat = μ 38 (v_placeOf μ t j o).toNat ∧ mMk μ' t j o = mMk μ t j o := fun t j => rA_m (fun f a b k => hm f k (by omega) (by omega) (by omega))
  have hrow : ∀ r : Nat, (r : Int) < κ 602 0 → κ' 600 r = κ 600 r ∧ κ' 601 r = κ 601 r ∧ nwO O (κ 602 0) (mj s i) R1 R2 r = O r ∧ ∀ o, κ' (1000 + r) o = κ (1000 + r) o := fun r x => ⟨hk _ _ (by omega) (by omega) (by omega) (by omega) (by omega) (by omega), hk _ _ (by omega) (by omega) (by omega) (by omega) (by omega) (by omega), hO r x, fun o => hk _ _ (by omega) (by omega) (by omega) (by omega) (by omega) (by omega)⟩
  have hwN : (2 * s + i / 2 % 2).toNat = 2 * s.toNat ∨ (2 * s + i / 2 % 2).toNat = 2 * s.toNat + 1 := by omega
  obtain ⟨q1, q2, q3, q4, q5, q6, q7, q8, q9, q10, q11, q12, q13, q14, q15⟩ := hR.S h1 h2
  have p290 : ¬ κ 290 (mj s i) = 1 := fun z => by have := ((hR.A h1 h2 h3 h4).1.mp z).1; omega
  have p190 : ¬ κ 190 (mj s i) = 1 := fun z => by have := ((hR.B h1 h2 h3 h4).1.mp z).1; omega
  obtain ⟨a1, a2, a3, a4, a5⟩ := (hR.A h1 h2 h3 h4).2.2 p290
  obtain ⟨b1, b2', b3, b4, b5, b6, b7, b34, b8, b9⟩ := (hR.B h1 h2 h3 h4).2.2 p190
  have e361 : ∀ j : Int, 4 ≤ j → j ≤ 7 → κ 361 (16 * s + j).toNat = μ 6 (16 * (1 - s) + j).toNat := q11 hj
  refine ⟨⟨?_, ?_, ?_, mHz_cg (fun f k a => hm f k (by omega) (by omega) (by omega)) hR.2.2.2⟩, ?_, ?_⟩
  · exact rH_cg (fun f x y => hk _ _ (by omega) (by omega) (by omega) (by omega) (by omega) (by omega)) (fun f r x y => hk _ _ (by omega) (by omega) (by omega) (by omega) (by omega) (by omega)) (fun r x => hO r (by omega)) n2 (fun r o x => hk _ _ (by omega) (by omega) (by omega) (by omega) (by omega) (by omega)) (fun f k x y => hm _ _ (by omega) (by omega) (by omega)) hR.1
  · intro t g1 g2
    have gS := hR.S g1 g2
    have hrc : v_received μ' t = v_received μ t := v_received_cg (fun f hf k => by
      simp only [List.elem_eq_mem, decide_eq_true_eq, List.mem_cons, List.not_mem_nil, or_false] at hf
      exact hm f k (by omega) (by omega) (by omega))
    have hcc : v_consumed μ' t = v_consumed μ t := v_consumed_cg (fun f hf k => by
      simp only [List.elem_eq_mem, decide_eq_true_eq, List.mem_cons, List.not_mem_nil, or_false] at hf
      exact hm f k (by omega) (by omega) (by omega))
    have hall : mAll μ' t (mTot μ' t) = mAll μ t (mTot μ t) := by
      rw [mTot_cg (μ' := μ) (fun k => hm _ _ (by omega) (by omega) (by omega))]
      exact mAll_cgr _ (fun q _ => hm _ _ (by omega) (by omega) (by omega))
    refine ⟨?_, fun w w0 w1 => ?_, fun j g3 g4 => ?_⟩
    · by_cases ets : t = s
      · subst ets
        unfold rS
        rw [hrc, hcc, hall, hk 308 _ (by omega) (by omega) (by omega) (by omega) (by omega) (by omega), hk 309 _ (by omega) (by omega) (by omega) (by omega) (by omega) (by omega), hk 310 _ (by omega) (by omega) (by omega) (by omega) (by omega) (by omega), hk 311 _ (by omega) (by omega) (by omega) (by omega) (by omega) (by omega), hk 312 _ (by omega) (by omega) (by omega) (by omega) (by omega) (by omega), hk 313 _ (by omega) (by omega) (by omega) (by omega) (by omega) (by omega), hk 314 _ (by omega) (by omega) (by omega) (by omega) (by omega) (by omega), hk 315 _ (by omega) (by omega) (by omega) (by omega) (by omega) (by omega), hk 307 _ (by omega) (by omega) (by omega) (by omega) (by omega) (by omega), hm 36 _ (by omega) (by omega) (by omega), hm 7 _ (by omega) (by omega) (by omega), hm 14 _ (by omega) (by omega) (by omega), hm 11 _ (by omega) (by omega) (by omega), hm 12 _ (by omega) (by omega) (by omega), hm 16 _ (by omega) (by omega) (by omega), hm 1 _ (by omega) (by omega) (by omega)]
        have k307 : -1 ≤ κ 307 t.toNat := (hK _).2.2.2.2.2
        refine ⟨q1, q2, q3, q4, q5, q6, q7, q8, q9, fun x x1 x2 => ?_, fun y x x1 x2 => ?_, q12, q13, ?_, fun y => by omega⟩
        · rw [hk 360 _ (by omega) (by omega) (by omega) (by omega) (by omega) (by omega), hm 6 _ (by omega) (by omega) (by omega)]; exact q10 x x1 x2
        · rw [hk 361 _ (by omega) (by omega) (by omega) (by omega) (by omega) (by omega), hm 6 _ (by omega) (by omega) (by omega)]; exact q11 y x x1 x2
        · exact Or.inl (by rcases q14 with z | z <;> omega)
      · exact rS_cg g1 g2 (fun f a b => hk _ _ (by omega) (by omega) (by omega) (by omega) (by omega) (by omega)) (fun f k a b c => hk _ _ (by omega) (by omega) (by omega) (by omega) (by omega) (by omega)) (fun f a => hm _ _ (by omega) (by omega) (by omega)) (hm _ _ (by omega) (by omega) (by omega)) (hm _ _ (by omega) (by omega) (by omega)) (hm _ _ (by omega) (by omega) (by omega)) (fun k => hm _ _ (by omega) (by omega) (by omega)) (fun j x y => hm _ _ (by omega) (by have := mj_ne h1 h3 h4 g1 x y (fun z => ets z.1); omega) (by omega)) hall hrc hcc gS
    · by_cases e : t = s ∧ w = i / 2 % 2
      · rw [e.1, e.2]; exact hW
      · exact rW_cg g1 g2 w0 w1 (fun f a b => hk _ _ (by omega) (by omega) (by omega) (by omega) (by omega) (by omega)) (hk _ _ (by omega) (by omega) (by omega) (by omega) (by omega) (by omega)) (fun f a => hm _ _ (by omega) (by omega) (by omega)) (hm _ _ (by omega) (by omega) (by omega)) (hm _ _ (by omega) (by omega) (by omega)) (hm _ _ (by omega) (by omega) (by omega)) (hm _ _ (by omega) (by omega) (by omega)) (hR.W g1 g2 w0 w1)
    · by_cases e : t = s ∧ j = i
      · obtain ⟨rfl, rfl⟩ := e
        refine ⟨⟨?_, fun _ => by omega⟩, ?_, ?_⟩
        · rw [m17]
          refine ⟨fun _ => ?_, fun _ => rfl⟩
          rcases hcnt with ⟨x1, x2, x3, x4⟩ | ⟨x1, x2, x3, x4⟩
          · exact Or.inl ⟨x1, by omega⟩
          · exact Or.inr ⟨x1, by omega⟩
        · by_cases sn : j / 2 % 2 = 0 ∨ j % 2 = t
          · obtain ⟨s1, s2, s3, s4, s5, s6, s7, s8, s9, s10, s11, s12, s13, s14, s15, s16, s17, s18, s19, s20, s21, s22, s23⟩ := n4 sn
            refine ⟨⟨fun _ => ⟨m17, sn⟩, fun _ => s1⟩, fun _ => ⟨?_, ?_, ?_⟩, fun z => absurd s1 z⟩
            · unfold rA1
              rw [s2, s5, s8, s9, s10, s11, s12, s13, (hAm t j).1, a1, hm 19 _ (by omega) (by omega) (by omega), hm 20 _ (by omega) (by omega) (by omega), hm 21 _ (by omega) (by omega) (by omega), hm 24 _ (by omega) (by omega) (by omega), a2, a4, a5, m18, hκ 361 _ (by omega), grantFor_e _ _ _ h3, e361 _ (by split; omega; split <;> omega) (by split; omega; split <;> omega)]
              exact ⟨rfl, rfl, rfl, rfl, rfl, fun z => absurd z (by decide), rfl⟩
            · unfold rA2
              rw [s3, s4, s5]
              simp only [Int.toNat_natCast]
              rw [s19, s20, s21, s22]
              refine ⟨⟨by omega, s15, rfl, ?_⟩, ⟨by omega, s17, rfl, ?_⟩, rfl, by omega, by omega⟩
              · unfold nwO
                rw [if_neg (by omega), if_pos rfl]
              · unfold nwO
                rw [if_neg (by omega), if_neg (fun z => s18 z.symm), if_pos rfl]
            · unfold rA3
              rw [s3, s4, s5, s6, s7, s8]
              simp only [Int.toNat_natCast]
              rw [s20]
              exact ⟨Int.le_refl _, fun o ho => by omega, fun o ho => by omega, fun o ho => (s23 o).2, fun o x y => by omega, (mR_e (by omega)).symm, (mR_e (by omega)).symm⟩
          · have e290 := n5 sn 290 (by omega)
            rw [hκ _ _ (by omega)] at e290
            refine ⟨⟨fun z => absurd (by rw [e290] at z; exact z) p290, fun z => absurd z.2 sn⟩, fun z => absurd (by rw [e290] at z; exact z) p290, fun _ => ?_⟩
            rw [(hAm t j).1, hm 19 _ (by omega) (by omega) (by omega), hm 20 _ (by omega) (by omega) (by omega), hm 21 _ (by omega) (by omega) (by omega), hm 24 _ (by omega) (by omega) (by omega)]
            exact ⟨a1, a2, a3, a4, a5⟩
        · by_cases sn : j / 2 % 2 = 0 ∨ ¬ j % 2 = t
          · obtain ⟨s1, s2, s3, s4, s5, s6, s7, s8, s9, s10, s11, s12, s13, s14, s15, s16, s17, s18, s19, s20, s21, s22⟩ := n6 sn
            have e6 := q10 (if j / 2 % 2 = 1 then 7 else if j % 2 = t then 5 else 6) (by split; omega; split <;> omega) (by split; omega; split <;> omega)
            refine ⟨⟨fun _ => ⟨m17, sn⟩, fun _ => s1⟩, fun _ => ⟨?_, ?_, ?_⟩, fun z => absurd s1 z⟩
            · unfold rB1
              rw [s2, s4, s5, s6, s7, s8, s9, s10, s11, s12, s13, s14, s15, hm 25 _ (by omega) (by omega) (by omega), hm 26 _ (by omega) (by omega) (by omega), hm 27 _ (by omega) (by omega) (by omega), hm 28 _ (by omega) (by omega) (by omega), hm 31 _ (by omega) (by omega) (by omega), hm 32 _ (by omega) (by omega) (by omega), hm 33 _ (by omega) (by omega) (by omega), hm 34 _ (by omega) (by omega) (by omega), hm 35 _ (by omega) (by omega) (by omega), hm 6 _ (by omega) (by omega) (by omega), b1, b2', b3, b4, b5, b6, b7, b34, b8, m30, hκ 360 _ (by omega), grantFor_e _ _ _ h3, e6]
              exact ⟨rfl, rfl, rfl, rfl, rfl, rfl, rfl, rfl, rfl, rfl, rfl, rfl⟩
            · unfold rB2
              rw [s3, s6]
              simp only [Int.toNat_natCast]
              rw [s20, s21]
              refine ⟨by omega, s17, rfl, ?_, by omega⟩
              unfold nwO
              rw [if_neg (by omega), if_neg s18, if_neg s19]
            · unfold rB3
              rw [s3, s4, s5, s6]
              simp only [Int.toNat_natCast]
              rw [s20, hX, hm 25 _ (by omega) (by omega) (by omega), hm 26 _ (by omega) (by omega) (by omega), hm 28 _ (by omega) (by omega) (by omega), b2', b4]
              exact ⟨Int.le_refl _, fun o => by rw [s22, b9], fun o ho => by omega, b9 _, fun o ho => absurd (b9 o) ho, fun z => by omega, fun z => by omega⟩
          · have e190 := n7 sn 190 (by omega)
            rw [hκ _ _ (by omega)] at e190
            refine ⟨⟨fun z => absurd (by rw [e190] at z; exact z) p190, fun z => absurd z.2 sn⟩, fun z => absurd (by rw [e190] at z; exact z) p190, fun _ => ?_⟩
            rw [hX, hm 25 _ (by omega) (by omega) (by omega), hm 26 _ (by omega) (by omega) (by omega), hm 27 _ (by omega) (by omega) (by omega), hm 28 _ (by omega) (by omega) (by omega), hm 31 _ (by omega) (by omega) (by omega), hm 32 _ (by omega) (by omega) (by omega), hm 33 _ (by omega) (by omega) (by omega), hm 34 _ (by omega) (by omega) (by omega), hm 35 _ (by omega) (by omega) (by omega)]
            exact ⟨b1, b2', b3, b4, b5, b6, b7, b34, b8, b9⟩
      · have hne := mj_ne h1 h3 h4 g1 g3 g4 e
        obtain ⟨c1, c2⟩ := hR.T g1 g2 g3 g4
        refine ⟨?_, ?_, ?_⟩
        · refine ⟨?_, fun z => ?_⟩
          · rw [hm 17 _ (by omega) (by omega) (by omega), c1]
            by_cases ew : (2 * t + j / 2 % 2).toNat = (2 * s + i / 2 % 2).toNat
            · rw [ew]
              have ets : t = s := by omega
              subst ets
              rcases hcnt with ⟨x1, x2, x3, x4⟩ | ⟨x1, x2, x3, x4⟩
              · rw [x3, x4]
                constructor
                · rintro (z | z)
                  · exact Or.inl ⟨z.1, by omega⟩
                  · exact Or.inr z
                · rintro (z | z)
                  · exact Or.inl ⟨z.1, by omega⟩
                  · exact Or.inr z
              · rw [x3, x4]
                constructor
                · rintro (z | z)
                  · exact Or.inl z
                  · exact Or.inr ⟨z.1, by omega⟩
                · rintro (z | z)
                  · exact Or.inl z
                  · exact Or.inr ⟨z.1, by omega⟩
            · rw [hm 8 _ (by omega) (by omega) (by omega), hm 9 _ (by omega) (by omega) (by omega)]
          · rw [hm 17 _ (by omega) (by omega) (by omega)] at z
            have := c2 z
            by_cases ets : t = s
            · subst ets; omega
            · rw [hk _ _ (by omega) (by omega) (by omega) (by omega) (by omega) (by omega)]; exact this
        · exact rA_cg (fun f a => hk _ _ (by omega) (by omega) (by omega) (by omega) (by omega) (by omega)) (fun r a b c => hrow r b) n2 (fun f a b => hm _ _ (by omega) (by omega) (by omega)) (hAm t j).1 (hAm t j).2 (hR.A g1 g2 g3 g4)
        · exact rB_cg (fun f a => hk _ _ (by omega) (by omega) (by omega) (by omega) (by omega) (by omega)) (fun r a b c => hrow r b) n2 (fun f a => hm _ _ (by omega) (by omega) (by omega)) (fun _ => hm _ _ (by omega) (by omega) (by omega)) (hX t j) (hR.B g1 g2 g3 g4)
  · intro p hp
    have hf := hR.2.2.1 p hp
    refine rF_cg (fun f a => hk _ _ (by omega) (by omega) (by omega) (by omega) (by omega) (by omega)) (fun f a b => hm _ _ (by omega) (by omega) (by omega)) (fun j a => hm _ _ (by omega) (by omega) (by omega)) hV (fun k a => ?_) (fun k a => ?_) n2 (fun r a b c d => ⟨(hrow r b).1, (hrow r b).2.1, (hrow r b).2.2.1⟩) (fun a b j c => ?_) hf
    · by_cases e : k = mj s i
      · rw [e] at a; exact absurd a p190
      · rw [hk _ _ (by omega) (by omega) (by omega) (by omega) (by omega) (by omega)]; exact a
    · by_cases e : k = mj s i
      · rw [e] at a; exact absurd a p290
      · refine ⟨by rw [hk _ _ (by omega) (by omega) (by omega) (by omega) (by omega) (by omega)]; exact a, by rw [hk _ _ (by omega) (by omega) (by omega) (by omega) (by omega) (by omega)]; exact Int.le_refl _, fun z => by rw [hm _ _ (by omega) (by omega) (by omega)]; exact z⟩
    · have := ((hf.2 a).2.2.2 b).2.2.2.2.2.1
      have h7 := ((hf.2 a).2.2.2 b).2.2.2.2.2.2.1
      exact (hrow _ (by omega)).2.2.2 _
  · intro t g1 g2
    obtain ⟨x, y⟩ := hI t g1 g2
    refine ⟨iD_cg (fun f z => hk _ _ (by omega) (by omega) (by omega) (by omega) (by omega) (by omega)) (hk _ _ (by omega) (by omega) (by omega) (by omega) (by omega) (by omega)) x, fun j g3 g4 => ?_⟩
    by_cases e : t = s ∧ j = i
    · obtain ⟨rfl, rfl⟩ := e
      by_cases sn : j / 2 % 2 = 0 ∨ ¬ j % 2 = t
      · obtain ⟨s1, s2, s3, s4, s5, s6, s7, s8, s9, s10, s11, s12, s13, s14, s15, _⟩ := n6 sn
        refine ⟨fun _ _ => ?_, fun _ _ => ?_⟩
        · rw [s4, s8, s9]
          exact grown_0 (by rw [hκ _ _ (by omega)]; exact (hK _).2.2.2.1)
        · rw [s15, s2]
          exact ⟨fun z => by omega, fun z => by omega⟩
      · have e190 := n7 sn 190 (by omega)
        rw [hκ _ _ (by omega)] at e190
        exact ⟨fun z => absurd (by rw [e190] at z; exact z) p190, fun z => absurd (by rw [e190] at z; exact z) p190⟩
    · have hne := mj_ne h1 h3 h4 g1 g3 g4 e
      obtain ⟨c, d⟩ := y j g3 g4
      exact ⟨iG_cg (fun f z => hk _ _ (by omega) (by omega) (by omega) (by omega) (by omega) (by omega)) c, iO_cg (fun f z => hk _ _ (by omega) (by omega) (by omega) (by omega) (by omega) (by omega)) d⟩
  · intro k
    obtain ⟨x1, x2, x3, x4, x5, x6⟩ := hK k
    refine ⟨?_, ?_, ?_, ?_, ?_, ?_⟩
    · by_cases e : k = mj s i
      · by_cases sn : i / 2 % 2 = 0 ∨ i % 2 = s
        · rw [e, (n4 sn).2.2.2.2.2.1]; decide
        · rw [e, n5 sn 204 (by omega), hκ _ _ (by omega), ← e]; exact x1
      · rw [hk _ _ (by omega) (by omega) (by omega) (by omega) (by omega) (by omega)]; exact x1
    · by_cases e : k = mj s i
      · by_cases sn : i / 2 % 2 = 0 ∨ ¬ i % 2 = s
        · rw [e, (n6 sn).2.2.2.2.2.2.2.2.2.2.2.2.2.2.1]; decide
        · rw [e, n7 sn 113 (by omega), hκ _ _ (by omega), ← e]; exact x2
      · rw [hk _ _ (by omega) (by omega) (by omega) (by omega) (by omega) (by omega)]; exact x2
    · by_cases e : k = mj s i
      · by_cases sn : i / 2 % 2 = 0 ∨ ¬ i % 2 = s
        · rw [e, (n6 sn).2.2.2.2.2.2.2.2.2.2.2.2.2.2.1]; decide
        · rw [e, n7 sn 113 (by omega), hκ _ _ (by omega), ← e]; exact x3
      · rw [hk _ _ (by omega) (by omega) (by omega) (by omega) (by omega) (by omega)]; exact x3
    · rw [hk _ _ (by omega) (by omega) (by omega) (by omega) (by omega) (by omega)]; exact x4
    · by_cases e : k = s.toNat
      · rw [e]; exact h306.2.2
      · rw [hk _ _ (by omega) (by omega) (by omega) (by omega) (by omega) (by omega)]; exact x5
    · rw [hk _ _ (by omega) (by omega) (by omega) (by omega) (by omega) (by omega)]; exact x6
end R18
