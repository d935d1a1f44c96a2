section R30
variable {κ μ κ' μ' κ1 μ1 : Nat → Nat → Int} {O O' : Nat → Nat}
/-- rows that were there stay -/
def rowS (κ κ' : Nat → Nat → Int) (O O' : Nat → Nat) : Prop := κ 602 0 ≤ κ' 602 0 ∧ ∀ r : Nat, (r : Int) < κ 602 0 → κ' 600 r = κ 600 r ∧ κ' 601 r = κ 601 r ∧ O' r = O r ∧ ∀ o, κ' (1000 + r) o = κ (1000 + r) o
theorem there_l {s i : Int} (h1 : 0 ≤ s) (h2 : s ≤ 1) (h3 : 0 ≤ i) (h4 : i < 256) (ho : ¬ i % 2 = s) (C0 : Int) : ∀ (m d n : Nat) (ν μν : Nat → Nat → Int) (O : Nat → Nat), m < d → (i / 4 + 1 ≤ (n : Int) ∧ m = 0 ∨ (n : Int) + m = i / 4 + 1) → ((n : Int) = C0 ∨ (C0 < (n : Int) ∧ (n : Int) ≤ i / 4 + 1)) → ν 404 (2 * s + i / 2 % 2).toNat = C0 →
    kRel (u2 ν 404 (2 * s + i / 2 % 2).toNat n) μν O → kInv (u2 ν 404 (2 * s + i / 2 % 2).toNat n) → kQ (u2 ν 404 (2 * s + i / 2 % 2).toNat n) → mV μν → μν 1 0 = 1 → μν 9 (2 * s + i / 2 % 2).toNat = n →
    ∃ O', kRel (s_makeThere_16 κ s i d n ν) (s_comesThere_14 μ s i d μν) O' ∧ kInv (s_makeThere_16 κ s i d n ν) ∧ kQ (s_makeThere_16 κ s i d n ν) ∧ mV (s_comesThere_14 μ s i d μν) ∧ rowS (u2 ν 404 (2 * s + i / 2 % 2).toNat n) (s_makeThere_16 κ s i d n ν) O O' ∧ i / 4 < s_comesThere_14 μ s i d μν 9 (2 * s + i / 2 % 2).toNat
  | _, 0, n, ν, μν, O, g1, _, _, _, _, _, _, _, _, _ => by omega
  | 0, d + 1, n, ν, μν, O, g1, g2, g3, g4, gR, gI, gQ, gV, gj, g9 => by
    have hw := (kWayOf_b h3).1
    have e1 : s_makeThere_16 κ s i (d + 1) n ν = u2 ν 404 (2 * s + i / 2 % 2).toNat n := by
      rw [s_makeThere_16, if_pos (by omega), hw, g4, show v_maxI C0 (i / 4 + 1) = n by unfold v_maxI; split <;> omega]
    have e2 : s_comesThere_14 μ s i (d + 1) μν = μν := by
      rw [s_comesThere_14, if_pos (by omega)]
    rw [e1, e2]
    exact ⟨O, gR, gI, gQ, gV, ⟨Int.le_refl _, fun r _ => ⟨rfl, rfl, rfl, fun _ => rfl⟩⟩, by omega⟩
  | m + 1, d + 1, n, ν, μν, O, g1, g2, g3, g4, gR, gI, gQ, gV, gj, g9 => by
    have hw := (kWayOf_b h3).1
    have g2' : (n : Int) + ((m + 1 : Nat) : Int) = i / 4 + 1 := by omega
    have e1 : s_makeThere_16 κ s i (d + 1) n ν = s_makeThere_16 κ s i d (n + 1 : Nat) (s_makeParts ν s (((n : Int) * 4) + (i % 4))) := by
      rw [s_makeThere_16, if_neg (by omega), show (n : Int) + 1 = ((n + 1 : Nat) : Int) by omega]
    have e2 : s_comesThere_14 μ s i (d + 1) μν = s_comesThere_14 μ s i d (u2 (s_begins μν s ((4 * (n : Int)) + (i % 4))) 9 (2 * s + i / 2 % 2).toNat ((n : Int) + 1)) := by
      rw [s_comesThere_14, if_neg (by omega), g9]
    rw [e1, e2, show (n : Int) * 4 + i % 4 = 4 * (n : Int) + i % 4 by omega]
    have hb : 0 ≤ 4 * (n : Int) + i % 4 ∧ 4 * (n : Int) + i % 4 < 256 ∧ (4 * (n : Int) + i % 4) / 2 % 2 = i / 2 % 2 ∧ (4 * (n : Int) + i % 4) % 2 = i % 2 ∧ (4 * (n : Int) + i % 4) / 4 = n := by omega
    rw [s_begins_e]
    generalize 4 * (n : Int) + i % 4 = j at hb
    obtain ⟨j0, j1, j2, j3, j4⟩ := hb
    have k2 : 2 ≤ ν 602 0 := by
      have := gR.1.2.2.2.2.2.2.2
      rw [u2_f (by decide)] at this
      exact this
    obtain ⟨R1, R2, R3, hN⟩ := makeParts_s (κ := ν) k2 h1 h2 j0 j1
    have hN' := nwK_u (v := ((n + 1 : Nat) : Int)) (k0 := (2 * s + i / 2 % 2).toNat) (Or.inr rfl) hN
    obtain ⟨M', hM'⟩ : ∃ M', M' = u2 (u2 (u2 (u2 μν 17 (mj s j) 1) 30 (mj s j) (μν 6 (mg s j).toNat)) 18 (mj s j) (μν 6 (mg (1 - s) j).toNat)) 9 (2 * s + i / 2 % 2).toNat ((n : Int) + 1) := ⟨_, rfl⟩
    rw [← hM']
    have hm : ∀ f k, ¬ ((f = 17 ∨ f = 18 ∨ f = 30) ∧ k = mj s j) → ¬ (f = 9 ∧ k = (2 * s + i / 2 % 2).toNat) → M' f k = μν f k := fun f k x y => by
      rw [hM', u2_n y, u2_n (by omega), u2_n (by omega), u2_n (by omega)]
    have m9 : M' 9 (2 * s + i / 2 % 2).toNat = ((n + 1 : Nat) : Int) := by rw [hM', u2_s]; omega
    have m17 : M' 17 (mj s j) = 1 := by rw [hM', u2_f (by decide), u2_f (by decide), u2_f (by decide), u2_s]
    have m30 : M' 30 (mj s j) = μν 6 (mg s j).toNat := by rw [hM', u2_f (by decide), u2_f (by decide), u2_s]
    have m18 : M' 18 (mj s j) = μν 6 (mg (1 - s) j).toNat := by rw [hM', u2_f (by decide), u2_s]
    have v6 : ∀ k, 0 ≤ μν 6 k ∧ μν 6 k ≤ 65536 := fun k => gV 6 k
    have hVM : mV M' := by
      rw [hM']
      refine (((gV.u (f := 17) (by decide)).u (f := 30) (v6 _)).u (f := 18) ⟨(v6 _).1, ?_⟩).u (f := 9) ⟨?_, ?_⟩
      · have := (v6 (mg (1 - s) j).toNat).2
        show μν 6 (mg (1 - s) j).toNat ≤ 4611686018427387903
        omega
      · show (0 : Int) ≤ (n : Int) + 1; omega
      · show (n : Int) + 1 ≤ 64; omega
    have h17 : μν 17 (mj s j) = 0 := by
      have v17 : 0 ≤ μν 17 (mj s j) ∧ μν 17 (mj s j) ≤ 1 := gV 17 _
      have := (gR.T h1 h2 j0 j1).1
      rw [j2, j3] at this
      by_cases z : μν 17 (mj s j) = 1
      · rcases this.mp z with y | y
        · exact absurd y.1 ho
        · omega
      · omega
    obtain ⟨q1, q2, q3, q4, q5, q6, q7, q8, q9, q10, q11, q12⟩ := gR.W (w := i / 2 % 2) h1 h2 (by omega) (by omega)
    have rb := R_begin (κt := u2 ν 404 (2 * s + i / 2 % 2).toNat ((n + 1 : Nat) : Int)) (μ' := M') gV gR gI gQ h1 h2 j0 j1 gj h17 (fun f k z => by
        rw [j2] at z
        rw [u2_n (by omega), u2_n (by omega)]) hN' (fun f k x y z => hm f k (by omega) (by rw [j2] at z; omega)) m17 m18 m30 (Or.inr ⟨by rw [j3]; exact ho, by rw [j2, g9]; omega, by rw [j2, m9, g9]; omega, by rw [hm _ _ (by omega) (by omega)]⟩) ?_
    · have row1 : rowS (u2 ν 404 (2 * s + i / 2 % 2).toNat n) (u2 (s_makeParts ν s j) 404 (2 * s + i / 2 % 2).toNat ((n + 1 : Nat) : Int)) O (nwO O (u2 ν 404 (2 * s + i / 2 % 2).toNat (n : Int) 602 0) (mj s j) R1 R2) := by
        obtain ⟨n1, n2, _⟩ := hN
        refine ⟨by rw [u2_f (by decide), u2_f (by decide)]; exact n2, fun r hr => ?_⟩
        have hr' : (r : Int) < ν 602 0 := by rw [u2_f (by decide)] at hr; exact hr
        refine ⟨?_, ?_, if_pos hr, fun o => ?_⟩
        · rw [u2_f (by decide), u2_f (by decide)]; exact n1 _ _ (by omega) (by omega) (by omega) (by omega) (by omega)
        · rw [u2_f (by decide), u2_f (by decide)]; exact n1 _ _ (by omega) (by omega) (by omega) (by omega) (by omega)
        · rw [u2_f (by omega), u2_f (by omega)]; exact n1 _ _ (by omega) (by omega) (by omega) (by omega) (by omega)
      have e404 : s_makeParts ν s j 404 (2 * s + i / 2 % 2).toNat = C0 := by
        obtain ⟨n1, _⟩ := hN
        rw [n1 _ _ (by omega) (by omega) (by omega) (by omega) (by omega)]; exact g4
      obtain ⟨O', r1, r2, r3, r4, r5, r6⟩ := there_l h1 h2 h3 h4 ho C0 m d (n + 1) (s_makeParts ν s j) M' _ (by omega) (by omega) (by omega) e404 rb.1 rb.2.1 rb.2.2 hVM (by rw [hm _ _ (by omega) (by omega)]; exact gj) m9
      refine ⟨O', r1, r2, r3, r4, ⟨Int.le_trans row1.1 r5.1, fun r hr => ?_⟩, r6⟩
      obtain ⟨a1, a2, a3, a4⟩ := row1.2 r hr
      obtain ⟨b1, b2', b3, b4⟩ := r5.2 r (Int.lt_of_lt_of_le hr row1.1)
      exact ⟨b1.trans a1, b2'.trans a2, b3.trans a3, fun o => (b4 o).trans (a4 o)⟩
    · obtain ⟨n1, _⟩ := hN
      have hk : ∀ f k, (400 ≤ f ∧ f ≤ 405) ∨ f = 360 → s_makeParts ν s j f k = ν f k := fun f k x => n1 f k (by omega) (by omega) (by omega) (by omega) (by omega)
      rw [j2]
      unfold rW at *
      rw [m9, hm 7 _ (by omega) (by omega), hm 8 _ (by omega) (by omega), hm 14 _ (by omega) (by omega), hm 13 _ (by omega) (by omega), hm 10 _ (by omega) (by omega), hm 6 _ (by omega) (by omega), hm 1 _ (by omega) (by omega), hm 15 _ (by omega) (by omega)]
      rw [u2_f (by decide)] at q1 q2 q3 q5 q6 q7 q8
      rw [u2_f (by decide), u2_f (by decide)] at q9 q10
      simp (disch := omega) only [u2_f, u2_s] at q11 q12 ⊢
      rw [hk 400 _ (by omega), hk 401 _ (by omega), hk 402 _ (by omega), hk 403 _ (by omega), hk 405 _ (by omega), hk 360 _ (by omega)]
      exact ⟨q1, q2, q3, trivial, q5, q6, q7, q8, q9, q10, q11, q12⟩
theorem R_there (hV : mV μ) (hR : kRel κ μ O) (hI : kInv κ) (hQ : kQ κ) {s i : Int} (h1 : 0 ≤ s) (h2 : s ≤ 1) (h3 : 0 ≤ i) (h4 : i < 256) (hj : μ 1 0 = 1) : ∃ O', kRel (s_makeThere κ s i) (s_comesThere μ s i) O' ∧ kInv (s_makeThere κ s i) ∧ kQ (s_makeThere κ s i) ∧ mV (s_comesThere μ s i) ∧ rowS κ (s_makeThere κ s i) O O' ∧ (¬ i % 2 = s → s_comesThere μ s i 17 (mj s i) = 1) := by
  unfold s_makeThere s_comesThere
  by_cases ho : i % 2 = s
  · rw [if_pos ho, if_pos ho]
    exact ⟨O, hR, hI, hQ, hV, ⟨Int.le_refl _, fun r _ => ⟨rfl, rfl, rfl, fun _ => rfl⟩⟩, fun z => absurd ho z⟩
  · rw [if_neg ho, if_neg ho, (kWayOf_b h3).1]
    obtain ⟨q1, q2, q3, q4, q5, q6, q7, q8, q9, q10, q11, q12⟩ := hR.W (w := i / 2 % 2) h1 h2 (by omega) (by omega)
    have v9 : 0 ≤ μ 9 (2 * s + i / 2 % 2).toNat ∧ μ 9 (2 * s + i / 2 % 2).toNat ≤ 64 := hV 9 _
    have hc : κ 404 (2 * s + i / 2 % 2).toNat = ((μ 9 (2 * s + i / 2 % 2).toNat).toNat : Int) := by omega
    have hid : u2 κ 404 (2 * s + i / 2 % 2).toNat ((μ 9 (2 * s + i / 2 % 2).toNat).toNat : Int) = κ := by rw [← hc]; exact u2_id
    rw [hc]
    obtain ⟨O', r1, r2, r3, r4, r5, r6⟩ := there_l (κ := κ) (μ := μ) h1 h2 h3 h4 ho (κ 404 (2 * s + i / 2 % 2).toNat) ((i / 4 + 1) - μ 9 (2 * s + i / 2 % 2).toNat).toNat 65 (μ 9 (2 * s + i / 2 % 2).toNat).toNat κ μ O (by omega) (by omega) (by omega) rfl (by rw [hid]; exact hR) (by rw [hid]; exact hI) (by rw [hid]; exact hQ) hV hj (by omega)
    rw [hid] at r5
    exact ⟨O', r1, r2, r3, r4, r5, fun _ => (r1.T h1 h2 h3 h4).1.mpr (Or.inr ⟨ho, r6⟩)⟩
end R30
