section R60
variable {κ μ κ' μ' : Nat → Nat → Int} {O O' : Nat → Nat}
/-! what the class's contracts ask, out of the relation -/
theorem Rel_at (hR : kRel κ μ O) {s i : Int} (h1 : 0 ≤ s) (h2 : s ≤ 1) (h3 : 0 ≤ i) (h4 : i < 256) : rT κ μ s i ∧ rA κ μ O s i ∧ rB κ μ O s i := (hR.2.1 s h1 h2).2.2 i h3 h4
theorem Rel_SA (hV : mV μ) (hK : kV κ) (hR : kRel κ μ O) : ∀ s, 0 ≤ s → s ≤ 1 → kSA κ s := by
  intro s h1 h2 i h3 h4 hp
  obtain ⟨hT, hA, hB⟩ := Rel_at hR h1 h2 h3 h4
  have hS := (hR.2.1 s h1 h2).1
  have c := rA_cnt hV (hK.q (mj s i)).1 h1 hA hp
  have c2 := mCnt_2 (μ := μ) s i (mTot μ s)
  have c3 := mAll_cnt (μ := μ) s i (mTot μ s)
  have h36 : 0 ≤ μ 36 s.toNat ∧ μ 36 s.toNat ≤ 65536 := hV 36 _
  have ht : ((mTot μ s : Nat) : Int) = μ 36 s.toNat := by unfold mTot; omega
  obtain ⟨a1, a2, a3⟩ := hA.2.1 hp
  obtain ⟨⟨b1, b2, b3, b4⟩, ⟨d1, d2, d3, d4⟩, e1, e2, e3⟩ := a2
  have h309 := hS.2.1
  refine ⟨d3, d2, b2, by omega, a3.1, a3.2.2.2.2.2.1.symm, a3.2.2.2.2.2.2.symm, ?_⟩
  omega
theorem Rel_SRA (hV : mV μ) (hR : kRel κ μ O) : ∀ s, 0 ≤ s → s ≤ 1 → kSRA κ s := by
  intro s h1 h2 i h3 h4 hp
  obtain ⟨hT, hA, hB⟩ := Rel_at hR h1 h2 h3 h4
  have hS := (hR.2.1 s h1 h2).1
  obtain ⟨a1, ⟨⟨b1, b2, b3, b4⟩, d, e1, e2, e3⟩, a3⟩ := hA.2.1 hp
  have := mW_le hV s i
  exact ⟨b3, e2, by rw [a1.1, hS.1]; exact this⟩
theorem mSum_le {h h' : Nat → Int} : ∀ n, (∀ k, k < n → h k ≤ h' k) → mSum h n ≤ mSum h' n
  | 0, _ => Int.le_refl _
  | n + 1, hh => by
    have ih := mSum_le n (fun k hk => hh k (by omega))
    have := hh n (by omega)
    show mSum h n + h n ≤ mSum h' n + h' n
    omega
theorem cons_k0 : mSum (fun j => if (j : Int) / 2 % 2 = 0 ∨ ¬ (j : Int) % 2 = 0 then (65536 : Int) else 0) 256 = 12582912 := by decide +kernel
theorem cons_k1 : mSum (fun j => if (j : Int) / 2 % 2 = 0 ∨ ¬ (j : Int) % 2 = 1 then (65536 : Int) else 0) 256 = 12582912 := by decide +kernel
theorem cons_le (hV : mV μ) (hR : kRel κ μ O) {s : Int} (h1 : 0 ≤ s) (h2 : s ≤ 1) : v_consumed μ s ≤ 12582912 := by
  rw [consumed_s]
  have key : mSum (fun j => if (j : Int) / 2 % 2 = 0 ∨ ¬ (j : Int) % 2 = s then (65536 : Int) else 0) 256 = 12582912 := by
    rcases (show s = 0 ∨ s = 1 by omega) with e | e
    · rw [e]; exact cons_k0
    · rw [e]; exact cons_k1
  rw [← key]
  refine mSum_le 256 (fun k hk => ?_)
  obtain ⟨hT, hA, hB⟩ := Rel_at hR h1 h2 (i := (k : Int)) (by omega) (by omega)
  have v27 : 0 ≤ μ 27 (mj s k) ∧ μ 27 (mj s k) ≤ 65536 := hV 27 _
  have v26 : -1 ≤ μ 26 (mj s k) ∧ μ 26 (mj s k) ≤ 65536 := hV 26 _
  show (if μ 28 (mj s k) = 0 then μ 27 (mj s k) else μ 26 (mj s k)) ≤ if (k : Int) / 2 % 2 = 0 ∨ ¬ (k : Int) % 2 = s then (65536 : Int) else 0
  by_cases e : (k : Int) / 2 % 2 = 0 ∨ ¬ (k : Int) % 2 = s
  · rw [if_pos e]; split <;> omega
  · rw [if_neg e]
    have hn : ¬ κ 190 (mj s k) = 1 := fun z => e (hB.1.mp z).2
    obtain ⟨_, _, z3, z4, _⟩ := hB.2.2 hn
    rw [if_pos z4, z3]; exact Int.le_refl _
theorem rB_103 {s i : Int} (h : rB3 κ μ s i) (h6 : 0 ≤ κ 600 (κ 101 (mj s i)).toNat) : κ 103 (mj s i) ≤ κ 600 (κ 101 (mj s i)).toNat ∧ (κ 103 (mj s i) ≤ κ 104 (mj s i) ∨ κ 103 (mj s i) ≤ 0) := by
  by_cases e : κ 103 (mj s i) ≤ 0
  · exact ⟨by omega, Or.inr e⟩
  · have z := h.2.2.2.2.1 (κ 103 (mj s i) - 1).toNat (h.2.2.1 _ (by omega))
    exact ⟨by omega, Or.inl (by omega)⟩
theorem Rel_RA (hV : mV μ) (hK : kV κ) (hR : kRel κ μ O) : ∀ s, 0 ≤ s → s ≤ 1 → kRA κ s := by
  intro s h1 h2 i h3 h4 hp
  obtain ⟨hT, hA, hB⟩ := Rel_at hR h1 h2 h3 h4
  have hS := (hR.2.1 s h1 h2).1
  have hc := cons_le hV hR h1 h2
  obtain ⟨b1, ⟨c1, c2, c3, c4, c5, c6⟩, b3⟩ := hB.2.1 hp
  have q := rB_103 b3 c6
  have d1 := b3.1
  have v102 : 0 ≤ κ 102 (mj s i) := (hK.1 102 _).1
  have v600 : κ 600 (κ 101 (mj s i)).toNat ≤ 65536 := (hK.1 600 _).2 rfl
  have h313 := hS.2.2.2.2.2.1
  exact ⟨c3, c2, q.1, d1, by omega⟩
theorem Rel_NT (hK : kV κ) (hR : kRel κ μ O) : ∀ s, 0 ≤ s → s ≤ 1 → kNT κ s := by
  intro s h1 h2 i h3 h4 hi m hm hm2
  have v404 : 0 ≤ κ 404 ((2 * s) + (v_kWayOf i)).toNat := (hK.1 404 _).1
  obtain ⟨hT, hA, hB⟩ := Rel_at hR h1 h2 (i := (m * 4) + (i % 4)) (by omega) (by omega)
  have hW := (hR.2.1 s h1 h2).2.1 (i / 2 % 2) (by omega) (by omega)
  have e9 := hW.2.2.2.1
  unfold v_kWayOf at hm v404
  have n17 : ¬ μ 17 (mj s ((m * 4) + (i % 4))) = 1 := by
    intro z
    rcases hT.1.mp z with ⟨q1, _⟩ | ⟨q1, q2⟩
    · omega
    · rw [show ((m * 4) + (i % 4)) / 2 % 2 = i / 2 % 2 by omega, show ((m * 4) + (i % 4)) / 4 = m by omega] at q2
      omega
  exact ⟨fun z => n17 (hA.1.mp z).1, fun z => n17 (hB.1.mp z).1⟩
theorem Rel_O (hK : kV κ) (hR : kRel κ μ O) : ∀ s w : Int, 0 ≤ s → s ≤ 1 → (w = 0 ∨ w = 1) → κ 400 ((2 * s) + w).toNat < κ 401 ((2 * s) + w).toNat → ¬ κ 290 (mj s ((((κ 400 ((2 * s) + w).toNat) * 4) + (w * 2)) + s)) = 1 ∧ ¬ κ 190 (mj s ((((κ 400 ((2 * s) + w).toNat) * 4) + (w * 2)) + s)) = 1 := by
  intro s w h1 h2 hw hlt
  have hW := (hR.2.1 s h1 h2).2.1 w (by omega) (by omega)
  have e8 := hW.1
  have l64 := hW.2.2.2.2.2.2.2.1
  have v400 : 0 ≤ κ 400 ((2 * s) + w).toNat := (hK.1 400 _).1
  obtain ⟨hT, hA, hB⟩ := Rel_at hR h1 h2 (i := ((κ 400 ((2 * s) + w).toNat) * 4) + (w * 2) + s) (by omega) (by omega)
  have n17 : ¬ μ 17 (mj s (((κ 400 ((2 * s) + w).toNat) * 4) + (w * 2) + s)) = 1 := by
    intro z
    rcases hT.1.mp z with ⟨q1, q2⟩ | ⟨q1, q2⟩
    · rw [show (((κ 400 ((2 * s) + w).toNat) * 4) + (w * 2) + s) / 2 % 2 = w by omega, show (((κ 400 ((2 * s) + w).toNat) * 4) + (w * 2) + s) / 4 = κ 400 ((2 * s) + w).toNat by omega, ← e8] at q2
      exact absurd q2 (Int.lt_irrefl _)
    · exact q1 (by omega)
  exact ⟨fun z => n17 (hA.1.mp z).1, fun z => n17 (hB.1.mp z).1⟩
theorem Rel_g8 (hR : kRel κ μ O) : ∀ s : Int, 0 ≤ s → s ≤ 1 → κ 360 ((16 * s) + 8).toNat ≤ 64 := by
  intro s h1 h2
  have := ((hR.2.1 s h1 h2).2.1 0 (by omega) (by omega)).2.2.2.2.2.2.1
  rw [show (16 * s + (8 + 0) : Int) = 16 * s + 8 by omega] at this
  exact this
theorem Rel_g9 (hR : kRel κ μ O) : ∀ s : Int, 0 ≤ s → s ≤ 1 → κ 360 ((16 * s) + 9).toNat ≤ 64 := by
  intro s h1 h2
  have := ((hR.2.1 s h1 h2).2.1 1 (by omega) (by omega)).2.2.2.2.2.2.1
  rw [show (16 * s + (8 + 1) : Int) = 16 * s + 9 by omega] at this
  exact this
theorem Rel_lf (hR : kRel κ μ O) : (κ 307 0 < κ 306 0 ∨ κ 306 0 = 0) ∧ (κ 307 1 < κ 306 1 ∨ κ 306 1 = 0) := by
  have a := ((hR.2.1 0 (by omega) (by omega)).1).2.2.2.2.2.2.2.2.2.2.2.2.2.1
  have b := ((hR.2.1 1 (by omega) (by omega)).1).2.2.2.2.2.2.2.2.2.2.2.2.2.1
  have a' : κ 307 0 < κ 306 0 ∨ (κ 306 0 = 0 ∧ κ 307 0 = -1) := a
  have b' : κ 307 1 < κ 306 1 ∨ (κ 306 1 = 0 ∧ κ 307 1 = -1) := b
  omega
/-- a frame that lies: its row -/
theorem Rel_row (hR : kRel κ μ O) {p : Int} (h : e_frameAt κ p = 0) (hK : kV κ) : 0 ≤ κ 7 p.toNat → κ 601 (κ 7 p.toNat).toNat = 2 ∧ κ 7 p.toNat < κ 602 0 ∧ κ 8 p.toNat + κ 9 p.toNat ≤ κ 600 (κ 7 p.toNat).toNat := by
  obtain ⟨a, b, c⟩ := frameAt_0 h
  have k0 : 0 ≤ κ 0 p.toNat ∧ κ 0 p.toNat ≤ 1 := ⟨(hK.1 0 _).1, (hK.1 0 _).2 rfl⟩
  obtain ⟨f1, f2⟩ := hR.2.2.1 p.toNat (by omega)
  obtain ⟨g1, g2, g3, g4⟩ := f2 (by omega)
  intro h7
  by_cases e : κ 3 p.toNat = 8
  · obtain ⟨x1, x2, x3, x4, x5, x6, x7, x8, x9, x10, x11⟩ := g4 e
    exact ⟨x8, x7, x10⟩
  · have := (g2 e).2
    omega
/-- .. its bytes are within the marks of its stream -/
theorem Rel_U (hR : kRel κ μ O) {p : Int} (h : e_frameAt κ p = 0) (hK : kV κ) : ∀ i, 0 ≤ i → i < 256 → κ 290 (mj (κ 2 p.toNat) i) = 1 → κ 3 p.toNat = 8 → i = κ 4 p.toNat → κ 8 p.toNat + κ 9 p.toNat ≤ κ 600 (κ 202 (mj (κ 2 p.toNat) i)).toNat := by
  obtain ⟨a, b, c⟩ := frameAt_0 h
  have k0 : 0 ≤ κ 0 p.toNat ∧ κ 0 p.toNat ≤ 1 := ⟨(hK.1 0 _).1, (hK.1 0 _).2 rfl⟩
  have k2 : 0 ≤ κ 2 p.toNat ∧ κ 2 p.toNat ≤ 1 := ⟨(hK.1 2 _).1, (hK.1 2 _).2 rfl⟩
  obtain ⟨f1, f2⟩ := hR.2.2.1 p.toNat (by omega)
  obtain ⟨g1, g2, g3, g4⟩ := f2 (by omega)
  intro i h3 h4 hp h8 hi
  obtain ⟨x1, x2, x3, x4, x5, x6, x7, x8, x9, x10, x11⟩ := g4 h8
  obtain ⟨hT, hA, hB⟩ := Rel_at hR k2.1 k2.2 h3 h4
  obtain ⟨a1, ⟨_, _, e1, e2, e3⟩, a3⟩ := hA.2.1 hp
  have := a3.1
  rw [← hi] at x4
  omega
theorem Rel_Tk (hV : mV μ) (hQ : kQ κ) (hR : kRel κ μ O) (hI : kInv κ) (hj : μ 1 0 = 1) {s p : Int} (h1 : 0 ≤ s) (h2 : s ≤ 1) (k4 : 0 ≤ κ 4 p.toNat) (k5 : 0 ≤ κ 5 p.toNat) (k6 : 0 ≤ κ 6 p.toNat) (k9 : 0 ≤ κ 9 p.toNat)
    (hr : 0 ≤ κ 7 p.toNat → κ 601 (κ 7 p.toNat).toNat = 2 ∧ κ 7 p.toNat < κ 602 0 ∧ κ 8 p.toNat + κ 9 p.toNat ≤ κ 600 (κ 7 p.toNat).toNat) : kTk κ s p := by
  intro g hg h4 hse hbe hp
  have e0 : 0 ≤ kEnd κ p := by unfold kEnd; split <;> omega
  have en : ¬ κ 3 p.toNat = 4 → κ 9 p.toNat ≤ kEnd κ p := fun z => by unfold kEnd; rw [if_neg z]; omega
  obtain ⟨m1, m2⟩ := meant_e hV hR (s := s) (a := κ 4 p.toNat) (g := 0) h1 h2 k4 (Or.inl rfl)
  obtain ⟨i4, m3, m4, m5⟩ := m2 hse
  have hrc := m4 rfl
  rw [← reaches_e hV hR h1 h2 k4 i4 e0 hg hrc] at hbe
  obtain ⟨r1, r2, r3, r4⟩ := reaches_1 hV hg hbe
  obtain ⟨O', R', I', Q', V', S', T'⟩ := R_there hV hR hI hQ h1 h2 k4 i4 hj
  obtain ⟨hT, hA, hB⟩ := Rel_at R' h1 h2 k4 i4
  obtain ⟨b1, ⟨c1, c2, c3, c4, c5, c6⟩, b3⟩ := hB.2.1 hp
  have q103 := rB_103 b3 c6
  have hS := (R'.2.1 s h1 h2).1
  have hc := cons_le V' R' h1 h2
  have f25 : s_comesThere μ s (κ 4 p.toNat) 25 (mj s (κ 4 p.toNat)) = μ 25 (mj s (κ 4 p.toNat)) := comesThere_o 25 _ (by omega)
  have f312 := makeThere_o (κ := κ) (s := s) (i := κ 4 p.toNat) 312 s.toNat (by omega)
  have f3 := makeThere_o (κ := κ) (s := s) (i := κ 4 p.toNat) 3 p.toNat (by omega)
  have f7 := makeThere_o (κ := κ) (s := s) (i := κ 4 p.toNat) 7 p.toNat (by omega)
  have f8 := makeThere_o (κ := κ) (s := s) (i := κ 4 p.toNat) 8 p.toNat (by omega)
  have f9 := makeThere_o (κ := κ) (s := s) (i := κ 4 p.toNat) 9 p.toNat (by omega)
  have v11 : 0 ≤ μ 11 s.toNat ∧ μ 11 s.toNat ≤ 65536 := hV 11 _
  have v25 : 0 ≤ μ 25 (mj s (κ 4 p.toNat)) ∧ μ 25 (mj s (κ 4 p.toNat)) ≤ 65536 := hV 25 _
  have e312 := ((hR.2.1 s h1 h2).1).2.2.2.2.1
  have e104 := b1.2.1
  have d1 := b3.1
  refine ⟨c3, c2, q103.1, ?_, ?_, ?_, ?_, ?_, ?_, ?_⟩
  · rw [f7, f8, f9]
    intro z
    obtain ⟨x1, x2, x3⟩ := hr z
    obtain ⟨y1, y2, y3, y4⟩ := S'.2 (κ 7 p.toNat).toNat (by omega)
    have y0 := S'.1
    exact ⟨by rw [y2]; exact x1, by omega, by rw [y1]; exact x3⟩
  · rw [e104, f25, f312, e312]
    intro z
    have := r2 z
    omega
  · have a := e104.trans f25
    rcases q103.2 with z | z <;> omega
  · intro z
    rw [e104, f25]
    exact r3 z
  · rw [f3]; exact h4
  · rw [f3, f9]; exact en
  · rw [hS.2.2.2.2.2.1]; omega
/-- the frame that take takes -/
theorem Rel_kTake (hV : mV μ) (hR : kRel κ μ O) {u a b c : Int} : kRel (kTake κ u a b c) (u2 (u2 μ 0 0 0) 3 0 0) O := by
  have hRa : kRel (u2 κ 505 0 0) (u2 (u2 μ 0 0 0) 3 0 0) O := tape_0 hV hR
  have hVa : mV (u2 (u2 μ 0 0 0) 3 0 0) := (hV.u (f := 0) (by decide)).u (f := 3) (by decide)
  refine Rel_F hVa hRa (fun _ => False) (fun f k z => ?_) (fun f k x y z => rfl) (fun q _ z => z.elim)
  unfold kTake
  by_cases w : f = 505 ∧ k = 0
  · rw [w.1, w.2, u2_s, u2_s]
  · rw [u2_n w, u2_n w, u2_n (fun q => z ⟨by omega, Or.inr (by omega)⟩), u2_n (fun q => z ⟨by omega, Or.inr (by omega)⟩), u2_n (fun q => z ⟨by omega, Or.inr (by omega)⟩), u2_n (fun q => z ⟨by omega, Or.inr (by omega)⟩), u2_n (fun q => z ⟨by omega, Or.inr (by omega)⟩), u2_n (fun q => z ⟨by omega, Or.inr (by omega)⟩), u2_n (fun q => z ⟨by omega, Or.inr (by omega)⟩)]
theorem kTake_o {u a b c : Int} {f k : Nat} (x : ¬ (f ≤ 10 ∧ k = 64)) (y : ¬ (f = 505 ∧ k = 0)) : kTake κ u a b c f k = κ f k := by
  unfold kTake
  rw [u2_n y, u2_n (by omega), u2_n (by omega), u2_n (by omega), u2_n (by omega), u2_n (by omega), u2_n (by omega), u2_n (by omega)]
theorem kTake_Inv (hI : kInv κ) {u a b c : Int} : kInv (kTake κ u a b c) := Inv_cg hI (fun f k z => kTake_o (by omega) (by omega)) (fun k z => kTake_o (by omega) (by omega))
theorem kTake_Q (hQ : kQ κ) {u a b c : Int} : kQ (kTake κ u a b c) := fun k => by
  have := hQ k
  rw [kTake_o (by omega) (by omega), kTake_o (by omega) (by omega), kTake_o (by omega) (by omega), kTake_o (by omega) (by omega), kTake_o (by omega) (by omega)]
  exact this
theorem kTake_f {u a b c : Int} : kTake κ u a b c 4 64 = a ∧ kTake κ u a b c 5 64 = b ∧ kTake κ u a b c 6 64 = c ∧ kTake κ u a b c 7 64 = 0 ∧ kTake κ u a b c 8 64 = 0 ∧ kTake κ u a b c 9 64 = κ 505 0 := by
  unfold kTake
  refine ⟨?_, ?_, ?_, ?_, ?_, ?_⟩ <;> simp (disch := omega) only [u2_f, u2_s]
/-- what take needs of the frame that it takes -/
theorem Rel_Tk64 (hV : mV μ) (hK : kV κ) (hR : kRel κ μ O) (hI : kInv κ) {s u a b c : Int} (h : kTc κ s u a b c) : kTk (kTake κ u a b c) s 64 := by
  obtain ⟨t1, t2, t3, t4, t5, t6, t7⟩ := h
  have hj : μ 1 0 = 1 := by
    rcases needJoined_c hV hR with ⟨e, z⟩ | ⟨e, z⟩
    · exact z
    · omega
  have hs : 0 ≤ s ∧ s ≤ 1 := by
    rcases sideAt_c (κ := κ) s with ⟨e, z⟩ | ⟨e, z⟩
    · exact z
    · omega
  have na := isNumber_1 t3
  have nb := isNumber_1 t4
  have nc := isNumber_1 t5
  obtain ⟨f4, f5, f6, f7, f8, f9⟩ := kTake_f (κ := κ) (u := u) (a := a) (b := b) (c := c)
  have k5 : 0 ≤ κ 505 0 ∧ κ 505 0 ≤ 2048 := ⟨(hK.1 505 _).1, (hK.1 505 _).2 rfl⟩
  have hV0 : mV (u2 (u2 μ 0 0 0) 3 0 0) := (hV.u (f := 0) (by decide)).u (f := 3) (by decide)
  have hj0 : (u2 (u2 μ 0 0 0) 3 0 0) 1 0 = 1 := by rw [u2_f (by decide), u2_f (by decide)]; exact hj
  refine Rel_Tk (p := 64) hV0 (kTake_Q hK.q) (Rel_kTake hV hR) (kTake_Inv hI) hj0 hs.1 hs.2 ?_ ?_ ?_ ?_ ?_
  · show 0 ≤ kTake κ u a b c 4 64
    rw [f4]; exact na.1
  · show 0 ≤ kTake κ u a b c 5 64
    rw [f5]; exact nb.1
  · show 0 ≤ kTake κ u a b c 6 64
    rw [f6]; exact nc.1
  · show 0 ≤ kTake κ u a b c 9 64
    rw [f9]; exact k5.1
  · show 0 ≤ kTake κ u a b c 7 64 → kTake κ u a b c 601 (kTake κ u a b c 7 64).toNat = 2 ∧ kTake κ u a b c 7 64 < kTake κ u a b c 602 0 ∧ kTake κ u a b c 8 64 + kTake κ u a b c 9 64 ≤ kTake κ u a b c 600 (kTake κ u a b c 7 64).toNat
    intro _
    obtain ⟨q1, q2, q3, q4, q5, q6, q7, q8⟩ := hR.1
    rw [f7, f8, f9, kTake_o (by omega) (by omega), kTake_o (by omega) (by omega), kTake_o (by omega) (by omega)]
    exact ⟨q6.2.1, by omega, by show 0 + κ 505 0 ≤ κ 600 0; rw [q6.1]; omega⟩
/-- what deliver needs of the frame that it takes -/
theorem Rel_TkD (hV : mV μ) (hK : kV κ) (hR : kRel κ μ O) (hI : kInv κ) {p : Int} (hJ : ∀ q : Nat, q < 64 → κ 0 q = 1 → κ 507 0 = 1) (h : e_frameAt κ p = 0) : kTk κ (1 - (κ 2 p.toNat)) p := by
  obtain ⟨a, b, c⟩ := frameAt_0 h
  have k0 : 0 ≤ κ 0 p.toNat ∧ κ 0 p.toNat ≤ 1 := ⟨(hK.1 0 _).1, (hK.1 0 _).2 rfl⟩
  have k2 : 0 ≤ κ 2 p.toNat ∧ κ 2 p.toNat ≤ 1 := ⟨(hK.1 2 _).1, (hK.1 2 _).2 rfl⟩
  have hj : μ 1 0 = 1 := by rw [← hR.1.2.2.1]; exact hJ p.toNat (by omega) (by omega)
  exact Rel_Tk hV hK.q hR hI hj (by omega) (by omega) (hK.1 4 _).1 (hK.1 5 _).1 (hK.1 6 _).1 (hK.1 9 _).1 (Rel_row hR h hK)
end R60
