section R48
variable {κ μ κ' μ' κ1 μ1 κc μc μb : Nat → Nat → Int} {O O' : Nat → Nat}
theorem mRem_none {g : Nat → Int} {c : Int} {a n : Nat} (h : mRem g c a n ≤ 0) : ∀ q, q < n → ¬ g (a + q) = c := fun q hq z => by
  have x := rk_lt g c a hq z
  have y := (mRem_le g c q a).1
  omega
theorem sendable_e {s i A : Int} (hA : A = if (κ 310 s.toNat - κ 309 s.toNat) ≤ (κ 208 (mj s i) - κ 204 (mj s i)) then (if 0 ≤ (κ 310 s.toNat - κ 309 s.toNat) then (κ 310 s.toNat - κ 309 s.toNat) else 0) else (if 0 ≤ (κ 208 (mj s i) - κ 204 (mj s i)) then (κ 208 (mj s i) - κ 204 (mj s i)) else 0)) (hle : κ 204 (mj s i) ≤ κ 203 (mj s i)) : (A ≤ κ 203 (mj s i) - κ 204 (mj s i) ∧ v_sendable κ s i = A ∨ κ 203 (mj s i) - κ 204 (mj s i) < A ∧ v_sendable κ s i = κ 203 (mj s i) - κ 204 (mj s i)) ∧ 0 ≤ A ∧ (0 < A → A ≤ κ 310 s.toNat - κ 309 s.toNat) := by
  have hz : 0 ≤ κ 203 (mj s i) - κ 204 (mj s i) := by omega
  unfold v_sendable v_maxL v_minL
  generalize κ 310 s.toNat - κ 309 s.toNat = x at *
  generalize κ 208 (mj s i) - κ 204 (mj s i) = y at *
  generalize κ 203 (mj s i) - κ 204 (mj s i) = z at *
  repeat' split
  all_goals omega
theorem owes_e {s i : Int} : v_owesEnd κ s i = if κ 200 (mj s i) = 1 ∧ κ 204 (mj s i) = κ 203 (mj s i) ∧ (κ 207 (mj s i) = 1 ∨ κ 207 (mj s i) = 3) then 1 else 0 := by
  unfold v_owesEnd
  by_cases c1 : κ 200 (mj s i) = 1 <;> by_cases c2 : κ 204 (mj s i) = κ 203 (mj s i) <;> by_cases c3 : κ 207 (mj s i) = 1 <;> by_cases c4 : κ 207 (mj s i) = 3 <;> simp [c1, c2, c3, c4]
set_option maxHeartbeats 4000000 in
theorem stream_s {s p r i : Int} (h1 : 0 ≤ s) (h2 : s ≤ 1) (h3 : 0 ≤ i) (h4 : i < 256) (p0 : 0 ≤ p) (p1 : p < 64) (r1 : 1 ≤ r) (r2 : r ≤ 1200) (h : fS κ μ O p) (hp : κ 290 (mj s i) = 1) (hl : κ 200 (mj s i) = 0 ∨ κ 200 (mj s i) = 1) :
    stO κ (s_fillFrom κ s p r i) (s_fillsStream μ s i r) O s p (v_fillFrom κ s p r i) (v_fillsStream μ s i r) := by
  obtain ⟨hR, hI, hV, h0p, hQ⟩ := id h
  have hA0 := hR.A h1 h2 h3 h4
  obtain ⟨a1, a2, a3⟩ := hA0.2.1 hp
  obtain ⟨⟨x1, x2, x3, x4⟩, ⟨x5, x6, x7, x8⟩, x9, x10, x11⟩ := a2
  obtain ⟨c1, c2, c3, c4, c5, c6, c7⟩ := a3
  have y1 := a1.1
  have k204 : 0 ≤ κ 204 (mj s i) := (hQ _).1
  have v36 : μ 36 s.toNat ≤ 65536 := (hV 36 _).2
  have wle := mW_le hV s i
  have th := hA0.1.mp hp
  have hcond : ((0 ≤ i ∧ i < 256 ∧ μ 17 (mj s i) = 1) ∧ (i / 2 % 2 = 0 ∨ i % 2 = s)) ∧ mSend μ s i < 2 := by
    refine ⟨⟨⟨h3, h4, th.1⟩, th.2⟩, ?_⟩
    rw [rA_send hV k204 h1 hA0 hp]
    omega
  obtain ⟨n2, n3, n4, n5⟩ := rA_cnt hV k204 h1 hA0 hp
  have eCw : mCnt μ s i (-1) (mTot μ s) = mW μ s i := mCnt_w s i
  by_cases cl : κ 205 (mj s i) ≤ 0
  · -- nothing is lost
    have none2 : ∀ q : Nat, (q : Int) < mW μ s i → ¬ mMk μ s i q = 2 := fun q hq z => by
      by_cases y : (q : Int) < κ 204 (mj s i)
      · have y2 := (c3 q y).1
        rw [c6] at cl
        unfold mR at cl
        have := mRem_none cl q (by omega)
        rw [show ((0 : Int)).toNat + q = q by omega] at this
        omega
      · have := c5 q (by omega) (by omega)
        omega
    have f2 : v_firstIn μ s i 2 < 0 := by
      rcases firstIn_c hV i 2 h1 with ⟨x, _⟩ | ⟨o, x, y, z, _⟩
      · omega
      · exact absurd z (none2 o y)
    have eA : v_allowed μ s i = if (κ 310 s.toNat - κ 309 s.toNat) ≤ (κ 208 (mj s i) - κ 204 (mj s i)) then (if 0 ≤ (κ 310 s.toNat - κ 309 s.toNat) then (κ 310 s.toNat - κ 309 s.toNat) else 0) else (if 0 ≤ (κ 208 (mj s i) - κ 204 (mj s i)) then (κ 208 (mj s i) - κ 204 (mj s i)) else 0) := by
      obtain ⟨q1, q2, q3, _⟩ := hR.S h1 h2
      unfold v_allowed
      rw [n4, ← q2, ← q3, ← a1.2.2.1]
    obtain ⟨hm1, hm2, hm3⟩ := sendable_e eA c1
    clear eA
    have hff := fun (m : Int) (m0 : 0 ≤ m) (hm : m = v_sendable κ s i) => fillFrom_e (κ := κ) (s := s) (p := p) (r := r) (i := i) (a := κ 204 (mj s i)) m0 (by rw [if_pos cl]) (by rw [if_pos cl]; exact hm)
    by_cases c0 : κ 204 (mj s i) < mW μ s i
    · -- there are new bytes
      have f0 : v_firstIn μ s i 0 = κ 204 (mj s i) := by
        have z0 := c5 (κ 204 (mj s i)).toNat (by omega) (by omega)
        rcases firstIn_c hV i 0 h1 with ⟨_, x⟩ | ⟨o, x, y, z, w⟩
        · exact absurd z0 (x _ (by omega))
        · by_cases q1 : (o : Int) < κ 204 (mj s i)
          · exact absurd z (c3 o q1).2
          · by_cases q2 : (κ 204 (mj s i)).toNat < o
            · exact absurd z0 (w _ q2)
            · omega
      by_cases cA : v_allowed μ s i = 0
      · have hm0 : v_sendable κ s i = 0 := by omega
        have ew : v_owesEnd κ s i = 0 := by
          rw [owes_e, if_neg (by omega)]
        obtain ⟨g1, g2⟩ := hff 0 (by omega) hm0.symm
        rw [g1, g2]
        have eV : v_fillsStream μ s i r = 0 := by
          unfold v_fillsStream
          rw [if_pos hcond, if_pos f2, f0]
          simp only [if_pos k204, if_pos cA, ite_self]
        have eS : s_fillsStream μ s i r = μ := by
          unfold s_fillsStream
          rw [if_pos hcond, if_pos f2, f0]
          simp only [if_pos k204, if_pos cA, ite_self]
        rw [eV, eS]
        unfold ffV ffS
        rw [if_pos ⟨rfl, ew⟩, if_pos ⟨rfl, ew⟩]
        exact Or.inr ⟨rfl, rfl, h, fun _ _ _ => rfl⟩
      · obtain ⟨m, hm⟩ : ∃ m, m = v_sendable κ s i := ⟨_, rfl⟩
        have m1 : 1 ≤ m := by omega
        refine stream_go (a := κ 204 (mj s i)) (t := 0) (q := v_allowed μ s i) (m := m) h1 h2 h3 h4 p0 p1 r1 r2 h hp hl k204 (by omega) m1 (by omega) (Or.inr ⟨rfl, by have := hm3 (by omega); omega⟩) (hff m (by omega) hm) ⟨?_, ?_⟩ (fun o o0 o1 => ⟨by omega, by omega, c5 _ (by omega) (by omega)⟩) (fun w => by omega)
        · unfold v_fillsStream
          rw [if_pos hcond, if_pos f2, f0, eCw]
          simp only [if_pos k204, if_neg cA, ite_self]
          rfl
        · unfold s_fillsStream
          rw [if_pos hcond, if_pos f2, f0, eCw]
          simp only [if_pos k204, if_neg cA, ite_self]
          rfl
    · -- all is out
      have f0 : ¬ 0 ≤ v_firstIn μ s i 0 := by
        rcases firstIn_c hV i 0 h1 with ⟨x, _⟩ | ⟨o, x, y, z, w⟩
        · omega
        · exact absurd z (c3 o (by omega)).2
      have hm0 : v_sendable κ s i = 0 := by omega
      obtain ⟨g1, g2⟩ := hff 0 (by omega) hm0.symm
      have v19 : 0 ≤ μ 19 (mj s i) ∧ μ 19 (mj s i) ≤ 1 := hV 19 _
      have v20 : 0 ≤ μ 20 (mj s i) ∧ μ 20 (mj s i) ≤ 3 := hV 20 _
      have v21 : 0 ≤ μ 21 (mj s i) := (hV 21 _).1
      have y7 := a1.2.2.2.2.2.2
      have y2 := a1.2.1
      have k19 : κ 200 (mj s i) = 1 ↔ ¬ μ 19 (mj s i) = 0 := by
        rw [y7] at hl ⊢
        clear hm1 hm2 hm3 y2
        by_cases z : 0 < μ 21 (mj s i)
        · rw [if_pos z] at hl; omega
        · rw [if_neg z] at hl ⊢
          by_cases z2 : μ 19 (mj s i) = 0
          · rw [if_pos z2]; omega
          · rw [if_neg z2] at hl ⊢
            by_cases z3 : μ 20 (mj s i) = 3 ∧ κ 206 (mj s i) = κ 203 (mj s i)
            · rw [if_pos z3] at hl; omega
            · rw [if_neg z3]; omega
      clear y7
      rw [g1, g2]
      by_cases co : ¬ μ 19 (mj s i) = 0 ∧ (μ 20 (mj s i) = 0 ∨ μ 20 (mj s i) = 2)
      · have ew : v_owesEnd κ s i = 1 := by
          rw [if_neg co.1] at y2
          rw [owes_e, if_pos (by omega)]
        obtain ⟨C, e1, e2, e3, _⟩ := cf_c (κ := κ) (p := p) (i := i) (a := κ 204 (mj s i)) (m := 0) (r := r) k204 r2 (by omega)
        have e4 := e3 rfl
        clear e3 y2
        obtain ⟨o0, o45, o46, o47, o48, o49⟩ := mu0_o (μ := μ) i (κ 204 (mj s i))
        have hV0 : mV (mu0 μ i (κ 204 (mj s i))) := mu0_V hV (by omega) (by omega)
        have eF : v_fillsStream μ s i r = v_endAlone (mu0 μ i (κ 204 (mj s i))) s i r ∧ s_fillsStream μ s i r = s_endAlone (mu0 μ i (κ 204 (mj s i))) s i r := by
          have : mCnt μ s i (-1) (mTot μ s) = κ 204 (mj s i) := by omega
          unfold v_fillsStream s_fillsStream
          rw [if_pos hcond, if_pos hcond, if_pos f2, if_pos f2, if_neg co.1, if_neg co.1, this]
          simp only [if_neg f0]
          rcases co.2 with z | z
          · rw [if_pos z, if_pos z]
            exact ⟨rfl, rfl⟩
          · rw [if_neg (show ¬ μ 20 (mj s i) = 0 by omega), if_neg (show ¬ μ 20 (mj s i) = 0 by omega), if_pos z, if_pos z]
            exact ⟨rfl, rfl⟩
        have eb : v_bytes (u2 (mu0 μ i (κ 204 (mj s i))) 48 0 1) = hdB i (κ 204 (mj s i)) + mSize 0 + 0 := by
          rw [bytes_g (by rw [u2_f (by decide)]; exact o45), u2_f (by decide), u2_f (by decide), u2_f (by decide), o46, o47, o49]
        rw [eF.1, eF.2, e1]
        unfold v_endAlone s_endAlone
        rw [eb]
        have ne : ¬ ((0 : Int) = 0 ∧ v_owesEnd κ s i = 0) := fun w => by omega
        rcases e4 with ⟨z1, z2⟩ | ⟨z1, z2⟩
        · rw [if_pos z2, if_pos z2]
          have eV : ffV κ s i 0 C = 1 := by
            unfold ffV
            rw [if_neg ne, if_neg (by omega), if_neg (by omega)]
          have eS : ffS κ s p r i (κ 204 (mj s i)) 0 C = ffT κ s p r i (κ 204 (mj s i)) 0 C := by
            unfold ffS
            rw [if_neg ne, if_neg (by omega), if_neg (by omega)]
          rw [eV, eS]
          have eT : u2 (u2 (mu0 μ i (κ 204 (mj s i))) 48 0 1) 20 (mj s i) 1 = fsT (mu0 μ i (κ 204 (mj s i))) s i (κ 204 (mj s i) + C) (mW μ s i) := by
            unfold fsT
            rw [if_pos (show κ 204 (mj s i) + C = mW μ s i by omega), o0 19 _ (by omega), o0 20 _ (by omega), if_neg co.1, if_neg (show ¬ μ 20 (mj s i) = 3 by omega)]
          rw [eT]
          refine Or.inl ⟨rfl, rfl, stream_fin (μb := mu0 μ i (κ 204 (mj s i))) h1 h2 h3 h4 p0 p1 h hp hl k204 (by omega) (by omega) (by omega) (Or.inl ⟨by omega, fun o z3 z4 => by omega⟩) e2 o0 hV0 o45 o46 o47 o48 (by rw [o49]; exact z1.symm) ⟨hV0, fun _ _ _ _ => rfl, fun o ho => ?_⟩ (fun q hq => by omega) ?_⟩
          · exact (if_neg (show ¬ (κ 204 (mj s i) ≤ (o : Int) ∧ (o : Int) < κ 204 (mj s i) + C) by omega)).symm
          · rw [z1]
            exact (Int.add_zero _).symm
        · rw [if_neg (show ¬ hdB i (κ 204 (mj s i)) + mSize 0 + 0 ≤ r by omega), if_neg (show ¬ hdB i (κ 204 (mj s i)) + mSize 0 + 0 ≤ r by omega)]
          have eV : ffV κ s i 0 C = 0 := by
            unfold ffV
            rw [if_neg ne, if_pos z1]
          have eS : ffS κ s p r i (κ 204 (mj s i)) 0 C = s_countThatFits κ p i (κ 204 (mj s i)) 0 r := by
            unfold ffS
            rw [if_neg ne, if_pos z1]
          rw [eV, eS, e2]
          exact Or.inr ⟨rfl, rfl, fS_sc p0 p1 h (fun f k w => u2_n (by omega)) (fun f k w => by rw [u2_f (by omega), o0 f k w]) (hV0.u (f := 48) (by decide)), fun f k w => u2_n (by omega)⟩
      · have ew : v_owesEnd κ s i = 0 := by
          rw [owes_e]
          refine if_neg (fun w => co ?_)
          have z := k19.mp w.1
          rw [if_neg z] at y2
          exact ⟨z, by omega⟩
        have eV : v_fillsStream μ s i r = 0 ∧ s_fillsStream μ s i r = μ := by
          unfold v_fillsStream s_fillsStream
          rw [if_pos hcond, if_pos hcond, if_pos f2, if_pos f2]
          simp only [if_neg f0]
          by_cases z : μ 19 (mj s i) = 0
          · rw [if_pos z, if_pos z]; exact ⟨rfl, rfl⟩
          · rw [if_neg z, if_neg z, if_neg (show ¬ μ 20 (mj s i) = 0 from fun w => co ⟨z, Or.inl w⟩), if_neg (show ¬ μ 20 (mj s i) = 0 from fun w => co ⟨z, Or.inl w⟩), if_neg (show ¬ μ 20 (mj s i) = 2 from fun w => co ⟨z, Or.inr w⟩), if_neg (show ¬ μ 20 (mj s i) = 2 from fun w => co ⟨z, Or.inr w⟩)]
            exact ⟨rfl, rfl⟩
        rw [eV.1, eV.2]
        unfold ffV ffS
        rw [if_pos ⟨rfl, ew⟩, if_pos ⟨rfl, ew⟩]
        exact Or.inr ⟨rfl, rfl, h, fun _ _ _ => rfl⟩
  · -- some are lost
    obtain ⟨a, f1, f2, f3, f4⟩ := firstLost_l (κ := κ) (s := s) (i := i) 65537 0 (by omega) (by omega) (fun q hq => by omega)
    have f1' : v_firstLost κ s i = (a : Int) := f1
    have alt : (a : Int) < κ 204 (mj s i) := by
      by_cases z : (a : Int) < κ 204 (mj s i)
      · exact z
      · exfalso
        apply cl
        rw [c6]
        unfold mR
        refine Int.le_of_eq (mRem_z _ _ (fun q hq w => ?_))
        rw [show ((0 : Int)).toNat + q = q by omega] at w
        by_cases y : q < a
        · exact f3 q y w
        · have := c4 q (by omega)
          omega
    have f4' := f4 alt
    obtain ⟨b, l1, l2, l3, l4, l5⟩ := lostRun_l (κ := κ) (s := s) (i := i) (u := a) 65537 a (by omega) (by omega) (Nat.le_refl _) (fun q x y => by omega)
    have l1' : v_lostRun κ s i a = (b : Int) - a := l1
    have ab : a < b := by
      by_cases z : a < b
      · exact z
      · have : b = a := by omega
        rw [this] at l5
        exact absurd f4' (l5 alt)
    have fi : v_firstIn μ s i 2 = (a : Int) := by
      have z0 : mMk μ s i a = 2 := by
        have := (c3 a alt).1
        omega
      rcases firstIn_c hV i 2 h1 with ⟨_, x⟩ | ⟨o, x, y, z, w⟩
      · exact absurd z0 (x _ (by omega))
      · by_cases q1 : o < a
        · have := (c3 o (by omega)).1
          exact absurd (show κ (1000 + (κ 202 (mj s i)).toNat) o = 3 by omega) (f3 o q1)
        · by_cases q2 : a < o
          · exact absurd z0 (w _ q2)
          · rw [x]; omega
    have fn : ¬ ((a : Int) < 0) := by omega
    refine stream_go (a := (a : Int)) (t := 2) (q := 65536) (m := (b : Int) - a) h1 h2 h3 h4 p0 p1 r1 r2 h hp hl (by omega) (by omega) (by omega) (by omega) (Or.inl ⟨by omega, fun o z1 z2 => l4 o (by omega) (by omega)⟩) (fillFrom_e (by omega) (by rw [if_neg cl]; exact f1'.symm) (by rw [if_neg cl, f1']; exact l1'.symm)) ⟨?_, ?_⟩ (fun o o0 o1 => ⟨by omega, by omega, ?_⟩) (fun w => ?_)
    · unfold v_fillsStream
      rw [if_pos hcond, fi, if_neg fn, eCw]
      simp only [ite_self]
      rfl
    · unfold s_fillsStream
      rw [if_pos hcond, fi, if_neg fn, eCw]
      simp only [ite_self]
      rfl
    · have z := (c3 ((a : Int) + o).toNat (by omega)).1
      rw [l4 _ (by omega) (by omega)] at z
      omega
    · obtain ⟨w1, w2, w3⟩ := w
      rw [show ((a : Int) + ((b : Int) - a)).toNat = b by omega] at w3
      by_cases z : (b : Int) < κ 204 (mj s i)
      · have := (c3 b z).1
        exact l5 z (by omega)
      · have := c5 b (by omega) (by omega)
        omega
end R48
