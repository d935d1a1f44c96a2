section R27
variable {κ μ κ' μ' κ1 μ1 : Nat → Nat → Int} {O O' : Nat → Nat}
theorem mRem_mo {g g' : Nat → Int} {c : Int} : ∀ (n a : Nat), (∀ q, g q = c → g' q = c) → mRem g c a n ≤ mRem g' c a n
  | 0, _, _ => Int.le_refl _
  | n + 1, a, h => by
    rw [mRem_s, mRem_s]
    have ih := mRem_mo n a h
    rcases b2_c (g (a + n) = c) with x | x
    · have : b2 (g' (a + n) = c) = 1 := if_pos (h _ x.1)
      omega
    · have := b2_r (g' (a + n) = c)
      omega
theorem mR_top {g : Nat → Int} {c n t : Int} (hc : ¬ c = 0) (h0 : 0 ≤ t) (hz : ∀ o : Nat, t ≤ o → g o = 0) (hn : t ≤ n) : mR g c 0 n ≤ t := by
  unfold mR
  rw [show (n - 0).toNat = t.toNat + (n.toNat - t.toNat) by omega, mRem_app, mRem_z (n.toNat - t.toNat) ((0 : Int).toNat + t.toNat) (fun q hq => by rw [hz _ (by omega)]; omega)]
  have := (mRem_le g c t.toNat (0 : Int).toNat).2
  omega
theorem st_up {K a b c c' n n' m : Int} (hK : K = if 0 < a then 2 + a else if b = 0 then 0 else if c = 3 ∧ n = m then 2 else 1) (h : c = 3 → c' = 3) (h6 : n ≤ n') (h7 : n' ≤ m) : (if K = 1 ∧ c' = 3 ∧ n' = m then 2 else K) = (if 0 < a then 2 + a else if b = 0 then 0 else if c' = 3 ∧ n' = m then 2 else 1) := by
  by_cases w1 : 0 < a
  · rw [if_pos w1] at hK
    rw [if_pos w1, if_neg (by omega)]
    exact hK
  · rw [if_neg w1] at hK
    rw [if_neg w1]
    by_cases w2 : b = 0
    · rw [if_pos w2] at hK
      rw [if_pos w2, if_neg (by omega)]
      exact hK
    · rw [if_neg w2] at hK
      rw [if_neg w2]
      by_cases w3 : c = 3 ∧ n = m
      · rw [if_pos w3] at hK
        rw [if_neg (by omega), if_pos (show c' = 3 ∧ n' = m from ⟨h w3.1, by omega⟩)]
        exact hK
      · rw [if_neg w3] at hK
        by_cases w4 : c' = 3 ∧ n' = m
        · rw [if_pos ⟨hK, w4⟩, if_pos w4]
        · rw [if_neg (fun z => w4 z.2), if_neg w4]
          exact hK
/-- the bytes of a frame were lost -/
theorem gone8_lost (hV : mV μ) (hK : kV κ) (hR : kRel κ μ O) (hI : kInv κ) {p : Int} (f1 : rF1 κ μ p.toNat) (f2 : rF2 κ μ O p.toNat) (h8 : κ 3 p.toNat = 8) : kRel (s_hearLostS κ p (κ 2 p.toNat) (κ 4 p.toNat)) (s_goneStream μ (μ 51 p.toNat) p 0) O ∧ kInv (s_hearLostS κ p (κ 2 p.toNat) (κ 4 p.toNat)) := by
  obtain ⟨g1, g2, g3, g4, g5, g6, g7, g8⟩ := f1
  obtain ⟨t1, t2, t3, t4, t5, t6, t7, t8, t9, t10, t11⟩ := f2
  have v51 : 0 ≤ μ 51 p.toNat ∧ μ 51 p.toNat ≤ 1 := hV 51 _
  have v53 : 0 ≤ μ 53 p.toNat := (hV 53 _).1
  have v54 : 0 ≤ μ 54 p.toNat := (hV 54 _).1
  have v56 : 0 ≤ μ 56 p.toNat ∧ μ 56 p.toNat ≤ 1200 := hV 56 _
  have h1 : 0 ≤ κ 2 p.toNat := by omega
  have h2 : κ 2 p.toNat ≤ 1 := by omega
  have h3 : 0 ≤ κ 4 p.toNat := by omega
  rw [← g2]
  generalize hs : κ 2 p.toNat = s at *
  generalize hi : κ 4 p.toNat = i at *
  have hA0 := hR.A h1 h2 h3 t2
  obtain ⟨a1, a2, a3⟩ := hA0.2.1 t3
  obtain ⟨⟨r1, r2, r3, r4⟩, ⟨r5, r6, r7, r8⟩, r9, r10, r11⟩ := a2
  obtain ⟨c1, c2, c3, c4, c5, c6, c7⟩ := a3
  obtain ⟨y1, y2, y3, y4, y5, y6, y7⟩ := a1
  have k204 : 0 ≤ κ 204 (mj s i) := (hK.1 204 _).1
  have v19 : 0 ≤ μ 19 (mj s i) ∧ μ 19 (mj s i) ≤ 1 := hV 19 _
  have v20 : 0 ≤ μ 20 (mj s i) ∧ μ 20 (mj s i) ≤ 3 := hV 20 _
  obtain ⟨μ1, m1, m2, m3⟩ := gone_l (μ := μ) (s := s) (i := i) (p := p) (g := 0) h1 h2 (by omega) 1201 (μ 56 p.toNat).toNat 0 μ hV (by omega) (by omega) (by omega) (fun o x y => (c3 o (by omega)).2)
  have eG : s_goneStream μ s p 0 = gsT μ1 s i p 0 := by
    unfold s_goneStream
    exact m1
  have hg : ∀ g' : Int, ∃ κ1, s_markLost κ s i (κ 8 p.toNat) (κ 9 p.toNat) g' = (if g' = 0 then κ1 else (if (κ1 207 (mj s i)) = 4 then κ1 else (u2 κ1 207 (mj s i) 3))) ∧ mkK κ κ1 s i (fun o => if κ 8 p.toNat ≤ (o : Int) ∧ (o : Int) < κ 8 p.toNat + (κ 9 p.toNat).toNat then (if κ (1000 + (κ 202 (mj s i)).toNat) o = 2 then 3 else κ (1000 + (κ 202 (mj s i)).toNat) o) else κ (1000 + (κ 202 (mj s i)).toNat) o) := fun g' =>
    lost_l (κ := κ) (s := s) (i := i) (u := κ 8 p.toNat) (n := κ 9 p.toNat) (g := g') (by omega) ((κ 9 p.toNat).toNat + 1) (κ 9 p.toNat).toNat (κ 8 p.toNat) κ (by omega) (Int.le_refl _) (by omega) (by omega) c6 c7
  have eL : s_hearLostS κ p s i = if κ 6 p.toNat = 1 then s_markLost κ s i (κ 8 p.toNat) (κ 9 p.toNat) 1 else s_markLost κ s i (κ 8 p.toNat) (κ 9 p.toNat) 0 := by
    unfold s_hearLostS
    rw [if_pos h8]
  rw [eL, eG]
  -- what both come to
  have fin : ∀ κ1 κ' μ' : Nat → Nat → Int, mkK κ κ1 s i (fun o => if κ 8 p.toNat ≤ (o : Int) ∧ (o : Int) < κ 8 p.toNat + (κ 9 p.toNat).toNat then (if κ (1000 + (κ 202 (mj s i)).toNat) o = 2 then 3 else κ (1000 + (κ 202 (mj s i)).toNat) o) else κ (1000 + (κ 202 (mj s i)).toNat) o) → (∀ f k, ¬ (f = 207 ∧ k = mj s i) → κ' f k = κ1 f k) → (∀ f k, ¬ (f = 20 ∧ k = mj s i) → μ' f k = μ1 f k) → mV μ' → κ' 207 (mj s i) = (if μ 19 (mj s i) = 0 then 0 else 1 + μ' 20 (mj s i)) → (μ' 20 (mj s i) = 3 ↔ μ 20 (mj s i) = 3) → kRel κ' (s_looksOver μ' s i) O ∧ kInv κ' := by
    intro κ1 κ' μ' hkk hk' hm' hV' k207 k20
    have e206 : κ1 206 (mj s i) = κ 206 (mj s i) := by
      rw [hkk.2.2.2, c7]
      unfold mR
      refine mRem_ext _ _ _ (fun q hq => ?_)
      rw [hkk.2.1]
      show (if κ 8 p.toNat ≤ (((0 : Int).toNat + q : Nat) : Int) ∧ (((0 : Int).toNat + q : Nat) : Int) < κ 8 p.toNat + (κ 9 p.toNat).toNat then (if κ (1000 + (κ 202 (mj s i)).toNat) ((0 : Int).toNat + q) = 2 then 3 else κ (1000 + (κ 202 (mj s i)).toNat) ((0 : Int).toNat + q)) else κ (1000 + (κ 202 (mj s i)).toNat) ((0 : Int).toNat + q)) = 4 ↔ κ (1000 + (κ 202 (mj s i)).toNat) ((0 : Int).toNat + q) = 4
      split
      · split <;> omega
      · rfl
    have kk : ∀ f k, ¬ (f = 207 ∧ k = mj s i) → ¬ ((f = 205 ∨ f = 206) ∧ k = mj s i) → f ≠ 1000 + (κ 202 (mj s i)).toNat → κ' f k = κ f k := fun f k x y z => by rw [hk' f k x, hkk.1 f k y z]
    have hall : mAll μ' s (mTot μ' s) = mAll μ s (mTot μ s) := by
      rw [← m3, mTot_cg (μ := μ') (μ' := μ1) (fun k => hm' _ _ (by omega))]
      exact mAll_cgr _ (fun q _ => hm' _ _ (by omega))
    have e204 : κ' 204 (mj s i) = κ 204 (mj s i) := kk _ _ (by omega) (by omega) (by omega)
    have hR' : kRel κ' μ' O := by
      refine Rel_M hV hR h1 h2 h3 t2 t3 hkk m2 (fun f k x y => hk' f k (by omega)) (fun f k x y z => hm' f k x) (by omega) (by omega) (fun o ho => ?_) (fun o ho => ?_) (fun o x y => ?_) ?_ k207 ?_
      · obtain ⟨z1, z2⟩ := c3 o (by omega)
        show (if κ 8 p.toNat ≤ (o : Int) ∧ (o : Int) < κ 8 p.toNat + (κ 9 p.toNat).toNat then (if κ (1000 + (κ 202 (mj s i)).toNat) o = 2 then 3 else κ (1000 + (κ 202 (mj s i)).toNat) o) else κ (1000 + (κ 202 (mj s i)).toNat) o) = 1 + (if μ 54 p.toNat + ((0 : Nat) : Int) ≤ (o : Int) ∧ (o : Int) < μ 54 p.toNat + ((0 : Nat) : Int) + ((μ 56 p.toNat).toNat : Int) then (if mMk μ s i o = 3 then 3 else if (0 : Int) = 0 then 2 else 3) else mMk μ s i o) ∧ ¬ (if μ 54 p.toNat + ((0 : Nat) : Int) ≤ (o : Int) ∧ (o : Int) < μ 54 p.toNat + ((0 : Nat) : Int) + ((μ 56 p.toNat).toNat : Int) then (if mMk μ s i o = 3 then 3 else if (0 : Int) = 0 then 2 else 3) else mMk μ s i o) = 0
        have vm : 0 ≤ mMk μ s i o ∧ mMk μ s i o ≤ 3 := hV 39 _
        by_cases w : κ 8 p.toNat ≤ (o : Int) ∧ (o : Int) < κ 8 p.toNat + (κ 9 p.toNat).toNat
        · have w2 : μ 54 p.toNat + ((0 : Nat) : Int) ≤ (o : Int) ∧ (o : Int) < μ 54 p.toNat + ((0 : Nat) : Int) + ((μ 56 p.toNat).toNat : Int) := by omega
          rw [if_pos w, if_pos w2, if_pos (rfl : (0 : Int) = 0)]
          repeat' split
          all_goals omega
        · rw [if_neg w, if_neg (show ¬ (μ 54 p.toNat + ((0 : Nat) : Int) ≤ (o : Int) ∧ (o : Int) < μ 54 p.toNat + ((0 : Nat) : Int) + ((μ 56 p.toNat).toNat : Int)) by omega)]
          exact ⟨z1, z2⟩
      · show (if κ 8 p.toNat ≤ (o : Int) ∧ (o : Int) < κ 8 p.toNat + (κ 9 p.toNat).toNat then (if κ (1000 + (κ 202 (mj s i)).toNat) o = 2 then 3 else κ (1000 + (κ 202 (mj s i)).toNat) o) else κ (1000 + (κ 202 (mj s i)).toNat) o) = 0
        rw [if_neg (by omega)]
        exact c4 o (by omega)
      · show (if μ 54 p.toNat + ((0 : Nat) : Int) ≤ (o : Int) ∧ (o : Int) < μ 54 p.toNat + ((0 : Nat) : Int) + ((μ 56 p.toNat).toNat : Int) then (if mMk μ s i o = 3 then 3 else if (0 : Int) = 0 then 2 else 3) else mMk μ s i o) = 0
        rw [if_neg (by omega)]
        exact c5 o (by omega) y
      · refine rS_mk (i := i) hR h1 h2 (fun f k x y => kk _ _ (by omega) (by omega) (by omega)) (fun f k x y z => by rw [hm' f k x, m2.2.1 f k (by omega) (by omega)]) hall
      · rw [kk 200 _ (by omega) (by omega) (by omega), y7, e206]
        simp only [k20]
    have e113 : ∀ f, f = 190 ∨ f = 100 ∨ f = 113 ∨ f = 290 ∨ f = 200 → ∀ k, κ' f k = κ f k := fun f x k => kk _ _ (by omega) (by omega) (by omega)
    have hI' : kInv κ' := Inv_cg hI (fun f k z => kk _ _ (by omega) (by omega) (by omega)) (fun k z => kk _ _ (by omega) (by omega) (by omega))
    rw [over_same hV' hR' h1 h2 h3 t2 (by omega) ((hI' s h1 h2).2 i h3 t2).2]
    exact ⟨hR', hI'⟩
  have m20 : μ1 20 (mj s i) = μ 20 (mj s i) := m2.2.1 _ _ (by omega) (by omega)
  have m55 : μ1 55 p.toNat = μ 55 p.toNat := m2.2.1 _ _ (by omega) (by omega)
  unfold gsT
  rw [m55, m20]
  by_cases c : κ 6 p.toNat = 1
  · have h19 := t5 c
    obtain ⟨κ1, l1, l2⟩ := hg 1
    have e207 : κ1 207 (mj s i) = 1 + μ 20 (mj s i) := by rw [l2.1 _ _ (by omega) (by omega), y2, if_neg (by omega)]
    rw [if_pos c, l1, if_neg (show ¬ (1 : Int) = 0 by decide), if_pos (show μ 55 p.toNat = 1 by omega), e207]
    by_cases d : μ 20 (mj s i) = 3
    · rw [if_pos (show 1 + μ 20 (mj s i) = 4 by omega), if_pos d]
      exact fin κ1 κ1 μ1 l2 (fun _ _ _ => rfl) (fun _ _ _ => rfl) m2.1 (by rw [e207, m20, if_neg (by omega)]) (by rw [m20])
    · rw [if_neg (show ¬ 1 + μ 20 (mj s i) = 4 by omega), if_neg d, if_pos (rfl : (0 : Int) = 0)]
      exact fin κ1 _ _ l2 (fun f k x => u2_n x) (fun f k x => u2_n x) (m2.1.u (f := 20) (by decide)) (by rw [u2_s, u2_s, if_neg (by omega)]; rfl) (by rw [u2_s]; omega)
  · obtain ⟨κ1, l1, l2⟩ := hg 0
    rw [if_neg c, l1, if_pos (rfl : (0 : Int) = 0), if_neg (show ¬ μ 55 p.toNat = 1 by omega)]
    exact fin κ1 κ1 μ1 l2 (fun _ _ _ => rfl) (fun _ _ _ => rfl) m2.1 (by rw [l2.1 _ _ (by omega) (by omega), y2, m20]) (by rw [m20])
set_option maxHeartbeats 4000000 in
/-- the bytes of a frame have arrived -/
theorem gone8_here (hV : mV μ) (hK : kV κ) (hR : kRel κ μ O) (hI : kInv κ) {p g : Int} (hg0 : ¬ g = 0) (f1 : rF1 κ μ p.toNat) (f2 : rF2 κ μ O p.toNat) : kRel (if κ 6 p.toNat = 1 then s_growIfOver (s_markHere κ (κ 2 p.toNat) (κ 4 p.toNat) (κ 8 p.toNat) (κ 9 p.toNat) 1) (κ 2 p.toNat) (κ 4 p.toNat) else s_growIfOver (s_markHere κ (κ 2 p.toNat) (κ 4 p.toNat) (κ 8 p.toNat) (κ 9 p.toNat) 0) (κ 2 p.toNat) (κ 4 p.toNat)) (s_goneStream μ (μ 51 p.toNat) p g) O ∧ kInv (if κ 6 p.toNat = 1 then s_growIfOver (s_markHere κ (κ 2 p.toNat) (κ 4 p.toNat) (κ 8 p.toNat) (κ 9 p.toNat) 1) (κ 2 p.toNat) (κ 4 p.toNat) else s_growIfOver (s_markHere κ (κ 2 p.toNat) (κ 4 p.toNat) (κ 8 p.toNat) (κ 9 p.toNat) 0) (κ 2 p.toNat) (κ 4 p.toNat)) := by
  obtain ⟨g1, g2, g3, g4, g5, g6, g7, g8⟩ := f1
  obtain ⟨t1, t2, t3, t4, t5, t6, t7, t8, t9, t10, t11⟩ := f2
  have v51 : 0 ≤ μ 51 p.toNat ∧ μ 51 p.toNat ≤ 1 := hV 51 _
  have v53 : 0 ≤ μ 53 p.toNat := (hV 53 _).1
  have v54 : 0 ≤ μ 54 p.toNat := (hV 54 _).1
  have v56 : 0 ≤ μ 56 p.toNat ∧ μ 56 p.toNat ≤ 1200 := hV 56 _
  have h1 : 0 ≤ κ 2 p.toNat := by omega
  have h2 : κ 2 p.toNat ≤ 1 := by omega
  have h3 : 0 ≤ κ 4 p.toNat := by omega
  rw [← g2]
  generalize hs : κ 2 p.toNat = s at *
  generalize hi : κ 4 p.toNat = i at *
  have hA0 := hR.A h1 h2 h3 t2
  obtain ⟨a1, a2, a3⟩ := hA0.2.1 t3
  obtain ⟨⟨r1, r2, r3, r4⟩, ⟨r5, r6, r7, r8⟩, r9, r10, r11⟩ := a2
  obtain ⟨c1, c2, c3, c4, c5, c6, c7⟩ := a3
  obtain ⟨y1, y2, y3, y4, y5, y6, y7⟩ := a1
  have k204 : 0 ≤ κ 204 (mj s i) := (hK.1 204 _).1
  have k113 : 0 ≤ κ 113 (mj s i) ∧ κ 113 (mj s i) ≤ 1 := ⟨(hK.1 113 _).1, (hK.1 113 _).2 rfl⟩
  have v19 : 0 ≤ μ 19 (mj s i) ∧ μ 19 (mj s i) ≤ 1 := hV 19 _
  have v20 : 0 ≤ μ 20 (mj s i) ∧ μ 20 (mj s i) ≤ 3 := hV 20 _
  have v21 : 0 ≤ μ 21 (mj s i) ∧ μ 21 (mj s i) ≤ 2 := hV 21 _
  obtain ⟨μ1, m1, m2, m3⟩ := gone_l (μ := μ) (s := s) (i := i) (p := p) (g := g) h1 h2 (by omega) 1201 (μ 56 p.toNat).toNat 0 μ hV (by omega) (by omega) (by omega) (fun o x y => (c3 o (by omega)).2)
  have eG : s_goneStream μ s p g = gsT μ1 s i p g := by
    unfold s_goneStream
    exact m1
  have hg : ∀ g' : Int, ∃ κ1, s_markHere κ s i (κ 8 p.toNat) (κ 9 p.toNat) g' = mhT κ1 s i g' ∧ mkK κ κ1 s i (fun o => if κ 8 p.toNat ≤ (o : Int) ∧ (o : Int) < κ 8 p.toNat + (κ 9 p.toNat).toNat then 4 else κ (1000 + (κ 202 (mj s i)).toNat) o) := fun g' =>
    here_l (κ := κ) (s := s) (i := i) (u := κ 8 p.toNat) (n := κ 9 p.toNat) (g := g') (by omega) ((κ 9 p.toNat).toNat + 1) (κ 9 p.toNat).toNat (κ 8 p.toNat) κ (by omega) (Int.le_refl _) (by omega) (by omega) c6 c7
  rw [eG]
  have fin : ∀ κ1 κ' μ' : Nat → Nat → Int, mkK κ κ1 s i (fun o => if κ 8 p.toNat ≤ (o : Int) ∧ (o : Int) < κ 8 p.toNat + (κ 9 p.toNat).toNat then 4 else κ (1000 + (κ 202 (mj s i)).toNat) o) → (∀ f k, ¬ (f = 207 ∧ k = mj s i) → ¬ (f = 200 ∧ k = mj s i) → κ' f k = κ1 f k) → (∀ f k, ¬ (f = 20 ∧ k = mj s i) → μ' f k = μ1 f k) → mV μ' → κ' 207 (mj s i) = (if μ 19 (mj s i) = 0 then 0 else 1 + μ' 20 (mj s i)) → (μ 20 (mj s i) = 3 → μ' 20 (mj s i) = 3) → κ' 200 (mj s i) = (if κ 200 (mj s i) = 1 ∧ μ' 20 (mj s i) = 3 ∧ κ1 206 (mj s i) = κ 203 (mj s i) then 2 else κ 200 (mj s i)) → kRel (s_growIfOver κ' s i) (s_looksOver μ' s i) O ∧ kInv (s_growIfOver κ' s i) := by
    intro κ1 κ' μ' hkk hk' hm' hV' k207 k20 k200
    have hF : ∀ o, κ1 (1000 + (κ 202 (mj s i)).toNat) o = if κ 8 p.toNat ≤ (o : Int) ∧ (o : Int) < κ 8 p.toNat + (κ 9 p.toNat).toNat then 4 else κ (1000 + (κ 202 (mj s i)).toNat) o := hkk.2.1
    have h206 : κ 206 (mj s i) ≤ κ1 206 (mj s i) ∧ κ1 206 (mj s i) ≤ κ 204 (mj s i) := by
      rw [hkk.2.2.2, c7]
      refine ⟨mRem_mo _ _ (fun q hq => ?_), mR_top (by omega) k204 (fun o ho => ?_) (by omega)⟩
      · rw [hF]; split
        · rfl
        · exact hq
      · rw [hF, if_neg (by omega)]; exact c4 o ho
    have kk : ∀ f k, ¬ ((f = 207 ∨ f = 200) ∧ k = mj s i) → ¬ ((f = 205 ∨ f = 206) ∧ k = mj s i) → f ≠ 1000 + (κ 202 (mj s i)).toNat → κ' f k = κ f k := fun f k x y z => by rw [hk' f k (by omega) (by omega), hkk.1 f k y z]
    have hall : mAll μ' s (mTot μ' s) = mAll μ s (mTot μ s) := by
      rw [← m3, mTot_cg (μ := μ') (μ' := μ1) (fun k => hm' _ _ (by omega))]
      exact mAll_cgr _ (fun q _ => hm' _ _ (by omega))
    have e204 : κ' 204 (mj s i) = κ 204 (mj s i) := kk _ _ (by omega) (by omega) (by omega)
    have hR' : kRel κ' μ' O := by
      refine Rel_M hV hR h1 h2 h3 t2 t3 hkk m2 (fun f k x y => hk' f k (by omega) (by omega)) (fun f k x y z => hm' f k x) (by omega) (by omega) (fun o ho => ?_) (fun o ho => ?_) (fun o x y => ?_) ?_ k207 ?_
      · obtain ⟨z1, z2⟩ := c3 o (by omega)
        show (if κ 8 p.toNat ≤ (o : Int) ∧ (o : Int) < κ 8 p.toNat + (κ 9 p.toNat).toNat then 4 else κ (1000 + (κ 202 (mj s i)).toNat) o) = 1 + (if μ 54 p.toNat + ((0 : Nat) : Int) ≤ (o : Int) ∧ (o : Int) < μ 54 p.toNat + ((0 : Nat) : Int) + ((μ 56 p.toNat).toNat : Int) then (if mMk μ s i o = 3 then 3 else if g = 0 then 2 else 3) else mMk μ s i o) ∧ ¬ (if μ 54 p.toNat + ((0 : Nat) : Int) ≤ (o : Int) ∧ (o : Int) < μ 54 p.toNat + ((0 : Nat) : Int) + ((μ 56 p.toNat).toNat : Int) then (if mMk μ s i o = 3 then 3 else if g = 0 then 2 else 3) else mMk μ s i o) = 0
        by_cases w : κ 8 p.toNat ≤ (o : Int) ∧ (o : Int) < κ 8 p.toNat + (κ 9 p.toNat).toNat
        · have w2 : μ 54 p.toNat + ((0 : Nat) : Int) ≤ (o : Int) ∧ (o : Int) < μ 54 p.toNat + ((0 : Nat) : Int) + ((μ 56 p.toNat).toNat : Int) := by omega
          rw [if_pos w, if_pos w2, if_neg hg0]
          repeat' split
          all_goals omega
        · rw [if_neg w, if_neg (show ¬ (μ 54 p.toNat + ((0 : Nat) : Int) ≤ (o : Int) ∧ (o : Int) < μ 54 p.toNat + ((0 : Nat) : Int) + ((μ 56 p.toNat).toNat : Int)) by omega)]
          exact ⟨z1, z2⟩
      · show (if κ 8 p.toNat ≤ (o : Int) ∧ (o : Int) < κ 8 p.toNat + (κ 9 p.toNat).toNat then 4 else κ (1000 + (κ 202 (mj s i)).toNat) o) = 0
        rw [if_neg (by omega)]
        exact c4 o (by omega)
      · show (if μ 54 p.toNat + ((0 : Nat) : Int) ≤ (o : Int) ∧ (o : Int) < μ 54 p.toNat + ((0 : Nat) : Int) + ((μ 56 p.toNat).toNat : Int) then (if mMk μ s i o = 3 then 3 else if g = 0 then 2 else 3) else mMk μ s i o) = 0
        rw [if_neg (by omega)]
        exact c5 o (by omega) y
      · refine rS_mk (i := i) hR h1 h2 (fun f k x y => kk _ _ (by omega) (by omega) (by omega)) (fun f k x y z => by rw [hm' f k x, m2.2.1 f k (by omega) (by omega)]) hall
      · rw [k200]
        exact st_up y7 k20 h206.1 (by omega)
    have o := R_over hV' hR' h1 h2 h3 t2 (by omega) (by rw [kk 113 _ (by omega) (by omega) (by omega)]; exact k113) (fun x y z => by
      rw [kk 190 _ (by omega) (by omega) (by omega)] at x
      rw [kk 113 _ (by omega) (by omega) (by omega)] at z
      obtain ⟨q1, q2⟩ := (((hI s h1 h2).2 i h3 t2).2 x y).mp z
      rw [kk 100 _ (by omega) (by omega) (by omega), kk 290 _ (by omega) (by omega) (by omega), k200]
      refine ⟨q1, fun w => ?_⟩
      have := q2 w
      rw [if_neg (by omega)]
      exact this)
    refine ⟨o.1, ?_⟩
    have fo : ∀ f k, f ≠ 113 → f ≠ 360 → f ≠ 405 → s_growIfOver κ' s i f k = κ' f k := fun f k x y z => s_growIfOver_fr (by
      simp only [List.elem_eq_mem, List.mem_cons, List.not_mem_nil, or_false, Bool.not_eq_true', decide_eq_false_iff_not]
      omega)
    have fo2 : ∀ f k, k ≠ mj s i → f = 113 → s_growIfOver κ' s i f k = κ' f k := fun f k x y => by
      rw [growIfOver_e]
      split
      · split
        · exact u2_n (by omega)
        · rw [u2_n (by omega), u2_n (by omega), u2_n (by omega)]
      · rfl
    have hwy := kWayOf_b h3
    have fo3 : ∀ k, k % 16 = 4 → s_growIfOver κ' s i 360 k = κ' 360 k := fun k x => by
      rw [growIfOver_e]
      split
      · split
        · exact u2_n (by omega)
        · rw [u2_n (by omega), u2_n (by omega), u2_n (by omega)]
      · rfl
    refine Inv_st hI h1 h2 h3 t2 (fun f k x y => ?_) (fun f k x => by rw [fo _ _ (by omega) (by omega) (by omega), kk _ _ (by omega) (by omega) (by omega)]) (fun f k x y => by rw [fo _ _ (by omega) (by omega) (by omega), kk _ _ (by omega) (by omega) (by omega)]) (fun k x => by rw [fo3 _ x, kk _ _ (by omega) (by omega) (by omega)]) (iD_cg (fun f x => by rw [fo _ _ (by omega) (by omega) (by omega), kk _ _ (by omega) (by omega) (by omega)]) (by rw [fo3 _ (by omega), kk _ _ (by omega) (by omega) (by omega)]) (hI s h1 h2).1) (iG_cg (fun f x => by rw [fo _ _ (by omega) (by omega) (by omega), kk _ _ (by omega) (by omega) (by omega)]) ((hI s h1 h2).2 i h3 t2).1) o.2
    by_cases w : f = 113
    · rw [fo2 f k y w, kk _ _ (by omega) (by omega) (by omega)]
    · rw [fo _ _ w (by omega) (by omega), kk _ _ (by omega) (by omega) (by omega)]
  have m20 : μ1 20 (mj s i) = μ 20 (mj s i) := m2.2.1 _ _ (by omega) (by omega)
  have m55 : μ1 55 p.toNat = μ 55 p.toNat := m2.2.1 _ _ (by omega) (by omega)
  unfold gsT
  rw [m55, m20]
  by_cases c : κ 6 p.toNat = 1
  · have h19 := t5 c
    obtain ⟨κ1, l1, l2⟩ := hg 1
    have e200 : κ1 200 (mj s i) = κ 200 (mj s i) := l2.1 _ _ (by omega) (by omega)
    have e203 : κ1 203 (mj s i) = κ 203 (mj s i) := l2.1 _ _ (by omega) (by omega)
    have e207 : κ1 207 (mj s i) = 1 + μ 20 (mj s i) := by rw [l2.1 _ _ (by omega) (by omega), y2, if_neg (by omega)]
    rw [if_pos c, l1, if_pos (show μ 55 p.toNat = 1 by omega)]
    have eM : ∃ κ', mhT κ1 s i 1 = κ' ∧ (∀ f k, ¬ (f = 207 ∧ k = mj s i) → ¬ (f = 200 ∧ k = mj s i) → κ' f k = κ1 f k) ∧ κ' 207 (mj s i) = 4 ∧ κ' 200 (mj s i) = (if κ 200 (mj s i) = 1 ∧ κ1 206 (mj s i) = κ 203 (mj s i) then 2 else κ 200 (mj s i)) := by
      unfold mhT
      rw [if_neg (by decide), e200, e203]
      by_cases z : κ 200 (mj s i) = 1
      · rw [if_pos z]
        by_cases z2 : κ1 206 (mj s i) = κ 203 (mj s i)
        · rw [if_pos z2, if_pos ⟨z, z2⟩]
          exact ⟨_, rfl, fun f k x y => by rw [u2_n y, u2_n x], by rw [u2_f (by decide), u2_s], u2_s _ _ _ _⟩
        · rw [if_neg z2, if_neg (fun w => z2 w.2)]
          exact ⟨_, rfl, fun f k x y => by rw [u2_n x], by rw [u2_s], by rw [u2_f (by decide), e200]⟩
      · rw [if_neg z, if_neg (fun w => z w.1)]
        exact ⟨_, rfl, fun f k x y => by rw [u2_n x], by rw [u2_s], by rw [u2_f (by decide), e200]⟩
    obtain ⟨κ', q1, q2, q3, q4⟩ := eM
    rw [q1]
    by_cases d : μ 20 (mj s i) = 3
    · rw [if_pos d]
      exact fin κ1 κ' μ1 l2 q2 (fun _ _ _ => rfl) m2.1 (by rw [q3, m20, d, if_neg (by omega)]; rfl) (fun _ => by rw [m20]; exact d) (by rw [q4, m20, d]; simp)
    · rw [if_neg d, if_neg hg0]
      exact fin κ1 κ' _ l2 q2 (fun f k x => u2_n x) (m2.1.u (f := 20) (by decide)) (by rw [u2_s, q3, if_neg (by omega)]; rfl) (fun _ => u2_s _ _ _ _) (by rw [u2_s, q4]; simp)
  · obtain ⟨κ1, l1, l2⟩ := hg 0
    have e200 : κ1 200 (mj s i) = κ 200 (mj s i) := l2.1 _ _ (by omega) (by omega)
    have e203 : κ1 203 (mj s i) = κ 203 (mj s i) := l2.1 _ _ (by omega) (by omega)
    have e207 : κ1 207 (mj s i) = κ 207 (mj s i) := l2.1 _ _ (by omega) (by omega)
    rw [if_neg c, l1, if_neg (show ¬ μ 55 p.toNat = 1 by omega)]
    have eM : ∃ κ', mhT κ1 s i 0 = κ' ∧ (∀ f k, ¬ (f = 200 ∧ k = mj s i) → κ' f k = κ1 f k) ∧ κ' 200 (mj s i) = (if κ 200 (mj s i) = 1 ∧ κ 207 (mj s i) = 4 ∧ κ1 206 (mj s i) = κ 203 (mj s i) then 2 else κ 200 (mj s i)) := by
      unfold mhT
      rw [if_pos rfl, e200, e203, e207]
      by_cases z : κ 200 (mj s i) = 1
      · rw [if_pos z]
        by_cases z3 : κ 207 (mj s i) = 4
        · rw [if_pos z3]
          by_cases z2 : κ1 206 (mj s i) = κ 203 (mj s i)
          · rw [if_pos z2, if_pos ⟨z, z3, z2⟩]
            exact ⟨_, rfl, fun f k x => u2_n x, u2_s _ _ _ _⟩
          · rw [if_neg z2, if_neg (fun w => z2 w.2.2)]
            exact ⟨_, rfl, fun f k x => rfl, e200⟩
        · rw [if_neg z3, if_neg (fun w => z3 w.2.1)]
          exact ⟨_, rfl, fun f k x => rfl, e200⟩
      · rw [if_neg z, if_neg (fun w => z w.1)]
        exact ⟨_, rfl, fun f k x => rfl, e200⟩
    obtain ⟨κ', q1, q2, q4⟩ := eM
    rw [q1]
    refine fin κ1 κ' μ1 l2 (fun f k x y => q2 f k y) (fun _ _ _ => rfl) m2.1 (by rw [q2 _ _ (by omega), e207, y2, m20]) (fun z => by rw [m20]; exact z) ?_
    rw [q4, m20]
    by_cases z : κ 200 (mj s i) = 1
    · have hz21 : ¬ 0 < μ 21 (mj s i) := by
        intro w
        rw [if_pos w] at y7
        omega
      have hz19 : ¬ μ 19 (mj s i) = 0 := by
        intro w
        rw [if_neg hz21, if_pos w] at y7
        omega
      have : κ 207 (mj s i) = 4 ↔ μ 20 (mj s i) = 3 := by rw [y2, if_neg hz19]; omega
      simp only [this]
    · rw [if_neg (fun w => z w.1), if_neg (fun w => z w.1)]
end R27
