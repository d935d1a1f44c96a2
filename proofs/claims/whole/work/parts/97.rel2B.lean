section R29
variable {κ μ κ' μ' κ1 μ1 : Nat → Nat → Int} {O O' : Nat → Nat}
set_option maxHeartbeats 8000000 in
theorem R_gone (hV : mV μ) (hK : kV κ) (hR : kRel κ μ O) (hI : kInv κ) (hL : mLi μ) (p g : Int) : s_gone μ p g 0 0 = kR 2 (e_kGone κ p g) ∧ (e_kGone κ p g = 0 → kRel (s_kGone κ p g) (s_gone μ p g) O ∧ kInv (s_kGone κ p g)) ∧ (¬ e_kGone κ p g = 0 → kRel κ (s_gone μ p g) O) := by
  rcases frameAt_c hV hR p with ⟨e, hn, p0, p1, h0⟩ | ⟨e, hn⟩
  · obtain ⟨fq, fr⟩ := Rel.F hR (p := p.toNat) (by omega)
    obtain ⟨f1, f2, f3, f4⟩ := fr h0
    have f1' := f1
    obtain ⟨g1, g2, g3, g4, g5, g6, g7, g8⟩ := f1
    have v59 : 0 ≤ μ 59 p.toNat ∧ μ 59 p.toNat ≤ 1 := hV 59 _
    have v58 : 0 ≤ μ 58 p.toNat ∧ μ 58 p.toNat ≤ 1 := hV 58 _
    have v51 : 0 ≤ μ 51 p.toNat ∧ μ 51 p.toNat ≤ 1 := hV 51 _
    have v53 : 0 ≤ μ 53 p.toNat := (hV 53 _).1
    have v54 : 0 ≤ μ 54 p.toNat := (hV 54 _).1
    have hkind := noPlace_L hL hn v58
    -- off the line
    have hV0 : mV (u2 (u2 (u2 μ 0 0 0) 0 0 0) 58 p.toNat 0) := ((hV.u (f := 0) (by decide)).u (f := 0) (by decide)).u (f := 58) (by decide)
    have hK0 : kV (u2 κ 0 p.toNat 0) := hK.u (f := 0) (by decide) (by decide)
    have hR0 := off_R hV hR p0 p1
    have hI0 : kInv (u2 κ 0 p.toNat 0) := Inv_cg hI (fun f k z => u2_f (by omega)) (fun k z => u2_f (by omega))
    have km : ∀ f k, f ≠ 0 → f ≠ 58 → (u2 (u2 (u2 μ 0 0 0) 0 0 0) 58 p.toNat 0) f k = μ f k := fun f k x y => by rw [u2_f y, u2_f x, u2_f x]
    have kk : ∀ f k, f ≠ 0 → (u2 κ 0 p.toNat 0) f k = κ f k := fun f k x => u2_f x
    have t0 : (u2 (u2 (u2 μ 0 0 0) 0 0 0) 58 p.toNat 0) 0 0 = 0 := by rw [u2_f (by decide), u2_s]
    have F1 : rF1 (u2 κ 0 p.toNat 0) (u2 (u2 (u2 μ 0 0 0) 0 0 0) 58 p.toNat 0) p.toNat := by
      unfold rF1
      rw [kk 1 _ (by decide), kk 2 _ (by decide), kk 3 _ (by decide), kk 4 _ (by decide), kk 5 _ (by decide), kk 6 _ (by decide), kk 9 _ (by decide), kk 10 _ (by decide), km 51 _ (by decide) (by decide), km 52 _ (by decide) (by decide), km 53 _ (by decide) (by decide), km 54 _ (by decide) (by decide), km 55 _ (by decide) (by decide), km 56 _ (by decide) (by decide), km 57 _ (by decide) (by decide), km 59 _ (by decide) (by decide)]
      exact f1'
    have F2 : κ 3 p.toNat = 8 → rF2 (u2 κ 0 p.toNat 0) (u2 (u2 (u2 μ 0 0 0) 0 0 0) 58 p.toNat 0) O p.toNat := fun h8 => by
      have := f4 h8
      unfold rF2 at this ⊢
      rw [kk 2 _ (by decide), kk 4 _ (by decide), kk 5 _ (by decide), kk 6 _ (by decide), kk 7 _ (by decide), kk 8 _ (by decide), kk 9 _ (by decide), kk 290 _ (by decide), kk 204 _ (by decide), kk 600 _ (by decide), kk 601 _ (by decide), kk 602 _ (by decide), km 19 _ (by decide) (by decide)]
      obtain ⟨x1, x2, x3, x4, x5, x6, x7, x8, x9, x10, x11⟩ := this
      refine ⟨x1, x2, x3, x4, x5, x6, x7, x8, x9, x10, fun j hj => ?_⟩
      rw [kk _ _ (by omega), km 60 _ (by decide) (by decide)]
      exact x11 j hj
    have h1 : 0 ≤ μ 51 p.toNat := v51.1
    have h2 : μ 51 p.toNat ≤ 1 := v51.2
    by_cases hg : g = 0
    · have eE : e_kGone κ p g = 0 := by unfold e_kGone; rw [if_pos e, if_pos hg]
      have eK : s_kGone κ p g = s_hearLost (u2 κ 0 p.toNat 0) (μ 51 p.toNat) p := by unfold s_kGone; rw [if_pos e, if_pos hg, g2]
      rw [eE, eK]
      -- each kind
      have done : ∀ (X : Nat → Nat → Int) (Y : Nat → Nat → Int), s_hearLost (u2 κ 0 p.toNat 0) (μ 51 p.toNat) p = X → s_gone μ p g = Y → kRel X Y O ∧ kInv X → Y 0 0 = 0 → s_gone μ p g 0 0 = kR 2 0 ∧ ((0 : Int) = 0 → kRel (s_hearLost (u2 κ 0 p.toNat 0) (μ 51 p.toNat) p) (s_gone μ p g) O ∧ kInv (s_hearLost (u2 κ 0 p.toNat 0) (μ 51 p.toNat) p)) ∧ (¬ (0 : Int) = 0 → kRel κ (s_gone μ p g) O) := fun X Y x y z w => by
        rw [x, y]
        exact ⟨w, fun _ => z, fun q => absurd rfl q⟩
      have sid : v_streamId (u2 κ 0 p.toNat 0) p = if (μ 52 p.toNat = 4 ∨ μ 52 p.toNat = 5 ∨ μ 52 p.toNat = 8 ∨ μ 52 p.toNat = 17 ∨ μ 52 p.toNat = 21) ∧ μ 53 p.toNat < 256 then μ 53 p.toNat else -1 := by
        rw [streamId_e, kk 3 _ (by decide), kk 4 _ (by decide), g3, g4]
      have k3 : (u2 κ 0 p.toNat 0) 3 p.toNat = μ 52 p.toNat := by rw [kk _ _ (by decide), g3]
      have k4 : (u2 κ 0 p.toNat 0) 4 p.toNat = μ 53 p.toNat := by rw [kk _ _ (by decide), g4]
      have k5 : (u2 κ 0 p.toNat 0) 5 p.toNat = μ 54 p.toNat := by rw [kk _ _ (by decide), g5]
      rcases hkind with ⟨hs, ha⟩ | hall | ⟨h8, ha, _⟩
      · have hsid : v_streamId (u2 κ 0 p.toNat 0) p = μ 53 p.toNat := by rw [sid, if_pos (by omega)]
        have na : ¬ 256 ≤ μ 53 p.toNat := by omega
        rcases hs with h52 | h52 | h52 | h52
        · -- RESET
          have eX : s_hearLost (u2 κ 0 p.toNat 0) (μ 51 p.toNat) p = if 0 ≤ μ 53 p.toNat ∧ μ 53 p.toNat < 256 ∧ (u2 κ 0 p.toNat 0) 290 (mj (μ 51 p.toNat) (μ 53 p.toNat)) = 1 then u2 (u2 κ 0 p.toNat 0) 211 (mj (μ 51 p.toNat) (μ 53 p.toNat)) 1 else u2 κ 0 p.toNat 0 := by
            unfold s_hearLost s_hearLostS
            simp only [hsid, k3, h52, if_pos v53, Int.reduceEq, if_false, if_true]
          have eY : s_gone μ p g = if (u2 (u2 (u2 μ 0 0 0) 0 0 0) 58 p.toNat 0) 21 (mj (μ 51 p.toNat) (μ 53 p.toNat)) = 1 then s_looksOver (u2 (u2 (u2 (u2 μ 0 0 0) 0 0 0) 58 p.toNat 0) 22 (mj (μ 51 p.toNat) (μ 53 p.toNat)) 1) (μ 51 p.toNat) (μ 53 p.toNat) else s_looksOver (u2 (u2 (u2 μ 0 0 0) 0 0 0) 58 p.toNat 0) (μ 51 p.toNat) (μ 53 p.toNat) := by
            rw [km 21 _ (by decide) (by decide)]
            simp only [s_gone, hn, hg, h52, if_neg na, if_true]
          refine done _ _ eX eY (g_res hV0 hK0 hR0 hI0 h1 h2 v53 ha) ?_
          split
          · rw [s_looksOver_fr (by decide), u2_f (by decide), t0]
          · rw [s_looksOver_fr (by decide), t0]
        · -- STOP
          obtain ⟨_, hp⟩ := f3 (Or.inl (by omega))
          rw [g2, g4] at hp
          have hp' : (u2 κ 0 p.toNat 0) 190 (mj (μ 51 p.toNat) (μ 53 p.toNat)) = 1 := by rw [kk _ _ (by decide)]; exact hp
          have eX : s_hearLost (u2 κ 0 p.toNat 0) (μ 51 p.toNat) p = u2 (u2 κ 0 p.toNat 0) 110 (mj (μ 51 p.toNat) (μ 53 p.toNat)) 1 := by
            unfold s_hearLost s_hearLostR
            simp only [hsid, k3, h52, if_pos v53, if_true, if_pos (show 0 ≤ μ 53 p.toNat ∧ μ 53 p.toNat < 256 ∧ (u2 κ 0 p.toNat 0) 190 (mj (μ 51 p.toNat) (μ 53 p.toNat)) = 1 from ⟨v53, ha, hp'⟩)]
          have eY : s_gone μ p g = u2 (u2 (u2 (u2 μ 0 0 0) 0 0 0) 58 p.toNat 0) 33 (mj (μ 51 p.toNat) (μ 53 p.toNat)) 1 := by
            simp only [s_gone, hn, hg, h52, if_neg na, if_true, Int.reduceEq, if_false]
          refine done _ _ eX eY (g_recv hV0 hR0 hI0 h1 h2 v53 ha hp' (fun f k z => u2_n (by omega)) (fun f k z => u2_n (by omega)) ?_ ?_) (by rw [u2_f (by decide), t0])
          · rw [u2_f (by decide), u2_f (by decide)]
            exact ((hR0.B h1 h2 v53 ha).2.1 hp').1.2.2.2.2.2.1
          · rw [u2_s, u2_s]
        · -- MAX_STREAM_DATA
          obtain ⟨_, hp⟩ := f3 (Or.inr (by omega))
          rw [g2, g4] at hp
          have hp' : (u2 κ 0 p.toNat 0) 190 (mj (μ 51 p.toNat) (μ 53 p.toNat)) = 1 := by rw [kk _ _ (by decide)]; exact hp
          obtain ⟨t1, t2, t3, t4, t5, t6, t7, t8, t9, t10, t11, t12⟩ := ((hR0.B h1 h2 v53 ha).2.1 hp').1
          have v31 : 0 ≤ μ 31 (mj (μ 51 p.toNat) (μ 53 p.toNat)) ∧ μ 31 (mj (μ 51 p.toNat) (μ 53 p.toNat)) ≤ 1 := hV 31 _
          rw [km 30 _ (by decide) (by decide)] at t5
          rw [km 31 _ (by decide) (by decide)] at t6
          have eX : s_hearLost (u2 κ 0 p.toNat 0) (μ 51 p.toNat) p = (if (u2 κ 0 p.toNat 0) 108 (mj (μ 51 p.toNat) (μ 53 p.toNat)) = 0 then (if μ 54 p.toNat = (u2 κ 0 p.toNat 0) 107 (mj (μ 51 p.toNat) (μ 53 p.toNat)) then (u2 (u2 κ 0 p.toNat 0) 108 (mj (μ 51 p.toNat) (μ 53 p.toNat)) 1) else (u2 (u2 κ 0 p.toNat 0) 108 (mj (μ 51 p.toNat) (μ 53 p.toNat)) 0)) else (u2 (u2 κ 0 p.toNat 0) 108 (mj (μ 51 p.toNat) (μ 53 p.toNat)) 1)) := by
            unfold s_hearLost s_hearLostR
            simp only [hsid, k3, k5, h52, if_pos v53, if_true, Int.reduceEq, if_false, if_pos (show 0 ≤ μ 53 p.toNat ∧ μ 53 p.toNat < 256 ∧ (u2 κ 0 p.toNat 0) 190 (mj (μ 51 p.toNat) (μ 53 p.toNat)) = 1 from ⟨v53, ha, hp'⟩)]
          have eY : s_gone μ p g = if μ 54 p.toNat = μ 30 (mj (μ 51 p.toNat) (μ 53 p.toNat)) then u2 (u2 (u2 (u2 μ 0 0 0) 0 0 0) 58 p.toNat 0) 31 (mj (μ 51 p.toNat) (μ 53 p.toNat)) 1 else u2 (u2 (u2 μ 0 0 0) 0 0 0) 58 p.toNat 0 := by
            simp only [s_gone, hn, hg, h52, if_neg na, if_true, Int.reduceEq, if_false]
          have go : ∀ v : Int, v = (if μ 54 p.toNat = μ 30 (mj (μ 51 p.toNat) (μ 53 p.toNat)) then 1 else μ 31 (mj (μ 51 p.toNat) (μ 53 p.toNat))) → kRel (u2 (u2 κ 0 p.toNat 0) 108 (mj (μ 51 p.toNat) (μ 53 p.toNat)) v) (if μ 54 p.toNat = μ 30 (mj (μ 51 p.toNat) (μ 53 p.toNat)) then u2 (u2 (u2 (u2 μ 0 0 0) 0 0 0) 58 p.toNat 0) 31 (mj (μ 51 p.toNat) (μ 53 p.toNat)) 1 else u2 (u2 (u2 μ 0 0 0) 0 0 0) 58 p.toNat 0) O ∧ kInv (u2 (u2 κ 0 p.toNat 0) 108 (mj (μ 51 p.toNat) (μ 53 p.toNat)) v) := by
            intro v hv
            by_cases c : μ 54 p.toNat = μ 30 (mj (μ 51 p.toNat) (μ 53 p.toNat))
            · rw [if_pos c] at hv ⊢
              refine g_recv hV0 hR0 hI0 h1 h2 v53 ha hp' (fun f k z => u2_n (by omega)) (fun f k z => u2_n (by omega)) (by rw [u2_s, u2_s, hv]) ?_
              rw [u2_f (by decide), u2_f (by decide)]
              exact t8
            · rw [if_neg c] at hv ⊢
              refine g_recv hV0 hR0 hI0 h1 h2 v53 ha hp' (fun f k z => u2_n (by omega)) (fun f k z => rfl) (by rw [u2_s, hv, km 31 _ (by decide) (by decide)]) ?_
              rw [u2_f (by decide)]
              exact t8
          refine done _ _ eX eY ?_ (by split; rw [u2_f (by decide), t0]; exact t0)
          rw [t5, t6]
          by_cases c1 : μ 31 (mj (μ 51 p.toNat) (μ 53 p.toNat)) = 0
          · rw [if_pos c1]
            by_cases c2 : μ 54 p.toNat = μ 30 (mj (μ 51 p.toNat) (μ 53 p.toNat))
            · have := go 1 (by rw [if_pos c2])
              simp only [if_pos c2] at this ⊢
              exact this
            · have := go 0 (by rw [if_neg c2]; omega)
              simp only [if_neg c2] at this ⊢
              exact this
          · rw [if_neg c1]
            exact go 1 (by split <;> omega)
        · -- STREAM_DATA_BLOCKED
          have eX : s_hearLost (u2 κ 0 p.toNat 0) (μ 51 p.toNat) p = (if 0 ≤ μ 53 p.toNat ∧ μ 53 p.toNat < 256 ∧ (u2 κ 0 p.toNat 0) 290 (mj (μ 51 p.toNat) (μ 53 p.toNat)) = 1 then (if μ 54 p.toNat = (u2 κ 0 p.toNat 0) 209 (mj (μ 51 p.toNat) (μ 53 p.toNat)) then u2 (u2 κ 0 p.toNat 0) 209 (mj (μ 51 p.toNat) (μ 53 p.toNat)) (-1) else u2 κ 0 p.toNat 0) else u2 κ 0 p.toNat 0) := by
            unfold s_hearLost s_hearLostS
            simp only [hsid, k3, k5, h52, if_pos v53, Int.reduceEq, if_false]
          have eY : s_gone μ p g = if μ 24 (mj (μ 51 p.toNat) (μ 53 p.toNat)) = μ 54 p.toNat then u2 (u2 (u2 (u2 μ 0 0 0) 0 0 0) 58 p.toNat 0) 24 (mj (μ 51 p.toNat) (μ 53 p.toNat)) (-1) else u2 (u2 (u2 μ 0 0 0) 0 0 0) 58 p.toNat 0 := by
            simp only [s_gone, hn, hg, h52, if_neg na, if_true, Int.reduceEq, if_false]
          refine done _ _ eX eY ?_ (by split; rw [u2_f (by decide), t0]; exact t0)
          by_cases hp : (u2 κ 0 p.toNat 0) 290 (mj (μ 51 p.toNat) (μ 53 p.toNat)) = 1
          · rw [if_pos ⟨v53, ha, hp⟩]
            have y4 := ((hR0.A h1 h2 v53 ha).2.1 hp).1.2.2.2.1
            rw [km 24 _ (by decide) (by decide)] at y4
            rw [y4]
            by_cases c : μ 54 p.toNat = μ 24 (mj (μ 51 p.toNat) (μ 53 p.toNat))
            · rw [if_pos c, if_pos c.symm]
              exact g_send hV0 hR0 hI0 h1 h2 v53 ha hp (fun f k z => u2_n z) (fun f k z => u2_n z) (by rw [u2_s, u2_s])
            · rw [if_neg c, if_neg (fun z => c z.symm)]
              exact ⟨hR0, hI0⟩
          · have h24 := ((hR0.A h1 h2 v53 ha).2.2 hp).2.2.2.2
            rw [km 24 _ (by decide) (by decide)] at h24
            rw [if_neg (fun z => hp z.2.2), if_neg (by omega)]
            exact ⟨hR0, hI0⟩
      · have hsid : ¬ 0 ≤ v_streamId (u2 κ 0 p.toNat 0) p := by rw [sid, if_neg (by omega)]; decide
        have eX0 : s_hearLost (u2 κ 0 p.toNat 0) (μ 51 p.toNat) p = s_hearLostOfAll (u2 κ 0 p.toNat 0) (μ 51 p.toNat) p := by unfold s_hearLost; rw [if_neg hsid]
        obtain ⟨q1, q2, q3, q4, q5, q6, q7, q8, q9, _⟩ := hR.S h1 h2
        have hw0 := hR.W (w := 0) h1 h2 (by omega) (by omega)
        have hw1 := hR.W (w := 1) h1 h2 (by omega) (by omega)
        have hwy : ∀ w : Int, 0 ≤ w → w ≤ 1 → (u2 κ 0 p.toNat 0) 405 (2 * μ 51 p.toNat + w).toNat = (u2 (u2 (u2 μ 0 0 0) 0 0 0) 58 p.toNat 0) 13 (2 * μ 51 p.toNat + w).toNat ∧ (u2 κ 0 p.toNat 0) 403 (2 * μ 51 p.toNat + w).toNat = (u2 (u2 (u2 μ 0 0 0) 0 0 0) 58 p.toNat 0) 14 (3 * μ 51 p.toNat + 1 + w).toNat := fun w w0 w1 => by
          rw [kk _ _ (by decide), kk _ _ (by decide), km _ _ (by decide) (by decide), km _ _ (by decide) (by decide)]
          exact ⟨(hR.W h1 h2 w0 w1).2.2.2.2.1, (hR.W h1 h2 w0 w1).2.2.1⟩
        have k315 : (u2 κ 0 p.toNat 0) 315 (μ 51 p.toNat).toNat = (u2 (u2 (u2 μ 0 0 0) 0 0 0) 58 p.toNat 0) 12 (μ 51 p.toNat).toNat := by rw [kk _ _ (by decide), km _ _ (by decide) (by decide)]; exact q8
        have k311 : (u2 κ 0 p.toNat 0) 311 (μ 51 p.toNat).toNat = (u2 (u2 (u2 μ 0 0 0) 0 0 0) 58 p.toNat 0) 14 (3 * μ 51 p.toNat).toNat := by rw [kk _ _ (by decide), km _ _ (by decide) (by decide)]; exact q4
        have v12 : 0 ≤ μ 12 (μ 51 p.toNat).toNat ∧ μ 12 (μ 51 p.toNat).toNat ≤ 1 := hV 12 _
        -- the ways' own
        have way18 : ∀ w : Int, 0 ≤ w → w ≤ 1 → μ 52 p.toNat = 18 + w → s_gone μ p g 0 0 = kR 2 0 ∧ ((0 : Int) = 0 → kRel (s_hearLost (u2 κ 0 p.toNat 0) (μ 51 p.toNat) p) (s_gone μ p g) O ∧ kInv (s_hearLost (u2 κ 0 p.toNat 0) (μ 51 p.toNat) p)) ∧ (¬ (0 : Int) = 0 → kRel κ (s_gone μ p g) O) := by
          intro w w0 w1 h52
          have v13 : 0 ≤ μ 13 (2 * μ 51 p.toNat + w).toNat ∧ μ 13 (2 * μ 51 p.toNat + w).toNat ≤ 1 := hV 13 _
          obtain ⟨_, _, _, _, z5, z6, _⟩ := hR.W h1 h2 w0 w1
          have eX : s_hearLostOfAll (u2 κ 0 p.toNat 0) (μ 51 p.toNat) p = u2 (u2 κ 0 p.toNat 0) 405 (2 * μ 51 p.toNat + w).toNat (if μ 53 p.toNat = μ 10 (2 * μ 51 p.toNat + w).toNat then 1 else μ 13 (2 * μ 51 p.toNat + w).toNat) := by
            unfold s_hearLostOfAll
            rw [k3, k4, show (2 * μ 51 p.toNat + (μ 52 p.toNat - 18)) = 2 * μ 51 p.toNat + w by omega, show (16 * μ 51 p.toNat + (8 + (μ 52 p.toNat - 18))) = 16 * μ 51 p.toNat + (8 + w) by omega, kk 405 _ (by decide), kk 360 _ (by decide), z5, z6]
            have hi : (if μ 13 (2 * μ 51 p.toNat + w).toNat = 0 then (if μ 53 p.toNat = μ 10 (2 * μ 51 p.toNat + w).toNat then (u2 (u2 κ 0 p.toNat 0) 405 (2 * μ 51 p.toNat + w).toNat 1) else (u2 (u2 κ 0 p.toNat 0) 405 (2 * μ 51 p.toNat + w).toNat 0)) else (u2 (u2 κ 0 p.toNat 0) 405 (2 * μ 51 p.toNat + w).toNat 1)) = u2 (u2 κ 0 p.toNat 0) 405 (2 * μ 51 p.toNat + w).toNat (if μ 53 p.toNat = μ 10 (2 * μ 51 p.toNat + w).toNat then 1 else μ 13 (2 * μ 51 p.toNat + w).toNat) := by
              by_cases c1 : μ 13 (2 * μ 51 p.toNat + w).toNat = 0
              · rw [if_pos c1, c1]
                split <;> rfl
              · have : μ 13 (2 * μ 51 p.toNat + w).toNat = 1 := by omega
                rw [if_neg c1, this]
                split <;> rfl
            rcases (show w = 0 ∨ w = 1 by omega) with rfl | rfl
            · rw [if_neg (by omega), if_neg (by omega), if_pos (by omega)]; exact hi
            · rw [if_neg (by omega), if_neg (by omega), if_neg (by omega), if_pos (by omega)]; exact hi
          have eY : s_gone μ p g = if μ 53 p.toNat = μ 10 (2 * μ 51 p.toNat + w).toNat then u2 (u2 (u2 (u2 μ 0 0 0) 0 0 0) 58 p.toNat 0) 13 (2 * μ 51 p.toNat + w).toNat 1 else u2 (u2 (u2 μ 0 0 0) 0 0 0) 58 p.toNat 0 := by
            unfold s_gone
            rw [show (2 * μ 51 p.toNat + μ 52 p.toNat - 18) = 2 * μ 51 p.toNat + w by omega]
            rcases (show w = 0 ∨ w = 1 by omega) with rfl | rfl
            · simp only [hn, hg, h52, if_true, Int.add_zero, Int.reduceEq, if_false, ite_self]
            · simp only [hn, hg, h52, if_true, Int.reduceAdd, Int.reduceEq, if_false, ite_self]
          refine done _ _ (eX0.trans eX) eY ?_ (by split; rw [u2_f (by decide), t0]; exact t0)
          refine g_side hV0 hR0 hI0 h1 h2 (fun f k x y => u2_n (by omega)) (fun f k x y z => ?_) ?_ ?_ (fun w' x0 x1 => ?_)
          · split
            · exact u2_n (by omega)
            · rfl
          · rw [u2_f (by decide), k315]
            split
            · rw [u2_f (f := 13) (by decide)]
            · rfl
          · rw [u2_f (by decide), k311]
            split
            · rw [u2_f (f := 13) (by decide)]
            · rfl
          · refine ⟨?_, ?_⟩
            · by_cases y : w' = w
              · rw [y, u2_s]
                split
                · rw [u2_s]
                · rw [km _ _ (by decide) (by decide)]
              · rw [u2_n (by omega), (hwy w' x0 x1).1]
                split
                · exact (u2_n (by omega)).symm
                · rfl
            · rw [u2_f (by decide), (hwy w' x0 x1).2]
              split
              · rw [u2_f (f := 13) (by decide)]
              · rfl
        have way22 : ∀ w : Int, 0 ≤ w → w ≤ 1 → μ 52 p.toNat = 22 + w → s_gone μ p g 0 0 = kR 2 0 ∧ ((0 : Int) = 0 → kRel (s_hearLost (u2 κ 0 p.toNat 0) (μ 51 p.toNat) p) (s_gone μ p g) O ∧ kInv (s_hearLost (u2 κ 0 p.toNat 0) (μ 51 p.toNat) p)) ∧ (¬ (0 : Int) = 0 → kRel κ (s_gone μ p g) O) := by
          intro w w0 w1 h52
          obtain ⟨_, _, z3, _⟩ := hR.W h1 h2 w0 w1
          have eX : s_hearLostOfAll (u2 κ 0 p.toNat 0) (μ 51 p.toNat) p = u2 (u2 κ 0 p.toNat 0) 403 (2 * μ 51 p.toNat + w).toNat (if μ 14 (3 * μ 51 p.toNat + 1 + w).toNat = μ 53 p.toNat then -1 else μ 14 (3 * μ 51 p.toNat + 1 + w).toNat) := by
            unfold s_hearLostOfAll
            rw [k3, k4, show (2 * μ 51 p.toNat + (μ 52 p.toNat - 22)) = 2 * μ 51 p.toNat + w by omega, kk 403 _ (by decide), z3]
            have hi : (if μ 53 p.toNat = μ 14 (3 * μ 51 p.toNat + 1 + w).toNat then (u2 (u2 κ 0 p.toNat 0) 403 (2 * μ 51 p.toNat + w).toNat (-1)) else (u2 (u2 κ 0 p.toNat 0) 403 (2 * μ 51 p.toNat + w).toNat (μ 14 (3 * μ 51 p.toNat + 1 + w).toNat))) = u2 (u2 κ 0 p.toNat 0) 403 (2 * μ 51 p.toNat + w).toNat (if μ 14 (3 * μ 51 p.toNat + 1 + w).toNat = μ 53 p.toNat then -1 else μ 14 (3 * μ 51 p.toNat + 1 + w).toNat) := by
              by_cases c1 : μ 53 p.toNat = μ 14 (3 * μ 51 p.toNat + 1 + w).toNat
              · rw [if_pos c1, if_pos c1.symm]
              · rw [if_neg c1, if_neg (fun z => c1 z.symm)]
            rcases (show w = 0 ∨ w = 1 by omega) with rfl | rfl
            · rw [if_neg (by omega), if_neg (by omega), if_neg (by omega), if_neg (by omega), if_neg (by omega), if_neg (by omega), if_pos (by omega)]; exact hi
            · rw [if_neg (by omega), if_neg (by omega), if_neg (by omega), if_neg (by omega), if_neg (by omega), if_neg (by omega), if_neg (by omega), if_pos (by omega)]; exact hi
          have eY : s_gone μ p g = if μ 14 (3 * μ 51 p.toNat + 1 + w).toNat = μ 53 p.toNat then u2 (u2 (u2 (u2 μ 0 0 0) 0 0 0) 58 p.toNat 0) 14 (3 * μ 51 p.toNat + 1 + w).toNat (-1) else u2 (u2 (u2 μ 0 0 0) 0 0 0) 58 p.toNat 0 := by
            unfold s_gone
            rw [show (3 * μ 51 p.toNat + 1 + μ 52 p.toNat - 22) = 3 * μ 51 p.toNat + 1 + w by omega]
            rcases (show w = 0 ∨ w = 1 by omega) with rfl | rfl
            · simp only [hn, hg, h52, if_true, Int.add_zero, Int.reduceEq, if_false, ite_self]
            · simp only [hn, hg, h52, if_true, Int.reduceAdd, Int.reduceEq, if_false, ite_self]
          refine done _ _ (eX0.trans eX) eY ?_ (by split; rw [u2_f (by decide), t0]; exact t0)
          refine g_side hV0 hR0 hI0 h1 h2 (fun f k x y => u2_n (by omega)) (fun f k x y z => ?_) ?_ ?_ (fun w' x0 x1 => ?_)
          · split
            · exact u2_n (by omega)
            · rfl
          · rw [u2_f (by decide), k315]
            split
            · rw [u2_f (f := 14) (by decide)]
            · rfl
          · rw [u2_f (by decide), k311]
            split
            · exact (u2_n (by omega)).symm
            · rfl
          · refine ⟨?_, ?_⟩
            · rw [u2_f (by decide), (hwy w' x0 x1).1]
              split
              · rw [u2_f (f := 14) (by decide)]
              · rfl
            · by_cases y : w' = w
              · rw [y, u2_s]
                split
                · rw [u2_s]
                · rw [km _ _ (by decide) (by decide)]
              · rw [u2_n (by omega), (hwy w' x0 x1).2]
                split
                · exact (u2_n (by omega)).symm
                · rfl
        rcases hall with h52 | h52 | h52 | h52 | h52 | h52
        · -- MAX_DATA
          have eX : s_hearLostOfAll (u2 κ 0 p.toNat 0) (μ 51 p.toNat) p = u2 (u2 κ 0 p.toNat 0) 315 (μ 51 p.toNat).toNat (if μ 53 p.toNat = μ 11 (μ 51 p.toNat).toNat then 1 else μ 12 (μ 51 p.toNat).toNat) := by
            unfold s_hearLostOfAll
            rw [k3, k4, if_pos h52, kk 315 _ (by decide), kk 314 _ (by decide), q7, q8]
            by_cases c1 : μ 12 (μ 51 p.toNat).toNat = 0
            · rw [if_pos c1, c1]
              split <;> rfl
            · have : μ 12 (μ 51 p.toNat).toNat = 1 := by omega
              rw [if_neg c1, this]
              split <;> rfl
          have eY : s_gone μ p g = if μ 53 p.toNat = μ 11 (μ 51 p.toNat).toNat then u2 (u2 (u2 (u2 μ 0 0 0) 0 0 0) 58 p.toNat 0) 12 (μ 51 p.toNat).toNat 1 else u2 (u2 (u2 μ 0 0 0) 0 0 0) 58 p.toNat 0 := by
            simp only [s_gone, hn, hg, h52, if_true, Int.reduceEq, if_false, ite_self]
          refine done _ _ (eX0.trans eX) eY ?_ (by split; rw [u2_f (by decide), t0]; exact t0)
          refine g_side hV0 hR0 hI0 h1 h2 (fun f k x y => u2_n (by omega)) (fun f k x y z => ?_) ?_ ?_ (fun w' x0 x1 => ?_)
          · split
            · exact u2_n (by omega)
            · rfl
          · rw [u2_s]
            split
            · rw [u2_s]
            · rw [km _ _ (by decide) (by decide)]
          · rw [u2_f (by decide), k311]
            split
            · rw [u2_f (f := 12) (by decide)]
            · rfl
          · rw [u2_f (by decide), u2_f (by decide)]
            split
            · rw [u2_f (f := 12) (by decide), u2_f (f := 12) (by decide)]; exact hwy w' x0 x1
            · exact hwy w' x0 x1
        · exact way18 0 (by omega) (by omega) (by omega)
        · exact way18 1 (by omega) (by omega) (by omega)
        · -- DATA_BLOCKED
          have eX : s_hearLostOfAll (u2 κ 0 p.toNat 0) (μ 51 p.toNat) p = u2 (u2 κ 0 p.toNat 0) 311 (μ 51 p.toNat).toNat (if μ 14 (3 * μ 51 p.toNat).toNat = μ 53 p.toNat then -1 else μ 14 (3 * μ 51 p.toNat).toNat) := by
            unfold s_hearLostOfAll
            rw [k3, k4, if_neg (show ¬ μ 52 p.toNat = 16 by omega), if_neg (show ¬ μ 52 p.toNat = 17 by omega), if_neg (show ¬ μ 52 p.toNat = 18 by omega), if_neg (show ¬ μ 52 p.toNat = 19 by omega), if_pos h52, kk 311 _ (by decide), q4]
            by_cases c1 : μ 53 p.toNat = μ 14 (3 * μ 51 p.toNat).toNat
            · rw [if_pos c1, if_pos c1.symm]
            · rw [if_neg c1, if_neg (fun z => c1 z.symm)]
          have eY : s_gone μ p g = if μ 14 (3 * μ 51 p.toNat).toNat = μ 53 p.toNat then u2 (u2 (u2 (u2 μ 0 0 0) 0 0 0) 58 p.toNat 0) 14 (3 * μ 51 p.toNat).toNat (-1) else u2 (u2 (u2 μ 0 0 0) 0 0 0) 58 p.toNat 0 := by
            simp only [s_gone, hn, hg, h52, if_true, Int.reduceEq, if_false, ite_self]
          refine done _ _ (eX0.trans eX) eY ?_ (by split; rw [u2_f (by decide), t0]; exact t0)
          refine g_side hV0 hR0 hI0 h1 h2 (fun f k x y => u2_n (by omega)) (fun f k x y z => ?_) ?_ ?_ (fun w' x0 x1 => ?_)
          · split
            · exact u2_n (by omega)
            · rfl
          · rw [u2_f (by decide), k315]
            split
            · rw [u2_f (f := 14) (by decide)]
            · rfl
          · rw [u2_s]
            split
            · rw [u2_s]
            · rw [km _ _ (by decide) (by decide)]
          · rw [u2_f (f := 311) (f' := 405) (by decide), u2_f (f := 311) (f' := 403) (by decide)]
            split
            · rw [u2_f (f := 14) (f' := 13) (by decide), u2_n (f := 14) (f' := 14) (by omega)]; exact hwy w' x0 x1
            · exact hwy w' x0 x1
        · exact way22 0 (by omega) (by omega) (by omega)
        · exact way22 1 (by omega) (by omega) (by omega)
      · -- STREAM
        have hsid : v_streamId (u2 κ 0 p.toNat 0) p = μ 53 p.toNat := by rw [sid, if_pos (by omega)]
        have h38 : κ 3 p.toNat = 8 := by omega
        have f2' := F2 h38
        have hp := f2'.2.2.1
        rw [kk 2 _ (by decide), kk 4 _ (by decide), g2, g4] at hp
        have eX : s_hearLost (u2 κ 0 p.toNat 0) (μ 51 p.toNat) p = s_hearLostS (u2 κ 0 p.toNat 0) p ((u2 κ 0 p.toNat 0) 2 p.toNat) ((u2 κ 0 p.toNat 0) 4 p.toNat) := by
          unfold s_hearLost
          rw [hsid, if_pos v53, k3, if_neg (by omega), if_neg (by omega), if_pos ⟨v53, ha, hp⟩, kk 2 _ (by decide), g2, k4]
        have eY : s_gone μ p g = s_goneStream (u2 (u2 (u2 μ 0 0 0) 0 0 0) 58 p.toNat 0) ((u2 (u2 (u2 μ 0 0 0) 0 0 0) 58 p.toNat 0) 51 p.toNat) p 0 := by
          rw [km 51 _ (by decide) (by decide)]
          simp only [s_gone, hn, hg, h8, if_true, Int.reduceEq, if_false, ite_self]
        refine done _ _ eX eY (gone8_lost hV0 hK0 hR0 hI0 F1 f2' (by rw [k3]; omega)) (by rw [s_goneStream_fr (by decide), t0])
    · by_cases hd : μ 59 p.toNat = 1
      · have eE : e_kGone κ p g = 0 := by unfold e_kGone; rw [if_pos e, if_neg hg, if_neg (by omega)]
        have eK : s_kGone κ p g = s_hearArrived (u2 κ 0 p.toNat 0) (μ 51 p.toNat) p := by unfold s_kGone; rw [if_pos e, if_neg hg, if_neg (by omega), g2]
        rw [eE, eK]
        have done : ∀ (X : Nat → Nat → Int) (Y : Nat → Nat → Int), s_hearArrived (u2 κ 0 p.toNat 0) (μ 51 p.toNat) p = X → s_gone μ p g = Y → kRel X Y O ∧ kInv X → Y 0 0 = 0 → s_gone μ p g 0 0 = kR 2 0 ∧ ((0 : Int) = 0 → kRel (s_hearArrived (u2 κ 0 p.toNat 0) (μ 51 p.toNat) p) (s_gone μ p g) O ∧ kInv (s_hearArrived (u2 κ 0 p.toNat 0) (μ 51 p.toNat) p)) ∧ (¬ (0 : Int) = 0 → kRel κ (s_gone μ p g) O) := fun X Y x y z w => by
          rw [x, y]
          exact ⟨w, fun _ => z, fun q => absurd rfl q⟩
        have sid : v_streamId (u2 κ 0 p.toNat 0) p = if (μ 52 p.toNat = 4 ∨ μ 52 p.toNat = 5 ∨ μ 52 p.toNat = 8 ∨ μ 52 p.toNat = 17 ∨ μ 52 p.toNat = 21) ∧ μ 53 p.toNat < 256 then μ 53 p.toNat else -1 := by
          rw [streamId_e, kk 3 _ (by decide), kk 4 _ (by decide), g3, g4]
        have k3 : (u2 κ 0 p.toNat 0) 3 p.toNat = μ 52 p.toNat := by rw [kk _ _ (by decide), g3]
        by_cases h4 : μ 52 p.toNat = 4
        · have ha : μ 53 p.toNat < 256 := by omega
          have na : ¬ 256 ≤ μ 53 p.toNat := by omega
          have hsid : v_streamId (u2 κ 0 p.toNat 0) p = μ 53 p.toNat := by rw [sid, if_pos (by omega)]
          have eX : s_hearArrived (u2 κ 0 p.toNat 0) (μ 51 p.toNat) p = (if 0 ≤ μ 53 p.toNat ∧ μ 53 p.toNat < 256 ∧ (u2 κ 0 p.toNat 0) 290 (mj (μ 51 p.toNat) (μ 53 p.toNat)) = 1 then (if (u2 κ 0 p.toNat 0) 200 (mj (μ 51 p.toNat) (μ 53 p.toNat)) = 3 then s_growIfOver (u2 (u2 κ 0 p.toNat 0) 200 (mj (μ 51 p.toNat) (μ 53 p.toNat)) 4) (μ 51 p.toNat) (μ 53 p.toNat) else u2 κ 0 p.toNat 0) else u2 κ 0 p.toNat 0) := by
            unfold s_hearArrived
            simp only [hsid, k3, h4, Int.reduceEq, if_false, if_true]
          have eY : s_gone μ p g = if (u2 (u2 (u2 μ 0 0 0) 0 0 0) 58 p.toNat 0) 21 (mj (μ 51 p.toNat) (μ 53 p.toNat)) = 1 then s_looksOver (u2 (u2 (u2 (u2 μ 0 0 0) 0 0 0) 58 p.toNat 0) 21 (mj (μ 51 p.toNat) (μ 53 p.toNat)) 2) (μ 51 p.toNat) (μ 53 p.toNat) else s_looksOver (u2 (u2 (u2 μ 0 0 0) 0 0 0) 58 p.toNat 0) (μ 51 p.toNat) (μ 53 p.toNat) := by
            rw [km 21 _ (by decide) (by decide)]
            simp only [s_gone, hn, if_neg hg, if_pos hd, h4, if_neg na, if_true]
          refine done _ _ eX eY (g_resA hV0 hK0 hR0 hI0 h1 h2 v53 ha) ?_
          split
          · rw [s_looksOver_fr (by decide), u2_f (by decide), t0]
          · rw [s_looksOver_fr (by decide), t0]
        · by_cases h8 : μ 52 p.toNat = 8
          · have ha : μ 53 p.toNat < 256 := by omega
            have hsid : v_streamId (u2 κ 0 p.toNat 0) p = μ 53 p.toNat := by rw [sid, if_pos (by omega)]
            have h38 : κ 3 p.toNat = 8 := by omega
            have f2' := F2 h38
            have hp := f2'.2.2.1
            rw [kk 2 _ (by decide), kk 4 _ (by decide), g2, g4] at hp
            have eX : s_hearArrived (u2 κ 0 p.toNat 0) (μ 51 p.toNat) p = (if (u2 κ 0 p.toNat 0) 6 p.toNat = 1 then s_growIfOver (s_markHere (u2 κ 0 p.toNat 0) ((u2 κ 0 p.toNat 0) 2 p.toNat) ((u2 κ 0 p.toNat 0) 4 p.toNat) ((u2 κ 0 p.toNat 0) 8 p.toNat) ((u2 κ 0 p.toNat 0) 9 p.toNat) 1) ((u2 κ 0 p.toNat 0) 2 p.toNat) ((u2 κ 0 p.toNat 0) 4 p.toNat) else s_growIfOver (s_markHere (u2 κ 0 p.toNat 0) ((u2 κ 0 p.toNat 0) 2 p.toNat) ((u2 κ 0 p.toNat 0) 4 p.toNat) ((u2 κ 0 p.toNat 0) 8 p.toNat) ((u2 κ 0 p.toNat 0) 9 p.toNat) 0) ((u2 κ 0 p.toNat 0) 2 p.toNat) ((u2 κ 0 p.toNat 0) 4 p.toNat)) := by
              unfold s_hearArrived
              rw [hsid, if_pos ⟨v53, ha, hp⟩, k3, if_pos h8, kk 2 _ (by decide), g2, kk 4 _ (by decide), g4]
            have eY : s_gone μ p g = s_goneStream (u2 (u2 (u2 μ 0 0 0) 0 0 0) 58 p.toNat 0) ((u2 (u2 (u2 μ 0 0 0) 0 0 0) 58 p.toNat 0) 51 p.toNat) p g := by
              rw [km 51 _ (by decide) (by decide)]
              simp only [s_gone, hn, if_neg hg, if_pos hd, h8, if_true, Int.reduceEq, if_false, ite_self]
            exact done _ _ eX eY (gone8_here hV0 hK0 hR0 hI0 hg F1 f2') (by rw [s_goneStream_fr (by decide), t0])
          · have eX : s_hearArrived (u2 κ 0 p.toNat 0) (μ 51 p.toNat) p = u2 κ 0 p.toNat 0 := by
              unfold s_hearArrived
              rw [k3, if_neg h8, if_neg h4, ite_self]
            have eY : s_gone μ p g = u2 (u2 (u2 μ 0 0 0) 0 0 0) 58 p.toNat 0 := by
              simp only [s_gone, hn, if_neg hg, if_pos hd, if_neg h4, if_neg h8, if_true, ite_self]
            exact done _ _ eX eY ⟨hR0, hI0⟩ t0
      · have eE : e_kGone κ p g = 2 := by unfold e_kGone; rw [if_pos e, if_neg hg, if_pos (by omega)]
        have eS : s_gone μ p g = u2 (u2 μ 0 0 0) 0 0 2 := by
          simp only [s_gone, hn, if_neg hg, if_neg hd, if_true]
        rw [eE, eS]
        exact ⟨by rw [u2_s]; rfl, fun z => absurd z (by decide), fun _ => Rel_0 hV hR (fun f k z => by rw [u2_f (by omega), u2_f (by omega)])⟩
  · have eE : e_kGone κ p g = 3 := by unfold e_kGone; rw [if_neg (by omega), e]
    have eS : s_gone μ p g = u2 μ 0 0 1 := by
      unfold s_gone
      rw [hn, if_neg (by decide)]
      rfl
    rw [eE, eS]
    exact ⟨by rw [u2_s]; rfl, fun z => absurd z (by decide), fun _ => Rel_u0 hV hR⟩
end R29
