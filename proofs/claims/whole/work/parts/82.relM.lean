section R14
variable {κ μ κ' μ' : Nat → Nat → Int} {O O' : Nat → Nat}
theorem u2_comm {f k f' k' : Nat} {v v' : Int} (h : ¬ (f = f' ∧ k = k')) : u2 (u2 κ f k v) f' k' v' = u2 (u2 κ f' k' v') f k v := by
  funext a b
  unfold u2
  by_cases x : a = f ∧ b = k
  · have y : ¬ (a = f' ∧ b = k') := by omega
    simp only [if_pos x, if_neg y]
  · simp only [if_neg x]
theorem growDataGrant_h {v s : Int} : s_growDataGrant (u2 κ 506 0 v) s = u2 (s_growDataGrant κ s) 506 0 v := by
  unfold s_growDataGrant
  simp (disch := omega) only [u2_f]
  split
  · rfl
  · rw [u2_comm (f := 506) (by omega), u2_comm (f := 506) (by omega)]
theorem growGrant_h {v s i : Int} : s_growGrant (u2 κ 506 0 v) s i = u2 (s_growGrant κ s i) 506 0 v := by
  unfold s_growGrant
  simp (disch := omega) only [u2_f]
  split
  · split
    · rfl
    · rw [u2_comm (f := 506) (by omega), u2_comm (f := 506) (by omega)]
  · rfl
theorem growIfOver_h {v s i : Int} : s_growIfOver (u2 κ 506 0 v) s i = u2 (s_growIfOver κ s i) 506 0 v := by
  rw [growIfOver_e, growIfOver_e]
  simp (disch := omega) only [u2_f]
  split
  · split
    · rw [u2_comm (by omega)]
    · rw [u2_comm (f := 506) (by omega), u2_comm (f := 506) (by omega), u2_comm (f := 506) (by omega)]
  · rfl
/-- what read does behind its loop -/
def rdT (ν : Nat → Nat → Int) (s i : Int) : Nat → Nat → Int := if ν 5 0 ≤ 0 then s_looksOver ν s i else if v_receiving ν s i = 0 then s_looksOver (s_growStream (s_growData ν s) s i) s i else s_looksOver (s_growData ν s) s i
theorem read_l {s i q y : Int} (h1 : 0 ≤ s) (hq : q ≤ 2048) (hy : y ≤ 65536) : ∀ (d : Nat) (m : Nat) (ν : Nat → Nat → Int), mV ν → m < d → ν 5 0 + m ≤ q → ν 27 (mj s i) + m ≤ y → (ν 5 0 + m = q ∨ ν 27 (mj s i) + m = y) → ∃ ν', s_read_43 μ s i q d y ν = rdT ν' s i ∧ v_read_43 μ s i q d y ν = ν' 5 0 ∧ mV ν' ∧ ν' 5 0 = ν 5 0 + m ∧ ν' 27 (mj s i) = ν 27 (mj s i) + m ∧ (∀ j : Nat, (j : Int) < ν 5 0 → ν' 4 j = ν 4 j) ∧ (∀ j : Nat, j < m → ν' 4 ((ν 5 0).toNat + j) = v_byteAt ν s i (ν 27 (mj s i) + j) % 256) ∧ ∀ f k, f ≠ 4 → ¬ (f = 5 ∧ k = 0) → ¬ (f = 27 ∧ k = mj s i) → ν' f k = ν f k
  | 0, m, ν, _, g1, _, _, _ => by omega
  | d + 1, 0, ν, hV, g1, g2, g3, g4 => by
    refine ⟨ν, ?_, ?_, hV, by omega, by omega, fun _ _ => rfl, fun j hj => by omega, fun _ _ _ _ _ => rfl⟩
    · rw [s_read_43]
      unfold rdT
      by_cases a : q ≤ ν 5 0
      · rw [if_pos a]
      · rw [if_neg a, if_pos (show y ≤ ν 27 (mj s i) by omega)]
    · rw [v_read_43]
      by_cases a : q ≤ ν 5 0
      · rw [if_pos a]
        repeat' split
        all_goals rfl
      · rw [if_neg a, if_pos (show y ≤ ν 27 (mj s i) by omega)]
        repeat' split
        all_goals rfl
  | d + 1, m + 1, ν, hV, g1, g2, g3, g4 => by
    have v5 : 0 ≤ ν 5 0 ∧ ν 5 0 ≤ 2048 := hV 5 0
    have v27 : 0 ≤ ν 27 (mj s i) ∧ ν 27 (mj s i) ≤ 65536 := hV 27 _
    have hV' : mV (u2 (u2 (u2 ν 4 (ν 5 0).toNat ((v_byteAt ν s i (ν 27 (mj s i))) % 256)) 5 0 ((ν 5 0) + 1)) 27 (mj s i) ((ν 27 (mj s i)) + 1)) :=
      ((hV.u (f := 4) ⟨show (0 : Int) ≤ _ by omega, show _ ≤ (255 : Int) by omega⟩).u (f := 5) ⟨show (0 : Int) ≤ _ by omega, show _ ≤ (2048 : Int) by omega⟩).u (f := 27) ⟨show (0 : Int) ≤ _ by omega, show _ ≤ (65536 : Int) by omega⟩
    have e5 : (u2 (u2 (u2 ν 4 (ν 5 0).toNat ((v_byteAt ν s i (ν 27 (mj s i))) % 256)) 5 0 ((ν 5 0) + 1)) 27 (mj s i) ((ν 27 (mj s i)) + 1)) 5 0 = ν 5 0 + 1 := by rw [u2_f (by decide), u2_s]
    have e27 : (u2 (u2 (u2 ν 4 (ν 5 0).toNat ((v_byteAt ν s i (ν 27 (mj s i))) % 256)) 5 0 ((ν 5 0) + 1)) 27 (mj s i) ((ν 27 (mj s i)) + 1)) 27 (mj s i) = ν 27 (mj s i) + 1 := u2_s _ _ _ _
    obtain ⟨ν', i1, i2, i3, i4, i5, i6, i7, i8⟩ := read_l (s := s) (i := i) h1 hq hy d m _ hV' (by omega) (by rw [e5]; omega) (by rw [e27]; omega) (by rw [e5, e27]; omega)
    refine ⟨ν', ?_, ?_, i3, by rw [i4, e5]; omega, by rw [i5, e27]; omega, fun j hj => ?_, fun j hj => ?_, fun f k a b c => ?_⟩
    · rw [s_read_43, if_neg (by omega), if_neg (by omega)]; exact i1
    · rw [v_read_43, if_neg (by omega), if_neg (by omega)]; exact i2
    · rw [i6 j (by rw [e5]; omega), u2_f (by decide), u2_f (by decide), u2_n (by omega)]
    · by_cases z : j = 0
      · subst z
        rw [i6 _ (by rw [e5]; omega), u2_f (by decide), u2_f (by decide), Nat.add_zero, u2_s]
        simp
      · have := i7 (j - 1) (by omega)
        rw [e5, e27] at this
        rw [show (ν 5 0).toNat + j = (ν 5 0 + 1).toNat + (j - 1) by omega, this, v_byteAt_u (by decide), v_byteAt_u (by decide), v_byteAt_u (by decide), show ν 27 (mj s i) + 1 + ((j - 1 : Nat) : Int) = ν 27 (mj s i) + j by omega]
    · rw [i8 f k a b c, u2_n c, u2_n b, u2_f a]
theorem move_l {s i q : Int} : ∀ (d m : Nat) (k : Int) (ν : Nat → Nat → Int), m < d → 0 ≤ k → ν 101 (mj s i) ≠ 1 → 0 ≤ ν 101 (mj s i) → 0 ≤ ν 102 (mj s i) → ∃ ν', s_moveOut_10 κ s i 1 q d k (k + m) ν = s_settle (u2 ν' 102 (mj s i) (ν' 102 (mj s i) + (k + m))) s i ∧ v_moveOut_10 κ s i 1 q d k (k + m) ν = k + m ∧ (∀ j : Nat, (j : Int) < k → ν' 1001 j = ν 1001 j) ∧ (∀ j : Nat, j < m → ν' 1001 (k.toNat + j) = wB (ν (1000 + (ν 101 (mj s i)).toNat) ((ν 102 (mj s i)).toNat + (k.toNat + j)) - 1)) ∧ ∀ f k', f ≠ 1001 → ν' f k' = ν f k'
  | 0, m, k, ν, g1, _, _, _, _ => by omega
  | d + 1, 0, k, ν, g1, g2, g3, g4, g5 => by
    refine ⟨ν, ?_, ?_, fun _ _ => rfl, fun j hj => by omega, fun _ _ _ => rfl⟩
    · rw [s_moveOut_10, if_pos (by omega)]
    · rw [v_moveOut_10, if_pos (by omega)]
  | d + 1, m + 1, k, ν, g1, g2, g3, g4, g5 => by
    have e101 : ∀ f k' : Nat, f ≠ 1001 → (u2 ν (1000 + (1 : Int).toNat) k.toNat (wB ((ν (1000 + (ν 101 (mj s i)).toNat) ((ν 102 (mj s i)) + k).toNat) - 1))) f k' = ν f k' := fun f k' z => u2_f z
    obtain ⟨ν', i1, i2, i3, i4, i5⟩ := move_l (s := s) (i := i) (q := q) d m (k + 1) (u2 ν (1000 + (1 : Int).toNat) k.toNat (wB ((ν (1000 + (ν 101 (mj s i)).toNat) ((ν 102 (mj s i)) + k).toNat) - 1))) (by omega) (by omega) (by rw [e101 _ _ (by decide)]; exact g3) (by rw [e101 _ _ (by decide)]; exact g4) (by rw [e101 _ _ (by decide)]; exact g5)
    rw [show k + 1 + (m : Int) = k + ((m + 1 : Nat) : Int) by omega] at i1 i2
    refine ⟨ν', ?_, ?_, fun j hj => ?_, fun j hj => ?_, fun f k' z => by rw [i5 f k' z, e101 _ _ z]⟩
    · rw [s_moveOut_10, if_neg (by omega)]; exact i1
    · rw [v_moveOut_10, if_neg (by omega)]; exact i2
    · rw [i3 j (by omega)]
      exact u2_n (by omega)
    · by_cases z : j = 0
      · subst z
        rw [i3 _ (by omega), Nat.add_zero]
        rw [show (ν 102 (mj s i) + k).toNat = (ν 102 (mj s i)).toNat + k.toNat by omega]
        exact u2_s _ _ _ _
      · have := i4 (j - 1) (by omega)
        rw [e101 101 _ (by decide), e101 102 _ (by decide), e101 _ _ (by omega), show (k + 1).toNat + (j - 1) = k.toNat + j by omega] at this
        exact this
theorem wB_m (a : Int) : wB a % 256 = a % 256 := by unfold wB; omega
/-- a part that gets: ready is not behind what has come -/
theorem rB_le {s i : Int} (hB : rB κ μ O s i) (hp : κ 190 (mj s i) = 1) (h : 0 ≤ κ 104 (mj s i)) (h6 : 0 ≤ κ 600 (κ 101 (mj s i)).toNat) : κ 103 (mj s i) ≤ κ 104 (mj s i) ∧ κ 103 (mj s i) ≤ κ 600 (κ 101 (mj s i)).toNat := by
  obtain ⟨_, _, b3⟩ := hB.2.1 hp
  by_cases z : κ 103 (mj s i) ≤ 0
  · exact ⟨by omega, by omega⟩
  · have := b3.2.2.2.2.1 (κ 103 (mj s i) - 1).toNat (b3.2.2.1 _ (by omega))
    omega
end R14
