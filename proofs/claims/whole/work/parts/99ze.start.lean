section RS0
variable {μ : Nat → Nat → Int}
/-! both when they are new -/
def m00 : Nat → Nat → Int := s_init6 (fun _ _ => 0)
theorem i304_o {f q : Nat} (h1 : f ≠ 24) (h2 : f ≠ 26) : ∀ (d : Nat) (k : Int) (ν : Nat → Nat → Int), s_init6_304 μ d k ν f q = ν f q
  | 0, _, _ => rfl
  | d + 1, k, ν => by
    rw [s_init6_304]
    split
    · rfl
    · rw [i304_o h1 h2 d, u2_f h1, u2_f h2]
theorem i304_v : ∀ (d k : Nat) (ν : Nat → Nat → Int), 512 < d + k → k ≤ 512 → (∀ q : Nat, q < k → ν 26 q = -1 ∧ ν 24 q = -1) → ∀ q : Nat, q < 512 → s_init6_304 μ d k ν 26 q = -1 ∧ s_init6_304 μ d k ν 24 q = -1
  | 0, k, ν, h, h2, _, _, _ => by omega
  | d + 1, k, ν, h, h2, hv, q, hq => by
    rw [s_init6_304]
    by_cases e : 512 ≤ (k : Int)
    · rw [if_pos e]; exact hv q (by omega)
    · rw [if_neg e]
      have t : ((k : Int)).toNat = k := by omega
      have w := i304_v d (k + 1) (u2 (u2 ν 26 ((k : Int)).toNat (-1)) 24 ((k : Int)).toNat (-1)) (by omega) (by omega) (fun r hr => by
        rw [t]
        by_cases z : r = k
        · rw [z, u2_f (by decide), u2_s, u2_s]; exact ⟨rfl, rfl⟩
        · rw [u2_f (by decide), u2_n (by omega), u2_n (by omega), u2_f (by decide)]
          exact hv r (by omega)) q hq
      rw [show ((k + 1 : Nat) : Int) = (k : Int) + 1 by omega] at w
      exact w
theorem m00_0 {f k : Nat} (hf : [6, 10, 11, 14, 16, 24, 26].elem f = false) : m00 f k = 0 := s_init6_fr hf
theorem m00_26 {k : Nat} (h : k < 512) : m00 26 k = -1 ∧ m00 24 k = -1 := by
  have w : ∀ ν : Nat → Nat → Int, s_init6_304 (fun _ _ => 0) 513 ((0 : Nat) : Int) ν 26 k = -1 ∧ s_init6_304 (fun _ _ => 0) 513 ((0 : Nat) : Int) ν 24 k = -1 := fun ν => i304_v 513 0 ν (by omega) (by omega) (fun q z => by omega) k h
  rw [show ((0 : Nat) : Int) = 0 from rfl] at w
  unfold m00 s_init6
  exact w _
theorem m6_v {k : Nat} {v : Int} (h : k = 4 ∧ v = 4096 ∨ (k = 5 ∨ k = 6 ∨ k = 7) ∧ v = 1024 ∨ (k = 8 ∨ k = 9) ∧ v = 4 ∨ k = 20 ∧ v = 4096 ∨ (k = 21 ∨ k = 22 ∨ k = 23) ∧ v = 1024 ∨ (k = 24 ∨ k = 25) ∧ v = 4) : m00 6 k = v := by
  refine (i304_o (by decide) (by decide) _ _ _).trans ?_
  rcases h with ⟨rfl, rfl⟩ | ⟨rfl | rfl | rfl, rfl⟩ | ⟨rfl | rfl, rfl⟩ | ⟨rfl, rfl⟩ | ⟨rfl | rfl | rfl, rfl⟩ | ⟨rfl | rfl, rfl⟩ <;> rfl
theorem m10_v {k : Nat} (h : k < 4) : m00 10 k = 4 := by
  refine (i304_o (by decide) (by decide) _ _ _).trans ?_
  rcases (show k = 0 ∨ k = 1 ∨ k = 2 ∨ k = 3 by omega) with rfl | rfl | rfl | rfl <;> rfl
theorem m11_v {k : Nat} (h : k < 2) : m00 11 k = 4096 := by
  refine (i304_o (by decide) (by decide) _ _ _).trans ?_
  rcases (show k = 0 ∨ k = 1 by omega) with rfl | rfl <;> rfl
theorem m14_v {k : Nat} (h : k < 6) : m00 14 k = -1 := by
  refine (i304_o (by decide) (by decide) _ _ _).trans ?_
  rcases (show k = 0 ∨ k = 1 ∨ k = 2 ∨ k = 3 ∨ k = 4 ∨ k = 5 by omega) with rfl | rfl | rfl | rfl | rfl | rfl <;> rfl
theorem m16_v {k : Nat} (h : k < 2) : m00 16 k = -1 := by
  refine (i304_o (by decide) (by decide) _ _ _).trans ?_
  rcases (show k = 0 ∨ k = 1 by omega) with rfl | rfl <;> rfl
theorem mSum_z : ∀ n, mSum (fun _ => (0 : Int)) n = 0
  | 0 => rfl
  | n + 1 => by show mSum (fun _ => (0 : Int)) n + 0 = 0; rw [mSum_z n]; rfl
theorem rec_00 (s : Int) : v_received m00 s = 0 := by
  rw [received_s, mSum_cg (h' := fun _ => 0) 256 (fun k hk => m00_0 rfl), mSum_z]
theorem con_00 (s : Int) : v_consumed m00 s = 0 := by
  rw [consumed_s, mSum_cg (h' := fun _ => 0) 256 (fun k hk => by
    show (if m00 28 (mj s k) = 0 then m00 27 (mj s k) else m00 26 (mj s k)) = 0
    rw [m00_0 (f := 28) rfl, if_pos rfl, m00_0 rfl]), mSum_z]
theorem X_00 {s : Int} (h1 : 0 ≤ s) (i : Int) (o : Nat) : mX m00 s i o = 0 := by
  refine mX_0.mpr ?_
  unfold v_isHere
  rw [pieceAt_no h1 (fun p hp => by rw [m00_0 (f := 40) rfl] at hp; omega)]
  exact if_pos (by decide)
theorem W_00 (s i : Int) : mW m00 s i = 0 := by
  unfold mW
  rw [m00_0 (f := 36) rfl]
  rfl
theorem Rel_00 : kRel k00 m00 (fun _ => 0) := by
  have z1 : m00 1 0 = 0 := m00_0 rfl
  refine ⟨⟨(m00_0 rfl).symm, (m00_0 rfl).symm, z1.symm, fun j hj => ?_, fun j hj => ?_, ⟨rfl, rfl, rfl⟩, ⟨rfl, rfl, rfl⟩, by decide⟩, fun s h1 h2 => ⟨?_, fun w w0 w1 => ?_, fun i h3 h4 => ⟨?_, ?_, ?_⟩⟩, fun p hp => ⟨(m00_0 rfl).symm, fun z => absurd z (by show ¬ (0 : Int) = 1; decide)⟩, fun s h1 h2 p k _ _ _ => m00_0 rfl⟩
  · exact absurd (show (j : Int) < 0 from hj) (by omega)
  · exact absurd (show (j : Int) < 0 from hj) (by omega)
  · refine ⟨(m00_0 rfl).symm, ?_, (m00_0 rfl).symm, ?_, (rec_00 s).symm, (con_00 s).symm, ?_, (m00_0 rfl).symm, ?_, fun j j1 j2 => ?_, fun z => ?_, Int.le_refl _, by show (0 : Int) ≤ 4096; decide, Or.inl (by show (-1 : Int) < 0; decide), fun _ => ⟨rfl, fun i _ _ => m00_0 rfl⟩⟩
    · unfold mTot
      rw [m00_0 (f := 36) rfl]
      rfl
    · exact (m14_v (by omega)).symm
    · exact (m11_v (by omega)).symm
    · exact (m16_v (by omega)).symm
    · rcases (show s = 0 ∨ s = 1 by omega) with rfl | rfl <;> rcases (show j = 4 ∨ j = 5 ∨ j = 6 ∨ j = 7 by omega) with rfl | rfl | rfl | rfl
      · exact (m6_v (k := 4) (v := 4096) (by omega)).symm
      · exact (m6_v (k := 5) (v := 1024) (by omega)).symm
      · exact (m6_v (k := 6) (v := 1024) (by omega)).symm
      · exact (m6_v (k := 7) (v := 1024) (by omega)).symm
      · exact (m6_v (k := 20) (v := 4096) (by omega)).symm
      · exact (m6_v (k := 21) (v := 1024) (by omega)).symm
      · exact (m6_v (k := 22) (v := 1024) (by omega)).symm
      · exact (m6_v (k := 23) (v := 1024) (by omega)).symm
    · rw [z1] at z; exact absurd z (by decide)
  · have e10 : m00 10 (2 * s + w).toNat = 4 := m10_v (by omega)
    have e36 : k00 360 (16 * s + (8 + w)).toNat = 4 := by
      rcases (show s = 0 ∨ s = 1 by omega) with rfl | rfl <;> rcases (show w = 0 ∨ w = 1 by omega) with rfl | rfl <;> rfl
    have e6 : m00 6 (16 * s + 8 + w).toNat = 4 := m6_v (by omega)
    refine ⟨(m00_0 rfl).symm, (m00_0 rfl).symm, (m14_v (by omega)).symm, (m00_0 rfl).symm, (m00_0 rfl).symm, by rw [e36, e10], by rw [e36]; decide, by show (0 : Int) ≤ 64; decide, Int.le_refl _, by show (-1 : Int) ≤ 0; decide, ⟨fun z => absurd z (by show ¬ (-1 : Int) = 0; decide), fun z => ?_⟩, fun _ => ⟨rfl, m00_0 rfl, by rw [e6, e10], rfl⟩⟩
    have := z.1
    rw [m00_0 (f := 15) rfl] at this
    exact absurd this (by decide)
  · refine ⟨⟨fun z => ?_, fun z => ?_⟩, fun z => ?_⟩
    · rw [m00_0 (f := 17) rfl] at z; exact absurd z (by decide)
    · rw [m00_0 (f := 8) rfl, m00_0 (f := 9) rfl] at z
      omega
    · rw [m00_0 (f := 17) rfl] at z; exact absurd z (by decide)
  · refine ⟨⟨fun z => absurd z (by show ¬ (0 : Int) = 1; decide), fun z => ?_⟩, fun z => absurd z (by show ¬ (0 : Int) = 1; decide), fun _ => ⟨W_00 s i, m00_0 rfl, m00_0 rfl, m00_0 rfl, (m00_26 (by unfold mj; omega)).2⟩⟩
    have := z.1
    rw [m00_0 (f := 17) rfl] at this
    exact absurd this (by decide)
  · refine ⟨⟨fun z => absurd z (by show ¬ (0 : Int) = 1; decide), fun z => ?_⟩, fun z => absurd z (by show ¬ (0 : Int) = 1; decide), fun _ => ⟨m00_0 rfl, (m00_26 (by unfold mj; omega)).1, m00_0 rfl, m00_0 rfl, m00_0 rfl, m00_0 rfl, m00_0 rfl, m00_0 rfl, m00_0 rfl, fun o => X_00 h1 i o⟩⟩
    have := z.1
    rw [m00_0 (f := 17) rfl] at this
    exact absurd this (by decide)
theorem Inv_00 : kInv k00 := fun s h1 h2 => by
  refine ⟨?_, fun i _ _ => ⟨fun z => absurd z (by show ¬ (0 : Int) = 1; decide), fun z => absurd z (by show ¬ (0 : Int) = 1; decide)⟩⟩
  rcases (show s = 0 ∨ s = 1 by omega) with rfl | rfl <;> exact (by decide : (4096 : Int) ≤ 4096)
theorem lI_00 (hV : mV m00) : lI k00 m00 (fun _ => 0) := by
  refine ⟨hV, k00_V, Rel_00, Inv_00, k00_W, fun p hp z => ?_, fun s h1 h2 => ⟨by rw [rec_00]; decide, fun p hp => ?_, fun p q _ hq => ?_⟩, fun q _ z => absurd z (by show ¬ (0 : Int) = 1; decide)⟩
  · rw [m00_0 (f := 58) rfl] at z; exact absurd z (by decide)
  · rw [m00_0 (f := 40) rfl] at hp; omega
  · rw [m00_0 (f := 40) rfl] at hq; omega
theorem Pot_00 : kPot k00 = 0 := by
  have w : ∀ k, kw k00 k = 0 := fun k => by
    unfold kw
    rw [if_neg (by show ¬ (0 : Int) = 1; decide), if_neg (by show ¬ (0 : Int) = 1; decide)]
    rfl
  unfold kPot kPs
  simp only [w, mSum_z]
  rfl
end RS0
