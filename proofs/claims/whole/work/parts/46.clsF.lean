section KF
variable {L : Launch} {G : mmG} {B : Nat → Nat → Nat} {bx : Nat → Option (Nat × Nat)} {h0 : mmH} {κ κ' : Nat → Nat → Int}
theorem mR_two {g : Nat → Int} {c d : Int} (hcd : c ≠ d) (b : Int) (hb : 0 ≤ b) : mR g c 0 b + mR g d 0 b ≤ b := by
  have key : ∀ n : Nat, mR g c 0 n + mR g d 0 n ≤ n := by
    intro n
    induction n with
    | zero => rw [mR_e (by simp), mR_e (by simp)]; simp
    | succ n ih =>
      have z1 := mR_s (g := g) (c := c) (a := 0) (b := n) (by omega) (by omega)
      have z2 := mR_s (g := g) (c := d) (a := 0) (b := n) (by omega) (by omega)
      have z3 := b2_c (g (n : Int).toNat = c)
      have z4 := b2_c (g (n : Int).toNat = d)
      rw [show ((n + 1 : Nat) : Int) = (n : Int) + 1 by omega, z1, z2]
      rcases z3 with z3 | z3 <;> rcases z4 with z4 | z4
      · exact absurd (z3.1.symm.trans z4.1) hcd
      · omega
      · omega
      · omega
  have := key b.toNat
  rw [show ((b.toNat : Nat) : Int) = b by omega] at this
  exact this
theorem mR_cut {g : Nat → Int} {c u v : Int} (h1 : 0 ≤ u) (h2 : u ≤ v) : ∀ n : Nat, mR g c u (v + n) = mR g c u v + mR g c v (v + n)
  | 0 => by rw [show v + ((0 : Nat) : Int) = v by omega, mR_e (a := v) (Int.le_refl _)]; omega
  | n + 1 => by
    have ih := mR_cut (g := g) (c := c) h1 h2 n
    have z1 := mR_s (g := g) (c := c) (a := u) (b := v + n) h1 (by omega)
    have z2 := mR_s (g := g) (c := c) (a := v) (b := v + n) (by omega) (by omega)
    rw [show v + ((n + 1 : Nat) : Int) = v + n + 1 by omega, z1, z2, ih]
    omega
theorem mR_here {g : Nat → Int} {c u n b : Int} (h1 : 0 ≤ u) (h2 : 0 ≤ n) (h3 : u + n ≤ b) : mR g c 0 b + n - mR g c u (u + n) ≤ b := by
  have a1 := mR_cut (g := g) (c := c) (u := 0) (v := u) (by omega) h1 n.toNat
  have a2 := mR_cut (g := g) (c := c) (u := 0) (v := u + n) (by omega) (by omega) (b - (u + n)).toNat
  rw [show u + ((n.toNat : Nat) : Int) = u + n by omega] at a1
  rw [show u + n + (((b - (u + n)).toNat : Nat) : Int) = b by omega] at a2
  have b1 := mR_b (g := g) (c := c) (a := 0) (b := u)
  have b2' := mR_b (g := g) (c := c) (a := u + n) (b := b)
  omega
def v_fillNext (κ : Nat → Nat → Int) (s p m : Int) : Int := (if (v_fillReset κ s p m) = 0 then (if (v_fillStop (s_fillReset κ s p m) s p m) = 0 then (if (v_fillDataGrant (s_fillStop (s_fillReset κ s p m) s p m) s p m) = 0 then (if (v_fillGrant (s_fillDataGrant (s_fillStop (s_fillReset κ s p m) s p m) s p m) s p m) = 0 then (if (v_fillStreamsGrant (s_fillGrant (s_fillDataGrant (s_fillStop (s_fillReset κ s p m) s p m) s p m) s p m) s p m) = 0 then (if (v_fillDataBlocked (s_fillStreamsGrant (s_fillGrant (s_fillDataGrant (s_fillStop (s_fillReset κ s p m) s p m) s p m) s p m) s p m) s p m) = 0 then (if (v_fillBlocked (s_fillDataBlocked (s_fillStreamsGrant (s_fillGrant (s_fillDataGrant (s_fillStop (s_fillReset κ s p m) s p m) s p m) s p m) s p m) s p m) s p m) = 0 then (if (v_fillStreamsBlocked (s_fillBlocked (s_fillDataBlocked (s_fillStreamsGrant (s_fillGrant (s_fillDataGrant (s_fillStop (s_fillReset κ s p m) s p m) s p m) s p m) s p m) s p m) s p m) s p m) = 0 then (if (v_fillStream (s_fillStreamsBlocked (s_fillBlocked (s_fillDataBlocked (s_fillStreamsGrant (s_fillGrant (s_fillDataGrant (s_fillStop (s_fillReset κ s p m) s p m) s p m) s p m) s p m) s p m) s p m) s p m) s p m) = 0 then 0 else 1) else 1) else 1) else 1) else 1) else 1) else 1) else 1) else 1)
def s_fillNext (κ : Nat → Nat → Int) (s p m : Int) : Nat → Nat → Int := (if (v_fillReset κ s p m) = 0 then (if (v_fillStop (s_fillReset κ s p m) s p m) = 0 then (if (v_fillDataGrant (s_fillStop (s_fillReset κ s p m) s p m) s p m) = 0 then (if (v_fillGrant (s_fillDataGrant (s_fillStop (s_fillReset κ s p m) s p m) s p m) s p m) = 0 then (if (v_fillStreamsGrant (s_fillGrant (s_fillDataGrant (s_fillStop (s_fillReset κ s p m) s p m) s p m) s p m) s p m) = 0 then (if (v_fillDataBlocked (s_fillStreamsGrant (s_fillGrant (s_fillDataGrant (s_fillStop (s_fillReset κ s p m) s p m) s p m) s p m) s p m) s p m) = 0 then (if (v_fillBlocked (s_fillDataBlocked (s_fillStreamsGrant (s_fillGrant (s_fillDataGrant (s_fillStop (s_fillReset κ s p m) s p m) s p m) s p m) s p m) s p m) s p m) = 0 then (if (v_fillStreamsBlocked (s_fillBlocked (s_fillDataBlocked (s_fillStreamsGrant (s_fillGrant (s_fillDataGrant (s_fillStop (s_fillReset κ s p m) s p m) s p m) s p m) s p m) s p m) s p m) s p m) = 0 then (if (v_fillStream (s_fillStreamsBlocked (s_fillBlocked (s_fillDataBlocked (s_fillStreamsGrant (s_fillGrant (s_fillDataGrant (s_fillStop (s_fillReset κ s p m) s p m) s p m) s p m) s p m) s p m) s p m) s p m) s p m) = 0 then (s_fillStream (s_fillStreamsBlocked (s_fillBlocked (s_fillDataBlocked (s_fillStreamsGrant (s_fillGrant (s_fillDataGrant (s_fillStop (s_fillReset κ s p m) s p m) s p m) s p m) s p m) s p m) s p m) s p m) s p m) else (s_fillStream (s_fillStreamsBlocked (s_fillBlocked (s_fillDataBlocked (s_fillStreamsGrant (s_fillGrant (s_fillDataGrant (s_fillStop (s_fillReset κ s p m) s p m) s p m) s p m) s p m) s p m) s p m) s p m) s p m)) else (s_fillStreamsBlocked (s_fillBlocked (s_fillDataBlocked (s_fillStreamsGrant (s_fillGrant (s_fillDataGrant (s_fillStop (s_fillReset κ s p m) s p m) s p m) s p m) s p m) s p m) s p m) s p m)) else (s_fillBlocked (s_fillDataBlocked (s_fillStreamsGrant (s_fillGrant (s_fillDataGrant (s_fillStop (s_fillReset κ s p m) s p m) s p m) s p m) s p m) s p m) s p m)) else (s_fillDataBlocked (s_fillStreamsGrant (s_fillGrant (s_fillDataGrant (s_fillStop (s_fillReset κ s p m) s p m) s p m) s p m) s p m) s p m)) else (s_fillStreamsGrant (s_fillGrant (s_fillDataGrant (s_fillStop (s_fillReset κ s p m) s p m) s p m) s p m) s p m)) else (s_fillGrant (s_fillDataGrant (s_fillStop (s_fillReset κ s p m) s p m) s p m) s p m)) else (s_fillDataGrant (s_fillStop (s_fillReset κ s p m) s p m) s p m)) else (s_fillStop (s_fillReset κ s p m) s p m)) else (s_fillReset κ s p m))
set_option maxRecDepth 100000 in
theorem m_fillNext (hF : mm_F G) (htr : L.stackTraces = false) (hx : kx B bx κ) (hV : kV κ) {s p m : Int} {a0 a1 : Nat} (ea0 : a0 = B 3 s.toNat) (ea1 : a1 = B 0 p.toNat) (h1 : 0 ≤ s) (h2 : s ≤ 1) (hf1 : 0 ≤ p) (hf2 : p ≤ 64) (hm : 1 ≤ m) (hm2 : m ≤ 1200) (hS : kSA κ s) (hlf : κ 307 s.toNat < κ 306 s.toNat ∨ κ 306 s.toNat = 0) :
    mm_Met L G SX3_fillNext [.ref a0, .ref a1, .int (iI m)] (hk G B bx h0 κ) 0 0 (mRetS (some (.int (iI (v_fillNext κ s p m)))) (hk G B bx h0 (s_fillNext κ s p m)) (kx B bx (s_fillNext κ s p m) ∧ kV (s_fillNext κ s p m) ∧ (fun r _ => r = 0 ∨ r = 1) (v_fillNext κ s p m) (s_fillNext κ s p m))) mm_no := by
  refine mi_meth MX3_fillNext 400 hF htr okX3_fillNext (av := [aR a0, aR a1, aI m]) (by decide +kernel) (Nat.le_of_ble_eq_true rfl) cmX3_fillNext (fun θ hc => ?_)
  refine ⟨⟨_, hk_o3 hx (show s.toNat < 2 from by omega) ea0⟩, _, _, _, _, (m_fillReset hF htr hx hV (s := s) (p := p) (m := m) ea0 ea1 (by omega) (by omega) (by omega) (by omega) (by omega) (by omega)), Nat.le_refl _, Nat.le_refl _, mkis_ (r := some (aI (v_fillReset κ s p m))) (fun ⟨hx2, hV1, hp3⟩ => ?_), fun _ _ q => q.elim⟩
  have hp3 : (v_fillReset κ s p m) = 0 ∨ (v_fillReset κ s p m) = 1 := hp3
  refine ⟨by omega, fun (e4 : ¬ ((v_fillReset κ s p m) = 0)) => ?_, fun (e4 : (v_fillReset κ s p m) = 0) => ?_⟩
  · exact ⟨(Or.inr rfl), kRetISP (P := fun r _ => r = 0 ∨ r = 1) (by first | exact if_neg e4 | (unfold v_fillNext; rw [if_neg e4])) (by first | exact if_neg e4 | (unfold s_fillNext; rw [if_neg e4])) hx2 hV1 (by omega), Nat.le_refl _, Nat.le_refl _⟩
  · refine ⟨⟨_, hk_o3 hx2 (show s.toNat < 2 from by omega) ea0⟩, _, _, _, _, (m_fillStop hF htr hx2 hV1 (s := s) (p := p) (m := m) ea0 ea1 (by omega) (by omega) (by omega) (by omega) (by omega) (by omega)), Nat.le_refl _, Nat.le_refl _, mkis_ (r := some (aI (v_fillStop (s_fillReset κ s p m) s p m))) (fun ⟨hx6, hV5, hp7⟩ => ?_), fun _ _ q => q.elim⟩
    have hp7 : (v_fillStop (s_fillReset κ s p m) s p m) = 0 ∨ (v_fillStop (s_fillReset κ s p m) s p m) = 1 := hp7
    refine ⟨by omega, fun (e8 : ¬ ((v_fillStop (s_fillReset κ s p m) s p m) = 0)) => ?_, fun (e8 : (v_fillStop (s_fillReset κ s p m) s p m) = 0) => ?_⟩
    · exact ⟨(Or.inr rfl), kRetISP (P := fun r _ => r = 0 ∨ r = 1) (by first | exact (if_pos e4).trans (if_neg e8) | (unfold v_fillNext; rw [if_pos e4, if_neg e8])) (by first | exact (if_pos e4).trans (if_neg e8) | (unfold s_fillNext; rw [if_pos e4, if_neg e8])) hx6 hV5 (by omega), Nat.le_refl _, Nat.le_refl _⟩
    · refine ⟨⟨_, hk_o3 hx6 (show s.toNat < 2 from by omega) ea0⟩, _, _, _, _, (m_fillDataGrant hF htr hx6 hV5 (s := s) (p := p) (m := m) ea0 ea1 (by omega) (by omega) (by omega) (by omega) (by omega) (by omega)), Nat.le_refl _, Nat.le_refl _, mkis_ (r := some (aI (v_fillDataGrant (s_fillStop (s_fillReset κ s p m) s p m) s p m))) (fun ⟨hx10, hV9, hp11⟩ => ?_), fun _ _ q => q.elim⟩
      have hp11 : (v_fillDataGrant (s_fillStop (s_fillReset κ s p m) s p m) s p m) = 0 ∨ (v_fillDataGrant (s_fillStop (s_fillReset κ s p m) s p m) s p m) = 1 := hp11
      refine ⟨by omega, fun (e12 : ¬ ((v_fillDataGrant (s_fillStop (s_fillReset κ s p m) s p m) s p m) = 0)) => ?_, fun (e12 : (v_fillDataGrant (s_fillStop (s_fillReset κ s p m) s p m) s p m) = 0) => ?_⟩
      · exact ⟨(Or.inr rfl), kRetISP (P := fun r _ => r = 0 ∨ r = 1) (by first | exact (if_pos e4).trans ((if_pos e8).trans (if_neg e12)) | (unfold v_fillNext; rw [if_pos e4, if_pos e8, if_neg e12])) (by first | exact (if_pos e4).trans ((if_pos e8).trans (if_neg e12)) | (unfold s_fillNext; rw [if_pos e4, if_pos e8, if_neg e12])) hx10 hV9 (by omega), Nat.le_refl _, Nat.le_refl _⟩
      · refine ⟨⟨_, hk_o3 hx10 (show s.toNat < 2 from by omega) ea0⟩, _, _, _, _, (m_fillGrant hF htr hx10 hV9 (s := s) (p := p) (m := m) ea0 ea1 (by omega) (by omega) (by omega) (by omega) (by omega) (by omega)), Nat.le_refl _, Nat.le_refl _, mkis_ (r := some (aI (v_fillGrant (s_fillDataGrant (s_fillStop (s_fillReset κ s p m) s p m) s p m) s p m))) (fun ⟨hx14, hV13, hp15⟩ => ?_), fun _ _ q => q.elim⟩
        have hp15 : (v_fillGrant (s_fillDataGrant (s_fillStop (s_fillReset κ s p m) s p m) s p m) s p m) = 0 ∨ (v_fillGrant (s_fillDataGrant (s_fillStop (s_fillReset κ s p m) s p m) s p m) s p m) = 1 := hp15
        refine ⟨by omega, fun (e16 : ¬ ((v_fillGrant (s_fillDataGrant (s_fillStop (s_fillReset κ s p m) s p m) s p m) s p m) = 0)) => ?_, fun (e16 : (v_fillGrant (s_fillDataGrant (s_fillStop (s_fillReset κ s p m) s p m) s p m) s p m) = 0) => ?_⟩
        · exact ⟨(Or.inr rfl), kRetISP (P := fun r _ => r = 0 ∨ r = 1) (by first | exact (if_pos e4).trans ((if_pos e8).trans ((if_pos e12).trans (if_neg e16))) | (unfold v_fillNext; rw [if_pos e4, if_pos e8, if_pos e12, if_neg e16])) (by first | exact (if_pos e4).trans ((if_pos e8).trans ((if_pos e12).trans (if_neg e16))) | (unfold s_fillNext; rw [if_pos e4, if_pos e8, if_pos e12, if_neg e16])) hx14 hV13 (by omega), Nat.le_refl _, Nat.le_refl _⟩
        · refine ⟨⟨_, hk_o3 hx14 (show s.toNat < 2 from by omega) ea0⟩, _, _, _, _, (m_fillStreamsGrant hF htr hx14 hV13 (s := s) (p := p) (m := m) ea0 ea1 (by omega) (by omega) (by omega) (by omega) (by omega) (by omega)), Nat.le_refl _, Nat.le_refl _, mkis_ (r := some (aI (v_fillStreamsGrant (s_fillGrant (s_fillDataGrant (s_fillStop (s_fillReset κ s p m) s p m) s p m) s p m) s p m))) (fun ⟨hx18, hV17, hp19⟩ => ?_), fun _ _ q => q.elim⟩
          have hp19 : (v_fillStreamsGrant (s_fillGrant (s_fillDataGrant (s_fillStop (s_fillReset κ s p m) s p m) s p m) s p m) s p m) = 0 ∨ (v_fillStreamsGrant (s_fillGrant (s_fillDataGrant (s_fillStop (s_fillReset κ s p m) s p m) s p m) s p m) s p m) = 1 := hp19
          refine ⟨by omega, fun (e20 : ¬ ((v_fillStreamsGrant (s_fillGrant (s_fillDataGrant (s_fillStop (s_fillReset κ s p m) s p m) s p m) s p m) s p m) = 0)) => ?_, fun (e20 : (v_fillStreamsGrant (s_fillGrant (s_fillDataGrant (s_fillStop (s_fillReset κ s p m) s p m) s p m) s p m) s p m) = 0) => ?_⟩
          · exact ⟨(Or.inr rfl), kRetISP (P := fun r _ => r = 0 ∨ r = 1) (by first | exact (if_pos e4).trans ((if_pos e8).trans ((if_pos e12).trans ((if_pos e16).trans (if_neg e20)))) | (unfold v_fillNext; rw [if_pos e4, if_pos e8, if_pos e12, if_pos e16, if_neg e20])) (by first | exact (if_pos e4).trans ((if_pos e8).trans ((if_pos e12).trans ((if_pos e16).trans (if_neg e20)))) | (unfold s_fillNext; rw [if_pos e4, if_pos e8, if_pos e12, if_pos e16, if_neg e20])) hx18 hV17 (by omega), Nat.le_refl _, Nat.le_refl _⟩
          · refine ⟨⟨_, hk_o3 hx18 (show s.toNat < 2 from by omega) ea0⟩, _, _, _, _, (m_fillDataBlocked hF htr hx18 hV17 (s := s) (p := p) (m := m) ea0 ea1 (by omega) (by omega) (by omega) (by omega) (by omega) (by omega)), Nat.le_refl _, Nat.le_refl _, mkis_ (r := some (aI (v_fillDataBlocked (s_fillStreamsGrant (s_fillGrant (s_fillDataGrant (s_fillStop (s_fillReset κ s p m) s p m) s p m) s p m) s p m) s p m))) (fun ⟨hx22, hV21, hp23⟩ => ?_), fun _ _ q => q.elim⟩
            have hp23 : (v_fillDataBlocked (s_fillStreamsGrant (s_fillGrant (s_fillDataGrant (s_fillStop (s_fillReset κ s p m) s p m) s p m) s p m) s p m) s p m) = 0 ∨ (v_fillDataBlocked (s_fillStreamsGrant (s_fillGrant (s_fillDataGrant (s_fillStop (s_fillReset κ s p m) s p m) s p m) s p m) s p m) s p m) = 1 := hp23
            refine ⟨by omega, fun (e24 : ¬ ((v_fillDataBlocked (s_fillStreamsGrant (s_fillGrant (s_fillDataGrant (s_fillStop (s_fillReset κ s p m) s p m) s p m) s p m) s p m) s p m) = 0)) => ?_, fun (e24 : (v_fillDataBlocked (s_fillStreamsGrant (s_fillGrant (s_fillDataGrant (s_fillStop (s_fillReset κ s p m) s p m) s p m) s p m) s p m) s p m) = 0) => ?_⟩
            · exact ⟨(Or.inr rfl), kRetISP (P := fun r _ => r = 0 ∨ r = 1) (by first | exact (if_pos e4).trans ((if_pos e8).trans ((if_pos e12).trans ((if_pos e16).trans ((if_pos e20).trans (if_neg e24))))) | (unfold v_fillNext; rw [if_pos e4, if_pos e8, if_pos e12, if_pos e16, if_pos e20, if_neg e24])) (by first | exact (if_pos e4).trans ((if_pos e8).trans ((if_pos e12).trans ((if_pos e16).trans ((if_pos e20).trans (if_neg e24))))) | (unfold s_fillNext; rw [if_pos e4, if_pos e8, if_pos e12, if_pos e16, if_pos e20, if_neg e24])) hx22 hV21 (by omega), Nat.le_refl _, Nat.le_refl _⟩
            · refine ⟨⟨_, hk_o3 hx22 (show s.toNat < 2 from by omega) ea0⟩, _, _, _, _, (m_fillBlocked hF htr hx22 hV21 (s := s) (p := p) (m := m) ea0 ea1 (by omega) (by omega) (by omega) (by omega) (by omega) (by omega)), Nat.le_refl _, Nat.le_refl _, mkis_ (r := some (aI (v_fillBlocked (s_fillDataBlocked (s_fillStreamsGrant (s_fillGrant (s_fillDataGrant (s_fillStop (s_fillReset κ s p m) s p m) s p m) s p m) s p m) s p m) s p m))) (fun ⟨hx26, hV25, hp27⟩ => ?_), fun _ _ q => q.elim⟩
              have hp27 : (v_fillBlocked (s_fillDataBlocked (s_fillStreamsGrant (s_fillGrant (s_fillDataGrant (s_fillStop (s_fillReset κ s p m) s p m) s p m) s p m) s p m) s p m) s p m) = 0 ∨ (v_fillBlocked (s_fillDataBlocked (s_fillStreamsGrant (s_fillGrant (s_fillDataGrant (s_fillStop (s_fillReset κ s p m) s p m) s p m) s p m) s p m) s p m) s p m) = 1 := hp27
              refine ⟨by omega, fun (e28 : ¬ ((v_fillBlocked (s_fillDataBlocked (s_fillStreamsGrant (s_fillGrant (s_fillDataGrant (s_fillStop (s_fillReset κ s p m) s p m) s p m) s p m) s p m) s p m) s p m) = 0)) => ?_, fun (e28 : (v_fillBlocked (s_fillDataBlocked (s_fillStreamsGrant (s_fillGrant (s_fillDataGrant (s_fillStop (s_fillReset κ s p m) s p m) s p m) s p m) s p m) s p m) s p m) = 0) => ?_⟩
              · exact ⟨(Or.inr rfl), kRetISP (P := fun r _ => r = 0 ∨ r = 1) (by first | exact (if_pos e4).trans ((if_pos e8).trans ((if_pos e12).trans ((if_pos e16).trans ((if_pos e20).trans ((if_pos e24).trans (if_neg e28)))))) | (unfold v_fillNext; rw [if_pos e4, if_pos e8, if_pos e12, if_pos e16, if_pos e20, if_pos e24, if_neg e28])) (by first | exact (if_pos e4).trans ((if_pos e8).trans ((if_pos e12).trans ((if_pos e16).trans ((if_pos e20).trans ((if_pos e24).trans (if_neg e28)))))) | (unfold s_fillNext; rw [if_pos e4, if_pos e8, if_pos e12, if_pos e16, if_pos e20, if_pos e24, if_neg e28])) hx26 hV25 (by omega), Nat.le_refl _, Nat.le_refl _⟩
              · refine ⟨⟨_, hk_o3 hx26 (show s.toNat < 2 from by omega) ea0⟩, _, _, _, _, (m_fillStreamsBlocked hF htr hx26 hV25 (s := s) (p := p) (m := m) ea0 ea1 (by omega) (by omega) (by omega) (by omega) (by omega) (by omega)), Nat.le_refl _, Nat.le_refl _, mkis_ (r := some (aI (v_fillStreamsBlocked (s_fillBlocked (s_fillDataBlocked (s_fillStreamsGrant (s_fillGrant (s_fillDataGrant (s_fillStop (s_fillReset κ s p m) s p m) s p m) s p m) s p m) s p m) s p m) s p m))) (fun ⟨hx30, hV29, hp31⟩ => ?_), fun _ _ q => q.elim⟩
                have hp31 : (v_fillStreamsBlocked (s_fillBlocked (s_fillDataBlocked (s_fillStreamsGrant (s_fillGrant (s_fillDataGrant (s_fillStop (s_fillReset κ s p m) s p m) s p m) s p m) s p m) s p m) s p m) s p m) = 0 ∨ (v_fillStreamsBlocked (s_fillBlocked (s_fillDataBlocked (s_fillStreamsGrant (s_fillGrant (s_fillDataGrant (s_fillStop (s_fillReset κ s p m) s p m) s p m) s p m) s p m) s p m) s p m) s p m) = 1 := hp31
                refine ⟨by omega, fun (e32 : ¬ ((v_fillStreamsBlocked (s_fillBlocked (s_fillDataBlocked (s_fillStreamsGrant (s_fillGrant (s_fillDataGrant (s_fillStop (s_fillReset κ s p m) s p m) s p m) s p m) s p m) s p m) s p m) s p m) = 0)) => ?_, fun (e32 : (v_fillStreamsBlocked (s_fillBlocked (s_fillDataBlocked (s_fillStreamsGrant (s_fillGrant (s_fillDataGrant (s_fillStop (s_fillReset κ s p m) s p m) s p m) s p m) s p m) s p m) s p m) s p m) = 0) => ?_⟩
                · exact ⟨(Or.inr rfl), kRetISP (P := fun r _ => r = 0 ∨ r = 1) (by first | exact (if_pos e4).trans ((if_pos e8).trans ((if_pos e12).trans ((if_pos e16).trans ((if_pos e20).trans ((if_pos e24).trans ((if_pos e28).trans (if_neg e32))))))) | (unfold v_fillNext; rw [if_pos e4, if_pos e8, if_pos e12, if_pos e16, if_pos e20, if_pos e24, if_pos e28, if_neg e32])) (by first | exact (if_pos e4).trans ((if_pos e8).trans ((if_pos e12).trans ((if_pos e16).trans ((if_pos e20).trans ((if_pos e24).trans ((if_pos e28).trans (if_neg e32))))))) | (unfold s_fillNext; rw [if_pos e4, if_pos e8, if_pos e12, if_pos e16, if_pos e20, if_pos e24, if_pos e28, if_neg e32])) hx30 hV29 (by omega), Nat.le_refl _, Nat.le_refl _⟩
                · refine ⟨⟨_, hk_o3 hx30 (show s.toNat < 2 from by omega) ea0⟩, _, _, _, _, (m_fillStream hF htr hx30 hV29 (s := s) (p := p) (m := m) ea0 ea1 (by omega) (by omega) (by omega) (by omega) (by omega) (by omega) (kSA_cg (fun f hf k => by unfold kSf at hf; rcases hf with rfl | rfl | rfl | rfl | rfl | rfl | rfl | rfl | rfl | rfl | rfl | hz; all_goals first | exact (Eq.trans (s_fillStreamsBlocked_fr (by decide)) (Eq.trans (s_fillBlocked_fr (by decide)) (Eq.trans (s_fillDataBlocked_fr (by decide)) (Eq.trans (s_fillStreamsGrant_fr (by decide)) (Eq.trans (s_fillGrant_fr (by decide)) (Eq.trans (s_fillDataGrant_fr (by decide)) (Eq.trans (s_fillStop_fr (by decide)) (s_fillReset_fr (by decide))))))))) | exact (Eq.trans (s_fillStreamsBlocked_fr (kfr rfl hz)) (Eq.trans (s_fillBlocked_fr (kfr rfl hz)) (Eq.trans (s_fillDataBlocked_fr (kfr rfl hz)) (Eq.trans (s_fillStreamsGrant_fr (kfr rfl hz)) (Eq.trans (s_fillGrant_fr (kfr rfl hz)) (Eq.trans (s_fillDataGrant_fr (kfr rfl hz)) (Eq.trans (s_fillStop_fr (kfr rfl hz)) (s_fillReset_fr (kfr rfl hz)))))))))) hS) (by rw [show (s_fillStreamsBlocked (s_fillBlocked (s_fillDataBlocked (s_fillStreamsGrant (s_fillGrant (s_fillDataGrant (s_fillStop (s_fillReset κ s p m) s p m) s p m) s p m) s p m) s p m) s p m) s p m) 307 s.toNat = _ from (Eq.trans (s_fillStreamsBlocked_fr (by decide)) (Eq.trans (s_fillBlocked_fr (by decide)) (Eq.trans (s_fillDataBlocked_fr (by decide)) (Eq.trans (s_fillStreamsGrant_fr (by decide)) (Eq.trans (s_fillGrant_fr (by decide)) (Eq.trans (s_fillDataGrant_fr (by decide)) (Eq.trans (s_fillStop_fr (by decide)) (s_fillReset_fr (by decide)))))))))]; rw [show (s_fillStreamsBlocked (s_fillBlocked (s_fillDataBlocked (s_fillStreamsGrant (s_fillGrant (s_fillDataGrant (s_fillStop (s_fillReset κ s p m) s p m) s p m) s p m) s p m) s p m) s p m) s p m) 306 s.toNat = _ from (Eq.trans (s_fillStreamsBlocked_fr (by decide)) (Eq.trans (s_fillBlocked_fr (by decide)) (Eq.trans (s_fillDataBlocked_fr (by decide)) (Eq.trans (s_fillStreamsGrant_fr (by decide)) (Eq.trans (s_fillGrant_fr (by decide)) (Eq.trans (s_fillDataGrant_fr (by decide)) (Eq.trans (s_fillStop_fr (by decide)) (s_fillReset_fr (by decide)))))))))]; omega)), Nat.le_refl _, Nat.le_refl _, mkis_ (r := some (aI (v_fillStream (s_fillStreamsBlocked (s_fillBlocked (s_fillDataBlocked (s_fillStreamsGrant (s_fillGrant (s_fillDataGrant (s_fillStop (s_fillReset κ s p m) s p m) s p m) s p m) s p m) s p m) s p m) s p m) s p m))) (fun ⟨hx34, hV33, hp35⟩ => ?_), fun _ _ q => q.elim⟩
                  have hp35 : (v_fillStream (s_fillStreamsBlocked (s_fillBlocked (s_fillDataBlocked (s_fillStreamsGrant (s_fillGrant (s_fillDataGrant (s_fillStop (s_fillReset κ s p m) s p m) s p m) s p m) s p m) s p m) s p m) s p m) s p m) = 0 ∨ (v_fillStream (s_fillStreamsBlocked (s_fillBlocked (s_fillDataBlocked (s_fillStreamsGrant (s_fillGrant (s_fillDataGrant (s_fillStop (s_fillReset κ s p m) s p m) s p m) s p m) s p m) s p m) s p m) s p m) s p m) = 1 := hp35
                  refine ⟨by omega, fun (e36 : (v_fillStream (s_fillStreamsBlocked (s_fillBlocked (s_fillDataBlocked (s_fillStreamsGrant (s_fillGrant (s_fillDataGrant (s_fillStop (s_fillReset κ s p m) s p m) s p m) s p m) s p m) s p m) s p m) s p m) s p m) = 0) => ?_, fun (e36 : ¬ ((v_fillStream (s_fillStreamsBlocked (s_fillBlocked (s_fillDataBlocked (s_fillStreamsGrant (s_fillGrant (s_fillDataGrant (s_fillStop (s_fillReset κ s p m) s p m) s p m) s p m) s p m) s p m) s p m) s p m) s p m) = 0)) => ?_⟩
                  · exact ⟨(Or.inl rfl), kRetISP (P := fun r _ => r = 0 ∨ r = 1) (by first | exact (if_pos e4).trans ((if_pos e8).trans ((if_pos e12).trans ((if_pos e16).trans ((if_pos e20).trans ((if_pos e24).trans ((if_pos e28).trans ((if_pos e32).trans (if_pos e36)))))))) | (unfold v_fillNext; rw [if_pos e4, if_pos e8, if_pos e12, if_pos e16, if_pos e20, if_pos e24, if_pos e28, if_pos e32, if_pos e36])) (by first | exact (if_pos e4).trans ((if_pos e8).trans ((if_pos e12).trans ((if_pos e16).trans ((if_pos e20).trans ((if_pos e24).trans ((if_pos e28).trans ((if_pos e32).trans (if_pos e36)))))))) | (unfold s_fillNext; rw [if_pos e4, if_pos e8, if_pos e12, if_pos e16, if_pos e20, if_pos e24, if_pos e28, if_pos e32, if_pos e36])) hx34 hV33 (by omega), Nat.le_refl _, Nat.le_refl _⟩
                  · exact ⟨(Or.inr rfl), kRetISP (P := fun r _ => r = 0 ∨ r = 1) (by first | exact (if_pos e4).trans ((if_pos e8).trans ((if_pos e12).trans ((if_pos e16).trans ((if_pos e20).trans ((if_pos e24).trans ((if_pos e28).trans ((if_pos e32).trans (if_neg e36)))))))) | (unfold v_fillNext; rw [if_pos e4, if_pos e8, if_pos e12, if_pos e16, if_pos e20, if_pos e24, if_pos e28, if_pos e32, if_neg e36])) (by first | exact (if_pos e4).trans ((if_pos e8).trans ((if_pos e12).trans ((if_pos e16).trans ((if_pos e20).trans ((if_pos e24).trans ((if_pos e28).trans ((if_pos e32).trans (if_neg e36)))))))) | (unfold s_fillNext; rw [if_pos e4, if_pos e8, if_pos e12, if_pos e16, if_pos e20, if_pos e24, if_pos e28, if_pos e32, if_neg e36])) hx34 hV33 (by omega), Nat.le_refl _, Nat.le_refl _⟩
set_option maxRecDepth 100000 in
theorem s_fillNext_fr {f kk : Nat} {s p m : Int} (hf : (Nat.blt f 1000 && !([3, 4, 5, 6, 7, 8, 9, 10, 108, 110, 204, 205, 207, 209, 211, 307, 309, 311, 315, 403, 405].elem f)) = true) : s_fillNext κ s p m f kk = κ f kk := by
  have n3 : f ≠ 3 := by rintro rfl; exact absurd hf (by decide)
  have n4 : f ≠ 4 := by rintro rfl; exact absurd hf (by decide)
  have n5 : f ≠ 5 := by rintro rfl; exact absurd hf (by decide)
  have n6 : f ≠ 6 := by rintro rfl; exact absurd hf (by decide)
  have n7 : f ≠ 7 := by rintro rfl; exact absurd hf (by decide)
  have n8 : f ≠ 8 := by rintro rfl; exact absurd hf (by decide)
  have n9 : f ≠ 9 := by rintro rfl; exact absurd hf (by decide)
  have n10 : f ≠ 10 := by rintro rfl; exact absurd hf (by decide)
  have n108 : f ≠ 108 := by rintro rfl; exact absurd hf (by decide)
  have n110 : f ≠ 110 := by rintro rfl; exact absurd hf (by decide)
  have n204 : f ≠ 204 := by rintro rfl; exact absurd hf (by decide)
  have n205 : f ≠ 205 := by rintro rfl; exact absurd hf (by decide)
  have n207 : f ≠ 207 := by rintro rfl; exact absurd hf (by decide)
  have n209 : f ≠ 209 := by rintro rfl; exact absurd hf (by decide)
  have n211 : f ≠ 211 := by rintro rfl; exact absurd hf (by decide)
  have n307 : f ≠ 307 := by rintro rfl; exact absurd hf (by decide)
  have n309 : f ≠ 309 := by rintro rfl; exact absurd hf (by decide)
  have n311 : f ≠ 311 := by rintro rfl; exact absurd hf (by decide)
  have n315 : f ≠ 315 := by rintro rfl; exact absurd hf (by decide)
  have n403 : f ≠ 403 := by rintro rfl; exact absurd hf (by decide)
  have n405 : f ≠ 405 := by rintro rfl; exact absurd hf (by decide)
  have lt : f < 1000 := Nat.le_of_ble_eq_true (Bool.and_eq_true_iff.mp hf).1
  have f3 : ∀ (m : Nat → Nat → Int) (a b : Nat) (v : Int), u2 m 3 a v f b = m f b := fun m a b v => u2_f n3
  have f4 : ∀ (m : Nat → Nat → Int) (a b : Nat) (v : Int), u2 m 4 a v f b = m f b := fun m a b v => u2_f n4
  have f5 : ∀ (m : Nat → Nat → Int) (a b : Nat) (v : Int), u2 m 5 a v f b = m f b := fun m a b v => u2_f n5
  have f6 : ∀ (m : Nat → Nat → Int) (a b : Nat) (v : Int), u2 m 6 a v f b = m f b := fun m a b v => u2_f n6
  have f7 : ∀ (m : Nat → Nat → Int) (a b : Nat) (v : Int), u2 m 7 a v f b = m f b := fun m a b v => u2_f n7
  have f8 : ∀ (m : Nat → Nat → Int) (a b : Nat) (v : Int), u2 m 8 a v f b = m f b := fun m a b v => u2_f n8
  have f9 : ∀ (m : Nat → Nat → Int) (a b : Nat) (v : Int), u2 m 9 a v f b = m f b := fun m a b v => u2_f n9
  have f10 : ∀ (m : Nat → Nat → Int) (a b : Nat) (v : Int), u2 m 10 a v f b = m f b := fun m a b v => u2_f n10
  have f108 : ∀ (m : Nat → Nat → Int) (a b : Nat) (v : Int), u2 m 108 a v f b = m f b := fun m a b v => u2_f n108
  have f110 : ∀ (m : Nat → Nat → Int) (a b : Nat) (v : Int), u2 m 110 a v f b = m f b := fun m a b v => u2_f n110
  have f204 : ∀ (m : Nat → Nat → Int) (a b : Nat) (v : Int), u2 m 204 a v f b = m f b := fun m a b v => u2_f n204
  have f205 : ∀ (m : Nat → Nat → Int) (a b : Nat) (v : Int), u2 m 205 a v f b = m f b := fun m a b v => u2_f n205
  have f207 : ∀ (m : Nat → Nat → Int) (a b : Nat) (v : Int), u2 m 207 a v f b = m f b := fun m a b v => u2_f n207
  have f209 : ∀ (m : Nat → Nat → Int) (a b : Nat) (v : Int), u2 m 209 a v f b = m f b := fun m a b v => u2_f n209
  have f211 : ∀ (m : Nat → Nat → Int) (a b : Nat) (v : Int), u2 m 211 a v f b = m f b := fun m a b v => u2_f n211
  have f307 : ∀ (m : Nat → Nat → Int) (a b : Nat) (v : Int), u2 m 307 a v f b = m f b := fun m a b v => u2_f n307
  have f309 : ∀ (m : Nat → Nat → Int) (a b : Nat) (v : Int), u2 m 309 a v f b = m f b := fun m a b v => u2_f n309
  have f311 : ∀ (m : Nat → Nat → Int) (a b : Nat) (v : Int), u2 m 311 a v f b = m f b := fun m a b v => u2_f n311
  have f315 : ∀ (m : Nat → Nat → Int) (a b : Nat) (v : Int), u2 m 315 a v f b = m f b := fun m a b v => u2_f n315
  have f403 : ∀ (m : Nat → Nat → Int) (a b : Nat) (v : Int), u2 m 403 a v f b = m f b := fun m a b v => u2_f n403
  have f405 : ∀ (m : Nat → Nat → Int) (a b : Nat) (v : Int), u2 m 405 a v f b = m f b := fun m a b v => u2_f n405
  have fw : ∀ (m : Nat → Nat → Int) (r a b : Nat) (v : Int), u2 m (1000 + r) a v f b = m f b := fun m r a b v => u2_f (by omega)
  have c_fillBlocked : ∀ (m : Nat → Nat → Int) (z_s z_p z_m : Int) (k : Nat), s_fillBlocked m z_s z_p z_m f k = m f k := by intros; exact s_fillBlocked_fr (by simp only [List.elem_cons, List.elem_nil, beq_eq_false_iff_ne.mpr n3, beq_eq_false_iff_ne.mpr n4, beq_eq_false_iff_ne.mpr n5, beq_eq_false_iff_ne.mpr n6, beq_eq_false_iff_ne.mpr n7, beq_eq_false_iff_ne.mpr n8, beq_eq_false_iff_ne.mpr n9, beq_eq_false_iff_ne.mpr n10, beq_eq_false_iff_ne.mpr n209]; rfl)
  have c_fillDataBlocked : ∀ (m : Nat → Nat → Int) (z_s z_p z_m : Int) (k : Nat), s_fillDataBlocked m z_s z_p z_m f k = m f k := by intros; exact s_fillDataBlocked_fr (by simp only [List.elem_cons, List.elem_nil, beq_eq_false_iff_ne.mpr n3, beq_eq_false_iff_ne.mpr n4, beq_eq_false_iff_ne.mpr n5, beq_eq_false_iff_ne.mpr n6, beq_eq_false_iff_ne.mpr n7, beq_eq_false_iff_ne.mpr n8, beq_eq_false_iff_ne.mpr n9, beq_eq_false_iff_ne.mpr n10, beq_eq_false_iff_ne.mpr n311]; rfl)
  have c_fillDataGrant : ∀ (m : Nat → Nat → Int) (z_s z_p z_m : Int) (k : Nat), s_fillDataGrant m z_s z_p z_m f k = m f k := by intros; exact s_fillDataGrant_fr (by simp only [List.elem_cons, List.elem_nil, beq_eq_false_iff_ne.mpr n3, beq_eq_false_iff_ne.mpr n4, beq_eq_false_iff_ne.mpr n5, beq_eq_false_iff_ne.mpr n6, beq_eq_false_iff_ne.mpr n7, beq_eq_false_iff_ne.mpr n8, beq_eq_false_iff_ne.mpr n9, beq_eq_false_iff_ne.mpr n10, beq_eq_false_iff_ne.mpr n315]; rfl)
  have c_fillGrant : ∀ (m : Nat → Nat → Int) (z_s z_p z_m : Int) (k : Nat), s_fillGrant m z_s z_p z_m f k = m f k := by intros; exact s_fillGrant_fr (by simp only [List.elem_cons, List.elem_nil, beq_eq_false_iff_ne.mpr n3, beq_eq_false_iff_ne.mpr n4, beq_eq_false_iff_ne.mpr n5, beq_eq_false_iff_ne.mpr n6, beq_eq_false_iff_ne.mpr n7, beq_eq_false_iff_ne.mpr n8, beq_eq_false_iff_ne.mpr n9, beq_eq_false_iff_ne.mpr n10, beq_eq_false_iff_ne.mpr n108]; rfl)
  have c_fillReset : ∀ (m : Nat → Nat → Int) (z_s z_p z_m : Int) (k : Nat), s_fillReset m z_s z_p z_m f k = m f k := by intros; exact s_fillReset_fr (by simp only [List.elem_cons, List.elem_nil, beq_eq_false_iff_ne.mpr n3, beq_eq_false_iff_ne.mpr n4, beq_eq_false_iff_ne.mpr n5, beq_eq_false_iff_ne.mpr n6, beq_eq_false_iff_ne.mpr n7, beq_eq_false_iff_ne.mpr n8, beq_eq_false_iff_ne.mpr n9, beq_eq_false_iff_ne.mpr n10, beq_eq_false_iff_ne.mpr n211]; rfl)
  have c_fillStop : ∀ (m : Nat → Nat → Int) (z_s z_p z_m : Int) (k : Nat), s_fillStop m z_s z_p z_m f k = m f k := by intros; exact s_fillStop_fr (by simp only [List.elem_cons, List.elem_nil, beq_eq_false_iff_ne.mpr n3, beq_eq_false_iff_ne.mpr n4, beq_eq_false_iff_ne.mpr n5, beq_eq_false_iff_ne.mpr n6, beq_eq_false_iff_ne.mpr n7, beq_eq_false_iff_ne.mpr n8, beq_eq_false_iff_ne.mpr n9, beq_eq_false_iff_ne.mpr n10, beq_eq_false_iff_ne.mpr n110]; rfl)
  have c_fillStream : ∀ (m : Nat → Nat → Int) (z_s z_p z_m : Int) (k : Nat), s_fillStream m z_s z_p z_m f k = m f k := by intros; exact s_fillStream_fr (Bool.and_eq_true_iff.mpr ⟨Nat.ble_eq_true_of_le lt, by simp only [List.elem_cons, List.elem_nil, beq_eq_false_iff_ne.mpr n3, beq_eq_false_iff_ne.mpr n4, beq_eq_false_iff_ne.mpr n5, beq_eq_false_iff_ne.mpr n6, beq_eq_false_iff_ne.mpr n7, beq_eq_false_iff_ne.mpr n8, beq_eq_false_iff_ne.mpr n9, beq_eq_false_iff_ne.mpr n10, beq_eq_false_iff_ne.mpr n204, beq_eq_false_iff_ne.mpr n205, beq_eq_false_iff_ne.mpr n207, beq_eq_false_iff_ne.mpr n307, beq_eq_false_iff_ne.mpr n309]; rfl⟩)
  have c_fillStreamsBlocked : ∀ (m : Nat → Nat → Int) (z_s z_p z_m : Int) (k : Nat), s_fillStreamsBlocked m z_s z_p z_m f k = m f k := by intros; exact s_fillStreamsBlocked_fr (by simp only [List.elem_cons, List.elem_nil, beq_eq_false_iff_ne.mpr n3, beq_eq_false_iff_ne.mpr n4, beq_eq_false_iff_ne.mpr n5, beq_eq_false_iff_ne.mpr n6, beq_eq_false_iff_ne.mpr n7, beq_eq_false_iff_ne.mpr n8, beq_eq_false_iff_ne.mpr n9, beq_eq_false_iff_ne.mpr n10, beq_eq_false_iff_ne.mpr n403]; rfl)
  have c_fillStreamsGrant : ∀ (m : Nat → Nat → Int) (z_s z_p z_m : Int) (k : Nat), s_fillStreamsGrant m z_s z_p z_m f k = m f k := by intros; exact s_fillStreamsGrant_fr (by simp only [List.elem_cons, List.elem_nil, beq_eq_false_iff_ne.mpr n3, beq_eq_false_iff_ne.mpr n4, beq_eq_false_iff_ne.mpr n5, beq_eq_false_iff_ne.mpr n6, beq_eq_false_iff_ne.mpr n7, beq_eq_false_iff_ne.mpr n8, beq_eq_false_iff_ne.mpr n9, beq_eq_false_iff_ne.mpr n10, beq_eq_false_iff_ne.mpr n405]; rfl)
  unfold s_fillNext
  repeat' with_reducible apply f_ite
  all_goals first | rfl | simp only [f3, f4, f5, f6, f7, f8, f9, f10, f108, f110, f204, f205, f207, f209, f211, f307, f309, f311, f315, f403, f405, fw, c_fillBlocked, c_fillDataBlocked, c_fillDataGrant, c_fillGrant, c_fillReset, c_fillStop, c_fillStream, c_fillStreamsBlocked, c_fillStreamsGrant]
def v_streamError (κ : Nat → Nat → Int) (s a g : Int) : Int := (if (a % 2) = s then (if (a / 4) < (κ 400 ((2 * s) + ((a / 2) % 2)).toNat) then (if ((a / 2) % 2) = 1 then (if 1 = g then 0 else 5) else 0) else 5) else (if ((a / 2) % 2) = 1 then (if 0 = g then (if (a / 4) < (κ 360 ((16 * s) + (8 + ((a / 2) % 2))).toNat) then 0 else 4) else 5) else (if (a / 4) < (κ 360 ((16 * s) + (8 + ((a / 2) % 2))).toNat) then 0 else 4)))
set_option maxRecDepth 100000 in
theorem m_streamError (hF : mm_F G) (htr : L.stackTraces = false) (hx : kx B bx κ) (hV : kV κ) {s a g : Int} {a0 : Nat} (ea0 : a0 = B 3 s.toNat) (h1 : 0 ≤ s) (h2 : s ≤ 1) (h3 : 0 ≤ a) (h3a : a ≤ 4611686018427387903) (h5 : g = 0 ∨ g = 1) :
    mm_Met L G SX3_streamError [.ref a0, .long (iL a), .int (iI g)] (hk G B bx h0 κ) 0 0 (mRet (some (.int (iI (v_streamError κ s a g)))) (hk G B bx h0 κ)) mm_no := by
  refine mi_meth MX3_streamError 400 hF htr okX3_streamError (av := [aR a0, aL a, aI g]) (by decide +kernel) (Nat.le_of_ble_eq_true rfl) cmX3_streamError (fun θ hc => ?_)
  refine ⟨2, rfl, ?_⟩
  refine ⟨by omega, ?_⟩
  refine ⟨2, rfl, ?_⟩
  refine ⟨by omega, ?_⟩
  refine ⟨2, rfl, ?_⟩
  refine mi_nl [(4, aI ((a / 2) % 2)), (0, aR (a0)), (1, aL a), (3, aI g)] rfl ?_
  refine ⟨by omega, ?_⟩
  refine ⟨_, hk_o3 hx (show s.toNat < 2 from by omega) ea0, aI s, congrArg aI (Int.toNat_of_nonneg (by omega)), ?_⟩
  refine ⟨by omega, ?_⟩
  refine ⟨by omega, fun (e1 : ¬ ((a % 2) = s)) => ?_, fun (e1 : (a % 2) = s) => ?_⟩
  · refine ⟨by omega, fun _ => ?_, fun (e : ¬ ((0 : Int) = 0)) => (e (by decide)).elim⟩
    refine mi_nl [(5, aI 0), (4, aI ((a / 2) % 2)), (0, aR (a0)), (1, aL a), (3, aI g)] rfl ?_
    refine ⟨by omega, fun (e2 : ¬ (((a / 2) % 2) = 1)) => ?_, fun (e2 : ((a / 2) % 2) = 1) => ?_⟩
    · refine ⟨by omega, fun (e : ¬ ((0 : Int) = 0)) => (e (by decide)).elim, fun _ => ?_⟩
      refine ⟨4, rfl, ?_⟩
      refine ⟨by omega, ?_⟩
      refine ⟨_, hk_o3 hx (show s.toNat < 2 from by omega) ea0, aR (B 12 s.toNat), rfl, ?_⟩
      refine ⟨10, _, (κ 360 ((16 * s) + (8 + ((a / 2) % 2))).toNat), hk_g hx (show s.toNat < 2 from by omega) rfl, by omega, (kg_i (s := s) (i := (8 + ((a / 2) % 2))) (by omega) (by omega) (by omega)), ?_⟩
      have t3 := (show 0 ≤ κ 360 ((16 * s) + (8 + ((a / 2) % 2))).toNat ∧ κ 360 ((16 * s) + (8 + ((a / 2) % 2))).toNat ≤ 65536 from hV.g 360 ((16 * s) + (8 + ((a / 2) % 2))).toNat rfl)
      refine ⟨by omega, ?_⟩
      refine ⟨by omega, fun (e4 : (a / 4) < (κ 360 ((16 * s) + (8 + ((a / 2) % 2))).toNat)) => ?_, fun (e4 : ¬ ((a / 4) < (κ 360 ((16 * s) + (8 + ((a / 2) % 2))).toNat))) => ?_⟩
      · exact ⟨kRetI (by first | exact (if_neg e1).trans ((if_neg e2).trans (if_pos e4)) | (unfold v_streamError; rw [if_neg e1, if_neg e2, if_pos e4])), Nat.le_refl _, Nat.le_refl _⟩
      · exact ⟨kRetI (by first | exact (if_neg e1).trans ((if_neg e2).trans (if_neg e4)) | (unfold v_streamError; rw [if_neg e1, if_neg e2, if_neg e4])), Nat.le_refl _, Nat.le_refl _⟩
    · refine ⟨by omega, fun (e5 : 0 = g) => ?_, fun (e5 : ¬ (0 = g)) => ?_⟩
      · refine ⟨by omega, fun (e : ¬ ((0 : Int) = 0)) => (e (by decide)).elim, fun _ => ?_⟩
        refine ⟨4, rfl, ?_⟩
        refine ⟨by omega, ?_⟩
        refine ⟨_, hk_o3 hx (show s.toNat < 2 from by omega) ea0, aR (B 12 s.toNat), rfl, ?_⟩
        refine ⟨10, _, (κ 360 ((16 * s) + (8 + ((a / 2) % 2))).toNat), hk_g hx (show s.toNat < 2 from by omega) rfl, by omega, (kg_i (s := s) (i := (8 + ((a / 2) % 2))) (by omega) (by omega) (by omega)), ?_⟩
        have t6 := (show 0 ≤ κ 360 ((16 * s) + (8 + ((a / 2) % 2))).toNat ∧ κ 360 ((16 * s) + (8 + ((a / 2) % 2))).toNat ≤ 65536 from hV.g 360 ((16 * s) + (8 + ((a / 2) % 2))).toNat rfl)
        refine ⟨by omega, ?_⟩
        refine ⟨by omega, fun (e7 : (a / 4) < (κ 360 ((16 * s) + (8 + ((a / 2) % 2))).toNat)) => ?_, fun (e7 : ¬ ((a / 4) < (κ 360 ((16 * s) + (8 + ((a / 2) % 2))).toNat))) => ?_⟩
        · exact ⟨kRetI (by first | exact (if_neg e1).trans ((if_pos e2).trans ((if_pos e5).trans (if_pos e7))) | (unfold v_streamError; rw [if_neg e1, if_pos e2, if_pos e5, if_pos e7])), Nat.le_refl _, Nat.le_refl _⟩
        · exact ⟨kRetI (by first | exact (if_neg e1).trans ((if_pos e2).trans ((if_pos e5).trans (if_neg e7))) | (unfold v_streamError; rw [if_neg e1, if_pos e2, if_pos e5, if_neg e7])), Nat.le_refl _, Nat.le_refl _⟩
      · exact ⟨kRetI (by first | exact (if_neg e1).trans ((if_pos e2).trans (if_neg e5)) | (unfold v_streamError; rw [if_neg e1, if_pos e2, if_neg e5])), Nat.le_refl _, Nat.le_refl _⟩
  · refine ⟨by omega, fun (e : (1 : Int) = 0) => absurd e (by decide), fun _ => ?_⟩
    refine mi_nl [(5, aI 1), (4, aI ((a / 2) % 2)), (0, aR (a0)), (1, aL a), (3, aI g)] rfl ?_
    refine ⟨4, rfl, ?_⟩
    refine ⟨by omega, ?_⟩
    refine ⟨_, hk_o3 hx (show s.toNat < 2 from by omega) ea0, aR (B 14 s.toNat), rfl, ?_⟩
    refine ⟨2, _, some (B 4 ((2 * s) + ((a / 2) % 2)).toNat), hk_ways hx (show s.toNat < 2 from by omega) rfl, by omega, ka_4 (s := s) (i := ((a / 2) % 2)) (by omega) (by omega) (by omega), ?_⟩
    refine ⟨_, hk_o4 hx (show ((2 * s) + ((a / 2) % 2)).toNat < 4 from by omega) rfl, aI (κ 400 ((2 * s) + ((a / 2) % 2)).toNat), rfl, ?_⟩
    have t8 := (show 0 ≤ κ 400 ((2 * s) + ((a / 2) % 2)).toNat ∧ κ 400 ((2 * s) + ((a / 2) % 2)).toNat ≤ 64 from hV.g 400 ((2 * s) + ((a / 2) % 2)).toNat rfl)
    refine ⟨by omega, ?_⟩
    refine ⟨by omega, fun (e9 : (a / 4) < (κ 400 ((2 * s) + ((a / 2) % 2)).toNat)) => ?_, fun (e9 : ¬ ((a / 4) < (κ 400 ((2 * s) + ((a / 2) % 2)).toNat))) => ?_⟩
    · refine ⟨by omega, fun (e10 : ¬ (((a / 2) % 2) = 1)) => ?_, fun (e10 : ((a / 2) % 2) = 1) => ?_⟩
      · refine ⟨by omega, fun _ => ?_, fun (e : (1 : Int) = 0) => absurd e (by decide)⟩
        exact ⟨kRetI (by first | exact (if_pos e1).trans ((if_pos e9).trans (if_neg e10)) | (unfold v_streamError; rw [if_pos e1, if_pos e9, if_neg e10])), Nat.le_refl _, Nat.le_refl _⟩
      · refine ⟨by omega, fun (e11 : 1 = g) => ?_, fun (e11 : ¬ (1 = g)) => ?_⟩
        · refine ⟨by omega, fun _ => ?_, fun (e : (1 : Int) = 0) => absurd e (by decide)⟩
          exact ⟨kRetI (by first | exact (if_pos e1).trans ((if_pos e9).trans ((if_pos e10).trans (if_pos e11))) | (unfold v_streamError; rw [if_pos e1, if_pos e9, if_pos e10, if_pos e11])), Nat.le_refl _, Nat.le_refl _⟩
        · exact ⟨kRetI (by first | exact (if_pos e1).trans ((if_pos e9).trans ((if_pos e10).trans (if_neg e11))) | (unfold v_streamError; rw [if_pos e1, if_pos e9, if_pos e10, if_neg e11])), Nat.le_refl _, Nat.le_refl _⟩
    · exact ⟨kRetI (by first | exact (if_pos e1).trans (if_neg e9) | (unfold v_streamError; rw [if_pos e1, if_neg e9])), Nat.le_refl _, Nat.le_refl _⟩
set_option maxRecDepth 100000 in
theorem v_streamError_cg {κ κ' : Nat → Nat → Int} {s a g : Int} (h : ∀ f, [360, 400].elem f = true → ∀ k, κ f k = κ' f k) : v_streamError κ s a g = v_streamError κ' s a g := by
  have q360 := h 360 rfl
  have q400 := h 400 rfl
  unfold v_streamError
  simp only [q360, q400]
set_option maxRecDepth 100000 in
theorem v_streamError_b (κ : Nat → Nat → Int) (s a g : Int) : 0 ≤ v_streamError κ s a g ∧ v_streamError κ s a g ≤ 5 := by
  unfold v_streamError
  repeat' with_reducible apply b_ite
  all_goals decide
def v_bytesError (κ : Nat → Nat → Int) (s i e g : Int) : Int := (if (κ 190 (mj s i)) = 1 then (if (κ 105 (mj s i)) < 0 then (if g = 0 then (if (κ 107 (mj s i)) < e then 3 else (if e ≤ (κ 104 (mj s i)) then 0 else (if ((κ 312 s.toNat) + (e - (κ 104 (mj s i)))) ≤ (κ 314 s.toNat) then 0 else 3))) else (if (κ 104 (mj s i)) ≤ e then (if (κ 107 (mj s i)) < e then 3 else (if e ≤ (κ 104 (mj s i)) then 0 else (if ((κ 312 s.toNat) + (e - (κ 104 (mj s i)))) ≤ (κ 314 s.toNat) then 0 else 3))) else 6)) else (if (κ 105 (mj s i)) < e then 6 else (if g = 0 then (if (κ 107 (mj s i)) < e then 3 else (if e ≤ (κ 104 (mj s i)) then 0 else (if ((κ 312 s.toNat) + (e - (κ 104 (mj s i)))) ≤ (κ 314 s.toNat) then 0 else 3))) else (if e = (κ 105 (mj s i)) then (if (κ 104 (mj s i)) ≤ e then (if (κ 107 (mj s i)) < e then 3 else (if e ≤ (κ 104 (mj s i)) then 0 else (if ((κ 312 s.toNat) + (e - (κ 104 (mj s i)))) ≤ (κ 314 s.toNat) then 0 else 3))) else 6) else 6)))) else (if g = 0 then (if (κ 360 ((16 * s) + (v_grantFor s i)).toNat) < e then 3 else (if e ≤ 0 then 0 else (if ((κ 312 s.toNat) + (e - 0)) ≤ (κ 314 s.toNat) then 0 else 3))) else (if 0 ≤ e then (if (κ 360 ((16 * s) + (v_grantFor s i)).toNat) < e then 3 else (if e ≤ 0 then 0 else (if ((κ 312 s.toNat) + (e - 0)) ≤ (κ 314 s.toNat) then 0 else 3))) else 6)))
set_option maxRecDepth 100000 in
theorem m_bytesError (hF : mm_F G) (htr : L.stackTraces = false) (hx : kx B bx κ) (hV : kV κ) {s i e g : Int} {a0 : Nat} (ea0 : a0 = B 3 s.toNat) (h1 : 0 ≤ s) (h2 : s ≤ 1) (h3 : 0 ≤ i) (h4 : i < 256) (h5 : 0 ≤ e) (h5a : e ≤ 4611686018427390000) (h6 : g = 0 ∨ g = 1) :
    mm_Met L G SX3_bytesError [.ref a0, .int (iI i), .long (iL e), .int (iI g)] (hk G B bx h0 κ) 0 0 (mRet (some (.int (iI (v_bytesError κ s i e g)))) (hk G B bx h0 κ)) mm_no := by
  refine mi_meth MX3_bytesError 400 hF htr okX3_bytesError (av := [aR a0, aI i, aL e, aI g]) (by decide +kernel) (Nat.le_of_ble_eq_true rfl) cmX3_bytesError (fun θ hc => ?_)
  refine ⟨_, hk_o3 hx (show s.toNat < 2 from by omega) ea0, aR (B 16 s.toNat), rfl, ?_⟩
  refine (Decidable.em ((κ 190 (mj s i)) = 1)).elim (fun e1 => ?_) (fun e1 => ?_)
  · refine ⟨256, _, some (B 1 (mj s i)), hk_rs hx (show s.toNat < 2 from by omega) rfl, by omega, ka_y (f := 190) (t := 1) (s := s) (i := i) (by omega) (by omega) (by omega) (e1), ?_⟩
    refine ⟨_, hk_o1 hx (show κ 190 (mj s i) = 1 from e1) rfl, aI (κ 105 (mj s i)), rfl, ?_⟩
    have t2 := (show -1 ≤ κ 105 (mj s i) ∧ κ 105 (mj s i) ≤ 65536 from hV.g 105 (mj s i) rfl)
    refine mi_nl [(5, aR (B 1 (mj s i))), (0, aR (a0)), (1, aI i), (2, aL e), (4, aI g)] rfl ?_
    refine ⟨_, hk_o1 hx (show κ 190 (mj s i) = 1 from e1) rfl, aI (κ 104 (mj s i)), rfl, ?_⟩
    have t3 := (show 0 ≤ κ 104 (mj s i) ∧ κ 104 (mj s i) ≤ 65536 from hV.g 104 (mj s i) rfl)
    refine mi_nl [(6, aI (κ 105 (mj s i))), (5, aR (B 1 (mj s i))), (0, aR (a0)), (1, aI i), (2, aL e), (4, aI g)] rfl ?_
    refine ⟨_, hk_o1 hx (show κ 190 (mj s i) = 1 from e1) rfl, aI (κ 107 (mj s i)), rfl, ?_⟩
    have t4 := (show 0 ≤ κ 107 (mj s i) ∧ κ 107 (mj s i) ≤ 65536 from hV.g 107 (mj s i) rfl)
    refine mi_nl [(7, aI (κ 104 (mj s i))), (6, aI (κ 105 (mj s i))), (5, aR (B 1 (mj s i))), (0, aR (a0)), (1, aI i), (2, aL e), (4, aI g)] rfl ?_
    refine ⟨by omega, fun (e5 : (κ 105 (mj s i)) < 0) => ?_, fun (e5 : ¬ ((κ 105 (mj s i)) < 0)) => ?_⟩
    · refine mi_nl [(8, aI (κ 107 (mj s i))), (7, aI (κ 104 (mj s i))), (6, aI (κ 105 (mj s i))), (5, aR (B 1 (mj s i))), (0, aR (a0)), (1, aI i), (2, aL e), (4, aI g)] rfl ?_
      refine ⟨by omega, fun (e6 : g = 0) => ?_, fun (e6 : ¬ (g = 0)) => ?_⟩
      · refine ⟨by omega, ?_⟩
        refine ⟨by omega, fun (e7 : (κ 107 (mj s i)) < e) => ?_, fun (e7 : ¬ ((κ 107 (mj s i)) < e)) => ?_⟩
        · exact ⟨kRetI (by first | exact (if_pos e1).trans ((if_pos e5).trans ((if_pos e6).trans (if_pos e7))) | (unfold v_bytesError; rw [if_pos e1, if_pos e5, if_pos e6, if_pos e7])), Nat.le_refl _, Nat.le_refl _⟩
        · refine ⟨by omega, ?_⟩
          refine ⟨by omega, fun (e8 : e ≤ (κ 104 (mj s i))) => ?_, fun (e8 : ¬ (e ≤ (κ 104 (mj s i)))) => ?_⟩
          · exact ⟨kRetI (by first | exact (if_pos e1).trans ((if_pos e5).trans ((if_pos e6).trans ((if_neg e7).trans (if_pos e8)))) | (unfold v_bytesError; rw [if_pos e1, if_pos e5, if_pos e6, if_neg e7, if_pos e8])), Nat.le_refl _, Nat.le_refl _⟩
          · refine ⟨_, hk_o3 hx (show s.toNat < 2 from by omega) ea0, aI (κ 312 s.toNat), rfl, ?_⟩
            have t9 := (show 0 ≤ κ 312 s.toNat ∧ κ 312 s.toNat ≤ 65536 from hV.g 312 s.toNat rfl)
            refine ⟨by omega, ?_⟩
            refine ⟨by omega, ?_⟩
            refine ⟨_, hk_o3 hx (show s.toNat < 2 from by omega) ea0, aI (κ 314 s.toNat), rfl, ?_⟩
            have t10 := (show 0 ≤ κ 314 s.toNat ∧ κ 314 s.toNat ≤ 65536 from hV.g 314 s.toNat rfl)
            refine ⟨by omega, ?_⟩
            refine ⟨by omega, fun (e11 : ((κ 312 s.toNat) + (e - (κ 104 (mj s i)))) ≤ (κ 314 s.toNat)) => ?_, fun (e11 : ¬ (((κ 312 s.toNat) + (e - (κ 104 (mj s i)))) ≤ (κ 314 s.toNat))) => ?_⟩
            · exact ⟨kRetI (by first | exact (if_pos e1).trans ((if_pos e5).trans ((if_pos e6).trans ((if_neg e7).trans ((if_neg e8).trans (if_pos e11))))) | (unfold v_bytesError; rw [if_pos e1, if_pos e5, if_pos e6, if_neg e7, if_neg e8, if_pos e11])), Nat.le_refl _, Nat.le_refl _⟩
            · exact ⟨kRetI (by first | exact (if_pos e1).trans ((if_pos e5).trans ((if_pos e6).trans ((if_neg e7).trans ((if_neg e8).trans (if_neg e11))))) | (unfold v_bytesError; rw [if_pos e1, if_pos e5, if_pos e6, if_neg e7, if_neg e8, if_neg e11])), Nat.le_refl _, Nat.le_refl _⟩
      · refine ⟨by omega, ?_⟩
        refine ⟨by omega, fun (e12 : (κ 104 (mj s i)) ≤ e) => ?_, fun (e12 : ¬ ((κ 104 (mj s i)) ≤ e)) => ?_⟩
        · refine ⟨by omega, ?_⟩
          refine ⟨by omega, fun (e13 : (κ 107 (mj s i)) < e) => ?_, fun (e13 : ¬ ((κ 107 (mj s i)) < e)) => ?_⟩
          · exact ⟨kRetI (by first | exact (if_pos e1).trans ((if_pos e5).trans ((if_neg e6).trans ((if_pos e12).trans (if_pos e13)))) | (unfold v_bytesError; rw [if_pos e1, if_pos e5, if_neg e6, if_pos e12, if_pos e13])), Nat.le_refl _, Nat.le_refl _⟩
          · refine ⟨by omega, ?_⟩
            refine ⟨by omega, fun (e14 : e ≤ (κ 104 (mj s i))) => ?_, fun (e14 : ¬ (e ≤ (κ 104 (mj s i)))) => ?_⟩
            · exact ⟨kRetI (by first | exact (if_pos e1).trans ((if_pos e5).trans ((if_neg e6).trans ((if_pos e12).trans ((if_neg e13).trans (if_pos e14))))) | (unfold v_bytesError; rw [if_pos e1, if_pos e5, if_neg e6, if_pos e12, if_neg e13, if_pos e14])), Nat.le_refl _, Nat.le_refl _⟩
            · refine ⟨_, hk_o3 hx (show s.toNat < 2 from by omega) ea0, aI (κ 312 s.toNat), rfl, ?_⟩
              have t15 := (show 0 ≤ κ 312 s.toNat ∧ κ 312 s.toNat ≤ 65536 from hV.g 312 s.toNat rfl)
              refine ⟨by omega, ?_⟩
              refine ⟨by omega, ?_⟩
              refine ⟨_, hk_o3 hx (show s.toNat < 2 from by omega) ea0, aI (κ 314 s.toNat), rfl, ?_⟩
              have t16 := (show 0 ≤ κ 314 s.toNat ∧ κ 314 s.toNat ≤ 65536 from hV.g 314 s.toNat rfl)
              refine ⟨by omega, ?_⟩
              refine ⟨by omega, fun (e17 : ((κ 312 s.toNat) + (e - (κ 104 (mj s i)))) ≤ (κ 314 s.toNat)) => ?_, fun (e17 : ¬ (((κ 312 s.toNat) + (e - (κ 104 (mj s i)))) ≤ (κ 314 s.toNat))) => ?_⟩
              · exact ⟨kRetI (by first | exact (if_pos e1).trans ((if_pos e5).trans ((if_neg e6).trans ((if_pos e12).trans ((if_neg e13).trans ((if_neg e14).trans (if_pos e17)))))) | (unfold v_bytesError; rw [if_pos e1, if_pos e5, if_neg e6, if_pos e12, if_neg e13, if_neg e14, if_pos e17])), Nat.le_refl _, Nat.le_refl _⟩
              · exact ⟨kRetI (by first | exact (if_pos e1).trans ((if_pos e5).trans ((if_neg e6).trans ((if_pos e12).trans ((if_neg e13).trans ((if_neg e14).trans (if_neg e17)))))) | (unfold v_bytesError; rw [if_pos e1, if_pos e5, if_neg e6, if_pos e12, if_neg e13, if_neg e14, if_neg e17])), Nat.le_refl _, Nat.le_refl _⟩
        · exact ⟨kRetI (by first | exact (if_pos e1).trans ((if_pos e5).trans ((if_neg e6).trans (if_neg e12))) | (unfold v_bytesError; rw [if_pos e1, if_pos e5, if_neg e6, if_neg e12])), Nat.le_refl _, Nat.le_refl _⟩
    · refine mi_nl [(8, aI (κ 107 (mj s i))), (7, aI (κ 104 (mj s i))), (6, aI (κ 105 (mj s i))), (5, aR (B 1 (mj s i))), (0, aR (a0)), (1, aI i), (2, aL e), (4, aI g)] rfl ?_
      refine ⟨by omega, ?_⟩
      refine ⟨by omega, fun (e18 : (κ 105 (mj s i)) < e) => ?_, fun (e18 : ¬ ((κ 105 (mj s i)) < e)) => ?_⟩
      · exact ⟨kRetI (by first | exact (if_pos e1).trans ((if_neg e5).trans (if_pos e18)) | (unfold v_bytesError; rw [if_pos e1, if_neg e5, if_pos e18])), Nat.le_refl _, Nat.le_refl _⟩
      · refine ⟨by omega, fun (e19 : g = 0) => ?_, fun (e19 : ¬ (g = 0)) => ?_⟩
        · refine ⟨by omega, fun _ => ?_, fun (e : ¬ (g = 0)) => absurd e (by omega)⟩
          refine ⟨by omega, ?_⟩
          refine ⟨by omega, fun (e20 : (κ 107 (mj s i)) < e) => ?_, fun (e20 : ¬ ((κ 107 (mj s i)) < e)) => ?_⟩
          · exact ⟨kRetI (by first | exact (if_pos e1).trans ((if_neg e5).trans ((if_neg e18).trans ((if_pos e19).trans (if_pos e20)))) | (unfold v_bytesError; rw [if_pos e1, if_neg e5, if_neg e18, if_pos e19, if_pos e20])), Nat.le_refl _, Nat.le_refl _⟩
          · refine ⟨by omega, ?_⟩
            refine ⟨by omega, fun (e21 : e ≤ (κ 104 (mj s i))) => ?_, fun (e21 : ¬ (e ≤ (κ 104 (mj s i)))) => ?_⟩
            · exact ⟨kRetI (by first | exact (if_pos e1).trans ((if_neg e5).trans ((if_neg e18).trans ((if_pos e19).trans ((if_neg e20).trans (if_pos e21))))) | (unfold v_bytesError; rw [if_pos e1, if_neg e5, if_neg e18, if_pos e19, if_neg e20, if_pos e21])), Nat.le_refl _, Nat.le_refl _⟩
            · refine ⟨_, hk_o3 hx (show s.toNat < 2 from by omega) ea0, aI (κ 312 s.toNat), rfl, ?_⟩
              have t22 := (show 0 ≤ κ 312 s.toNat ∧ κ 312 s.toNat ≤ 65536 from hV.g 312 s.toNat rfl)
              refine ⟨by omega, ?_⟩
              refine ⟨by omega, ?_⟩
              refine ⟨_, hk_o3 hx (show s.toNat < 2 from by omega) ea0, aI (κ 314 s.toNat), rfl, ?_⟩
              have t23 := (show 0 ≤ κ 314 s.toNat ∧ κ 314 s.toNat ≤ 65536 from hV.g 314 s.toNat rfl)
              refine ⟨by omega, ?_⟩
              refine ⟨by omega, fun (e24 : ((κ 312 s.toNat) + (e - (κ 104 (mj s i)))) ≤ (κ 314 s.toNat)) => ?_, fun (e24 : ¬ (((κ 312 s.toNat) + (e - (κ 104 (mj s i)))) ≤ (κ 314 s.toNat))) => ?_⟩
              · exact ⟨kRetI (by first | exact (if_pos e1).trans ((if_neg e5).trans ((if_neg e18).trans ((if_pos e19).trans ((if_neg e20).trans ((if_neg e21).trans (if_pos e24)))))) | (unfold v_bytesError; rw [if_pos e1, if_neg e5, if_neg e18, if_pos e19, if_neg e20, if_neg e21, if_pos e24])), Nat.le_refl _, Nat.le_refl _⟩
              · exact ⟨kRetI (by first | exact (if_pos e1).trans ((if_neg e5).trans ((if_neg e18).trans ((if_pos e19).trans ((if_neg e20).trans ((if_neg e21).trans (if_neg e24)))))) | (unfold v_bytesError; rw [if_pos e1, if_neg e5, if_neg e18, if_pos e19, if_neg e20, if_neg e21, if_neg e24])), Nat.le_refl _, Nat.le_refl _⟩
        · refine ⟨by omega, ?_⟩
          refine ⟨by omega, fun (e25 : ¬ (e = (κ 105 (mj s i)))) => ?_, fun (e25 : e = (κ 105 (mj s i))) => ?_⟩
          · exact ⟨kRetI (by first | exact (if_pos e1).trans ((if_neg e5).trans ((if_neg e18).trans ((if_neg e19).trans (if_neg e25)))) | (unfold v_bytesError; rw [if_pos e1, if_neg e5, if_neg e18, if_neg e19, if_neg e25])), Nat.le_refl _, Nat.le_refl _⟩
          · refine ⟨by omega, fun (e : g = 0) => absurd e (by omega), fun _ => ?_⟩
            refine ⟨by omega, ?_⟩
            refine ⟨by omega, fun (e26 : (κ 104 (mj s i)) ≤ e) => ?_, fun (e26 : ¬ ((κ 104 (mj s i)) ≤ e)) => ?_⟩
            · refine ⟨by omega, ?_⟩
              refine ⟨by omega, fun (e27 : (κ 107 (mj s i)) < e) => ?_, fun (e27 : ¬ ((κ 107 (mj s i)) < e)) => ?_⟩
              · exact ⟨kRetI (by first | exact (if_pos e1).trans ((if_neg e5).trans ((if_neg e18).trans ((if_neg e19).trans ((if_pos e25).trans ((if_pos e26).trans (if_pos e27)))))) | (unfold v_bytesError; rw [if_pos e1, if_neg e5, if_neg e18, if_neg e19, if_pos e25, if_pos e26, if_pos e27])), Nat.le_refl _, Nat.le_refl _⟩
              · refine ⟨by omega, ?_⟩
                refine ⟨by omega, fun (e28 : e ≤ (κ 104 (mj s i))) => ?_, fun (e28 : ¬ (e ≤ (κ 104 (mj s i)))) => ?_⟩
                · exact ⟨kRetI (by first | exact (if_pos e1).trans ((if_neg e5).trans ((if_neg e18).trans ((if_neg e19).trans ((if_pos e25).trans ((if_pos e26).trans ((if_neg e27).trans (if_pos e28))))))) | (unfold v_bytesError; rw [if_pos e1, if_neg e5, if_neg e18, if_neg e19, if_pos e25, if_pos e26, if_neg e27, if_pos e28])), Nat.le_refl _, Nat.le_refl _⟩
                · refine ⟨_, hk_o3 hx (show s.toNat < 2 from by omega) ea0, aI (κ 312 s.toNat), rfl, ?_⟩
                  have t29 := (show 0 ≤ κ 312 s.toNat ∧ κ 312 s.toNat ≤ 65536 from hV.g 312 s.toNat rfl)
                  refine ⟨by omega, ?_⟩
                  refine ⟨by omega, ?_⟩
                  refine ⟨_, hk_o3 hx (show s.toNat < 2 from by omega) ea0, aI (κ 314 s.toNat), rfl, ?_⟩
                  have t30 := (show 0 ≤ κ 314 s.toNat ∧ κ 314 s.toNat ≤ 65536 from hV.g 314 s.toNat rfl)
                  refine ⟨by omega, ?_⟩
                  refine ⟨by omega, fun (e31 : ((κ 312 s.toNat) + (e - (κ 104 (mj s i)))) ≤ (κ 314 s.toNat)) => ?_, fun (e31 : ¬ (((κ 312 s.toNat) + (e - (κ 104 (mj s i)))) ≤ (κ 314 s.toNat))) => ?_⟩
                  · exact ⟨kRetI (by first | exact (if_pos e1).trans ((if_neg e5).trans ((if_neg e18).trans ((if_neg e19).trans ((if_pos e25).trans ((if_pos e26).trans ((if_neg e27).trans ((if_neg e28).trans (if_pos e31)))))))) | (unfold v_bytesError; rw [if_pos e1, if_neg e5, if_neg e18, if_neg e19, if_pos e25, if_pos e26, if_neg e27, if_neg e28, if_pos e31])), Nat.le_refl _, Nat.le_refl _⟩
                  · exact ⟨kRetI (by first | exact (if_pos e1).trans ((if_neg e5).trans ((if_neg e18).trans ((if_neg e19).trans ((if_pos e25).trans ((if_pos e26).trans ((if_neg e27).trans ((if_neg e28).trans (if_neg e31)))))))) | (unfold v_bytesError; rw [if_pos e1, if_neg e5, if_neg e18, if_neg e19, if_pos e25, if_pos e26, if_neg e27, if_neg e28, if_neg e31])), Nat.le_refl _, Nat.le_refl _⟩
            · exact ⟨kRetI (by first | exact (if_pos e1).trans ((if_neg e5).trans ((if_neg e18).trans ((if_neg e19).trans ((if_pos e25).trans (if_neg e26))))) | (unfold v_bytesError; rw [if_pos e1, if_neg e5, if_neg e18, if_neg e19, if_pos e25, if_neg e26])), Nat.le_refl _, Nat.le_refl _⟩
  · refine ⟨256, _, none, hk_rs hx (show s.toNat < 2 from by omega) rfl, by omega, ka_n (f := 190) (t := 1) (s := s) (i := i) (by omega) (by omega) (by omega) e1, ?_⟩
    refine ⟨_, hk_o3 hx (show s.toNat < 2 from by omega) ea0, aR (B 12 s.toNat), rfl, ?_⟩
    refine mi_nl [(7, aI 0), (6, aI (-1)), (5, aN), (0, aR (a0)), (1, aI i), (2, aL e), (4, aI g)] rfl ?_
    refine ⟨_, hk_o3 hx (show s.toNat < 2 from by omega) ea0, aI s, congrArg aI (Int.toNat_of_nonneg (by omega)), ?_⟩
    refine ⟨_, _, _, _, (m_grantFor hF htr hx hV (g := s) (i := i) (by omega) (by omega) (by omega) (by omega)), Nat.le_refl _, Nat.le_refl _, mki_ (r := some (aI (v_grantFor s i))) ?_, fun _ _ q => q.elim⟩
    have t32 := v_grantFor_b s i
    refine ⟨10, _, (κ 360 ((16 * s) + (v_grantFor s i)).toNat), hk_g hx (show s.toNat < 2 from by omega) rfl, by omega, (kg_i (s := s) (i := (v_grantFor s i)) (by omega) (by omega) (by omega)), ?_⟩
    have t33 := (show 0 ≤ κ 360 ((16 * s) + (v_grantFor s i)).toNat ∧ κ 360 ((16 * s) + (v_grantFor s i)).toNat ≤ 65536 from hV.g 360 ((16 * s) + (v_grantFor s i)).toNat rfl)
    refine ⟨by omega, fun _ => ?_, fun (e : ¬ ((-1 : Int) < 0)) => (e (by decide)).elim⟩
    refine mi_nl [(8, aI (κ 360 ((16 * s) + (v_grantFor s i)).toNat)), (7, aI 0), (6, aI (-1)), (5, aN), (0, aR (a0)), (1, aI i), (2, aL e), (4, aI g)] rfl ?_
    refine ⟨by omega, fun (e34 : g = 0) => ?_, fun (e34 : ¬ (g = 0)) => ?_⟩
    · refine ⟨by omega, ?_⟩
      refine ⟨by omega, fun (e35 : (κ 360 ((16 * s) + (v_grantFor s i)).toNat) < e) => ?_, fun (e35 : ¬ ((κ 360 ((16 * s) + (v_grantFor s i)).toNat) < e)) => ?_⟩
      · exact ⟨kRetI (by first | exact (if_neg e1).trans ((if_pos e34).trans (if_pos e35)) | (unfold v_bytesError; rw [if_neg e1, if_pos e34, if_pos e35])), Nat.le_refl _, Nat.le_refl _⟩
      · refine ⟨by omega, ?_⟩
        refine ⟨by omega, fun (e36 : e ≤ 0) => ?_, fun (e36 : ¬ (e ≤ 0)) => ?_⟩
        · exact ⟨kRetI (by first | exact (if_neg e1).trans ((if_pos e34).trans ((if_neg e35).trans (if_pos e36))) | (unfold v_bytesError; rw [if_neg e1, if_pos e34, if_neg e35, if_pos e36])), Nat.le_refl _, Nat.le_refl _⟩
        · refine ⟨_, hk_o3 hx (show s.toNat < 2 from by omega) ea0, aI (κ 312 s.toNat), rfl, ?_⟩
          have t37 := (show 0 ≤ κ 312 s.toNat ∧ κ 312 s.toNat ≤ 65536 from hV.g 312 s.toNat rfl)
          refine ⟨by omega, ?_⟩
          refine ⟨by omega, ?_⟩
          refine ⟨_, hk_o3 hx (show s.toNat < 2 from by omega) ea0, aI (κ 314 s.toNat), rfl, ?_⟩
          have t38 := (show 0 ≤ κ 314 s.toNat ∧ κ 314 s.toNat ≤ 65536 from hV.g 314 s.toNat rfl)
          refine ⟨by omega, ?_⟩
          refine ⟨by omega, fun (e39 : ((κ 312 s.toNat) + (e - 0)) ≤ (κ 314 s.toNat)) => ?_, fun (e39 : ¬ (((κ 312 s.toNat) + (e - 0)) ≤ (κ 314 s.toNat))) => ?_⟩
          · exact ⟨kRetI (by first | exact (if_neg e1).trans ((if_pos e34).trans ((if_neg e35).trans ((if_neg e36).trans (if_pos e39)))) | (unfold v_bytesError; rw [if_neg e1, if_pos e34, if_neg e35, if_neg e36, if_pos e39])), Nat.le_refl _, Nat.le_refl _⟩
          · exact ⟨kRetI (by first | exact (if_neg e1).trans ((if_pos e34).trans ((if_neg e35).trans ((if_neg e36).trans (if_neg e39)))) | (unfold v_bytesError; rw [if_neg e1, if_pos e34, if_neg e35, if_neg e36, if_neg e39])), Nat.le_refl _, Nat.le_refl _⟩
    · refine ⟨by omega, ?_⟩
      refine ⟨by omega, fun (e40 : 0 ≤ e) => ?_, fun (e40 : ¬ (0 ≤ e)) => ?_⟩
      · refine ⟨by omega, ?_⟩
        refine ⟨by omega, fun (e41 : (κ 360 ((16 * s) + (v_grantFor s i)).toNat) < e) => ?_, fun (e41 : ¬ ((κ 360 ((16 * s) + (v_grantFor s i)).toNat) < e)) => ?_⟩
        · exact ⟨kRetI (by first | exact (if_neg e1).trans ((if_neg e34).trans ((if_pos e40).trans (if_pos e41))) | (unfold v_bytesError; rw [if_neg e1, if_neg e34, if_pos e40, if_pos e41])), Nat.le_refl _, Nat.le_refl _⟩
        · refine ⟨by omega, ?_⟩
          refine ⟨by omega, fun (e42 : e ≤ 0) => ?_, fun (e42 : ¬ (e ≤ 0)) => ?_⟩
          · exact ⟨kRetI (by first | exact (if_neg e1).trans ((if_neg e34).trans ((if_pos e40).trans ((if_neg e41).trans (if_pos e42)))) | (unfold v_bytesError; rw [if_neg e1, if_neg e34, if_pos e40, if_neg e41, if_pos e42])), Nat.le_refl _, Nat.le_refl _⟩
          · refine ⟨_, hk_o3 hx (show s.toNat < 2 from by omega) ea0, aI (κ 312 s.toNat), rfl, ?_⟩
            have t43 := (show 0 ≤ κ 312 s.toNat ∧ κ 312 s.toNat ≤ 65536 from hV.g 312 s.toNat rfl)
            refine ⟨by omega, ?_⟩
            refine ⟨by omega, ?_⟩
            refine ⟨_, hk_o3 hx (show s.toNat < 2 from by omega) ea0, aI (κ 314 s.toNat), rfl, ?_⟩
            have t44 := (show 0 ≤ κ 314 s.toNat ∧ κ 314 s.toNat ≤ 65536 from hV.g 314 s.toNat rfl)
            refine ⟨by omega, ?_⟩
            refine ⟨by omega, fun (e45 : ((κ 312 s.toNat) + (e - 0)) ≤ (κ 314 s.toNat)) => ?_, fun (e45 : ¬ (((κ 312 s.toNat) + (e - 0)) ≤ (κ 314 s.toNat))) => ?_⟩
            · exact ⟨kRetI (by first | exact (if_neg e1).trans ((if_neg e34).trans ((if_pos e40).trans ((if_neg e41).trans ((if_neg e42).trans (if_pos e45))))) | (unfold v_bytesError; rw [if_neg e1, if_neg e34, if_pos e40, if_neg e41, if_neg e42, if_pos e45])), Nat.le_refl _, Nat.le_refl _⟩
            · exact ⟨kRetI (by first | exact (if_neg e1).trans ((if_neg e34).trans ((if_pos e40).trans ((if_neg e41).trans ((if_neg e42).trans (if_neg e45))))) | (unfold v_bytesError; rw [if_neg e1, if_neg e34, if_pos e40, if_neg e41, if_neg e42, if_neg e45])), Nat.le_refl _, Nat.le_refl _⟩
      · exact ⟨kRetI (by first | exact (if_neg e1).trans ((if_neg e34).trans (if_neg e40)) | (unfold v_bytesError; rw [if_neg e1, if_neg e34, if_neg e40])), Nat.le_refl _, Nat.le_refl _⟩
set_option maxRecDepth 100000 in
theorem v_bytesError_cg {κ κ' : Nat → Nat → Int} {s i e g : Int} (h : ∀ f, [104, 105, 107, 190, 312, 314, 360].elem f = true → ∀ k, κ f k = κ' f k) : v_bytesError κ s i e g = v_bytesError κ' s i e g := by
  have q104 := h 104 rfl
  have q105 := h 105 rfl
  have q107 := h 107 rfl
  have q190 := h 190 rfl
  have q312 := h 312 rfl
  have q314 := h 314 rfl
  have q360 := h 360 rfl
  unfold v_bytesError
  simp only [q104, q105, q107, q190, q312, q314, q360]
set_option maxRecDepth 100000 in
theorem v_bytesError_b (κ : Nat → Nat → Int) (s i e g : Int) : 0 ≤ v_bytesError κ s i e g ∧ v_bytesError κ s i e g ≤ 6 := by
  unfold v_bytesError
  repeat' with_reducible apply b_ite
  all_goals decide
def v_kTell (κ : Nat → Nat → Int) (s w : Int) : Int := (if w = 0 then (κ 309 s.toNat) else (if w = 1 then (κ 310 s.toNat) else (if w = 2 then (κ 312 s.toNat) else (if w = 3 then (κ 313 s.toNat) else (if w = 4 then (κ 314 s.toNat) else (if w = 5 then (κ 400 ((2 * s) + 0).toNat) else (if w = 6 then (κ 400 ((2 * s) + 1).toNat) else (if w = 7 then (κ 401 ((2 * s) + 0).toNat) else (if w = 8 then (κ 401 ((2 * s) + 1).toNat) else (if w = 9 then (κ 404 ((2 * s) + 0).toNat) else (if w = 10 then (κ 404 ((2 * s) + 1).toNat) else (if w = 11 then (κ 360 ((16 * s) + 8).toNat) else (if w = 12 then (κ 360 ((16 * s) + 9).toNat) else (κ 308 s.toNat))))))))))))))
set_option maxRecDepth 100000 in
theorem m_kTell (hF : mm_F G) (htr : L.stackTraces = false) (hx : kx B bx κ) (hV : kV κ) {s w : Int} {a0 : Nat} (ea0 : a0 = B 3 s.toNat) (h1 : 0 ≤ s) (h2 : s ≤ 1) (h5 : 0 ≤ w) (h6 : w ≤ 13) :
    mm_Met L G SX3_tell [.ref a0, .int (iI w)] (hk G B bx h0 κ) 0 0 (mRet (some (.long (iL (v_kTell κ s w)))) (hk G B bx h0 κ)) mm_no := by
  refine mi_meth MX3_tell 400 hF htr okX3_tell (av := [aR a0, aI w]) (by decide +kernel) (Nat.le_of_ble_eq_true rfl) cmX3_tell (fun θ hc => ?_)
  refine ⟨by omega, ⟨fun (e1 : w = 0) => ?_, fun (e2 : w = 1) => ?_, fun (e3 : w = 2) => ?_, fun (e4 : w = 3) => ?_, fun (e5 : w = 4) => ?_, fun (e6 : w = 5) => ?_, fun (e7 : w = 6) => ?_, fun (e8 : w = 7) => ?_, fun (e9 : w = 8) => ?_, fun (e10 : w = 9) => ?_, fun (e11 : w = 10) => ?_, fun (e12 : w = 11) => ?_, fun (e13 : w = 12) => ?_, trivial⟩, fun (e14 : w < 0 ∨ 12 < w) => ?_⟩
  · refine ⟨_, hk_o3 hx (show s.toNat < 2 from by omega) ea0, aI (κ 309 s.toNat), rfl, ?_⟩
    have t15 := (show 0 ≤ κ 309 s.toNat ∧ κ 309 s.toNat ≤ 65536 from hV.g 309 s.toNat rfl)
    refine ⟨by omega, ?_⟩
    exact ⟨kRetL (by first | exact if_pos e1 | (unfold v_kTell; rw [if_pos e1])), Nat.le_refl _, Nat.le_refl _⟩
  · have e1n : ¬ (w = 0) := by omega
    refine ⟨_, hk_o3 hx (show s.toNat < 2 from by omega) ea0, aL (κ 310 s.toNat), rfl, ?_⟩
    have t16 := (show 0 ≤ κ 310 s.toNat ∧ κ 310 s.toNat ≤ 4611686018427387903 from hV.g 310 s.toNat rfl)
    exact ⟨kRetL (by first | exact (if_neg e1n).trans (if_pos e2) | (unfold v_kTell; rw [if_neg e1n, if_pos e2])), Nat.le_refl _, Nat.le_refl _⟩
  · have e1n : ¬ (w = 0) := by omega
    have e2n : ¬ (w = 1) := by omega
    refine ⟨_, hk_o3 hx (show s.toNat < 2 from by omega) ea0, aI (κ 312 s.toNat), rfl, ?_⟩
    have t17 := (show 0 ≤ κ 312 s.toNat ∧ κ 312 s.toNat ≤ 65536 from hV.g 312 s.toNat rfl)
    refine ⟨by omega, ?_⟩
    exact ⟨kRetL (by first | exact (if_neg e1n).trans ((if_neg e2n).trans (if_pos e3)) | (unfold v_kTell; rw [if_neg e1n, if_neg e2n, if_pos e3])), Nat.le_refl _, Nat.le_refl _⟩
  · have e1n : ¬ (w = 0) := by omega
    have e2n : ¬ (w = 1) := by omega
    have e3n : ¬ (w = 2) := by omega
    refine ⟨_, hk_o3 hx (show s.toNat < 2 from by omega) ea0, aI (κ 313 s.toNat), rfl, ?_⟩
    have t18 := (show 0 ≤ κ 313 s.toNat ∧ κ 313 s.toNat ≤ 16777216 from hV.g 313 s.toNat rfl)
    refine ⟨by omega, ?_⟩
    exact ⟨kRetL (by first | exact (if_neg e1n).trans ((if_neg e2n).trans ((if_neg e3n).trans (if_pos e4))) | (unfold v_kTell; rw [if_neg e1n, if_neg e2n, if_neg e3n, if_pos e4])), Nat.le_refl _, Nat.le_refl _⟩
  · have e1n : ¬ (w = 0) := by omega
    have e2n : ¬ (w = 1) := by omega
    have e3n : ¬ (w = 2) := by omega
    have e4n : ¬ (w = 3) := by omega
    refine ⟨_, hk_o3 hx (show s.toNat < 2 from by omega) ea0, aI (κ 314 s.toNat), rfl, ?_⟩
    have t19 := (show 0 ≤ κ 314 s.toNat ∧ κ 314 s.toNat ≤ 65536 from hV.g 314 s.toNat rfl)
    refine ⟨by omega, ?_⟩
    exact ⟨kRetL (by first | exact (if_neg e1n).trans ((if_neg e2n).trans ((if_neg e3n).trans ((if_neg e4n).trans (if_pos e5)))) | (unfold v_kTell; rw [if_neg e1n, if_neg e2n, if_neg e3n, if_neg e4n, if_pos e5])), Nat.le_refl _, Nat.le_refl _⟩
  · have e1n : ¬ (w = 0) := by omega
    have e2n : ¬ (w = 1) := by omega
    have e3n : ¬ (w = 2) := by omega
    have e4n : ¬ (w = 3) := by omega
    have e5n : ¬ (w = 4) := by omega
    refine ⟨_, hk_o3 hx (show s.toNat < 2 from by omega) ea0, aR (B 14 s.toNat), rfl, ?_⟩
    refine ⟨2, _, some (B 4 ((2 * s) + 0).toNat), hk_ways hx (show s.toNat < 2 from by omega) rfl, by omega, ka_4 (s := s) (i := 0) (by omega) (by omega) (by omega), ?_⟩
    refine ⟨_, hk_o4 hx (show ((2 * s) + 0).toNat < 4 from by omega) rfl, aI (κ 400 ((2 * s) + 0).toNat), rfl, ?_⟩
    have t20 := (show 0 ≤ κ 400 ((2 * s) + 0).toNat ∧ κ 400 ((2 * s) + 0).toNat ≤ 64 from hV.g 400 ((2 * s) + 0).toNat rfl)
    refine ⟨by omega, ?_⟩
    exact ⟨kRetL (by first | exact (if_neg e1n).trans ((if_neg e2n).trans ((if_neg e3n).trans ((if_neg e4n).trans ((if_neg e5n).trans (if_pos e6))))) | (unfold v_kTell; rw [if_neg e1n, if_neg e2n, if_neg e3n, if_neg e4n, if_neg e5n, if_pos e6])), Nat.le_refl _, Nat.le_refl _⟩
  · have e1n : ¬ (w = 0) := by omega
    have e2n : ¬ (w = 1) := by omega
    have e3n : ¬ (w = 2) := by omega
    have e4n : ¬ (w = 3) := by omega
    have e5n : ¬ (w = 4) := by omega
    have e6n : ¬ (w = 5) := by omega
    refine ⟨_, hk_o3 hx (show s.toNat < 2 from by omega) ea0, aR (B 14 s.toNat), rfl, ?_⟩
    refine ⟨2, _, some (B 4 ((2 * s) + 1).toNat), hk_ways hx (show s.toNat < 2 from by omega) rfl, by omega, ka_4 (s := s) (i := 1) (by omega) (by omega) (by omega), ?_⟩
    refine ⟨_, hk_o4 hx (show ((2 * s) + 1).toNat < 4 from by omega) rfl, aI (κ 400 ((2 * s) + 1).toNat), rfl, ?_⟩
    have t21 := (show 0 ≤ κ 400 ((2 * s) + 1).toNat ∧ κ 400 ((2 * s) + 1).toNat ≤ 64 from hV.g 400 ((2 * s) + 1).toNat rfl)
    refine ⟨by omega, ?_⟩
    exact ⟨kRetL (by first | exact (if_neg e1n).trans ((if_neg e2n).trans ((if_neg e3n).trans ((if_neg e4n).trans ((if_neg e5n).trans ((if_neg e6n).trans (if_pos e7)))))) | (unfold v_kTell; rw [if_neg e1n, if_neg e2n, if_neg e3n, if_neg e4n, if_neg e5n, if_neg e6n, if_pos e7])), Nat.le_refl _, Nat.le_refl _⟩
  · have e1n : ¬ (w = 0) := by omega
    have e2n : ¬ (w = 1) := by omega
    have e3n : ¬ (w = 2) := by omega
    have e4n : ¬ (w = 3) := by omega
    have e5n : ¬ (w = 4) := by omega
    have e6n : ¬ (w = 5) := by omega
    have e7n : ¬ (w = 6) := by omega
    refine ⟨_, hk_o3 hx (show s.toNat < 2 from by omega) ea0, aR (B 14 s.toNat), rfl, ?_⟩
    refine ⟨2, _, some (B 4 ((2 * s) + 0).toNat), hk_ways hx (show s.toNat < 2 from by omega) rfl, by omega, ka_4 (s := s) (i := 0) (by omega) (by omega) (by omega), ?_⟩
    refine ⟨_, hk_o4 hx (show ((2 * s) + 0).toNat < 4 from by omega) rfl, aI (κ 401 ((2 * s) + 0).toNat), rfl, ?_⟩
    have t22 := (show 0 ≤ κ 401 ((2 * s) + 0).toNat ∧ κ 401 ((2 * s) + 0).toNat ≤ 64 from hV.g 401 ((2 * s) + 0).toNat rfl)
    refine ⟨by omega, ?_⟩
    exact ⟨kRetL (by first | exact (if_neg e1n).trans ((if_neg e2n).trans ((if_neg e3n).trans ((if_neg e4n).trans ((if_neg e5n).trans ((if_neg e6n).trans ((if_neg e7n).trans (if_pos e8))))))) | (unfold v_kTell; rw [if_neg e1n, if_neg e2n, if_neg e3n, if_neg e4n, if_neg e5n, if_neg e6n, if_neg e7n, if_pos e8])), Nat.le_refl _, Nat.le_refl _⟩
  · have e1n : ¬ (w = 0) := by omega
    have e2n : ¬ (w = 1) := by omega
    have e3n : ¬ (w = 2) := by omega
    have e4n : ¬ (w = 3) := by omega
    have e5n : ¬ (w = 4) := by omega
    have e6n : ¬ (w = 5) := by omega
    have e7n : ¬ (w = 6) := by omega
    have e8n : ¬ (w = 7) := by omega
    refine ⟨_, hk_o3 hx (show s.toNat < 2 from by omega) ea0, aR (B 14 s.toNat), rfl, ?_⟩
    refine ⟨2, _, some (B 4 ((2 * s) + 1).toNat), hk_ways hx (show s.toNat < 2 from by omega) rfl, by omega, ka_4 (s := s) (i := 1) (by omega) (by omega) (by omega), ?_⟩
    refine ⟨_, hk_o4 hx (show ((2 * s) + 1).toNat < 4 from by omega) rfl, aI (κ 401 ((2 * s) + 1).toNat), rfl, ?_⟩
    have t23 := (show 0 ≤ κ 401 ((2 * s) + 1).toNat ∧ κ 401 ((2 * s) + 1).toNat ≤ 64 from hV.g 401 ((2 * s) + 1).toNat rfl)
    refine ⟨by omega, ?_⟩
    exact ⟨kRetL (by first | exact (if_neg e1n).trans ((if_neg e2n).trans ((if_neg e3n).trans ((if_neg e4n).trans ((if_neg e5n).trans ((if_neg e6n).trans ((if_neg e7n).trans ((if_neg e8n).trans (if_pos e9)))))))) | (unfold v_kTell; rw [if_neg e1n, if_neg e2n, if_neg e3n, if_neg e4n, if_neg e5n, if_neg e6n, if_neg e7n, if_neg e8n, if_pos e9])), Nat.le_refl _, Nat.le_refl _⟩
  · have e1n : ¬ (w = 0) := by omega
    have e2n : ¬ (w = 1) := by omega
    have e3n : ¬ (w = 2) := by omega
    have e4n : ¬ (w = 3) := by omega
    have e5n : ¬ (w = 4) := by omega
    have e6n : ¬ (w = 5) := by omega
    have e7n : ¬ (w = 6) := by omega
    have e8n : ¬ (w = 7) := by omega
    have e9n : ¬ (w = 8) := by omega
    refine ⟨_, hk_o3 hx (show s.toNat < 2 from by omega) ea0, aR (B 14 s.toNat), rfl, ?_⟩
    refine ⟨2, _, some (B 4 ((2 * s) + 0).toNat), hk_ways hx (show s.toNat < 2 from by omega) rfl, by omega, ka_4 (s := s) (i := 0) (by omega) (by omega) (by omega), ?_⟩
    refine ⟨_, hk_o4 hx (show ((2 * s) + 0).toNat < 4 from by omega) rfl, aI (κ 404 ((2 * s) + 0).toNat), rfl, ?_⟩
    have t24 := (show 0 ≤ κ 404 ((2 * s) + 0).toNat ∧ κ 404 ((2 * s) + 0).toNat ≤ 64 from hV.g 404 ((2 * s) + 0).toNat rfl)
    refine ⟨by omega, ?_⟩
    exact ⟨kRetL (by first | exact (if_neg e1n).trans ((if_neg e2n).trans ((if_neg e3n).trans ((if_neg e4n).trans ((if_neg e5n).trans ((if_neg e6n).trans ((if_neg e7n).trans ((if_neg e8n).trans ((if_neg e9n).trans (if_pos e10))))))))) | (unfold v_kTell; rw [if_neg e1n, if_neg e2n, if_neg e3n, if_neg e4n, if_neg e5n, if_neg e6n, if_neg e7n, if_neg e8n, if_neg e9n, if_pos e10])), Nat.le_refl _, Nat.le_refl _⟩
  · have e1n : ¬ (w = 0) := by omega
    have e2n : ¬ (w = 1) := by omega
    have e3n : ¬ (w = 2) := by omega
    have e4n : ¬ (w = 3) := by omega
    have e5n : ¬ (w = 4) := by omega
    have e6n : ¬ (w = 5) := by omega
    have e7n : ¬ (w = 6) := by omega
    have e8n : ¬ (w = 7) := by omega
    have e9n : ¬ (w = 8) := by omega
    have e10n : ¬ (w = 9) := by omega
    refine ⟨_, hk_o3 hx (show s.toNat < 2 from by omega) ea0, aR (B 14 s.toNat), rfl, ?_⟩
    refine ⟨2, _, some (B 4 ((2 * s) + 1).toNat), hk_ways hx (show s.toNat < 2 from by omega) rfl, by omega, ka_4 (s := s) (i := 1) (by omega) (by omega) (by omega), ?_⟩
    refine ⟨_, hk_o4 hx (show ((2 * s) + 1).toNat < 4 from by omega) rfl, aI (κ 404 ((2 * s) + 1).toNat), rfl, ?_⟩
    have t25 := (show 0 ≤ κ 404 ((2 * s) + 1).toNat ∧ κ 404 ((2 * s) + 1).toNat ≤ 64 from hV.g 404 ((2 * s) + 1).toNat rfl)
    refine ⟨by omega, ?_⟩
    exact ⟨kRetL (by first | exact (if_neg e1n).trans ((if_neg e2n).trans ((if_neg e3n).trans ((if_neg e4n).trans ((if_neg e5n).trans ((if_neg e6n).trans ((if_neg e7n).trans ((if_neg e8n).trans ((if_neg e9n).trans ((if_neg e10n).trans (if_pos e11)))))))))) | (unfold v_kTell; rw [if_neg e1n, if_neg e2n, if_neg e3n, if_neg e4n, if_neg e5n, if_neg e6n, if_neg e7n, if_neg e8n, if_neg e9n, if_neg e10n, if_pos e11])), Nat.le_refl _, Nat.le_refl _⟩
  · have e1n : ¬ (w = 0) := by omega
    have e2n : ¬ (w = 1) := by omega
    have e3n : ¬ (w = 2) := by omega
    have e4n : ¬ (w = 3) := by omega
    have e5n : ¬ (w = 4) := by omega
    have e6n : ¬ (w = 5) := by omega
    have e7n : ¬ (w = 6) := by omega
    have e8n : ¬ (w = 7) := by omega
    have e9n : ¬ (w = 8) := by omega
    have e10n : ¬ (w = 9) := by omega
    have e11n : ¬ (w = 10) := by omega
    refine ⟨_, hk_o3 hx (show s.toNat < 2 from by omega) ea0, aR (B 12 s.toNat), rfl, ?_⟩
    refine ⟨10, _, (κ 360 ((16 * s) + 8).toNat), hk_g hx (show s.toNat < 2 from by omega) rfl, by omega, (kg_i (s := s) (i := 8) (by omega) (by omega) (by omega)), ?_⟩
    have t26 := (show 0 ≤ κ 360 ((16 * s) + 8).toNat ∧ κ 360 ((16 * s) + 8).toNat ≤ 65536 from hV.g 360 ((16 * s) + 8).toNat rfl)
    refine ⟨by omega, ?_⟩
    exact ⟨kRetL (by first | exact (if_neg e1n).trans ((if_neg e2n).trans ((if_neg e3n).trans ((if_neg e4n).trans ((if_neg e5n).trans ((if_neg e6n).trans ((if_neg e7n).trans ((if_neg e8n).trans ((if_neg e9n).trans ((if_neg e10n).trans ((if_neg e11n).trans (if_pos e12))))))))))) | (unfold v_kTell; rw [if_neg e1n, if_neg e2n, if_neg e3n, if_neg e4n, if_neg e5n, if_neg e6n, if_neg e7n, if_neg e8n, if_neg e9n, if_neg e10n, if_neg e11n, if_pos e12])), Nat.le_refl _, Nat.le_refl _⟩
  · have e1n : ¬ (w = 0) := by omega
    have e2n : ¬ (w = 1) := by omega
    have e3n : ¬ (w = 2) := by omega
    have e4n : ¬ (w = 3) := by omega
    have e5n : ¬ (w = 4) := by omega
    have e6n : ¬ (w = 5) := by omega
    have e7n : ¬ (w = 6) := by omega
    have e8n : ¬ (w = 7) := by omega
    have e9n : ¬ (w = 8) := by omega
    have e10n : ¬ (w = 9) := by omega
    have e11n : ¬ (w = 10) := by omega
    have e12n : ¬ (w = 11) := by omega
    refine ⟨_, hk_o3 hx (show s.toNat < 2 from by omega) ea0, aR (B 12 s.toNat), rfl, ?_⟩
    refine ⟨10, _, (κ 360 ((16 * s) + 9).toNat), hk_g hx (show s.toNat < 2 from by omega) rfl, by omega, (kg_i (s := s) (i := 9) (by omega) (by omega) (by omega)), ?_⟩
    have t27 := (show 0 ≤ κ 360 ((16 * s) + 9).toNat ∧ κ 360 ((16 * s) + 9).toNat ≤ 65536 from hV.g 360 ((16 * s) + 9).toNat rfl)
    refine ⟨by omega, ?_⟩
    exact ⟨kRetL (by first | exact (if_neg e1n).trans ((if_neg e2n).trans ((if_neg e3n).trans ((if_neg e4n).trans ((if_neg e5n).trans ((if_neg e6n).trans ((if_neg e7n).trans ((if_neg e8n).trans ((if_neg e9n).trans ((if_neg e10n).trans ((if_neg e11n).trans ((if_neg e12n).trans (if_pos e13)))))))))))) | (unfold v_kTell; rw [if_neg e1n, if_neg e2n, if_neg e3n, if_neg e4n, if_neg e5n, if_neg e6n, if_neg e7n, if_neg e8n, if_neg e9n, if_neg e10n, if_neg e11n, if_neg e12n, if_pos e13])), Nat.le_refl _, Nat.le_refl _⟩
  · have e1n : ¬ (w = 0) := by omega
    have e2n : ¬ (w = 1) := by omega
    have e3n : ¬ (w = 2) := by omega
    have e4n : ¬ (w = 3) := by omega
    have e5n : ¬ (w = 4) := by omega
    have e6n : ¬ (w = 5) := by omega
    have e7n : ¬ (w = 6) := by omega
    have e8n : ¬ (w = 7) := by omega
    have e9n : ¬ (w = 8) := by omega
    have e10n : ¬ (w = 9) := by omega
    have e11n : ¬ (w = 10) := by omega
    have e12n : ¬ (w = 11) := by omega
    have e13n : ¬ (w = 12) := by omega
    refine ⟨_, hk_o3 hx (show s.toNat < 2 from by omega) ea0, aI (κ 308 s.toNat), rfl, ?_⟩
    have t28 := (show 0 ≤ κ 308 s.toNat ∧ κ 308 s.toNat ≤ 65536 from hV.g 308 s.toNat rfl)
    refine ⟨by omega, ?_⟩
    exact ⟨kRetL (by first | exact (if_neg e1n).trans ((if_neg e2n).trans ((if_neg e3n).trans ((if_neg e4n).trans ((if_neg e5n).trans ((if_neg e6n).trans ((if_neg e7n).trans ((if_neg e8n).trans ((if_neg e9n).trans ((if_neg e10n).trans ((if_neg e11n).trans ((if_neg e12n).trans (if_neg e13n)))))))))))) | (unfold v_kTell; rw [if_neg e1n, if_neg e2n, if_neg e3n, if_neg e4n, if_neg e5n, if_neg e6n, if_neg e7n, if_neg e8n, if_neg e9n, if_neg e10n, if_neg e11n, if_neg e12n, if_neg e13n])), Nat.le_refl _, Nat.le_refl _⟩
def s_hearLostOfAll (κ : Nat → Nat → Int) (s p : Int) : Nat → Nat → Int := (if (κ 3 p.toNat) = 16 then (if (κ 315 s.toNat) = 0 then (if (κ 4 p.toNat) = (κ 314 s.toNat) then (u2 κ 315 s.toNat 1) else (u2 κ 315 s.toNat 0)) else (u2 κ 315 s.toNat 1)) else (if (κ 3 p.toNat) = 17 then κ else (if (κ 3 p.toNat) = 18 then (if (κ 405 ((2 * s) + ((κ 3 p.toNat) - 18)).toNat) = 0 then (if (κ 4 p.toNat) = (κ 360 ((16 * s) + (8 + ((κ 3 p.toNat) - 18))).toNat) then (u2 κ 405 ((2 * s) + ((κ 3 p.toNat) - 18)).toNat 1) else (u2 κ 405 ((2 * s) + ((κ 3 p.toNat) - 18)).toNat 0)) else (u2 κ 405 ((2 * s) + ((κ 3 p.toNat) - 18)).toNat 1)) else (if (κ 3 p.toNat) = 19 then (if (κ 405 ((2 * s) + ((κ 3 p.toNat) - 18)).toNat) = 0 then (if (κ 4 p.toNat) = (κ 360 ((16 * s) + (8 + ((κ 3 p.toNat) - 18))).toNat) then (u2 κ 405 ((2 * s) + ((κ 3 p.toNat) - 18)).toNat 1) else (u2 κ 405 ((2 * s) + ((κ 3 p.toNat) - 18)).toNat 0)) else (u2 κ 405 ((2 * s) + ((κ 3 p.toNat) - 18)).toNat 1)) else (if (κ 3 p.toNat) = 20 then (if (κ 4 p.toNat) = (κ 311 s.toNat) then (u2 κ 311 s.toNat (-1)) else (u2 κ 311 s.toNat (κ 311 s.toNat))) else (if (κ 3 p.toNat) = 21 then κ else (if (κ 3 p.toNat) = 22 then (if (κ 4 p.toNat) = (κ 403 ((2 * s) + ((κ 3 p.toNat) - 22)).toNat) then (u2 κ 403 ((2 * s) + ((κ 3 p.toNat) - 22)).toNat (-1)) else (u2 κ 403 ((2 * s) + ((κ 3 p.toNat) - 22)).toNat (κ 403 ((2 * s) + ((κ 3 p.toNat) - 22)).toNat))) else (if (κ 3 p.toNat) = 23 then (if (κ 4 p.toNat) = (κ 403 ((2 * s) + ((κ 3 p.toNat) - 22)).toNat) then (u2 κ 403 ((2 * s) + ((κ 3 p.toNat) - 22)).toNat (-1)) else (u2 κ 403 ((2 * s) + ((κ 3 p.toNat) - 22)).toNat (κ 403 ((2 * s) + ((κ 3 p.toNat) - 22)).toNat))) else κ))))))))
set_option maxRecDepth 100000 in
theorem m_hearLostOfAll (hF : mm_F G) (htr : L.stackTraces = false) (hx : kx B bx κ) (hV : kV κ) {s p : Int} {a0 a1 : Nat} (ea0 : a0 = B 3 s.toNat) (ea1 : a1 = B 0 p.toNat) (h1 : 0 ≤ s) (h2 : s ≤ 1) (hf1 : 0 ≤ p) (hf2 : p ≤ 64) :
    mm_Met L G SX3_hearLostOfAll [.ref a0, .ref a1] (hk G B bx h0 κ) 0 0 (mRetS none (hk G B bx h0 (s_hearLostOfAll κ s p)) (kx B bx (s_hearLostOfAll κ s p) ∧ kV (s_hearLostOfAll κ s p))) mm_no := by
  refine mi_meth MX3_hearLostOfAll 400 hF htr okX3_hearLostOfAll (av := [aR a0, aR a1]) (by decide +kernel) (Nat.le_of_ble_eq_true rfl) cmX3_hearLostOfAll (fun θ hc => ?_)
  refine ⟨_, hk_o0 hx (show p.toNat < 65 from by omega) ea1, aI (κ 3 p.toNat), rfl, ?_⟩
  have t1 := (show 0 ≤ κ 3 p.toNat ∧ κ 3 p.toNat ≤ 23 from hV.g 3 p.toNat rfl)
  refine ⟨by omega, ⟨fun (e2 : (κ 3 p.toNat) = 16) => ?_, fun (e3 : (κ 3 p.toNat) = 17) => ?_, fun (e4 : (κ 3 p.toNat) = 18) => ?_, fun (e5 : (κ 3 p.toNat) = 19) => ?_, fun (e6 : (κ 3 p.toNat) = 20) => ?_, fun (e7 : (κ 3 p.toNat) = 21) => ?_, fun (e8 : (κ 3 p.toNat) = 22) => ?_, fun (e9 : (κ 3 p.toNat) = 23) => ?_, trivial⟩, fun (e10 : (κ 3 p.toNat) < 16 ∨ 23 < (κ 3 p.toNat)) => ?_⟩
  · refine ⟨_, hk_o3 hx (show s.toNat < 2 from by omega) ea0, aI (κ 315 s.toNat), rfl, ?_⟩
    have t11 := (show 0 ≤ κ 315 s.toNat ∧ κ 315 s.toNat ≤ 1 from hV.g 315 s.toNat rfl)
    refine ⟨by omega, fun (e12 : ¬ ((κ 315 s.toNat) = 0)) => ?_, fun (e12 : (κ 315 s.toNat) = 0) => ?_⟩
    · refine ⟨_, hk_o3 hx (show s.toNat < 2 from by omega) ea0, (show 1 = 0 ∨ 1 = 1 from by omega), _, kp_315 hx (show s.toNat < 2 from by omega) (v := 1) ea0, ?_⟩
      have hV13 := hV.u (f := 315) (k := s.toNat) (v := 1) rfl (show 0 ≤ 1 ∧ 1 ≤ 1 from by omega)
      have hx14 := kx_u (f := 315) (k := s.toNat) (v := 1) rfl hx
      exact ⟨kRetVS  (by first | exact (if_pos e2).trans (if_neg e12) | (unfold s_hearLostOfAll; rw [if_pos e2, if_neg e12])) hx14 hV13, Nat.le_refl _, Nat.le_refl _⟩
    · refine ⟨_, hk_o0 hx (show p.toNat < 65 from by omega) ea1, aL (κ 4 p.toNat), rfl, ?_⟩
      have t15 := (show 0 ≤ κ 4 p.toNat ∧ κ 4 p.toNat ≤ 4611686018427387903 from hV.g 4 p.toNat rfl)
      refine ⟨_, hk_o3 hx (show s.toNat < 2 from by omega) ea0, aI (κ 314 s.toNat), rfl, ?_⟩
      have t16 := (show 0 ≤ κ 314 s.toNat ∧ κ 314 s.toNat ≤ 65536 from hV.g 314 s.toNat rfl)
      refine ⟨by omega, ?_⟩
      refine ⟨by omega, fun (e17 : ¬ ((κ 4 p.toNat) = (κ 314 s.toNat))) => ?_, fun (e17 : (κ 4 p.toNat) = (κ 314 s.toNat)) => ?_⟩
      · refine ⟨_, hk_o3 hx (show s.toNat < 2 from by omega) ea0, (show 0 = 0 ∨ 0 = 1 from by omega), _, kp_315 hx (show s.toNat < 2 from by omega) (v := 0) ea0, ?_⟩
        have hV18 := hV.u (f := 315) (k := s.toNat) (v := 0) rfl (show 0 ≤ 0 ∧ 0 ≤ 1 from by omega)
        have hx19 := kx_u (f := 315) (k := s.toNat) (v := 0) rfl hx
        exact ⟨kRetVS  (by first | exact (if_pos e2).trans ((if_pos e12).trans (if_neg e17)) | (unfold s_hearLostOfAll; rw [if_pos e2, if_pos e12, if_neg e17])) hx19 hV18, Nat.le_refl _, Nat.le_refl _⟩
      · refine ⟨_, hk_o3 hx (show s.toNat < 2 from by omega) ea0, (show 1 = 0 ∨ 1 = 1 from by omega), _, kp_315 hx (show s.toNat < 2 from by omega) (v := 1) ea0, ?_⟩
        have hV20 := hV.u (f := 315) (k := s.toNat) (v := 1) rfl (show 0 ≤ 1 ∧ 1 ≤ 1 from by omega)
        have hx21 := kx_u (f := 315) (k := s.toNat) (v := 1) rfl hx
        exact ⟨kRetVS  (by first | exact (if_pos e2).trans ((if_pos e12).trans (if_pos e17)) | (unfold s_hearLostOfAll; rw [if_pos e2, if_pos e12, if_pos e17])) hx21 hV20, Nat.le_refl _, Nat.le_refl _⟩
  · have e2n : ¬ ((κ 3 p.toNat) = 16) := by omega
    exact ⟨kRetVS  (by first | exact (if_neg e2n).trans (if_pos e3) | (unfold s_hearLostOfAll; rw [if_neg e2n, if_pos e3])) hx hV, Nat.le_refl _, Nat.le_refl _⟩
  · have e2n : ¬ ((κ 3 p.toNat) = 16) := by omega
    have e3n : ¬ ((κ 3 p.toNat) = 17) := by omega
    refine ⟨_, hk_o0 hx (show p.toNat < 65 from by omega) ea1, aI (κ 3 p.toNat), rfl, ?_⟩
    refine ⟨_, hk_o3 hx (show s.toNat < 2 from by omega) ea0, aR (B 14 s.toNat), rfl, ?_⟩
    refine mi_nl [(2, aI ((κ 3 p.toNat) - 18)), (0, aR (a0)), (1, aR (a1))] rfl ?_
    refine ⟨2, _, some (B 4 ((2 * s) + ((κ 3 p.toNat) - 18)).toNat), hk_ways hx (show s.toNat < 2 from by omega) rfl, by omega, ka_4 (s := s) (i := ((κ 3 p.toNat) - 18)) (by omega) (by omega) (by omega), ?_⟩
    refine ⟨_, hk_o3 hx (show s.toNat < 2 from by omega) ea0, aR (B 14 s.toNat), rfl, ?_⟩
    refine ⟨2, _, some (B 4 ((2 * s) + ((κ 3 p.toNat) - 18)).toNat), hk_ways hx (show s.toNat < 2 from by omega) rfl, by omega, ka_4 (s := s) (i := ((κ 3 p.toNat) - 18)) (by omega) (by omega) (by omega), ?_⟩
    refine ⟨_, hk_o4 hx (show ((2 * s) + ((κ 3 p.toNat) - 18)).toNat < 4 from by omega) rfl, aI (κ 405 ((2 * s) + ((κ 3 p.toNat) - 18)).toNat), rfl, ?_⟩
    have t22 := (show 0 ≤ κ 405 ((2 * s) + ((κ 3 p.toNat) - 18)).toNat ∧ κ 405 ((2 * s) + ((κ 3 p.toNat) - 18)).toNat ≤ 1 from hV.g 405 ((2 * s) + ((κ 3 p.toNat) - 18)).toNat rfl)
    refine ⟨by omega, fun (e23 : ¬ ((κ 405 ((2 * s) + ((κ 3 p.toNat) - 18)).toNat) = 0)) => ?_, fun (e23 : (κ 405 ((2 * s) + ((κ 3 p.toNat) - 18)).toNat) = 0) => ?_⟩
    · refine ⟨_, hk_o4 hx (show ((2 * s) + ((κ 3 p.toNat) - 18)).toNat < 4 from by omega) rfl, (show 1 = 0 ∨ 1 = 1 from by omega), _, kp_405 hx (show ((2 * s) + ((κ 3 p.toNat) - 18)).toNat < 4 from by omega) (v := 1) rfl, ?_⟩
      have hV24 := hV.u (f := 405) (k := ((2 * s) + ((κ 3 p.toNat) - 18)).toNat) (v := 1) rfl (show 0 ≤ 1 ∧ 1 ≤ 1 from by omega)
      have hx25 := kx_u (f := 405) (k := ((2 * s) + ((κ 3 p.toNat) - 18)).toNat) (v := 1) rfl hx
      exact ⟨kRetVS  (by first | exact (if_neg e2n).trans ((if_neg e3n).trans ((if_pos e4).trans (if_neg e23))) | (unfold s_hearLostOfAll; rw [if_neg e2n, if_neg e3n, if_pos e4, if_neg e23])) hx25 hV24, Nat.le_refl _, Nat.le_refl _⟩
    · refine ⟨_, hk_o0 hx (show p.toNat < 65 from by omega) ea1, aL (κ 4 p.toNat), rfl, ?_⟩
      have t26 := (show 0 ≤ κ 4 p.toNat ∧ κ 4 p.toNat ≤ 4611686018427387903 from hV.g 4 p.toNat rfl)
      refine ⟨_, hk_o3 hx (show s.toNat < 2 from by omega) ea0, aR (B 12 s.toNat), rfl, ?_⟩
      refine ⟨10, _, (κ 360 ((16 * s) + (8 + ((κ 3 p.toNat) - 18))).toNat), hk_g hx (show s.toNat < 2 from by omega) rfl, by omega, (kg_i (s := s) (i := (8 + ((κ 3 p.toNat) - 18))) (by omega) (by omega) (by omega)), ?_⟩
      have t27 := (show 0 ≤ κ 360 ((16 * s) + (8 + ((κ 3 p.toNat) - 18))).toNat ∧ κ 360 ((16 * s) + (8 + ((κ 3 p.toNat) - 18))).toNat ≤ 65536 from hV.g 360 ((16 * s) + (8 + ((κ 3 p.toNat) - 18))).toNat rfl)
      refine ⟨by omega, ?_⟩
      refine ⟨by omega, fun (e28 : ¬ ((κ 4 p.toNat) = (κ 360 ((16 * s) + (8 + ((κ 3 p.toNat) - 18))).toNat))) => ?_, fun (e28 : (κ 4 p.toNat) = (κ 360 ((16 * s) + (8 + ((κ 3 p.toNat) - 18))).toNat)) => ?_⟩
      · refine ⟨_, hk_o4 hx (show ((2 * s) + ((κ 3 p.toNat) - 18)).toNat < 4 from by omega) rfl, (show 0 = 0 ∨ 0 = 1 from by omega), _, kp_405 hx (show ((2 * s) + ((κ 3 p.toNat) - 18)).toNat < 4 from by omega) (v := 0) rfl, ?_⟩
        have hV29 := hV.u (f := 405) (k := ((2 * s) + ((κ 3 p.toNat) - 18)).toNat) (v := 0) rfl (show 0 ≤ 0 ∧ 0 ≤ 1 from by omega)
        have hx30 := kx_u (f := 405) (k := ((2 * s) + ((κ 3 p.toNat) - 18)).toNat) (v := 0) rfl hx
        exact ⟨kRetVS  (by first | exact (if_neg e2n).trans ((if_neg e3n).trans ((if_pos e4).trans ((if_pos e23).trans (if_neg e28)))) | (unfold s_hearLostOfAll; rw [if_neg e2n, if_neg e3n, if_pos e4, if_pos e23, if_neg e28])) hx30 hV29, Nat.le_refl _, Nat.le_refl _⟩
      · refine ⟨_, hk_o4 hx (show ((2 * s) + ((κ 3 p.toNat) - 18)).toNat < 4 from by omega) rfl, (show 1 = 0 ∨ 1 = 1 from by omega), _, kp_405 hx (show ((2 * s) + ((κ 3 p.toNat) - 18)).toNat < 4 from by omega) (v := 1) rfl, ?_⟩
        have hV31 := hV.u (f := 405) (k := ((2 * s) + ((κ 3 p.toNat) - 18)).toNat) (v := 1) rfl (show 0 ≤ 1 ∧ 1 ≤ 1 from by omega)
        have hx32 := kx_u (f := 405) (k := ((2 * s) + ((κ 3 p.toNat) - 18)).toNat) (v := 1) rfl hx
        exact ⟨kRetVS  (by first | exact (if_neg e2n).trans ((if_neg e3n).trans ((if_pos e4).trans ((if_pos e23).trans (if_pos e28)))) | (unfold s_hearLostOfAll; rw [if_neg e2n, if_neg e3n, if_pos e4, if_pos e23, if_pos e28])) hx32 hV31, Nat.le_refl _, Nat.le_refl _⟩
  · have e2n : ¬ ((κ 3 p.toNat) = 16) := by omega
    have e3n : ¬ ((κ 3 p.toNat) = 17) := by omega
    have e4n : ¬ ((κ 3 p.toNat) = 18) := by omega
    refine ⟨_, hk_o0 hx (show p.toNat < 65 from by omega) ea1, aI (κ 3 p.toNat), rfl, ?_⟩
    refine ⟨_, hk_o3 hx (show s.toNat < 2 from by omega) ea0, aR (B 14 s.toNat), rfl, ?_⟩
    refine mi_nl [(2, aI ((κ 3 p.toNat) - 18)), (0, aR (a0)), (1, aR (a1))] rfl ?_
    refine ⟨2, _, some (B 4 ((2 * s) + ((κ 3 p.toNat) - 18)).toNat), hk_ways hx (show s.toNat < 2 from by omega) rfl, by omega, ka_4 (s := s) (i := ((κ 3 p.toNat) - 18)) (by omega) (by omega) (by omega), ?_⟩
    refine ⟨_, hk_o3 hx (show s.toNat < 2 from by omega) ea0, aR (B 14 s.toNat), rfl, ?_⟩
    refine ⟨2, _, some (B 4 ((2 * s) + ((κ 3 p.toNat) - 18)).toNat), hk_ways hx (show s.toNat < 2 from by omega) rfl, by omega, ka_4 (s := s) (i := ((κ 3 p.toNat) - 18)) (by omega) (by omega) (by omega), ?_⟩
    refine ⟨_, hk_o4 hx (show ((2 * s) + ((κ 3 p.toNat) - 18)).toNat < 4 from by omega) rfl, aI (κ 405 ((2 * s) + ((κ 3 p.toNat) - 18)).toNat), rfl, ?_⟩
    have t33 := (show 0 ≤ κ 405 ((2 * s) + ((κ 3 p.toNat) - 18)).toNat ∧ κ 405 ((2 * s) + ((κ 3 p.toNat) - 18)).toNat ≤ 1 from hV.g 405 ((2 * s) + ((κ 3 p.toNat) - 18)).toNat rfl)
    refine ⟨by omega, fun (e34 : ¬ ((κ 405 ((2 * s) + ((κ 3 p.toNat) - 18)).toNat) = 0)) => ?_, fun (e34 : (κ 405 ((2 * s) + ((κ 3 p.toNat) - 18)).toNat) = 0) => ?_⟩
    · refine ⟨_, hk_o4 hx (show ((2 * s) + ((κ 3 p.toNat) - 18)).toNat < 4 from by omega) rfl, (show 1 = 0 ∨ 1 = 1 from by omega), _, kp_405 hx (show ((2 * s) + ((κ 3 p.toNat) - 18)).toNat < 4 from by omega) (v := 1) rfl, ?_⟩
      have hV35 := hV.u (f := 405) (k := ((2 * s) + ((κ 3 p.toNat) - 18)).toNat) (v := 1) rfl (show 0 ≤ 1 ∧ 1 ≤ 1 from by omega)
      have hx36 := kx_u (f := 405) (k := ((2 * s) + ((κ 3 p.toNat) - 18)).toNat) (v := 1) rfl hx
      exact ⟨kRetVS  (by first | exact (if_neg e2n).trans ((if_neg e3n).trans ((if_neg e4n).trans ((if_pos e5).trans (if_neg e34)))) | (unfold s_hearLostOfAll; rw [if_neg e2n, if_neg e3n, if_neg e4n, if_pos e5, if_neg e34])) hx36 hV35, Nat.le_refl _, Nat.le_refl _⟩
    · refine ⟨_, hk_o0 hx (show p.toNat < 65 from by omega) ea1, aL (κ 4 p.toNat), rfl, ?_⟩
      have t37 := (show 0 ≤ κ 4 p.toNat ∧ κ 4 p.toNat ≤ 4611686018427387903 from hV.g 4 p.toNat rfl)
      refine ⟨_, hk_o3 hx (show s.toNat < 2 from by omega) ea0, aR (B 12 s.toNat), rfl, ?_⟩
      refine ⟨10, _, (κ 360 ((16 * s) + (8 + ((κ 3 p.toNat) - 18))).toNat), hk_g hx (show s.toNat < 2 from by omega) rfl, by omega, (kg_i (s := s) (i := (8 + ((κ 3 p.toNat) - 18))) (by omega) (by omega) (by omega)), ?_⟩
      have t38 := (show 0 ≤ κ 360 ((16 * s) + (8 + ((κ 3 p.toNat) - 18))).toNat ∧ κ 360 ((16 * s) + (8 + ((κ 3 p.toNat) - 18))).toNat ≤ 65536 from hV.g 360 ((16 * s) + (8 + ((κ 3 p.toNat) - 18))).toNat rfl)
      refine ⟨by omega, ?_⟩
      refine ⟨by omega, fun (e39 : ¬ ((κ 4 p.toNat) = (κ 360 ((16 * s) + (8 + ((κ 3 p.toNat) - 18))).toNat))) => ?_, fun (e39 : (κ 4 p.toNat) = (κ 360 ((16 * s) + (8 + ((κ 3 p.toNat) - 18))).toNat)) => ?_⟩
      · refine ⟨_, hk_o4 hx (show ((2 * s) + ((κ 3 p.toNat) - 18)).toNat < 4 from by omega) rfl, (show 0 = 0 ∨ 0 = 1 from by omega), _, kp_405 hx (show ((2 * s) + ((κ 3 p.toNat) - 18)).toNat < 4 from by omega) (v := 0) rfl, ?_⟩
        have hV40 := hV.u (f := 405) (k := ((2 * s) + ((κ 3 p.toNat) - 18)).toNat) (v := 0) rfl (show 0 ≤ 0 ∧ 0 ≤ 1 from by omega)
        have hx41 := kx_u (f := 405) (k := ((2 * s) + ((κ 3 p.toNat) - 18)).toNat) (v := 0) rfl hx
        exact ⟨kRetVS  (by first | exact (if_neg e2n).trans ((if_neg e3n).trans ((if_neg e4n).trans ((if_pos e5).trans ((if_pos e34).trans (if_neg e39))))) | (unfold s_hearLostOfAll; rw [if_neg e2n, if_neg e3n, if_neg e4n, if_pos e5, if_pos e34, if_neg e39])) hx41 hV40, Nat.le_refl _, Nat.le_refl _⟩
      · refine ⟨_, hk_o4 hx (show ((2 * s) + ((κ 3 p.toNat) - 18)).toNat < 4 from by omega) rfl, (show 1 = 0 ∨ 1 = 1 from by omega), _, kp_405 hx (show ((2 * s) + ((κ 3 p.toNat) - 18)).toNat < 4 from by omega) (v := 1) rfl, ?_⟩
        have hV42 := hV.u (f := 405) (k := ((2 * s) + ((κ 3 p.toNat) - 18)).toNat) (v := 1) rfl (show 0 ≤ 1 ∧ 1 ≤ 1 from by omega)
        have hx43 := kx_u (f := 405) (k := ((2 * s) + ((κ 3 p.toNat) - 18)).toNat) (v := 1) rfl hx
        exact ⟨kRetVS  (by first | exact (if_neg e2n).trans ((if_neg e3n).trans ((if_neg e4n).trans ((if_pos e5).trans ((if_pos e34).trans (if_pos e39))))) | (unfold s_hearLostOfAll; rw [if_neg e2n, if_neg e3n, if_neg e4n, if_pos e5, if_pos e34, if_pos e39])) hx43 hV42, Nat.le_refl _, Nat.le_refl _⟩
  · have e2n : ¬ ((κ 3 p.toNat) = 16) := by omega
    have e3n : ¬ ((κ 3 p.toNat) = 17) := by omega
    have e4n : ¬ ((κ 3 p.toNat) = 18) := by omega
    have e5n : ¬ ((κ 3 p.toNat) = 19) := by omega
    refine ⟨_, hk_o0 hx (show p.toNat < 65 from by omega) ea1, aL (κ 4 p.toNat), rfl, ?_⟩
    have t44 := (show 0 ≤ κ 4 p.toNat ∧ κ 4 p.toNat ≤ 4611686018427387903 from hV.g 4 p.toNat rfl)
    refine ⟨_, hk_o3 hx (show s.toNat < 2 from by omega) ea0, aL (κ 311 s.toNat), rfl, ?_⟩
    have t45 := (show -1 ≤ κ 311 s.toNat ∧ κ 311 s.toNat ≤ 4611686018427387903 from hV.g 311 s.toNat rfl)
    refine ⟨by omega, fun (e46 : ¬ ((κ 4 p.toNat) = (κ 311 s.toNat))) => ?_, fun (e46 : (κ 4 p.toNat) = (κ 311 s.toNat)) => ?_⟩
    · refine ⟨_, hk_o3 hx (show s.toNat < 2 from by omega) ea0, aL (κ 311 s.toNat), rfl, ?_⟩
      refine ⟨_, hk_o3 hx (show s.toNat < 2 from by omega) ea0, trivial, _, kp_311 hx (show s.toNat < 2 from by omega) (v := (κ 311 s.toNat)) ea0, ?_⟩
      have hV47 := hV.u (f := 311) (k := s.toNat) (v := (κ 311 s.toNat)) rfl (show -1 ≤ (κ 311 s.toNat) ∧ (κ 311 s.toNat) ≤ 4611686018427387903 from by omega)
      have hx48 := kx_u (f := 311) (k := s.toNat) (v := (κ 311 s.toNat)) rfl hx
      exact ⟨kRetVS  (by first | exact (if_neg e2n).trans ((if_neg e3n).trans ((if_neg e4n).trans ((if_neg e5n).trans ((if_pos e6).trans (if_neg e46))))) | (unfold s_hearLostOfAll; rw [if_neg e2n, if_neg e3n, if_neg e4n, if_neg e5n, if_pos e6, if_neg e46])) hx48 hV47, Nat.le_refl _, Nat.le_refl _⟩
    · refine ⟨(-1), rfl, ?_⟩
      refine ⟨_, hk_o3 hx (show s.toNat < 2 from by omega) ea0, trivial, _, kp_311 hx (show s.toNat < 2 from by omega) (v := -1) ea0, ?_⟩
      have hV49 := hV.u (f := 311) (k := s.toNat) (v := -1) rfl (show -1 ≤ (-1) ∧ (-1) ≤ 4611686018427387903 from by omega)
      have hx50 := kx_u (f := 311) (k := s.toNat) (v := -1) rfl hx
      exact ⟨kRetVS  (by first | exact (if_neg e2n).trans ((if_neg e3n).trans ((if_neg e4n).trans ((if_neg e5n).trans ((if_pos e6).trans (if_pos e46))))) | (unfold s_hearLostOfAll; rw [if_neg e2n, if_neg e3n, if_neg e4n, if_neg e5n, if_pos e6, if_pos e46])) hx50 hV49, Nat.le_refl _, Nat.le_refl _⟩
  · have e2n : ¬ ((κ 3 p.toNat) = 16) := by omega
    have e3n : ¬ ((κ 3 p.toNat) = 17) := by omega
    have e4n : ¬ ((κ 3 p.toNat) = 18) := by omega
    have e5n : ¬ ((κ 3 p.toNat) = 19) := by omega
    have e6n : ¬ ((κ 3 p.toNat) = 20) := by omega
    exact ⟨kRetVS  (by first | exact (if_neg e2n).trans ((if_neg e3n).trans ((if_neg e4n).trans ((if_neg e5n).trans ((if_neg e6n).trans (if_pos e7))))) | (unfold s_hearLostOfAll; rw [if_neg e2n, if_neg e3n, if_neg e4n, if_neg e5n, if_neg e6n, if_pos e7])) hx hV, Nat.le_refl _, Nat.le_refl _⟩
  · have e2n : ¬ ((κ 3 p.toNat) = 16) := by omega
    have e3n : ¬ ((κ 3 p.toNat) = 17) := by omega
    have e4n : ¬ ((κ 3 p.toNat) = 18) := by omega
    have e5n : ¬ ((κ 3 p.toNat) = 19) := by omega
    have e6n : ¬ ((κ 3 p.toNat) = 20) := by omega
    have e7n : ¬ ((κ 3 p.toNat) = 21) := by omega
    refine ⟨_, hk_o3 hx (show s.toNat < 2 from by omega) ea0, aR (B 14 s.toNat), rfl, ?_⟩
    refine ⟨_, hk_o0 hx (show p.toNat < 65 from by omega) ea1, aI (κ 3 p.toNat), rfl, ?_⟩
    refine ⟨2, _, some (B 4 ((2 * s) + ((κ 3 p.toNat) - 22)).toNat), hk_ways hx (show s.toNat < 2 from by omega) rfl, by omega, ka_4 (s := s) (i := ((κ 3 p.toNat) - 22)) (by omega) (by omega) (by omega), ?_⟩
    refine ⟨_, hk_o0 hx (show p.toNat < 65 from by omega) ea1, aL (κ 4 p.toNat), rfl, ?_⟩
    have t51 := (show 0 ≤ κ 4 p.toNat ∧ κ 4 p.toNat ≤ 4611686018427387903 from hV.g 4 p.toNat rfl)
    refine mi_nl [(3, aR (B 4 ((2 * s) + ((κ 3 p.toNat) - 22)).toNat)), (0, aR (a0)), (1, aR (a1))] rfl ?_
    refine ⟨_, hk_o4 hx (show ((2 * s) + ((κ 3 p.toNat) - 22)).toNat < 4 from by omega) rfl, aI (κ 403 ((2 * s) + ((κ 3 p.toNat) - 22)).toNat), rfl, ?_⟩
    have t52 := (show -1 ≤ κ 403 ((2 * s) + ((κ 3 p.toNat) - 22)).toNat ∧ κ 403 ((2 * s) + ((κ 3 p.toNat) - 22)).toNat ≤ 64 from hV.g 403 ((2 * s) + ((κ 3 p.toNat) - 22)).toNat rfl)
    refine ⟨by omega, ?_⟩
    refine ⟨by omega, fun (e53 : ¬ ((κ 4 p.toNat) = (κ 403 ((2 * s) + ((κ 3 p.toNat) - 22)).toNat))) => ?_, fun (e53 : (κ 4 p.toNat) = (κ 403 ((2 * s) + ((κ 3 p.toNat) - 22)).toNat)) => ?_⟩
    · refine ⟨_, hk_o4 hx (show ((2 * s) + ((κ 3 p.toNat) - 22)).toNat < 4 from by omega) rfl, aI (κ 403 ((2 * s) + ((κ 3 p.toNat) - 22)).toNat), rfl, ?_⟩
      refine ⟨_, hk_o4 hx (show ((2 * s) + ((κ 3 p.toNat) - 22)).toNat < 4 from by omega) rfl, trivial, _, kp_403 hx (show ((2 * s) + ((κ 3 p.toNat) - 22)).toNat < 4 from by omega) (v := (κ 403 ((2 * s) + ((κ 3 p.toNat) - 22)).toNat)) rfl, ?_⟩
      have hV54 := hV.u (f := 403) (k := ((2 * s) + ((κ 3 p.toNat) - 22)).toNat) (v := (κ 403 ((2 * s) + ((κ 3 p.toNat) - 22)).toNat)) rfl (show -1 ≤ (κ 403 ((2 * s) + ((κ 3 p.toNat) - 22)).toNat) ∧ (κ 403 ((2 * s) + ((κ 3 p.toNat) - 22)).toNat) ≤ 64 from by omega)
      have hx55 := kx_u (f := 403) (k := ((2 * s) + ((κ 3 p.toNat) - 22)).toNat) (v := (κ 403 ((2 * s) + ((κ 3 p.toNat) - 22)).toNat)) rfl hx
      exact ⟨kRetVS  (by first | exact (if_neg e2n).trans ((if_neg e3n).trans ((if_neg e4n).trans ((if_neg e5n).trans ((if_neg e6n).trans ((if_neg e7n).trans ((if_pos e8).trans (if_neg e53))))))) | (unfold s_hearLostOfAll; rw [if_neg e2n, if_neg e3n, if_neg e4n, if_neg e5n, if_neg e6n, if_neg e7n, if_pos e8, if_neg e53])) hx55 hV54, Nat.le_refl _, Nat.le_refl _⟩
    · refine ⟨_, hk_o4 hx (show ((2 * s) + ((κ 3 p.toNat) - 22)).toNat < 4 from by omega) rfl, trivial, _, kp_403 hx (show ((2 * s) + ((κ 3 p.toNat) - 22)).toNat < 4 from by omega) (v := -1) rfl, ?_⟩
      have hV56 := hV.u (f := 403) (k := ((2 * s) + ((κ 3 p.toNat) - 22)).toNat) (v := -1) rfl (show -1 ≤ (-1) ∧ (-1) ≤ 64 from by omega)
      have hx57 := kx_u (f := 403) (k := ((2 * s) + ((κ 3 p.toNat) - 22)).toNat) (v := -1) rfl hx
      exact ⟨kRetVS  (by first | exact (if_neg e2n).trans ((if_neg e3n).trans ((if_neg e4n).trans ((if_neg e5n).trans ((if_neg e6n).trans ((if_neg e7n).trans ((if_pos e8).trans (if_pos e53))))))) | (unfold s_hearLostOfAll; rw [if_neg e2n, if_neg e3n, if_neg e4n, if_neg e5n, if_neg e6n, if_neg e7n, if_pos e8, if_pos e53])) hx57 hV56, Nat.le_refl _, Nat.le_refl _⟩
  · have e2n : ¬ ((κ 3 p.toNat) = 16) := by omega
    have e3n : ¬ ((κ 3 p.toNat) = 17) := by omega
    have e4n : ¬ ((κ 3 p.toNat) = 18) := by omega
    have e5n : ¬ ((κ 3 p.toNat) = 19) := by omega
    have e6n : ¬ ((κ 3 p.toNat) = 20) := by omega
    have e7n : ¬ ((κ 3 p.toNat) = 21) := by omega
    have e8n : ¬ ((κ 3 p.toNat) = 22) := by omega
    refine ⟨_, hk_o3 hx (show s.toNat < 2 from by omega) ea0, aR (B 14 s.toNat), rfl, ?_⟩
    refine ⟨_, hk_o0 hx (show p.toNat < 65 from by omega) ea1, aI (κ 3 p.toNat), rfl, ?_⟩
    refine ⟨2, _, some (B 4 ((2 * s) + ((κ 3 p.toNat) - 22)).toNat), hk_ways hx (show s.toNat < 2 from by omega) rfl, by omega, ka_4 (s := s) (i := ((κ 3 p.toNat) - 22)) (by omega) (by omega) (by omega), ?_⟩
    refine ⟨_, hk_o0 hx (show p.toNat < 65 from by omega) ea1, aL (κ 4 p.toNat), rfl, ?_⟩
    have t58 := (show 0 ≤ κ 4 p.toNat ∧ κ 4 p.toNat ≤ 4611686018427387903 from hV.g 4 p.toNat rfl)
    refine mi_nl [(3, aR (B 4 ((2 * s) + ((κ 3 p.toNat) - 22)).toNat)), (0, aR (a0)), (1, aR (a1))] rfl ?_
    refine ⟨_, hk_o4 hx (show ((2 * s) + ((κ 3 p.toNat) - 22)).toNat < 4 from by omega) rfl, aI (κ 403 ((2 * s) + ((κ 3 p.toNat) - 22)).toNat), rfl, ?_⟩
    have t59 := (show -1 ≤ κ 403 ((2 * s) + ((κ 3 p.toNat) - 22)).toNat ∧ κ 403 ((2 * s) + ((κ 3 p.toNat) - 22)).toNat ≤ 64 from hV.g 403 ((2 * s) + ((κ 3 p.toNat) - 22)).toNat rfl)
    refine ⟨by omega, ?_⟩
    refine ⟨by omega, fun (e60 : ¬ ((κ 4 p.toNat) = (κ 403 ((2 * s) + ((κ 3 p.toNat) - 22)).toNat))) => ?_, fun (e60 : (κ 4 p.toNat) = (κ 403 ((2 * s) + ((κ 3 p.toNat) - 22)).toNat)) => ?_⟩
    · refine ⟨_, hk_o4 hx (show ((2 * s) + ((κ 3 p.toNat) - 22)).toNat < 4 from by omega) rfl, aI (κ 403 ((2 * s) + ((κ 3 p.toNat) - 22)).toNat), rfl, ?_⟩
      refine ⟨_, hk_o4 hx (show ((2 * s) + ((κ 3 p.toNat) - 22)).toNat < 4 from by omega) rfl, trivial, _, kp_403 hx (show ((2 * s) + ((κ 3 p.toNat) - 22)).toNat < 4 from by omega) (v := (κ 403 ((2 * s) + ((κ 3 p.toNat) - 22)).toNat)) rfl, ?_⟩
      have hV61 := hV.u (f := 403) (k := ((2 * s) + ((κ 3 p.toNat) - 22)).toNat) (v := (κ 403 ((2 * s) + ((κ 3 p.toNat) - 22)).toNat)) rfl (show -1 ≤ (κ 403 ((2 * s) + ((κ 3 p.toNat) - 22)).toNat) ∧ (κ 403 ((2 * s) + ((κ 3 p.toNat) - 22)).toNat) ≤ 64 from by omega)
      have hx62 := kx_u (f := 403) (k := ((2 * s) + ((κ 3 p.toNat) - 22)).toNat) (v := (κ 403 ((2 * s) + ((κ 3 p.toNat) - 22)).toNat)) rfl hx
      exact ⟨kRetVS  (by first | exact (if_neg e2n).trans ((if_neg e3n).trans ((if_neg e4n).trans ((if_neg e5n).trans ((if_neg e6n).trans ((if_neg e7n).trans ((if_neg e8n).trans ((if_pos e9).trans (if_neg e60)))))))) | (unfold s_hearLostOfAll; rw [if_neg e2n, if_neg e3n, if_neg e4n, if_neg e5n, if_neg e6n, if_neg e7n, if_neg e8n, if_pos e9, if_neg e60])) hx62 hV61, Nat.le_refl _, Nat.le_refl _⟩
    · refine ⟨_, hk_o4 hx (show ((2 * s) + ((κ 3 p.toNat) - 22)).toNat < 4 from by omega) rfl, trivial, _, kp_403 hx (show ((2 * s) + ((κ 3 p.toNat) - 22)).toNat < 4 from by omega) (v := -1) rfl, ?_⟩
      have hV63 := hV.u (f := 403) (k := ((2 * s) + ((κ 3 p.toNat) - 22)).toNat) (v := -1) rfl (show -1 ≤ (-1) ∧ (-1) ≤ 64 from by omega)
      have hx64 := kx_u (f := 403) (k := ((2 * s) + ((κ 3 p.toNat) - 22)).toNat) (v := -1) rfl hx
      exact ⟨kRetVS  (by first | exact (if_neg e2n).trans ((if_neg e3n).trans ((if_neg e4n).trans ((if_neg e5n).trans ((if_neg e6n).trans ((if_neg e7n).trans ((if_neg e8n).trans ((if_pos e9).trans (if_pos e60)))))))) | (unfold s_hearLostOfAll; rw [if_neg e2n, if_neg e3n, if_neg e4n, if_neg e5n, if_neg e6n, if_neg e7n, if_neg e8n, if_pos e9, if_pos e60])) hx64 hV63, Nat.le_refl _, Nat.le_refl _⟩
  · have e2n : ¬ ((κ 3 p.toNat) = 16) := by omega
    have e3n : ¬ ((κ 3 p.toNat) = 17) := by omega
    have e4n : ¬ ((κ 3 p.toNat) = 18) := by omega
    have e5n : ¬ ((κ 3 p.toNat) = 19) := by omega
    have e6n : ¬ ((κ 3 p.toNat) = 20) := by omega
    have e7n : ¬ ((κ 3 p.toNat) = 21) := by omega
    have e8n : ¬ ((κ 3 p.toNat) = 22) := by omega
    have e9n : ¬ ((κ 3 p.toNat) = 23) := by omega
    exact ⟨kRetVS  (by first | exact (if_neg e2n).trans ((if_neg e3n).trans ((if_neg e4n).trans ((if_neg e5n).trans ((if_neg e6n).trans ((if_neg e7n).trans ((if_neg e8n).trans (if_neg e9n))))))) | (unfold s_hearLostOfAll; rw [if_neg e2n, if_neg e3n, if_neg e4n, if_neg e5n, if_neg e6n, if_neg e7n, if_neg e8n, if_neg e9n])) hx hV, Nat.le_refl _, Nat.le_refl _⟩
set_option maxRecDepth 100000 in
theorem s_hearLostOfAll_fr {f kk : Nat} {s p : Int} (hf : (!([311, 315, 403, 405].elem f)) = true) : s_hearLostOfAll κ s p f kk = κ f kk := by
  have n311 : f ≠ 311 := by rintro rfl; exact absurd hf (by decide)
  have n315 : f ≠ 315 := by rintro rfl; exact absurd hf (by decide)
  have n403 : f ≠ 403 := by rintro rfl; exact absurd hf (by decide)
  have n405 : f ≠ 405 := by rintro rfl; exact absurd hf (by decide)
  have f311 : ∀ (m : Nat → Nat → Int) (a b : Nat) (v : Int), u2 m 311 a v f b = m f b := fun m a b v => u2_f n311
  have f315 : ∀ (m : Nat → Nat → Int) (a b : Nat) (v : Int), u2 m 315 a v f b = m f b := fun m a b v => u2_f n315
  have f403 : ∀ (m : Nat → Nat → Int) (a b : Nat) (v : Int), u2 m 403 a v f b = m f b := fun m a b v => u2_f n403
  have f405 : ∀ (m : Nat → Nat → Int) (a b : Nat) (v : Int), u2 m 405 a v f b = m f b := fun m a b v => u2_f n405
  unfold s_hearLostOfAll
  repeat' with_reducible apply f_ite
  all_goals first | rfl | simp only [f311, f315, f403, f405]
set_option maxRecDepth 100000 in
theorem m_hearLostRN (hF : mm_F G) (htr : L.stackTraces = false) (hx : kx B bx κ) (hV : kV κ) {p : Int} {a0 : Nat} (ea0 : a0 = B 0 p.toNat) (hf1 : 0 ≤ p) (hf2 : p ≤ 64) :
    mm_Met L G SX3_hearLostOfReceiving [.ref a0, .null] (hk G B bx h0 κ) 0 0 (mRet none (hk G B bx h0 κ)) mm_no := by
  refine mi_meth MX3_hearLostOfReceiving 400 hF htr okX3_hearLostOfReceiving (av := [aR a0, aN]) (by decide +kernel) (Nat.le_of_ble_eq_true rfl) cmX3_hearLostOfReceiving (fun θ hc => ?_)
  exact ⟨kRetV , Nat.le_refl _, Nat.le_refl _⟩
def s_hearLostR (κ : Nat → Nat → Int) (p s i : Int) : Nat → Nat → Int := (if (κ 3 p.toNat) = 5 then (u2 κ 110 (mj s i) 1) else (if (κ 108 (mj s i)) = 0 then (if (κ 5 p.toNat) = (κ 107 (mj s i)) then (u2 κ 108 (mj s i) 1) else (u2 κ 108 (mj s i) 0)) else (u2 κ 108 (mj s i) 1)))
set_option maxRecDepth 100000 in
theorem m_hearLostR (hF : mm_F G) (htr : L.stackTraces = false) (hx : kx B bx κ) (hV : kV κ) {p s i : Int} {a0 a1 : Nat} (ea0 : a0 = B 0 p.toNat) (ea1 : a1 = B 1 (mj s i)) (hf1 : 0 ≤ p) (hf2 : p ≤ 64) (hp : κ 190 (mj s i) = 1) :
    mm_Met L G SX3_hearLostOfReceiving [.ref a0, .ref a1] (hk G B bx h0 κ) 0 0 (mRetS none (hk G B bx h0 (s_hearLostR κ p s i)) (kx B bx (s_hearLostR κ p s i) ∧ kV (s_hearLostR κ p s i))) mm_no := by
  refine mi_meth MX3_hearLostOfReceiving 400 hF htr okX3_hearLostOfReceiving (av := [aR a0, aR a1]) (by decide +kernel) (Nat.le_of_ble_eq_true rfl) cmX3_hearLostOfReceiving (fun θ hc => ?_)
  refine ⟨_, hk_o0 hx (show p.toNat < 65 from by omega) ea0, aI (κ 3 p.toNat), rfl, ?_⟩
  have t1 := (show 0 ≤ κ 3 p.toNat ∧ κ 3 p.toNat ≤ 23 from hV.g 3 p.toNat rfl)
  refine ⟨by omega, fun (e2 : ¬ ((κ 3 p.toNat) = 5)) => ?_, fun (e2 : (κ 3 p.toNat) = 5) => ?_⟩
  · refine ⟨_, hk_o1 hx (show κ 190 (mj s i) = 1 from hp) ea1, aI (κ 108 (mj s i)), rfl, ?_⟩
    have t3 := (show 0 ≤ κ 108 (mj s i) ∧ κ 108 (mj s i) ≤ 1 from hV.g 108 (mj s i) rfl)
    refine ⟨by omega, fun (e4 : ¬ ((κ 108 (mj s i)) = 0)) => ?_, fun (e4 : (κ 108 (mj s i)) = 0) => ?_⟩
    · refine ⟨_, hk_o1 hx (show κ 190 (mj s i) = 1 from hp) ea1, (show 1 = 0 ∨ 1 = 1 from by omega), _, kp_108 hx (show κ 190 (mj s i) = 1 from hp) (v := 1) ea1, ?_⟩
      have hV5 := hV.u (f := 108) (k := (mj s i)) (v := 1) rfl (show 0 ≤ 1 ∧ 1 ≤ 1 from by omega)
      have hx6 := kx_u (f := 108) (k := (mj s i)) (v := 1) rfl hx
      exact ⟨kRetVS  (by first | exact (if_neg e2).trans (if_neg e4) | (unfold s_hearLostR; rw [if_neg e2, if_neg e4])) hx6 hV5, Nat.le_refl _, Nat.le_refl _⟩
    · refine ⟨_, hk_o0 hx (show p.toNat < 65 from by omega) ea0, aL (κ 5 p.toNat), rfl, ?_⟩
      have t7 := (show 0 ≤ κ 5 p.toNat ∧ κ 5 p.toNat ≤ 4611686018427387903 from hV.g 5 p.toNat rfl)
      refine ⟨_, hk_o1 hx (show κ 190 (mj s i) = 1 from hp) ea1, aI (κ 107 (mj s i)), rfl, ?_⟩
      have t8 := (show 0 ≤ κ 107 (mj s i) ∧ κ 107 (mj s i) ≤ 65536 from hV.g 107 (mj s i) rfl)
      refine ⟨by omega, ?_⟩
      refine ⟨by omega, fun (e9 : ¬ ((κ 5 p.toNat) = (κ 107 (mj s i)))) => ?_, fun (e9 : (κ 5 p.toNat) = (κ 107 (mj s i))) => ?_⟩
      · refine ⟨_, hk_o1 hx (show κ 190 (mj s i) = 1 from hp) ea1, (show 0 = 0 ∨ 0 = 1 from by omega), _, kp_108 hx (show κ 190 (mj s i) = 1 from hp) (v := 0) ea1, ?_⟩
        have hV10 := hV.u (f := 108) (k := (mj s i)) (v := 0) rfl (show 0 ≤ 0 ∧ 0 ≤ 1 from by omega)
        have hx11 := kx_u (f := 108) (k := (mj s i)) (v := 0) rfl hx
        exact ⟨kRetVS  (by first | exact (if_neg e2).trans ((if_pos e4).trans (if_neg e9)) | (unfold s_hearLostR; rw [if_neg e2, if_pos e4, if_neg e9])) hx11 hV10, Nat.le_refl _, Nat.le_refl _⟩
      · refine ⟨_, hk_o1 hx (show κ 190 (mj s i) = 1 from hp) ea1, (show 1 = 0 ∨ 1 = 1 from by omega), _, kp_108 hx (show κ 190 (mj s i) = 1 from hp) (v := 1) ea1, ?_⟩
        have hV12 := hV.u (f := 108) (k := (mj s i)) (v := 1) rfl (show 0 ≤ 1 ∧ 1 ≤ 1 from by omega)
        have hx13 := kx_u (f := 108) (k := (mj s i)) (v := 1) rfl hx
        exact ⟨kRetVS  (by first | exact (if_neg e2).trans ((if_pos e4).trans (if_pos e9)) | (unfold s_hearLostR; rw [if_neg e2, if_pos e4, if_pos e9])) hx13 hV12, Nat.le_refl _, Nat.le_refl _⟩
  · refine ⟨_, hk_o1 hx (show κ 190 (mj s i) = 1 from hp) ea1, (show 1 = 0 ∨ 1 = 1 from by omega), _, kp_110 hx (show κ 190 (mj s i) = 1 from hp) (v := 1) ea1, ?_⟩
    have hV14 := hV.u (f := 110) (k := (mj s i)) (v := 1) rfl (show 0 ≤ 1 ∧ 1 ≤ 1 from by omega)
    have hx15 := kx_u (f := 110) (k := (mj s i)) (v := 1) rfl hx
    exact ⟨kRetVS  (by first | exact if_pos e2 | (unfold s_hearLostR; rw [if_pos e2])) hx15 hV14, Nat.le_refl _, Nat.le_refl _⟩
set_option maxRecDepth 100000 in
theorem s_hearLostR_fr {f kk : Nat} {p s i : Int} (hf : (!([108, 110].elem f)) = true) : s_hearLostR κ p s i f kk = κ f kk := by
  have n108 : f ≠ 108 := by rintro rfl; exact absurd hf (by decide)
  have n110 : f ≠ 110 := by rintro rfl; exact absurd hf (by decide)
  have f108 : ∀ (m : Nat → Nat → Int) (a b : Nat) (v : Int), u2 m 108 a v f b = m f b := fun m a b v => u2_f n108
  have f110 : ∀ (m : Nat → Nat → Int) (a b : Nat) (v : Int), u2 m 110 a v f b = m f b := fun m a b v => u2_f n110
  unfold s_hearLostR
  repeat' with_reducible apply f_ite
  all_goals first | rfl | simp only [f108, f110]
set_option maxRecDepth 100000 in
theorem m_hearLostSN (hF : mm_F G) (htr : L.stackTraces = false) (hx : kx B bx κ) (hV : kV κ) {p : Int} {a0 : Nat} (ea0 : a0 = B 0 p.toNat) (hf1 : 0 ≤ p) (hf2 : p ≤ 64) :
    mm_Met L G SX3_hearLostOfSending [.ref a0, .null] (hk G B bx h0 κ) 0 0 (mRet none (hk G B bx h0 κ)) mm_no := by
  refine mi_meth MX3_hearLostOfSending 400 hF htr okX3_hearLostOfSending (av := [aR a0, aN]) (by decide +kernel) (Nat.le_of_ble_eq_true rfl) cmX3_hearLostOfSending (fun θ hc => ?_)
  exact ⟨kRetV , Nat.le_refl _, Nat.le_refl _⟩
def s_hearLostS (κ : Nat → Nat → Int) (p s i : Int) : Nat → Nat → Int := (if (κ 3 p.toNat) = 8 then (if (κ 6 p.toNat) = 1 then (s_markLost κ s i (κ 8 p.toNat) (κ 9 p.toNat) 1) else (s_markLost κ s i (κ 8 p.toNat) (κ 9 p.toNat) 0)) else (if (κ 3 p.toNat) = 4 then (u2 κ 211 (mj s i) 1) else (if (κ 5 p.toNat) = (κ 209 (mj s i)) then (u2 κ 209 (mj s i) (-1)) else κ)))
set_option maxRecDepth 100000 in
theorem m_hearLostS (hF : mm_F G) (htr : L.stackTraces = false) (hx : kx B bx κ) (hV : kV κ) {p s i : Int} {a0 a1 : Nat} (ea0 : a0 = B 0 p.toNat) (ea1 : a1 = B 2 (mj s i)) (hf1 : 0 ≤ p) (hf2 : p ≤ 64) (hp : κ 290 (mj s i) = 1) (hs : kSe κ s i) (hun : κ 3 p.toNat = 8 → κ 8 p.toNat + κ 9 p.toNat ≤ κ 600 (κ 202 (mj s i)).toNat) :
    mm_Met L G SX3_hearLostOfSending [.ref a0, .ref a1] (hk G B bx h0 κ) 0 0 (mRetS none (hk G B bx h0 (s_hearLostS κ p s i)) (kx B bx (s_hearLostS κ p s i) ∧ kV (s_hearLostS κ p s i))) mm_no := by
  refine mi_meth MX3_hearLostOfSending 400 hF htr okX3_hearLostOfSending (av := [aR a0, aR a1]) (by decide +kernel) (Nat.le_of_ble_eq_true rfl) cmX3_hearLostOfSending (fun θ hc => ?_)
  obtain ⟨hk2, ha2, ha1, hl, h34, hL, hH, h39⟩ := hs
  have z9 : 0 ≤ κ 600 (κ 202 (mj s i)).toNat ∧ κ 600 (κ 202 (mj s i)).toNat ≤ 65536 := hV.g 600 _ rfl
  refine ⟨_, hk_o0 hx (show p.toNat < 65 from by omega) ea0, aI (κ 3 p.toNat), rfl, ?_⟩
  have t1 := (show 0 ≤ κ 3 p.toNat ∧ κ 3 p.toNat ≤ 23 from hV.g 3 p.toNat rfl)
  refine ⟨by omega, fun (e2 : ¬ ((κ 3 p.toNat) = 8)) => ?_, fun (e2 : (κ 3 p.toNat) = 8) => ?_⟩
  · refine ⟨_, hk_o0 hx (show p.toNat < 65 from by omega) ea0, aI (κ 3 p.toNat), rfl, ?_⟩
    refine ⟨by omega, fun (e3 : ¬ ((κ 3 p.toNat) = 4)) => ?_, fun (e3 : (κ 3 p.toNat) = 4) => ?_⟩
    · refine ⟨_, hk_o0 hx (show p.toNat < 65 from by omega) ea0, aL (κ 5 p.toNat), rfl, ?_⟩
      have t4 := (show 0 ≤ κ 5 p.toNat ∧ κ 5 p.toNat ≤ 4611686018427387903 from hV.g 5 p.toNat rfl)
      refine ⟨_, hk_o2 hx (show κ 290 (mj s i) = 1 from hp) ea1, aL (κ 209 (mj s i)), rfl, ?_⟩
      have t5 := (show -1 ≤ κ 209 (mj s i) ∧ κ 209 (mj s i) ≤ 4611686018427387903 from hV.g 209 (mj s i) rfl)
      refine ⟨by omega, fun (e6 : ¬ ((κ 5 p.toNat) = (κ 209 (mj s i)))) => ?_, fun (e6 : (κ 5 p.toNat) = (κ 209 (mj s i))) => ?_⟩
      · exact ⟨kRetVS  (by first | exact (if_neg e2).trans ((if_neg e3).trans (if_neg e6)) | (unfold s_hearLostS; rw [if_neg e2, if_neg e3, if_neg e6])) hx hV, Nat.le_refl _, Nat.le_refl _⟩
      · refine ⟨(-1), rfl, ?_⟩
        refine ⟨_, hk_o2 hx (show κ 290 (mj s i) = 1 from hp) ea1, trivial, _, kp_209 hx (show κ 290 (mj s i) = 1 from hp) (v := -1) ea1, ?_⟩
        have hV7 := hV.u (f := 209) (k := (mj s i)) (v := -1) rfl (show -1 ≤ (-1) ∧ (-1) ≤ 4611686018427387903 from by omega)
        have hx8 := kx_u (f := 209) (k := (mj s i)) (v := -1) rfl hx
        exact ⟨kRetVS  (by first | exact (if_neg e2).trans ((if_neg e3).trans (if_pos e6)) | (unfold s_hearLostS; rw [if_neg e2, if_neg e3, if_pos e6])) hx8 hV7, Nat.le_refl _, Nat.le_refl _⟩
    · refine ⟨_, hk_o2 hx (show κ 290 (mj s i) = 1 from hp) ea1, (show 1 = 0 ∨ 1 = 1 from by omega), _, kp_211 hx (show κ 290 (mj s i) = 1 from hp) (v := 1) ea1, ?_⟩
      have hV9 := hV.u (f := 211) (k := (mj s i)) (v := 1) rfl (show 0 ≤ 1 ∧ 1 ≤ 1 from by omega)
      have hx10 := kx_u (f := 211) (k := (mj s i)) (v := 1) rfl hx
      exact ⟨kRetVS  (by first | exact (if_neg e2).trans (if_pos e3) | (unfold s_hearLostS; rw [if_neg e2, if_pos e3])) hx10 hV9, Nat.le_refl _, Nat.le_refl _⟩
  · refine ⟨_, hk_o0 hx (show p.toNat < 65 from by omega) ea0, aI (κ 8 p.toNat), rfl, ?_⟩
    have t11 := (show 0 ≤ κ 8 p.toNat ∧ κ 8 p.toNat ≤ 65536 from hV.g 8 p.toNat rfl)
    refine ⟨_, hk_o0 hx (show p.toNat < 65 from by omega) ea0, aI (κ 9 p.toNat), rfl, ?_⟩
    have t12 := (show 0 ≤ κ 9 p.toNat ∧ κ 9 p.toNat ≤ 2048 from hV.g 9 p.toNat rfl)
    refine ⟨_, hk_o0 hx (show p.toNat < 65 from by omega) ea0, aL (κ 6 p.toNat), rfl, ?_⟩
    have t13 := (show 0 ≤ κ 6 p.toNat ∧ κ 6 p.toNat ≤ 4611686018427387903 from hV.g 6 p.toNat rfl)
    refine ⟨1, rfl, ?_⟩
    refine ⟨by omega, fun (e14 : ¬ ((κ 6 p.toNat) = 1)) => ?_, fun (e14 : (κ 6 p.toNat) = 1) => ?_⟩
    · refine ⟨⟨_, hk_o2 hx (show κ 290 (mj s i) = 1 from hp) ea1⟩, _, _, _, _, (m_markLost hF htr hx hV (s := s) (i := i) (u := (κ 8 p.toNat)) (n := (κ 9 p.toNat)) (g := 0) ea1 (show κ 290 (mj s i) = 1 from hp) (by omega) (by omega) (by omega) (by omega) (by omega) (by omega) (by have z := mR_sub (g := κ (1000 + (κ 202 (mj s i)).toNat)) (c := 2) (u := (κ 8 p.toNat)) (v := (κ 8 p.toNat) + (κ 9 p.toNat)) (b := κ 600 (κ 202 (mj s i)).toNat) (by omega) (by omega) (by omega); have z2 := mR_two (g := κ (1000 + (κ 202 (mj s i)).toNat)) (c := 3) (d := 2) (by decide) (κ 600 (κ 202 (mj s i)).toNat) (by omega); omega)), Nat.le_refl _, Nat.le_refl _, mkis_ (r := none) (fun ⟨hx16, hV15⟩ => ?_), fun _ _ q => q.elim⟩
      exact ⟨kRetVS  (by first | exact (if_pos e2).trans (if_neg e14) | (unfold s_hearLostS; rw [if_pos e2, if_neg e14])) hx16 hV15, Nat.le_refl _, Nat.le_refl _⟩
    · refine ⟨⟨_, hk_o2 hx (show κ 290 (mj s i) = 1 from hp) ea1⟩, _, _, _, _, (m_markLost hF htr hx hV (s := s) (i := i) (u := (κ 8 p.toNat)) (n := (κ 9 p.toNat)) (g := 1) ea1 (show κ 290 (mj s i) = 1 from hp) (by omega) (by omega) (by omega) (by omega) (by omega) (by omega) (by have z := mR_sub (g := κ (1000 + (κ 202 (mj s i)).toNat)) (c := 2) (u := (κ 8 p.toNat)) (v := (κ 8 p.toNat) + (κ 9 p.toNat)) (b := κ 600 (κ 202 (mj s i)).toNat) (by omega) (by omega) (by omega); have z2 := mR_two (g := κ (1000 + (κ 202 (mj s i)).toNat)) (c := 3) (d := 2) (by decide) (κ 600 (κ 202 (mj s i)).toNat) (by omega); omega)), Nat.le_refl _, Nat.le_refl _, mkis_ (r := none) (fun ⟨hx18, hV17⟩ => ?_), fun _ _ q => q.elim⟩
      exact ⟨kRetVS  (by first | exact (if_pos e2).trans (if_pos e14) | (unfold s_hearLostS; rw [if_pos e2, if_pos e14])) hx18 hV17, Nat.le_refl _, Nat.le_refl _⟩
set_option maxRecDepth 100000 in
theorem s_hearLostS_fr {f kk : Nat} {p s i : Int} (hf : (Nat.blt f 1000 && !([205, 207, 209, 211].elem f)) = true) : s_hearLostS κ p s i f kk = κ f kk := by
  have n205 : f ≠ 205 := by rintro rfl; exact absurd hf (by decide)
  have n207 : f ≠ 207 := by rintro rfl; exact absurd hf (by decide)
  have n209 : f ≠ 209 := by rintro rfl; exact absurd hf (by decide)
  have n211 : f ≠ 211 := by rintro rfl; exact absurd hf (by decide)
  have lt : f < 1000 := Nat.le_of_ble_eq_true (Bool.and_eq_true_iff.mp hf).1
  have f205 : ∀ (m : Nat → Nat → Int) (a b : Nat) (v : Int), u2 m 205 a v f b = m f b := fun m a b v => u2_f n205
  have f207 : ∀ (m : Nat → Nat → Int) (a b : Nat) (v : Int), u2 m 207 a v f b = m f b := fun m a b v => u2_f n207
  have f209 : ∀ (m : Nat → Nat → Int) (a b : Nat) (v : Int), u2 m 209 a v f b = m f b := fun m a b v => u2_f n209
  have f211 : ∀ (m : Nat → Nat → Int) (a b : Nat) (v : Int), u2 m 211 a v f b = m f b := fun m a b v => u2_f n211
  have fw : ∀ (m : Nat → Nat → Int) (r a b : Nat) (v : Int), u2 m (1000 + r) a v f b = m f b := fun m r a b v => u2_f (by omega)
  have c_markLost : ∀ (m : Nat → Nat → Int) (z_s z_i z_u z_n z_g : Int) (k : Nat), s_markLost m z_s z_i z_u z_n z_g f k = m f k := by intros; exact s_markLost_fr (Bool.and_eq_true_iff.mpr ⟨Nat.ble_eq_true_of_le lt, by simp only [List.elem_cons, List.elem_nil, beq_eq_false_iff_ne.mpr n205, beq_eq_false_iff_ne.mpr n207]; rfl⟩)
  unfold s_hearLostS
  repeat' with_reducible apply f_ite
  all_goals first | rfl | simp only [f205, f207, f209, f211, fw, c_markLost]
end KF
