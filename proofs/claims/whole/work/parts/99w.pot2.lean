section R62
variable {κ μ κ' μ' ν E : Nat → Nat → Int} {O O' : Nat → Nat}
theorem over_p {s i : Int} : kPot (s_growIfOver κ s i) = kPot κ := kPot_cg (fun f hf k => by
  unfold kPf at hf
  rcases hf with rfl | rfl | rfl | rfl | rfl <;> exact s_growIfOver_fr rfl)
theorem settle_p {s i : Int} : kPot (s_settle κ s i) = kPot κ := kPot_cg (fun f hf k => by
  unfold kPf at hf
  rcases hf with rfl | rfl | rfl | rfl | rfl <;> exact s_settle_fr rfl)
theorem gData_p {s : Int} : kPot (s_growDataGrant κ s) = kPot κ := kPot_cg (fun f hf k => by
  unfold kPf at hf
  rcases hf with rfl | rfl | rfl | rfl | rfl <;> exact s_growDataGrant_fr rfl)
theorem u_p {f k : Nat} {v : Int} (hf : ¬ kPf f) : kPot (u2 κ f k v) = kPot κ := kPot_cg (fun g hg q => u2_f (fun e => hf (e ▸ hg)))
theorem n100 : ¬ kPf 100 := by unfold kPf; omega
theorem n104 : ¬ kPf 104 := by unfold kPf; omega
theorem n105 : ¬ kPf 105 := by unfold kPf; omega
theorem n112 : ¬ kPf 112 := by unfold kPf; omega
theorem n312 : ¬ kPf 312 := by unfold kPf; omega
theorem n313 : ¬ kPf 313 := by unfold kPf; omega
theorem Rg_u {f k : Nat} {v : Int} (hf : ¬ (kPf f ∨ f = 602)) (g : kRg κ) : kRg (u2 κ f k v) := kRg_cg (fun h hg q => u2_f (fun e => hf (e ▸ hg))) g
theorem reach_p {s i p e g : Int} (h1 : 0 ≤ s) (h2 : s ≤ 1) (h3 : 0 ≤ i) (h4 : i < 256) (h602 : 2 ≤ κ 602 0) (hg : kRg κ) (hp : κ 190 (mj s i) = 1) (he : e ≤ 65536) : kPot κ + kRea κ p s i e ≤ kPot (s_reach κ s i p e g) := by
  unfold s_reach kRea
  by_cases c1 : v_rLive κ s i = 0
  · rw [if_pos c1, if_pos (Or.inl c1), u_p n104, u_p n312]; simp
  rw [if_neg c1]
  by_cases c3 : κ 3 p.toNat = 4
  · rw [if_pos (Or.inr c3)]
    by_cases c2 : g = 0
    · rw [if_pos c2, if_pos c3, over_p, gData_p, u_p n313, u_p n112, u_p n100, u_p n104, u_p n312]; simp
    · rw [if_neg c2, if_pos c3, over_p, gData_p, u_p n313, u_p n112, u_p n100, u_p n105, u_p n104, u_p n312]; simp
  · rw [if_neg (fun z => z.elim c1 c3)]
    by_cases c2 : g = 0
    · rw [if_pos c2, if_neg c3, over_p, settle_p]
      have := bring_p (κ := u2 (u2 κ 312 s.toNat ((κ 312 s.toNat) + (v_maxI 0 (e - (κ 104 (mj s i)))))) 104 (mj s i) (v_maxI (κ 104 (mj s i)) e)) (s := s) (i := i) (p := p) (u := e - κ 9 p.toNat) h1 h2 h3 h4 (by rw [u2_f (by decide), u2_f (by decide)]; exact h602) (Rg_u (by unfold kPf; omega) (Rg_u (by unfold kPf; omega) hg)) (by rw [u2_f (by decide), u2_f (by decide)]; exact hp) (by rw [u2_f (by decide), u2_f (by decide)]; omega)
      rw [u_p n104, u_p n312] at this
      exact this
    · rw [if_neg c2, if_neg c3, over_p, settle_p]
      have := bring_p (κ := u2 (u2 (u2 κ 312 s.toNat ((κ 312 s.toNat) + (v_maxI 0 (e - (κ 104 (mj s i)))))) 104 (mj s i) (v_maxI (κ 104 (mj s i)) e)) 105 (mj s i) e) (s := s) (i := i) (p := p) (u := e - κ 9 p.toNat) h1 h2 h3 h4 (by rw [u2_f (by decide), u2_f (by decide), u2_f (by decide)]; exact h602) (Rg_u (by unfold kPf; omega) (Rg_u (by unfold kPf; omega) (Rg_u (by unfold kPf; omega) hg))) (by rw [u2_f (by decide), u2_f (by decide), u2_f (by decide)]; exact hp) (by rw [u2_f (by decide), u2_f (by decide), u2_f (by decide)]; omega)
      rw [u_p n105, u_p n104, u_p n312] at this
      exact this
/-- what is asked of a state in which a frame is taken -/
def kPd (κ : Nat → Nat → Int) (s : Int) : Prop := kV κ ∧ 2 ≤ κ 602 0 ∧ kRg κ ∧ kNT κ s ∧ κ 360 ((16 * s) + 8).toNat ≤ 64 ∧ κ 360 ((16 * s) + 9).toNat ≤ 64
theorem tfr_p {s p : Int} (h1 : 0 ≤ s) (h2 : s ≤ 1) (h : kPd κ s) : kPot κ + kTfr κ s p ≤ kPot (s_takeForReceiving κ s p) := by
  obtain ⟨hK, h602, hg, hN, g8, g9⟩ := h
  have k4 : 0 ≤ κ 4 p.toNat := (hK.1 4 _).1
  by_cases e1 : v_streamError κ s (κ 4 p.toNat) 0 = 0
  · have i4 := streamError_0 hK h1 k4 g8 g9 e1
    obtain ⟨t1, t2, t3⟩ := makeThere_p h1 h2 k4 i4 (hK.1 404 _).1 h602 hg hN
    have go : ∀ e g : Int, kEnd κ p = e → kGe κ p = g → ¬ κ 3 p.toNat = 21 → (v_bytesError κ s (κ 4 p.toNat) e g = 0 → s_takeForReceiving κ s p = if (s_makeThere κ s (κ 4 p.toNat)) 190 (mj s (κ 4 p.toNat)) = 1 then s_reach (s_makeThere κ s (κ 4 p.toNat)) s (κ 4 p.toNat) p e g else s_makeThere κ s (κ 4 p.toNat)) → (¬ v_bytesError κ s (κ 4 p.toNat) e g = 0 → s_takeForReceiving κ s p = κ) → kPot κ + kTfr κ s p ≤ kPot (s_takeForReceiving κ s p) := by
      intro e g x1 x2 x3 x4 x5
      unfold kTfr
      rw [x1, x2]
      by_cases c4 : v_bytesError κ s (κ 4 p.toNat) e g = 0
      · rw [x4 c4]
        by_cases c5 : (s_makeThere κ s (κ 4 p.toNat)) 190 (mj s (κ 4 p.toNat)) = 1
        · rw [if_pos c5, if_neg (fun z => z.elim x3 (fun z => z.elim (fun z => z e1) (fun z => z.elim (fun z => z c5) (fun z => z c4))))]
          have := reach_p (κ := s_makeThere κ s (κ 4 p.toNat)) (p := p) (e := e) (g := g) h1 h2 k4 i4 t3 t2 c5 (bytesError_0 hK c4)
          omega
        · rw [if_neg c5, if_pos (Or.inr (Or.inr (Or.inl c5)))]
          simp
          exact t1
      · rw [x5 c4, if_pos (Or.inr (Or.inr (Or.inr c4)))]
        simp
    by_cases e2 : κ 3 p.toNat = 21
    · unfold s_takeForReceiving kTfr
      rw [if_pos e1, if_pos e2, if_pos (Or.inl e2)]
      simp
      exact t1
    · by_cases e3 : κ 3 p.toNat = 4
      · refine go (κ 6 p.toNat) 1 (if_pos e3) (if_pos (Or.inl e3)) e2 (fun z => ?_) (fun z => ?_)
        · unfold s_takeForReceiving
          rw [if_pos e1, if_neg e2, if_pos e3, if_pos z]
        · unfold s_takeForReceiving
          rw [if_pos e1, if_neg e2, if_pos e3, if_neg z]
      · by_cases e6 : κ 6 p.toNat = 1
        · refine go ((κ 5 p.toNat) + (κ 9 p.toNat)) 1 (if_neg e3) (if_pos (Or.inr e6)) e2 (fun z => ?_) (fun z => ?_)
          · unfold s_takeForReceiving
            rw [if_pos e1, if_neg e2, if_neg e3, if_pos e6, if_pos z]
          · unfold s_takeForReceiving
            rw [if_pos e1, if_neg e2, if_neg e3, if_pos e6, if_neg z]
        · refine go ((κ 5 p.toNat) + (κ 9 p.toNat)) 0 (if_neg e3) (if_neg (fun z => z.elim e3 e6)) e2 (fun z => ?_) (fun z => ?_)
          · unfold s_takeForReceiving
            rw [if_pos e1, if_neg e2, if_neg e3, if_neg e6, if_pos z]
          · unfold s_takeForReceiving
            rw [if_pos e1, if_neg e2, if_neg e3, if_neg e6, if_neg z]
  · unfold s_takeForReceiving kTfr
    rw [if_neg e1, if_pos (Or.inr (Or.inl e1))]
    simp
theorem tfs_p {s p : Int} (h1 : 0 ≤ s) (h2 : s ≤ 1) (h : kPd κ s) : kPot κ ≤ kPot (s_takeForSending κ s p) := by
  obtain ⟨hK, h602, hg, hN, g8, g9⟩ := h
  have k4 : 0 ≤ κ 4 p.toNat := (hK.1 4 _).1
  unfold s_takeForSending
  by_cases e1 : v_streamError κ s (κ 4 p.toNat) 1 = 0
  · have i4 := streamError_0 hK h1 k4 g8 g9 e1
    obtain ⟨t1, t2, t3⟩ := makeThere_p h1 h2 k4 i4 (hK.1 404 _).1 h602 hg hN
    rw [if_pos e1]
    repeat' split
    all_goals first
      | exact t1
      | (rw [u_p (by unfold kPf; omega)]; exact t1)
      | (rw [u_p (by unfold kPf; omega), u_p (by unfold kPf; omega), u_p (by unfold kPf; omega)]; exact t1)
  · rw [if_neg e1]; exact Int.le_refl _
theorem ite_p {a : Int} {c : Prop} [Decidable c] {x y : Nat → Nat → Int} (h1 : c → a ≤ kPot x) (h2 : ¬ c → a ≤ kPot y) : a ≤ kPot (if c then x else y) := by
  by_cases e : c
  · rw [if_pos e]; exact h1 e
  · rw [if_neg e]; exact h2 e
theorem tin_p {s p : Int} (h1 : 0 ≤ s) (h2 : s ≤ 1) (h : kPd κ s) : kPot κ + kTin κ s p ≤ kPot (s_takeIn κ s p) := by
  have A := tfr_p (p := p) h1 h2 h
  have B := tfs_p (p := p) h1 h2 h
  have k3 : 0 ≤ κ 3 p.toNat ∧ κ 3 p.toNat ≤ 23 := ⟨(h.1.1 3 _).1, (h.1.1 3 _).2 rfl⟩
  have C : kTin κ s p ≤ kTfr κ s p := by unfold kTin; split <;> omega
  have D : 16 ≤ κ 3 p.toNat ∨ κ 3 p.toNat = 5 → kTin κ s p = 0 := fun z => if_pos z
  have F : ∀ v, kPot (u2 κ 310 s.toNat v) = kPot κ := fun v => u_p (by unfold kPf; omega)
  have H : ∀ w v, kPot (s_raiseLimit κ w v) = kPot κ := fun w v => kPot_cg (fun f hf k => by
    unfold kPf at hf
    rcases hf with rfl | rfl | rfl | rfl | rfl <;> exact s_raiseLimit_fr rfl)
  unfold s_takeIn
  refine ite_p (fun e => by omega) (fun e5 => ?_)
  refine ite_p (fun e => by omega) (fun e6 => ?_)
  refine ite_p (fun e => by omega) (fun e7 => ?_)
  refine ite_p (fun e => by omega) (fun e8 => ?_)
  refine ite_p (fun e => by omega) (fun e9 => ?_)
  refine ite_p (fun e => by omega) (fun e10 => ?_)
  refine ite_p (fun e => by omega) (fun e11 => ?_)
  refine ite_p (fun e => by omega) (fun e12 => ?_)
  refine ite_p (fun e => by omega) (fun e13 => ?_)
  refine ite_p (fun e => by omega) (fun e14 => ?_)
  refine ite_p (fun e => by omega) (fun e15 => ?_)
  refine ite_p (fun e => by rw [F]; omega) (fun e16 => ?_)
  refine ite_p (fun e => by omega) (fun e17 => ?_)
  refine ite_p (fun e => by rw [H]; omega) (fun e18 => ?_)
  refine ite_p (fun e => by rw [H]; omega) (fun e19 => ?_)
  refine ite_p (fun e => by omega) (fun e20 => ?_)
  refine ite_p (fun e => by omega) (fun e21 => ?_)
  refine ite_p (fun e => by omega) (fun e22 => ?_)
  refine ite_p (fun e => by omega) (fun e23 => ?_)
  omega
theorem deliver_p {p : Int} (h : ∀ s : Int, 0 ≤ s → s ≤ 1 → kPd κ s) : kPot κ + kDel κ p ≤ kPot (s_kDeliver κ p) := by
  unfold s_kDeliver kDel
  by_cases e : e_frameAt κ p = 0
  · have hK := (h 0 (by omega) (by omega)).1
    have k2 : 0 ≤ κ 2 p.toNat ∧ κ 2 p.toNat ≤ 1 := ⟨(hK.1 2 _).1, (hK.1 2 _).2 rfl⟩
    have := tin_p (p := p) (s := 1 - κ 2 p.toNat) (by omega) (by omega) (h _ (by omega) (by omega))
    rw [if_pos e, if_pos e]
    split
    · rw [u_p (by unfold kPf; omega)]; exact this
    · exact this
  · rw [if_neg e, if_neg e]; simp
theorem kTake_V (hK : kV κ) {s u a b c : Int} (h : kTc κ s u a b c) : kV (kTake κ u a b c) := by
  obtain ⟨t1, t2, t3, t4, t5, t6, t7⟩ := h
  have na := isNumber_1 t3
  have nb := isNumber_1 t4
  have nc := isNumber_1 t5
  have nu := isKind_1 t2
  have k5 : 0 ≤ κ 505 0 ∧ κ 505 0 ≤ 2048 := ⟨(hK.1 505 _).1, (hK.1 505 _).2 rfl⟩
  exact ((((((((hK.u (f := 3) rfl ⟨show 0 ≤ u by omega, show u ≤ 23 by omega⟩).u (f := 4) rfl na).u (f := 5) rfl nb).u (f := 6) rfl nc).pl (f := 7) rfl (show -1 ≤ (0 : Int) by decide)).u (f := 8) rfl (by decide)).u (f := 9) rfl k5).u (f := 505) rfl (by decide))
theorem kTake_Pd {s u a b c : Int} (hc : kTc κ s u a b c) (h : kPd κ s) : kPd (kTake κ u a b c) s := by
  obtain ⟨hK, h602, hg, hN, g8, g9⟩ := h
  refine ⟨kTake_V hK hc, ?_, kRg_cg (fun f hf k => kTake_o (by unfold kPf at hf; omega) (by unfold kPf at hf; omega)) hg, fun i x1 x2 x3 m x4 x5 => ?_, ?_, ?_⟩
  · rw [kTake_o (by omega) (by omega)]; exact h602
  · rw [kTake_o (by omega) (by omega)] at x4
    rw [kTake_o (by omega) (by omega), kTake_o (by omega) (by omega)]
    exact hN i x1 x2 x3 m x4 x5
  · rw [kTake_o (by omega) (by omega)]; exact g8
  · rw [kTake_o (by omega) (by omega)]; exact g9
/-- take, allowed, and what it does -/
theorem kTc_e {s u a b c : Int} (h : e_kTakeM κ s u a b c = 0) : kTc κ s u a b c ∧ s_kTakeM κ s u a b c = s_takeIn (kTake κ u a b c) s 64 := by
  have b1 := e_sideAt_b (κ := κ) (s := s)
  have b2 := e_needJoined_b (κ := κ)
  unfold e_kTakeM at h
  unfold s_kTakeM kTc
  by_cases e1 : e_sideAt κ s = 0
  · rw [if_pos e1] at h ⊢
    by_cases e2 : v_isKind u = 0
    · rw [if_pos e2] at h; omega
    rw [if_neg e2] at h ⊢
    by_cases e3 : v_isNumber a = 0
    · rw [if_pos e3] at h; omega
    rw [if_neg e3] at h ⊢
    by_cases e4 : v_isNumber b = 0
    · rw [if_pos e4] at h; omega
    rw [if_neg e4] at h ⊢
    by_cases e5 : v_isNumber c = 0
    · rw [if_pos e5] at h; omega
    rw [if_neg e5] at h ⊢
    by_cases e6 : u = 8
    · rw [if_pos e6] at h ⊢
      by_cases e7 : 4611686018427380000 < b
      · rw [if_pos e7] at h; omega
      rw [if_neg e7] at h ⊢
      by_cases e8 : c ≤ 1
      · rw [if_pos e8] at h ⊢
        by_cases e9 : e_needJoined κ = 0
        · rw [if_pos e9]
          exact ⟨⟨e1, e2, e3, e4, e5, fun _ => ⟨by omega, e8⟩, e9⟩, rfl⟩
        · rw [if_neg e9] at h; omega
      · rw [if_neg e8] at h; omega
    · rw [if_neg e6] at h ⊢
      by_cases e9 : e_needJoined κ = 0
      · rw [if_pos e9]
        exact ⟨⟨e1, e2, e3, e4, e5, fun z => absurd z e6, e9⟩, rfl⟩
      · rw [if_neg e9] at h; omega
  · rw [if_neg e1] at h; omega
theorem kTc_n {s u a b c : Int} (h : ¬ e_kTakeM κ s u a b c = 0) : ¬ kTc κ s u a b c := by
  intro ⟨e1, e2, e3, e4, e5, e6, e9⟩
  apply h
  unfold e_kTakeM
  rw [if_pos e1, if_neg e2, if_neg e3, if_neg e4, if_neg e5]
  by_cases z : u = 8
  · obtain ⟨z1, z2⟩ := e6 z
    rw [if_pos z, if_neg (by omega), if_pos z2, if_pos e9]
  · rw [if_neg z, if_pos e9]
theorem take_p {s u a b c : Int} (he : e_kTakeM κ s u a b c = 0) (h : ∀ s : Int, 0 ≤ s → s ≤ 1 → kPd κ s) : kPot κ + kTkc κ s u a b c ≤ kPot (s_kTakeM κ s u a b c) := by
  obtain ⟨hc, eS⟩ := kTc_e he
  have hs : 0 ≤ s ∧ s ≤ 1 := by
    rcases sideAt_c (κ := κ) s with ⟨e, z⟩ | ⟨e, z⟩
    · exact z
    · have := hc.1; omega
  have := tin_p (κ := kTake κ u a b c) (s := s) (p := 64) hs.1 hs.2 (kTake_Pd hc (h s hs.1 hs.2))
  rw [kPot_cg (κ := κ) (κ' := kTake κ u a b c) (fun f hf k => kTake_o (by unfold kPf at hf; omega) (by unfold kPf at hf; omega))] at this
  rw [eS]
  unfold kTkc
  rw [if_pos hc]
  exact this
theorem open_p {s p : Int} (he : e_kOpen κ s p = 0) (hs : 0 ≤ s ∧ s ≤ 1) (h602 : 2 ≤ κ 602 0) (hg : kRg κ) (h3 : p = 0 ∨ p = 1) (k400 : ∀ w : Int, w = 0 ∨ w = 1 → 0 ≤ κ 400 ((2 * s) + w).toNat ∧ κ 401 ((2 * s) + w).toNat ≤ 64)
    (hO : ∀ s w : Int, 0 ≤ s → s ≤ 1 → (w = 0 ∨ w = 1) → κ 400 ((2 * s) + w).toNat < κ 401 ((2 * s) + w).toNat → ¬ κ 290 (mj s ((((κ 400 ((2 * s) + w).toNat) * 4) + (w * 2)) + s)) = 1 ∧ ¬ κ 190 (mj s ((((κ 400 ((2 * s) + w).toNat) * 4) + (w * 2)) + s)) = 1) : kPot κ ≤ kPot (s_kOpen κ s p) := by
  have go : ∀ w : Int, w = 0 ∨ w = 1 → kPot κ ≤ kPot (s_openNext κ s w) := by
    intro w hw
    unfold s_openNext
    by_cases c : (κ 400 ((2 * s) + w).toNat) < (κ 401 ((2 * s) + w).toNat)
    · rw [if_pos c]
      have k := k400 w hw
      obtain ⟨R1, R2, R3, h⟩ := makeParts_s (κ := u2 κ 400 ((2 * s) + w).toNat ((κ 400 ((2 * s) + w).toNat) + 1)) (by rw [u2_f (by decide)]; exact h602) hs.1 hs.2 (i := (((κ 400 ((2 * s) + w).toNat) * 4) + (w * 2)) + s) (by omega) (by omega)
      have := parts_p (by rw [u2_f (by decide)]; exact h602) (Rg_u (by unfold kPf; omega) hg) (by rw [u2_f (by decide), u2_f (by decide)]; exact hO s w hs.1 hs.2 hw c) h
      rw [u_p (by unfold kPf; omega)] at this
      exact this.1
    · rw [if_neg c, u_p (by unfold kPf; omega)]
      exact Int.le_refl _
  unfold s_kOpen
  exact ite_p (fun _ => ite_p (fun _ => ite_p (fun _ => go 1 (Or.inr rfl)) (fun _ => go 0 (Or.inl rfl))) (fun _ => Int.le_refl _)) (fun _ => Int.le_refl _)
theorem accept_p {s i r n : Int} (hs : 0 ≤ s ∧ s ≤ 1) (h602 : 2 ≤ κ 602 0) (hg : kRg κ) (hn : 0 ≤ i → i < 256 → κ 290 (mj s i) = 1 → κ 203 (mj s i) + v_minI n (65536 - κ 308 s.toNat) ≤ 65536) : kPot κ + ((kAcc κ s i n : Nat) : Int) ≤ kPot (s_accept κ s i r n) := by
  unfold s_accept kAcc
  by_cases c1 : 0 ≤ i ∧ i < 256 ∧ κ 290 (mj s i) = 1
  · by_cases c2 : κ 200 (mj s i) = 0
    · rw [if_pos c1, if_pos c2, if_pos ⟨c1, c2⟩]
      exact Int.le_trans (append_p (r := r) hs.1 hs.2 c1.1 c1.2.1 h602 hg c1.2.2 (hn c1.1 c1.2.1 c1.2.2)) (Int.le_of_eq (u_p (by unfold kPf; omega)).symm)
    · rw [if_pos c1, if_neg c2, if_neg (fun z => c2 z.2)]; simp
  · rw [if_neg c1, if_neg (fun z => c1 z.1)]; simp
theorem write_p {s i : Int} (hs : 0 ≤ s ∧ s ≤ 1) (h602 : 2 ≤ κ 602 0) (hg : kRg κ) (hK : kV κ) (hS : ∀ s, 0 ≤ s → s ≤ 1 → kSRA κ s) : kPot κ + ((kAcc κ s i (κ 505 0) : Nat) : Int) ≤ kPot (s_kWrite κ s i) := by
  have e : e_sideAt κ s = 0 := by
    rcases sideAt_c (κ := κ) s with ⟨e, z⟩ | ⟨e, z⟩
    · exact e
    · omega
  have hka : kAcc (u2 κ 505 0 0) s i (κ 505 0) = kAcc κ s i (κ 505 0) := rfl
  have k5 : 0 ≤ κ 505 0 ∧ κ 505 0 ≤ 2048 := ⟨(hK.1 505 _).1, (hK.1 505 _).2 rfl⟩
  have key := accept_p (κ := u2 κ 505 0 0) (s := s) (i := i) (r := 0) (n := κ 505 0) hs (by rw [u2_f (by decide)]; exact h602) (Rg_u (by unfold kPf; omega) hg) (fun c1 c2 c3 => by
    rw [u2_f (by decide)] at c3
    have q := (hS s hs.1 hs.2 i c1 c2 c3).2.2
    rw [u2_f (by decide), u2_f (by decide)]
    unfold v_minI
    split <;> omega)
  rw [hka, u_p (κ := κ) (f := 505) (by unfold kPf; omega)] at key
  unfold s_kWrite
  rw [if_pos e]
  exact key
/-! how much all that may come to -/
theorem b2_sum (x : Int) : ∀ n : Nat, mSum (fun j => b2 (x = (j : Int))) n = if 0 ≤ x ∧ x < n then 1 else 0
  | 0 => by
    show (0 : Int) = _
    rw [if_neg (by omega)]
  | n + 1 => by
    show mSum (fun j => b2 (x = (j : Int))) n + b2 (x = (n : Int)) = _
    rw [b2_sum x n]
    rcases b2_c (x = (n : Int)) with ⟨e, z⟩ | ⟨e, z⟩
    · rw [z, if_neg (by omega), if_pos (by omega)]; rfl
    · rw [z]
      by_cases c : 0 ≤ x ∧ x < n
      · rw [if_pos c, if_pos (by omega)]; rfl
      · rw [if_neg c, if_neg (by omega)]; rfl
theorem mSum_add {h h' : Nat → Int} : ∀ n, mSum (fun j => h j + h' j) n = mSum h n + mSum h' n
  | 0 => rfl
  | n + 1 => by
    show mSum (fun j => h j + h' j) n + (h n + h' n) = (mSum h n + h n) + (mSum h' n + h' n)
    rw [mSum_add n]; omega
theorem mSum_mul {h : Nat → Int} (c : Int) : ∀ n, mSum (fun j => c * h j) n = c * mSum h n
  | 0 => by show (0 : Int) = c * 0; rw [Int.mul_zero]
  | n + 1 => by
    show mSum (fun j => c * h j) n + c * h n = c * (mSum h n + h n)
    rw [mSum_mul c n, Int.mul_add]
theorem rem_sum (g : Nat → Int) (a : Nat) : ∀ n : Nat, mSum (fun j => mRem g (j : Int) a n) 256 ≤ n
  | 0 => by
    have : ∀ m, mSum (fun j => mRem g (j : Int) a 0) m = 0 := fun m => by
      induction m with
      | zero => rfl
      | succ m ih => show mSum (fun j => mRem g (j : Int) a 0) m + 0 = 0; rw [ih]; rfl
    rw [this]; exact Int.le_refl _
  | n + 1 => by
    have ih := rem_sum g a n
    have e : mSum (fun j => mRem g (j : Int) a (n + 1)) 256 = mSum (fun j => mRem g (j : Int) a n) 256 + mSum (fun j => b2 (g (a + n) = (j : Int))) 256 := by
      rw [← mSum_add]
      exact mSum_cg 256 (fun k hk => mRem_s g k n a)
    rw [e, b2_sum]
    split <;> omega
theorem Ps_b (hV : mV μ) (hR : kRel κ μ O) {s : Int} (h1 : 0 ≤ s) (h2 : s ≤ 1) : kPs κ s ≤ 1572864 := by
  have h36 : 0 ≤ μ 36 s.toNat ∧ μ 36 s.toNat ≤ 65536 := hV 36 _
  have v11 : 0 ≤ μ 11 s.toNat ∧ μ 11 s.toNat ≤ 65536 := hV 11 _
  have hS := (hR.2.1 s h1 h2).1
  have w := rem_sum (μ 37) (65536 * s).toNat (μ 36 s.toNat).toNat
  have r : mSum (fun j => μ 25 (mj s j)) 256 ≤ 65536 := by
    rw [← received_s, ← hS.2.2.2.2.1]
    have x1 := hS.2.2.2.2.2.2.1
    have x2 := hS.2.2.2.2.2.2.2.2.2.2.2.2.1
    omega
  have le : kPs κ s ≤ mSum (fun j => 16 * mW μ s (j : Int) + 8 * μ 25 (mj s j)) 256 := by
    refine mSum_le 256 (fun k hk => ?_)
    obtain ⟨hT, hA, hB⟩ := Rel_at hR h1 h2 (i := (k : Int)) (by omega) (by omega)
    have hg := Rel_Rg hR s k h1 h2 (by omega) (by omega)
    have w0 := mW_b μ s k
    have v25 : 0 ≤ μ 25 (mj s k) ∧ μ 25 (mj s k) ≤ 65536 := hV 25 _
    have a : (if κ 290 (mj s k) = 1 then 2 * kgl (κ 600 (κ 201 (mj s k)).toNat) else 0) ≤ 16 * mW μ s k := by
      by_cases e : κ 290 (mj s k) = 1
      · rw [if_pos e]
        obtain ⟨a1, ⟨_, _, e1, e2, e3⟩, a3⟩ := hA.2.1 e
        have x := kgl_4 (hg.1 e).2.2
        have y := a1.1
        omega
      · rw [if_neg e]; omega
    have b : (if κ 190 (mj s k) = 1 then kgl (κ 600 (κ 101 (mj s k)).toNat) else 0) ≤ 8 * μ 25 (mj s k) := by
      by_cases e : κ 190 (mj s k) = 1
      · rw [if_pos e]
        obtain ⟨b1, ⟨c1, c2, c3, c4, c5, c6⟩, b3⟩ := hB.2.1 e
        have x := kgl_4 (hg.2 e).2.2
        have y := b1.2.1
        omega
      · rw [if_neg e]; omega
    show kw κ (mj s k) ≤ 16 * mW μ s k + 8 * μ 25 (mj s k)
    unfold kw
    omega
  have sp : mSum (fun j => 16 * mW μ s (j : Int) + 8 * μ 25 (mj s j)) 256 = 16 * mSum (fun j => mW μ s (j : Int)) 256 + 8 * mSum (fun j => μ 25 (mj s j)) 256 := by
    rw [mSum_add (h := fun j => 16 * mW μ s (j : Int)) (h' := fun j => 8 * μ 25 (mj s j)), mSum_mul 16, mSum_mul 8]
  have w' : mSum (fun j => mW μ s (j : Int)) 256 ≤ ((μ 36 s.toNat).toNat : Int) := w
  omega
theorem Pot_b (hV : mV μ) (hR : kRel κ μ O) : kPot κ ≤ 3145728 := by
  have a := Ps_b hV hR (s := 0) (by omega) (by omega)
  have b := Ps_b hV hR (s := 1) (by omega) (by omega)
  unfold kPot
  omega
end R62
