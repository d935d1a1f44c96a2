section MR4
variable {L : Launch} {G : mmG} {A : Nat → Nat} {ax : Nat → Option Nat} {h0 : mmH} {μ : Nat → Nat → Int}
def v_meant (μ : Nat → Nat → Int) (s a p : Int) : Int := (if a % 2 = s then (if 256 ≤ a then 5 else (if (μ 17 (mj s a)) = 0 then 5 else (if p = 0 then (if a / 2 % 2 = 0 ∨ ¬ a % 2 = s then (if a % 2 = s then 0 else (if (a / 4) < (μ 10 ((2 * s) + (a / 2 % 2)).toNat) then 0 else 4)) else 5) else (if a / 2 % 2 = 0 ∨ a % 2 = s then (if a % 2 = s then 0 else (if (a / 4) < (μ 10 ((2 * s) + (a / 2 % 2)).toNat) then 0 else 4)) else 5)))) else (if p = 0 then (if a / 2 % 2 = 0 ∨ ¬ a % 2 = s then (if a % 2 = s then 0 else (if (a / 4) < (μ 10 ((2 * s) + (a / 2 % 2)).toNat) then 0 else 4)) else 5) else (if a / 2 % 2 = 0 ∨ a % 2 = s then (if a % 2 = s then 0 else (if (a / 4) < (μ 10 ((2 * s) + (a / 2 % 2)).toNat) then 0 else 4)) else 5)))
set_option maxRecDepth 100000 in
theorem m_meant (hF : mm_F G) (htr : L.stackTraces = false) (hx : mx A ax) (hV : mV μ) {s a p : Int} (h1 : 0 ≤ s) (h2 : s ≤ 1) (h3 : 0 ≤ a) (h3a : a ≤ 4611686018427387903) (h4 : p = 0 ∨ p = 1) :
    mm_Met L G SX6_meant [.ref (A 99), .int (iI s), .long (iL a), .int (iI p)] (hm G A ax h0 μ) 0 0 (mRet (some (.int (iI (v_meant μ s a p)))) (hm G A ax h0 μ)) mm_no := by
  refine mi_meth MX6_meant 400 hF htr okX6_meant (av := [aR (A 99), aI s, aL a, aI p]) (by decide +kernel) (Nat.le_of_ble_eq_true rfl) cmX6_meant (fun θ hc => ?_)
  refine ⟨_, _, _, _, (m_opens hF htr (a := a) (s := s) (by omega) (by omega) (by omega) (by omega)), Nat.le_refl _, Nat.le_refl _, mki_ (r := some (aI (b2 (a % 2 = s)))) ?_, fun _ _ q => q.elim⟩
  refine ⟨by have := b2_r (a % 2 = s); omega, fun e1 => ?_, fun e1 => ?_⟩
  · have e1 : ¬ (a % 2 = s) := b2_e0.mp e1
    refine ⟨by omega, fun (e2 : p = 0) => ?_, fun (e2 : ¬ (p = 0)) => ?_⟩
    · refine ⟨_, _, _, _, (m_receives hF htr (a := a) (s := s) (by omega) (by omega) (by omega) (by omega)), Nat.le_refl _, Nat.le_refl _, mki_ (r := some (aI (b2 (a / 2 % 2 = 0 ∨ ¬ a % 2 = s)))) ?_, fun _ _ q => q.elim⟩
      refine ⟨by have := b2_r (a / 2 % 2 = 0 ∨ ¬ a % 2 = s); omega, fun e3 => ?_, fun e3 => ?_⟩
      · have e3 : a / 2 % 2 = 0 ∨ ¬ a % 2 = s := b2_n0.mp e3
        refine ⟨_, _, _, _, (m_opens hF htr (a := a) (s := s) (by omega) (by omega) (by omega) (by omega)), Nat.le_refl _, Nat.le_refl _, mki_ (r := some (aI (b2 (a % 2 = s)))) ?_, fun _ _ q => q.elim⟩
        refine ⟨by have := b2_r (a % 2 = s); omega, fun e4 => ?_, fun e4 => ?_⟩
        · have e4 : a % 2 = s := b2_n0.mp e4
          exact ⟨mRetI (by unfold v_meant; rw [if_neg e1, if_pos e2, if_pos e3, if_pos e4]) rfl, Nat.le_refl _, Nat.le_refl _⟩
        · have e4 : ¬ (a % 2 = s) := b2_e0.mp e4
          refine ⟨4, rfl, ?_⟩
          refine ⟨by omega, ?_⟩
          refine ⟨_, hm_oi hx, aR (A 10), rfl, ?_⟩
          refine ⟨_, _, _, _, (m_wayOf hF htr (a := a) (by omega) (by omega)), Nat.le_refl _, Nat.le_refl _, mki_ (r := some (aI (a / 2 % 2))) ?_, fun _ _ q => q.elim⟩
          refine ⟨4, _, (μ 10 ((2 * s) + (a / 2 % 2)).toNat), hm_a hx 10 rfl, by omega, rfl, ?_⟩
          have t5 := (show 0 ≤ μ 10 ((2 * s) + (a / 2 % 2)).toNat ∧ μ 10 ((2 * s) + (a / 2 % 2)).toNat ≤ 64 from hV.g 10 ((2 * s) + (a / 2 % 2)).toNat)
          refine ⟨by omega, ?_⟩
          refine ⟨by omega, fun (e6 : (a / 4) < (μ 10 ((2 * s) + (a / 2 % 2)).toNat)) => ?_, fun (e6 : ¬ ((a / 4) < (μ 10 ((2 * s) + (a / 2 % 2)).toNat))) => ?_⟩
          · exact ⟨mRetI (by unfold v_meant; rw [if_neg e1, if_pos e2, if_pos e3, if_neg e4, if_pos e6]) rfl, Nat.le_refl _, Nat.le_refl _⟩
          · exact ⟨mRetI (by unfold v_meant; rw [if_neg e1, if_pos e2, if_pos e3, if_neg e4, if_neg e6]) rfl, Nat.le_refl _, Nat.le_refl _⟩
      · have e3 : ¬ (a / 2 % 2 = 0 ∨ ¬ a % 2 = s) := b2_e0.mp e3
        exact ⟨mRetI (by unfold v_meant; rw [if_neg e1, if_pos e2, if_neg e3]) rfl, Nat.le_refl _, Nat.le_refl _⟩
    · refine ⟨_, _, _, _, (m_sends hF htr (a := a) (s := s) (by omega) (by omega) (by omega) (by omega)), Nat.le_refl _, Nat.le_refl _, mki_ (r := some (aI (b2 (a / 2 % 2 = 0 ∨ a % 2 = s)))) ?_, fun _ _ q => q.elim⟩
      refine ⟨by have := b2_r (a / 2 % 2 = 0 ∨ a % 2 = s); omega, fun e7 => ?_, fun e7 => ?_⟩
      · have e7 : a / 2 % 2 = 0 ∨ a % 2 = s := b2_n0.mp e7
        refine ⟨_, _, _, _, (m_opens hF htr (a := a) (s := s) (by omega) (by omega) (by omega) (by omega)), Nat.le_refl _, Nat.le_refl _, mki_ (r := some (aI (b2 (a % 2 = s)))) ?_, fun _ _ q => q.elim⟩
        refine ⟨by have := b2_r (a % 2 = s); omega, fun e8 => ?_, fun e8 => ?_⟩
        · have e8 : a % 2 = s := b2_n0.mp e8
          exact ⟨mRetI (by unfold v_meant; rw [if_neg e1, if_neg e2, if_pos e7, if_pos e8]) rfl, Nat.le_refl _, Nat.le_refl _⟩
        · have e8 : ¬ (a % 2 = s) := b2_e0.mp e8
          refine ⟨4, rfl, ?_⟩
          refine ⟨by omega, ?_⟩
          refine ⟨_, hm_oi hx, aR (A 10), rfl, ?_⟩
          refine ⟨_, _, _, _, (m_wayOf hF htr (a := a) (by omega) (by omega)), Nat.le_refl _, Nat.le_refl _, mki_ (r := some (aI (a / 2 % 2))) ?_, fun _ _ q => q.elim⟩
          refine ⟨4, _, (μ 10 ((2 * s) + (a / 2 % 2)).toNat), hm_a hx 10 rfl, by omega, rfl, ?_⟩
          have t9 := (show 0 ≤ μ 10 ((2 * s) + (a / 2 % 2)).toNat ∧ μ 10 ((2 * s) + (a / 2 % 2)).toNat ≤ 64 from hV.g 10 ((2 * s) + (a / 2 % 2)).toNat)
          refine ⟨by omega, ?_⟩
          refine ⟨by omega, fun (e10 : (a / 4) < (μ 10 ((2 * s) + (a / 2 % 2)).toNat)) => ?_, fun (e10 : ¬ ((a / 4) < (μ 10 ((2 * s) + (a / 2 % 2)).toNat))) => ?_⟩
          · exact ⟨mRetI (by unfold v_meant; rw [if_neg e1, if_neg e2, if_pos e7, if_neg e8, if_pos e10]) rfl, Nat.le_refl _, Nat.le_refl _⟩
          · exact ⟨mRetI (by unfold v_meant; rw [if_neg e1, if_neg e2, if_pos e7, if_neg e8, if_neg e10]) rfl, Nat.le_refl _, Nat.le_refl _⟩
      · have e7 : ¬ (a / 2 % 2 = 0 ∨ a % 2 = s) := b2_e0.mp e7
        exact ⟨mRetI (by unfold v_meant; rw [if_neg e1, if_neg e2, if_neg e7]) rfl, Nat.le_refl _, Nat.le_refl _⟩
  · have e1 : a % 2 = s := b2_n0.mp e1
    refine ⟨256, rfl, ?_⟩
    refine ⟨by omega, fun (e11 : 256 ≤ a) => ?_, fun (e11 : ¬ (256 ≤ a)) => ?_⟩
    · exact ⟨mRetI (by unfold v_meant; rw [if_pos e1, if_pos e11]) rfl, Nat.le_refl _, Nat.le_refl _⟩
    · refine ⟨_, hm_oi hx, aR (A 17), rfl, ?_⟩
      refine ⟨_, _, _, _, (m_at hF htr (s := s) (i := a)), Nat.le_refl _, Nat.le_refl _, mki_ (r := some (aI ((256 * s) + a))) ?_, fun _ _ q => q.elim⟩
      refine ⟨512, _, (μ 17 (mj s a)), hm_a hx 17 rfl, by omega, rfl, ?_⟩
      have t12 := (show 0 ≤ μ 17 (mj s a) ∧ μ 17 (mj s a) ≤ 1 from hV.g 17 (mj s a))
      refine ⟨by omega, fun (e13 : ¬ ((μ 17 (mj s a)) = 0)) => ?_, fun (e13 : (μ 17 (mj s a)) = 0) => ?_⟩
      · refine ⟨by omega, fun (e14 : p = 0) => ?_, fun (e14 : ¬ (p = 0)) => ?_⟩
        · refine ⟨_, _, _, _, (m_receives hF htr (a := a) (s := s) (by omega) (by omega) (by omega) (by omega)), Nat.le_refl _, Nat.le_refl _, mki_ (r := some (aI (b2 (a / 2 % 2 = 0 ∨ ¬ a % 2 = s)))) ?_, fun _ _ q => q.elim⟩
          refine ⟨by have := b2_r (a / 2 % 2 = 0 ∨ ¬ a % 2 = s); omega, fun e15 => ?_, fun e15 => ?_⟩
          · have e15 : a / 2 % 2 = 0 ∨ ¬ a % 2 = s := b2_n0.mp e15
            refine ⟨_, _, _, _, (m_opens hF htr (a := a) (s := s) (by omega) (by omega) (by omega) (by omega)), Nat.le_refl _, Nat.le_refl _, mki_ (r := some (aI (b2 (a % 2 = s)))) ?_, fun _ _ q => q.elim⟩
            refine ⟨by have := b2_r (a % 2 = s); omega, fun e16 => ?_, fun e16 => ?_⟩
            · have e16 : a % 2 = s := b2_n0.mp e16
              exact ⟨mRetI (by unfold v_meant; rw [if_pos e1, if_neg e11, if_neg e13, if_pos e14, if_pos e15, if_pos e16]) rfl, Nat.le_refl _, Nat.le_refl _⟩
            · have e16 : ¬ (a % 2 = s) := b2_e0.mp e16
              refine ⟨4, rfl, ?_⟩
              refine ⟨by omega, ?_⟩
              refine ⟨_, hm_oi hx, aR (A 10), rfl, ?_⟩
              refine ⟨_, _, _, _, (m_wayOf hF htr (a := a) (by omega) (by omega)), Nat.le_refl _, Nat.le_refl _, mki_ (r := some (aI (a / 2 % 2))) ?_, fun _ _ q => q.elim⟩
              refine ⟨4, _, (μ 10 ((2 * s) + (a / 2 % 2)).toNat), hm_a hx 10 rfl, by omega, rfl, ?_⟩
              have t17 := (show 0 ≤ μ 10 ((2 * s) + (a / 2 % 2)).toNat ∧ μ 10 ((2 * s) + (a / 2 % 2)).toNat ≤ 64 from hV.g 10 ((2 * s) + (a / 2 % 2)).toNat)
              refine ⟨by omega, ?_⟩
              refine ⟨by omega, fun (e18 : (a / 4) < (μ 10 ((2 * s) + (a / 2 % 2)).toNat)) => ?_, fun (e18 : ¬ ((a / 4) < (μ 10 ((2 * s) + (a / 2 % 2)).toNat))) => ?_⟩
              · exact ⟨mRetI (by unfold v_meant; rw [if_pos e1, if_neg e11, if_neg e13, if_pos e14, if_pos e15, if_neg e16, if_pos e18]) rfl, Nat.le_refl _, Nat.le_refl _⟩
              · exact ⟨mRetI (by unfold v_meant; rw [if_pos e1, if_neg e11, if_neg e13, if_pos e14, if_pos e15, if_neg e16, if_neg e18]) rfl, Nat.le_refl _, Nat.le_refl _⟩
          · have e15 : ¬ (a / 2 % 2 = 0 ∨ ¬ a % 2 = s) := b2_e0.mp e15
            exact ⟨mRetI (by unfold v_meant; rw [if_pos e1, if_neg e11, if_neg e13, if_pos e14, if_neg e15]) rfl, Nat.le_refl _, Nat.le_refl _⟩
        · refine ⟨_, _, _, _, (m_sends hF htr (a := a) (s := s) (by omega) (by omega) (by omega) (by omega)), Nat.le_refl _, Nat.le_refl _, mki_ (r := some (aI (b2 (a / 2 % 2 = 0 ∨ a % 2 = s)))) ?_, fun _ _ q => q.elim⟩
          refine ⟨by have := b2_r (a / 2 % 2 = 0 ∨ a % 2 = s); omega, fun e19 => ?_, fun e19 => ?_⟩
          · have e19 : a / 2 % 2 = 0 ∨ a % 2 = s := b2_n0.mp e19
            refine ⟨_, _, _, _, (m_opens hF htr (a := a) (s := s) (by omega) (by omega) (by omega) (by omega)), Nat.le_refl _, Nat.le_refl _, mki_ (r := some (aI (b2 (a % 2 = s)))) ?_, fun _ _ q => q.elim⟩
            refine ⟨by have := b2_r (a % 2 = s); omega, fun e20 => ?_, fun e20 => ?_⟩
            · have e20 : a % 2 = s := b2_n0.mp e20
              exact ⟨mRetI (by unfold v_meant; rw [if_pos e1, if_neg e11, if_neg e13, if_neg e14, if_pos e19, if_pos e20]) rfl, Nat.le_refl _, Nat.le_refl _⟩
            · have e20 : ¬ (a % 2 = s) := b2_e0.mp e20
              refine ⟨4, rfl, ?_⟩
              refine ⟨by omega, ?_⟩
              refine ⟨_, hm_oi hx, aR (A 10), rfl, ?_⟩
              refine ⟨_, _, _, _, (m_wayOf hF htr (a := a) (by omega) (by omega)), Nat.le_refl _, Nat.le_refl _, mki_ (r := some (aI (a / 2 % 2))) ?_, fun _ _ q => q.elim⟩
              refine ⟨4, _, (μ 10 ((2 * s) + (a / 2 % 2)).toNat), hm_a hx 10 rfl, by omega, rfl, ?_⟩
              have t21 := (show 0 ≤ μ 10 ((2 * s) + (a / 2 % 2)).toNat ∧ μ 10 ((2 * s) + (a / 2 % 2)).toNat ≤ 64 from hV.g 10 ((2 * s) + (a / 2 % 2)).toNat)
              refine ⟨by omega, ?_⟩
              refine ⟨by omega, fun (e22 : (a / 4) < (μ 10 ((2 * s) + (a / 2 % 2)).toNat)) => ?_, fun (e22 : ¬ ((a / 4) < (μ 10 ((2 * s) + (a / 2 % 2)).toNat))) => ?_⟩
              · exact ⟨mRetI (by unfold v_meant; rw [if_pos e1, if_neg e11, if_neg e13, if_neg e14, if_pos e19, if_neg e20, if_pos e22]) rfl, Nat.le_refl _, Nat.le_refl _⟩
              · exact ⟨mRetI (by unfold v_meant; rw [if_pos e1, if_neg e11, if_neg e13, if_neg e14, if_pos e19, if_neg e20, if_neg e22]) rfl, Nat.le_refl _, Nat.le_refl _⟩
          · have e19 : ¬ (a / 2 % 2 = 0 ∨ a % 2 = s) := b2_e0.mp e19
            exact ⟨mRetI (by unfold v_meant; rw [if_pos e1, if_neg e11, if_neg e13, if_neg e14, if_neg e19]) rfl, Nat.le_refl _, Nat.le_refl _⟩
      · exact ⟨mRetI (by unfold v_meant; rw [if_pos e1, if_neg e11, if_pos e13]) rfl, Nat.le_refl _, Nat.le_refl _⟩
set_option maxRecDepth 100000 in
theorem v_meant_cg {μ μ' : Nat → Nat → Int} {s a p : Int} (h : ∀ f, [10, 17].elem f = true → ∀ k, μ f k = μ' f k) : v_meant μ s a p = v_meant μ' s a p := by
  have q10 := h 10 rfl
  have q17 := h 17 rfl
  unfold v_meant
  simp only [q10, q17]
theorem v_meant_u {f k : Nat} {v : Int} {s a p : Int} (hf : [10, 17].elem f = false) : v_meant (u2 μ f k v) s a p = v_meant μ s a p := v_meant_cg (fun g hg q => u2_f (by rintro rfl; rw [hg] at hf; cases hf))
set_option maxRecDepth 100000 in
theorem v_meant_b (μ : Nat → Nat → Int) (s a p : Int) : 0 ≤ v_meant μ s a p ∧ v_meant μ s a p ≤ 5 := by
  unfold v_meant
  repeat' with_reducible apply b_ite
  all_goals decide
def s_comesThere_14 (μ : Nat → Nat → Int) (s i : Int) : Nat → (Nat → Nat → Int) → (Nat → Nat → Int)
  | 0, ν => ν
  | d + 1, ν => (if (i / 4) < (ν 9 ((2 * s) + (i / 2 % 2)).toNat) then ν else (s_comesThere_14 μ s i d (u2 (s_begins ν s ((4 * (ν 9 ((2 * s) + (i / 2 % 2)).toNat)) + (i % 4))) 9 ((2 * s) + (i / 2 % 2)).toNat ((ν 9 ((2 * s) + (i / 2 % 2)).toNat) + 1))))
def s_comesThere (μ : Nat → Nat → Int) (s i : Int) : Nat → Nat → Int := (if i % 2 = s then μ else (s_comesThere_14 μ s i 65 μ))
set_option maxRecDepth 100000 in
theorem m_comesThere (hF : mm_F G) (htr : L.stackTraces = false) (hx : mx A ax) (hV : mV μ) {s i : Int} (h1 : 0 ≤ s) (h2 : s ≤ 1) (h3 : 0 ≤ i) (h4 : i < 256) :
    mm_Met L G SX6_comesThere [.ref (A 99), .int (iI s), .int (iI i)] (hm G A ax h0 μ) 0 0 (mRetS none (hm G A ax h0 (s_comesThere μ s i)) (mV (s_comesThere μ s i))) mm_no := by
  refine mi_meth MX6_comesThere 400 hF htr okX6_comesThere (av := [aR (A 99), aI s, aI i]) (by decide +kernel) (Nat.le_of_ble_eq_true rfl) cmX6_comesThere (fun θ hc => ?_)
  have loop14 : ∀ (S : Nat → Nat → Int) (d : Nat) (ν : Nat → Nat → Int) (hV : mV ν), (64 - ν 9 ((2 * s) + (i / 2 % 2)).toNat) < (d : Int) → s_comesThere_14 μ s i d ν = S → mi_W L G MX6_comesThere 0 0 (mRetS none (hm G A ax h0 S) (mV S)) mm_no θ 14 [(0, aR (A 99)), (1, aI s), (2, aI i), (3, aI ((2 * s) + (i / 2 % 2)))] [] (hm G A ax h0 ν) 0 0 := by
    intro S d
    induction d with
    | zero =>
      intro ν hV hms hsr
      have := (show 0 ≤ ν 9 ((2 * s) + (i / 2 % 2)).toNat ∧ ν 9 ((2 * s) + (i / 2 % 2)).toNat ≤ 64 from hV 9 _)
      omega
    | succ d ih =>
      intro ν hV hms hsr
      refine mi_sound hc okX6_comesThere 400 _ _ _ _ _ _ ?_
      refine ⟨_, hm_oi hx, aR (A 9), rfl, ?_⟩
      refine ⟨4, _, (ν 9 ((2 * s) + (i / 2 % 2)).toNat), hm_a hx 9 rfl, by omega, rfl, ?_⟩
      have t1 := (show 0 ≤ ν 9 ((2 * s) + (i / 2 % 2)).toNat ∧ ν 9 ((2 * s) + (i / 2 % 2)).toNat ≤ 64 from hV.g 9 ((2 * s) + (i / 2 % 2)).toNat)
      refine ⟨by omega, ?_⟩
      refine ⟨by omega, fun (e2 : (i / 4) < (ν 9 ((2 * s) + (i / 2 % 2)).toNat)) => ?_, fun (e2 : ¬ ((i / 4) < (ν 9 ((2 * s) + (i / 2 % 2)).toNat))) => ?_⟩
      · exact ⟨mRetVS (hsr.symm.trans (by rw [s_comesThere_14]; rw [if_pos e2])) hV, Nat.le_refl _, Nat.le_refl _⟩
      · refine ⟨_, hm_oi hx, aR (A 9), rfl, ?_⟩
        refine ⟨4, _, (ν 9 ((2 * s) + (i / 2 % 2)).toNat), hm_a hx 9 rfl, by omega, rfl, ?_⟩
        refine ⟨by omega, ?_⟩
        refine ⟨⟨_, hm_oi hx⟩, _, _, _, _, (m_begins hF htr hx hV (s := s) (i := ((4 * (ν 9 ((2 * s) + (i / 2 % 2)).toNat)) + (i % 4))) (by omega) (by omega) (by omega) (by omega)), Nat.le_refl _, Nat.le_refl _, mkis_ (r := none) (fun hV3 => ?_), fun _ _ q => q.elim⟩
        refine ⟨_, hm_oi hx, aR (A 9), rfl, ?_⟩
        refine ⟨4, _, (ν 9 ((2 * s) + (i / 2 % 2)).toNat), hm_a hx 9 rfl, by omega, (s_begins_fr (by decide)), ?_⟩
        refine ⟨4, _, _, hm_a hx 9 rfl, by omega, trivial, hm_pi hx (i := ((2 * s) + (i / 2 % 2)).toNat) (v := ((ν 9 ((2 * s) + (i / 2 % 2)).toNat) + 1)) rfl rfl rfl rfl, ?_⟩
        have hV4 := hV3.u (f := 9) (k := ((2 * s) + (i / 2 % 2)).toNat) (v := ((ν 9 ((2 * s) + (i / 2 % 2)).toNat) + 1)) (show 0 ≤ ((ν 9 ((2 * s) + (i / 2 % 2)).toNat) + 1) ∧ ((ν 9 ((2 * s) + (i / 2 % 2)).toNat) + 1) ≤ 64 from by omega)
        exact mi_Wsub (List.forall_mem_cons.mpr ⟨(.head _), List.forall_mem_cons.mpr ⟨(.tail _ (.head _)), List.forall_mem_cons.mpr ⟨(.tail _ (.tail _ (.head _))), List.forall_mem_cons.mpr ⟨(.tail _ (.tail _ (.tail _ (.head _)))), fun _ h => absurd h List.not_mem_nil⟩⟩⟩⟩) (ih (u2 (s_begins ν s ((4 * (ν 9 ((2 * s) + (i / 2 % 2)).toNat)) + (i % 4))) 9 ((2 * s) + (i / 2 % 2)).toNat ((ν 9 ((2 * s) + (i / 2 % 2)).toNat) + 1)) hV4 (by rw [show (u2 (s_begins ν s ((4 * (ν 9 ((2 * s) + (i / 2 % 2)).toNat)) + (i % 4))) 9 ((2 * s) + (i / 2 % 2)).toNat ((ν 9 ((2 * s) + (i / 2 % 2)).toNat) + 1)) 9 ((2 * s) + (i / 2 % 2)).toNat = _ from (u2_s _ _ _ _)]; omega) (Eq.trans (by rw [s_comesThere_14]; rw [if_neg e2]) hsr))
  refine ⟨by omega, ?_⟩
  refine ⟨_, _, _, _, (m_wayOf hF htr (a := i) (by omega) (by omega)), Nat.le_refl _, Nat.le_refl _, mki_ (r := some (aI (i / 2 % 2))) ?_, fun _ _ q => q.elim⟩
  refine ⟨by omega, ?_⟩
  refine ⟨_, _, _, _, (m_opens hF htr (a := i) (s := s) (by omega) (by omega) (by omega) (by omega)), Nat.le_refl _, Nat.le_refl _, mki_ (r := some (aI (b2 (i % 2 = s)))) ?_, fun _ _ q => q.elim⟩
  refine ⟨by have := b2_r (i % 2 = s); omega, fun e5 => ?_, fun e5 => ?_⟩
  · have e5 : ¬ (i % 2 = s) := b2_e0.mp e5
    have t6 := (show 0 ≤ μ 9 ((2 * s) + (i / 2 % 2)).toNat ∧ μ 9 ((2 * s) + (i / 2 % 2)).toNat ≤ 64 from hV.g 9 ((2 * s) + (i / 2 % 2)).toNat)
    exact mi_Wsub (List.forall_mem_cons.mpr ⟨(.tail _ (.head _)), List.forall_mem_cons.mpr ⟨(.tail _ (.tail _ (.head _))), List.forall_mem_cons.mpr ⟨(.tail _ (.tail _ (.tail _ (.head _)))), List.forall_mem_cons.mpr ⟨(.head _), fun _ h => absurd h List.not_mem_nil⟩⟩⟩⟩) (loop14 _ 65 μ hV (show (64 - (μ 9 ((2 * s) + (i / 2 % 2)).toNat)) < (65 : Int) from by omega) (by unfold s_comesThere; rw [if_neg e5]))
  · have e5 : i % 2 = s := b2_n0.mp e5
    exact ⟨mRetVS (by unfold s_comesThere; rw [if_pos e5]) hV, Nat.le_refl _, Nat.le_refl _⟩
set_option maxRecDepth 100000 in
theorem s_comesThere_14_fr {f kk : Nat} {s i : Int} (hf : [9, 17, 18, 30].elem f = false) : ∀ (d : Nat) (ν : Nat → Nat → Int), s_comesThere_14 μ s i d ν f kk = ν f kk := by
  have n9 : f ≠ 9 := by rintro rfl; exact absurd hf (by decide)
  have n17 : f ≠ 17 := by rintro rfl; exact absurd hf (by decide)
  have n18 : f ≠ 18 := by rintro rfl; exact absurd hf (by decide)
  have n30 : f ≠ 30 := by rintro rfl; exact absurd hf (by decide)
  have f9 : ∀ (m : Nat → Nat → Int) (a b : Nat) (v : Int), u2 m 9 a v f b = m f b := fun m a b v => u2_f n9
  have f17 : ∀ (m : Nat → Nat → Int) (a b : Nat) (v : Int), u2 m 17 a v f b = m f b := fun m a b v => u2_f n17
  have f18 : ∀ (m : Nat → Nat → Int) (a b : Nat) (v : Int), u2 m 18 a v f b = m f b := fun m a b v => u2_f n18
  have f30 : ∀ (m : Nat → Nat → Int) (a b : Nat) (v : Int), u2 m 30 a v f b = m f b := fun m a b v => u2_f n30
  have c_begins : ∀ (m : Nat → Nat → Int) (z_s z_i : Int) (k : Nat), s_begins m z_s z_i f k = m f k := by intros; exact s_begins_fr (by simp only [List.elem_cons, List.elem_nil, beq_eq_false_iff_ne.mpr n17, beq_eq_false_iff_ne.mpr n18, beq_eq_false_iff_ne.mpr n30]; try rfl)
  intro d
  induction d with
  | zero => intros; rfl
  | succ d ih =>
    intro ν
    rw [s_comesThere_14]
    repeat' with_reducible apply f_ite
    all_goals first | rfl | simp only [f9, f17, f18, f30, c_begins, ih]
set_option maxRecDepth 100000 in
theorem s_comesThere_fr {f kk : Nat} {s i : Int} (hf : [9, 17, 18, 30].elem f = false) : s_comesThere μ s i f kk = μ f kk := by
  have n9 : f ≠ 9 := by rintro rfl; exact absurd hf (by decide)
  have n17 : f ≠ 17 := by rintro rfl; exact absurd hf (by decide)
  have n18 : f ≠ 18 := by rintro rfl; exact absurd hf (by decide)
  have n30 : f ≠ 30 := by rintro rfl; exact absurd hf (by decide)
  have f9 : ∀ (m : Nat → Nat → Int) (a b : Nat) (v : Int), u2 m 9 a v f b = m f b := fun m a b v => u2_f n9
  have f17 : ∀ (m : Nat → Nat → Int) (a b : Nat) (v : Int), u2 m 17 a v f b = m f b := fun m a b v => u2_f n17
  have f18 : ∀ (m : Nat → Nat → Int) (a b : Nat) (v : Int), u2 m 18 a v f b = m f b := fun m a b v => u2_f n18
  have f30 : ∀ (m : Nat → Nat → Int) (a b : Nat) (v : Int), u2 m 30 a v f b = m f b := fun m a b v => u2_f n30
  have c_begins : ∀ (m : Nat → Nat → Int) (z_s z_i : Int) (k : Nat), s_begins m z_s z_i f k = m f k := by intros; exact s_begins_fr (by simp only [List.elem_cons, List.elem_nil, beq_eq_false_iff_ne.mpr n17, beq_eq_false_iff_ne.mpr n18, beq_eq_false_iff_ne.mpr n30]; try rfl)
  unfold s_comesThere
  repeat' with_reducible apply f_ite
  all_goals first | rfl | simp only [f9, f17, f18, f30, c_begins, s_comesThere_14_fr hf]
def v_reaches (μ : Nat → Nat → Int) (s i e p : Int) : Int := (if (μ 26 (mj s i)) < 0 then (if p = 0 then (if (μ 17 (mj s i)) = 0 then (if e ≤ (μ 25 (mj s i)) then (if (μ 6 (mg s i).toNat) < e then 3 else (if ((v_received μ s) + 0) ≤ (μ 11 s.toNat) then 0 else 3)) else (if (μ 6 (mg s i).toNat) < e then 3 else (if ((v_received μ s) + (e - (μ 25 (mj s i)))) ≤ (μ 11 s.toNat) then 0 else 3))) else (if e ≤ (μ 25 (mj s i)) then (if (μ 30 (mj s i)) < e then 3 else (if ((v_received μ s) + 0) ≤ (μ 11 s.toNat) then 0 else 3)) else (if (μ 30 (mj s i)) < e then 3 else (if ((v_received μ s) + (e - (μ 25 (mj s i)))) ≤ (μ 11 s.toNat) then 0 else 3)))) else (if (μ 25 (mj s i)) ≤ e then (if (μ 17 (mj s i)) = 0 then (if e ≤ (μ 25 (mj s i)) then (if (μ 6 (mg s i).toNat) < e then 3 else (if ((v_received μ s) + 0) ≤ (μ 11 s.toNat) then 0 else 3)) else (if (μ 6 (mg s i).toNat) < e then 3 else (if ((v_received μ s) + (e - (μ 25 (mj s i)))) ≤ (μ 11 s.toNat) then 0 else 3))) else (if e ≤ (μ 25 (mj s i)) then (if (μ 30 (mj s i)) < e then 3 else (if ((v_received μ s) + 0) ≤ (μ 11 s.toNat) then 0 else 3)) else (if (μ 30 (mj s i)) < e then 3 else (if ((v_received μ s) + (e - (μ 25 (mj s i)))) ≤ (μ 11 s.toNat) then 0 else 3)))) else 6)) else (if (μ 26 (mj s i)) < e then 6 else (if p = 0 then (if (μ 17 (mj s i)) = 0 then (if e ≤ (μ 25 (mj s i)) then (if (μ 6 (mg s i).toNat) < e then 3 else (if ((v_received μ s) + 0) ≤ (μ 11 s.toNat) then 0 else 3)) else (if (μ 6 (mg s i).toNat) < e then 3 else (if ((v_received μ s) + (e - (μ 25 (mj s i)))) ≤ (μ 11 s.toNat) then 0 else 3))) else (if e ≤ (μ 25 (mj s i)) then (if (μ 30 (mj s i)) < e then 3 else (if ((v_received μ s) + 0) ≤ (μ 11 s.toNat) then 0 else 3)) else (if (μ 30 (mj s i)) < e then 3 else (if ((v_received μ s) + (e - (μ 25 (mj s i)))) ≤ (μ 11 s.toNat) then 0 else 3)))) else (if e = (μ 26 (mj s i)) then (if (μ 25 (mj s i)) ≤ e then (if (μ 17 (mj s i)) = 0 then (if e ≤ (μ 25 (mj s i)) then (if (μ 6 (mg s i).toNat) < e then 3 else (if ((v_received μ s) + 0) ≤ (μ 11 s.toNat) then 0 else 3)) else (if (μ 6 (mg s i).toNat) < e then 3 else (if ((v_received μ s) + (e - (μ 25 (mj s i)))) ≤ (μ 11 s.toNat) then 0 else 3))) else (if e ≤ (μ 25 (mj s i)) then (if (μ 30 (mj s i)) < e then 3 else (if ((v_received μ s) + 0) ≤ (μ 11 s.toNat) then 0 else 3)) else (if (μ 30 (mj s i)) < e then 3 else (if ((v_received μ s) + (e - (μ 25 (mj s i)))) ≤ (μ 11 s.toNat) then 0 else 3)))) else 6) else 6))))
set_option maxRecDepth 100000 in
theorem m_reaches (hF : mm_F G) (htr : L.stackTraces = false) (hx : mx A ax) (hV : mV μ) {s i e p : Int} (h1 : 0 ≤ s) (h2 : s ≤ 1) (h3 : 0 ≤ i) (h4 : i < 256) (h5 : 0 ≤ e) (h6 : e ≤ 4611686018427390000) (h7 : p = 0 ∨ p = 1) :
    mm_Met L G SX6_reaches [.ref (A 99), .int (iI s), .int (iI i), .long (iL e), .int (iI p)] (hm G A ax h0 μ) 0 0 (mRet (some (.int (iI (v_reaches μ s i e p)))) (hm G A ax h0 μ)) mm_no := by
  refine mi_meth MX6_reaches 400 hF htr okX6_reaches (av := [aR (A 99), aI s, aI i, aL e, aI p]) (by decide +kernel) (Nat.le_of_ble_eq_true rfl) cmX6_reaches (fun θ hc => ?_)
  refine ⟨_, _, _, _, (m_at hF htr (s := s) (i := i)), Nat.le_refl _, Nat.le_refl _, mki_ (r := some (aI ((256 * s) + i))) ?_, fun _ _ q => q.elim⟩
  refine ⟨_, hm_oi hx, aR (A 26), rfl, ?_⟩
  refine ⟨512, _, (μ 26 (mj s i)), hm_a hx 26 rfl, by omega, rfl, ?_⟩
  have t1 := (show -1 ≤ μ 26 (mj s i) ∧ μ 26 (mj s i) ≤ 65536 from hV.g 26 (mj s i))
  refine ⟨0, rfl, ?_⟩
  refine ⟨by omega, fun (e2 : (μ 26 (mj s i)) < 0) => ?_, fun (e2 : ¬ ((μ 26 (mj s i)) < 0)) => ?_⟩
  · refine ⟨by omega, fun (e3 : p = 0) => ?_, fun (e3 : ¬ (p = 0)) => ?_⟩
    · refine ⟨_, hm_oi hx, aR (A 17), rfl, ?_⟩
      refine ⟨512, _, (μ 17 (mj s i)), hm_a hx 17 rfl, by omega, rfl, ?_⟩
      have t4 := (show 0 ≤ μ 17 (mj s i) ∧ μ 17 (mj s i) ≤ 1 from hV.g 17 (mj s i))
      refine ⟨by omega, fun (e5 : (μ 17 (mj s i)) = 0) => ?_, fun (e5 : ¬ ((μ 17 (mj s i)) = 0)) => ?_⟩
      · refine ⟨⟨_, hm_oi hx⟩, _, _, _, _, (m_grantOf hF htr hx (s := s) (i := i) (by omega) (by omega) (by omega) (by omega)), Nat.le_refl _, Nat.le_refl _, mki_ (r := some (aI (μ 6 (mg s i).toNat))) ?_, fun _ _ q => q.elim⟩
        have t6 := (show 0 ≤ μ 6 (mg s i).toNat ∧ μ 6 (mg s i).toNat ≤ 65536 from hV.g 6 _)
        refine ⟨by omega, ?_⟩
        refine ⟨_, hm_oi hx, aR (A 25), rfl, ?_⟩
        refine ⟨512, _, (μ 25 (mj s i)), hm_a hx 25 rfl, by omega, rfl, ?_⟩
        have t7 := (show 0 ≤ μ 25 (mj s i) ∧ μ 25 (mj s i) ≤ 65536 from hV.g 25 (mj s i))
        refine ⟨by omega, fun (e8 : e ≤ (μ 25 (mj s i))) => ?_, fun (e8 : ¬ (e ≤ (μ 25 (mj s i)))) => ?_⟩
        · refine ⟨0, rfl, ?_⟩
          refine ⟨by omega, fun (e9 : (μ 6 (mg s i).toNat) < e) => ?_, fun (e9 : ¬ ((μ 6 (mg s i).toNat) < e)) => ?_⟩
          · exact ⟨mRetI (by unfold v_reaches; rw [if_pos e2, if_pos e3, if_pos e5, if_pos e8, if_pos e9]) rfl, Nat.le_refl _, Nat.le_refl _⟩
          · refine ⟨⟨_, hm_oi hx⟩, _, _, _, _, (m_received hF htr hx hV (s := s) (by omega) (by omega)), Nat.le_refl _, Nat.le_refl _, mki_ (r := some (aL (v_received μ s))) ?_, fun _ _ q => q.elim⟩
            have t10 := received_b hV s
            refine ⟨_, hm_oi hx, aR (A 11), rfl, ?_⟩
            refine ⟨2, _, (μ 11 s.toNat), hm_a hx 11 rfl, by omega, rfl, ?_⟩
            have t11 := (show 0 ≤ μ 11 s.toNat ∧ μ 11 s.toNat ≤ 65536 from hV.g 11 s.toNat)
            refine ⟨by omega, fun (e12 : ((v_received μ s) + 0) ≤ (μ 11 s.toNat)) => ?_, fun (e12 : ¬ (((v_received μ s) + 0) ≤ (μ 11 s.toNat))) => ?_⟩
            · exact ⟨mRetI (by unfold v_reaches; rw [if_pos e2, if_pos e3, if_pos e5, if_pos e8, if_neg e9, if_pos e12]) rfl, Nat.le_refl _, Nat.le_refl _⟩
            · exact ⟨mRetI (by unfold v_reaches; rw [if_pos e2, if_pos e3, if_pos e5, if_pos e8, if_neg e9, if_neg e12]) rfl, Nat.le_refl _, Nat.le_refl _⟩
        · refine ⟨_, hm_oi hx, aR (A 25), rfl, ?_⟩
          refine ⟨512, _, (μ 25 (mj s i)), hm_a hx 25 rfl, by omega, rfl, ?_⟩
          refine ⟨by omega, fun (e13 : (μ 6 (mg s i).toNat) < e) => ?_, fun (e13 : ¬ ((μ 6 (mg s i).toNat) < e)) => ?_⟩
          · exact ⟨mRetI (by unfold v_reaches; rw [if_pos e2, if_pos e3, if_pos e5, if_neg e8, if_pos e13]) rfl, Nat.le_refl _, Nat.le_refl _⟩
          · refine ⟨⟨_, hm_oi hx⟩, _, _, _, _, (m_received hF htr hx hV (s := s) (by omega) (by omega)), Nat.le_refl _, Nat.le_refl _, mki_ (r := some (aL (v_received μ s))) ?_, fun _ _ q => q.elim⟩
            have t14 := received_b hV s
            refine ⟨_, hm_oi hx, aR (A 11), rfl, ?_⟩
            refine ⟨2, _, (μ 11 s.toNat), hm_a hx 11 rfl, by omega, rfl, ?_⟩
            have t15 := (show 0 ≤ μ 11 s.toNat ∧ μ 11 s.toNat ≤ 65536 from hV.g 11 s.toNat)
            refine ⟨by omega, fun (e16 : ((v_received μ s) + (e - (μ 25 (mj s i)))) ≤ (μ 11 s.toNat)) => ?_, fun (e16 : ¬ (((v_received μ s) + (e - (μ 25 (mj s i)))) ≤ (μ 11 s.toNat))) => ?_⟩
            · exact ⟨mRetI (by unfold v_reaches; rw [if_pos e2, if_pos e3, if_pos e5, if_neg e8, if_neg e13, if_pos e16]) rfl, Nat.le_refl _, Nat.le_refl _⟩
            · exact ⟨mRetI (by unfold v_reaches; rw [if_pos e2, if_pos e3, if_pos e5, if_neg e8, if_neg e13, if_neg e16]) rfl, Nat.le_refl _, Nat.le_refl _⟩
      · refine ⟨_, hm_oi hx, aR (A 30), rfl, ?_⟩
        refine ⟨512, _, (μ 30 (mj s i)), hm_a hx 30 rfl, by omega, rfl, ?_⟩
        have t17 := (show 0 ≤ μ 30 (mj s i) ∧ μ 30 (mj s i) ≤ 65536 from hV.g 30 (mj s i))
        refine ⟨_, hm_oi hx, aR (A 25), rfl, ?_⟩
        refine ⟨512, _, (μ 25 (mj s i)), hm_a hx 25 rfl, by omega, rfl, ?_⟩
        have t18 := (show 0 ≤ μ 25 (mj s i) ∧ μ 25 (mj s i) ≤ 65536 from hV.g 25 (mj s i))
        refine ⟨by omega, fun (e19 : e ≤ (μ 25 (mj s i))) => ?_, fun (e19 : ¬ (e ≤ (μ 25 (mj s i)))) => ?_⟩
        · refine ⟨0, rfl, ?_⟩
          refine ⟨by omega, fun (e20 : (μ 30 (mj s i)) < e) => ?_, fun (e20 : ¬ ((μ 30 (mj s i)) < e)) => ?_⟩
          · exact ⟨mRetI (by unfold v_reaches; rw [if_pos e2, if_pos e3, if_neg e5, if_pos e19, if_pos e20]) rfl, Nat.le_refl _, Nat.le_refl _⟩
          · refine ⟨⟨_, hm_oi hx⟩, _, _, _, _, (m_received hF htr hx hV (s := s) (by omega) (by omega)), Nat.le_refl _, Nat.le_refl _, mki_ (r := some (aL (v_received μ s))) ?_, fun _ _ q => q.elim⟩
            have t21 := received_b hV s
            refine ⟨_, hm_oi hx, aR (A 11), rfl, ?_⟩
            refine ⟨2, _, (μ 11 s.toNat), hm_a hx 11 rfl, by omega, rfl, ?_⟩
            have t22 := (show 0 ≤ μ 11 s.toNat ∧ μ 11 s.toNat ≤ 65536 from hV.g 11 s.toNat)
            refine ⟨by omega, fun (e23 : ((v_received μ s) + 0) ≤ (μ 11 s.toNat)) => ?_, fun (e23 : ¬ (((v_received μ s) + 0) ≤ (μ 11 s.toNat))) => ?_⟩
            · exact ⟨mRetI (by unfold v_reaches; rw [if_pos e2, if_pos e3, if_neg e5, if_pos e19, if_neg e20, if_pos e23]) rfl, Nat.le_refl _, Nat.le_refl _⟩
            · exact ⟨mRetI (by unfold v_reaches; rw [if_pos e2, if_pos e3, if_neg e5, if_pos e19, if_neg e20, if_neg e23]) rfl, Nat.le_refl _, Nat.le_refl _⟩
        · refine ⟨_, hm_oi hx, aR (A 25), rfl, ?_⟩
          refine ⟨512, _, (μ 25 (mj s i)), hm_a hx 25 rfl, by omega, rfl, ?_⟩
          refine ⟨by omega, fun (e24 : (μ 30 (mj s i)) < e) => ?_, fun (e24 : ¬ ((μ 30 (mj s i)) < e)) => ?_⟩
          · exact ⟨mRetI (by unfold v_reaches; rw [if_pos e2, if_pos e3, if_neg e5, if_neg e19, if_pos e24]) rfl, Nat.le_refl _, Nat.le_refl _⟩
          · refine ⟨⟨_, hm_oi hx⟩, _, _, _, _, (m_received hF htr hx hV (s := s) (by omega) (by omega)), Nat.le_refl _, Nat.le_refl _, mki_ (r := some (aL (v_received μ s))) ?_, fun _ _ q => q.elim⟩
            have t25 := received_b hV s
            refine ⟨_, hm_oi hx, aR (A 11), rfl, ?_⟩
            refine ⟨2, _, (μ 11 s.toNat), hm_a hx 11 rfl, by omega, rfl, ?_⟩
            have t26 := (show 0 ≤ μ 11 s.toNat ∧ μ 11 s.toNat ≤ 65536 from hV.g 11 s.toNat)
            refine ⟨by omega, fun (e27 : ((v_received μ s) + (e - (μ 25 (mj s i)))) ≤ (μ 11 s.toNat)) => ?_, fun (e27 : ¬ (((v_received μ s) + (e - (μ 25 (mj s i)))) ≤ (μ 11 s.toNat))) => ?_⟩
            · exact ⟨mRetI (by unfold v_reaches; rw [if_pos e2, if_pos e3, if_neg e5, if_neg e19, if_neg e24, if_pos e27]) rfl, Nat.le_refl _, Nat.le_refl _⟩
            · exact ⟨mRetI (by unfold v_reaches; rw [if_pos e2, if_pos e3, if_neg e5, if_neg e19, if_neg e24, if_neg e27]) rfl, Nat.le_refl _, Nat.le_refl _⟩
    · refine ⟨_, hm_oi hx, aR (A 25), rfl, ?_⟩
      refine ⟨512, _, (μ 25 (mj s i)), hm_a hx 25 rfl, by omega, rfl, ?_⟩
      have t28 := (show 0 ≤ μ 25 (mj s i) ∧ μ 25 (mj s i) ≤ 65536 from hV.g 25 (mj s i))
      refine ⟨by omega, fun (e29 : (μ 25 (mj s i)) ≤ e) => ?_, fun (e29 : ¬ ((μ 25 (mj s i)) ≤ e)) => ?_⟩
      · refine ⟨_, hm_oi hx, aR (A 17), rfl, ?_⟩
        refine ⟨512, _, (μ 17 (mj s i)), hm_a hx 17 rfl, by omega, rfl, ?_⟩
        have t30 := (show 0 ≤ μ 17 (mj s i) ∧ μ 17 (mj s i) ≤ 1 from hV.g 17 (mj s i))
        refine ⟨by omega, fun (e31 : (μ 17 (mj s i)) = 0) => ?_, fun (e31 : ¬ ((μ 17 (mj s i)) = 0)) => ?_⟩
        · refine ⟨⟨_, hm_oi hx⟩, _, _, _, _, (m_grantOf hF htr hx (s := s) (i := i) (by omega) (by omega) (by omega) (by omega)), Nat.le_refl _, Nat.le_refl _, mki_ (r := some (aI (μ 6 (mg s i).toNat))) ?_, fun _ _ q => q.elim⟩
          have t32 := (show 0 ≤ μ 6 (mg s i).toNat ∧ μ 6 (mg s i).toNat ≤ 65536 from hV.g 6 _)
          refine ⟨by omega, ?_⟩
          refine ⟨_, hm_oi hx, aR (A 25), rfl, ?_⟩
          refine ⟨512, _, (μ 25 (mj s i)), hm_a hx 25 rfl, by omega, rfl, ?_⟩
          refine ⟨by omega, fun (e33 : e ≤ (μ 25 (mj s i))) => ?_, fun (e33 : ¬ (e ≤ (μ 25 (mj s i)))) => ?_⟩
          · refine ⟨0, rfl, ?_⟩
            refine ⟨by omega, fun (e34 : (μ 6 (mg s i).toNat) < e) => ?_, fun (e34 : ¬ ((μ 6 (mg s i).toNat) < e)) => ?_⟩
            · exact ⟨mRetI (by unfold v_reaches; rw [if_pos e2, if_neg e3, if_pos e29, if_pos e31, if_pos e33, if_pos e34]) rfl, Nat.le_refl _, Nat.le_refl _⟩
            · refine ⟨⟨_, hm_oi hx⟩, _, _, _, _, (m_received hF htr hx hV (s := s) (by omega) (by omega)), Nat.le_refl _, Nat.le_refl _, mki_ (r := some (aL (v_received μ s))) ?_, fun _ _ q => q.elim⟩
              have t35 := received_b hV s
              refine ⟨_, hm_oi hx, aR (A 11), rfl, ?_⟩
              refine ⟨2, _, (μ 11 s.toNat), hm_a hx 11 rfl, by omega, rfl, ?_⟩
              have t36 := (show 0 ≤ μ 11 s.toNat ∧ μ 11 s.toNat ≤ 65536 from hV.g 11 s.toNat)
              refine ⟨by omega, fun (e37 : ((v_received μ s) + 0) ≤ (μ 11 s.toNat)) => ?_, fun (e37 : ¬ (((v_received μ s) + 0) ≤ (μ 11 s.toNat))) => ?_⟩
              · exact ⟨mRetI (by unfold v_reaches; rw [if_pos e2, if_neg e3, if_pos e29, if_pos e31, if_pos e33, if_neg e34, if_pos e37]) rfl, Nat.le_refl _, Nat.le_refl _⟩
              · exact ⟨mRetI (by unfold v_reaches; rw [if_pos e2, if_neg e3, if_pos e29, if_pos e31, if_pos e33, if_neg e34, if_neg e37]) rfl, Nat.le_refl _, Nat.le_refl _⟩
          · refine ⟨_, hm_oi hx, aR (A 25), rfl, ?_⟩
            refine ⟨512, _, (μ 25 (mj s i)), hm_a hx 25 rfl, by omega, rfl, ?_⟩
            refine ⟨by omega, fun (e38 : (μ 6 (mg s i).toNat) < e) => ?_, fun (e38 : ¬ ((μ 6 (mg s i).toNat) < e)) => ?_⟩
            · exact ⟨mRetI (by unfold v_reaches; rw [if_pos e2, if_neg e3, if_pos e29, if_pos e31, if_neg e33, if_pos e38]) rfl, Nat.le_refl _, Nat.le_refl _⟩
            · refine ⟨⟨_, hm_oi hx⟩, _, _, _, _, (m_received hF htr hx hV (s := s) (by omega) (by omega)), Nat.le_refl _, Nat.le_refl _, mki_ (r := some (aL (v_received μ s))) ?_, fun _ _ q => q.elim⟩
              have t39 := received_b hV s
              refine ⟨_, hm_oi hx, aR (A 11), rfl, ?_⟩
              refine ⟨2, _, (μ 11 s.toNat), hm_a hx 11 rfl, by omega, rfl, ?_⟩
              have t40 := (show 0 ≤ μ 11 s.toNat ∧ μ 11 s.toNat ≤ 65536 from hV.g 11 s.toNat)
              refine ⟨by omega, fun (e41 : ((v_received μ s) + (e - (μ 25 (mj s i)))) ≤ (μ 11 s.toNat)) => ?_, fun (e41 : ¬ (((v_received μ s) + (e - (μ 25 (mj s i)))) ≤ (μ 11 s.toNat))) => ?_⟩
              · exact ⟨mRetI (by unfold v_reaches; rw [if_pos e2, if_neg e3, if_pos e29, if_pos e31, if_neg e33, if_neg e38, if_pos e41]) rfl, Nat.le_refl _, Nat.le_refl _⟩
              · exact ⟨mRetI (by unfold v_reaches; rw [if_pos e2, if_neg e3, if_pos e29, if_pos e31, if_neg e33, if_neg e38, if_neg e41]) rfl, Nat.le_refl _, Nat.le_refl _⟩
        · refine ⟨_, hm_oi hx, aR (A 30), rfl, ?_⟩
          refine ⟨512, _, (μ 30 (mj s i)), hm_a hx 30 rfl, by omega, rfl, ?_⟩
          have t42 := (show 0 ≤ μ 30 (mj s i) ∧ μ 30 (mj s i) ≤ 65536 from hV.g 30 (mj s i))
          refine ⟨_, hm_oi hx, aR (A 25), rfl, ?_⟩
          refine ⟨512, _, (μ 25 (mj s i)), hm_a hx 25 rfl, by omega, rfl, ?_⟩
          refine ⟨by omega, fun (e43 : e ≤ (μ 25 (mj s i))) => ?_, fun (e43 : ¬ (e ≤ (μ 25 (mj s i)))) => ?_⟩
          · refine ⟨0, rfl, ?_⟩
            refine ⟨by omega, fun (e44 : (μ 30 (mj s i)) < e) => ?_, fun (e44 : ¬ ((μ 30 (mj s i)) < e)) => ?_⟩
            · exact ⟨mRetI (by unfold v_reaches; rw [if_pos e2, if_neg e3, if_pos e29, if_neg e31, if_pos e43, if_pos e44]) rfl, Nat.le_refl _, Nat.le_refl _⟩
            · refine ⟨⟨_, hm_oi hx⟩, _, _, _, _, (m_received hF htr hx hV (s := s) (by omega) (by omega)), Nat.le_refl _, Nat.le_refl _, mki_ (r := some (aL (v_received μ s))) ?_, fun _ _ q => q.elim⟩
              have t45 := received_b hV s
              refine ⟨_, hm_oi hx, aR (A 11), rfl, ?_⟩
              refine ⟨2, _, (μ 11 s.toNat), hm_a hx 11 rfl, by omega, rfl, ?_⟩
              have t46 := (show 0 ≤ μ 11 s.toNat ∧ μ 11 s.toNat ≤ 65536 from hV.g 11 s.toNat)
              refine ⟨by omega, fun (e47 : ((v_received μ s) + 0) ≤ (μ 11 s.toNat)) => ?_, fun (e47 : ¬ (((v_received μ s) + 0) ≤ (μ 11 s.toNat))) => ?_⟩
              · exact ⟨mRetI (by unfold v_reaches; rw [if_pos e2, if_neg e3, if_pos e29, if_neg e31, if_pos e43, if_neg e44, if_pos e47]) rfl, Nat.le_refl _, Nat.le_refl _⟩
              · exact ⟨mRetI (by unfold v_reaches; rw [if_pos e2, if_neg e3, if_pos e29, if_neg e31, if_pos e43, if_neg e44, if_neg e47]) rfl, Nat.le_refl _, Nat.le_refl _⟩
          · refine ⟨_, hm_oi hx, aR (A 25), rfl, ?_⟩
            refine ⟨512, _, (μ 25 (mj s i)), hm_a hx 25 rfl, by omega, rfl, ?_⟩
            refine ⟨by omega, fun (e48 : (μ 30 (mj s i)) < e) => ?_, fun (e48 : ¬ ((μ 30 (mj s i)) < e)) => ?_⟩
            · exact ⟨mRetI (by unfold v_reaches; rw [if_pos e2, if_neg e3, if_pos e29, if_neg e31, if_neg e43, if_pos e48]) rfl, Nat.le_refl _, Nat.le_refl _⟩
            · refine ⟨⟨_, hm_oi hx⟩, _, _, _, _, (m_received hF htr hx hV (s := s) (by omega) (by omega)), Nat.le_refl _, Nat.le_refl _, mki_ (r := some (aL (v_received μ s))) ?_, fun _ _ q => q.elim⟩
              have t49 := received_b hV s
              refine ⟨_, hm_oi hx, aR (A 11), rfl, ?_⟩
              refine ⟨2, _, (μ 11 s.toNat), hm_a hx 11 rfl, by omega, rfl, ?_⟩
              have t50 := (show 0 ≤ μ 11 s.toNat ∧ μ 11 s.toNat ≤ 65536 from hV.g 11 s.toNat)
              refine ⟨by omega, fun (e51 : ((v_received μ s) + (e - (μ 25 (mj s i)))) ≤ (μ 11 s.toNat)) => ?_, fun (e51 : ¬ (((v_received μ s) + (e - (μ 25 (mj s i)))) ≤ (μ 11 s.toNat))) => ?_⟩
              · exact ⟨mRetI (by unfold v_reaches; rw [if_pos e2, if_neg e3, if_pos e29, if_neg e31, if_neg e43, if_neg e48, if_pos e51]) rfl, Nat.le_refl _, Nat.le_refl _⟩
              · exact ⟨mRetI (by unfold v_reaches; rw [if_pos e2, if_neg e3, if_pos e29, if_neg e31, if_neg e43, if_neg e48, if_neg e51]) rfl, Nat.le_refl _, Nat.le_refl _⟩
      · exact ⟨mRetI (by unfold v_reaches; rw [if_pos e2, if_neg e3, if_neg e29]) rfl, Nat.le_refl _, Nat.le_refl _⟩
  · refine ⟨_, hm_oi hx, aR (A 26), rfl, ?_⟩
    refine ⟨512, _, (μ 26 (mj s i)), hm_a hx 26 rfl, by omega, rfl, ?_⟩
    refine ⟨by omega, fun (e52 : (μ 26 (mj s i)) < e) => ?_, fun (e52 : ¬ ((μ 26 (mj s i)) < e)) => ?_⟩
    · exact ⟨mRetI (by unfold v_reaches; rw [if_neg e2, if_pos e52]) rfl, Nat.le_refl _, Nat.le_refl _⟩
    · refine ⟨by omega, fun (e53 : p = 0) => ?_, fun (e53 : ¬ (p = 0)) => ?_⟩
      · refine ⟨by omega, fun _ => ?_, fun (e : ¬ (p = 0)) => absurd e (by omega)⟩
        refine ⟨_, hm_oi hx, aR (A 17), rfl, ?_⟩
        refine ⟨512, _, (μ 17 (mj s i)), hm_a hx 17 rfl, by omega, rfl, ?_⟩
        have t55 := (show 0 ≤ μ 17 (mj s i) ∧ μ 17 (mj s i) ≤ 1 from hV.g 17 (mj s i))
        refine ⟨by omega, fun (e56 : (μ 17 (mj s i)) = 0) => ?_, fun (e56 : ¬ ((μ 17 (mj s i)) = 0)) => ?_⟩
        · refine ⟨⟨_, hm_oi hx⟩, _, _, _, _, (m_grantOf hF htr hx (s := s) (i := i) (by omega) (by omega) (by omega) (by omega)), Nat.le_refl _, Nat.le_refl _, mki_ (r := some (aI (μ 6 (mg s i).toNat))) ?_, fun _ _ q => q.elim⟩
          have t57 := (show 0 ≤ μ 6 (mg s i).toNat ∧ μ 6 (mg s i).toNat ≤ 65536 from hV.g 6 _)
          refine ⟨by omega, ?_⟩
          refine ⟨_, hm_oi hx, aR (A 25), rfl, ?_⟩
          refine ⟨512, _, (μ 25 (mj s i)), hm_a hx 25 rfl, by omega, rfl, ?_⟩
          have t58 := (show 0 ≤ μ 25 (mj s i) ∧ μ 25 (mj s i) ≤ 65536 from hV.g 25 (mj s i))
          refine ⟨by omega, fun (e59 : e ≤ (μ 25 (mj s i))) => ?_, fun (e59 : ¬ (e ≤ (μ 25 (mj s i)))) => ?_⟩
          · refine ⟨0, rfl, ?_⟩
            refine ⟨by omega, fun (e60 : (μ 6 (mg s i).toNat) < e) => ?_, fun (e60 : ¬ ((μ 6 (mg s i).toNat) < e)) => ?_⟩
            · exact ⟨mRetI (by unfold v_reaches; rw [if_neg e2, if_neg e52, if_pos e53, if_pos e56, if_pos e59, if_pos e60]) rfl, Nat.le_refl _, Nat.le_refl _⟩
            · refine ⟨⟨_, hm_oi hx⟩, _, _, _, _, (m_received hF htr hx hV (s := s) (by omega) (by omega)), Nat.le_refl _, Nat.le_refl _, mki_ (r := some (aL (v_received μ s))) ?_, fun _ _ q => q.elim⟩
              have t61 := received_b hV s
              refine ⟨_, hm_oi hx, aR (A 11), rfl, ?_⟩
              refine ⟨2, _, (μ 11 s.toNat), hm_a hx 11 rfl, by omega, rfl, ?_⟩
              have t62 := (show 0 ≤ μ 11 s.toNat ∧ μ 11 s.toNat ≤ 65536 from hV.g 11 s.toNat)
              refine ⟨by omega, fun (e63 : ((v_received μ s) + 0) ≤ (μ 11 s.toNat)) => ?_, fun (e63 : ¬ (((v_received μ s) + 0) ≤ (μ 11 s.toNat))) => ?_⟩
              · exact ⟨mRetI (by unfold v_reaches; rw [if_neg e2, if_neg e52, if_pos e53, if_pos e56, if_pos e59, if_neg e60, if_pos e63]) rfl, Nat.le_refl _, Nat.le_refl _⟩
              · exact ⟨mRetI (by unfold v_reaches; rw [if_neg e2, if_neg e52, if_pos e53, if_pos e56, if_pos e59, if_neg e60, if_neg e63]) rfl, Nat.le_refl _, Nat.le_refl _⟩
          · refine ⟨_, hm_oi hx, aR (A 25), rfl, ?_⟩
            refine ⟨512, _, (μ 25 (mj s i)), hm_a hx 25 rfl, by omega, rfl, ?_⟩
            refine ⟨by omega, fun (e64 : (μ 6 (mg s i).toNat) < e) => ?_, fun (e64 : ¬ ((μ 6 (mg s i).toNat) < e)) => ?_⟩
            · exact ⟨mRetI (by unfold v_reaches; rw [if_neg e2, if_neg e52, if_pos e53, if_pos e56, if_neg e59, if_pos e64]) rfl, Nat.le_refl _, Nat.le_refl _⟩
            · refine ⟨⟨_, hm_oi hx⟩, _, _, _, _, (m_received hF htr hx hV (s := s) (by omega) (by omega)), Nat.le_refl _, Nat.le_refl _, mki_ (r := some (aL (v_received μ s))) ?_, fun _ _ q => q.elim⟩
              have t65 := received_b hV s
              refine ⟨_, hm_oi hx, aR (A 11), rfl, ?_⟩
              refine ⟨2, _, (μ 11 s.toNat), hm_a hx 11 rfl, by omega, rfl, ?_⟩
              have t66 := (show 0 ≤ μ 11 s.toNat ∧ μ 11 s.toNat ≤ 65536 from hV.g 11 s.toNat)
              refine ⟨by omega, fun (e67 : ((v_received μ s) + (e - (μ 25 (mj s i)))) ≤ (μ 11 s.toNat)) => ?_, fun (e67 : ¬ (((v_received μ s) + (e - (μ 25 (mj s i)))) ≤ (μ 11 s.toNat))) => ?_⟩
              · exact ⟨mRetI (by unfold v_reaches; rw [if_neg e2, if_neg e52, if_pos e53, if_pos e56, if_neg e59, if_neg e64, if_pos e67]) rfl, Nat.le_refl _, Nat.le_refl _⟩
              · exact ⟨mRetI (by unfold v_reaches; rw [if_neg e2, if_neg e52, if_pos e53, if_pos e56, if_neg e59, if_neg e64, if_neg e67]) rfl, Nat.le_refl _, Nat.le_refl _⟩
        · refine ⟨_, hm_oi hx, aR (A 30), rfl, ?_⟩
          refine ⟨512, _, (μ 30 (mj s i)), hm_a hx 30 rfl, by omega, rfl, ?_⟩
          have t68 := (show 0 ≤ μ 30 (mj s i) ∧ μ 30 (mj s i) ≤ 65536 from hV.g 30 (mj s i))
          refine ⟨_, hm_oi hx, aR (A 25), rfl, ?_⟩
          refine ⟨512, _, (μ 25 (mj s i)), hm_a hx 25 rfl, by omega, rfl, ?_⟩
          have t69 := (show 0 ≤ μ 25 (mj s i) ∧ μ 25 (mj s i) ≤ 65536 from hV.g 25 (mj s i))
          refine ⟨by omega, fun (e70 : e ≤ (μ 25 (mj s i))) => ?_, fun (e70 : ¬ (e ≤ (μ 25 (mj s i)))) => ?_⟩
          · refine ⟨0, rfl, ?_⟩
            refine ⟨by omega, fun (e71 : (μ 30 (mj s i)) < e) => ?_, fun (e71 : ¬ ((μ 30 (mj s i)) < e)) => ?_⟩
            · exact ⟨mRetI (by unfold v_reaches; rw [if_neg e2, if_neg e52, if_pos e53, if_neg e56, if_pos e70, if_pos e71]) rfl, Nat.le_refl _, Nat.le_refl _⟩
            · refine ⟨⟨_, hm_oi hx⟩, _, _, _, _, (m_received hF htr hx hV (s := s) (by omega) (by omega)), Nat.le_refl _, Nat.le_refl _, mki_ (r := some (aL (v_received μ s))) ?_, fun _ _ q => q.elim⟩
              have t72 := received_b hV s
              refine ⟨_, hm_oi hx, aR (A 11), rfl, ?_⟩
              refine ⟨2, _, (μ 11 s.toNat), hm_a hx 11 rfl, by omega, rfl, ?_⟩
              have t73 := (show 0 ≤ μ 11 s.toNat ∧ μ 11 s.toNat ≤ 65536 from hV.g 11 s.toNat)
              refine ⟨by omega, fun (e74 : ((v_received μ s) + 0) ≤ (μ 11 s.toNat)) => ?_, fun (e74 : ¬ (((v_received μ s) + 0) ≤ (μ 11 s.toNat))) => ?_⟩
              · exact ⟨mRetI (by unfold v_reaches; rw [if_neg e2, if_neg e52, if_pos e53, if_neg e56, if_pos e70, if_neg e71, if_pos e74]) rfl, Nat.le_refl _, Nat.le_refl _⟩
              · exact ⟨mRetI (by unfold v_reaches; rw [if_neg e2, if_neg e52, if_pos e53, if_neg e56, if_pos e70, if_neg e71, if_neg e74]) rfl, Nat.le_refl _, Nat.le_refl _⟩
          · refine ⟨_, hm_oi hx, aR (A 25), rfl, ?_⟩
            refine ⟨512, _, (μ 25 (mj s i)), hm_a hx 25 rfl, by omega, rfl, ?_⟩
            refine ⟨by omega, fun (e75 : (μ 30 (mj s i)) < e) => ?_, fun (e75 : ¬ ((μ 30 (mj s i)) < e)) => ?_⟩
            · exact ⟨mRetI (by unfold v_reaches; rw [if_neg e2, if_neg e52, if_pos e53, if_neg e56, if_neg e70, if_pos e75]) rfl, Nat.le_refl _, Nat.le_refl _⟩
            · refine ⟨⟨_, hm_oi hx⟩, _, _, _, _, (m_received hF htr hx hV (s := s) (by omega) (by omega)), Nat.le_refl _, Nat.le_refl _, mki_ (r := some (aL (v_received μ s))) ?_, fun _ _ q => q.elim⟩
              have t76 := received_b hV s
              refine ⟨_, hm_oi hx, aR (A 11), rfl, ?_⟩
              refine ⟨2, _, (μ 11 s.toNat), hm_a hx 11 rfl, by omega, rfl, ?_⟩
              have t77 := (show 0 ≤ μ 11 s.toNat ∧ μ 11 s.toNat ≤ 65536 from hV.g 11 s.toNat)
              refine ⟨by omega, fun (e78 : ((v_received μ s) + (e - (μ 25 (mj s i)))) ≤ (μ 11 s.toNat)) => ?_, fun (e78 : ¬ (((v_received μ s) + (e - (μ 25 (mj s i)))) ≤ (μ 11 s.toNat))) => ?_⟩
              · exact ⟨mRetI (by unfold v_reaches; rw [if_neg e2, if_neg e52, if_pos e53, if_neg e56, if_neg e70, if_neg e75, if_pos e78]) rfl, Nat.le_refl _, Nat.le_refl _⟩
              · exact ⟨mRetI (by unfold v_reaches; rw [if_neg e2, if_neg e52, if_pos e53, if_neg e56, if_neg e70, if_neg e75, if_neg e78]) rfl, Nat.le_refl _, Nat.le_refl _⟩
      · refine ⟨_, hm_oi hx, aR (A 26), rfl, ?_⟩
        refine ⟨512, _, (μ 26 (mj s i)), hm_a hx 26 rfl, by omega, rfl, ?_⟩
        refine ⟨by omega, fun (e79 : e = (μ 26 (mj s i))) => ?_, fun (e79 : ¬ (e = (μ 26 (mj s i)))) => ?_⟩
        · refine ⟨by omega, fun (e : p = 0) => absurd e (by omega), fun _ => ?_⟩
          refine ⟨_, hm_oi hx, aR (A 25), rfl, ?_⟩
          refine ⟨512, _, (μ 25 (mj s i)), hm_a hx 25 rfl, by omega, rfl, ?_⟩
          have t81 := (show 0 ≤ μ 25 (mj s i) ∧ μ 25 (mj s i) ≤ 65536 from hV.g 25 (mj s i))
          refine ⟨by omega, fun (e82 : (μ 25 (mj s i)) ≤ e) => ?_, fun (e82 : ¬ ((μ 25 (mj s i)) ≤ e)) => ?_⟩
          · refine ⟨_, hm_oi hx, aR (A 17), rfl, ?_⟩
            refine ⟨512, _, (μ 17 (mj s i)), hm_a hx 17 rfl, by omega, rfl, ?_⟩
            have t83 := (show 0 ≤ μ 17 (mj s i) ∧ μ 17 (mj s i) ≤ 1 from hV.g 17 (mj s i))
            refine ⟨by omega, fun (e84 : (μ 17 (mj s i)) = 0) => ?_, fun (e84 : ¬ ((μ 17 (mj s i)) = 0)) => ?_⟩
            · refine ⟨⟨_, hm_oi hx⟩, _, _, _, _, (m_grantOf hF htr hx (s := s) (i := i) (by omega) (by omega) (by omega) (by omega)), Nat.le_refl _, Nat.le_refl _, mki_ (r := some (aI (μ 6 (mg s i).toNat))) ?_, fun _ _ q => q.elim⟩
              have t85 := (show 0 ≤ μ 6 (mg s i).toNat ∧ μ 6 (mg s i).toNat ≤ 65536 from hV.g 6 _)
              refine ⟨by omega, ?_⟩
              refine ⟨_, hm_oi hx, aR (A 25), rfl, ?_⟩
              refine ⟨512, _, (μ 25 (mj s i)), hm_a hx 25 rfl, by omega, rfl, ?_⟩
              refine ⟨by omega, fun (e86 : e ≤ (μ 25 (mj s i))) => ?_, fun (e86 : ¬ (e ≤ (μ 25 (mj s i)))) => ?_⟩
              · refine ⟨0, rfl, ?_⟩
                refine ⟨by omega, fun (e87 : (μ 6 (mg s i).toNat) < e) => ?_, fun (e87 : ¬ ((μ 6 (mg s i).toNat) < e)) => ?_⟩
                · exact ⟨mRetI (by unfold v_reaches; rw [if_neg e2, if_neg e52, if_neg e53, if_pos e79, if_pos e82, if_pos e84, if_pos e86, if_pos e87]) rfl, Nat.le_refl _, Nat.le_refl _⟩
                · refine ⟨⟨_, hm_oi hx⟩, _, _, _, _, (m_received hF htr hx hV (s := s) (by omega) (by omega)), Nat.le_refl _, Nat.le_refl _, mki_ (r := some (aL (v_received μ s))) ?_, fun _ _ q => q.elim⟩
                  have t88 := received_b hV s
                  refine ⟨_, hm_oi hx, aR (A 11), rfl, ?_⟩
                  refine ⟨2, _, (μ 11 s.toNat), hm_a hx 11 rfl, by omega, rfl, ?_⟩
                  have t89 := (show 0 ≤ μ 11 s.toNat ∧ μ 11 s.toNat ≤ 65536 from hV.g 11 s.toNat)
                  refine ⟨by omega, fun (e90 : ((v_received μ s) + 0) ≤ (μ 11 s.toNat)) => ?_, fun (e90 : ¬ (((v_received μ s) + 0) ≤ (μ 11 s.toNat))) => ?_⟩
                  · exact ⟨mRetI (by unfold v_reaches; rw [if_neg e2, if_neg e52, if_neg e53, if_pos e79, if_pos e82, if_pos e84, if_pos e86, if_neg e87, if_pos e90]) rfl, Nat.le_refl _, Nat.le_refl _⟩
                  · exact ⟨mRetI (by unfold v_reaches; rw [if_neg e2, if_neg e52, if_neg e53, if_pos e79, if_pos e82, if_pos e84, if_pos e86, if_neg e87, if_neg e90]) rfl, Nat.le_refl _, Nat.le_refl _⟩
              · refine ⟨_, hm_oi hx, aR (A 25), rfl, ?_⟩
                refine ⟨512, _, (μ 25 (mj s i)), hm_a hx 25 rfl, by omega, rfl, ?_⟩
                refine ⟨by omega, fun (e91 : (μ 6 (mg s i).toNat) < e) => ?_, fun (e91 : ¬ ((μ 6 (mg s i).toNat) < e)) => ?_⟩
                · exact ⟨mRetI (by unfold v_reaches; rw [if_neg e2, if_neg e52, if_neg e53, if_pos e79, if_pos e82, if_pos e84, if_neg e86, if_pos e91]) rfl, Nat.le_refl _, Nat.le_refl _⟩
                · refine ⟨⟨_, hm_oi hx⟩, _, _, _, _, (m_received hF htr hx hV (s := s) (by omega) (by omega)), Nat.le_refl _, Nat.le_refl _, mki_ (r := some (aL (v_received μ s))) ?_, fun _ _ q => q.elim⟩
                  have t92 := received_b hV s
                  refine ⟨_, hm_oi hx, aR (A 11), rfl, ?_⟩
                  refine ⟨2, _, (μ 11 s.toNat), hm_a hx 11 rfl, by omega, rfl, ?_⟩
                  have t93 := (show 0 ≤ μ 11 s.toNat ∧ μ 11 s.toNat ≤ 65536 from hV.g 11 s.toNat)
                  refine ⟨by omega, fun (e94 : ((v_received μ s) + (e - (μ 25 (mj s i)))) ≤ (μ 11 s.toNat)) => ?_, fun (e94 : ¬ (((v_received μ s) + (e - (μ 25 (mj s i)))) ≤ (μ 11 s.toNat))) => ?_⟩
                  · exact ⟨mRetI (by unfold v_reaches; rw [if_neg e2, if_neg e52, if_neg e53, if_pos e79, if_pos e82, if_pos e84, if_neg e86, if_neg e91, if_pos e94]) rfl, Nat.le_refl _, Nat.le_refl _⟩
                  · exact ⟨mRetI (by unfold v_reaches; rw [if_neg e2, if_neg e52, if_neg e53, if_pos e79, if_pos e82, if_pos e84, if_neg e86, if_neg e91, if_neg e94]) rfl, Nat.le_refl _, Nat.le_refl _⟩
            · refine ⟨_, hm_oi hx, aR (A 30), rfl, ?_⟩
              refine ⟨512, _, (μ 30 (mj s i)), hm_a hx 30 rfl, by omega, rfl, ?_⟩
              have t95 := (show 0 ≤ μ 30 (mj s i) ∧ μ 30 (mj s i) ≤ 65536 from hV.g 30 (mj s i))
              refine ⟨_, hm_oi hx, aR (A 25), rfl, ?_⟩
              refine ⟨512, _, (μ 25 (mj s i)), hm_a hx 25 rfl, by omega, rfl, ?_⟩
              refine ⟨by omega, fun (e96 : e ≤ (μ 25 (mj s i))) => ?_, fun (e96 : ¬ (e ≤ (μ 25 (mj s i)))) => ?_⟩
              · refine ⟨0, rfl, ?_⟩
                refine ⟨by omega, fun (e97 : (μ 30 (mj s i)) < e) => ?_, fun (e97 : ¬ ((μ 30 (mj s i)) < e)) => ?_⟩
                · exact ⟨mRetI (by unfold v_reaches; rw [if_neg e2, if_neg e52, if_neg e53, if_pos e79, if_pos e82, if_neg e84, if_pos e96, if_pos e97]) rfl, Nat.le_refl _, Nat.le_refl _⟩
                · refine ⟨⟨_, hm_oi hx⟩, _, _, _, _, (m_received hF htr hx hV (s := s) (by omega) (by omega)), Nat.le_refl _, Nat.le_refl _, mki_ (r := some (aL (v_received μ s))) ?_, fun _ _ q => q.elim⟩
                  have t98 := received_b hV s
                  refine ⟨_, hm_oi hx, aR (A 11), rfl, ?_⟩
                  refine ⟨2, _, (μ 11 s.toNat), hm_a hx 11 rfl, by omega, rfl, ?_⟩
                  have t99 := (show 0 ≤ μ 11 s.toNat ∧ μ 11 s.toNat ≤ 65536 from hV.g 11 s.toNat)
                  refine ⟨by omega, fun (e100 : ((v_received μ s) + 0) ≤ (μ 11 s.toNat)) => ?_, fun (e100 : ¬ (((v_received μ s) + 0) ≤ (μ 11 s.toNat))) => ?_⟩
                  · exact ⟨mRetI (by unfold v_reaches; rw [if_neg e2, if_neg e52, if_neg e53, if_pos e79, if_pos e82, if_neg e84, if_pos e96, if_neg e97, if_pos e100]) rfl, Nat.le_refl _, Nat.le_refl _⟩
                  · exact ⟨mRetI (by unfold v_reaches; rw [if_neg e2, if_neg e52, if_neg e53, if_pos e79, if_pos e82, if_neg e84, if_pos e96, if_neg e97, if_neg e100]) rfl, Nat.le_refl _, Nat.le_refl _⟩
              · refine ⟨_, hm_oi hx, aR (A 25), rfl, ?_⟩
                refine ⟨512, _, (μ 25 (mj s i)), hm_a hx 25 rfl, by omega, rfl, ?_⟩
                refine ⟨by omega, fun (e101 : (μ 30 (mj s i)) < e) => ?_, fun (e101 : ¬ ((μ 30 (mj s i)) < e)) => ?_⟩
                · exact ⟨mRetI (by unfold v_reaches; rw [if_neg e2, if_neg e52, if_neg e53, if_pos e79, if_pos e82, if_neg e84, if_neg e96, if_pos e101]) rfl, Nat.le_refl _, Nat.le_refl _⟩
                · refine ⟨⟨_, hm_oi hx⟩, _, _, _, _, (m_received hF htr hx hV (s := s) (by omega) (by omega)), Nat.le_refl _, Nat.le_refl _, mki_ (r := some (aL (v_received μ s))) ?_, fun _ _ q => q.elim⟩
                  have t102 := received_b hV s
                  refine ⟨_, hm_oi hx, aR (A 11), rfl, ?_⟩
                  refine ⟨2, _, (μ 11 s.toNat), hm_a hx 11 rfl, by omega, rfl, ?_⟩
                  have t103 := (show 0 ≤ μ 11 s.toNat ∧ μ 11 s.toNat ≤ 65536 from hV.g 11 s.toNat)
                  refine ⟨by omega, fun (e104 : ((v_received μ s) + (e - (μ 25 (mj s i)))) ≤ (μ 11 s.toNat)) => ?_, fun (e104 : ¬ (((v_received μ s) + (e - (μ 25 (mj s i)))) ≤ (μ 11 s.toNat))) => ?_⟩
                  · exact ⟨mRetI (by unfold v_reaches; rw [if_neg e2, if_neg e52, if_neg e53, if_pos e79, if_pos e82, if_neg e84, if_neg e96, if_neg e101, if_pos e104]) rfl, Nat.le_refl _, Nat.le_refl _⟩
                  · exact ⟨mRetI (by unfold v_reaches; rw [if_neg e2, if_neg e52, if_neg e53, if_pos e79, if_pos e82, if_neg e84, if_neg e96, if_neg e101, if_neg e104]) rfl, Nat.le_refl _, Nat.le_refl _⟩
          · exact ⟨mRetI (by unfold v_reaches; rw [if_neg e2, if_neg e52, if_neg e53, if_pos e79, if_neg e82]) rfl, Nat.le_refl _, Nat.le_refl _⟩
        · exact ⟨mRetI (by unfold v_reaches; rw [if_neg e2, if_neg e52, if_neg e53, if_neg e79]) rfl, Nat.le_refl _, Nat.le_refl _⟩
set_option maxRecDepth 100000 in
theorem v_reaches_cg {μ μ' : Nat → Nat → Int} {s i e p : Int} (h : ∀ f, [6, 11, 17, 25, 26, 30].elem f = true → ∀ k, μ f k = μ' f k) : v_reaches μ s i e p = v_reaches μ' s i e p := by
  have q6 := h 6 rfl
  have q11 := h 11 rfl
  have q17 := h 17 rfl
  have q25 := h 25 rfl
  have q26 := h 26 rfl
  have q30 := h 30 rfl
  have c_X6_received : ∀ (z_s : Int), v_received μ z_s = v_received μ' z_s := fun _ => v_received_cg (fun f hf k => h f (by simp only [List.elem_eq_mem, decide_eq_true_eq, List.mem_cons, List.not_mem_nil, or_false] at hf ⊢; omega) k)
  unfold v_reaches
  simp only [q6, q11, q17, q25, q26, q30, c_X6_received]
theorem v_reaches_u {f k : Nat} {v : Int} {s i e p : Int} (hf : [6, 11, 17, 25, 26, 30].elem f = false) : v_reaches (u2 μ f k v) s i e p = v_reaches μ s i e p := v_reaches_cg (fun g hg q => u2_f (by rintro rfl; rw [hg] at hf; cases hf))
set_option maxRecDepth 100000 in
theorem v_reaches_b (μ : Nat → Nat → Int) (s i e p : Int) : 0 ≤ v_reaches μ s i e p ∧ v_reaches μ s i e p ≤ 6 := by
  unfold v_reaches
  repeat' with_reducible apply b_ite
  all_goals decide
def s_grant (μ : Nat → Nat → Int) (s i v : Int) : Nat → Nat → Int := (if s < 0 ∨ 1 < s then (u2 μ 0 0 1) else (if i < 4 then (u2 μ 0 0 1) else (if 9 < i then (u2 μ 0 0 1) else (if v < 0 then (u2 μ 0 0 1) else (if i ≤ 7 then (if v ≤ 65536 then (if (μ 1 0) = 0 then (if i = 4 then (u2 (u2 (u2 (u2 μ 0 0 0) 0 0 (if (μ 1 0) = 0 then 0 else 2)) 6 ((16 * s) + i).toNat v) 11 s.toNat v) else (u2 (u2 (u2 μ 0 0 0) 0 0 (if (μ 1 0) = 0 then 0 else 2)) 6 ((16 * s) + i).toNat v)) else (u2 (u2 μ 0 0 0) 0 0 (if (μ 1 0) = 0 then 0 else 2))) else (u2 μ 0 0 1)) else (if v ≤ 64 then (if (μ 1 0) = 0 then (if i = 4 then (u2 (u2 (u2 (u2 μ 0 0 0) 0 0 (if (μ 1 0) = 0 then 0 else 2)) 6 ((16 * s) + i).toNat v) 11 s.toNat v) else (u2 (u2 (u2 (u2 μ 0 0 0) 0 0 (if (μ 1 0) = 0 then 0 else 2)) 6 ((16 * s) + i).toNat v) 10 (((2 * s) + i) - 8).toNat v)) else (u2 (u2 μ 0 0 0) 0 0 (if (μ 1 0) = 0 then 0 else 2))) else (u2 μ 0 0 1)))))))
set_option maxRecDepth 100000 in
theorem m_grant (hF : mm_F G) (htr : L.stackTraces = false) (hx : mx A ax) (hV : mV μ) {s i v : Int} (h1 : -2147483648 ≤ s) (h2 : s < 2147483648) (h3 : -2147483648 ≤ i) (h4 : i < 2147483648) (h5 : -2147483648 ≤ v) (h5a : v < 2147483648) :
    mm_Met L G SX6_grant [.ref (A 99), .int (iI s), .int (iI i), .int (iI v)] (hm G A ax h0 μ) 0 0 (mRetS none (hm G A ax h0 (s_grant μ s i v)) (mV (s_grant μ s i v))) mm_no := by
  refine mi_meth MX6_grant 400 hF htr okX6_grant (av := [aR (A 99), aI s, aI i, aI v]) (by decide +kernel) (Nat.le_of_ble_eq_true rfl) cmX6_grant (fun θ hc => ?_)
  refine ⟨_, _, _, _, (m_noSide hF htr (s := s) (by omega) (by omega)), Nat.le_refl _, Nat.le_refl _, mki_ (r := some (aI (b2 (s < 0 ∨ 1 < s)))) ?_, fun _ _ q => q.elim⟩
  refine ⟨by have := b2_r (s < 0 ∨ 1 < s); omega, fun e1 => ?_, fun e1 => ?_⟩
  · have e1 : s < 0 ∨ 1 < s := b2_n0.mp e1
    refine ⟨⟨_, hm_oi hx⟩, _, _, _, _, (m_fails1 hF htr hx (c := 1)), Nat.le_refl _, Nat.le_refl _, mki_ (r := some (aI 1)) ?_, fun _ _ q => q.elim⟩
    have hV2 := hV.u (f := 0) (k := 0) (v := 1) (show 0 ≤ 1 ∧ 1 ≤ 2 from by omega)
    refine ⟨by omega, fun _ => ?_, fun (e : (1 : Int) = 0) => absurd e (by decide)⟩
    exact ⟨mRetVS (by unfold s_grant; rw [if_pos e1]) hV2, Nat.le_refl _, Nat.le_refl _⟩
  · have e1 : ¬ (s < 0 ∨ 1 < s) := b2_e0.mp e1
    refine ⟨by omega, fun (e3 : i < 4) => ?_, fun (e3 : ¬ (i < 4)) => ?_⟩
    · refine ⟨⟨_, hm_oi hx⟩, _, _, _, _, (m_fails1 hF htr hx (c := 1)), Nat.le_refl _, Nat.le_refl _, mki_ (r := some (aI 1)) ?_, fun _ _ q => q.elim⟩
      have hV4 := hV.u (f := 0) (k := 0) (v := 1) (show 0 ≤ 1 ∧ 1 ≤ 2 from by omega)
      refine ⟨by omega, fun _ => ?_, fun (e : (1 : Int) = 0) => absurd e (by decide)⟩
      exact ⟨mRetVS (by unfold s_grant; rw [if_neg e1, if_pos e3]) hV4, Nat.le_refl _, Nat.le_refl _⟩
    · refine ⟨by omega, fun (e5 : 9 < i) => ?_, fun (e5 : ¬ (9 < i)) => ?_⟩
      · refine ⟨⟨_, hm_oi hx⟩, _, _, _, _, (m_fails1 hF htr hx (c := 1)), Nat.le_refl _, Nat.le_refl _, mki_ (r := some (aI 1)) ?_, fun _ _ q => q.elim⟩
        have hV6 := hV.u (f := 0) (k := 0) (v := 1) (show 0 ≤ 1 ∧ 1 ≤ 2 from by omega)
        refine ⟨by omega, fun _ => ?_, fun (e : (1 : Int) = 0) => absurd e (by decide)⟩
        exact ⟨mRetVS (by unfold s_grant; rw [if_neg e1, if_neg e3, if_pos e5]) hV6, Nat.le_refl _, Nat.le_refl _⟩
      · refine ⟨by omega, fun (e7 : v < 0) => ?_, fun (e7 : ¬ (v < 0)) => ?_⟩
        · refine ⟨⟨_, hm_oi hx⟩, _, _, _, _, (m_fails1 hF htr hx (c := 1)), Nat.le_refl _, Nat.le_refl _, mki_ (r := some (aI 1)) ?_, fun _ _ q => q.elim⟩
          have hV8 := hV.u (f := 0) (k := 0) (v := 1) (show 0 ≤ 1 ∧ 1 ≤ 2 from by omega)
          refine ⟨by omega, fun _ => ?_, fun (e : (1 : Int) = 0) => absurd e (by decide)⟩
          exact ⟨mRetVS (by unfold s_grant; rw [if_neg e1, if_neg e3, if_neg e5, if_pos e7]) hV8, Nat.le_refl _, Nat.le_refl _⟩
        · refine ⟨by omega, fun (e9 : i ≤ 7) => ?_, fun (e9 : ¬ (i ≤ 7)) => ?_⟩
          · refine ⟨65536, rfl, ?_⟩
            refine ⟨by omega, fun (e10 : v ≤ 65536) => ?_, fun (e10 : ¬ (v ≤ 65536)) => ?_⟩
            · refine ⟨⟨_, hm_oi hx⟩, _, _, _, _, (m_fails0 hF htr hx (c := 1)), Nat.le_refl _, Nat.le_refl _, mki_ (r := some (aI 0)) ?_, fun _ _ q => q.elim⟩
              have hV11 := hV.u (f := 0) (k := 0) (v := 0) (show 0 ≤ 0 ∧ 0 ≤ 2 from by omega)
              refine ⟨by omega, fun (e : ¬ ((0 : Int) = 0)) => (e (by decide)).elim, fun _ => ?_⟩
              refine ⟨_, hm_oi hx, aI (μ 1 0), rfl, ?_⟩
              have t12 := (show 0 ≤ μ 1 0 ∧ μ 1 0 ≤ 1 from hV.g 1 0)
              refine ⟨⟨_, hm_oi hx⟩, _, _, _, _, (m_failsV hF htr hx (v := (μ 1 0)) (c := 2) (by omega)), Nat.le_refl _, Nat.le_refl _, mki_ (r := some (aI (μ 1 0))) ?_, fun _ _ q => q.elim⟩
              have hV13 := hV11.u (f := 0) (k := 0) (v := (if (μ 1 0) = 0 then 0 else 2)) (show 0 ≤ (if (μ 1 0) = 0 then 0 else 2) ∧ (if (μ 1 0) = 0 then 0 else 2) ≤ 2 from by split <;> omega)
              refine ⟨by omega, fun (e14 : (μ 1 0) = 0) => ?_, fun (e14 : ¬ ((μ 1 0) = 0)) => ?_⟩
              · refine ⟨_, hm_oi hx, aR (A 6), rfl, ?_⟩
                refine ⟨32, _, _, hm_a hx 6 rfl, by omega, trivial, hm_pi hx (i := ((16 * s) + i).toNat) (v := v) rfl rfl rfl rfl, ?_⟩
                have hV15 := hV13.u (f := 6) (k := ((16 * s) + i).toNat) (v := v) (show 0 ≤ v ∧ v ≤ 65536 from by omega)
                refine ⟨by omega, fun (e16 : ¬ (i = 4)) => ?_, fun (e16 : i = 4) => ?_⟩
                · refine ⟨by omega, fun _ => ?_, fun (e : ¬ (i ≤ 7)) => absurd e (by omega)⟩
                  exact ⟨mRetVS (by unfold s_grant; rw [if_neg e1, if_neg e3, if_neg e5, if_neg e7, if_pos e9, if_pos e10, if_pos e14, if_neg e16]) hV15, Nat.le_refl _, Nat.le_refl _⟩
                · refine ⟨_, hm_oi hx, aR (A 11), rfl, ?_⟩
                  refine ⟨by omega, ?_⟩
                  refine ⟨2, _, _, hm_a hx 11 rfl, by omega, hm_pl hx (i := s.toNat) (v := v) rfl rfl rfl, ?_⟩
                  have hV18 := hV15.u (f := 11) (k := s.toNat) (v := v) (show 0 ≤ v ∧ v ≤ 65536 from by omega)
                  refine ⟨by omega, fun _ => ?_, fun (e : ¬ (i ≤ 7)) => absurd e (by omega)⟩
                  exact ⟨mRetVS (by unfold s_grant; rw [if_neg e1, if_neg e3, if_neg e5, if_neg e7, if_pos e9, if_pos e10, if_pos e14, if_pos e16]) hV18, Nat.le_refl _, Nat.le_refl _⟩
              · exact ⟨mRetVS (by unfold s_grant; rw [if_neg e1, if_neg e3, if_neg e5, if_neg e7, if_pos e9, if_pos e10, if_neg e14]) hV13, Nat.le_refl _, Nat.le_refl _⟩
            · refine ⟨⟨_, hm_oi hx⟩, _, _, _, _, (m_fails1 hF htr hx (c := 1)), Nat.le_refl _, Nat.le_refl _, mki_ (r := some (aI 1)) ?_, fun _ _ q => q.elim⟩
              have hV20 := hV.u (f := 0) (k := 0) (v := 1) (show 0 ≤ 1 ∧ 1 ≤ 2 from by omega)
              refine ⟨by omega, fun _ => ?_, fun (e : (1 : Int) = 0) => absurd e (by decide)⟩
              exact ⟨mRetVS (by unfold s_grant; rw [if_neg e1, if_neg e3, if_neg e5, if_neg e7, if_pos e9, if_neg e10]) hV20, Nat.le_refl _, Nat.le_refl _⟩
          · refine ⟨by omega, fun (e21 : v ≤ 64) => ?_, fun (e21 : ¬ (v ≤ 64)) => ?_⟩
            · refine ⟨⟨_, hm_oi hx⟩, _, _, _, _, (m_fails0 hF htr hx (c := 1)), Nat.le_refl _, Nat.le_refl _, mki_ (r := some (aI 0)) ?_, fun _ _ q => q.elim⟩
              have hV22 := hV.u (f := 0) (k := 0) (v := 0) (show 0 ≤ 0 ∧ 0 ≤ 2 from by omega)
              refine ⟨by omega, fun (e : ¬ ((0 : Int) = 0)) => (e (by decide)).elim, fun _ => ?_⟩
              refine ⟨_, hm_oi hx, aI (μ 1 0), rfl, ?_⟩
              have t23 := (show 0 ≤ μ 1 0 ∧ μ 1 0 ≤ 1 from hV.g 1 0)
              refine ⟨⟨_, hm_oi hx⟩, _, _, _, _, (m_failsV hF htr hx (v := (μ 1 0)) (c := 2) (by omega)), Nat.le_refl _, Nat.le_refl _, mki_ (r := some (aI (μ 1 0))) ?_, fun _ _ q => q.elim⟩
              have hV24 := hV22.u (f := 0) (k := 0) (v := (if (μ 1 0) = 0 then 0 else 2)) (show 0 ≤ (if (μ 1 0) = 0 then 0 else 2) ∧ (if (μ 1 0) = 0 then 0 else 2) ≤ 2 from by split <;> omega)
              refine ⟨by omega, fun (e25 : (μ 1 0) = 0) => ?_, fun (e25 : ¬ ((μ 1 0) = 0)) => ?_⟩
              · refine ⟨_, hm_oi hx, aR (A 6), rfl, ?_⟩
                refine ⟨32, _, _, hm_a hx 6 rfl, by omega, trivial, hm_pi hx (i := ((16 * s) + i).toNat) (v := v) rfl rfl rfl rfl, ?_⟩
                have hV26 := hV24.u (f := 6) (k := ((16 * s) + i).toNat) (v := v) (show 0 ≤ v ∧ v ≤ 65536 from by omega)
                refine ⟨by omega, fun (e27 : ¬ (i = 4)) => ?_, fun (e27 : i = 4) => ?_⟩
                · refine ⟨by omega, fun (e : i ≤ 7) => absurd e (by omega), fun _ => ?_⟩
                  refine ⟨_, hm_oi hx, aR (A 10), rfl, ?_⟩
                  refine ⟨4, _, _, hm_a hx 10 rfl, by omega, trivial, hm_pi hx (i := (((2 * s) + i) - 8).toNat) (v := v) rfl rfl rfl rfl, ?_⟩
                  have hV29 := hV26.u (f := 10) (k := (((2 * s) + i) - 8).toNat) (v := v) (show 0 ≤ v ∧ v ≤ 64 from by omega)
                  exact ⟨mRetVS (by unfold s_grant; rw [if_neg e1, if_neg e3, if_neg e5, if_neg e7, if_neg e9, if_pos e21, if_pos e25, if_neg e27]) hV29, Nat.le_refl _, Nat.le_refl _⟩
                · refine ⟨_, hm_oi hx, aR (A 11), rfl, ?_⟩
                  refine ⟨by omega, ?_⟩
                  refine ⟨2, _, _, hm_a hx 11 rfl, by omega, hm_pl hx (i := s.toNat) (v := v) rfl rfl rfl, ?_⟩
                  have hV30 := hV26.u (f := 11) (k := s.toNat) (v := v) (show 0 ≤ v ∧ v ≤ 65536 from by omega)
                  refine ⟨by omega, fun _ => ?_, fun (e : ¬ (i ≤ 7)) => absurd e (by omega)⟩
                  exact ⟨mRetVS (by unfold s_grant; rw [if_neg e1, if_neg e3, if_neg e5, if_neg e7, if_neg e9, if_pos e21, if_pos e25, if_pos e27]) hV30, Nat.le_refl _, Nat.le_refl _⟩
              · exact ⟨mRetVS (by unfold s_grant; rw [if_neg e1, if_neg e3, if_neg e5, if_neg e7, if_neg e9, if_pos e21, if_neg e25]) hV24, Nat.le_refl _, Nat.le_refl _⟩
            · refine ⟨⟨_, hm_oi hx⟩, _, _, _, _, (m_fails1 hF htr hx (c := 1)), Nat.le_refl _, Nat.le_refl _, mki_ (r := some (aI 1)) ?_, fun _ _ q => q.elim⟩
              have hV32 := hV.u (f := 0) (k := 0) (v := 1) (show 0 ≤ 1 ∧ 1 ≤ 2 from by omega)
              refine ⟨by omega, fun _ => ?_, fun (e : (1 : Int) = 0) => absurd e (by decide)⟩
              exact ⟨mRetVS (by unfold s_grant; rw [if_neg e1, if_neg e3, if_neg e5, if_neg e7, if_neg e9, if_neg e21]) hV32, Nat.le_refl _, Nat.le_refl _⟩
set_option maxRecDepth 100000 in
theorem s_grant_fr {f kk : Nat} {s i v : Int} (hf : [0, 6, 10, 11].elem f = false) : s_grant μ s i v f kk = μ f kk := by
  have n0 : f ≠ 0 := by rintro rfl; exact absurd hf (by decide)
  have n6 : f ≠ 6 := by rintro rfl; exact absurd hf (by decide)
  have n10 : f ≠ 10 := by rintro rfl; exact absurd hf (by decide)
  have n11 : f ≠ 11 := by rintro rfl; exact absurd hf (by decide)
  have f0 : ∀ (m : Nat → Nat → Int) (a b : Nat) (v : Int), u2 m 0 a v f b = m f b := fun m a b v => u2_f n0
  have f6 : ∀ (m : Nat → Nat → Int) (a b : Nat) (v : Int), u2 m 6 a v f b = m f b := fun m a b v => u2_f n6
  have f10 : ∀ (m : Nat → Nat → Int) (a b : Nat) (v : Int), u2 m 10 a v f b = m f b := fun m a b v => u2_f n10
  have f11 : ∀ (m : Nat → Nat → Int) (a b : Nat) (v : Int), u2 m 11 a v f b = m f b := fun m a b v => u2_f n11
  unfold s_grant
  repeat' with_reducible apply f_ite
  all_goals first | rfl | simp only [f0, f6, f10, f11]
def v_open (μ : Nat → Nat → Int) (s p : Int) : Int := (if s < 0 ∨ 1 < s then 0 else (if (μ 1 0) = 0 then 0 else (if p = 0 then (if (μ 7 (((3 * s) + 1) + 1).toNat) ≤ (μ 8 ((2 * s) + 1).toNat) then -1 else (if (μ 8 ((2 * s) + 1).toNat) = 64 then -1 else (((4 * (μ 8 ((2 * s) + 1).toNat)) + (2 * 1)) + s))) else (if (μ 7 (((3 * s) + 1) + 0).toNat) ≤ (μ 8 ((2 * s) + 0).toNat) then -1 else (if (μ 8 ((2 * s) + 0).toNat) = 64 then -1 else (((4 * (μ 8 ((2 * s) + 0).toNat)) + (2 * 0)) + s))))))
def s_open (μ : Nat → Nat → Int) (s p : Int) : Nat → Nat → Int := (if s < 0 ∨ 1 < s then (u2 μ 0 0 (if (b2 (s < 0 ∨ 1 < s)) = 0 then 0 else 1)) else (if (μ 1 0) = 0 then (u2 (u2 μ 0 0 (if (b2 (s < 0 ∨ 1 < s)) = 0 then 0 else 1)) 0 0 2) else (if p = 0 then (if (μ 7 (((3 * s) + 1) + 1).toNat) ≤ (μ 8 ((2 * s) + 1).toNat) then (u2 (u2 (u2 μ 0 0 (if (b2 (s < 0 ∨ 1 < s)) = 0 then 0 else 1)) 0 0 0) 15 ((2 * s) + 1).toNat 1) else (if (μ 8 ((2 * s) + 1).toNat) = 64 then (u2 (u2 (u2 μ 0 0 (if (b2 (s < 0 ∨ 1 < s)) = 0 then 0 else 1)) 0 0 0) 15 ((2 * s) + 1).toNat 1) else (s_begins (u2 (u2 (u2 (u2 μ 0 0 (if (b2 (s < 0 ∨ 1 < s)) = 0 then 0 else 1)) 0 0 0) 15 ((2 * s) + 1).toNat 0) 8 ((2 * s) + 1).toNat ((μ 8 ((2 * s) + 1).toNat) + 1)) s (((4 * (μ 8 ((2 * s) + 1).toNat)) + (2 * 1)) + s)))) else (if (μ 7 (((3 * s) + 1) + 0).toNat) ≤ (μ 8 ((2 * s) + 0).toNat) then (u2 (u2 (u2 μ 0 0 (if (b2 (s < 0 ∨ 1 < s)) = 0 then 0 else 1)) 0 0 0) 15 ((2 * s) + 0).toNat 1) else (if (μ 8 ((2 * s) + 0).toNat) = 64 then (u2 (u2 (u2 μ 0 0 (if (b2 (s < 0 ∨ 1 < s)) = 0 then 0 else 1)) 0 0 0) 15 ((2 * s) + 0).toNat 1) else (s_begins (u2 (u2 (u2 (u2 μ 0 0 (if (b2 (s < 0 ∨ 1 < s)) = 0 then 0 else 1)) 0 0 0) 15 ((2 * s) + 0).toNat 0) 8 ((2 * s) + 0).toNat ((μ 8 ((2 * s) + 0).toNat) + 1)) s (((4 * (μ 8 ((2 * s) + 0).toNat)) + (2 * 0)) + s)))))))
set_option maxRecDepth 100000 in
theorem m_open (hF : mm_F G) (htr : L.stackTraces = false) (hx : mx A ax) (hV : mV μ) {s p : Int} (h1 : -2147483648 ≤ s) (h2 : s < 2147483648) (h3 : p = 0 ∨ p = 1) :
    mm_Met L G SX6_open [.ref (A 99), .int (iI s), .int (iI p)] (hm G A ax h0 μ) 0 0 (mRetS (some (.int (iI (v_open μ s p)))) (hm G A ax h0 (s_open μ s p)) (mV (s_open μ s p))) mm_no := by
  refine mi_meth MX6_open 400 hF htr okX6_open (av := [aR (A 99), aI s, aI p]) (by decide +kernel) (Nat.le_of_ble_eq_true rfl) cmX6_open (fun θ hc => ?_)
  refine ⟨_, _, _, _, (m_noSide hF htr (s := s) (by omega) (by omega)), Nat.le_refl _, Nat.le_refl _, mki_ (r := some (aI (b2 (s < 0 ∨ 1 < s)))) ?_, fun _ _ q => q.elim⟩
  refine ⟨⟨_, hm_oi hx⟩, _, _, _, _, (m_failsV hF htr hx (v := (b2 (s < 0 ∨ 1 < s))) (c := 1) (b2_01 _)), Nat.le_refl _, Nat.le_refl _, mki_ (r := some (aI (b2 (s < 0 ∨ 1 < s)))) ?_, fun _ _ q => q.elim⟩
  have hV1 := hV.u (f := 0) (k := 0) (v := (if (b2 (s < 0 ∨ 1 < s)) = 0 then 0 else 1)) (show 0 ≤ (if (b2 (s < 0 ∨ 1 < s)) = 0 then 0 else 1) ∧ (if (b2 (s < 0 ∨ 1 < s)) = 0 then 0 else 1) ≤ 2 from by split <;> omega)
  refine ⟨by have := b2_r (s < 0 ∨ 1 < s); omega, fun e2 => ?_, fun e2 => ?_⟩
  · have e2 : s < 0 ∨ 1 < s := b2_n0.mp e2
    exact ⟨mRetIS (by unfold v_open; rw [if_pos e2]) (by unfold s_open; rw [if_pos e2]) hV1, Nat.le_refl _, Nat.le_refl _⟩
  · have e2 : ¬ (s < 0 ∨ 1 < s) := b2_e0.mp e2
    refine ⟨_, hm_oi hx, aI (μ 1 0), rfl, ?_⟩
    have t3 := (show 0 ≤ μ 1 0 ∧ μ 1 0 ≤ 1 from hV.g 1 0)
    refine ⟨by omega, fun (e4 : ¬ ((μ 1 0) = 0)) => ?_, fun (e4 : (μ 1 0) = 0) => ?_⟩
    · refine ⟨⟨_, hm_oi hx⟩, _, _, _, _, (m_fails0 hF htr hx (c := 2)), Nat.le_refl _, Nat.le_refl _, mki_ (r := some (aI 0)) ?_, fun _ _ q => q.elim⟩
      have hV5 := hV1.u (f := 0) (k := 0) (v := 0) (show 0 ≤ 0 ∧ 0 ≤ 2 from by omega)
      refine ⟨by omega, fun _ => ?_, fun (e : ¬ ((0 : Int) = 0)) => (e (by decide)).elim⟩
      refine ⟨by omega, fun (e6 : p = 0) => ?_, fun (e6 : ¬ (p = 0)) => ?_⟩
      · refine ⟨_, hm_oi hx, aR (A 8), rfl, ?_⟩
        refine ⟨4, _, (μ 8 ((2 * s) + 1).toNat), hm_a hx 8 rfl, by omega, (Eq.trans (u2_f (by decide)) (u2_f (by decide))), ?_⟩
        have t7 := (show 0 ≤ μ 8 ((2 * s) + 1).toNat ∧ μ 8 ((2 * s) + 1).toNat ≤ 64 from hV.g 8 ((2 * s) + 1).toNat)
        refine ⟨by omega, ?_⟩
        refine ⟨_, hm_oi hx, aR (A 7), rfl, ?_⟩
        refine ⟨6, _, (μ 7 (((3 * s) + 1) + 1).toNat), hm_a hx 7 rfl, by omega, (Eq.trans (u2_f (by decide)) (u2_f (by decide))), ?_⟩
        have t8 := (show 0 ≤ μ 7 (((3 * s) + 1) + 1).toNat ∧ μ 7 (((3 * s) + 1) + 1).toNat ≤ 4611686018427387903 from hV.g 7 (((3 * s) + 1) + 1).toNat)
        refine ⟨by omega, fun (e9 : (μ 7 (((3 * s) + 1) + 1).toNat) ≤ (μ 8 ((2 * s) + 1).toNat)) => ?_, fun (e9 : ¬ ((μ 7 (((3 * s) + 1) + 1).toNat) ≤ (μ 8 ((2 * s) + 1).toNat))) => ?_⟩
        · refine ⟨_, hm_oi hx, aR (A 15), rfl, ?_⟩
          refine ⟨4, _, _, hm_a hx 15 rfl, by omega, (show 1 = 0 ∨ 1 = 1 from by omega), hm_pi hx (i := ((2 * s) + 1).toNat) (v := 1) rfl rfl rfl rfl, ?_⟩
          have hV10 := hV5.u (f := 15) (k := ((2 * s) + 1).toNat) (v := 1) (show 0 ≤ 1 ∧ 1 ≤ 1 from by omega)
          exact ⟨mRetIS (by unfold v_open; rw [if_neg e2, if_neg e4, if_pos e6, if_pos e9]) (by unfold s_open; rw [if_neg e2, if_neg e4, if_pos e6, if_pos e9]) hV10, Nat.le_refl _, Nat.le_refl _⟩
        · refine ⟨_, hm_oi hx, aR (A 8), rfl, ?_⟩
          refine ⟨4, _, (μ 8 ((2 * s) + 1).toNat), hm_a hx 8 rfl, by omega, (Eq.trans (u2_f (by decide)) (u2_f (by decide))), ?_⟩
          refine ⟨by omega, fun (e11 : ¬ ((μ 8 ((2 * s) + 1).toNat) = 64)) => ?_, fun (e11 : (μ 8 ((2 * s) + 1).toNat) = 64) => ?_⟩
          · refine ⟨_, hm_oi hx, aR (A 15), rfl, ?_⟩
            refine ⟨4, _, _, hm_a hx 15 rfl, by omega, (show 0 = 0 ∨ 0 = 1 from by omega), hm_pi hx (i := ((2 * s) + 1).toNat) (v := 0) rfl rfl rfl rfl, ?_⟩
            have hV12 := hV5.u (f := 15) (k := ((2 * s) + 1).toNat) (v := 0) (show 0 ≤ 0 ∧ 0 ≤ 1 from by omega)
            refine ⟨_, hm_oi hx, aR (A 8), rfl, ?_⟩
            refine ⟨4, _, (μ 8 ((2 * s) + 1).toNat), hm_a hx 8 rfl, by omega, (Eq.trans (u2_f (by decide)) (Eq.trans (u2_f (by decide)) (u2_f (by decide)))), ?_⟩
            refine ⟨_, hm_oi hx, aR (A 8), rfl, ?_⟩
            refine ⟨4, _, (μ 8 ((2 * s) + 1).toNat), hm_a hx 8 rfl, by omega, (Eq.trans (u2_f (by decide)) (Eq.trans (u2_f (by decide)) (u2_f (by decide)))), ?_⟩
            refine ⟨4, _, _, hm_a hx 8 rfl, by omega, trivial, hm_pi hx (i := ((2 * s) + 1).toNat) (v := ((μ 8 ((2 * s) + 1).toNat) + 1)) rfl rfl rfl rfl, ?_⟩
            have hV13 := hV12.u (f := 8) (k := ((2 * s) + 1).toNat) (v := ((μ 8 ((2 * s) + 1).toNat) + 1)) (show 0 ≤ ((μ 8 ((2 * s) + 1).toNat) + 1) ∧ ((μ 8 ((2 * s) + 1).toNat) + 1) ≤ 64 from by omega)
            refine ⟨⟨_, hm_oi hx⟩, _, _, _, _, (m_begins hF htr hx hV13 (s := s) (i := (((4 * (μ 8 ((2 * s) + 1).toNat)) + (2 * 1)) + s)) (by omega) (by omega) (by omega) (by omega)), Nat.le_refl _, Nat.le_refl _, mkis_ (r := none) (fun hV14 => ?_), fun _ _ q => q.elim⟩
            exact ⟨mRetIS (by unfold v_open; rw [if_neg e2, if_neg e4, if_pos e6, if_neg e9, if_neg e11]) (by unfold s_open; rw [if_neg e2, if_neg e4, if_pos e6, if_neg e9, if_neg e11]) hV14, Nat.le_refl _, Nat.le_refl _⟩
          · refine ⟨_, hm_oi hx, aR (A 15), rfl, ?_⟩
            refine ⟨4, _, _, hm_a hx 15 rfl, by omega, (show 1 = 0 ∨ 1 = 1 from by omega), hm_pi hx (i := ((2 * s) + 1).toNat) (v := 1) rfl rfl rfl rfl, ?_⟩
            have hV15 := hV5.u (f := 15) (k := ((2 * s) + 1).toNat) (v := 1) (show 0 ≤ 1 ∧ 1 ≤ 1 from by omega)
            exact ⟨mRetIS (by unfold v_open; rw [if_neg e2, if_neg e4, if_pos e6, if_neg e9, if_pos e11]) (by unfold s_open; rw [if_neg e2, if_neg e4, if_pos e6, if_neg e9, if_pos e11]) hV15, Nat.le_refl _, Nat.le_refl _⟩
      · refine ⟨_, hm_oi hx, aR (A 8), rfl, ?_⟩
        refine ⟨4, _, (μ 8 ((2 * s) + 0).toNat), hm_a hx 8 rfl, by omega, (Eq.trans (u2_f (by decide)) (u2_f (by decide))), ?_⟩
        have t16 := (show 0 ≤ μ 8 ((2 * s) + 0).toNat ∧ μ 8 ((2 * s) + 0).toNat ≤ 64 from hV.g 8 ((2 * s) + 0).toNat)
        refine ⟨by omega, ?_⟩
        refine ⟨_, hm_oi hx, aR (A 7), rfl, ?_⟩
        refine ⟨6, _, (μ 7 (((3 * s) + 1) + 0).toNat), hm_a hx 7 rfl, by omega, (Eq.trans (u2_f (by decide)) (u2_f (by decide))), ?_⟩
        have t17 := (show 0 ≤ μ 7 (((3 * s) + 1) + 0).toNat ∧ μ 7 (((3 * s) + 1) + 0).toNat ≤ 4611686018427387903 from hV.g 7 (((3 * s) + 1) + 0).toNat)
        refine ⟨by omega, fun (e18 : (μ 7 (((3 * s) + 1) + 0).toNat) ≤ (μ 8 ((2 * s) + 0).toNat)) => ?_, fun (e18 : ¬ ((μ 7 (((3 * s) + 1) + 0).toNat) ≤ (μ 8 ((2 * s) + 0).toNat))) => ?_⟩
        · refine ⟨_, hm_oi hx, aR (A 15), rfl, ?_⟩
          refine ⟨4, _, _, hm_a hx 15 rfl, by omega, (show 1 = 0 ∨ 1 = 1 from by omega), hm_pi hx (i := ((2 * s) + 0).toNat) (v := 1) rfl rfl rfl rfl, ?_⟩
          have hV19 := hV5.u (f := 15) (k := ((2 * s) + 0).toNat) (v := 1) (show 0 ≤ 1 ∧ 1 ≤ 1 from by omega)
          exact ⟨mRetIS (by unfold v_open; rw [if_neg e2, if_neg e4, if_neg e6, if_pos e18]) (by unfold s_open; rw [if_neg e2, if_neg e4, if_neg e6, if_pos e18]) hV19, Nat.le_refl _, Nat.le_refl _⟩
        · refine ⟨_, hm_oi hx, aR (A 8), rfl, ?_⟩
          refine ⟨4, _, (μ 8 ((2 * s) + 0).toNat), hm_a hx 8 rfl, by omega, (Eq.trans (u2_f (by decide)) (u2_f (by decide))), ?_⟩
          refine ⟨by omega, fun (e20 : ¬ ((μ 8 ((2 * s) + 0).toNat) = 64)) => ?_, fun (e20 : (μ 8 ((2 * s) + 0).toNat) = 64) => ?_⟩
          · refine ⟨_, hm_oi hx, aR (A 15), rfl, ?_⟩
            refine ⟨4, _, _, hm_a hx 15 rfl, by omega, (show 0 = 0 ∨ 0 = 1 from by omega), hm_pi hx (i := ((2 * s) + 0).toNat) (v := 0) rfl rfl rfl rfl, ?_⟩
            have hV21 := hV5.u (f := 15) (k := ((2 * s) + 0).toNat) (v := 0) (show 0 ≤ 0 ∧ 0 ≤ 1 from by omega)
            refine ⟨_, hm_oi hx, aR (A 8), rfl, ?_⟩
            refine ⟨4, _, (μ 8 ((2 * s) + 0).toNat), hm_a hx 8 rfl, by omega, (Eq.trans (u2_f (by decide)) (Eq.trans (u2_f (by decide)) (u2_f (by decide)))), ?_⟩
            refine ⟨_, hm_oi hx, aR (A 8), rfl, ?_⟩
            refine ⟨4, _, (μ 8 ((2 * s) + 0).toNat), hm_a hx 8 rfl, by omega, (Eq.trans (u2_f (by decide)) (Eq.trans (u2_f (by decide)) (u2_f (by decide)))), ?_⟩
            refine ⟨4, _, _, hm_a hx 8 rfl, by omega, trivial, hm_pi hx (i := ((2 * s) + 0).toNat) (v := ((μ 8 ((2 * s) + 0).toNat) + 1)) rfl rfl rfl rfl, ?_⟩
            have hV22 := hV21.u (f := 8) (k := ((2 * s) + 0).toNat) (v := ((μ 8 ((2 * s) + 0).toNat) + 1)) (show 0 ≤ ((μ 8 ((2 * s) + 0).toNat) + 1) ∧ ((μ 8 ((2 * s) + 0).toNat) + 1) ≤ 64 from by omega)
            refine ⟨⟨_, hm_oi hx⟩, _, _, _, _, (m_begins hF htr hx hV22 (s := s) (i := (((4 * (μ 8 ((2 * s) + 0).toNat)) + (2 * 0)) + s)) (by omega) (by omega) (by omega) (by omega)), Nat.le_refl _, Nat.le_refl _, mkis_ (r := none) (fun hV23 => ?_), fun _ _ q => q.elim⟩
            exact ⟨mRetIS (by unfold v_open; rw [if_neg e2, if_neg e4, if_neg e6, if_neg e18, if_neg e20]) (by unfold s_open; rw [if_neg e2, if_neg e4, if_neg e6, if_neg e18, if_neg e20]) hV23, Nat.le_refl _, Nat.le_refl _⟩
          · refine ⟨_, hm_oi hx, aR (A 15), rfl, ?_⟩
            refine ⟨4, _, _, hm_a hx 15 rfl, by omega, (show 1 = 0 ∨ 1 = 1 from by omega), hm_pi hx (i := ((2 * s) + 0).toNat) (v := 1) rfl rfl rfl rfl, ?_⟩
            have hV24 := hV5.u (f := 15) (k := ((2 * s) + 0).toNat) (v := 1) (show 0 ≤ 1 ∧ 1 ≤ 1 from by omega)
            exact ⟨mRetIS (by unfold v_open; rw [if_neg e2, if_neg e4, if_neg e6, if_neg e18, if_pos e20]) (by unfold s_open; rw [if_neg e2, if_neg e4, if_neg e6, if_neg e18, if_pos e20]) hV24, Nat.le_refl _, Nat.le_refl _⟩
    · refine ⟨⟨_, hm_oi hx⟩, _, _, _, _, (m_fails1 hF htr hx (c := 2)), Nat.le_refl _, Nat.le_refl _, mki_ (r := some (aI 1)) ?_, fun _ _ q => q.elim⟩
      have hV25 := hV1.u (f := 0) (k := 0) (v := 2) (show 0 ≤ 2 ∧ 2 ≤ 2 from by omega)
      refine ⟨by omega, fun (e : (1 : Int) = 0) => absurd e (by decide), fun _ => ?_⟩
      exact ⟨mRetIS (by unfold v_open; rw [if_neg e2, if_pos e4]) (by unfold s_open; rw [if_neg e2, if_pos e4]) hV25, Nat.le_refl _, Nat.le_refl _⟩
set_option maxRecDepth 100000 in
theorem s_open_fr {f kk : Nat} {s p : Int} (hf : [0, 8, 15, 17, 18, 30].elem f = false) : s_open μ s p f kk = μ f kk := by
  have n0 : f ≠ 0 := by rintro rfl; exact absurd hf (by decide)
  have n8 : f ≠ 8 := by rintro rfl; exact absurd hf (by decide)
  have n15 : f ≠ 15 := by rintro rfl; exact absurd hf (by decide)
  have n17 : f ≠ 17 := by rintro rfl; exact absurd hf (by decide)
  have n18 : f ≠ 18 := by rintro rfl; exact absurd hf (by decide)
  have n30 : f ≠ 30 := by rintro rfl; exact absurd hf (by decide)
  have f0 : ∀ (m : Nat → Nat → Int) (a b : Nat) (v : Int), u2 m 0 a v f b = m f b := fun m a b v => u2_f n0
  have f8 : ∀ (m : Nat → Nat → Int) (a b : Nat) (v : Int), u2 m 8 a v f b = m f b := fun m a b v => u2_f n8
  have f15 : ∀ (m : Nat → Nat → Int) (a b : Nat) (v : Int), u2 m 15 a v f b = m f b := fun m a b v => u2_f n15
  have f17 : ∀ (m : Nat → Nat → Int) (a b : Nat) (v : Int), u2 m 17 a v f b = m f b := fun m a b v => u2_f n17
  have f18 : ∀ (m : Nat → Nat → Int) (a b : Nat) (v : Int), u2 m 18 a v f b = m f b := fun m a b v => u2_f n18
  have f30 : ∀ (m : Nat → Nat → Int) (a b : Nat) (v : Int), u2 m 30 a v f b = m f b := fun m a b v => u2_f n30
  have c_begins : ∀ (m : Nat → Nat → Int) (z_s z_i : Int) (k : Nat), s_begins m z_s z_i f k = m f k := by intros; exact s_begins_fr (by simp only [List.elem_cons, List.elem_nil, beq_eq_false_iff_ne.mpr n17, beq_eq_false_iff_ne.mpr n18, beq_eq_false_iff_ne.mpr n30]; try rfl)
  unfold s_open
  repeat' with_reducible apply f_ite
  all_goals first | rfl | simp only [f0, f8, f15, f17, f18, f30, c_begins]
end MR4
