section MR6
variable {L : Launch} {G : mmG} {A : Nat → Nat} {ax : Nat → Option Nat} {h0 : mmH} {μ : Nat → Nat → Int}
def v_bytes (μ : Nat → Nat → Int) : Int := (if (μ 45 0) = 8 then (if (μ 47 0) ≤ 0 then ((((1 + (mSize (μ 46 0))) + 0) + (mSize (μ 49 0))) + (μ 49 0)) else ((((1 + (mSize (μ 46 0))) + (mSize (μ 47 0))) + (mSize (μ 49 0))) + (μ 49 0))) else (if (μ 45 0) = 4 then (((1 + (mSize (μ 46 0))) + (mSize (μ 47 0))) + (mSize (μ 48 0))) else (if (μ 45 0) = 5 then ((1 + (mSize (μ 46 0))) + (mSize (μ 47 0))) else (if (μ 45 0) = 17 then ((1 + (mSize (μ 46 0))) + (mSize (μ 47 0))) else (if (μ 45 0) = 21 then ((1 + (mSize (μ 46 0))) + (mSize (μ 47 0))) else (1 + (mSize (μ 46 0))))))))
set_option maxRecDepth 100000 in
theorem m_bytes (hF : mm_F G) (htr : L.stackTraces = false) (hx : mx A ax) (hV : mV μ)  :
    mm_Met L G SX6_bytes [.ref (A 99)] (hm G A ax h0 μ) 0 0 (mRet (some (.int (iI (v_bytes μ)))) (hm G A ax h0 μ)) mm_no := by
  refine mi_meth MX6_bytes 400 hF htr okX6_bytes (av := [aR (A 99)]) (by decide +kernel) (Nat.le_of_ble_eq_true rfl) cmX6_bytes (fun θ hc => ?_)
  refine ⟨_, hm_oi hx, aI (μ 45 0), rfl, ?_⟩
  have t1 := (show 0 ≤ μ 45 0 ∧ μ 45 0 ≤ 23 from hV.g 45 0)
  refine ⟨by omega, fun (e2 : ¬ ((μ 45 0) = 8)) => ?_, fun (e2 : (μ 45 0) = 8) => ?_⟩
  · refine ⟨_, hm_oi hx, aL (μ 46 0), rfl, ?_⟩
    have t3 := (show 0 ≤ μ 46 0 ∧ μ 46 0 ≤ 4611686018427387903 from hV.g 46 0)
    refine ⟨_, _, _, _, (m_sizeOf hF htr (a := (μ 46 0)) (by omega) (by omega)), Nat.le_refl _, Nat.le_refl _, mki_ (r := some (aI (mSize (μ 46 0)))) ?_, fun _ _ q => q.elim⟩
    have t4 := mSize_b (μ 46 0)
    refine ⟨_, hm_oi hx, aI (μ 45 0), rfl, ?_⟩
    refine ⟨by omega, fun (e5 : (μ 45 0) = 4) => ?_, fun (e5 : ¬ ((μ 45 0) = 4)) => ?_⟩
    · refine ⟨_, hm_oi hx, aL (μ 47 0), rfl, ?_⟩
      have t6 := (show 0 ≤ μ 47 0 ∧ μ 47 0 ≤ 4611686018427387903 from hV.g 47 0)
      refine ⟨_, _, _, _, (m_sizeOf hF htr (a := (μ 47 0)) (by omega) (by omega)), Nat.le_refl _, Nat.le_refl _, mki_ (r := some (aI (mSize (μ 47 0)))) ?_, fun _ _ q => q.elim⟩
      have t7 := mSize_b (μ 47 0)
      refine ⟨_, hm_oi hx, aI (μ 45 0), rfl, ?_⟩
      refine ⟨by omega, fun (e : ¬ ((μ 45 0) = 4)) => absurd e (by omega), fun _ => ?_⟩
      refine ⟨_, hm_oi hx, aL (μ 48 0), rfl, ?_⟩
      have t9 := (show 0 ≤ μ 48 0 ∧ μ 48 0 ≤ 4611686018427387903 from hV.g 48 0)
      refine ⟨_, _, _, _, (m_sizeOf hF htr (a := (μ 48 0)) (by omega) (by omega)), Nat.le_refl _, Nat.le_refl _, mki_ (r := some (aI (mSize (μ 48 0)))) ?_, fun _ _ q => q.elim⟩
      have t10 := mSize_b (μ 48 0)
      exact ⟨mRetI (by unfold v_bytes; rw [if_neg e2, if_pos e5]) rfl, Nat.le_refl _, Nat.le_refl _⟩
    · refine ⟨_, hm_oi hx, aI (μ 45 0), rfl, ?_⟩
      refine ⟨by omega, fun (e11 : (μ 45 0) = 5) => ?_, fun (e11 : ¬ ((μ 45 0) = 5)) => ?_⟩
      · refine ⟨_, hm_oi hx, aL (μ 47 0), rfl, ?_⟩
        have t12 := (show 0 ≤ μ 47 0 ∧ μ 47 0 ≤ 4611686018427387903 from hV.g 47 0)
        refine ⟨_, _, _, _, (m_sizeOf hF htr (a := (μ 47 0)) (by omega) (by omega)), Nat.le_refl _, Nat.le_refl _, mki_ (r := some (aI (mSize (μ 47 0)))) ?_, fun _ _ q => q.elim⟩
        have t13 := mSize_b (μ 47 0)
        refine ⟨_, hm_oi hx, aI (μ 45 0), rfl, ?_⟩
        refine ⟨by omega, fun _ => ?_, fun (e : (μ 45 0) = 4) => absurd e (by omega)⟩
        exact ⟨mRetI (by unfold v_bytes; rw [if_neg e2, if_neg e5, if_pos e11]) rfl, Nat.le_refl _, Nat.le_refl _⟩
      · refine ⟨_, hm_oi hx, aI (μ 45 0), rfl, ?_⟩
        refine ⟨by omega, fun (e15 : (μ 45 0) = 17) => ?_, fun (e15 : ¬ ((μ 45 0) = 17)) => ?_⟩
        · refine ⟨_, hm_oi hx, aL (μ 47 0), rfl, ?_⟩
          have t16 := (show 0 ≤ μ 47 0 ∧ μ 47 0 ≤ 4611686018427387903 from hV.g 47 0)
          refine ⟨_, _, _, _, (m_sizeOf hF htr (a := (μ 47 0)) (by omega) (by omega)), Nat.le_refl _, Nat.le_refl _, mki_ (r := some (aI (mSize (μ 47 0)))) ?_, fun _ _ q => q.elim⟩
          have t17 := mSize_b (μ 47 0)
          refine ⟨_, hm_oi hx, aI (μ 45 0), rfl, ?_⟩
          refine ⟨by omega, fun _ => ?_, fun (e : (μ 45 0) = 4) => absurd e (by omega)⟩
          exact ⟨mRetI (by unfold v_bytes; rw [if_neg e2, if_neg e5, if_neg e11, if_pos e15]) rfl, Nat.le_refl _, Nat.le_refl _⟩
        · refine ⟨_, hm_oi hx, aI (μ 45 0), rfl, ?_⟩
          refine ⟨by omega, fun (e19 : ¬ ((μ 45 0) = 21)) => ?_, fun (e19 : (μ 45 0) = 21) => ?_⟩
          · refine ⟨_, hm_oi hx, aI (μ 45 0), rfl, ?_⟩
            refine ⟨by omega, fun _ => ?_, fun (e : (μ 45 0) = 4) => absurd e (by omega)⟩
            exact ⟨mRetI (by unfold v_bytes; rw [if_neg e2, if_neg e5, if_neg e11, if_neg e15, if_neg e19]) rfl, Nat.le_refl _, Nat.le_refl _⟩
          · refine ⟨_, hm_oi hx, aL (μ 47 0), rfl, ?_⟩
            have t21 := (show 0 ≤ μ 47 0 ∧ μ 47 0 ≤ 4611686018427387903 from hV.g 47 0)
            refine ⟨_, _, _, _, (m_sizeOf hF htr (a := (μ 47 0)) (by omega) (by omega)), Nat.le_refl _, Nat.le_refl _, mki_ (r := some (aI (mSize (μ 47 0)))) ?_, fun _ _ q => q.elim⟩
            have t22 := mSize_b (μ 47 0)
            refine ⟨_, hm_oi hx, aI (μ 45 0), rfl, ?_⟩
            refine ⟨by omega, fun _ => ?_, fun (e : (μ 45 0) = 4) => absurd e (by omega)⟩
            exact ⟨mRetI (by unfold v_bytes; rw [if_neg e2, if_neg e5, if_neg e11, if_neg e15, if_pos e19]) rfl, Nat.le_refl _, Nat.le_refl _⟩
  · refine ⟨_, hm_oi hx, aL (μ 46 0), rfl, ?_⟩
    have t24 := (show 0 ≤ μ 46 0 ∧ μ 46 0 ≤ 4611686018427387903 from hV.g 46 0)
    refine ⟨_, _, _, _, (m_sizeOf hF htr (a := (μ 46 0)) (by omega) (by omega)), Nat.le_refl _, Nat.le_refl _, mki_ (r := some (aI (mSize (μ 46 0)))) ?_, fun _ _ q => q.elim⟩
    have t25 := mSize_b (μ 46 0)
    refine ⟨_, hm_oi hx, aL (μ 47 0), rfl, ?_⟩
    have t26 := (show 0 ≤ μ 47 0 ∧ μ 47 0 ≤ 4611686018427387903 from hV.g 47 0)
    refine ⟨0, rfl, ?_⟩
    refine ⟨by omega, fun (e27 : (μ 47 0) ≤ 0) => ?_, fun (e27 : ¬ ((μ 47 0) ≤ 0)) => ?_⟩
    · refine ⟨_, hm_oi hx, aI (μ 49 0), rfl, ?_⟩
      have t28 := (show 0 ≤ μ 49 0 ∧ μ 49 0 ≤ 2048 from hV.g 49 0)
      refine ⟨by omega, ?_⟩
      refine ⟨_, _, _, _, (m_sizeOf hF htr (a := (μ 49 0)) (by omega) (by omega)), Nat.le_refl _, Nat.le_refl _, mki_ (r := some (aI (mSize (μ 49 0)))) ?_, fun _ _ q => q.elim⟩
      have t29 := mSize_b (μ 49 0)
      refine ⟨_, hm_oi hx, aI (μ 49 0), rfl, ?_⟩
      exact ⟨mRetI (by unfold v_bytes; rw [if_pos e2, if_pos e27]) rfl, Nat.le_refl _, Nat.le_refl _⟩
    · refine ⟨_, hm_oi hx, aL (μ 47 0), rfl, ?_⟩
      refine ⟨_, _, _, _, (m_sizeOf hF htr (a := (μ 47 0)) (by omega) (by omega)), Nat.le_refl _, Nat.le_refl _, mki_ (r := some (aI (mSize (μ 47 0)))) ?_, fun _ _ q => q.elim⟩
      have t30 := mSize_b (μ 47 0)
      refine ⟨_, hm_oi hx, aI (μ 49 0), rfl, ?_⟩
      have t31 := (show 0 ≤ μ 49 0 ∧ μ 49 0 ≤ 2048 from hV.g 49 0)
      refine ⟨by omega, ?_⟩
      refine ⟨_, _, _, _, (m_sizeOf hF htr (a := (μ 49 0)) (by omega) (by omega)), Nat.le_refl _, Nat.le_refl _, mki_ (r := some (aI (mSize (μ 49 0)))) ?_, fun _ _ q => q.elim⟩
      have t32 := mSize_b (μ 49 0)
      refine ⟨_, hm_oi hx, aI (μ 49 0), rfl, ?_⟩
      exact ⟨mRetI (by unfold v_bytes; rw [if_pos e2, if_neg e27]) rfl, Nat.le_refl _, Nat.le_refl _⟩
set_option maxRecDepth 100000 in
theorem v_bytes_cg {μ μ' : Nat → Nat → Int} (h : ∀ f, [45, 46, 47, 48, 49].elem f = true → ∀ k, μ f k = μ' f k) : v_bytes μ = v_bytes μ' := by
  have q45 := h 45 rfl
  have q46 := h 46 rfl
  have q47 := h 47 rfl
  have q48 := h 48 rfl
  have q49 := h 49 rfl
  unfold v_bytes
  simp only [q45, q46, q47, q48, q49]
theorem v_bytes_u {f k : Nat} {v : Int} (hf : [45, 46, 47, 48, 49].elem f = false) : v_bytes (u2 μ f k v) = v_bytes μ := v_bytes_cg (fun g hg q => u2_f (by rintro rfl; rw [hg] at hf; cases hf))
theorem bytes_b (hV : mV μ) : 1 ≤ v_bytes μ ∧ v_bytes μ ≤ 2100 ∧ (μ 45 0 = 8 → μ 49 0 + 2 ≤ v_bytes μ) := by
  have q1 := mSize_b (μ 46 0)
  have q2 := mSize_b (μ 47 0)
  have q3 := mSize_b (μ 48 0)
  have q4 := mSize_b (μ 49 0)
  have q5 : 0 ≤ μ 49 0 ∧ μ 49 0 ≤ 2048 := hV 49 0
  unfold v_bytes
  repeat' split
  all_goals (refine ⟨?_, ?_, ?_⟩ <;> omega)
def v_lays (μ : Nat → Nat → Int) (t a b c r : Int) : Int := (if r < (v_bytes (u2 (u2 (u2 (u2 (u2 μ 45 0 t) 46 0 a) 47 0 b) 48 0 c) 49 0 0)) then 0 else 1)
def s_lays (μ : Nat → Nat → Int) (t a b c r : Int) : Nat → Nat → Int := (if r < (v_bytes (u2 (u2 (u2 (u2 (u2 μ 45 0 t) 46 0 a) 47 0 b) 48 0 c) 49 0 0)) then (u2 (u2 (u2 (u2 (u2 μ 45 0 t) 46 0 a) 47 0 b) 48 0 c) 49 0 0) else (u2 (u2 (u2 (u2 (u2 μ 45 0 t) 46 0 a) 47 0 b) 48 0 c) 49 0 0))
set_option maxRecDepth 100000 in
theorem m_lays (hF : mm_F G) (htr : L.stackTraces = false) (hx : mx A ax) (hV : mV μ) {t a b c r : Int} (h1 : 0 ≤ t) (h1a : t ≤ 23) (h2 : 0 ≤ a) (h2a : a ≤ 4611686018427387903) (h3 : 0 ≤ b) (h3a : b ≤ 4611686018427387903) (h4 : 0 ≤ c) (h4a : c ≤ 4611686018427387903) (h5 : -2147483648 ≤ r) (h5a : r < 2147483648) :
    mm_Met L G SX6_lays [.ref (A 99), .int (iI t), .long (iL a), .long (iL b), .long (iL c), .int (iI r)] (hm G A ax h0 μ) 0 0 (mRetS (some (.int (iI (v_lays μ t a b c r)))) (hm G A ax h0 (s_lays μ t a b c r)) (mV (s_lays μ t a b c r) ∧ (fun r m => (r = 0 ∨ r = 1) ∧ m 49 0 = 0 ∧ m 45 0 = t ∧ m 46 0 = a) (v_lays μ t a b c r) (s_lays μ t a b c r))) mm_no := by
  refine mi_meth MX6_lays 400 hF htr okX6_lays (av := [aR (A 99), aI t, aL a, aL b, aL c, aI r]) (by decide +kernel) (Nat.le_of_ble_eq_true rfl) cmX6_lays (fun θ hc => ?_)
  refine ⟨_, hm_oi hx, trivial, _, hm_putO hx (f := 45) (v := t) rfl rfl, ?_⟩
  have hV1 := hV.u (f := 45) (k := 0) (v := t) (show 0 ≤ t ∧ t ≤ 23 from by omega)
  refine ⟨_, hm_oi hx, trivial, _, hm_putO hx (f := 46) (v := a) rfl rfl, ?_⟩
  have hV2 := hV1.u (f := 46) (k := 0) (v := a) (show 0 ≤ a ∧ a ≤ 4611686018427387903 from by omega)
  refine ⟨_, hm_oi hx, trivial, _, hm_putO hx (f := 47) (v := b) rfl rfl, ?_⟩
  have hV3 := hV2.u (f := 47) (k := 0) (v := b) (show 0 ≤ b ∧ b ≤ 4611686018427387903 from by omega)
  refine ⟨_, hm_oi hx, trivial, _, hm_putO hx (f := 48) (v := c) rfl rfl, ?_⟩
  have hV4 := hV3.u (f := 48) (k := 0) (v := c) (show 0 ≤ c ∧ c ≤ 4611686018427387903 from by omega)
  refine ⟨_, hm_oi hx, trivial, _, hm_putO hx (f := 49) (v := 0) rfl rfl, ?_⟩
  have hV5 := hV4.u (f := 49) (k := 0) (v := 0) (show 0 ≤ 0 ∧ 0 ≤ 2048 from by omega)
  refine ⟨⟨_, hm_oi hx⟩, _, _, _, _, (m_bytes hF htr hx hV5), Nat.le_refl _, Nat.le_refl _, mki_ (r := some (aI (v_bytes (u2 (u2 (u2 (u2 (u2 μ 45 0 t) 46 0 a) 47 0 b) 48 0 c) 49 0 0)))) ?_, fun _ _ q => q.elim⟩
  have t6 := (show 1 ≤ v_bytes (u2 (u2 (u2 (u2 (u2 μ 45 0 t) 46 0 a) 47 0 b) 48 0 c) 49 0 0) ∧ v_bytes (u2 (u2 (u2 (u2 (u2 μ 45 0 t) 46 0 a) 47 0 b) 48 0 c) 49 0 0) ≤ 2100 ∧ (t = 8 → 0 + 2 ≤ v_bytes (u2 (u2 (u2 (u2 (u2 μ 45 0 t) 46 0 a) 47 0 b) 48 0 c) 49 0 0)) from bytes_b hV5)
  refine ⟨by omega, fun (e7 : r < (v_bytes (u2 (u2 (u2 (u2 (u2 μ 45 0 t) 46 0 a) 47 0 b) 48 0 c) 49 0 0))) => ?_, fun (e7 : ¬ (r < (v_bytes (u2 (u2 (u2 (u2 (u2 μ 45 0 t) 46 0 a) 47 0 b) 48 0 c) 49 0 0)))) => ?_⟩
  · exact ⟨(Or.inl rfl), mRetIP (P := fun r m => (r = 0 ∨ r = 1) ∧ m 49 0 = 0 ∧ m 45 0 = t ∧ m 46 0 = a) (by unfold v_lays; rw [if_pos e7]) (by unfold s_lays; rw [if_pos e7]) hV5 ⟨by omega, rfl, rfl, rfl⟩, Nat.le_refl _, Nat.le_refl _⟩
  · exact ⟨(Or.inr rfl), mRetIP (P := fun r m => (r = 0 ∨ r = 1) ∧ m 49 0 = 0 ∧ m 45 0 = t ∧ m 46 0 = a) (by unfold v_lays; rw [if_neg e7]) (by unfold s_lays; rw [if_neg e7]) hV5 ⟨by omega, rfl, rfl, rfl⟩, Nat.le_refl _, Nat.le_refl _⟩
set_option maxRecDepth 100000 in
theorem s_lays_fr {f kk : Nat} {t a b c r : Int} (hf : [45, 46, 47, 48, 49].elem f = false) : s_lays μ t a b c r f kk = μ f kk := by
  have n45 : f ≠ 45 := by rintro rfl; exact absurd hf (by decide)
  have n46 : f ≠ 46 := by rintro rfl; exact absurd hf (by decide)
  have n47 : f ≠ 47 := by rintro rfl; exact absurd hf (by decide)
  have n48 : f ≠ 48 := by rintro rfl; exact absurd hf (by decide)
  have n49 : f ≠ 49 := by rintro rfl; exact absurd hf (by decide)
  have f45 : ∀ (m : Nat → Nat → Int) (a b : Nat) (v : Int), u2 m 45 a v f b = m f b := fun m a b v => u2_f n45
  have f46 : ∀ (m : Nat → Nat → Int) (a b : Nat) (v : Int), u2 m 46 a v f b = m f b := fun m a b v => u2_f n46
  have f47 : ∀ (m : Nat → Nat → Int) (a b : Nat) (v : Int), u2 m 47 a v f b = m f b := fun m a b v => u2_f n47
  have f48 : ∀ (m : Nat → Nat → Int) (a b : Nat) (v : Int), u2 m 48 a v f b = m f b := fun m a b v => u2_f n48
  have f49 : ∀ (m : Nat → Nat → Int) (a b : Nat) (v : Int), u2 m 49 a v f b = m f b := fun m a b v => u2_f n49
  unfold s_lays
  repeat' with_reducible apply f_ite
  all_goals first | rfl | simp only [f45, f46, f47, f48, f49]
set_option maxRecDepth 100000 in
theorem v_lays_b (μ : Nat → Nat → Int) (t a b c r : Int) : 0 ≤ v_lays μ t a b c r ∧ v_lays μ t a b c r ≤ 1 := by
  unfold v_lays
  repeat' with_reducible apply b_ite
  all_goals decide
def v_fillsResets_47 (μ : Nat → Nat → Int) (s r : Int) : Nat → Int → (Nat → Nat → Int) → Int
  | 0, _, _ => 0
  | d + 1, k, ν => (if 256 ≤ k then 0 else (if (ν 33 (mj s k)) = 0 then (v_fillsResets_47 μ s r d (k + 1) ν) else (if 2 ≤ (v_receiving ν s k) then (v_fillsResets_47 μ s r d (k + 1) ν) else (if (v_lays ν 5 k (ν 34 (mj s k)) 0 r) = 0 then (v_fillsResets_47 μ s r d (k + 1) (s_lays ν 5 k (ν 34 (mj s k)) 0 r)) else 1))))
def s_fillsResets_47 (μ : Nat → Nat → Int) (s r : Int) : Nat → Int → (Nat → Nat → Int) → (Nat → Nat → Int)
  | 0, _, ν => ν
  | d + 1, k, ν => (if 256 ≤ k then ν else (if (ν 33 (mj s k)) = 0 then (s_fillsResets_47 μ s r d (k + 1) ν) else (if 2 ≤ (v_receiving ν s k) then (s_fillsResets_47 μ s r d (k + 1) ν) else (if (v_lays ν 5 k (ν 34 (mj s k)) 0 r) = 0 then (s_fillsResets_47 μ s r d (k + 1) (s_lays ν 5 k (ν 34 (mj s k)) 0 r)) else (u2 (s_lays ν 5 k (ν 34 (mj s k)) 0 r) 33 (mj s k) 0)))))
def v_fillsResets_2 (μ : Nat → Nat → Int) (s r : Int) : Nat → Int → (Nat → Nat → Int) → Int
  | 0, _, _ => 0
  | d + 1, k, ν => (if 256 ≤ k then (v_fillsResets_47 μ s r 257 0 ν) else (if (ν 22 (mj s k)) = 0 then (v_fillsResets_2 μ s r d (k + 1) ν) else (if (ν 21 (mj s k)) = 1 then (if (v_lays ν 4 k (ν 23 (mj s k)) (mCnt ν s k (-2) (mTot ν s)) r) = 0 then (v_fillsResets_2 μ s r d (k + 1) (s_lays ν 4 k (ν 23 (mj s k)) (mCnt ν s k (-2) (mTot ν s)) r)) else 1) else (v_fillsResets_2 μ s r d (k + 1) ν))))
def s_fillsResets_2 (μ : Nat → Nat → Int) (s r : Int) : Nat → Int → (Nat → Nat → Int) → (Nat → Nat → Int)
  | 0, _, ν => ν
  | d + 1, k, ν => (if 256 ≤ k then (s_fillsResets_47 μ s r 257 0 ν) else (if (ν 22 (mj s k)) = 0 then (s_fillsResets_2 μ s r d (k + 1) ν) else (if (ν 21 (mj s k)) = 1 then (if (v_lays ν 4 k (ν 23 (mj s k)) (mCnt ν s k (-2) (mTot ν s)) r) = 0 then (s_fillsResets_2 μ s r d (k + 1) (s_lays ν 4 k (ν 23 (mj s k)) (mCnt ν s k (-2) (mTot ν s)) r)) else (u2 (s_lays ν 4 k (ν 23 (mj s k)) (mCnt ν s k (-2) (mTot ν s)) r) 22 (mj s k) 0)) else (s_fillsResets_2 μ s r d (k + 1) ν))))
def v_fillsResets (μ : Nat → Nat → Int) (s r : Int) : Int := (v_fillsResets_2 μ s r 257 0 μ)
def s_fillsResets (μ : Nat → Nat → Int) (s r : Int) : Nat → Nat → Int := (s_fillsResets_2 μ s r 257 0 μ)
set_option maxRecDepth 100000 in
theorem m_fillsResets (hF : mm_F G) (htr : L.stackTraces = false) (hx : mx A ax) (hV : mV μ) {s r : Int} (h1 : 0 ≤ s) (h2 : s ≤ 1) (h3 : 1 ≤ r) (h3a : r ≤ 1200) :
    mm_Met L G SX6_fillsResets [.ref (A 99), .int (iI s), .int (iI r)] (hm G A ax h0 μ) 0 0 (mRetS (some (.int (iI (v_fillsResets μ s r)))) (hm G A ax h0 (s_fillsResets μ s r)) (mV (s_fillsResets μ s r) ∧ (fun r m => (r = 0 ∨ r = 1) ∧ (r = 1 → m 49 0 = 0 ∧ (((m 45 0 = 4 ∨ m 45 0 = 5 ∨ m 45 0 = 17 ∨ m 45 0 = 21) ∧ m 46 0 < 256) ∨ m 45 0 = 16 ∨ m 45 0 = 18 ∨ m 45 0 = 19 ∨ m 45 0 = 20 ∨ m 45 0 = 22 ∨ m 45 0 = 23))) (v_fillsResets μ s r) (s_fillsResets μ s r))) mm_no := by
  refine mi_meth MX6_fillsResets 400 hF htr okX6_fillsResets (av := [aR (A 99), aI s, aI r]) (by decide +kernel) (Nat.le_of_ble_eq_true rfl) cmX6_fillsResets (fun θ hc => ?_)
  have loop47 : ∀ (R : Int) (S : Nat → Nat → Int) (d : Nat) (k : Int) (ν : Nat → Nat → Int) (hV : mV ν), (0 ≤ k) → (k ≤ 256) → (256 - k) < (d : Int) → v_fillsResets_47 μ s r d k ν = R → s_fillsResets_47 μ s r d k ν = S → mi_W L G MX6_fillsResets 0 0 (mRetS (some (.int (iI R))) (hm G A ax h0 S) (mV S ∧ (fun r m => (r = 0 ∨ r = 1) ∧ (r = 1 → m 49 0 = 0 ∧ (((m 45 0 = 4 ∨ m 45 0 = 5 ∨ m 45 0 = 17 ∨ m 45 0 = 21) ∧ m 46 0 < 256) ∨ m 45 0 = 16 ∨ m 45 0 = 18 ∨ m 45 0 = 19 ∨ m 45 0 = 20 ∨ m 45 0 = 22 ∨ m 45 0 = 23))) R S)) mm_no θ 47 [(3, aI k), (0, aR (A 99)), (1, aI s), (2, aI r)] [] (hm G A ax h0 ν) 0 0 := by
    intro R S d
    induction d with
    | zero =>
      intro k ν hV hi1 hi2 hms hvr hsr
      omega
    | succ d ih =>
      intro k ν hV hi1 hi2 hms hvr hsr
      refine mi_sound hc okX6_fillsResets 400 _ _ _ _ _ _ ?_
      refine ⟨by omega, fun (e1 : 256 ≤ k) => ?_, fun (e1 : ¬ (256 ≤ k)) => ?_⟩
      · exact ⟨(Or.inl rfl), mRetIP (P := fun r m => (r = 0 ∨ r = 1) ∧ (r = 1 → m 49 0 = 0 ∧ (((m 45 0 = 4 ∨ m 45 0 = 5 ∨ m 45 0 = 17 ∨ m 45 0 = 21) ∧ m 46 0 < 256) ∨ m 45 0 = 16 ∨ m 45 0 = 18 ∨ m 45 0 = 19 ∨ m 45 0 = 20 ∨ m 45 0 = 22 ∨ m 45 0 = 23))) (hvr.symm.trans (by rw [v_fillsResets_47]; rw [if_pos e1])) (hsr.symm.trans (by rw [s_fillsResets_47]; rw [if_pos e1])) hV (show (0 = 0 ∨ 0 = 1) ∧ (0 = 1 → ν 49 0 = 0 ∧ (((ν 45 0 = 4 ∨ ν 45 0 = 5 ∨ ν 45 0 = 17 ∨ ν 45 0 = 21) ∧ ν 46 0 < 256) ∨ ν 45 0 = 16 ∨ ν 45 0 = 18 ∨ ν 45 0 = 19 ∨ ν 45 0 = 20 ∨ ν 45 0 = 22 ∨ ν 45 0 = 23)) from by have z45 : ν 45 0 = (ν 45 0) := rfl; have z46 : ν 46 0 = (ν 46 0) := rfl; have z49 : ν 49 0 = (ν 49 0) := rfl; omega), Nat.le_refl _, Nat.le_refl _⟩
      · refine ⟨_, _, _, _, (m_at hF htr (s := s) (i := k)), Nat.le_refl _, Nat.le_refl _, mki_ (r := some (aI ((256 * s) + k))) ?_, fun _ _ q => q.elim⟩
        refine ⟨_, hm_oi hx, aR (A 33), rfl, ?_⟩
        refine ⟨512, _, (ν 33 (mj s k)), hm_a hx 33 rfl, by omega, rfl, ?_⟩
        have t2 := (show 0 ≤ ν 33 (mj s k) ∧ ν 33 (mj s k) ≤ 1 from hV.g 33 (mj s k))
        refine ⟨by omega, fun (e3 : (ν 33 (mj s k)) = 0) => ?_, fun (e3 : ¬ ((ν 33 (mj s k)) = 0)) => ?_⟩
        · exact mi_Wsub (List.forall_mem_cons.mpr ⟨(.head _), List.forall_mem_cons.mpr ⟨(.tail _ (.tail _ (.head _))), List.forall_mem_cons.mpr ⟨(.tail _ (.tail _ (.tail _ (.head _)))), List.forall_mem_cons.mpr ⟨(.tail _ (.tail _ (.tail _ (.tail _ (.head _))))), fun _ h => absurd h List.not_mem_nil⟩⟩⟩⟩) (ih (k + 1) ν hV (show 0 ≤ (k + 1) from by omega) (show (k + 1) ≤ 256 from by omega) (show (256 - (k + 1)) < (d : Int) from by omega) (Eq.trans (by rw [v_fillsResets_47]; rw [if_neg e1, if_pos e3]) hvr) (Eq.trans (by rw [s_fillsResets_47]; rw [if_neg e1, if_pos e3]) hsr))
        · refine ⟨⟨_, hm_oi hx⟩, _, _, _, _, (m_receiving hF htr hx hV (s := s) (i := k) (by omega) (by omega) (by omega) (by omega)), Nat.le_refl _, Nat.le_refl _, mki_ (r := some (aI (v_receiving ν s k))) ?_, fun _ _ q => q.elim⟩
          have t4 := v_receiving_b ν s k
          refine ⟨by omega, fun (e5 : 2 ≤ (v_receiving ν s k)) => ?_, fun (e5 : ¬ (2 ≤ (v_receiving ν s k))) => ?_⟩
          · exact mi_Wsub (List.forall_mem_cons.mpr ⟨(.head _), List.forall_mem_cons.mpr ⟨(.tail _ (.tail _ (.head _))), List.forall_mem_cons.mpr ⟨(.tail _ (.tail _ (.tail _ (.head _)))), List.forall_mem_cons.mpr ⟨(.tail _ (.tail _ (.tail _ (.tail _ (.head _))))), fun _ h => absurd h List.not_mem_nil⟩⟩⟩⟩) (ih (k + 1) ν hV (show 0 ≤ (k + 1) from by omega) (show (k + 1) ≤ 256 from by omega) (show (256 - (k + 1)) < (d : Int) from by omega) (Eq.trans (by rw [v_fillsResets_47]; rw [if_neg e1, if_neg e3, if_pos e5]) hvr) (Eq.trans (by rw [s_fillsResets_47]; rw [if_neg e1, if_neg e3, if_pos e5]) hsr))
          · refine ⟨by omega, ?_⟩
            refine ⟨_, hm_oi hx, aR (A 34), rfl, ?_⟩
            refine ⟨512, _, (ν 34 (mj s k)), hm_a hx 34 rfl, by omega, rfl, ?_⟩
            have t6 := (show 0 ≤ ν 34 (mj s k) ∧ ν 34 (mj s k) ≤ 4611686018427387903 from hV.g 34 (mj s k))
            refine ⟨0, rfl, ?_⟩
            refine ⟨⟨_, hm_oi hx⟩, _, _, _, _, (m_lays hF htr hx hV (t := 5) (a := k) (b := (ν 34 (mj s k))) (c := 0) (r := r) (by omega) (by omega) (by omega) (by omega) (by omega) (by omega) (by omega) (by omega) (by omega) (by omega)), Nat.le_refl _, Nat.le_refl _, mkis_ (r := some (aI (v_lays ν 5 k (ν 34 (mj s k)) 0 r))) (fun ⟨hV7, hp8⟩ => ?_), fun _ _ q => q.elim⟩
            have t9 := v_lays_b ν 5 k (ν 34 (mj s k)) 0 r
            have hp8 : ((v_lays ν 5 k (ν 34 (mj s k)) 0 r) = 0 ∨ (v_lays ν 5 k (ν 34 (mj s k)) 0 r) = 1) ∧ (s_lays ν 5 k (ν 34 (mj s k)) 0 r) 49 0 = 0 ∧ (s_lays ν 5 k (ν 34 (mj s k)) 0 r) 45 0 = 5 ∧ (s_lays ν 5 k (ν 34 (mj s k)) 0 r) 46 0 = k := hp8
            refine ⟨by omega, fun (e10 : (v_lays ν 5 k (ν 34 (mj s k)) 0 r) = 0) => ?_, fun (e10 : ¬ ((v_lays ν 5 k (ν 34 (mj s k)) 0 r) = 0)) => ?_⟩
            · exact mi_Wsub (List.forall_mem_cons.mpr ⟨(.head _), List.forall_mem_cons.mpr ⟨(.tail _ (.tail _ (.head _))), List.forall_mem_cons.mpr ⟨(.tail _ (.tail _ (.tail _ (.head _)))), List.forall_mem_cons.mpr ⟨(.tail _ (.tail _ (.tail _ (.tail _ (.head _))))), fun _ h => absurd h List.not_mem_nil⟩⟩⟩⟩) (ih (k + 1) (s_lays ν 5 k (ν 34 (mj s k)) 0 r) hV7 (show 0 ≤ (k + 1) from by omega) (show (k + 1) ≤ 256 from by omega) (show (256 - (k + 1)) < (d : Int) from by omega) (Eq.trans (by rw [v_fillsResets_47]; rw [if_neg e1, if_neg e3, if_neg e5, if_pos e10]) hvr) (Eq.trans (by rw [s_fillsResets_47]; rw [if_neg e1, if_neg e3, if_neg e5, if_pos e10]) hsr))
            · refine ⟨_, hm_oi hx, aR (A 33), rfl, ?_⟩
              refine ⟨512, _, _, hm_a hx 33 rfl, by omega, (show 0 = 0 ∨ 0 = 1 from by omega), hm_pi hx (i := (mj s k)) (v := 0) rfl rfl rfl rfl, ?_⟩
              have hV11 := hV7.u (f := 33) (k := (mj s k)) (v := 0) (show 0 ≤ 0 ∧ 0 ≤ 1 from by omega)
              exact ⟨(Or.inr rfl), mRetIP (P := fun r m => (r = 0 ∨ r = 1) ∧ (r = 1 → m 49 0 = 0 ∧ (((m 45 0 = 4 ∨ m 45 0 = 5 ∨ m 45 0 = 17 ∨ m 45 0 = 21) ∧ m 46 0 < 256) ∨ m 45 0 = 16 ∨ m 45 0 = 18 ∨ m 45 0 = 19 ∨ m 45 0 = 20 ∨ m 45 0 = 22 ∨ m 45 0 = 23))) (hvr.symm.trans (by rw [v_fillsResets_47]; rw [if_neg e1, if_neg e3, if_neg e5, if_neg e10])) (hsr.symm.trans (by rw [s_fillsResets_47]; rw [if_neg e1, if_neg e3, if_neg e5, if_neg e10])) hV11 (show (1 = 0 ∨ 1 = 1) ∧ (1 = 1 → (u2 (s_lays ν 5 k (ν 34 (mj s k)) 0 r) 33 (mj s k) 0) 49 0 = 0 ∧ ((((u2 (s_lays ν 5 k (ν 34 (mj s k)) 0 r) 33 (mj s k) 0) 45 0 = 4 ∨ (u2 (s_lays ν 5 k (ν 34 (mj s k)) 0 r) 33 (mj s k) 0) 45 0 = 5 ∨ (u2 (s_lays ν 5 k (ν 34 (mj s k)) 0 r) 33 (mj s k) 0) 45 0 = 17 ∨ (u2 (s_lays ν 5 k (ν 34 (mj s k)) 0 r) 33 (mj s k) 0) 45 0 = 21) ∧ (u2 (s_lays ν 5 k (ν 34 (mj s k)) 0 r) 33 (mj s k) 0) 46 0 < 256) ∨ (u2 (s_lays ν 5 k (ν 34 (mj s k)) 0 r) 33 (mj s k) 0) 45 0 = 16 ∨ (u2 (s_lays ν 5 k (ν 34 (mj s k)) 0 r) 33 (mj s k) 0) 45 0 = 18 ∨ (u2 (s_lays ν 5 k (ν 34 (mj s k)) 0 r) 33 (mj s k) 0) 45 0 = 19 ∨ (u2 (s_lays ν 5 k (ν 34 (mj s k)) 0 r) 33 (mj s k) 0) 45 0 = 20 ∨ (u2 (s_lays ν 5 k (ν 34 (mj s k)) 0 r) 33 (mj s k) 0) 45 0 = 22 ∨ (u2 (s_lays ν 5 k (ν 34 (mj s k)) 0 r) 33 (mj s k) 0) 45 0 = 23)) from by have z45 : (u2 (s_lays ν 5 k (ν 34 (mj s k)) 0 r) 33 (mj s k) 0) 45 0 = ((s_lays ν 5 k (ν 34 (mj s k)) 0 r) 45 0) := (u2_f (by decide)); have z46 : (u2 (s_lays ν 5 k (ν 34 (mj s k)) 0 r) 33 (mj s k) 0) 46 0 = ((s_lays ν 5 k (ν 34 (mj s k)) 0 r) 46 0) := (u2_f (by decide)); have z49 : (u2 (s_lays ν 5 k (ν 34 (mj s k)) 0 r) 33 (mj s k) 0) 49 0 = ((s_lays ν 5 k (ν 34 (mj s k)) 0 r) 49 0) := (u2_f (by decide)); omega), Nat.le_refl _, Nat.le_refl _⟩
  have loop2 : ∀ (R : Int) (S : Nat → Nat → Int) (d : Nat) (k : Int) (ν : Nat → Nat → Int) (hV : mV ν), (0 ≤ k) → (k ≤ 256) → (256 - k) < (d : Int) → v_fillsResets_2 μ s r d k ν = R → s_fillsResets_2 μ s r d k ν = S → mi_W L G MX6_fillsResets 0 0 (mRetS (some (.int (iI R))) (hm G A ax h0 S) (mV S ∧ (fun r m => (r = 0 ∨ r = 1) ∧ (r = 1 → m 49 0 = 0 ∧ (((m 45 0 = 4 ∨ m 45 0 = 5 ∨ m 45 0 = 17 ∨ m 45 0 = 21) ∧ m 46 0 < 256) ∨ m 45 0 = 16 ∨ m 45 0 = 18 ∨ m 45 0 = 19 ∨ m 45 0 = 20 ∨ m 45 0 = 22 ∨ m 45 0 = 23))) R S)) mm_no θ 2 [(3, aI k), (0, aR (A 99)), (1, aI s), (2, aI r)] [] (hm G A ax h0 ν) 0 0 := by
    intro R S d
    induction d with
    | zero =>
      intro k ν hV hi1 hi2 hms hvr hsr
      omega
    | succ d ih =>
      intro k ν hV hi1 hi2 hms hvr hsr
      refine mi_sound hc okX6_fillsResets 400 _ _ _ _ _ _ ?_
      refine ⟨by omega, fun (e12 : 256 ≤ k) => ?_, fun (e12 : ¬ (256 ≤ k)) => ?_⟩
      · exact mi_Wsub (List.forall_mem_cons.mpr ⟨(.head _), List.forall_mem_cons.mpr ⟨(.tail _ (.head _)), List.forall_mem_cons.mpr ⟨(.tail _ (.tail _ (.head _))), List.forall_mem_cons.mpr ⟨(.tail _ (.tail _ (.tail _ (.head _)))), fun _ h => absurd h List.not_mem_nil⟩⟩⟩⟩) (loop47 _ _ 257 0 ν hV (show 0 ≤ 0 from by omega) (show 0 ≤ 256 from by omega) (show (256 - 0) < (257 : Int) from by omega) (Eq.trans (by rw [v_fillsResets_2]; rw [if_pos e12]) hvr) (Eq.trans (by rw [s_fillsResets_2]; rw [if_pos e12]) hsr))
      · refine ⟨_, _, _, _, (m_at hF htr (s := s) (i := k)), Nat.le_refl _, Nat.le_refl _, mki_ (r := some (aI ((256 * s) + k))) ?_, fun _ _ q => q.elim⟩
        refine ⟨_, hm_oi hx, aR (A 22), rfl, ?_⟩
        refine ⟨512, _, (ν 22 (mj s k)), hm_a hx 22 rfl, by omega, rfl, ?_⟩
        have t13 := (show 0 ≤ ν 22 (mj s k) ∧ ν 22 (mj s k) ≤ 1 from hV.g 22 (mj s k))
        refine ⟨by omega, fun (e14 : (ν 22 (mj s k)) = 0) => ?_, fun (e14 : ¬ ((ν 22 (mj s k)) = 0)) => ?_⟩
        · exact mi_Wsub (List.forall_mem_cons.mpr ⟨(.head _), List.forall_mem_cons.mpr ⟨(.tail _ (.tail _ (.head _))), List.forall_mem_cons.mpr ⟨(.tail _ (.tail _ (.tail _ (.head _)))), List.forall_mem_cons.mpr ⟨(.tail _ (.tail _ (.tail _ (.tail _ (.head _))))), fun _ h => absurd h List.not_mem_nil⟩⟩⟩⟩) (ih (k + 1) ν hV (show 0 ≤ (k + 1) from by omega) (show (k + 1) ≤ 256 from by omega) (show (256 - (k + 1)) < (d : Int) from by omega) (Eq.trans (by rw [v_fillsResets_2]; rw [if_neg e12, if_pos e14]) hvr) (Eq.trans (by rw [s_fillsResets_2]; rw [if_neg e12, if_pos e14]) hsr))
        · refine ⟨_, hm_oi hx, aR (A 21), rfl, ?_⟩
          refine ⟨512, _, (ν 21 (mj s k)), hm_a hx 21 rfl, by omega, rfl, ?_⟩
          have t15 := (show 0 ≤ ν 21 (mj s k) ∧ ν 21 (mj s k) ≤ 2 from hV.g 21 (mj s k))
          refine ⟨by omega, fun (e16 : ¬ ((ν 21 (mj s k)) = 1)) => ?_, fun (e16 : (ν 21 (mj s k)) = 1) => ?_⟩
          · exact mi_Wsub (List.forall_mem_cons.mpr ⟨(.head _), List.forall_mem_cons.mpr ⟨(.tail _ (.tail _ (.head _))), List.forall_mem_cons.mpr ⟨(.tail _ (.tail _ (.tail _ (.head _)))), List.forall_mem_cons.mpr ⟨(.tail _ (.tail _ (.tail _ (.tail _ (.head _))))), fun _ h => absurd h List.not_mem_nil⟩⟩⟩⟩) (ih (k + 1) ν hV (show 0 ≤ (k + 1) from by omega) (show (k + 1) ≤ 256 from by omega) (show (256 - (k + 1)) < (d : Int) from by omega) (Eq.trans (by rw [v_fillsResets_2]; rw [if_neg e12, if_neg e14, if_neg e16]) hvr) (Eq.trans (by rw [s_fillsResets_2]; rw [if_neg e12, if_neg e14, if_neg e16]) hsr))
          · refine ⟨by omega, ?_⟩
            refine ⟨_, hm_oi hx, aR (A 23), rfl, ?_⟩
            refine ⟨512, _, (ν 23 (mj s k)), hm_a hx 23 rfl, by omega, rfl, ?_⟩
            have t17 := (show 0 ≤ ν 23 (mj s k) ∧ ν 23 (mj s k) ≤ 4611686018427387903 from hV.g 23 (mj s k))
            refine ⟨⟨_, hm_oi hx⟩, _, _, _, _, (m_sent hF htr hx hV.T hV.N (s := s) (i := k) (by omega) (by omega) (by omega) (by omega)), Nat.le_refl _, Nat.le_refl _, mki_ (r := some (aI (mCnt ν s k (-2) (mTot ν s)))) ?_, fun _ _ q => q.elim⟩
            have t18 := hV.cnt (s := s) k (-2) (by omega) (by omega)
            refine ⟨by omega, ?_⟩
            refine ⟨⟨_, hm_oi hx⟩, _, _, _, _, (m_lays hF htr hx hV (t := 4) (a := k) (b := (ν 23 (mj s k))) (c := (mCnt ν s k (-2) (mTot ν s))) (r := r) (by omega) (by omega) (by omega) (by omega) (by omega) (by omega) (by omega) (by omega) (by omega) (by omega)), Nat.le_refl _, Nat.le_refl _, mkis_ (r := some (aI (v_lays ν 4 k (ν 23 (mj s k)) (mCnt ν s k (-2) (mTot ν s)) r))) (fun ⟨hV19, hp20⟩ => ?_), fun _ _ q => q.elim⟩
            have t21 := v_lays_b ν 4 k (ν 23 (mj s k)) (mCnt ν s k (-2) (mTot ν s)) r
            have hp20 : ((v_lays ν 4 k (ν 23 (mj s k)) (mCnt ν s k (-2) (mTot ν s)) r) = 0 ∨ (v_lays ν 4 k (ν 23 (mj s k)) (mCnt ν s k (-2) (mTot ν s)) r) = 1) ∧ (s_lays ν 4 k (ν 23 (mj s k)) (mCnt ν s k (-2) (mTot ν s)) r) 49 0 = 0 ∧ (s_lays ν 4 k (ν 23 (mj s k)) (mCnt ν s k (-2) (mTot ν s)) r) 45 0 = 4 ∧ (s_lays ν 4 k (ν 23 (mj s k)) (mCnt ν s k (-2) (mTot ν s)) r) 46 0 = k := hp20
            refine ⟨by omega, fun (e22 : (v_lays ν 4 k (ν 23 (mj s k)) (mCnt ν s k (-2) (mTot ν s)) r) = 0) => ?_, fun (e22 : ¬ ((v_lays ν 4 k (ν 23 (mj s k)) (mCnt ν s k (-2) (mTot ν s)) r) = 0)) => ?_⟩
            · exact mi_Wsub (List.forall_mem_cons.mpr ⟨(.head _), List.forall_mem_cons.mpr ⟨(.tail _ (.tail _ (.head _))), List.forall_mem_cons.mpr ⟨(.tail _ (.tail _ (.tail _ (.head _)))), List.forall_mem_cons.mpr ⟨(.tail _ (.tail _ (.tail _ (.tail _ (.head _))))), fun _ h => absurd h List.not_mem_nil⟩⟩⟩⟩) (ih (k + 1) (s_lays ν 4 k (ν 23 (mj s k)) (mCnt ν s k (-2) (mTot ν s)) r) hV19 (show 0 ≤ (k + 1) from by omega) (show (k + 1) ≤ 256 from by omega) (show (256 - (k + 1)) < (d : Int) from by omega) (Eq.trans (by rw [v_fillsResets_2]; rw [if_neg e12, if_neg e14, if_pos e16, if_pos e22]) hvr) (Eq.trans (by rw [s_fillsResets_2]; rw [if_neg e12, if_neg e14, if_pos e16, if_pos e22]) hsr))
            · refine ⟨_, hm_oi hx, aR (A 22), rfl, ?_⟩
              refine ⟨512, _, _, hm_a hx 22 rfl, by omega, (show 0 = 0 ∨ 0 = 1 from by omega), hm_pi hx (i := (mj s k)) (v := 0) rfl rfl rfl rfl, ?_⟩
              have hV23 := hV19.u (f := 22) (k := (mj s k)) (v := 0) (show 0 ≤ 0 ∧ 0 ≤ 1 from by omega)
              exact ⟨(Or.inr rfl), mRetIP (P := fun r m => (r = 0 ∨ r = 1) ∧ (r = 1 → m 49 0 = 0 ∧ (((m 45 0 = 4 ∨ m 45 0 = 5 ∨ m 45 0 = 17 ∨ m 45 0 = 21) ∧ m 46 0 < 256) ∨ m 45 0 = 16 ∨ m 45 0 = 18 ∨ m 45 0 = 19 ∨ m 45 0 = 20 ∨ m 45 0 = 22 ∨ m 45 0 = 23))) (hvr.symm.trans (by rw [v_fillsResets_2]; rw [if_neg e12, if_neg e14, if_pos e16, if_neg e22])) (hsr.symm.trans (by rw [s_fillsResets_2]; rw [if_neg e12, if_neg e14, if_pos e16, if_neg e22])) hV23 (show (1 = 0 ∨ 1 = 1) ∧ (1 = 1 → (u2 (s_lays ν 4 k (ν 23 (mj s k)) (mCnt ν s k (-2) (mTot ν s)) r) 22 (mj s k) 0) 49 0 = 0 ∧ ((((u2 (s_lays ν 4 k (ν 23 (mj s k)) (mCnt ν s k (-2) (mTot ν s)) r) 22 (mj s k) 0) 45 0 = 4 ∨ (u2 (s_lays ν 4 k (ν 23 (mj s k)) (mCnt ν s k (-2) (mTot ν s)) r) 22 (mj s k) 0) 45 0 = 5 ∨ (u2 (s_lays ν 4 k (ν 23 (mj s k)) (mCnt ν s k (-2) (mTot ν s)) r) 22 (mj s k) 0) 45 0 = 17 ∨ (u2 (s_lays ν 4 k (ν 23 (mj s k)) (mCnt ν s k (-2) (mTot ν s)) r) 22 (mj s k) 0) 45 0 = 21) ∧ (u2 (s_lays ν 4 k (ν 23 (mj s k)) (mCnt ν s k (-2) (mTot ν s)) r) 22 (mj s k) 0) 46 0 < 256) ∨ (u2 (s_lays ν 4 k (ν 23 (mj s k)) (mCnt ν s k (-2) (mTot ν s)) r) 22 (mj s k) 0) 45 0 = 16 ∨ (u2 (s_lays ν 4 k (ν 23 (mj s k)) (mCnt ν s k (-2) (mTot ν s)) r) 22 (mj s k) 0) 45 0 = 18 ∨ (u2 (s_lays ν 4 k (ν 23 (mj s k)) (mCnt ν s k (-2) (mTot ν s)) r) 22 (mj s k) 0) 45 0 = 19 ∨ (u2 (s_lays ν 4 k (ν 23 (mj s k)) (mCnt ν s k (-2) (mTot ν s)) r) 22 (mj s k) 0) 45 0 = 20 ∨ (u2 (s_lays ν 4 k (ν 23 (mj s k)) (mCnt ν s k (-2) (mTot ν s)) r) 22 (mj s k) 0) 45 0 = 22 ∨ (u2 (s_lays ν 4 k (ν 23 (mj s k)) (mCnt ν s k (-2) (mTot ν s)) r) 22 (mj s k) 0) 45 0 = 23)) from by have z45 : (u2 (s_lays ν 4 k (ν 23 (mj s k)) (mCnt ν s k (-2) (mTot ν s)) r) 22 (mj s k) 0) 45 0 = ((s_lays ν 4 k (ν 23 (mj s k)) (mCnt ν s k (-2) (mTot ν s)) r) 45 0) := (u2_f (by decide)); have z46 : (u2 (s_lays ν 4 k (ν 23 (mj s k)) (mCnt ν s k (-2) (mTot ν s)) r) 22 (mj s k) 0) 46 0 = ((s_lays ν 4 k (ν 23 (mj s k)) (mCnt ν s k (-2) (mTot ν s)) r) 46 0) := (u2_f (by decide)); have z49 : (u2 (s_lays ν 4 k (ν 23 (mj s k)) (mCnt ν s k (-2) (mTot ν s)) r) 22 (mj s k) 0) 49 0 = ((s_lays ν 4 k (ν 23 (mj s k)) (mCnt ν s k (-2) (mTot ν s)) r) 49 0) := (u2_f (by decide)); omega), Nat.le_refl _, Nat.le_refl _⟩
  exact mi_Wsub (List.forall_mem_cons.mpr ⟨(.head _), List.forall_mem_cons.mpr ⟨(.tail _ (.head _)), List.forall_mem_cons.mpr ⟨(.tail _ (.tail _ (.head _))), List.forall_mem_cons.mpr ⟨(.tail _ (.tail _ (.tail _ (.head _)))), fun _ h => absurd h List.not_mem_nil⟩⟩⟩⟩) (loop2 _ _ 257 0 μ hV (show 0 ≤ 0 from by omega) (show 0 ≤ 256 from by omega) (show (256 - 0) < (257 : Int) from by omega) rfl rfl)
set_option maxRecDepth 100000 in
theorem s_fillsResets_47_fr {f kk : Nat} {s r : Int} (hf : [22, 33, 45, 46, 47, 48, 49].elem f = false) : ∀ (d : Nat) (k : Int) (ν : Nat → Nat → Int), s_fillsResets_47 μ s r d k ν f kk = ν f kk := by
  have n22 : f ≠ 22 := by rintro rfl; exact absurd hf (by decide)
  have n33 : f ≠ 33 := by rintro rfl; exact absurd hf (by decide)
  have n45 : f ≠ 45 := by rintro rfl; exact absurd hf (by decide)
  have n46 : f ≠ 46 := by rintro rfl; exact absurd hf (by decide)
  have n47 : f ≠ 47 := by rintro rfl; exact absurd hf (by decide)
  have n48 : f ≠ 48 := by rintro rfl; exact absurd hf (by decide)
  have n49 : f ≠ 49 := by rintro rfl; exact absurd hf (by decide)
  have f22 : ∀ (m : Nat → Nat → Int) (a b : Nat) (v : Int), u2 m 22 a v f b = m f b := fun m a b v => u2_f n22
  have f33 : ∀ (m : Nat → Nat → Int) (a b : Nat) (v : Int), u2 m 33 a v f b = m f b := fun m a b v => u2_f n33
  have f45 : ∀ (m : Nat → Nat → Int) (a b : Nat) (v : Int), u2 m 45 a v f b = m f b := fun m a b v => u2_f n45
  have f46 : ∀ (m : Nat → Nat → Int) (a b : Nat) (v : Int), u2 m 46 a v f b = m f b := fun m a b v => u2_f n46
  have f47 : ∀ (m : Nat → Nat → Int) (a b : Nat) (v : Int), u2 m 47 a v f b = m f b := fun m a b v => u2_f n47
  have f48 : ∀ (m : Nat → Nat → Int) (a b : Nat) (v : Int), u2 m 48 a v f b = m f b := fun m a b v => u2_f n48
  have f49 : ∀ (m : Nat → Nat → Int) (a b : Nat) (v : Int), u2 m 49 a v f b = m f b := fun m a b v => u2_f n49
  have c_lays : ∀ (m : Nat → Nat → Int) (z_t z_a z_b z_c z_r : Int) (k : Nat), s_lays m z_t z_a z_b z_c z_r f k = m f k := by intros; exact s_lays_fr (by simp only [List.elem_cons, List.elem_nil, beq_eq_false_iff_ne.mpr n45, beq_eq_false_iff_ne.mpr n46, beq_eq_false_iff_ne.mpr n47, beq_eq_false_iff_ne.mpr n48, beq_eq_false_iff_ne.mpr n49]; try rfl)
  intro d
  induction d with
  | zero => intros; rfl
  | succ d ih =>
    intro k ν
    rw [s_fillsResets_47]
    repeat' with_reducible apply f_ite
    all_goals first | rfl | simp only [f22, f33, f45, f46, f47, f48, f49, c_lays, ih]
set_option maxRecDepth 100000 in
theorem s_fillsResets_2_fr {f kk : Nat} {s r : Int} (hf : [22, 33, 45, 46, 47, 48, 49].elem f = false) : ∀ (d : Nat) (k : Int) (ν : Nat → Nat → Int), s_fillsResets_2 μ s r d k ν f kk = ν f kk := by
  have n22 : f ≠ 22 := by rintro rfl; exact absurd hf (by decide)
  have n33 : f ≠ 33 := by rintro rfl; exact absurd hf (by decide)
  have n45 : f ≠ 45 := by rintro rfl; exact absurd hf (by decide)
  have n46 : f ≠ 46 := by rintro rfl; exact absurd hf (by decide)
  have n47 : f ≠ 47 := by rintro rfl; exact absurd hf (by decide)
  have n48 : f ≠ 48 := by rintro rfl; exact absurd hf (by decide)
  have n49 : f ≠ 49 := by rintro rfl; exact absurd hf (by decide)
  have f22 : ∀ (m : Nat → Nat → Int) (a b : Nat) (v : Int), u2 m 22 a v f b = m f b := fun m a b v => u2_f n22
  have f33 : ∀ (m : Nat → Nat → Int) (a b : Nat) (v : Int), u2 m 33 a v f b = m f b := fun m a b v => u2_f n33
  have f45 : ∀ (m : Nat → Nat → Int) (a b : Nat) (v : Int), u2 m 45 a v f b = m f b := fun m a b v => u2_f n45
  have f46 : ∀ (m : Nat → Nat → Int) (a b : Nat) (v : Int), u2 m 46 a v f b = m f b := fun m a b v => u2_f n46
  have f47 : ∀ (m : Nat → Nat → Int) (a b : Nat) (v : Int), u2 m 47 a v f b = m f b := fun m a b v => u2_f n47
  have f48 : ∀ (m : Nat → Nat → Int) (a b : Nat) (v : Int), u2 m 48 a v f b = m f b := fun m a b v => u2_f n48
  have f49 : ∀ (m : Nat → Nat → Int) (a b : Nat) (v : Int), u2 m 49 a v f b = m f b := fun m a b v => u2_f n49
  have c_lays : ∀ (m : Nat → Nat → Int) (z_t z_a z_b z_c z_r : Int) (k : Nat), s_lays m z_t z_a z_b z_c z_r f k = m f k := by intros; exact s_lays_fr (by simp only [List.elem_cons, List.elem_nil, beq_eq_false_iff_ne.mpr n45, beq_eq_false_iff_ne.mpr n46, beq_eq_false_iff_ne.mpr n47, beq_eq_false_iff_ne.mpr n48, beq_eq_false_iff_ne.mpr n49]; try rfl)
  intro d
  induction d with
  | zero => intros; rfl
  | succ d ih =>
    intro k ν
    rw [s_fillsResets_2]
    repeat' with_reducible apply f_ite
    all_goals first | rfl | simp only [f22, f33, f45, f46, f47, f48, f49, c_lays, ih, s_fillsResets_47_fr hf]
set_option maxRecDepth 100000 in
theorem s_fillsResets_fr {f kk : Nat} {s r : Int} (hf : [22, 33, 45, 46, 47, 48, 49].elem f = false) : s_fillsResets μ s r f kk = μ f kk := by
  have n22 : f ≠ 22 := by rintro rfl; exact absurd hf (by decide)
  have n33 : f ≠ 33 := by rintro rfl; exact absurd hf (by decide)
  have n45 : f ≠ 45 := by rintro rfl; exact absurd hf (by decide)
  have n46 : f ≠ 46 := by rintro rfl; exact absurd hf (by decide)
  have n47 : f ≠ 47 := by rintro rfl; exact absurd hf (by decide)
  have n48 : f ≠ 48 := by rintro rfl; exact absurd hf (by decide)
  have n49 : f ≠ 49 := by rintro rfl; exact absurd hf (by decide)
  have f22 : ∀ (m : Nat → Nat → Int) (a b : Nat) (v : Int), u2 m 22 a v f b = m f b := fun m a b v => u2_f n22
  have f33 : ∀ (m : Nat → Nat → Int) (a b : Nat) (v : Int), u2 m 33 a v f b = m f b := fun m a b v => u2_f n33
  have f45 : ∀ (m : Nat → Nat → Int) (a b : Nat) (v : Int), u2 m 45 a v f b = m f b := fun m a b v => u2_f n45
  have f46 : ∀ (m : Nat → Nat → Int) (a b : Nat) (v : Int), u2 m 46 a v f b = m f b := fun m a b v => u2_f n46
  have f47 : ∀ (m : Nat → Nat → Int) (a b : Nat) (v : Int), u2 m 47 a v f b = m f b := fun m a b v => u2_f n47
  have f48 : ∀ (m : Nat → Nat → Int) (a b : Nat) (v : Int), u2 m 48 a v f b = m f b := fun m a b v => u2_f n48
  have f49 : ∀ (m : Nat → Nat → Int) (a b : Nat) (v : Int), u2 m 49 a v f b = m f b := fun m a b v => u2_f n49
  have c_lays : ∀ (m : Nat → Nat → Int) (z_t z_a z_b z_c z_r : Int) (k : Nat), s_lays m z_t z_a z_b z_c z_r f k = m f k := by intros; exact s_lays_fr (by simp only [List.elem_cons, List.elem_nil, beq_eq_false_iff_ne.mpr n45, beq_eq_false_iff_ne.mpr n46, beq_eq_false_iff_ne.mpr n47, beq_eq_false_iff_ne.mpr n48, beq_eq_false_iff_ne.mpr n49]; try rfl)
  unfold s_fillsResets
  repeat' with_reducible apply f_ite
  all_goals first | rfl | simp only [f22, f33, f45, f46, f47, f48, f49, c_lays, s_fillsResets_47_fr hf, s_fillsResets_2_fr hf]
def v_fillsGrants_65 (μ : Nat → Nat → Int) (s r : Int) : Nat → Int → (Nat → Nat → Int) → Int
  | 0, _, _ => 0
  | d + 1, k, ν => (if 2 ≤ k then 0 else (if (ν 13 ((2 * s) + k).toNat) = 0 then (v_fillsGrants_65 μ s r d (k + 1) ν) else (if (v_lays ν (18 + k) (ν 10 ((2 * s) + k).toNat) 0 0 r) = 0 then (v_fillsGrants_65 μ s r d (k + 1) (s_lays ν (18 + k) (ν 10 ((2 * s) + k).toNat) 0 0 r)) else 1)))
def s_fillsGrants_65 (μ : Nat → Nat → Int) (s r : Int) : Nat → Int → (Nat → Nat → Int) → (Nat → Nat → Int)
  | 0, _, ν => ν
  | d + 1, k, ν => (if 2 ≤ k then ν else (if (ν 13 ((2 * s) + k).toNat) = 0 then (s_fillsGrants_65 μ s r d (k + 1) ν) else (if (v_lays ν (18 + k) (ν 10 ((2 * s) + k).toNat) 0 0 r) = 0 then (s_fillsGrants_65 μ s r d (k + 1) (s_lays ν (18 + k) (ν 10 ((2 * s) + k).toNat) 0 0 r)) else (u2 (s_lays ν (18 + k) (ν 10 ((2 * s) + k).toNat) 0 0 r) 13 ((2 * s) + k).toNat 0))))
def v_fillsGrants_25 (μ : Nat → Nat → Int) (s r : Int) : Nat → Int → (Nat → Nat → Int) → Int
  | 0, _, _ => 0
  | d + 1, k, ν => (if 256 ≤ k then (v_fillsGrants_65 μ s r 3 0 ν) else (if (ν 31 (mj s k)) = 0 then (v_fillsGrants_25 μ s r d (k + 1) ν) else (if (v_receiving ν s k) = 0 then (if (v_lays ν 17 k (ν 30 (mj s k)) 0 r) = 0 then (v_fillsGrants_25 μ s r d (k + 1) (s_lays ν 17 k (ν 30 (mj s k)) 0 r)) else 1) else (v_fillsGrants_25 μ s r d (k + 1) ν))))
def s_fillsGrants_25 (μ : Nat → Nat → Int) (s r : Int) : Nat → Int → (Nat → Nat → Int) → (Nat → Nat → Int)
  | 0, _, ν => ν
  | d + 1, k, ν => (if 256 ≤ k then (s_fillsGrants_65 μ s r 3 0 ν) else (if (ν 31 (mj s k)) = 0 then (s_fillsGrants_25 μ s r d (k + 1) ν) else (if (v_receiving ν s k) = 0 then (if (v_lays ν 17 k (ν 30 (mj s k)) 0 r) = 0 then (s_fillsGrants_25 μ s r d (k + 1) (s_lays ν 17 k (ν 30 (mj s k)) 0 r)) else (u2 (s_lays ν 17 k (ν 30 (mj s k)) 0 r) 31 (mj s k) 0)) else (s_fillsGrants_25 μ s r d (k + 1) ν))))
def v_fillsGrants (μ : Nat → Nat → Int) (s r : Int) : Int := (if (μ 12 s.toNat) = 0 then (v_fillsGrants_25 μ s r 257 0 μ) else (if (v_lays μ 16 (μ 11 s.toNat) 0 0 r) = 0 then (v_fillsGrants_25 μ s r 257 0 (s_lays μ 16 (μ 11 s.toNat) 0 0 r)) else 1))
def s_fillsGrants (μ : Nat → Nat → Int) (s r : Int) : Nat → Nat → Int := (if (μ 12 s.toNat) = 0 then (s_fillsGrants_25 μ s r 257 0 μ) else (if (v_lays μ 16 (μ 11 s.toNat) 0 0 r) = 0 then (s_fillsGrants_25 μ s r 257 0 (s_lays μ 16 (μ 11 s.toNat) 0 0 r)) else (u2 (s_lays μ 16 (μ 11 s.toNat) 0 0 r) 12 s.toNat 0)))
set_option maxRecDepth 100000 in
theorem m_fillsGrants (hF : mm_F G) (htr : L.stackTraces = false) (hx : mx A ax) (hV : mV μ) {s r : Int} (h1 : 0 ≤ s) (h2 : s ≤ 1) (h3 : 1 ≤ r) (h3a : r ≤ 1200) :
    mm_Met L G SX6_fillsGrants [.ref (A 99), .int (iI s), .int (iI r)] (hm G A ax h0 μ) 0 0 (mRetS (some (.int (iI (v_fillsGrants μ s r)))) (hm G A ax h0 (s_fillsGrants μ s r)) (mV (s_fillsGrants μ s r) ∧ (fun r m => (r = 0 ∨ r = 1) ∧ (r = 1 → m 49 0 = 0 ∧ (((m 45 0 = 4 ∨ m 45 0 = 5 ∨ m 45 0 = 17 ∨ m 45 0 = 21) ∧ m 46 0 < 256) ∨ m 45 0 = 16 ∨ m 45 0 = 18 ∨ m 45 0 = 19 ∨ m 45 0 = 20 ∨ m 45 0 = 22 ∨ m 45 0 = 23))) (v_fillsGrants μ s r) (s_fillsGrants μ s r))) mm_no := by
  refine mi_meth MX6_fillsGrants 400 hF htr okX6_fillsGrants (av := [aR (A 99), aI s, aI r]) (by decide +kernel) (Nat.le_of_ble_eq_true rfl) cmX6_fillsGrants (fun θ hc => ?_)
  have loop65 : ∀ (R : Int) (S : Nat → Nat → Int) (d : Nat) (k : Int) (ν : Nat → Nat → Int) (hV : mV ν), (0 ≤ k) → (k ≤ 2) → (2 - k) < (d : Int) → v_fillsGrants_65 μ s r d k ν = R → s_fillsGrants_65 μ s r d k ν = S → mi_W L G MX6_fillsGrants 0 0 (mRetS (some (.int (iI R))) (hm G A ax h0 S) (mV S ∧ (fun r m => (r = 0 ∨ r = 1) ∧ (r = 1 → m 49 0 = 0 ∧ (((m 45 0 = 4 ∨ m 45 0 = 5 ∨ m 45 0 = 17 ∨ m 45 0 = 21) ∧ m 46 0 < 256) ∨ m 45 0 = 16 ∨ m 45 0 = 18 ∨ m 45 0 = 19 ∨ m 45 0 = 20 ∨ m 45 0 = 22 ∨ m 45 0 = 23))) R S)) mm_no θ 65 [(3, aI k), (0, aR (A 99)), (1, aI s), (2, aI r)] [] (hm G A ax h0 ν) 0 0 := by
    intro R S d
    induction d with
    | zero =>
      intro k ν hV hi1 hi2 hms hvr hsr
      omega
    | succ d ih =>
      intro k ν hV hi1 hi2 hms hvr hsr
      refine mi_sound hc okX6_fillsGrants 400 _ _ _ _ _ _ ?_
      refine ⟨by omega, fun (e1 : 2 ≤ k) => ?_, fun (e1 : ¬ (2 ≤ k)) => ?_⟩
      · exact ⟨(Or.inl rfl), mRetIP (P := fun r m => (r = 0 ∨ r = 1) ∧ (r = 1 → m 49 0 = 0 ∧ (((m 45 0 = 4 ∨ m 45 0 = 5 ∨ m 45 0 = 17 ∨ m 45 0 = 21) ∧ m 46 0 < 256) ∨ m 45 0 = 16 ∨ m 45 0 = 18 ∨ m 45 0 = 19 ∨ m 45 0 = 20 ∨ m 45 0 = 22 ∨ m 45 0 = 23))) (hvr.symm.trans (by rw [v_fillsGrants_65]; rw [if_pos e1])) (hsr.symm.trans (by rw [s_fillsGrants_65]; rw [if_pos e1])) hV (show (0 = 0 ∨ 0 = 1) ∧ (0 = 1 → ν 49 0 = 0 ∧ (((ν 45 0 = 4 ∨ ν 45 0 = 5 ∨ ν 45 0 = 17 ∨ ν 45 0 = 21) ∧ ν 46 0 < 256) ∨ ν 45 0 = 16 ∨ ν 45 0 = 18 ∨ ν 45 0 = 19 ∨ ν 45 0 = 20 ∨ ν 45 0 = 22 ∨ ν 45 0 = 23)) from by have z45 : ν 45 0 = (ν 45 0) := rfl; have z46 : ν 46 0 = (ν 46 0) := rfl; have z49 : ν 49 0 = (ν 49 0) := rfl; omega), Nat.le_refl _, Nat.le_refl _⟩
      · refine ⟨_, hm_oi hx, aR (A 13), rfl, ?_⟩
        refine ⟨4, _, (ν 13 ((2 * s) + k).toNat), hm_a hx 13 rfl, by omega, rfl, ?_⟩
        have t2 := (show 0 ≤ ν 13 ((2 * s) + k).toNat ∧ ν 13 ((2 * s) + k).toNat ≤ 1 from hV.g 13 ((2 * s) + k).toNat)
        refine ⟨by omega, fun (e3 : (ν 13 ((2 * s) + k).toNat) = 0) => ?_, fun (e3 : ¬ ((ν 13 ((2 * s) + k).toNat) = 0)) => ?_⟩
        · exact mi_Wsub (List.forall_mem_cons.mpr ⟨(.head _), List.forall_mem_cons.mpr ⟨(.tail _ (.head _)), List.forall_mem_cons.mpr ⟨(.tail _ (.tail _ (.head _))), List.forall_mem_cons.mpr ⟨(.tail _ (.tail _ (.tail _ (.head _)))), fun _ h => absurd h List.not_mem_nil⟩⟩⟩⟩) (ih (k + 1) ν hV (show 0 ≤ (k + 1) from by omega) (show (k + 1) ≤ 2 from by omega) (show (2 - (k + 1)) < (d : Int) from by omega) (Eq.trans (by rw [v_fillsGrants_65]; rw [if_neg e1, if_pos e3]) hvr) (Eq.trans (by rw [s_fillsGrants_65]; rw [if_neg e1, if_pos e3]) hsr))
        · refine ⟨_, hm_oi hx, aR (A 10), rfl, ?_⟩
          refine ⟨4, _, (ν 10 ((2 * s) + k).toNat), hm_a hx 10 rfl, by omega, rfl, ?_⟩
          have t4 := (show 0 ≤ ν 10 ((2 * s) + k).toNat ∧ ν 10 ((2 * s) + k).toNat ≤ 64 from hV.g 10 ((2 * s) + k).toNat)
          refine ⟨by omega, ?_⟩
          refine ⟨0, rfl, ?_⟩
          refine ⟨0, rfl, ?_⟩
          refine ⟨⟨_, hm_oi hx⟩, _, _, _, _, (m_lays hF htr hx hV (t := (18 + k)) (a := (ν 10 ((2 * s) + k).toNat)) (b := 0) (c := 0) (r := r) (by omega) (by omega) (by omega) (by omega) (by omega) (by omega) (by omega) (by omega) (by omega) (by omega)), Nat.le_refl _, Nat.le_refl _, mkis_ (r := some (aI (v_lays ν (18 + k) (ν 10 ((2 * s) + k).toNat) 0 0 r))) (fun ⟨hV5, hp6⟩ => ?_), fun _ _ q => q.elim⟩
          have t7 := v_lays_b ν (18 + k) (ν 10 ((2 * s) + k).toNat) 0 0 r
          have hp6 : ((v_lays ν (18 + k) (ν 10 ((2 * s) + k).toNat) 0 0 r) = 0 ∨ (v_lays ν (18 + k) (ν 10 ((2 * s) + k).toNat) 0 0 r) = 1) ∧ (s_lays ν (18 + k) (ν 10 ((2 * s) + k).toNat) 0 0 r) 49 0 = 0 ∧ (s_lays ν (18 + k) (ν 10 ((2 * s) + k).toNat) 0 0 r) 45 0 = (18 + k) ∧ (s_lays ν (18 + k) (ν 10 ((2 * s) + k).toNat) 0 0 r) 46 0 = (ν 10 ((2 * s) + k).toNat) := hp6
          refine ⟨by omega, fun (e8 : (v_lays ν (18 + k) (ν 10 ((2 * s) + k).toNat) 0 0 r) = 0) => ?_, fun (e8 : ¬ ((v_lays ν (18 + k) (ν 10 ((2 * s) + k).toNat) 0 0 r) = 0)) => ?_⟩
          · exact mi_Wsub (List.forall_mem_cons.mpr ⟨(.head _), List.forall_mem_cons.mpr ⟨(.tail _ (.head _)), List.forall_mem_cons.mpr ⟨(.tail _ (.tail _ (.head _))), List.forall_mem_cons.mpr ⟨(.tail _ (.tail _ (.tail _ (.head _)))), fun _ h => absurd h List.not_mem_nil⟩⟩⟩⟩) (ih (k + 1) (s_lays ν (18 + k) (ν 10 ((2 * s) + k).toNat) 0 0 r) hV5 (show 0 ≤ (k + 1) from by omega) (show (k + 1) ≤ 2 from by omega) (show (2 - (k + 1)) < (d : Int) from by omega) (Eq.trans (by rw [v_fillsGrants_65]; rw [if_neg e1, if_neg e3, if_pos e8]) hvr) (Eq.trans (by rw [s_fillsGrants_65]; rw [if_neg e1, if_neg e3, if_pos e8]) hsr))
          · refine ⟨_, hm_oi hx, aR (A 13), rfl, ?_⟩
            refine ⟨4, _, _, hm_a hx 13 rfl, by omega, (show 0 = 0 ∨ 0 = 1 from by omega), hm_pi hx (i := ((2 * s) + k).toNat) (v := 0) rfl rfl rfl rfl, ?_⟩
            have hV9 := hV5.u (f := 13) (k := ((2 * s) + k).toNat) (v := 0) (show 0 ≤ 0 ∧ 0 ≤ 1 from by omega)
            exact ⟨(Or.inr rfl), mRetIP (P := fun r m => (r = 0 ∨ r = 1) ∧ (r = 1 → m 49 0 = 0 ∧ (((m 45 0 = 4 ∨ m 45 0 = 5 ∨ m 45 0 = 17 ∨ m 45 0 = 21) ∧ m 46 0 < 256) ∨ m 45 0 = 16 ∨ m 45 0 = 18 ∨ m 45 0 = 19 ∨ m 45 0 = 20 ∨ m 45 0 = 22 ∨ m 45 0 = 23))) (hvr.symm.trans (by rw [v_fillsGrants_65]; rw [if_neg e1, if_neg e3, if_neg e8])) (hsr.symm.trans (by rw [s_fillsGrants_65]; rw [if_neg e1, if_neg e3, if_neg e8])) hV9 (show (1 = 0 ∨ 1 = 1) ∧ (1 = 1 → (u2 (s_lays ν (18 + k) (ν 10 ((2 * s) + k).toNat) 0 0 r) 13 ((2 * s) + k).toNat 0) 49 0 = 0 ∧ ((((u2 (s_lays ν (18 + k) (ν 10 ((2 * s) + k).toNat) 0 0 r) 13 ((2 * s) + k).toNat 0) 45 0 = 4 ∨ (u2 (s_lays ν (18 + k) (ν 10 ((2 * s) + k).toNat) 0 0 r) 13 ((2 * s) + k).toNat 0) 45 0 = 5 ∨ (u2 (s_lays ν (18 + k) (ν 10 ((2 * s) + k).toNat) 0 0 r) 13 ((2 * s) + k).toNat 0) 45 0 = 17 ∨ (u2 (s_lays ν (18 + k) (ν 10 ((2 * s) + k).toNat) 0 0 r) 13 ((2 * s) + k).toNat 0) 45 0 = 21) ∧ (u2 (s_lays ν (18 + k) (ν 10 ((2 * s) + k).toNat) 0 0 r) 13 ((2 * s) + k).toNat 0) 46 0 < 256) ∨ (u2 (s_lays ν (18 + k) (ν 10 ((2 * s) + k).toNat) 0 0 r) 13 ((2 * s) + k).toNat 0) 45 0 = 16 ∨ (u2 (s_lays ν (18 + k) (ν 10 ((2 * s) + k).toNat) 0 0 r) 13 ((2 * s) + k).toNat 0) 45 0 = 18 ∨ (u2 (s_lays ν (18 + k) (ν 10 ((2 * s) + k).toNat) 0 0 r) 13 ((2 * s) + k).toNat 0) 45 0 = 19 ∨ (u2 (s_lays ν (18 + k) (ν 10 ((2 * s) + k).toNat) 0 0 r) 13 ((2 * s) + k).toNat 0) 45 0 = 20 ∨ (u2 (s_lays ν (18 + k) (ν 10 ((2 * s) + k).toNat) 0 0 r) 13 ((2 * s) + k).toNat 0) 45 0 = 22 ∨ (u2 (s_lays ν (18 + k) (ν 10 ((2 * s) + k).toNat) 0 0 r) 13 ((2 * s) + k).toNat 0) 45 0 = 23)) from by have z45 : (u2 (s_lays ν (18 + k) (ν 10 ((2 * s) + k).toNat) 0 0 r) 13 ((2 * s) + k).toNat 0) 45 0 = ((s_lays ν (18 + k) (ν 10 ((2 * s) + k).toNat) 0 0 r) 45 0) := (u2_f (by decide)); have z46 : (u2 (s_lays ν (18 + k) (ν 10 ((2 * s) + k).toNat) 0 0 r) 13 ((2 * s) + k).toNat 0) 46 0 = ((s_lays ν (18 + k) (ν 10 ((2 * s) + k).toNat) 0 0 r) 46 0) := (u2_f (by decide)); have z49 : (u2 (s_lays ν (18 + k) (ν 10 ((2 * s) + k).toNat) 0 0 r) 13 ((2 * s) + k).toNat 0) 49 0 = ((s_lays ν (18 + k) (ν 10 ((2 * s) + k).toNat) 0 0 r) 49 0) := (u2_f (by decide)); omega), Nat.le_refl _, Nat.le_refl _⟩
  have loop25 : ∀ (R : Int) (S : Nat → Nat → Int) (d : Nat) (k : Int) (ν : Nat → Nat → Int) (hV : mV ν), (0 ≤ k) → (k ≤ 256) → (256 - k) < (d : Int) → v_fillsGrants_25 μ s r d k ν = R → s_fillsGrants_25 μ s r d k ν = S → mi_W L G MX6_fillsGrants 0 0 (mRetS (some (.int (iI R))) (hm G A ax h0 S) (mV S ∧ (fun r m => (r = 0 ∨ r = 1) ∧ (r = 1 → m 49 0 = 0 ∧ (((m 45 0 = 4 ∨ m 45 0 = 5 ∨ m 45 0 = 17 ∨ m 45 0 = 21) ∧ m 46 0 < 256) ∨ m 45 0 = 16 ∨ m 45 0 = 18 ∨ m 45 0 = 19 ∨ m 45 0 = 20 ∨ m 45 0 = 22 ∨ m 45 0 = 23))) R S)) mm_no θ 25 [(3, aI k), (0, aR (A 99)), (1, aI s), (2, aI r)] [] (hm G A ax h0 ν) 0 0 := by
    intro R S d
    induction d with
    | zero =>
      intro k ν hV hi1 hi2 hms hvr hsr
      omega
    | succ d ih =>
      intro k ν hV hi1 hi2 hms hvr hsr
      refine mi_sound hc okX6_fillsGrants 400 _ _ _ _ _ _ ?_
      refine ⟨by omega, fun (e10 : 256 ≤ k) => ?_, fun (e10 : ¬ (256 ≤ k)) => ?_⟩
      · exact mi_Wsub (List.forall_mem_cons.mpr ⟨(.head _), List.forall_mem_cons.mpr ⟨(.tail _ (.head _)), List.forall_mem_cons.mpr ⟨(.tail _ (.tail _ (.head _))), List.forall_mem_cons.mpr ⟨(.tail _ (.tail _ (.tail _ (.head _)))), fun _ h => absurd h List.not_mem_nil⟩⟩⟩⟩) (loop65 _ _ 3 0 ν hV (show 0 ≤ 0 from by omega) (show 0 ≤ 2 from by omega) (show (2 - 0) < (3 : Int) from by omega) (Eq.trans (by rw [v_fillsGrants_25]; rw [if_pos e10]) hvr) (Eq.trans (by rw [s_fillsGrants_25]; rw [if_pos e10]) hsr))
      · refine ⟨_, _, _, _, (m_at hF htr (s := s) (i := k)), Nat.le_refl _, Nat.le_refl _, mki_ (r := some (aI ((256 * s) + k))) ?_, fun _ _ q => q.elim⟩
        refine ⟨_, hm_oi hx, aR (A 31), rfl, ?_⟩
        refine ⟨512, _, (ν 31 (mj s k)), hm_a hx 31 rfl, by omega, rfl, ?_⟩
        have t11 := (show 0 ≤ ν 31 (mj s k) ∧ ν 31 (mj s k) ≤ 1 from hV.g 31 (mj s k))
        refine ⟨by omega, fun (e12 : (ν 31 (mj s k)) = 0) => ?_, fun (e12 : ¬ ((ν 31 (mj s k)) = 0)) => ?_⟩
        · exact mi_Wsub (List.forall_mem_cons.mpr ⟨(.head _), List.forall_mem_cons.mpr ⟨(.tail _ (.tail _ (.head _))), List.forall_mem_cons.mpr ⟨(.tail _ (.tail _ (.tail _ (.head _)))), List.forall_mem_cons.mpr ⟨(.tail _ (.tail _ (.tail _ (.tail _ (.head _))))), fun _ h => absurd h List.not_mem_nil⟩⟩⟩⟩) (ih (k + 1) ν hV (show 0 ≤ (k + 1) from by omega) (show (k + 1) ≤ 256 from by omega) (show (256 - (k + 1)) < (d : Int) from by omega) (Eq.trans (by rw [v_fillsGrants_25]; rw [if_neg e10, if_pos e12]) hvr) (Eq.trans (by rw [s_fillsGrants_25]; rw [if_neg e10, if_pos e12]) hsr))
        · refine ⟨⟨_, hm_oi hx⟩, _, _, _, _, (m_receiving hF htr hx hV (s := s) (i := k) (by omega) (by omega) (by omega) (by omega)), Nat.le_refl _, Nat.le_refl _, mki_ (r := some (aI (v_receiving ν s k))) ?_, fun _ _ q => q.elim⟩
          have t13 := v_receiving_b ν s k
          refine ⟨by omega, fun (e14 : ¬ ((v_receiving ν s k) = 0)) => ?_, fun (e14 : (v_receiving ν s k) = 0) => ?_⟩
          · exact mi_Wsub (List.forall_mem_cons.mpr ⟨(.head _), List.forall_mem_cons.mpr ⟨(.tail _ (.tail _ (.head _))), List.forall_mem_cons.mpr ⟨(.tail _ (.tail _ (.tail _ (.head _)))), List.forall_mem_cons.mpr ⟨(.tail _ (.tail _ (.tail _ (.tail _ (.head _))))), fun _ h => absurd h List.not_mem_nil⟩⟩⟩⟩) (ih (k + 1) ν hV (show 0 ≤ (k + 1) from by omega) (show (k + 1) ≤ 256 from by omega) (show (256 - (k + 1)) < (d : Int) from by omega) (Eq.trans (by rw [v_fillsGrants_25]; rw [if_neg e10, if_neg e12, if_neg e14]) hvr) (Eq.trans (by rw [s_fillsGrants_25]; rw [if_neg e10, if_neg e12, if_neg e14]) hsr))
          · refine ⟨by omega, ?_⟩
            refine ⟨_, hm_oi hx, aR (A 30), rfl, ?_⟩
            refine ⟨512, _, (ν 30 (mj s k)), hm_a hx 30 rfl, by omega, rfl, ?_⟩
            have t15 := (show 0 ≤ ν 30 (mj s k) ∧ ν 30 (mj s k) ≤ 65536 from hV.g 30 (mj s k))
            refine ⟨0, rfl, ?_⟩
            refine ⟨⟨_, hm_oi hx⟩, _, _, _, _, (m_lays hF htr hx hV (t := 17) (a := k) (b := (ν 30 (mj s k))) (c := 0) (r := r) (by omega) (by omega) (by omega) (by omega) (by omega) (by omega) (by omega) (by omega) (by omega) (by omega)), Nat.le_refl _, Nat.le_refl _, mkis_ (r := some (aI (v_lays ν 17 k (ν 30 (mj s k)) 0 r))) (fun ⟨hV16, hp17⟩ => ?_), fun _ _ q => q.elim⟩
            have t18 := v_lays_b ν 17 k (ν 30 (mj s k)) 0 r
            have hp17 : ((v_lays ν 17 k (ν 30 (mj s k)) 0 r) = 0 ∨ (v_lays ν 17 k (ν 30 (mj s k)) 0 r) = 1) ∧ (s_lays ν 17 k (ν 30 (mj s k)) 0 r) 49 0 = 0 ∧ (s_lays ν 17 k (ν 30 (mj s k)) 0 r) 45 0 = 17 ∧ (s_lays ν 17 k (ν 30 (mj s k)) 0 r) 46 0 = k := hp17
            refine ⟨by omega, fun (e19 : (v_lays ν 17 k (ν 30 (mj s k)) 0 r) = 0) => ?_, fun (e19 : ¬ ((v_lays ν 17 k (ν 30 (mj s k)) 0 r) = 0)) => ?_⟩
            · exact mi_Wsub (List.forall_mem_cons.mpr ⟨(.head _), List.forall_mem_cons.mpr ⟨(.tail _ (.tail _ (.head _))), List.forall_mem_cons.mpr ⟨(.tail _ (.tail _ (.tail _ (.head _)))), List.forall_mem_cons.mpr ⟨(.tail _ (.tail _ (.tail _ (.tail _ (.head _))))), fun _ h => absurd h List.not_mem_nil⟩⟩⟩⟩) (ih (k + 1) (s_lays ν 17 k (ν 30 (mj s k)) 0 r) hV16 (show 0 ≤ (k + 1) from by omega) (show (k + 1) ≤ 256 from by omega) (show (256 - (k + 1)) < (d : Int) from by omega) (Eq.trans (by rw [v_fillsGrants_25]; rw [if_neg e10, if_neg e12, if_pos e14, if_pos e19]) hvr) (Eq.trans (by rw [s_fillsGrants_25]; rw [if_neg e10, if_neg e12, if_pos e14, if_pos e19]) hsr))
            · refine ⟨_, hm_oi hx, aR (A 31), rfl, ?_⟩
              refine ⟨512, _, _, hm_a hx 31 rfl, by omega, (show 0 = 0 ∨ 0 = 1 from by omega), hm_pi hx (i := (mj s k)) (v := 0) rfl rfl rfl rfl, ?_⟩
              have hV20 := hV16.u (f := 31) (k := (mj s k)) (v := 0) (show 0 ≤ 0 ∧ 0 ≤ 1 from by omega)
              exact ⟨(Or.inr rfl), mRetIP (P := fun r m => (r = 0 ∨ r = 1) ∧ (r = 1 → m 49 0 = 0 ∧ (((m 45 0 = 4 ∨ m 45 0 = 5 ∨ m 45 0 = 17 ∨ m 45 0 = 21) ∧ m 46 0 < 256) ∨ m 45 0 = 16 ∨ m 45 0 = 18 ∨ m 45 0 = 19 ∨ m 45 0 = 20 ∨ m 45 0 = 22 ∨ m 45 0 = 23))) (hvr.symm.trans (by rw [v_fillsGrants_25]; rw [if_neg e10, if_neg e12, if_pos e14, if_neg e19])) (hsr.symm.trans (by rw [s_fillsGrants_25]; rw [if_neg e10, if_neg e12, if_pos e14, if_neg e19])) hV20 (show (1 = 0 ∨ 1 = 1) ∧ (1 = 1 → (u2 (s_lays ν 17 k (ν 30 (mj s k)) 0 r) 31 (mj s k) 0) 49 0 = 0 ∧ ((((u2 (s_lays ν 17 k (ν 30 (mj s k)) 0 r) 31 (mj s k) 0) 45 0 = 4 ∨ (u2 (s_lays ν 17 k (ν 30 (mj s k)) 0 r) 31 (mj s k) 0) 45 0 = 5 ∨ (u2 (s_lays ν 17 k (ν 30 (mj s k)) 0 r) 31 (mj s k) 0) 45 0 = 17 ∨ (u2 (s_lays ν 17 k (ν 30 (mj s k)) 0 r) 31 (mj s k) 0) 45 0 = 21) ∧ (u2 (s_lays ν 17 k (ν 30 (mj s k)) 0 r) 31 (mj s k) 0) 46 0 < 256) ∨ (u2 (s_lays ν 17 k (ν 30 (mj s k)) 0 r) 31 (mj s k) 0) 45 0 = 16 ∨ (u2 (s_lays ν 17 k (ν 30 (mj s k)) 0 r) 31 (mj s k) 0) 45 0 = 18 ∨ (u2 (s_lays ν 17 k (ν 30 (mj s k)) 0 r) 31 (mj s k) 0) 45 0 = 19 ∨ (u2 (s_lays ν 17 k (ν 30 (mj s k)) 0 r) 31 (mj s k) 0) 45 0 = 20 ∨ (u2 (s_lays ν 17 k (ν 30 (mj s k)) 0 r) 31 (mj s k) 0) 45 0 = 22 ∨ (u2 (s_lays ν 17 k (ν 30 (mj s k)) 0 r) 31 (mj s k) 0) 45 0 = 23)) from by have z45 : (u2 (s_lays ν 17 k (ν 30 (mj s k)) 0 r) 31 (mj s k) 0) 45 0 = ((s_lays ν 17 k (ν 30 (mj s k)) 0 r) 45 0) := (u2_f (by decide)); have z46 : (u2 (s_lays ν 17 k (ν 30 (mj s k)) 0 r) 31 (mj s k) 0) 46 0 = ((s_lays ν 17 k (ν 30 (mj s k)) 0 r) 46 0) := (u2_f (by decide)); have z49 : (u2 (s_lays ν 17 k (ν 30 (mj s k)) 0 r) 31 (mj s k) 0) 49 0 = ((s_lays ν 17 k (ν 30 (mj s k)) 0 r) 49 0) := (u2_f (by decide)); omega), Nat.le_refl _, Nat.le_refl _⟩
  refine ⟨_, hm_oi hx, aR (A 12), rfl, ?_⟩
  refine ⟨2, _, (μ 12 s.toNat), hm_a hx 12 rfl, by omega, rfl, ?_⟩
  have t21 := (show 0 ≤ μ 12 s.toNat ∧ μ 12 s.toNat ≤ 1 from hV.g 12 s.toNat)
  refine ⟨by omega, fun (e22 : (μ 12 s.toNat) = 0) => ?_, fun (e22 : ¬ ((μ 12 s.toNat) = 0)) => ?_⟩
  · exact mi_Wsub (List.forall_mem_cons.mpr ⟨(.head _), List.forall_mem_cons.mpr ⟨(.tail _ (.head _)), List.forall_mem_cons.mpr ⟨(.tail _ (.tail _ (.head _))), List.forall_mem_cons.mpr ⟨(.tail _ (.tail _ (.tail _ (.head _)))), fun _ h => absurd h List.not_mem_nil⟩⟩⟩⟩) (loop25 _ _ 257 0 μ hV (show 0 ≤ 0 from by omega) (show 0 ≤ 256 from by omega) (show (256 - 0) < (257 : Int) from by omega) (by unfold v_fillsGrants; rw [if_pos e22]) (by unfold s_fillsGrants; rw [if_pos e22]))
  · refine ⟨_, hm_oi hx, aR (A 11), rfl, ?_⟩
    refine ⟨2, _, (μ 11 s.toNat), hm_a hx 11 rfl, by omega, rfl, ?_⟩
    have t23 := (show 0 ≤ μ 11 s.toNat ∧ μ 11 s.toNat ≤ 65536 from hV.g 11 s.toNat)
    refine ⟨0, rfl, ?_⟩
    refine ⟨0, rfl, ?_⟩
    refine ⟨⟨_, hm_oi hx⟩, _, _, _, _, (m_lays hF htr hx hV (t := 16) (a := (μ 11 s.toNat)) (b := 0) (c := 0) (r := r) (by omega) (by omega) (by omega) (by omega) (by omega) (by omega) (by omega) (by omega) (by omega) (by omega)), Nat.le_refl _, Nat.le_refl _, mkis_ (r := some (aI (v_lays μ 16 (μ 11 s.toNat) 0 0 r))) (fun ⟨hV24, hp25⟩ => ?_), fun _ _ q => q.elim⟩
    have t26 := v_lays_b μ 16 (μ 11 s.toNat) 0 0 r
    have hp25 : ((v_lays μ 16 (μ 11 s.toNat) 0 0 r) = 0 ∨ (v_lays μ 16 (μ 11 s.toNat) 0 0 r) = 1) ∧ (s_lays μ 16 (μ 11 s.toNat) 0 0 r) 49 0 = 0 ∧ (s_lays μ 16 (μ 11 s.toNat) 0 0 r) 45 0 = 16 ∧ (s_lays μ 16 (μ 11 s.toNat) 0 0 r) 46 0 = (μ 11 s.toNat) := hp25
    refine ⟨by omega, fun (e27 : (v_lays μ 16 (μ 11 s.toNat) 0 0 r) = 0) => ?_, fun (e27 : ¬ ((v_lays μ 16 (μ 11 s.toNat) 0 0 r) = 0)) => ?_⟩
    · exact mi_Wsub (List.forall_mem_cons.mpr ⟨(.head _), List.forall_mem_cons.mpr ⟨(.tail _ (.head _)), List.forall_mem_cons.mpr ⟨(.tail _ (.tail _ (.head _))), List.forall_mem_cons.mpr ⟨(.tail _ (.tail _ (.tail _ (.head _)))), fun _ h => absurd h List.not_mem_nil⟩⟩⟩⟩) (loop25 _ _ 257 0 (s_lays μ 16 (μ 11 s.toNat) 0 0 r) hV24 (show 0 ≤ 0 from by omega) (show 0 ≤ 256 from by omega) (show (256 - 0) < (257 : Int) from by omega) (by unfold v_fillsGrants; rw [if_neg e22, if_pos e27]) (by unfold s_fillsGrants; rw [if_neg e22, if_pos e27]))
    · refine ⟨_, hm_oi hx, aR (A 12), rfl, ?_⟩
      refine ⟨2, _, _, hm_a hx 12 rfl, by omega, (show 0 = 0 ∨ 0 = 1 from by omega), hm_pi hx (i := s.toNat) (v := 0) rfl rfl rfl rfl, ?_⟩
      have hV28 := hV24.u (f := 12) (k := s.toNat) (v := 0) (show 0 ≤ 0 ∧ 0 ≤ 1 from by omega)
      exact ⟨(Or.inr rfl), mRetIP (P := fun r m => (r = 0 ∨ r = 1) ∧ (r = 1 → m 49 0 = 0 ∧ (((m 45 0 = 4 ∨ m 45 0 = 5 ∨ m 45 0 = 17 ∨ m 45 0 = 21) ∧ m 46 0 < 256) ∨ m 45 0 = 16 ∨ m 45 0 = 18 ∨ m 45 0 = 19 ∨ m 45 0 = 20 ∨ m 45 0 = 22 ∨ m 45 0 = 23))) (by unfold v_fillsGrants; rw [if_neg e22, if_neg e27]) (by unfold s_fillsGrants; rw [if_neg e22, if_neg e27]) hV28 (show (1 = 0 ∨ 1 = 1) ∧ (1 = 1 → (u2 (s_lays μ 16 (μ 11 s.toNat) 0 0 r) 12 s.toNat 0) 49 0 = 0 ∧ ((((u2 (s_lays μ 16 (μ 11 s.toNat) 0 0 r) 12 s.toNat 0) 45 0 = 4 ∨ (u2 (s_lays μ 16 (μ 11 s.toNat) 0 0 r) 12 s.toNat 0) 45 0 = 5 ∨ (u2 (s_lays μ 16 (μ 11 s.toNat) 0 0 r) 12 s.toNat 0) 45 0 = 17 ∨ (u2 (s_lays μ 16 (μ 11 s.toNat) 0 0 r) 12 s.toNat 0) 45 0 = 21) ∧ (u2 (s_lays μ 16 (μ 11 s.toNat) 0 0 r) 12 s.toNat 0) 46 0 < 256) ∨ (u2 (s_lays μ 16 (μ 11 s.toNat) 0 0 r) 12 s.toNat 0) 45 0 = 16 ∨ (u2 (s_lays μ 16 (μ 11 s.toNat) 0 0 r) 12 s.toNat 0) 45 0 = 18 ∨ (u2 (s_lays μ 16 (μ 11 s.toNat) 0 0 r) 12 s.toNat 0) 45 0 = 19 ∨ (u2 (s_lays μ 16 (μ 11 s.toNat) 0 0 r) 12 s.toNat 0) 45 0 = 20 ∨ (u2 (s_lays μ 16 (μ 11 s.toNat) 0 0 r) 12 s.toNat 0) 45 0 = 22 ∨ (u2 (s_lays μ 16 (μ 11 s.toNat) 0 0 r) 12 s.toNat 0) 45 0 = 23)) from by have z45 : (u2 (s_lays μ 16 (μ 11 s.toNat) 0 0 r) 12 s.toNat 0) 45 0 = ((s_lays μ 16 (μ 11 s.toNat) 0 0 r) 45 0) := (u2_f (by decide)); have z46 : (u2 (s_lays μ 16 (μ 11 s.toNat) 0 0 r) 12 s.toNat 0) 46 0 = ((s_lays μ 16 (μ 11 s.toNat) 0 0 r) 46 0) := (u2_f (by decide)); have z49 : (u2 (s_lays μ 16 (μ 11 s.toNat) 0 0 r) 12 s.toNat 0) 49 0 = ((s_lays μ 16 (μ 11 s.toNat) 0 0 r) 49 0) := (u2_f (by decide)); omega), Nat.le_refl _, Nat.le_refl _⟩
set_option maxRecDepth 100000 in
theorem s_fillsGrants_65_fr {f kk : Nat} {s r : Int} (hf : [12, 13, 31, 45, 46, 47, 48, 49].elem f = false) : ∀ (d : Nat) (k : Int) (ν : Nat → Nat → Int), s_fillsGrants_65 μ s r d k ν f kk = ν f kk := by
  have n12 : f ≠ 12 := by rintro rfl; exact absurd hf (by decide)
  have n13 : f ≠ 13 := by rintro rfl; exact absurd hf (by decide)
  have n31 : f ≠ 31 := by rintro rfl; exact absurd hf (by decide)
  have n45 : f ≠ 45 := by rintro rfl; exact absurd hf (by decide)
  have n46 : f ≠ 46 := by rintro rfl; exact absurd hf (by decide)
  have n47 : f ≠ 47 := by rintro rfl; exact absurd hf (by decide)
  have n48 : f ≠ 48 := by rintro rfl; exact absurd hf (by decide)
  have n49 : f ≠ 49 := by rintro rfl; exact absurd hf (by decide)
  have f12 : ∀ (m : Nat → Nat → Int) (a b : Nat) (v : Int), u2 m 12 a v f b = m f b := fun m a b v => u2_f n12
  have f13 : ∀ (m : Nat → Nat → Int) (a b : Nat) (v : Int), u2 m 13 a v f b = m f b := fun m a b v => u2_f n13
  have f31 : ∀ (m : Nat → Nat → Int) (a b : Nat) (v : Int), u2 m 31 a v f b = m f b := fun m a b v => u2_f n31
  have f45 : ∀ (m : Nat → Nat → Int) (a b : Nat) (v : Int), u2 m 45 a v f b = m f b := fun m a b v => u2_f n45
  have f46 : ∀ (m : Nat → Nat → Int) (a b : Nat) (v : Int), u2 m 46 a v f b = m f b := fun m a b v => u2_f n46
  have f47 : ∀ (m : Nat → Nat → Int) (a b : Nat) (v : Int), u2 m 47 a v f b = m f b := fun m a b v => u2_f n47
  have f48 : ∀ (m : Nat → Nat → Int) (a b : Nat) (v : Int), u2 m 48 a v f b = m f b := fun m a b v => u2_f n48
  have f49 : ∀ (m : Nat → Nat → Int) (a b : Nat) (v : Int), u2 m 49 a v f b = m f b := fun m a b v => u2_f n49
  have c_lays : ∀ (m : Nat → Nat → Int) (z_t z_a z_b z_c z_r : Int) (k : Nat), s_lays m z_t z_a z_b z_c z_r f k = m f k := by intros; exact s_lays_fr (by simp only [List.elem_cons, List.elem_nil, beq_eq_false_iff_ne.mpr n45, beq_eq_false_iff_ne.mpr n46, beq_eq_false_iff_ne.mpr n47, beq_eq_false_iff_ne.mpr n48, beq_eq_false_iff_ne.mpr n49]; try rfl)
  intro d
  induction d with
  | zero => intros; rfl
  | succ d ih =>
    intro k ν
    rw [s_fillsGrants_65]
    repeat' with_reducible apply f_ite
    all_goals first | rfl | simp only [f12, f13, f31, f45, f46, f47, f48, f49, c_lays, ih]
set_option maxRecDepth 100000 in
theorem s_fillsGrants_25_fr {f kk : Nat} {s r : Int} (hf : [12, 13, 31, 45, 46, 47, 48, 49].elem f = false) : ∀ (d : Nat) (k : Int) (ν : Nat → Nat → Int), s_fillsGrants_25 μ s r d k ν f kk = ν f kk := by
  have n12 : f ≠ 12 := by rintro rfl; exact absurd hf (by decide)
  have n13 : f ≠ 13 := by rintro rfl; exact absurd hf (by decide)
  have n31 : f ≠ 31 := by rintro rfl; exact absurd hf (by decide)
  have n45 : f ≠ 45 := by rintro rfl; exact absurd hf (by decide)
  have n46 : f ≠ 46 := by rintro rfl; exact absurd hf (by decide)
  have n47 : f ≠ 47 := by rintro rfl; exact absurd hf (by decide)
  have n48 : f ≠ 48 := by rintro rfl; exact absurd hf (by decide)
  have n49 : f ≠ 49 := by rintro rfl; exact absurd hf (by decide)
  have f12 : ∀ (m : Nat → Nat → Int) (a b : Nat) (v : Int), u2 m 12 a v f b = m f b := fun m a b v => u2_f n12
  have f13 : ∀ (m : Nat → Nat → Int) (a b : Nat) (v : Int), u2 m 13 a v f b = m f b := fun m a b v => u2_f n13
  have f31 : ∀ (m : Nat → Nat → Int) (a b : Nat) (v : Int), u2 m 31 a v f b = m f b := fun m a b v => u2_f n31
  have f45 : ∀ (m : Nat → Nat → Int) (a b : Nat) (v : Int), u2 m 45 a v f b = m f b := fun m a b v => u2_f n45
  have f46 : ∀ (m : Nat → Nat → Int) (a b : Nat) (v : Int), u2 m 46 a v f b = m f b := fun m a b v => u2_f n46
  have f47 : ∀ (m : Nat → Nat → Int) (a b : Nat) (v : Int), u2 m 47 a v f b = m f b := fun m a b v => u2_f n47
  have f48 : ∀ (m : Nat → Nat → Int) (a b : Nat) (v : Int), u2 m 48 a v f b = m f b := fun m a b v => u2_f n48
  have f49 : ∀ (m : Nat → Nat → Int) (a b : Nat) (v : Int), u2 m 49 a v f b = m f b := fun m a b v => u2_f n49
  have c_lays : ∀ (m : Nat → Nat → Int) (z_t z_a z_b z_c z_r : Int) (k : Nat), s_lays m z_t z_a z_b z_c z_r f k = m f k := by intros; exact s_lays_fr (by simp only [List.elem_cons, List.elem_nil, beq_eq_false_iff_ne.mpr n45, beq_eq_false_iff_ne.mpr n46, beq_eq_false_iff_ne.mpr n47, beq_eq_false_iff_ne.mpr n48, beq_eq_false_iff_ne.mpr n49]; try rfl)
  intro d
  induction d with
  | zero => intros; rfl
  | succ d ih =>
    intro k ν
    rw [s_fillsGrants_25]
    repeat' with_reducible apply f_ite
    all_goals first | rfl | simp only [f12, f13, f31, f45, f46, f47, f48, f49, c_lays, ih, s_fillsGrants_65_fr hf]
set_option maxRecDepth 100000 in
theorem s_fillsGrants_fr {f kk : Nat} {s r : Int} (hf : [12, 13, 31, 45, 46, 47, 48, 49].elem f = false) : s_fillsGrants μ s r f kk = μ f kk := by
  have n12 : f ≠ 12 := by rintro rfl; exact absurd hf (by decide)
  have n13 : f ≠ 13 := by rintro rfl; exact absurd hf (by decide)
  have n31 : f ≠ 31 := by rintro rfl; exact absurd hf (by decide)
  have n45 : f ≠ 45 := by rintro rfl; exact absurd hf (by decide)
  have n46 : f ≠ 46 := by rintro rfl; exact absurd hf (by decide)
  have n47 : f ≠ 47 := by rintro rfl; exact absurd hf (by decide)
  have n48 : f ≠ 48 := by rintro rfl; exact absurd hf (by decide)
  have n49 : f ≠ 49 := by rintro rfl; exact absurd hf (by decide)
  have f12 : ∀ (m : Nat → Nat → Int) (a b : Nat) (v : Int), u2 m 12 a v f b = m f b := fun m a b v => u2_f n12
  have f13 : ∀ (m : Nat → Nat → Int) (a b : Nat) (v : Int), u2 m 13 a v f b = m f b := fun m a b v => u2_f n13
  have f31 : ∀ (m : Nat → Nat → Int) (a b : Nat) (v : Int), u2 m 31 a v f b = m f b := fun m a b v => u2_f n31
  have f45 : ∀ (m : Nat → Nat → Int) (a b : Nat) (v : Int), u2 m 45 a v f b = m f b := fun m a b v => u2_f n45
  have f46 : ∀ (m : Nat → Nat → Int) (a b : Nat) (v : Int), u2 m 46 a v f b = m f b := fun m a b v => u2_f n46
  have f47 : ∀ (m : Nat → Nat → Int) (a b : Nat) (v : Int), u2 m 47 a v f b = m f b := fun m a b v => u2_f n47
  have f48 : ∀ (m : Nat → Nat → Int) (a b : Nat) (v : Int), u2 m 48 a v f b = m f b := fun m a b v => u2_f n48
  have f49 : ∀ (m : Nat → Nat → Int) (a b : Nat) (v : Int), u2 m 49 a v f b = m f b := fun m a b v => u2_f n49
  have c_lays : ∀ (m : Nat → Nat → Int) (z_t z_a z_b z_c z_r : Int) (k : Nat), s_lays m z_t z_a z_b z_c z_r f k = m f k := by intros; exact s_lays_fr (by simp only [List.elem_cons, List.elem_nil, beq_eq_false_iff_ne.mpr n45, beq_eq_false_iff_ne.mpr n46, beq_eq_false_iff_ne.mpr n47, beq_eq_false_iff_ne.mpr n48, beq_eq_false_iff_ne.mpr n49]; try rfl)
  unfold s_fillsGrants
  repeat' with_reducible apply f_ite
  all_goals first | rfl | simp only [f12, f13, f31, f45, f46, f47, f48, f49, c_lays, s_fillsGrants_65_fr hf, s_fillsGrants_25_fr hf]
def v_waits (μ : Nat → Nat → Int) (s i : Int) : Int := (if ((0 ≤ i ∧ i < 256 ∧ μ 17 (mj s i) = 1) ∧ (i / 2 % 2 = 0 ∨ i % 2 = s)) ∧ mSend μ s i < 2 then (if (mCnt μ s i (-1) (mTot μ s)) ≤ (mCnt μ s i (-2) (mTot μ s)) then 0 else 1) else 0)
set_option maxRecDepth 100000 in
theorem m_waits (hF : mm_F G) (htr : L.stackTraces = false) (hx : mx A ax) (hV : mV μ) {s i : Int} (h1 : 0 ≤ s) (h2 : s ≤ 1) (h3 : -2147483648 ≤ i) (h4 : i < 2147483648) :
    mm_Met L G SX6_waits [.ref (A 99), .int (iI s), .int (iI i)] (hm G A ax h0 μ) 0 0 (mRet (some (.int (iI (v_waits μ s i)))) (hm G A ax h0 μ)) mm_no := by
  refine mi_meth MX6_waits 400 hF htr okX6_waits (av := [aR (A 99), aI s, aI i]) (by decide +kernel) (Nat.le_of_ble_eq_true rfl) cmX6_waits (fun θ hc => ?_)
  refine ⟨⟨_, hm_oi hx⟩, _, _, _, _, (m_isOpenSending hF htr hx hV.T hV.N (s := s) (i := i) (by omega) (by omega) (by omega) (by omega) (hV.g 21 _).2), Nat.le_refl _, Nat.le_refl _, mki_ (r := some (aI (b2 (((0 ≤ i ∧ i < 256 ∧ μ 17 (mj s i) = 1) ∧ (i / 2 % 2 = 0 ∨ i % 2 = s)) ∧ mSend μ s i < 2)))) ?_, fun _ _ q => q.elim⟩
  refine ⟨by have := b2_r (((0 ≤ i ∧ i < 256 ∧ μ 17 (mj s i) = 1) ∧ (i / 2 % 2 = 0 ∨ i % 2 = s)) ∧ mSend μ s i < 2); omega, fun e1 => ?_, fun e1 => ?_⟩
  · have e1 : ¬ (((0 ≤ i ∧ i < 256 ∧ μ 17 (mj s i) = 1) ∧ (i / 2 % 2 = 0 ∨ i % 2 = s)) ∧ mSend μ s i < 2) := b2_e0.mp e1
    exact ⟨(Or.inl rfl), mRetI (by unfold v_waits; rw [if_neg e1]) rfl, Nat.le_refl _, Nat.le_refl _⟩
  · have e1 : ((0 ≤ i ∧ i < 256 ∧ μ 17 (mj s i) = 1) ∧ (i / 2 % 2 = 0 ∨ i % 2 = s)) ∧ mSend μ s i < 2 := b2_n0.mp e1
    refine ⟨⟨_, hm_oi hx⟩, _, _, _, _, (m_sent hF htr hx hV.T hV.N (s := s) (i := i) (by omega) (by omega) (by omega) (by omega)), Nat.le_refl _, Nat.le_refl _, mki_ (r := some (aI (mCnt μ s i (-2) (mTot μ s)))) ?_, fun _ _ q => q.elim⟩
    have t2 := hV.cnt (s := s) i (-2) (by omega) (by omega)
    refine ⟨⟨_, hm_oi hx⟩, _, _, _, _, (m_written hF htr hx hV.T hV.N (s := s) (i := i) (by omega) (by omega) (by omega) (by omega)), Nat.le_refl _, Nat.le_refl _, mki_ (r := some (aI (mCnt μ s i (-1) (mTot μ s)))) ?_, fun _ _ q => q.elim⟩
    have t3 := hV.cnt (s := s) i (-1) (by omega) (by omega)
    refine ⟨by omega, fun (e4 : (mCnt μ s i (-1) (mTot μ s)) ≤ (mCnt μ s i (-2) (mTot μ s))) => ?_, fun (e4 : ¬ ((mCnt μ s i (-1) (mTot μ s)) ≤ (mCnt μ s i (-2) (mTot μ s)))) => ?_⟩
    · exact ⟨(Or.inl rfl), mRetI (by unfold v_waits; rw [if_pos e1, if_pos e4]) rfl, Nat.le_refl _, Nat.le_refl _⟩
    · exact ⟨(Or.inr rfl), mRetI (by unfold v_waits; rw [if_pos e1, if_neg e4]) rfl, Nat.le_refl _, Nat.le_refl _⟩
set_option maxRecDepth 100000 in
theorem v_waits_cg {μ μ' : Nat → Nat → Int} {s i : Int} (h : ∀ f, [17, 19, 20, 21, 36, 37, 39].elem f = true → ∀ k, μ f k = μ' f k) : v_waits μ s i = v_waits μ' s i := by
  have q17 := h 17 rfl
  have q19 := h 19 rfl
  have q20 := h 20 rfl
  have q21 := h 21 rfl
  have q36 := h 36 rfl
  have q37 := h 37 rfl
  have q39 := h 39 rfl
  have c_X6_isOpenSending : ∀ (s i : Int), mSend μ s i = mSend μ' s i := fun s i => mSend_cg (fun f hf k => h f (by simp only [List.elem_eq_mem, decide_eq_true_eq, List.mem_cons, List.not_mem_nil, or_false] at hf ⊢; omega) k)
  have c_X6_sent : ∀ (s i st : Int), mCnt μ s i st (mTot μ s) = mCnt μ' s i st (mTot μ' s) := fun s i st => mCnt_cg (fun f hf k => h f (by simp only [List.elem_eq_mem, decide_eq_true_eq, List.mem_cons, List.not_mem_nil, or_false] at hf ⊢; omega) k)
  have c_X6_written : ∀ (s i st : Int), mCnt μ s i st (mTot μ s) = mCnt μ' s i st (mTot μ' s) := fun s i st => mCnt_cg (fun f hf k => h f (by simp only [List.elem_eq_mem, decide_eq_true_eq, List.mem_cons, List.not_mem_nil, or_false] at hf ⊢; omega) k)
  unfold v_waits
  simp only [q17, q19, q20, q21, q36, q37, q39, c_X6_isOpenSending, c_X6_sent, c_X6_written]
theorem v_waits_u {f k : Nat} {v : Int} {s i : Int} (hf : [17, 19, 20, 21, 36, 37, 39].elem f = false) : v_waits (u2 μ f k v) s i = v_waits μ s i := v_waits_cg (fun g hg q => u2_f (by rintro rfl; rw [hg] at hf; cases hf))
set_option maxRecDepth 100000 in
theorem v_waits_b (μ : Nat → Nat → Int) (s i : Int) : 0 ≤ v_waits μ s i ∧ v_waits μ s i ≤ 1 := by
  unfold v_waits
  repeat' with_reducible apply b_ite
  all_goals decide
def v_fillsBlocked_132 (μ : Nat → Nat → Int) (s r : Int) : Nat → Int → (Nat → Nat → Int) → Int
  | 0, _, _ => 0
  | d + 1, k, ν => (if 2 ≤ k then 0 else (if (ν 15 ((2 * s) + k).toNat) = 0 then (v_fillsBlocked_132 μ s r d (k + 1) ν) else (if (ν 8 ((2 * s) + k).toNat) < (ν 7 (((3 * s) + 1) + k).toNat) then (v_fillsBlocked_132 μ s r d (k + 1) ν) else (if (ν 14 (((3 * s) + 1) + k).toNat) = (ν 7 (((3 * s) + 1) + k).toNat) then (v_fillsBlocked_132 μ s r d (k + 1) ν) else (if (v_lays ν (22 + k) (ν 7 (((3 * s) + 1) + k).toNat) 0 0 r) = 0 then (v_fillsBlocked_132 μ s r d (k + 1) (s_lays ν (22 + k) (ν 7 (((3 * s) + 1) + k).toNat) 0 0 r)) else 1)))))
def s_fillsBlocked_132 (μ : Nat → Nat → Int) (s r : Int) : Nat → Int → (Nat → Nat → Int) → (Nat → Nat → Int)
  | 0, _, ν => ν
  | d + 1, k, ν => (if 2 ≤ k then ν else (if (ν 15 ((2 * s) + k).toNat) = 0 then (s_fillsBlocked_132 μ s r d (k + 1) ν) else (if (ν 8 ((2 * s) + k).toNat) < (ν 7 (((3 * s) + 1) + k).toNat) then (s_fillsBlocked_132 μ s r d (k + 1) ν) else (if (ν 14 (((3 * s) + 1) + k).toNat) = (ν 7 (((3 * s) + 1) + k).toNat) then (s_fillsBlocked_132 μ s r d (k + 1) ν) else (if (v_lays ν (22 + k) (ν 7 (((3 * s) + 1) + k).toNat) 0 0 r) = 0 then (s_fillsBlocked_132 μ s r d (k + 1) (s_lays ν (22 + k) (ν 7 (((3 * s) + 1) + k).toNat) 0 0 r)) else (u2 (s_lays ν (22 + k) (ν 7 (((3 * s) + 1) + k).toNat) 0 0 r) 14 (((3 * s) + 1) + k).toNat (ν 7 (((3 * s) + 1) + k).toNat)))))))
def v_fillsBlocked_73 (μ : Nat → Nat → Int) (s r : Int) : Nat → Int → (Nat → Nat → Int) → Int
  | 0, _, _ => 0
  | d + 1, k, ν => (if 256 ≤ k then (v_fillsBlocked_132 μ s r 3 0 ν) else (if (v_waits ν s k) = 0 then (v_fillsBlocked_73 μ s r d (k + 1) ν) else (if (mCnt ν s k (-2) (mTot ν s)) = (ν 18 (mj s k)) then (if (ν 24 (mj s k)) = (ν 18 (mj s k)) then (v_fillsBlocked_73 μ s r d (k + 1) ν) else (if (v_lays ν 21 k (ν 18 (mj s k)) 0 r) = 0 then (v_fillsBlocked_73 μ s r d (k + 1) (s_lays ν 21 k (ν 18 (mj s k)) 0 r)) else 1)) else (v_fillsBlocked_73 μ s r d (k + 1) ν))))
def s_fillsBlocked_73 (μ : Nat → Nat → Int) (s r : Int) : Nat → Int → (Nat → Nat → Int) → (Nat → Nat → Int)
  | 0, _, ν => ν
  | d + 1, k, ν => (if 256 ≤ k then (s_fillsBlocked_132 μ s r 3 0 ν) else (if (v_waits ν s k) = 0 then (s_fillsBlocked_73 μ s r d (k + 1) ν) else (if (mCnt ν s k (-2) (mTot ν s)) = (ν 18 (mj s k)) then (if (ν 24 (mj s k)) = (ν 18 (mj s k)) then (s_fillsBlocked_73 μ s r d (k + 1) ν) else (if (v_lays ν 21 k (ν 18 (mj s k)) 0 r) = 0 then (s_fillsBlocked_73 μ s r d (k + 1) (s_lays ν 21 k (ν 18 (mj s k)) 0 r)) else (u2 (s_lays ν 21 k (ν 18 (mj s k)) 0 r) 24 (mj s k) (ν 18 (mj s k))))) else (s_fillsBlocked_73 μ s r d (k + 1) ν))))
def v_fillsBlocked_4 (μ : Nat → Nat → Int) (s r : Int) : Nat → Int → Int → Int
  | 0, _, _ => 0
  | d + 1, k, b => (if 256 ≤ k then (if b = 0 then (v_fillsBlocked_73 μ s r 257 0 μ) else (if (mAll μ s (mTot μ s)) = (μ 7 (3 * s).toNat) then (if (μ 14 (3 * s).toNat) = (μ 7 (3 * s).toNat) then (v_fillsBlocked_73 μ s r 257 0 μ) else (if (v_lays μ 20 (μ 7 (3 * s).toNat) 0 0 r) = 0 then (v_fillsBlocked_73 μ s r 257 0 (s_lays μ 20 (μ 7 (3 * s).toNat) 0 0 r)) else 1)) else (v_fillsBlocked_73 μ s r 257 0 μ))) else (if b = 0 then (v_fillsBlocked_4 μ s r d (k + 1) (v_waits μ s k)) else (if (mAll μ s (mTot μ s)) = (μ 7 (3 * s).toNat) then (if (μ 14 (3 * s).toNat) = (μ 7 (3 * s).toNat) then (v_fillsBlocked_73 μ s r 257 0 μ) else (if (v_lays μ 20 (μ 7 (3 * s).toNat) 0 0 r) = 0 then (v_fillsBlocked_73 μ s r 257 0 (s_lays μ 20 (μ 7 (3 * s).toNat) 0 0 r)) else 1)) else (v_fillsBlocked_73 μ s r 257 0 μ))))
def s_fillsBlocked_4 (μ : Nat → Nat → Int) (s r : Int) : Nat → Int → Int → (Nat → Nat → Int)
  | 0, _, _ => μ
  | d + 1, k, b => (if 256 ≤ k then (if b = 0 then (s_fillsBlocked_73 μ s r 257 0 μ) else (if (mAll μ s (mTot μ s)) = (μ 7 (3 * s).toNat) then (if (μ 14 (3 * s).toNat) = (μ 7 (3 * s).toNat) then (s_fillsBlocked_73 μ s r 257 0 μ) else (if (v_lays μ 20 (μ 7 (3 * s).toNat) 0 0 r) = 0 then (s_fillsBlocked_73 μ s r 257 0 (s_lays μ 20 (μ 7 (3 * s).toNat) 0 0 r)) else (u2 (s_lays μ 20 (μ 7 (3 * s).toNat) 0 0 r) 14 (3 * s).toNat (μ 7 (3 * s).toNat)))) else (s_fillsBlocked_73 μ s r 257 0 μ))) else (if b = 0 then (s_fillsBlocked_4 μ s r d (k + 1) (v_waits μ s k)) else (if (mAll μ s (mTot μ s)) = (μ 7 (3 * s).toNat) then (if (μ 14 (3 * s).toNat) = (μ 7 (3 * s).toNat) then (s_fillsBlocked_73 μ s r 257 0 μ) else (if (v_lays μ 20 (μ 7 (3 * s).toNat) 0 0 r) = 0 then (s_fillsBlocked_73 μ s r 257 0 (s_lays μ 20 (μ 7 (3 * s).toNat) 0 0 r)) else (u2 (s_lays μ 20 (μ 7 (3 * s).toNat) 0 0 r) 14 (3 * s).toNat (μ 7 (3 * s).toNat)))) else (s_fillsBlocked_73 μ s r 257 0 μ))))
def v_fillsBlocked (μ : Nat → Nat → Int) (s r : Int) : Int := (v_fillsBlocked_4 μ s r 257 0 0)
def s_fillsBlocked (μ : Nat → Nat → Int) (s r : Int) : Nat → Nat → Int := (s_fillsBlocked_4 μ s r 257 0 0)
set_option maxRecDepth 100000 in
theorem m_fillsBlocked (hF : mm_F G) (htr : L.stackTraces = false) (hx : mx A ax) (hV : mV μ) {s r : Int} (h1 : 0 ≤ s) (h2 : s ≤ 1) (h3 : 1 ≤ r) (h3a : r ≤ 1200) :
    mm_Met L G SX6_fillsBlocked [.ref (A 99), .int (iI s), .int (iI r)] (hm G A ax h0 μ) 0 0 (mRetS (some (.int (iI (v_fillsBlocked μ s r)))) (hm G A ax h0 (s_fillsBlocked μ s r)) (mV (s_fillsBlocked μ s r) ∧ (fun r m => (r = 0 ∨ r = 1) ∧ (r = 1 → m 49 0 = 0 ∧ (((m 45 0 = 4 ∨ m 45 0 = 5 ∨ m 45 0 = 17 ∨ m 45 0 = 21) ∧ m 46 0 < 256) ∨ m 45 0 = 16 ∨ m 45 0 = 18 ∨ m 45 0 = 19 ∨ m 45 0 = 20 ∨ m 45 0 = 22 ∨ m 45 0 = 23))) (v_fillsBlocked μ s r) (s_fillsBlocked μ s r))) mm_no := by
  refine mi_meth MX6_fillsBlocked 400 hF htr okX6_fillsBlocked (av := [aR (A 99), aI s, aI r]) (by decide +kernel) (Nat.le_of_ble_eq_true rfl) cmX6_fillsBlocked (fun θ hc => ?_)
  have loop132 : ∀ (R : Int) (S : Nat → Nat → Int) (d : Nat) (k : Int) (ν : Nat → Nat → Int) (hV : mV ν), (0 ≤ k) → (k ≤ 2) → (2 - k) < (d : Int) → v_fillsBlocked_132 μ s r d k ν = R → s_fillsBlocked_132 μ s r d k ν = S → mi_W L G MX6_fillsBlocked 0 0 (mRetS (some (.int (iI R))) (hm G A ax h0 S) (mV S ∧ (fun r m => (r = 0 ∨ r = 1) ∧ (r = 1 → m 49 0 = 0 ∧ (((m 45 0 = 4 ∨ m 45 0 = 5 ∨ m 45 0 = 17 ∨ m 45 0 = 21) ∧ m 46 0 < 256) ∨ m 45 0 = 16 ∨ m 45 0 = 18 ∨ m 45 0 = 19 ∨ m 45 0 = 20 ∨ m 45 0 = 22 ∨ m 45 0 = 23))) R S)) mm_no θ 132 [(4, aI k), (0, aR (A 99)), (1, aI s), (2, aI r)] [] (hm G A ax h0 ν) 0 0 := by
    intro R S d
    induction d with
    | zero =>
      intro k ν hV hi1 hi2 hms hvr hsr
      omega
    | succ d ih =>
      intro k ν hV hi1 hi2 hms hvr hsr
      refine mi_sound hc okX6_fillsBlocked 400 _ _ _ _ _ _ ?_
      refine ⟨by omega, fun (e1 : 2 ≤ k) => ?_, fun (e1 : ¬ (2 ≤ k)) => ?_⟩
      · exact ⟨(Or.inl rfl), mRetIP (P := fun r m => (r = 0 ∨ r = 1) ∧ (r = 1 → m 49 0 = 0 ∧ (((m 45 0 = 4 ∨ m 45 0 = 5 ∨ m 45 0 = 17 ∨ m 45 0 = 21) ∧ m 46 0 < 256) ∨ m 45 0 = 16 ∨ m 45 0 = 18 ∨ m 45 0 = 19 ∨ m 45 0 = 20 ∨ m 45 0 = 22 ∨ m 45 0 = 23))) (hvr.symm.trans (by rw [v_fillsBlocked_132]; rw [if_pos e1])) (hsr.symm.trans (by rw [s_fillsBlocked_132]; rw [if_pos e1])) hV (show (0 = 0 ∨ 0 = 1) ∧ (0 = 1 → ν 49 0 = 0 ∧ (((ν 45 0 = 4 ∨ ν 45 0 = 5 ∨ ν 45 0 = 17 ∨ ν 45 0 = 21) ∧ ν 46 0 < 256) ∨ ν 45 0 = 16 ∨ ν 45 0 = 18 ∨ ν 45 0 = 19 ∨ ν 45 0 = 20 ∨ ν 45 0 = 22 ∨ ν 45 0 = 23)) from by have z45 : ν 45 0 = (ν 45 0) := rfl; have z46 : ν 46 0 = (ν 46 0) := rfl; have z49 : ν 49 0 = (ν 49 0) := rfl; omega), Nat.le_refl _, Nat.le_refl _⟩
      · refine ⟨_, hm_oi hx, aR (A 15), rfl, ?_⟩
        refine ⟨4, _, (ν 15 ((2 * s) + k).toNat), hm_a hx 15 rfl, by omega, rfl, ?_⟩
        have t2 := (show 0 ≤ ν 15 ((2 * s) + k).toNat ∧ ν 15 ((2 * s) + k).toNat ≤ 1 from hV.g 15 ((2 * s) + k).toNat)
        refine ⟨by omega, fun (e3 : (ν 15 ((2 * s) + k).toNat) = 0) => ?_, fun (e3 : ¬ ((ν 15 ((2 * s) + k).toNat) = 0)) => ?_⟩
        · exact mi_Wsub (List.forall_mem_cons.mpr ⟨(.head _), List.forall_mem_cons.mpr ⟨(.tail _ (.tail _ (.head _))), List.forall_mem_cons.mpr ⟨(.tail _ (.tail _ (.tail _ (.head _)))), List.forall_mem_cons.mpr ⟨(.tail _ (.tail _ (.tail _ (.tail _ (.head _))))), fun _ h => absurd h List.not_mem_nil⟩⟩⟩⟩) (ih (k + 1) ν hV (show 0 ≤ (k + 1) from by omega) (show (k + 1) ≤ 2 from by omega) (show (2 - (k + 1)) < (d : Int) from by omega) (Eq.trans (by rw [v_fillsBlocked_132]; rw [if_neg e1, if_pos e3]) hvr) (Eq.trans (by rw [s_fillsBlocked_132]; rw [if_neg e1, if_pos e3]) hsr))
        · refine ⟨_, hm_oi hx, aR (A 8), rfl, ?_⟩
          refine ⟨4, _, (ν 8 ((2 * s) + k).toNat), hm_a hx 8 rfl, by omega, rfl, ?_⟩
          have t4 := (show 0 ≤ ν 8 ((2 * s) + k).toNat ∧ ν 8 ((2 * s) + k).toNat ≤ 64 from hV.g 8 ((2 * s) + k).toNat)
          refine ⟨by omega, ?_⟩
          refine ⟨_, hm_oi hx, aR (A 7), rfl, ?_⟩
          refine ⟨6, _, (ν 7 (((3 * s) + 1) + k).toNat), hm_a hx 7 rfl, by omega, rfl, ?_⟩
          have t5 := (show 0 ≤ ν 7 (((3 * s) + 1) + k).toNat ∧ ν 7 (((3 * s) + 1) + k).toNat ≤ 4611686018427387903 from hV.g 7 (((3 * s) + 1) + k).toNat)
          refine ⟨by omega, fun (e6 : (ν 8 ((2 * s) + k).toNat) < (ν 7 (((3 * s) + 1) + k).toNat)) => ?_, fun (e6 : ¬ ((ν 8 ((2 * s) + k).toNat) < (ν 7 (((3 * s) + 1) + k).toNat))) => ?_⟩
          · exact mi_Wsub (List.forall_mem_cons.mpr ⟨(.head _), List.forall_mem_cons.mpr ⟨(.tail _ (.tail _ (.head _))), List.forall_mem_cons.mpr ⟨(.tail _ (.tail _ (.tail _ (.head _)))), List.forall_mem_cons.mpr ⟨(.tail _ (.tail _ (.tail _ (.tail _ (.head _))))), fun _ h => absurd h List.not_mem_nil⟩⟩⟩⟩) (ih (k + 1) ν hV (show 0 ≤ (k + 1) from by omega) (show (k + 1) ≤ 2 from by omega) (show (2 - (k + 1)) < (d : Int) from by omega) (Eq.trans (by rw [v_fillsBlocked_132]; rw [if_neg e1, if_neg e3, if_pos e6]) hvr) (Eq.trans (by rw [s_fillsBlocked_132]; rw [if_neg e1, if_neg e3, if_pos e6]) hsr))
          · refine ⟨_, hm_oi hx, aR (A 14), rfl, ?_⟩
            refine ⟨6, _, (ν 14 (((3 * s) + 1) + k).toNat), hm_a hx 14 rfl, by omega, rfl, ?_⟩
            have t7 := (show -1 ≤ ν 14 (((3 * s) + 1) + k).toNat ∧ ν 14 (((3 * s) + 1) + k).toNat ≤ 4611686018427387903 from hV.g 14 (((3 * s) + 1) + k).toNat)
            refine ⟨_, hm_oi hx, aR (A 7), rfl, ?_⟩
            refine ⟨6, _, (ν 7 (((3 * s) + 1) + k).toNat), hm_a hx 7 rfl, by omega, rfl, ?_⟩
            refine ⟨by omega, fun (e8 : (ν 14 (((3 * s) + 1) + k).toNat) = (ν 7 (((3 * s) + 1) + k).toNat)) => ?_, fun (e8 : ¬ ((ν 14 (((3 * s) + 1) + k).toNat) = (ν 7 (((3 * s) + 1) + k).toNat))) => ?_⟩
            · exact mi_Wsub (List.forall_mem_cons.mpr ⟨(.head _), List.forall_mem_cons.mpr ⟨(.tail _ (.tail _ (.head _))), List.forall_mem_cons.mpr ⟨(.tail _ (.tail _ (.tail _ (.head _)))), List.forall_mem_cons.mpr ⟨(.tail _ (.tail _ (.tail _ (.tail _ (.head _))))), fun _ h => absurd h List.not_mem_nil⟩⟩⟩⟩) (ih (k + 1) ν hV (show 0 ≤ (k + 1) from by omega) (show (k + 1) ≤ 2 from by omega) (show (2 - (k + 1)) < (d : Int) from by omega) (Eq.trans (by rw [v_fillsBlocked_132]; rw [if_neg e1, if_neg e3, if_neg e6, if_pos e8]) hvr) (Eq.trans (by rw [s_fillsBlocked_132]; rw [if_neg e1, if_neg e3, if_neg e6, if_pos e8]) hsr))
            · refine ⟨_, hm_oi hx, aR (A 7), rfl, ?_⟩
              refine ⟨6, _, (ν 7 (((3 * s) + 1) + k).toNat), hm_a hx 7 rfl, by omega, rfl, ?_⟩
              refine ⟨0, rfl, ?_⟩
              refine ⟨0, rfl, ?_⟩
              refine ⟨⟨_, hm_oi hx⟩, _, _, _, _, (m_lays hF htr hx hV (t := (22 + k)) (a := (ν 7 (((3 * s) + 1) + k).toNat)) (b := 0) (c := 0) (r := r) (by omega) (by omega) (by omega) (by omega) (by omega) (by omega) (by omega) (by omega) (by omega) (by omega)), Nat.le_refl _, Nat.le_refl _, mkis_ (r := some (aI (v_lays ν (22 + k) (ν 7 (((3 * s) + 1) + k).toNat) 0 0 r))) (fun ⟨hV9, hp10⟩ => ?_), fun _ _ q => q.elim⟩
              have t11 := v_lays_b ν (22 + k) (ν 7 (((3 * s) + 1) + k).toNat) 0 0 r
              have hp10 : ((v_lays ν (22 + k) (ν 7 (((3 * s) + 1) + k).toNat) 0 0 r) = 0 ∨ (v_lays ν (22 + k) (ν 7 (((3 * s) + 1) + k).toNat) 0 0 r) = 1) ∧ (s_lays ν (22 + k) (ν 7 (((3 * s) + 1) + k).toNat) 0 0 r) 49 0 = 0 ∧ (s_lays ν (22 + k) (ν 7 (((3 * s) + 1) + k).toNat) 0 0 r) 45 0 = (22 + k) ∧ (s_lays ν (22 + k) (ν 7 (((3 * s) + 1) + k).toNat) 0 0 r) 46 0 = (ν 7 (((3 * s) + 1) + k).toNat) := hp10
              refine ⟨by omega, fun (e12 : (v_lays ν (22 + k) (ν 7 (((3 * s) + 1) + k).toNat) 0 0 r) = 0) => ?_, fun (e12 : ¬ ((v_lays ν (22 + k) (ν 7 (((3 * s) + 1) + k).toNat) 0 0 r) = 0)) => ?_⟩
              · exact mi_Wsub (List.forall_mem_cons.mpr ⟨(.head _), List.forall_mem_cons.mpr ⟨(.tail _ (.tail _ (.head _))), List.forall_mem_cons.mpr ⟨(.tail _ (.tail _ (.tail _ (.head _)))), List.forall_mem_cons.mpr ⟨(.tail _ (.tail _ (.tail _ (.tail _ (.head _))))), fun _ h => absurd h List.not_mem_nil⟩⟩⟩⟩) (ih (k + 1) (s_lays ν (22 + k) (ν 7 (((3 * s) + 1) + k).toNat) 0 0 r) hV9 (show 0 ≤ (k + 1) from by omega) (show (k + 1) ≤ 2 from by omega) (show (2 - (k + 1)) < (d : Int) from by omega) (Eq.trans (by rw [v_fillsBlocked_132]; rw [if_neg e1, if_neg e3, if_neg e6, if_neg e8, if_pos e12]) hvr) (Eq.trans (by rw [s_fillsBlocked_132]; rw [if_neg e1, if_neg e3, if_neg e6, if_neg e8, if_pos e12]) hsr))
              · refine ⟨_, hm_oi hx, aR (A 14), rfl, ?_⟩
                refine ⟨_, hm_oi hx, aR (A 7), rfl, ?_⟩
                refine ⟨6, _, (ν 7 (((3 * s) + 1) + k).toNat), hm_a hx 7 rfl, by omega, (s_lays_fr (by decide)), ?_⟩
                refine ⟨6, _, _, hm_a hx 14 rfl, by omega, hm_pl hx (i := (((3 * s) + 1) + k).toNat) (v := (ν 7 (((3 * s) + 1) + k).toNat)) rfl rfl rfl, ?_⟩
                have hV13 := hV9.u (f := 14) (k := (((3 * s) + 1) + k).toNat) (v := (ν 7 (((3 * s) + 1) + k).toNat)) (show -1 ≤ (ν 7 (((3 * s) + 1) + k).toNat) ∧ (ν 7 (((3 * s) + 1) + k).toNat) ≤ 4611686018427387903 from by omega)
                exact ⟨(Or.inr rfl), mRetIP (P := fun r m => (r = 0 ∨ r = 1) ∧ (r = 1 → m 49 0 = 0 ∧ (((m 45 0 = 4 ∨ m 45 0 = 5 ∨ m 45 0 = 17 ∨ m 45 0 = 21) ∧ m 46 0 < 256) ∨ m 45 0 = 16 ∨ m 45 0 = 18 ∨ m 45 0 = 19 ∨ m 45 0 = 20 ∨ m 45 0 = 22 ∨ m 45 0 = 23))) (hvr.symm.trans (by rw [v_fillsBlocked_132]; rw [if_neg e1, if_neg e3, if_neg e6, if_neg e8, if_neg e12])) (hsr.symm.trans (by rw [s_fillsBlocked_132]; rw [if_neg e1, if_neg e3, if_neg e6, if_neg e8, if_neg e12])) hV13 (show (1 = 0 ∨ 1 = 1) ∧ (1 = 1 → (u2 (s_lays ν (22 + k) (ν 7 (((3 * s) + 1) + k).toNat) 0 0 r) 14 (((3 * s) + 1) + k).toNat (ν 7 (((3 * s) + 1) + k).toNat)) 49 0 = 0 ∧ ((((u2 (s_lays ν (22 + k) (ν 7 (((3 * s) + 1) + k).toNat) 0 0 r) 14 (((3 * s) + 1) + k).toNat (ν 7 (((3 * s) + 1) + k).toNat)) 45 0 = 4 ∨ (u2 (s_lays ν (22 + k) (ν 7 (((3 * s) + 1) + k).toNat) 0 0 r) 14 (((3 * s) + 1) + k).toNat (ν 7 (((3 * s) + 1) + k).toNat)) 45 0 = 5 ∨ (u2 (s_lays ν (22 + k) (ν 7 (((3 * s) + 1) + k).toNat) 0 0 r) 14 (((3 * s) + 1) + k).toNat (ν 7 (((3 * s) + 1) + k).toNat)) 45 0 = 17 ∨ (u2 (s_lays ν (22 + k) (ν 7 (((3 * s) + 1) + k).toNat) 0 0 r) 14 (((3 * s) + 1) + k).toNat (ν 7 (((3 * s) + 1) + k).toNat)) 45 0 = 21) ∧ (u2 (s_lays ν (22 + k) (ν 7 (((3 * s) + 1) + k).toNat) 0 0 r) 14 (((3 * s) + 1) + k).toNat (ν 7 (((3 * s) + 1) + k).toNat)) 46 0 < 256) ∨ (u2 (s_lays ν (22 + k) (ν 7 (((3 * s) + 1) + k).toNat) 0 0 r) 14 (((3 * s) + 1) + k).toNat (ν 7 (((3 * s) + 1) + k).toNat)) 45 0 = 16 ∨ (u2 (s_lays ν (22 + k) (ν 7 (((3 * s) + 1) + k).toNat) 0 0 r) 14 (((3 * s) + 1) + k).toNat (ν 7 (((3 * s) + 1) + k).toNat)) 45 0 = 18 ∨ (u2 (s_lays ν (22 + k) (ν 7 (((3 * s) + 1) + k).toNat) 0 0 r) 14 (((3 * s) + 1) + k).toNat (ν 7 (((3 * s) + 1) + k).toNat)) 45 0 = 19 ∨ (u2 (s_lays ν (22 + k) (ν 7 (((3 * s) + 1) + k).toNat) 0 0 r) 14 (((3 * s) + 1) + k).toNat (ν 7 (((3 * s) + 1) + k).toNat)) 45 0 = 20 ∨ (u2 (s_lays ν (22 + k) (ν 7 (((3 * s) + 1) + k).toNat) 0 0 r) 14 (((3 * s) + 1) + k).toNat (ν 7 (((3 * s) + 1) + k).toNat)) 45 0 = 22 ∨ (u2 (s_lays ν (22 + k) (ν 7 (((3 * s) + 1) + k).toNat) 0 0 r) 14 (((3 * s) + 1) + k).toNat (ν 7 (((3 * s) + 1) + k).toNat)) 45 0 = 23)) from by have z45 : (u2 (s_lays ν (22 + k) (ν 7 (((3 * s) + 1) + k).toNat) 0 0 r) 14 (((3 * s) + 1) + k).toNat (ν 7 (((3 * s) + 1) + k).toNat)) 45 0 = ((s_lays ν (22 + k) (ν 7 (((3 * s) + 1) + k).toNat) 0 0 r) 45 0) := (u2_f (by decide)); have z46 : (u2 (s_lays ν (22 + k) (ν 7 (((3 * s) + 1) + k).toNat) 0 0 r) 14 (((3 * s) + 1) + k).toNat (ν 7 (((3 * s) + 1) + k).toNat)) 46 0 = ((s_lays ν (22 + k) (ν 7 (((3 * s) + 1) + k).toNat) 0 0 r) 46 0) := (u2_f (by decide)); have z49 : (u2 (s_lays ν (22 + k) (ν 7 (((3 * s) + 1) + k).toNat) 0 0 r) 14 (((3 * s) + 1) + k).toNat (ν 7 (((3 * s) + 1) + k).toNat)) 49 0 = ((s_lays ν (22 + k) (ν 7 (((3 * s) + 1) + k).toNat) 0 0 r) 49 0) := (u2_f (by decide)); omega), Nat.le_refl _, Nat.le_refl _⟩
  have loop73 : ∀ (R : Int) (S : Nat → Nat → Int) (d : Nat) (k : Int) (ν : Nat → Nat → Int) (hV : mV ν), (0 ≤ k) → (k ≤ 256) → (256 - k) < (d : Int) → v_fillsBlocked_73 μ s r d k ν = R → s_fillsBlocked_73 μ s r d k ν = S → mi_W L G MX6_fillsBlocked 0 0 (mRetS (some (.int (iI R))) (hm G A ax h0 S) (mV S ∧ (fun r m => (r = 0 ∨ r = 1) ∧ (r = 1 → m 49 0 = 0 ∧ (((m 45 0 = 4 ∨ m 45 0 = 5 ∨ m 45 0 = 17 ∨ m 45 0 = 21) ∧ m 46 0 < 256) ∨ m 45 0 = 16 ∨ m 45 0 = 18 ∨ m 45 0 = 19 ∨ m 45 0 = 20 ∨ m 45 0 = 22 ∨ m 45 0 = 23))) R S)) mm_no θ 73 [(4, aI k), (0, aR (A 99)), (1, aI s), (2, aI r)] [] (hm G A ax h0 ν) 0 0 := by
    intro R S d
    induction d with
    | zero =>
      intro k ν hV hi1 hi2 hms hvr hsr
      omega
    | succ d ih =>
      intro k ν hV hi1 hi2 hms hvr hsr
      refine mi_sound hc okX6_fillsBlocked 400 _ _ _ _ _ _ ?_
      refine ⟨by omega, fun (e14 : 256 ≤ k) => ?_, fun (e14 : ¬ (256 ≤ k)) => ?_⟩
      · exact mi_Wsub (List.forall_mem_cons.mpr ⟨(.head _), List.forall_mem_cons.mpr ⟨(.tail _ (.head _)), List.forall_mem_cons.mpr ⟨(.tail _ (.tail _ (.head _))), List.forall_mem_cons.mpr ⟨(.tail _ (.tail _ (.tail _ (.head _)))), fun _ h => absurd h List.not_mem_nil⟩⟩⟩⟩) (loop132 _ _ 3 0 ν hV (show 0 ≤ 0 from by omega) (show 0 ≤ 2 from by omega) (show (2 - 0) < (3 : Int) from by omega) (Eq.trans (by rw [v_fillsBlocked_73]; rw [if_pos e14]) hvr) (Eq.trans (by rw [s_fillsBlocked_73]; rw [if_pos e14]) hsr))
      · refine ⟨_, _, _, _, (m_at hF htr (s := s) (i := k)), Nat.le_refl _, Nat.le_refl _, mki_ (r := some (aI ((256 * s) + k))) ?_, fun _ _ q => q.elim⟩
        refine ⟨⟨_, hm_oi hx⟩, _, _, _, _, (m_waits hF htr hx hV (s := s) (i := k) (by omega) (by omega) (by omega) (by omega)), Nat.le_refl _, Nat.le_refl _, mki_ (r := some (aI (v_waits ν s k))) ?_, fun _ _ q => q.elim⟩
        have t15 := v_waits_b ν s k
        refine ⟨by omega, fun (e16 : (v_waits ν s k) = 0) => ?_, fun (e16 : ¬ ((v_waits ν s k) = 0)) => ?_⟩
        · exact mi_Wsub (List.forall_mem_cons.mpr ⟨(.head _), List.forall_mem_cons.mpr ⟨(.tail _ (.tail _ (.head _))), List.forall_mem_cons.mpr ⟨(.tail _ (.tail _ (.tail _ (.head _)))), List.forall_mem_cons.mpr ⟨(.tail _ (.tail _ (.tail _ (.tail _ (.head _))))), fun _ h => absurd h List.not_mem_nil⟩⟩⟩⟩) (ih (k + 1) ν hV (show 0 ≤ (k + 1) from by omega) (show (k + 1) ≤ 256 from by omega) (show (256 - (k + 1)) < (d : Int) from by omega) (Eq.trans (by rw [v_fillsBlocked_73]; rw [if_neg e14, if_pos e16]) hvr) (Eq.trans (by rw [s_fillsBlocked_73]; rw [if_neg e14, if_pos e16]) hsr))
        · refine ⟨⟨_, hm_oi hx⟩, _, _, _, _, (m_sent hF htr hx hV.T hV.N (s := s) (i := k) (by omega) (by omega) (by omega) (by omega)), Nat.le_refl _, Nat.le_refl _, mki_ (r := some (aI (mCnt ν s k (-2) (mTot ν s)))) ?_, fun _ _ q => q.elim⟩
          have t17 := hV.cnt (s := s) k (-2) (by omega) (by omega)
          refine ⟨by omega, ?_⟩
          refine ⟨_, hm_oi hx, aR (A 18), rfl, ?_⟩
          refine ⟨512, _, (ν 18 (mj s k)), hm_a hx 18 rfl, by omega, rfl, ?_⟩
          have t18 := (show 0 ≤ ν 18 (mj s k) ∧ ν 18 (mj s k) ≤ 4611686018427387903 from hV.g 18 (mj s k))
          refine ⟨by omega, fun (e19 : ¬ ((mCnt ν s k (-2) (mTot ν s)) = (ν 18 (mj s k)))) => ?_, fun (e19 : (mCnt ν s k (-2) (mTot ν s)) = (ν 18 (mj s k))) => ?_⟩
          · exact mi_Wsub (List.forall_mem_cons.mpr ⟨(.head _), List.forall_mem_cons.mpr ⟨(.tail _ (.tail _ (.head _))), List.forall_mem_cons.mpr ⟨(.tail _ (.tail _ (.tail _ (.head _)))), List.forall_mem_cons.mpr ⟨(.tail _ (.tail _ (.tail _ (.tail _ (.head _))))), fun _ h => absurd h List.not_mem_nil⟩⟩⟩⟩) (ih (k + 1) ν hV (show 0 ≤ (k + 1) from by omega) (show (k + 1) ≤ 256 from by omega) (show (256 - (k + 1)) < (d : Int) from by omega) (Eq.trans (by rw [v_fillsBlocked_73]; rw [if_neg e14, if_neg e16, if_neg e19]) hvr) (Eq.trans (by rw [s_fillsBlocked_73]; rw [if_neg e14, if_neg e16, if_neg e19]) hsr))
          · refine ⟨_, hm_oi hx, aR (A 24), rfl, ?_⟩
            refine ⟨512, _, (ν 24 (mj s k)), hm_a hx 24 rfl, by omega, rfl, ?_⟩
            have t20 := (show -1 ≤ ν 24 (mj s k) ∧ ν 24 (mj s k) ≤ 4611686018427387903 from hV.g 24 (mj s k))
            refine ⟨_, hm_oi hx, aR (A 18), rfl, ?_⟩
            refine ⟨512, _, (ν 18 (mj s k)), hm_a hx 18 rfl, by omega, rfl, ?_⟩
            refine ⟨by omega, fun (e21 : (ν 24 (mj s k)) = (ν 18 (mj s k))) => ?_, fun (e21 : ¬ ((ν 24 (mj s k)) = (ν 18 (mj s k)))) => ?_⟩
            · exact mi_Wsub (List.forall_mem_cons.mpr ⟨(.head _), List.forall_mem_cons.mpr ⟨(.tail _ (.tail _ (.head _))), List.forall_mem_cons.mpr ⟨(.tail _ (.tail _ (.tail _ (.head _)))), List.forall_mem_cons.mpr ⟨(.tail _ (.tail _ (.tail _ (.tail _ (.head _))))), fun _ h => absurd h List.not_mem_nil⟩⟩⟩⟩) (ih (k + 1) ν hV (show 0 ≤ (k + 1) from by omega) (show (k + 1) ≤ 256 from by omega) (show (256 - (k + 1)) < (d : Int) from by omega) (Eq.trans (by rw [v_fillsBlocked_73]; rw [if_neg e14, if_neg e16, if_pos e19, if_pos e21]) hvr) (Eq.trans (by rw [s_fillsBlocked_73]; rw [if_neg e14, if_neg e16, if_pos e19, if_pos e21]) hsr))
            · refine ⟨by omega, ?_⟩
              refine ⟨_, hm_oi hx, aR (A 18), rfl, ?_⟩
              refine ⟨512, _, (ν 18 (mj s k)), hm_a hx 18 rfl, by omega, rfl, ?_⟩
              refine ⟨0, rfl, ?_⟩
              refine ⟨⟨_, hm_oi hx⟩, _, _, _, _, (m_lays hF htr hx hV (t := 21) (a := k) (b := (ν 18 (mj s k))) (c := 0) (r := r) (by omega) (by omega) (by omega) (by omega) (by omega) (by omega) (by omega) (by omega) (by omega) (by omega)), Nat.le_refl _, Nat.le_refl _, mkis_ (r := some (aI (v_lays ν 21 k (ν 18 (mj s k)) 0 r))) (fun ⟨hV22, hp23⟩ => ?_), fun _ _ q => q.elim⟩
              have t24 := v_lays_b ν 21 k (ν 18 (mj s k)) 0 r
              have hp23 : ((v_lays ν 21 k (ν 18 (mj s k)) 0 r) = 0 ∨ (v_lays ν 21 k (ν 18 (mj s k)) 0 r) = 1) ∧ (s_lays ν 21 k (ν 18 (mj s k)) 0 r) 49 0 = 0 ∧ (s_lays ν 21 k (ν 18 (mj s k)) 0 r) 45 0 = 21 ∧ (s_lays ν 21 k (ν 18 (mj s k)) 0 r) 46 0 = k := hp23
              refine ⟨by omega, fun (e25 : (v_lays ν 21 k (ν 18 (mj s k)) 0 r) = 0) => ?_, fun (e25 : ¬ ((v_lays ν 21 k (ν 18 (mj s k)) 0 r) = 0)) => ?_⟩
              · exact mi_Wsub (List.forall_mem_cons.mpr ⟨(.head _), List.forall_mem_cons.mpr ⟨(.tail _ (.tail _ (.head _))), List.forall_mem_cons.mpr ⟨(.tail _ (.tail _ (.tail _ (.head _)))), List.forall_mem_cons.mpr ⟨(.tail _ (.tail _ (.tail _ (.tail _ (.head _))))), fun _ h => absurd h List.not_mem_nil⟩⟩⟩⟩) (ih (k + 1) (s_lays ν 21 k (ν 18 (mj s k)) 0 r) hV22 (show 0 ≤ (k + 1) from by omega) (show (k + 1) ≤ 256 from by omega) (show (256 - (k + 1)) < (d : Int) from by omega) (Eq.trans (by rw [v_fillsBlocked_73]; rw [if_neg e14, if_neg e16, if_pos e19, if_neg e21, if_pos e25]) hvr) (Eq.trans (by rw [s_fillsBlocked_73]; rw [if_neg e14, if_neg e16, if_pos e19, if_neg e21, if_pos e25]) hsr))
              · refine ⟨_, hm_oi hx, aR (A 24), rfl, ?_⟩
                refine ⟨_, hm_oi hx, aR (A 18), rfl, ?_⟩
                refine ⟨512, _, (ν 18 (mj s k)), hm_a hx 18 rfl, by omega, (s_lays_fr (by decide)), ?_⟩
                refine ⟨512, _, _, hm_a hx 24 rfl, by omega, hm_pl hx (i := (mj s k)) (v := (ν 18 (mj s k))) rfl rfl rfl, ?_⟩
                have hV26 := hV22.u (f := 24) (k := (mj s k)) (v := (ν 18 (mj s k))) (show -1 ≤ (ν 18 (mj s k)) ∧ (ν 18 (mj s k)) ≤ 4611686018427387903 from by omega)
                exact ⟨(Or.inr rfl), mRetIP (P := fun r m => (r = 0 ∨ r = 1) ∧ (r = 1 → m 49 0 = 0 ∧ (((m 45 0 = 4 ∨ m 45 0 = 5 ∨ m 45 0 = 17 ∨ m 45 0 = 21) ∧ m 46 0 < 256) ∨ m 45 0 = 16 ∨ m 45 0 = 18 ∨ m 45 0 = 19 ∨ m 45 0 = 20 ∨ m 45 0 = 22 ∨ m 45 0 = 23))) (hvr.symm.trans (by rw [v_fillsBlocked_73]; rw [if_neg e14, if_neg e16, if_pos e19, if_neg e21, if_neg e25])) (hsr.symm.trans (by rw [s_fillsBlocked_73]; rw [if_neg e14, if_neg e16, if_pos e19, if_neg e21, if_neg e25])) hV26 (show (1 = 0 ∨ 1 = 1) ∧ (1 = 1 → (u2 (s_lays ν 21 k (ν 18 (mj s k)) 0 r) 24 (mj s k) (ν 18 (mj s k))) 49 0 = 0 ∧ ((((u2 (s_lays ν 21 k (ν 18 (mj s k)) 0 r) 24 (mj s k) (ν 18 (mj s k))) 45 0 = 4 ∨ (u2 (s_lays ν 21 k (ν 18 (mj s k)) 0 r) 24 (mj s k) (ν 18 (mj s k))) 45 0 = 5 ∨ (u2 (s_lays ν 21 k (ν 18 (mj s k)) 0 r) 24 (mj s k) (ν 18 (mj s k))) 45 0 = 17 ∨ (u2 (s_lays ν 21 k (ν 18 (mj s k)) 0 r) 24 (mj s k) (ν 18 (mj s k))) 45 0 = 21) ∧ (u2 (s_lays ν 21 k (ν 18 (mj s k)) 0 r) 24 (mj s k) (ν 18 (mj s k))) 46 0 < 256) ∨ (u2 (s_lays ν 21 k (ν 18 (mj s k)) 0 r) 24 (mj s k) (ν 18 (mj s k))) 45 0 = 16 ∨ (u2 (s_lays ν 21 k (ν 18 (mj s k)) 0 r) 24 (mj s k) (ν 18 (mj s k))) 45 0 = 18 ∨ (u2 (s_lays ν 21 k (ν 18 (mj s k)) 0 r) 24 (mj s k) (ν 18 (mj s k))) 45 0 = 19 ∨ (u2 (s_lays ν 21 k (ν 18 (mj s k)) 0 r) 24 (mj s k) (ν 18 (mj s k))) 45 0 = 20 ∨ (u2 (s_lays ν 21 k (ν 18 (mj s k)) 0 r) 24 (mj s k) (ν 18 (mj s k))) 45 0 = 22 ∨ (u2 (s_lays ν 21 k (ν 18 (mj s k)) 0 r) 24 (mj s k) (ν 18 (mj s k))) 45 0 = 23)) from by have z45 : (u2 (s_lays ν 21 k (ν 18 (mj s k)) 0 r) 24 (mj s k) (ν 18 (mj s k))) 45 0 = ((s_lays ν 21 k (ν 18 (mj s k)) 0 r) 45 0) := (u2_f (by decide)); have z46 : (u2 (s_lays ν 21 k (ν 18 (mj s k)) 0 r) 24 (mj s k) (ν 18 (mj s k))) 46 0 = ((s_lays ν 21 k (ν 18 (mj s k)) 0 r) 46 0) := (u2_f (by decide)); have z49 : (u2 (s_lays ν 21 k (ν 18 (mj s k)) 0 r) 24 (mj s k) (ν 18 (mj s k))) 49 0 = ((s_lays ν 21 k (ν 18 (mj s k)) 0 r) 49 0) := (u2_f (by decide)); omega), Nat.le_refl _, Nat.le_refl _⟩
  have loop4 : ∀ (R : Int) (S : Nat → Nat → Int) (d : Nat) (k b : Int), (b = 0 ∨ b = 1) → (0 ≤ k) → (k ≤ 256) → (256 - k) < (d : Int) → v_fillsBlocked_4 μ s r d k b = R → s_fillsBlocked_4 μ s r d k b = S → mi_W L G MX6_fillsBlocked 0 0 (mRetS (some (.int (iI R))) (hm G A ax h0 S) (mV S ∧ (fun r m => (r = 0 ∨ r = 1) ∧ (r = 1 → m 49 0 = 0 ∧ (((m 45 0 = 4 ∨ m 45 0 = 5 ∨ m 45 0 = 17 ∨ m 45 0 = 21) ∧ m 46 0 < 256) ∨ m 45 0 = 16 ∨ m 45 0 = 18 ∨ m 45 0 = 19 ∨ m 45 0 = 20 ∨ m 45 0 = 22 ∨ m 45 0 = 23))) R S)) mm_no θ 4 [(4, aI k), (3, aI b), (0, aR (A 99)), (1, aI s), (2, aI r)] [] (hm G A ax h0 μ) 0 0 := by
    intro R S d
    induction d with
    | zero =>
      intro k b hi0 hi1 hi2 hms hvr hsr
      omega
    | succ d ih =>
      intro k b hi0 hi1 hi2 hms hvr hsr
      refine mi_sound hc okX6_fillsBlocked 400 _ _ _ _ _ _ ?_
      refine ⟨by omega, fun (e27 : 256 ≤ k) => ?_, fun (e27 : ¬ (256 ≤ k)) => ?_⟩
      · refine ⟨by omega, fun (e28 : b = 0) => ?_, fun (e28 : ¬ (b = 0)) => ?_⟩
        · exact mi_Wsub (List.forall_mem_cons.mpr ⟨(.head _), List.forall_mem_cons.mpr ⟨(.tail _ (.tail _ (.head _))), List.forall_mem_cons.mpr ⟨(.tail _ (.tail _ (.tail _ (.head _)))), List.forall_mem_cons.mpr ⟨(.tail _ (.tail _ (.tail _ (.tail _ (.head _))))), fun _ h => absurd h List.not_mem_nil⟩⟩⟩⟩) (loop73 _ _ 257 0 μ hV (show 0 ≤ 0 from by omega) (show 0 ≤ 256 from by omega) (show (256 - 0) < (257 : Int) from by omega) (Eq.trans (by rw [v_fillsBlocked_4]; rw [if_pos e27, if_pos e28]) hvr) (Eq.trans (by rw [s_fillsBlocked_4]; rw [if_pos e27, if_pos e28]) hsr))
        · refine ⟨⟨_, hm_oi hx⟩, _, _, _, _, (m_allSent hF htr hx hV.T hV.N (s := s) (by omega) (by omega)), Nat.le_refl _, Nat.le_refl _, mki_ (r := some (aI (mAll μ s (mTot μ s)))) ?_, fun _ _ q => q.elim⟩
          have t29 := hV.all (s := s) (by omega) (by omega)
          refine ⟨by omega, ?_⟩
          refine ⟨_, hm_oi hx, aR (A 7), rfl, ?_⟩
          refine ⟨6, _, (μ 7 (3 * s).toNat), hm_a hx 7 rfl, by omega, rfl, ?_⟩
          have t30 := (show 0 ≤ μ 7 (3 * s).toNat ∧ μ 7 (3 * s).toNat ≤ 4611686018427387903 from hV.g 7 (3 * s).toNat)
          refine ⟨by omega, fun (e31 : ¬ ((mAll μ s (mTot μ s)) = (μ 7 (3 * s).toNat))) => ?_, fun (e31 : (mAll μ s (mTot μ s)) = (μ 7 (3 * s).toNat)) => ?_⟩
          · exact mi_Wsub (List.forall_mem_cons.mpr ⟨(.head _), List.forall_mem_cons.mpr ⟨(.tail _ (.tail _ (.head _))), List.forall_mem_cons.mpr ⟨(.tail _ (.tail _ (.tail _ (.head _)))), List.forall_mem_cons.mpr ⟨(.tail _ (.tail _ (.tail _ (.tail _ (.head _))))), fun _ h => absurd h List.not_mem_nil⟩⟩⟩⟩) (loop73 _ _ 257 0 μ hV (show 0 ≤ 0 from by omega) (show 0 ≤ 256 from by omega) (show (256 - 0) < (257 : Int) from by omega) (Eq.trans (by rw [v_fillsBlocked_4]; rw [if_pos e27, if_neg e28, if_neg e31]) hvr) (Eq.trans (by rw [s_fillsBlocked_4]; rw [if_pos e27, if_neg e28, if_neg e31]) hsr))
          · refine ⟨_, hm_oi hx, aR (A 14), rfl, ?_⟩
            refine ⟨6, _, (μ 14 (3 * s).toNat), hm_a hx 14 rfl, by omega, rfl, ?_⟩
            have t32 := (show -1 ≤ μ 14 (3 * s).toNat ∧ μ 14 (3 * s).toNat ≤ 4611686018427387903 from hV.g 14 (3 * s).toNat)
            refine ⟨_, hm_oi hx, aR (A 7), rfl, ?_⟩
            refine ⟨6, _, (μ 7 (3 * s).toNat), hm_a hx 7 rfl, by omega, rfl, ?_⟩
            refine ⟨by omega, fun (e33 : (μ 14 (3 * s).toNat) = (μ 7 (3 * s).toNat)) => ?_, fun (e33 : ¬ ((μ 14 (3 * s).toNat) = (μ 7 (3 * s).toNat))) => ?_⟩
            · exact mi_Wsub (List.forall_mem_cons.mpr ⟨(.head _), List.forall_mem_cons.mpr ⟨(.tail _ (.tail _ (.head _))), List.forall_mem_cons.mpr ⟨(.tail _ (.tail _ (.tail _ (.head _)))), List.forall_mem_cons.mpr ⟨(.tail _ (.tail _ (.tail _ (.tail _ (.head _))))), fun _ h => absurd h List.not_mem_nil⟩⟩⟩⟩) (loop73 _ _ 257 0 μ hV (show 0 ≤ 0 from by omega) (show 0 ≤ 256 from by omega) (show (256 - 0) < (257 : Int) from by omega) (Eq.trans (by rw [v_fillsBlocked_4]; rw [if_pos e27, if_neg e28, if_pos e31, if_pos e33]) hvr) (Eq.trans (by rw [s_fillsBlocked_4]; rw [if_pos e27, if_neg e28, if_pos e31, if_pos e33]) hsr))
            · refine ⟨_, hm_oi hx, aR (A 7), rfl, ?_⟩
              refine ⟨6, _, (μ 7 (3 * s).toNat), hm_a hx 7 rfl, by omega, rfl, ?_⟩
              refine ⟨0, rfl, ?_⟩
              refine ⟨0, rfl, ?_⟩
              refine ⟨⟨_, hm_oi hx⟩, _, _, _, _, (m_lays hF htr hx hV (t := 20) (a := (μ 7 (3 * s).toNat)) (b := 0) (c := 0) (r := r) (by omega) (by omega) (by omega) (by omega) (by omega) (by omega) (by omega) (by omega) (by omega) (by omega)), Nat.le_refl _, Nat.le_refl _, mkis_ (r := some (aI (v_lays μ 20 (μ 7 (3 * s).toNat) 0 0 r))) (fun ⟨hV34, hp35⟩ => ?_), fun _ _ q => q.elim⟩
              have t36 := v_lays_b μ 20 (μ 7 (3 * s).toNat) 0 0 r
              have hp35 : ((v_lays μ 20 (μ 7 (3 * s).toNat) 0 0 r) = 0 ∨ (v_lays μ 20 (μ 7 (3 * s).toNat) 0 0 r) = 1) ∧ (s_lays μ 20 (μ 7 (3 * s).toNat) 0 0 r) 49 0 = 0 ∧ (s_lays μ 20 (μ 7 (3 * s).toNat) 0 0 r) 45 0 = 20 ∧ (s_lays μ 20 (μ 7 (3 * s).toNat) 0 0 r) 46 0 = (μ 7 (3 * s).toNat) := hp35
              refine ⟨by omega, fun (e37 : (v_lays μ 20 (μ 7 (3 * s).toNat) 0 0 r) = 0) => ?_, fun (e37 : ¬ ((v_lays μ 20 (μ 7 (3 * s).toNat) 0 0 r) = 0)) => ?_⟩
              · exact mi_Wsub (List.forall_mem_cons.mpr ⟨(.head _), List.forall_mem_cons.mpr ⟨(.tail _ (.tail _ (.head _))), List.forall_mem_cons.mpr ⟨(.tail _ (.tail _ (.tail _ (.head _)))), List.forall_mem_cons.mpr ⟨(.tail _ (.tail _ (.tail _ (.tail _ (.head _))))), fun _ h => absurd h List.not_mem_nil⟩⟩⟩⟩) (loop73 _ _ 257 0 (s_lays μ 20 (μ 7 (3 * s).toNat) 0 0 r) hV34 (show 0 ≤ 0 from by omega) (show 0 ≤ 256 from by omega) (show (256 - 0) < (257 : Int) from by omega) (Eq.trans (by rw [v_fillsBlocked_4]; rw [if_pos e27, if_neg e28, if_pos e31, if_neg e33, if_pos e37]) hvr) (Eq.trans (by rw [s_fillsBlocked_4]; rw [if_pos e27, if_neg e28, if_pos e31, if_neg e33, if_pos e37]) hsr))
              · refine ⟨_, hm_oi hx, aR (A 14), rfl, ?_⟩
                refine ⟨_, hm_oi hx, aR (A 7), rfl, ?_⟩
                refine ⟨6, _, (μ 7 (3 * s).toNat), hm_a hx 7 rfl, by omega, (s_lays_fr (by decide)), ?_⟩
                refine ⟨6, _, _, hm_a hx 14 rfl, by omega, hm_pl hx (i := (3 * s).toNat) (v := (μ 7 (3 * s).toNat)) rfl rfl rfl, ?_⟩
                have hV38 := hV34.u (f := 14) (k := (3 * s).toNat) (v := (μ 7 (3 * s).toNat)) (show -1 ≤ (μ 7 (3 * s).toNat) ∧ (μ 7 (3 * s).toNat) ≤ 4611686018427387903 from by omega)
                exact ⟨(Or.inr rfl), mRetIP (P := fun r m => (r = 0 ∨ r = 1) ∧ (r = 1 → m 49 0 = 0 ∧ (((m 45 0 = 4 ∨ m 45 0 = 5 ∨ m 45 0 = 17 ∨ m 45 0 = 21) ∧ m 46 0 < 256) ∨ m 45 0 = 16 ∨ m 45 0 = 18 ∨ m 45 0 = 19 ∨ m 45 0 = 20 ∨ m 45 0 = 22 ∨ m 45 0 = 23))) (hvr.symm.trans (by rw [v_fillsBlocked_4]; rw [if_pos e27, if_neg e28, if_pos e31, if_neg e33, if_neg e37])) (hsr.symm.trans (by rw [s_fillsBlocked_4]; rw [if_pos e27, if_neg e28, if_pos e31, if_neg e33, if_neg e37])) hV38 (show (1 = 0 ∨ 1 = 1) ∧ (1 = 1 → (u2 (s_lays μ 20 (μ 7 (3 * s).toNat) 0 0 r) 14 (3 * s).toNat (μ 7 (3 * s).toNat)) 49 0 = 0 ∧ ((((u2 (s_lays μ 20 (μ 7 (3 * s).toNat) 0 0 r) 14 (3 * s).toNat (μ 7 (3 * s).toNat)) 45 0 = 4 ∨ (u2 (s_lays μ 20 (μ 7 (3 * s).toNat) 0 0 r) 14 (3 * s).toNat (μ 7 (3 * s).toNat)) 45 0 = 5 ∨ (u2 (s_lays μ 20 (μ 7 (3 * s).toNat) 0 0 r) 14 (3 * s).toNat (μ 7 (3 * s).toNat)) 45 0 = 17 ∨ (u2 (s_lays μ 20 (μ 7 (3 * s).toNat) 0 0 r) 14 (3 * s).toNat (μ 7 (3 * s).toNat)) 45 0 = 21) ∧ (u2 (s_lays μ 20 (μ 7 (3 * s).toNat) 0 0 r) 14 (3 * s).toNat (μ 7 (3 * s).toNat)) 46 0 < 256) ∨ (u2 (s_lays μ 20 (μ 7 (3 * s).toNat) 0 0 r) 14 (3 * s).toNat (μ 7 (3 * s).toNat)) 45 0 = 16 ∨ (u2 (s_lays μ 20 (μ 7 (3 * s).toNat) 0 0 r) 14 (3 * s).toNat (μ 7 (3 * s).toNat)) 45 0 = 18 ∨ (u2 (s_lays μ 20 (μ 7 (3 * s).toNat) 0 0 r) 14 (3 * s).toNat (μ 7 (3 * s).toNat)) 45 0 = 19 ∨ (u2 (s_lays μ 20 (μ 7 (3 * s).toNat) 0 0 r) 14 (3 * s).toNat (μ 7 (3 * s).toNat)) 45 0 = 20 ∨ (u2 (s_lays μ 20 (μ 7 (3 * s).toNat) 0 0 r) 14 (3 * s).toNat (μ 7 (3 * s).toNat)) 45 0 = 22 ∨ (u2 (s_lays μ 20 (μ 7 (3 * s).toNat) 0 0 r) 14 (3 * s).toNat (μ 7 (3 * s).toNat)) 45 0 = 23)) from by have z45 : (u2 (s_lays μ 20 (μ 7 (3 * s).toNat) 0 0 r) 14 (3 * s).toNat (μ 7 (3 * s).toNat)) 45 0 = ((s_lays μ 20 (μ 7 (3 * s).toNat) 0 0 r) 45 0) := (u2_f (by decide)); have z46 : (u2 (s_lays μ 20 (μ 7 (3 * s).toNat) 0 0 r) 14 (3 * s).toNat (μ 7 (3 * s).toNat)) 46 0 = ((s_lays μ 20 (μ 7 (3 * s).toNat) 0 0 r) 46 0) := (u2_f (by decide)); have z49 : (u2 (s_lays μ 20 (μ 7 (3 * s).toNat) 0 0 r) 14 (3 * s).toNat (μ 7 (3 * s).toNat)) 49 0 = ((s_lays μ 20 (μ 7 (3 * s).toNat) 0 0 r) 49 0) := (u2_f (by decide)); omega), Nat.le_refl _, Nat.le_refl _⟩
      · refine ⟨by omega, fun (e39 : ¬ (b = 0)) => ?_, fun (e39 : b = 0) => ?_⟩
        · refine ⟨by omega, fun (e : b = 0) => absurd e (by omega), fun _ => ?_⟩
          refine ⟨⟨_, hm_oi hx⟩, _, _, _, _, (m_allSent hF htr hx hV.T hV.N (s := s) (by omega) (by omega)), Nat.le_refl _, Nat.le_refl _, mki_ (r := some (aI (mAll μ s (mTot μ s)))) ?_, fun _ _ q => q.elim⟩
          have t41 := hV.all (s := s) (by omega) (by omega)
          refine ⟨by omega, ?_⟩
          refine ⟨_, hm_oi hx, aR (A 7), rfl, ?_⟩
          refine ⟨6, _, (μ 7 (3 * s).toNat), hm_a hx 7 rfl, by omega, rfl, ?_⟩
          have t42 := (show 0 ≤ μ 7 (3 * s).toNat ∧ μ 7 (3 * s).toNat ≤ 4611686018427387903 from hV.g 7 (3 * s).toNat)
          refine ⟨by omega, fun (e43 : ¬ ((mAll μ s (mTot μ s)) = (μ 7 (3 * s).toNat))) => ?_, fun (e43 : (mAll μ s (mTot μ s)) = (μ 7 (3 * s).toNat)) => ?_⟩
          · exact mi_Wsub (List.forall_mem_cons.mpr ⟨(.head _), List.forall_mem_cons.mpr ⟨(.tail _ (.tail _ (.head _))), List.forall_mem_cons.mpr ⟨(.tail _ (.tail _ (.tail _ (.head _)))), List.forall_mem_cons.mpr ⟨(.tail _ (.tail _ (.tail _ (.tail _ (.head _))))), fun _ h => absurd h List.not_mem_nil⟩⟩⟩⟩) (loop73 _ _ 257 0 μ hV (show 0 ≤ 0 from by omega) (show 0 ≤ 256 from by omega) (show (256 - 0) < (257 : Int) from by omega) (Eq.trans (by rw [v_fillsBlocked_4]; rw [if_neg e27, if_neg e39, if_neg e43]) hvr) (Eq.trans (by rw [s_fillsBlocked_4]; rw [if_neg e27, if_neg e39, if_neg e43]) hsr))
          · refine ⟨_, hm_oi hx, aR (A 14), rfl, ?_⟩
            refine ⟨6, _, (μ 14 (3 * s).toNat), hm_a hx 14 rfl, by omega, rfl, ?_⟩
            have t44 := (show -1 ≤ μ 14 (3 * s).toNat ∧ μ 14 (3 * s).toNat ≤ 4611686018427387903 from hV.g 14 (3 * s).toNat)
            refine ⟨_, hm_oi hx, aR (A 7), rfl, ?_⟩
            refine ⟨6, _, (μ 7 (3 * s).toNat), hm_a hx 7 rfl, by omega, rfl, ?_⟩
            refine ⟨by omega, fun (e45 : (μ 14 (3 * s).toNat) = (μ 7 (3 * s).toNat)) => ?_, fun (e45 : ¬ ((μ 14 (3 * s).toNat) = (μ 7 (3 * s).toNat))) => ?_⟩
            · exact mi_Wsub (List.forall_mem_cons.mpr ⟨(.head _), List.forall_mem_cons.mpr ⟨(.tail _ (.tail _ (.head _))), List.forall_mem_cons.mpr ⟨(.tail _ (.tail _ (.tail _ (.head _)))), List.forall_mem_cons.mpr ⟨(.tail _ (.tail _ (.tail _ (.tail _ (.head _))))), fun _ h => absurd h List.not_mem_nil⟩⟩⟩⟩) (loop73 _ _ 257 0 μ hV (show 0 ≤ 0 from by omega) (show 0 ≤ 256 from by omega) (show (256 - 0) < (257 : Int) from by omega) (Eq.trans (by rw [v_fillsBlocked_4]; rw [if_neg e27, if_neg e39, if_pos e43, if_pos e45]) hvr) (Eq.trans (by rw [s_fillsBlocked_4]; rw [if_neg e27, if_neg e39, if_pos e43, if_pos e45]) hsr))
            · refine ⟨_, hm_oi hx, aR (A 7), rfl, ?_⟩
              refine ⟨6, _, (μ 7 (3 * s).toNat), hm_a hx 7 rfl, by omega, rfl, ?_⟩
              refine ⟨0, rfl, ?_⟩
              refine ⟨0, rfl, ?_⟩
              refine ⟨⟨_, hm_oi hx⟩, _, _, _, _, (m_lays hF htr hx hV (t := 20) (a := (μ 7 (3 * s).toNat)) (b := 0) (c := 0) (r := r) (by omega) (by omega) (by omega) (by omega) (by omega) (by omega) (by omega) (by omega) (by omega) (by omega)), Nat.le_refl _, Nat.le_refl _, mkis_ (r := some (aI (v_lays μ 20 (μ 7 (3 * s).toNat) 0 0 r))) (fun ⟨hV46, hp47⟩ => ?_), fun _ _ q => q.elim⟩
              have t48 := v_lays_b μ 20 (μ 7 (3 * s).toNat) 0 0 r
              have hp47 : ((v_lays μ 20 (μ 7 (3 * s).toNat) 0 0 r) = 0 ∨ (v_lays μ 20 (μ 7 (3 * s).toNat) 0 0 r) = 1) ∧ (s_lays μ 20 (μ 7 (3 * s).toNat) 0 0 r) 49 0 = 0 ∧ (s_lays μ 20 (μ 7 (3 * s).toNat) 0 0 r) 45 0 = 20 ∧ (s_lays μ 20 (μ 7 (3 * s).toNat) 0 0 r) 46 0 = (μ 7 (3 * s).toNat) := hp47
              refine ⟨by omega, fun (e49 : (v_lays μ 20 (μ 7 (3 * s).toNat) 0 0 r) = 0) => ?_, fun (e49 : ¬ ((v_lays μ 20 (μ 7 (3 * s).toNat) 0 0 r) = 0)) => ?_⟩
              · exact mi_Wsub (List.forall_mem_cons.mpr ⟨(.head _), List.forall_mem_cons.mpr ⟨(.tail _ (.tail _ (.head _))), List.forall_mem_cons.mpr ⟨(.tail _ (.tail _ (.tail _ (.head _)))), List.forall_mem_cons.mpr ⟨(.tail _ (.tail _ (.tail _ (.tail _ (.head _))))), fun _ h => absurd h List.not_mem_nil⟩⟩⟩⟩) (loop73 _ _ 257 0 (s_lays μ 20 (μ 7 (3 * s).toNat) 0 0 r) hV46 (show 0 ≤ 0 from by omega) (show 0 ≤ 256 from by omega) (show (256 - 0) < (257 : Int) from by omega) (Eq.trans (by rw [v_fillsBlocked_4]; rw [if_neg e27, if_neg e39, if_pos e43, if_neg e45, if_pos e49]) hvr) (Eq.trans (by rw [s_fillsBlocked_4]; rw [if_neg e27, if_neg e39, if_pos e43, if_neg e45, if_pos e49]) hsr))
              · refine ⟨_, hm_oi hx, aR (A 14), rfl, ?_⟩
                refine ⟨_, hm_oi hx, aR (A 7), rfl, ?_⟩
                refine ⟨6, _, (μ 7 (3 * s).toNat), hm_a hx 7 rfl, by omega, (s_lays_fr (by decide)), ?_⟩
                refine ⟨6, _, _, hm_a hx 14 rfl, by omega, hm_pl hx (i := (3 * s).toNat) (v := (μ 7 (3 * s).toNat)) rfl rfl rfl, ?_⟩
                have hV50 := hV46.u (f := 14) (k := (3 * s).toNat) (v := (μ 7 (3 * s).toNat)) (show -1 ≤ (μ 7 (3 * s).toNat) ∧ (μ 7 (3 * s).toNat) ≤ 4611686018427387903 from by omega)
                exact ⟨(Or.inr rfl), mRetIP (P := fun r m => (r = 0 ∨ r = 1) ∧ (r = 1 → m 49 0 = 0 ∧ (((m 45 0 = 4 ∨ m 45 0 = 5 ∨ m 45 0 = 17 ∨ m 45 0 = 21) ∧ m 46 0 < 256) ∨ m 45 0 = 16 ∨ m 45 0 = 18 ∨ m 45 0 = 19 ∨ m 45 0 = 20 ∨ m 45 0 = 22 ∨ m 45 0 = 23))) (hvr.symm.trans (by rw [v_fillsBlocked_4]; rw [if_neg e27, if_neg e39, if_pos e43, if_neg e45, if_neg e49])) (hsr.symm.trans (by rw [s_fillsBlocked_4]; rw [if_neg e27, if_neg e39, if_pos e43, if_neg e45, if_neg e49])) hV50 (show (1 = 0 ∨ 1 = 1) ∧ (1 = 1 → (u2 (s_lays μ 20 (μ 7 (3 * s).toNat) 0 0 r) 14 (3 * s).toNat (μ 7 (3 * s).toNat)) 49 0 = 0 ∧ ((((u2 (s_lays μ 20 (μ 7 (3 * s).toNat) 0 0 r) 14 (3 * s).toNat (μ 7 (3 * s).toNat)) 45 0 = 4 ∨ (u2 (s_lays μ 20 (μ 7 (3 * s).toNat) 0 0 r) 14 (3 * s).toNat (μ 7 (3 * s).toNat)) 45 0 = 5 ∨ (u2 (s_lays μ 20 (μ 7 (3 * s).toNat) 0 0 r) 14 (3 * s).toNat (μ 7 (3 * s).toNat)) 45 0 = 17 ∨ (u2 (s_lays μ 20 (μ 7 (3 * s).toNat) 0 0 r) 14 (3 * s).toNat (μ 7 (3 * s).toNat)) 45 0 = 21) ∧ (u2 (s_lays μ 20 (μ 7 (3 * s).toNat) 0 0 r) 14 (3 * s).toNat (μ 7 (3 * s).toNat)) 46 0 < 256) ∨ (u2 (s_lays μ 20 (μ 7 (3 * s).toNat) 0 0 r) 14 (3 * s).toNat (μ 7 (3 * s).toNat)) 45 0 = 16 ∨ (u2 (s_lays μ 20 (μ 7 (3 * s).toNat) 0 0 r) 14 (3 * s).toNat (μ 7 (3 * s).toNat)) 45 0 = 18 ∨ (u2 (s_lays μ 20 (μ 7 (3 * s).toNat) 0 0 r) 14 (3 * s).toNat (μ 7 (3 * s).toNat)) 45 0 = 19 ∨ (u2 (s_lays μ 20 (μ 7 (3 * s).toNat) 0 0 r) 14 (3 * s).toNat (μ 7 (3 * s).toNat)) 45 0 = 20 ∨ (u2 (s_lays μ 20 (μ 7 (3 * s).toNat) 0 0 r) 14 (3 * s).toNat (μ 7 (3 * s).toNat)) 45 0 = 22 ∨ (u2 (s_lays μ 20 (μ 7 (3 * s).toNat) 0 0 r) 14 (3 * s).toNat (μ 7 (3 * s).toNat)) 45 0 = 23)) from by have z45 : (u2 (s_lays μ 20 (μ 7 (3 * s).toNat) 0 0 r) 14 (3 * s).toNat (μ 7 (3 * s).toNat)) 45 0 = ((s_lays μ 20 (μ 7 (3 * s).toNat) 0 0 r) 45 0) := (u2_f (by decide)); have z46 : (u2 (s_lays μ 20 (μ 7 (3 * s).toNat) 0 0 r) 14 (3 * s).toNat (μ 7 (3 * s).toNat)) 46 0 = ((s_lays μ 20 (μ 7 (3 * s).toNat) 0 0 r) 46 0) := (u2_f (by decide)); have z49 : (u2 (s_lays μ 20 (μ 7 (3 * s).toNat) 0 0 r) 14 (3 * s).toNat (μ 7 (3 * s).toNat)) 49 0 = ((s_lays μ 20 (μ 7 (3 * s).toNat) 0 0 r) 49 0) := (u2_f (by decide)); omega), Nat.le_refl _, Nat.le_refl _⟩
        · refine ⟨⟨_, hm_oi hx⟩, _, _, _, _, (m_waits hF htr hx hV (s := s) (i := k) (by omega) (by omega) (by omega) (by omega)), Nat.le_refl _, Nat.le_refl _, mki_ (r := some (aI (v_waits μ s k))) ?_, fun _ _ q => q.elim⟩
          have t51 := v_waits_b μ s k
          exact mi_Wsub (List.forall_mem_cons.mpr ⟨(.head _), List.forall_mem_cons.mpr ⟨(.tail _ (.head _)), List.forall_mem_cons.mpr ⟨(.tail _ (.tail _ (.head _))), List.forall_mem_cons.mpr ⟨(.tail _ (.tail _ (.tail _ (.head _)))), List.forall_mem_cons.mpr ⟨(.tail _ (.tail _ (.tail _ (.tail _ (.head _))))), fun _ h => absurd h List.not_mem_nil⟩⟩⟩⟩⟩) (ih (k + 1) (v_waits μ s k) (by omega) (by omega) (by omega) (by omega) (Eq.trans (by rw [v_fillsBlocked_4]; rw [if_neg e27, if_pos e39]) hvr) (Eq.trans (by rw [s_fillsBlocked_4]; rw [if_neg e27, if_pos e39]) hsr))
  exact mi_Wsub (List.forall_mem_cons.mpr ⟨(.head _), List.forall_mem_cons.mpr ⟨(.tail _ (.head _)), List.forall_mem_cons.mpr ⟨(.tail _ (.tail _ (.head _))), List.forall_mem_cons.mpr ⟨(.tail _ (.tail _ (.tail _ (.head _)))), List.forall_mem_cons.mpr ⟨(.tail _ (.tail _ (.tail _ (.tail _ (.head _))))), fun _ h => absurd h List.not_mem_nil⟩⟩⟩⟩⟩) (loop4 _ _ 257 0 0 (by omega) (by omega) (by omega) (by omega) rfl rfl)
set_option maxRecDepth 100000 in
theorem s_fillsBlocked_132_fr {f kk : Nat} {s r : Int} (hf : [14, 24, 45, 46, 47, 48, 49].elem f = false) : ∀ (d : Nat) (k : Int) (ν : Nat → Nat → Int), s_fillsBlocked_132 μ s r d k ν f kk = ν f kk := by
  have n14 : f ≠ 14 := by rintro rfl; exact absurd hf (by decide)
  have n24 : f ≠ 24 := by rintro rfl; exact absurd hf (by decide)
  have n45 : f ≠ 45 := by rintro rfl; exact absurd hf (by decide)
  have n46 : f ≠ 46 := by rintro rfl; exact absurd hf (by decide)
  have n47 : f ≠ 47 := by rintro rfl; exact absurd hf (by decide)
  have n48 : f ≠ 48 := by rintro rfl; exact absurd hf (by decide)
  have n49 : f ≠ 49 := by rintro rfl; exact absurd hf (by decide)
  have f14 : ∀ (m : Nat → Nat → Int) (a b : Nat) (v : Int), u2 m 14 a v f b = m f b := fun m a b v => u2_f n14
  have f24 : ∀ (m : Nat → Nat → Int) (a b : Nat) (v : Int), u2 m 24 a v f b = m f b := fun m a b v => u2_f n24
  have f45 : ∀ (m : Nat → Nat → Int) (a b : Nat) (v : Int), u2 m 45 a v f b = m f b := fun m a b v => u2_f n45
  have f46 : ∀ (m : Nat → Nat → Int) (a b : Nat) (v : Int), u2 m 46 a v f b = m f b := fun m a b v => u2_f n46
  have f47 : ∀ (m : Nat → Nat → Int) (a b : Nat) (v : Int), u2 m 47 a v f b = m f b := fun m a b v => u2_f n47
  have f48 : ∀ (m : Nat → Nat → Int) (a b : Nat) (v : Int), u2 m 48 a v f b = m f b := fun m a b v => u2_f n48
  have f49 : ∀ (m : Nat → Nat → Int) (a b : Nat) (v : Int), u2 m 49 a v f b = m f b := fun m a b v => u2_f n49
  have c_lays : ∀ (m : Nat → Nat → Int) (z_t z_a z_b z_c z_r : Int) (k : Nat), s_lays m z_t z_a z_b z_c z_r f k = m f k := by intros; exact s_lays_fr (by simp only [List.elem_cons, List.elem_nil, beq_eq_false_iff_ne.mpr n45, beq_eq_false_iff_ne.mpr n46, beq_eq_false_iff_ne.mpr n47, beq_eq_false_iff_ne.mpr n48, beq_eq_false_iff_ne.mpr n49]; try rfl)
  intro d
  induction d with
  | zero => intros; rfl
  | succ d ih =>
    intro k ν
    rw [s_fillsBlocked_132]
    repeat' with_reducible apply f_ite
    all_goals first | rfl | simp only [f14, f24, f45, f46, f47, f48, f49, c_lays, ih]
set_option maxRecDepth 100000 in
theorem s_fillsBlocked_73_fr {f kk : Nat} {s r : Int} (hf : [14, 24, 45, 46, 47, 48, 49].elem f = false) : ∀ (d : Nat) (k : Int) (ν : Nat → Nat → Int), s_fillsBlocked_73 μ s r d k ν f kk = ν f kk := by
  have n14 : f ≠ 14 := by rintro rfl; exact absurd hf (by decide)
  have n24 : f ≠ 24 := by rintro rfl; exact absurd hf (by decide)
  have n45 : f ≠ 45 := by rintro rfl; exact absurd hf (by decide)
  have n46 : f ≠ 46 := by rintro rfl; exact absurd hf (by decide)
  have n47 : f ≠ 47 := by rintro rfl; exact absurd hf (by decide)
  have n48 : f ≠ 48 := by rintro rfl; exact absurd hf (by decide)
  have n49 : f ≠ 49 := by rintro rfl; exact absurd hf (by decide)
  have f14 : ∀ (m : Nat → Nat → Int) (a b : Nat) (v : Int), u2 m 14 a v f b = m f b := fun m a b v => u2_f n14
  have f24 : ∀ (m : Nat → Nat → Int) (a b : Nat) (v : Int), u2 m 24 a v f b = m f b := fun m a b v => u2_f n24
  have f45 : ∀ (m : Nat → Nat → Int) (a b : Nat) (v : Int), u2 m 45 a v f b = m f b := fun m a b v => u2_f n45
  have f46 : ∀ (m : Nat → Nat → Int) (a b : Nat) (v : Int), u2 m 46 a v f b = m f b := fun m a b v => u2_f n46
  have f47 : ∀ (m : Nat → Nat → Int) (a b : Nat) (v : Int), u2 m 47 a v f b = m f b := fun m a b v => u2_f n47
  have f48 : ∀ (m : Nat → Nat → Int) (a b : Nat) (v : Int), u2 m 48 a v f b = m f b := fun m a b v => u2_f n48
  have f49 : ∀ (m : Nat → Nat → Int) (a b : Nat) (v : Int), u2 m 49 a v f b = m f b := fun m a b v => u2_f n49
  have c_lays : ∀ (m : Nat → Nat → Int) (z_t z_a z_b z_c z_r : Int) (k : Nat), s_lays m z_t z_a z_b z_c z_r f k = m f k := by intros; exact s_lays_fr (by simp only [List.elem_cons, List.elem_nil, beq_eq_false_iff_ne.mpr n45, beq_eq_false_iff_ne.mpr n46, beq_eq_false_iff_ne.mpr n47, beq_eq_false_iff_ne.mpr n48, beq_eq_false_iff_ne.mpr n49]; try rfl)
  intro d
  induction d with
  | zero => intros; rfl
  | succ d ih =>
    intro k ν
    rw [s_fillsBlocked_73]
    repeat' with_reducible apply f_ite
    all_goals first | rfl | simp only [f14, f24, f45, f46, f47, f48, f49, c_lays, ih, s_fillsBlocked_132_fr hf]
set_option maxRecDepth 100000 in
theorem s_fillsBlocked_4_fr {f kk : Nat} {s r : Int} (hf : [14, 24, 45, 46, 47, 48, 49].elem f = false) : ∀ (d : Nat) (k b : Int), s_fillsBlocked_4 μ s r d k b f kk = μ f kk := by
  have n14 : f ≠ 14 := by rintro rfl; exact absurd hf (by decide)
  have n24 : f ≠ 24 := by rintro rfl; exact absurd hf (by decide)
  have n45 : f ≠ 45 := by rintro rfl; exact absurd hf (by decide)
  have n46 : f ≠ 46 := by rintro rfl; exact absurd hf (by decide)
  have n47 : f ≠ 47 := by rintro rfl; exact absurd hf (by decide)
  have n48 : f ≠ 48 := by rintro rfl; exact absurd hf (by decide)
  have n49 : f ≠ 49 := by rintro rfl; exact absurd hf (by decide)
  have f14 : ∀ (m : Nat → Nat → Int) (a b : Nat) (v : Int), u2 m 14 a v f b = m f b := fun m a b v => u2_f n14
  have f24 : ∀ (m : Nat → Nat → Int) (a b : Nat) (v : Int), u2 m 24 a v f b = m f b := fun m a b v => u2_f n24
  have f45 : ∀ (m : Nat → Nat → Int) (a b : Nat) (v : Int), u2 m 45 a v f b = m f b := fun m a b v => u2_f n45
  have f46 : ∀ (m : Nat → Nat → Int) (a b : Nat) (v : Int), u2 m 46 a v f b = m f b := fun m a b v => u2_f n46
  have f47 : ∀ (m : Nat → Nat → Int) (a b : Nat) (v : Int), u2 m 47 a v f b = m f b := fun m a b v => u2_f n47
  have f48 : ∀ (m : Nat → Nat → Int) (a b : Nat) (v : Int), u2 m 48 a v f b = m f b := fun m a b v => u2_f n48
  have f49 : ∀ (m : Nat → Nat → Int) (a b : Nat) (v : Int), u2 m 49 a v f b = m f b := fun m a b v => u2_f n49
  have c_lays : ∀ (m : Nat → Nat → Int) (z_t z_a z_b z_c z_r : Int) (k : Nat), s_lays m z_t z_a z_b z_c z_r f k = m f k := by intros; exact s_lays_fr (by simp only [List.elem_cons, List.elem_nil, beq_eq_false_iff_ne.mpr n45, beq_eq_false_iff_ne.mpr n46, beq_eq_false_iff_ne.mpr n47, beq_eq_false_iff_ne.mpr n48, beq_eq_false_iff_ne.mpr n49]; try rfl)
  intro d
  induction d with
  | zero => intros; rfl
  | succ d ih =>
    intro k b
    rw [s_fillsBlocked_4]
    repeat' with_reducible apply f_ite
    all_goals first | rfl | simp only [f14, f24, f45, f46, f47, f48, f49, c_lays, ih, s_fillsBlocked_132_fr hf, s_fillsBlocked_73_fr hf]
set_option maxRecDepth 100000 in
theorem s_fillsBlocked_fr {f kk : Nat} {s r : Int} (hf : [14, 24, 45, 46, 47, 48, 49].elem f = false) : s_fillsBlocked μ s r f kk = μ f kk := by
  have n14 : f ≠ 14 := by rintro rfl; exact absurd hf (by decide)
  have n24 : f ≠ 24 := by rintro rfl; exact absurd hf (by decide)
  have n45 : f ≠ 45 := by rintro rfl; exact absurd hf (by decide)
  have n46 : f ≠ 46 := by rintro rfl; exact absurd hf (by decide)
  have n47 : f ≠ 47 := by rintro rfl; exact absurd hf (by decide)
  have n48 : f ≠ 48 := by rintro rfl; exact absurd hf (by decide)
  have n49 : f ≠ 49 := by rintro rfl; exact absurd hf (by decide)
  have f14 : ∀ (m : Nat → Nat → Int) (a b : Nat) (v : Int), u2 m 14 a v f b = m f b := fun m a b v => u2_f n14
  have f24 : ∀ (m : Nat → Nat → Int) (a b : Nat) (v : Int), u2 m 24 a v f b = m f b := fun m a b v => u2_f n24
  have f45 : ∀ (m : Nat → Nat → Int) (a b : Nat) (v : Int), u2 m 45 a v f b = m f b := fun m a b v => u2_f n45
  have f46 : ∀ (m : Nat → Nat → Int) (a b : Nat) (v : Int), u2 m 46 a v f b = m f b := fun m a b v => u2_f n46
  have f47 : ∀ (m : Nat → Nat → Int) (a b : Nat) (v : Int), u2 m 47 a v f b = m f b := fun m a b v => u2_f n47
  have f48 : ∀ (m : Nat → Nat → Int) (a b : Nat) (v : Int), u2 m 48 a v f b = m f b := fun m a b v => u2_f n48
  have f49 : ∀ (m : Nat → Nat → Int) (a b : Nat) (v : Int), u2 m 49 a v f b = m f b := fun m a b v => u2_f n49
  have c_lays : ∀ (m : Nat → Nat → Int) (z_t z_a z_b z_c z_r : Int) (k : Nat), s_lays m z_t z_a z_b z_c z_r f k = m f k := by intros; exact s_lays_fr (by simp only [List.elem_cons, List.elem_nil, beq_eq_false_iff_ne.mpr n45, beq_eq_false_iff_ne.mpr n46, beq_eq_false_iff_ne.mpr n47, beq_eq_false_iff_ne.mpr n48, beq_eq_false_iff_ne.mpr n49]; try rfl)
  unfold s_fillsBlocked
  repeat' with_reducible apply f_ite
  all_goals first | rfl | simp only [f14, f24, f45, f46, f47, f48, f49, c_lays, s_fillsBlocked_132_fr hf, s_fillsBlocked_73_fr hf, s_fillsBlocked_4_fr hf]
end MR6
