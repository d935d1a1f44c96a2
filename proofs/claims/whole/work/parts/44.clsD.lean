section KD
variable {L : Launch} {G : mmG} {B B' B'' : Nat → Nat → Nat} {bx bx' : Nat → Option (Nat × Nat)} {h0 : mmH} {κ κ' κ'' : Nat → Nat → Int}
theorem kfr {l : List Nat} {f : Nat} (hl : l.all (fun q => Nat.blt q 1000) = true) (hf : 1000 ≤ f) : (!(l.elem f)) = true := by
  have : l.elem f = false := by
    cases h : l.elem f with
    | false => rfl
    | true =>
      have h1 := List.all_eq_true.mp hl f (by simpa using h)
      have h2 : f + 1 ≤ 1000 := Nat.le_of_ble_eq_true h1
      omega
  rw [this]
  rfl
theorem mR_sub {g : Nat → Int} {c u v b : Int} (h1 : 0 ≤ u) (h2 : u ≤ v) (h3 : v ≤ b) : mR g c u v ≤ mR g c 0 b := by
  have up : ∀ (n : Nat), mR g c u v ≤ mR g c u (v + n) := by
    intro n
    induction n with
    | zero => simp
    | succ n ih =>
      have := mR_s (g := g) (c := c) (a := u) (b := v + n) h1 (by omega)
      have := b2_r (g (v + (n : Int)).toNat = c)
      rw [show v + ((n + 1 : Nat) : Int) = v + (n : Int) + 1 by omega]
      omega
  have dn : ∀ (n : Nat), (n : Int) ≤ u → mR g c u b ≤ mR g c (u - n) b := by
    intro n
    induction n with
    | zero => intro _; simp
    | succ n ih =>
      intro hn
      have := ih (by omega)
      by_cases e : b ≤ u - ((n + 1 : Nat) : Int)
      · have z1 := mR_e (g := g) (c := c) (a := u) (b := b) (by omega)
        have z2 := mR_b (g := g) (c := c) (a := u - ((n + 1 : Nat) : Int)) (b := b)
        omega
      · have z1 := mR_c (g := g) (c := c) (a := u - ((n + 1 : Nat) : Int)) (b := b) (by omega) (by omega)
        have z2 := b2_r (g (u - ((n + 1 : Nat) : Int)).toNat = c)
        rw [show u - ((n + 1 : Nat) : Int) + 1 = u - (n : Int) by omega] at z1
        omega
  have a1 := up (b - v).toNat
  have a2 := dn u.toNat (by omega)
  rw [show v + (((b - v).toNat : Nat) : Int) = b by omega] at a1
  rw [show u - ((u.toNat : Nat) : Int) = 0 by omega] at a2
  omega
/-! the grants are copied -/
def kcp (κ : Nat → Nat → Int) (d s : Nat) : Nat → Nat → Int := uf κ 361 (fun q => if 16 * d ≤ q ∧ q < 16 * d + 10 then κ 360 (16 * s + (q - 16 * d)) else κ 361 q)
theorem kcp_fr {d s f k : Nat} (h : f ≠ 361) : kcp κ d s f k = κ f k := uf_f h
theorem kcp_x {d s : Nat} (hx : kx B bx κ) : kx B bx (kcp κ d s) := kx_f (by decide) hx
theorem kcp_V {d s : Nat} (hV : kV κ) : kV (kcp κ d s) := by
  refine ⟨fun f k => ?_, fun r k => ?_⟩
  · unfold kcp uf
    split
    · rename_i e
      subst e
      dsimp only
      split
      · have := hV.1 360 (16 * s + (k - 16 * d))
        exact ⟨this.1, fun _ => this.2 rfl⟩
      · exact hV.1 361 k
    · exact hV.1 f k
  · rw [kcp_fr (by omega), kcp_fr (by omega)]
    exact hV.2 r k
theorem kc_cp {d s t k : Nat} (h : ¬ (t = 13 ∧ k = d)) : kc G B (kcp κ d s) t k = kc G B κ t k := by
  have g : ∀ f, f ≠ 361 → ∀ q, kcp κ d s f q = κ f q := fun f hf q => uf_f hf
  unfold kc
  split
  · simp only [ko0, g 0 (by decide), g 1 (by decide), g 2 (by decide), g 3 (by decide), g 4 (by decide), g 5 (by decide), g 6 (by decide), g 7 (by decide), g 8 (by decide), g 9 (by decide), g 10 (by decide)]
  · simp only [ko1, g 100 (by decide), g 101 (by decide), g 102 (by decide), g 103 (by decide), g 104 (by decide), g 105 (by decide), g 106 (by decide), g 107 (by decide), g 108 (by decide), g 109 (by decide), g 110 (by decide), g 111 (by decide), g 112 (by decide), g 113 (by decide)]
  · simp only [ko2, g 200 (by decide), g 201 (by decide), g 202 (by decide), g 203 (by decide), g 204 (by decide), g 205 (by decide), g 206 (by decide), g 207 (by decide), g 208 (by decide), g 209 (by decide), g 210 (by decide), g 211 (by decide)]
  · simp only [ko3, g 306 (by decide), g 307 (by decide), g 308 (by decide), g 309 (by decide), g 310 (by decide), g 311 (by decide), g 312 (by decide), g 313 (by decide), g 314 (by decide), g 315 (by decide)]
  · simp only [ko4, g 400 (by decide), g 401 (by decide), g 402 (by decide), g 403 (by decide), g 404 (by decide), g 405 (by decide)]
  · simp only [ko5, g 505 (by decide), g 506 (by decide), g 507 (by decide)]
  · rfl
  · rfl
  · simp only [g 360 (by decide)]
  · congr 4; funext q; split; (· rename_i hq; rw [show kcp κ d s 361 (16 * k + q) = κ 361 (16 * k + q) from (uf_s _).trans (if_neg (fun z => h ⟨rfl, by omega⟩))]); rfl
  · rfl
  · simp only [g 290 (by decide)]
  · simp only [g 190 (by decide)]
  · simp only [g 600 (by decide), g 601 (by decide), g (1000 + k) (by omega)]
  · rfl
theorem kp_cp (hx : kx B bx κ) {d s a : Nat} (ha : d < 2) (e : a = B 13 d) : va_up (hk G B bx h0 κ) a (some (.inl (mm_dA G 0, 10, .inl (fun q => iI (mi_cpy (kg κ 360 s) (kg κ 361 d) (0 : Int).toNat (0 : Int).toNat (10 : Int).toNat q))))) = hk G B bx h0 (kcp κ d s) := by
  subst e
  refine hk_put hx (t := 13) ha (fun t' k' q => kc_cp q) ?_
  show _ = Sum.inl (mm_dA G 0, 10, Sum.inl (fun q => iI (if q < 10 then kcp κ d s 361 (16 * d + q) else 0)))
  congr 4
  funext q
  unfold mi_cpy kcp
  rw [uf_s]
  show iI (if 0 ≤ q ∧ q < 0 + 10 then kg κ 360 s (0 + (q - 0)) else kg κ 361 d q) = _
  unfold kg
  by_cases e : q < 10
  · rw [if_pos ⟨Nat.zero_le _, by omega⟩, if_pos e, if_pos (by omega), if_pos ⟨by omega, by omega⟩, show 16 * s + (0 + (q - 0)) = 16 * s + (16 * d + q - 16 * d) by omega]
  · rw [if_neg (by omega), if_neg e, if_neg e]
/-! addresses stay as they are -/
def kag (B : Nat → Nat → Nat) (κ : Nat → Nat → Int) (B' : Nat → Nat → Nat) (κ' : Nat → Nat → Int) : Prop := ∀ t k, kal κ t k → B t k = B' t k ∧ kal κ' t k
theorem kag_refl : kag B κ B κ := fun _ _ h => ⟨rfl, h⟩
theorem kag_trans (h : kag B κ B' κ') (h' : kag B' κ' B'' κ'') : kag B κ B'' κ'' := fun t k a => ⟨(h t k a).1.trans (h' t k (h t k a).2).1, (h' t k (h t k a).2).2⟩
theorem kag_cg (e : ∀ f, [190, 290, 602].elem f = true → ∀ k, κ' f k = κ'' f k) (h : kag B κ B' κ') : kag B κ B' κ'' := fun t k a => ⟨(h t k a).1, (kal_cg e).mp (h t k a).2⟩
theorem kag_u {f k : Nat} {v : Int} (hf : [190, 290, 602].elem f = false) (h : kag B κ B' κ') : kag B κ B' (u2 κ' f k v) := kag_cg (fun g hg q => (u2_f (by rintro rfl; rw [hg] at hf; cases hf)).symm) h
theorem kar {r : Nat} : ([190, 290, 602] : List Nat).elem (1000 + r) = false := by
  simp only [List.elem_cons, List.elem_nil, beq_eq_false_iff_ne.mpr (show 1000 + r ≠ 190 by omega), beq_eq_false_iff_ne.mpr (show 1000 + r ≠ 290 by omega), beq_eq_false_iff_ne.mpr (show 1000 + r ≠ 602 by omega)]
def mRetA (G : mmG) (B : Nat → Nat → Nat) (h0 : mmH) (κ : Nat → Nat → Int) (v : Option Value) (S : Nat → Nat → Int) (P : Prop) : Option Value → mmH → Prop := fun r h => r = v ∧ ∃ B' bx', h = hk G B' bx' h0 S ∧ kx B' bx' S ∧ kV S ∧ kag B κ B' S ∧ P
theorem mkia {r : Option AV} {S : Nat → Nat → Int} {P : Prop} {Q : Option AV → mmH → Prop} (k : ∀ B' bx', kx B' bx' S → kV S → kag B κ B' S → P → Q r (hk G B' bx' h0 S)) : ∀ v h1, mRetA G B h0 κ (r.map cv) S P v h1 → ∃ r', v = r'.map cv ∧ Q r' h1 := by
  rintro _ _ ⟨rfl, B', bx', rfl, a, b, c, d⟩
  exact ⟨r, rfl, k B' bx' a b c d⟩
theorem kRetIA {v v' : Int} {S : Nat → Nat → Int} {P : Prop} (e : v' = v) (e2 : S = κ') (hx : kx B' bx' κ') (hv : kV κ') (hA : kag B κ B' κ') (hp : P) : mRetA G B h0 κ (some (.int (iI v'))) S P (some (.int (iI v))) (hk G B' bx' h0 κ') := by
  subst e e2
  exact ⟨rfl, B', bx', rfl, hx, hv, hA, hp⟩
theorem kRetVA {S : Nat → Nat → Int} {P : Prop} (e2 : S = κ') (hx : kx B' bx' κ') (hv : kV κ') (hA : kag B κ B' κ') (hp : P) : mRetA G B h0 κ none S P none (hk G B' bx' h0 κ') := by
  subst e2
  exact ⟨rfl, B', bx', rfl, hx, hv, hA, hp⟩
def v_kWayOf  (i : Int) : Int := ((i / 2) % 2)
set_option maxRecDepth 100000 in
theorem m_kWayOf (hF : mm_F G) (htr : L.stackTraces = false) (hx : kx B bx κ) (hV : kV κ) {i : Int} (h3 : 0 ≤ i) (h4 : i < 256) :
    mm_Met L G SX3_wayOf [.int (iI i)] (hk G B bx h0 κ) 0 0 (mRet (some (.int (iI (v_kWayOf i)))) (hk G B bx h0 κ)) mm_no := by
  refine mi_meth MX3_wayOf 400 hF htr okX3_wayOf (av := [aI i]) (by decide +kernel) (Nat.le_of_ble_eq_true rfl) cmX3_wayOf (fun θ hc => ?_)
  refine ⟨by omega, ?_⟩
  refine ⟨by omega, ?_⟩
  exact ⟨kRetI rfl, Nat.le_refl _, Nat.le_refl _⟩
theorem kWayOf_b {i : Int} (h : 0 ≤ i) : v_kWayOf i = i / 2 % 2 ∧ 0 ≤ v_kWayOf i ∧ v_kWayOf i ≤ 1 := by
  unfold v_kWayOf
  omega
def v_grantFor  (g i : Int) : Int := (if (v_kWayOf i) = 1 then 7 else (if (i % 2) = g then 5 else 6))
set_option maxRecDepth 100000 in
theorem m_grantFor (hF : mm_F G) (htr : L.stackTraces = false) (hx : kx B bx κ) (hV : kV κ) {g i : Int} (h1 : 0 ≤ g) (h2 : g ≤ 1) (h3 : 0 ≤ i) (h4 : i < 256) :
    mm_Met L G SX3_grantFor [.int (iI g), .int (iI i)] (hk G B bx h0 κ) 0 0 (mRet (some (.int (iI (v_grantFor g i)))) (hk G B bx h0 κ)) mm_no := by
  refine mi_meth MX3_grantFor 400 hF htr okX3_grantFor (av := [aI g, aI i]) (by decide +kernel) (Nat.le_of_ble_eq_true rfl) cmX3_grantFor (fun θ hc => ?_)
  refine ⟨_, _, _, _, (m_kWayOf hF htr hx hV (i := i) (by omega) (by omega)), Nat.le_refl _, Nat.le_refl _, mki_ (r := some (aI (v_kWayOf i))) ?_, fun _ _ q => q.elim⟩
  have t1 := kWayOf_b (i := i) (by omega)
  refine ⟨by omega, fun (e2 : ¬ ((v_kWayOf i) = 1)) => ?_, fun (e2 : (v_kWayOf i) = 1) => ?_⟩
  · refine ⟨by omega, ?_⟩
    refine ⟨by omega, fun (e3 : ¬ ((i % 2) = g)) => ?_, fun (e3 : (i % 2) = g) => ?_⟩
    · exact ⟨kRetI (by first | exact (if_neg e2).trans (if_neg e3) | (unfold v_grantFor; rw [if_neg e2, if_neg e3])), Nat.le_refl _, Nat.le_refl _⟩
    · exact ⟨kRetI (by first | exact (if_neg e2).trans (if_pos e3) | (unfold v_grantFor; rw [if_neg e2, if_pos e3])), Nat.le_refl _, Nat.le_refl _⟩
  · exact ⟨kRetI (by first | exact if_pos e2 | (unfold v_grantFor; rw [if_pos e2])), Nat.le_refl _, Nat.le_refl _⟩
set_option maxRecDepth 100000 in
theorem v_grantFor_b (g i : Int) : 5 ≤ v_grantFor g i ∧ v_grantFor g i ≤ 7 := by
  unfold v_grantFor
  repeat' with_reducible apply b_ite
  all_goals decide
def s_setGrant (κ : Nat → Nat → Int) (s i v : Int) : Nat → Nat → Int := (if i = 4 then (u2 (u2 κ 360 ((16 * s) + i).toNat v) 314 s.toNat v) else (u2 κ 360 ((16 * s) + i).toNat v))
set_option maxRecDepth 100000 in
theorem m_setGrant (hF : mm_F G) (htr : L.stackTraces = false) (hx : kx B bx κ) (hV : kV κ) {s i v : Int} {a0 : Nat} (ea0 : a0 = B 3 s.toNat) (h1 : 0 ≤ s) (h2 : s ≤ 1) (h3 : 4 ≤ i) (h4 : i ≤ 9) (h5 : 0 ≤ v) (h6 : v ≤ 65536) :
    mm_Met L G SX3_setGrant [.ref a0, .int (iI i), .int (iI v)] (hk G B bx h0 κ) 0 0 (mRetS none (hk G B bx h0 (s_setGrant κ s i v)) (kx B bx (s_setGrant κ s i v) ∧ kV (s_setGrant κ s i v))) mm_no := by
  refine mi_meth MX3_setGrant 400 hF htr okX3_setGrant (av := [aR a0, aI i, aI v]) (by decide +kernel) (Nat.le_of_ble_eq_true rfl) cmX3_setGrant (fun θ hc => ?_)
  refine ⟨_, hk_o3 hx (show s.toNat < 2 from by omega) ea0, aR (B 12 s.toNat), rfl, ?_⟩
  refine ⟨10, _, _, hk_g hx (show s.toNat < 2 from by omega) rfl, by omega, trivial, kp_g hx (s := s) (i := i) (v := v) (by omega) (by omega) (by omega) (by omega) rfl, ?_⟩
  have hV1 := hV.u (f := 360) (k := ((16 * s) + i).toNat) (v := v) rfl (show 0 ≤ v ∧ v ≤ 65536 from by omega)
  have hx2 := kx_u (f := 360) (k := ((16 * s) + i).toNat) (v := v) rfl hx
  refine ⟨by omega, fun (e3 : ¬ (i = 4)) => ?_, fun (e3 : i = 4) => ?_⟩
  · exact ⟨kRetVS  (by first | exact if_neg e3 | (unfold s_setGrant; rw [if_neg e3])) hx2 hV1, Nat.le_refl _, Nat.le_refl _⟩
  · refine ⟨_, hk_o3 hx2 (show s.toNat < 2 from by omega) ea0, trivial, _, kp_314 hx2 (show s.toNat < 2 from by omega) (v := v) ea0, ?_⟩
    have hV4 := hV1.u (f := 314) (k := s.toNat) (v := v) rfl (show 0 ≤ v ∧ v ≤ 65536 from by omega)
    have hx5 := kx_u (f := 314) (k := s.toNat) (v := v) rfl hx2
    exact ⟨kRetVS  (by first | exact if_pos e3 | (unfold s_setGrant; rw [if_pos e3])) hx5 hV4, Nat.le_refl _, Nat.le_refl _⟩
set_option maxRecDepth 100000 in
theorem s_setGrant_fr {f kk : Nat} {s i v : Int} (hf : (!([314, 360].elem f)) = true) : s_setGrant κ s i v f kk = κ f kk := by
  have n314 : f ≠ 314 := by rintro rfl; exact absurd hf (by decide)
  have n360 : f ≠ 360 := by rintro rfl; exact absurd hf (by decide)
  have f314 : ∀ (m : Nat → Nat → Int) (a b : Nat) (v : Int), u2 m 314 a v f b = m f b := fun m a b v => u2_f n314
  have f360 : ∀ (m : Nat → Nat → Int) (a b : Nat) (v : Int), u2 m 360 a v f b = m f b := fun m a b v => u2_f n360
  unfold s_setGrant
  repeat' with_reducible apply f_ite
  all_goals first | rfl | simp only [f314, f360]
set_option maxRecDepth 100000 in
theorem m_sendingOfY (hF : mm_F G) (htr : L.stackTraces = false) (hx : kx B bx κ) (hV : kV κ) {s i : Int} {a0 : Nat} (ea0 : a0 = B 3 s.toNat) (h1 : 0 ≤ s) (h2 : s ≤ 1) (h3 : 0 ≤ i) (h4 : i < 256) (hp : κ 290 (mj s i) = 1) :
    mm_Met L G SX3_sendingOf [.ref a0, .int (iI i)] (hk G B bx h0 κ) 0 0 (mRet (some (.ref (B 2 (mj s i)))) (hk G B bx h0 κ)) mm_no := by
  refine mi_meth MX3_sendingOf 400 hF htr okX3_sendingOf (av := [aR a0, aI i]) (by decide +kernel) (Nat.le_of_ble_eq_true rfl) cmX3_sendingOf (fun θ hc => ?_)
  refine ⟨by omega, fun (e1 : i < 0) => ?_, fun (e1 : ¬ (i < 0)) => ?_⟩
  · exact (show False from by omega).elim
  · refine ⟨by omega, fun (e2 : i < 256) => ?_, fun (e2 : ¬ (i < 256)) => ?_⟩
    · refine ⟨_, hk_o3 hx (show s.toNat < 2 from by omega) ea0, aR (B 15 s.toNat), rfl, ?_⟩
      have e3 : (κ 290 (mj s i)) = 1 := by omega
      refine ⟨256, _, some (B 2 (mj s i)), hk_ss hx (show s.toNat < 2 from by omega) rfl, by omega, ka_y (f := 290) (t := 2) (s := s) (i := i) (by omega) (by omega) (by omega) (e3), ?_⟩
      exact ⟨mRetR rfl, Nat.le_refl _, Nat.le_refl _⟩
    · exact (show False from by omega).elim
set_option maxRecDepth 100000 in
theorem m_sendingOfN (hF : mm_F G) (htr : L.stackTraces = false) (hx : kx B bx κ) (hV : kV κ) {s i : Int} {a0 : Nat} (ea0 : a0 = B 3 s.toNat) (h1 : 0 ≤ s) (h2 : s ≤ 1) (h3 : -2147483648 ≤ i) (h3a : i < 2147483648) (hN : ¬ (0 ≤ i ∧ i < 256 ∧ κ 290 (mj s i) = 1)) :
    mm_Met L G SX3_sendingOf [.ref a0, .int (iI i)] (hk G B bx h0 κ) 0 0 (mRet (some .null) (hk G B bx h0 κ)) mm_no := by
  refine mi_meth MX3_sendingOf 400 hF htr okX3_sendingOf (av := [aR a0, aI i]) (by decide +kernel) (Nat.le_of_ble_eq_true rfl) cmX3_sendingOf (fun θ hc => ?_)
  refine ⟨by omega, fun (e1 : i < 0) => ?_, fun (e1 : ¬ (i < 0)) => ?_⟩
  · exact ⟨⟨rfl, rfl⟩, Nat.le_refl _, Nat.le_refl _⟩
  · refine ⟨by omega, fun (e2 : i < 256) => ?_, fun (e2 : ¬ (i < 256)) => ?_⟩
    · refine ⟨_, hk_o3 hx (show s.toNat < 2 from by omega) ea0, aR (B 15 s.toNat), rfl, ?_⟩
      refine (Decidable.em ((κ 290 (mj s i)) = 1)).elim (fun e3 => ?_) (fun e3 => ?_)
      · refine ⟨256, _, some (B 2 (mj s i)), hk_ss hx (show s.toNat < 2 from by omega) rfl, by omega, ka_y (f := 290) (t := 2) (s := s) (i := i) (by omega) (by omega) (by omega) (e3), ?_⟩
        exact absurd (show 0 ≤ i ∧ i < 256 ∧ κ 290 (mj s i) = 1 from by omega) hN
      · refine ⟨256, _, none, hk_ss hx (show s.toNat < 2 from by omega) rfl, by omega, ka_n (f := 290) (t := 2) (s := s) (i := i) (by omega) (by omega) (by omega) e3, ?_⟩
        exact ⟨⟨rfl, rfl⟩, Nat.le_refl _, Nat.le_refl _⟩
    · exact ⟨⟨rfl, rfl⟩, Nat.le_refl _, Nat.le_refl _⟩
set_option maxRecDepth 100000 in
theorem m_receivingOfY (hF : mm_F G) (htr : L.stackTraces = false) (hx : kx B bx κ) (hV : kV κ) {s i : Int} {a0 : Nat} (ea0 : a0 = B 3 s.toNat) (h1 : 0 ≤ s) (h2 : s ≤ 1) (h3 : 0 ≤ i) (h4 : i < 256) (hp : κ 190 (mj s i) = 1) :
    mm_Met L G SX3_receivingOf [.ref a0, .int (iI i)] (hk G B bx h0 κ) 0 0 (mRet (some (.ref (B 1 (mj s i)))) (hk G B bx h0 κ)) mm_no := by
  refine mi_meth MX3_receivingOf 400 hF htr okX3_receivingOf (av := [aR a0, aI i]) (by decide +kernel) (Nat.le_of_ble_eq_true rfl) cmX3_receivingOf (fun θ hc => ?_)
  refine ⟨by omega, fun (e1 : i < 0) => ?_, fun (e1 : ¬ (i < 0)) => ?_⟩
  · exact (show False from by omega).elim
  · refine ⟨by omega, fun (e2 : i < 256) => ?_, fun (e2 : ¬ (i < 256)) => ?_⟩
    · refine ⟨_, hk_o3 hx (show s.toNat < 2 from by omega) ea0, aR (B 16 s.toNat), rfl, ?_⟩
      have e3 : (κ 190 (mj s i)) = 1 := by omega
      refine ⟨256, _, some (B 1 (mj s i)), hk_rs hx (show s.toNat < 2 from by omega) rfl, by omega, ka_y (f := 190) (t := 1) (s := s) (i := i) (by omega) (by omega) (by omega) (e3), ?_⟩
      exact ⟨mRetR rfl, Nat.le_refl _, Nat.le_refl _⟩
    · exact (show False from by omega).elim
set_option maxRecDepth 100000 in
theorem m_receivingOfN (hF : mm_F G) (htr : L.stackTraces = false) (hx : kx B bx κ) (hV : kV κ) {s i : Int} {a0 : Nat} (ea0 : a0 = B 3 s.toNat) (h1 : 0 ≤ s) (h2 : s ≤ 1) (h3 : -2147483648 ≤ i) (h3a : i < 2147483648) (hN : ¬ (0 ≤ i ∧ i < 256 ∧ κ 190 (mj s i) = 1)) :
    mm_Met L G SX3_receivingOf [.ref a0, .int (iI i)] (hk G B bx h0 κ) 0 0 (mRet (some .null) (hk G B bx h0 κ)) mm_no := by
  refine mi_meth MX3_receivingOf 400 hF htr okX3_receivingOf (av := [aR a0, aI i]) (by decide +kernel) (Nat.le_of_ble_eq_true rfl) cmX3_receivingOf (fun θ hc => ?_)
  refine ⟨by omega, fun (e1 : i < 0) => ?_, fun (e1 : ¬ (i < 0)) => ?_⟩
  · exact ⟨⟨rfl, rfl⟩, Nat.le_refl _, Nat.le_refl _⟩
  · refine ⟨by omega, fun (e2 : i < 256) => ?_, fun (e2 : ¬ (i < 256)) => ?_⟩
    · refine ⟨_, hk_o3 hx (show s.toNat < 2 from by omega) ea0, aR (B 16 s.toNat), rfl, ?_⟩
      refine (Decidable.em ((κ 190 (mj s i)) = 1)).elim (fun e3 => ?_) (fun e3 => ?_)
      · refine ⟨256, _, some (B 1 (mj s i)), hk_rs hx (show s.toNat < 2 from by omega) rfl, by omega, ka_y (f := 190) (t := 1) (s := s) (i := i) (by omega) (by omega) (by omega) (e3), ?_⟩
        exact absurd (show 0 ≤ i ∧ i < 256 ∧ κ 190 (mj s i) = 1 from by omega) hN
      · refine ⟨256, _, none, hk_rs hx (show s.toNat < 2 from by omega) rfl, by omega, ka_n (f := 190) (t := 1) (s := s) (i := i) (by omega) (by omega) (by omega) e3, ?_⟩
        exact ⟨⟨rfl, rfl⟩, Nat.le_refl _, Nat.le_refl _⟩
    · exact ⟨⟨rfl, rfl⟩, Nat.le_refl _, Nat.le_refl _⟩
def s_growDataGrant (κ : Nat → Nat → Int) (s : Int) : Nat → Nat → Int := (if (v_grownGrant (κ 313 s.toNat) (κ 360 ((16 * s) + 4).toNat) (κ 314 s.toNat)) ≤ (κ 314 s.toNat) then κ else (u2 (u2 κ 314 s.toNat (v_grownGrant (κ 313 s.toNat) (κ 360 ((16 * s) + 4).toNat) (κ 314 s.toNat))) 315 s.toNat 1))
set_option maxRecDepth 100000 in
theorem m_growDataGrant (hF : mm_F G) (htr : L.stackTraces = false) (hx : kx B bx κ) (hV : kV κ) {s : Int} {a0 : Nat} (ea0 : a0 = B 3 s.toNat) (h1 : 0 ≤ s) (h2 : s ≤ 1) :
    mm_Met L G SX3_growDataGrant [.ref a0] (hk G B bx h0 κ) 0 0 (mRetS none (hk G B bx h0 (s_growDataGrant κ s)) (kx B bx (s_growDataGrant κ s) ∧ kV (s_growDataGrant κ s))) mm_no := by
  refine mi_meth MX3_growDataGrant 400 hF htr okX3_growDataGrant (av := [aR a0]) (by decide +kernel) (Nat.le_of_ble_eq_true rfl) cmX3_growDataGrant (fun θ hc => ?_)
  refine ⟨_, hk_o3 hx (show s.toNat < 2 from by omega) ea0, aI (κ 313 s.toNat), rfl, ?_⟩
  have t1 := (show 0 ≤ κ 313 s.toNat ∧ κ 313 s.toNat ≤ 16777216 from hV.g 313 s.toNat rfl)
  refine ⟨_, hk_o3 hx (show s.toNat < 2 from by omega) ea0, aR (B 12 s.toNat), rfl, ?_⟩
  refine ⟨10, _, (κ 360 ((16 * s) + 4).toNat), hk_g hx (show s.toNat < 2 from by omega) rfl, by omega, (kg_i (s := s) (i := 4) (by omega) (by omega) (by omega)), ?_⟩
  have t2 := (show 0 ≤ κ 360 ((16 * s) + 4).toNat ∧ κ 360 ((16 * s) + 4).toNat ≤ 65536 from hV.g 360 ((16 * s) + 4).toNat rfl)
  refine ⟨_, hk_o3 hx (show s.toNat < 2 from by omega) ea0, aI (κ 314 s.toNat), rfl, ?_⟩
  have t3 := (show 0 ≤ κ 314 s.toNat ∧ κ 314 s.toNat ≤ 65536 from hV.g 314 s.toNat rfl)
  refine ⟨_, _, _, _, (m_grownGrant hF htr hx hV (a := (κ 313 s.toNat)) (b := (κ 360 ((16 * s) + 4).toNat)) (c := (κ 314 s.toNat)) (by omega) (by omega) (by omega) (by omega) (by omega) (by omega)), Nat.le_refl _, Nat.le_refl _, mki_ (r := some (aI (v_grownGrant (κ 313 s.toNat) (κ 360 ((16 * s) + 4).toNat) (κ 314 s.toNat)))) ?_, fun _ _ q => q.elim⟩
  have t4 := grownGrant_b (κ 313 s.toNat) (κ 360 ((16 * s) + 4).toNat) (κ 314 s.toNat) (by omega)
  refine ⟨_, hk_o3 hx (show s.toNat < 2 from by omega) ea0, aI (κ 314 s.toNat), rfl, ?_⟩
  refine mi_nl [(1, aI (v_grownGrant (κ 313 s.toNat) (κ 360 ((16 * s) + 4).toNat) (κ 314 s.toNat))), (0, aR (a0))] rfl ?_
  refine ⟨by omega, fun (e5 : (v_grownGrant (κ 313 s.toNat) (κ 360 ((16 * s) + 4).toNat) (κ 314 s.toNat)) ≤ (κ 314 s.toNat)) => ?_, fun (e5 : ¬ ((v_grownGrant (κ 313 s.toNat) (κ 360 ((16 * s) + 4).toNat) (κ 314 s.toNat)) ≤ (κ 314 s.toNat))) => ?_⟩
  · exact ⟨kRetVS  (by first | exact if_pos e5 | (unfold s_growDataGrant; rw [if_pos e5])) hx hV, Nat.le_refl _, Nat.le_refl _⟩
  · refine ⟨_, hk_o3 hx (show s.toNat < 2 from by omega) ea0, trivial, _, kp_314 hx (show s.toNat < 2 from by omega) (v := (v_grownGrant (κ 313 s.toNat) (κ 360 ((16 * s) + 4).toNat) (κ 314 s.toNat))) ea0, ?_⟩
    have hV6 := hV.u (f := 314) (k := s.toNat) (v := (v_grownGrant (κ 313 s.toNat) (κ 360 ((16 * s) + 4).toNat) (κ 314 s.toNat))) rfl (show 0 ≤ (v_grownGrant (κ 313 s.toNat) (κ 360 ((16 * s) + 4).toNat) (κ 314 s.toNat)) ∧ (v_grownGrant (κ 313 s.toNat) (κ 360 ((16 * s) + 4).toNat) (κ 314 s.toNat)) ≤ 65536 from by omega)
    have hx7 := kx_u (f := 314) (k := s.toNat) (v := (v_grownGrant (κ 313 s.toNat) (κ 360 ((16 * s) + 4).toNat) (κ 314 s.toNat))) rfl hx
    refine ⟨_, hk_o3 hx7 (show s.toNat < 2 from by omega) ea0, (show 1 = 0 ∨ 1 = 1 from by omega), _, kp_315 hx7 (show s.toNat < 2 from by omega) (v := 1) ea0, ?_⟩
    have hV8 := hV6.u (f := 315) (k := s.toNat) (v := 1) rfl (show 0 ≤ 1 ∧ 1 ≤ 1 from by omega)
    have hx9 := kx_u (f := 315) (k := s.toNat) (v := 1) rfl hx7
    exact ⟨kRetVS  (by first | exact if_neg e5 | (unfold s_growDataGrant; rw [if_neg e5])) hx9 hV8, Nat.le_refl _, Nat.le_refl _⟩
set_option maxRecDepth 100000 in
theorem s_growDataGrant_fr {f kk : Nat} {s : Int} (hf : (!([314, 315].elem f)) = true) : s_growDataGrant κ s f kk = κ f kk := by
  have n314 : f ≠ 314 := by rintro rfl; exact absurd hf (by decide)
  have n315 : f ≠ 315 := by rintro rfl; exact absurd hf (by decide)
  have f314 : ∀ (m : Nat → Nat → Int) (a b : Nat) (v : Int), u2 m 314 a v f b = m f b := fun m a b v => u2_f n314
  have f315 : ∀ (m : Nat → Nat → Int) (a b : Nat) (v : Int), u2 m 315 a v f b = m f b := fun m a b v => u2_f n315
  unfold s_growDataGrant
  repeat' with_reducible apply f_ite
  all_goals first | rfl | simp only [f314, f315]
def v_isOverN (κ : Nat → Nat → Int) (s i : Int) : Int := (if (κ 100 (mj s i)) = 3 then 1 else (if (κ 100 (mj s i)) = 4 then 1 else 0))
set_option maxRecDepth 100000 in
theorem m_isOverN (hF : mm_F G) (htr : L.stackTraces = false) (hx : kx B bx κ) (hV : kV κ) {s i : Int} {a0 : Nat} (ea0 : a0 = B 1 (mj s i)) (hp : κ 190 (mj s i) = 1) :
    mm_Met L G SX3_isOver [.ref a0, .null] (hk G B bx h0 κ) 0 0 (mRet (some (.int (iI (v_isOverN κ s i)))) (hk G B bx h0 κ)) mm_no := by
  refine mi_meth MX3_isOver 400 hF htr okX3_isOver (av := [aR a0, aN]) (by decide +kernel) (Nat.le_of_ble_eq_true rfl) cmX3_isOver (fun θ hc => ?_)
  refine ⟨_, hk_o1 hx (show κ 190 (mj s i) = 1 from hp) ea0, aI (κ 100 (mj s i)), rfl, ?_⟩
  have t1 := (show 0 ≤ κ 100 (mj s i) ∧ κ 100 (mj s i) ≤ 4 from hV.g 100 (mj s i) rfl)
  refine ⟨by omega, fun (e2 : (κ 100 (mj s i)) = 3) => ?_, fun (e2 : ¬ ((κ 100 (mj s i)) = 3)) => ?_⟩
  · refine ⟨by omega, fun (e : (1 : Int) = 0) => absurd e (by decide), fun _ => ?_⟩
    refine mi_nl [(2, aI 1), (0, aR (a0)), (1, aN)] rfl ?_
    exact ⟨(Or.inr rfl), kRetI (by first | exact if_pos e2 | (unfold v_isOverN; rw [if_pos e2])), Nat.le_refl _, Nat.le_refl _⟩
  · refine ⟨_, hk_o1 hx (show κ 190 (mj s i) = 1 from hp) ea0, aI (κ 100 (mj s i)), rfl, ?_⟩
    refine ⟨by omega, fun (e3 : ¬ ((κ 100 (mj s i)) = 4)) => ?_, fun (e3 : (κ 100 (mj s i)) = 4) => ?_⟩
    · refine ⟨by omega, fun _ => ?_, fun (e : ¬ ((0 : Int) = 0)) => (e (by decide)).elim⟩
      refine mi_nl [(2, aI 0), (0, aR (a0)), (1, aN)] rfl ?_
      exact ⟨(Or.inl rfl), kRetI (by first | exact (if_neg e2).trans (if_neg e3) | (unfold v_isOverN; rw [if_neg e2, if_neg e3])), Nat.le_refl _, Nat.le_refl _⟩
    · refine ⟨by omega, fun (e : (1 : Int) = 0) => absurd e (by decide), fun _ => ?_⟩
      refine mi_nl [(2, aI 1), (0, aR (a0)), (1, aN)] rfl ?_
      exact ⟨(Or.inr rfl), kRetI (by first | exact (if_neg e2).trans (if_pos e3) | (unfold v_isOverN; rw [if_neg e2, if_pos e3])), Nat.le_refl _, Nat.le_refl _⟩
set_option maxRecDepth 100000 in
theorem v_isOverN_cg {κ κ' : Nat → Nat → Int} {s i : Int} (h : ∀ f, [100].elem f = true → ∀ k, κ f k = κ' f k) : v_isOverN κ s i = v_isOverN κ' s i := by
  have q100 := h 100 rfl
  unfold v_isOverN
  simp only [q100]
set_option maxRecDepth 100000 in
theorem v_isOverN_b (κ : Nat → Nat → Int) (s i : Int) : 0 ≤ v_isOverN κ s i ∧ v_isOverN κ s i ≤ 1 := by
  unfold v_isOverN
  repeat' with_reducible apply b_ite
  all_goals decide
def v_isOver (κ : Nat → Nat → Int) (s i : Int) : Int := (if (κ 100 (mj s i)) = 3 then (if (κ 200 (mj s i)) = 2 then 1 else (if (κ 200 (mj s i)) = 4 then 1 else 0)) else (if (κ 100 (mj s i)) = 4 then (if (κ 200 (mj s i)) = 2 then 1 else (if (κ 200 (mj s i)) = 4 then 1 else 0)) else 0))
set_option maxRecDepth 100000 in
theorem m_isOver (hF : mm_F G) (htr : L.stackTraces = false) (hx : kx B bx κ) (hV : kV κ) {s i : Int} {a0 a1 : Nat} (ea0 : a0 = B 1 (mj s i)) (ea1 : a1 = B 2 (mj s i)) (hp : κ 190 (mj s i) = 1) (hq : κ 290 (mj s i) = 1) :
    mm_Met L G SX3_isOver [.ref a0, .ref a1] (hk G B bx h0 κ) 0 0 (mRet (some (.int (iI (v_isOver κ s i)))) (hk G B bx h0 κ)) mm_no := by
  refine mi_meth MX3_isOver 400 hF htr okX3_isOver (av := [aR a0, aR a1]) (by decide +kernel) (Nat.le_of_ble_eq_true rfl) cmX3_isOver (fun θ hc => ?_)
  refine ⟨_, hk_o1 hx (show κ 190 (mj s i) = 1 from hp) ea0, aI (κ 100 (mj s i)), rfl, ?_⟩
  have t1 := (show 0 ≤ κ 100 (mj s i) ∧ κ 100 (mj s i) ≤ 4 from hV.g 100 (mj s i) rfl)
  refine ⟨by omega, fun (e2 : (κ 100 (mj s i)) = 3) => ?_, fun (e2 : ¬ ((κ 100 (mj s i)) = 3)) => ?_⟩
  · refine ⟨by omega, fun (e : (1 : Int) = 0) => absurd e (by decide), fun _ => ?_⟩
    refine mi_nl [(2, aI 1), (0, aR (a0)), (1, aR (a1))] rfl ?_
    refine ⟨_, hk_o2 hx (show κ 290 (mj s i) = 1 from hq) ea1, aI (κ 200 (mj s i)), rfl, ?_⟩
    have t3 := (show 0 ≤ κ 200 (mj s i) ∧ κ 200 (mj s i) ≤ 4 from hV.g 200 (mj s i) rfl)
    refine ⟨by omega, fun (e4 : (κ 200 (mj s i)) = 2) => ?_, fun (e4 : ¬ ((κ 200 (mj s i)) = 2)) => ?_⟩
    · exact ⟨(Or.inr rfl), kRetI (by first | exact (if_pos e2).trans (if_pos e4) | (unfold v_isOver; rw [if_pos e2, if_pos e4])), Nat.le_refl _, Nat.le_refl _⟩
    · refine ⟨_, hk_o2 hx (show κ 290 (mj s i) = 1 from hq) ea1, aI (κ 200 (mj s i)), rfl, ?_⟩
      refine ⟨by omega, fun (e5 : ¬ ((κ 200 (mj s i)) = 4)) => ?_, fun (e5 : (κ 200 (mj s i)) = 4) => ?_⟩
      · exact ⟨(Or.inl rfl), kRetI (by first | exact (if_pos e2).trans ((if_neg e4).trans (if_neg e5)) | (unfold v_isOver; rw [if_pos e2, if_neg e4, if_neg e5])), Nat.le_refl _, Nat.le_refl _⟩
      · exact ⟨(Or.inr rfl), kRetI (by first | exact (if_pos e2).trans ((if_neg e4).trans (if_pos e5)) | (unfold v_isOver; rw [if_pos e2, if_neg e4, if_pos e5])), Nat.le_refl _, Nat.le_refl _⟩
  · refine ⟨_, hk_o1 hx (show κ 190 (mj s i) = 1 from hp) ea0, aI (κ 100 (mj s i)), rfl, ?_⟩
    refine ⟨by omega, fun (e6 : ¬ ((κ 100 (mj s i)) = 4)) => ?_, fun (e6 : (κ 100 (mj s i)) = 4) => ?_⟩
    · refine ⟨by omega, fun _ => ?_, fun (e : ¬ ((0 : Int) = 0)) => (e (by decide)).elim⟩
      refine mi_nl [(2, aI 0), (0, aR (a0)), (1, aR (a1))] rfl ?_
      exact ⟨(Or.inl rfl), kRetI (by first | exact (if_neg e2).trans (if_neg e6) | (unfold v_isOver; rw [if_neg e2, if_neg e6])), Nat.le_refl _, Nat.le_refl _⟩
    · refine ⟨by omega, fun (e : (1 : Int) = 0) => absurd e (by decide), fun _ => ?_⟩
      refine mi_nl [(2, aI 1), (0, aR (a0)), (1, aR (a1))] rfl ?_
      refine ⟨_, hk_o2 hx (show κ 290 (mj s i) = 1 from hq) ea1, aI (κ 200 (mj s i)), rfl, ?_⟩
      have t7 := (show 0 ≤ κ 200 (mj s i) ∧ κ 200 (mj s i) ≤ 4 from hV.g 200 (mj s i) rfl)
      refine ⟨by omega, fun (e8 : (κ 200 (mj s i)) = 2) => ?_, fun (e8 : ¬ ((κ 200 (mj s i)) = 2)) => ?_⟩
      · exact ⟨(Or.inr rfl), kRetI (by first | exact (if_neg e2).trans ((if_pos e6).trans (if_pos e8)) | (unfold v_isOver; rw [if_neg e2, if_pos e6, if_pos e8])), Nat.le_refl _, Nat.le_refl _⟩
      · refine ⟨_, hk_o2 hx (show κ 290 (mj s i) = 1 from hq) ea1, aI (κ 200 (mj s i)), rfl, ?_⟩
        refine ⟨by omega, fun (e9 : ¬ ((κ 200 (mj s i)) = 4)) => ?_, fun (e9 : (κ 200 (mj s i)) = 4) => ?_⟩
        · exact ⟨(Or.inl rfl), kRetI (by first | exact (if_neg e2).trans ((if_pos e6).trans ((if_neg e8).trans (if_neg e9))) | (unfold v_isOver; rw [if_neg e2, if_pos e6, if_neg e8, if_neg e9])), Nat.le_refl _, Nat.le_refl _⟩
        · exact ⟨(Or.inr rfl), kRetI (by first | exact (if_neg e2).trans ((if_pos e6).trans ((if_neg e8).trans (if_pos e9))) | (unfold v_isOver; rw [if_neg e2, if_pos e6, if_neg e8, if_pos e9])), Nat.le_refl _, Nat.le_refl _⟩
set_option maxRecDepth 100000 in
theorem v_isOver_cg {κ κ' : Nat → Nat → Int} {s i : Int} (h : ∀ f, [100, 200].elem f = true → ∀ k, κ f k = κ' f k) : v_isOver κ s i = v_isOver κ' s i := by
  have q100 := h 100 rfl
  have q200 := h 200 rfl
  unfold v_isOver
  simp only [q100, q200]
set_option maxRecDepth 100000 in
theorem v_isOver_b (κ : Nat → Nat → Int) (s i : Int) : 0 ≤ v_isOver κ s i ∧ v_isOver κ s i ≤ 1 := by
  unfold v_isOver
  repeat' with_reducible apply b_ite
  all_goals decide
def s_growIfOver (κ : Nat → Nat → Int) (s i : Int) : Nat → Nat → Int := (if (κ 190 (mj s i)) = 1 then (if (i % 2) = s then κ else (if (κ 113 (mj s i)) = 0 then (if (κ 290 (mj s i)) = 1 then (if (v_isOver κ s i) = 0 then κ else (if 64 ≤ (κ 360 ((16 * s) + (8 + (v_kWayOf i))).toNat) then (u2 κ 113 (mj s i) 1) else (u2 (u2 (u2 κ 113 (mj s i) 1) 360 ((16 * s) + (8 + (v_kWayOf i))).toNat ((κ 360 ((16 * s) + (8 + (v_kWayOf i))).toNat) + 1)) 405 ((2 * s) + (v_kWayOf i)).toNat 1))) else (if (v_isOverN κ s i) = 0 then κ else (if 64 ≤ (κ 360 ((16 * s) + (8 + (v_kWayOf i))).toNat) then (u2 κ 113 (mj s i) 1) else (u2 (u2 (u2 κ 113 (mj s i) 1) 360 ((16 * s) + (8 + (v_kWayOf i))).toNat ((κ 360 ((16 * s) + (8 + (v_kWayOf i))).toNat) + 1)) 405 ((2 * s) + (v_kWayOf i)).toNat 1)))) else κ)) else (if (i % 2) = s then κ else κ))
set_option maxRecDepth 100000 in
theorem m_growIfOver (hF : mm_F G) (htr : L.stackTraces = false) (hx : kx B bx κ) (hV : kV κ) {s i : Int} {a0 : Nat} (ea0 : a0 = B 3 s.toNat) (h1 : 0 ≤ s) (h2 : s ≤ 1) (h3 : 0 ≤ i) (h4 : i < 256) :
    mm_Met L G SX3_growIfOver [.ref a0, .int (iI i)] (hk G B bx h0 κ) 0 0 (mRetS none (hk G B bx h0 (s_growIfOver κ s i)) (kx B bx (s_growIfOver κ s i) ∧ kV (s_growIfOver κ s i))) mm_no := by
  refine mi_meth MX3_growIfOver 400 hF htr okX3_growIfOver (av := [aR a0, aI i]) (by decide +kernel) (Nat.le_of_ble_eq_true rfl) cmX3_growIfOver (fun θ hc => ?_)
  refine ⟨_, hk_o3 hx (show s.toNat < 2 from by omega) ea0, aR (B 16 s.toNat), rfl, ?_⟩
  refine (Decidable.em ((κ 190 (mj s i)) = 1)).elim (fun e1 => ?_) (fun e1 => ?_)
  · refine ⟨256, _, some (B 1 (mj s i)), hk_rs hx (show s.toNat < 2 from by omega) rfl, by omega, ka_y (f := 190) (t := 1) (s := s) (i := i) (by omega) (by omega) (by omega) (e1), ?_⟩
    refine ⟨by omega, ?_⟩
    refine mi_nl [(2, aR (B 1 (mj s i))), (0, aR (a0)), (1, aI i)] rfl ?_
    refine ⟨_, hk_o3 hx (show s.toNat < 2 from by omega) ea0, aI s, congrArg aI (Int.toNat_of_nonneg (by omega)), ?_⟩
    refine ⟨by omega, fun (e2 : (i % 2) = s) => ?_, fun (e2 : ¬ ((i % 2) = s)) => ?_⟩
    · exact ⟨kRetVS  (by first | exact (if_pos e1).trans (if_pos e2) | (unfold s_growIfOver; rw [if_pos e1, if_pos e2])) hx hV, Nat.le_refl _, Nat.le_refl _⟩
    · refine ⟨_, hk_o1 hx (show κ 190 (mj s i) = 1 from e1) rfl, aI (κ 113 (mj s i)), rfl, ?_⟩
      have t3 := (show 0 ≤ κ 113 (mj s i) ∧ κ 113 (mj s i) ≤ 1 from hV.g 113 (mj s i) rfl)
      refine ⟨by omega, fun (e4 : ¬ ((κ 113 (mj s i)) = 0)) => ?_, fun (e4 : (κ 113 (mj s i)) = 0) => ?_⟩
      · exact ⟨kRetVS  (by first | exact (if_pos e1).trans ((if_neg e2).trans (if_neg e4)) | (unfold s_growIfOver; rw [if_pos e1, if_neg e2, if_neg e4])) hx hV, Nat.le_refl _, Nat.le_refl _⟩
      · refine ⟨_, hk_o3 hx (show s.toNat < 2 from by omega) ea0, aR (B 15 s.toNat), rfl, ?_⟩
        refine (Decidable.em ((κ 290 (mj s i)) = 1)).elim (fun e5 => ?_) (fun e5 => ?_)
        · refine ⟨256, _, some (B 2 (mj s i)), hk_ss hx (show s.toNat < 2 from by omega) rfl, by omega, ka_y (f := 290) (t := 2) (s := s) (i := i) (by omega) (by omega) (by omega) (e5), ?_⟩
          refine ⟨_, _, _, _, (m_isOver hF htr hx hV (s := s) (i := i) rfl rfl (show κ 190 (mj s i) = 1 from e1) (show κ 290 (mj s i) = 1 from e5)), Nat.le_refl _, Nat.le_refl _, mki_ (r := some (aI (v_isOver κ s i))) ?_, fun _ _ q => q.elim⟩
          have t6 := v_isOver_b κ s i
          refine ⟨by omega, fun (e7 : ¬ ((v_isOver κ s i) = 0)) => ?_, fun (e7 : (v_isOver κ s i) = 0) => ?_⟩
          · refine ⟨_, hk_o1 hx (show κ 190 (mj s i) = 1 from e1) rfl, (show 1 = 0 ∨ 1 = 1 from by omega), _, kp_113 hx (show κ 190 (mj s i) = 1 from e1) (v := 1) rfl, ?_⟩
            have hV8 := hV.u (f := 113) (k := (mj s i)) (v := 1) rfl (show 0 ≤ 1 ∧ 1 ≤ 1 from by omega)
            have hx9 := kx_u (f := 113) (k := (mj s i)) (v := 1) rfl hx
            refine ⟨_, _, _, _, (m_kWayOf hF htr hx9 hV8 (i := i) (by omega) (by omega)), Nat.le_refl _, Nat.le_refl _, mki_ (r := some (aI (v_kWayOf i))) ?_, fun _ _ q => q.elim⟩
            have t10 := kWayOf_b (i := i) (by omega)
            refine ⟨_, hk_o3 hx9 (show s.toNat < 2 from by omega) ea0, aR (B 12 s.toNat), rfl, ?_⟩
            refine mi_nl [(3, aI (v_kWayOf i)), (2, aR (B 1 (mj s i))), (0, aR (a0)), (1, aI i)] rfl ?_
            refine ⟨10, _, (κ 360 ((16 * s) + (8 + (v_kWayOf i))).toNat), hk_g hx9 (show s.toNat < 2 from by omega) rfl, by omega, (kg_i (s := s) (i := (8 + (v_kWayOf i))) (by omega) (by omega) (by omega)).trans ((u2_f (by decide))), ?_⟩
            have t11 := (show 0 ≤ κ 360 ((16 * s) + (8 + (v_kWayOf i))).toNat ∧ κ 360 ((16 * s) + (8 + (v_kWayOf i))).toNat ≤ 65536 from hV.g 360 ((16 * s) + (8 + (v_kWayOf i))).toNat rfl)
            refine ⟨by omega, fun (e12 : 64 ≤ (κ 360 ((16 * s) + (8 + (v_kWayOf i))).toNat)) => ?_, fun (e12 : ¬ (64 ≤ (κ 360 ((16 * s) + (8 + (v_kWayOf i))).toNat))) => ?_⟩
            · exact ⟨kRetVS  (by first | exact (if_pos e1).trans ((if_neg e2).trans ((if_pos e4).trans ((if_pos e5).trans ((if_neg e7).trans (if_pos e12))))) | (unfold s_growIfOver; rw [if_pos e1, if_neg e2, if_pos e4, if_pos e5, if_neg e7, if_pos e12])) hx9 hV8, Nat.le_refl _, Nat.le_refl _⟩
            · refine ⟨_, hk_o3 hx9 (show s.toNat < 2 from by omega) ea0, aR (B 12 s.toNat), rfl, ?_⟩
              refine ⟨10, _, (κ 360 ((16 * s) + (8 + (v_kWayOf i))).toNat), hk_g hx9 (show s.toNat < 2 from by omega) rfl, by omega, (kg_i (s := s) (i := (8 + (v_kWayOf i))) (by omega) (by omega) (by omega)).trans ((u2_f (by decide))), ?_⟩
              refine ⟨10, _, _, hk_g hx9 (show s.toNat < 2 from by omega) rfl, by omega, trivial, kp_g hx9 (s := s) (i := (8 + (v_kWayOf i))) (v := ((κ 360 ((16 * s) + (8 + (v_kWayOf i))).toNat) + 1)) (by omega) (by omega) (by omega) (by omega) rfl, ?_⟩
              have hV13 := hV8.u (f := 360) (k := ((16 * s) + (8 + (v_kWayOf i))).toNat) (v := ((κ 360 ((16 * s) + (8 + (v_kWayOf i))).toNat) + 1)) rfl (show 0 ≤ ((κ 360 ((16 * s) + (8 + (v_kWayOf i))).toNat) + 1) ∧ ((κ 360 ((16 * s) + (8 + (v_kWayOf i))).toNat) + 1) ≤ 65536 from by omega)
              have hx14 := kx_u (f := 360) (k := ((16 * s) + (8 + (v_kWayOf i))).toNat) (v := ((κ 360 ((16 * s) + (8 + (v_kWayOf i))).toNat) + 1)) rfl hx9
              refine ⟨_, hk_o3 hx14 (show s.toNat < 2 from by omega) ea0, aR (B 14 s.toNat), rfl, ?_⟩
              refine ⟨2, _, some (B 4 ((2 * s) + (v_kWayOf i)).toNat), hk_ways hx14 (show s.toNat < 2 from by omega) rfl, by omega, ka_4 (s := s) (i := (v_kWayOf i)) (by omega) (by omega) (by omega), ?_⟩
              refine ⟨_, hk_o4 hx14 (show ((2 * s) + (v_kWayOf i)).toNat < 4 from by omega) rfl, (show 1 = 0 ∨ 1 = 1 from by omega), _, kp_405 hx14 (show ((2 * s) + (v_kWayOf i)).toNat < 4 from by omega) (v := 1) rfl, ?_⟩
              have hV15 := hV13.u (f := 405) (k := ((2 * s) + (v_kWayOf i)).toNat) (v := 1) rfl (show 0 ≤ 1 ∧ 1 ≤ 1 from by omega)
              have hx16 := kx_u (f := 405) (k := ((2 * s) + (v_kWayOf i)).toNat) (v := 1) rfl hx14
              exact ⟨kRetVS  (by first | exact (if_pos e1).trans ((if_neg e2).trans ((if_pos e4).trans ((if_pos e5).trans ((if_neg e7).trans (if_neg e12))))) | (unfold s_growIfOver; rw [if_pos e1, if_neg e2, if_pos e4, if_pos e5, if_neg e7, if_neg e12])) hx16 hV15, Nat.le_refl _, Nat.le_refl _⟩
          · exact ⟨kRetVS  (by first | exact (if_pos e1).trans ((if_neg e2).trans ((if_pos e4).trans ((if_pos e5).trans (if_pos e7)))) | (unfold s_growIfOver; rw [if_pos e1, if_neg e2, if_pos e4, if_pos e5, if_pos e7])) hx hV, Nat.le_refl _, Nat.le_refl _⟩
        · refine ⟨256, _, none, hk_ss hx (show s.toNat < 2 from by omega) rfl, by omega, ka_n (f := 290) (t := 2) (s := s) (i := i) (by omega) (by omega) (by omega) e5, ?_⟩
          refine ⟨_, _, _, _, (m_isOverN hF htr hx hV (s := s) (i := i) rfl (show κ 190 (mj s i) = 1 from e1)), Nat.le_refl _, Nat.le_refl _, mki_ (r := some (aI (v_isOverN κ s i))) ?_, fun _ _ q => q.elim⟩
          have t17 := v_isOverN_b κ s i
          refine ⟨by omega, fun (e18 : ¬ ((v_isOverN κ s i) = 0)) => ?_, fun (e18 : (v_isOverN κ s i) = 0) => ?_⟩
          · refine ⟨_, hk_o1 hx (show κ 190 (mj s i) = 1 from e1) rfl, (show 1 = 0 ∨ 1 = 1 from by omega), _, kp_113 hx (show κ 190 (mj s i) = 1 from e1) (v := 1) rfl, ?_⟩
            have hV19 := hV.u (f := 113) (k := (mj s i)) (v := 1) rfl (show 0 ≤ 1 ∧ 1 ≤ 1 from by omega)
            have hx20 := kx_u (f := 113) (k := (mj s i)) (v := 1) rfl hx
            refine ⟨_, _, _, _, (m_kWayOf hF htr hx20 hV19 (i := i) (by omega) (by omega)), Nat.le_refl _, Nat.le_refl _, mki_ (r := some (aI (v_kWayOf i))) ?_, fun _ _ q => q.elim⟩
            have t21 := kWayOf_b (i := i) (by omega)
            refine ⟨_, hk_o3 hx20 (show s.toNat < 2 from by omega) ea0, aR (B 12 s.toNat), rfl, ?_⟩
            refine mi_nl [(3, aI (v_kWayOf i)), (2, aR (B 1 (mj s i))), (0, aR (a0)), (1, aI i)] rfl ?_
            refine ⟨10, _, (κ 360 ((16 * s) + (8 + (v_kWayOf i))).toNat), hk_g hx20 (show s.toNat < 2 from by omega) rfl, by omega, (kg_i (s := s) (i := (8 + (v_kWayOf i))) (by omega) (by omega) (by omega)).trans ((u2_f (by decide))), ?_⟩
            have t22 := (show 0 ≤ κ 360 ((16 * s) + (8 + (v_kWayOf i))).toNat ∧ κ 360 ((16 * s) + (8 + (v_kWayOf i))).toNat ≤ 65536 from hV.g 360 ((16 * s) + (8 + (v_kWayOf i))).toNat rfl)
            refine ⟨by omega, fun (e23 : 64 ≤ (κ 360 ((16 * s) + (8 + (v_kWayOf i))).toNat)) => ?_, fun (e23 : ¬ (64 ≤ (κ 360 ((16 * s) + (8 + (v_kWayOf i))).toNat))) => ?_⟩
            · exact ⟨kRetVS  (by first | exact (if_pos e1).trans ((if_neg e2).trans ((if_pos e4).trans ((if_neg e5).trans ((if_neg e18).trans (if_pos e23))))) | (unfold s_growIfOver; rw [if_pos e1, if_neg e2, if_pos e4, if_neg e5, if_neg e18, if_pos e23])) hx20 hV19, Nat.le_refl _, Nat.le_refl _⟩
            · refine ⟨_, hk_o3 hx20 (show s.toNat < 2 from by omega) ea0, aR (B 12 s.toNat), rfl, ?_⟩
              refine ⟨10, _, (κ 360 ((16 * s) + (8 + (v_kWayOf i))).toNat), hk_g hx20 (show s.toNat < 2 from by omega) rfl, by omega, (kg_i (s := s) (i := (8 + (v_kWayOf i))) (by omega) (by omega) (by omega)).trans ((u2_f (by decide))), ?_⟩
              refine ⟨10, _, _, hk_g hx20 (show s.toNat < 2 from by omega) rfl, by omega, trivial, kp_g hx20 (s := s) (i := (8 + (v_kWayOf i))) (v := ((κ 360 ((16 * s) + (8 + (v_kWayOf i))).toNat) + 1)) (by omega) (by omega) (by omega) (by omega) rfl, ?_⟩
              have hV24 := hV19.u (f := 360) (k := ((16 * s) + (8 + (v_kWayOf i))).toNat) (v := ((κ 360 ((16 * s) + (8 + (v_kWayOf i))).toNat) + 1)) rfl (show 0 ≤ ((κ 360 ((16 * s) + (8 + (v_kWayOf i))).toNat) + 1) ∧ ((κ 360 ((16 * s) + (8 + (v_kWayOf i))).toNat) + 1) ≤ 65536 from by omega)
              have hx25 := kx_u (f := 360) (k := ((16 * s) + (8 + (v_kWayOf i))).toNat) (v := ((κ 360 ((16 * s) + (8 + (v_kWayOf i))).toNat) + 1)) rfl hx20
              refine ⟨_, hk_o3 hx25 (show s.toNat < 2 from by omega) ea0, aR (B 14 s.toNat), rfl, ?_⟩
              refine ⟨2, _, some (B 4 ((2 * s) + (v_kWayOf i)).toNat), hk_ways hx25 (show s.toNat < 2 from by omega) rfl, by omega, ka_4 (s := s) (i := (v_kWayOf i)) (by omega) (by omega) (by omega), ?_⟩
              refine ⟨_, hk_o4 hx25 (show ((2 * s) + (v_kWayOf i)).toNat < 4 from by omega) rfl, (show 1 = 0 ∨ 1 = 1 from by omega), _, kp_405 hx25 (show ((2 * s) + (v_kWayOf i)).toNat < 4 from by omega) (v := 1) rfl, ?_⟩
              have hV26 := hV24.u (f := 405) (k := ((2 * s) + (v_kWayOf i)).toNat) (v := 1) rfl (show 0 ≤ 1 ∧ 1 ≤ 1 from by omega)
              have hx27 := kx_u (f := 405) (k := ((2 * s) + (v_kWayOf i)).toNat) (v := 1) rfl hx25
              exact ⟨kRetVS  (by first | exact (if_pos e1).trans ((if_neg e2).trans ((if_pos e4).trans ((if_neg e5).trans ((if_neg e18).trans (if_neg e23))))) | (unfold s_growIfOver; rw [if_pos e1, if_neg e2, if_pos e4, if_neg e5, if_neg e18, if_neg e23])) hx27 hV26, Nat.le_refl _, Nat.le_refl _⟩
          · exact ⟨kRetVS  (by first | exact (if_pos e1).trans ((if_neg e2).trans ((if_pos e4).trans ((if_neg e5).trans (if_pos e18)))) | (unfold s_growIfOver; rw [if_pos e1, if_neg e2, if_pos e4, if_neg e5, if_pos e18])) hx hV, Nat.le_refl _, Nat.le_refl _⟩
  · refine ⟨256, _, none, hk_rs hx (show s.toNat < 2 from by omega) rfl, by omega, ka_n (f := 190) (t := 1) (s := s) (i := i) (by omega) (by omega) (by omega) e1, ?_⟩
    refine ⟨by omega, ?_⟩
    refine mi_nl [(2, aN), (0, aR (a0)), (1, aI i)] rfl ?_
    refine ⟨_, hk_o3 hx (show s.toNat < 2 from by omega) ea0, aI s, congrArg aI (Int.toNat_of_nonneg (by omega)), ?_⟩
    refine ⟨by omega, fun (e28 : (i % 2) = s) => ?_, fun (e28 : ¬ ((i % 2) = s)) => ?_⟩
    · exact ⟨kRetVS  (by first | exact (if_neg e1).trans (if_pos e28) | (unfold s_growIfOver; rw [if_neg e1, if_pos e28])) hx hV, Nat.le_refl _, Nat.le_refl _⟩
    · exact ⟨kRetVS  (by first | exact (if_neg e1).trans (if_neg e28) | (unfold s_growIfOver; rw [if_neg e1, if_neg e28])) hx hV, Nat.le_refl _, Nat.le_refl _⟩
set_option maxRecDepth 100000 in
theorem s_growIfOver_fr {f kk : Nat} {s i : Int} (hf : (!([113, 360, 405].elem f)) = true) : s_growIfOver κ s i f kk = κ f kk := by
  have n113 : f ≠ 113 := by rintro rfl; exact absurd hf (by decide)
  have n360 : f ≠ 360 := by rintro rfl; exact absurd hf (by decide)
  have n405 : f ≠ 405 := by rintro rfl; exact absurd hf (by decide)
  have f113 : ∀ (m : Nat → Nat → Int) (a b : Nat) (v : Int), u2 m 113 a v f b = m f b := fun m a b v => u2_f n113
  have f360 : ∀ (m : Nat → Nat → Int) (a b : Nat) (v : Int), u2 m 360 a v f b = m f b := fun m a b v => u2_f n360
  have f405 : ∀ (m : Nat → Nat → Int) (a b : Nat) (v : Int), u2 m 405 a v f b = m f b := fun m a b v => u2_f n405
  unfold s_growIfOver
  repeat' with_reducible apply f_ite
  all_goals first | rfl | simp only [f113, f360, f405]
end KD
