section KB
variable {L : Launch} {G : mmG} {B : Nat → Nat → Nat} {bx : Nat → Option (Nat × Nat)} {h0 : mmH} {κ : Nat → Nat → Int}
def s_setDataN (κ : Nat → Nat → Int) (p u n : Int) : Nat → Nat → Int := (u2 (u2 (u2 κ 7 p.toNat (-1)) 8 p.toNat u) 9 p.toNat n)
set_option maxRecDepth 100000 in
theorem m_setDataN (hF : mm_F G) (htr : L.stackTraces = false) (hx : kx B bx κ) (hV : kV κ) {p u n : Int} {a0 : Nat} (ea0 : a0 = B 0 p.toNat) (hf1 : 0 ≤ p) (hf2 : p ≤ 64) (h1 : 0 ≤ u) (h1a : u ≤ 65536) (h2 : 0 ≤ n) (h2a : n ≤ 2048) :
    mm_Met L G SX0_setData [.ref a0, .null, .int (iI u), .int (iI n)] (hk G B bx h0 κ) 0 0 (mRetS none (hk G B bx h0 (s_setDataN κ p u n)) (kx B bx (s_setDataN κ p u n) ∧ kV (s_setDataN κ p u n))) mm_no := by
  refine mi_meth MX0_setData 400 hF htr okX0_setData (av := [aR a0, aN, aI u, aI n]) (by decide +kernel) (Nat.le_of_ble_eq_true rfl) cmX0_setData (fun θ hc => ?_)
  refine ⟨_, hk_o0 hx (show p.toNat < 65 from by omega) ea0, trivial, _, kp_7n hx (show p.toNat < 65 from by omega) ea0, ?_⟩
  have hV1 := hV.pl (f := 7) (k := p.toNat) (v := -1) rfl (show -1 ≤ (-1) from by omega)
  have hx2 := kx_u (f := 7) (k := p.toNat) (v := -1) rfl hx
  refine ⟨_, hk_o0 hx2 (show p.toNat < 65 from by omega) ea0, trivial, _, kp_8 hx2 (show p.toNat < 65 from by omega) (v := u) ea0, ?_⟩
  have hV3 := hV1.u (f := 8) (k := p.toNat) (v := u) rfl (show 0 ≤ u ∧ u ≤ 65536 from by omega)
  have hx4 := kx_u (f := 8) (k := p.toNat) (v := u) rfl hx2
  refine ⟨_, hk_o0 hx4 (show p.toNat < 65 from by omega) ea0, trivial, _, kp_9 hx4 (show p.toNat < 65 from by omega) (v := n) ea0, ?_⟩
  have hV5 := hV3.u (f := 9) (k := p.toNat) (v := n) rfl (show 0 ≤ n ∧ n ≤ 2048 from by omega)
  have hx6 := kx_u (f := 9) (k := p.toNat) (v := n) rfl hx4
  exact ⟨kRetVS  rfl hx6 hV5, Nat.le_refl _, Nat.le_refl _⟩
set_option maxRecDepth 100000 in
theorem s_setDataN_fr {f kk : Nat} {p u n : Int} (hf : (!([7, 8, 9].elem f)) = true) : s_setDataN κ p u n f kk = κ f kk := by
  have n7 : f ≠ 7 := by rintro rfl; exact absurd hf (by decide)
  have n8 : f ≠ 8 := by rintro rfl; exact absurd hf (by decide)
  have n9 : f ≠ 9 := by rintro rfl; exact absurd hf (by decide)
  have f7 : ∀ (m : Nat → Nat → Int) (a b : Nat) (v : Int), u2 m 7 a v f b = m f b := fun m a b v => u2_f n7
  have f8 : ∀ (m : Nat → Nat → Int) (a b : Nat) (v : Int), u2 m 8 a v f b = m f b := fun m a b v => u2_f n8
  have f9 : ∀ (m : Nat → Nat → Int) (a b : Nat) (v : Int), u2 m 9 a v f b = m f b := fun m a b v => u2_f n9
  unfold s_setDataN
  repeat' with_reducible apply f_ite
  all_goals first | rfl | simp only [f7, f8, f9]
def s_setData (κ : Nat → Nat → Int) (p r u n : Int) : Nat → Nat → Int := (u2 (u2 (u2 κ 7 p.toNat r) 8 p.toNat u) 9 p.toNat n)
set_option maxRecDepth 100000 in
theorem m_setData (hF : mm_F G) (htr : L.stackTraces = false) (hx : kx B bx κ) (hV : kV κ) {p r u n : Int} {a0 a1 : Nat} (ea0 : a0 = B 0 p.toNat) (ea1 : a1 = B 17 r.toNat) (hf1 : 0 ≤ p) (hf2 : p ≤ 64) (hr : 0 ≤ r) (h1 : 0 ≤ u) (h1a : u ≤ 65536) (h2 : 0 ≤ n) (h2a : n ≤ 2048) :
    mm_Met L G SX0_setData [.ref a0, .ref a1, .int (iI u), .int (iI n)] (hk G B bx h0 κ) 0 0 (mRetS none (hk G B bx h0 (s_setData κ p r u n)) (kx B bx (s_setData κ p r u n) ∧ kV (s_setData κ p r u n))) mm_no := by
  refine mi_meth MX0_setData 400 hF htr okX0_setData (av := [aR a0, aR a1, aI u, aI n]) (by decide +kernel) (Nat.le_of_ble_eq_true rfl) cmX0_setData (fun θ hc => ?_)
  refine ⟨_, hk_o0 hx (show p.toNat < 65 from by omega) ea0, trivial, _, (congrArg (fun q => va_up _ _ (some (Sum.inr (0, List.map cv (List.set _ 7 (aR q)))))) (show a1 = _ from ea1)).trans (kp_7 hx (show p.toNat < 65 from by omega) (v := r) (by omega) ea0), ?_⟩
  have hV1 := hV.pl (f := 7) (k := p.toNat) (v := r) rfl (show -1 ≤ r from by omega)
  have hx2 := kx_u (f := 7) (k := p.toNat) (v := r) rfl hx
  refine ⟨_, hk_o0 hx2 (show p.toNat < 65 from by omega) ea0, trivial, _, kp_8 hx2 (show p.toNat < 65 from by omega) (v := u) ea0, ?_⟩
  have hV3 := hV1.u (f := 8) (k := p.toNat) (v := u) rfl (show 0 ≤ u ∧ u ≤ 65536 from by omega)
  have hx4 := kx_u (f := 8) (k := p.toNat) (v := u) rfl hx2
  refine ⟨_, hk_o0 hx4 (show p.toNat < 65 from by omega) ea0, trivial, _, kp_9 hx4 (show p.toNat < 65 from by omega) (v := n) ea0, ?_⟩
  have hV5 := hV3.u (f := 9) (k := p.toNat) (v := n) rfl (show 0 ≤ n ∧ n ≤ 2048 from by omega)
  have hx6 := kx_u (f := 9) (k := p.toNat) (v := n) rfl hx4
  exact ⟨kRetVS  rfl hx6 hV5, Nat.le_refl _, Nat.le_refl _⟩
set_option maxRecDepth 100000 in
theorem s_setData_fr {f kk : Nat} {p r u n : Int} (hf : (!([7, 8, 9].elem f)) = true) : s_setData κ p r u n f kk = κ f kk := by
  have n7 : f ≠ 7 := by rintro rfl; exact absurd hf (by decide)
  have n8 : f ≠ 8 := by rintro rfl; exact absurd hf (by decide)
  have n9 : f ≠ 9 := by rintro rfl; exact absurd hf (by decide)
  have f7 : ∀ (m : Nat → Nat → Int) (a b : Nat) (v : Int), u2 m 7 a v f b = m f b := fun m a b v => u2_f n7
  have f8 : ∀ (m : Nat → Nat → Int) (a b : Nat) (v : Int), u2 m 8 a v f b = m f b := fun m a b v => u2_f n8
  have f9 : ∀ (m : Nat → Nat → Int) (a b : Nat) (v : Int), u2 m 9 a v f b = m f b := fun m a b v => u2_f n9
  unfold s_setData
  repeat' with_reducible apply f_ite
  all_goals first | rfl | simp only [f7, f8, f9]
def v_width  (a : Int) : Int := (if 64 ≤ a then (if 16384 ≤ a then (if 1073741824 ≤ a then 8 else 4) else 2) else 1)
set_option maxRecDepth 100000 in
theorem m_width (hF : mm_F G) (htr : L.stackTraces = false) (hx : kx B bx κ) (hV : kV κ) {a : Int} (h1 : -9223372036854775808 ≤ a) (h1a : a < 9223372036854775808) :
    mm_Met L G SX5_width [.long (iL a)] (hk G B bx h0 κ) 0 0 (mRet (some (.int (iI (v_width a)))) (hk G B bx h0 κ)) mm_no := by
  refine mi_meth MX5_width 400 hF htr okX5_width (av := [aL a]) (by decide +kernel) (Nat.le_of_ble_eq_true rfl) cmX5_width (fun θ hc => ?_)
  refine ⟨64, rfl, ?_⟩
  refine ⟨by omega, fun (e1 : 64 ≤ a) => ?_, fun (e1 : ¬ (64 ≤ a)) => ?_⟩
  · refine ⟨16384, rfl, ?_⟩
    refine ⟨by omega, fun (e2 : 16384 ≤ a) => ?_, fun (e2 : ¬ (16384 ≤ a)) => ?_⟩
    · refine ⟨1073741824, rfl, ?_⟩
      refine ⟨by omega, fun (e3 : 1073741824 ≤ a) => ?_, fun (e3 : ¬ (1073741824 ≤ a)) => ?_⟩
      · exact ⟨kRetI (by first | exact (if_pos e1).trans ((if_pos e2).trans (if_pos e3)) | (unfold v_width; rw [if_pos e1, if_pos e2, if_pos e3])), Nat.le_refl _, Nat.le_refl _⟩
      · exact ⟨kRetI (by first | exact (if_pos e1).trans ((if_pos e2).trans (if_neg e3)) | (unfold v_width; rw [if_pos e1, if_pos e2, if_neg e3])), Nat.le_refl _, Nat.le_refl _⟩
    · exact ⟨kRetI (by first | exact (if_pos e1).trans (if_neg e2) | (unfold v_width; rw [if_pos e1, if_neg e2])), Nat.le_refl _, Nat.le_refl _⟩
  · exact ⟨kRetI (by first | exact if_neg e1 | (unfold v_width; rw [if_neg e1])), Nat.le_refl _, Nat.le_refl _⟩
set_option maxRecDepth 100000 in
theorem v_width_b (a : Int) : 1 ≤ v_width a ∧ v_width a ≤ 8 := by
  unfold v_width
  repeat' with_reducible apply b_ite
  all_goals decide
def v_fits (κ : Nat → Nat → Int) (p t a b c m : Int) : Int := (if t = 4 then (if m < (((1 + (v_width a)) + (v_width b)) + (v_width c)) then 0 else 1) else (if t = 5 then (if m < ((1 + (v_width a)) + (v_width b)) then 0 else 1) else (if t = 17 then (if m < ((1 + (v_width a)) + (v_width b)) then 0 else 1) else (if t = 21 then (if m < ((1 + (v_width a)) + (v_width b)) then 0 else 1) else (if m < (1 + (v_width a)) then 0 else 1)))))
def s_fits (κ : Nat → Nat → Int) (p t a b c m : Int) : Nat → Nat → Int := (if t = 4 then (if m < (((1 + (v_width a)) + (v_width b)) + (v_width c)) then (u2 (u2 (u2 (u2 (u2 (u2 (u2 (u2 (u2 (u2 κ 3 p.toNat t) 4 p.toNat a) 5 p.toNat b) 6 p.toNat c) 7 p.toNat (-1)) 8 p.toNat 0) 9 p.toNat 0) 10 p.toNat (1 + (v_width a))) 10 p.toNat ((1 + (v_width a)) + (v_width b))) 10 p.toNat (((1 + (v_width a)) + (v_width b)) + (v_width c))) else (u2 (u2 (u2 (u2 (u2 (u2 (u2 (u2 (u2 (u2 κ 3 p.toNat t) 4 p.toNat a) 5 p.toNat b) 6 p.toNat c) 7 p.toNat (-1)) 8 p.toNat 0) 9 p.toNat 0) 10 p.toNat (1 + (v_width a))) 10 p.toNat ((1 + (v_width a)) + (v_width b))) 10 p.toNat (((1 + (v_width a)) + (v_width b)) + (v_width c)))) else (if t = 5 then (if m < ((1 + (v_width a)) + (v_width b)) then (u2 (u2 (u2 (u2 (u2 (u2 (u2 (u2 (u2 κ 3 p.toNat t) 4 p.toNat a) 5 p.toNat b) 6 p.toNat c) 7 p.toNat (-1)) 8 p.toNat 0) 9 p.toNat 0) 10 p.toNat (1 + (v_width a))) 10 p.toNat ((1 + (v_width a)) + (v_width b))) else (u2 (u2 (u2 (u2 (u2 (u2 (u2 (u2 (u2 κ 3 p.toNat t) 4 p.toNat a) 5 p.toNat b) 6 p.toNat c) 7 p.toNat (-1)) 8 p.toNat 0) 9 p.toNat 0) 10 p.toNat (1 + (v_width a))) 10 p.toNat ((1 + (v_width a)) + (v_width b)))) else (if t = 17 then (if m < ((1 + (v_width a)) + (v_width b)) then (u2 (u2 (u2 (u2 (u2 (u2 (u2 (u2 (u2 κ 3 p.toNat t) 4 p.toNat a) 5 p.toNat b) 6 p.toNat c) 7 p.toNat (-1)) 8 p.toNat 0) 9 p.toNat 0) 10 p.toNat (1 + (v_width a))) 10 p.toNat ((1 + (v_width a)) + (v_width b))) else (u2 (u2 (u2 (u2 (u2 (u2 (u2 (u2 (u2 κ 3 p.toNat t) 4 p.toNat a) 5 p.toNat b) 6 p.toNat c) 7 p.toNat (-1)) 8 p.toNat 0) 9 p.toNat 0) 10 p.toNat (1 + (v_width a))) 10 p.toNat ((1 + (v_width a)) + (v_width b)))) else (if t = 21 then (if m < ((1 + (v_width a)) + (v_width b)) then (u2 (u2 (u2 (u2 (u2 (u2 (u2 (u2 (u2 κ 3 p.toNat t) 4 p.toNat a) 5 p.toNat b) 6 p.toNat c) 7 p.toNat (-1)) 8 p.toNat 0) 9 p.toNat 0) 10 p.toNat (1 + (v_width a))) 10 p.toNat ((1 + (v_width a)) + (v_width b))) else (u2 (u2 (u2 (u2 (u2 (u2 (u2 (u2 (u2 κ 3 p.toNat t) 4 p.toNat a) 5 p.toNat b) 6 p.toNat c) 7 p.toNat (-1)) 8 p.toNat 0) 9 p.toNat 0) 10 p.toNat (1 + (v_width a))) 10 p.toNat ((1 + (v_width a)) + (v_width b)))) else (if m < (1 + (v_width a)) then (u2 (u2 (u2 (u2 (u2 (u2 (u2 (u2 κ 3 p.toNat t) 4 p.toNat a) 5 p.toNat b) 6 p.toNat c) 7 p.toNat (-1)) 8 p.toNat 0) 9 p.toNat 0) 10 p.toNat (1 + (v_width a))) else (u2 (u2 (u2 (u2 (u2 (u2 (u2 (u2 κ 3 p.toNat t) 4 p.toNat a) 5 p.toNat b) 6 p.toNat c) 7 p.toNat (-1)) 8 p.toNat 0) 9 p.toNat 0) 10 p.toNat (1 + (v_width a))))))))
set_option maxRecDepth 100000 in
theorem m_fits (hF : mm_F G) (htr : L.stackTraces = false) (hx : kx B bx κ) (hV : kV κ) {p t a b c m : Int} {a0 : Nat} (ea0 : a0 = B 0 p.toNat) (hf1 : 0 ≤ p) (hf2 : p ≤ 64) (h1 : 0 ≤ t) (h1a : t ≤ 23) (h2 : 0 ≤ a) (h2a : a ≤ 4611686018427387903) (h3 : 0 ≤ b) (h3a : b ≤ 4611686018427387903) (h4 : 0 ≤ c) (h4a : c ≤ 4611686018427387903) (h5 : -2147483648 ≤ m) (h5a : m < 2147483648) :
    mm_Met L G SX0_fits [.ref a0, .int (iI t), .long (iL a), .long (iL b), .long (iL c), .int (iI m)] (hk G B bx h0 κ) 0 0 (mRetS (some (.int (iI (v_fits κ p t a b c m)))) (hk G B bx h0 (s_fits κ p t a b c m)) (kx B bx (s_fits κ p t a b c m) ∧ kV (s_fits κ p t a b c m) ∧ (fun r _ => r = 0 ∨ r = 1) (v_fits κ p t a b c m) (s_fits κ p t a b c m))) mm_no := by
  refine mi_meth MX0_fits 400 hF htr okX0_fits (av := [aR a0, aI t, aL a, aL b, aL c, aI m]) (by decide +kernel) (Nat.le_of_ble_eq_true rfl) cmX0_fits (fun θ hc => ?_)
  refine ⟨⟨_, hk_o0 hx (show p.toNat < 65 from by omega) ea0⟩, _, _, _, _, (m_setFields hF htr hx hV (p := p) (t := t) (a := a) (b := b) (c := c) ea0 (by omega) (by omega) (by omega) (by omega) (by omega) (by omega) (by omega) (by omega) (by omega) (by omega)), Nat.le_refl _, Nat.le_refl _, mkis_ (r := none) (fun ⟨hx2, hV1⟩ => ?_), fun _ _ q => q.elim⟩
  have hx2 : kx B bx (u2 (u2 (u2 (u2 κ 3 p.toNat t) 4 p.toNat a) 5 p.toNat b) 6 p.toNat c) := hx2
  have hV1 : kV (u2 (u2 (u2 (u2 κ 3 p.toNat t) 4 p.toNat a) 5 p.toNat b) 6 p.toNat c) := hV1
  refine ⟨⟨_, hk_o0 hx2 (show p.toNat < 65 from by omega) ea0⟩, _, _, _, _, (m_setDataN hF htr hx2 hV1 (p := p) (u := 0) (n := 0) ea0 (by omega) (by omega) (by omega) (by omega) (by omega) (by omega)), Nat.le_refl _, Nat.le_refl _, mkis_ (r := none) (fun ⟨hx4, hV3⟩ => ?_), fun _ _ q => q.elim⟩
  have hx4 : kx B bx (u2 (u2 (u2 (u2 (u2 (u2 (u2 κ 3 p.toNat t) 4 p.toNat a) 5 p.toNat b) 6 p.toNat c) 7 p.toNat (-1)) 8 p.toNat 0) 9 p.toNat 0) := hx4
  have hV3 : kV (u2 (u2 (u2 (u2 (u2 (u2 (u2 κ 3 p.toNat t) 4 p.toNat a) 5 p.toNat b) 6 p.toNat c) 7 p.toNat (-1)) 8 p.toNat 0) 9 p.toNat 0) := hV3
  refine ⟨_, _, _, _, (m_width hF htr hx4 hV3 (a := a) (by omega) (by omega)), Nat.le_refl _, Nat.le_refl _, mki_ (r := some (aI (v_width a))) ?_, fun _ _ q => q.elim⟩
  have t5 := v_width_b a
  refine ⟨_, hk_o0 hx4 (show p.toNat < 65 from by omega) ea0, trivial, _, kp_10 hx4 (show p.toNat < 65 from by omega) (v := (1 + (v_width a))) ea0, ?_⟩
  have hV6 := hV3.u (f := 10) (k := p.toNat) (v := (1 + (v_width a))) rfl (show -100 ≤ (1 + (v_width a)) ∧ (1 + (v_width a)) ≤ 3000 from by omega)
  have hx7 := kx_u (f := 10) (k := p.toNat) (v := (1 + (v_width a))) rfl hx4
  refine ⟨_, hk_o0 hx7 (show p.toNat < 65 from by omega) ea0, aI t, congrArg aI (show (u2 (u2 (u2 (u2 (u2 (u2 (u2 (u2 κ 3 p.toNat t) 4 p.toNat a) 5 p.toNat b) 6 p.toNat c) 7 p.toNat (-1)) 8 p.toNat 0) 9 p.toNat 0) 10 p.toNat (1 + (v_width a))) 3 p.toNat = t from (Eq.trans (u2_f (by decide)) (Eq.trans (u2_f (by decide)) (Eq.trans (u2_f (by decide)) (Eq.trans (u2_f (by decide)) (Eq.trans (u2_f (by decide)) (Eq.trans (u2_f (by decide)) (Eq.trans (u2_f (by decide)) (u2_s _ _ _ _))))))))), ?_⟩
  refine ⟨by omega, fun (e8 : t = 4) => ?_, fun (e8 : ¬ (t = 4)) => ?_⟩
  · refine ⟨_, hk_o0 hx7 (show p.toNat < 65 from by omega) ea0, aI (1 + (v_width a)), congrArg aI (show (u2 (u2 (u2 (u2 (u2 (u2 (u2 (u2 κ 3 p.toNat t) 4 p.toNat a) 5 p.toNat b) 6 p.toNat c) 7 p.toNat (-1)) 8 p.toNat 0) 9 p.toNat 0) 10 p.toNat (1 + (v_width a))) 10 p.toNat = (1 + (v_width a)) from (u2_s _ _ _ _)), ?_⟩
    refine ⟨_, _, _, _, (m_width hF htr hx7 hV6 (a := b) (by omega) (by omega)), Nat.le_refl _, Nat.le_refl _, mki_ (r := some (aI (v_width b))) ?_, fun _ _ q => q.elim⟩
    have t9 := v_width_b b
    refine ⟨_, hk_o0 hx7 (show p.toNat < 65 from by omega) ea0, trivial, _, kp_10 hx7 (show p.toNat < 65 from by omega) (v := ((1 + (v_width a)) + (v_width b))) ea0, ?_⟩
    have hV10 := hV6.u (f := 10) (k := p.toNat) (v := ((1 + (v_width a)) + (v_width b))) rfl (show -100 ≤ ((1 + (v_width a)) + (v_width b)) ∧ ((1 + (v_width a)) + (v_width b)) ≤ 3000 from by omega)
    have hx11 := kx_u (f := 10) (k := p.toNat) (v := ((1 + (v_width a)) + (v_width b))) rfl hx7
    refine ⟨_, hk_o0 hx11 (show p.toNat < 65 from by omega) ea0, aI t, congrArg aI (show (u2 (u2 (u2 (u2 (u2 (u2 (u2 (u2 (u2 κ 3 p.toNat t) 4 p.toNat a) 5 p.toNat b) 6 p.toNat c) 7 p.toNat (-1)) 8 p.toNat 0) 9 p.toNat 0) 10 p.toNat (1 + (v_width a))) 10 p.toNat ((1 + (v_width a)) + (v_width b))) 3 p.toNat = t from (Eq.trans (u2_f (by decide)) (Eq.trans (u2_f (by decide)) (Eq.trans (u2_f (by decide)) (Eq.trans (u2_f (by decide)) (Eq.trans (u2_f (by decide)) (Eq.trans (u2_f (by decide)) (Eq.trans (u2_f (by decide)) (Eq.trans (u2_f (by decide)) (u2_s _ _ _ _)))))))))), ?_⟩
    refine ⟨by omega, fun (e : ¬ (t = 4)) => absurd e (by omega), fun _ => ?_⟩
    refine ⟨_, hk_o0 hx11 (show p.toNat < 65 from by omega) ea0, aI ((1 + (v_width a)) + (v_width b)), congrArg aI (show (u2 (u2 (u2 (u2 (u2 (u2 (u2 (u2 (u2 κ 3 p.toNat t) 4 p.toNat a) 5 p.toNat b) 6 p.toNat c) 7 p.toNat (-1)) 8 p.toNat 0) 9 p.toNat 0) 10 p.toNat (1 + (v_width a))) 10 p.toNat ((1 + (v_width a)) + (v_width b))) 10 p.toNat = ((1 + (v_width a)) + (v_width b)) from (u2_s _ _ _ _)), ?_⟩
    refine ⟨_, _, _, _, (m_width hF htr hx11 hV10 (a := c) (by omega) (by omega)), Nat.le_refl _, Nat.le_refl _, mki_ (r := some (aI (v_width c))) ?_, fun _ _ q => q.elim⟩
    have t12 := v_width_b c
    refine ⟨_, hk_o0 hx11 (show p.toNat < 65 from by omega) ea0, trivial, _, kp_10 hx11 (show p.toNat < 65 from by omega) (v := (((1 + (v_width a)) + (v_width b)) + (v_width c))) ea0, ?_⟩
    have hV13 := hV10.u (f := 10) (k := p.toNat) (v := (((1 + (v_width a)) + (v_width b)) + (v_width c))) rfl (show -100 ≤ (((1 + (v_width a)) + (v_width b)) + (v_width c)) ∧ (((1 + (v_width a)) + (v_width b)) + (v_width c)) ≤ 3000 from by omega)
    have hx14 := kx_u (f := 10) (k := p.toNat) (v := (((1 + (v_width a)) + (v_width b)) + (v_width c))) rfl hx11
    refine ⟨_, hk_o0 hx14 (show p.toNat < 65 from by omega) ea0, aI (((1 + (v_width a)) + (v_width b)) + (v_width c)), congrArg aI (show (u2 (u2 (u2 (u2 (u2 (u2 (u2 (u2 (u2 (u2 κ 3 p.toNat t) 4 p.toNat a) 5 p.toNat b) 6 p.toNat c) 7 p.toNat (-1)) 8 p.toNat 0) 9 p.toNat 0) 10 p.toNat (1 + (v_width a))) 10 p.toNat ((1 + (v_width a)) + (v_width b))) 10 p.toNat (((1 + (v_width a)) + (v_width b)) + (v_width c))) 10 p.toNat = (((1 + (v_width a)) + (v_width b)) + (v_width c)) from (u2_s _ _ _ _)), ?_⟩
    refine ⟨by omega, fun (e15 : m < (((1 + (v_width a)) + (v_width b)) + (v_width c))) => ?_, fun (e15 : ¬ (m < (((1 + (v_width a)) + (v_width b)) + (v_width c)))) => ?_⟩
    · exact ⟨(Or.inl rfl), kRetISP (P := fun r _ => r = 0 ∨ r = 1) (by first | exact (if_pos e8).trans (if_pos e15) | (unfold v_fits; rw [if_pos e8, if_pos e15])) (by first | exact (if_pos e8).trans (if_pos e15) | (unfold s_fits; rw [if_pos e8, if_pos e15])) hx14 hV13 (by omega), Nat.le_refl _, Nat.le_refl _⟩
    · exact ⟨(Or.inr rfl), kRetISP (P := fun r _ => r = 0 ∨ r = 1) (by first | exact (if_pos e8).trans (if_neg e15) | (unfold v_fits; rw [if_pos e8, if_neg e15])) (by first | exact (if_pos e8).trans (if_neg e15) | (unfold s_fits; rw [if_pos e8, if_neg e15])) hx14 hV13 (by omega), Nat.le_refl _, Nat.le_refl _⟩
  · refine ⟨_, hk_o0 hx7 (show p.toNat < 65 from by omega) ea0, aI t, congrArg aI (show (u2 (u2 (u2 (u2 (u2 (u2 (u2 (u2 κ 3 p.toNat t) 4 p.toNat a) 5 p.toNat b) 6 p.toNat c) 7 p.toNat (-1)) 8 p.toNat 0) 9 p.toNat 0) 10 p.toNat (1 + (v_width a))) 3 p.toNat = t from (Eq.trans (u2_f (by decide)) (Eq.trans (u2_f (by decide)) (Eq.trans (u2_f (by decide)) (Eq.trans (u2_f (by decide)) (Eq.trans (u2_f (by decide)) (Eq.trans (u2_f (by decide)) (Eq.trans (u2_f (by decide)) (u2_s _ _ _ _))))))))), ?_⟩
    refine ⟨by omega, fun (e16 : t = 5) => ?_, fun (e16 : ¬ (t = 5)) => ?_⟩
    · refine ⟨_, hk_o0 hx7 (show p.toNat < 65 from by omega) ea0, aI (1 + (v_width a)), congrArg aI (show (u2 (u2 (u2 (u2 (u2 (u2 (u2 (u2 κ 3 p.toNat t) 4 p.toNat a) 5 p.toNat b) 6 p.toNat c) 7 p.toNat (-1)) 8 p.toNat 0) 9 p.toNat 0) 10 p.toNat (1 + (v_width a))) 10 p.toNat = (1 + (v_width a)) from (u2_s _ _ _ _)), ?_⟩
      refine ⟨_, _, _, _, (m_width hF htr hx7 hV6 (a := b) (by omega) (by omega)), Nat.le_refl _, Nat.le_refl _, mki_ (r := some (aI (v_width b))) ?_, fun _ _ q => q.elim⟩
      have t17 := v_width_b b
      refine ⟨_, hk_o0 hx7 (show p.toNat < 65 from by omega) ea0, trivial, _, kp_10 hx7 (show p.toNat < 65 from by omega) (v := ((1 + (v_width a)) + (v_width b))) ea0, ?_⟩
      have hV18 := hV6.u (f := 10) (k := p.toNat) (v := ((1 + (v_width a)) + (v_width b))) rfl (show -100 ≤ ((1 + (v_width a)) + (v_width b)) ∧ ((1 + (v_width a)) + (v_width b)) ≤ 3000 from by omega)
      have hx19 := kx_u (f := 10) (k := p.toNat) (v := ((1 + (v_width a)) + (v_width b))) rfl hx7
      refine ⟨_, hk_o0 hx19 (show p.toNat < 65 from by omega) ea0, aI t, congrArg aI (show (u2 (u2 (u2 (u2 (u2 (u2 (u2 (u2 (u2 κ 3 p.toNat t) 4 p.toNat a) 5 p.toNat b) 6 p.toNat c) 7 p.toNat (-1)) 8 p.toNat 0) 9 p.toNat 0) 10 p.toNat (1 + (v_width a))) 10 p.toNat ((1 + (v_width a)) + (v_width b))) 3 p.toNat = t from (Eq.trans (u2_f (by decide)) (Eq.trans (u2_f (by decide)) (Eq.trans (u2_f (by decide)) (Eq.trans (u2_f (by decide)) (Eq.trans (u2_f (by decide)) (Eq.trans (u2_f (by decide)) (Eq.trans (u2_f (by decide)) (Eq.trans (u2_f (by decide)) (u2_s _ _ _ _)))))))))), ?_⟩
      refine ⟨by omega, fun _ => ?_, fun (e : t = 4) => absurd e (by omega)⟩
      refine ⟨_, hk_o0 hx19 (show p.toNat < 65 from by omega) ea0, aI ((1 + (v_width a)) + (v_width b)), congrArg aI (show (u2 (u2 (u2 (u2 (u2 (u2 (u2 (u2 (u2 κ 3 p.toNat t) 4 p.toNat a) 5 p.toNat b) 6 p.toNat c) 7 p.toNat (-1)) 8 p.toNat 0) 9 p.toNat 0) 10 p.toNat (1 + (v_width a))) 10 p.toNat ((1 + (v_width a)) + (v_width b))) 10 p.toNat = ((1 + (v_width a)) + (v_width b)) from (u2_s _ _ _ _)), ?_⟩
      refine ⟨by omega, fun (e20 : m < ((1 + (v_width a)) + (v_width b))) => ?_, fun (e20 : ¬ (m < ((1 + (v_width a)) + (v_width b)))) => ?_⟩
      · exact ⟨(Or.inl rfl), kRetISP (P := fun r _ => r = 0 ∨ r = 1) (by first | exact (if_neg e8).trans ((if_pos e16).trans (if_pos e20)) | (unfold v_fits; rw [if_neg e8, if_pos e16, if_pos e20])) (by first | exact (if_neg e8).trans ((if_pos e16).trans (if_pos e20)) | (unfold s_fits; rw [if_neg e8, if_pos e16, if_pos e20])) hx19 hV18 (by omega), Nat.le_refl _, Nat.le_refl _⟩
      · exact ⟨(Or.inr rfl), kRetISP (P := fun r _ => r = 0 ∨ r = 1) (by first | exact (if_neg e8).trans ((if_pos e16).trans (if_neg e20)) | (unfold v_fits; rw [if_neg e8, if_pos e16, if_neg e20])) (by first | exact (if_neg e8).trans ((if_pos e16).trans (if_neg e20)) | (unfold s_fits; rw [if_neg e8, if_pos e16, if_neg e20])) hx19 hV18 (by omega), Nat.le_refl _, Nat.le_refl _⟩
    · refine ⟨_, hk_o0 hx7 (show p.toNat < 65 from by omega) ea0, aI t, congrArg aI (show (u2 (u2 (u2 (u2 (u2 (u2 (u2 (u2 κ 3 p.toNat t) 4 p.toNat a) 5 p.toNat b) 6 p.toNat c) 7 p.toNat (-1)) 8 p.toNat 0) 9 p.toNat 0) 10 p.toNat (1 + (v_width a))) 3 p.toNat = t from (Eq.trans (u2_f (by decide)) (Eq.trans (u2_f (by decide)) (Eq.trans (u2_f (by decide)) (Eq.trans (u2_f (by decide)) (Eq.trans (u2_f (by decide)) (Eq.trans (u2_f (by decide)) (Eq.trans (u2_f (by decide)) (u2_s _ _ _ _))))))))), ?_⟩
      refine ⟨by omega, fun (e21 : t = 17) => ?_, fun (e21 : ¬ (t = 17)) => ?_⟩
      · refine ⟨_, hk_o0 hx7 (show p.toNat < 65 from by omega) ea0, aI (1 + (v_width a)), congrArg aI (show (u2 (u2 (u2 (u2 (u2 (u2 (u2 (u2 κ 3 p.toNat t) 4 p.toNat a) 5 p.toNat b) 6 p.toNat c) 7 p.toNat (-1)) 8 p.toNat 0) 9 p.toNat 0) 10 p.toNat (1 + (v_width a))) 10 p.toNat = (1 + (v_width a)) from (u2_s _ _ _ _)), ?_⟩
        refine ⟨_, _, _, _, (m_width hF htr hx7 hV6 (a := b) (by omega) (by omega)), Nat.le_refl _, Nat.le_refl _, mki_ (r := some (aI (v_width b))) ?_, fun _ _ q => q.elim⟩
        have t22 := v_width_b b
        refine ⟨_, hk_o0 hx7 (show p.toNat < 65 from by omega) ea0, trivial, _, kp_10 hx7 (show p.toNat < 65 from by omega) (v := ((1 + (v_width a)) + (v_width b))) ea0, ?_⟩
        have hV23 := hV6.u (f := 10) (k := p.toNat) (v := ((1 + (v_width a)) + (v_width b))) rfl (show -100 ≤ ((1 + (v_width a)) + (v_width b)) ∧ ((1 + (v_width a)) + (v_width b)) ≤ 3000 from by omega)
        have hx24 := kx_u (f := 10) (k := p.toNat) (v := ((1 + (v_width a)) + (v_width b))) rfl hx7
        refine ⟨_, hk_o0 hx24 (show p.toNat < 65 from by omega) ea0, aI t, congrArg aI (show (u2 (u2 (u2 (u2 (u2 (u2 (u2 (u2 (u2 κ 3 p.toNat t) 4 p.toNat a) 5 p.toNat b) 6 p.toNat c) 7 p.toNat (-1)) 8 p.toNat 0) 9 p.toNat 0) 10 p.toNat (1 + (v_width a))) 10 p.toNat ((1 + (v_width a)) + (v_width b))) 3 p.toNat = t from (Eq.trans (u2_f (by decide)) (Eq.trans (u2_f (by decide)) (Eq.trans (u2_f (by decide)) (Eq.trans (u2_f (by decide)) (Eq.trans (u2_f (by decide)) (Eq.trans (u2_f (by decide)) (Eq.trans (u2_f (by decide)) (Eq.trans (u2_f (by decide)) (u2_s _ _ _ _)))))))))), ?_⟩
        refine ⟨by omega, fun _ => ?_, fun (e : t = 4) => absurd e (by omega)⟩
        refine ⟨_, hk_o0 hx24 (show p.toNat < 65 from by omega) ea0, aI ((1 + (v_width a)) + (v_width b)), congrArg aI (show (u2 (u2 (u2 (u2 (u2 (u2 (u2 (u2 (u2 κ 3 p.toNat t) 4 p.toNat a) 5 p.toNat b) 6 p.toNat c) 7 p.toNat (-1)) 8 p.toNat 0) 9 p.toNat 0) 10 p.toNat (1 + (v_width a))) 10 p.toNat ((1 + (v_width a)) + (v_width b))) 10 p.toNat = ((1 + (v_width a)) + (v_width b)) from (u2_s _ _ _ _)), ?_⟩
        refine ⟨by omega, fun (e25 : m < ((1 + (v_width a)) + (v_width b))) => ?_, fun (e25 : ¬ (m < ((1 + (v_width a)) + (v_width b)))) => ?_⟩
        · exact ⟨(Or.inl rfl), kRetISP (P := fun r _ => r = 0 ∨ r = 1) (by first | exact (if_neg e8).trans ((if_neg e16).trans ((if_pos e21).trans (if_pos e25))) | (unfold v_fits; rw [if_neg e8, if_neg e16, if_pos e21, if_pos e25])) (by first | exact (if_neg e8).trans ((if_neg e16).trans ((if_pos e21).trans (if_pos e25))) | (unfold s_fits; rw [if_neg e8, if_neg e16, if_pos e21, if_pos e25])) hx24 hV23 (by omega), Nat.le_refl _, Nat.le_refl _⟩
        · exact ⟨(Or.inr rfl), kRetISP (P := fun r _ => r = 0 ∨ r = 1) (by first | exact (if_neg e8).trans ((if_neg e16).trans ((if_pos e21).trans (if_neg e25))) | (unfold v_fits; rw [if_neg e8, if_neg e16, if_pos e21, if_neg e25])) (by first | exact (if_neg e8).trans ((if_neg e16).trans ((if_pos e21).trans (if_neg e25))) | (unfold s_fits; rw [if_neg e8, if_neg e16, if_pos e21, if_neg e25])) hx24 hV23 (by omega), Nat.le_refl _, Nat.le_refl _⟩
      · refine ⟨_, hk_o0 hx7 (show p.toNat < 65 from by omega) ea0, aI t, congrArg aI (show (u2 (u2 (u2 (u2 (u2 (u2 (u2 (u2 κ 3 p.toNat t) 4 p.toNat a) 5 p.toNat b) 6 p.toNat c) 7 p.toNat (-1)) 8 p.toNat 0) 9 p.toNat 0) 10 p.toNat (1 + (v_width a))) 3 p.toNat = t from (Eq.trans (u2_f (by decide)) (Eq.trans (u2_f (by decide)) (Eq.trans (u2_f (by decide)) (Eq.trans (u2_f (by decide)) (Eq.trans (u2_f (by decide)) (Eq.trans (u2_f (by decide)) (Eq.trans (u2_f (by decide)) (u2_s _ _ _ _))))))))), ?_⟩
        refine ⟨by omega, fun (e26 : ¬ (t = 21)) => ?_, fun (e26 : t = 21) => ?_⟩
        · refine ⟨_, hk_o0 hx7 (show p.toNat < 65 from by omega) ea0, aI t, congrArg aI (show (u2 (u2 (u2 (u2 (u2 (u2 (u2 (u2 κ 3 p.toNat t) 4 p.toNat a) 5 p.toNat b) 6 p.toNat c) 7 p.toNat (-1)) 8 p.toNat 0) 9 p.toNat 0) 10 p.toNat (1 + (v_width a))) 3 p.toNat = t from (Eq.trans (u2_f (by decide)) (Eq.trans (u2_f (by decide)) (Eq.trans (u2_f (by decide)) (Eq.trans (u2_f (by decide)) (Eq.trans (u2_f (by decide)) (Eq.trans (u2_f (by decide)) (Eq.trans (u2_f (by decide)) (u2_s _ _ _ _))))))))), ?_⟩
          refine ⟨by omega, fun _ => ?_, fun (e : t = 4) => absurd e (by omega)⟩
          refine ⟨_, hk_o0 hx7 (show p.toNat < 65 from by omega) ea0, aI (1 + (v_width a)), congrArg aI (show (u2 (u2 (u2 (u2 (u2 (u2 (u2 (u2 κ 3 p.toNat t) 4 p.toNat a) 5 p.toNat b) 6 p.toNat c) 7 p.toNat (-1)) 8 p.toNat 0) 9 p.toNat 0) 10 p.toNat (1 + (v_width a))) 10 p.toNat = (1 + (v_width a)) from (u2_s _ _ _ _)), ?_⟩
          refine ⟨by omega, fun (e27 : m < (1 + (v_width a))) => ?_, fun (e27 : ¬ (m < (1 + (v_width a)))) => ?_⟩
          · exact ⟨(Or.inl rfl), kRetISP (P := fun r _ => r = 0 ∨ r = 1) (by first | exact (if_neg e8).trans ((if_neg e16).trans ((if_neg e21).trans ((if_neg e26).trans (if_pos e27)))) | (unfold v_fits; rw [if_neg e8, if_neg e16, if_neg e21, if_neg e26, if_pos e27])) (by first | exact (if_neg e8).trans ((if_neg e16).trans ((if_neg e21).trans ((if_neg e26).trans (if_pos e27)))) | (unfold s_fits; rw [if_neg e8, if_neg e16, if_neg e21, if_neg e26, if_pos e27])) hx7 hV6 (by omega), Nat.le_refl _, Nat.le_refl _⟩
          · exact ⟨(Or.inr rfl), kRetISP (P := fun r _ => r = 0 ∨ r = 1) (by first | exact (if_neg e8).trans ((if_neg e16).trans ((if_neg e21).trans ((if_neg e26).trans (if_neg e27)))) | (unfold v_fits; rw [if_neg e8, if_neg e16, if_neg e21, if_neg e26, if_neg e27])) (by first | exact (if_neg e8).trans ((if_neg e16).trans ((if_neg e21).trans ((if_neg e26).trans (if_neg e27)))) | (unfold s_fits; rw [if_neg e8, if_neg e16, if_neg e21, if_neg e26, if_neg e27])) hx7 hV6 (by omega), Nat.le_refl _, Nat.le_refl _⟩
        · refine ⟨_, hk_o0 hx7 (show p.toNat < 65 from by omega) ea0, aI (1 + (v_width a)), congrArg aI (show (u2 (u2 (u2 (u2 (u2 (u2 (u2 (u2 κ 3 p.toNat t) 4 p.toNat a) 5 p.toNat b) 6 p.toNat c) 7 p.toNat (-1)) 8 p.toNat 0) 9 p.toNat 0) 10 p.toNat (1 + (v_width a))) 10 p.toNat = (1 + (v_width a)) from (u2_s _ _ _ _)), ?_⟩
          refine ⟨_, _, _, _, (m_width hF htr hx7 hV6 (a := b) (by omega) (by omega)), Nat.le_refl _, Nat.le_refl _, mki_ (r := some (aI (v_width b))) ?_, fun _ _ q => q.elim⟩
          have t28 := v_width_b b
          refine ⟨_, hk_o0 hx7 (show p.toNat < 65 from by omega) ea0, trivial, _, kp_10 hx7 (show p.toNat < 65 from by omega) (v := ((1 + (v_width a)) + (v_width b))) ea0, ?_⟩
          have hV29 := hV6.u (f := 10) (k := p.toNat) (v := ((1 + (v_width a)) + (v_width b))) rfl (show -100 ≤ ((1 + (v_width a)) + (v_width b)) ∧ ((1 + (v_width a)) + (v_width b)) ≤ 3000 from by omega)
          have hx30 := kx_u (f := 10) (k := p.toNat) (v := ((1 + (v_width a)) + (v_width b))) rfl hx7
          refine ⟨_, hk_o0 hx30 (show p.toNat < 65 from by omega) ea0, aI t, congrArg aI (show (u2 (u2 (u2 (u2 (u2 (u2 (u2 (u2 (u2 κ 3 p.toNat t) 4 p.toNat a) 5 p.toNat b) 6 p.toNat c) 7 p.toNat (-1)) 8 p.toNat 0) 9 p.toNat 0) 10 p.toNat (1 + (v_width a))) 10 p.toNat ((1 + (v_width a)) + (v_width b))) 3 p.toNat = t from (Eq.trans (u2_f (by decide)) (Eq.trans (u2_f (by decide)) (Eq.trans (u2_f (by decide)) (Eq.trans (u2_f (by decide)) (Eq.trans (u2_f (by decide)) (Eq.trans (u2_f (by decide)) (Eq.trans (u2_f (by decide)) (Eq.trans (u2_f (by decide)) (u2_s _ _ _ _)))))))))), ?_⟩
          refine ⟨by omega, fun _ => ?_, fun (e : t = 4) => absurd e (by omega)⟩
          refine ⟨_, hk_o0 hx30 (show p.toNat < 65 from by omega) ea0, aI ((1 + (v_width a)) + (v_width b)), congrArg aI (show (u2 (u2 (u2 (u2 (u2 (u2 (u2 (u2 (u2 κ 3 p.toNat t) 4 p.toNat a) 5 p.toNat b) 6 p.toNat c) 7 p.toNat (-1)) 8 p.toNat 0) 9 p.toNat 0) 10 p.toNat (1 + (v_width a))) 10 p.toNat ((1 + (v_width a)) + (v_width b))) 10 p.toNat = ((1 + (v_width a)) + (v_width b)) from (u2_s _ _ _ _)), ?_⟩
          refine ⟨by omega, fun (e31 : m < ((1 + (v_width a)) + (v_width b))) => ?_, fun (e31 : ¬ (m < ((1 + (v_width a)) + (v_width b)))) => ?_⟩
          · exact ⟨(Or.inl rfl), kRetISP (P := fun r _ => r = 0 ∨ r = 1) (by first | exact (if_neg e8).trans ((if_neg e16).trans ((if_neg e21).trans ((if_pos e26).trans (if_pos e31)))) | (unfold v_fits; rw [if_neg e8, if_neg e16, if_neg e21, if_pos e26, if_pos e31])) (by first | exact (if_neg e8).trans ((if_neg e16).trans ((if_neg e21).trans ((if_pos e26).trans (if_pos e31)))) | (unfold s_fits; rw [if_neg e8, if_neg e16, if_neg e21, if_pos e26, if_pos e31])) hx30 hV29 (by omega), Nat.le_refl _, Nat.le_refl _⟩
          · exact ⟨(Or.inr rfl), kRetISP (P := fun r _ => r = 0 ∨ r = 1) (by first | exact (if_neg e8).trans ((if_neg e16).trans ((if_neg e21).trans ((if_pos e26).trans (if_neg e31)))) | (unfold v_fits; rw [if_neg e8, if_neg e16, if_neg e21, if_pos e26, if_neg e31])) (by first | exact (if_neg e8).trans ((if_neg e16).trans ((if_neg e21).trans ((if_pos e26).trans (if_neg e31)))) | (unfold s_fits; rw [if_neg e8, if_neg e16, if_neg e21, if_pos e26, if_neg e31])) hx30 hV29 (by omega), Nat.le_refl _, Nat.le_refl _⟩
set_option maxRecDepth 100000 in
theorem s_fits_fr {f kk : Nat} {p t a b c m : Int} (hf : (!([3, 4, 5, 6, 7, 8, 9, 10].elem f)) = true) : s_fits κ p t a b c m f kk = κ f kk := by
  have n3 : f ≠ 3 := by rintro rfl; exact absurd hf (by decide)
  have n4 : f ≠ 4 := by rintro rfl; exact absurd hf (by decide)
  have n5 : f ≠ 5 := by rintro rfl; exact absurd hf (by decide)
  have n6 : f ≠ 6 := by rintro rfl; exact absurd hf (by decide)
  have n7 : f ≠ 7 := by rintro rfl; exact absurd hf (by decide)
  have n8 : f ≠ 8 := by rintro rfl; exact absurd hf (by decide)
  have n9 : f ≠ 9 := by rintro rfl; exact absurd hf (by decide)
  have n10 : f ≠ 10 := by rintro rfl; exact absurd hf (by decide)
  have f3 : ∀ (m : Nat → Nat → Int) (a b : Nat) (v : Int), u2 m 3 a v f b = m f b := fun m a b v => u2_f n3
  have f4 : ∀ (m : Nat → Nat → Int) (a b : Nat) (v : Int), u2 m 4 a v f b = m f b := fun m a b v => u2_f n4
  have f5 : ∀ (m : Nat → Nat → Int) (a b : Nat) (v : Int), u2 m 5 a v f b = m f b := fun m a b v => u2_f n5
  have f6 : ∀ (m : Nat → Nat → Int) (a b : Nat) (v : Int), u2 m 6 a v f b = m f b := fun m a b v => u2_f n6
  have f7 : ∀ (m : Nat → Nat → Int) (a b : Nat) (v : Int), u2 m 7 a v f b = m f b := fun m a b v => u2_f n7
  have f8 : ∀ (m : Nat → Nat → Int) (a b : Nat) (v : Int), u2 m 8 a v f b = m f b := fun m a b v => u2_f n8
  have f9 : ∀ (m : Nat → Nat → Int) (a b : Nat) (v : Int), u2 m 9 a v f b = m f b := fun m a b v => u2_f n9
  have f10 : ∀ (m : Nat → Nat → Int) (a b : Nat) (v : Int), u2 m 10 a v f b = m f b := fun m a b v => u2_f n10
  unfold s_fits
  repeat' with_reducible apply f_ite
  all_goals first | rfl | simp only [f3, f4, f5, f6, f7, f8, f9, f10]
def v_countThatFits (κ : Nat → Nat → Int) (p i u m r : Int) : Int := (if u = 0 then (if ((((1 + (v_width i)) + 0) + (v_width (v_minI m ((r - ((1 + (v_width i)) + 0)) - 1)))) + (v_minI m ((r - ((1 + (v_width i)) + 0)) - 1))) ≤ r then (v_minI m ((r - ((1 + (v_width i)) + 0)) - 1)) else ((v_minI m ((r - ((1 + (v_width i)) + 0)) - 1)) + (-1))) else (if ((((1 + (v_width i)) + (v_width u)) + (v_width (v_minI m ((r - ((1 + (v_width i)) + (v_width u))) - 1)))) + (v_minI m ((r - ((1 + (v_width i)) + (v_width u))) - 1))) ≤ r then (v_minI m ((r - ((1 + (v_width i)) + (v_width u))) - 1)) else ((v_minI m ((r - ((1 + (v_width i)) + (v_width u))) - 1)) + (-1))))
def s_countThatFits (κ : Nat → Nat → Int) (p i u m r : Int) : Nat → Nat → Int := (if u = 0 then (if ((((1 + (v_width i)) + 0) + (v_width (v_minI m ((r - ((1 + (v_width i)) + 0)) - 1)))) + (v_minI m ((r - ((1 + (v_width i)) + 0)) - 1))) ≤ r then (u2 κ 10 p.toNat ((((1 + (v_width i)) + 0) + (v_width (v_minI m ((r - ((1 + (v_width i)) + 0)) - 1)))) + (v_minI m ((r - ((1 + (v_width i)) + 0)) - 1)))) else (u2 κ 10 p.toNat ((((1 + (v_width i)) + 0) + (v_width ((v_minI m ((r - ((1 + (v_width i)) + 0)) - 1)) + (-1)))) + ((v_minI m ((r - ((1 + (v_width i)) + 0)) - 1)) + (-1))))) else (if ((((1 + (v_width i)) + (v_width u)) + (v_width (v_minI m ((r - ((1 + (v_width i)) + (v_width u))) - 1)))) + (v_minI m ((r - ((1 + (v_width i)) + (v_width u))) - 1))) ≤ r then (u2 κ 10 p.toNat ((((1 + (v_width i)) + (v_width u)) + (v_width (v_minI m ((r - ((1 + (v_width i)) + (v_width u))) - 1)))) + (v_minI m ((r - ((1 + (v_width i)) + (v_width u))) - 1)))) else (u2 κ 10 p.toNat ((((1 + (v_width i)) + (v_width u)) + (v_width ((v_minI m ((r - ((1 + (v_width i)) + (v_width u))) - 1)) + (-1)))) + ((v_minI m ((r - ((1 + (v_width i)) + (v_width u))) - 1)) + (-1))))))
set_option maxRecDepth 100000 in
theorem m_countThatFits (hF : mm_F G) (htr : L.stackTraces = false) (hx : kx B bx κ) (hV : kV κ) {p i u m r : Int} {a0 : Nat} (ea0 : a0 = B 0 p.toNat) (hf1 : 0 ≤ p) (hf2 : p ≤ 64) (h1 : 0 ≤ i) (h1a : i < 256) (h2 : 0 ≤ u) (h2a : u ≤ 65536) (h3 : 0 ≤ m) (h3a : m ≤ 65536) (h4 : 1 ≤ r) (h4a : r ≤ 1200) :
    mm_Met L G SX0_countThatFits [.ref a0, .int (iI i), .int (iI u), .int (iI m), .int (iI r)] (hk G B bx h0 κ) 0 0 (mRetS (some (.int (iI (v_countThatFits κ p i u m r)))) (hk G B bx h0 (s_countThatFits κ p i u m r)) (kx B bx (s_countThatFits κ p i u m r) ∧ kV (s_countThatFits κ p i u m r) ∧ (fun v _ => -100 ≤ v ∧ v ≤ m ∧ v ≤ 1200) (v_countThatFits κ p i u m r) (s_countThatFits κ p i u m r))) mm_no := by
  refine mi_meth MX0_countThatFits 400 hF htr okX0_countThatFits (av := [aR a0, aI i, aI u, aI m, aI r]) (by decide +kernel) (Nat.le_of_ble_eq_true rfl) cmX0_countThatFits (fun θ hc => ?_)
  refine ⟨by omega, ?_⟩
  refine ⟨_, _, _, _, (m_width hF htr hx hV (a := i) (by omega) (by omega)), Nat.le_refl _, Nat.le_refl _, mki_ (r := some (aI (v_width i))) ?_, fun _ _ q => q.elim⟩
  have t1 := v_width_b i
  refine ⟨by omega, fun (e2 : ¬ (u = 0)) => ?_, fun (e2 : u = 0) => ?_⟩
  · refine ⟨by omega, ?_⟩
    refine ⟨_, _, _, _, (m_width hF htr hx hV (a := u) (by omega) (by omega)), Nat.le_refl _, Nat.le_refl _, mki_ (r := some (aI (v_width u))) ?_, fun _ _ q => q.elim⟩
    have t3 := v_width_b u
    refine ⟨_, _, _, _, (m_minI hF htr hx hV (a := m) (b := ((r - ((1 + (v_width i)) + (v_width u))) - 1)) (by omega) (by omega) (by omega) (by omega)), Nat.le_refl _, Nat.le_refl _, mki_ (r := some (aI (v_minI m ((r - ((1 + (v_width i)) + (v_width u))) - 1)))) ?_, fun _ _ q => q.elim⟩
    have t4 := minI_b m ((r - ((1 + (v_width i)) + (v_width u))) - 1)
    refine mi_nl [(5, aI ((1 + (v_width i)) + (v_width u))), (0, aR (a0)), (1, aI i), (2, aI u), (3, aI m), (4, aI r)] rfl ?_
    refine ⟨by omega, ?_⟩
    refine mi_nl [(6, aI (v_minI m ((r - ((1 + (v_width i)) + (v_width u))) - 1))), (5, aI ((1 + (v_width i)) + (v_width u))), (0, aR (a0)), (1, aI i), (2, aI u), (3, aI m), (4, aI r)] rfl ?_
    refine ⟨_, _, _, _, (m_width hF htr hx hV (a := (v_minI m ((r - ((1 + (v_width i)) + (v_width u))) - 1))) (by omega) (by omega)), Nat.le_refl _, Nat.le_refl _, mki_ (r := some (aI (v_width (v_minI m ((r - ((1 + (v_width i)) + (v_width u))) - 1))))) ?_, fun _ _ q => q.elim⟩
    have t5 := v_width_b (v_minI m ((r - ((1 + (v_width i)) + (v_width u))) - 1))
    refine ⟨by omega, fun (e6 : ((((1 + (v_width i)) + (v_width u)) + (v_width (v_minI m ((r - ((1 + (v_width i)) + (v_width u))) - 1)))) + (v_minI m ((r - ((1 + (v_width i)) + (v_width u))) - 1))) ≤ r) => ?_, fun (e6 : ¬ (((((1 + (v_width i)) + (v_width u)) + (v_width (v_minI m ((r - ((1 + (v_width i)) + (v_width u))) - 1)))) + (v_minI m ((r - ((1 + (v_width i)) + (v_width u))) - 1))) ≤ r)) => ?_⟩
    · refine ⟨by omega, ?_⟩
      refine ⟨_, _, _, _, (m_width hF htr hx hV (a := (v_minI m ((r - ((1 + (v_width i)) + (v_width u))) - 1))) (by omega) (by omega)), Nat.le_refl _, Nat.le_refl _, mki_ (r := some (aI (v_width (v_minI m ((r - ((1 + (v_width i)) + (v_width u))) - 1))))) ?_, fun _ _ q => q.elim⟩
      refine ⟨_, hk_o0 hx (show p.toNat < 65 from by omega) ea0, trivial, _, kp_10 hx (show p.toNat < 65 from by omega) (v := ((((1 + (v_width i)) + (v_width u)) + (v_width (v_minI m ((r - ((1 + (v_width i)) + (v_width u))) - 1)))) + (v_minI m ((r - ((1 + (v_width i)) + (v_width u))) - 1)))) ea0, ?_⟩
      have hV7 := hV.u (f := 10) (k := p.toNat) (v := ((((1 + (v_width i)) + (v_width u)) + (v_width (v_minI m ((r - ((1 + (v_width i)) + (v_width u))) - 1)))) + (v_minI m ((r - ((1 + (v_width i)) + (v_width u))) - 1)))) rfl (show -100 ≤ ((((1 + (v_width i)) + (v_width u)) + (v_width (v_minI m ((r - ((1 + (v_width i)) + (v_width u))) - 1)))) + (v_minI m ((r - ((1 + (v_width i)) + (v_width u))) - 1))) ∧ ((((1 + (v_width i)) + (v_width u)) + (v_width (v_minI m ((r - ((1 + (v_width i)) + (v_width u))) - 1)))) + (v_minI m ((r - ((1 + (v_width i)) + (v_width u))) - 1))) ≤ 3000 from by omega)
      have hx8 := kx_u (f := 10) (k := p.toNat) (v := ((((1 + (v_width i)) + (v_width u)) + (v_width (v_minI m ((r - ((1 + (v_width i)) + (v_width u))) - 1)))) + (v_minI m ((r - ((1 + (v_width i)) + (v_width u))) - 1)))) rfl hx
      exact ⟨kRetISP (P := fun v _ => -100 ≤ v ∧ v ≤ m ∧ v ≤ 1200) (by first | exact (if_neg e2).trans (if_pos e6) | (unfold v_countThatFits; rw [if_neg e2, if_pos e6])) (by first | exact (if_neg e2).trans (if_pos e6) | (unfold s_countThatFits; rw [if_neg e2, if_pos e6])) hx8 hV7 (by omega), Nat.le_refl _, Nat.le_refl _⟩
    · refine ⟨by omega, ?_⟩
      refine mi_nl [(6, aI ((v_minI m ((r - ((1 + (v_width i)) + (v_width u))) - 1)) + (-1))), (5, aI ((1 + (v_width i)) + (v_width u))), (0, aR (a0)), (1, aI i), (2, aI u), (3, aI m), (4, aI r)] rfl ?_
      refine ⟨_, _, _, _, (m_width hF htr hx hV (a := ((v_minI m ((r - ((1 + (v_width i)) + (v_width u))) - 1)) + (-1))) (by omega) (by omega)), Nat.le_refl _, Nat.le_refl _, mki_ (r := some (aI (v_width ((v_minI m ((r - ((1 + (v_width i)) + (v_width u))) - 1)) + (-1))))) ?_, fun _ _ q => q.elim⟩
      have t9 := v_width_b ((v_minI m ((r - ((1 + (v_width i)) + (v_width u))) - 1)) + (-1))
      refine ⟨_, hk_o0 hx (show p.toNat < 65 from by omega) ea0, trivial, _, kp_10 hx (show p.toNat < 65 from by omega) (v := ((((1 + (v_width i)) + (v_width u)) + (v_width ((v_minI m ((r - ((1 + (v_width i)) + (v_width u))) - 1)) + (-1)))) + ((v_minI m ((r - ((1 + (v_width i)) + (v_width u))) - 1)) + (-1)))) ea0, ?_⟩
      have hV10 := hV.u (f := 10) (k := p.toNat) (v := ((((1 + (v_width i)) + (v_width u)) + (v_width ((v_minI m ((r - ((1 + (v_width i)) + (v_width u))) - 1)) + (-1)))) + ((v_minI m ((r - ((1 + (v_width i)) + (v_width u))) - 1)) + (-1)))) rfl (show -100 ≤ ((((1 + (v_width i)) + (v_width u)) + (v_width ((v_minI m ((r - ((1 + (v_width i)) + (v_width u))) - 1)) + (-1)))) + ((v_minI m ((r - ((1 + (v_width i)) + (v_width u))) - 1)) + (-1))) ∧ ((((1 + (v_width i)) + (v_width u)) + (v_width ((v_minI m ((r - ((1 + (v_width i)) + (v_width u))) - 1)) + (-1)))) + ((v_minI m ((r - ((1 + (v_width i)) + (v_width u))) - 1)) + (-1))) ≤ 3000 from by omega)
      have hx11 := kx_u (f := 10) (k := p.toNat) (v := ((((1 + (v_width i)) + (v_width u)) + (v_width ((v_minI m ((r - ((1 + (v_width i)) + (v_width u))) - 1)) + (-1)))) + ((v_minI m ((r - ((1 + (v_width i)) + (v_width u))) - 1)) + (-1)))) rfl hx
      exact ⟨kRetISP (P := fun v _ => -100 ≤ v ∧ v ≤ m ∧ v ≤ 1200) (by first | exact (if_neg e2).trans (if_neg e6) | (unfold v_countThatFits; rw [if_neg e2, if_neg e6])) (by first | exact (if_neg e2).trans (if_neg e6) | (unfold s_countThatFits; rw [if_neg e2, if_neg e6])) hx11 hV10 (by omega), Nat.le_refl _, Nat.le_refl _⟩
  · refine ⟨_, _, _, _, (m_minI hF htr hx hV (a := m) (b := ((r - ((1 + (v_width i)) + 0)) - 1)) (by omega) (by omega) (by omega) (by omega)), Nat.le_refl _, Nat.le_refl _, mki_ (r := some (aI (v_minI m ((r - ((1 + (v_width i)) + 0)) - 1)))) ?_, fun _ _ q => q.elim⟩
    have t12 := minI_b m ((r - ((1 + (v_width i)) + 0)) - 1)
    refine mi_nl [(5, aI ((1 + (v_width i)) + 0)), (0, aR (a0)), (1, aI i), (2, aI u), (3, aI m), (4, aI r)] rfl ?_
    refine ⟨by omega, ?_⟩
    refine mi_nl [(6, aI (v_minI m ((r - ((1 + (v_width i)) + 0)) - 1))), (5, aI ((1 + (v_width i)) + 0)), (0, aR (a0)), (1, aI i), (2, aI u), (3, aI m), (4, aI r)] rfl ?_
    refine ⟨_, _, _, _, (m_width hF htr hx hV (a := (v_minI m ((r - ((1 + (v_width i)) + 0)) - 1))) (by omega) (by omega)), Nat.le_refl _, Nat.le_refl _, mki_ (r := some (aI (v_width (v_minI m ((r - ((1 + (v_width i)) + 0)) - 1))))) ?_, fun _ _ q => q.elim⟩
    have t13 := v_width_b (v_minI m ((r - ((1 + (v_width i)) + 0)) - 1))
    refine ⟨by omega, fun (e14 : ((((1 + (v_width i)) + 0) + (v_width (v_minI m ((r - ((1 + (v_width i)) + 0)) - 1)))) + (v_minI m ((r - ((1 + (v_width i)) + 0)) - 1))) ≤ r) => ?_, fun (e14 : ¬ (((((1 + (v_width i)) + 0) + (v_width (v_minI m ((r - ((1 + (v_width i)) + 0)) - 1)))) + (v_minI m ((r - ((1 + (v_width i)) + 0)) - 1))) ≤ r)) => ?_⟩
    · refine ⟨by omega, ?_⟩
      refine ⟨_, _, _, _, (m_width hF htr hx hV (a := (v_minI m ((r - ((1 + (v_width i)) + 0)) - 1))) (by omega) (by omega)), Nat.le_refl _, Nat.le_refl _, mki_ (r := some (aI (v_width (v_minI m ((r - ((1 + (v_width i)) + 0)) - 1))))) ?_, fun _ _ q => q.elim⟩
      refine ⟨_, hk_o0 hx (show p.toNat < 65 from by omega) ea0, trivial, _, kp_10 hx (show p.toNat < 65 from by omega) (v := ((((1 + (v_width i)) + 0) + (v_width (v_minI m ((r - ((1 + (v_width i)) + 0)) - 1)))) + (v_minI m ((r - ((1 + (v_width i)) + 0)) - 1)))) ea0, ?_⟩
      have hV15 := hV.u (f := 10) (k := p.toNat) (v := ((((1 + (v_width i)) + 0) + (v_width (v_minI m ((r - ((1 + (v_width i)) + 0)) - 1)))) + (v_minI m ((r - ((1 + (v_width i)) + 0)) - 1)))) rfl (show -100 ≤ ((((1 + (v_width i)) + 0) + (v_width (v_minI m ((r - ((1 + (v_width i)) + 0)) - 1)))) + (v_minI m ((r - ((1 + (v_width i)) + 0)) - 1))) ∧ ((((1 + (v_width i)) + 0) + (v_width (v_minI m ((r - ((1 + (v_width i)) + 0)) - 1)))) + (v_minI m ((r - ((1 + (v_width i)) + 0)) - 1))) ≤ 3000 from by omega)
      have hx16 := kx_u (f := 10) (k := p.toNat) (v := ((((1 + (v_width i)) + 0) + (v_width (v_minI m ((r - ((1 + (v_width i)) + 0)) - 1)))) + (v_minI m ((r - ((1 + (v_width i)) + 0)) - 1)))) rfl hx
      exact ⟨kRetISP (P := fun v _ => -100 ≤ v ∧ v ≤ m ∧ v ≤ 1200) (by first | exact (if_pos e2).trans (if_pos e14) | (unfold v_countThatFits; rw [if_pos e2, if_pos e14])) (by first | exact (if_pos e2).trans (if_pos e14) | (unfold s_countThatFits; rw [if_pos e2, if_pos e14])) hx16 hV15 (by omega), Nat.le_refl _, Nat.le_refl _⟩
    · refine ⟨by omega, ?_⟩
      refine mi_nl [(6, aI ((v_minI m ((r - ((1 + (v_width i)) + 0)) - 1)) + (-1))), (5, aI ((1 + (v_width i)) + 0)), (0, aR (a0)), (1, aI i), (2, aI u), (3, aI m), (4, aI r)] rfl ?_
      refine ⟨_, _, _, _, (m_width hF htr hx hV (a := ((v_minI m ((r - ((1 + (v_width i)) + 0)) - 1)) + (-1))) (by omega) (by omega)), Nat.le_refl _, Nat.le_refl _, mki_ (r := some (aI (v_width ((v_minI m ((r - ((1 + (v_width i)) + 0)) - 1)) + (-1))))) ?_, fun _ _ q => q.elim⟩
      have t17 := v_width_b ((v_minI m ((r - ((1 + (v_width i)) + 0)) - 1)) + (-1))
      refine ⟨_, hk_o0 hx (show p.toNat < 65 from by omega) ea0, trivial, _, kp_10 hx (show p.toNat < 65 from by omega) (v := ((((1 + (v_width i)) + 0) + (v_width ((v_minI m ((r - ((1 + (v_width i)) + 0)) - 1)) + (-1)))) + ((v_minI m ((r - ((1 + (v_width i)) + 0)) - 1)) + (-1)))) ea0, ?_⟩
      have hV18 := hV.u (f := 10) (k := p.toNat) (v := ((((1 + (v_width i)) + 0) + (v_width ((v_minI m ((r - ((1 + (v_width i)) + 0)) - 1)) + (-1)))) + ((v_minI m ((r - ((1 + (v_width i)) + 0)) - 1)) + (-1)))) rfl (show -100 ≤ ((((1 + (v_width i)) + 0) + (v_width ((v_minI m ((r - ((1 + (v_width i)) + 0)) - 1)) + (-1)))) + ((v_minI m ((r - ((1 + (v_width i)) + 0)) - 1)) + (-1))) ∧ ((((1 + (v_width i)) + 0) + (v_width ((v_minI m ((r - ((1 + (v_width i)) + 0)) - 1)) + (-1)))) + ((v_minI m ((r - ((1 + (v_width i)) + 0)) - 1)) + (-1))) ≤ 3000 from by omega)
      have hx19 := kx_u (f := 10) (k := p.toNat) (v := ((((1 + (v_width i)) + 0) + (v_width ((v_minI m ((r - ((1 + (v_width i)) + 0)) - 1)) + (-1)))) + ((v_minI m ((r - ((1 + (v_width i)) + 0)) - 1)) + (-1)))) rfl hx
      exact ⟨kRetISP (P := fun v _ => -100 ≤ v ∧ v ≤ m ∧ v ≤ 1200) (by first | exact (if_pos e2).trans (if_neg e14) | (unfold v_countThatFits; rw [if_pos e2, if_neg e14])) (by first | exact (if_pos e2).trans (if_neg e14) | (unfold s_countThatFits; rw [if_pos e2, if_neg e14])) hx19 hV18 (by omega), Nat.le_refl _, Nat.le_refl _⟩
set_option maxRecDepth 100000 in
theorem s_countThatFits_fr {f kk : Nat} {p i u m r : Int} (hf : (!([10].elem f)) = true) : s_countThatFits κ p i u m r f kk = κ f kk := by
  have n10 : f ≠ 10 := by rintro rfl; exact absurd hf (by decide)
  have f10 : ∀ (m : Nat → Nat → Int) (a b : Nat) (v : Int), u2 m 10 a v f b = m f b := fun m a b v => u2_f n10
  unfold s_countThatFits
  repeat' with_reducible apply f_ite
  all_goals first | rfl | simp only [f10]
def v_streamId (κ : Nat → Nat → Int) (p : Int) : Int := (if (κ 3 p.toNat) = 4 then (if 256 ≤ (κ 4 p.toNat) then -1 else (κ 4 p.toNat)) else (if (κ 3 p.toNat) = 5 then (if 256 ≤ (κ 4 p.toNat) then -1 else (κ 4 p.toNat)) else (if (κ 3 p.toNat) = 8 then (if 256 ≤ (κ 4 p.toNat) then -1 else (κ 4 p.toNat)) else (if (κ 3 p.toNat) = 17 then (if 256 ≤ (κ 4 p.toNat) then -1 else (κ 4 p.toNat)) else (if (κ 3 p.toNat) = 21 then (if 256 ≤ (κ 4 p.toNat) then -1 else (κ 4 p.toNat)) else -1)))))
set_option maxRecDepth 100000 in
theorem m_streamId (hF : mm_F G) (htr : L.stackTraces = false) (hx : kx B bx κ) (hV : kV κ) {p : Int} {a0 : Nat} (ea0 : a0 = B 0 p.toNat) (hf1 : 0 ≤ p) (hf2 : p ≤ 64) :
    mm_Met L G SX0_streamId [.ref a0] (hk G B bx h0 κ) 0 0 (mRet (some (.int (iI (v_streamId κ p)))) (hk G B bx h0 κ)) mm_no := by
  refine mi_meth MX0_streamId 400 hF htr okX0_streamId (av := [aR a0]) (by decide +kernel) (Nat.le_of_ble_eq_true rfl) cmX0_streamId (fun θ hc => ?_)
  refine ⟨_, hk_o0 hx (show p.toNat < 65 from by omega) ea0, aI (κ 3 p.toNat), rfl, ?_⟩
  have t1 := (show 0 ≤ κ 3 p.toNat ∧ κ 3 p.toNat ≤ 23 from hV.g 3 p.toNat rfl)
  refine ⟨by omega, fun (e2 : (κ 3 p.toNat) = 4) => ?_, fun (e2 : ¬ ((κ 3 p.toNat) = 4)) => ?_⟩
  · refine ⟨by omega, fun (e : (1 : Int) = 0) => absurd e (by decide), fun _ => ?_⟩
    refine mi_nl [(1, aI 1), (0, aR (a0))] rfl ?_
    refine ⟨_, hk_o0 hx (show p.toNat < 65 from by omega) ea0, aL (κ 4 p.toNat), rfl, ?_⟩
    have t3 := (show 0 ≤ κ 4 p.toNat ∧ κ 4 p.toNat ≤ 4611686018427387903 from hV.g 4 p.toNat rfl)
    refine ⟨256, rfl, ?_⟩
    refine ⟨by omega, fun (e4 : 256 ≤ (κ 4 p.toNat)) => ?_, fun (e4 : ¬ (256 ≤ (κ 4 p.toNat))) => ?_⟩
    · exact ⟨kRetI (by first | exact (if_pos e2).trans (if_pos e4) | (unfold v_streamId; rw [if_pos e2, if_pos e4])), Nat.le_refl _, Nat.le_refl _⟩
    · refine ⟨_, hk_o0 hx (show p.toNat < 65 from by omega) ea0, aL (κ 4 p.toNat), rfl, ?_⟩
      exact ⟨kRetI (by first | exact (if_pos e2).trans (if_neg e4) | (unfold v_streamId; rw [if_pos e2, if_neg e4])), Nat.le_refl _, Nat.le_refl _⟩
  · refine ⟨_, hk_o0 hx (show p.toNat < 65 from by omega) ea0, aI (κ 3 p.toNat), rfl, ?_⟩
    refine ⟨by omega, fun (e5 : (κ 3 p.toNat) = 5) => ?_, fun (e5 : ¬ ((κ 3 p.toNat) = 5)) => ?_⟩
    · refine ⟨by omega, fun (e : (1 : Int) = 0) => absurd e (by decide), fun _ => ?_⟩
      refine mi_nl [(1, aI 1), (0, aR (a0))] rfl ?_
      refine ⟨_, hk_o0 hx (show p.toNat < 65 from by omega) ea0, aL (κ 4 p.toNat), rfl, ?_⟩
      have t6 := (show 0 ≤ κ 4 p.toNat ∧ κ 4 p.toNat ≤ 4611686018427387903 from hV.g 4 p.toNat rfl)
      refine ⟨256, rfl, ?_⟩
      refine ⟨by omega, fun (e7 : 256 ≤ (κ 4 p.toNat)) => ?_, fun (e7 : ¬ (256 ≤ (κ 4 p.toNat))) => ?_⟩
      · exact ⟨kRetI (by first | exact (if_neg e2).trans ((if_pos e5).trans (if_pos e7)) | (unfold v_streamId; rw [if_neg e2, if_pos e5, if_pos e7])), Nat.le_refl _, Nat.le_refl _⟩
      · refine ⟨_, hk_o0 hx (show p.toNat < 65 from by omega) ea0, aL (κ 4 p.toNat), rfl, ?_⟩
        exact ⟨kRetI (by first | exact (if_neg e2).trans ((if_pos e5).trans (if_neg e7)) | (unfold v_streamId; rw [if_neg e2, if_pos e5, if_neg e7])), Nat.le_refl _, Nat.le_refl _⟩
    · refine ⟨_, hk_o0 hx (show p.toNat < 65 from by omega) ea0, aI (κ 3 p.toNat), rfl, ?_⟩
      refine ⟨by omega, fun (e8 : (κ 3 p.toNat) = 8) => ?_, fun (e8 : ¬ ((κ 3 p.toNat) = 8)) => ?_⟩
      · refine ⟨by omega, fun (e : (1 : Int) = 0) => absurd e (by decide), fun _ => ?_⟩
        refine mi_nl [(1, aI 1), (0, aR (a0))] rfl ?_
        refine ⟨_, hk_o0 hx (show p.toNat < 65 from by omega) ea0, aL (κ 4 p.toNat), rfl, ?_⟩
        have t9 := (show 0 ≤ κ 4 p.toNat ∧ κ 4 p.toNat ≤ 4611686018427387903 from hV.g 4 p.toNat rfl)
        refine ⟨256, rfl, ?_⟩
        refine ⟨by omega, fun (e10 : 256 ≤ (κ 4 p.toNat)) => ?_, fun (e10 : ¬ (256 ≤ (κ 4 p.toNat))) => ?_⟩
        · exact ⟨kRetI (by first | exact (if_neg e2).trans ((if_neg e5).trans ((if_pos e8).trans (if_pos e10))) | (unfold v_streamId; rw [if_neg e2, if_neg e5, if_pos e8, if_pos e10])), Nat.le_refl _, Nat.le_refl _⟩
        · refine ⟨_, hk_o0 hx (show p.toNat < 65 from by omega) ea0, aL (κ 4 p.toNat), rfl, ?_⟩
          exact ⟨kRetI (by first | exact (if_neg e2).trans ((if_neg e5).trans ((if_pos e8).trans (if_neg e10))) | (unfold v_streamId; rw [if_neg e2, if_neg e5, if_pos e8, if_neg e10])), Nat.le_refl _, Nat.le_refl _⟩
      · refine ⟨_, hk_o0 hx (show p.toNat < 65 from by omega) ea0, aI (κ 3 p.toNat), rfl, ?_⟩
        refine ⟨by omega, fun (e11 : (κ 3 p.toNat) = 17) => ?_, fun (e11 : ¬ ((κ 3 p.toNat) = 17)) => ?_⟩
        · refine ⟨by omega, fun (e : (1 : Int) = 0) => absurd e (by decide), fun _ => ?_⟩
          refine mi_nl [(1, aI 1), (0, aR (a0))] rfl ?_
          refine ⟨_, hk_o0 hx (show p.toNat < 65 from by omega) ea0, aL (κ 4 p.toNat), rfl, ?_⟩
          have t12 := (show 0 ≤ κ 4 p.toNat ∧ κ 4 p.toNat ≤ 4611686018427387903 from hV.g 4 p.toNat rfl)
          refine ⟨256, rfl, ?_⟩
          refine ⟨by omega, fun (e13 : 256 ≤ (κ 4 p.toNat)) => ?_, fun (e13 : ¬ (256 ≤ (κ 4 p.toNat))) => ?_⟩
          · exact ⟨kRetI (by first | exact (if_neg e2).trans ((if_neg e5).trans ((if_neg e8).trans ((if_pos e11).trans (if_pos e13)))) | (unfold v_streamId; rw [if_neg e2, if_neg e5, if_neg e8, if_pos e11, if_pos e13])), Nat.le_refl _, Nat.le_refl _⟩
          · refine ⟨_, hk_o0 hx (show p.toNat < 65 from by omega) ea0, aL (κ 4 p.toNat), rfl, ?_⟩
            exact ⟨kRetI (by first | exact (if_neg e2).trans ((if_neg e5).trans ((if_neg e8).trans ((if_pos e11).trans (if_neg e13)))) | (unfold v_streamId; rw [if_neg e2, if_neg e5, if_neg e8, if_pos e11, if_neg e13])), Nat.le_refl _, Nat.le_refl _⟩
        · refine ⟨_, hk_o0 hx (show p.toNat < 65 from by omega) ea0, aI (κ 3 p.toNat), rfl, ?_⟩
          refine ⟨by omega, fun (e14 : ¬ ((κ 3 p.toNat) = 21)) => ?_, fun (e14 : (κ 3 p.toNat) = 21) => ?_⟩
          · refine ⟨by omega, fun _ => ?_, fun (e : ¬ ((0 : Int) = 0)) => (e (by decide)).elim⟩
            refine mi_nl [(1, aI 0), (0, aR (a0))] rfl ?_
            exact ⟨kRetI (by first | exact (if_neg e2).trans ((if_neg e5).trans ((if_neg e8).trans ((if_neg e11).trans (if_neg e14)))) | (unfold v_streamId; rw [if_neg e2, if_neg e5, if_neg e8, if_neg e11, if_neg e14])), Nat.le_refl _, Nat.le_refl _⟩
          · refine ⟨by omega, fun (e : (1 : Int) = 0) => absurd e (by decide), fun _ => ?_⟩
            refine mi_nl [(1, aI 1), (0, aR (a0))] rfl ?_
            refine ⟨_, hk_o0 hx (show p.toNat < 65 from by omega) ea0, aL (κ 4 p.toNat), rfl, ?_⟩
            have t15 := (show 0 ≤ κ 4 p.toNat ∧ κ 4 p.toNat ≤ 4611686018427387903 from hV.g 4 p.toNat rfl)
            refine ⟨256, rfl, ?_⟩
            refine ⟨by omega, fun (e16 : 256 ≤ (κ 4 p.toNat)) => ?_, fun (e16 : ¬ (256 ≤ (κ 4 p.toNat))) => ?_⟩
            · exact ⟨kRetI (by first | exact (if_neg e2).trans ((if_neg e5).trans ((if_neg e8).trans ((if_neg e11).trans ((if_pos e14).trans (if_pos e16))))) | (unfold v_streamId; rw [if_neg e2, if_neg e5, if_neg e8, if_neg e11, if_pos e14, if_pos e16])), Nat.le_refl _, Nat.le_refl _⟩
            · refine ⟨_, hk_o0 hx (show p.toNat < 65 from by omega) ea0, aL (κ 4 p.toNat), rfl, ?_⟩
              exact ⟨kRetI (by first | exact (if_neg e2).trans ((if_neg e5).trans ((if_neg e8).trans ((if_neg e11).trans ((if_pos e14).trans (if_neg e16))))) | (unfold v_streamId; rw [if_neg e2, if_neg e5, if_neg e8, if_neg e11, if_pos e14, if_neg e16])), Nat.le_refl _, Nat.le_refl _⟩
set_option maxRecDepth 100000 in
theorem v_streamId_cg {κ κ' : Nat → Nat → Int} {p : Int} (h : ∀ f, [3, 4].elem f = true → ∀ k, κ f k = κ' f k) : v_streamId κ p = v_streamId κ' p := by
  have q3 := h 3 rfl
  have q4 := h 4 rfl
  unfold v_streamId
  simp only [q3, q4]
theorem streamId_b (hV : kV κ) {p : Int} : -1 ≤ v_streamId κ p ∧ v_streamId κ p < 256 := by
  have := hV.l 4 p.toNat
  have : 0 ≤ κ 4 p.toNat := this
  unfold v_streamId
  repeat' split
  all_goals omega
def v_sHasUnsent (κ : Nat → Nat → Int) (s i : Int) : Int := (if (v_sLive κ s i) = 0 then 0 else (if (κ 203 (mj s i)) ≤ (κ 204 (mj s i)) then 0 else 1))
set_option maxRecDepth 100000 in
theorem m_sHasUnsent (hF : mm_F G) (htr : L.stackTraces = false) (hx : kx B bx κ) (hV : kV κ) {s i : Int} {a0 : Nat} (ea0 : a0 = B 2 (mj s i)) (hp : κ 290 (mj s i) = 1) :
    mm_Met L G SX2_hasUnsent [.ref a0] (hk G B bx h0 κ) 0 0 (mRet (some (.int (iI (v_sHasUnsent κ s i)))) (hk G B bx h0 κ)) mm_no := by
  refine mi_meth MX2_hasUnsent 400 hF htr okX2_hasUnsent (av := [aR a0]) (by decide +kernel) (Nat.le_of_ble_eq_true rfl) cmX2_hasUnsent (fun θ hc => ?_)
  refine ⟨⟨_, hk_o2 hx (show κ 290 (mj s i) = 1 from hp) ea0⟩, _, _, _, _, (m_sLive hF htr hx hV (s := s) (i := i) ea0 (show κ 290 (mj s i) = 1 from hp)), Nat.le_refl _, Nat.le_refl _, mki_ (r := some (aI (v_sLive κ s i))) ?_, fun _ _ q => q.elim⟩
  have t1 := v_sLive_b κ s i
  refine ⟨by omega, fun (e2 : (v_sLive κ s i) = 0) => ?_, fun (e2 : ¬ ((v_sLive κ s i) = 0)) => ?_⟩
  · exact ⟨(Or.inl rfl), kRetI (by first | exact if_pos e2 | (unfold v_sHasUnsent; rw [if_pos e2])), Nat.le_refl _, Nat.le_refl _⟩
  · refine ⟨_, hk_o2 hx (show κ 290 (mj s i) = 1 from hp) ea0, aI (κ 203 (mj s i)), rfl, ?_⟩
    have t3 := (show 0 ≤ κ 203 (mj s i) ∧ κ 203 (mj s i) ≤ 65536 from hV.g 203 (mj s i) rfl)
    refine ⟨_, hk_o2 hx (show κ 290 (mj s i) = 1 from hp) ea0, aI (κ 204 (mj s i)), rfl, ?_⟩
    have t4 := (show 0 ≤ κ 204 (mj s i) ∧ κ 204 (mj s i) ≤ 65536 from hV.g 204 (mj s i) rfl)
    refine ⟨by omega, fun (e5 : (κ 203 (mj s i)) ≤ (κ 204 (mj s i))) => ?_, fun (e5 : ¬ ((κ 203 (mj s i)) ≤ (κ 204 (mj s i)))) => ?_⟩
    · exact ⟨(Or.inl rfl), kRetI (by first | exact (if_neg e2).trans (if_pos e5) | (unfold v_sHasUnsent; rw [if_neg e2, if_pos e5])), Nat.le_refl _, Nat.le_refl _⟩
    · exact ⟨(Or.inr rfl), kRetI (by first | exact (if_neg e2).trans (if_neg e5) | (unfold v_sHasUnsent; rw [if_neg e2, if_neg e5])), Nat.le_refl _, Nat.le_refl _⟩
set_option maxRecDepth 100000 in
theorem v_sHasUnsent_cg {κ κ' : Nat → Nat → Int} {s i : Int} (h : ∀ f, [200, 203, 204].elem f = true → ∀ k, κ f k = κ' f k) : v_sHasUnsent κ s i = v_sHasUnsent κ' s i := by
  have q200 := h 200 rfl
  have q203 := h 203 rfl
  have q204 := h 204 rfl
  have c_X2_isLive : ∀ (z_s z_i : Int), v_sLive κ z_s z_i = v_sLive κ' z_s z_i := fun _ _ => v_sLive_cg (fun f hf k => h f (by simp only [List.elem_eq_mem, decide_eq_true_eq, List.mem_cons, List.not_mem_nil, or_false] at hf ⊢; omega) k)
  unfold v_sHasUnsent
  simp only [q200, q203, q204, c_X2_isLive]
set_option maxRecDepth 100000 in
theorem v_sHasUnsent_b (κ : Nat → Nat → Int) (s i : Int) : 0 ≤ v_sHasUnsent κ s i ∧ v_sHasUnsent κ s i ≤ 1 := by
  unfold v_sHasUnsent
  repeat' with_reducible apply b_ite
  all_goals decide
def v_owesEnd (κ : Nat → Nat → Int) (s i : Int) : Int := (if (κ 200 (mj s i)) = 1 then (if (κ 204 (mj s i)) = (κ 203 (mj s i)) then (if (κ 207 (mj s i)) = 1 then 1 else (if (κ 207 (mj s i)) = 3 then 1 else 0)) else 0) else 0)
set_option maxRecDepth 100000 in
theorem m_owesEnd (hF : mm_F G) (htr : L.stackTraces = false) (hx : kx B bx κ) (hV : kV κ) {s i : Int} {a0 : Nat} (ea0 : a0 = B 2 (mj s i)) (hp : κ 290 (mj s i) = 1) :
    mm_Met L G SX2_owesEnd [.ref a0] (hk G B bx h0 κ) 0 0 (mRet (some (.int (iI (v_owesEnd κ s i)))) (hk G B bx h0 κ)) mm_no := by
  refine mi_meth MX2_owesEnd 400 hF htr okX2_owesEnd (av := [aR a0]) (by decide +kernel) (Nat.le_of_ble_eq_true rfl) cmX2_owesEnd (fun θ hc => ?_)
  refine ⟨_, hk_o2 hx (show κ 290 (mj s i) = 1 from hp) ea0, aI (κ 200 (mj s i)), rfl, ?_⟩
  have t1 := (show 0 ≤ κ 200 (mj s i) ∧ κ 200 (mj s i) ≤ 4 from hV.g 200 (mj s i) rfl)
  refine ⟨by omega, fun (e2 : ¬ ((κ 200 (mj s i)) = 1)) => ?_, fun (e2 : (κ 200 (mj s i)) = 1) => ?_⟩
  · exact ⟨(Or.inl rfl), kRetI (by first | exact if_neg e2 | (unfold v_owesEnd; rw [if_neg e2])), Nat.le_refl _, Nat.le_refl _⟩
  · refine ⟨_, hk_o2 hx (show κ 290 (mj s i) = 1 from hp) ea0, aI (κ 204 (mj s i)), rfl, ?_⟩
    have t3 := (show 0 ≤ κ 204 (mj s i) ∧ κ 204 (mj s i) ≤ 65536 from hV.g 204 (mj s i) rfl)
    refine ⟨_, hk_o2 hx (show κ 290 (mj s i) = 1 from hp) ea0, aI (κ 203 (mj s i)), rfl, ?_⟩
    have t4 := (show 0 ≤ κ 203 (mj s i) ∧ κ 203 (mj s i) ≤ 65536 from hV.g 203 (mj s i) rfl)
    refine ⟨by omega, fun (e5 : ¬ ((κ 204 (mj s i)) = (κ 203 (mj s i)))) => ?_, fun (e5 : (κ 204 (mj s i)) = (κ 203 (mj s i))) => ?_⟩
    · exact ⟨(Or.inl rfl), kRetI (by first | exact (if_pos e2).trans (if_neg e5) | (unfold v_owesEnd; rw [if_pos e2, if_neg e5])), Nat.le_refl _, Nat.le_refl _⟩
    · refine ⟨_, hk_o2 hx (show κ 290 (mj s i) = 1 from hp) ea0, aI (κ 207 (mj s i)), rfl, ?_⟩
      have t6 := (show 0 ≤ κ 207 (mj s i) ∧ κ 207 (mj s i) ≤ 4 from hV.g 207 (mj s i) rfl)
      refine ⟨by omega, fun (e7 : (κ 207 (mj s i)) = 1) => ?_, fun (e7 : ¬ ((κ 207 (mj s i)) = 1)) => ?_⟩
      · exact ⟨(Or.inr rfl), kRetI (by first | exact (if_pos e2).trans ((if_pos e5).trans (if_pos e7)) | (unfold v_owesEnd; rw [if_pos e2, if_pos e5, if_pos e7])), Nat.le_refl _, Nat.le_refl _⟩
      · refine ⟨_, hk_o2 hx (show κ 290 (mj s i) = 1 from hp) ea0, aI (κ 207 (mj s i)), rfl, ?_⟩
        refine ⟨by omega, fun (e8 : ¬ ((κ 207 (mj s i)) = 3)) => ?_, fun (e8 : (κ 207 (mj s i)) = 3) => ?_⟩
        · exact ⟨(Or.inl rfl), kRetI (by first | exact (if_pos e2).trans ((if_pos e5).trans ((if_neg e7).trans (if_neg e8))) | (unfold v_owesEnd; rw [if_pos e2, if_pos e5, if_neg e7, if_neg e8])), Nat.le_refl _, Nat.le_refl _⟩
        · exact ⟨(Or.inr rfl), kRetI (by first | exact (if_pos e2).trans ((if_pos e5).trans ((if_neg e7).trans (if_pos e8))) | (unfold v_owesEnd; rw [if_pos e2, if_pos e5, if_neg e7, if_pos e8])), Nat.le_refl _, Nat.le_refl _⟩
set_option maxRecDepth 100000 in
theorem v_owesEnd_cg {κ κ' : Nat → Nat → Int} {s i : Int} (h : ∀ f, [200, 203, 204, 207].elem f = true → ∀ k, κ f k = κ' f k) : v_owesEnd κ s i = v_owesEnd κ' s i := by
  have q200 := h 200 rfl
  have q203 := h 203 rfl
  have q204 := h 204 rfl
  have q207 := h 207 rfl
  unfold v_owesEnd
  simp only [q200, q203, q204, q207]
set_option maxRecDepth 100000 in
theorem v_owesEnd_b (κ : Nat → Nat → Int) (s i : Int) : 0 ≤ v_owesEnd κ s i ∧ v_owesEnd κ s i ≤ 1 := by
  unfold v_owesEnd
  repeat' with_reducible apply b_ite
  all_goals decide
def v_sTell (κ : Nat → Nat → Int) (s i w : Int) : Int := (if w = 0 then (κ 200 (mj s i)) else (if w = 1 then (κ 203 (mj s i)) else (if w = 2 then (κ 204 (mj s i)) else (if w = 3 then (κ 208 (mj s i)) else (if w = 4 then (κ 210 (mj s i)) else (if w = 5 then (κ 205 (mj s i)) else (if w = 6 then (κ 206 (mj s i)) else (κ 207 (mj s i)))))))))
set_option maxRecDepth 100000 in
theorem m_sTell (hF : mm_F G) (htr : L.stackTraces = false) (hx : kx B bx κ) (hV : kV κ) {s i w : Int} {a0 : Nat} (ea0 : a0 = B 2 (mj s i)) (hp : κ 290 (mj s i) = 1) (h5 : 0 ≤ w) (h6 : w ≤ 7) :
    mm_Met L G SX2_tell [.ref a0, .int (iI w)] (hk G B bx h0 κ) 0 0 (mRet (some (.long (iL (v_sTell κ s i w)))) (hk G B bx h0 κ)) mm_no := by
  refine mi_meth MX2_tell 400 hF htr okX2_tell (av := [aR a0, aI w]) (by decide +kernel) (Nat.le_of_ble_eq_true rfl) cmX2_tell (fun θ hc => ?_)
  refine ⟨by omega, ⟨fun (e1 : w = 0) => ?_, fun (e2 : w = 1) => ?_, fun (e3 : w = 2) => ?_, fun (e4 : w = 3) => ?_, fun (e5 : w = 4) => ?_, fun (e6 : w = 5) => ?_, fun (e7 : w = 6) => ?_, trivial⟩, fun (e8 : w < 0 ∨ 6 < w) => ?_⟩
  · refine ⟨_, hk_o2 hx (show κ 290 (mj s i) = 1 from hp) ea0, aI (κ 200 (mj s i)), rfl, ?_⟩
    have t9 := (show 0 ≤ κ 200 (mj s i) ∧ κ 200 (mj s i) ≤ 4 from hV.g 200 (mj s i) rfl)
    refine ⟨by omega, ?_⟩
    exact ⟨kRetL (by first | exact if_pos e1 | (unfold v_sTell; rw [if_pos e1])), Nat.le_refl _, Nat.le_refl _⟩
  · have e1n : ¬ (w = 0) := by omega
    refine ⟨_, hk_o2 hx (show κ 290 (mj s i) = 1 from hp) ea0, aI (κ 203 (mj s i)), rfl, ?_⟩
    have t10 := (show 0 ≤ κ 203 (mj s i) ∧ κ 203 (mj s i) ≤ 65536 from hV.g 203 (mj s i) rfl)
    refine ⟨by omega, ?_⟩
    exact ⟨kRetL (by first | exact (if_neg e1n).trans (if_pos e2) | (unfold v_sTell; rw [if_neg e1n, if_pos e2])), Nat.le_refl _, Nat.le_refl _⟩
  · have e1n : ¬ (w = 0) := by omega
    have e2n : ¬ (w = 1) := by omega
    refine ⟨_, hk_o2 hx (show κ 290 (mj s i) = 1 from hp) ea0, aI (κ 204 (mj s i)), rfl, ?_⟩
    have t11 := (show 0 ≤ κ 204 (mj s i) ∧ κ 204 (mj s i) ≤ 65536 from hV.g 204 (mj s i) rfl)
    refine ⟨by omega, ?_⟩
    exact ⟨kRetL (by first | exact (if_neg e1n).trans ((if_neg e2n).trans (if_pos e3)) | (unfold v_sTell; rw [if_neg e1n, if_neg e2n, if_pos e3])), Nat.le_refl _, Nat.le_refl _⟩
  · have e1n : ¬ (w = 0) := by omega
    have e2n : ¬ (w = 1) := by omega
    have e3n : ¬ (w = 2) := by omega
    refine ⟨_, hk_o2 hx (show κ 290 (mj s i) = 1 from hp) ea0, aL (κ 208 (mj s i)), rfl, ?_⟩
    have t12 := (show 0 ≤ κ 208 (mj s i) ∧ κ 208 (mj s i) ≤ 4611686018427387903 from hV.g 208 (mj s i) rfl)
    exact ⟨kRetL (by first | exact (if_neg e1n).trans ((if_neg e2n).trans ((if_neg e3n).trans (if_pos e4))) | (unfold v_sTell; rw [if_neg e1n, if_neg e2n, if_neg e3n, if_pos e4])), Nat.le_refl _, Nat.le_refl _⟩
  · have e1n : ¬ (w = 0) := by omega
    have e2n : ¬ (w = 1) := by omega
    have e3n : ¬ (w = 2) := by omega
    have e4n : ¬ (w = 3) := by omega
    refine ⟨_, hk_o2 hx (show κ 290 (mj s i) = 1 from hp) ea0, aL (κ 210 (mj s i)), rfl, ?_⟩
    have t13 := (show 0 ≤ κ 210 (mj s i) ∧ κ 210 (mj s i) ≤ 4611686018427387903 from hV.g 210 (mj s i) rfl)
    exact ⟨kRetL (by first | exact (if_neg e1n).trans ((if_neg e2n).trans ((if_neg e3n).trans ((if_neg e4n).trans (if_pos e5)))) | (unfold v_sTell; rw [if_neg e1n, if_neg e2n, if_neg e3n, if_neg e4n, if_pos e5])), Nat.le_refl _, Nat.le_refl _⟩
  · have e1n : ¬ (w = 0) := by omega
    have e2n : ¬ (w = 1) := by omega
    have e3n : ¬ (w = 2) := by omega
    have e4n : ¬ (w = 3) := by omega
    have e5n : ¬ (w = 4) := by omega
    refine ⟨_, hk_o2 hx (show κ 290 (mj s i) = 1 from hp) ea0, aI (κ 205 (mj s i)), rfl, ?_⟩
    have t14 := (show 0 ≤ κ 205 (mj s i) ∧ κ 205 (mj s i) ≤ 65536 from hV.g 205 (mj s i) rfl)
    refine ⟨by omega, ?_⟩
    exact ⟨kRetL (by first | exact (if_neg e1n).trans ((if_neg e2n).trans ((if_neg e3n).trans ((if_neg e4n).trans ((if_neg e5n).trans (if_pos e6))))) | (unfold v_sTell; rw [if_neg e1n, if_neg e2n, if_neg e3n, if_neg e4n, if_neg e5n, if_pos e6])), Nat.le_refl _, Nat.le_refl _⟩
  · have e1n : ¬ (w = 0) := by omega
    have e2n : ¬ (w = 1) := by omega
    have e3n : ¬ (w = 2) := by omega
    have e4n : ¬ (w = 3) := by omega
    have e5n : ¬ (w = 4) := by omega
    have e6n : ¬ (w = 5) := by omega
    refine ⟨_, hk_o2 hx (show κ 290 (mj s i) = 1 from hp) ea0, aI (κ 206 (mj s i)), rfl, ?_⟩
    have t15 := (show 0 ≤ κ 206 (mj s i) ∧ κ 206 (mj s i) ≤ 65536 from hV.g 206 (mj s i) rfl)
    refine ⟨by omega, ?_⟩
    exact ⟨kRetL (by first | exact (if_neg e1n).trans ((if_neg e2n).trans ((if_neg e3n).trans ((if_neg e4n).trans ((if_neg e5n).trans ((if_neg e6n).trans (if_pos e7)))))) | (unfold v_sTell; rw [if_neg e1n, if_neg e2n, if_neg e3n, if_neg e4n, if_neg e5n, if_neg e6n, if_pos e7])), Nat.le_refl _, Nat.le_refl _⟩
  · have e1n : ¬ (w = 0) := by omega
    have e2n : ¬ (w = 1) := by omega
    have e3n : ¬ (w = 2) := by omega
    have e4n : ¬ (w = 3) := by omega
    have e5n : ¬ (w = 4) := by omega
    have e6n : ¬ (w = 5) := by omega
    have e7n : ¬ (w = 6) := by omega
    refine ⟨_, hk_o2 hx (show κ 290 (mj s i) = 1 from hp) ea0, aI (κ 207 (mj s i)), rfl, ?_⟩
    have t16 := (show 0 ≤ κ 207 (mj s i) ∧ κ 207 (mj s i) ≤ 4 from hV.g 207 (mj s i) rfl)
    refine ⟨by omega, ?_⟩
    exact ⟨kRetL (by first | exact (if_neg e1n).trans ((if_neg e2n).trans ((if_neg e3n).trans ((if_neg e4n).trans ((if_neg e5n).trans ((if_neg e6n).trans (if_neg e7n)))))) | (unfold v_sTell; rw [if_neg e1n, if_neg e2n, if_neg e3n, if_neg e4n, if_neg e5n, if_neg e6n, if_neg e7n])), Nat.le_refl _, Nat.le_refl _⟩
def v_rTell (κ : Nat → Nat → Int) (s i w : Int) : Int := (if w = 8 then (κ 100 (mj s i)) else (if w = 9 then (κ 102 (mj s i)) else (if w = 10 then (κ 103 (mj s i)) else (if w = 11 then (κ 104 (mj s i)) else (if w = 12 then (κ 105 (mj s i)) else (if w = 13 then (κ 107 (mj s i)) else (κ 112 (mj s i))))))))
set_option maxRecDepth 100000 in
theorem m_rTell (hF : mm_F G) (htr : L.stackTraces = false) (hx : kx B bx κ) (hV : kV κ) {s i w : Int} {a0 : Nat} (ea0 : a0 = B 1 (mj s i)) (hp : κ 190 (mj s i) = 1) (h5 : 8 ≤ w) (h6 : w ≤ 14) :
    mm_Met L G SX1_tell [.ref a0, .int (iI w)] (hk G B bx h0 κ) 0 0 (mRet (some (.long (iL (v_rTell κ s i w)))) (hk G B bx h0 κ)) mm_no := by
  refine mi_meth MX1_tell 400 hF htr okX1_tell (av := [aR a0, aI w]) (by decide +kernel) (Nat.le_of_ble_eq_true rfl) cmX1_tell (fun θ hc => ?_)
  refine ⟨by omega, ⟨fun (e1 : w = 8) => ?_, fun (e2 : w = 9) => ?_, fun (e3 : w = 10) => ?_, fun (e4 : w = 11) => ?_, fun (e5 : w = 12) => ?_, fun (e6 : w = 13) => ?_, trivial⟩, fun (e7 : w < 8 ∨ 13 < w) => ?_⟩
  · refine ⟨_, hk_o1 hx (show κ 190 (mj s i) = 1 from hp) ea0, aI (κ 100 (mj s i)), rfl, ?_⟩
    have t8 := (show 0 ≤ κ 100 (mj s i) ∧ κ 100 (mj s i) ≤ 4 from hV.g 100 (mj s i) rfl)
    refine ⟨by omega, ?_⟩
    exact ⟨kRetL (by first | exact if_pos e1 | (unfold v_rTell; rw [if_pos e1])), Nat.le_refl _, Nat.le_refl _⟩
  · have e1n : ¬ (w = 8) := by omega
    refine ⟨_, hk_o1 hx (show κ 190 (mj s i) = 1 from hp) ea0, aI (κ 102 (mj s i)), rfl, ?_⟩
    have t9 := (show 0 ≤ κ 102 (mj s i) ∧ κ 102 (mj s i) ≤ 65536 from hV.g 102 (mj s i) rfl)
    refine ⟨by omega, ?_⟩
    exact ⟨kRetL (by first | exact (if_neg e1n).trans (if_pos e2) | (unfold v_rTell; rw [if_neg e1n, if_pos e2])), Nat.le_refl _, Nat.le_refl _⟩
  · have e1n : ¬ (w = 8) := by omega
    have e2n : ¬ (w = 9) := by omega
    refine ⟨_, hk_o1 hx (show κ 190 (mj s i) = 1 from hp) ea0, aI (κ 103 (mj s i)), rfl, ?_⟩
    have t10 := (show 0 ≤ κ 103 (mj s i) ∧ κ 103 (mj s i) ≤ 65536 from hV.g 103 (mj s i) rfl)
    refine ⟨by omega, ?_⟩
    exact ⟨kRetL (by first | exact (if_neg e1n).trans ((if_neg e2n).trans (if_pos e3)) | (unfold v_rTell; rw [if_neg e1n, if_neg e2n, if_pos e3])), Nat.le_refl _, Nat.le_refl _⟩
  · have e1n : ¬ (w = 8) := by omega
    have e2n : ¬ (w = 9) := by omega
    have e3n : ¬ (w = 10) := by omega
    refine ⟨_, hk_o1 hx (show κ 190 (mj s i) = 1 from hp) ea0, aI (κ 104 (mj s i)), rfl, ?_⟩
    have t11 := (show 0 ≤ κ 104 (mj s i) ∧ κ 104 (mj s i) ≤ 65536 from hV.g 104 (mj s i) rfl)
    refine ⟨by omega, ?_⟩
    exact ⟨kRetL (by first | exact (if_neg e1n).trans ((if_neg e2n).trans ((if_neg e3n).trans (if_pos e4))) | (unfold v_rTell; rw [if_neg e1n, if_neg e2n, if_neg e3n, if_pos e4])), Nat.le_refl _, Nat.le_refl _⟩
  · have e1n : ¬ (w = 8) := by omega
    have e2n : ¬ (w = 9) := by omega
    have e3n : ¬ (w = 10) := by omega
    have e4n : ¬ (w = 11) := by omega
    refine ⟨_, hk_o1 hx (show κ 190 (mj s i) = 1 from hp) ea0, aI (κ 105 (mj s i)), rfl, ?_⟩
    have t12 := (show -1 ≤ κ 105 (mj s i) ∧ κ 105 (mj s i) ≤ 65536 from hV.g 105 (mj s i) rfl)
    refine ⟨by omega, ?_⟩
    exact ⟨kRetL (by first | exact (if_neg e1n).trans ((if_neg e2n).trans ((if_neg e3n).trans ((if_neg e4n).trans (if_pos e5)))) | (unfold v_rTell; rw [if_neg e1n, if_neg e2n, if_neg e3n, if_neg e4n, if_pos e5])), Nat.le_refl _, Nat.le_refl _⟩
  · have e1n : ¬ (w = 8) := by omega
    have e2n : ¬ (w = 9) := by omega
    have e3n : ¬ (w = 10) := by omega
    have e4n : ¬ (w = 11) := by omega
    have e5n : ¬ (w = 12) := by omega
    refine ⟨_, hk_o1 hx (show κ 190 (mj s i) = 1 from hp) ea0, aI (κ 107 (mj s i)), rfl, ?_⟩
    have t13 := (show 0 ≤ κ 107 (mj s i) ∧ κ 107 (mj s i) ≤ 65536 from hV.g 107 (mj s i) rfl)
    refine ⟨by omega, ?_⟩
    exact ⟨kRetL (by first | exact (if_neg e1n).trans ((if_neg e2n).trans ((if_neg e3n).trans ((if_neg e4n).trans ((if_neg e5n).trans (if_pos e6))))) | (unfold v_rTell; rw [if_neg e1n, if_neg e2n, if_neg e3n, if_neg e4n, if_neg e5n, if_pos e6])), Nat.le_refl _, Nat.le_refl _⟩
  · have e1n : ¬ (w = 8) := by omega
    have e2n : ¬ (w = 9) := by omega
    have e3n : ¬ (w = 10) := by omega
    have e4n : ¬ (w = 11) := by omega
    have e5n : ¬ (w = 12) := by omega
    have e6n : ¬ (w = 13) := by omega
    refine ⟨_, hk_o1 hx (show κ 190 (mj s i) = 1 from hp) ea0, aL (κ 112 (mj s i)), rfl, ?_⟩
    have t14 := (show 0 ≤ κ 112 (mj s i) ∧ κ 112 (mj s i) ≤ 4611686018427387903 from hV.g 112 (mj s i) rfl)
    exact ⟨kRetL (by first | exact (if_neg e1n).trans ((if_neg e2n).trans ((if_neg e3n).trans ((if_neg e4n).trans ((if_neg e5n).trans (if_neg e6n))))) | (unfold v_rTell; rw [if_neg e1n, if_neg e2n, if_neg e3n, if_neg e4n, if_neg e5n, if_neg e6n])), Nat.le_refl _, Nat.le_refl _⟩
def v_grownGrant  (a b c : Int) : Int := (if (2 * ((a + b) - c)) < b then c else (v_maxI c (v_minI (a + b) 65536)))
set_option maxRecDepth 100000 in
theorem m_grownGrant (hF : mm_F G) (htr : L.stackTraces = false) (hx : kx B bx κ) (hV : kV κ) {a b c : Int} (h1 : 0 ≤ a) (h1a : a ≤ 16777216) (h2 : 0 ≤ b) (h2a : b ≤ 65536) (h3 : 0 ≤ c) (h3a : c ≤ 65536) :
    mm_Met L G SX3_grownGrant [.int (iI a), .int (iI b), .int (iI c)] (hk G B bx h0 κ) 0 0 (mRet (some (.int (iI (v_grownGrant a b c)))) (hk G B bx h0 κ)) mm_no := by
  refine mi_meth MX3_grownGrant 400 hF htr okX3_grownGrant (av := [aI a, aI b, aI c]) (by decide +kernel) (Nat.le_of_ble_eq_true rfl) cmX3_grownGrant (fun θ hc => ?_)
  refine ⟨by omega, fun (e1 : (2 * ((a + b) - c)) < b) => ?_, fun (e1 : ¬ ((2 * ((a + b) - c)) < b)) => ?_⟩
  · refine mi_nl [(3, aI (a + b)), (0, aI a), (1, aI b), (2, aI c)] rfl ?_
    exact ⟨kRetI (by first | exact if_pos e1 | (unfold v_grownGrant; rw [if_pos e1])), Nat.le_refl _, Nat.le_refl _⟩
  · refine mi_nl [(3, aI (a + b)), (0, aI a), (1, aI b), (2, aI c)] rfl ?_
    refine ⟨65536, rfl, ?_⟩
    refine ⟨_, _, _, _, (m_minI hF htr hx hV (a := (a + b)) (b := 65536) (by omega) (by omega) (by omega) (by omega)), Nat.le_refl _, Nat.le_refl _, mki_ (r := some (aI (v_minI (a + b) 65536))) ?_, fun _ _ q => q.elim⟩
    have t2 := minI_b (a + b) 65536
    refine ⟨_, _, _, _, (m_maxI hF htr hx hV (a := c) (b := (v_minI (a + b) 65536)) (by omega) (by omega) (by omega) (by omega)), Nat.le_refl _, Nat.le_refl _, mki_ (r := some (aI (v_maxI c (v_minI (a + b) 65536)))) ?_, fun _ _ q => q.elim⟩
    have t3 := maxI_b c (v_minI (a + b) 65536)
    exact ⟨kRetI (by first | exact if_neg e1 | (unfold v_grownGrant; rw [if_neg e1])), Nat.le_refl _, Nat.le_refl _⟩
theorem grownGrant_b (a b c : Int) (h : c ≤ 65536) : c ≤ v_grownGrant a b c ∧ v_grownGrant a b c ≤ 65536 := by
  unfold v_grownGrant
  have q1 := minI_b (a + b) 65536
  have q2 := maxI_b c (v_minI (a + b) 65536)
  repeat' split
  all_goals omega
def s_growGrant (κ : Nat → Nat → Int) (s i : Int) : Nat → Nat → Int := (if (κ 100 (mj s i)) = 0 then (if (v_grownGrant (κ 102 (mj s i)) (κ 106 (mj s i)) (κ 107 (mj s i))) ≤ (κ 107 (mj s i)) then κ else (u2 (u2 κ 107 (mj s i) (v_grownGrant (κ 102 (mj s i)) (κ 106 (mj s i)) (κ 107 (mj s i)))) 108 (mj s i) 1)) else κ)
set_option maxRecDepth 100000 in
theorem m_growGrant (hF : mm_F G) (htr : L.stackTraces = false) (hx : kx B bx κ) (hV : kV κ) {s i : Int} {a0 : Nat} (ea0 : a0 = B 1 (mj s i)) (hp : κ 190 (mj s i) = 1) :
    mm_Met L G SX1_growGrant [.ref a0] (hk G B bx h0 κ) 0 0 (mRetS none (hk G B bx h0 (s_growGrant κ s i)) (kx B bx (s_growGrant κ s i) ∧ kV (s_growGrant κ s i))) mm_no := by
  refine mi_meth MX1_growGrant 400 hF htr okX1_growGrant (av := [aR a0]) (by decide +kernel) (Nat.le_of_ble_eq_true rfl) cmX1_growGrant (fun θ hc => ?_)
  refine ⟨_, hk_o1 hx (show κ 190 (mj s i) = 1 from hp) ea0, aI (κ 102 (mj s i)), rfl, ?_⟩
  have t1 := (show 0 ≤ κ 102 (mj s i) ∧ κ 102 (mj s i) ≤ 65536 from hV.g 102 (mj s i) rfl)
  refine ⟨_, hk_o1 hx (show κ 190 (mj s i) = 1 from hp) ea0, aI (κ 106 (mj s i)), rfl, ?_⟩
  have t2 := (show 0 ≤ κ 106 (mj s i) ∧ κ 106 (mj s i) ≤ 65536 from hV.g 106 (mj s i) rfl)
  refine ⟨_, hk_o1 hx (show κ 190 (mj s i) = 1 from hp) ea0, aI (κ 107 (mj s i)), rfl, ?_⟩
  have t3 := (show 0 ≤ κ 107 (mj s i) ∧ κ 107 (mj s i) ≤ 65536 from hV.g 107 (mj s i) rfl)
  refine ⟨_, _, _, _, (m_grownGrant hF htr hx hV (a := (κ 102 (mj s i))) (b := (κ 106 (mj s i))) (c := (κ 107 (mj s i))) (by omega) (by omega) (by omega) (by omega) (by omega) (by omega)), Nat.le_refl _, Nat.le_refl _, mki_ (r := some (aI (v_grownGrant (κ 102 (mj s i)) (κ 106 (mj s i)) (κ 107 (mj s i))))) ?_, fun _ _ q => q.elim⟩
  have t4 := grownGrant_b (κ 102 (mj s i)) (κ 106 (mj s i)) (κ 107 (mj s i)) (by omega)
  refine ⟨_, hk_o1 hx (show κ 190 (mj s i) = 1 from hp) ea0, aI (κ 100 (mj s i)), rfl, ?_⟩
  have t5 := (show 0 ≤ κ 100 (mj s i) ∧ κ 100 (mj s i) ≤ 4 from hV.g 100 (mj s i) rfl)
  refine mi_nl [(1, aI (v_grownGrant (κ 102 (mj s i)) (κ 106 (mj s i)) (κ 107 (mj s i)))), (0, aR (a0))] rfl ?_
  refine ⟨by omega, fun (e6 : ¬ ((κ 100 (mj s i)) = 0)) => ?_, fun (e6 : (κ 100 (mj s i)) = 0) => ?_⟩
  · exact ⟨kRetVS  (by first | exact if_neg e6 | (unfold s_growGrant; rw [if_neg e6])) hx hV, Nat.le_refl _, Nat.le_refl _⟩
  · refine ⟨_, hk_o1 hx (show κ 190 (mj s i) = 1 from hp) ea0, aI (κ 107 (mj s i)), rfl, ?_⟩
    refine ⟨by omega, fun (e7 : (v_grownGrant (κ 102 (mj s i)) (κ 106 (mj s i)) (κ 107 (mj s i))) ≤ (κ 107 (mj s i))) => ?_, fun (e7 : ¬ ((v_grownGrant (κ 102 (mj s i)) (κ 106 (mj s i)) (κ 107 (mj s i))) ≤ (κ 107 (mj s i)))) => ?_⟩
    · exact ⟨kRetVS  (by first | exact (if_pos e6).trans (if_pos e7) | (unfold s_growGrant; rw [if_pos e6, if_pos e7])) hx hV, Nat.le_refl _, Nat.le_refl _⟩
    · refine ⟨_, hk_o1 hx (show κ 190 (mj s i) = 1 from hp) ea0, trivial, _, kp_107 hx (show κ 190 (mj s i) = 1 from hp) (v := (v_grownGrant (κ 102 (mj s i)) (κ 106 (mj s i)) (κ 107 (mj s i)))) ea0, ?_⟩
      have hV8 := hV.u (f := 107) (k := (mj s i)) (v := (v_grownGrant (κ 102 (mj s i)) (κ 106 (mj s i)) (κ 107 (mj s i)))) rfl (show 0 ≤ (v_grownGrant (κ 102 (mj s i)) (κ 106 (mj s i)) (κ 107 (mj s i))) ∧ (v_grownGrant (κ 102 (mj s i)) (κ 106 (mj s i)) (κ 107 (mj s i))) ≤ 65536 from by omega)
      have hx9 := kx_u (f := 107) (k := (mj s i)) (v := (v_grownGrant (κ 102 (mj s i)) (κ 106 (mj s i)) (κ 107 (mj s i)))) rfl hx
      refine ⟨_, hk_o1 hx9 (show (u2 κ 107 (mj s i) (v_grownGrant (κ 102 (mj s i)) (κ 106 (mj s i)) (κ 107 (mj s i)))) 190 (mj s i) = 1 from ((u2_f (by decide))).trans hp) ea0, (show 1 = 0 ∨ 1 = 1 from by omega), _, kp_108 hx9 (show (u2 κ 107 (mj s i) (v_grownGrant (κ 102 (mj s i)) (κ 106 (mj s i)) (κ 107 (mj s i)))) 190 (mj s i) = 1 from ((u2_f (by decide))).trans hp) (v := 1) ea0, ?_⟩
      have hV10 := hV8.u (f := 108) (k := (mj s i)) (v := 1) rfl (show 0 ≤ 1 ∧ 1 ≤ 1 from by omega)
      have hx11 := kx_u (f := 108) (k := (mj s i)) (v := 1) rfl hx9
      exact ⟨kRetVS  (by first | exact (if_pos e6).trans (if_neg e7) | (unfold s_growGrant; rw [if_pos e6, if_neg e7])) hx11 hV10, Nat.le_refl _, Nat.le_refl _⟩
set_option maxRecDepth 100000 in
theorem s_growGrant_fr {f kk : Nat} {s i : Int} (hf : (!([107, 108].elem f)) = true) : s_growGrant κ s i f kk = κ f kk := by
  have n107 : f ≠ 107 := by rintro rfl; exact absurd hf (by decide)
  have n108 : f ≠ 108 := by rintro rfl; exact absurd hf (by decide)
  have f107 : ∀ (m : Nat → Nat → Int) (a b : Nat) (v : Int), u2 m 107 a v f b = m f b := fun m a b v => u2_f n107
  have f108 : ∀ (m : Nat → Nat → Int) (a b : Nat) (v : Int), u2 m 108 a v f b = m f b := fun m a b v => u2_f n108
  unfold s_growGrant
  repeat' with_reducible apply f_ite
  all_goals first | rfl | simp only [f107, f108]
def s_raiseLimit (κ : Nat → Nat → Int) (w v : Int) : Nat → Nat → Int := (u2 κ 401 w.toNat (v_minL 64 (v_maxL (κ 401 w.toNat) v)))
set_option maxRecDepth 100000 in
theorem m_raiseLimit (hF : mm_F G) (htr : L.stackTraces = false) (hx : kx B bx κ) (hV : kV κ) {w v : Int} {a0 : Nat} (ea0 : a0 = B 4 w.toNat) (hw1 : 0 ≤ w) (hw2 : w ≤ 3) (h1 : 0 ≤ v) (h1a : v ≤ 4611686018427387903) :
    mm_Met L G SX4_raiseLimit [.ref a0, .long (iL v)] (hk G B bx h0 κ) 0 0 (mRetS none (hk G B bx h0 (s_raiseLimit κ w v)) (kx B bx (s_raiseLimit κ w v) ∧ kV (s_raiseLimit κ w v))) mm_no := by
  refine mi_meth MX4_raiseLimit 400 hF htr okX4_raiseLimit (av := [aR a0, aL v]) (by decide +kernel) (Nat.le_of_ble_eq_true rfl) cmX4_raiseLimit (fun θ hc => ?_)
  refine ⟨64, rfl, ?_⟩
  refine ⟨_, hk_o4 hx (show w.toNat < 4 from by omega) ea0, aI (κ 401 w.toNat), rfl, ?_⟩
  have t1 := (show 0 ≤ κ 401 w.toNat ∧ κ 401 w.toNat ≤ 64 from hV.g 401 w.toNat rfl)
  refine ⟨by omega, ?_⟩
  refine ⟨_, _, _, _, (m_maxL hF htr hx hV (a := (κ 401 w.toNat)) (b := v) (by omega) (by omega) (by omega) (by omega)), Nat.le_refl _, Nat.le_refl _, mki_ (r := some (aL (v_maxL (κ 401 w.toNat) v))) ?_, fun _ _ q => q.elim⟩
  have t2 := maxL_b (κ 401 w.toNat) v
  refine ⟨_, _, _, _, (m_minL hF htr hx hV (a := 64) (b := (v_maxL (κ 401 w.toNat) v)) (by omega) (by omega) (by omega) (by omega)), Nat.le_refl _, Nat.le_refl _, mki_ (r := some (aL (v_minL 64 (v_maxL (κ 401 w.toNat) v)))) ?_, fun _ _ q => q.elim⟩
  have t3 := minL_b 64 (v_maxL (κ 401 w.toNat) v)
  refine ⟨_, hk_o4 hx (show w.toNat < 4 from by omega) ea0, trivial, _, kp_401 hx (show w.toNat < 4 from by omega) (v := (v_minL 64 (v_maxL (κ 401 w.toNat) v))) ea0, ?_⟩
  have hV4 := hV.u (f := 401) (k := w.toNat) (v := (v_minL 64 (v_maxL (κ 401 w.toNat) v))) rfl (show 0 ≤ (v_minL 64 (v_maxL (κ 401 w.toNat) v)) ∧ (v_minL 64 (v_maxL (κ 401 w.toNat) v)) ≤ 64 from by omega)
  have hx5 := kx_u (f := 401) (k := w.toNat) (v := (v_minL 64 (v_maxL (κ 401 w.toNat) v))) rfl hx
  exact ⟨kRetVS  rfl hx5 hV4, Nat.le_refl _, Nat.le_refl _⟩
set_option maxRecDepth 100000 in
theorem s_raiseLimit_fr {f kk : Nat} {w v : Int} (hf : (!([401].elem f)) = true) : s_raiseLimit κ w v f kk = κ f kk := by
  have n401 : f ≠ 401 := by rintro rfl; exact absurd hf (by decide)
  have f401 : ∀ (m : Nat → Nat → Int) (a b : Nat) (v : Int), u2 m 401 a v f b = m f b := fun m a b v => u2_f n401
  unfold s_raiseLimit
  repeat' with_reducible apply f_ite
  all_goals first | rfl | simp only [f401]
end KB
