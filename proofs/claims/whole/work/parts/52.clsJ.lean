section KJ
variable {L : Launch} {G : mmG} {B B' : Nat → Nat → Nat} {bx bx' : Nat → Option (Nat × Nat)} {h0 : mmH} {κ κ' : Nat → Nat → Int}
theorem makeParts_o {s i : Int} {f k : Nat} (hf : f = 190 ∨ f = 290) (hk : k ≠ mj s i) : s_makeParts κ s i f k = κ f k := by
  have a1 : ∀ m K r1 r2 c, K = mj s i → kNs m K r1 r2 c f k = m f k := fun m K r1 r2 c e => kNs_o (by rw [e]; exact fun z => hk z.1)
  have a2 : ∀ m K r1 c, K = mj s i → kNq m K r1 c f k = m f k := fun m K r1 c e => kNq_o (by rw [e]; exact fun z => hk z.1)
  have a3 : ∀ m c n, kNr m c n f k = m f k := fun m c n => kNr_o (by omega)
  have a4 : ∀ m q v, u2 m 306 q v f k = m f k := fun m q v => u2_f (by omega)
  unfold s_makeParts
  repeat' with_reducible apply f_ite
  all_goals simp only [a1 _ _ _ _ _ rfl, a2 _ _ _ _ rfl, a3, a4]
/-- streams of the other side that have not come are not there -/
def kNT (κ : Nat → Nat → Int) (s : Int) : Prop := ∀ i, 0 ≤ i → i < 256 → ¬ i % 2 = s → ∀ m, κ 404 ((2 * s) + (v_kWayOf i)).toNat ≤ m → m < 64 → ¬ κ 290 (mj s ((m * 4) + (i % 4))) = 1 ∧ ¬ κ 190 (mj s ((m * 4) + (i % 4))) = 1
def v_openNext (κ : Nat → Nat → Int) (s w : Int) : Int := (if (κ 400 ((2 * s) + w).toNat) < (κ 401 ((2 * s) + w).toNat) then ((((κ 400 ((2 * s) + w).toNat) * 4) + (w * 2)) + s) else -1)
def s_openNext (κ : Nat → Nat → Int) (s w : Int) : Nat → Nat → Int := (if (κ 400 ((2 * s) + w).toNat) < (κ 401 ((2 * s) + w).toNat) then (s_makeParts (u2 κ 400 ((2 * s) + w).toNat ((κ 400 ((2 * s) + w).toNat) + 1)) s ((((κ 400 ((2 * s) + w).toNat) * 4) + (w * 2)) + s)) else (u2 κ 402 ((2 * s) + w).toNat (κ 401 ((2 * s) + w).toNat)))
set_option maxRecDepth 100000 in
theorem m_openNext (hF : mm_F G) (htr : L.stackTraces = false) (hx : kx B bx κ) (hV : kV κ) (hW : kW κ) {s w : Int} {a0 : Nat} (ea0 : a0 = B 3 s.toNat) (h1 : 0 ≤ s) (h2 : s ≤ 1) (h3 : w = 0 ∨ w = 1) (hN : κ 400 ((2 * s) + w).toNat < κ 401 ((2 * s) + w).toNat → ¬ κ 290 (mj s ((((κ 400 ((2 * s) + w).toNat) * 4) + (w * 2)) + s)) = 1 ∧ ¬ κ 190 (mj s ((((κ 400 ((2 * s) + w).toNat) * 4) + (w * 2)) + s)) = 1) :
    mm_Met L G SX3_openNext [.ref a0, .int (iI w)] (hk G B bx h0 κ) 5 26 (mRetW G bx B h0 κ (some (.int (iI (v_openNext κ s w)))) (s_openNext κ s w) ((fun v _ => -100 ≤ v ∧ v ≤ 70000) (v_openNext κ s w) (s_openNext κ s w))) mm_no := by
  refine mi_meth MX3_openNext 400 hF htr okX3_openNext (av := [aR a0, aI w]) (by decide +kernel) (Nat.le_of_ble_eq_true rfl) cmX3_openNext (fun θ hc => ?_)
  refine ⟨_, hk_o3 hx (show s.toNat < 2 from by omega) ea0, aR (B 14 s.toNat), rfl, ?_⟩
  refine ⟨2, _, some (B 4 ((2 * s) + w).toNat), hk_ways hx (show s.toNat < 2 from by omega) rfl, by omega, ka_4 (s := s) (i := w) (by omega) (by omega) (by omega), ?_⟩
  refine ⟨_, hk_o4 hx (show ((2 * s) + w).toNat < 4 from by omega) rfl, aI (κ 400 ((2 * s) + w).toNat), rfl, ?_⟩
  have t1 := (show 0 ≤ κ 400 ((2 * s) + w).toNat ∧ κ 400 ((2 * s) + w).toNat ≤ 64 from hV.g 400 ((2 * s) + w).toNat rfl)
  refine mi_nl [(2, aR (B 4 ((2 * s) + w).toNat)), (0, aR (a0)), (1, aI w)] rfl ?_
  refine ⟨_, hk_o4 hx (show ((2 * s) + w).toNat < 4 from by omega) rfl, aI (κ 401 ((2 * s) + w).toNat), rfl, ?_⟩
  have t2 := (show 0 ≤ κ 401 ((2 * s) + w).toNat ∧ κ 401 ((2 * s) + w).toNat ≤ 64 from hV.g 401 ((2 * s) + w).toNat rfl)
  refine ⟨by omega, fun (e3 : (κ 400 ((2 * s) + w).toNat) < (κ 401 ((2 * s) + w).toNat)) => ?_, fun (e3 : ¬ ((κ 400 ((2 * s) + w).toNat) < (κ 401 ((2 * s) + w).toNat))) => ?_⟩
  · refine ⟨_, hk_o4 hx (show ((2 * s) + w).toNat < 4 from by omega) rfl, aI (κ 400 ((2 * s) + w).toNat), rfl, ?_⟩
    refine ⟨_, hk_o3 hx (show s.toNat < 2 from by omega) ea0, aI s, congrArg aI (Int.toNat_of_nonneg (by omega)), ?_⟩
    refine ⟨_, hk_o4 hx (show ((2 * s) + w).toNat < 4 from by omega) rfl, aI (κ 400 ((2 * s) + w).toNat), rfl, ?_⟩
    refine mi_nl [(3, aI ((((κ 400 ((2 * s) + w).toNat) * 4) + (w * 2)) + s)), (2, aR (B 4 ((2 * s) + w).toNat)), (0, aR (a0)), (1, aI w)] rfl ?_
    refine ⟨_, hk_o4 hx (show ((2 * s) + w).toNat < 4 from by omega) rfl, trivial, _, kp_400 hx (show ((2 * s) + w).toNat < 4 from by omega) (v := ((κ 400 ((2 * s) + w).toNat) + 1)) rfl, ?_⟩
    have hV4 := hV.u (f := 400) (k := ((2 * s) + w).toNat) (v := ((κ 400 ((2 * s) + w).toNat) + 1)) rfl (show 0 ≤ ((κ 400 ((2 * s) + w).toNat) + 1) ∧ ((κ 400 ((2 * s) + w).toNat) + 1) ≤ 64 from by omega)
    have hx5 := kx_u (f := 400) (k := ((2 * s) + w).toNat) (v := ((κ 400 ((2 * s) + w).toNat) + 1)) rfl hx
    refine ⟨⟨_, hk_o3 hx5 (show s.toNat < 2 from by omega) ea0⟩, _, _, _, _, (m_makeParts hF htr hx5 hV4 (kaw_u rfl (kaw_refl (h0 := h0) (bx := bx) (B := B) hW)).2.1 (s := s) (i := ((((κ 400 ((2 * s) + w).toNat) * 4) + (w * 2)) + s)) ea0 (by omega) (by omega) (by omega) (by omega) (by rw [show (u2 κ 400 ((2 * s) + w).toNat ((κ 400 ((2 * s) + w).toNat) + 1)) 290 (mj s ((((κ 400 ((2 * s) + w).toNat) * 4) + (w * 2)) + s)) = _ from (u2_f (by decide))]; omega) (by rw [show (u2 κ 400 ((2 * s) + w).toNat ((κ 400 ((2 * s) + w).toNat) + 1)) 190 (mj s ((((κ 400 ((2 * s) + w).toNat) * 4) + (w * 2)) + s)) = _ from (u2_f (by decide))]; omega)), (by first | exact Nat.le_of_ble_eq_true rfl | omega), (by first | exact Nat.le_of_ble_eq_true rfl | omega), mkiw (r := none) (fun B8 bx8 hx7 hV6 hA8 _ => ?_), fun _ _ q => q.elim⟩
    exact ⟨kRetIWP (P := fun v _ => -100 ≤ v ∧ v ≤ 70000) (by first | exact if_pos e3 | (unfold v_openNext; rw [if_pos e3])) (by first | exact if_pos e3 | (unfold s_openNext; rw [if_pos e3])) hx7 hV6 (kaw_trans (kaw_u rfl (kaw_refl (h0 := h0) (bx := bx) (B := B) hW)) hA8) (show -100 ≤ ((((κ 400 ((2 * s) + w).toNat) * 4) + (w * 2)) + s) ∧ ((((κ 400 ((2 * s) + w).toNat) * 4) + (w * 2)) + s) ≤ 70000 from by omega), (by first | exact Nat.le_of_ble_eq_true rfl | omega), (by first | exact Nat.le_of_ble_eq_true rfl | omega)⟩
  · refine ⟨_, hk_o4 hx (show ((2 * s) + w).toNat < 4 from by omega) rfl, aI (κ 401 ((2 * s) + w).toNat), rfl, ?_⟩
    refine ⟨_, hk_o4 hx (show ((2 * s) + w).toNat < 4 from by omega) rfl, trivial, _, kp_402 hx (show ((2 * s) + w).toNat < 4 from by omega) (v := (κ 401 ((2 * s) + w).toNat)) rfl, ?_⟩
    have hV9 := hV.u (f := 402) (k := ((2 * s) + w).toNat) (v := (κ 401 ((2 * s) + w).toNat)) rfl (show -1 ≤ (κ 401 ((2 * s) + w).toNat) ∧ (κ 401 ((2 * s) + w).toNat) ≤ 64 from by omega)
    have hx10 := kx_u (f := 402) (k := ((2 * s) + w).toNat) (v := (κ 401 ((2 * s) + w).toNat)) rfl hx
    exact ⟨kRetIWP (P := fun v _ => -100 ≤ v ∧ v ≤ 70000) (by first | exact if_neg e3 | (unfold v_openNext; rw [if_neg e3])) (by first | exact if_neg e3 | (unfold s_openNext; rw [if_neg e3])) hx10 hV9 (kaw_u rfl (kaw_refl (h0 := h0) (bx := bx) (B := B) hW)) (show -100 ≤ -1 ∧ -1 ≤ 70000 from by omega), (by first | exact Nat.le_of_ble_eq_true rfl | omega), (by first | exact Nat.le_of_ble_eq_true rfl | omega)⟩
set_option maxRecDepth 100000 in
theorem s_openNext_fr {f kk : Nat} {s w : Int} (hf : (Nat.blt f 1000 && !([100, 101, 102, 103, 104, 105, 106, 107, 108, 109, 110, 111, 112, 113, 190, 200, 201, 202, 203, 204, 205, 206, 207, 208, 209, 210, 211, 290, 306, 400, 402, 600, 601, 602].elem f)) = true) : s_openNext κ s w f kk = κ f kk := by
  have n100 : f ≠ 100 := by rintro rfl; exact absurd hf (by decide)
  have n101 : f ≠ 101 := by rintro rfl; exact absurd hf (by decide)
  have n102 : f ≠ 102 := by rintro rfl; exact absurd hf (by decide)
  have n103 : f ≠ 103 := by rintro rfl; exact absurd hf (by decide)
  have n104 : f ≠ 104 := by rintro rfl; exact absurd hf (by decide)
  have n105 : f ≠ 105 := by rintro rfl; exact absurd hf (by decide)
  have n106 : f ≠ 106 := by rintro rfl; exact absurd hf (by decide)
  have n107 : f ≠ 107 := by rintro rfl; exact absurd hf (by decide)
  have n108 : f ≠ 108 := by rintro rfl; exact absurd hf (by decide)
  have n109 : f ≠ 109 := by rintro rfl; exact absurd hf (by decide)
  have n110 : f ≠ 110 := by rintro rfl; exact absurd hf (by decide)
  have n111 : f ≠ 111 := by rintro rfl; exact absurd hf (by decide)
  have n112 : f ≠ 112 := by rintro rfl; exact absurd hf (by decide)
  have n113 : f ≠ 113 := by rintro rfl; exact absurd hf (by decide)
  have n190 : f ≠ 190 := by rintro rfl; exact absurd hf (by decide)
  have n200 : f ≠ 200 := by rintro rfl; exact absurd hf (by decide)
  have n201 : f ≠ 201 := by rintro rfl; exact absurd hf (by decide)
  have n202 : f ≠ 202 := by rintro rfl; exact absurd hf (by decide)
  have n203 : f ≠ 203 := by rintro rfl; exact absurd hf (by decide)
  have n204 : f ≠ 204 := by rintro rfl; exact absurd hf (by decide)
  have n205 : f ≠ 205 := by rintro rfl; exact absurd hf (by decide)
  have n206 : f ≠ 206 := by rintro rfl; exact absurd hf (by decide)
  have n207 : f ≠ 207 := by rintro rfl; exact absurd hf (by decide)
  have n208 : f ≠ 208 := by rintro rfl; exact absurd hf (by decide)
  have n209 : f ≠ 209 := by rintro rfl; exact absurd hf (by decide)
  have n210 : f ≠ 210 := by rintro rfl; exact absurd hf (by decide)
  have n211 : f ≠ 211 := by rintro rfl; exact absurd hf (by decide)
  have n290 : f ≠ 290 := by rintro rfl; exact absurd hf (by decide)
  have n306 : f ≠ 306 := by rintro rfl; exact absurd hf (by decide)
  have n400 : f ≠ 400 := by rintro rfl; exact absurd hf (by decide)
  have n402 : f ≠ 402 := by rintro rfl; exact absurd hf (by decide)
  have n600 : f ≠ 600 := by rintro rfl; exact absurd hf (by decide)
  have n601 : f ≠ 601 := by rintro rfl; exact absurd hf (by decide)
  have n602 : f ≠ 602 := by rintro rfl; exact absurd hf (by decide)
  have lt : f < 1000 := Nat.le_of_ble_eq_true (Bool.and_eq_true_iff.mp hf).1
  have f100 : ∀ (m : Nat → Nat → Int) (a b : Nat) (v : Int), u2 m 100 a v f b = m f b := fun m a b v => u2_f n100
  have f101 : ∀ (m : Nat → Nat → Int) (a b : Nat) (v : Int), u2 m 101 a v f b = m f b := fun m a b v => u2_f n101
  have f102 : ∀ (m : Nat → Nat → Int) (a b : Nat) (v : Int), u2 m 102 a v f b = m f b := fun m a b v => u2_f n102
  have f103 : ∀ (m : Nat → Nat → Int) (a b : Nat) (v : Int), u2 m 103 a v f b = m f b := fun m a b v => u2_f n103
  have f104 : ∀ (m : Nat → Nat → Int) (a b : Nat) (v : Int), u2 m 104 a v f b = m f b := fun m a b v => u2_f n104
  have f105 : ∀ (m : Nat → Nat → Int) (a b : Nat) (v : Int), u2 m 105 a v f b = m f b := fun m a b v => u2_f n105
  have f106 : ∀ (m : Nat → Nat → Int) (a b : Nat) (v : Int), u2 m 106 a v f b = m f b := fun m a b v => u2_f n106
  have f107 : ∀ (m : Nat → Nat → Int) (a b : Nat) (v : Int), u2 m 107 a v f b = m f b := fun m a b v => u2_f n107
  have f108 : ∀ (m : Nat → Nat → Int) (a b : Nat) (v : Int), u2 m 108 a v f b = m f b := fun m a b v => u2_f n108
  have f109 : ∀ (m : Nat → Nat → Int) (a b : Nat) (v : Int), u2 m 109 a v f b = m f b := fun m a b v => u2_f n109
  have f110 : ∀ (m : Nat → Nat → Int) (a b : Nat) (v : Int), u2 m 110 a v f b = m f b := fun m a b v => u2_f n110
  have f111 : ∀ (m : Nat → Nat → Int) (a b : Nat) (v : Int), u2 m 111 a v f b = m f b := fun m a b v => u2_f n111
  have f112 : ∀ (m : Nat → Nat → Int) (a b : Nat) (v : Int), u2 m 112 a v f b = m f b := fun m a b v => u2_f n112
  have f113 : ∀ (m : Nat → Nat → Int) (a b : Nat) (v : Int), u2 m 113 a v f b = m f b := fun m a b v => u2_f n113
  have f190 : ∀ (m : Nat → Nat → Int) (a b : Nat) (v : Int), u2 m 190 a v f b = m f b := fun m a b v => u2_f n190
  have f200 : ∀ (m : Nat → Nat → Int) (a b : Nat) (v : Int), u2 m 200 a v f b = m f b := fun m a b v => u2_f n200
  have f201 : ∀ (m : Nat → Nat → Int) (a b : Nat) (v : Int), u2 m 201 a v f b = m f b := fun m a b v => u2_f n201
  have f202 : ∀ (m : Nat → Nat → Int) (a b : Nat) (v : Int), u2 m 202 a v f b = m f b := fun m a b v => u2_f n202
  have f203 : ∀ (m : Nat → Nat → Int) (a b : Nat) (v : Int), u2 m 203 a v f b = m f b := fun m a b v => u2_f n203
  have f204 : ∀ (m : Nat → Nat → Int) (a b : Nat) (v : Int), u2 m 204 a v f b = m f b := fun m a b v => u2_f n204
  have f205 : ∀ (m : Nat → Nat → Int) (a b : Nat) (v : Int), u2 m 205 a v f b = m f b := fun m a b v => u2_f n205
  have f206 : ∀ (m : Nat → Nat → Int) (a b : Nat) (v : Int), u2 m 206 a v f b = m f b := fun m a b v => u2_f n206
  have f207 : ∀ (m : Nat → Nat → Int) (a b : Nat) (v : Int), u2 m 207 a v f b = m f b := fun m a b v => u2_f n207
  have f208 : ∀ (m : Nat → Nat → Int) (a b : Nat) (v : Int), u2 m 208 a v f b = m f b := fun m a b v => u2_f n208
  have f209 : ∀ (m : Nat → Nat → Int) (a b : Nat) (v : Int), u2 m 209 a v f b = m f b := fun m a b v => u2_f n209
  have f210 : ∀ (m : Nat → Nat → Int) (a b : Nat) (v : Int), u2 m 210 a v f b = m f b := fun m a b v => u2_f n210
  have f211 : ∀ (m : Nat → Nat → Int) (a b : Nat) (v : Int), u2 m 211 a v f b = m f b := fun m a b v => u2_f n211
  have f290 : ∀ (m : Nat → Nat → Int) (a b : Nat) (v : Int), u2 m 290 a v f b = m f b := fun m a b v => u2_f n290
  have f306 : ∀ (m : Nat → Nat → Int) (a b : Nat) (v : Int), u2 m 306 a v f b = m f b := fun m a b v => u2_f n306
  have f400 : ∀ (m : Nat → Nat → Int) (a b : Nat) (v : Int), u2 m 400 a v f b = m f b := fun m a b v => u2_f n400
  have f402 : ∀ (m : Nat → Nat → Int) (a b : Nat) (v : Int), u2 m 402 a v f b = m f b := fun m a b v => u2_f n402
  have f600 : ∀ (m : Nat → Nat → Int) (a b : Nat) (v : Int), u2 m 600 a v f b = m f b := fun m a b v => u2_f n600
  have f601 : ∀ (m : Nat → Nat → Int) (a b : Nat) (v : Int), u2 m 601 a v f b = m f b := fun m a b v => u2_f n601
  have f602 : ∀ (m : Nat → Nat → Int) (a b : Nat) (v : Int), u2 m 602 a v f b = m f b := fun m a b v => u2_f n602
  have fw : ∀ (m : Nat → Nat → Int) (r a b : Nat) (v : Int), u2 m (1000 + r) a v f b = m f b := fun m r a b v => u2_f (by omega)
  have c_makeParts : ∀ (m : Nat → Nat → Int) (z_s z_i : Int) (k : Nat), s_makeParts m z_s z_i f k = m f k := by intros; exact s_makeParts_fr (Bool.and_eq_true_iff.mpr ⟨Nat.ble_eq_true_of_le lt, by simp only [List.elem_cons, List.elem_nil, beq_eq_false_iff_ne.mpr n100, beq_eq_false_iff_ne.mpr n101, beq_eq_false_iff_ne.mpr n102, beq_eq_false_iff_ne.mpr n103, beq_eq_false_iff_ne.mpr n104, beq_eq_false_iff_ne.mpr n105, beq_eq_false_iff_ne.mpr n106, beq_eq_false_iff_ne.mpr n107, beq_eq_false_iff_ne.mpr n108, beq_eq_false_iff_ne.mpr n109, beq_eq_false_iff_ne.mpr n110, beq_eq_false_iff_ne.mpr n111, beq_eq_false_iff_ne.mpr n112, beq_eq_false_iff_ne.mpr n113, beq_eq_false_iff_ne.mpr n190, beq_eq_false_iff_ne.mpr n200, beq_eq_false_iff_ne.mpr n201, beq_eq_false_iff_ne.mpr n202, beq_eq_false_iff_ne.mpr n203, beq_eq_false_iff_ne.mpr n204, beq_eq_false_iff_ne.mpr n205, beq_eq_false_iff_ne.mpr n206, beq_eq_false_iff_ne.mpr n207, beq_eq_false_iff_ne.mpr n208, beq_eq_false_iff_ne.mpr n209, beq_eq_false_iff_ne.mpr n210, beq_eq_false_iff_ne.mpr n211, beq_eq_false_iff_ne.mpr n290, beq_eq_false_iff_ne.mpr n306, beq_eq_false_iff_ne.mpr n600, beq_eq_false_iff_ne.mpr n601, beq_eq_false_iff_ne.mpr n602]; rfl⟩)
  unfold s_openNext
  repeat' with_reducible apply f_ite
  all_goals first | rfl | simp only [f100, f101, f102, f103, f104, f105, f106, f107, f108, f109, f110, f111, f112, f113, f190, f200, f201, f202, f203, f204, f205, f206, f207, f208, f209, f210, f211, f290, f306, f400, f402, f600, f601, f602, fw, c_makeParts]
def s_makeThere_16 (κ : Nat → Nat → Int) (s i : Int) : Nat → Int → (Nat → Nat → Int) → (Nat → Nat → Int)
  | 0, _, ν => ν
  | d + 1, n, ν => (if (i / 4) < n then (u2 ν 404 ((2 * s) + (v_kWayOf i)).toNat (v_maxI (ν 404 ((2 * s) + (v_kWayOf i)).toNat) ((i / 4) + 1))) else (s_makeThere_16 κ s i d (n + 1) (s_makeParts ν s ((n * 4) + (i % 4)))))
def s_makeThere (κ : Nat → Nat → Int) (s i : Int) : Nat → Nat → Int := (if (i % 2) = s then κ else (s_makeThere_16 κ s i 65 (κ 404 ((2 * s) + (v_kWayOf i)).toNat) κ))
set_option maxRecDepth 100000 in
theorem m_makeThere (hF : mm_F G) (htr : L.stackTraces = false) (hx : kx B bx κ) (hV : kV κ) (hW : kW κ) {s i : Int} {a0 : Nat} (ea0 : a0 = B 3 s.toNat) (h1 : 0 ≤ s) (h2 : s ≤ 1) (h3 : 0 ≤ i) (h4 : i < 256) (hN : kNT κ s) :
    mm_Met L G SX3_makeThere [.ref a0, .int (iI i)] (hk G B bx h0 κ) 320 1664 (mRetW G bx B h0 κ none (s_makeThere κ s i) (True)) mm_no := by
  refine mi_meth MX3_makeThere 400 hF htr okX3_makeThere (av := [aR a0, aI i]) (by decide +kernel) (Nat.le_of_ble_eq_true rfl) cmX3_makeThere (fun θ hc => ?_)
  have loop16 : ∀ (S : Nat → Nat → Int) (d : Nat) (n : Int) (ν : Nat → Nat → Int) (B_ : Nat → Nat → Nat) (bx_ : Nat → Option (Nat × Nat)) (hx : kx B_ bx_ ν) (hV : kV ν) (hA : kaw h0 bx B κ bx_ B_ ν) (cs sl : Nat), (0 ≤ n ∧ n ≤ 64) → (v_kWayOf i = i / 2 % 2 ∧ 0 ≤ v_kWayOf i ∧ v_kWayOf i ≤ 1) → (∀ m, n ≤ m → m < 64 → ¬ ν 290 (mj s ((m * 4) + (i % 4))) = 1 ∧ ¬ ν 190 (mj s ((m * 4) + (i % 4))) = 1) → ((cs : Int) + 5 * (64 - n) ≤ 320 ∧ (sl : Int) + 26 * (64 - n) ≤ 1664) → (64 - n) < (d : Int) → s_makeThere_16 κ s i d n ν = S → mi_W L G MX3_makeThere 320 1664 (mRetW G bx B h0 κ none S (True)) mm_no θ 16 [(3, aI n), (0, aR (a0)), (1, aI i), (2, aR (B 4 ((2 * s) + (v_kWayOf i)).toNat))] [] (hk G B_ bx_ h0 ν) cs sl := by
    intro S d
    induction d with
    | zero =>
      intro n ν B_ bx_ hx hV hA cs sl hi1 hi2 hN hcs hms hsr
      omega
    | succ d ih =>
      intro n ν B_ bx_ hx hV hA cs sl hi1 hi2 hN hcs hms hsr
      have hNn := hN n (by omega)
      refine mi_sound hc okX3_makeThere 400 _ _ _ _ _ _ ?_
      refine ⟨by omega, ?_⟩
      refine ⟨by omega, fun (e1 : (i / 4) < n) => ?_, fun (e1 : ¬ ((i / 4) < n)) => ?_⟩
      · refine ⟨_, hk_o4 hx (show ((2 * s) + (v_kWayOf i)).toNat < 4 from by omega) ((rfl : B 4 ((2 * s) + (v_kWayOf i)).toNat = _).trans (hA.1 4 ((2 * s) + (v_kWayOf i)).toNat (show ((2 * s) + (v_kWayOf i)).toNat < 4 from by omega)).1), aI (ν 404 ((2 * s) + (v_kWayOf i)).toNat), rfl, ?_⟩
        have t2 := (show 0 ≤ ν 404 ((2 * s) + (v_kWayOf i)).toNat ∧ ν 404 ((2 * s) + (v_kWayOf i)).toNat ≤ 64 from hV.g 404 ((2 * s) + (v_kWayOf i)).toNat rfl)
        refine ⟨by omega, ?_⟩
        refine ⟨_, _, _, _, (m_maxI hF htr hx hV (a := (ν 404 ((2 * s) + (v_kWayOf i)).toNat)) (b := ((i / 4) + 1)) (by omega) (by omega) (by omega) (by omega)), (by first | exact Nat.le_of_ble_eq_true rfl | omega), (by first | exact Nat.le_of_ble_eq_true rfl | omega), mki_ (r := some (aI (v_maxI (ν 404 ((2 * s) + (v_kWayOf i)).toNat) ((i / 4) + 1)))) ?_, fun _ _ q => q.elim⟩
        have t3 := maxI_b (ν 404 ((2 * s) + (v_kWayOf i)).toNat) ((i / 4) + 1)
        refine ⟨_, hk_o4 hx (show ((2 * s) + (v_kWayOf i)).toNat < 4 from by omega) ((rfl : B 4 ((2 * s) + (v_kWayOf i)).toNat = _).trans (hA.1 4 ((2 * s) + (v_kWayOf i)).toNat (show ((2 * s) + (v_kWayOf i)).toNat < 4 from by omega)).1), trivial, _, kp_404 hx (show ((2 * s) + (v_kWayOf i)).toNat < 4 from by omega) (v := (v_maxI (ν 404 ((2 * s) + (v_kWayOf i)).toNat) ((i / 4) + 1))) ((rfl : B 4 ((2 * s) + (v_kWayOf i)).toNat = _).trans (hA.1 4 ((2 * s) + (v_kWayOf i)).toNat (show ((2 * s) + (v_kWayOf i)).toNat < 4 from by omega)).1), ?_⟩
        have hV4 := hV.u (f := 404) (k := ((2 * s) + (v_kWayOf i)).toNat) (v := (v_maxI (ν 404 ((2 * s) + (v_kWayOf i)).toNat) ((i / 4) + 1))) rfl (show 0 ≤ (v_maxI (ν 404 ((2 * s) + (v_kWayOf i)).toNat) ((i / 4) + 1)) ∧ (v_maxI (ν 404 ((2 * s) + (v_kWayOf i)).toNat) ((i / 4) + 1)) ≤ 64 from by omega)
        have hx5 := kx_u (f := 404) (k := ((2 * s) + (v_kWayOf i)).toNat) (v := (v_maxI (ν 404 ((2 * s) + (v_kWayOf i)).toNat) ((i / 4) + 1))) rfl hx
        exact ⟨kRetVW  (hsr.symm.trans (by first | exact if_pos e1 | (rw [s_makeThere_16]; rw [if_pos e1]))) hx5 hV4 (kaw_u rfl hA) trivial, (by first | exact Nat.le_of_ble_eq_true rfl | omega), (by first | exact Nat.le_of_ble_eq_true rfl | omega)⟩
      · refine ⟨by omega, ?_⟩
        refine ⟨⟨_, hk_o3 hx (show s.toNat < 2 from by omega) (ea0.trans (hA.1 3 s.toNat (show s.toNat < 2 from by omega)).1)⟩, _, _, _, _, (m_makeParts hF htr hx hV hA.2.1 (s := s) (i := ((n * 4) + (i % 4))) (ea0.trans (hA.1 3 s.toNat (show s.toNat < 2 from by omega)).1) (by omega) (by omega) (by omega) (by omega) (by omega) (by omega)), (by first | exact Nat.le_of_ble_eq_true rfl | omega), (by first | exact Nat.le_of_ble_eq_true rfl | omega), mkiw (r := none) (fun B8 bx8 hx7 hV6 hA8 _ => ?_), fun _ _ q => q.elim⟩
        exact mi_Wsub (List.forall_mem_cons.mpr ⟨(.head _), (List.forall_mem_cons.mpr ⟨(.tail _ (.head _)), (List.forall_mem_cons.mpr ⟨(.tail _ (.tail _ (.head _))), (List.forall_mem_cons.mpr ⟨(.tail _ (.tail _ (.tail _ (.head _)))), (fun _ h => absurd h List.not_mem_nil)⟩)⟩)⟩)⟩) (ih (n + 1) (s_makeParts ν s ((n * 4) + (i % 4))) B8 bx8 hx7 hV6 (kaw_trans hA hA8) _ _ (by omega) (by omega) (fun m a b => by have z : mj s ((m * 4) + (i % 4)) ≠ mj s ((n * 4) + (i % 4)) := (by unfold mj; omega); rw [makeParts_o (Or.inr rfl) z, makeParts_o (Or.inl rfl) z]; exact hN m (by omega) b) (by omega) (by omega) (Eq.trans (by first | exact (if_neg e1).symm | (rw [s_makeThere_16]; rw [if_neg e1])) hsr))
  refine ⟨by omega, ?_⟩
  refine ⟨_, hk_o3 hx (show s.toNat < 2 from by omega) ea0, aI s, congrArg aI (Int.toNat_of_nonneg (by omega)), ?_⟩
  refine ⟨by omega, fun (e9 : ¬ ((i % 2) = s)) => ?_, fun (e9 : (i % 2) = s) => ?_⟩
  · refine ⟨_, hk_o3 hx (show s.toNat < 2 from by omega) ea0, aR (B 14 s.toNat), rfl, ?_⟩
    refine ⟨_, _, _, _, (m_kWayOf hF htr hx hV (i := i) (by omega) (by omega)), (by first | exact Nat.le_of_ble_eq_true rfl | omega), (by first | exact Nat.le_of_ble_eq_true rfl | omega), mki_ (r := some (aI (v_kWayOf i))) ?_, fun _ _ q => q.elim⟩
    have t10 := kWayOf_b (i := i) (by omega)
    refine ⟨2, _, some (B 4 ((2 * s) + (v_kWayOf i)).toNat), hk_ways hx (show s.toNat < 2 from by omega) rfl, by omega, ka_4 (s := s) (i := (v_kWayOf i)) (by omega) (by omega) (by omega), ?_⟩
    refine ⟨_, hk_o4 hx (show ((2 * s) + (v_kWayOf i)).toNat < 4 from by omega) rfl, aI (κ 404 ((2 * s) + (v_kWayOf i)).toNat), rfl, ?_⟩
    have t11 := (show 0 ≤ κ 404 ((2 * s) + (v_kWayOf i)).toNat ∧ κ 404 ((2 * s) + (v_kWayOf i)).toNat ≤ 64 from hV.g 404 ((2 * s) + (v_kWayOf i)).toNat rfl)
    refine mi_nl [(2, aR (B 4 ((2 * s) + (v_kWayOf i)).toNat)), (0, aR (a0)), (1, aI i)] rfl ?_
    exact mi_Wsub (List.forall_mem_cons.mpr ⟨(.head _), (List.forall_mem_cons.mpr ⟨(.tail _ (.tail _ (.head _))), (List.forall_mem_cons.mpr ⟨(.tail _ (.tail _ (.tail _ (.head _)))), (List.forall_mem_cons.mpr ⟨(.tail _ (.head _)), (fun _ h => absurd h List.not_mem_nil)⟩)⟩)⟩)⟩) (loop16 _ 65 (κ 404 ((2 * s) + (v_kWayOf i)).toNat) κ B bx hx hV (kaw_refl (h0 := h0) (bx := bx) (B := B) hW) _ _ (by omega) (by omega) (hN i (by omega) (by omega) (by omega)) (by omega) (by omega) (by first | exact (if_neg e9).symm | (unfold s_makeThere; rw [if_neg e9])))
  · exact ⟨kRetVW  (by first | exact if_pos e9 | (unfold s_makeThere; rw [if_pos e9])) hx hV (kaw_refl (h0 := h0) (bx := bx) (B := B) hW) trivial, (by first | exact Nat.le_of_ble_eq_true rfl | omega), (by first | exact Nat.le_of_ble_eq_true rfl | omega)⟩
set_option maxRecDepth 100000 in
theorem s_makeThere_16_fr {f kk : Nat} {s i : Int} (hf : (Nat.blt f 1000 && !([100, 101, 102, 103, 104, 105, 106, 107, 108, 109, 110, 111, 112, 113, 190, 200, 201, 202, 203, 204, 205, 206, 207, 208, 209, 210, 211, 290, 306, 404, 600, 601, 602].elem f)) = true) : ∀ (d : Nat) (n : Int) (ν : Nat → Nat → Int), s_makeThere_16 κ s i d n ν f kk = ν f kk := by
  have n100 : f ≠ 100 := by rintro rfl; exact absurd hf (by decide)
  have n101 : f ≠ 101 := by rintro rfl; exact absurd hf (by decide)
  have n102 : f ≠ 102 := by rintro rfl; exact absurd hf (by decide)
  have n103 : f ≠ 103 := by rintro rfl; exact absurd hf (by decide)
  have n104 : f ≠ 104 := by rintro rfl; exact absurd hf (by decide)
  have n105 : f ≠ 105 := by rintro rfl; exact absurd hf (by decide)
  have n106 : f ≠ 106 := by rintro rfl; exact absurd hf (by decide)
  have n107 : f ≠ 107 := by rintro rfl; exact absurd hf (by decide)
  have n108 : f ≠ 108 := by rintro rfl; exact absurd hf (by decide)
  have n109 : f ≠ 109 := by rintro rfl; exact absurd hf (by decide)
  have n110 : f ≠ 110 := by rintro rfl; exact absurd hf (by decide)
  have n111 : f ≠ 111 := by rintro rfl; exact absurd hf (by decide)
  have n112 : f ≠ 112 := by rintro rfl; exact absurd hf (by decide)
  have n113 : f ≠ 113 := by rintro rfl; exact absurd hf (by decide)
  have n190 : f ≠ 190 := by rintro rfl; exact absurd hf (by decide)
  have n200 : f ≠ 200 := by rintro rfl; exact absurd hf (by decide)
  have n201 : f ≠ 201 := by rintro rfl; exact absurd hf (by decide)
  have n202 : f ≠ 202 := by rintro rfl; exact absurd hf (by decide)
  have n203 : f ≠ 203 := by rintro rfl; exact absurd hf (by decide)
  have n204 : f ≠ 204 := by rintro rfl; exact absurd hf (by decide)
  have n205 : f ≠ 205 := by rintro rfl; exact absurd hf (by decide)
  have n206 : f ≠ 206 := by rintro rfl; exact absurd hf (by decide)
  have n207 : f ≠ 207 := by rintro rfl; exact absurd hf (by decide)
  have n208 : f ≠ 208 := by rintro rfl; exact absurd hf (by decide)
  have n209 : f ≠ 209 := by rintro rfl; exact absurd hf (by decide)
  have n210 : f ≠ 210 := by rintro rfl; exact absurd hf (by decide)
  have n211 : f ≠ 211 := by rintro rfl; exact absurd hf (by decide)
  have n290 : f ≠ 290 := by rintro rfl; exact absurd hf (by decide)
  have n306 : f ≠ 306 := by rintro rfl; exact absurd hf (by decide)
  have n404 : f ≠ 404 := by rintro rfl; exact absurd hf (by decide)
  have n600 : f ≠ 600 := by rintro rfl; exact absurd hf (by decide)
  have n601 : f ≠ 601 := by rintro rfl; exact absurd hf (by decide)
  have n602 : f ≠ 602 := by rintro rfl; exact absurd hf (by decide)
  have lt : f < 1000 := Nat.le_of_ble_eq_true (Bool.and_eq_true_iff.mp hf).1
  have f100 : ∀ (m : Nat → Nat → Int) (a b : Nat) (v : Int), u2 m 100 a v f b = m f b := fun m a b v => u2_f n100
  have f101 : ∀ (m : Nat → Nat → Int) (a b : Nat) (v : Int), u2 m 101 a v f b = m f b := fun m a b v => u2_f n101
  have f102 : ∀ (m : Nat → Nat → Int) (a b : Nat) (v : Int), u2 m 102 a v f b = m f b := fun m a b v => u2_f n102
  have f103 : ∀ (m : Nat → Nat → Int) (a b : Nat) (v : Int), u2 m 103 a v f b = m f b := fun m a b v => u2_f n103
  have f104 : ∀ (m : Nat → Nat → Int) (a b : Nat) (v : Int), u2 m 104 a v f b = m f b := fun m a b v => u2_f n104
  have f105 : ∀ (m : Nat → Nat → Int) (a b : Nat) (v : Int), u2 m 105 a v f b = m f b := fun m a b v => u2_f n105
  have f106 : ∀ (m : Nat → Nat → Int) (a b : Nat) (v : Int), u2 m 106 a v f b = m f b := fun m a b v => u2_f n106
  have f107 : ∀ (m : Nat → Nat → Int) (a b : Nat) (v : Int), u2 m 107 a v f b = m f b := fun m a b v => u2_f n107
  have f108 : ∀ (m : Nat → Nat → Int) (a b : Nat) (v : Int), u2 m 108 a v f b = m f b := fun m a b v => u2_f n108
  have f109 : ∀ (m : Nat → Nat → Int) (a b : Nat) (v : Int), u2 m 109 a v f b = m f b := fun m a b v => u2_f n109
  have f110 : ∀ (m : Nat → Nat → Int) (a b : Nat) (v : Int), u2 m 110 a v f b = m f b := fun m a b v => u2_f n110
  have f111 : ∀ (m : Nat → Nat → Int) (a b : Nat) (v : Int), u2 m 111 a v f b = m f b := fun m a b v => u2_f n111
  have f112 : ∀ (m : Nat → Nat → Int) (a b : Nat) (v : Int), u2 m 112 a v f b = m f b := fun m a b v => u2_f n112
  have f113 : ∀ (m : Nat → Nat → Int) (a b : Nat) (v : Int), u2 m 113 a v f b = m f b := fun m a b v => u2_f n113
  have f190 : ∀ (m : Nat → Nat → Int) (a b : Nat) (v : Int), u2 m 190 a v f b = m f b := fun m a b v => u2_f n190
  have f200 : ∀ (m : Nat → Nat → Int) (a b : Nat) (v : Int), u2 m 200 a v f b = m f b := fun m a b v => u2_f n200
  have f201 : ∀ (m : Nat → Nat → Int) (a b : Nat) (v : Int), u2 m 201 a v f b = m f b := fun m a b v => u2_f n201
  have f202 : ∀ (m : Nat → Nat → Int) (a b : Nat) (v : Int), u2 m 202 a v f b = m f b := fun m a b v => u2_f n202
  have f203 : ∀ (m : Nat → Nat → Int) (a b : Nat) (v : Int), u2 m 203 a v f b = m f b := fun m a b v => u2_f n203
  have f204 : ∀ (m : Nat → Nat → Int) (a b : Nat) (v : Int), u2 m 204 a v f b = m f b := fun m a b v => u2_f n204
  have f205 : ∀ (m : Nat → Nat → Int) (a b : Nat) (v : Int), u2 m 205 a v f b = m f b := fun m a b v => u2_f n205
  have f206 : ∀ (m : Nat → Nat → Int) (a b : Nat) (v : Int), u2 m 206 a v f b = m f b := fun m a b v => u2_f n206
  have f207 : ∀ (m : Nat → Nat → Int) (a b : Nat) (v : Int), u2 m 207 a v f b = m f b := fun m a b v => u2_f n207
  have f208 : ∀ (m : Nat → Nat → Int) (a b : Nat) (v : Int), u2 m 208 a v f b = m f b := fun m a b v => u2_f n208
  have f209 : ∀ (m : Nat → Nat → Int) (a b : Nat) (v : Int), u2 m 209 a v f b = m f b := fun m a b v => u2_f n209
  have f210 : ∀ (m : Nat → Nat → Int) (a b : Nat) (v : Int), u2 m 210 a v f b = m f b := fun m a b v => u2_f n210
  have f211 : ∀ (m : Nat → Nat → Int) (a b : Nat) (v : Int), u2 m 211 a v f b = m f b := fun m a b v => u2_f n211
  have f290 : ∀ (m : Nat → Nat → Int) (a b : Nat) (v : Int), u2 m 290 a v f b = m f b := fun m a b v => u2_f n290
  have f306 : ∀ (m : Nat → Nat → Int) (a b : Nat) (v : Int), u2 m 306 a v f b = m f b := fun m a b v => u2_f n306
  have f404 : ∀ (m : Nat → Nat → Int) (a b : Nat) (v : Int), u2 m 404 a v f b = m f b := fun m a b v => u2_f n404
  have f600 : ∀ (m : Nat → Nat → Int) (a b : Nat) (v : Int), u2 m 600 a v f b = m f b := fun m a b v => u2_f n600
  have f601 : ∀ (m : Nat → Nat → Int) (a b : Nat) (v : Int), u2 m 601 a v f b = m f b := fun m a b v => u2_f n601
  have f602 : ∀ (m : Nat → Nat → Int) (a b : Nat) (v : Int), u2 m 602 a v f b = m f b := fun m a b v => u2_f n602
  have fw : ∀ (m : Nat → Nat → Int) (r a b : Nat) (v : Int), u2 m (1000 + r) a v f b = m f b := fun m r a b v => u2_f (by omega)
  have c_makeParts : ∀ (m : Nat → Nat → Int) (z_s z_i : Int) (k : Nat), s_makeParts m z_s z_i f k = m f k := by intros; exact s_makeParts_fr (Bool.and_eq_true_iff.mpr ⟨Nat.ble_eq_true_of_le lt, by simp only [List.elem_cons, List.elem_nil, beq_eq_false_iff_ne.mpr n100, beq_eq_false_iff_ne.mpr n101, beq_eq_false_iff_ne.mpr n102, beq_eq_false_iff_ne.mpr n103, beq_eq_false_iff_ne.mpr n104, beq_eq_false_iff_ne.mpr n105, beq_eq_false_iff_ne.mpr n106, beq_eq_false_iff_ne.mpr n107, beq_eq_false_iff_ne.mpr n108, beq_eq_false_iff_ne.mpr n109, beq_eq_false_iff_ne.mpr n110, beq_eq_false_iff_ne.mpr n111, beq_eq_false_iff_ne.mpr n112, beq_eq_false_iff_ne.mpr n113, beq_eq_false_iff_ne.mpr n190, beq_eq_false_iff_ne.mpr n200, beq_eq_false_iff_ne.mpr n201, beq_eq_false_iff_ne.mpr n202, beq_eq_false_iff_ne.mpr n203, beq_eq_false_iff_ne.mpr n204, beq_eq_false_iff_ne.mpr n205, beq_eq_false_iff_ne.mpr n206, beq_eq_false_iff_ne.mpr n207, beq_eq_false_iff_ne.mpr n208, beq_eq_false_iff_ne.mpr n209, beq_eq_false_iff_ne.mpr n210, beq_eq_false_iff_ne.mpr n211, beq_eq_false_iff_ne.mpr n290, beq_eq_false_iff_ne.mpr n306, beq_eq_false_iff_ne.mpr n600, beq_eq_false_iff_ne.mpr n601, beq_eq_false_iff_ne.mpr n602]; rfl⟩)
  intro d
  induction d with
  | zero => intros; rfl
  | succ d ih =>
    intro n ν
    rw [s_makeThere_16]
    repeat' with_reducible apply f_ite
    all_goals first | rfl | simp only [f100, f101, f102, f103, f104, f105, f106, f107, f108, f109, f110, f111, f112, f113, f190, f200, f201, f202, f203, f204, f205, f206, f207, f208, f209, f210, f211, f290, f306, f404, f600, f601, f602, fw, c_makeParts, ih]
set_option maxRecDepth 100000 in
theorem s_makeThere_fr {f kk : Nat} {s i : Int} (hf : (Nat.blt f 1000 && !([100, 101, 102, 103, 104, 105, 106, 107, 108, 109, 110, 111, 112, 113, 190, 200, 201, 202, 203, 204, 205, 206, 207, 208, 209, 210, 211, 290, 306, 404, 600, 601, 602].elem f)) = true) : s_makeThere κ s i f kk = κ f kk := by
  have n100 : f ≠ 100 := by rintro rfl; exact absurd hf (by decide)
  have n101 : f ≠ 101 := by rintro rfl; exact absurd hf (by decide)
  have n102 : f ≠ 102 := by rintro rfl; exact absurd hf (by decide)
  have n103 : f ≠ 103 := by rintro rfl; exact absurd hf (by decide)
  have n104 : f ≠ 104 := by rintro rfl; exact absurd hf (by decide)
  have n105 : f ≠ 105 := by rintro rfl; exact absurd hf (by decide)
  have n106 : f ≠ 106 := by rintro rfl; exact absurd hf (by decide)
  have n107 : f ≠ 107 := by rintro rfl; exact absurd hf (by decide)
  have n108 : f ≠ 108 := by rintro rfl; exact absurd hf (by decide)
  have n109 : f ≠ 109 := by rintro rfl; exact absurd hf (by decide)
  have n110 : f ≠ 110 := by rintro rfl; exact absurd hf (by decide)
  have n111 : f ≠ 111 := by rintro rfl; exact absurd hf (by decide)
  have n112 : f ≠ 112 := by rintro rfl; exact absurd hf (by decide)
  have n113 : f ≠ 113 := by rintro rfl; exact absurd hf (by decide)
  have n190 : f ≠ 190 := by rintro rfl; exact absurd hf (by decide)
  have n200 : f ≠ 200 := by rintro rfl; exact absurd hf (by decide)
  have n201 : f ≠ 201 := by rintro rfl; exact absurd hf (by decide)
  have n202 : f ≠ 202 := by rintro rfl; exact absurd hf (by decide)
  have n203 : f ≠ 203 := by rintro rfl; exact absurd hf (by decide)
  have n204 : f ≠ 204 := by rintro rfl; exact absurd hf (by decide)
  have n205 : f ≠ 205 := by rintro rfl; exact absurd hf (by decide)
  have n206 : f ≠ 206 := by rintro rfl; exact absurd hf (by decide)
  have n207 : f ≠ 207 := by rintro rfl; exact absurd hf (by decide)
  have n208 : f ≠ 208 := by rintro rfl; exact absurd hf (by decide)
  have n209 : f ≠ 209 := by rintro rfl; exact absurd hf (by decide)
  have n210 : f ≠ 210 := by rintro rfl; exact absurd hf (by decide)
  have n211 : f ≠ 211 := by rintro rfl; exact absurd hf (by decide)
  have n290 : f ≠ 290 := by rintro rfl; exact absurd hf (by decide)
  have n306 : f ≠ 306 := by rintro rfl; exact absurd hf (by decide)
  have n404 : f ≠ 404 := by rintro rfl; exact absurd hf (by decide)
  have n600 : f ≠ 600 := by rintro rfl; exact absurd hf (by decide)
  have n601 : f ≠ 601 := by rintro rfl; exact absurd hf (by decide)
  have n602 : f ≠ 602 := by rintro rfl; exact absurd hf (by decide)
  have lt : f < 1000 := Nat.le_of_ble_eq_true (Bool.and_eq_true_iff.mp hf).1
  have f100 : ∀ (m : Nat → Nat → Int) (a b : Nat) (v : Int), u2 m 100 a v f b = m f b := fun m a b v => u2_f n100
  have f101 : ∀ (m : Nat → Nat → Int) (a b : Nat) (v : Int), u2 m 101 a v f b = m f b := fun m a b v => u2_f n101
  have f102 : ∀ (m : Nat → Nat → Int) (a b : Nat) (v : Int), u2 m 102 a v f b = m f b := fun m a b v => u2_f n102
  have f103 : ∀ (m : Nat → Nat → Int) (a b : Nat) (v : Int), u2 m 103 a v f b = m f b := fun m a b v => u2_f n103
  have f104 : ∀ (m : Nat → Nat → Int) (a b : Nat) (v : Int), u2 m 104 a v f b = m f b := fun m a b v => u2_f n104
  have f105 : ∀ (m : Nat → Nat → Int) (a b : Nat) (v : Int), u2 m 105 a v f b = m f b := fun m a b v => u2_f n105
  have f106 : ∀ (m : Nat → Nat → Int) (a b : Nat) (v : Int), u2 m 106 a v f b = m f b := fun m a b v => u2_f n106
  have f107 : ∀ (m : Nat → Nat → Int) (a b : Nat) (v : Int), u2 m 107 a v f b = m f b := fun m a b v => u2_f n107
  have f108 : ∀ (m : Nat → Nat → Int) (a b : Nat) (v : Int), u2 m 108 a v f b = m f b := fun m a b v => u2_f n108
  have f109 : ∀ (m : Nat → Nat → Int) (a b : Nat) (v : Int), u2 m 109 a v f b = m f b := fun m a b v => u2_f n109
  have f110 : ∀ (m : Nat → Nat → Int) (a b : Nat) (v : Int), u2 m 110 a v f b = m f b := fun m a b v => u2_f n110
  have f111 : ∀ (m : Nat → Nat → Int) (a b : Nat) (v : Int), u2 m 111 a v f b = m f b := fun m a b v => u2_f n111
  have f112 : ∀ (m : Nat → Nat → Int) (a b : Nat) (v : Int), u2 m 112 a v f b = m f b := fun m a b v => u2_f n112
  have f113 : ∀ (m : Nat → Nat → Int) (a b : Nat) (v : Int), u2 m 113 a v f b = m f b := fun m a b v => u2_f n113
  have f190 : ∀ (m : Nat → Nat → Int) (a b : Nat) (v : Int), u2 m 190 a v f b = m f b := fun m a b v => u2_f n190
  have f200 : ∀ (m : Nat → Nat → Int) (a b : Nat) (v : Int), u2 m 200 a v f b = m f b := fun m a b v => u2_f n200
  have f201 : ∀ (m : Nat → Nat → Int) (a b : Nat) (v : Int), u2 m 201 a v f b = m f b := fun m a b v => u2_f n201
  have f202 : ∀ (m : Nat → Nat → Int) (a b : Nat) (v : Int), u2 m 202 a v f b = m f b := fun m a b v => u2_f n202
  have f203 : ∀ (m : Nat → Nat → Int) (a b : Nat) (v : Int), u2 m 203 a v f b = m f b := fun m a b v => u2_f n203
  have f204 : ∀ (m : Nat → Nat → Int) (a b : Nat) (v : Int), u2 m 204 a v f b = m f b := fun m a b v => u2_f n204
  have f205 : ∀ (m : Nat → Nat → Int) (a b : Nat) (v : Int), u2 m 205 a v f b = m f b := fun m a b v => u2_f n205
  have f206 : ∀ (m : Nat → Nat → Int) (a b : Nat) (v : Int), u2 m 206 a v f b = m f b := fun m a b v => u2_f n206
  have f207 : ∀ (m : Nat → Nat → Int) (a b : Nat) (v : Int), u2 m 207 a v f b = m f b := fun m a b v => u2_f n207
  have f208 : ∀ (m : Nat → Nat → Int) (a b : Nat) (v : Int), u2 m 208 a v f b = m f b := fun m a b v => u2_f n208
  have f209 : ∀ (m : Nat → Nat → Int) (a b : Nat) (v : Int), u2 m 209 a v f b = m f b := fun m a b v => u2_f n209
  have f210 : ∀ (m : Nat → Nat → Int) (a b : Nat) (v : Int), u2 m 210 a v f b = m f b := fun m a b v => u2_f n210
  have f211 : ∀ (m : Nat → Nat → Int) (a b : Nat) (v : Int), u2 m 211 a v f b = m f b := fun m a b v => u2_f n211
  have f290 : ∀ (m : Nat → Nat → Int) (a b : Nat) (v : Int), u2 m 290 a v f b = m f b := fun m a b v => u2_f n290
  have f306 : ∀ (m : Nat → Nat → Int) (a b : Nat) (v : Int), u2 m 306 a v f b = m f b := fun m a b v => u2_f n306
  have f404 : ∀ (m : Nat → Nat → Int) (a b : Nat) (v : Int), u2 m 404 a v f b = m f b := fun m a b v => u2_f n404
  have f600 : ∀ (m : Nat → Nat → Int) (a b : Nat) (v : Int), u2 m 600 a v f b = m f b := fun m a b v => u2_f n600
  have f601 : ∀ (m : Nat → Nat → Int) (a b : Nat) (v : Int), u2 m 601 a v f b = m f b := fun m a b v => u2_f n601
  have f602 : ∀ (m : Nat → Nat → Int) (a b : Nat) (v : Int), u2 m 602 a v f b = m f b := fun m a b v => u2_f n602
  have fw : ∀ (m : Nat → Nat → Int) (r a b : Nat) (v : Int), u2 m (1000 + r) a v f b = m f b := fun m r a b v => u2_f (by omega)
  have c_makeParts : ∀ (m : Nat → Nat → Int) (z_s z_i : Int) (k : Nat), s_makeParts m z_s z_i f k = m f k := by intros; exact s_makeParts_fr (Bool.and_eq_true_iff.mpr ⟨Nat.ble_eq_true_of_le lt, by simp only [List.elem_cons, List.elem_nil, beq_eq_false_iff_ne.mpr n100, beq_eq_false_iff_ne.mpr n101, beq_eq_false_iff_ne.mpr n102, beq_eq_false_iff_ne.mpr n103, beq_eq_false_iff_ne.mpr n104, beq_eq_false_iff_ne.mpr n105, beq_eq_false_iff_ne.mpr n106, beq_eq_false_iff_ne.mpr n107, beq_eq_false_iff_ne.mpr n108, beq_eq_false_iff_ne.mpr n109, beq_eq_false_iff_ne.mpr n110, beq_eq_false_iff_ne.mpr n111, beq_eq_false_iff_ne.mpr n112, beq_eq_false_iff_ne.mpr n113, beq_eq_false_iff_ne.mpr n190, beq_eq_false_iff_ne.mpr n200, beq_eq_false_iff_ne.mpr n201, beq_eq_false_iff_ne.mpr n202, beq_eq_false_iff_ne.mpr n203, beq_eq_false_iff_ne.mpr n204, beq_eq_false_iff_ne.mpr n205, beq_eq_false_iff_ne.mpr n206, beq_eq_false_iff_ne.mpr n207, beq_eq_false_iff_ne.mpr n208, beq_eq_false_iff_ne.mpr n209, beq_eq_false_iff_ne.mpr n210, beq_eq_false_iff_ne.mpr n211, beq_eq_false_iff_ne.mpr n290, beq_eq_false_iff_ne.mpr n306, beq_eq_false_iff_ne.mpr n600, beq_eq_false_iff_ne.mpr n601, beq_eq_false_iff_ne.mpr n602]; rfl⟩)
  unfold s_makeThere
  repeat' with_reducible apply f_ite
  all_goals first | rfl | simp only [f100, f101, f102, f103, f104, f105, f106, f107, f108, f109, f110, f111, f112, f113, f190, f200, f201, f202, f203, f204, f205, f206, f207, f208, f209, f210, f211, f290, f306, f404, f600, f601, f602, fw, c_makeParts, s_makeThere_16_fr hf]
end KJ
