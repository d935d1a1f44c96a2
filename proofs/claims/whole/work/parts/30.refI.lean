section MR10
variable {L : Launch} {G : mmG} {A : Nat → Nat} {ax : Nat → Option Nat} {h0 : mmH} {μ ν : Nat → Nat → Int}
theorem mLi_new {μ μ' S : Nat → Nat → Int} {p : Nat} {s k a b n : Int} (hL : mLi μ) (h : ∀ f, [36, 37].elem f = true → ∀ k, μ f k = S f k) (h2 : ∀ f, [51, 52, 53, 54, 56, 58].elem f = true → ∀ q, q ≠ p → μ f q = S f q)
    (z1 : S 51 p = s) (z2 : S 52 p = k) (z3 : S 53 p = a) (z4 : S 54 p = b) (z6 : S 56 p = n)
    (w : (((k = 4 ∨ k = 5 ∨ k = 17 ∨ k = 21) ∧ a < 256) ∨ (k = 16 ∨ k = 18 ∨ k = 19 ∨ k = 20 ∨ k = 22 ∨ k = 23)) ∨ (k = 8 ∧ a < 256 ∧ b + n ≤ mW μ' s a)) (hw : mW μ' s a = mW μ s a) : mLi S := by
  refine mLi_at h h2 hL ?_
  unfold mFr
  rw [z1, z2, z3, z4, z6, ← mW_cg h, ← hw]
  rcases w with (w | w) | w
  · exact Or.inl w
  · exact Or.inr (Or.inl w)
  · exact Or.inr (Or.inr w)
def v_fill_94 (μ : Nat → Nat → Int) (s r : Int) : Nat → Int → Int → (Nat → Nat → Int) → Int
  | 0, _, _, _ => 0
  | d + 1, k, p, ν => (if (ν 49 0) ≤ k then p else (v_fill_94 μ s r d (k + 1) p (u2 ν 60 ((1200 * p) + k).toNat (ν 50 k.toNat))))
def s_fill_94 (μ : Nat → Nat → Int) (s r : Int) : Nat → Int → Int → (Nat → Nat → Int) → (Nat → Nat → Int)
  | 0, _, _, ν => ν
  | d + 1, k, p, ν => (if (ν 49 0) ≤ k then ν else (s_fill_94 μ s r d (k + 1) p (u2 ν 60 ((1200 * p) + k).toNat (ν 50 k.toNat))))
def v_fill (μ : Nat → Nat → Int) (s r : Int) : Int := (if s < 0 ∨ 1 < s then 0 else (if r < 1 then 0 else (if r ≤ 1200 then (if (v_freePlace μ) < 0 then 0 else (if (μ 1 0) = 0 then 0 else (if (v_fills (u2 (u2 μ 0 0 0) 0 0 0) s r) = 0 then -1 else (v_fill_94 μ s r 1201 0 (v_freePlace μ) (u2 (u2 (u2 (u2 (u2 (u2 (u2 (u2 (u2 (s_fills (u2 (u2 μ 0 0 0) 0 0 0) s r) 58 (v_freePlace μ).toNat 1) 51 (v_freePlace μ).toNat s) 52 (v_freePlace μ).toNat ((s_fills (u2 (u2 μ 0 0 0) 0 0 0) s r) 45 0)) 53 (v_freePlace μ).toNat ((s_fills (u2 (u2 μ 0 0 0) 0 0 0) s r) 46 0)) 54 (v_freePlace μ).toNat ((s_fills (u2 (u2 μ 0 0 0) 0 0 0) s r) 47 0)) 55 (v_freePlace μ).toNat ((s_fills (u2 (u2 μ 0 0 0) 0 0 0) s r) 48 0)) 56 (v_freePlace μ).toNat ((s_fills (u2 (u2 μ 0 0 0) 0 0 0) s r) 49 0)) 57 (v_freePlace μ).toNat (v_bytes (s_fills (u2 (u2 μ 0 0 0) 0 0 0) s r))) 59 (v_freePlace μ).toNat 0))))) else 0)))
def s_fill (μ : Nat → Nat → Int) (s r : Int) : Nat → Nat → Int := (if s < 0 ∨ 1 < s then (u2 μ 0 0 1) else (if r < 1 then (u2 μ 0 0 1) else (if r ≤ 1200 then (if (v_freePlace μ) < 0 then (u2 (u2 μ 0 0 0) 0 0 2) else (if (μ 1 0) = 0 then (u2 (u2 μ 0 0 0) 0 0 2) else (if (v_fills (u2 (u2 μ 0 0 0) 0 0 0) s r) = 0 then (s_fills (u2 (u2 μ 0 0 0) 0 0 0) s r) else (s_fill_94 μ s r 1201 0 (v_freePlace μ) (u2 (u2 (u2 (u2 (u2 (u2 (u2 (u2 (u2 (s_fills (u2 (u2 μ 0 0 0) 0 0 0) s r) 58 (v_freePlace μ).toNat 1) 51 (v_freePlace μ).toNat s) 52 (v_freePlace μ).toNat ((s_fills (u2 (u2 μ 0 0 0) 0 0 0) s r) 45 0)) 53 (v_freePlace μ).toNat ((s_fills (u2 (u2 μ 0 0 0) 0 0 0) s r) 46 0)) 54 (v_freePlace μ).toNat ((s_fills (u2 (u2 μ 0 0 0) 0 0 0) s r) 47 0)) 55 (v_freePlace μ).toNat ((s_fills (u2 (u2 μ 0 0 0) 0 0 0) s r) 48 0)) 56 (v_freePlace μ).toNat ((s_fills (u2 (u2 μ 0 0 0) 0 0 0) s r) 49 0)) 57 (v_freePlace μ).toNat (v_bytes (s_fills (u2 (u2 μ 0 0 0) 0 0 0) s r))) 59 (v_freePlace μ).toNat 0))))) else (u2 μ 0 0 1))))
set_option maxRecDepth 100000 in
theorem m_fill (hF : mm_F G) (htr : L.stackTraces = false) (hx : mx A ax) (hV : mV μ) {s r : Int} (h1 : -2147483648 ≤ s) (h2 : s < 2147483648) (h3 : -2147483648 ≤ r) (h3a : r < 2147483648) (hL : mLi μ) :
    mm_Met L G SX6_fill [.ref (A 99), .int (iI s), .int (iI r)] (hm G A ax h0 μ) 0 0 (mRetS (some (.int (iI (v_fill μ s r)))) (hm G A ax h0 (s_fill μ s r)) (mV (s_fill μ s r) ∧ (fun _ m => mLi m) (v_fill μ s r) (s_fill μ s r))) mm_no := by
  refine mi_meth MX6_fill 400 hF htr okX6_fill (av := [aR (A 99), aI s, aI r]) (by decide +kernel) (Nat.le_of_ble_eq_true rfl) cmX6_fill (fun θ hc => ?_)
  have loop94 : ∀ (R : Int) (S : Nat → Nat → Int) (d : Nat) (k p : Int) (ν : Nat → Nat → Int) (hV : mV ν), (0 ≤ k ∧ k ≤ ν 49 0) → (ν 49 0 ≤ 1200) → (0 ≤ p ∧ p ≤ 63) → (mLi ν) → (ν 49 0 - k) < (d : Int) → v_fill_94 μ s r d k p ν = R → s_fill_94 μ s r d k p ν = S → mi_W L G MX6_fill 0 0 (mRetS (some (.int (iI R))) (hm G A ax h0 S) (mV S ∧ (fun _ m => mLi m) R S)) mm_no θ 94 [(4, aI k), (3, aI p), (0, aR (A 99)), (1, aI s), (2, aI r)] [] (hm G A ax h0 ν) 0 0 := by
    intro R S d
    induction d with
    | zero =>
      intro k p ν hV hi1 hi2 hi3 hL hms hvr hsr
      omega
    | succ d ih =>
      intro k p ν hV hi1 hi2 hi3 hL hms hvr hsr
      refine mi_sound hc okX6_fill 400 _ _ _ _ _ _ ?_
      refine ⟨_, hm_oi hx, aI (ν 49 0), rfl, ?_⟩
      have t1 := (show 0 ≤ ν 49 0 ∧ ν 49 0 ≤ 2048 from hV.g 49 0)
      refine ⟨by omega, fun (e2 : (ν 49 0) ≤ k) => ?_, fun (e2 : ¬ ((ν 49 0) ≤ k)) => ?_⟩
      · exact ⟨mRetIP (P := fun _ m => mLi m) (hvr.symm.trans (by first | exact if_pos e2 | (rw [v_fill_94]; rw [if_pos e2]))) (hsr.symm.trans (by first | exact if_pos e2 | (rw [s_fill_94]; rw [if_pos e2]))) hV hL, Nat.le_refl _, Nat.le_refl _⟩
      · refine ⟨_, hm_oi hx, aR (A 60), rfl, ?_⟩
        refine ⟨_, hm_oi hx, aR (A 50), rfl, ?_⟩
        refine ⟨2048, _, (ν 50 k.toNat), hm_a hx 50 rfl, by omega, rfl, ?_⟩
        have t3 := (show -128 ≤ ν 50 k.toNat ∧ ν 50 k.toNat ≤ 127 from hV.g 50 k.toNat)
        refine ⟨76800, _, _, hm_a hx 60 rfl, by omega, (show -128 ≤ (ν 50 k.toNat) ∧ (ν 50 k.toNat) < 128 from by omega), hm_pi hx (i := ((1200 * p) + k).toNat) (v := (ν 50 k.toNat)) rfl rfl rfl rfl, ?_⟩
        have hV4 := hV.u (f := 60) (k := ((1200 * p) + k).toNat) (v := (ν 50 k.toNat)) (show -128 ≤ (ν 50 k.toNat) ∧ (ν 50 k.toNat) ≤ 127 from by omega)
        exact mi_Wsub (List.forall_mem_cons.mpr ⟨(.head _), List.forall_mem_cons.mpr ⟨(.tail _ (.head _)), List.forall_mem_cons.mpr ⟨(.tail _ (.tail _ (.head _))), List.forall_mem_cons.mpr ⟨(.tail _ (.tail _ (.tail _ (.head _)))), List.forall_mem_cons.mpr ⟨(.tail _ (.tail _ (.tail _ (.tail _ (.head _))))), fun _ h => absurd h List.not_mem_nil⟩⟩⟩⟩⟩) (ih (k + 1) p (u2 ν 60 ((1200 * p) + k).toNat (ν 50 k.toNat)) hV4 (show 0 ≤ (k + 1) ∧ (k + 1) ≤ (ν 49 0) from by omega) (show (ν 49 0) ≤ 1200 from by omega) (show 0 ≤ p ∧ p ≤ 63 from by omega) (mLi_u (by decide) hL) (show ((ν 49 0) - (k + 1)) < (d : Int) from by omega) (Eq.trans (by first | exact (if_neg e2).symm | (rw [v_fill_94]; rw [if_neg e2])) hvr) (Eq.trans (by first | exact (if_neg e2).symm | (rw [s_fill_94]; rw [if_neg e2])) hsr))
  refine ⟨_, _, _, _, (m_noSide hF htr (s := s) (by omega) (by omega)), Nat.le_refl _, Nat.le_refl _, mki_ (r := some (aI (b2 (s < 0 ∨ 1 < s)))) ?_, fun _ _ q => q.elim⟩
  refine ⟨by have := b2_r (s < 0 ∨ 1 < s); omega, fun e5 => ?_, fun e5 => ?_⟩
  · have e5 : s < 0 ∨ 1 < s := b2_n0.mp e5
    refine ⟨⟨_, hm_oi hx⟩, _, _, _, _, (m_fails1 hF htr hx (c := 1)), Nat.le_refl _, Nat.le_refl _, mki_ (r := some (aI 1)) ?_, fun _ _ q => q.elim⟩
    have hV6 := hV.u (f := 0) (k := 0) (v := 1) (show 0 ≤ 1 ∧ 1 ≤ 2 from by omega)
    refine ⟨by omega, fun _ => ?_, fun (e : (1 : Int) = 0) => absurd e (by decide)⟩
    exact ⟨mRetIP (P := fun _ m => mLi m) (by first | exact if_pos e5 | (unfold v_fill; rw [if_pos e5])) (by first | exact if_pos e5 | (unfold s_fill; rw [if_pos e5])) hV6 (mLi_cg (by intro f hf k; simp only [List.elem_eq_mem, decide_eq_true_eq, List.mem_cons, List.not_mem_nil, or_false] at hf; rcases hf with rfl | rfl | rfl | rfl | rfl | rfl | rfl | rfl <;> first | exact ((u2_f (by decide))).symm) hL), Nat.le_refl _, Nat.le_refl _⟩
  · have e5 : ¬ (s < 0 ∨ 1 < s) := b2_e0.mp e5
    refine ⟨by omega, fun (e7 : r < 1) => ?_, fun (e7 : ¬ (r < 1)) => ?_⟩
    · refine ⟨⟨_, hm_oi hx⟩, _, _, _, _, (m_fails1 hF htr hx (c := 1)), Nat.le_refl _, Nat.le_refl _, mki_ (r := some (aI 1)) ?_, fun _ _ q => q.elim⟩
      have hV8 := hV.u (f := 0) (k := 0) (v := 1) (show 0 ≤ 1 ∧ 1 ≤ 2 from by omega)
      refine ⟨by omega, fun _ => ?_, fun (e : (1 : Int) = 0) => absurd e (by decide)⟩
      exact ⟨mRetIP (P := fun _ m => mLi m) (by first | exact (if_neg e5).trans (if_pos e7) | (unfold v_fill; rw [if_neg e5, if_pos e7])) (by first | exact (if_neg e5).trans (if_pos e7) | (unfold s_fill; rw [if_neg e5, if_pos e7])) hV8 (mLi_cg (by intro f hf k; simp only [List.elem_eq_mem, decide_eq_true_eq, List.mem_cons, List.not_mem_nil, or_false] at hf; rcases hf with rfl | rfl | rfl | rfl | rfl | rfl | rfl | rfl <;> first | exact ((u2_f (by decide))).symm) hL), Nat.le_refl _, Nat.le_refl _⟩
    · refine ⟨by omega, fun (e9 : r ≤ 1200) => ?_, fun (e9 : ¬ (r ≤ 1200)) => ?_⟩
      · refine ⟨⟨_, hm_oi hx⟩, _, _, _, _, (m_fails0 hF htr hx (c := 1)), Nat.le_refl _, Nat.le_refl _, mki_ (r := some (aI 0)) ?_, fun _ _ q => q.elim⟩
        have hV10 := hV.u (f := 0) (k := 0) (v := 0) (show 0 ≤ 0 ∧ 0 ≤ 2 from by omega)
        refine ⟨by omega, fun (e : ¬ ((0 : Int) = 0)) => (e (by decide)).elim, fun _ => ?_⟩
        have ev11 : (v_freePlace (u2 μ 0 0 0)) = (v_freePlace μ) := (v_freePlace_cg (by intro f hf k; simp only [List.elem_eq_mem, decide_eq_true_eq, List.mem_cons, List.not_mem_nil, or_false] at hf; subst hf; first | exact (u2_f (by decide))))
        refine ⟨⟨_, hm_oi hx⟩, _, _, _, _, (m_freePlace hF htr hx hV10), Nat.le_refl _, Nat.le_refl _, mkiE (r := some (aI (v_freePlace μ))) (congrArg (fun q => some (Value.int q)) (congrArg iI ev11)) ?_, fun _ _ q => q.elim⟩
        have t12 := freePlace_b (μ := (u2 μ 0 0 0))
        rw [ev11] at t12
        refine ⟨by omega, fun (e13 : (v_freePlace μ) < 0) => ?_, fun (e13 : ¬ ((v_freePlace μ) < 0)) => ?_⟩
        · refine ⟨⟨_, hm_oi hx⟩, _, _, _, _, (m_fails1 hF htr hx (c := 2)), Nat.le_refl _, Nat.le_refl _, mki_ (r := some (aI 1)) ?_, fun _ _ q => q.elim⟩
          have hV14 := hV10.u (f := 0) (k := 0) (v := 2) (show 0 ≤ 2 ∧ 2 ≤ 2 from by omega)
          refine ⟨by omega, fun (e : (1 : Int) = 0) => absurd e (by decide), fun _ => ?_⟩
          exact ⟨mRetIP (P := fun _ m => mLi m) (by first | exact (if_neg e5).trans ((if_neg e7).trans ((if_pos e9).trans (if_pos e13))) | (unfold v_fill; rw [if_neg e5, if_neg e7, if_pos e9, if_pos e13])) (by first | exact (if_neg e5).trans ((if_neg e7).trans ((if_pos e9).trans (if_pos e13))) | (unfold s_fill; rw [if_neg e5, if_neg e7, if_pos e9, if_pos e13])) hV14 (mLi_cg (by intro f hf k; simp only [List.elem_eq_mem, decide_eq_true_eq, List.mem_cons, List.not_mem_nil, or_false] at hf; rcases hf with rfl | rfl | rfl | rfl | rfl | rfl | rfl | rfl <;> first | exact ((Eq.trans (u2_f (by decide)) (u2_f (by decide)))).symm) hL), Nat.le_refl _, Nat.le_refl _⟩
        · refine ⟨_, hm_oi hx, aI (μ 1 0), rfl, ?_⟩
          have t15 := (show 0 ≤ μ 1 0 ∧ μ 1 0 ≤ 1 from hV.g 1 0)
          refine ⟨by omega, fun (e16 : ¬ ((μ 1 0) = 0)) => ?_, fun (e16 : (μ 1 0) = 0) => ?_⟩
          · refine ⟨⟨_, hm_oi hx⟩, _, _, _, _, (m_fails0 hF htr hx (c := 2)), Nat.le_refl _, Nat.le_refl _, mki_ (r := some (aI 0)) ?_, fun _ _ q => q.elim⟩
            have hV17 := hV10.u (f := 0) (k := 0) (v := 0) (show 0 ≤ 0 ∧ 0 ≤ 2 from by omega)
            refine ⟨by omega, fun _ => ?_, fun (e : ¬ ((0 : Int) = 0)) => (e (by decide)).elim⟩
            refine ⟨⟨_, hm_oi hx⟩, _, _, _, _, (m_fills hF htr hx hV17 (s := s) (r := r) (by omega) (by omega) (by omega) (by omega)), Nat.le_refl _, Nat.le_refl _, mkis_ (r := some (aI (v_fills (u2 (u2 μ 0 0 0) 0 0 0) s r))) (fun ⟨hV18, hp19⟩ => ?_), fun _ _ q => q.elim⟩
            have hp19 : ((v_fills (u2 (u2 μ 0 0 0) 0 0 0) s r) = 0 ∨ (v_fills (u2 (u2 μ 0 0 0) 0 0 0) s r) = 1) ∧ ((v_fills (u2 (u2 μ 0 0 0) 0 0 0) s r) = 1 → (s_fills (u2 (u2 μ 0 0 0) 0 0 0) s r) 49 0 ≤ 1200 ∧ (((((s_fills (u2 (u2 μ 0 0 0) 0 0 0) s r) 45 0 = 4 ∨ (s_fills (u2 (u2 μ 0 0 0) 0 0 0) s r) 45 0 = 5 ∨ (s_fills (u2 (u2 μ 0 0 0) 0 0 0) s r) 45 0 = 17 ∨ (s_fills (u2 (u2 μ 0 0 0) 0 0 0) s r) 45 0 = 21) ∧ (s_fills (u2 (u2 μ 0 0 0) 0 0 0) s r) 46 0 < 256) ∨ ((s_fills (u2 (u2 μ 0 0 0) 0 0 0) s r) 45 0 = 16 ∨ (s_fills (u2 (u2 μ 0 0 0) 0 0 0) s r) 45 0 = 18 ∨ (s_fills (u2 (u2 μ 0 0 0) 0 0 0) s r) 45 0 = 19 ∨ (s_fills (u2 (u2 μ 0 0 0) 0 0 0) s r) 45 0 = 20 ∨ (s_fills (u2 (u2 μ 0 0 0) 0 0 0) s r) 45 0 = 22 ∨ (s_fills (u2 (u2 μ 0 0 0) 0 0 0) s r) 45 0 = 23)) ∨ ((s_fills (u2 (u2 μ 0 0 0) 0 0 0) s r) 45 0 = 8 ∧ (s_fills (u2 (u2 μ 0 0 0) 0 0 0) s r) 46 0 < 256 ∧ (s_fills (u2 (u2 μ 0 0 0) 0 0 0) s r) 47 0 + (s_fills (u2 (u2 μ 0 0 0) 0 0 0) s r) 49 0 ≤ mW (u2 (u2 μ 0 0 0) 0 0 0) s ((s_fills (u2 (u2 μ 0 0 0) 0 0 0) s r) 46 0)))) := hp19
            refine ⟨by omega, fun (e20 : ¬ ((v_fills (u2 (u2 μ 0 0 0) 0 0 0) s r) = 0)) => ?_, fun (e20 : (v_fills (u2 (u2 μ 0 0 0) 0 0 0) s r) = 0) => ?_⟩
            · have ev21 : (v_freePlace (s_fills (u2 (u2 μ 0 0 0) 0 0 0) s r)) = (v_freePlace μ) := (v_freePlace_cg (by intro f hf k; simp only [List.elem_eq_mem, decide_eq_true_eq, List.mem_cons, List.not_mem_nil, or_false] at hf; subst hf; first | exact (Eq.trans (s_fills_fr (by decide)) (Eq.trans (u2_f (by decide)) (u2_f (by decide))))))
              refine ⟨⟨_, hm_oi hx⟩, _, _, _, _, (m_freePlace hF htr hx hV18), Nat.le_refl _, Nat.le_refl _, mkiE (r := some (aI (v_freePlace μ))) (congrArg (fun q => some (Value.int q)) (congrArg iI ev21)) ?_, fun _ _ q => q.elim⟩
              have t22 := freePlace_b (μ := (s_fills (u2 (u2 μ 0 0 0) 0 0 0) s r))
              rw [ev21] at t22
              refine ⟨_, hm_oi hx, aR (A 58), rfl, ?_⟩
              refine mi_nl [(3, aI (v_freePlace μ)), (0, aR (A 99)), (1, aI s), (2, aI r)] rfl ?_
              refine ⟨64, _, _, hm_a hx 58 rfl, by omega, (show 1 = 0 ∨ 1 = 1 from by omega), hm_pi hx (i := (v_freePlace μ).toNat) (v := 1) rfl rfl rfl rfl, ?_⟩
              have hV23 := hV18.u (f := 58) (k := (v_freePlace μ).toNat) (v := 1) (show 0 ≤ 1 ∧ 1 ≤ 1 from by omega)
              refine ⟨_, hm_oi hx, aR (A 51), rfl, ?_⟩
              refine ⟨64, _, _, hm_a hx 51 rfl, by omega, trivial, hm_pi hx (i := (v_freePlace μ).toNat) (v := s) rfl rfl rfl rfl, ?_⟩
              have hV24 := hV23.u (f := 51) (k := (v_freePlace μ).toNat) (v := s) (show 0 ≤ s ∧ s ≤ 1 from by omega)
              refine ⟨_, hm_oi hx, aR (A 52), rfl, ?_⟩
              refine ⟨_, hm_oi hx, aI ((s_fills (u2 (u2 μ 0 0 0) 0 0 0) s r) 45 0), rfl, ?_⟩
              have t25 := (show 0 ≤ (s_fills (u2 (u2 μ 0 0 0) 0 0 0) s r) 45 0 ∧ (s_fills (u2 (u2 μ 0 0 0) 0 0 0) s r) 45 0 ≤ 23 from hV18.g 45 0)
              refine ⟨64, _, _, hm_a hx 52 rfl, by omega, trivial, hm_pi hx (i := (v_freePlace μ).toNat) (v := ((s_fills (u2 (u2 μ 0 0 0) 0 0 0) s r) 45 0)) rfl rfl rfl rfl, ?_⟩
              have hV26 := hV24.u (f := 52) (k := (v_freePlace μ).toNat) (v := ((s_fills (u2 (u2 μ 0 0 0) 0 0 0) s r) 45 0)) (show 0 ≤ ((s_fills (u2 (u2 μ 0 0 0) 0 0 0) s r) 45 0) ∧ ((s_fills (u2 (u2 μ 0 0 0) 0 0 0) s r) 45 0) ≤ 23 from by omega)
              refine ⟨_, hm_oi hx, aR (A 53), rfl, ?_⟩
              refine ⟨_, hm_oi hx, aL ((s_fills (u2 (u2 μ 0 0 0) 0 0 0) s r) 46 0), rfl, ?_⟩
              have t27 := (show 0 ≤ (s_fills (u2 (u2 μ 0 0 0) 0 0 0) s r) 46 0 ∧ (s_fills (u2 (u2 μ 0 0 0) 0 0 0) s r) 46 0 ≤ 4611686018427387903 from hV18.g 46 0)
              refine ⟨64, _, _, hm_a hx 53 rfl, by omega, hm_pl hx (i := (v_freePlace μ).toNat) (v := ((s_fills (u2 (u2 μ 0 0 0) 0 0 0) s r) 46 0)) rfl rfl rfl, ?_⟩
              have hV28 := hV26.u (f := 53) (k := (v_freePlace μ).toNat) (v := ((s_fills (u2 (u2 μ 0 0 0) 0 0 0) s r) 46 0)) (show 0 ≤ ((s_fills (u2 (u2 μ 0 0 0) 0 0 0) s r) 46 0) ∧ ((s_fills (u2 (u2 μ 0 0 0) 0 0 0) s r) 46 0) ≤ 4611686018427387903 from by omega)
              refine ⟨_, hm_oi hx, aR (A 54), rfl, ?_⟩
              refine ⟨_, hm_oi hx, aL ((s_fills (u2 (u2 μ 0 0 0) 0 0 0) s r) 47 0), rfl, ?_⟩
              have t29 := (show 0 ≤ (s_fills (u2 (u2 μ 0 0 0) 0 0 0) s r) 47 0 ∧ (s_fills (u2 (u2 μ 0 0 0) 0 0 0) s r) 47 0 ≤ 4611686018427387903 from hV18.g 47 0)
              refine ⟨64, _, _, hm_a hx 54 rfl, by omega, hm_pl hx (i := (v_freePlace μ).toNat) (v := ((s_fills (u2 (u2 μ 0 0 0) 0 0 0) s r) 47 0)) rfl rfl rfl, ?_⟩
              have hV30 := hV28.u (f := 54) (k := (v_freePlace μ).toNat) (v := ((s_fills (u2 (u2 μ 0 0 0) 0 0 0) s r) 47 0)) (show 0 ≤ ((s_fills (u2 (u2 μ 0 0 0) 0 0 0) s r) 47 0) ∧ ((s_fills (u2 (u2 μ 0 0 0) 0 0 0) s r) 47 0) ≤ 4611686018427387903 from by omega)
              refine ⟨_, hm_oi hx, aR (A 55), rfl, ?_⟩
              refine ⟨_, hm_oi hx, aL ((s_fills (u2 (u2 μ 0 0 0) 0 0 0) s r) 48 0), rfl, ?_⟩
              have t31 := (show 0 ≤ (s_fills (u2 (u2 μ 0 0 0) 0 0 0) s r) 48 0 ∧ (s_fills (u2 (u2 μ 0 0 0) 0 0 0) s r) 48 0 ≤ 4611686018427387903 from hV18.g 48 0)
              refine ⟨64, _, _, hm_a hx 55 rfl, by omega, hm_pl hx (i := (v_freePlace μ).toNat) (v := ((s_fills (u2 (u2 μ 0 0 0) 0 0 0) s r) 48 0)) rfl rfl rfl, ?_⟩
              have hV32 := hV30.u (f := 55) (k := (v_freePlace μ).toNat) (v := ((s_fills (u2 (u2 μ 0 0 0) 0 0 0) s r) 48 0)) (show 0 ≤ ((s_fills (u2 (u2 μ 0 0 0) 0 0 0) s r) 48 0) ∧ ((s_fills (u2 (u2 μ 0 0 0) 0 0 0) s r) 48 0) ≤ 4611686018427387903 from by omega)
              refine ⟨_, hm_oi hx, aR (A 56), rfl, ?_⟩
              refine ⟨_, hm_oi hx, aI ((s_fills (u2 (u2 μ 0 0 0) 0 0 0) s r) 49 0), rfl, ?_⟩
              have t33 := (show 0 ≤ (s_fills (u2 (u2 μ 0 0 0) 0 0 0) s r) 49 0 ∧ (s_fills (u2 (u2 μ 0 0 0) 0 0 0) s r) 49 0 ≤ 2048 from hV18.g 49 0)
              refine ⟨64, _, _, hm_a hx 56 rfl, by omega, trivial, hm_pi hx (i := (v_freePlace μ).toNat) (v := ((s_fills (u2 (u2 μ 0 0 0) 0 0 0) s r) 49 0)) rfl rfl rfl rfl, ?_⟩
              have hV34 := hV32.u (f := 56) (k := (v_freePlace μ).toNat) (v := ((s_fills (u2 (u2 μ 0 0 0) 0 0 0) s r) 49 0)) (show 0 ≤ ((s_fills (u2 (u2 μ 0 0 0) 0 0 0) s r) 49 0) ∧ ((s_fills (u2 (u2 μ 0 0 0) 0 0 0) s r) 49 0) ≤ 1200 from by omega)
              refine ⟨_, hm_oi hx, aR (A 57), rfl, ?_⟩
              have ev35 : (v_bytes (u2 (u2 (u2 (u2 (u2 (u2 (u2 (s_fills (u2 (u2 μ 0 0 0) 0 0 0) s r) 58 (v_freePlace μ).toNat 1) 51 (v_freePlace μ).toNat s) 52 (v_freePlace μ).toNat ((s_fills (u2 (u2 μ 0 0 0) 0 0 0) s r) 45 0)) 53 (v_freePlace μ).toNat ((s_fills (u2 (u2 μ 0 0 0) 0 0 0) s r) 46 0)) 54 (v_freePlace μ).toNat ((s_fills (u2 (u2 μ 0 0 0) 0 0 0) s r) 47 0)) 55 (v_freePlace μ).toNat ((s_fills (u2 (u2 μ 0 0 0) 0 0 0) s r) 48 0)) 56 (v_freePlace μ).toNat ((s_fills (u2 (u2 μ 0 0 0) 0 0 0) s r) 49 0))) = (v_bytes (s_fills (u2 (u2 μ 0 0 0) 0 0 0) s r)) := (v_bytes_cg (by intro f hf k; simp only [List.elem_eq_mem, decide_eq_true_eq, List.mem_cons, List.not_mem_nil, or_false] at hf; rcases hf with rfl | rfl | rfl | rfl | rfl <;> first | exact (Eq.trans (u2_f (by decide)) (Eq.trans (u2_f (by decide)) (Eq.trans (u2_f (by decide)) (Eq.trans (u2_f (by decide)) (Eq.trans (u2_f (by decide)) (Eq.trans (u2_f (by decide)) (u2_f (by decide))))))))))
              refine ⟨⟨_, hm_oi hx⟩, _, _, _, _, (m_bytes hF htr hx hV34), Nat.le_refl _, Nat.le_refl _, mkiE (r := some (aI (v_bytes (s_fills (u2 (u2 μ 0 0 0) 0 0 0) s r)))) (congrArg (fun q => some (Value.int q)) (congrArg iI ev35)) ?_, fun _ _ q => q.elim⟩
              have t36 := (show 1 ≤ v_bytes (u2 (u2 (u2 (u2 (u2 (u2 (u2 (s_fills (u2 (u2 μ 0 0 0) 0 0 0) s r) 58 (v_freePlace μ).toNat 1) 51 (v_freePlace μ).toNat s) 52 (v_freePlace μ).toNat ((s_fills (u2 (u2 μ 0 0 0) 0 0 0) s r) 45 0)) 53 (v_freePlace μ).toNat ((s_fills (u2 (u2 μ 0 0 0) 0 0 0) s r) 46 0)) 54 (v_freePlace μ).toNat ((s_fills (u2 (u2 μ 0 0 0) 0 0 0) s r) 47 0)) 55 (v_freePlace μ).toNat ((s_fills (u2 (u2 μ 0 0 0) 0 0 0) s r) 48 0)) 56 (v_freePlace μ).toNat ((s_fills (u2 (u2 μ 0 0 0) 0 0 0) s r) 49 0)) ∧ v_bytes (u2 (u2 (u2 (u2 (u2 (u2 (u2 (s_fills (u2 (u2 μ 0 0 0) 0 0 0) s r) 58 (v_freePlace μ).toNat 1) 51 (v_freePlace μ).toNat s) 52 (v_freePlace μ).toNat ((s_fills (u2 (u2 μ 0 0 0) 0 0 0) s r) 45 0)) 53 (v_freePlace μ).toNat ((s_fills (u2 (u2 μ 0 0 0) 0 0 0) s r) 46 0)) 54 (v_freePlace μ).toNat ((s_fills (u2 (u2 μ 0 0 0) 0 0 0) s r) 47 0)) 55 (v_freePlace μ).toNat ((s_fills (u2 (u2 μ 0 0 0) 0 0 0) s r) 48 0)) 56 (v_freePlace μ).toNat ((s_fills (u2 (u2 μ 0 0 0) 0 0 0) s r) 49 0)) ≤ 2100 ∧ (((s_fills (u2 (u2 μ 0 0 0) 0 0 0) s r) 45 0) = 8 → ((s_fills (u2 (u2 μ 0 0 0) 0 0 0) s r) 49 0) + 2 ≤ v_bytes (u2 (u2 (u2 (u2 (u2 (u2 (u2 (s_fills (u2 (u2 μ 0 0 0) 0 0 0) s r) 58 (v_freePlace μ).toNat 1) 51 (v_freePlace μ).toNat s) 52 (v_freePlace μ).toNat ((s_fills (u2 (u2 μ 0 0 0) 0 0 0) s r) 45 0)) 53 (v_freePlace μ).toNat ((s_fills (u2 (u2 μ 0 0 0) 0 0 0) s r) 46 0)) 54 (v_freePlace μ).toNat ((s_fills (u2 (u2 μ 0 0 0) 0 0 0) s r) 47 0)) 55 (v_freePlace μ).toNat ((s_fills (u2 (u2 μ 0 0 0) 0 0 0) s r) 48 0)) 56 (v_freePlace μ).toNat ((s_fills (u2 (u2 μ 0 0 0) 0 0 0) s r) 49 0))) from bytes_b hV34)
              rw [ev35] at t36
              refine ⟨64, _, _, hm_a hx 57 rfl, by omega, trivial, hm_pi hx (i := (v_freePlace μ).toNat) (v := (v_bytes (s_fills (u2 (u2 μ 0 0 0) 0 0 0) s r))) rfl rfl rfl rfl, ?_⟩
              have hV37 := hV34.u (f := 57) (k := (v_freePlace μ).toNat) (v := (v_bytes (s_fills (u2 (u2 μ 0 0 0) 0 0 0) s r))) (show 0 ≤ (v_bytes (s_fills (u2 (u2 μ 0 0 0) 0 0 0) s r)) ∧ (v_bytes (s_fills (u2 (u2 μ 0 0 0) 0 0 0) s r)) ≤ 2100 from by omega)
              refine ⟨_, hm_oi hx, aR (A 59), rfl, ?_⟩
              refine ⟨64, _, _, hm_a hx 59 rfl, by omega, trivial, hm_pi hx (i := (v_freePlace μ).toNat) (v := 0) rfl rfl rfl rfl, ?_⟩
              have hV38 := hV37.u (f := 59) (k := (v_freePlace μ).toNat) (v := 0) (show 0 ≤ 0 ∧ 0 ≤ 1 from by omega)
              exact mi_Wsub (List.forall_mem_cons.mpr ⟨(.head _), List.forall_mem_cons.mpr ⟨(.tail _ (.head _)), List.forall_mem_cons.mpr ⟨(.tail _ (.tail _ (.head _))), List.forall_mem_cons.mpr ⟨(.tail _ (.tail _ (.tail _ (.head _)))), List.forall_mem_cons.mpr ⟨(.tail _ (.tail _ (.tail _ (.tail _ (.head _))))), fun _ h => absurd h List.not_mem_nil⟩⟩⟩⟩⟩) (loop94 _ _ 1201 0 (v_freePlace μ) (u2 (u2 (u2 (u2 (u2 (u2 (u2 (u2 (u2 (s_fills (u2 (u2 μ 0 0 0) 0 0 0) s r) 58 (v_freePlace μ).toNat 1) 51 (v_freePlace μ).toNat s) 52 (v_freePlace μ).toNat ((s_fills (u2 (u2 μ 0 0 0) 0 0 0) s r) 45 0)) 53 (v_freePlace μ).toNat ((s_fills (u2 (u2 μ 0 0 0) 0 0 0) s r) 46 0)) 54 (v_freePlace μ).toNat ((s_fills (u2 (u2 μ 0 0 0) 0 0 0) s r) 47 0)) 55 (v_freePlace μ).toNat ((s_fills (u2 (u2 μ 0 0 0) 0 0 0) s r) 48 0)) 56 (v_freePlace μ).toNat ((s_fills (u2 (u2 μ 0 0 0) 0 0 0) s r) 49 0)) 57 (v_freePlace μ).toNat (v_bytes (s_fills (u2 (u2 μ 0 0 0) 0 0 0) s r))) 59 (v_freePlace μ).toNat 0) hV38 (show 0 ≤ 0 ∧ 0 ≤ ((s_fills (u2 (u2 μ 0 0 0) 0 0 0) s r) 49 0) from by omega) (show ((s_fills (u2 (u2 μ 0 0 0) 0 0 0) s r) 49 0) ≤ 1200 from by omega) (show 0 ≤ (v_freePlace μ) ∧ (v_freePlace μ) ≤ 63 from by omega) (mLi_new (p := (v_freePlace μ).toNat) hL (by intro f hf k; simp only [List.elem_eq_mem, decide_eq_true_eq, List.mem_cons, List.not_mem_nil, or_false] at hf; rcases hf with rfl | rfl <;> exact ((Eq.trans (u2_f (by decide)) (Eq.trans (u2_f (by decide)) (Eq.trans (u2_f (by decide)) (Eq.trans (u2_f (by decide)) (Eq.trans (u2_f (by decide)) (Eq.trans (u2_f (by decide)) (Eq.trans (u2_f (by decide)) (Eq.trans (u2_f (by decide)) (Eq.trans (u2_f (by decide)) (Eq.trans (s_fills_fr (by decide)) (Eq.trans (u2_f (by decide)) (u2_f (by decide)))))))))))))).symm) (by intro f hf q hq; simp only [List.elem_eq_mem, decide_eq_true_eq, List.mem_cons, List.not_mem_nil, or_false] at hf; rcases hf with rfl | rfl | rfl | rfl | rfl | rfl <;> first | exact ((Eq.trans (u2_f (by decide)) (Eq.trans (u2_f (by decide)) (Eq.trans (u2_f (by decide)) (Eq.trans (u2_f (by decide)) (Eq.trans (u2_f (by decide)) (Eq.trans (u2_f (by decide)) (Eq.trans (u2_f (by decide)) (Eq.trans (u2_k hq) (Eq.trans (u2_f (by decide)) (Eq.trans (s_fills_fr (by decide)) (Eq.trans (u2_f (by decide)) (u2_f (by decide)))))))))))))).symm | exact ((Eq.trans (u2_f (by decide)) (Eq.trans (u2_f (by decide)) (Eq.trans (u2_f (by decide)) (Eq.trans (u2_f (by decide)) (Eq.trans (u2_f (by decide)) (Eq.trans (u2_f (by decide)) (Eq.trans (u2_k hq) (Eq.trans (u2_f (by decide)) (Eq.trans (u2_f (by decide)) (Eq.trans (s_fills_fr (by decide)) (Eq.trans (u2_f (by decide)) (u2_f (by decide)))))))))))))).symm | exact ((Eq.trans (u2_f (by decide)) (Eq.trans (u2_f (by decide)) (Eq.trans (u2_f (by decide)) (Eq.trans (u2_f (by decide)) (Eq.trans (u2_f (by decide)) (Eq.trans (u2_k hq) (Eq.trans (u2_f (by decide)) (Eq.trans (u2_f (by decide)) (Eq.trans (u2_f (by decide)) (Eq.trans (s_fills_fr (by decide)) (Eq.trans (u2_f (by decide)) (u2_f (by decide)))))))))))))).symm | exact ((Eq.trans (u2_f (by decide)) (Eq.trans (u2_f (by decide)) (Eq.trans (u2_f (by decide)) (Eq.trans (u2_f (by decide)) (Eq.trans (u2_k hq) (Eq.trans (u2_f (by decide)) (Eq.trans (u2_f (by decide)) (Eq.trans (u2_f (by decide)) (Eq.trans (u2_f (by decide)) (Eq.trans (s_fills_fr (by decide)) (Eq.trans (u2_f (by decide)) (u2_f (by decide)))))))))))))).symm | exact ((Eq.trans (u2_f (by decide)) (Eq.trans (u2_f (by decide)) (Eq.trans (u2_k hq) (Eq.trans (u2_f (by decide)) (Eq.trans (u2_f (by decide)) (Eq.trans (u2_f (by decide)) (Eq.trans (u2_f (by decide)) (Eq.trans (u2_f (by decide)) (Eq.trans (u2_f (by decide)) (Eq.trans (s_fills_fr (by decide)) (Eq.trans (u2_f (by decide)) (u2_f (by decide)))))))))))))).symm | exact ((Eq.trans (u2_f (by decide)) (Eq.trans (u2_f (by decide)) (Eq.trans (u2_f (by decide)) (Eq.trans (u2_f (by decide)) (Eq.trans (u2_f (by decide)) (Eq.trans (u2_f (by decide)) (Eq.trans (u2_f (by decide)) (Eq.trans (u2_f (by decide)) (Eq.trans (u2_k hq) (Eq.trans (s_fills_fr (by decide)) (Eq.trans (u2_f (by decide)) (u2_f (by decide)))))))))))))).symm) ((Eq.trans (u2_f (by decide)) (Eq.trans (u2_f (by decide)) (Eq.trans (u2_f (by decide)) (Eq.trans (u2_f (by decide)) (Eq.trans (u2_f (by decide)) (Eq.trans (u2_f (by decide)) (Eq.trans (u2_f (by decide)) (u2_s _ _ _ _))))))))) ((Eq.trans (u2_f (by decide)) (Eq.trans (u2_f (by decide)) (Eq.trans (u2_f (by decide)) (Eq.trans (u2_f (by decide)) (Eq.trans (u2_f (by decide)) (Eq.trans (u2_f (by decide)) (u2_s _ _ _ _)))))))) ((Eq.trans (u2_f (by decide)) (Eq.trans (u2_f (by decide)) (Eq.trans (u2_f (by decide)) (Eq.trans (u2_f (by decide)) (Eq.trans (u2_f (by decide)) (u2_s _ _ _ _))))))) ((Eq.trans (u2_f (by decide)) (Eq.trans (u2_f (by decide)) (Eq.trans (u2_f (by decide)) (Eq.trans (u2_f (by decide)) (u2_s _ _ _ _)))))) ((Eq.trans (u2_f (by decide)) (Eq.trans (u2_f (by decide)) (u2_s _ _ _ _)))) (hp19.2 (by omega)).2 (mW_cg (by intro f hf k; simp only [List.elem_eq_mem, decide_eq_true_eq, List.mem_cons, List.not_mem_nil, or_false] at hf; rcases hf with rfl | rfl <;> exact (Eq.trans (u2_f (by decide)) (u2_f (by decide)))) _ _)) (show (((s_fills (u2 (u2 μ 0 0 0) 0 0 0) s r) 49 0) - 0) < (1201 : Int) from by omega) (by first | exact ((if_neg e5).trans ((if_neg e7).trans ((if_pos e9).trans ((if_neg e13).trans ((if_neg e16).trans (if_neg e20)))))).symm | (unfold v_fill; rw [if_neg e5, if_neg e7, if_pos e9, if_neg e13, if_neg e16, if_neg e20])) (by first | exact ((if_neg e5).trans ((if_neg e7).trans ((if_pos e9).trans ((if_neg e13).trans ((if_neg e16).trans (if_neg e20)))))).symm | (unfold s_fill; rw [if_neg e5, if_neg e7, if_pos e9, if_neg e13, if_neg e16, if_neg e20])))
            · exact ⟨mRetIP (P := fun _ m => mLi m) (by first | exact (if_neg e5).trans ((if_neg e7).trans ((if_pos e9).trans ((if_neg e13).trans ((if_neg e16).trans (if_pos e20))))) | (unfold v_fill; rw [if_neg e5, if_neg e7, if_pos e9, if_neg e13, if_neg e16, if_pos e20])) (by first | exact (if_neg e5).trans ((if_neg e7).trans ((if_pos e9).trans ((if_neg e13).trans ((if_neg e16).trans (if_pos e20))))) | (unfold s_fill; rw [if_neg e5, if_neg e7, if_pos e9, if_neg e13, if_neg e16, if_pos e20])) hV18 (mLi_cg (by intro f hf k; simp only [List.elem_eq_mem, decide_eq_true_eq, List.mem_cons, List.not_mem_nil, or_false] at hf; rcases hf with rfl | rfl | rfl | rfl | rfl | rfl | rfl | rfl <;> first | exact ((Eq.trans (s_fills_fr (by decide)) (Eq.trans (u2_f (by decide)) (u2_f (by decide))))).symm) hL), Nat.le_refl _, Nat.le_refl _⟩
          · refine ⟨⟨_, hm_oi hx⟩, _, _, _, _, (m_fails1 hF htr hx (c := 2)), Nat.le_refl _, Nat.le_refl _, mki_ (r := some (aI 1)) ?_, fun _ _ q => q.elim⟩
            have hV39 := hV10.u (f := 0) (k := 0) (v := 2) (show 0 ≤ 2 ∧ 2 ≤ 2 from by omega)
            refine ⟨by omega, fun (e : (1 : Int) = 0) => absurd e (by decide), fun _ => ?_⟩
            exact ⟨mRetIP (P := fun _ m => mLi m) (by first | exact (if_neg e5).trans ((if_neg e7).trans ((if_pos e9).trans ((if_neg e13).trans (if_pos e16)))) | (unfold v_fill; rw [if_neg e5, if_neg e7, if_pos e9, if_neg e13, if_pos e16])) (by first | exact (if_neg e5).trans ((if_neg e7).trans ((if_pos e9).trans ((if_neg e13).trans (if_pos e16)))) | (unfold s_fill; rw [if_neg e5, if_neg e7, if_pos e9, if_neg e13, if_pos e16])) hV39 (mLi_cg (by intro f hf k; simp only [List.elem_eq_mem, decide_eq_true_eq, List.mem_cons, List.not_mem_nil, or_false] at hf; rcases hf with rfl | rfl | rfl | rfl | rfl | rfl | rfl | rfl <;> first | exact ((Eq.trans (u2_f (by decide)) (u2_f (by decide)))).symm) hL), Nat.le_refl _, Nat.le_refl _⟩
      · refine ⟨⟨_, hm_oi hx⟩, _, _, _, _, (m_fails1 hF htr hx (c := 1)), Nat.le_refl _, Nat.le_refl _, mki_ (r := some (aI 1)) ?_, fun _ _ q => q.elim⟩
        have hV40 := hV.u (f := 0) (k := 0) (v := 1) (show 0 ≤ 1 ∧ 1 ≤ 2 from by omega)
        refine ⟨by omega, fun _ => ?_, fun (e : (1 : Int) = 0) => absurd e (by decide)⟩
        exact ⟨mRetIP (P := fun _ m => mLi m) (by first | exact (if_neg e5).trans ((if_neg e7).trans (if_neg e9)) | (unfold v_fill; rw [if_neg e5, if_neg e7, if_neg e9])) (by first | exact (if_neg e5).trans ((if_neg e7).trans (if_neg e9)) | (unfold s_fill; rw [if_neg e5, if_neg e7, if_neg e9])) hV40 (mLi_cg (by intro f hf k; simp only [List.elem_eq_mem, decide_eq_true_eq, List.mem_cons, List.not_mem_nil, or_false] at hf; rcases hf with rfl | rfl | rfl | rfl | rfl | rfl | rfl | rfl <;> first | exact ((u2_f (by decide))).symm) hL), Nat.le_refl _, Nat.le_refl _⟩
set_option maxRecDepth 100000 in
theorem s_fill_94_fr {f kk : Nat} {s r : Int} (hf : [0, 12, 13, 14, 16, 20, 22, 24, 31, 33, 39, 45, 46, 47, 48, 49, 50, 51, 52, 53, 54, 55, 56, 57, 58, 59, 60].elem f = false) : ∀ (d : Nat) (k p : Int) (ν : Nat → Nat → Int), s_fill_94 μ s r d k p ν f kk = ν f kk := by
  have n0 : f ≠ 0 := by rintro rfl; exact absurd hf (by decide)
  have n12 : f ≠ 12 := by rintro rfl; exact absurd hf (by decide)
  have n13 : f ≠ 13 := by rintro rfl; exact absurd hf (by decide)
  have n14 : f ≠ 14 := by rintro rfl; exact absurd hf (by decide)
  have n16 : f ≠ 16 := by rintro rfl; exact absurd hf (by decide)
  have n20 : f ≠ 20 := by rintro rfl; exact absurd hf (by decide)
  have n22 : f ≠ 22 := by rintro rfl; exact absurd hf (by decide)
  have n24 : f ≠ 24 := by rintro rfl; exact absurd hf (by decide)
  have n31 : f ≠ 31 := by rintro rfl; exact absurd hf (by decide)
  have n33 : f ≠ 33 := by rintro rfl; exact absurd hf (by decide)
  have n39 : f ≠ 39 := by rintro rfl; exact absurd hf (by decide)
  have n45 : f ≠ 45 := by rintro rfl; exact absurd hf (by decide)
  have n46 : f ≠ 46 := by rintro rfl; exact absurd hf (by decide)
  have n47 : f ≠ 47 := by rintro rfl; exact absurd hf (by decide)
  have n48 : f ≠ 48 := by rintro rfl; exact absurd hf (by decide)
  have n49 : f ≠ 49 := by rintro rfl; exact absurd hf (by decide)
  have n50 : f ≠ 50 := by rintro rfl; exact absurd hf (by decide)
  have n51 : f ≠ 51 := by rintro rfl; exact absurd hf (by decide)
  have n52 : f ≠ 52 := by rintro rfl; exact absurd hf (by decide)
  have n53 : f ≠ 53 := by rintro rfl; exact absurd hf (by decide)
  have n54 : f ≠ 54 := by rintro rfl; exact absurd hf (by decide)
  have n55 : f ≠ 55 := by rintro rfl; exact absurd hf (by decide)
  have n56 : f ≠ 56 := by rintro rfl; exact absurd hf (by decide)
  have n57 : f ≠ 57 := by rintro rfl; exact absurd hf (by decide)
  have n58 : f ≠ 58 := by rintro rfl; exact absurd hf (by decide)
  have n59 : f ≠ 59 := by rintro rfl; exact absurd hf (by decide)
  have n60 : f ≠ 60 := by rintro rfl; exact absurd hf (by decide)
  have f0 : ∀ (m : Nat → Nat → Int) (a b : Nat) (v : Int), u2 m 0 a v f b = m f b := fun m a b v => u2_f n0
  have f12 : ∀ (m : Nat → Nat → Int) (a b : Nat) (v : Int), u2 m 12 a v f b = m f b := fun m a b v => u2_f n12
  have f13 : ∀ (m : Nat → Nat → Int) (a b : Nat) (v : Int), u2 m 13 a v f b = m f b := fun m a b v => u2_f n13
  have f14 : ∀ (m : Nat → Nat → Int) (a b : Nat) (v : Int), u2 m 14 a v f b = m f b := fun m a b v => u2_f n14
  have f16 : ∀ (m : Nat → Nat → Int) (a b : Nat) (v : Int), u2 m 16 a v f b = m f b := fun m a b v => u2_f n16
  have f20 : ∀ (m : Nat → Nat → Int) (a b : Nat) (v : Int), u2 m 20 a v f b = m f b := fun m a b v => u2_f n20
  have f22 : ∀ (m : Nat → Nat → Int) (a b : Nat) (v : Int), u2 m 22 a v f b = m f b := fun m a b v => u2_f n22
  have f24 : ∀ (m : Nat → Nat → Int) (a b : Nat) (v : Int), u2 m 24 a v f b = m f b := fun m a b v => u2_f n24
  have f31 : ∀ (m : Nat → Nat → Int) (a b : Nat) (v : Int), u2 m 31 a v f b = m f b := fun m a b v => u2_f n31
  have f33 : ∀ (m : Nat → Nat → Int) (a b : Nat) (v : Int), u2 m 33 a v f b = m f b := fun m a b v => u2_f n33
  have f39 : ∀ (m : Nat → Nat → Int) (a b : Nat) (v : Int), u2 m 39 a v f b = m f b := fun m a b v => u2_f n39
  have f45 : ∀ (m : Nat → Nat → Int) (a b : Nat) (v : Int), u2 m 45 a v f b = m f b := fun m a b v => u2_f n45
  have f46 : ∀ (m : Nat → Nat → Int) (a b : Nat) (v : Int), u2 m 46 a v f b = m f b := fun m a b v => u2_f n46
  have f47 : ∀ (m : Nat → Nat → Int) (a b : Nat) (v : Int), u2 m 47 a v f b = m f b := fun m a b v => u2_f n47
  have f48 : ∀ (m : Nat → Nat → Int) (a b : Nat) (v : Int), u2 m 48 a v f b = m f b := fun m a b v => u2_f n48
  have f49 : ∀ (m : Nat → Nat → Int) (a b : Nat) (v : Int), u2 m 49 a v f b = m f b := fun m a b v => u2_f n49
  have f50 : ∀ (m : Nat → Nat → Int) (a b : Nat) (v : Int), u2 m 50 a v f b = m f b := fun m a b v => u2_f n50
  have f51 : ∀ (m : Nat → Nat → Int) (a b : Nat) (v : Int), u2 m 51 a v f b = m f b := fun m a b v => u2_f n51
  have f52 : ∀ (m : Nat → Nat → Int) (a b : Nat) (v : Int), u2 m 52 a v f b = m f b := fun m a b v => u2_f n52
  have f53 : ∀ (m : Nat → Nat → Int) (a b : Nat) (v : Int), u2 m 53 a v f b = m f b := fun m a b v => u2_f n53
  have f54 : ∀ (m : Nat → Nat → Int) (a b : Nat) (v : Int), u2 m 54 a v f b = m f b := fun m a b v => u2_f n54
  have f55 : ∀ (m : Nat → Nat → Int) (a b : Nat) (v : Int), u2 m 55 a v f b = m f b := fun m a b v => u2_f n55
  have f56 : ∀ (m : Nat → Nat → Int) (a b : Nat) (v : Int), u2 m 56 a v f b = m f b := fun m a b v => u2_f n56
  have f57 : ∀ (m : Nat → Nat → Int) (a b : Nat) (v : Int), u2 m 57 a v f b = m f b := fun m a b v => u2_f n57
  have f58 : ∀ (m : Nat → Nat → Int) (a b : Nat) (v : Int), u2 m 58 a v f b = m f b := fun m a b v => u2_f n58
  have f59 : ∀ (m : Nat → Nat → Int) (a b : Nat) (v : Int), u2 m 59 a v f b = m f b := fun m a b v => u2_f n59
  have f60 : ∀ (m : Nat → Nat → Int) (a b : Nat) (v : Int), u2 m 60 a v f b = m f b := fun m a b v => u2_f n60
  have c_fills : ∀ (m : Nat → Nat → Int) (z_s z_r : Int) (k : Nat), s_fills m z_s z_r f k = m f k := by intros; exact s_fills_fr (by simp only [List.elem_cons, List.elem_nil, beq_eq_false_iff_ne.mpr n12, beq_eq_false_iff_ne.mpr n13, beq_eq_false_iff_ne.mpr n14, beq_eq_false_iff_ne.mpr n16, beq_eq_false_iff_ne.mpr n20, beq_eq_false_iff_ne.mpr n22, beq_eq_false_iff_ne.mpr n24, beq_eq_false_iff_ne.mpr n31, beq_eq_false_iff_ne.mpr n33, beq_eq_false_iff_ne.mpr n39, beq_eq_false_iff_ne.mpr n45, beq_eq_false_iff_ne.mpr n46, beq_eq_false_iff_ne.mpr n47, beq_eq_false_iff_ne.mpr n48, beq_eq_false_iff_ne.mpr n49, beq_eq_false_iff_ne.mpr n50]; try rfl)
  intro d
  induction d with
  | zero => intros; rfl
  | succ d ih =>
    intro k p ν
    rw [s_fill_94]
    repeat' with_reducible apply f_ite
    all_goals first | rfl | simp only [f0, f12, f13, f14, f16, f20, f22, f24, f31, f33, f39, f45, f46, f47, f48, f49, f50, f51, f52, f53, f54, f55, f56, f57, f58, f59, f60, c_fills, ih]
set_option maxRecDepth 100000 in
theorem s_fill_fr {f kk : Nat} {s r : Int} (hf : [0, 12, 13, 14, 16, 20, 22, 24, 31, 33, 39, 45, 46, 47, 48, 49, 50, 51, 52, 53, 54, 55, 56, 57, 58, 59, 60].elem f = false) : s_fill μ s r f kk = μ f kk := by
  have n0 : f ≠ 0 := by rintro rfl; exact absurd hf (by decide)
  have n12 : f ≠ 12 := by rintro rfl; exact absurd hf (by decide)
  have n13 : f ≠ 13 := by rintro rfl; exact absurd hf (by decide)
  have n14 : f ≠ 14 := by rintro rfl; exact absurd hf (by decide)
  have n16 : f ≠ 16 := by rintro rfl; exact absurd hf (by decide)
  have n20 : f ≠ 20 := by rintro rfl; exact absurd hf (by decide)
  have n22 : f ≠ 22 := by rintro rfl; exact absurd hf (by decide)
  have n24 : f ≠ 24 := by rintro rfl; exact absurd hf (by decide)
  have n31 : f ≠ 31 := by rintro rfl; exact absurd hf (by decide)
  have n33 : f ≠ 33 := by rintro rfl; exact absurd hf (by decide)
  have n39 : f ≠ 39 := by rintro rfl; exact absurd hf (by decide)
  have n45 : f ≠ 45 := by rintro rfl; exact absurd hf (by decide)
  have n46 : f ≠ 46 := by rintro rfl; exact absurd hf (by decide)
  have n47 : f ≠ 47 := by rintro rfl; exact absurd hf (by decide)
  have n48 : f ≠ 48 := by rintro rfl; exact absurd hf (by decide)
  have n49 : f ≠ 49 := by rintro rfl; exact absurd hf (by decide)
  have n50 : f ≠ 50 := by rintro rfl; exact absurd hf (by decide)
  have n51 : f ≠ 51 := by rintro rfl; exact absurd hf (by decide)
  have n52 : f ≠ 52 := by rintro rfl; exact absurd hf (by decide)
  have n53 : f ≠ 53 := by rintro rfl; exact absurd hf (by decide)
  have n54 : f ≠ 54 := by rintro rfl; exact absurd hf (by decide)
  have n55 : f ≠ 55 := by rintro rfl; exact absurd hf (by decide)
  have n56 : f ≠ 56 := by rintro rfl; exact absurd hf (by decide)
  have n57 : f ≠ 57 := by rintro rfl; exact absurd hf (by decide)
  have n58 : f ≠ 58 := by rintro rfl; exact absurd hf (by decide)
  have n59 : f ≠ 59 := by rintro rfl; exact absurd hf (by decide)
  have n60 : f ≠ 60 := by rintro rfl; exact absurd hf (by decide)
  have f0 : ∀ (m : Nat → Nat → Int) (a b : Nat) (v : Int), u2 m 0 a v f b = m f b := fun m a b v => u2_f n0
  have f12 : ∀ (m : Nat → Nat → Int) (a b : Nat) (v : Int), u2 m 12 a v f b = m f b := fun m a b v => u2_f n12
  have f13 : ∀ (m : Nat → Nat → Int) (a b : Nat) (v : Int), u2 m 13 a v f b = m f b := fun m a b v => u2_f n13
  have f14 : ∀ (m : Nat → Nat → Int) (a b : Nat) (v : Int), u2 m 14 a v f b = m f b := fun m a b v => u2_f n14
  have f16 : ∀ (m : Nat → Nat → Int) (a b : Nat) (v : Int), u2 m 16 a v f b = m f b := fun m a b v => u2_f n16
  have f20 : ∀ (m : Nat → Nat → Int) (a b : Nat) (v : Int), u2 m 20 a v f b = m f b := fun m a b v => u2_f n20
  have f22 : ∀ (m : Nat → Nat → Int) (a b : Nat) (v : Int), u2 m 22 a v f b = m f b := fun m a b v => u2_f n22
  have f24 : ∀ (m : Nat → Nat → Int) (a b : Nat) (v : Int), u2 m 24 a v f b = m f b := fun m a b v => u2_f n24
  have f31 : ∀ (m : Nat → Nat → Int) (a b : Nat) (v : Int), u2 m 31 a v f b = m f b := fun m a b v => u2_f n31
  have f33 : ∀ (m : Nat → Nat → Int) (a b : Nat) (v : Int), u2 m 33 a v f b = m f b := fun m a b v => u2_f n33
  have f39 : ∀ (m : Nat → Nat → Int) (a b : Nat) (v : Int), u2 m 39 a v f b = m f b := fun m a b v => u2_f n39
  have f45 : ∀ (m : Nat → Nat → Int) (a b : Nat) (v : Int), u2 m 45 a v f b = m f b := fun m a b v => u2_f n45
  have f46 : ∀ (m : Nat → Nat → Int) (a b : Nat) (v : Int), u2 m 46 a v f b = m f b := fun m a b v => u2_f n46
  have f47 : ∀ (m : Nat → Nat → Int) (a b : Nat) (v : Int), u2 m 47 a v f b = m f b := fun m a b v => u2_f n47
  have f48 : ∀ (m : Nat → Nat → Int) (a b : Nat) (v : Int), u2 m 48 a v f b = m f b := fun m a b v => u2_f n48
  have f49 : ∀ (m : Nat → Nat → Int) (a b : Nat) (v : Int), u2 m 49 a v f b = m f b := fun m a b v => u2_f n49
  have f50 : ∀ (m : Nat → Nat → Int) (a b : Nat) (v : Int), u2 m 50 a v f b = m f b := fun m a b v => u2_f n50
  have f51 : ∀ (m : Nat → Nat → Int) (a b : Nat) (v : Int), u2 m 51 a v f b = m f b := fun m a b v => u2_f n51
  have f52 : ∀ (m : Nat → Nat → Int) (a b : Nat) (v : Int), u2 m 52 a v f b = m f b := fun m a b v => u2_f n52
  have f53 : ∀ (m : Nat → Nat → Int) (a b : Nat) (v : Int), u2 m 53 a v f b = m f b := fun m a b v => u2_f n53
  have f54 : ∀ (m : Nat → Nat → Int) (a b : Nat) (v : Int), u2 m 54 a v f b = m f b := fun m a b v => u2_f n54
  have f55 : ∀ (m : Nat → Nat → Int) (a b : Nat) (v : Int), u2 m 55 a v f b = m f b := fun m a b v => u2_f n55
  have f56 : ∀ (m : Nat → Nat → Int) (a b : Nat) (v : Int), u2 m 56 a v f b = m f b := fun m a b v => u2_f n56
  have f57 : ∀ (m : Nat → Nat → Int) (a b : Nat) (v : Int), u2 m 57 a v f b = m f b := fun m a b v => u2_f n57
  have f58 : ∀ (m : Nat → Nat → Int) (a b : Nat) (v : Int), u2 m 58 a v f b = m f b := fun m a b v => u2_f n58
  have f59 : ∀ (m : Nat → Nat → Int) (a b : Nat) (v : Int), u2 m 59 a v f b = m f b := fun m a b v => u2_f n59
  have f60 : ∀ (m : Nat → Nat → Int) (a b : Nat) (v : Int), u2 m 60 a v f b = m f b := fun m a b v => u2_f n60
  have c_fills : ∀ (m : Nat → Nat → Int) (z_s z_r : Int) (k : Nat), s_fills m z_s z_r f k = m f k := by intros; exact s_fills_fr (by simp only [List.elem_cons, List.elem_nil, beq_eq_false_iff_ne.mpr n12, beq_eq_false_iff_ne.mpr n13, beq_eq_false_iff_ne.mpr n14, beq_eq_false_iff_ne.mpr n16, beq_eq_false_iff_ne.mpr n20, beq_eq_false_iff_ne.mpr n22, beq_eq_false_iff_ne.mpr n24, beq_eq_false_iff_ne.mpr n31, beq_eq_false_iff_ne.mpr n33, beq_eq_false_iff_ne.mpr n39, beq_eq_false_iff_ne.mpr n45, beq_eq_false_iff_ne.mpr n46, beq_eq_false_iff_ne.mpr n47, beq_eq_false_iff_ne.mpr n48, beq_eq_false_iff_ne.mpr n49, beq_eq_false_iff_ne.mpr n50]; try rfl)
  unfold s_fill
  repeat' with_reducible apply f_ite
  all_goals first | rfl | simp only [f0, f12, f13, f14, f16, f20, f22, f24, f31, f33, f39, f45, f46, f47, f48, f49, f50, f51, f52, f53, f54, f55, f56, f57, f58, f59, f60, c_fills, s_fill_94_fr hf]
end MR10
