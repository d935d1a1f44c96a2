section MR9
variable {L : Launch} {G : mmG} {A : Nat → Nat} {ax : Nat → Option Nat} {h0 : mmH} {μ ν : Nat → Nat → Int}
/-- how many bytes of stream i side s has written -/
def mW (μ : Nat → Nat → Int) (s i : Int) : Int := mRem (μ 37) i (65536 * s).toNat (μ 36 s.toNat).toNat
theorem mW_cg {μ μ' : Nat → Nat → Int} (h : ∀ f, [36, 37].elem f = true → ∀ k, μ f k = μ' f k) (s i : Int) : mW μ s i = mW μ' s i := by
  unfold mW
  rw [show μ 37 = μ' 37 from funext (h 37 rfl), h 36 rfl]
/-- the frame p on the line is one that fill may have laid -/
def mFr (μ : Nat → Nat → Int) (p : Nat) : Prop :=
  ((μ 52 p = 4 ∨ μ 52 p = 5 ∨ μ 52 p = 17 ∨ μ 52 p = 21) ∧ μ 53 p < 256) ∨ (μ 52 p = 16 ∨ μ 52 p = 18 ∨ μ 52 p = 19 ∨ μ 52 p = 20 ∨ μ 52 p = 22 ∨ μ 52 p = 23) ∨ (μ 52 p = 8 ∧ μ 53 p < 256 ∧ μ 54 p + μ 56 p ≤ mW μ (μ 51 p) (μ 53 p))
def mLi (μ : Nat → Nat → Int) : Prop := ∀ p, p < 64 → μ 58 p = 1 → mFr μ p
theorem mFr_cg {μ μ' : Nat → Nat → Int} {p : Nat} (h : ∀ f, [36, 37].elem f = true → ∀ k, μ f k = μ' f k) (h2 : ∀ f, [51, 52, 53, 54, 56].elem f = true → μ f p = μ' f p) (q : mFr μ p) : mFr μ' p := by
  unfold mFr at q ⊢
  rw [← h2 51 rfl, ← h2 52 rfl, ← h2 53 rfl, ← h2 54 rfl, ← h2 56 rfl, ← mW_cg h]
  exact q
theorem mLi_cg {μ μ' : Nat → Nat → Int} (h : ∀ f, [36, 37, 51, 52, 53, 54, 56, 58].elem f = true → ∀ k, μ f k = μ' f k) (q : mLi μ) : mLi μ' := by
  intro p hp h58
  refine mFr_cg (fun f hf k => h f ?_ k) (fun f hf => h f ?_ p) (q p hp (by rw [h 58 rfl]; exact h58))
  · simp only [List.elem_eq_mem, decide_eq_true_eq, List.mem_cons, List.not_mem_nil, or_false] at hf ⊢; omega
  · simp only [List.elem_eq_mem, decide_eq_true_eq, List.mem_cons, List.not_mem_nil, or_false] at hf ⊢; omega
theorem mLi_u {f k : Nat} {v : Int} (hf : [36, 37, 51, 52, 53, 54, 56, 58].elem f = false) (q : mLi ν) : mLi (u2 ν f k v) := mLi_cg (fun g hg k' => (u2_f (by rintro rfl; rw [hg] at hf; cases hf)).symm) q
theorem mLi_at {μ μ' : Nat → Nat → Int} {p : Nat} (h : ∀ f, [36, 37].elem f = true → ∀ k, μ f k = μ' f k) (h2 : ∀ f, [51, 52, 53, 54, 56, 58].elem f = true → ∀ q, q ≠ p → μ f q = μ' f q) (q : mLi μ) (hp : mFr μ' p) : mLi μ' := by
  intro r hr h58
  by_cases e : r = p
  · subst e; exact hp
  · refine mFr_cg h (fun f hf => h2 f ?_ r e) (q r hr (by rw [h2 58 rfl r e]; exact h58))
    simp only [List.elem_eq_mem, decide_eq_true_eq, List.mem_cons, List.not_mem_nil, or_false] at hf ⊢; omega
def v_fills_19 (μ : Nat → Nat → Int) (s r : Int) : Nat → Int → (Nat → Nat → Int) → Int
  | 0, _, _ => 0
  | d + 1, k, ν => (if 256 < k then 0 else (if (v_fillsStream ν s ((((ν 16 s.toNat) + k) + 256) % 256) r) = 0 then (v_fills_19 μ s r d (k + 1) (s_fillsStream ν s ((((ν 16 s.toNat) + k) + 256) % 256) r)) else 1))
def s_fills_19 (μ : Nat → Nat → Int) (s r : Int) : Nat → Int → (Nat → Nat → Int) → (Nat → Nat → Int)
  | 0, _, ν => ν
  | d + 1, k, ν => (if 256 < k then ν else (if (v_fillsStream ν s ((((ν 16 s.toNat) + k) + 256) % 256) r) = 0 then (s_fills_19 μ s r d (k + 1) (s_fillsStream ν s ((((ν 16 s.toNat) + k) + 256) % 256) r)) else (u2 (s_fillsStream ν s ((((ν 16 s.toNat) + k) + 256) % 256) r) 16 s.toNat ((((ν 16 s.toNat) + k) + 256) % 256))))
def v_fills (μ : Nat → Nat → Int) (s r : Int) : Int := (if (v_fillsResets μ s r) = 0 then (if (v_fillsGrants (s_fillsResets μ s r) s r) = 0 then (if (v_fillsBlocked (s_fillsGrants (s_fillsResets μ s r) s r) s r) = 0 then (v_fills_19 μ s r 257 1 (s_fillsBlocked (s_fillsGrants (s_fillsResets μ s r) s r) s r)) else 1) else 1) else 1)
def s_fills (μ : Nat → Nat → Int) (s r : Int) : Nat → Nat → Int := (if (v_fillsResets μ s r) = 0 then (if (v_fillsGrants (s_fillsResets μ s r) s r) = 0 then (if (v_fillsBlocked (s_fillsGrants (s_fillsResets μ s r) s r) s r) = 0 then (s_fills_19 μ s r 257 1 (s_fillsBlocked (s_fillsGrants (s_fillsResets μ s r) s r) s r)) else (s_fillsBlocked (s_fillsGrants (s_fillsResets μ s r) s r) s r)) else (s_fillsGrants (s_fillsResets μ s r) s r)) else (s_fillsResets μ s r))
set_option maxRecDepth 100000 in
theorem m_fills (hF : mm_F G) (htr : L.stackTraces = false) (hx : mx A ax) (hV : mV μ) {s r : Int} (h1 : 0 ≤ s) (h2 : s ≤ 1) (h3 : 1 ≤ r) (h3a : r ≤ 1200) :
    mm_Met L G SX6_fills [.ref (A 99), .int (iI s), .int (iI r)] (hm G A ax h0 μ) 0 0 (mRetS (some (.int (iI (v_fills μ s r)))) (hm G A ax h0 (s_fills μ s r)) (mV (s_fills μ s r) ∧ (fun r m => (r = 0 ∨ r = 1) ∧ (r = 1 → m 49 0 ≤ 1200 ∧ ((((m 45 0 = 4 ∨ m 45 0 = 5 ∨ m 45 0 = 17 ∨ m 45 0 = 21) ∧ m 46 0 < 256) ∨ (m 45 0 = 16 ∨ m 45 0 = 18 ∨ m 45 0 = 19 ∨ m 45 0 = 20 ∨ m 45 0 = 22 ∨ m 45 0 = 23)) ∨ (m 45 0 = 8 ∧ m 46 0 < 256 ∧ m 47 0 + m 49 0 ≤ mW μ s (m 46 0))))) (v_fills μ s r) (s_fills μ s r))) mm_no := by
  refine mi_meth MX6_fills 400 hF htr okX6_fills (av := [aR (A 99), aI s, aI r]) (by decide +kernel) (Nat.le_of_ble_eq_true rfl) cmX6_fills (fun θ hc => ?_)
  have loop19 : ∀ (R : Int) (S : Nat → Nat → Int) (d : Nat) (k : Int) (ν : Nat → Nat → Int) (hV : mV ν), (1 ≤ k ∧ k ≤ 257) → (∀ x, mW ν s x = mW μ s x) → (257 - k) < (d : Int) → v_fills_19 μ s r d k ν = R → s_fills_19 μ s r d k ν = S → mi_W L G MX6_fills 0 0 (mRetS (some (.int (iI R))) (hm G A ax h0 S) (mV S ∧ (fun r m => (r = 0 ∨ r = 1) ∧ (r = 1 → m 49 0 ≤ 1200 ∧ ((((m 45 0 = 4 ∨ m 45 0 = 5 ∨ m 45 0 = 17 ∨ m 45 0 = 21) ∧ m 46 0 < 256) ∨ (m 45 0 = 16 ∨ m 45 0 = 18 ∨ m 45 0 = 19 ∨ m 45 0 = 20 ∨ m 45 0 = 22 ∨ m 45 0 = 23)) ∨ (m 45 0 = 8 ∧ m 46 0 < 256 ∧ m 47 0 + m 49 0 ≤ mW μ s (m 46 0))))) R S)) mm_no θ 19 [(3, aI k), (0, aR (A 99)), (1, aI s), (2, aI r)] [] (hm G A ax h0 ν) 0 0 := by
    intro R S d
    induction d with
    | zero =>
      intro k ν hV hi1 hq hms hvr hsr
      omega
    | succ d ih =>
      intro k ν hV hi1 hq hms hvr hsr
      refine mi_sound hc okX6_fills 400 _ _ _ _ _ _ ?_
      refine ⟨by omega, fun (e1 : 256 < k) => ?_, fun (e1 : ¬ (256 < k)) => ?_⟩
      · exact ⟨(Or.inl rfl), mRetIP (P := fun r m => (r = 0 ∨ r = 1) ∧ (r = 1 → m 49 0 ≤ 1200 ∧ ((((m 45 0 = 4 ∨ m 45 0 = 5 ∨ m 45 0 = 17 ∨ m 45 0 = 21) ∧ m 46 0 < 256) ∨ (m 45 0 = 16 ∨ m 45 0 = 18 ∨ m 45 0 = 19 ∨ m 45 0 = 20 ∨ m 45 0 = 22 ∨ m 45 0 = 23)) ∨ (m 45 0 = 8 ∧ m 46 0 < 256 ∧ m 47 0 + m 49 0 ≤ mW μ s (m 46 0))))) (hvr.symm.trans (by first | exact if_pos e1 | (rw [v_fills_19]; rw [if_pos e1]))) (hsr.symm.trans (by first | exact if_pos e1 | (rw [s_fills_19]; rw [if_pos e1]))) hV (show (0 = 0 ∨ 0 = 1) ∧ (0 = 1 → ν 49 0 ≤ 1200 ∧ ((((ν 45 0 = 4 ∨ ν 45 0 = 5 ∨ ν 45 0 = 17 ∨ ν 45 0 = 21) ∧ ν 46 0 < 256) ∨ (ν 45 0 = 16 ∨ ν 45 0 = 18 ∨ ν 45 0 = 19 ∨ ν 45 0 = 20 ∨ ν 45 0 = 22 ∨ ν 45 0 = 23)) ∨ (ν 45 0 = 8 ∧ ν 46 0 < 256 ∧ ν 47 0 + ν 49 0 ≤ mW μ s (ν 46 0)))) from by omega), Nat.le_refl _, Nat.le_refl _⟩
      · refine ⟨_, hm_oi hx, aR (A 16), rfl, ?_⟩
        refine ⟨2, _, (ν 16 s.toNat), hm_a hx 16 rfl, by omega, rfl, ?_⟩
        have t2 := (show -1 ≤ ν 16 s.toNat ∧ ν 16 s.toNat ≤ 255 from hV.g 16 s.toNat)
        refine ⟨by omega, ?_⟩
        refine ⟨⟨_, hm_oi hx⟩, _, _, _, _, (m_fillsStream hF htr hx hV (s := s) (i := ((((ν 16 s.toNat) + k) + 256) % 256)) (r := r) (by omega) (by omega) (by omega) (by omega) (by omega) (by omega)), Nat.le_refl _, Nat.le_refl _, mkis_ (r := some (aI (v_fillsStream ν s ((((ν 16 s.toNat) + k) + 256) % 256) r))) (fun ⟨hV3, hp4⟩ => ?_), fun _ _ q => q.elim⟩
        have hp4 : ((v_fillsStream ν s ((((ν 16 s.toNat) + k) + 256) % 256) r) = 0 ∨ (v_fillsStream ν s ((((ν 16 s.toNat) + k) + 256) % 256) r) = 1) ∧ ((v_fillsStream ν s ((((ν 16 s.toNat) + k) + 256) % 256) r) = 1 → (s_fillsStream ν s ((((ν 16 s.toNat) + k) + 256) % 256) r) 45 0 = 8 ∧ (s_fillsStream ν s ((((ν 16 s.toNat) + k) + 256) % 256) r) 46 0 = ((((ν 16 s.toNat) + k) + 256) % 256) ∧ (s_fillsStream ν s ((((ν 16 s.toNat) + k) + 256) % 256) r) 49 0 ≤ 1200 ∧ (s_fillsStream ν s ((((ν 16 s.toNat) + k) + 256) % 256) r) 47 0 + (s_fillsStream ν s ((((ν 16 s.toNat) + k) + 256) % 256) r) 49 0 ≤ mRem (ν 37) ((((ν 16 s.toNat) + k) + 256) % 256) (65536 * s).toNat (ν 36 s.toNat).toNat) := hp4
        refine mi_nl [(4, aI ((((ν 16 s.toNat) + k) + 256) % 256)), (3, aI k), (0, aR (A 99)), (1, aI s), (2, aI r)] rfl ?_
        refine ⟨by omega, fun (e5 : (v_fillsStream ν s ((((ν 16 s.toNat) + k) + 256) % 256) r) = 0) => ?_, fun (e5 : ¬ ((v_fillsStream ν s ((((ν 16 s.toNat) + k) + 256) % 256) r) = 0)) => ?_⟩
        · exact mi_Wsub (List.forall_mem_cons.mpr ⟨(.head _), List.forall_mem_cons.mpr ⟨(.tail _ (.tail _ (.head _))), List.forall_mem_cons.mpr ⟨(.tail _ (.tail _ (.tail _ (.head _)))), List.forall_mem_cons.mpr ⟨(.tail _ (.tail _ (.tail _ (.tail _ (.head _))))), fun _ h => absurd h List.not_mem_nil⟩⟩⟩⟩) (ih (k + 1) (s_fillsStream ν s ((((ν 16 s.toNat) + k) + 256) % 256) r) hV3 (show 1 ≤ (k + 1) ∧ (k + 1) ≤ 257 from by omega) (fun x => by rw [mW_cg (μ := (s_fillsStream ν s ((((ν 16 s.toNat) + k) + 256) % 256) r)) (μ' := ν) (by intro f hf k; simp only [List.elem_eq_mem, decide_eq_true_eq, List.mem_cons, List.not_mem_nil, or_false] at hf; rcases hf with rfl | rfl <;> exact s_fillsStream_fr (by decide)) s x]; exact hq x) (show (257 - (k + 1)) < (d : Int) from by omega) (Eq.trans (by first | exact ((if_neg e1).trans (if_pos e5)).symm | (rw [v_fills_19]; rw [if_neg e1, if_pos e5])) hvr) (Eq.trans (by first | exact ((if_neg e1).trans (if_pos e5)).symm | (rw [s_fills_19]; rw [if_neg e1, if_pos e5])) hsr))
        · refine ⟨_, hm_oi hx, aR (A 16), rfl, ?_⟩
          refine ⟨2, _, _, hm_a hx 16 rfl, by omega, trivial, hm_pi hx (i := s.toNat) (v := ((((ν 16 s.toNat) + k) + 256) % 256)) rfl rfl rfl rfl, ?_⟩
          have hV6 := hV3.u (f := 16) (k := s.toNat) (v := ((((ν 16 s.toNat) + k) + 256) % 256)) (show -1 ≤ ((((ν 16 s.toNat) + k) + 256) % 256) ∧ ((((ν 16 s.toNat) + k) + 256) % 256) ≤ 255 from by omega)
          exact ⟨(Or.inr rfl), mRetIP (P := fun r m => (r = 0 ∨ r = 1) ∧ (r = 1 → m 49 0 ≤ 1200 ∧ ((((m 45 0 = 4 ∨ m 45 0 = 5 ∨ m 45 0 = 17 ∨ m 45 0 = 21) ∧ m 46 0 < 256) ∨ (m 45 0 = 16 ∨ m 45 0 = 18 ∨ m 45 0 = 19 ∨ m 45 0 = 20 ∨ m 45 0 = 22 ∨ m 45 0 = 23)) ∨ (m 45 0 = 8 ∧ m 46 0 < 256 ∧ m 47 0 + m 49 0 ≤ mW μ s (m 46 0))))) (hvr.symm.trans (by first | exact (if_neg e1).trans (if_neg e5) | (rw [v_fills_19]; rw [if_neg e1, if_neg e5]))) (hsr.symm.trans (by first | exact (if_neg e1).trans (if_neg e5) | (rw [s_fills_19]; rw [if_neg e1, if_neg e5]))) hV6 (show (1 = 0 ∨ 1 = 1) ∧ (1 = 1 → (u2 (s_fillsStream ν s ((((ν 16 s.toNat) + k) + 256) % 256) r) 16 s.toNat ((((ν 16 s.toNat) + k) + 256) % 256)) 49 0 ≤ 1200 ∧ (((((u2 (s_fillsStream ν s ((((ν 16 s.toNat) + k) + 256) % 256) r) 16 s.toNat ((((ν 16 s.toNat) + k) + 256) % 256)) 45 0 = 4 ∨ (u2 (s_fillsStream ν s ((((ν 16 s.toNat) + k) + 256) % 256) r) 16 s.toNat ((((ν 16 s.toNat) + k) + 256) % 256)) 45 0 = 5 ∨ (u2 (s_fillsStream ν s ((((ν 16 s.toNat) + k) + 256) % 256) r) 16 s.toNat ((((ν 16 s.toNat) + k) + 256) % 256)) 45 0 = 17 ∨ (u2 (s_fillsStream ν s ((((ν 16 s.toNat) + k) + 256) % 256) r) 16 s.toNat ((((ν 16 s.toNat) + k) + 256) % 256)) 45 0 = 21) ∧ (u2 (s_fillsStream ν s ((((ν 16 s.toNat) + k) + 256) % 256) r) 16 s.toNat ((((ν 16 s.toNat) + k) + 256) % 256)) 46 0 < 256) ∨ ((u2 (s_fillsStream ν s ((((ν 16 s.toNat) + k) + 256) % 256) r) 16 s.toNat ((((ν 16 s.toNat) + k) + 256) % 256)) 45 0 = 16 ∨ (u2 (s_fillsStream ν s ((((ν 16 s.toNat) + k) + 256) % 256) r) 16 s.toNat ((((ν 16 s.toNat) + k) + 256) % 256)) 45 0 = 18 ∨ (u2 (s_fillsStream ν s ((((ν 16 s.toNat) + k) + 256) % 256) r) 16 s.toNat ((((ν 16 s.toNat) + k) + 256) % 256)) 45 0 = 19 ∨ (u2 (s_fillsStream ν s ((((ν 16 s.toNat) + k) + 256) % 256) r) 16 s.toNat ((((ν 16 s.toNat) + k) + 256) % 256)) 45 0 = 20 ∨ (u2 (s_fillsStream ν s ((((ν 16 s.toNat) + k) + 256) % 256) r) 16 s.toNat ((((ν 16 s.toNat) + k) + 256) % 256)) 45 0 = 22 ∨ (u2 (s_fillsStream ν s ((((ν 16 s.toNat) + k) + 256) % 256) r) 16 s.toNat ((((ν 16 s.toNat) + k) + 256) % 256)) 45 0 = 23)) ∨ ((u2 (s_fillsStream ν s ((((ν 16 s.toNat) + k) + 256) % 256) r) 16 s.toNat ((((ν 16 s.toNat) + k) + 256) % 256)) 45 0 = 8 ∧ (u2 (s_fillsStream ν s ((((ν 16 s.toNat) + k) + 256) % 256) r) 16 s.toNat ((((ν 16 s.toNat) + k) + 256) % 256)) 46 0 < 256 ∧ (u2 (s_fillsStream ν s ((((ν 16 s.toNat) + k) + 256) % 256) r) 16 s.toNat ((((ν 16 s.toNat) + k) + 256) % 256)) 47 0 + (u2 (s_fillsStream ν s ((((ν 16 s.toNat) + k) + 256) % 256) r) 16 s.toNat ((((ν 16 s.toNat) + k) + 256) % 256)) 49 0 ≤ mW μ s ((u2 (s_fillsStream ν s ((((ν 16 s.toNat) + k) + 256) % 256) r) 16 s.toNat ((((ν 16 s.toNat) + k) + 256) % 256)) 46 0)))) from ⟨Or.inr rfl, fun _ => by have w0 := hp4.2 (by omega); have w1 : mW ν s ((((ν 16 s.toNat) + k) + 256) % 256) = mW μ s ((((ν 16 s.toNat) + k) + 256) % 256) := hq _; refine ⟨w0.2.2.1, Or.inr ⟨w0.1, ?_, ?_⟩⟩; (· show (s_fillsStream ν s ((((ν 16 s.toNat) + k) + 256) % 256) r) 46 0 < 256; rw [w0.2.1]; omega); show (s_fillsStream ν s ((((ν 16 s.toNat) + k) + 256) % 256) r) 47 0 + (s_fillsStream ν s ((((ν 16 s.toNat) + k) + 256) % 256) r) 49 0 ≤ mW μ s ((s_fillsStream ν s ((((ν 16 s.toNat) + k) + 256) % 256) r) 46 0); rw [w0.2.1, ← w1]; exact w0.2.2.2⟩), Nat.le_refl _, Nat.le_refl _⟩
  refine ⟨⟨_, hm_oi hx⟩, _, _, _, _, (m_fillsResets hF htr hx hV (s := s) (r := r) (by omega) (by omega) (by omega) (by omega)), Nat.le_refl _, Nat.le_refl _, mkis_ (r := some (aI (v_fillsResets μ s r))) (fun ⟨hV7, hp8⟩ => ?_), fun _ _ q => q.elim⟩
  have hp8 : ((v_fillsResets μ s r) = 0 ∨ (v_fillsResets μ s r) = 1) ∧ ((v_fillsResets μ s r) = 1 → (s_fillsResets μ s r) 49 0 = 0 ∧ ((((s_fillsResets μ s r) 45 0 = 4 ∨ (s_fillsResets μ s r) 45 0 = 5 ∨ (s_fillsResets μ s r) 45 0 = 17 ∨ (s_fillsResets μ s r) 45 0 = 21) ∧ (s_fillsResets μ s r) 46 0 < 256) ∨ (s_fillsResets μ s r) 45 0 = 16 ∨ (s_fillsResets μ s r) 45 0 = 18 ∨ (s_fillsResets μ s r) 45 0 = 19 ∨ (s_fillsResets μ s r) 45 0 = 20 ∨ (s_fillsResets μ s r) 45 0 = 22 ∨ (s_fillsResets μ s r) 45 0 = 23)) := hp8
  refine ⟨by omega, fun (e9 : ¬ ((v_fillsResets μ s r) = 0)) => ?_, fun (e9 : (v_fillsResets μ s r) = 0) => ?_⟩
  · exact ⟨(Or.inr rfl), mRetIP (P := fun r m => (r = 0 ∨ r = 1) ∧ (r = 1 → m 49 0 ≤ 1200 ∧ ((((m 45 0 = 4 ∨ m 45 0 = 5 ∨ m 45 0 = 17 ∨ m 45 0 = 21) ∧ m 46 0 < 256) ∨ (m 45 0 = 16 ∨ m 45 0 = 18 ∨ m 45 0 = 19 ∨ m 45 0 = 20 ∨ m 45 0 = 22 ∨ m 45 0 = 23)) ∨ (m 45 0 = 8 ∧ m 46 0 < 256 ∧ m 47 0 + m 49 0 ≤ mW μ s (m 46 0))))) (by first | exact if_neg e9 | (unfold v_fills; rw [if_neg e9])) (by first | exact if_neg e9 | (unfold s_fills; rw [if_neg e9])) hV7 (show (1 = 0 ∨ 1 = 1) ∧ (1 = 1 → (s_fillsResets μ s r) 49 0 ≤ 1200 ∧ (((((s_fillsResets μ s r) 45 0 = 4 ∨ (s_fillsResets μ s r) 45 0 = 5 ∨ (s_fillsResets μ s r) 45 0 = 17 ∨ (s_fillsResets μ s r) 45 0 = 21) ∧ (s_fillsResets μ s r) 46 0 < 256) ∨ ((s_fillsResets μ s r) 45 0 = 16 ∨ (s_fillsResets μ s r) 45 0 = 18 ∨ (s_fillsResets μ s r) 45 0 = 19 ∨ (s_fillsResets μ s r) 45 0 = 20 ∨ (s_fillsResets μ s r) 45 0 = 22 ∨ (s_fillsResets μ s r) 45 0 = 23)) ∨ ((s_fillsResets μ s r) 45 0 = 8 ∧ (s_fillsResets μ s r) 46 0 < 256 ∧ (s_fillsResets μ s r) 47 0 + (s_fillsResets μ s r) 49 0 ≤ mW μ s ((s_fillsResets μ s r) 46 0)))) from by have z45 : (s_fillsResets μ s r) 45 0 = ((s_fillsResets μ s r) 45 0) := rfl; have z46 : (s_fillsResets μ s r) 46 0 = ((s_fillsResets μ s r) 46 0) := rfl; have z49 : (s_fillsResets μ s r) 49 0 = ((s_fillsResets μ s r) 49 0) := rfl; omega), Nat.le_refl _, Nat.le_refl _⟩
  · refine ⟨⟨_, hm_oi hx⟩, _, _, _, _, (m_fillsGrants hF htr hx hV7 (s := s) (r := r) (by omega) (by omega) (by omega) (by omega)), Nat.le_refl _, Nat.le_refl _, mkis_ (r := some (aI (v_fillsGrants (s_fillsResets μ s r) s r))) (fun ⟨hV10, hp11⟩ => ?_), fun _ _ q => q.elim⟩
    have hp11 : ((v_fillsGrants (s_fillsResets μ s r) s r) = 0 ∨ (v_fillsGrants (s_fillsResets μ s r) s r) = 1) ∧ ((v_fillsGrants (s_fillsResets μ s r) s r) = 1 → (s_fillsGrants (s_fillsResets μ s r) s r) 49 0 = 0 ∧ ((((s_fillsGrants (s_fillsResets μ s r) s r) 45 0 = 4 ∨ (s_fillsGrants (s_fillsResets μ s r) s r) 45 0 = 5 ∨ (s_fillsGrants (s_fillsResets μ s r) s r) 45 0 = 17 ∨ (s_fillsGrants (s_fillsResets μ s r) s r) 45 0 = 21) ∧ (s_fillsGrants (s_fillsResets μ s r) s r) 46 0 < 256) ∨ (s_fillsGrants (s_fillsResets μ s r) s r) 45 0 = 16 ∨ (s_fillsGrants (s_fillsResets μ s r) s r) 45 0 = 18 ∨ (s_fillsGrants (s_fillsResets μ s r) s r) 45 0 = 19 ∨ (s_fillsGrants (s_fillsResets μ s r) s r) 45 0 = 20 ∨ (s_fillsGrants (s_fillsResets μ s r) s r) 45 0 = 22 ∨ (s_fillsGrants (s_fillsResets μ s r) s r) 45 0 = 23)) := hp11
    refine ⟨by omega, fun (e12 : ¬ ((v_fillsGrants (s_fillsResets μ s r) s r) = 0)) => ?_, fun (e12 : (v_fillsGrants (s_fillsResets μ s r) s r) = 0) => ?_⟩
    · exact ⟨(Or.inr rfl), mRetIP (P := fun r m => (r = 0 ∨ r = 1) ∧ (r = 1 → m 49 0 ≤ 1200 ∧ ((((m 45 0 = 4 ∨ m 45 0 = 5 ∨ m 45 0 = 17 ∨ m 45 0 = 21) ∧ m 46 0 < 256) ∨ (m 45 0 = 16 ∨ m 45 0 = 18 ∨ m 45 0 = 19 ∨ m 45 0 = 20 ∨ m 45 0 = 22 ∨ m 45 0 = 23)) ∨ (m 45 0 = 8 ∧ m 46 0 < 256 ∧ m 47 0 + m 49 0 ≤ mW μ s (m 46 0))))) (by first | exact (if_pos e9).trans (if_neg e12) | (unfold v_fills; rw [if_pos e9, if_neg e12])) (by first | exact (if_pos e9).trans (if_neg e12) | (unfold s_fills; rw [if_pos e9, if_neg e12])) hV10 (show (1 = 0 ∨ 1 = 1) ∧ (1 = 1 → (s_fillsGrants (s_fillsResets μ s r) s r) 49 0 ≤ 1200 ∧ (((((s_fillsGrants (s_fillsResets μ s r) s r) 45 0 = 4 ∨ (s_fillsGrants (s_fillsResets μ s r) s r) 45 0 = 5 ∨ (s_fillsGrants (s_fillsResets μ s r) s r) 45 0 = 17 ∨ (s_fillsGrants (s_fillsResets μ s r) s r) 45 0 = 21) ∧ (s_fillsGrants (s_fillsResets μ s r) s r) 46 0 < 256) ∨ ((s_fillsGrants (s_fillsResets μ s r) s r) 45 0 = 16 ∨ (s_fillsGrants (s_fillsResets μ s r) s r) 45 0 = 18 ∨ (s_fillsGrants (s_fillsResets μ s r) s r) 45 0 = 19 ∨ (s_fillsGrants (s_fillsResets μ s r) s r) 45 0 = 20 ∨ (s_fillsGrants (s_fillsResets μ s r) s r) 45 0 = 22 ∨ (s_fillsGrants (s_fillsResets μ s r) s r) 45 0 = 23)) ∨ ((s_fillsGrants (s_fillsResets μ s r) s r) 45 0 = 8 ∧ (s_fillsGrants (s_fillsResets μ s r) s r) 46 0 < 256 ∧ (s_fillsGrants (s_fillsResets μ s r) s r) 47 0 + (s_fillsGrants (s_fillsResets μ s r) s r) 49 0 ≤ mW μ s ((s_fillsGrants (s_fillsResets μ s r) s r) 46 0)))) from by have z45 : (s_fillsGrants (s_fillsResets μ s r) s r) 45 0 = ((s_fillsGrants (s_fillsResets μ s r) s r) 45 0) := rfl; have z46 : (s_fillsGrants (s_fillsResets μ s r) s r) 46 0 = ((s_fillsGrants (s_fillsResets μ s r) s r) 46 0) := rfl; have z49 : (s_fillsGrants (s_fillsResets μ s r) s r) 49 0 = ((s_fillsGrants (s_fillsResets μ s r) s r) 49 0) := rfl; omega), Nat.le_refl _, Nat.le_refl _⟩
    · refine ⟨⟨_, hm_oi hx⟩, _, _, _, _, (m_fillsBlocked hF htr hx hV10 (s := s) (r := r) (by omega) (by omega) (by omega) (by omega)), Nat.le_refl _, Nat.le_refl _, mkis_ (r := some (aI (v_fillsBlocked (s_fillsGrants (s_fillsResets μ s r) s r) s r))) (fun ⟨hV13, hp14⟩ => ?_), fun _ _ q => q.elim⟩
      have hp14 : ((v_fillsBlocked (s_fillsGrants (s_fillsResets μ s r) s r) s r) = 0 ∨ (v_fillsBlocked (s_fillsGrants (s_fillsResets μ s r) s r) s r) = 1) ∧ ((v_fillsBlocked (s_fillsGrants (s_fillsResets μ s r) s r) s r) = 1 → (s_fillsBlocked (s_fillsGrants (s_fillsResets μ s r) s r) s r) 49 0 = 0 ∧ ((((s_fillsBlocked (s_fillsGrants (s_fillsResets μ s r) s r) s r) 45 0 = 4 ∨ (s_fillsBlocked (s_fillsGrants (s_fillsResets μ s r) s r) s r) 45 0 = 5 ∨ (s_fillsBlocked (s_fillsGrants (s_fillsResets μ s r) s r) s r) 45 0 = 17 ∨ (s_fillsBlocked (s_fillsGrants (s_fillsResets μ s r) s r) s r) 45 0 = 21) ∧ (s_fillsBlocked (s_fillsGrants (s_fillsResets μ s r) s r) s r) 46 0 < 256) ∨ (s_fillsBlocked (s_fillsGrants (s_fillsResets μ s r) s r) s r) 45 0 = 16 ∨ (s_fillsBlocked (s_fillsGrants (s_fillsResets μ s r) s r) s r) 45 0 = 18 ∨ (s_fillsBlocked (s_fillsGrants (s_fillsResets μ s r) s r) s r) 45 0 = 19 ∨ (s_fillsBlocked (s_fillsGrants (s_fillsResets μ s r) s r) s r) 45 0 = 20 ∨ (s_fillsBlocked (s_fillsGrants (s_fillsResets μ s r) s r) s r) 45 0 = 22 ∨ (s_fillsBlocked (s_fillsGrants (s_fillsResets μ s r) s r) s r) 45 0 = 23)) := hp14
      refine ⟨by omega, fun (e15 : (v_fillsBlocked (s_fillsGrants (s_fillsResets μ s r) s r) s r) = 0) => ?_, fun (e15 : ¬ ((v_fillsBlocked (s_fillsGrants (s_fillsResets μ s r) s r) s r) = 0)) => ?_⟩
      · exact mi_Wsub (List.forall_mem_cons.mpr ⟨(.head _), List.forall_mem_cons.mpr ⟨(.tail _ (.head _)), List.forall_mem_cons.mpr ⟨(.tail _ (.tail _ (.head _))), List.forall_mem_cons.mpr ⟨(.tail _ (.tail _ (.tail _ (.head _)))), fun _ h => absurd h List.not_mem_nil⟩⟩⟩⟩) (loop19 _ _ 257 1 (s_fillsBlocked (s_fillsGrants (s_fillsResets μ s r) s r) s r) hV13 (show 1 ≤ 1 ∧ 1 ≤ 257 from by omega) (fun x => mW_cg (by intro f hf k; simp only [List.elem_eq_mem, decide_eq_true_eq, List.mem_cons, List.not_mem_nil, or_false] at hf; rcases hf with rfl | rfl <;> exact (s_fillsBlocked_fr (by decide)).trans ((s_fillsGrants_fr (by decide)).trans (s_fillsResets_fr (by decide)))) s x) (show (257 - 1) < (257 : Int) from by omega) (by first | exact ((if_pos e9).trans ((if_pos e12).trans (if_pos e15))).symm | (unfold v_fills; rw [if_pos e9, if_pos e12, if_pos e15])) (by first | exact ((if_pos e9).trans ((if_pos e12).trans (if_pos e15))).symm | (unfold s_fills; rw [if_pos e9, if_pos e12, if_pos e15])))
      · exact ⟨(Or.inr rfl), mRetIP (P := fun r m => (r = 0 ∨ r = 1) ∧ (r = 1 → m 49 0 ≤ 1200 ∧ ((((m 45 0 = 4 ∨ m 45 0 = 5 ∨ m 45 0 = 17 ∨ m 45 0 = 21) ∧ m 46 0 < 256) ∨ (m 45 0 = 16 ∨ m 45 0 = 18 ∨ m 45 0 = 19 ∨ m 45 0 = 20 ∨ m 45 0 = 22 ∨ m 45 0 = 23)) ∨ (m 45 0 = 8 ∧ m 46 0 < 256 ∧ m 47 0 + m 49 0 ≤ mW μ s (m 46 0))))) (by first | exact (if_pos e9).trans ((if_pos e12).trans (if_neg e15)) | (unfold v_fills; rw [if_pos e9, if_pos e12, if_neg e15])) (by first | exact (if_pos e9).trans ((if_pos e12).trans (if_neg e15)) | (unfold s_fills; rw [if_pos e9, if_pos e12, if_neg e15])) hV13 (show (1 = 0 ∨ 1 = 1) ∧ (1 = 1 → (s_fillsBlocked (s_fillsGrants (s_fillsResets μ s r) s r) s r) 49 0 ≤ 1200 ∧ (((((s_fillsBlocked (s_fillsGrants (s_fillsResets μ s r) s r) s r) 45 0 = 4 ∨ (s_fillsBlocked (s_fillsGrants (s_fillsResets μ s r) s r) s r) 45 0 = 5 ∨ (s_fillsBlocked (s_fillsGrants (s_fillsResets μ s r) s r) s r) 45 0 = 17 ∨ (s_fillsBlocked (s_fillsGrants (s_fillsResets μ s r) s r) s r) 45 0 = 21) ∧ (s_fillsBlocked (s_fillsGrants (s_fillsResets μ s r) s r) s r) 46 0 < 256) ∨ ((s_fillsBlocked (s_fillsGrants (s_fillsResets μ s r) s r) s r) 45 0 = 16 ∨ (s_fillsBlocked (s_fillsGrants (s_fillsResets μ s r) s r) s r) 45 0 = 18 ∨ (s_fillsBlocked (s_fillsGrants (s_fillsResets μ s r) s r) s r) 45 0 = 19 ∨ (s_fillsBlocked (s_fillsGrants (s_fillsResets μ s r) s r) s r) 45 0 = 20 ∨ (s_fillsBlocked (s_fillsGrants (s_fillsResets μ s r) s r) s r) 45 0 = 22 ∨ (s_fillsBlocked (s_fillsGrants (s_fillsResets μ s r) s r) s r) 45 0 = 23)) ∨ ((s_fillsBlocked (s_fillsGrants (s_fillsResets μ s r) s r) s r) 45 0 = 8 ∧ (s_fillsBlocked (s_fillsGrants (s_fillsResets μ s r) s r) s r) 46 0 < 256 ∧ (s_fillsBlocked (s_fillsGrants (s_fillsResets μ s r) s r) s r) 47 0 + (s_fillsBlocked (s_fillsGrants (s_fillsResets μ s r) s r) s r) 49 0 ≤ mW μ s ((s_fillsBlocked (s_fillsGrants (s_fillsResets μ s r) s r) s r) 46 0)))) from by have z45 : (s_fillsBlocked (s_fillsGrants (s_fillsResets μ s r) s r) s r) 45 0 = ((s_fillsBlocked (s_fillsGrants (s_fillsResets μ s r) s r) s r) 45 0) := rfl; have z46 : (s_fillsBlocked (s_fillsGrants (s_fillsResets μ s r) s r) s r) 46 0 = ((s_fillsBlocked (s_fillsGrants (s_fillsResets μ s r) s r) s r) 46 0) := rfl; have z49 : (s_fillsBlocked (s_fillsGrants (s_fillsResets μ s r) s r) s r) 49 0 = ((s_fillsBlocked (s_fillsGrants (s_fillsResets μ s r) s r) s r) 49 0) := rfl; omega), Nat.le_refl _, Nat.le_refl _⟩
set_option maxRecDepth 100000 in
theorem s_fills_19_fr {f kk : Nat} {s r : Int} (hf : [12, 13, 14, 16, 20, 22, 24, 31, 33, 39, 45, 46, 47, 48, 49, 50].elem f = false) : ∀ (d : Nat) (k : Int) (ν : Nat → Nat → Int), s_fills_19 μ s r d k ν f kk = ν f kk := by
  have n12 : f ≠ 12 := by rintro rfl; exact absurd hf (by decide)
  have n13 : f ≠ 13 := by rintro rfl; exact absurd hf (by decide)
  have n14 : f ≠ 14 := by rintro rfl; exact absurd hf (by decide)
  have n16 : f ≠ 16 := by rintro rfl; exact absurd hf (by decide)
  have n20 : f ≠ 20 := by rintro rfl; exact absurd hf (by decide)
  have n22 : f ≠ 22 := by rintro rfl; exact absurd hf (by decide)
  have n24 : f ≠ 24 := by rintro rfl; exact absurd hf (by decide)
  have n31 : f ≠ 31 := by rintro rfl; exact absurd hf (by decide)
  have n33 : f ≠ 33 := by rintro rfl; exact absurd hf (by decide)
  have n39 : f ≠ 39 := by rintro rfl; exact absurd hf (by decide)
  have n45 : f ≠ 45 := by rintro rfl; exact absurd hf (by decide)
  have n46 : f ≠ 46 := by rintro rfl; exact absurd hf (by decide)
  have n47 : f ≠ 47 := by rintro rfl; exact absurd hf (by decide)
  have n48 : f ≠ 48 := by rintro rfl; exact absurd hf (by decide)
  have n49 : f ≠ 49 := by rintro rfl; exact absurd hf (by decide)
  have n50 : f ≠ 50 := by rintro rfl; exact absurd hf (by decide)
  have f12 : ∀ (m : Nat → Nat → Int) (a b : Nat) (v : Int), u2 m 12 a v f b = m f b := fun m a b v => u2_f n12
  have f13 : ∀ (m : Nat → Nat → Int) (a b : Nat) (v : Int), u2 m 13 a v f b = m f b := fun m a b v => u2_f n13
  have f14 : ∀ (m : Nat → Nat → Int) (a b : Nat) (v : Int), u2 m 14 a v f b = m f b := fun m a b v => u2_f n14
  have f16 : ∀ (m : Nat → Nat → Int) (a b : Nat) (v : Int), u2 m 16 a v f b = m f b := fun m a b v => u2_f n16
  have f20 : ∀ (m : Nat → Nat → Int) (a b : Nat) (v : Int), u2 m 20 a v f b = m f b := fun m a b v => u2_f n20
  have f22 : ∀ (m : Nat → Nat → Int) (a b : Nat) (v : Int), u2 m 22 a v f b = m f b := fun m a b v => u2_f n22
  have f24 : ∀ (m : Nat → Nat → Int) (a b : Nat) (v : Int), u2 m 24 a v f b = m f b := fun m a b v => u2_f n24
  have f31 : ∀ (m : Nat → Nat → Int) (a b : Nat) (v : Int), u2 m 31 a v f b = m f b := fun m a b v => u2_f n31
  have f33 : ∀ (m : Nat → Nat → Int) (a b : Nat) (v : Int), u2 m 33 a v f b = m f b := fun m a b v => u2_f n33
  have f39 : ∀ (m : Nat → Nat → Int) (a b : Nat) (v : Int), u2 m 39 a v f b = m f b := fun m a b v => u2_f n39
  have f45 : ∀ (m : Nat → Nat → Int) (a b : Nat) (v : Int), u2 m 45 a v f b = m f b := fun m a b v => u2_f n45
  have f46 : ∀ (m : Nat → Nat → Int) (a b : Nat) (v : Int), u2 m 46 a v f b = m f b := fun m a b v => u2_f n46
  have f47 : ∀ (m : Nat → Nat → Int) (a b : Nat) (v : Int), u2 m 47 a v f b = m f b := fun m a b v => u2_f n47
  have f48 : ∀ (m : Nat → Nat → Int) (a b : Nat) (v : Int), u2 m 48 a v f b = m f b := fun m a b v => u2_f n48
  have f49 : ∀ (m : Nat → Nat → Int) (a b : Nat) (v : Int), u2 m 49 a v f b = m f b := fun m a b v => u2_f n49
  have f50 : ∀ (m : Nat → Nat → Int) (a b : Nat) (v : Int), u2 m 50 a v f b = m f b := fun m a b v => u2_f n50
  have c_fillsBlocked : ∀ (m : Nat → Nat → Int) (z_s z_r : Int) (k : Nat), s_fillsBlocked m z_s z_r f k = m f k := by intros; exact s_fillsBlocked_fr (by simp only [List.elem_cons, List.elem_nil, beq_eq_false_iff_ne.mpr n14, beq_eq_false_iff_ne.mpr n24, beq_eq_false_iff_ne.mpr n45, beq_eq_false_iff_ne.mpr n46, beq_eq_false_iff_ne.mpr n47, beq_eq_false_iff_ne.mpr n48, beq_eq_false_iff_ne.mpr n49]; try rfl)
  have c_fillsGrants : ∀ (m : Nat → Nat → Int) (z_s z_r : Int) (k : Nat), s_fillsGrants m z_s z_r f k = m f k := by intros; exact s_fillsGrants_fr (by simp only [List.elem_cons, List.elem_nil, beq_eq_false_iff_ne.mpr n12, beq_eq_false_iff_ne.mpr n13, beq_eq_false_iff_ne.mpr n31, beq_eq_false_iff_ne.mpr n45, beq_eq_false_iff_ne.mpr n46, beq_eq_false_iff_ne.mpr n47, beq_eq_false_iff_ne.mpr n48, beq_eq_false_iff_ne.mpr n49]; try rfl)
  have c_fillsResets : ∀ (m : Nat → Nat → Int) (z_s z_r : Int) (k : Nat), s_fillsResets m z_s z_r f k = m f k := by intros; exact s_fillsResets_fr (by simp only [List.elem_cons, List.elem_nil, beq_eq_false_iff_ne.mpr n22, beq_eq_false_iff_ne.mpr n33, beq_eq_false_iff_ne.mpr n45, beq_eq_false_iff_ne.mpr n46, beq_eq_false_iff_ne.mpr n47, beq_eq_false_iff_ne.mpr n48, beq_eq_false_iff_ne.mpr n49]; try rfl)
  have c_fillsStream : ∀ (m : Nat → Nat → Int) (z_s z_i z_r : Int) (k : Nat), s_fillsStream m z_s z_i z_r f k = m f k := by intros; exact s_fillsStream_fr (by simp only [List.elem_cons, List.elem_nil, beq_eq_false_iff_ne.mpr n20, beq_eq_false_iff_ne.mpr n39, beq_eq_false_iff_ne.mpr n45, beq_eq_false_iff_ne.mpr n46, beq_eq_false_iff_ne.mpr n47, beq_eq_false_iff_ne.mpr n48, beq_eq_false_iff_ne.mpr n49, beq_eq_false_iff_ne.mpr n50]; try rfl)
  intro d
  induction d with
  | zero => intros; rfl
  | succ d ih =>
    intro k ν
    rw [s_fills_19]
    repeat' with_reducible apply f_ite
    all_goals first | rfl | simp only [f12, f13, f14, f16, f20, f22, f24, f31, f33, f39, f45, f46, f47, f48, f49, f50, c_fillsBlocked, c_fillsGrants, c_fillsResets, c_fillsStream, ih]
set_option maxRecDepth 100000 in
theorem s_fills_fr {f kk : Nat} {s r : Int} (hf : [12, 13, 14, 16, 20, 22, 24, 31, 33, 39, 45, 46, 47, 48, 49, 50].elem f = false) : s_fills μ s r f kk = μ f kk := by
  have n12 : f ≠ 12 := by rintro rfl; exact absurd hf (by decide)
  have n13 : f ≠ 13 := by rintro rfl; exact absurd hf (by decide)
  have n14 : f ≠ 14 := by rintro rfl; exact absurd hf (by decide)
  have n16 : f ≠ 16 := by rintro rfl; exact absurd hf (by decide)
  have n20 : f ≠ 20 := by rintro rfl; exact absurd hf (by decide)
  have n22 : f ≠ 22 := by rintro rfl; exact absurd hf (by decide)
  have n24 : f ≠ 24 := by rintro rfl; exact absurd hf (by decide)
  have n31 : f ≠ 31 := by rintro rfl; exact absurd hf (by decide)
  have n33 : f ≠ 33 := by rintro rfl; exact absurd hf (by decide)
  have n39 : f ≠ 39 := by rintro rfl; exact absurd hf (by decide)
  have n45 : f ≠ 45 := by rintro rfl; exact absurd hf (by decide)
  have n46 : f ≠ 46 := by rintro rfl; exact absurd hf (by decide)
  have n47 : f ≠ 47 := by rintro rfl; exact absurd hf (by decide)
  have n48 : f ≠ 48 := by rintro rfl; exact absurd hf (by decide)
  have n49 : f ≠ 49 := by rintro rfl; exact absurd hf (by decide)
  have n50 : f ≠ 50 := by rintro rfl; exact absurd hf (by decide)
  have f12 : ∀ (m : Nat → Nat → Int) (a b : Nat) (v : Int), u2 m 12 a v f b = m f b := fun m a b v => u2_f n12
  have f13 : ∀ (m : Nat → Nat → Int) (a b : Nat) (v : Int), u2 m 13 a v f b = m f b := fun m a b v => u2_f n13
  have f14 : ∀ (m : Nat → Nat → Int) (a b : Nat) (v : Int), u2 m 14 a v f b = m f b := fun m a b v => u2_f n14
  have f16 : ∀ (m : Nat → Nat → Int) (a b : Nat) (v : Int), u2 m 16 a v f b = m f b := fun m a b v => u2_f n16
  have f20 : ∀ (m : Nat → Nat → Int) (a b : Nat) (v : Int), u2 m 20 a v f b = m f b := fun m a b v => u2_f n20
  have f22 : ∀ (m : Nat → Nat → Int) (a b : Nat) (v : Int), u2 m 22 a v f b = m f b := fun m a b v => u2_f n22
  have f24 : ∀ (m : Nat → Nat → Int) (a b : Nat) (v : Int), u2 m 24 a v f b = m f b := fun m a b v => u2_f n24
  have f31 : ∀ (m : Nat → Nat → Int) (a b : Nat) (v : Int), u2 m 31 a v f b = m f b := fun m a b v => u2_f n31
  have f33 : ∀ (m : Nat → Nat → Int) (a b : Nat) (v : Int), u2 m 33 a v f b = m f b := fun m a b v => u2_f n33
  have f39 : ∀ (m : Nat → Nat → Int) (a b : Nat) (v : Int), u2 m 39 a v f b = m f b := fun m a b v => u2_f n39
  have f45 : ∀ (m : Nat → Nat → Int) (a b : Nat) (v : Int), u2 m 45 a v f b = m f b := fun m a b v => u2_f n45
  have f46 : ∀ (m : Nat → Nat → Int) (a b : Nat) (v : Int), u2 m 46 a v f b = m f b := fun m a b v => u2_f n46
  have f47 : ∀ (m : Nat → Nat → Int) (a b : Nat) (v : Int), u2 m 47 a v f b = m f b := fun m a b v => u2_f n47
  have f48 : ∀ (m : Nat → Nat → Int) (a b : Nat) (v : Int), u2 m 48 a v f b = m f b := fun m a b v => u2_f n48
  have f49 : ∀ (m : Nat → Nat → Int) (a b : Nat) (v : Int), u2 m 49 a v f b = m f b := fun m a b v => u2_f n49
  have f50 : ∀ (m : Nat → Nat → Int) (a b : Nat) (v : Int), u2 m 50 a v f b = m f b := fun m a b v => u2_f n50
  have c_fillsBlocked : ∀ (m : Nat → Nat → Int) (z_s z_r : Int) (k : Nat), s_fillsBlocked m z_s z_r f k = m f k := by intros; exact s_fillsBlocked_fr (by simp only [List.elem_cons, List.elem_nil, beq_eq_false_iff_ne.mpr n14, beq_eq_false_iff_ne.mpr n24, beq_eq_false_iff_ne.mpr n45, beq_eq_false_iff_ne.mpr n46, beq_eq_false_iff_ne.mpr n47, beq_eq_false_iff_ne.mpr n48, beq_eq_false_iff_ne.mpr n49]; try rfl)
  have c_fillsGrants : ∀ (m : Nat → Nat → Int) (z_s z_r : Int) (k : Nat), s_fillsGrants m z_s z_r f k = m f k := by intros; exact s_fillsGrants_fr (by simp only [List.elem_cons, List.elem_nil, beq_eq_false_iff_ne.mpr n12, beq_eq_false_iff_ne.mpr n13, beq_eq_false_iff_ne.mpr n31, beq_eq_false_iff_ne.mpr n45, beq_eq_false_iff_ne.mpr n46, beq_eq_false_iff_ne.mpr n47, beq_eq_false_iff_ne.mpr n48, beq_eq_false_iff_ne.mpr n49]; try rfl)
  have c_fillsResets : ∀ (m : Nat → Nat → Int) (z_s z_r : Int) (k : Nat), s_fillsResets m z_s z_r f k = m f k := by intros; exact s_fillsResets_fr (by simp only [List.elem_cons, List.elem_nil, beq_eq_false_iff_ne.mpr n22, beq_eq_false_iff_ne.mpr n33, beq_eq_false_iff_ne.mpr n45, beq_eq_false_iff_ne.mpr n46, beq_eq_false_iff_ne.mpr n47, beq_eq_false_iff_ne.mpr n48, beq_eq_false_iff_ne.mpr n49]; try rfl)
  have c_fillsStream : ∀ (m : Nat → Nat → Int) (z_s z_i z_r : Int) (k : Nat), s_fillsStream m z_s z_i z_r f k = m f k := by intros; exact s_fillsStream_fr (by simp only [List.elem_cons, List.elem_nil, beq_eq_false_iff_ne.mpr n20, beq_eq_false_iff_ne.mpr n39, beq_eq_false_iff_ne.mpr n45, beq_eq_false_iff_ne.mpr n46, beq_eq_false_iff_ne.mpr n47, beq_eq_false_iff_ne.mpr n48, beq_eq_false_iff_ne.mpr n49, beq_eq_false_iff_ne.mpr n50]; try rfl)
  unfold s_fills
  repeat' with_reducible apply f_ite
  all_goals first | rfl | simp only [f12, f13, f14, f16, f20, f22, f24, f31, f33, f39, f45, f46, f47, f48, f49, f50, c_fillsBlocked, c_fillsGrants, c_fillsResets, c_fillsStream, s_fills_19_fr hf]
def v_freePlace_2 (μ : Nat → Nat → Int) : Nat → Int → Int
  | 0, _ => -1
  | d + 1, k => (if 64 ≤ k then -1 else (if (μ 58 k.toNat) = 0 then k else (v_freePlace_2 μ d (k + 1))))
def v_freePlace (μ : Nat → Nat → Int) : Int := (v_freePlace_2 μ 65 0)
set_option maxRecDepth 100000 in
theorem m_freePlace (hF : mm_F G) (htr : L.stackTraces = false) (hx : mx A ax) (hV : mV μ)  :
    mm_Met L G SX6_freePlace [.ref (A 99)] (hm G A ax h0 μ) 0 0 (mRet (some (.int (iI (v_freePlace μ)))) (hm G A ax h0 μ)) mm_no := by
  refine mi_meth MX6_freePlace 400 hF htr okX6_freePlace (av := [aR (A 99)]) (by decide +kernel) (Nat.le_of_ble_eq_true rfl) cmX6_freePlace (fun θ hc => ?_)
  have loop2 : ∀ (R : Int) (d : Nat) (k : Int), (0 ≤ k ∧ k ≤ 64) → (64 - k) < (d : Int) → v_freePlace_2 μ d k = R → mi_W L G MX6_freePlace 0 0 (mRet (some (.int (iI R))) (hm G A ax h0 μ)) mm_no θ 2 [(1, aI k), (0, aR (A 99))] [] (hm G A ax h0 μ) 0 0 := by
    intro R d
    induction d with
    | zero =>
      intro k hi1 hms hvr
      omega
    | succ d ih =>
      intro k hi1 hms hvr
      refine mi_sound hc okX6_freePlace 400 _ _ _ _ _ _ ?_
      refine ⟨by omega, fun (e1 : 64 ≤ k) => ?_, fun (e1 : ¬ (64 ≤ k)) => ?_⟩
      · exact ⟨mRetI (hvr.symm.trans (by first | exact if_pos e1 | (rw [v_freePlace_2]; rw [if_pos e1]))) rfl, Nat.le_refl _, Nat.le_refl _⟩
      · refine ⟨_, hm_oi hx, aR (A 58), rfl, ?_⟩
        refine ⟨64, _, (μ 58 k.toNat), hm_a hx 58 rfl, by omega, rfl, ?_⟩
        have t2 := (show 0 ≤ μ 58 k.toNat ∧ μ 58 k.toNat ≤ 1 from hV.g 58 k.toNat)
        refine ⟨by omega, fun (e3 : ¬ ((μ 58 k.toNat) = 0)) => ?_, fun (e3 : (μ 58 k.toNat) = 0) => ?_⟩
        · exact mi_Wsub (List.forall_mem_cons.mpr ⟨(.head _), List.forall_mem_cons.mpr ⟨(.tail _ (.head _)), fun _ h => absurd h List.not_mem_nil⟩⟩) (ih (k + 1) (by omega) (by omega) (Eq.trans (by first | exact ((if_neg e1).trans (if_neg e3)).symm | (rw [v_freePlace_2]; rw [if_neg e1, if_neg e3])) hvr))
        · exact ⟨mRetI (hvr.symm.trans (by first | exact (if_neg e1).trans (if_pos e3) | (rw [v_freePlace_2]; rw [if_neg e1, if_pos e3]))) rfl, Nat.le_refl _, Nat.le_refl _⟩
  exact mi_Wsub (List.forall_mem_cons.mpr ⟨(.head _), List.forall_mem_cons.mpr ⟨(.tail _ (.head _)), fun _ h => absurd h List.not_mem_nil⟩⟩) (loop2 _ 65 0 (by omega) (by omega) rfl)
set_option maxRecDepth 100000 in
theorem v_freePlace_2_cg {μ μ' : Nat → Nat → Int} (h : ∀ f, [58].elem f = true → ∀ k, μ f k = μ' f k) : ∀ (d : Nat) (k : Int), v_freePlace_2 μ d k = v_freePlace_2 μ' d k := by
  have q58 := h 58 rfl
  intro d
  induction d with
  | zero => intros; rfl
  | succ d ih =>
    intro k
    rw [v_freePlace_2, v_freePlace_2]
    simp only [q58, ih]
set_option maxRecDepth 100000 in
theorem v_freePlace_cg {μ μ' : Nat → Nat → Int} (h : ∀ f, [58].elem f = true → ∀ k, μ f k = μ' f k) : v_freePlace μ = v_freePlace μ' := by
  have q58 := h 58 rfl
  unfold v_freePlace
  simp only [q58, v_freePlace_2_cg h]
theorem v_freePlace_u {f k : Nat} {v : Int} (hf : [58].elem f = false) : v_freePlace (u2 μ f k v) = v_freePlace μ := v_freePlace_cg (fun g hg q => u2_f (by rintro rfl; rw [hg] at hf; cases hf))
theorem freePlace_b2 : ∀ (d : Nat) (k : Int), 0 ≤ k → v_freePlace_2 μ d k = -1 ∨ (k ≤ v_freePlace_2 μ d k ∧ v_freePlace_2 μ d k < 64 ∧ μ 58 (v_freePlace_2 μ d k).toNat = 0)
  | 0, _, _ => Or.inl rfl
  | d + 1, k, hk => by
    have ih := freePlace_b2 d (k + 1) (by omega)
    rw [v_freePlace_2]
    split
    · exact Or.inl rfl
    · split
      · exact Or.inr ⟨Int.le_refl _, by omega, by assumption⟩
      · rcases ih with q | q
        · exact Or.inl q
        · exact Or.inr ⟨by omega, q.2⟩
theorem freePlace_b : v_freePlace μ = -1 ∨ (0 ≤ v_freePlace μ ∧ v_freePlace μ < 64 ∧ μ 58 (v_freePlace μ).toNat = 0) := freePlace_b2 _ _ (by omega)
def v_noPlace (μ : Nat → Nat → Int) (p : Int) : Int := (if p < 0 then 1 else (if 63 < p then 1 else (if (μ 58 p.toNat) = 0 then 1 else 0)))
set_option maxRecDepth 100000 in
theorem m_noPlace (hF : mm_F G) (htr : L.stackTraces = false) (hx : mx A ax) (hV : mV μ) {p : Int} (h1 : -2147483648 ≤ p) (h1a : p < 2147483648) :
    mm_Met L G SX6_noPlace [.ref (A 99), .int (iI p)] (hm G A ax h0 μ) 0 0 (mRet (some (.int (iI (v_noPlace μ p)))) (hm G A ax h0 μ)) mm_no := by
  refine mi_meth MX6_noPlace 400 hF htr okX6_noPlace (av := [aR (A 99), aI p]) (by decide +kernel) (Nat.le_of_ble_eq_true rfl) cmX6_noPlace (fun θ hc => ?_)
  refine ⟨by omega, fun (e1 : p < 0) => ?_, fun (e1 : ¬ (p < 0)) => ?_⟩
  · exact ⟨(Or.inr rfl), mRetI (by first | exact if_pos e1 | (unfold v_noPlace; rw [if_pos e1])) rfl, Nat.le_refl _, Nat.le_refl _⟩
  · refine ⟨by omega, fun (e2 : 63 < p) => ?_, fun (e2 : ¬ (63 < p)) => ?_⟩
    · exact ⟨(Or.inr rfl), mRetI (by first | exact (if_neg e1).trans (if_pos e2) | (unfold v_noPlace; rw [if_neg e1, if_pos e2])) rfl, Nat.le_refl _, Nat.le_refl _⟩
    · refine ⟨_, hm_oi hx, aR (A 58), rfl, ?_⟩
      refine ⟨64, _, (μ 58 p.toNat), hm_a hx 58 rfl, by omega, rfl, ?_⟩
      have t3 := (show 0 ≤ μ 58 p.toNat ∧ μ 58 p.toNat ≤ 1 from hV.g 58 p.toNat)
      refine ⟨by omega, fun (e4 : ¬ ((μ 58 p.toNat) = 0)) => ?_, fun (e4 : (μ 58 p.toNat) = 0) => ?_⟩
      · exact ⟨(Or.inl rfl), mRetI (by first | exact (if_neg e1).trans ((if_neg e2).trans (if_neg e4)) | (unfold v_noPlace; rw [if_neg e1, if_neg e2, if_neg e4])) rfl, Nat.le_refl _, Nat.le_refl _⟩
      · exact ⟨(Or.inr rfl), mRetI (by first | exact (if_neg e1).trans ((if_neg e2).trans (if_pos e4)) | (unfold v_noPlace; rw [if_neg e1, if_neg e2, if_pos e4])) rfl, Nat.le_refl _, Nat.le_refl _⟩
set_option maxRecDepth 100000 in
theorem v_noPlace_cg {μ μ' : Nat → Nat → Int} {p : Int} (h : ∀ f, [58].elem f = true → ∀ k, μ f k = μ' f k) : v_noPlace μ p = v_noPlace μ' p := by
  have q58 := h 58 rfl
  unfold v_noPlace
  simp only [q58]
theorem v_noPlace_u {f k : Nat} {v : Int} {p : Int} (hf : [58].elem f = false) : v_noPlace (u2 μ f k v) p = v_noPlace μ p := v_noPlace_cg (fun g hg q => u2_f (by rintro rfl; rw [hg] at hf; cases hf))
theorem noPlace_b {p : Int} : v_noPlace μ p = 1 ∨ (v_noPlace μ p = 0 ∧ 0 ≤ p ∧ p < 64 ∧ ¬ μ 58 p.toNat = 0) := by
  unfold v_noPlace
  repeat' split
  all_goals omega
end MR9
