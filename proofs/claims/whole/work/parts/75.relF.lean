section R7
variable {κ μ κ' μ' : Nat → Nat → Int} {O O' : Nat → Nat}
/-- what the class has grown already -/
def iD (κ : Nat → Nat → Int) (s : Int) : Prop := v_grownGrant (κ 313 s.toNat) (κ 360 ((16 * s) + 4).toNat) (κ 314 s.toNat) ≤ κ 314 s.toNat
def iG (κ : Nat → Nat → Int) (s i : Int) : Prop := κ 190 (mj s i) = 1 → κ 100 (mj s i) = 0 → v_grownGrant (κ 102 (mj s i)) (κ 106 (mj s i)) (κ 107 (mj s i)) ≤ κ 107 (mj s i)
def iO (κ : Nat → Nat → Int) (s i : Int) : Prop := κ 190 (mj s i) = 1 → ¬ i % 2 = s → (κ 113 (mj s i) = 1 ↔ (κ 100 (mj s i) = 3 ∨ κ 100 (mj s i) = 4) ∧ (κ 290 (mj s i) = 1 → κ 200 (mj s i) = 2 ∨ κ 200 (mj s i) = 4))
def kInv (κ : Nat → Nat → Int) : Prop := ∀ s : Int, 0 ≤ s → s ≤ 1 → iD κ s ∧ ∀ i : Int, 0 ≤ i → i < 256 → iG κ s i ∧ iO κ s i
theorem iD_cg {s : Int} (h1 : ∀ f, f = 313 ∨ f = 314 → κ' f s.toNat = κ f s.toNat) (h2 : κ' 360 ((16 * s) + 4).toNat = κ 360 ((16 * s) + 4).toNat) (h : iD κ s) : iD κ' s := by
  unfold iD at h ⊢
  rw [h1 313 (by omega), h1 314 (by omega), h2]
  exact h
theorem iG_cg {s i : Int} (h1 : ∀ f, f = 190 ∨ f = 100 ∨ f = 102 ∨ f = 106 ∨ f = 107 → κ' f (mj s i) = κ f (mj s i)) (h : iG κ s i) : iG κ' s i := by
  unfold iG at h ⊢
  rw [h1 190 (by omega), h1 100 (by omega), h1 102 (by omega), h1 106 (by omega), h1 107 (by omega)]
  exact h
theorem iO_cg {s i : Int} (h1 : ∀ f, f = 190 ∨ f = 100 ∨ f = 113 ∨ f = 290 ∨ f = 200 → κ' f (mj s i) = κ f (mj s i)) (h : iO κ s i) : iO κ' s i := by
  unfold iO at h ⊢
  rw [h1 190 (by omega), h1 100 (by omega), h1 113 (by omega), h1 290 (by omega), h1 200 (by omega)]
  exact h
/-- only one stream's state has changed -/
theorem Inv_st {s i : Int} (hI : kInv κ) (h1 : 0 ≤ s) (h2 : s ≤ 1) (h3 : 0 ≤ i) (h4 : i < 256) (hk : ∀ f k, f = 100 ∨ f = 102 ∨ f = 106 ∨ f = 107 ∨ f = 113 ∨ f = 200 → k ≠ mj s i → κ' f k = κ f k) (h290 : ∀ f k, f = 190 ∨ f = 290 → κ' f k = κ f k) (h31 : ∀ f k, f = 313 ∨ f = 314 → k ≠ s.toNat → κ' f k = κ f k) (h36 : ∀ k, k % 16 = 4 → κ' 360 k = κ 360 k) (hD : iD κ' s) (hG : iG κ' s i) (hO : iO κ' s i) : kInv κ' := by
  intro t g1 g2
  obtain ⟨a, b⟩ := hI t g1 g2
  refine ⟨?_, fun j g3 g4 => ?_⟩
  · by_cases e : t = s
    · rw [e]; exact hD
    · exact iD_cg (fun f z => h31 f _ z (by omega)) (h36 _ (by omega)) a
  · obtain ⟨c, d⟩ := b j g3 g4
    by_cases e : t = s ∧ j = i
    · rw [e.1, e.2]; exact ⟨hG, hO⟩
    · have hne := mj_ne h1 h3 h4 g1 g3 g4 e
      refine ⟨iG_cg (fun f z => ?_) c, iO_cg (fun f z => ?_) d⟩
      · by_cases y : f = 190
        · exact h290 _ _ (by omega)
        · exact hk _ _ (by omega) hne
      · by_cases y : f = 190 ∨ f = 290
        · exact h290 _ _ y
        · exact hk _ _ (by omega) hne
/-- code that is thrown, as the law sees it -/
def kR (c2 e : Int) : Int := if e = 0 then 0 else kCd c2 e
theorem sideAt_c (s : Int) : (e_sideAt κ s = 0 ∧ 0 ≤ s ∧ s ≤ 1) ∨ (e_sideAt κ s = 1 ∧ (s < 0 ∨ 1 < s)) := by
  unfold e_sideAt
  by_cases a : s < 0
  · rw [if_pos a]; exact Or.inr ⟨rfl, Or.inl a⟩
  · by_cases b : s ≤ 1
    · rw [if_neg a, if_pos b]; exact Or.inl ⟨rfl, by omega, b⟩
    · rw [if_neg a, if_neg b]; exact Or.inr ⟨rfl, Or.inr (by omega)⟩
theorem kRel.A (hR : kRel κ μ O) {s i : Int} (h1 : 0 ≤ s) (h2 : s ≤ 1) (h3 : 0 ≤ i) (h4 : i < 256) : rA κ μ O s i := ((hR.2.1 s h1 h2).2.2 i h3 h4).2.1
theorem kRel.B (hR : kRel κ μ O) {s i : Int} (h1 : 0 ≤ s) (h2 : s ≤ 1) (h3 : 0 ≤ i) (h4 : i < 256) : rB κ μ O s i := ((hR.2.1 s h1 h2).2.2 i h3 h4).2.2
theorem kRel.T (hR : kRel κ μ O) {s i : Int} (h1 : 0 ≤ s) (h2 : s ≤ 1) (h3 : 0 ≤ i) (h4 : i < 256) : rT κ μ s i := ((hR.2.1 s h1 h2).2.2 i h3 h4).1
theorem kRel.S (hR : kRel κ μ O) {s : Int} (h1 : 0 ≤ s) (h2 : s ≤ 1) : rS κ μ s := (hR.2.1 s h1 h2).1
theorem kRel.W (hR : kRel κ μ O) {s w : Int} (h1 : 0 ≤ s) (h2 : s ≤ 1) (h3 : 0 ≤ w) (h4 : w ≤ 1) : rW κ μ s w := (hR.2.1 s h1 h2).2.1 w h3 h4
theorem hasA (hR : kRel κ μ O) {s : Int} (i : Int) (h1 : 0 ≤ s) (h2 : s ≤ 1) : (0 ≤ i ∧ i < 256 ∧ κ 290 (mj s i) = 1) ↔ ((0 ≤ i ∧ i < 256 ∧ μ 17 (mj s i) = 1) ∧ (i / 2 % 2 = 0 ∨ i % 2 = s)) :=
  ⟨fun q => ⟨⟨q.1, q.2.1, ((hR.A h1 h2 q.1 q.2.1).1.mp q.2.2).1⟩, ((hR.A h1 h2 q.1 q.2.1).1.mp q.2.2).2⟩, fun q => ⟨q.1.1, q.1.2.1, (hR.A h1 h2 q.1.1 q.1.2.1).1.mpr ⟨q.1.2.2, q.2⟩⟩⟩
theorem hasB (hR : kRel κ μ O) {s : Int} (i : Int) (h1 : 0 ≤ s) (h2 : s ≤ 1) : (0 ≤ i ∧ i < 256 ∧ κ 190 (mj s i) = 1) ↔ ((0 ≤ i ∧ i < 256 ∧ μ 17 (mj s i) = 1) ∧ (i / 2 % 2 = 0 ∨ ¬ i % 2 = s)) :=
  ⟨fun q => ⟨⟨q.1, q.2.1, ((hR.B h1 h2 q.1 q.2.1).1.mp q.2.2).1⟩, ((hR.B h1 h2 q.1 q.2.1).1.mp q.2.2).2⟩, fun q => ⟨q.1.1, q.1.2.1, (hR.B h1 h2 q.1.1 q.1.2.1).1.mpr ⟨q.1.2.2, q.2⟩⟩⟩
theorem u0 {v : Int} : ∀ f k, ¬ (f = 0 ∨ (45 ≤ f ∧ f ≤ 50)) → (u2 μ 0 0 v) f k = μ f k := fun f k z => u2_f (by omega)
theorem Rel_u0 (hV : mV μ) (hR : kRel κ μ O) {v : Int} : kRel κ (u2 μ 0 0 v) O := Rel_0 hV hR u0
/-- as they were but for the thrown code -/
theorem R_same (hV : mV μ) (hR : kRel κ μ O) (hI : kInv κ) {v : Int} : kRel κ (u2 μ 0 0 v) O ∧ kInv κ := ⟨Rel_u0 hV hR, hI⟩
theorem u17 {v : Int} {k : Nat} : (u2 μ 0 0 v) 17 k = μ 17 k := u2_f (by decide)
/-- finish -/
theorem R_finish (hV : mV μ) (hK : kV κ) (hR : kRel κ μ O) (hI : kInv κ) (s i : Int) : s_finish μ s i 0 0 = kR 1 (e_kFinish κ s i) ∧ (e_kFinish κ s i = 0 → v_finish μ s i = v_kFinish κ s i ∧ kRel (s_kFinish κ s i) (s_finish μ s i) O ∧ kInv (s_kFinish κ s i)) ∧ (¬ e_kFinish κ s i = 0 → kRel κ (s_finish μ s i) O) := by
  rcases sideAt_c (κ := κ) s with ⟨e, h1, h2⟩ | ⟨e, h⟩
  · have hb : b2 (s < 0 ∨ 1 < s) = 0 := if_neg (by omega)
    have hns : ¬ (s < 0 ∨ 1 < s) := by omega
    have eE : e_kFinish κ s i = 0 := by
      unfold e_kFinish
      rw [if_pos e]
      split
      · split <;> rfl
      · rfl
    rw [eE]
    by_cases hp : 0 ≤ i ∧ i < 256 ∧ κ 290 (mj s i) = 1
    · have hq := (hasA hR i h1 h2).mp hp
      have hA := hR.A h1 h2 hp.1 hp.2.1
      have hsd := rA_send hV (hK.1 204 _).1 h1 hA hp.2.2
      by_cases hz : κ 200 (mj s i) = 0
      · have eS : s_finish μ s i = u2 (u2 (u2 μ 0 0 0) 19 (mj s i) 1) 20 (mj s i) 0 := by simp only [s_finish, if_neg hns, u17, if_pos hq, hsd, if_pos hz, hb, if_true]
        have eV : v_finish μ s i = 1 := by simp only [v_finish, if_neg hns, u17, if_pos hq, hsd, if_pos hz, hb, if_true]
        have eK : s_kFinish κ s i = u2 (u2 κ 200 (mj s i) 1) 207 (mj s i) 1 := by simp only [s_kFinish, if_pos e, if_pos hp, if_pos hz]
        have eW : v_kFinish κ s i = 1 := by simp only [v_kFinish, if_pos e, if_pos hp, if_pos hz]
        rw [eS, eV, eK, eW]
        refine ⟨by rw [u2_f (by decide), u2_f (by decide), u2_s]; rfl, fun _ => ⟨rfl, ?_, ?_⟩, fun z => absurd rfl z⟩
        · obtain ⟨a1, a2, a3⟩ := hA.2.1 hp.2.2
          refine Rel_A hV hR h1 h2 hp.1 hp.2.1 (fun f k z => by rw [u2_n (by omega), u2_n (by omega)]) (fun f k z y => by rw [u2_n (by omega), u2_n (by omega), u2_n (by omega)]) (by rw [u2_n (by omega), u2_n (by omega)]; exact Int.le_refl _) (fun _ => by rw [u2_n (by omega), u2_s]) ?_
          refine ⟨by rw [u2_n (by omega), u2_n (by omega), u2_n (by omega), u2_n (by omega), u2_n (by omega)]; exact hA.1, fun _ => ⟨?_, ?_, ?_⟩, fun z => absurd (by rw [u2_n (by omega), u2_n (by omega)]; exact hp.2.2) z⟩
          · obtain ⟨q1, q2, q3, q4, q5, q6, q7⟩ := a1
            have hz21 : ¬ 0 < μ 21 (mj s i) := by
              intro z
              rw [if_pos z] at q7
              omega
            have hw : mW (u2 (u2 (u2 μ 0 0 0) 19 (mj s i) 1) 20 (mj s i) 0) s i = mW μ s i := mW_cg (fun f hf k => by
              simp only [List.elem_eq_mem, decide_eq_true_eq, List.mem_cons, List.not_mem_nil, or_false] at hf
              rw [u2_n (by omega), u2_n (by omega), u2_n (by omega)]) s i
            unfold rA1
            rw [hw]
            simp (disch := omega) only [u2_n, u2_s]
            refine ⟨q1, rfl, q3, q4, q5, q6, ?_⟩
            rw [if_neg hz21]
            rfl
          · unfold rA2 at a2 ⊢
            simp (disch := omega) only [u2_n]
            exact a2
          · have hp' : ∀ o : Int, v_placeOf (u2 (u2 (u2 μ 0 0 0) 19 (mj s i) 1) 20 (mj s i) 0) s i o = v_placeOf μ s i o := fun o => v_placeOf_cg (fun f hf k => by
              simp only [List.elem_eq_mem, decide_eq_true_eq, List.mem_cons, List.not_mem_nil, or_false] at hf
              rw [u2_n (by omega), u2_n (by omega), u2_n (by omega)])
            have e200 : ∀ r o, (u2 (u2 κ 200 (mj s i) 1) 207 (mj s i) 1) (1000 + r) o = κ (1000 + r) o := fun r o => by rw [u2_n (by omega), u2_n (by omega)]
            have hrow : ∀ r, (u2 (u2 κ 200 (mj s i) 1) 207 (mj s i) 1) (1000 + r) = κ (1000 + r) := fun r => funext (e200 r)
            unfold rA3 mMk at a3 ⊢
            simp (disch := omega) only [u2_n, hrow, hp']
            exact a3
        · refine Inv_st hI h1 h2 hp.1 hp.2.1 (fun f k z y => by rw [u2_n (by omega), u2_n (by omega)]) (fun f k z => by rw [u2_n (by omega), u2_n (by omega)]) (fun f k z y => by rw [u2_n (by omega), u2_n (by omega)]) (fun k z => by rw [u2_n (by omega), u2_n (by omega)]) (iD_cg (fun f z => by rw [u2_n (by omega), u2_n (by omega)]) (by rw [u2_n (by omega), u2_n (by omega)]) (hI s h1 h2).1) (iG_cg (fun f z => by rw [u2_n (by omega), u2_n (by omega)]) ((hI s h1 h2).2 i hp.1 hp.2.1).1) ?_
          have := ((hI s h1 h2).2 i hp.1 hp.2.1).2
          unfold iO at this ⊢
          simp (disch := omega) only [u2_n, u2_s]
          intro y1 y2
          rw [this y1 y2, hz]
          exact ⟨fun z => absurd (z.2 hp.2.2) (by omega), fun z => absurd (z.2 hp.2.2) (by omega)⟩
      · have eS : s_finish μ s i = u2 μ 0 0 0 := by simp only [s_finish, if_neg hns, u17, if_pos hq, hsd, if_neg hz, hb, if_true]
        have eV : v_finish μ s i = 0 := by simp only [v_finish, if_neg hns, u17, if_pos hq, hsd, if_neg hz, hb, if_true]
        have eK : s_kFinish κ s i = κ := by simp only [s_kFinish, if_pos e, if_pos hp, if_neg hz]
        have eW : v_kFinish κ s i = 0 := by simp only [v_kFinish, if_pos e, if_pos hp, if_neg hz]
        rw [eS, eV, eK, eW]
        exact ⟨by rw [u2_s]; rfl, fun _ => ⟨rfl, R_same hV hR hI⟩, fun z => absurd rfl z⟩
    · have hq : ¬ ((0 ≤ i ∧ i < 256 ∧ μ 17 (mj s i) = 1) ∧ (i / 2 % 2 = 0 ∨ i % 2 = s)) := fun z => hp ((hasA hR i h1 h2).mpr z)
      have eS : s_finish μ s i = u2 μ 0 0 0 := by simp only [s_finish, if_neg hns, u17, if_neg hq, hb, if_true]
      have eV : v_finish μ s i = 0 := by simp only [v_finish, if_neg hns, u17, if_neg hq, hb, if_true]
      have eK : s_kFinish κ s i = κ := by simp only [s_kFinish, if_pos e, if_neg hp]
      have eW : v_kFinish κ s i = 0 := by simp only [v_kFinish, if_pos e, if_neg hp]
      rw [eS, eV, eK, eW]
      exact ⟨by rw [u2_s]; rfl, fun _ => ⟨rfl, R_same hV hR hI⟩, fun z => absurd rfl z⟩
  · have hb : b2 (s < 0 ∨ 1 < s) = 1 := if_pos h
    have hn : ¬ e_sideAt κ s = 0 := by omega
    have eS : s_finish μ s i = u2 μ 0 0 1 := by
      unfold s_finish
      rw [if_pos h, hb]
      rfl
    have eE : e_kFinish κ s i = 1 := by
      unfold e_kFinish
      rw [if_neg hn, e]
    rw [eS, eE]
    exact ⟨by rw [u2_s]; rfl, fun z => absurd z (by decide), fun _ => Rel_u0 hV hR⟩
end R7
