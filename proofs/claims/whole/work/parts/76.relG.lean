section R8
variable {κ μ κ' μ' : Nat → Nat → Int} {O O' : Nat → Nat}
theorem rA_f {s i : Int} (h : rA κ μ O s i) (hp : κ 290 (mj s i) = 1) (hk : ∀ f, f = 290 ∨ (201 ≤ f ∧ f ≤ 206) → κ' f (mj s i) = κ f (mj s i)) (hr : ∀ f k, 600 ≤ f → κ' f k = κ f k) (h17 : μ' 17 (mj s i) = μ 17 (mj s i)) (hm : ∀ f, 36 ≤ f → f ≤ 39 → ∀ k, μ' f k = μ f k) (h1 : rA1 κ' μ' s i) : rA κ' μ' O s i := by
  obtain ⟨a1, a2, a3⟩ := h.2.1 hp
  refine ⟨by rw [hk 290 (by omega), h17]; exact h.1, fun _ => ⟨h1, ?_, ?_⟩, fun z => absurd (by rw [hk 290 (by omega)]; exact hp) z⟩
  · unfold rA2 at a2 ⊢
    rw [hk 201 (by omega), hk 202 (by omega), hk 203 (by omega), hr 600 _ (by omega), hr 601 _ (by omega), hr 602 _ (by omega), hr 600 _ (by omega), hr 601 _ (by omega)]
    exact a2
  · have hrow : ∀ r, κ' (1000 + r) = κ (1000 + r) := fun r => funext (fun o => hr _ _ (by omega))
    have hw : κ 203 (mj s i) = mW μ s i := a1.1
    have hAm := rA_m (μ := μ) (μ' := μ') (s := s) (i := i) hm
    obtain ⟨c1, c2, c3, c4, c5, c6, c7⟩ := a3
    unfold rA3
    rw [hk 201 (by omega), hk 202 (by omega), hk 203 (by omega), hk 204 (by omega), hk 205 (by omega), hk 206 (by omega), hr 600 _ (by omega), hrow, hrow]
    refine ⟨c1, fun o ho => ?_, fun o ho => ?_, c4, fun o z1 z2 => ?_, c6, c7⟩
    · rw [(hAm.2 o (by omega)).1]; exact c2 o ho
    · rw [(hAm.2 o (by omega)).2]; exact c3 o ho
    · rw [(hAm.2 o (by omega)).2]; exact c5 o z1 z2
theorem rB_f {s i : Int} (h : rB κ μ O s i) (hp : κ 190 (mj s i) = 1) (hk : ∀ f, f = 190 ∨ (101 ≤ f ∧ f ≤ 104) → κ' f (mj s i) = κ f (mj s i)) (hr : ∀ f k, 600 ≤ f → κ' f k = κ f k) (hm : ∀ f, f = 17 ∨ f = 25 ∨ f = 26 ∨ f = 28 → μ' f (mj s i) = μ f (mj s i)) (hX : mX μ' s i = mX μ s i) (h1 : rB1 κ' μ' s i) : rB κ' μ' O s i := by
  obtain ⟨a1, a2, a3⟩ := h.2.1 hp
  refine ⟨by rw [hk 190 (by omega), hm 17 (by omega)]; exact h.1, fun _ => ⟨h1, ?_, ?_⟩, fun z => absurd (by rw [hk 190 (by omega)]; exact hp) z⟩
  · unfold rB2 at a2 ⊢
    rw [hk 101 (by omega), hk 104 (by omega), hr 600 _ (by omega), hr 601 _ (by omega), hr 602 _ (by omega)]
    exact a2
  · have hrow : ∀ r, κ' (1000 + r) = κ (1000 + r) := fun r => funext (fun o => hr _ _ (by omega))
    unfold rB3 at a3 ⊢
    rw [hk 101 (by omega), hk 102 (by omega), hk 103 (by omega), hk 104 (by omega), hr 600 _ (by omega), hrow, hX, hm 25 (by omega), hm 26 (by omega), hm 28 (by omega)]
    exact a3
theorem mX_u {f k : Nat} {v s i : Int} (hf : [40, 41, 42, 43, 44].elem f = false) : mX (u2 μ f k v) s i = mX μ s i := mX_cg (fun g hg q => u2_f (by rintro rfl; rw [hg] at hf; cases hf))
/-- given up: the same in both -/
theorem giveUp_A (hV : mV μ) {s i c : Int} (hA : rA κ μ O s i) (hp : κ 290 (mj s i) = 1) : rA (u2 (u2 (u2 κ 200 (mj s i) 3) 210 (mj s i) c) 211 (mj s i) 1) (s_doReset μ s i c) O s i := by
  refine rA_f hA hp (fun f a => by rw [u2_n (by omega), u2_n (by omega), u2_n (by omega)]) (fun f k a => by rw [u2_n (by omega), u2_n (by omega), u2_n (by omega)]) (by unfold s_doReset; rw [u2_n (by omega), u2_n (by omega), u2_n (by omega)]) (fun f a b k => by unfold s_doReset; rw [u2_n (by omega), u2_n (by omega), u2_n (by omega)]) ?_
  obtain ⟨q1, q2, q3, q4, q5, q6, q7⟩ := (hA.2.1 hp).1
  have hw : mW (s_doReset μ s i c) s i = mW μ s i := mW_cg (fun f hf k => s_doReset_fr (by
    simp only [List.elem_eq_mem, decide_eq_true_eq, List.mem_cons, List.not_mem_nil, or_false] at hf
    rcases hf with rfl | rfl <;> rfl)) s i
  unfold rA1
  rw [hw]
  unfold s_doReset
  simp (disch := omega) only [u2_n, u2_s]
  exact ⟨q1, q2, q3, q4, rfl, fun _ => trivial, rfl⟩
theorem Inv_giveUp (hI : kInv κ) {s i c : Int} (h1 : 0 ≤ s) (h2 : s ≤ 1) (h3 : 0 ≤ i) (h4 : i < 256) (hp : κ 290 (mj s i) = 1) (hz : κ 200 (mj s i) = 0 ∨ κ 200 (mj s i) = 1) : kInv (u2 (u2 (u2 κ 200 (mj s i) 3) 210 (mj s i) c) 211 (mj s i) 1) := by
  refine Inv_st hI h1 h2 h3 h4 (fun f k z y => by rw [u2_n (by omega), u2_n (by omega), u2_n (by omega)]) (fun f k z => by rw [u2_n (by omega), u2_n (by omega), u2_n (by omega)]) (fun f k z y => by rw [u2_n (by omega), u2_n (by omega), u2_n (by omega)]) (fun k z => by rw [u2_n (by omega), u2_n (by omega), u2_n (by omega)]) (iD_cg (fun f z => by rw [u2_n (by omega), u2_n (by omega), u2_n (by omega)]) (by rw [u2_n (by omega), u2_n (by omega), u2_n (by omega)]) (hI s h1 h2).1) (iG_cg (fun f z => by rw [u2_n (by omega), u2_n (by omega), u2_n (by omega)]) ((hI s h1 h2).2 i h3 h4).1) ?_
  have := ((hI s h1 h2).2 i h3 h4).2
  unfold iO at this ⊢
  simp (disch := omega) only [u2_n, u2_s]
  intro y1 y2
  rw [this y1 y2]
  exact ⟨fun z => absurd (z.2 hp) (by omega), fun z => absurd (z.2 hp) (by omega)⟩
theorem Rel_giveUp (hV : mV μ) (hR : kRel κ μ O) {s i c : Int} (h1 : 0 ≤ s) (h2 : s ≤ 1) (h3 : 0 ≤ i) (h4 : i < 256) (hp : κ 290 (mj s i) = 1) : kRel (u2 (u2 (u2 κ 200 (mj s i) 3) 210 (mj s i) c) 211 (mj s i) 1) (s_doReset μ s i c) O := by
  refine Rel_A hV hR h1 h2 h3 h4 (fun f k z => by rw [u2_n (by omega), u2_n (by omega), u2_n (by omega)]) (fun f k z y => by unfold s_doReset; rw [u2_n (by omega), u2_n (by omega), u2_n (by omega)]) (by rw [u2_n (by omega), u2_n (by omega), u2_n (by omega)]; exact Int.le_refl _) (fun z => by unfold s_doReset; rw [u2_n (by omega), u2_n (by omega), u2_n (by omega)]; exact z) (giveUp_A hV (hR.A h1 h2 h3 h4) hp)
theorem mV_u0 (hV : mV μ) {v : Int} (h : 0 ≤ v ∧ v ≤ 2) : mV (u2 μ 0 0 v) := hV.u h
theorem sLive_c (κ : Nat → Nat → Int) (s i : Int) : (v_sLive κ s i = 1 ∧ (κ 200 (mj s i) = 0 ∨ κ 200 (mj s i) = 1)) ∨ (v_sLive κ s i = 0 ∧ ¬ (κ 200 (mj s i) = 0 ∨ κ 200 (mj s i) = 1)) := by
  unfold v_sLive
  by_cases a : κ 200 (mj s i) = 0
  · rw [if_pos a]; exact Or.inl ⟨rfl, Or.inl a⟩
  · by_cases b : κ 200 (mj s i) = 1
    · rw [if_neg a, if_pos b]; exact Or.inl ⟨rfl, Or.inr b⟩
    · rw [if_neg a, if_neg b]; exact Or.inr ⟨rfl, fun z => z.elim a b⟩
theorem rLive_c (κ : Nat → Nat → Int) (s i : Int) : (v_rLive κ s i = 1 ∧ (κ 100 (mj s i) = 0 ∨ κ 100 (mj s i) = 1)) ∨ (v_rLive κ s i = 0 ∧ ¬ (κ 100 (mj s i) = 0 ∨ κ 100 (mj s i) = 1)) := by
  unfold v_rLive
  by_cases a : κ 100 (mj s i) = 0
  · rw [if_pos a]; exact Or.inl ⟨rfl, Or.inl a⟩
  · by_cases b : κ 100 (mj s i) = 1
    · rw [if_neg a, if_pos b]; exact Or.inl ⟨rfl, Or.inr b⟩
    · rw [if_neg a, if_neg b]; exact Or.inr ⟨rfl, fun z => z.elim a b⟩
theorem needCode_c (c : Int) : (e_needCode κ c = 0 ∧ 0 ≤ c ∧ c ≤ 4611686018427387903) ∨ (e_needCode κ c = 1 ∧ (c < 0 ∨ 4611686018427387903 < c)) := by
  unfold e_needCode v_isNumber
  by_cases a : c < 0
  · rw [if_pos a]; exact Or.inr ⟨rfl, Or.inl a⟩
  · by_cases b : 4611686018427387903 < c
    · rw [if_neg a, if_pos b]; exact Or.inr ⟨rfl, Or.inr b⟩
    · rw [if_neg a, if_neg b]; exact Or.inl ⟨rfl, by omega, by omega⟩
theorem mSend_u0 {v s i : Int} : mSend (u2 μ 0 0 v) s i = mSend μ s i := mSend_cg (fun f hf k => u2_f (by rintro rfl; cases hf))
theorem R_reset (hV : mV μ) (hK : kV κ) (hR : kRel κ μ O) (hI : kInv κ) (s i c : Int) : s_reset μ s i c 0 0 = kR 1 (e_kReset κ s i c) ∧ (e_kReset κ s i c = 0 → v_reset μ s i c = v_kReset κ s i c ∧ kRel (s_kReset κ s i c) (s_reset μ s i c) O ∧ kInv (s_kReset κ s i c)) ∧ (¬ e_kReset κ s i c = 0 → kRel κ (s_reset μ s i c) O) := by
  rcases sideAt_c (κ := κ) s with ⟨e, h1, h2⟩ | ⟨e, h⟩
  · have hns : ¬ (s < 0 ∨ 1 < s) := by omega
    rcases needCode_c (κ := κ) c with ⟨ec, c1, c2⟩ | ⟨ec, c1⟩
    · have eE : e_kReset κ s i c = 0 := by
        unfold e_kReset
        rw [if_pos e, if_pos ec]
        split
        · split <;> rfl
        · rfl
      have hc1 : ¬ c < 0 := by omega
      rw [eE]
      by_cases hp : 0 ≤ i ∧ i < 256 ∧ κ 290 (mj s i) = 1
      · have hq := (hasA hR i h1 h2).mp hp
        have hA := hR.A h1 h2 hp.1 hp.2.1
        have hsd := rA_send hV (hK.1 204 _).1 h1 hA hp.2.2
        have k200 := hK.1 200 (mj s i)
        have k0 : 0 ≤ κ 200 (mj s i) := k200.1
        rcases sLive_c κ s i with ⟨el, hl⟩ | ⟨el, hl⟩
        · have hq2 : ((0 ≤ i ∧ i < 256 ∧ μ 17 (mj s i) = 1) ∧ (i / 2 % 2 = 0 ∨ i % 2 = s)) ∧ κ 200 (mj s i) < 2 := ⟨hq, by omega⟩
          have eS : s_reset μ s i c = s_doReset (u2 μ 0 0 0) s i c := by simp only [s_reset, if_neg hns, u17, mSend_u0, hsd, if_pos hq2, if_neg hc1, if_pos c2]
          have eV : v_reset μ s i c = 1 := by simp only [v_reset, if_neg hns, u17, mSend_u0, hsd, if_pos hq2, if_neg hc1, if_pos c2]
          have hl0 : ¬ v_sLive κ s i = 0 := by omega
          have eK : s_kReset κ s i c = (u2 (u2 (u2 κ 200 (mj s i) 3) 210 (mj s i) c) 211 (mj s i) 1) := by simp only [s_kReset, if_pos e, if_pos hp, if_pos ec, if_neg hl0]
          have eW : v_kReset κ s i c = 1 := by simp only [v_kReset, if_pos e, if_pos hp, if_pos ec, if_neg hl0]
          rw [eS, eV, eK, eW]
          refine ⟨by rw [s_doReset_fr (by decide), u2_s]; rfl, fun _ => ⟨rfl, Rel_giveUp (hV.u (by decide)) (Rel_u0 hV hR) h1 h2 hp.1 hp.2.1 hp.2.2, Inv_giveUp hI h1 h2 hp.1 hp.2.1 hp.2.2 hl⟩, fun z => absurd rfl z⟩
        · have hq2 : ¬ (((0 ≤ i ∧ i < 256 ∧ μ 17 (mj s i) = 1) ∧ (i / 2 % 2 = 0 ∨ i % 2 = s)) ∧ κ 200 (mj s i) < 2) := fun z => by omega
          have eS : s_reset μ s i c = u2 μ 0 0 0 := by simp only [s_reset, if_neg hns, u17, mSend_u0, hsd, if_neg hq2, if_neg hc1, if_pos c2]
          have eV : v_reset μ s i c = 0 := by simp only [v_reset, if_neg hns, u17, mSend_u0, hsd, if_neg hq2, if_neg hc1, if_pos c2]
          have eK : s_kReset κ s i c = κ := by simp only [s_kReset, if_pos e, if_pos hp, if_pos ec, if_pos el]
          have eW : v_kReset κ s i c = 0 := by simp only [v_kReset, if_pos e, if_pos hp, if_pos ec, if_pos el]
          rw [eS, eV, eK, eW]
          exact ⟨by rw [u2_s]; rfl, fun _ => ⟨rfl, R_same hV hR hI⟩, fun z => absurd rfl z⟩
      · have hq : ¬ (((0 ≤ i ∧ i < 256 ∧ μ 17 (mj s i) = 1) ∧ (i / 2 % 2 = 0 ∨ i % 2 = s)) ∧ mSend μ s i < 2) := fun z => hp ((hasA hR i h1 h2).mpr z.1)
        have eS : s_reset μ s i c = u2 μ 0 0 0 := by simp only [s_reset, if_neg hns, u17, mSend_u0, if_neg hq, if_neg hc1, if_pos c2]
        have eV : v_reset μ s i c = 0 := by simp only [v_reset, if_neg hns, u17, mSend_u0, if_neg hq, if_neg hc1, if_pos c2]
        have eK : s_kReset κ s i c = κ := by simp only [s_kReset, if_pos e, if_neg hp, if_pos ec]
        have eW : v_kReset κ s i c = 0 := by simp only [v_kReset, if_pos e, if_neg hp, if_pos ec]
        rw [eS, eV, eK, eW]
        exact ⟨by rw [u2_s]; rfl, fun _ => ⟨rfl, R_same hV hR hI⟩, fun z => absurd rfl z⟩
    · have hn : ¬ e_needCode κ c = 0 := by omega
      have eE : e_kReset κ s i c = 1 := by
        unfold e_kReset
        rw [if_pos e, if_neg hn, ec]
        split <;> rfl
      have eS : s_reset μ s i c = u2 μ 0 0 1 := by
        unfold s_reset
        rw [if_neg hns]
        by_cases a : c < 0
        · rw [if_pos a]
        · rw [if_neg a, if_neg (by omega)]
      rw [eS, eE]
      exact ⟨by rw [u2_s]; rfl, fun z => absurd z (by decide), fun _ => Rel_u0 hV hR⟩
  · have hn : ¬ e_sideAt κ s = 0 := by omega
    have eS : s_reset μ s i c = u2 μ 0 0 1 := by
      unfold s_reset
      rw [if_pos h]
    have eE : e_kReset κ s i c = 1 := by
      unfold e_kReset
      rw [if_neg hn, e]
    rw [eS, eE]
    exact ⟨by rw [u2_s]; rfl, fun z => absurd z (by decide), fun _ => Rel_u0 hV hR⟩
theorem R_stop (hV : mV μ) (hK : kV κ) (hR : kRel κ μ O) (hI : kInv κ) (s i c : Int) : s_stop μ s i c 0 0 = kR 1 (e_kStop κ s i c) ∧ (e_kStop κ s i c = 0 → v_stop μ s i c = v_kStop κ s i c ∧ kRel (s_kStop κ s i c) (s_stop μ s i c) O ∧ kInv (s_kStop κ s i c)) ∧ (¬ e_kStop κ s i c = 0 → kRel κ (s_stop μ s i c) O) := by
  rcases sideAt_c (κ := κ) s with ⟨e, h1, h2⟩ | ⟨e, h⟩
  · have hns : ¬ (s < 0 ∨ 1 < s) := by omega
    rcases needCode_c (κ := κ) c with ⟨ec, c1, c2⟩ | ⟨ec, c1⟩
    · have eE : e_kStop κ s i c = 0 := by
        unfold e_kStop
        rw [if_pos e, if_pos ec]
        split
        · split
          · rfl
          · split <;> rfl
        · rfl
      have hc1 : ¬ c < 0 := by omega
      rw [eE]
      by_cases hp : 0 ≤ i ∧ i < 256 ∧ κ 190 (mj s i) = 1
      · have hq := (hasB hR i h1 h2).mp hp
        have hB := hR.B h1 h2 hp.1 hp.2.1
        have hrv := rB_recv hV h1 hB hp.2.2
        have k0 : 0 ≤ κ 100 (mj s i) := (hK.1 100 (mj s i)).1
        obtain ⟨b1, b2', b3⟩ := hB.2.1 hp.2.2
        rcases rLive_c κ s i with ⟨el, hl⟩ | ⟨el, hl⟩
        · have hl0 : ¬ v_rLive κ s i = 0 := by omega
          have hl1 : ¬ 1 < κ 100 (mj s i) := by omega
          have e32 : κ 109 (mj s i) = μ 32 (mj s i) := b1.2.2.2.2.2.2.1
          by_cases hz : μ 32 (mj s i) = 0
          · have hz' : κ 109 (mj s i) = 0 := by omega
            have eS : s_stop μ s i c = (u2 (u2 (u2 (u2 μ 0 0 0) 32 (mj s i) 1) 33 (mj s i) 1) 34 (mj s i) c) := by simp only [s_stop, if_neg hns, u17, hrv, if_pos hq, if_neg hl1, if_pos hz, if_neg hc1, if_pos c2]
            have eV : v_stop μ s i c = 1 := by simp only [v_stop, if_neg hns, u17, hrv, if_pos hq, if_neg hl1, if_pos hz, if_neg hc1, if_pos c2]
            have eK : s_kStop κ s i c = (u2 (u2 (u2 κ 109 (mj s i) 1) 110 (mj s i) 1) 111 (mj s i) c) := by simp only [s_kStop, if_pos e, if_pos hp, if_pos ec, if_neg hl0, if_pos hz']
            have eW : v_kStop κ s i c = 1 := by simp only [v_kStop, if_pos e, if_pos hp, if_pos ec, if_neg hl0, if_pos hz']
            rw [eS, eV, eK, eW]
            refine ⟨by rw [u2_f (by decide), u2_f (by decide), u2_f (by decide), u2_s]; rfl, fun _ => ⟨rfl, ?_, ?_⟩, fun z => absurd rfl z⟩
            · refine Rel_B hV hR h1 h2 hp.1 hp.2.1 (fun f k z => by rw [u2_n (by omega), u2_n (by omega), u2_n (by omega)]) (fun f k z y => by rw [u2_n (by omega), u2_n (by omega), u2_n (by omega), u2_n (by omega)]) ?_
              refine rB_f hB hp.2.2 (fun f a => by rw [u2_n (by omega), u2_n (by omega), u2_n (by omega)]) (fun f k a => by rw [u2_n (by omega), u2_n (by omega), u2_n (by omega)]) (fun f a => by rw [u2_n (by omega), u2_n (by omega), u2_n (by omega), u2_n (by omega)]) (by rw [mX_u (by decide), mX_u (by decide), mX_u (by decide), mX_u (by decide)]) ?_
              unfold rB1 at b1 ⊢
              simp (disch := omega) only [u2_n, u2_s]
              obtain ⟨t1, t2, t3, t4, t5, t6, t7, t8, t9, t10, t11, t12⟩ := b1
              exact ⟨t1, t2, t3, t4, t5, t6, trivial, trivial, trivial, t10, t11, t12⟩
            · refine Inv_st hI h1 h2 hp.1 hp.2.1 (fun f k z y => by rw [u2_n (by omega), u2_n (by omega), u2_n (by omega)]) (fun f k z => by rw [u2_n (by omega), u2_n (by omega), u2_n (by omega)]) (fun f k z y => by rw [u2_n (by omega), u2_n (by omega), u2_n (by omega)]) (fun k z => by rw [u2_n (by omega), u2_n (by omega), u2_n (by omega)]) (iD_cg (fun f z => by rw [u2_n (by omega), u2_n (by omega), u2_n (by omega)]) (by rw [u2_n (by omega), u2_n (by omega), u2_n (by omega)]) (hI s h1 h2).1) (iG_cg (fun f z => by rw [u2_n (by omega), u2_n (by omega), u2_n (by omega)]) ((hI s h1 h2).2 i hp.1 hp.2.1).1) (iO_cg (fun f z => by rw [u2_n (by omega), u2_n (by omega), u2_n (by omega)]) ((hI s h1 h2).2 i hp.1 hp.2.1).2)
          · have hz' : ¬ κ 109 (mj s i) = 0 := by omega
            have eS : s_stop μ s i c = u2 μ 0 0 0 := by simp only [s_stop, if_neg hns, u17, hrv, if_pos hq, if_neg hl1, if_neg hz, if_neg hc1, if_pos c2]
            have eV : v_stop μ s i c = 0 := by simp only [v_stop, if_neg hns, u17, hrv, if_pos hq, if_neg hl1, if_neg hz, if_neg hc1, if_pos c2]
            have eK : s_kStop κ s i c = κ := by simp only [s_kStop, if_pos e, if_pos hp, if_pos ec, if_neg hl0, if_neg hz']
            have eW : v_kStop κ s i c = 0 := by simp only [v_kStop, if_pos e, if_pos hp, if_pos ec, if_neg hl0, if_neg hz']
            rw [eS, eV, eK, eW]
            exact ⟨by rw [u2_s]; rfl, fun _ => ⟨rfl, R_same hV hR hI⟩, fun z => absurd rfl z⟩
        · have hl1 : 1 < κ 100 (mj s i) := by omega
          have eS : s_stop μ s i c = u2 μ 0 0 0 := by simp only [s_stop, if_neg hns, u17, hrv, if_pos hq, if_pos hl1, if_neg hc1, if_pos c2]
          have eV : v_stop μ s i c = 0 := by simp only [v_stop, if_neg hns, u17, hrv, if_pos hq, if_pos hl1, if_neg hc1, if_pos c2]
          have eK : s_kStop κ s i c = κ := by simp only [s_kStop, if_pos e, if_pos hp, if_pos ec, if_pos el]
          have eW : v_kStop κ s i c = 0 := by simp only [v_kStop, if_pos e, if_pos hp, if_pos ec, if_pos el]
          rw [eS, eV, eK, eW]
          exact ⟨by rw [u2_s]; rfl, fun _ => ⟨rfl, R_same hV hR hI⟩, fun z => absurd rfl z⟩
      · have hq : ¬ ((0 ≤ i ∧ i < 256 ∧ μ 17 (mj s i) = 1) ∧ (i / 2 % 2 = 0 ∨ ¬ i % 2 = s)) := fun z => hp ((hasB hR i h1 h2).mpr z)
        have eS : s_stop μ s i c = u2 μ 0 0 0 := by simp only [s_stop, if_neg hns, u17, if_neg hq, if_neg hc1, if_pos c2]
        have eV : v_stop μ s i c = 0 := by simp only [v_stop, if_neg hns, u17, if_neg hq, if_neg hc1, if_pos c2]
        have eK : s_kStop κ s i c = κ := by simp only [s_kStop, if_pos e, if_neg hp, if_pos ec]
        have eW : v_kStop κ s i c = 0 := by simp only [v_kStop, if_pos e, if_neg hp, if_pos ec]
        rw [eS, eV, eK, eW]
        exact ⟨by rw [u2_s]; rfl, fun _ => ⟨rfl, R_same hV hR hI⟩, fun z => absurd rfl z⟩
    · have hn : ¬ e_needCode κ c = 0 := by omega
      have eE : e_kStop κ s i c = 1 := by
        unfold e_kStop
        rw [if_pos e, if_neg hn, ec]
        split <;> rfl
      have eS : s_stop μ s i c = u2 μ 0 0 1 := by
        unfold s_stop
        rw [if_neg hns]
        by_cases a : c < 0
        · rw [if_pos a]
        · rw [if_neg a, if_neg (by omega)]
      rw [eS, eE]
      exact ⟨by rw [u2_s]; rfl, fun z => absurd z (by decide), fun _ => Rel_u0 hV hR⟩
  · have hn : ¬ e_sideAt κ s = 0 := by omega
    have eS : s_stop μ s i c = u2 μ 0 0 1 := by
      unfold s_stop
      rw [if_pos h]
    have eE : e_kStop κ s i c = 1 := by
      unfold e_kStop
      rw [if_neg hn, e]
    rw [eS, eE]
    exact ⟨by rw [u2_s]; rfl, fun z => absurd z (by decide), fun _ => Rel_u0 hV hR⟩
end R8
