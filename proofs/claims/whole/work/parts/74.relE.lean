section R6
variable {κ μ κ' μ' : Nat → Nat → Int} {O O' : Nat → Nat}
theorem mAll_cgr {t : Int} : ∀ n : Nat, (∀ q : Nat, q < n → μ' 39 ((65536 * t).toNat + q) = μ 39 ((65536 * t).toNat + q)) → mAll μ' t n = mAll μ t n
  | 0, _ => rfl
  | n + 1, h => by rw [mAll, mAll, mAll_cgr n (fun q hq => h q (by omega)), h n (by omega)]
/-- what may change of the class's cells when one stream of one side is at work -/
def kCh (κ : Nat → Nat → Int) (O : Nat → Nat) (s i : Int) (f k : Nat) : Prop :=
  (((100 ≤ f ∧ f ≤ 113) ∨ (200 ≤ f ∧ f ≤ 211)) ∧ k = mj s i) ∨ (1000 ≤ f ∧ (O (f - 1000) = 4 * mj s i + 2 ∨ O (f - 1000) = 4 * mj s i + 3 ∨ κ 602 0 ≤ ((f - 1000 : Nat) : Int))) ∨ (306 ≤ f ∧ f ≤ 315 ∧ k = s.toNat) ∨ (400 ≤ f ∧ f ≤ 405 ∧ (k = 2 * s.toNat ∨ k = 2 * s.toNat + 1)) ∨ (f = 360 ∧ (k = 16 * s.toNat + 8 ∨ k = 16 * s.toNat + 9)) ∨ f = 602 ∨ ((f = 600 ∨ f = 601) ∧ κ 602 0 ≤ (k : Int))
/-- and of the reference's -/
def mCh (μ : Nat → Nat → Int) (s i : Int) (f k : Nat) : Prop :=
  (f = 0 ∨ (40 ≤ f ∧ f ≤ 50)) ∨ (((18 ≤ f ∧ f ≤ 24) ∨ (25 ≤ f ∧ f ≤ 35)) ∧ k = mj s i) ∨ (f = 39 ∧ μ 37 k = i ∧ 65536 * s.toNat ≤ k ∧ k < 65536 * s.toNat + 65536) ∨ ((f = 11 ∨ f = 12 ∨ f = 16) ∧ k = s.toNat) ∨ ((f = 7 ∨ f = 14) ∧ 3 * s.toNat ≤ k ∧ k ≤ 3 * s.toNat + 2) ∨ ((f = 10 ∨ f = 13 ∨ f = 15) ∧ (k = 2 * s.toNat ∨ k = 2 * s.toNat + 1))
theorem mMk_ot (hV : mV μ) {s i t j : Int} (g1 : 0 ≤ t) (g2 : t ≤ 1) (h1 : 0 ≤ s) (h2 : s ≤ 1) (hne : ¬ (t = s ∧ j = i)) (h37 : ∀ k, μ' 37 k = μ 37 k) (h38 : ∀ k, μ' 38 k = μ 38 k) (h39 : ∀ k, ¬ (μ 37 k = i ∧ 65536 * s.toNat ≤ k ∧ k < 65536 * s.toNat + 65536) → μ' 39 k = μ 39 k) (o : Nat) (ho : (o : Int) < mW μ t j) : μ' 38 (v_placeOf μ' t j o).toNat = μ 38 (v_placeOf μ t j o).toNat ∧ mMk μ' t j o = mMk μ t j o := by
  have hp : v_placeOf μ' t j o = v_placeOf μ t j o := v_placeOf_cg (fun f hf k => by
    simp only [List.elem_eq_mem, decide_eq_true_eq, List.mem_cons, List.not_mem_nil, or_false] at hf
    rw [hf]; exact h37 k)
  have hN0 : 0 ≤ μ 36 t.toNat ∧ μ 36 t.toNat ≤ 65536 := hV 36 t.toNat
  obtain ⟨n, e1, e2, e3, e4⟩ := placeOf_r hV (i := j) g1 (show (0 : Int) ≤ (o : Int) by omega) ho
  refine ⟨by rw [hp, h38], ?_⟩
  unfold mMk
  rw [hp, e1, show (65536 * t + (n : Int)).toNat = (65536 * t).toNat + n by omega]
  refine h39 _ (fun z => ?_)
  rw [e3] at z
  omega
set_option maxHeartbeats 4000000 in
set_option maxRecDepth 20000 in
theorem Rel_st (hV : mV μ) (hR : kRel κ μ O) {s i : Int} (h1 : 0 ≤ s) (h2 : s ≤ 1) (h3 : 0 ≤ i) (h4 : i < 256)
    (hk : ∀ f k, ¬ kCh κ O s i f k → κ' f k = κ f k) (hm : ∀ f k, ¬ mCh μ s i f k → μ' f k = μ f k)
    (h602 : κ 602 0 ≤ κ' 602 0) (hO : ∀ r : Nat, (r : Int) < κ 602 0 → O' r = O r) (h306 : κ 306 s.toNat ≤ κ' 306 s.toNat)
    (h204 : κ 290 (mj s i) = 1 → κ 204 (mj s i) ≤ κ' 204 (mj s i)) (h19 : μ 19 (mj s i) = 1 → μ' 19 (mj s i) = 1)
    (hX : ∀ t j : Int, 0 ≤ t → t ≤ 1 → 0 ≤ j → j < 256 → ¬ (t = s ∧ j = i) → mX μ' t j = mX μ t j) (hZ : mHz μ')
    (hS : rS κ' μ' s) (hW : ∀ w : Int, 0 ≤ w → w ≤ 1 → rW κ' μ' s w) (hA : rA κ' μ' O' s i) (hB : rB κ' μ' O' s i) : kRel κ' μ' O' := by
  obtain ⟨rh, rs, rf, rz⟩ := hR
  have k2 : 2 ≤ κ 602 0 := rh.2.2.2.2.2.2.2
  have hsN : s.toNat = 0 ∨ s.toNat = 1 := by omega
  have O0 : O 0 = 0 := rh.2.2.2.2.2.1.2.2
  have O1 : O 1 = 0 := rh.2.2.2.2.2.2.1.2.2
  refine ⟨?_, ?_, ?_, hZ⟩
  · refine rH_cg (fun f a b => hk f 0 ?_) (fun f r a b => hk f r ?_) (fun r a => hO r (by omega)) h602 (fun r o a => hk _ o ?_) (fun f k a b => hm f k ?_) rh
    · unfold kCh; omega
    · unfold kCh; omega
    · have e : 1000 + r - 1000 = r := by omega
      have : O r = 0 := by rcases (show r = 0 ∨ r = 1 by omega) with z | z <;> rw [z] <;> assumption
      unfold kCh
      rw [e, this]
      omega
    · unfold mCh; omega
  · intro t g1 g2
    obtain ⟨q1, q2, q3⟩ := rs t g1 g2
    by_cases ets : t = s
    · subst ets
      refine ⟨hS, hW, fun j g3 g4 => ?_⟩
      obtain ⟨c1, c2, c3⟩ := q3 j g3 g4
      by_cases eji : j = i
      · subst eji
        exact ⟨rT_cg h306 (hm _ _ (by unfold mCh; omega)) (hm _ _ (by unfold mCh; omega)) (hm _ _ (by unfold mCh; omega)) c1, hA, hB⟩
      · have hne := mj_ne h1 h3 h4 g1 g3 g4 (fun z => eji z.2)
        have hw : mW μ' t j = mW μ t j := mW_cg (fun f hf k => hm f k (by
          simp only [List.elem_eq_mem, decide_eq_true_eq, List.mem_cons, List.not_mem_nil, or_false] at hf
          unfold mCh; omega)) t j
        refine ⟨rT_cg h306 (hm _ _ (by unfold mCh; omega)) (hm _ _ (by unfold mCh; omega)) (hm _ _ (by unfold mCh; omega)) c1, ?_, ?_⟩
        · refine rA_cg (fun f a => hk _ _ (by unfold kCh; omega)) (fun r a b c => ⟨hk _ _ (by unfold kCh; omega), hk _ _ (by unfold kCh; omega), hO r b, fun o => hk _ _ ?_⟩) h602 (fun f a b => hm _ _ (by unfold mCh; omega)) hw (fun o ho => mMk_ot (s := t) (i := i) hV g1 g2 h1 h2 (fun z => eji z.2) (fun k => hm _ _ (by unfold mCh; omega)) (fun k => hm _ _ (by unfold mCh; omega)) (fun k z => hm _ _ (by unfold mCh; omega)) o ho) c2
          rw [show kCh κ O t i (1000 + r) o = _ from rfl]
          unfold kCh
          rw [show 1000 + r - 1000 = r by omega]
          omega
        · refine rB_cg (fun f a => hk _ _ (by unfold kCh; omega)) (fun r a b c => ⟨hk _ _ (by unfold kCh; omega), hk _ _ (by unfold kCh; omega), hO r b, fun o => hk _ _ ?_⟩) h602 (fun f a => hm _ _ (by unfold mCh; omega)) (fun _ => hm _ _ (by unfold mCh; omega)) (hX t j g1 g2 g3 g4 (fun z => eji z.2)) c3
          unfold kCh
          rw [show 1000 + r - 1000 = r by omega]
          omega
    · refine ⟨?_, fun w w0 w1 => ?_, fun j g3 g4 => ?_⟩
      · have e36 : ∀ k, μ' 36 k = μ 36 k := fun k => hm _ _ (by unfold mCh; omega)
        have hN0 : 0 ≤ μ 36 t.toNat ∧ μ 36 t.toNat ≤ 65536 := hV 36 t.toNat
        refine rS_cg g1 g2 (fun f a b => hk _ _ (by unfold kCh; omega)) (fun f k a b c => hk _ _ (by unfold kCh; omega)) (fun f a => hm _ _ (by unfold mCh; omega)) (hm _ _ (by unfold mCh; omega)) (hm _ _ (by unfold mCh; omega)) (hm _ _ (by unfold mCh; omega)) (fun k => hm _ _ (by unfold mCh; omega)) (fun j _ _ => hm _ _ (by unfold mCh; omega)) ?_ ?_ ?_ q1
        · rw [mTot_cg e36]
          refine mAll_cgr _ (fun q hq => hm _ _ ?_)
          unfold mTot at hq
          unfold mCh
          omega
        · exact received_ot g1 h1 h3 h4 ets (fun k z => hm _ _ (by unfold mCh; omega))
        · exact consumed_ot g1 h1 h3 h4 ets (fun f k a z => hm _ _ (by unfold mCh; omega))
      · exact rW_cg g1 g2 w0 w1 (fun f a b => hk _ _ (by unfold kCh; omega)) (hk _ _ (by unfold kCh; omega)) (fun f a => hm _ _ (by unfold mCh; omega)) (hm _ _ (by unfold mCh; omega)) (hm _ _ (by unfold mCh; omega)) (hm _ _ (by unfold mCh; omega)) (hm _ _ (by unfold mCh; omega)) (q2 w w0 w1)
      · obtain ⟨c1, c2, c3⟩ := q3 j g3 g4
        have hne := mj_ne h1 h3 h4 g1 g3 g4 (fun z => ets z.1)
        have hw : mW μ' t j = mW μ t j := mW_cg (fun f hf k => hm f k (by
          simp only [List.elem_eq_mem, decide_eq_true_eq, List.mem_cons, List.not_mem_nil, or_false] at hf
          unfold mCh; omega)) t j
        have e306 : κ' 306 t.toNat = κ 306 t.toNat := hk _ _ (by unfold kCh; omega)
        refine ⟨rT_cg (by omega) (hm _ _ (by unfold mCh; omega)) (hm _ _ (by unfold mCh; omega)) (hm _ _ (by unfold mCh; omega)) c1, ?_, ?_⟩
        · refine rA_cg (fun f a => hk _ _ (by unfold kCh; omega)) (fun r a b c => ⟨hk _ _ (by unfold kCh; omega), hk _ _ (by unfold kCh; omega), hO r b, fun o => hk _ _ ?_⟩) h602 (fun f a b => hm _ _ (by unfold mCh; omega)) hw (fun o ho => mMk_ot (s := s) (i := i) hV g1 g2 h1 h2 (fun z => ets z.1) (fun k => hm _ _ (by unfold mCh; omega)) (fun k => hm _ _ (by unfold mCh; omega)) (fun k z => hm _ _ (by unfold mCh; omega)) o ho) c2
          unfold kCh
          rw [show 1000 + r - 1000 = r by omega]
          omega
        · refine rB_cg (fun f a => hk _ _ (by unfold kCh; omega)) (fun r a b c => ⟨hk _ _ (by unfold kCh; omega), hk _ _ (by unfold kCh; omega), hO r b, fun o => hk _ _ ?_⟩) h602 (fun f a => hm _ _ (by unfold mCh; omega)) (fun _ => hm _ _ (by unfold mCh; omega)) (hX t j g1 g2 g3 g4 (fun z => ets z.1)) c3
          unfold kCh
          rw [show 1000 + r - 1000 = r by omega]
          omega
  · intro p hp
    refine rF_cg (fun f a => hk _ _ (by unfold kCh; omega)) (fun f a b => hm _ _ (by unfold mCh; omega)) (fun j a => hm _ _ (by unfold mCh; omega)) hV (fun k a => by rw [hk _ _ (by unfold kCh; omega)]; exact a) (fun k a => ?_) h602 (fun r a b c d => ⟨hk _ _ (by unfold kCh; omega), hk _ _ (by unfold kCh; omega), hO r b⟩) (fun a b j c => hk _ _ ?_) (rf p hp)
    · refine ⟨by rw [hk _ _ (by unfold kCh; omega)]; exact a, ?_, fun z => ?_⟩
      · by_cases e : k = mj s i
        · rw [e]; exact h204 (by rw [← e]; exact a)
        · rw [hk _ _ (by unfold kCh; omega)]; exact Int.le_refl _
      · by_cases e : k = mj s i
        · rw [e]; exact h19 (by rw [← e]; exact z)
        · rw [hm _ _ (by unfold mCh; omega)]; exact z
    · obtain ⟨_, _, _, b4⟩ := (rf p hp).2 a
      obtain ⟨q1, q2, q3, q4, q5, q6, q7, q8, q9, q10, q11⟩ := b4 b
      unfold kCh
      rw [show 1000 + (κ 7 p).toNat - 1000 = (κ 7 p).toNat by omega, q9]
      omega
theorem Rel_A (hV : mV μ) (hR : kRel κ μ O) {s i : Int} (h1 : 0 ≤ s) (h2 : s ≤ 1) (h3 : 0 ≤ i) (h4 : i < 256)
    (hk : ∀ f k, ¬ (200 ≤ f ∧ f ≤ 211 ∧ k = mj s i) → κ' f k = κ f k) (hm : ∀ f k, ¬ (f = 0 ∨ (45 ≤ f ∧ f ≤ 50)) → ¬ (18 ≤ f ∧ f ≤ 24 ∧ k = mj s i) → μ' f k = μ f k)
    (h204 : κ 204 (mj s i) ≤ κ' 204 (mj s i)) (h19 : μ 19 (mj s i) = 1 → μ' 19 (mj s i) = 1) (hA : rA κ' μ' O s i) : kRel κ' μ' O := by
  have e602 : κ' 602 0 = κ 602 0 := hk _ _ (by omega)
  have hX : ∀ t j : Int, mX μ' t j = mX μ t j := fun t j => mX_cg (fun f hf k => hm f k (by simp only [List.elem_eq_mem, decide_eq_true_eq, List.mem_cons, List.not_mem_nil, or_false] at hf; omega) (by simp only [List.elem_eq_mem, decide_eq_true_eq, List.mem_cons, List.not_mem_nil, or_false] at hf; omega))
  obtain ⟨q1, q2, q3⟩ := hR.2.1 s h1 h2
  obtain ⟨c1, c2, c3⟩ := q3 i h3 h4
  refine Rel_st hV hR h1 h2 h3 h4 (fun f k z => hk f k (by unfold kCh at z; omega)) (fun f k z => hm f k (by unfold mCh at z; omega) (by unfold mCh at z; omega)) (by omega) (fun _ _ => rfl) (by rw [hk _ _ (by omega)]; exact Int.le_refl _) (fun _ => h204) h19 (fun t j _ _ _ _ _ => hX t j) (mHz_cg (fun f k a => hm f k (by omega) (by omega)) hR.2.2.2) ?_ ?_ hA ?_
  · exact rS_cg h1 h2 (fun f a b => hk _ _ (by omega)) (fun f k a b c => hk _ _ (by omega)) (fun f a => hm _ _ (by omega) (by omega)) (hm _ _ (by omega) (by omega)) (hm _ _ (by omega) (by omega)) (hm _ _ (by omega) (by omega)) (fun k => hm _ _ (by omega) (by omega)) (fun j _ _ => hm _ _ (by omega) (by omega)) (by rw [mTot_cg (fun k => hm 36 k (by omega) (by omega))]; exact mAll_cgr _ (fun q hq => hm _ _ (by omega) (by omega))) (v_received_cg (fun f hf k => hm f k (by simp only [List.elem_eq_mem, decide_eq_true_eq, List.mem_cons, List.not_mem_nil, or_false] at hf; omega) (by simp only [List.elem_eq_mem, decide_eq_true_eq, List.mem_cons, List.not_mem_nil, or_false] at hf; omega))) (v_consumed_cg (fun f hf k => hm f k (by simp only [List.elem_eq_mem, decide_eq_true_eq, List.mem_cons, List.not_mem_nil, or_false] at hf; omega) (by simp only [List.elem_eq_mem, decide_eq_true_eq, List.mem_cons, List.not_mem_nil, or_false] at hf; omega))) q1
  · exact fun w w0 w1 => rW_cg h1 h2 w0 w1 (fun f a b => hk _ _ (by omega)) (hk _ _ (by omega)) (fun f a => hm _ _ (by omega) (by omega)) (hm _ _ (by omega) (by omega)) (hm _ _ (by omega) (by omega)) (hm _ _ (by omega) (by omega)) (hm _ _ (by omega) (by omega)) (q2 w w0 w1)
  · exact rB_cg (fun f a => hk _ _ (by omega)) (fun r a b c => ⟨hk _ _ (by omega), hk _ _ (by omega), rfl, fun o => hk _ _ (by omega)⟩) (by omega) (fun f a => hm _ _ (by omega) (by omega)) (fun _ => hm _ _ (by omega) (by omega)) (hX s i) c3
theorem Rel_B (hV : mV μ) (hR : kRel κ μ O) {s i : Int} (h1 : 0 ≤ s) (h2 : s ≤ 1) (h3 : 0 ≤ i) (h4 : i < 256)
    (hk : ∀ f k, ¬ (100 ≤ f ∧ f ≤ 113 ∧ k = mj s i) → κ' f k = κ f k) (hm : ∀ f k, ¬ (f = 0 ∨ (45 ≤ f ∧ f ≤ 50)) → ¬ (29 ≤ f ∧ f ≤ 35 ∧ k = mj s i) → μ' f k = μ f k)
    (hB : rB κ' μ' O s i) : kRel κ' μ' O := by
  have e602 : κ' 602 0 = κ 602 0 := hk _ _ (by omega)
  have hX : ∀ t j : Int, mX μ' t j = mX μ t j := fun t j => mX_cg (fun f hf k => hm f k (by simp only [List.elem_eq_mem, decide_eq_true_eq, List.mem_cons, List.not_mem_nil, or_false] at hf; omega) (by simp only [List.elem_eq_mem, decide_eq_true_eq, List.mem_cons, List.not_mem_nil, or_false] at hf; omega))
  obtain ⟨q1, q2, q3⟩ := hR.2.1 s h1 h2
  obtain ⟨c1, c2, c3⟩ := q3 i h3 h4
  have hAm := rA_m (μ := μ) (μ' := μ') (s := s) (i := i) (fun f a b k => hm f k (by omega) (by omega))
  refine Rel_st hV hR h1 h2 h3 h4 (fun f k z => hk f k (by unfold kCh at z; omega)) (fun f k z => hm f k (by unfold mCh at z; omega) (by unfold mCh at z; omega)) (by omega) (fun _ _ => rfl) (by rw [hk _ _ (by omega)]; exact Int.le_refl _) (fun _ => by rw [hk _ _ (by omega)]; exact Int.le_refl _) (fun z => by rw [hm _ _ (by omega) (by omega)]; exact z) (fun t j _ _ _ _ _ => hX t j) (mHz_cg (fun f k a => hm f k (by omega) (by omega)) hR.2.2.2) ?_ ?_ ?_ hB
  · exact rS_cg h1 h2 (fun f a b => hk _ _ (by omega)) (fun f k a b c => hk _ _ (by omega)) (fun f a => hm _ _ (by omega) (by omega)) (hm _ _ (by omega) (by omega)) (hm _ _ (by omega) (by omega)) (hm _ _ (by omega) (by omega)) (fun k => hm _ _ (by omega) (by omega)) (fun j _ _ => hm _ _ (by omega) (by omega)) (by rw [mTot_cg (fun k => hm 36 k (by omega) (by omega))]; exact mAll_cgr _ (fun q hq => hm _ _ (by omega) (by omega))) (v_received_cg (fun f hf k => hm f k (by simp only [List.elem_eq_mem, decide_eq_true_eq, List.mem_cons, List.not_mem_nil, or_false] at hf; omega) (by simp only [List.elem_eq_mem, decide_eq_true_eq, List.mem_cons, List.not_mem_nil, or_false] at hf; omega))) (v_consumed_cg (fun f hf k => hm f k (by simp only [List.elem_eq_mem, decide_eq_true_eq, List.mem_cons, List.not_mem_nil, or_false] at hf; omega) (by simp only [List.elem_eq_mem, decide_eq_true_eq, List.mem_cons, List.not_mem_nil, or_false] at hf; omega))) q1
  · exact fun w w0 w1 => rW_cg h1 h2 w0 w1 (fun f a b => hk _ _ (by omega)) (hk _ _ (by omega)) (fun f a => hm _ _ (by omega) (by omega)) (hm _ _ (by omega) (by omega)) (hm _ _ (by omega) (by omega)) (hm _ _ (by omega) (by omega)) (hm _ _ (by omega) (by omega)) (q2 w w0 w1)
  · exact rA_cg (fun f a => hk _ _ (by omega)) (fun r a b c => ⟨hk _ _ (by omega), hk _ _ (by omega), rfl, fun o => hk _ _ (by omega)⟩) (by omega) (fun f a b => hm _ _ (by omega) (by omega)) hAm.1 hAm.2 c2
/-- a side's and its ways' numbers -/
theorem Rel_S (hV : mV μ) (hR : kRel κ μ O) {s : Int} (h1 : 0 ≤ s) (h2 : s ≤ 1)
    (hk : ∀ f k, ¬ (306 ≤ f ∧ f ≤ 315 ∧ k = s.toNat) → ¬ (400 ≤ f ∧ f ≤ 405 ∧ (k = 2 * s.toNat ∨ k = 2 * s.toNat + 1)) → ¬ (f = 360 ∧ (k = 16 * s.toNat + 8 ∨ k = 16 * s.toNat + 9)) → κ' f k = κ f k)
    (hm : ∀ f k, ¬ (f = 0 ∨ (45 ≤ f ∧ f ≤ 50)) → ¬ ((f = 11 ∨ f = 12 ∨ f = 16) ∧ k = s.toNat) → ¬ ((f = 7 ∨ f = 14) ∧ 3 * s.toNat ≤ k ∧ k ≤ 3 * s.toNat + 2) → ¬ ((f = 10 ∨ f = 13 ∨ f = 15) ∧ (k = 2 * s.toNat ∨ k = 2 * s.toNat + 1)) → μ' f k = μ f k)
    (h306 : κ 306 s.toNat ≤ κ' 306 s.toNat) (hS : rS κ' μ' s) (hW : ∀ w : Int, 0 ≤ w → w ≤ 1 → rW κ' μ' s w) : kRel κ' μ' O := by
  have e602 : κ' 602 0 = κ 602 0 := hk _ _ (by omega) (by omega) (by omega)
  have hX : ∀ t j : Int, mX μ' t j = mX μ t j := fun t j => mX_cg (fun f hf k => by
    simp only [List.elem_eq_mem, decide_eq_true_eq, List.mem_cons, List.not_mem_nil, or_false] at hf
    exact hm f k (by omega) (by omega) (by omega) (by omega))
  obtain ⟨q1, q2, q3⟩ := hR.2.1 s h1 h2
  obtain ⟨c1, c2, c3⟩ := q3 0 (by omega) (by omega)
  have hAm := rA_m (μ := μ) (μ' := μ') (s := s) (i := 0) (fun f a b k => hm f k (by omega) (by omega) (by omega) (by omega))
  refine Rel_st (i := 0) hV hR h1 h2 (by omega) (by omega) (fun f k z => hk f k (by unfold kCh at z; omega) (by unfold kCh at z; omega) (by unfold kCh at z; omega)) (fun f k z => hm f k (by unfold mCh at z; omega) (by unfold mCh at z; omega) (by unfold mCh at z; omega) (by unfold mCh at z; omega)) (by omega) (fun _ _ => rfl) h306 (fun _ => by rw [hk _ _ (by omega) (by omega) (by omega)]; exact Int.le_refl _) (fun z => by rw [hm _ _ (by omega) (by omega) (by omega) (by omega)]; exact z) (fun t j _ _ _ _ _ => hX t j) (mHz_cg (fun f k a => hm f k (by omega) (by omega) (by omega) (by omega)) hR.2.2.2) hS hW ?_ ?_
  · exact rA_cg (fun f a => hk _ _ (by omega) (by omega) (by omega)) (fun r a b c => ⟨hk _ _ (by omega) (by omega) (by omega), hk _ _ (by omega) (by omega) (by omega), rfl, fun o => hk _ _ (by omega) (by omega) (by omega)⟩) (by omega) (fun f a b => hm _ _ (by omega) (by omega) (by omega) (by omega)) hAm.1 hAm.2 c2
  · exact rB_cg (fun f a => hk _ _ (by omega) (by omega) (by omega)) (fun r a b c => ⟨hk _ _ (by omega) (by omega) (by omega), hk _ _ (by omega) (by omega) (by omega), rfl, fun o => hk _ _ (by omega) (by omega) (by omega)⟩) (by omega) (fun f a => hm _ _ (by omega) (by omega) (by omega) (by omega)) (fun _ => hm _ _ (by omega) (by omega) (by omega) (by omega)) (hX s 0) c3
/-- the reference's own workplace -/
theorem Rel_0 (hV : mV μ) (hR : kRel κ μ O) (hm : ∀ f k, ¬ (f = 0 ∨ (45 ≤ f ∧ f ≤ 50)) → μ' f k = μ f k) : kRel κ μ' O := by
  obtain ⟨q1, q2, q3⟩ := hR.2.1 0 (by omega) (by omega)
  refine Rel_A (s := 0) (i := 0) hV hR (by omega) (by omega) (by omega) (by omega) (fun _ _ _ => rfl) (fun f k a _ => hm f k a) (Int.le_refl _) (fun z => by rw [hm _ _ (by omega)]; exact z) ?_
  have hAm := rA_m (μ := μ) (μ' := μ') (s := 0) (i := 0) (fun f a b k => hm f k (by omega))
  exact rA_cg (fun _ _ => rfl) (fun r a b c => ⟨rfl, rfl, rfl, fun o => rfl⟩) (Int.le_refl _) (fun f a b => hm _ _ (by omega)) hAm.1 hAm.2 (q3 0 (by omega) (by omega)).2.1
/-- frames -/
theorem Rel_F (hV : mV μ) (hR : kRel κ μ O) (P : Nat → Prop) (hk : ∀ f k, ¬ (f ≤ 10 ∧ (P k ∨ 64 ≤ k)) → κ' f k = κ f k) (hm : ∀ f k, ¬ (f = 0 ∨ (45 ≤ f ∧ f ≤ 50)) → ¬ (51 ≤ f ∧ f ≤ 59 ∧ P k) → ¬ (f = 60 ∧ P (k / 1200)) → μ' f k = μ f k)
    (hF : ∀ p, p < 64 → P p → rF κ' μ' O p) : kRel κ' μ' O := by
  have e602 : κ' 602 0 = κ 602 0 := hk _ _ (by omega)
  have hX : ∀ t j : Int, mX μ' t j = mX μ t j := fun t j => mX_cg (fun f hf k => by
    simp only [List.elem_eq_mem, decide_eq_true_eq, List.mem_cons, List.not_mem_nil, or_false] at hf
    exact hm f k (by omega) (by omega) (by omega))
  refine ⟨?_, ?_, ?_, mHz_cg (fun f k a => hm f k (by omega) (by omega) (by omega)) hR.2.2.2⟩
  · exact rH_cg (fun f a b => hk f 0 (by omega)) (fun f r a b => hk f r (by omega)) (fun r a => rfl) (by omega) (fun r o a => hk _ o (by omega)) (fun f k a b => hm f k (by omega) (by omega) (by omega)) hR.1
  · intro s h1 h2
    obtain ⟨q1, q2, q3⟩ := hR.2.1 s h1 h2
    refine ⟨?_, ?_, fun i h3 h4 => ?_⟩
    · exact rS_cg h1 h2 (fun f a b => hk _ _ (by omega)) (fun f k a b c => hk _ _ (by omega)) (fun f a => hm _ _ (by omega) (by omega) (by omega)) (hm _ _ (by omega) (by omega) (by omega)) (hm _ _ (by omega) (by omega) (by omega)) (hm _ _ (by omega) (by omega) (by omega)) (fun k => hm _ _ (by omega) (by omega) (by omega)) (fun j _ _ => hm _ _ (by omega) (by omega) (by omega)) (by rw [mTot_cg (fun k => hm 36 k (by omega) (by omega) (by omega))]; exact mAll_cgr _ (fun q hq => hm _ _ (by omega) (by omega) (by omega))) (v_received_cg (fun f hf k => by
        simp only [List.elem_eq_mem, decide_eq_true_eq, List.mem_cons, List.not_mem_nil, or_false] at hf
        exact hm f k (by omega) (by omega) (by omega))) (v_consumed_cg (fun f hf k => by
        simp only [List.elem_eq_mem, decide_eq_true_eq, List.mem_cons, List.not_mem_nil, or_false] at hf
        exact hm f k (by omega) (by omega) (by omega))) q1
    · exact fun w w0 w1 => rW_cg h1 h2 w0 w1 (fun f a b => hk _ _ (by omega)) (hk _ _ (by omega)) (fun f a => hm _ _ (by omega) (by omega) (by omega)) (hm _ _ (by omega) (by omega) (by omega)) (hm _ _ (by omega) (by omega) (by omega)) (hm _ _ (by omega) (by omega) (by omega)) (hm _ _ (by omega) (by omega) (by omega)) (q2 w w0 w1)
    · obtain ⟨c1, c2, c3⟩ := q3 i h3 h4
      have hAm := rA_m (μ := μ) (μ' := μ') (s := s) (i := i) (fun f a b k => hm f k (by omega) (by omega) (by omega))
      refine ⟨rT_cg (by rw [hk _ _ (by omega)]; exact Int.le_refl _) (hm _ _ (by omega) (by omega) (by omega)) (hm _ _ (by omega) (by omega) (by omega)) (hm _ _ (by omega) (by omega) (by omega)) c1, ?_, ?_⟩
      · exact rA_cg (fun f a => hk _ _ (by omega)) (fun r a b c => ⟨hk _ _ (by omega), hk _ _ (by omega), rfl, fun o => hk _ _ (by omega)⟩) (by omega) (fun f a b => hm _ _ (by omega) (by omega) (by omega)) hAm.1 hAm.2 c2
      · exact rB_cg (fun f a => hk _ _ (by omega)) (fun r a b c => ⟨hk _ _ (by omega), hk _ _ (by omega), rfl, fun o => hk _ _ (by omega)⟩) (by omega) (fun f a => hm _ _ (by omega) (by omega) (by omega)) (fun _ => hm _ _ (by omega) (by omega) (by omega)) (hX s i) c3
  · intro p hp
    by_cases e : P p
    · exact hF p hp e
    · refine rF_cg (fun f a => hk _ _ (fun z => ?_)) (fun f a b => hm _ _ (by omega) (fun z => e z.2.2) (by omega)) (fun j a => hm _ _ (by omega) (by omega) (fun z => e ?_)) hV (fun k a => by rw [hk _ _ (by omega)]; exact a) (fun k a => ⟨by rw [hk _ _ (by omega)]; exact a, by rw [hk _ _ (by omega)]; exact Int.le_refl _, fun z => by rw [hm _ _ (by omega) (by omega) (by omega)]; exact z⟩) (by omega) (fun r a b c d => ⟨hk _ _ (by omega), hk _ _ (by omega), rfl⟩) (fun a b j c => hk _ _ (by omega)) (hR.2.2.1 p hp)
      · exact z.2.elim e (fun y => by omega)
      · have := z.2
        rw [show (1200 * p + j) / 1200 = p by omega] at this
        exact this
end R6
