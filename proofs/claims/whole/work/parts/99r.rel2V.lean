section R49
variable {κ μ κ' μ' κ1 μ1 κc μc μb : Nat → Nat → Int} {O O' : Nat → Nat}
/-- the stream that was filled last -/
theorem last_s {s p i : Int} (h1 : 0 ≤ s) (h2 : s ≤ 1) (h3 : 0 ≤ i) (h4 : i < 256) (h : fS κ μ O p) (hD : fD κ μ O s p) (ht : i < κ 306 s.toNat) : fS (u2 κ 307 s.toNat i) (u2 μ 16 s.toNat i) O p ∧ fD (u2 κ 307 s.toNat i) (u2 μ 16 s.toNat i) O s p := by
  obtain ⟨hR, hI, hV, h0p, hQ⟩ := h
  refine ⟨⟨?_, Inv_cg hI (fun f k z => u2_n (by omega)) (fun k z => u2_n (by omega)), hV.u (f := 16) ⟨Int.le_trans (by decide) h3, Int.le_trans (Int.le_sub_one_of_lt h4) (by decide)⟩, by rw [u2_f (by decide)]; exact h0p, fun k => ?_⟩, ?_⟩
  · refine Rel_S hV hR h1 h2 (fun f k x y z => u2_n (by omega)) (fun f k x y z w => u2_n (by omega)) (by rw [u2_n (by omega)]; exact Int.le_refl _) ?_ ?_
    · obtain ⟨q1, q2, q3, q4, q5, q6, q7, q8, q9, q10, q11, q12, q13, q14, q15⟩ := hR.S h1 h2
      have hall : mAll (u2 μ 16 s.toNat i) s (mTot (u2 μ 16 s.toNat i) s) = mAll μ s (mTot μ s) := by
        rw [mTot_cg (μ' := μ) (fun k => u2_n (by omega))]
        exact mAll_cgr _ (fun q _ => u2_n (by omega))
      unfold rS
      rw [v_received_u (by decide), v_consumed_u (by decide), hall]
      simp (disch := omega) only [u2_f, u2_s]
      exact ⟨q1, q2, q3, q4, q5, q6, q7, q8, trivial, q10, q11, q12, q13, Or.inl ht, q15⟩
    · intro w w0 w1
      exact rW_cg h1 h2 w0 w1 (fun f a b => u2_n (by omega)) (u2_n (by omega)) (fun f a => u2_n (by omega)) (u2_n (by omega)) (u2_n (by omega)) (u2_n (by omega)) (u2_n (by omega)) (hR.W h1 h2 w0 w1)
  · have := hQ k
    rw [u2_f (by decide), u2_f (by decide), u2_f (by decide), u2_f (by decide)]
    refine ⟨this.1, this.2.1, this.2.2.1, this.2.2.2.1, this.2.2.2.2.1, ?_⟩
    by_cases z : k = s.toNat
    · rw [z, u2_s]; omega
    · rw [u2_n (by omega)]; exact this.2.2.2.2.2
  · unfold fD at hD ⊢
    rw [v_bytes_u (by decide)]
    simp (disch := omega) only [u2_f]
    exact hD
/-- one stream, tried by the class -/
def vC (ν : Nat → Nat → Int) (s p m i : Int) : Int := if ν 290 (mj s i) = 1 ∧ ¬ v_sLive ν s i = 0 then v_fillFrom ν s p m i else 0
def sC (ν : Nat → Nat → Int) (s p m i : Int) : Nat → Nat → Int := if ν 290 (mj s i) = 1 ∧ ¬ v_sLive ν s i = 0 then s_fillFrom ν s p m i else ν
theorem sC_v {ν : Nat → Nat → Int} {s p m i X : Int} : (if (ν 290 (mj s i)) = 1 then (if (v_sLive ν s i) = 0 then X else (if (v_fillFrom ν s p m i) = 0 then X else 1)) else X) = if vC ν s p m i = 0 then X else 1 := by
  unfold vC
  by_cases c1 : ν 290 (mj s i) = 1 <;> by_cases c2 : v_sLive ν s i = 0 <;> simp [c1, c2]
theorem step_v {ν : Nat → Nat → Int} {s p m k i : Int} {d : Nat} (hk : k ≤ ν 306 s.toNat) (hi : i = if ν 307 s.toNat + k < ν 306 s.toNat then ν 307 s.toNat + k else ν 307 s.toNat + k - ν 306 s.toNat) : v_fillStream_2 κ s p m (d + 1) k ν = (if vC ν s p m i = 0 then v_fillStream_2 κ s p m d (k + 1) (sC ν s p m i) else 1) ∧ s_fillStream_2 κ s p m (d + 1) k ν = (if vC ν s p m i = 0 then s_fillStream_2 κ s p m d (k + 1) (sC ν s p m i) else u2 (sC ν s p m i) 307 s.toNat i) := by
  rw [v_fillStream_2, s_fillStream_2, if_neg (show ¬ ν 306 s.toNat < k by omega), if_neg (show ¬ ν 306 s.toNat < k by omega)]
  unfold vC sC
  by_cases c : ν 307 s.toNat + k < ν 306 s.toNat
  · rw [if_pos c] at hi
    rw [if_pos c, if_pos c, ← hi]
    by_cases c1 : ν 290 (mj s i) = 1 <;> by_cases c2 : v_sLive ν s i = 0 <;> simp [c1, c2]
  · rw [if_neg c] at hi
    rw [if_neg c, if_neg c, ← hi]
    by_cases c1 : ν 290 (mj s i) = 1 <;> by_cases c2 : v_sLive ν s i = 0 <;> simp [c1, c2]
theorem live_e {ν : Nat → Nat → Int} {s i : Int} : ¬ v_sLive ν s i = 0 ↔ ν 200 (mj s i) = 0 ∨ ν 200 (mj s i) = 1 := by
  unfold v_sLive
  by_cases c1 : ν 200 (mj s i) = 0 <;> by_cases c2 : ν 200 (mj s i) = 1 <;> simp [c1, c2]
theorem stream_n {s p i r : Int} (h1 : 0 ≤ s) (h2 : s ≤ 1) (h3 : 0 ≤ i) (h4 : i < 256) (h : fS κ μ O p) (hn : ¬ (κ 290 (mj s i) = 1 ∧ ¬ v_sLive κ s i = 0)) : v_fillsStream μ s i r = 0 ∧ s_fillsStream μ s i r = μ := by
  obtain ⟨hR, hI, hV, h0p, hQ⟩ := h
  have hA0 := hR.A h1 h2 h3 h4
  have hc : ¬ (((0 ≤ i ∧ i < 256 ∧ μ 17 (mj s i) = 1) ∧ (i / 2 % 2 = 0 ∨ i % 2 = s)) ∧ mSend μ s i < 2) := fun w => by
    have hp := hA0.1.mpr ⟨w.1.1.2.2, w.1.2⟩
    have e := rA_send hV (hQ _).1 h1 hA0 hp
    refine hn ⟨hp, live_e.mpr ?_⟩
    have := w.2
    have hb := hV.snd s i
    rw [e] at this hb
    omega
  unfold v_fillsStream s_fillsStream
  rw [if_neg hc, if_neg hc]
  exact ⟨rfl, rfl⟩
theorem step_s {s p r i : Int} (h1 : 0 ≤ s) (h2 : s ≤ 1) (h3 : 0 ≤ i) (h4 : i < 256) (p0 : 0 ≤ p) (p1 : p < 64) (r1 : 1 ≤ r) (r2 : r ≤ 1200) (h : fS κ μ O p) :
    stO κ (sC κ s p r i) (s_fillsStream μ s i r) O s p (vC κ s p r i) (v_fillsStream μ s i r) := by
  unfold vC sC
  by_cases c : κ 290 (mj s i) = 1 ∧ ¬ v_sLive κ s i = 0
  · rw [if_pos c, if_pos c]
    exact stream_s h1 h2 h3 h4 p0 p1 r1 r2 h c.1 (live_e.mp c.2)
  · rw [if_neg c, if_neg c]
    obtain ⟨e1, e2⟩ := stream_n (r := r) h1 h2 h3 h4 h c
    rw [e1, e2]
    exact Or.inr ⟨rfl, rfl, h, fun _ _ _ => rfl⟩
/-- streams that are not there are passed over -/
theorem skip_l {s r : Int} : ∀ (m d : Nat) (k : Int) (ν : Nat → Nat → Int), k + m ≤ 257 → (∀ j : Nat, j < m → v_fillsStream ν s ((ν 16 s.toNat + (k + j) + 256) % 256) r = 0 ∧ s_fillsStream ν s ((ν 16 s.toNat + (k + j) + 256) % 256) r = ν) → v_fills_19 μ s r (d + m) k ν = v_fills_19 μ s r d (k + m) ν ∧ s_fills_19 μ s r (d + m) k ν = s_fills_19 μ s r d (k + m) ν := by
  intro m
  induction m with
  | zero => intro d k ν e1 e2; rw [show k + ((0 : Nat) : Int) = k by omega]; exact ⟨rfl, rfl⟩
  | succ m ih =>
    intro d k ν e1 e2
    obtain ⟨z1, z2⟩ := e2 0 (by omega)
    rw [show k + ((0 : Nat) : Int) = k by omega] at z1 z2
    rw [show d + (m + 1) = (d + m) + 1 by omega, v_fills_19, s_fills_19, if_neg (show ¬ 256 < k by omega), if_neg (show ¬ 256 < k by omega), z1, z2, if_pos rfl, if_pos rfl]
    have := ih d (k + 1) ν (by omega) (fun j hj => by
      have := e2 (j + 1) (by omega)
      rw [show k + 1 + (j : Int) = k + ((j + 1 : Nat) : Int) by omega]
      exact this)
    rw [this.1, this.2, show k + 1 + (m : Int) = k + ((m + 1 : Nat) : Int) by omega]
    exact ⟨rfl, rfl⟩
set_option maxHeartbeats 2000000 in
theorem streams_l {s p r T l : Int} (h1 : 0 ≤ s) (h2 : s ≤ 1) (p0 : 0 ≤ p) (p1 : p < 64) (r1 : 1 ≤ r) (r2 : r ≤ 1200) (T1 : T ≤ 256) (l0 : -1 ≤ l) (lT : l < T) : ∀ (m d dc : Nat) (k k' : Int) (ν μν : Nat → Nat → Int), k + m = T + 1 → 1 ≤ k → m < dc → k' + d = 258 → (l + k < T → k' = k) → (T ≤ l + k → k' = k + 256 - T) → fS ν μν O p → ν 306 s.toNat = T → ν 307 s.toNat = l →
    (v_fillStream_2 κ s p r dc k ν = 1 ∧ v_fills_19 μ s r d k' μν = 1 ∧ fS (s_fillStream_2 κ s p r dc k ν) (s_fills_19 μ s r d k' μν) O p ∧ fD (s_fillStream_2 κ s p r dc k ν) (s_fills_19 μ s r d k' μν) O s p) ∨ (v_fillStream_2 κ s p r dc k ν = 0 ∧ v_fills_19 μ s r d k' μν = 0 ∧ fS (s_fillStream_2 κ s p r dc k ν) (s_fills_19 μ s r d k' μν) O p) := by
  intro m
  induction m with
  | zero =>
    intro d dc k k' ν μν e1 e2 e3 e4 e5 e6 h e7 e8
    obtain ⟨d, rfl⟩ : ∃ d', d = d' + 1 := ⟨d - 1, by omega⟩
    obtain ⟨dc, rfl⟩ : ∃ d', dc = d' + 1 := ⟨dc - 1, by omega⟩
    rw [v_fillStream_2, s_fillStream_2, v_fills_19, s_fills_19, if_pos (show ν 306 s.toNat < k by omega), if_pos (show ν 306 s.toNat < k by omega), if_pos (show 256 < k' by omega), if_pos (show 256 < k' by omega)]
    exact Or.inr ⟨rfl, rfl, h⟩
  | succ m ih =>
    intro d dc k k' ν μν e1 e2 e3 e4 e5 e6 h e7 e8
    obtain ⟨dc, rfl⟩ : ∃ d', dc = d' + 1 := ⟨dc - 1, by omega⟩
    obtain ⟨d, rfl⟩ : ∃ d', d = d' + 1 := ⟨d - 1, by omega⟩
    obtain ⟨i, hi⟩ : ∃ i : Int, i = if ν 307 s.toNat + k < ν 306 s.toNat then ν 307 s.toNat + k else ν 307 s.toNat + k - ν 306 s.toNat := ⟨_, rfl⟩
    obtain ⟨s1, s2⟩ := step_v (κ := κ) (p := p) (m := r) (d := dc) (show k ≤ ν 306 s.toNat by omega) hi
    have hr : (μν 16 s.toNat + k' + 256) % 256 = i ∧ 0 ≤ i ∧ i < T := by
      have q9 := (h.1.S h1 h2).2.2.2.2.2.2.2.2.1
      rw [hi, e7, e8]
      by_cases c : l + k < T
      · rw [if_pos c]; have := e5 c; omega
      · rw [if_neg c]; have := e6 (by omega); omega
    clear hi
    obtain ⟨hr1, i0, iT⟩ := hr
    rw [s1, s2, v_fills_19, s_fills_19, if_neg (show ¬ 256 < k' by omega), if_neg (show ¬ 256 < k' by omega), hr1]
    rcases step_s (r := r) h1 h2 i0 (by omega) p0 p1 r1 r2 h with ⟨z1, z2, z3, z4⟩ | ⟨z1, z2, z3, z4⟩
    · rw [z1, z2, if_neg (by decide), if_neg (by decide), if_neg (by decide), if_neg (by decide)]
      have z5 : i < sC ν s p r i 306 s.toNat := by
        have : sC ν s p r i 306 s.toNat = ν 306 s.toNat := by
          unfold sC
          split
          · exact s_fillFrom_fr (by decide)
          · rfl
        omega
      exact Or.inl ⟨rfl, rfl, last_s h1 h2 i0 (by omega) z3 z4 z5⟩
    · rw [z1, z2, if_pos rfl, if_pos rfl, if_pos rfl, if_pos rfl]
      have t6 : sC ν s p r i 306 s.toNat = T := by rw [z4 _ _ (by omega)]; exact e7
      have t7 : sC ν s p r i 307 s.toNat = l := by rw [z4 _ _ (by omega)]; exact e8
      by_cases cj : l + k = T - 1
      · -- the streams from the top on
        have q9 := (z3.1.S h1 h2).2.2.2.2.2.2.2.2.1
        obtain ⟨g, hg⟩ : ∃ g : Nat, (g : Int) = 256 - T := ⟨(256 - T).toNat, by omega⟩
        have sk := skip_l (μ := μ) (s := s) (r := r) g (d - g) (k' + 1) (s_fillsStream μν s i r) (by omega) (fun j hj => by
          have ej : (s_fillsStream μν s i r 16 s.toNat + (k' + 1 + (j : Int)) + 256) % 256 = T + j := by
            have := e5 (by omega)
            omega
          rw [ej]
          exact stream_n h1 h2 (by omega) (by omega) z3 (fun w => (top_17 z3.2.2.1 z3.1 h1 h2 (by omega) (by omega) (by omega)).1 w.1))
        rw [show d - g + g = d by omega] at sk
        rw [sk.1, sk.2]
        exact ih (d - g) dc (k + 1) (k' + 1 + g) _ _ (by omega) (by omega) (by omega) (by omega) (fun z => by omega) (fun z => by have := e5 (by omega); omega) z3 t6 t7
      · exact ih d dc (k + 1) (k' + 1) _ _ (by omega) (by omega) (by omega) (by omega) (fun z => by have := e5 (by omega); omega) (fun z => by have := e6 (by omega); omega) z3 t6 t7
end R49
