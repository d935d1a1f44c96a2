section R5
variable {κ μ κ' μ' : Nat → Nat → Int} {O O' : Nat → Nat}
theorem rA_cnt (hV : mV μ) {s i : Int} (k204 : 0 ≤ κ 204 (mj s i)) (h1 : 0 ≤ s) (h : rA κ μ O s i) (hp : κ 290 (mj s i) = 1) : mCnt μ s i 2 (mTot μ s) = κ 205 (mj s i) ∧ mCnt μ s i 3 (mTot μ s) = κ 206 (mj s i) ∧ mCnt μ s i (-2) (mTot μ s) = κ 204 (mj s i) ∧ mCnt μ s i (-1) (mTot μ s) = κ 203 (mj s i) := by
  obtain ⟨a1, a2, a3⟩ := h.2.1 hp
  obtain ⟨c1, c2, c3, c4, c5, c6, c7⟩ := a3
  obtain ⟨_, _, e600, r1, _⟩ := a2
  have hw : κ 203 (mj s i) = mW μ s i := a1.1
  have w0 := mW_b μ s i
  have key : ∀ t : Int, 1 ≤ t → mCnt μ s i t (mTot μ s) = mR (κ (1000 + (κ 202 (mj s i)).toNat)) (t + 1) 0 (κ 600 (κ 202 (mj s i)).toNat) := by
    intro t ht
    rw [mCnt_t hV i h1 (by omega)]
    unfold mR
    rw [show (κ 600 (κ 202 (mj s i)).toNat - 0).toNat = (mW μ s i).toNat + ((κ 600 (κ 202 (mj s i)).toNat).toNat - (mW μ s i).toNat) by omega, mRem_app, mRem_z _ (((0 : Int).toNat) + (mW μ s i).toNat) (fun q hq => by rw [c4 _ (by omega)]; omega), Int.add_zero]
    refine mRem_ext _ _ _ (fun q hq => ?_)
    rw [show (0 : Int).toNat + q = q by simp, Nat.zero_add]
    by_cases z : (q : Int) < κ 204 (mj s i)
    · rw [(c3 q z).1]; omega
    · rw [c4 q (by omega), c5 q (by omega) (by omega)]; omega
  have k0 : mCnt μ s i 0 (mTot μ s) = κ 203 (mj s i) - κ 204 (mj s i) := by
    rw [mCnt_t hV i h1 (by omega), show (mW μ s i).toNat = (κ 204 (mj s i)).toNat + (mW μ s i - κ 204 (mj s i)).toNat by omega, mRem_app, mRem_z _ 0 (fun q hq => by rw [Nat.zero_add]; exact (c3 q (by omega)).2), mRem_full _ (0 + (κ 204 (mj s i)).toNat) (fun q hq => c5 _ (by omega) (by omega))]
    omega
  have kw := mCnt_w (μ := μ) s i
  have k2 := mCnt_2 (μ := μ) s i (mTot μ s)
  exact ⟨(key 2 (by omega)).trans c6.symm, (key 3 (by omega)).trans c7.symm, by omega, by omega⟩
theorem rA_send (hV : mV μ) {s i : Int} (hK : 0 ≤ κ 204 (mj s i)) (h1 : 0 ≤ s) (h : rA κ μ O s i) (hp : κ 290 (mj s i) = 1) : mSend μ s i = κ 200 (mj s i) := by
  obtain ⟨_, q2, _, q4⟩ := rA_cnt hV hK h1 h hp
  have a1 := (h.2.1 hp).1
  unfold mSend
  rw [q2, q4, a1.2.2.2.2.2.2]
theorem rA_sendN {s i : Int} (h : rA κ μ O s i) (hp : ¬ κ 290 (mj s i) = 1) : mSend μ s i = 0 := by
  obtain ⟨_, q1, _, q3, _⟩ := h.2.2 hp
  unfold mSend
  rw [q1, q3]
  rfl
theorem rB_ready (hV : mV μ) {s i : Int} (h1 : 0 ≤ s) (h : rB κ μ O s i) (hp : κ 190 (mj s i) = 1) : v_readyOf μ s i = κ 103 (mj s i) := by
  obtain ⟨b1, b2', b3⟩ := h.2.1 hp
  refine readyOf_e hV h1 (by rw [← b1.1]; exact b3.1) (fun o _ z => b3.2.2.1 o z) b3.2.2.2.1
theorem rB_recv (hV : mV μ) {s i : Int} (h1 : 0 ≤ s) (h : rB κ μ O s i) (hp : κ 190 (mj s i) = 1) : v_receiving μ s i = κ 100 (mj s i) := by
  have hr := rB_ready hV h1 h hp
  unfold v_receiving
  rw [hr, (h.2.1 hp).1.2.2.2.2.2.2.2.2.2.2.2]
theorem rB_recvN {s i : Int} (h : rB κ μ O s i) (hp : ¬ κ 190 (mj s i) = 1) : v_receiving μ s i = 0 := by
  obtain ⟨_, q1, _, q3, _⟩ := h.2.2 hp
  unfold v_receiving
  rw [q1, q3]
  rfl
/-- nothing that a sending part shows has changed -/
theorem rA_cg {s i : Int} (hk : ∀ f, f = 290 ∨ (200 ≤ f ∧ f ≤ 211) → κ' f (mj s i) = κ f (mj s i))
    (hr : ∀ r : Nat, 2 ≤ r → (r : Int) < κ 602 0 → O r = 4 * mj s i + 1 ∨ O r = 4 * mj s i + 2 → κ' 600 r = κ 600 r ∧ κ' 601 r = κ 601 r ∧ O' r = O r ∧ ∀ o, κ' (1000 + r) o = κ (1000 + r) o)
    (h602 : κ 602 0 ≤ κ' 602 0) (hm : ∀ f, 17 ≤ f → f ≤ 24 → μ' f (mj s i) = μ f (mj s i)) (hw : mW μ' s i = mW μ s i)
    (hv : ∀ o : Nat, (o : Int) < mW μ s i → μ' 38 (v_placeOf μ' s i o).toNat = μ 38 (v_placeOf μ s i o).toNat ∧ mMk μ' s i o = mMk μ s i o)
    (h : rA κ μ O s i) : rA κ' μ' O' s i := by
  have e290 := hk 290 (by omega)
  have e17 := hm 17 (by omega) (by omega)
  have e18 := hm 18 (by omega) (by omega)
  have e19 := hm 19 (by omega) (by omega)
  have e20 := hm 20 (by omega) (by omega)
  have e21 := hm 21 (by omega) (by omega)
  have e22 := hm 22 (by omega) (by omega)
  have e23 := hm 23 (by omega) (by omega)
  have e24 := hm 24 (by omega) (by omega)
  obtain ⟨a, b, c⟩ := h
  refine ⟨by rw [e290, e17]; exact a, fun hp => ?_, fun hp => ?_⟩
  · rw [e290] at hp
    obtain ⟨b1, b2', b3⟩ := b hp
    have e200 := hk 200 (by omega)
    have e201 := hk 201 (by omega)
    have e202 := hk 202 (by omega)
    have e203 := hk 203 (by omega)
    have e204 := hk 204 (by omega)
    have e205 := hk 205 (by omega)
    have e206 := hk 206 (by omega)
    have e207 := hk 207 (by omega)
    have e208 := hk 208 (by omega)
    have e209 := hk 209 (by omega)
    have e210 := hk 210 (by omega)
    have e211 := hk 211 (by omega)
    obtain ⟨⟨p1, p2, p3, p4⟩, ⟨p5, p6, p7, p8⟩, p9, p10, p11⟩ := b2'
    obtain ⟨r1, r2, r3, r4⟩ := hr (κ 201 (mj s i)).toNat (by omega) (by omega) (Or.inl p4)
    obtain ⟨t1, t2, t3, t4⟩ := hr (κ 202 (mj s i)).toNat (by omega) (by omega) (Or.inr p8)
    refine ⟨?_, ?_, ?_⟩
    · unfold rA1 at b1 ⊢
      rw [e203, e207, e208, e209, e210, e211, e200, e206, e18, e19, e20, e21, e22, e23, e24, hw]
      exact b1
    · unfold rA2
      rw [e201, e202, e203, r1, r2, r3, t1, t2, t3]
      exact ⟨⟨p1, by omega, p3, p4⟩, ⟨p5, by omega, p7, p8⟩, p9, p10, p11⟩
    · obtain ⟨c1, c2, c3, c4, c5, c6, c7⟩ := b3
      have hw' : κ 203 (mj s i) = mW μ s i := b1.1
      have hfun : κ' (1000 + (κ 202 (mj s i)).toNat) = κ (1000 + (κ 202 (mj s i)).toNat) := funext t4
      unfold rA3
      rw [e201, e202, e203, e204, e205, e206, t1, hfun]
      refine ⟨c1, fun o ho => ?_, fun o ho => ?_, c4, fun o h1 h2 => ?_, c6, c7⟩
      · rw [r4, (hv o (by omega)).1]; exact c2 o ho
      · rw [(hv o (by omega)).2]; exact c3 o ho
      · rw [(hv o (by omega)).2]; exact c5 o h1 h2
  · rw [e290] at hp
    rw [hw, e19, e20, e21, e24]
    exact c hp
/-- the reference's rows of bytes as they were -/
theorem rA_m {s i : Int} (h : ∀ f, 36 ≤ f → f ≤ 39 → ∀ k, μ' f k = μ f k) : mW μ' s i = mW μ s i ∧ ∀ o : Nat, (o : Int) < mW μ s i → μ' 38 (v_placeOf μ' s i o).toNat = μ 38 (v_placeOf μ s i o).toNat ∧ mMk μ' s i o = mMk μ s i o := by
  have hp : ∀ o, v_placeOf μ' s i o = v_placeOf μ s i o := fun o => v_placeOf_cg (fun f hf k => by
    simp only [List.elem_eq_mem, decide_eq_true_eq, List.mem_cons, List.not_mem_nil, or_false] at hf
    exact h f (by omega) (by omega) k)
  refine ⟨mW_cg (fun f hf k => by
    simp only [List.elem_eq_mem, decide_eq_true_eq, List.mem_cons, List.not_mem_nil, or_false] at hf
    exact h f (by omega) (by omega) k) s i, fun o _ => ⟨by rw [hp, h 38 (by omega) (by omega)], by unfold mMk; rw [hp, h 39 (by omega) (by omega)]⟩⟩
theorem rB_cg {s i : Int} (hk : ∀ f, f = 190 ∨ (100 ≤ f ∧ f ≤ 113) → κ' f (mj s i) = κ f (mj s i))
    (hr : ∀ r : Nat, 2 ≤ r → (r : Int) < κ 602 0 → O r = 4 * mj s i + 3 → κ' 600 r = κ 600 r ∧ κ' 601 r = κ 601 r ∧ O' r = O r ∧ ∀ o, κ' (1000 + r) o = κ (1000 + r) o)
    (h602 : κ 602 0 ≤ κ' 602 0) (hm : ∀ f, f = 17 ∨ (25 ≤ f ∧ f ≤ 35) → μ' f (mj s i) = μ f (mj s i)) (h6 : κ 190 (mj s i) = 1 → μ' 6 (mg s i).toNat = μ 6 (mg s i).toNat)
    (hX : mX μ' s i = mX μ s i)
    (h : rB κ μ O s i) : rB κ' μ' O' s i := by
  have e190 := hk 190 (by omega)
  have e17 := hm 17 (by omega)
  have e25 := hm 25 (by omega)
  have e26 := hm 26 (by omega)
  have e27 := hm 27 (by omega)
  have e28 := hm 28 (by omega)
  have e29 := hm 29 (by omega)
  have e30 := hm 30 (by omega)
  have e31 := hm 31 (by omega)
  have e32 := hm 32 (by omega)
  have e33 := hm 33 (by omega)
  have e34 := hm 34 (by omega)
  have e35 := hm 35 (by omega)
  obtain ⟨a, b, c⟩ := h
  refine ⟨by rw [e190, e17]; exact a, fun hp => ?_, fun hp => ?_⟩
  · rw [e190] at hp
    obtain ⟨b1, b2', b3⟩ := b hp
    have e100 := hk 100 (by omega)
    have e101 := hk 101 (by omega)
    have e102 := hk 102 (by omega)
    have e103 := hk 103 (by omega)
    have e104 := hk 104 (by omega)
    have e105 := hk 105 (by omega)
    have e106 := hk 106 (by omega)
    have e107 := hk 107 (by omega)
    have e108 := hk 108 (by omega)
    have e109 := hk 109 (by omega)
    have e110 := hk 110 (by omega)
    have e111 := hk 111 (by omega)
    have e112 := hk 112 (by omega)
    have e113 := hk 113 (by omega)
    obtain ⟨p1, p2, p3, p4, p5⟩ := b2'
    obtain ⟨r1, r2, r3, r4⟩ := hr (κ 101 (mj s i)).toNat (by omega) (by omega) p4
    refine ⟨?_, ?_, ?_⟩
    · unfold rB1 at b1 ⊢
      rw [e100, e102, e103, e104, e105, e106, e107, e108, e109, e110, e111, e112, e113, e25, e26, e27, e28, e29, e30, e31, e32, e33, e34, e35, h6 hp]
      exact b1
    · unfold rB2
      rw [e101, e104, r1, r2, r3]
      exact ⟨p1, by omega, p3, p4, p5⟩
    · have hfun : κ' (1000 + (κ 101 (mj s i)).toNat) = κ (1000 + (κ 101 (mj s i)).toNat) := funext r4
      unfold rB3 at b3 ⊢
      rw [e101, e102, e103, e104, e25, e26, e28, r1, hfun, hX]
      exact b3
  · rw [e190] at hp
    rw [e25, e26, e27, e28, e31, e32, e33, e34, e35, hX]
    exact c hp
theorem rT_cg {s i : Int} (h1 : κ 306 s.toNat ≤ κ' 306 s.toNat) (e17 : μ' 17 (mj s i) = μ 17 (mj s i)) (e8 : μ' 8 (2 * s + i / 2 % 2).toNat = μ 8 (2 * s + i / 2 % 2).toNat) (e9 : μ' 9 (2 * s + i / 2 % 2).toNat = μ 9 (2 * s + i / 2 % 2).toNat) (h : rT κ μ s i) : rT κ' μ' s i := by
  obtain ⟨a, b⟩ := h
  unfold rT
  rw [e17, e8, e9]
  exact ⟨a, fun q => by have := b q; omega⟩
theorem rS_cg {s : Int} (hs : 0 ≤ s) (hs1 : s ≤ 1) (hk : ∀ f, 306 ≤ f → f ≤ 315 → κ' f s.toNat = κ f s.toNat) (h36 : ∀ f k, f = 360 ∨ f = 361 → 16 * s.toNat + 4 ≤ k → k ≤ 16 * s.toNat + 7 → κ' f k = κ f k) (hm : ∀ f, f = 11 ∨ f = 12 ∨ f = 16 ∨ f = 36 → μ' f s.toNat = μ f s.toNat) (e7 : μ' 7 (3 * s).toNat = μ 7 (3 * s).toNat) (e14 : μ' 14 (3 * s).toNat = μ 14 (3 * s).toNat) (e1 : μ' 1 0 = μ 1 0) (e6 : ∀ k, μ' 6 k = μ 6 k) (e17 : ∀ i : Int, 0 ≤ i → i < 256 → μ' 17 (mj s i) = μ 17 (mj s i))
    (hall : mAll μ' s (mTot μ' s) = mAll μ s (mTot μ s)) (hrec : v_received μ' s = v_received μ s) (hcon : v_consumed μ' s = v_consumed μ s) (h : rS κ μ s) : rS κ' μ' s := by
  have e306 := hk 306 (by omega) (by omega)
  have e307 := hk 307 (by omega) (by omega)
  have e308 := hk 308 (by omega) (by omega)
  have e309 := hk 309 (by omega) (by omega)
  have e310 := hk 310 (by omega) (by omega)
  have e311 := hk 311 (by omega) (by omega)
  have e312 := hk 312 (by omega) (by omega)
  have e313 := hk 313 (by omega) (by omega)
  have e314 := hk 314 (by omega) (by omega)
  have e315 := hk 315 (by omega) (by omega)
  have e11 := hm 11 (by omega)
  have e12 := hm 12 (by omega)
  have e16 := hm 16 (by omega)
  have e36 := hm 36 (by omega)
  unfold rS at h ⊢
  rw [e306, e307, e308, e309, e310, e311, e312, e313, e314, e315, e11, e12, e16, e36, e7, e14, e1, hall, hrec, hcon]
  obtain ⟨q1, q2, q3, q4, q5, q6, q7, q8, q9, q10, q11, q12, q13, q14, q15⟩ := h
  refine ⟨q1, q2, q3, q4, q5, q6, q7, q8, q9, fun j a b => ?_, fun hj j a b => ?_, q12, q13, q14, fun hj => ⟨(q15 hj).1, fun i a b => ?_⟩⟩
  · rw [h36 360 _ (by omega) (by omega) (by omega), e6]; exact q10 j a b
  · rw [h36 361 _ (by omega) (by omega) (by omega), e6]; exact q11 hj j a b
  · rw [e17 i a b]; exact (q15 hj).2 i a b
theorem rW_cg {s w : Int} (hs : 0 ≤ s) (hs1 : s ≤ 1) (hw : 0 ≤ w) (hw1 : w ≤ 1) (hk : ∀ f, 400 ≤ f → f ≤ 405 → κ' f (2 * s + w).toNat = κ f (2 * s + w).toNat) (h36 : κ' 360 (16 * s + (8 + w)).toNat = κ 360 (16 * s + (8 + w)).toNat) (hm : ∀ f, f = 8 ∨ f = 9 ∨ f = 10 ∨ f = 13 ∨ f = 15 → μ' f (2 * s + w).toNat = μ f (2 * s + w).toNat) (e7 : μ' 7 (3 * s + 1 + w).toNat = μ 7 (3 * s + 1 + w).toNat) (e14 : μ' 14 (3 * s + 1 + w).toNat = μ 14 (3 * s + 1 + w).toNat) (e1 : μ' 1 0 = μ 1 0) (e6 : μ' 6 (16 * s + 8 + w).toNat = μ 6 (16 * s + 8 + w).toNat) (h : rW κ μ s w) : rW κ' μ' s w := by
  unfold rW at h ⊢
  rw [hk 400 (by omega) (by omega), hk 401 (by omega) (by omega), hk 402 (by omega) (by omega), hk 403 (by omega) (by omega), hk 404 (by omega) (by omega), hk 405 (by omega) (by omega), h36, hm 8 (by omega), hm 9 (by omega), hm 10 (by omega), hm 13 (by omega), hm 15 (by omega), e7, e14, e1, e6]
  exact h
theorem rF_cg {p : Nat} (hk : ∀ f, f ≤ 10 → κ' f p = κ f p) (hm : ∀ f, 51 ≤ f → f ≤ 59 → μ' f p = μ f p)
    (h60 : ∀ j : Nat, j < 1200 → μ' 60 (1200 * p + j) = μ 60 (1200 * p + j)) (hV : mV μ)
    (h190 : ∀ k, κ 190 k = 1 → κ' 190 k = 1) (h290 : ∀ k, κ 290 k = 1 → κ' 290 k = 1 ∧ κ 204 k ≤ κ' 204 k ∧ (μ 19 k = 1 → μ' 19 k = 1))
    (h602 : κ 602 0 ≤ κ' 602 0) (hr : ∀ r : Nat, 2 ≤ r → (r : Int) < κ 602 0 → κ 601 r = 2 → O r % 4 = 1 → κ' 600 r = κ 600 r ∧ κ' 601 r = κ 601 r ∧ O' r = O r)
    (hc : κ 0 p = 1 → κ 3 p = 8 → ∀ j : Nat, (j : Int) < κ 9 p → κ' (1000 + (κ 7 p).toNat) ((κ 8 p).toNat + j) = κ (1000 + (κ 7 p).toNat) ((κ 8 p).toNat + j))
    (h : rF κ μ O p) : rF κ' μ' O' p := by
  obtain ⟨a, b⟩ := h
  refine ⟨by rw [hk 0 (by omega), hm 58 (by omega) (by omega)]; exact a, fun hp => ?_⟩
  rw [hk 0 (by omega)] at hp
  obtain ⟨b1, b2', b3, b4⟩ := b hp
  have h9 : κ 9 p ≤ 1200 := by
    have v56 : 0 ≤ μ 56 p ∧ μ 56 p ≤ 1200 := hV 56 p
    have := b1.2.2.2.2.2.2.1
    omega
  refine ⟨?_, ?_, ?_, ?_⟩
  · unfold rF1 at b1 ⊢
    rw [hk 1 (by omega), hk 2 (by omega), hk 3 (by omega), hk 4 (by omega), hk 5 (by omega), hk 6 (by omega), hk 9 (by omega), hk 10 (by omega), hm 51 (by omega) (by omega), hm 52 (by omega) (by omega), hm 53 (by omega) (by omega), hm 54 (by omega) (by omega), hm 55 (by omega) (by omega), hm 56 (by omega) (by omega), hm 57 (by omega) (by omega), hm 59 (by omega) (by omega)]
    exact b1
  · rw [hk 3 (by omega), hk 9 (by omega), hk 7 (by omega)]; exact b2'
  · rw [hk 3 (by omega), hk 4 (by omega), hk 2 (by omega)]
    exact fun q => ⟨(b3 q).1, h190 _ (b3 q).2⟩
  · rw [hk 3 (by omega)]
    intro h8
    obtain ⟨q1, q2, q3, q4, q5, q6, q7, q8, q9, q10, q11⟩ := b4 h8
    obtain ⟨t1, t2, t3⟩ := h290 _ q3
    obtain ⟨u1, u2', u3⟩ := hr (κ 7 p).toNat (by omega) (by omega) q8 (by omega)
    unfold rF2
    rw [hk 8 (by omega), hk 5 (by omega), hk 4 (by omega), hk 2 (by omega), hk 9 (by omega), hk 6 (by omega), hk 7 (by omega), u1, u2', u3]
    refine ⟨q1, q2, t1, by omega, fun z => t3 (q5 z), q6, by omega, q8, q9, q10, fun j hj => ?_⟩
    rw [hc hp h8 j hj, h60 j (by omega)]
    exact q11 j hj
theorem rH_cg (h5 : ∀ f, 505 ≤ f → f ≤ 507 → κ' f 0 = κ f 0) (h6 : ∀ f r, f = 600 ∨ f = 601 → r < 2 → κ' f r = κ f r) (hO : ∀ r, r < 2 → O' r = O r) (h602 : κ 602 0 ≤ κ' 602 0) (hr : ∀ r o, r < 2 → κ' (1000 + r) o = κ (1000 + r) o) (hm : ∀ f k, 1 ≤ f → f ≤ 5 → μ' f k = μ f k) (h : rH κ μ O) : rH κ' μ' O' := by
  obtain ⟨q1, q2, q3, q4, q5, ⟨q6, q7, q8⟩, ⟨q9, q10, q11⟩, q12⟩ := h
  unfold rH
  rw [h5 505 (by omega) (by omega), h5 506 (by omega) (by omega), h5 507 (by omega) (by omega), h6 600 0 (by omega) (by omega), h6 600 1 (by omega) (by omega), h6 601 0 (by omega) (by omega), h6 601 1 (by omega) (by omega), hO 0 (by omega), hO 1 (by omega), hm 3 0 (by omega) (by omega), hm 5 0 (by omega) (by omega), hm 1 0 (by omega) (by omega)]
  refine ⟨q1, q2, q3, fun j hj => ?_, fun j hj => ?_, ⟨q6, q7, q8⟩, ⟨q9, q10, q11⟩, by omega⟩
  · rw [hr 0 j (by omega), hm 2 j (by omega) (by omega)]; exact q4 j hj
  · rw [hr 1 j (by omega), hm 4 j (by omega) (by omega)]; exact q5 j hj
theorem mHz_cg (h : ∀ f k, f = 40 ∨ f = 44 → μ' f k = μ f k) (q : mHz μ) : mHz μ' := by
  intro s a b p k c d e
  rw [h 44 _ (by omega)]
  exact q s a b p k (by rw [← h 40 _ (by omega)]; exact c) d e
end R5
