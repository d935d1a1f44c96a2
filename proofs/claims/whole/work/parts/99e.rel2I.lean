section R36
variable {κ μ κ' μ' κ1 μ1 κc μc : Nat → Nat → Int} {O O' : Nat → Nat}
/-- what growIfOver leaves -/
theorem growIfOver_o {s i : Int} (h3 : 0 ≤ i) : (∀ f k, f ≠ 113 → f ≠ 360 → f ≠ 405 → s_growIfOver κ s i f k = κ f k) ∧ (∀ k, k ≠ mj s i → s_growIfOver κ s i 113 k = κ 113 k) ∧ ∀ k, k % 16 = 4 → s_growIfOver κ s i 360 k = κ 360 k := by
  have hwy := kWayOf_b h3
  refine ⟨fun f k x y z => s_growIfOver_fr (by
    simp only [List.elem_eq_mem, List.mem_cons, List.not_mem_nil, or_false, Bool.not_eq_true', decide_eq_false_iff_not]
    omega), fun k x => ?_, fun k x => ?_⟩
  · rw [growIfOver_e]
    split
    · split
      · exact u2_n (by omega)
      · rw [u2_n (by omega), u2_n (by omega), u2_n (by omega)]
    · rfl
  · rw [growIfOver_e]
    split
    · split
      · exact u2_n (by omega)
      · rw [u2_n (by omega), u2_n (by omega), u2_n (by omega)]
    · rfl
set_option maxHeartbeats 8000000 in
/-- a stream was given up by the other side -/
theorem take_reset (hV : mV μ) (hK : kQ κ) (hR : kRel κ μ O) (hI : kInv κ) {s i p e : Int} (h1 : 0 ≤ s) (h2 : s ≤ 1) (h3 : 0 ≤ i) (h4 : i < 256) (hp : κ 190 (mj s i) = 1) (k3 : κ 3 p.toNat = 4) (k5 : κ 5 p.toNat = μ 47 0) (e0 : 0 ≤ e)
    (q6 : 0 ≤ μ 26 (mj s i) → e = μ 26 (mj s i)) (q6' : μ 25 (mj s i) ≤ e) (q3 : e ≤ 65536) (qr : v_received μ s + (e - μ 25 (mj s i)) ≤ μ 11 s.toNat) :
    ∃ O', kRel (s_reach κ s i p e 1) (if v_receiving μ s i ≤ 1 then s_looksOver (s_growData (u2 (u2 (u2 (u2 μ 25 (mj s i) e) 26 (mj s i) e) 28 (mj s i) 1) 29 (mj s i) (μ 47 0)) s) s i else u2 (u2 μ 25 (mj s i) e) 26 (mj s i) e) O' ∧ kInv (s_reach κ s i p e 1) := by
  have hB := hR.B h1 h2 h3 h4
  obtain ⟨b1, b2', b3⟩ := hB.2.1 hp
  obtain ⟨t1, t2, t3, t4, t5, t6, t7, t8, t9, t10, t11, t12⟩ := b1
  obtain ⟨c1, c2, c3, c4, c5, c6, c7⟩ := b3
  obtain ⟨p1, p2, p3, p4, p5, p6⟩ := b2'
  have v25 : 0 ≤ μ 25 (mj s i) ∧ μ 25 (mj s i) ≤ 65536 := hV 25 _
  have v28 : 0 ≤ μ 28 (mj s i) ∧ μ 28 (mj s i) ≤ 1 := hV 28 _
  have v47 : 0 ≤ μ 47 0 ∧ μ 47 0 ≤ 4611686018427387903 := hV 47 0
  have hrv := rB_recv hV h1 hB hp
  have k204 : 0 ≤ κ 204 (mj s i) := (hK _).1
  have k113 : 0 ≤ κ 113 (mj s i) ∧ κ 113 (mj s i) ≤ 1 := ⟨(hK _).2.1, (hK _).2.2.1⟩
  have hIo := ((hI s h1 h2).2 i h3 h4).2 hp
  have k100 : 0 ≤ κ 100 (mj s i) := by
    rw [← hrv]; exact (v_receiving_b μ s i).1
  have hmax : v_maxI 0 (e - κ 104 (mj s i)) = e - μ 25 (mj s i) ∧ v_maxI (κ 104 (mj s i)) e = e := by
    rw [t2]
    unfold v_maxI
    constructor
    · split <;> omega
    · split <;> omega
  rcases rLive_c κ s i with ⟨el, hl⟩ | ⟨el, hl⟩
  · have z28 : μ 28 (mj s i) = 0 := by
      by_cases z : μ 28 (mj s i) = 0
      · exact z
      · rw [t12, if_neg z] at hl; omega
    have eR : s_reach κ s i p e 1 = s_growIfOver (s_growDataGrant (u2 (u2 (u2 (u2 (u2 (u2 κ 312 s.toNat (κ 312 s.toNat + (e - μ 25 (mj s i)))) 104 (mj s i) e) 105 (mj s i) e) 100 (mj s i) 4) 112 (mj s i) (μ 47 0)) 313 s.toNat (κ 313 s.toNat + (e - κ 102 (mj s i)))) s) s i := by
      unfold s_reach
      rw [if_neg (show ¬ v_rLive κ s i = 0 by omega), if_neg (by decide), if_pos k3, hmax.1, hmax.2, k5]
    rw [eR, if_pos (by rw [hrv]; omega)]
    obtain ⟨κ1, hκ1⟩ : ∃ κ1, κ1 = u2 (u2 (u2 (u2 (u2 (u2 κ 312 s.toNat (κ 312 s.toNat + (e - μ 25 (mj s i)))) 104 (mj s i) e) 105 (mj s i) e) 100 (mj s i) 4) 112 (mj s i) (μ 47 0)) 313 s.toNat (κ 313 s.toNat + (e - κ 102 (mj s i))) := ⟨_, rfl⟩
    obtain ⟨μ1, hμ1⟩ : ∃ μ1, μ1 = u2 (u2 (u2 (u2 μ 25 (mj s i) e) 26 (mj s i) e) 28 (mj s i) 1) 29 (mj s i) (μ 47 0) := ⟨_, rfl⟩
    rw [← hκ1, ← hμ1]
    have hk : ∀ f k, ¬ ((f = 100 ∨ f = 104 ∨ f = 105 ∨ f = 112) ∧ k = mj s i) → ¬ ((f = 312 ∨ f = 313) ∧ k = s.toNat) → κ1 f k = κ f k := fun f k x y => by
      rw [hκ1, u2_n (by omega), u2_n (by omega), u2_n (by omega), u2_n (by omega), u2_n (by omega), u2_n (by omega)]
    have hm : ∀ f k, ¬ ((f = 25 ∨ f = 26 ∨ f = 28 ∨ f = 29) ∧ k = mj s i) → μ1 f k = μ f k := fun f k x => by
      rw [hμ1, u2_n (by omega), u2_n (by omega), u2_n (by omega), u2_n (by omega)]
    have k312 : κ1 312 s.toNat = κ 312 s.toNat + (e - μ 25 (mj s i)) := by rw [hκ1, u2_f (by omega), u2_f (by omega), u2_f (by omega), u2_f (by omega), u2_f (by omega), u2_s]
    have k313 : κ1 313 s.toNat = κ 313 s.toNat + (e - κ 102 (mj s i)) := by rw [hκ1, u2_s]
    have k104 : κ1 104 (mj s i) = e := by rw [hκ1, u2_f (by omega), u2_f (by omega), u2_f (by omega), u2_f (by omega), u2_s]
    have k105 : κ1 105 (mj s i) = e := by rw [hκ1, u2_f (by omega), u2_f (by omega), u2_f (by omega), u2_s]
    have k100' : κ1 100 (mj s i) = 4 := by rw [hκ1, u2_f (by omega), u2_f (by omega), u2_s]
    have k112 : κ1 112 (mj s i) = μ 47 0 := by rw [hκ1, u2_f (by omega), u2_s]
    have m25 : μ1 25 (mj s i) = e := by rw [hμ1, u2_f (by omega), u2_f (by omega), u2_f (by omega), u2_s]
    have m26 : μ1 26 (mj s i) = e := by rw [hμ1, u2_f (by omega), u2_f (by omega), u2_s]
    have m28 : μ1 28 (mj s i) = 1 := by rw [hμ1, u2_f (by omega), u2_s]
    have m29 : μ1 29 (mj s i) = μ 47 0 := by rw [hμ1, u2_s]
    have hV1 : mV μ1 := by
      rw [hμ1]
      exact (((hV.u (f := 25) ⟨show (0 : Int) ≤ e by omega, q3⟩).u (f := 26) ⟨show (-1 : Int) ≤ e by omega, q3⟩).u (f := 28) (by decide)).u (f := 29) v47
    have hX1 : ∀ t j : Int, mX μ1 t j = mX μ t j := fun t j => mX_cg (fun f hf k => by
      simp only [List.elem_eq_mem, decide_eq_true_eq, List.mem_cons, List.not_mem_nil, or_false] at hf
      exact hm f k (by omega))
    have hR1 : kRel κ1 μ1 O := by
      refine Rel_st hV hR h1 h2 h3 h4 (fun f k x => hk f k (by unfold kCh at x; omega) (by unfold kCh at x; omega)) (fun f k x => hm f k (by unfold mCh at x; omega)) (by rw [hk _ _ (by omega) (by omega)]; exact Int.le_refl _) (fun _ _ => rfl) (by rw [hk _ _ (by omega) (by omega)]; exact Int.le_refl _) (fun _ => by rw [hk _ _ (by omega) (by omega)]; exact Int.le_refl _) (fun x => by rw [hm _ _ (by omega)]; exact x) (fun t j _ _ _ _ _ => hX1 t j) (mHz_cg (fun f k x => hm _ _ (by omega)) hR.2.2.2) ?_ ?_ ?_ ?_
      · obtain ⟨y1, y2, y3, y4, y5, y6, y7, y8, y9, y10, y11, y12, y13, y14, y15⟩ := hR.S h1 h2
        have hrc : v_received μ1 s = v_received μ s + (e - μ 25 (mj s i)) := by
          rw [received_up (μ := μ) h1 h3 h4 (fun k z => hm _ _ (by omega)), m25]
        have hcc : v_consumed μ1 s = v_consumed μ s + (e - μ 27 (mj s i)) := by
          rw [consumed_up (μ := μ) h1 h3 h4 (fun f k a z => hm _ _ (by omega)), m28, m26, if_neg (by decide), if_pos z28]
        have hall : mAll μ1 s (mTot μ1 s) = mAll μ s (mTot μ s) := by
          rw [mTot_cg (μ' := μ) (fun k => hm _ _ (by omega))]
          exact mAll_cgr _ (fun q _ => hm _ _ (by omega))
        have hh : ∀ f k, f ≠ 312 → f ≠ 313 → ¬ (100 ≤ f ∧ f ≤ 112) → κ1 f k = κ f k := fun f k x y z => hk _ _ (by omega) (by omega)
        unfold rS
        rw [hrc, hcc, hall, k312, k313, hh 308 _ (by omega) (by omega) (by omega), hh 309 _ (by omega) (by omega) (by omega), hh 310 _ (by omega) (by omega) (by omega), hh 311 _ (by omega) (by omega) (by omega), hh 314 _ (by omega) (by omega) (by omega), hh 315 _ (by omega) (by omega) (by omega), hh 307 _ (by omega) (by omega) (by omega), hh 306 _ (by omega) (by omega) (by omega), hm 36 _ (by omega), hm 7 _ (by omega), hm 14 _ (by omega), hm 11 _ (by omega), hm 12 _ (by omega), hm 16 _ (by omega), hm 1 _ (by omega)]
        refine ⟨y1, y2, y3, y4, by omega, by omega, y7, y8, y9, fun x x1 x2 => ?_, fun y x x1 x2 => ?_, y12, by omega, y14, fun y => ⟨(y15 y).1, fun x x1 x2 => ?_⟩⟩
        · rw [hh 360 _ (by omega) (by omega) (by omega), hm 6 _ (by omega)]; exact y10 x x1 x2
        · rw [hh 361 _ (by omega) (by omega) (by omega), hm 6 _ (by omega)]; exact y11 y x x1 x2
        · rw [hm 17 _ (by omega)]; exact (y15 y).2 x x1 x2
      · intro w w0 w1
        exact rW_cg h1 h2 w0 w1 (fun f a b => hk _ _ (by omega) (by omega)) (hk _ _ (by omega) (by omega)) (fun f a => hm _ _ (by omega)) (hm _ _ (by omega)) (hm _ _ (by omega)) (hm _ _ (by omega)) (hm _ _ (by omega)) (hR.W h1 h2 w0 w1)
      · have hAm := rA_m (μ := μ) (μ' := μ1) (s := s) (i := i) (fun f a b k => hm _ _ (by omega))
        exact rA_cg (fun f a => hk _ _ (by omega) (by omega)) (fun r a b c => ⟨hk _ _ (by omega) (by omega), hk _ _ (by omega) (by omega), rfl, fun o => hk _ _ (by omega) (by omega)⟩) (by rw [hk _ _ (by omega) (by omega)]; exact Int.le_refl _) (fun f a b => hm _ _ (by omega)) hAm.1 hAm.2 (hR.A h1 h2 h3 h4)
      · have hh : ∀ f k, ¬ ((f = 100 ∨ f = 104 ∨ f = 105 ∨ f = 112) ∧ k = mj s i) → f ≠ 312 → f ≠ 313 → κ1 f k = κ f k := fun f k x y z => hk _ _ x (by omega)
        refine ⟨by rw [hh 190 _ (by omega) (by omega) (by omega), hm 17 _ (by omega)]; exact hB.1, fun _ => ⟨?_, ?_, ?_⟩, fun z => absurd (by rw [hh 190 _ (by omega) (by omega) (by omega)]; exact hp) z⟩
        · unfold rB1
          rw [k100', k104, k105, k112, m25, m26, m28, m29, hh 102 _ (by omega) (by omega) (by omega), hh 106 _ (by omega) (by omega) (by omega), hh 107 _ (by omega) (by omega) (by omega), hh 108 _ (by omega) (by omega) (by omega), hh 109 _ (by omega) (by omega) (by omega), hh 110 _ (by omega) (by omega) (by omega), hh 111 _ (by omega) (by omega) (by omega), hh 113 _ (by omega) (by omega) (by omega), hm 27 _ (by omega), hm 30 _ (by omega), hm 31 _ (by omega), hm 32 _ (by omega), hm 33 _ (by omega), hm 34 _ (by omega), hm 35 _ (by omega), hm 6 _ (by omega)]
          exact ⟨t1, rfl, rfl, t4, t5, t6, t7, t8, t9, rfl, t11, rfl⟩
        · unfold rB2
          rw [hh 101 _ (by omega) (by omega) (by omega), k104, hh 600 _ (by omega) (by omega) (by omega), hh 601 _ (by omega) (by omega) (by omega), hh 602 _ (by omega) (by omega) (by omega)]
          exact ⟨p1, p2, p3, p4, by omega, p6⟩
        · unfold rB3
          rw [hh 101 _ (by omega) (by omega) (by omega), hh 102 _ (by omega) (by omega) (by omega), hh 103 _ (by omega) (by omega) (by omega), k104, hh 600 _ (by omega) (by omega) (by omega), hX1, m25, m26]
          exact ⟨c1, fun o => by rw [hh _ _ (by omega) (by omega) (by omega)]; exact c2 o, c3, c4, fun o z => by have := c5 o z; omega, fun _ => Int.le_refl _, fun _ => e0⟩
    obtain ⟨gR, gD⟩ := R_growData hV1 hR1 h1 h2
    have gV := growData_V hV1 s
    have fd : ∀ f k, ¬ (f = 314 ∧ k = s.toNat) → ¬ (f = 315 ∧ k = s.toNat) → s_growDataGrant κ1 s f k = κ1 f k := fun f k x y => by
      unfold s_growDataGrant
      split
      · rfl
      · rw [u2_n y, u2_n x]
    have fk : ∀ f, f = 190 ∨ f = 113 ∨ f = 290 ∨ f = 200 ∨ f = 204 → s_growDataGrant κ1 s f (mj s i) = κ f (mj s i) := fun f x => by rw [fd _ _ (by omega) (by omega), hk _ _ (by omega) (by omega)]
    have f100 : s_growDataGrant κ1 s 100 (mj s i) = 4 := by rw [fd _ _ (by omega) (by omega), k100']
    have o := R_over gV gR h1 h2 h3 h4 (by rw [fk 204 (by omega)]; exact k204) (by rw [fk 113 (by omega)]; exact k113) (fun x y z => by
      rw [fk 113 (by omega)] at z
      obtain ⟨w1, w2⟩ := (hIo y).mp z
      omega)
    refine ⟨O, o.1, ?_⟩
    obtain ⟨fo, fo2, fo3⟩ := growIfOver_o (κ := s_growDataGrant κ1 s) (s := s) h3
    have all : ∀ f k, f = 100 ∨ f = 102 ∨ f = 106 ∨ f = 107 ∨ f = 113 ∨ f = 200 → k ≠ mj s i → s_growIfOver (s_growDataGrant κ1 s) s i f k = κ f k := fun f k x y => by
      by_cases w : f = 113
      · rw [w, fo2 k y, fd _ _ (by omega) (by omega), hk _ _ (by omega) (by omega)]
      · rw [fo _ _ w (by omega) (by omega), fd _ _ (by omega) (by omega), hk _ _ (by omega) (by omega)]
    refine Inv_st hI h1 h2 h3 h4 all (fun f k x => by rw [fo _ _ (by omega) (by omega) (by omega), fd _ _ (by omega) (by omega), hk _ _ (by omega) (by omega)]) (fun f k x y => by rw [fo _ _ (by omega) (by omega) (by omega), fd _ _ (by omega) (by omega), hk _ _ (by omega) (by omega)]) (fun k x => by rw [fo3 _ x, fd _ _ (by omega) (by omega), hk _ _ (by omega) (by omega)]) (iD_cg (fun f x => fo _ _ (by omega) (by omega) (by omega)) (fo3 _ (by omega)) gD) (fun _ y => ?_) o.2
    rw [fo 100 _ (by omega) (by omega) (by omega), f100] at y
    omega
  · have g26 : 0 ≤ μ 26 (mj s i) := by
      by_cases z : μ 28 (mj s i) = 0
      · by_cases w : 0 ≤ μ 26 (mj s i)
        · exact w
        · rw [t12, if_pos z, if_neg w] at hl; omega
      · exact c7 (by omega)
    have e26 := q6 g26
    have eR : s_reach κ s i p e 1 = u2 (u2 κ 312 s.toNat (κ 312 s.toNat + (e - μ 25 (mj s i)))) 104 (mj s i) e := by
      unfold s_reach
      rw [if_pos el, hmax.1, hmax.2]
    rw [eR, if_neg (by rw [hrv]; omega)]
    have ka : ∀ f k, ¬ (f = 312 ∧ k = s.toNat) → ¬ (f = 104 ∧ k = mj s i) → (u2 (u2 κ 312 s.toNat (κ 312 s.toNat + (e - μ 25 (mj s i)))) 104 (mj s i) e) f k = κ f k := fun f k x y => by rw [u2_n y, u2_n x]
    have km : ∀ f k, ¬ ((f = 25 ∨ f = 26) ∧ k = mj s i) → (u2 (u2 μ 25 (mj s i) e) 26 (mj s i) e) f k = μ f k := fun f k x => by rw [u2_n (by omega), u2_n (by omega)]
    have n25 : (u2 (u2 μ 25 (mj s i) e) 26 (mj s i) e) 25 (mj s i) = e := by rw [u2_f (by omega), u2_s]
    have n26 : (u2 (u2 μ 25 (mj s i) e) 26 (mj s i) e) 26 (mj s i) = e := u2_s _ _ _ _
    have hX1 : ∀ t j : Int, mX (u2 (u2 μ 25 (mj s i) e) 26 (mj s i) e) t j = mX μ t j := fun t j => by rw [mX_u (by decide), mX_u (by decide)]
    have hR' := take_R (κ' := u2 (u2 κ 312 s.toNat (κ 312 s.toNat + (e - μ 25 (mj s i)))) 104 (mj s i) e) (μ' := u2 (u2 μ 25 (mj s i) e) 26 (mj s i) e) hV hR h1 h2 h3 h4 hp (R3 := (κ 101 (mj s i)).toNat) (fun f k y1 y2 y3 y4 y5 y6 => ka f k (by omega) (by omega)) (by rw [ka _ _ (by omega) (by omega)]; exact Int.le_refl _) (by rw [ka _ _ (by omega) (by omega)]; omega) (by omega) (by rw [ka _ _ (by omega) (by omega)]; omega) (Or.inl (by omega)) (by rw [ka _ _ (by omega) (by omega)]; exact p3) (by rw [ka _ _ (by omega) (by omega)]; exact p6) (by rw [ka _ _ (by omega) (by omega), n25]; omega) (by rw [u2_s, n25]) (by rw [ka _ _ (by omega) (by omega), n26]; omega) (by rw [u2_f (by omega), u2_s, n25]) (fun o => by rw [ka _ _ (by omega) (by omega), hX1]; exact c2 o) (by rw [ka _ _ (by omega) (by omega)]; exact c1) (fun o ho => by
        rw [ka _ _ (by omega) (by omega)] at ho
        rw [hX1]; exact c3 o ho) (by rw [ka _ _ (by omega) (by omega), hX1]; exact c4) (fun o z => by
        rw [hX1] at z
        rw [ka _ _ (by omega) (by omega), n25]
        have := c5 o z
        omega) (by rw [ka 100 _ (by omega) (by omega), ka 103 _ (by omega) (by omega), n26, e26]; exact t12) (fun f k x y => km f k x) (fun _ => by rw [n26]; exact e26) (fun _ => by rw [n25, n26]; exact Int.le_refl _) (by rw [n25]; exact qr) (fun t j _ _ _ => hX1 t j) (mHz_cg (fun f k x => km f k (by omega)) hR.2.2.2)
    exact ⟨_, hR', Inv_cg hI (fun f k z => ka _ _ (by omega) (by omega)) (fun k z => ka _ _ (by omega) (by omega))⟩
end R36
