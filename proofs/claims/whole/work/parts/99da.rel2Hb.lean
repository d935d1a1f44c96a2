section R35b
variable {κ μ κ' μ' κ1 μ1 κc μc : Nat → Nat → Int} {O O' : Nat → Nat}
set_option maxHeartbeats 8000000 in
theorem take_dead (hV : mV μ) (hK : kQ κ) (hR : kRel κ μ O) (hI : kInv κ) (hP : mP2 μ) {s i p g e : Int} (h1 : 0 ≤ s) (h2 : s ≤ 1) (h3 : 0 ≤ i) (h4 : i < 256) (hp : κ 190 (mj s i) = 1) (hT : fT κ μ O p) (k3 : ¬ κ 3 p.toNat = 4) (hg : g = if μ 48 0 = 1 then 1 else 0) (he : e = μ 47 0 + μ 49 0)
    (q6 : 0 ≤ μ 26 (mj s i) → e ≤ μ 26 (mj s i) ∧ (g = 1 → e = μ 26 (mj s i))) (q6' : g = 1 → μ 25 (mj s i) ≤ e) (q3 : e ≤ 65536) (qr : μ 25 (mj s i) < e → v_received μ s + (e - μ 25 (mj s i)) ≤ μ 11 s.toNat)
    (hm1 : ∀ f k, ¬ ((f = 25 ∨ f = 26) ∧ k = mj s i) → μ1 f k = μ f k) (m25 : μ1 25 (mj s i) = if e ≤ μ 25 (mj s i) then μ 25 (mj s i) else e) (m26 : μ1 26 (mj s i) = if g = 1 then e else μ 26 (mj s i)) (hV1 : mV μ1) (hP1 : mP2 μ1) (el : v_rLive κ s i = 0) (hl : ¬ (κ 100 (mj s i) = 0 ∨ κ 100 (mj s i) = 1)) :
    ∃ O', kRel (s_reach κ s i p e g) (s_takeStream_77 μ' s 2049 0 (v_receiving μ s i) i μ1) O' ∧ kInv (s_reach κ s i p e g) := by
  obtain ⟨a1, a2, a3, a4, a5, a6, a7, a8⟩ := hT
  have hB := hR.B h1 h2 h3 h4
  obtain ⟨b1, b2', b3⟩ := hB.2.1 hp
  obtain ⟨t1, t2, t3, t4, t5, t6, t7, t8, t9, t10, t11, t12⟩ := b1
  obtain ⟨c1, c2, c3, c4, c5, c6, c7⟩ := b3
  obtain ⟨p1, p2, p3, p4, p5, p6⟩ := b2'
  have v25 : 0 ≤ μ 25 (mj s i) ∧ μ 25 (mj s i) ≤ 65536 := hV 25 _
  have v26 : -1 ≤ μ 26 (mj s i) ∧ μ 26 (mj s i) ≤ 65536 := hV 26 _
  have v27 : 0 ≤ μ 27 (mj s i) ∧ μ 27 (mj s i) ≤ 65536 := hV 27 _
  have v28 : 0 ≤ μ 28 (mj s i) ∧ μ 28 (mj s i) ≤ 1 := hV 28 _
  have v47 : 0 ≤ μ 47 0 := (hV 47 0).1
  have v49 : 0 ≤ μ 49 0 ∧ μ 49 0 ≤ 2048 := hV 49 0
  have k2 : 2 ≤ κ 602 0 := hR.1.2.2.2.2.2.2.2
  have hg01 : g = 0 ∨ g = 1 := by rw [hg]; split <;> omega
  have hrv := rB_recv hV h1 hB hp
  obtain ⟨le1, le2⟩ := rB_le hB hp (by omega) p6
  have k204 : 0 ≤ κ 204 (mj s i) := (hK _).1
  have k113 : 0 ≤ κ 113 (mj s i) ∧ κ 113 (mj s i) ≤ 1 := ⟨(hK _).2.1, (hK _).2.2.1⟩
  have hIo := ((hI s h1 h2).2 i h3 h4).2 hp
  have hX1 : ∀ t j : Int, mX μ1 t j = mX μ t j := fun t j => mX_cg (fun f hf k => by
    simp only [List.elem_eq_mem, decide_eq_true_eq, List.mem_cons, List.not_mem_nil, or_false] at hf
    exact hm1 f k (by omega))
  have hZ1 : mHz μ1 := mHz_cg (fun f k x => hm1 f k (by omega)) hR.2.2.2
  have hmax : v_maxI 0 (e - κ 104 (mj s i)) = μ1 25 (mj s i) - μ 25 (mj s i) ∧ v_maxI (κ 104 (mj s i)) e = μ1 25 (mj s i) := by
    rw [m25, t2]
    unfold v_maxI
    constructor
    · repeat' split
      all_goals omega
    · repeat' split
      all_goals omega
  have h26' : 0 ≤ μ1 26 (mj s i) → μ1 25 (mj s i) ≤ μ1 26 (mj s i) := fun z => by
    rw [m26] at z ⊢
    rw [m25]
    by_cases w : g = 1
    · rw [if_pos w]
      have := q6' w
      split <;> omega
    · rw [if_neg w] at z ⊢
      have := (q6 z).1
      have := c6 z
      split <;> omega
  have hrec : v_received μ s + (μ1 25 (mj s i) - μ 25 (mj s i)) ≤ μ 11 s.toNat := by
    rw [m25]
    split
    · have := (hR.S h1 h2).2.2.2.2.2.2.2.2.2.2.2.2.1
      have e5 := (hR.S h1 h2).2.2.2.2.1
      have e7 := (hR.S h1 h2).2.2.2.2.2.2.1
      omega
    · have := qr (by omega)
      omega
  have g26 : 0 ≤ μ 26 (mj s i) := by
    by_cases z : μ 28 (mj s i) = 0
    · by_cases w : 0 ≤ μ 26 (mj s i)
      · exact w
      · rw [t12, if_pos z, if_neg w] at hl; omega
    · exact c7 (by omega)
  have e26 : μ1 26 (mj s i) = μ 26 (mj s i) := by
    rw [m26]
    split
    · rename_i w; exact (q6 g26).2 w
    · rfl
  have eR : s_reach κ s i p e g = u2 (u2 κ 312 s.toNat (κ 312 s.toNat + v_maxI 0 (e - κ 104 (mj s i)))) 104 (mj s i) (v_maxI (κ 104 (mj s i)) e) := by
    unfold s_reach
    rw [if_pos el]
  have eT : s_takeStream_77 μ' s 2049 0 (v_receiving μ s i) i μ1 = s_looksOver μ1 s i := by
    rw [s_takeStream_77]
    split
    · rfl
    · rw [if_pos]
      have := v_receiving_b μ s i
      omega
  rw [eR, eT, hmax.1, hmax.2]
  have ka : ∀ f k, ¬ (f = 312 ∧ k = s.toNat) → ¬ (f = 104 ∧ k = mj s i) → (u2 (u2 κ 312 s.toNat (κ 312 s.toNat + (μ1 25 (mj s i) - μ 25 (mj s i)))) 104 (mj s i) (μ1 25 (mj s i))) f k = κ f k := fun f k x y => by rw [u2_n y, u2_n x]
  have hR' : kRel (u2 (u2 κ 312 s.toNat (κ 312 s.toNat + (μ1 25 (mj s i) - μ 25 (mj s i)))) 104 (mj s i) (μ1 25 (mj s i))) μ1 (rcO O (κ 602 0) (mj s i)) := by
    refine take_R hV hR h1 h2 h3 h4 hp (R3 := (κ 101 (mj s i)).toNat) (fun f k y1 y2 y3 y4 y5 y6 => ka f k (by omega) (by omega)) (by rw [ka _ _ (by omega) (by omega)]; exact Int.le_refl _) (by rw [ka _ _ (by omega) (by omega)]; omega) (by omega) (by rw [ka _ _ (by omega) (by omega)]; omega) (Or.inl (by omega)) (by rw [ka _ _ (by omega) (by omega)]; exact p3) (by rw [ka _ _ (by omega) (by omega)]; exact p6) ?_ (by rw [u2_s]) (by rw [ka _ _ (by omega) (by omega), e26]; exact t3) (by rw [u2_f (by omega), u2_s]) (fun o => by rw [ka _ _ (by omega) (by omega), hX1]; exact c2 o) (by rw [ka _ _ (by omega) (by omega)]; exact c1) (fun o ho => ?_) ?_ (fun o z => ?_) ?_ (fun f k x y => hm1 f k x) (fun _ => e26) h26' hrec (fun t j _ _ _ => hX1 t j) hZ1
    · rw [ka _ _ (by omega) (by omega), m25]; split <;> omega
    · rw [ka _ _ (by omega) (by omega)] at ho
      rw [hX1]; exact c3 o ho
    · rw [ka _ _ (by omega) (by omega), hX1]; exact c4
    · rw [hX1] at z
      rw [ka _ _ (by omega) (by omega)]
      have := c5 o z
      refine ⟨?_, this.2⟩
      rw [m25]; split <;> omega
    · rw [ka 100 _ (by omega) (by omega), ka 103 _ (by omega) (by omega), e26]; exact t12
  have hI' : kInv (u2 (u2 κ 312 s.toNat (κ 312 s.toNat + (μ1 25 (mj s i) - μ 25 (mj s i)))) 104 (mj s i) (μ1 25 (mj s i))) := Inv_cg hI (fun f k z => ka _ _ (by omega) (by omega)) (fun k z => ka _ _ (by omega) (by omega))
  rw [over_same hV1 hR' h1 h2 h3 h4 (by rw [ka _ _ (by omega) (by omega)]; exact k204) ((hI' s h1 h2).2 i h3 h4).2]
  exact ⟨_, hR', hI'⟩
/-- the class's numbers, before the bytes come in -/
theorem reach_ka {s i p e g M25 M26 d : Int} (el : v_rLive κ s i = 1) (k3 : ¬ κ 3 p.toNat = 4) (m1 : v_maxI 0 (e - κ 104 (mj s i)) = d) (m2 : v_maxI (κ 104 (mj s i)) e = M25) (m3 : g = 0 → κ 105 (mj s i) = M26) (m4 : ¬ g = 0 → e = M26) :
    ∃ κa, s_reach κ s i p e g = s_growIfOver (s_settle (s_bringIn κa s i p (e - κ 9 p.toNat)) s i) s i ∧ (∀ f k, ¬ (f = 312 ∧ k = s.toNat) → ¬ (f = 104 ∧ k = mj s i) → ¬ (f = 105 ∧ k = mj s i) → κa f k = κ f k) ∧ κa 104 (mj s i) = M25 ∧ κa 312 s.toNat = κ 312 s.toNat + d ∧ κa 105 (mj s i) = M26 := by
  by_cases w : g = 0
  · refine ⟨u2 (u2 κ 312 s.toNat (κ 312 s.toNat + v_maxI 0 (e - κ 104 (mj s i)))) 104 (mj s i) (v_maxI (κ 104 (mj s i)) e), ?_, fun f k x y z => by rw [u2_n y, u2_n x], by rw [u2_s, m2], by rw [u2_f (by decide), u2_s, m1], by rw [u2_f (by decide), u2_f (by decide)]; exact m3 w⟩
    unfold s_reach
    rw [if_neg (by omega), if_pos w, if_neg k3]
  · refine ⟨u2 (u2 (u2 κ 312 s.toNat (κ 312 s.toNat + v_maxI 0 (e - κ 104 (mj s i)))) 104 (mj s i) (v_maxI (κ 104 (mj s i)) e)) 105 (mj s i) e, ?_, fun f k x y z => by rw [u2_n z, u2_n y, u2_n x], by rw [u2_f (by decide), u2_s, m2], by rw [u2_f (by decide), u2_f (by decide), u2_s, m1], by rw [u2_s]; exact m4 w⟩
    unfold s_reach
    rw [if_neg (by omega), if_neg w, if_neg k3]
end R35b
