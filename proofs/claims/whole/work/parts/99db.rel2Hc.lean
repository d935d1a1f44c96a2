section R35c
variable {κ μ κ' μ' κ1 μ1 κc μc : Nat → Nat → Int} {O O' : Nat → Nat}
set_option maxHeartbeats 8000000 in
theorem take_live (hV : mV μ) (hK : kQ κ) (hR : kRel κ μ O) (hI : kInv κ) (hP : mP2 μ) {s i p g e : Int} (h1 : 0 ≤ s) (h2 : s ≤ 1) (h3 : 0 ≤ i) (h4 : i < 256) (hp : κ 190 (mj s i) = 1) (hT : fT κ μ O p) (k3 : ¬ κ 3 p.toNat = 4) (hg : g = if μ 48 0 = 1 then 1 else 0) (he : e = μ 47 0 + μ 49 0)
    (q6 : 0 ≤ μ 26 (mj s i) → e ≤ μ 26 (mj s i) ∧ (g = 1 → e = μ 26 (mj s i))) (q6' : g = 1 → μ 25 (mj s i) ≤ e) (q3 : e ≤ 65536) (qr : μ 25 (mj s i) < e → v_received μ s + (e - μ 25 (mj s i)) ≤ μ 11 s.toNat)
    (hm1 : ∀ f k, ¬ ((f = 25 ∨ f = 26) ∧ k = mj s i) → μ1 f k = μ f k) (m25 : μ1 25 (mj s i) = if e ≤ μ 25 (mj s i) then μ 25 (mj s i) else e) (m26 : μ1 26 (mj s i) = if g = 1 then e else μ 26 (mj s i)) (hV1 : mV μ1) (hP1 : mP2 μ1) (el : v_rLive κ s i = 1) (hl : κ 100 (mj s i) = 0 ∨ κ 100 (mj s i) = 1) :
    ∃ O', kRel (s_reach κ s i p e g) (s_takeStream_77 μ' s 2049 0 (v_receiving μ s i) i μ1) O' ∧ kInv (s_reach κ s i p e g) := by
  obtain ⟨a1, a2, a3, a4, a5, a6, a7, a8⟩ := hT
  have hB := hR.B h1 h2 h3 h4
  obtain ⟨b1, b2', b3⟩ := hB.2.1 hp
  obtain ⟨t1, t2, t3, t4, t5, t6, t7, t8, t9, t10, t11, t12⟩ := b1
  obtain ⟨c1, c2, c3, c4, c5, c6, c7⟩ := b3
  obtain ⟨p1, p2, p3, p4, p5, p6⟩ := b2'
  have v25 : 0 ≤ μ 25 (mj s i) ∧ μ 25 (mj s i) ≤ 65536 := hV 25 _
  have v26 : -1 ≤ μ 26 (mj s i) ∧ μ 26 (mj s i) ≤ 65536 := hV 26 _
  have v27 : 0 ≤ μ 27 (mj s i) ∧ μ 27 (mj s i) ≤ 65536 := hV 27 _
  have v28 : 0 ≤ μ 28 (mj s i) ∧ μ 28 (mj s i) ≤ 1 := hV 28 _
  have v47 : 0 ≤ μ 47 0 := (hV 47 0).1
  have v49 : 0 ≤ μ 49 0 ∧ μ 49 0 ≤ 2048 := hV 49 0
  have k2 : 2 ≤ κ 602 0 := hR.1.2.2.2.2.2.2.2
  have hg01 : g = 0 ∨ g = 1 := by rw [hg]; split <;> omega
  have hrv := rB_recv hV h1 hB hp
  obtain ⟨le1, le2⟩ := rB_le hB hp (by omega) p6
  have k204 : 0 ≤ κ 204 (mj s i) := (hK _).1
  have k113 : 0 ≤ κ 113 (mj s i) ∧ κ 113 (mj s i) ≤ 1 := ⟨(hK _).2.1, (hK _).2.2.1⟩
  have hIo := ((hI s h1 h2).2 i h3 h4).2 hp
  have hX1 : ∀ t j : Int, mX μ1 t j = mX μ t j := fun t j => mX_cg (fun f hf k => by
    simp only [List.elem_eq_mem, decide_eq_true_eq, List.mem_cons, List.not_mem_nil, or_false] at hf
    exact hm1 f k (by omega))
  have hZ1 : mHz μ1 := mHz_cg (fun f k x => hm1 f k (by omega)) hR.2.2.2
  have hmax : v_maxI 0 (e - κ 104 (mj s i)) = μ1 25 (mj s i) - μ 25 (mj s i) ∧ v_maxI (κ 104 (mj s i)) e = μ1 25 (mj s i) := by
    rw [m25, t2]
    unfold v_maxI
    constructor
    · repeat' split
      all_goals omega
    · repeat' split
      all_goals omega
  have h26' : 0 ≤ μ1 26 (mj s i) → μ1 25 (mj s i) ≤ μ1 26 (mj s i) := fun z => by
    rw [m26] at z ⊢
    rw [m25]
    by_cases w : g = 1
    · rw [if_pos w]
      have := q6' w
      split <;> omega
    · rw [if_neg w] at z ⊢
      have := (q6 z).1
      have := c6 z
      split <;> omega
  have hrec : v_received μ s + (μ1 25 (mj s i) - μ 25 (mj s i)) ≤ μ 11 s.toNat := by
    rw [m25]
    split
    · have := (hR.S h1 h2).2.2.2.2.2.2.2.2.2.2.2.2.1
      have e5 := (hR.S h1 h2).2.2.2.2.1
      have e7 := (hR.S h1 h2).2.2.2.2.2.2.1
      omega
    · have := qr (by omega)
      omega
  have z28 : μ 28 (mj s i) = 0 := by
    by_cases z : μ 28 (mj s i) = 0
    · exact z
    · rw [t12, if_neg z] at hl; omega
  obtain ⟨μ2, m1, mV2, mP2', mZ2, m5, m6, m7⟩ := comes_l (μ := μ') (s := s) (i := i) (t := v_receiving μ s i) h1 h2 h3 h4 (by rw [hrv]; omega) 2049 (μ 49 0).toNat 0 μ1 (by omega) hV1 hP1 hZ1 (by rw [hm1 _ _ (by omega)]; omega) (by rw [hm1 _ _ (by omega)]; exact v47) (by rw [hm1 _ _ (by omega), m25]; split <;> omega)
  rw [hm1 47 _ (by omega)] at m7
  simp only [hX1] at m6 m7
  have n2 : ∀ f k, ¬ ((f = 25 ∨ f = 26) ∧ k = mj s i) → ¬ (40 ≤ f ∧ f ≤ 44) → μ2 f k = μ f k := fun f k x y => by rw [m5 f k y, hm1 f k x]
  have n25 : μ2 25 (mj s i) = μ1 25 (mj s i) := m5 _ _ (by omega)
  have n26 : μ2 26 (mj s i) = μ1 26 (mj s i) := m5 _ _ (by omega)
  -- the class: its numbers first
  obtain ⟨κa, eR, ka, ka104, ka312, ka105⟩ := reach_ka (κ := κ) (s := s) (i := i) (p := p) (e := e) (g := g) (M26 := μ1 26 (mj s i)) el k3 hmax.1 hmax.2 (fun w => by rw [m26, if_neg (by rw [w]; decide)]; exact t3) (fun w => by rw [m26, if_pos (by omega)])
  have ea9 : κa 9 p.toNat = κ 9 p.toNat := ka _ _ (by omega) (by omega) (by omega)
  have ea7 : κa 7 p.toNat = κ 7 p.toNat := ka _ _ (by omega) (by omega) (by omega)
  have ea8 : κa 8 p.toNat = κ 8 p.toNat := ka _ _ (by omega) (by omega) (by omega)
  have ea101 : κa 101 (mj s i) = κ 101 (mj s i) := ka _ _ (by omega) (by omega) (by omega)
  have ea602 : κa 602 0 = κ 602 0 := ka _ _ (by omega) (by omega) (by omega)
  have ea600 : κa 600 (κ 101 (mj s i)).toNat = κ 600 (κ 101 (mj s i)).toNat := ka _ _ (by omega) (by omega) (by omega)
  have ea103 : κa 103 (mj s i) = κ 103 (mj s i) := ka _ _ (by omega) (by omega) (by omega)
  have earow : ∀ r o, κa (1000 + r) o = κ (1000 + r) o := fun r o => ka _ _ (by omega) (by omega) (by omega)
  have l1 : κ 600 (κ 101 (mj s i)).toNat ≤ 131072 := by omega
  obtain ⟨R3, hb⟩ := bring_s (κ := κa) (s := s) (i := i) (p := p) (u := e - κ 9 p.toNat) (by rw [ea602]; exact k2) (by omega) (by rw [ea9]; omega) (by rw [ea9]; omega) (by rw [ea9]; omega) (fun z => by
      rw [ea9] at z
      obtain ⟨x, y, w⟩ := a7 z
      rw [ea7, ea602, ea101]
      refine ⟨x, y, fun q => ?_⟩
      rw [q, p4] at w
      omega) (by rw [ea8]; exact a6) (by rw [ea101]; exact p1) (by rw [ea101, ea602]; exact p2) (by rw [ea101, ka 601 _ (by omega) (by omega) (by omega)]; exact p3) (by rw [ea101, ea600]; exact p6) (by
      rw [ea101, earow, c2]
      by_cases z : mX μ s i 65536 = 0
      · exact z
      · have := (c5 _ z).1
        omega) (by rw [ea103]; omega) (by rw [ea103]; omega) (by rw [ea103, ea101, ea600]; exact le2) (fun o ho => by
      rw [ea101, ea600] at ho
      rw [ea101, earow, c2]
      by_cases z : mX μ s i o = 0
      · exact z
      · have := (c5 o z).2; omega) (by rw [ea101, ea103, earow, c2]; exact c4)
  obtain ⟨x1, x2, x3, x4, x5, x6, x7, x8, x9, x10, x11, x12, x13, x14, x15⟩ := hb
  rw [ea101, ea602] at x1
  rw [ea602] at x2
  rw [ea101, ea602] at x6
  rw [ea101, ea600] at x8 x9
  rw [ea9] at x9 x10
  rw [ea103] at x12 x14
  -- cells are what has come
  have hcell : ∀ o : Nat, s_bringIn κa s i p (e - κ 9 p.toNat) (1000 + R3) o = mX μ2 s i o := fun o => by
    rw [x11 o, m7 o, ea101, ea9, ea7, ea8, earow, earow, c2]
    by_cases w : e - κ 9 p.toNat ≤ (o : Int) ∧ (o : Int) < e - κ 9 p.toNat + κ 9 p.toNat ∧ mX μ s i o = 0
    · rw [if_pos w, if_pos ⟨by omega, by omega, w.2.2⟩, a8 _ (by omega), hm1 50 _ (by omega), show o - (e - κ 9 p.toNat).toNat = o - (μ 47 0).toNat by omega]
    · rw [if_neg w, if_neg (fun z => w ⟨by omega, by omega, z.2.2⟩)]
  obtain ⟨κb, hκb⟩ : ∃ κb, κb = s_bringIn κa s i p (e - κ 9 p.toNat) := ⟨_, rfl⟩
  rw [← hκb] at x1 x2 x3 x5 x7 x8 x9 x10 x12 x13 x14 x15 hcell
  have eR' : s_reach κ s i p e g = s_growIfOver (s_settle κb s i) s i := by rw [eR, hκb]
  have m1' : s_takeStream_77 μ' s 2049 0 (v_receiving μ s i) i μ1 = s_looksOver μ2 s i := m1
  rw [eR', m1']
  have kb : ∀ f k, ¬ ((f = 101 ∨ f = 103 ∨ f = 104 ∨ f = 105) ∧ k = mj s i) → ¬ (f = 312 ∧ k = s.toNat) → ¬ ((f = 600 ∨ f = 601) ∧ κ 602 0 ≤ (k : Int)) → ¬ (1000 ≤ f ∧ κ 602 0 ≤ ((f - 1000 : Nat) : Int)) → f ≠ 602 → f ≠ 1000 + (κ 101 (mj s i)).toNat → κb f k = κ f k := fun f k y1 y2 y3 y4 y5 y6 => by
    rw [x1 f k (by omega) y3 y4 y5 y6, ka f k (by omega) (by omega) (by omega)]
  have kb102 : κb 102 (mj s i) = κ 102 (mj s i) := kb _ _ (by omega) (by omega) (by omega) (by omega) (by omega) (by omega)
  have kb100 : κb 100 (mj s i) = κ 100 (mj s i) := kb _ _ (by omega) (by omega) (by omega) (by omega) (by omega) (by omega)
  have kb105 : κb 105 (mj s i) = μ1 26 (mj s i) := by rw [x1 _ _ (by omega) (by omega) (by omega) (by omega) (by omega), ka105]
  have kb104 : κb 104 (mj s i) = μ1 25 (mj s i) := by rw [x1 _ _ (by omega) (by omega) (by omega) (by omega) (by omega), ka104]
  have kb312 : κb 312 s.toNat = κ 312 s.toNat + (μ1 25 (mj s i) - μ 25 (mj s i)) := by rw [x1 _ _ (by omega) (by omega) (by omega) (by omega) (by omega), ka312]
  have kin : ∀ o : Nat, ¬ mX μ2 s i o = 0 → (o : Int) < μ1 25 (mj s i) ∧ (o : Int) < κb 600 R3 := fun o z => by
    rw [m7 o] at z
    by_cases w : μ 47 0 + ((0 : Nat) : Int) ≤ (o : Int) ∧ (o : Int) < μ 47 0 + ((0 : Nat) : Int) + ((μ 49 0).toNat : Int) ∧ mX μ s i o = 0
    · have := x10 (by omega)
      refine ⟨?_, by omega⟩
      rw [m25]; split <;> omega
    · rw [if_neg w] at z
      obtain ⟨y1, y2⟩ := c5 o z
      refine ⟨?_, by omega⟩
      rw [m25]; split <;> omega
  have ready : κb 103 (mj s i) ≤ μ1 25 (mj s i) := by
    by_cases z : κb 103 (mj s i) ≤ 0
    · rw [m25]; split <;> omega
    · by_cases w : κb 103 (mj s i) = κ 103 (mj s i)
      · rw [m25, w]; split <;> omega
      · have := (kin (κb 103 (mj s i) - 1).toNat (by rw [← hcell]; exact x14 _ (by omega) (by omega))).1
        omega
  have old : ∀ o : Nat, ¬ mX μ s i o = 0 → ¬ mX μ2 s i o = 0 := fun o z => by
    rw [m7 o, if_neg (fun w => z w.2.2)]; exact z
  have y9 : κb 600 R3 ≤ 2 * μ2 25 (mj s i) := by
    rw [n25]
    rcases x9 with z | z
    · rw [z, m25]; split <;> omega
    · rw [m25]; split <;> omega
  have y8 : 0 ≤ κb 600 R3 := by omega
  have w26 : 0 ≤ μ 26 (mj s i) → 0 ≤ μ2 26 (mj s i) := fun y => by
    rw [n26, m26]
    split
    · omega
    · exact y
  have hRs := live_a hV hR h1 h2 h3 h4 hp (R3 := R3) z28 w26 (by rw [n25, n26]; exact h26') (by rw [n25]; exact hrec) kb x2 x3 x4 x5 x6 x7 y8 y9 hcell x12 x14 x15 (by rw [n25]; exact kb104) (by rw [n26]; exact kb105) (by rw [n25]; exact kb312) kb102 kb100 (fun o z => by rw [n25]; exact kin o z) old (by rw [n25]; exact ready) n2 m6 mZ2
  refine live_b hK hI h1 h2 h3 h4 hp hl mV2 hRs (fun f k y1 y2 y3 => ?_) (fun y => ?_)
  · clear hRs
    rw [settle_e, u2_n (fun z => y2 ⟨Or.inl z.1, z.2⟩), kb f k (fun z => y2 ⟨Or.inr z.1, z.2⟩) (fun z => y3 z.1) (by omega) (by omega) (by omega) (by omega)]
  · rw [settle_e, u2_s, kb100] at y
    by_cases w : 0 ≤ κb 105 (mj s i)
    · rw [if_pos w] at y
      exfalso
      revert y
      repeat' split
      all_goals omega
    · rw [if_neg w] at y
      exact y
/-- bytes of a stream are taken: both were there -/
theorem take_stream (hV : mV μ) (hK : kQ κ) (hR : kRel κ μ O) (hI : kInv κ) (hP : mP2 μ) {s i p g e : Int} (h1 : 0 ≤ s) (h2 : s ≤ 1) (h3 : 0 ≤ i) (h4 : i < 256) (hp : κ 190 (mj s i) = 1) (hT : fT κ μ O p) (k3 : ¬ κ 3 p.toNat = 4) (hg : g = if μ 48 0 = 1 then 1 else 0) (he : e = μ 47 0 + μ 49 0)
    (q6 : 0 ≤ μ 26 (mj s i) → e ≤ μ 26 (mj s i) ∧ (g = 1 → e = μ 26 (mj s i))) (q6' : g = 1 → μ 25 (mj s i) ≤ e) (q3 : e ≤ 65536) (qr : μ 25 (mj s i) < e → v_received μ s + (e - μ 25 (mj s i)) ≤ μ 11 s.toNat)
    (hm1 : ∀ f k, ¬ ((f = 25 ∨ f = 26) ∧ k = mj s i) → μ1 f k = μ f k) (m25 : μ1 25 (mj s i) = if e ≤ μ 25 (mj s i) then μ 25 (mj s i) else e) (m26 : μ1 26 (mj s i) = if g = 1 then e else μ 26 (mj s i)) (hV1 : mV μ1) (hP1 : mP2 μ1) :
    ∃ O', kRel (s_reach κ s i p e g) (s_takeStream_77 μ' s 2049 0 (v_receiving μ s i) i μ1) O' ∧ kInv (s_reach κ s i p e g) := by
  rcases rLive_c κ s i with ⟨el, hl⟩ | ⟨el, hl⟩
  · exact take_live hV hK hR hI hP h1 h2 h3 h4 hp hT k3 hg he q6 q6' q3 qr hm1 m25 m26 hV1 hP1 el hl
  · exact take_dead hV hK hR hI hP h1 h2 h3 h4 hp hT k3 hg he q6 q6' q3 qr hm1 m25 m26 hV1 hP1 el hl
end R35c
