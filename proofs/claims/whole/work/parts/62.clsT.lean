section KU
variable {L : Launch} {G : mmG} {B : Nat → Nat → Nat} {bx : Nat → Option (Nat × Nat)} {h0 : mmH} {κ : Nat → Nat → Int}
def kLa (G : mmG) (B : Nat → Nat → Nat) (bx : Nat → Option (Nat × Nat)) (h0 h1 : mmH) (κ : Nat → Nat → Int) (e c2 : Int) (S : Nat → Nat → Int) : Option Value → mmH → Prop := fun r h => (e = 0 ∧ r = some (.int (iI 0)) ∧ ∃ B' bx', h = hk G B' bx' h1 S ∧ kx B' bx' S ∧ kV S ∧ kaw h0 bx B κ bx' B' S) ∨ (¬ e = 0 ∧ r = some (.int (iI (kCd c2 e))) ∧ h = hk G B bx h0 κ)
theorem e_kFeed_16_0 {n v : Int} : ∀ (d : Nat) (k : Int) (ν : Nat → Nat → Int), e_kFeed_16 κ n v d k ν = 0
  | 0, _, _ => rfl
  | d + 1, k, ν => by
    have ih := e_kFeed_16_0 (n := n) (v := v) d
    rw [e_kFeed_16]
    repeat' split
    all_goals first | rfl | exact ih _ _
theorem e_kOuts_18_0 {q : Int} : ∀ (d : Nat) (a b c : Int), e_kOuts_18 κ q d a b c = 0
  | 0, _, _, _ => rfl
  | d + 1, a, b, c => by
    have ih := e_kOuts_18_0 (q := q) d
    rw [e_kOuts_18]
    repeat' split
    all_goals first | rfl | exact ih _ _ _
theorem kData_b {p q : Int} : 0 ≤ v_kData κ p q ∧ v_kData κ p q ≤ 255 := by
  unfold v_kData
  repeat' split
  all_goals omega
theorem e_kJoin_b : e_kJoin κ = 0 ∨ e_kJoin κ = 2 := by
  have := e_needJoined_b (κ := κ)
  unfold e_kJoin
  repeat' split
  all_goals omega
set_option maxRecDepth 100000 in
theorem m_L_join (hF : mm_F G) (htr : L.stackTraces = false) (hx : kx B bx κ) (hV : kV κ) {a0 : Nat} (ea0 : a0 = B 5 0) (g08 : κ 360 8 ≤ 64) (g09 : κ 360 9 ≤ 64) (g18 : κ 360 24 ≤ 64) (g19 : κ 360 25 ≤ 64) :
    mm_Met L G SL_join [.ref a0] (hk G B bx h0 κ) 1 6 (kLn G B bx h0 h0 κ (e_kJoin κ) 1 (s_kJoin κ)) mm_no := by
  refine mi_meth ML_join 60 hF htr okL_join (av := [aR a0]) (by decide +kernel) (Nat.le_of_ble_eq_true rfl) cmL_join (fun θ hc => ?_)
  refine ⟨⟨_, hk_o5 hx rfl ea0⟩, _, _, _, _, m_kJoin hF htr hx hV ea0 g08 g09 g18 g19, (by first | exact Nat.le_of_ble_eq_true rfl | omega), (by first | exact Nat.le_of_ble_eq_true rfl | omega), fun w_ hh_ q_ => ?_, fun E_ hh_ q_ => ?_⟩
  · obtain ⟨he, ⟨rfl, rfl⟩, hx1, hV1⟩ := q_
    refine ⟨none, rfl, ?_⟩
    exact ⟨Or.inl ⟨he, rfl, rfl, hx1, hV1⟩, (by first | exact Nat.le_of_ble_eq_true rfl | omega), (by first | exact Nat.le_of_ble_eq_true rfl | omega)⟩
  · have eb := e_kJoin_b (κ := κ)
    obtain ⟨rfl, z1, z2, z3, y1, y2, y3, y⟩ := kThr_e q_
    refine ⟨fun n k hm hE => ?_, ?_⟩
    · have hm' : (n, k) ∈ [(1, 3)] := hm
      simp only [List.mem_cons, Prod.mk.injEq, List.not_mem_nil, or_false] at hm'
      obtain ⟨rfl, rfl⟩ := hm'
      have e1 := z2 hE
      intro _
      exact ⟨Or.inr ⟨by omega, by rw [e1]; rfl, rfl⟩, (by first | exact Nat.le_of_ble_eq_true rfl | omega), (by first | exact Nat.le_of_ble_eq_true rfl | omega)⟩
    · exact ⟨1, 3, List.mem_cons_self, y2 (by omega)⟩
theorem e_kFeed_b {n v : Int} : e_kFeed κ n v = 0 ∨ e_kFeed κ n v = 1 ∨ e_kFeed κ n v = 2 := by
  have := e_needJoined_b (κ := κ)
  unfold e_kFeed
  simp only [e_kFeed_16_0]
  repeat' split
  all_goals omega
set_option maxRecDepth 100000 in
theorem m_L_feed (hF : mm_F G) (htr : L.stackTraces = false) (hx : kx B bx κ) (hV : kV κ) {n v : Int} {a0 : Nat} (ea0 : a0 = B 5 0) (h1 : -2147483648 ≤ n) (h1a : n < 2147483648) (h2 : -9223372036854775808 ≤ v) (h2a : v < 9223372036854775808) (ha4 : 0 < κ 602 0) (hk4 : κ 601 0 = 2) (hl4 : 2048 ≤ κ 600 0) {ao : Nat} {o : Nat → Int} (hbo : bx ao = none) (hao : h0 ao = some (.inl (mm_dA G 1, 1, .inr (.inl (fun q => iL (o q)))))) :
    mm_Met L G SL_feed [.ref a0, .int (iI n), .long (iL v), .ref ao] (hk G B bx h0 κ) 1 6 (kLn G B bx h0 (kOut G h0 ao o (v_kFeed κ n v)) κ (e_kFeed κ n v) 2 (s_kFeed κ n v)) mm_no := by
  refine mi_meth ML_feed 60 hF htr okL_feed (av := [aR a0, aI n, aL v, aR ao]) (by decide +kernel) (Nat.le_of_ble_eq_true rfl) cmL_feed (fun θ hc => ?_)
  refine ⟨⟨_, hk_o5 hx rfl ea0⟩, _, _, _, _, m_kFeed hF htr hx hV ea0 h1 h1a h2 h2a ha4 hk4 hl4, (by first | exact Nat.le_of_ble_eq_true rfl | omega), (by first | exact Nat.le_of_ble_eq_true rfl | omega), fun w_ hh_ q_ => ?_, fun E_ hh_ q_ => ?_⟩
  · obtain ⟨he, ⟨rfl, rfl⟩, hx1, hV1, hp⟩ := q_
    refine ⟨some (aI (v_kFeed κ n v)), rfl, ?_⟩
    have hp : -100 ≤ (v_kFeed κ n v) ∧ (v_kFeed κ n v) ≤ 70000 := hp
    refine ⟨by omega, ?_⟩
    refine ⟨1, o, _, (hk_rest hbo).trans hao, by omega, hk_fl hbo, ?_⟩
    exact ⟨Or.inl ⟨he, rfl, rfl, hx1, hV1⟩, (by first | exact Nat.le_of_ble_eq_true rfl | omega), (by first | exact Nat.le_of_ble_eq_true rfl | omega)⟩
  · have eb := e_kFeed_b (κ := κ) (n := n) (v := v)
    obtain ⟨rfl, z1, z2, z3, y1, y2, y3, y⟩ := kThr_e q_
    refine ⟨fun n k hm hE => ?_, ?_⟩
    · have hm' : (n, k) ∈ [(0, 9), (1, 12)] := hm
      simp only [List.mem_cons, Prod.mk.injEq, List.not_mem_nil, or_false] at hm'
      rcases hm' with ⟨rfl, rfl⟩ | ⟨rfl, rfl⟩
      · have e1 := z1 hE
        intro _
        exact ⟨Or.inr ⟨by omega, by rw [e1]; rfl, rfl⟩, (by first | exact Nat.le_of_ble_eq_true rfl | omega), (by first | exact Nat.le_of_ble_eq_true rfl | omega)⟩
      · have e1 := z2 hE
        intro _
        exact ⟨Or.inr ⟨by omega, by rw [e1]; rfl, rfl⟩, (by first | exact Nat.le_of_ble_eq_true rfl | omega), (by first | exact Nat.le_of_ble_eq_true rfl | omega)⟩
    · rcases (show (e_kFeed κ n v) = 1 ∨ (e_kFeed κ n v) = 2 by omega) with w | w
      · exact ⟨0, 9, List.mem_cons_self, y1 w⟩
      · exact ⟨1, 12, List.mem_cons_of_mem _ List.mem_cons_self, y2 w⟩
theorem e_kOpen_b {s p : Int} : e_kOpen κ s p = 0 ∨ e_kOpen κ s p = 1 ∨ e_kOpen κ s p = 2 := by
  have := e_sideAt_b (κ := κ) (s := s)
  have := e_needJoined_b (κ := κ)
  unfold e_kOpen
  repeat' split
  all_goals omega
set_option maxRecDepth 100000 in
theorem m_L_open (hF : mm_F G) (htr : L.stackTraces = false) (hx : kx B bx κ) (hV : kV κ) (hW : kW κ) {s p : Int} {a0 : Nat} (ea0 : a0 = B 5 0) (h1 : -2147483648 ≤ s) (h1a : s < 2147483648) (h3 : p = 0 ∨ p = 1) (hO : ∀ s w : Int, 0 ≤ s → s ≤ 1 → (w = 0 ∨ w = 1) → κ 400 ((2 * s) + w).toNat < κ 401 ((2 * s) + w).toNat → ¬ κ 290 (mj s ((((κ 400 ((2 * s) + w).toNat) * 4) + (w * 2)) + s)) = 1 ∧ ¬ κ 190 (mj s ((((κ 400 ((2 * s) + w).toNat) * 4) + (w * 2)) + s)) = 1) {ao : Nat} {o : Nat → Int} (hbo : bx ao = none) (hao : h0 ao = some (.inl (mm_dA G 1, 1, .inr (.inl (fun q => iL (o q)))))) :
    mm_Met L G SL_open [.ref a0, .int (iI s), .int (iI p), .ref ao] (hk G B bx h0 κ) 7 38 (kLa G B bx h0 (kOut G h0 ao o (v_kOpen κ s p)) κ (e_kOpen κ s p) 2 (s_kOpen κ s p)) mm_no := by
  refine mi_meth ML_open 60 hF htr okL_open (av := [aR a0, aI s, aI p, aR ao]) (by decide +kernel) (Nat.le_of_ble_eq_true rfl) cmL_open (fun θ hc => ?_)
  refine ⟨⟨_, hk_o5 hx rfl ea0⟩, _, _, _, _, m_kOpen hF htr hx hV hW ea0 h1 h1a h3 hO, (by first | exact Nat.le_of_ble_eq_true rfl | omega), (by first | exact Nat.le_of_ble_eq_true rfl | omega), fun w_ hh_ q_ => ?_, fun E_ hh_ q_ => ?_⟩
  · obtain ⟨he, rfl, B1, bx1, rfl, hx1, hV1, hA1, hp⟩ := q_
    have hb1 : bx1 ao = none := (hA1.2.2 ao (by rw [hao]; exact fun z => nomatch z)).trans hbo
    refine ⟨some (aI (v_kOpen κ s p)), rfl, ?_⟩
    have hp : -100 ≤ (v_kOpen κ s p) ∧ (v_kOpen κ s p) ≤ 70000 := hp
    refine ⟨by omega, ?_⟩
    refine ⟨1, o, _, (hk_rest hb1).trans hao, by omega, hk_fl hb1, ?_⟩
    exact ⟨Or.inl ⟨he, rfl, B1, bx1, rfl, hx1, hV1, hA1⟩, (by first | exact Nat.le_of_ble_eq_true rfl | omega), (by first | exact Nat.le_of_ble_eq_true rfl | omega)⟩
  · have eb := e_kOpen_b (κ := κ) (s := s) (p := p)
    obtain ⟨rfl, z1, z2, z3, y1, y2, y3, y⟩ := kThr_e q_
    refine ⟨fun n k hm hE => ?_, ?_⟩
    · have hm' : (n, k) ∈ [(0, 9), (1, 12)] := hm
      simp only [List.mem_cons, Prod.mk.injEq, List.not_mem_nil, or_false] at hm'
      rcases hm' with ⟨rfl, rfl⟩ | ⟨rfl, rfl⟩
      · have e1 := z1 hE
        intro _
        exact ⟨Or.inr ⟨by omega, by rw [e1]; rfl, rfl⟩, (by first | exact Nat.le_of_ble_eq_true rfl | omega), (by first | exact Nat.le_of_ble_eq_true rfl | omega)⟩
      · have e1 := z2 hE
        intro _
        exact ⟨Or.inr ⟨by omega, by rw [e1]; rfl, rfl⟩, (by first | exact Nat.le_of_ble_eq_true rfl | omega), (by first | exact Nat.le_of_ble_eq_true rfl | omega)⟩
    · rcases (show (e_kOpen κ s p) = 1 ∨ (e_kOpen κ s p) = 2 by omega) with w | w
      · exact ⟨0, 9, List.mem_cons_self, y1 w⟩
      · exact ⟨1, 12, List.mem_cons_of_mem _ List.mem_cons_self, y2 w⟩
theorem e_kWrite_b {s i : Int} : e_kWrite κ s i = 0 ∨ e_kWrite κ s i = 1 := by
  have := e_sideAt_b (κ := κ) (s := s)
  have := e_needJoined_b (κ := κ)
  unfold e_kWrite
  repeat' split
  all_goals omega
set_option maxRecDepth 100000 in
theorem m_L_write (hF : mm_F G) (htr : L.stackTraces = false) (hx : kx B bx κ) (hV : kV κ) (hW : kW κ) {s i : Int} {a0 : Nat} (ea0 : a0 = B 5 0) (h1 : -2147483648 ≤ s) (h1a : s < 2147483648) (h3 : -2147483648 ≤ i) (h3a : i < 2147483648) (ha4 : 0 < κ 602 0) (hk4 : κ 601 0 = 2) (hl4 : 2048 ≤ κ 600 0) (hS : ∀ s, 0 ≤ s → s ≤ 1 → kSA κ s) (hR : ∀ s, 0 ≤ s → s ≤ 1 → kSRA κ s) {ao : Nat} {o : Nat → Int} (hbo : bx ao = none) (hao : h0 ao = some (.inl (mm_dA G 1, 1, .inr (.inl (fun q => iL (o q)))))) :
    mm_Met L G SL_write [.ref a0, .int (iI s), .int (iI i), .ref ao] (hk G B bx h0 κ) 3 (6 + kAcc κ s i (κ 505 0)) (kLa G B bx h0 (kOut G h0 ao o (v_kWrite κ s i)) κ (e_kWrite κ s i) 2 (s_kWrite κ s i)) mm_no := by
  refine mi_meth ML_write 60 hF htr okL_write (av := [aR a0, aI s, aI i, aR ao]) (by decide +kernel) (Nat.le_of_ble_eq_true rfl) cmL_write (fun θ hc => ?_)
  refine ⟨⟨_, hk_o5 hx rfl ea0⟩, _, _, _, _, m_kWrite hF htr hx hV hW ea0 h1 h1a h3 h3a ha4 hk4 hl4 hS hR, (by first | exact Nat.le_of_ble_eq_true rfl | omega), (by first | exact Nat.le_of_ble_eq_true rfl | omega), fun w_ hh_ q_ => ?_, fun E_ hh_ q_ => ?_⟩
  · obtain ⟨he, rfl, B1, bx1, rfl, hx1, hV1, hA1, hp⟩ := q_
    have hb1 : bx1 ao = none := (hA1.2.2 ao (by rw [hao]; exact fun z => nomatch z)).trans hbo
    refine ⟨some (aI (v_kWrite κ s i)), rfl, ?_⟩
    have hp : -100 ≤ (v_kWrite κ s i) ∧ (v_kWrite κ s i) ≤ 70000 := hp
    refine ⟨by omega, ?_⟩
    refine ⟨1, o, _, (hk_rest hb1).trans hao, by omega, hk_fl hb1, ?_⟩
    exact ⟨Or.inl ⟨he, rfl, B1, bx1, rfl, hx1, hV1, hA1⟩, (by first | exact Nat.le_of_ble_eq_true rfl | omega), (by first | exact Nat.le_of_ble_eq_true rfl | omega)⟩
  · have eb := e_kWrite_b (κ := κ) (s := s) (i := i)
    obtain ⟨rfl, z1, z2, z3, y1, y2, y3, y⟩ := kThr_e q_
    refine ⟨fun n k hm hE => ?_, ?_⟩
    · have hm' : (n, k) ∈ [(0, 9)] := hm
      simp only [List.mem_cons, Prod.mk.injEq, List.not_mem_nil, or_false] at hm'
      obtain ⟨rfl, rfl⟩ := hm'
      have e1 := z1 hE
      intro _
      exact ⟨Or.inr ⟨by omega, by rw [e1]; rfl, rfl⟩, (by first | exact Nat.le_of_ble_eq_true rfl | omega), (by first | exact Nat.le_of_ble_eq_true rfl | omega)⟩
    · exact ⟨0, 9, List.mem_cons_self, y1 (by omega)⟩
theorem e_kFinish_b {s i : Int} : e_kFinish κ s i = 0 ∨ e_kFinish κ s i = 1 := by
  have := e_sideAt_b (κ := κ) (s := s)
  have := e_needJoined_b (κ := κ)
  unfold e_kFinish
  repeat' split
  all_goals omega
theorem v_kFinish_z {s i : Int} : v_kFinish κ s i = 0 ∨ v_kFinish κ s i = 1 := by
  unfold v_kFinish
  repeat' split
  all_goals omega
set_option maxRecDepth 100000 in
theorem m_L_finish (hF : mm_F G) (htr : L.stackTraces = false) (hx : kx B bx κ) (hV : kV κ) {s i : Int} {a0 : Nat} (ea0 : a0 = B 5 0) (h1 : -2147483648 ≤ s) (h1a : s < 2147483648) (h3 : -2147483648 ≤ i) (h3a : i < 2147483648) {ao : Nat} {o : Nat → Int} (hbo : bx ao = none) (hao : h0 ao = some (.inl (mm_dA G 1, 1, .inr (.inl (fun q => iL (o q)))))) :
    mm_Met L G SL_finish [.ref a0, .int (iI s), .int (iI i), .ref ao] (hk G B bx h0 κ) 1 6 (kLn G B bx h0 (kOut G h0 ao o (v_kFinish κ s i)) κ (e_kFinish κ s i) 2 (s_kFinish κ s i)) mm_no := by
  refine mi_meth ML_finish 60 hF htr okL_finish (av := [aR a0, aI s, aI i, aR ao]) (by decide +kernel) (Nat.le_of_ble_eq_true rfl) cmL_finish (fun θ hc => ?_)
  refine ⟨⟨_, hk_o5 hx rfl ea0⟩, _, _, _, _, m_kFinish hF htr hx hV ea0 h1 h1a h3 h3a, (by first | exact Nat.le_of_ble_eq_true rfl | omega), (by first | exact Nat.le_of_ble_eq_true rfl | omega), fun w_ hh_ q_ => ?_, fun E_ hh_ q_ => ?_⟩
  · obtain ⟨he, ⟨rfl, rfl⟩, hx1, hV1⟩ := q_
    refine ⟨some (aI (v_kFinish κ s i)), rfl, ?_⟩
    have hz := v_kFinish_z (κ := κ) (s := s) (i := i)
    refine ⟨by omega, fun (e9 : (v_kFinish κ s i) = 0) => ?_, fun (e9 : ¬ ((v_kFinish κ s i) = 0)) => ?_⟩
    · refine ⟨0, rfl, ?_⟩
      refine ⟨1, o, _, (hk_rest hbo).trans hao, by omega, hk_fl hbo, ?_⟩
      have e8 : (v_kFinish κ s i) = 0 := e9
      rw [e8]
      exact ⟨Or.inl ⟨he, rfl, rfl, hx1, hV1⟩, (by first | exact Nat.le_of_ble_eq_true rfl | omega), (by first | exact Nat.le_of_ble_eq_true rfl | omega)⟩
    · refine ⟨1, rfl, ?_⟩
      refine ⟨1, o, _, (hk_rest hbo).trans hao, by omega, hk_fl hbo, ?_⟩
      have e8 : (v_kFinish κ s i) = 1 := (by omega)
      rw [e8]
      exact ⟨Or.inl ⟨he, rfl, rfl, hx1, hV1⟩, (by first | exact Nat.le_of_ble_eq_true rfl | omega), (by first | exact Nat.le_of_ble_eq_true rfl | omega)⟩
  · have eb := e_kFinish_b (κ := κ) (s := s) (i := i)
    obtain ⟨rfl, z1, z2, z3, y1, y2, y3, y⟩ := kThr_e q_
    refine ⟨fun n k hm hE => ?_, ?_⟩
    · have hm' : (n, k) ∈ [(0, 12)] := hm
      simp only [List.mem_cons, Prod.mk.injEq, List.not_mem_nil, or_false] at hm'
      obtain ⟨rfl, rfl⟩ := hm'
      have e1 := z1 hE
      intro _
      exact ⟨Or.inr ⟨by omega, by rw [e1]; rfl, rfl⟩, (by first | exact Nat.le_of_ble_eq_true rfl | omega), (by first | exact Nat.le_of_ble_eq_true rfl | omega)⟩
    · exact ⟨0, 12, List.mem_cons_self, y1 (by omega)⟩
theorem e_kReset_b {s i c : Int} : e_kReset κ s i c = 0 ∨ e_kReset κ s i c = 1 := by
  have := e_sideAt_b (κ := κ) (s := s)
  have := e_needJoined_b (κ := κ)
  have := e_needCode_b (κ := κ) (v := c)
  unfold e_kReset
  repeat' split
  all_goals omega
theorem v_kReset_z {s i c : Int} : v_kReset κ s i c = 0 ∨ v_kReset κ s i c = 1 := by
  unfold v_kReset
  repeat' split
  all_goals omega
set_option maxRecDepth 100000 in
theorem m_L_reset (hF : mm_F G) (htr : L.stackTraces = false) (hx : kx B bx κ) (hV : kV κ) {s i c : Int} {a0 : Nat} (ea0 : a0 = B 5 0) (h1 : -2147483648 ≤ s) (h1a : s < 2147483648) (h3 : -2147483648 ≤ i) (h3a : i < 2147483648) (h5 : -9223372036854775808 ≤ c) (h5a : c < 9223372036854775808) {ao : Nat} {o : Nat → Int} (hbo : bx ao = none) (hao : h0 ao = some (.inl (mm_dA G 1, 1, .inr (.inl (fun q => iL (o q)))))) :
    mm_Met L G SL_reset [.ref a0, .int (iI s), .int (iI i), .long (iL c), .ref ao] (hk G B bx h0 κ) 2 12 (kLn G B bx h0 (kOut G h0 ao o (v_kReset κ s i c)) κ (e_kReset κ s i c) 2 (s_kReset κ s i c)) mm_no := by
  refine mi_meth ML_reset 60 hF htr okL_reset (av := [aR a0, aI s, aI i, aL c, aR ao]) (by decide +kernel) (Nat.le_of_ble_eq_true rfl) cmL_reset (fun θ hc => ?_)
  refine ⟨⟨_, hk_o5 hx rfl ea0⟩, _, _, _, _, m_kReset hF htr hx hV ea0 h1 h1a h3 h3a h5 h5a, (by first | exact Nat.le_of_ble_eq_true rfl | omega), (by first | exact Nat.le_of_ble_eq_true rfl | omega), fun w_ hh_ q_ => ?_, fun E_ hh_ q_ => ?_⟩
  · obtain ⟨he, ⟨rfl, rfl⟩, hx1, hV1⟩ := q_
    refine ⟨some (aI (v_kReset κ s i c)), rfl, ?_⟩
    have hz := v_kReset_z (κ := κ) (s := s) (i := i) (c := c)
    refine ⟨by omega, fun (e9 : (v_kReset κ s i c) = 0) => ?_, fun (e9 : ¬ ((v_kReset κ s i c) = 0)) => ?_⟩
    · refine ⟨0, rfl, ?_⟩
      refine ⟨1, o, _, (hk_rest hbo).trans hao, by omega, hk_fl hbo, ?_⟩
      have e8 : (v_kReset κ s i c) = 0 := e9
      rw [e8]
      exact ⟨Or.inl ⟨he, rfl, rfl, hx1, hV1⟩, (by first | exact Nat.le_of_ble_eq_true rfl | omega), (by first | exact Nat.le_of_ble_eq_true rfl | omega)⟩
    · refine ⟨1, rfl, ?_⟩
      refine ⟨1, o, _, (hk_rest hbo).trans hao, by omega, hk_fl hbo, ?_⟩
      have e8 : (v_kReset κ s i c) = 1 := (by omega)
      rw [e8]
      exact ⟨Or.inl ⟨he, rfl, rfl, hx1, hV1⟩, (by first | exact Nat.le_of_ble_eq_true rfl | omega), (by first | exact Nat.le_of_ble_eq_true rfl | omega)⟩
  · have eb := e_kReset_b (κ := κ) (s := s) (i := i) (c := c)
    obtain ⟨rfl, z1, z2, z3, y1, y2, y3, y⟩ := kThr_e q_
    refine ⟨fun n k hm hE => ?_, ?_⟩
    · have hm' : (n, k) ∈ [(0, 13)] := hm
      simp only [List.mem_cons, Prod.mk.injEq, List.not_mem_nil, or_false] at hm'
      obtain ⟨rfl, rfl⟩ := hm'
      have e1 := z1 hE
      intro _
      exact ⟨Or.inr ⟨by omega, by rw [e1]; rfl, rfl⟩, (by first | exact Nat.le_of_ble_eq_true rfl | omega), (by first | exact Nat.le_of_ble_eq_true rfl | omega)⟩
    · exact ⟨0, 13, List.mem_cons_self, y1 (by omega)⟩
theorem e_kStop_b {s i c : Int} : e_kStop κ s i c = 0 ∨ e_kStop κ s i c = 1 := by
  have := e_sideAt_b (κ := κ) (s := s)
  have := e_needJoined_b (κ := κ)
  have := e_needCode_b (κ := κ) (v := c)
  unfold e_kStop
  repeat' split
  all_goals omega
theorem v_kStop_z {s i c : Int} : v_kStop κ s i c = 0 ∨ v_kStop κ s i c = 1 := by
  unfold v_kStop
  repeat' split
  all_goals omega
set_option maxRecDepth 100000 in
theorem m_L_stop (hF : mm_F G) (htr : L.stackTraces = false) (hx : kx B bx κ) (hV : kV κ) {s i c : Int} {a0 : Nat} (ea0 : a0 = B 5 0) (h1 : -2147483648 ≤ s) (h1a : s < 2147483648) (h3 : -2147483648 ≤ i) (h3a : i < 2147483648) (h5 : -9223372036854775808 ≤ c) (h5a : c < 9223372036854775808) {ao : Nat} {o : Nat → Int} (hbo : bx ao = none) (hao : h0 ao = some (.inl (mm_dA G 1, 1, .inr (.inl (fun q => iL (o q)))))) :
    mm_Met L G SL_stop [.ref a0, .int (iI s), .int (iI i), .long (iL c), .ref ao] (hk G B bx h0 κ) 2 12 (kLn G B bx h0 (kOut G h0 ao o (v_kStop κ s i c)) κ (e_kStop κ s i c) 2 (s_kStop κ s i c)) mm_no := by
  refine mi_meth ML_stop 60 hF htr okL_stop (av := [aR a0, aI s, aI i, aL c, aR ao]) (by decide +kernel) (Nat.le_of_ble_eq_true rfl) cmL_stop (fun θ hc => ?_)
  refine ⟨⟨_, hk_o5 hx rfl ea0⟩, _, _, _, _, m_kStop hF htr hx hV ea0 h1 h1a h3 h3a h5 h5a, (by first | exact Nat.le_of_ble_eq_true rfl | omega), (by first | exact Nat.le_of_ble_eq_true rfl | omega), fun w_ hh_ q_ => ?_, fun E_ hh_ q_ => ?_⟩
  · obtain ⟨he, ⟨rfl, rfl⟩, hx1, hV1⟩ := q_
    refine ⟨some (aI (v_kStop κ s i c)), rfl, ?_⟩
    have hz := v_kStop_z (κ := κ) (s := s) (i := i) (c := c)
    refine ⟨by omega, fun (e9 : (v_kStop κ s i c) = 0) => ?_, fun (e9 : ¬ ((v_kStop κ s i c) = 0)) => ?_⟩
    · refine ⟨0, rfl, ?_⟩
      refine ⟨1, o, _, (hk_rest hbo).trans hao, by omega, hk_fl hbo, ?_⟩
      have e8 : (v_kStop κ s i c) = 0 := e9
      rw [e8]
      exact ⟨Or.inl ⟨he, rfl, rfl, hx1, hV1⟩, (by first | exact Nat.le_of_ble_eq_true rfl | omega), (by first | exact Nat.le_of_ble_eq_true rfl | omega)⟩
    · refine ⟨1, rfl, ?_⟩
      refine ⟨1, o, _, (hk_rest hbo).trans hao, by omega, hk_fl hbo, ?_⟩
      have e8 : (v_kStop κ s i c) = 1 := (by omega)
      rw [e8]
      exact ⟨Or.inl ⟨he, rfl, rfl, hx1, hV1⟩, (by first | exact Nat.le_of_ble_eq_true rfl | omega), (by first | exact Nat.le_of_ble_eq_true rfl | omega)⟩
  · have eb := e_kStop_b (κ := κ) (s := s) (i := i) (c := c)
    obtain ⟨rfl, z1, z2, z3, y1, y2, y3, y⟩ := kThr_e q_
    refine ⟨fun n k hm hE => ?_, ?_⟩
    · have hm' : (n, k) ∈ [(0, 13)] := hm
      simp only [List.mem_cons, Prod.mk.injEq, List.not_mem_nil, or_false] at hm'
      obtain ⟨rfl, rfl⟩ := hm'
      have e1 := z1 hE
      intro _
      exact ⟨Or.inr ⟨by omega, by rw [e1]; rfl, rfl⟩, (by first | exact Nat.le_of_ble_eq_true rfl | omega), (by first | exact Nat.le_of_ble_eq_true rfl | omega)⟩
    · exact ⟨0, 13, List.mem_cons_self, y1 (by omega)⟩
theorem e_kRead_b {s i q : Int} : e_kRead κ s i q = 0 ∨ e_kRead κ s i q = 1 := by
  have := e_sideAt_b (κ := κ) (s := s)
  have := e_needJoined_b (κ := κ)
  unfold e_kRead
  repeat' split
  all_goals omega
set_option maxRecDepth 100000 in
theorem m_L_read (hF : mm_F G) (htr : L.stackTraces = false) (hx : kx B bx κ) (hV : kV κ) {s i q : Int} {a0 : Nat} (ea0 : a0 = B 5 0) (h1 : -2147483648 ≤ s) (h1a : s < 2147483648) (h3 : -2147483648 ≤ i) (h3a : i < 2147483648) (h5 : -2147483648 ≤ q) (h5a : q < 2147483648) (ha4 : 1 < κ 602 0) (hk4 : κ 601 1 = 2) (hl4 : 2048 ≤ κ 600 1) (hC : ∀ s, 0 ≤ s → s ≤ 1 → kRA κ s) {ao : Nat} {o : Nat → Int} (hbo : bx ao = none) (hao : h0 ao = some (.inl (mm_dA G 1, 1, .inr (.inl (fun q => iL (o q)))))) :
    mm_Met L G SL_read [.ref a0, .int (iI s), .int (iI i), .int (iI q), .ref ao] (hk G B bx h0 κ) 2 12 (kLn G B bx h0 (kOut G h0 ao o (v_kRead κ s i q)) κ (e_kRead κ s i q) 2 (s_kRead κ s i q)) mm_no := by
  refine mi_meth ML_read 60 hF htr okL_read (av := [aR a0, aI s, aI i, aI q, aR ao]) (by decide +kernel) (Nat.le_of_ble_eq_true rfl) cmL_read (fun θ hc => ?_)
  refine ⟨⟨_, hk_o5 hx rfl ea0⟩, _, _, _, _, m_kRead hF htr hx hV ea0 h1 h1a h3 h3a h5 h5a ha4 hk4 hl4 hC, (by first | exact Nat.le_of_ble_eq_true rfl | omega), (by first | exact Nat.le_of_ble_eq_true rfl | omega), fun w_ hh_ q_ => ?_, fun E_ hh_ q_ => ?_⟩
  · obtain ⟨he, ⟨rfl, rfl⟩, hx1, hV1, hp⟩ := q_
    refine ⟨some (aI (v_kRead κ s i q)), rfl, ?_⟩
    have hp : -100 ≤ (v_kRead κ s i q) ∧ (v_kRead κ s i q) ≤ 70000 := hp
    refine ⟨by omega, ?_⟩
    refine ⟨1, o, _, (hk_rest hbo).trans hao, by omega, hk_fl hbo, ?_⟩
    exact ⟨Or.inl ⟨he, rfl, rfl, hx1, hV1⟩, (by first | exact Nat.le_of_ble_eq_true rfl | omega), (by first | exact Nat.le_of_ble_eq_true rfl | omega)⟩
  · have eb := e_kRead_b (κ := κ) (s := s) (i := i) (q := q)
    obtain ⟨rfl, z1, z2, z3, y1, y2, y3, y⟩ := kThr_e q_
    refine ⟨fun n k hm hE => ?_, ?_⟩
    · have hm' : (n, k) ∈ [(0, 10)] := hm
      simp only [List.mem_cons, Prod.mk.injEq, List.not_mem_nil, or_false] at hm'
      obtain ⟨rfl, rfl⟩ := hm'
      have e1 := z1 hE
      intro _
      exact ⟨Or.inr ⟨by omega, by rw [e1]; rfl, rfl⟩, (by first | exact Nat.le_of_ble_eq_true rfl | omega), (by first | exact Nat.le_of_ble_eq_true rfl | omega)⟩
    · exact ⟨0, 10, List.mem_cons_self, y1 (by omega)⟩
theorem e_kFill_b {s m : Int} : e_kFill κ s m = 0 ∨ e_kFill κ s m = 1 ∨ e_kFill κ s m = 2 := by
  have := e_sideAt_b (κ := κ) (s := s)
  have := e_needJoined_b (κ := κ)
  unfold e_kFill
  repeat' split
  all_goals omega
set_option maxRecDepth 100000 in
theorem m_L_fill (hF : mm_F G) (htr : L.stackTraces = false) (hx : kx B bx κ) (hV : kV κ) {s m : Int} {a0 : Nat} (ea0 : a0 = B 5 0) (h1 : -2147483648 ≤ s) (h1a : s < 2147483648) (h3 : -2147483648 ≤ m) (h3a : m < 2147483648) (hS : ∀ s, 0 ≤ s → s ≤ 1 → kSA κ s) (hlf0 : κ 307 0 < κ 306 0 ∨ κ 306 0 = 0) (hlf1 : κ 307 1 < κ 306 1 ∨ κ 306 1 = 0) {ao : Nat} {o : Nat → Int} (hbo : bx ao = none) (hao : h0 ao = some (.inl (mm_dA G 1, 1, .inr (.inl (fun q => iL (o q)))))) :
    mm_Met L G SL_fill [.ref a0, .int (iI s), .int (iI m), .ref ao] (hk G B bx h0 κ) 4 24 (kLn G B bx h0 (kOut G h0 ao o (v_kFill κ s m)) κ (e_kFill κ s m) 2 (s_kFill κ s m)) mm_no := by
  refine mi_meth ML_fill 60 hF htr okL_fill (av := [aR a0, aI s, aI m, aR ao]) (by decide +kernel) (Nat.le_of_ble_eq_true rfl) cmL_fill (fun θ hc => ?_)
  refine ⟨⟨_, hk_o5 hx rfl ea0⟩, _, _, _, _, m_kFill hF htr hx hV ea0 h1 h1a h3 h3a hS hlf0 hlf1, (by first | exact Nat.le_of_ble_eq_true rfl | omega), (by first | exact Nat.le_of_ble_eq_true rfl | omega), fun w_ hh_ q_ => ?_, fun E_ hh_ q_ => ?_⟩
  · obtain ⟨he, ⟨rfl, rfl⟩, hx1, hV1, hp⟩ := q_
    refine ⟨some (aI (v_kFill κ s m)), rfl, ?_⟩
    have hp : -100 ≤ (v_kFill κ s m) ∧ (v_kFill κ s m) ≤ 70000 := hp
    refine ⟨by omega, ?_⟩
    refine ⟨1, o, _, (hk_rest hbo).trans hao, by omega, hk_fl hbo, ?_⟩
    exact ⟨Or.inl ⟨he, rfl, rfl, hx1, hV1⟩, (by first | exact Nat.le_of_ble_eq_true rfl | omega), (by first | exact Nat.le_of_ble_eq_true rfl | omega)⟩
  · have eb := e_kFill_b (κ := κ) (s := s) (m := m)
    obtain ⟨rfl, z1, z2, z3, y1, y2, y3, y⟩ := kThr_e q_
    refine ⟨fun n k hm hE => ?_, ?_⟩
    · have hm' : (n, k) ∈ [(0, 9), (1, 12)] := hm
      simp only [List.mem_cons, Prod.mk.injEq, List.not_mem_nil, or_false] at hm'
      rcases hm' with ⟨rfl, rfl⟩ | ⟨rfl, rfl⟩
      · have e1 := z1 hE
        intro _
        exact ⟨Or.inr ⟨by omega, by rw [e1]; rfl, rfl⟩, (by first | exact Nat.le_of_ble_eq_true rfl | omega), (by first | exact Nat.le_of_ble_eq_true rfl | omega)⟩
      · have e1 := z2 hE
        intro _
        exact ⟨Or.inr ⟨by omega, by rw [e1]; rfl, rfl⟩, (by first | exact Nat.le_of_ble_eq_true rfl | omega), (by first | exact Nat.le_of_ble_eq_true rfl | omega)⟩
    · rcases (show (e_kFill κ s m) = 1 ∨ (e_kFill κ s m) = 2 by omega) with w | w
      · exact ⟨0, 9, List.mem_cons_self, y1 w⟩
      · exact ⟨1, 12, List.mem_cons_of_mem _ List.mem_cons_self, y2 w⟩
theorem e_kDeliver_b {p : Int} : e_kDeliver κ p = 0 ∨ e_kDeliver κ p = 3 := by
  have := e_frameAt_b (κ := κ) (p := p)
  have := e_needJoined_b (κ := κ)
  unfold e_kDeliver
  repeat' split
  all_goals omega
set_option maxRecDepth 100000 in
theorem m_L_deliver (hF : mm_F G) (htr : L.stackTraces = false) (hx : kx B bx κ) (hV : kV κ) (hW : kW κ) {p : Int} {a0 : Nat} (ea0 : a0 = B 5 0) (h1 : -2147483648 ≤ p) (h1a : p < 2147483648) (hg8 : ∀ s : Int, 0 ≤ s → s ≤ 1 → κ 360 ((16 * s) + 8).toNat ≤ 64) (hg9 : ∀ s : Int, 0 ≤ s → s ≤ 1 → κ 360 ((16 * s) + 9).toNat ≤ 64) (hN : ∀ s, 0 ≤ s → s ≤ 1 → kNT κ s) (hT : e_frameAt κ p = 0 → kTk κ (1 - (κ 2 p.toNat)) p) {ao : Nat} {o : Nat → Int} (hbo : bx ao = none) (hao : h0 ao = some (.inl (mm_dA G 1, 1, .inr (.inl (fun q => iL (o q)))))) :
    mm_Met L G SL_deliver [.ref a0, .int (iI p), .ref ao] (hk G B bx h0 κ) 322 (1670 + kDel κ p) (kLa G B bx h0 (kOut G h0 ao o (v_kDeliver κ p)) κ (e_kDeliver κ p) 2 (s_kDeliver κ p)) mm_no := by
  refine mi_meth ML_deliver 60 hF htr okL_deliver (av := [aR a0, aI p, aR ao]) (by decide +kernel) (Nat.le_of_ble_eq_true rfl) cmL_deliver (fun θ hc => ?_)
  refine ⟨⟨_, hk_o5 hx rfl ea0⟩, _, _, _, _, m_kDeliver hF htr hx hV hW ea0 h1 h1a hg8 hg9 hN hT, (by first | exact Nat.le_of_ble_eq_true rfl | omega), (by first | exact Nat.le_of_ble_eq_true rfl | omega), fun w_ hh_ q_ => ?_, fun E_ hh_ q_ => ?_⟩
  · obtain ⟨he, rfl, B1, bx1, rfl, hx1, hV1, hA1, hp⟩ := q_
    have hb1 : bx1 ao = none := (hA1.2.2 ao (by rw [hao]; exact fun z => nomatch z)).trans hbo
    refine ⟨some (aI (v_kDeliver κ p)), rfl, ?_⟩
    have hp : -100 ≤ (v_kDeliver κ p) ∧ (v_kDeliver κ p) ≤ 70000 := hp
    refine ⟨by omega, ?_⟩
    refine ⟨1, o, _, (hk_rest hb1).trans hao, by omega, hk_fl hb1, ?_⟩
    exact ⟨Or.inl ⟨he, rfl, B1, bx1, rfl, hx1, hV1, hA1⟩, (by first | exact Nat.le_of_ble_eq_true rfl | omega), (by first | exact Nat.le_of_ble_eq_true rfl | omega)⟩
  · have eb := e_kDeliver_b (κ := κ) (p := p)
    obtain ⟨rfl, z1, z2, z3, y1, y2, y3, y⟩ := kThr_e q_
    refine ⟨fun n k hm hE => ?_, ?_⟩
    · have hm' : (n, k) ∈ [(2, 8)] := hm
      simp only [List.mem_cons, Prod.mk.injEq, List.not_mem_nil, or_false] at hm'
      obtain ⟨rfl, rfl⟩ := hm'
      have e1 := z3 hE
      intro _
      exact ⟨Or.inr ⟨by omega, by rw [e1]; rfl, rfl⟩, (by first | exact Nat.le_of_ble_eq_true rfl | omega), (by first | exact Nat.le_of_ble_eq_true rfl | omega)⟩
    · exact ⟨2, 8, List.mem_cons_self, y3 (by omega)⟩
theorem e_kGone_b {p g : Int} : e_kGone κ p g = 0 ∨ e_kGone κ p g = 2 ∨ e_kGone κ p g = 3 := by
  have := e_frameAt_b (κ := κ) (p := p)
  have := e_needJoined_b (κ := κ)
  unfold e_kGone
  repeat' split
  all_goals omega
set_option maxRecDepth 100000 in
theorem m_L_gone (hF : mm_F G) (htr : L.stackTraces = false) (hx : kx B bx κ) (hV : kV κ) {p g : Int} {a0 : Nat} (ea0 : a0 = B 5 0) (h1 : -2147483648 ≤ p) (h1a : p < 2147483648) (hg : g = 0 ∨ g = 1) (hS : ∀ s, 0 ≤ s → s ≤ 1 → kSA κ s) (hU : e_frameAt κ p = 0 → ∀ i, 0 ≤ i → i < 256 → κ 290 (mj (κ 2 p.toNat) i) = 1 → κ 3 p.toNat = 8 → i = κ 4 p.toNat → κ 8 p.toNat + κ 9 p.toNat ≤ κ 600 (κ 202 (mj (κ 2 p.toNat) i)).toNat) :
    mm_Met L G SL_gone [.ref a0, .int (iI p), .int (iI g)] (hk G B bx h0 κ) 2 12 (kLn G B bx h0 h0 κ (e_kGone κ p g) 2 (s_kGone κ p g)) mm_no := by
  refine mi_meth ML_gone 60 hF htr okL_gone (av := [aR a0, aI p, aI g]) (by decide +kernel) (Nat.le_of_ble_eq_true rfl) cmL_gone (fun θ hc => ?_)
  refine ⟨⟨_, hk_o5 hx rfl ea0⟩, _, _, _, _, m_kGone hF htr hx hV ea0 h1 h1a hg hS hU, (by first | exact Nat.le_of_ble_eq_true rfl | omega), (by first | exact Nat.le_of_ble_eq_true rfl | omega), fun w_ hh_ q_ => ?_, fun E_ hh_ q_ => ?_⟩
  · obtain ⟨he, ⟨rfl, rfl⟩, hx1, hV1⟩ := q_
    refine ⟨none, rfl, ?_⟩
    exact ⟨Or.inl ⟨he, rfl, rfl, hx1, hV1⟩, (by first | exact Nat.le_of_ble_eq_true rfl | omega), (by first | exact Nat.le_of_ble_eq_true rfl | omega)⟩
  · have eb := e_kGone_b (κ := κ) (p := p) (g := g)
    obtain ⟨rfl, z1, z2, z3, y1, y2, y3, y⟩ := kThr_e q_
    refine ⟨fun n k hm hE => ?_, ?_⟩
    · have hm' : (n, k) ∈ [(2, 5), (1, 8)] := hm
      simp only [List.mem_cons, Prod.mk.injEq, List.not_mem_nil, or_false] at hm'
      rcases hm' with ⟨rfl, rfl⟩ | ⟨rfl, rfl⟩
      · have e1 := z3 hE
        intro _
        exact ⟨Or.inr ⟨by omega, by rw [e1]; rfl, rfl⟩, (by first | exact Nat.le_of_ble_eq_true rfl | omega), (by first | exact Nat.le_of_ble_eq_true rfl | omega)⟩
      · have e1 := z2 hE
        intro _
        exact ⟨Or.inr ⟨by omega, by rw [e1]; rfl, rfl⟩, (by first | exact Nat.le_of_ble_eq_true rfl | omega), (by first | exact Nat.le_of_ble_eq_true rfl | omega)⟩
    · rcases (show (e_kGone κ p g) = 3 ∨ (e_kGone κ p g) = 2 by omega) with w | w
      · exact ⟨2, 5, List.mem_cons_self, y3 w⟩
      · exact ⟨1, 8, List.mem_cons_of_mem _ List.mem_cons_self, y2 w⟩
theorem e_kTakeM_b {s u a b c : Int} : e_kTakeM κ s u a b c = 0 ∨ e_kTakeM κ s u a b c = 1 ∨ e_kTakeM κ s u a b c = 2 := by
  have := e_sideAt_b (κ := κ) (s := s)
  have := e_needJoined_b (κ := κ)
  have := e_needCode_b (κ := κ) (v := c)
  unfold e_kTakeM
  repeat' split
  all_goals omega
set_option maxRecDepth 100000 in
theorem m_L_take (hF : mm_F G) (htr : L.stackTraces = false) (hx : kx B bx κ) (hV : kV κ) (hW : kW κ) {s u a b c : Int} {a0 : Nat} (ea0 : a0 = B 5 0) (h1 : -2147483648 ≤ s) (h1a : s < 2147483648) (h3 : -2147483648 ≤ u) (h3a : u < 2147483648) (h4 : -9223372036854775808 ≤ a) (h4a : a < 9223372036854775808) (h5 : -9223372036854775808 ≤ b) (h5a : b < 9223372036854775808) (h6 : -9223372036854775808 ≤ c) (h6a : c < 9223372036854775808) (ha4 : 0 < κ 602 0) (hk4 : κ 601 0 = 2) (hl4 : 2048 ≤ κ 600 0) (hg8 : ∀ s : Int, 0 ≤ s → s ≤ 1 → κ 360 ((16 * s) + 8).toNat ≤ 64) (hg9 : ∀ s : Int, 0 ≤ s → s ≤ 1 → κ 360 ((16 * s) + 9).toNat ≤ 64) (hN : ∀ s, 0 ≤ s → s ≤ 1 → kNT κ s) (hT : kTc κ s u a b c → kTk (kTake κ u a b c) s 64) {ao : Nat} {o : Nat → Int} (hbo : bx ao = none) (hao : h0 ao = some (.inl (mm_dA G 1, 1, .inr (.inl (fun q => iL (o q)))))) :
    mm_Met L G SL_take [.ref a0, .int (iI s), .int (iI u), .long (iL a), .long (iL b), .long (iL c), .ref ao] (hk G B bx h0 κ) 324 (1682 + kTkc κ s u a b c) (kLa G B bx h0 (kOut G h0 ao o (v_kTakeM κ s u a b c)) κ (e_kTakeM κ s u a b c) 2 (s_kTakeM κ s u a b c)) mm_no := by
  refine mi_meth ML_take 60 hF htr okL_take (av := [aR a0, aI s, aI u, aL a, aL b, aL c, aR ao]) (by decide +kernel) (Nat.le_of_ble_eq_true rfl) cmL_take (fun θ hc => ?_)
  refine ⟨⟨_, hk_o5 hx rfl ea0⟩, _, _, _, _, m_kTakeM hF htr hx hV hW ea0 h1 h1a h3 h3a h4 h4a h5 h5a h6 h6a ha4 hk4 hl4 hg8 hg9 hN hT, (by first | exact Nat.le_of_ble_eq_true rfl | omega), (by first | exact Nat.le_of_ble_eq_true rfl | omega), fun w_ hh_ q_ => ?_, fun E_ hh_ q_ => ?_⟩
  · obtain ⟨he, rfl, B1, bx1, rfl, hx1, hV1, hA1, hp⟩ := q_
    have hb1 : bx1 ao = none := (hA1.2.2 ao (by rw [hao]; exact fun z => nomatch z)).trans hbo
    refine ⟨some (aI (v_kTakeM κ s u a b c)), rfl, ?_⟩
    have hp : -100 ≤ (v_kTakeM κ s u a b c) ∧ (v_kTakeM κ s u a b c) ≤ 70000 := hp
    refine ⟨by omega, ?_⟩
    refine ⟨1, o, _, (hk_rest hb1).trans hao, by omega, hk_fl hb1, ?_⟩
    exact ⟨Or.inl ⟨he, rfl, B1, bx1, rfl, hx1, hV1, hA1⟩, (by first | exact Nat.le_of_ble_eq_true rfl | omega), (by first | exact Nat.le_of_ble_eq_true rfl | omega)⟩
  · have eb := e_kTakeM_b (κ := κ) (s := s) (u := u) (a := a) (b := b) (c := c)
    obtain ⟨rfl, z1, z2, z3, y1, y2, y3, y⟩ := kThr_e q_
    refine ⟨fun n k hm hE => ?_, ?_⟩
    · have hm' : (n, k) ∈ [(0, 12), (1, 15)] := hm
      simp only [List.mem_cons, Prod.mk.injEq, List.not_mem_nil, or_false] at hm'
      rcases hm' with ⟨rfl, rfl⟩ | ⟨rfl, rfl⟩
      · have e1 := z1 hE
        intro _
        exact ⟨Or.inr ⟨by omega, by rw [e1]; rfl, rfl⟩, (by first | exact Nat.le_of_ble_eq_true rfl | omega), (by first | exact Nat.le_of_ble_eq_true rfl | omega)⟩
      · have e1 := z2 hE
        intro _
        exact ⟨Or.inr ⟨by omega, by rw [e1]; rfl, rfl⟩, (by first | exact Nat.le_of_ble_eq_true rfl | omega), (by first | exact Nat.le_of_ble_eq_true rfl | omega)⟩
    · rcases (show (e_kTakeM κ s u a b c) = 1 ∨ (e_kTakeM κ s u a b c) = 2 by omega) with w | w
      · exact ⟨0, 12, List.mem_cons_self, y1 w⟩
      · exact ⟨1, 15, List.mem_cons_of_mem _ List.mem_cons_self, y2 w⟩
theorem e_kLine_b {p q : Int} : e_kLine κ p q = 0 ∨ e_kLine κ p q = 3 := by
  have := e_frameAt_b (κ := κ) (p := p)
  have := e_needJoined_b (κ := κ)
  unfold e_kLine
  repeat' split
  all_goals omega
set_option maxRecDepth 100000 in
theorem m_L_line (hF : mm_F G) (htr : L.stackTraces = false) (hx : kx B bx κ) (hV : kV κ) {p q : Int} {a0 : Nat} (ea0 : a0 = B 5 0) (h1 : -2147483648 ≤ p) (h1a : p < 2147483648) (h2 : -2147483648 ≤ q) (h2a : q < 2147483648) {ao : Nat} {o : Nat → Int} (hbo : bx ao = none) (hao : h0 ao = some (.inl (mm_dA G 1, 1, .inr (.inl (fun q => iL (o q)))))) :
    mm_Met L G SL_line [.ref a0, .int (iI p), .int (iI q), .ref ao] (hk G B bx h0 κ) 2 12 (kLn G B bx h0 (kOut G h0 ao o (v_kLine κ p q)) κ (e_kLine κ p q) 2 κ) mm_no := by
  refine mi_meth ML_line 60 hF htr okL_line (av := [aR a0, aI p, aI q, aR ao]) (by decide +kernel) (Nat.le_of_ble_eq_true rfl) cmL_line (fun θ hc => ?_)
  refine ⟨⟨_, hk_o5 hx rfl ea0⟩, _, _, _, _, m_kLine hF htr hx hV ea0 h1 h1a h2 h2a, (by first | exact Nat.le_of_ble_eq_true rfl | omega), (by first | exact Nat.le_of_ble_eq_true rfl | omega), fun w_ hh_ q_ => ?_, fun E_ hh_ q_ => ?_⟩
  · obtain ⟨he, rfl, rfl⟩ := q_
    refine ⟨some (aL (v_kLine κ p q)), rfl, ?_⟩
    refine ⟨1, o, _, (hk_rest hbo).trans hao, by omega, hk_fl hbo, ?_⟩
    exact ⟨Or.inl ⟨he, rfl, rfl, hx, hV⟩, (by first | exact Nat.le_of_ble_eq_true rfl | omega), (by first | exact Nat.le_of_ble_eq_true rfl | omega)⟩
  · have eb := e_kLine_b (κ := κ) (p := p) (q := q)
    obtain ⟨rfl, z1, z2, z3, y1, y2, y3, y⟩ := kThr_e q_
    refine ⟨fun n k hm hE => ?_, ?_⟩
    · have hm' : (n, k) ∈ [(2, 8)] := hm
      simp only [List.mem_cons, Prod.mk.injEq, List.not_mem_nil, or_false] at hm'
      obtain ⟨rfl, rfl⟩ := hm'
      have e1 := z3 hE
      intro _
      exact ⟨Or.inr ⟨by omega, by rw [e1]; rfl, rfl⟩, (by first | exact Nat.le_of_ble_eq_true rfl | omega), (by first | exact Nat.le_of_ble_eq_true rfl | omega)⟩
    · exact ⟨2, 8, List.mem_cons_self, y3 (by omega)⟩
theorem e_kData_b {p q : Int} : e_kData κ p q = 0 ∨ e_kData κ p q = 3 := by
  have := e_frameAt_b (κ := κ) (p := p)
  have := e_needJoined_b (κ := κ)
  unfold e_kData
  repeat' split
  all_goals omega
set_option maxRecDepth 100000 in
theorem m_L_data (hF : mm_F G) (htr : L.stackTraces = false) (hx : kx B bx κ) (hV : kV κ) {p q : Int} {a0 : Nat} (ea0 : a0 = B 5 0) (h1 : -2147483648 ≤ p) (h1a : p < 2147483648) (h2 : -2147483648 ≤ q) (h2a : q < 2147483648) (hfr : e_frameAt κ p = 0 → 0 ≤ κ 7 p.toNat → κ 601 (κ 7 p.toNat).toNat = 2 ∧ κ 7 p.toNat < κ 602 0 ∧ κ 8 p.toNat + κ 9 p.toNat ≤ κ 600 (κ 7 p.toNat).toNat) {ao : Nat} {o : Nat → Int} (hbo : bx ao = none) (hao : h0 ao = some (.inl (mm_dA G 1, 1, .inr (.inl (fun q => iL (o q)))))) :
    mm_Met L G SL_data [.ref a0, .int (iI p), .int (iI q), .ref ao] (hk G B bx h0 κ) 2 12 (kLn G B bx h0 (kOut G h0 ao o (v_kData κ p q)) κ (e_kData κ p q) 2 κ) mm_no := by
  refine mi_meth ML_data 60 hF htr okL_data (av := [aR a0, aI p, aI q, aR ao]) (by decide +kernel) (Nat.le_of_ble_eq_true rfl) cmL_data (fun θ hc => ?_)
  refine ⟨⟨_, hk_o5 hx rfl ea0⟩, _, _, _, _, m_kData hF htr hx hV ea0 h1 h1a h2 h2a hfr, (by first | exact Nat.le_of_ble_eq_true rfl | omega), (by first | exact Nat.le_of_ble_eq_true rfl | omega), fun w_ hh_ q_ => ?_, fun E_ hh_ q_ => ?_⟩
  · obtain ⟨he, rfl, rfl⟩ := q_
    refine ⟨some (aI (v_kData κ p q)), rfl, ?_⟩
    have hp : -100 ≤ (v_kData κ p q) ∧ (v_kData κ p q) ≤ 70000 := (by have := kData_b (κ := κ) (p := p) (q := q); omega)
    refine ⟨by omega, ?_⟩
    refine ⟨1, o, _, (hk_rest hbo).trans hao, by omega, hk_fl hbo, ?_⟩
    exact ⟨Or.inl ⟨he, rfl, rfl, hx, hV⟩, (by first | exact Nat.le_of_ble_eq_true rfl | omega), (by first | exact Nat.le_of_ble_eq_true rfl | omega)⟩
  · have eb := e_kData_b (κ := κ) (p := p) (q := q)
    obtain ⟨rfl, z1, z2, z3, y1, y2, y3, y⟩ := kThr_e q_
    refine ⟨fun n k hm hE => ?_, ?_⟩
    · have hm' : (n, k) ∈ [(2, 9)] := hm
      simp only [List.mem_cons, Prod.mk.injEq, List.not_mem_nil, or_false] at hm'
      obtain ⟨rfl, rfl⟩ := hm'
      have e1 := z3 hE
      intro _
      exact ⟨Or.inr ⟨by omega, by rw [e1]; rfl, rfl⟩, (by first | exact Nat.le_of_ble_eq_true rfl | omega), (by first | exact Nat.le_of_ble_eq_true rfl | omega)⟩
    · exact ⟨2, 9, List.mem_cons_self, y3 (by omega)⟩
theorem e_kOuts_b {q : Int} : e_kOuts κ q = 0 ∨ e_kOuts κ q = 3 := by
  have := e_needJoined_b (κ := κ)
  unfold e_kOuts
  simp only [e_kOuts_18_0]
  repeat' split
  all_goals omega
set_option maxRecDepth 100000 in
theorem m_L_outs (hF : mm_F G) (htr : L.stackTraces = false) (hx : kx B bx κ) (hV : kV κ) {q : Int} {a0 : Nat} (ea0 : a0 = B 5 0) (h1 : -2147483648 ≤ q) (h1a : q < 2147483648) (ha4 : 1 < κ 602 0) (hk4 : κ 601 1 = 2) (hl4 : 2048 ≤ κ 600 1) {ao : Nat} {o : Nat → Int} (hbo : bx ao = none) (hao : h0 ao = some (.inl (mm_dA G 1, 1, .inr (.inl (fun q => iL (o q)))))) :
    mm_Met L G SL_outs [.ref a0, .int (iI q), .ref ao] (hk G B bx h0 κ) 1 6 (kLn G B bx h0 (kOut G h0 ao o (v_kOuts κ q)) κ (e_kOuts κ q) 2 κ) mm_no := by
  refine mi_meth ML_outs 60 hF htr okL_outs (av := [aR a0, aI q, aR ao]) (by decide +kernel) (Nat.le_of_ble_eq_true rfl) cmL_outs (fun θ hc => ?_)
  refine ⟨⟨_, hk_o5 hx rfl ea0⟩, _, _, _, _, m_kOuts hF htr hx hV ea0 h1 h1a ha4 hk4 hl4, (by first | exact Nat.le_of_ble_eq_true rfl | omega), (by first | exact Nat.le_of_ble_eq_true rfl | omega), fun w_ hh_ q_ => ?_, fun E_ hh_ q_ => ?_⟩
  · obtain ⟨he, rfl, rfl⟩ := q_
    refine ⟨some (aL (v_kOuts κ q)), rfl, ?_⟩
    refine ⟨1, o, _, (hk_rest hbo).trans hao, by omega, hk_fl hbo, ?_⟩
    exact ⟨Or.inl ⟨he, rfl, rfl, hx, hV⟩, (by first | exact Nat.le_of_ble_eq_true rfl | omega), (by first | exact Nat.le_of_ble_eq_true rfl | omega)⟩
  · have eb := e_kOuts_b (κ := κ) (q := q)
    obtain ⟨rfl, z1, z2, z3, y1, y2, y3, y⟩ := kThr_e q_
    refine ⟨fun n k hm hE => ?_, ?_⟩
    · have hm' : (n, k) ∈ [(2, 7)] := hm
      simp only [List.mem_cons, Prod.mk.injEq, List.not_mem_nil, or_false] at hm'
      obtain ⟨rfl, rfl⟩ := hm'
      have e1 := z3 hE
      intro _
      exact ⟨Or.inr ⟨by omega, by rw [e1]; rfl, rfl⟩, (by first | exact Nat.le_of_ble_eq_true rfl | omega), (by first | exact Nat.le_of_ble_eq_true rfl | omega)⟩
    · exact ⟨2, 7, List.mem_cons_self, y3 (by omega)⟩
theorem e_kStream_b {s i w : Int} : e_kStream κ s i w = 0 ∨ e_kStream κ s i w = 1 := by
  have := e_sideAt_b (κ := κ) (s := s)
  have := e_needJoined_b (κ := κ)
  unfold e_kStream
  repeat' split
  all_goals omega
set_option maxRecDepth 100000 in
theorem m_L_stream (hF : mm_F G) (htr : L.stackTraces = false) (hx : kx B bx κ) (hV : kV κ) {s i w : Int} {a0 : Nat} (ea0 : a0 = B 5 0) (h1 : -2147483648 ≤ s) (h1a : s < 2147483648) (h3 : -2147483648 ≤ i) (h3a : i < 2147483648) (h5 : -2147483648 ≤ w) (h5a : w < 2147483648) {ao : Nat} {o : Nat → Int} (hbo : bx ao = none) (hao : h0 ao = some (.inl (mm_dA G 1, 1, .inr (.inl (fun q => iL (o q)))))) :
    mm_Met L G SL_stream [.ref a0, .int (iI s), .int (iI i), .int (iI w), .ref ao] (hk G B bx h0 κ) 2 12 (kLn G B bx h0 (kOut G h0 ao o (v_kStream κ s i w)) κ (e_kStream κ s i w) 2 κ) mm_no := by
  refine mi_meth ML_stream 60 hF htr okL_stream (av := [aR a0, aI s, aI i, aI w, aR ao]) (by decide +kernel) (Nat.le_of_ble_eq_true rfl) cmL_stream (fun θ hc => ?_)
  refine ⟨⟨_, hk_o5 hx rfl ea0⟩, _, _, _, _, m_kStream hF htr hx hV ea0 h1 h1a h3 h3a h5 h5a, (by first | exact Nat.le_of_ble_eq_true rfl | omega), (by first | exact Nat.le_of_ble_eq_true rfl | omega), fun w_ hh_ q_ => ?_, fun E_ hh_ q_ => ?_⟩
  · obtain ⟨he, rfl, rfl⟩ := q_
    refine ⟨some (aL (v_kStream κ s i w)), rfl, ?_⟩
    refine ⟨1, o, _, (hk_rest hbo).trans hao, by omega, hk_fl hbo, ?_⟩
    exact ⟨Or.inl ⟨he, rfl, rfl, hx, hV⟩, (by first | exact Nat.le_of_ble_eq_true rfl | omega), (by first | exact Nat.le_of_ble_eq_true rfl | omega)⟩
  · have eb := e_kStream_b (κ := κ) (s := s) (i := i) (w := w)
    obtain ⟨rfl, z1, z2, z3, y1, y2, y3, y⟩ := kThr_e q_
    refine ⟨fun n k hm hE => ?_, ?_⟩
    · have hm' : (n, k) ∈ [(0, 9)] := hm
      simp only [List.mem_cons, Prod.mk.injEq, List.not_mem_nil, or_false] at hm'
      obtain ⟨rfl, rfl⟩ := hm'
      have e1 := z1 hE
      intro _
      exact ⟨Or.inr ⟨by omega, by rw [e1]; rfl, rfl⟩, (by first | exact Nat.le_of_ble_eq_true rfl | omega), (by first | exact Nat.le_of_ble_eq_true rfl | omega)⟩
    · exact ⟨0, 9, List.mem_cons_self, y1 (by omega)⟩
theorem e_kSide_b {s w : Int} : e_kSide κ s w = 0 ∨ e_kSide κ s w = 1 := by
  have := e_sideAt_b (κ := κ) (s := s)
  have := e_needJoined_b (κ := κ)
  unfold e_kSide
  repeat' split
  all_goals omega
set_option maxRecDepth 100000 in
theorem m_L_side (hF : mm_F G) (htr : L.stackTraces = false) (hx : kx B bx κ) (hV : kV κ) {s w : Int} {a0 : Nat} (ea0 : a0 = B 5 0) (h1 : -2147483648 ≤ s) (h1a : s < 2147483648) (h5 : -2147483648 ≤ w) (h5a : w < 2147483648) {ao : Nat} {o : Nat → Int} (hbo : bx ao = none) (hao : h0 ao = some (.inl (mm_dA G 1, 1, .inr (.inl (fun q => iL (o q)))))) :
    mm_Met L G SL_side [.ref a0, .int (iI s), .int (iI w), .ref ao] (hk G B bx h0 κ) 2 12 (kLn G B bx h0 (kOut G h0 ao o (v_kSide κ s w)) κ (e_kSide κ s w) 2 κ) mm_no := by
  refine mi_meth ML_side 60 hF htr okL_side (av := [aR a0, aI s, aI w, aR ao]) (by decide +kernel) (Nat.le_of_ble_eq_true rfl) cmL_side (fun θ hc => ?_)
  refine ⟨⟨_, hk_o5 hx rfl ea0⟩, _, _, _, _, m_kSide hF htr hx hV ea0 h1 h1a h5 h5a, (by first | exact Nat.le_of_ble_eq_true rfl | omega), (by first | exact Nat.le_of_ble_eq_true rfl | omega), fun w_ hh_ q_ => ?_, fun E_ hh_ q_ => ?_⟩
  · obtain ⟨he, rfl, rfl⟩ := q_
    refine ⟨some (aL (v_kSide κ s w)), rfl, ?_⟩
    refine ⟨1, o, _, (hk_rest hbo).trans hao, by omega, hk_fl hbo, ?_⟩
    exact ⟨Or.inl ⟨he, rfl, rfl, hx, hV⟩, (by first | exact Nat.le_of_ble_eq_true rfl | omega), (by first | exact Nat.le_of_ble_eq_true rfl | omega)⟩
  · have eb := e_kSide_b (κ := κ) (s := s) (w := w)
    obtain ⟨rfl, z1, z2, z3, y1, y2, y3, y⟩ := kThr_e q_
    refine ⟨fun n k hm hE => ?_, ?_⟩
    · have hm' : (n, k) ∈ [(0, 8)] := hm
      simp only [List.mem_cons, Prod.mk.injEq, List.not_mem_nil, or_false] at hm'
      obtain ⟨rfl, rfl⟩ := hm'
      have e1 := z1 hE
      intro _
      exact ⟨Or.inr ⟨by omega, by rw [e1]; rfl, rfl⟩, (by first | exact Nat.le_of_ble_eq_true rfl | omega), (by first | exact Nat.le_of_ble_eq_true rfl | omega)⟩
    · exact ⟨0, 8, List.mem_cons_self, y1 (by omega)⟩
end KU
