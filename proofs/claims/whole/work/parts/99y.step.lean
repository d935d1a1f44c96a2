section R64
variable {L : Launch} {G : mmG} {B : Nat → Nat → Nat} {bx : Nat → Option (Nat × Nat)} {h0 : mmH} {κ μ κ' μ' : Nat → Nat → Int} {O : Nat → Nat}
/-- what holds between two calls -/
def lI (κ μ : Nat → Nat → Int) (O : Nat → Nat) : Prop := mV μ ∧ kV κ ∧ kRel κ μ O ∧ kInv κ ∧ kW κ ∧ mLi μ ∧ mP2 μ ∧ ∀ q : Nat, q < 64 → κ 0 q = 1 → κ 507 0 = 1
theorem kR_12 {e : Int} (h : ¬ e = 2) : kR 1 e = kR 2 e := by
  unfold kR kCd
  rw [if_neg h, if_neg h]
theorem Li_8 (hL : mLi μ) (a : ∀ k, μ' 36 k = μ 36 k) (b : ∀ k, μ' 37 k = μ 37 k) (c : ∀ k, μ' 51 k = μ 51 k) (d : ∀ k, μ' 52 k = μ 52 k) (e : ∀ k, μ' 53 k = μ 53 k) (f : ∀ k, μ' 54 k = μ 54 k) (g : ∀ k, μ' 56 k = μ 56 k) (i : ∀ k, μ' 58 k = μ 58 k) : mLi μ' := mLi_cg (fun x hx k => by
  simp only [List.elem_eq_mem, decide_eq_true_eq, List.mem_cons, List.not_mem_nil, or_false] at hx
  rcases hx with rfl | rfl | rfl | rfl | rfl | rfl | rfl | rfl
  · exact (a k).symm
  · exact (b k).symm
  · exact (c k).symm
  · exact (d k).symm
  · exact (e k).symm
  · exact (f k).symm
  · exact (g k).symm
  · exact (i k).symm) hL
theorem P2_4 (hP : mP2 μ) (a : ∀ k, μ' 25 k = μ 25 k) (b : ∀ k, μ' 40 k = μ 40 k) (c : ∀ k, μ' 41 k = μ 41 k) (d : ∀ k, μ' 42 k = μ 42 k) : mP2 μ' := mP2_cg (fun x hx k => by
  simp only [List.elem_eq_mem, decide_eq_true_eq, List.mem_cons, List.not_mem_nil, or_false] at hx
  rcases hx with rfl | rfl | rfl | rfl
  · exact (a k).symm
  · exact (b k).symm
  · exact (c k).symm
  · exact (d k).symm) hP
theorem W_7 (hW : kW κ) (a : ∀ k, κ' 7 k = κ 7 k) (b : ∀ k, κ' 101 k = κ 101 k) (c : ∀ k, κ' 190 k = κ 190 k) (d : ∀ k, κ' 201 k = κ 201 k) (e : ∀ k, κ' 202 k = κ 202 k) (f : ∀ k, κ' 290 k = κ 290 k) (g : ∀ k, κ' 602 k = κ 602 k) : kW κ' := kW_cg (fun x hx k => by
  simp only [List.elem_eq_mem, decide_eq_true_eq, List.mem_cons, List.not_mem_nil, or_false] at hx
  rcases hx with rfl | rfl | rfl | rfl | rfl | rfl | rfl
  · exact (a k).symm
  · exact (b k).symm
  · exact (c k).symm
  · exact (d k).symm
  · exact (e k).symm
  · exact (f k).symm
  · exact (g k).symm) hW
theorem Pot_5 (a : ∀ k, κ' 101 k = κ 101 k) (b : ∀ k, κ' 190 k = κ 190 k) (c : ∀ k, κ' 201 k = κ 201 k) (d : ∀ k, κ' 290 k = κ 290 k) (e : ∀ k, κ' 600 k = κ 600 k) : kPot κ' = kPot κ := kPot_cg (fun x hx k => by
  unfold kPf at hx
  rcases hx with rfl | rfl | rfl | rfl | rfl
  · exact a k
  · exact b k
  · exact c k
  · exact d k
  · exact e k)
theorem J_2 (hJ : ∀ q : Nat, q < 64 → κ 0 q = 1 → κ 507 0 = 1) (a : ∀ k, κ' 0 k = κ 0 k) (b : κ' 507 0 = κ 507 0) : ∀ q : Nat, q < 64 → κ' 0 q = 1 → κ' 507 0 = 1 := fun q hq z => by
  rw [a] at z
  rw [b]
  exact hJ q hq z
theorem lI_Pd (h : lI κ μ O) : ∀ s : Int, 0 ≤ s → s ≤ 1 → kPd κ s := fun s h1 h2 => ⟨h.2.1, h.2.2.1.1.2.2.2.2.2.2.2, Rel_Rg h.2.2.1, Rel_NT h.2.1 h.2.2.1 s h1 h2, Rel_g8 h.2.2.1 s h1 h2, Rel_g9 h.2.2.1 s h1 h2⟩
theorem J_join0 : e_kJoin κ = 0 → s_kJoin κ 507 0 = 1 := fun z => by
  unfold e_kJoin at z
  unfold s_kJoin
  by_cases e : κ 507 0 = 0
  · rw [if_pos e, u2_s]
  · rw [if_neg e] at z; omega
theorem J_gone0 {p g : Int} (hJ : ∀ q : Nat, q < 64 → κ 0 q = 1 → κ 507 0 = 1) : ∀ q : Nat, q < 64 → s_kGone κ p g 0 q = 1 → s_kGone κ p g 507 0 = 1 := fun q hq z => by
  rw [s_kGone_fr (f := 507) rfl]
  have k : ∀ q, u2 κ 0 p.toNat 0 0 q = 1 → κ 0 q = 1 := fun q w => by
    by_cases e : q = p.toNat
    · rw [e, u2_s] at w; omega
    · rw [u2_n (by omega)] at w; exact w
  unfold s_kGone at z
  repeat' split at z
  all_goals first
    | exact hJ q hq z
    | (rw [s_hearLost_fr (f := 0) rfl] at z; exact hJ q hq (k q z))
    | (rw [s_hearArrived_fr (f := 0) rfl] at z; exact hJ q hq (k q z))
theorem J_fill0 {s m : Int} (hK : kV κ) (hJ : ∀ q : Nat, q < 64 → κ 0 q = 1 → κ 507 0 = 1) : ∀ q : Nat, q < 64 → s_kFill κ s m 0 q = 1 → s_kFill κ s m 507 0 = 1 := fun q hq z => by
  rw [s_kFill_fr (f := 507) rfl]
  have k : 0 ≤ κ 507 0 ∧ κ 507 0 ≤ 1 := ⟨(hK.1 507 _).1, (hK.1 507 _).2 rfl⟩
  by_cases e : κ 507 0 = 1
  · exact e
  · have ej : ¬ e_needJoined κ = 0 := by
      unfold e_needJoined
      rw [if_pos (by omega)]
      decide
    have es : s_kFill κ s m = κ := by
      unfold s_kFill
      rw [if_neg ej]
      repeat' split
      all_goals rfl
    rw [es] at z
    exact hJ q hq z
/-! write, where there is no such side -/
set_option maxRecDepth 100000 in
theorem m_kWrite_n (hF : mm_F G) (htr : L.stackTraces = false) (hx : kx B bx κ) (hV : kV κ) {s i : Int} {a0 : Nat} (ea0 : a0 = B 5 0) (h1 : -2147483648 ≤ s) (h1a : s < 2147483648) (hn : ¬ e_sideAt κ s = 0) :
    mm_Met L G SX5_write [.ref a0, .int (iI s), .int (iI i)] (hk G B bx h0 κ) 3 6 (fun _ _ => False) (kThr (hk G B bx h0 κ) (e_kWrite κ s i)) := by
  refine mi_meth MX5_write 400 hF htr okX5_write (av := [aR a0, aI s, aI i]) (by decide +kernel) (Nat.le_of_ble_eq_true rfl) cmX5_write (fun θ hc => ?_)
  exact ⟨⟨_, hk_o5 hx rfl ea0⟩, _, _, _, _, (m_sideAt hF htr hx hV (s := s) ea0 (by omega) (by omega)), by omega, by omega, mkit (r := some (aR (B 3 s.toNat))) (fun e1 => absurd e1 hn), fun E h1 q => kThr_up q (fun e1 => if_neg e1)⟩
set_option maxRecDepth 100000 in
theorem m_L_write_n (hF : mm_F G) (htr : L.stackTraces = false) (hx : kx B bx κ) (hV : kV κ) {s i : Int} {a0 : Nat} (ea0 : a0 = B 5 0) (h1 : -2147483648 ≤ s) (h1a : s < 2147483648) (hn : ¬ e_sideAt κ s = 0) {ao : Nat} {h1' : mmH} {S : Nat → Nat → Int} :
    mm_Met L G SL_write [.ref a0, .int (iI s), .int (iI i), .ref ao] (hk G B bx h0 κ) 3 6 (kLa G B bx h0 h1' κ (e_kWrite κ s i) 2 S) mm_no := by
  refine mi_meth ML_write 60 hF htr okL_write (av := [aR a0, aI s, aI i, aR ao]) (by decide +kernel) (Nat.le_of_ble_eq_true rfl) cmL_write (fun θ hc => ?_)
  refine ⟨⟨_, hk_o5 hx rfl ea0⟩, _, _, _, _, m_kWrite_n hF htr hx hV ea0 h1 h1a hn, (by first | exact Nat.le_of_ble_eq_true rfl | omega), (by first | exact Nat.le_of_ble_eq_true rfl | omega), fun w_ hh_ q_ => q_.elim, fun E_ hh_ q_ => ?_⟩
  have eb := e_kWrite_b (κ := κ) (s := s) (i := i)
  obtain ⟨rfl, z1, z2, z3, y1, y2, y3, y⟩ := kThr_e q_
  refine ⟨fun n k hm hE => ?_, ?_⟩
  · have hm' : (n, k) ∈ [(0, 9)] := hm
    simp only [List.mem_cons, Prod.mk.injEq, List.not_mem_nil, or_false] at hm'
    obtain ⟨rfl, rfl⟩ := hm'
    have e1 := z1 hE
    intro _
    exact ⟨Or.inr ⟨by omega, by rw [e1]; rfl, rfl⟩, (by first | exact Nat.le_of_ble_eq_true rfl | omega), (by first | exact Nat.le_of_ble_eq_true rfl | omega)⟩
  · exact ⟨0, 9, List.mem_cons_self, y1 (by omega)⟩
theorem J_grant (h : lI κ μ O) (s i v : Int) (hV' : mV (s_grant μ s i v)) (hK' : e_kGrant κ s i v = 0 → kV (s_kGrant κ s i v)) : s_grant μ s i v 0 0 = kR 2 (e_kGrant κ s i v) ∧ (e_kGrant κ s i v = 0 → ∃ O', lI (s_kGrant κ s i v) (s_grant μ s i v) O' ∧ kPot κ ≤ kPot (s_kGrant κ s i v)) ∧ (¬ e_kGrant κ s i v = 0 → lI κ (s_grant μ s i v) O) := by
  obtain ⟨hV, hK, hR, hI, hW, hL, hP, hJ⟩ := id h
  obtain ⟨r1, r2, r3⟩ := R_grant hV hR hI s i v
  have hL' : mLi (s_grant μ s i v) := Li_8 hL (fun k => s_grant_fr rfl) (fun k => s_grant_fr rfl) (fun k => s_grant_fr rfl) (fun k => s_grant_fr rfl) (fun k => s_grant_fr rfl) (fun k => s_grant_fr rfl) (fun k => s_grant_fr rfl) (fun k => s_grant_fr rfl)
  have hP' : mP2 (s_grant μ s i v) := P2_4 hP (fun k => s_grant_fr rfl) (fun k => s_grant_fr rfl) (fun k => s_grant_fr rfl) (fun k => s_grant_fr rfl)
  refine ⟨r1, fun z => ?_, fun z => ⟨hV', hK, r3 z, hI, hW, hL', hP', hJ⟩⟩
  obtain ⟨rR, rI⟩ := r2 z
  exact ⟨O, ⟨hV', hK' z, rR, rI, (W_7 hW (fun k => s_kGrant_fr rfl) (fun k => s_kGrant_fr rfl) (fun k => s_kGrant_fr rfl) (fun k => s_kGrant_fr rfl) (fun k => s_kGrant_fr rfl) (fun k => s_kGrant_fr rfl) (fun k => s_kGrant_fr rfl)), hL', hP', (J_2 hJ (fun k => s_kGrant_fr rfl) (s_kGrant_fr rfl))⟩, (Int.le_of_eq (Pot_5 (fun k => s_kGrant_fr rfl) (fun k => s_kGrant_fr rfl) (fun k => s_kGrant_fr rfl) (fun k => s_kGrant_fr rfl) (fun k => s_kGrant_fr rfl)).symm)⟩
theorem J_join (h : lI κ μ O) (hV' : mV (s_join μ)) (hK' : e_kJoin κ = 0 → kV (s_kJoin κ)) : s_join μ 0 0 = kR 1 (e_kJoin κ) ∧ (e_kJoin κ = 0 → ∃ O', lI (s_kJoin κ) (s_join μ) O' ∧ kPot κ ≤ kPot (s_kJoin κ)) ∧ (¬ e_kJoin κ = 0 → lI κ (s_join μ) O) := by
  obtain ⟨hV, hK, hR, hI, hW, hL, hP, hJ⟩ := id h
  obtain ⟨r1, r2, r3⟩ := R_join hV hK hR hI
  have hL' : mLi (s_join μ) := Li_8 hL (fun k => s_join_fr rfl) (fun k => s_join_fr rfl) (fun k => s_join_fr rfl) (fun k => s_join_fr rfl) (fun k => s_join_fr rfl) (fun k => s_join_fr rfl) (fun k => s_join_fr rfl) (fun k => s_join_fr rfl)
  have hP' : mP2 (s_join μ) := P2_4 hP (fun k => s_join_fr rfl) (fun k => s_join_fr rfl) (fun k => s_join_fr rfl) (fun k => s_join_fr rfl)
  refine ⟨r1, fun z => ?_, fun z => ⟨hV', hK, r3 z, hI, hW, hL', hP', hJ⟩⟩
  obtain ⟨rR, rI⟩ := r2 z
  exact ⟨O, ⟨hV', hK' z, rR, rI, (W_7 hW (fun k => s_kJoin_fr rfl) (fun k => s_kJoin_fr rfl) (fun k => s_kJoin_fr rfl) (fun k => s_kJoin_fr rfl) (fun k => s_kJoin_fr rfl) (fun k => s_kJoin_fr rfl) (fun k => s_kJoin_fr rfl)), hL', hP', (fun q hq w => J_join0 z)⟩, (Int.le_of_eq (Pot_5 (fun k => s_kJoin_fr rfl) (fun k => s_kJoin_fr rfl) (fun k => s_kJoin_fr rfl) (fun k => s_kJoin_fr rfl) (fun k => s_kJoin_fr rfl)).symm)⟩
theorem J_feed (h : lI κ μ O) (n v : Int) (hV' : mV (s_feed μ n v)) (hK' : e_kFeed κ n v = 0 → kV (s_kFeed κ n v)) : s_feed μ n v 0 0 = kR 2 (e_kFeed κ n v) ∧ (e_kFeed κ n v = 0 → v_feed μ n v = v_kFeed κ n v ∧ ∃ O', lI (s_kFeed κ n v) (s_feed μ n v) O' ∧ kPot κ ≤ kPot (s_kFeed κ n v)) ∧ (¬ e_kFeed κ n v = 0 → lI κ (s_feed μ n v) O) := by
  obtain ⟨hV, hK, hR, hI, hW, hL, hP, hJ⟩ := id h
  obtain ⟨r1, r2, r3⟩ := R_feed hV hR hI n v
  have hL' : mLi (s_feed μ n v) := Li_8 hL (fun k => s_feed_fr rfl) (fun k => s_feed_fr rfl) (fun k => s_feed_fr rfl) (fun k => s_feed_fr rfl) (fun k => s_feed_fr rfl) (fun k => s_feed_fr rfl) (fun k => s_feed_fr rfl) (fun k => s_feed_fr rfl)
  have hP' : mP2 (s_feed μ n v) := P2_4 hP (fun k => s_feed_fr rfl) (fun k => s_feed_fr rfl) (fun k => s_feed_fr rfl) (fun k => s_feed_fr rfl)
  refine ⟨r1, fun z => ?_, fun z => ⟨hV', hK, r3 z, hI, hW, hL', hP', hJ⟩⟩
  obtain ⟨rv, rR, rI⟩ := r2 z
  exact ⟨rv, O, ⟨hV', hK' z, rR, rI, (W_7 hW (fun k => s_kFeed_fr rfl) (fun k => s_kFeed_fr rfl) (fun k => s_kFeed_fr rfl) (fun k => s_kFeed_fr rfl) (fun k => s_kFeed_fr rfl) (fun k => s_kFeed_fr rfl) (fun k => s_kFeed_fr rfl)), hL', hP', (J_2 hJ (fun k => s_kFeed_fr rfl) (s_kFeed_fr rfl))⟩, (Int.le_of_eq (Pot_5 (fun k => s_kFeed_fr rfl) (fun k => s_kFeed_fr rfl) (fun k => s_kFeed_fr rfl) (fun k => s_kFeed_fr rfl) (fun k => s_kFeed_fr rfl)).symm)⟩
theorem J_open (h : lI κ μ O) (s p : Int) (h3 : p = 0 ∨ p = 1) (hV' : mV (s_open μ s p)) (hK' : e_kOpen κ s p = 0 → kV (s_kOpen κ s p)) (hW' : e_kOpen κ s p = 0 → kW (s_kOpen κ s p)) : s_open μ s p 0 0 = kR 2 (e_kOpen κ s p) ∧ (e_kOpen κ s p = 0 → v_open μ s p = v_kOpen κ s p ∧ ∃ O', lI (s_kOpen κ s p) (s_open μ s p) O' ∧ kPot κ ≤ kPot (s_kOpen κ s p)) ∧ (¬ e_kOpen κ s p = 0 → lI κ (s_open μ s p) O) := by
  obtain ⟨hV, hK, hR, hI, hW, hL, hP, hJ⟩ := id h
  obtain ⟨r1, r2, r3⟩ := R_open hV hK hR hI s p
  have hL' : mLi (s_open μ s p) := Li_8 hL (fun k => s_open_fr rfl) (fun k => s_open_fr rfl) (fun k => s_open_fr rfl) (fun k => s_open_fr rfl) (fun k => s_open_fr rfl) (fun k => s_open_fr rfl) (fun k => s_open_fr rfl) (fun k => s_open_fr rfl)
  have hP' : mP2 (s_open μ s p) := P2_4 hP (fun k => s_open_fr rfl) (fun k => s_open_fr rfl) (fun k => s_open_fr rfl) (fun k => s_open_fr rfl)
  refine ⟨r1, fun z => ?_, fun z => ⟨hV', hK, r3 z, hI, hW, hL', hP', hJ⟩⟩
  obtain ⟨rv, O', rR, rI⟩ := r2 z
  have hs : 0 ≤ s ∧ s ≤ 1 := by
    rcases sideAt_c (κ := κ) s with ⟨e, w⟩ | ⟨e, w⟩
    · exact w
    · unfold e_kOpen at z
      rw [if_neg (by omega)] at z
      omega
  exact ⟨rv, O', ⟨hV', hK' z, rR, rI, (hW' z), hL', hP', (J_2 hJ (fun k => s_kOpen_fr rfl) (s_kOpen_fr rfl))⟩, (open_p z hs hR.1.2.2.2.2.2.2.2 (Rel_Rg hR) h3 (fun w hw => ⟨(hK.1 400 _).1, ((hR.2.1 s hs.1 hs.2).2.1 w (by omega) (by omega)).2.2.2.2.2.2.2.1⟩) (Rel_O hK hR))⟩
theorem J_write (h : lI κ μ O) (s i : Int) (hV' : mV (s_write μ s i)) (hK' : e_kWrite κ s i = 0 → kV (s_kWrite κ s i)) (hW' : e_kWrite κ s i = 0 → kW (s_kWrite κ s i)) : s_write μ s i 0 0 = kR 2 (e_kWrite κ s i) ∧ (e_kWrite κ s i = 0 → v_write μ s i = v_kWrite κ s i ∧ ∃ O', lI (s_kWrite κ s i) (s_write μ s i) O' ∧ kPot κ + ((kAcc κ s i (κ 505 0) : Nat) : Int) ≤ kPot (s_kWrite κ s i)) ∧ (¬ e_kWrite κ s i = 0 → lI κ (s_write μ s i) O) := by
  obtain ⟨hV, hK, hR, hI, hW, hL, hP, hJ⟩ := id h
  obtain ⟨r1, r2, r3, r4⟩ := R_write hV hK hR hI s i hV'
  have hL' := r4 hL
  have hP' : mP2 (s_write μ s i) := P2_4 hP (fun k => s_write_fr rfl) (fun k => s_write_fr rfl) (fun k => s_write_fr rfl) (fun k => s_write_fr rfl)
  have eb := e_kWrite_b (κ := κ) (s := s) (i := i)
  rw [kR_12 (by omega)] at r1
  refine ⟨r1, fun z => ?_, fun z => ⟨hV', hK, r3 z, hI, hW, hL', hP', hJ⟩⟩
  obtain ⟨rv, O', rR, rI⟩ := r2 z
  have hs : 0 ≤ s ∧ s ≤ 1 := by
    rcases sideAt_c (κ := κ) s with ⟨e, w⟩ | ⟨e, w⟩
    · exact w
    · unfold e_kWrite at z
      rw [if_neg (by omega)] at z
      omega
  exact ⟨rv, O', ⟨hV', hK' z, rR, rI, (hW' z), hL', hP', (J_2 hJ (fun k => s_kWrite_fr rfl) (s_kWrite_fr rfl))⟩, (write_p hs hR.1.2.2.2.2.2.2.2 (Rel_Rg hR) hK (Rel_SRA hV hR))⟩
theorem J_finish (h : lI κ μ O) (s i : Int) (hV' : mV (s_finish μ s i)) (hK' : e_kFinish κ s i = 0 → kV (s_kFinish κ s i)) : s_finish μ s i 0 0 = kR 2 (e_kFinish κ s i) ∧ (e_kFinish κ s i = 0 → v_finish μ s i = v_kFinish κ s i ∧ ∃ O', lI (s_kFinish κ s i) (s_finish μ s i) O' ∧ kPot κ ≤ kPot (s_kFinish κ s i)) ∧ (¬ e_kFinish κ s i = 0 → lI κ (s_finish μ s i) O) := by
  obtain ⟨hV, hK, hR, hI, hW, hL, hP, hJ⟩ := id h
  obtain ⟨r1, r2, r3⟩ := R_finish hV hK hR hI s i
  have hL' : mLi (s_finish μ s i) := Li_8 hL (fun k => s_finish_fr rfl) (fun k => s_finish_fr rfl) (fun k => s_finish_fr rfl) (fun k => s_finish_fr rfl) (fun k => s_finish_fr rfl) (fun k => s_finish_fr rfl) (fun k => s_finish_fr rfl) (fun k => s_finish_fr rfl)
  have hP' : mP2 (s_finish μ s i) := P2_4 hP (fun k => s_finish_fr rfl) (fun k => s_finish_fr rfl) (fun k => s_finish_fr rfl) (fun k => s_finish_fr rfl)
  have eb := e_kFinish_b (κ := κ) (s := s) (i := i)
  rw [kR_12 (by omega)] at r1
  refine ⟨r1, fun z => ?_, fun z => ⟨hV', hK, r3 z, hI, hW, hL', hP', hJ⟩⟩
  obtain ⟨rv, rR, rI⟩ := r2 z
  exact ⟨rv, O, ⟨hV', hK' z, rR, rI, (W_7 hW (fun k => s_kFinish_fr rfl) (fun k => s_kFinish_fr rfl) (fun k => s_kFinish_fr rfl) (fun k => s_kFinish_fr rfl) (fun k => s_kFinish_fr rfl) (fun k => s_kFinish_fr rfl) (fun k => s_kFinish_fr rfl)), hL', hP', (J_2 hJ (fun k => s_kFinish_fr rfl) (s_kFinish_fr rfl))⟩, (Int.le_of_eq (Pot_5 (fun k => s_kFinish_fr rfl) (fun k => s_kFinish_fr rfl) (fun k => s_kFinish_fr rfl) (fun k => s_kFinish_fr rfl) (fun k => s_kFinish_fr rfl)).symm)⟩
theorem J_reset (h : lI κ μ O) (s i c : Int) (hV' : mV (s_reset μ s i c)) (hK' : e_kReset κ s i c = 0 → kV (s_kReset κ s i c)) : s_reset μ s i c 0 0 = kR 2 (e_kReset κ s i c) ∧ (e_kReset κ s i c = 0 → v_reset μ s i c = v_kReset κ s i c ∧ ∃ O', lI (s_kReset κ s i c) (s_reset μ s i c) O' ∧ kPot κ ≤ kPot (s_kReset κ s i c)) ∧ (¬ e_kReset κ s i c = 0 → lI κ (s_reset μ s i c) O) := by
  obtain ⟨hV, hK, hR, hI, hW, hL, hP, hJ⟩ := id h
  obtain ⟨r1, r2, r3⟩ := R_reset hV hK hR hI s i c
  have hL' : mLi (s_reset μ s i c) := Li_8 hL (fun k => s_reset_fr rfl) (fun k => s_reset_fr rfl) (fun k => s_reset_fr rfl) (fun k => s_reset_fr rfl) (fun k => s_reset_fr rfl) (fun k => s_reset_fr rfl) (fun k => s_reset_fr rfl) (fun k => s_reset_fr rfl)
  have hP' : mP2 (s_reset μ s i c) := P2_4 hP (fun k => s_reset_fr rfl) (fun k => s_reset_fr rfl) (fun k => s_reset_fr rfl) (fun k => s_reset_fr rfl)
  have eb := e_kReset_b (κ := κ) (s := s) (i := i) (c := c)
  rw [kR_12 (by omega)] at r1
  refine ⟨r1, fun z => ?_, fun z => ⟨hV', hK, r3 z, hI, hW, hL', hP', hJ⟩⟩
  obtain ⟨rv, rR, rI⟩ := r2 z
  exact ⟨rv, O, ⟨hV', hK' z, rR, rI, (W_7 hW (fun k => s_kReset_fr rfl) (fun k => s_kReset_fr rfl) (fun k => s_kReset_fr rfl) (fun k => s_kReset_fr rfl) (fun k => s_kReset_fr rfl) (fun k => s_kReset_fr rfl) (fun k => s_kReset_fr rfl)), hL', hP', (J_2 hJ (fun k => s_kReset_fr rfl) (s_kReset_fr rfl))⟩, (Int.le_of_eq (Pot_5 (fun k => s_kReset_fr rfl) (fun k => s_kReset_fr rfl) (fun k => s_kReset_fr rfl) (fun k => s_kReset_fr rfl) (fun k => s_kReset_fr rfl)).symm)⟩
theorem J_stop (h : lI κ μ O) (s i c : Int) (hV' : mV (s_stop μ s i c)) (hK' : e_kStop κ s i c = 0 → kV (s_kStop κ s i c)) : s_stop μ s i c 0 0 = kR 2 (e_kStop κ s i c) ∧ (e_kStop κ s i c = 0 → v_stop μ s i c = v_kStop κ s i c ∧ ∃ O', lI (s_kStop κ s i c) (s_stop μ s i c) O' ∧ kPot κ ≤ kPot (s_kStop κ s i c)) ∧ (¬ e_kStop κ s i c = 0 → lI κ (s_stop μ s i c) O) := by
  obtain ⟨hV, hK, hR, hI, hW, hL, hP, hJ⟩ := id h
  obtain ⟨r1, r2, r3⟩ := R_stop hV hK hR hI s i c
  have hL' : mLi (s_stop μ s i c) := Li_8 hL (fun k => s_stop_fr rfl) (fun k => s_stop_fr rfl) (fun k => s_stop_fr rfl) (fun k => s_stop_fr rfl) (fun k => s_stop_fr rfl) (fun k => s_stop_fr rfl) (fun k => s_stop_fr rfl) (fun k => s_stop_fr rfl)
  have hP' : mP2 (s_stop μ s i c) := P2_4 hP (fun k => s_stop_fr rfl) (fun k => s_stop_fr rfl) (fun k => s_stop_fr rfl) (fun k => s_stop_fr rfl)
  have eb := e_kStop_b (κ := κ) (s := s) (i := i) (c := c)
  rw [kR_12 (by omega)] at r1
  refine ⟨r1, fun z => ?_, fun z => ⟨hV', hK, r3 z, hI, hW, hL', hP', hJ⟩⟩
  obtain ⟨rv, rR, rI⟩ := r2 z
  exact ⟨rv, O, ⟨hV', hK' z, rR, rI, (W_7 hW (fun k => s_kStop_fr rfl) (fun k => s_kStop_fr rfl) (fun k => s_kStop_fr rfl) (fun k => s_kStop_fr rfl) (fun k => s_kStop_fr rfl) (fun k => s_kStop_fr rfl) (fun k => s_kStop_fr rfl)), hL', hP', (J_2 hJ (fun k => s_kStop_fr rfl) (s_kStop_fr rfl))⟩, (Int.le_of_eq (Pot_5 (fun k => s_kStop_fr rfl) (fun k => s_kStop_fr rfl) (fun k => s_kStop_fr rfl) (fun k => s_kStop_fr rfl) (fun k => s_kStop_fr rfl)).symm)⟩
theorem J_read (h : lI κ μ O) (s i q : Int) (hV' : mV (s_read μ s i q)) (hK' : e_kRead κ s i q = 0 → kV (s_kRead κ s i q)) : s_read μ s i q 0 0 = kR 2 (e_kRead κ s i q) ∧ (e_kRead κ s i q = 0 → v_read μ s i q = v_kRead κ s i q ∧ ∃ O', lI (s_kRead κ s i q) (s_read μ s i q) O' ∧ kPot κ ≤ kPot (s_kRead κ s i q)) ∧ (¬ e_kRead κ s i q = 0 → lI κ (s_read μ s i q) O) := by
  obtain ⟨hV, hK, hR, hI, hW, hL, hP, hJ⟩ := id h
  obtain ⟨r1, r2, r3⟩ := R_read hV hK hR hI s i q
  have hL' : mLi (s_read μ s i q) := Li_8 hL (fun k => s_read_fr rfl) (fun k => s_read_fr rfl) (fun k => s_read_fr rfl) (fun k => s_read_fr rfl) (fun k => s_read_fr rfl) (fun k => s_read_fr rfl) (fun k => s_read_fr rfl) (fun k => s_read_fr rfl)
  have hP' : mP2 (s_read μ s i q) := P2_4 hP (fun k => s_read_fr rfl) (fun k => s_read_fr rfl) (fun k => s_read_fr rfl) (fun k => s_read_fr rfl)
  have eb := e_kRead_b (κ := κ) (s := s) (i := i) (q := q)
  rw [kR_12 (by omega)] at r1
  refine ⟨r1, fun z => ?_, fun z => ⟨hV', hK, r3 z, hI, hW, hL', hP', hJ⟩⟩
  obtain ⟨rv, rR, rI⟩ := r2 z
  exact ⟨rv, O, ⟨hV', hK' z, rR, rI, (W_7 hW (fun k => s_kRead_fr rfl) (fun k => s_kRead_fr rfl) (fun k => s_kRead_fr rfl) (fun k => s_kRead_fr rfl) (fun k => s_kRead_fr rfl) (fun k => s_kRead_fr rfl) (fun k => s_kRead_fr rfl)), hL', hP', (J_2 hJ (fun k => s_kRead_fr rfl) (s_kRead_fr rfl))⟩, (Int.le_of_eq (Pot_5 (fun k => s_kRead_fr rfl) (fun k => s_kRead_fr rfl) (fun k => s_kRead_fr rfl) (fun k => s_kRead_fr rfl) (fun k => s_kRead_fr rfl)).symm)⟩
theorem J_fill (h : lI κ μ O) (s r : Int) (hV' : mV (s_fill μ s r)) (hL' : mLi (s_fill μ s r)) (hK' : e_kFill κ s r = 0 → kV (s_kFill κ s r)) : s_fill μ s r 0 0 = kR 2 (e_kFill κ s r) ∧ (e_kFill κ s r = 0 → v_fill μ s r = v_kFill κ s r ∧ ∃ O', lI (s_kFill κ s r) (s_fill μ s r) O' ∧ kPot κ ≤ kPot (s_kFill κ s r)) ∧ (¬ e_kFill κ s r = 0 → lI κ (s_fill μ s r) O) := by
  obtain ⟨hV, hK, hR, hI, hW, hL, hP, hJ⟩ := id h
  obtain ⟨r1, r2, r3⟩ := R_fill hV hK hR hI s r
  have hP' : mP2 (s_fill μ s r) := P2_4 hP (fun k => s_fill_fr rfl) (fun k => s_fill_fr rfl) (fun k => s_fill_fr rfl) (fun k => s_fill_fr rfl)
  refine ⟨r1, fun z => ?_, fun z => ⟨hV', hK, r3 z, hI, hW, hL', hP', hJ⟩⟩
  obtain ⟨rv, rR, rI⟩ := r2 z
  exact ⟨rv, O, ⟨hV', hK' z, rR, rI, (kW_fill hR.1.2.2.2.2.2.2.2 hW), hL', hP', (J_fill0 hK hJ)⟩, (Int.le_of_eq (Pot_5 (fun k => s_kFill_fr rfl) (fun k => s_kFill_fr rfl) (fun k => s_kFill_fr rfl) (fun k => s_kFill_fr rfl) (fun k => s_kFill_fr rfl)).symm)⟩
theorem J_deliver (h : lI κ μ O) (p : Int) (hV' : mV (s_deliver μ p)) (hP' : mP2 (s_deliver μ p)) (hK' : e_kDeliver κ p = 0 → kV (s_kDeliver κ p)) (hW' : e_kDeliver κ p = 0 → kW (s_kDeliver κ p)) : s_deliver μ p 0 0 = kR 2 (e_kDeliver κ p) ∧ (e_kDeliver κ p = 0 → v_deliver μ p = v_kDeliver κ p ∧ ∃ O', lI (s_kDeliver κ p) (s_deliver μ p) O' ∧ kPot κ + ((kDel κ p : Nat) : Int) ≤ kPot (s_kDeliver κ p)) ∧ (¬ e_kDeliver κ p = 0 → lI κ (s_deliver μ p) O) := by
  obtain ⟨hV, hK, hR, hI, hW, hL, hP, hJ⟩ := id h
  obtain ⟨r1, r2, r3⟩ := R_deliver hV hK hR hI hP hL p hJ
  have hL' : mLi (s_deliver μ p) := Li_8 hL (fun k => s_deliver_fr rfl) (fun k => s_deliver_fr rfl) (fun k => s_deliver_fr rfl) (fun k => s_deliver_fr rfl) (fun k => s_deliver_fr rfl) (fun k => s_deliver_fr rfl) (fun k => s_deliver_fr rfl) (fun k => s_deliver_fr rfl)
  have eb := e_kDeliver_b (κ := κ) (p := p)
  rw [kR_12 (by omega)] at r1
  refine ⟨r1, fun z => ?_, fun z => ⟨hV', hK, r3 z, hI, hW, hL', hP', hJ⟩⟩
  obtain ⟨rv, O', rR, rI⟩ := r2 z
  exact ⟨rv, O', ⟨hV', hK' z, rR, rI, (hW' z), hL', hP', (J_2 hJ (fun k => s_kDeliver_fr rfl) (s_kDeliver_fr rfl))⟩, (deliver_p (lI_Pd h))⟩
theorem J_gone (h : lI κ μ O) (p g : Int) (hV' : mV (s_gone μ p g)) (hL' : mLi (s_gone μ p g)) (hK' : e_kGone κ p g = 0 → kV (s_kGone κ p g)) : s_gone μ p g 0 0 = kR 2 (e_kGone κ p g) ∧ (e_kGone κ p g = 0 → ∃ O', lI (s_kGone κ p g) (s_gone μ p g) O' ∧ kPot κ ≤ kPot (s_kGone κ p g)) ∧ (¬ e_kGone κ p g = 0 → lI κ (s_gone μ p g) O) := by
  obtain ⟨hV, hK, hR, hI, hW, hL, hP, hJ⟩ := id h
  obtain ⟨r1, r2, r3⟩ := R_gone hV hK hR hI hL p g
  have hP' : mP2 (s_gone μ p g) := P2_4 hP (fun k => s_gone_fr rfl) (fun k => s_gone_fr rfl) (fun k => s_gone_fr rfl) (fun k => s_gone_fr rfl)
  refine ⟨r1, fun z => ?_, fun z => ⟨hV', hK, r3 z, hI, hW, hL', hP', hJ⟩⟩
  obtain ⟨rR, rI⟩ := r2 z
  exact ⟨O, ⟨hV', hK' z, rR, rI, (W_7 hW (fun k => s_kGone_fr rfl) (fun k => s_kGone_fr rfl) (fun k => s_kGone_fr rfl) (fun k => s_kGone_fr rfl) (fun k => s_kGone_fr rfl) (fun k => s_kGone_fr rfl) (fun k => s_kGone_fr rfl)), hL', hP', (J_gone0 hJ)⟩, (Int.le_of_eq (Pot_5 (fun k => s_kGone_fr rfl) (fun k => s_kGone_fr rfl) (fun k => s_kGone_fr rfl) (fun k => s_kGone_fr rfl) (fun k => s_kGone_fr rfl)).symm)⟩
theorem J_take (h : lI κ μ O) (s u a b c : Int) (hV' : mV (s_take μ s u a b c)) (hP' : mP2 (s_take μ s u a b c)) (hK' : e_kTakeM κ s u a b c = 0 → kV (s_kTakeM κ s u a b c)) (hW' : e_kTakeM κ s u a b c = 0 → kW (s_kTakeM κ s u a b c)) : s_take μ s u a b c 0 0 = kR 2 (e_kTakeM κ s u a b c) ∧ (e_kTakeM κ s u a b c = 0 → v_take μ s u a b c = v_kTakeM κ s u a b c ∧ ∃ O', lI (s_kTakeM κ s u a b c) (s_take μ s u a b c) O' ∧ kPot κ + ((kTkc κ s u a b c : Nat) : Int) ≤ kPot (s_kTakeM κ s u a b c)) ∧ (¬ e_kTakeM κ s u a b c = 0 → lI κ (s_take μ s u a b c) O) := by
  obtain ⟨hV, hK, hR, hI, hW, hL, hP, hJ⟩ := id h
  obtain ⟨r1, r2, r3⟩ := R_take hV hK hR hI hP s u a b c
  have hL' : mLi (s_take μ s u a b c) := Li_8 hL (fun k => s_take_fr rfl) (fun k => s_take_fr rfl) (fun k => s_take_fr rfl) (fun k => s_take_fr rfl) (fun k => s_take_fr rfl) (fun k => s_take_fr rfl) (fun k => s_take_fr rfl) (fun k => s_take_fr rfl)
  refine ⟨r1, fun z => ?_, fun z => ⟨hV', hK, r3 z, hI, hW, hL', hP', hJ⟩⟩
  obtain ⟨rv, O', rR, rI⟩ := r2 z
  exact ⟨rv, O', ⟨hV', hK' z, rR, rI, (hW' z), hL', hP', (J_2 hJ (fun k => s_kTakeM_fr rfl) (s_kTakeM_fr rfl))⟩, (take_p z (lI_Pd h))⟩
theorem J_line (h : lI κ μ O) (p q : Int) (hV' : mV (s_line μ p q)) : s_line μ p q 0 0 = kR 2 (e_kLine κ p q) ∧ (e_kLine κ p q = 0 → v_line μ p q = v_kLine κ p q ∧ ∃ O', lI κ (s_line μ p q) O' ∧ kPot κ ≤ kPot κ) ∧ (¬ e_kLine κ p q = 0 → lI κ (s_line μ p q) O) := by
  obtain ⟨hV, hK, hR, hI, hW, hL, hP, hJ⟩ := id h
  obtain ⟨r1, r2, r3⟩ := R_line (O := O) hV hR p q
  have hL' : mLi (s_line μ p q) := Li_8 hL (fun k => s_line_fr rfl) (fun k => s_line_fr rfl) (fun k => s_line_fr rfl) (fun k => s_line_fr rfl) (fun k => s_line_fr rfl) (fun k => s_line_fr rfl) (fun k => s_line_fr rfl) (fun k => s_line_fr rfl)
  have hP' : mP2 (s_line μ p q) := P2_4 hP (fun k => s_line_fr rfl) (fun k => s_line_fr rfl) (fun k => s_line_fr rfl) (fun k => s_line_fr rfl)
  have eb := e_kLine_b (κ := κ) (p := p) (q := q)
  rw [kR_12 (by omega)] at r1
  exact ⟨r1, fun z => ⟨r2 z, O, ⟨hV', hK, r3, hI, hW, hL', hP', hJ⟩, Int.le_refl _⟩, fun _ => ⟨hV', hK, r3, hI, hW, hL', hP', hJ⟩⟩
theorem J_data (h : lI κ μ O) (p q : Int) (hV' : mV (s_data μ p q)) : s_data μ p q 0 0 = kR 2 (e_kData κ p q) ∧ (e_kData κ p q = 0 → v_data μ p q = v_kData κ p q ∧ ∃ O', lI κ (s_data μ p q) O' ∧ kPot κ ≤ kPot κ) ∧ (¬ e_kData κ p q = 0 → lI κ (s_data μ p q) O) := by
  obtain ⟨hV, hK, hR, hI, hW, hL, hP, hJ⟩ := id h
  obtain ⟨r1, r2, r3⟩ := R_data (O := O) hV hR p q
  have hL' : mLi (s_data μ p q) := Li_8 hL (fun k => s_data_fr rfl) (fun k => s_data_fr rfl) (fun k => s_data_fr rfl) (fun k => s_data_fr rfl) (fun k => s_data_fr rfl) (fun k => s_data_fr rfl) (fun k => s_data_fr rfl) (fun k => s_data_fr rfl)
  have hP' : mP2 (s_data μ p q) := P2_4 hP (fun k => s_data_fr rfl) (fun k => s_data_fr rfl) (fun k => s_data_fr rfl) (fun k => s_data_fr rfl)
  have eb := e_kData_b (κ := κ) (p := p) (q := q)
  rw [kR_12 (by omega)] at r1
  exact ⟨r1, fun z => ⟨r2 z, O, ⟨hV', hK, r3, hI, hW, hL', hP', hJ⟩, Int.le_refl _⟩, fun _ => ⟨hV', hK, r3, hI, hW, hL', hP', hJ⟩⟩
theorem J_outs (h : lI κ μ O) (q : Int) (hV' : mV (s_outs μ q)) : s_outs μ q 0 0 = kR 2 (e_kOuts κ q) ∧ (e_kOuts κ q = 0 → v_outs μ q = v_kOuts κ q ∧ ∃ O', lI κ (s_outs μ q) O' ∧ kPot κ ≤ kPot κ) ∧ (¬ e_kOuts κ q = 0 → lI κ (s_outs μ q) O) := by
  obtain ⟨hV, hK, hR, hI, hW, hL, hP, hJ⟩ := id h
  obtain ⟨r1, r2, r3⟩ := R_outs (O := O) hV hR q
  have hL' : mLi (s_outs μ q) := Li_8 hL (fun k => s_outs_fr rfl) (fun k => s_outs_fr rfl) (fun k => s_outs_fr rfl) (fun k => s_outs_fr rfl) (fun k => s_outs_fr rfl) (fun k => s_outs_fr rfl) (fun k => s_outs_fr rfl) (fun k => s_outs_fr rfl)
  have hP' : mP2 (s_outs μ q) := P2_4 hP (fun k => s_outs_fr rfl) (fun k => s_outs_fr rfl) (fun k => s_outs_fr rfl) (fun k => s_outs_fr rfl)
  have eb := e_kOuts_b (κ := κ) (q := q)
  rw [kR_12 (by omega)] at r1
  exact ⟨r1, fun z => ⟨r2 z, O, ⟨hV', hK, r3, hI, hW, hL', hP', hJ⟩, Int.le_refl _⟩, fun _ => ⟨hV', hK, r3, hI, hW, hL', hP', hJ⟩⟩
theorem J_stream (h : lI κ μ O) (s i w : Int) (hV' : mV (s_stream μ s i w)) : s_stream μ s i w 0 0 = kR 2 (e_kStream κ s i w) ∧ (e_kStream κ s i w = 0 → v_stream μ s i w = v_kStream κ s i w ∧ ∃ O', lI κ (s_stream μ s i w) O' ∧ kPot κ ≤ kPot κ) ∧ (¬ e_kStream κ s i w = 0 → lI κ (s_stream μ s i w) O) := by
  obtain ⟨hV, hK, hR, hI, hW, hL, hP, hJ⟩ := id h
  obtain ⟨r1, r2, r3⟩ := R_stream hV hK hR s i w
  have hL' : mLi (s_stream μ s i w) := Li_8 hL (fun k => s_stream_fr rfl) (fun k => s_stream_fr rfl) (fun k => s_stream_fr rfl) (fun k => s_stream_fr rfl) (fun k => s_stream_fr rfl) (fun k => s_stream_fr rfl) (fun k => s_stream_fr rfl) (fun k => s_stream_fr rfl)
  have hP' : mP2 (s_stream μ s i w) := P2_4 hP (fun k => s_stream_fr rfl) (fun k => s_stream_fr rfl) (fun k => s_stream_fr rfl) (fun k => s_stream_fr rfl)
  have eb := e_kStream_b (κ := κ) (s := s) (i := i) (w := w)
  rw [kR_12 (by omega)] at r1
  exact ⟨r1, fun z => ⟨r2 z, O, ⟨hV', hK, r3, hI, hW, hL', hP', hJ⟩, Int.le_refl _⟩, fun _ => ⟨hV', hK, r3, hI, hW, hL', hP', hJ⟩⟩
theorem J_side (h : lI κ μ O) (s w : Int) (hV' : mV (s_side μ s w)) : s_side μ s w 0 0 = kR 2 (e_kSide κ s w) ∧ (e_kSide κ s w = 0 → v_side μ s w = v_kSide κ s w ∧ ∃ O', lI κ (s_side μ s w) O' ∧ kPot κ ≤ kPot κ) ∧ (¬ e_kSide κ s w = 0 → lI κ (s_side μ s w) O) := by
  obtain ⟨hV, hK, hR, hI, hW, hL, hP, hJ⟩ := id h
  obtain ⟨r1, r2, r3⟩ := R_side (O := O) hV hR s w
  have hL' : mLi (s_side μ s w) := Li_8 hL (fun k => s_side_fr rfl) (fun k => s_side_fr rfl) (fun k => s_side_fr rfl) (fun k => s_side_fr rfl) (fun k => s_side_fr rfl) (fun k => s_side_fr rfl) (fun k => s_side_fr rfl) (fun k => s_side_fr rfl)
  have hP' : mP2 (s_side μ s w) := P2_4 hP (fun k => s_side_fr rfl) (fun k => s_side_fr rfl) (fun k => s_side_fr rfl) (fun k => s_side_fr rfl)
  have eb := e_kSide_b (κ := κ) (s := s) (w := w)
  rw [kR_12 (by omega)] at r1
  exact ⟨r1, fun z => ⟨r2 z, O, ⟨hV', hK, r3, hI, hW, hL', hP', hJ⟩, Int.le_refl _⟩, fun _ => ⟨hV', hK, r3, hI, hW, hL', hP', hJ⟩⟩
end R64
