section LB
variable {L : Launch} {G : mmG} {B : Nat → Nat → Nat} {bx : Nat → Option (Nat × Nat)} {A : Nat → Nat} {ax : Nat → Option Nat} {ao : Nat} {o : Nat → Int} {κ μ κ' : Nat → Nat → Int} {O : Nat → Nat}
theorem feed16_b {n v : Int} : ∀ (d : Nat) (k : Int) (ν : Nat → Nat → Int), v_kFeed_16 κ n v d k ν = 0 ∨ v_kFeed_16 κ n v d k ν = ν 505 0 + n
  | 0, _, _ => Or.inl rfl
  | d + 1, k, ν => by
    rw [v_kFeed_16]
    split
    · exact Or.inr rfl
    · have := feed16_b (n := n) (v := v) d (k + 1) (u2 ν (1000 + 0) ((ν 505 0) + k).toNat (wB (v % 18446744073709551616 / 2 ^ (8 * k).toNat)))
      rw [u2_f (by decide)] at this
      exact this
theorem vb_feed (hK : kV κ) {n v : Int} : -2147483648 ≤ v_kFeed κ n v ∧ v_kFeed κ n v < 2147483648 := by
  have k5 : 0 ≤ κ 505 0 ∧ κ 505 0 ≤ 2048 := ⟨(hK.1 505 _).1, (hK.1 505 _).2 rfl⟩
  have := feed16_b (κ := κ) (n := n) (v := v) 9 0 κ
  unfold v_kFeed
  repeat' split
  all_goals omega
theorem vb_open (hK : kV κ) {s p : Int} : -2147483648 ≤ v_kOpen κ s p ∧ v_kOpen κ s p < 2147483648 := by
  have k4 : ∀ k, 0 ≤ κ 400 k ∧ κ 400 k ≤ 64 := fun k => ⟨(hK.1 400 _).1, (hK.1 400 _).2 rfl⟩
  have a := k4 ((2 * s) + 1).toNat
  have b := k4 ((2 * s) + 0).toNat
  have c := sideAt_c (κ := κ) s
  unfold v_kOpen v_openNext
  repeat' split
  all_goals omega
theorem vb_write (hK : kV κ) {s i : Int} : -2147483648 ≤ v_kWrite κ s i ∧ v_kWrite κ s i < 2147483648 := by
  have k5 : 0 ≤ κ 505 0 ∧ κ 505 0 ≤ 2048 := ⟨(hK.1 505 _).1, (hK.1 505 _).2 rfl⟩
  have k8 : 0 ≤ κ 308 s.toNat ∧ κ 308 s.toNat ≤ 65536 := ⟨(hK.1 308 _).1, (hK.1 308 _).2 rfl⟩
  have e : (u2 κ 505 0 0) 308 s.toNat = κ 308 s.toNat := u2_f (by decide)
  unfold v_kWrite v_accept v_minI
  rw [e]
  repeat' split
  all_goals omega
theorem move10_b {s i r q : Int} : ∀ (d : Nat) (k n : Int) (ν : Nat → Nat → Int), v_moveOut_10 κ s i r q d k n ν = 0 ∨ v_moveOut_10 κ s i r q d k n ν = n
  | 0, _, _, _ => Or.inl rfl
  | d + 1, k, n, ν => by
    rw [v_moveOut_10]
    split
    · exact Or.inr rfl
    · exact move10_b d _ _ _
theorem vb_read (hK : kV κ) {s i q : Int} : -2147483648 ≤ v_kRead κ s i q ∧ v_kRead κ s i q < 2147483648 := by
  have a : 0 ≤ κ 103 (mj s i) ∧ κ 103 (mj s i) ≤ 65536 := ⟨(hK.1 103 _).1, (hK.1 103 _).2 rfl⟩
  have b : 0 ≤ κ 102 (mj s i) ∧ κ 102 (mj s i) ≤ 65536 := ⟨(hK.1 102 _).1, (hK.1 102 _).2 rfl⟩
  have c := move10_b (κ := κ) (s := s) (i := i) (r := 1) (q := q) 2049 0 (v_minI q ((κ 103 (mj s i)) - (κ 102 (mj s i)))) κ
  have d : v_minI q ((κ 103 (mj s i)) - (κ 102 (mj s i))) = q ∨ v_minI q ((κ 103 (mj s i)) - (κ 102 (mj s i))) = (κ 103 (mj s i)) - (κ 102 (mj s i)) := by
    unfold v_minI
    split
    · exact Or.inr rfl
    · exact Or.inl rfl
  unfold v_kRead v_handOut v_moveOut
  repeat' split
  all_goals omega
theorem least_b : ∀ (d : Nat) (k : Int), 0 ≤ k → k ≤ 64 → 0 ≤ v_leastFreePlace_2 κ d k ∧ v_leastFreePlace_2 κ d k ≤ 64
  | 0, k, _, _ => by show 0 ≤ (0 : Int) ∧ (0 : Int) ≤ 64; omega
  | d + 1, k, h1, h2 => by
    rw [v_leastFreePlace_2]
    repeat' split
    all_goals first | exact least_b d _ (by omega) (by omega) | omega
theorem vb_fill {s m : Int} : -2147483648 ≤ v_kFill κ s m ∧ v_kFill κ s m < 2147483648 := by
  have a : 0 ≤ v_leastFreePlace κ ∧ v_leastFreePlace κ ≤ 64 := least_b (κ := κ) _ 0 (by omega) (by omega)
  unfold v_kFill
  repeat' split
  all_goals omega
theorem vb_data {p q : Int} : -2147483648 ≤ v_kData κ p q ∧ v_kData κ p q < 2147483648 := by
  have := kData_b (κ := κ) (p := p) (q := q)
  omega
theorem K_grant (h : lI κ μ O) (s i v : Int) (hV' : mV (s_grant μ s i v)) (qq : (e_kGrant κ s i v = 0 ∧ κ' = (s_kGrant κ s i v) ∧ kV (s_kGrant κ s i v) ∧ True ∧ True) ∨ (¬ e_kGrant κ s i v = 0 ∧ κ' = κ)) : s_grant μ s i v 0 0 = kR 2 (e_kGrant κ s i v) ∧ (∃ O', lI κ' (s_grant μ s i v) O' ∧ kPot κ + 0 ≤ kPot κ') := by
  have kvz : e_kGrant κ s i v = 0 → kV (s_kGrant κ s i v) := fun z => by
    rcases qq with y | y
    · exact y.2.2.1
    · exact absurd z y.1
  obtain ⟨j1, j2, j3⟩ := J_grant h s i v hV' kvz
  rcases qq with ⟨e, rfl, e1, e2, e3⟩ | ⟨e, rfl⟩
  · obtain ⟨O', jI, jp⟩ := j2 e
    exact ⟨j1, O', jI, by omega⟩
  · have jI := j3 e
    exact ⟨j1, O, jI, by omega⟩
theorem K_join (h : lI κ μ O) (hV' : mV (s_join μ)) (qq : (e_kJoin κ = 0 ∧ κ' = (s_kJoin κ) ∧ kV (s_kJoin κ) ∧ True ∧ True) ∨ (¬ e_kJoin κ = 0 ∧ κ' = κ)) : s_join μ 0 0 = kR 1 (e_kJoin κ) ∧ (∃ O', lI κ' (s_join μ) O' ∧ kPot κ + 0 ≤ kPot κ') := by
  have kvz : e_kJoin κ = 0 → kV (s_kJoin κ) := fun z => by
    rcases qq with y | y
    · exact y.2.2.1
    · exact absurd z y.1
  obtain ⟨j1, j2, j3⟩ := J_join h hV' kvz
  rcases qq with ⟨e, rfl, e1, e2, e3⟩ | ⟨e, rfl⟩
  · obtain ⟨O', jI, jp⟩ := j2 e
    exact ⟨j1, O', jI, by omega⟩
  · have jI := j3 e
    exact ⟨j1, O, jI, by omega⟩
theorem K_feed (h : lI κ μ O) (n v : Int) (hV' : mV (s_feed μ n v)) (qq : (e_kFeed κ n v = 0 ∧ κ' = (s_kFeed κ n v) ∧ kV (s_kFeed κ n v) ∧ True ∧ o 0 = v_kFeed κ n v) ∨ (¬ e_kFeed κ n v = 0 ∧ κ' = κ)) : s_feed μ n v 0 0 = kR 2 (e_kFeed κ n v) ∧ (∃ O', lI κ' (s_feed μ n v) O' ∧ kPot κ + 0 ≤ kPot κ') ∧ (e_kFeed κ n v = 0 → o 0 = v_feed μ n v ∧ -2147483648 ≤ v_feed μ n v ∧ v_feed μ n v < 2147483648) := by
  have kvz : e_kFeed κ n v = 0 → kV (s_kFeed κ n v) := fun z => by
    rcases qq with y | y
    · exact y.2.2.1
    · exact absurd z y.1
  obtain ⟨j1, j2, j3⟩ := J_feed h n v hV' kvz
  rcases qq with ⟨e, rfl, e1, e2, e3⟩ | ⟨e, rfl⟩
  · obtain ⟨jv, O', jI, jp⟩ := j2 e
    exact ⟨j1, ⟨O', jI, by omega⟩, fun _ => ⟨by rw [jv]; exact e3, by rw [jv]; exact vb_feed h.2.1⟩⟩
  · have jI := j3 e
    exact ⟨j1, ⟨O, jI, by omega⟩, fun z => absurd z e⟩
theorem K_open (h : lI κ μ O) (s p : Int) (hV' : mV (s_open μ s p)) (bp : p = 0 ∨ p = 1) (qq : (e_kOpen κ s p = 0 ∧ κ' = (s_kOpen κ s p) ∧ kV (s_kOpen κ s p) ∧ kW (s_kOpen κ s p) ∧ o 0 = v_kOpen κ s p) ∨ (¬ e_kOpen κ s p = 0 ∧ κ' = κ)) : s_open μ s p 0 0 = kR 2 (e_kOpen κ s p) ∧ (∃ O', lI κ' (s_open μ s p) O' ∧ kPot κ + 0 ≤ kPot κ') ∧ (e_kOpen κ s p = 0 → o 0 = v_open μ s p ∧ -2147483648 ≤ v_open μ s p ∧ v_open μ s p < 2147483648) := by
  have kvz : e_kOpen κ s p = 0 → kV (s_kOpen κ s p) := fun z => by
    rcases qq with y | y
    · exact y.2.2.1
    · exact absurd z y.1
  have kwz : e_kOpen κ s p = 0 → kW (s_kOpen κ s p) := fun z => by
    rcases qq with y | y
    · exact y.2.2.2.1
    · exact absurd z y.1
  obtain ⟨j1, j2, j3⟩ := J_open h s p bp hV' kvz kwz
  rcases qq with ⟨e, rfl, e1, e2, e3⟩ | ⟨e, rfl⟩
  · obtain ⟨jv, O', jI, jp⟩ := j2 e
    exact ⟨j1, ⟨O', jI, by omega⟩, fun _ => ⟨by rw [jv]; exact e3, by rw [jv]; exact vb_open h.2.1⟩⟩
  · have jI := j3 e
    exact ⟨j1, ⟨O, jI, by omega⟩, fun z => absurd z e⟩
theorem K_write (h : lI κ μ O) (s i : Int) (hV' : mV (s_write μ s i)) (qq : (e_kWrite κ s i = 0 ∧ κ' = (s_kWrite κ s i) ∧ kV (s_kWrite κ s i) ∧ kW (s_kWrite κ s i) ∧ o 0 = v_kWrite κ s i) ∨ (¬ e_kWrite κ s i = 0 ∧ κ' = κ)) : s_write μ s i 0 0 = kR 2 (e_kWrite κ s i) ∧ (∃ O', lI κ' (s_write μ s i) O' ∧ kPot κ + ((kWr κ s i : Nat) : Int) ≤ kPot κ') ∧ (e_kWrite κ s i = 0 → o 0 = v_write μ s i ∧ -2147483648 ≤ v_write μ s i ∧ v_write μ s i < 2147483648) := by
  have kvz : e_kWrite κ s i = 0 → kV (s_kWrite κ s i) := fun z => by
    rcases qq with y | y
    · exact y.2.2.1
    · exact absurd z y.1
  have kwz : e_kWrite κ s i = 0 → kW (s_kWrite κ s i) := fun z => by
    rcases qq with y | y
    · exact y.2.2.2.1
    · exact absurd z y.1
  obtain ⟨j1, j2, j3⟩ := J_write h s i hV' kvz kwz
  rcases qq with ⟨e, rfl, e1, e2, e3⟩ | ⟨e, rfl⟩
  · obtain ⟨jv, O', jI, jp⟩ := j2 e
    have es : e_sideAt κ s = 0 := by
      unfold e_kWrite at e
      by_cases z : e_sideAt κ s = 0
      · exact z
      · rw [if_neg z] at e; exact absurd e z
    rw [show kWr κ s i = kAcc κ s i (κ 505 0) from if_pos es]
    exact ⟨j1, ⟨O', jI, jp⟩, fun _ => ⟨by rw [jv]; exact e3, by rw [jv]; exact vb_write h.2.1⟩⟩
  · have jI := j3 e
    have es : ¬ e_sideAt κ' s = 0 := fun z => e (by unfold e_kWrite; rw [if_pos z])
    have ez : kWr κ' s i = 0 := if_neg es
    exact ⟨j1, ⟨O, jI, by rw [ez]; simp⟩, fun z => absurd z e⟩
theorem K_finish (h : lI κ μ O) (s i : Int) (hV' : mV (s_finish μ s i)) (qq : (e_kFinish κ s i = 0 ∧ κ' = (s_kFinish κ s i) ∧ kV (s_kFinish κ s i) ∧ True ∧ o 0 = v_kFinish κ s i) ∨ (¬ e_kFinish κ s i = 0 ∧ κ' = κ)) : s_finish μ s i 0 0 = kR 2 (e_kFinish κ s i) ∧ (∃ O', lI κ' (s_finish μ s i) O' ∧ kPot κ + 0 ≤ kPot κ') ∧ (e_kFinish κ s i = 0 → o 0 = v_finish μ s i ∧ (v_finish μ s i = 0 ∨ v_finish μ s i = 1)) := by
  have kvz : e_kFinish κ s i = 0 → kV (s_kFinish κ s i) := fun z => by
    rcases qq with y | y
    · exact y.2.2.1
    · exact absurd z y.1
  obtain ⟨j1, j2, j3⟩ := J_finish h s i hV' kvz
  rcases qq with ⟨e, rfl, e1, e2, e3⟩ | ⟨e, rfl⟩
  · obtain ⟨jv, O', jI, jp⟩ := j2 e
    exact ⟨j1, ⟨O', jI, by omega⟩, fun _ => ⟨by rw [jv]; exact e3, by rw [jv]; exact v_kFinish_z⟩⟩
  · have jI := j3 e
    exact ⟨j1, ⟨O, jI, by omega⟩, fun z => absurd z e⟩
theorem K_reset (h : lI κ μ O) (s i c : Int) (hV' : mV (s_reset μ s i c)) (qq : (e_kReset κ s i c = 0 ∧ κ' = (s_kReset κ s i c) ∧ kV (s_kReset κ s i c) ∧ True ∧ o 0 = v_kReset κ s i c) ∨ (¬ e_kReset κ s i c = 0 ∧ κ' = κ)) : s_reset μ s i c 0 0 = kR 2 (e_kReset κ s i c) ∧ (∃ O', lI κ' (s_reset μ s i c) O' ∧ kPot κ + 0 ≤ kPot κ') ∧ (e_kReset κ s i c = 0 → o 0 = v_reset μ s i c ∧ (v_reset μ s i c = 0 ∨ v_reset μ s i c = 1)) := by
  have kvz : e_kReset κ s i c = 0 → kV (s_kReset κ s i c) := fun z => by
    rcases qq with y | y
    · exact y.2.2.1
    · exact absurd z y.1
  obtain ⟨j1, j2, j3⟩ := J_reset h s i c hV' kvz
  rcases qq with ⟨e, rfl, e1, e2, e3⟩ | ⟨e, rfl⟩
  · obtain ⟨jv, O', jI, jp⟩ := j2 e
    exact ⟨j1, ⟨O', jI, by omega⟩, fun _ => ⟨by rw [jv]; exact e3, by rw [jv]; exact v_kReset_z⟩⟩
  · have jI := j3 e
    exact ⟨j1, ⟨O, jI, by omega⟩, fun z => absurd z e⟩
theorem K_stop (h : lI κ μ O) (s i c : Int) (hV' : mV (s_stop μ s i c)) (qq : (e_kStop κ s i c = 0 ∧ κ' = (s_kStop κ s i c) ∧ kV (s_kStop κ s i c) ∧ True ∧ o 0 = v_kStop κ s i c) ∨ (¬ e_kStop κ s i c = 0 ∧ κ' = κ)) : s_stop μ s i c 0 0 = kR 2 (e_kStop κ s i c) ∧ (∃ O', lI κ' (s_stop μ s i c) O' ∧ kPot κ + 0 ≤ kPot κ') ∧ (e_kStop κ s i c = 0 → o 0 = v_stop μ s i c ∧ (v_stop μ s i c = 0 ∨ v_stop μ s i c = 1)) := by
  have kvz : e_kStop κ s i c = 0 → kV (s_kStop κ s i c) := fun z => by
    rcases qq with y | y
    · exact y.2.2.1
    · exact absurd z y.1
  obtain ⟨j1, j2, j3⟩ := J_stop h s i c hV' kvz
  rcases qq with ⟨e, rfl, e1, e2, e3⟩ | ⟨e, rfl⟩
  · obtain ⟨jv, O', jI, jp⟩ := j2 e
    exact ⟨j1, ⟨O', jI, by omega⟩, fun _ => ⟨by rw [jv]; exact e3, by rw [jv]; exact v_kStop_z⟩⟩
  · have jI := j3 e
    exact ⟨j1, ⟨O, jI, by omega⟩, fun z => absurd z e⟩
theorem K_read (h : lI κ μ O) (s i q : Int) (hV' : mV (s_read μ s i q)) (qq : (e_kRead κ s i q = 0 ∧ κ' = (s_kRead κ s i q) ∧ kV (s_kRead κ s i q) ∧ True ∧ o 0 = v_kRead κ s i q) ∨ (¬ e_kRead κ s i q = 0 ∧ κ' = κ)) : s_read μ s i q 0 0 = kR 2 (e_kRead κ s i q) ∧ (∃ O', lI κ' (s_read μ s i q) O' ∧ kPot κ + 0 ≤ kPot κ') ∧ (e_kRead κ s i q = 0 → o 0 = v_read μ s i q ∧ -2147483648 ≤ v_read μ s i q ∧ v_read μ s i q < 2147483648) := by
  have kvz : e_kRead κ s i q = 0 → kV (s_kRead κ s i q) := fun z => by
    rcases qq with y | y
    · exact y.2.2.1
    · exact absurd z y.1
  obtain ⟨j1, j2, j3⟩ := J_read h s i q hV' kvz
  rcases qq with ⟨e, rfl, e1, e2, e3⟩ | ⟨e, rfl⟩
  · obtain ⟨jv, O', jI, jp⟩ := j2 e
    exact ⟨j1, ⟨O', jI, by omega⟩, fun _ => ⟨by rw [jv]; exact e3, by rw [jv]; exact vb_read h.2.1⟩⟩
  · have jI := j3 e
    exact ⟨j1, ⟨O, jI, by omega⟩, fun z => absurd z e⟩
theorem K_fill (h : lI κ μ O) (s r : Int) (hV' : mV (s_fill μ s r)) (hL' : mLi (s_fill μ s r)) (qq : (e_kFill κ s r = 0 ∧ κ' = (s_kFill κ s r) ∧ kV (s_kFill κ s r) ∧ True ∧ o 0 = v_kFill κ s r) ∨ (¬ e_kFill κ s r = 0 ∧ κ' = κ)) : s_fill μ s r 0 0 = kR 2 (e_kFill κ s r) ∧ (∃ O', lI κ' (s_fill μ s r) O' ∧ kPot κ + 0 ≤ kPot κ') ∧ (e_kFill κ s r = 0 → o 0 = v_fill μ s r ∧ -2147483648 ≤ v_fill μ s r ∧ v_fill μ s r < 2147483648) := by
  have kvz : e_kFill κ s r = 0 → kV (s_kFill κ s r) := fun z => by
    rcases qq with y | y
    · exact y.2.2.1
    · exact absurd z y.1
  obtain ⟨j1, j2, j3⟩ := J_fill h s r hV' hL' kvz
  rcases qq with ⟨e, rfl, e1, e2, e3⟩ | ⟨e, rfl⟩
  · obtain ⟨jv, O', jI, jp⟩ := j2 e
    exact ⟨j1, ⟨O', jI, by omega⟩, fun _ => ⟨by rw [jv]; exact e3, by rw [jv]; exact vb_fill⟩⟩
  · have jI := j3 e
    exact ⟨j1, ⟨O, jI, by omega⟩, fun z => absurd z e⟩
theorem K_deliver (h : lI κ μ O) (p : Int) (hV' : mV (s_deliver μ p)) (hB' : 0 ≤ v_deliver μ p ∧ v_deliver μ p ≤ 6) (hP' : mP2 (s_deliver μ p)) (qq : (e_kDeliver κ p = 0 ∧ κ' = (s_kDeliver κ p) ∧ kV (s_kDeliver κ p) ∧ kW (s_kDeliver κ p) ∧ o 0 = v_kDeliver κ p) ∨ (¬ e_kDeliver κ p = 0 ∧ κ' = κ)) : s_deliver μ p 0 0 = kR 2 (e_kDeliver κ p) ∧ (∃ O', lI κ' (s_deliver μ p) O' ∧ kPot κ + ((kDel κ p : Nat) : Int) ≤ kPot κ') ∧ (e_kDeliver κ p = 0 → o 0 = v_deliver μ p ∧ -2147483648 ≤ v_deliver μ p ∧ v_deliver μ p < 2147483648) := by
  have kvz : e_kDeliver κ p = 0 → kV (s_kDeliver κ p) := fun z => by
    rcases qq with y | y
    · exact y.2.2.1
    · exact absurd z y.1
  have kwz : e_kDeliver κ p = 0 → kW (s_kDeliver κ p) := fun z => by
    rcases qq with y | y
    · exact y.2.2.2.1
    · exact absurd z y.1
  obtain ⟨j1, j2, j3⟩ := J_deliver h p hV' hP' kvz kwz
  rcases qq with ⟨e, rfl, e1, e2, e3⟩ | ⟨e, rfl⟩
  · obtain ⟨jv, O', jI, jp⟩ := j2 e
    exact ⟨j1, ⟨O', jI, jp⟩, fun _ => ⟨by rw [jv]; exact e3, by omega⟩⟩
  · have jI := j3 e
    have es : ¬ e_frameAt κ' p = 0 := fun z => e (by unfold e_kDeliver; rw [if_pos z, ite_self])
    have ez : kDel κ' p = 0 := if_neg es
    exact ⟨j1, ⟨O, jI, by rw [ez]; simp⟩, fun z => absurd z e⟩
theorem K_gone (h : lI κ μ O) (p g : Int) (hV' : mV (s_gone μ p g)) (hL' : mLi (s_gone μ p g)) (qq : (e_kGone κ p g = 0 ∧ κ' = (s_kGone κ p g) ∧ kV (s_kGone κ p g) ∧ True ∧ True) ∨ (¬ e_kGone κ p g = 0 ∧ κ' = κ)) : s_gone μ p g 0 0 = kR 2 (e_kGone κ p g) ∧ (∃ O', lI κ' (s_gone μ p g) O' ∧ kPot κ + 0 ≤ kPot κ') := by
  have kvz : e_kGone κ p g = 0 → kV (s_kGone κ p g) := fun z => by
    rcases qq with y | y
    · exact y.2.2.1
    · exact absurd z y.1
  obtain ⟨j1, j2, j3⟩ := J_gone h p g hV' hL' kvz
  rcases qq with ⟨e, rfl, e1, e2, e3⟩ | ⟨e, rfl⟩
  · obtain ⟨O', jI, jp⟩ := j2 e
    exact ⟨j1, O', jI, by omega⟩
  · have jI := j3 e
    exact ⟨j1, O, jI, by omega⟩
theorem K_take (h : lI κ μ O) (s u a b c : Int) (hV' : mV (s_take μ s u a b c)) (hB' : 0 ≤ v_take μ s u a b c ∧ v_take μ s u a b c ≤ 6) (hP' : mP2 (s_take μ s u a b c)) (qq : (e_kTakeM κ s u a b c = 0 ∧ κ' = (s_kTakeM κ s u a b c) ∧ kV (s_kTakeM κ s u a b c) ∧ kW (s_kTakeM κ s u a b c) ∧ o 0 = v_kTakeM κ s u a b c) ∨ (¬ e_kTakeM κ s u a b c = 0 ∧ κ' = κ)) : s_take μ s u a b c 0 0 = kR 2 (e_kTakeM κ s u a b c) ∧ (∃ O', lI κ' (s_take μ s u a b c) O' ∧ kPot κ + ((kTkc κ s u a b c : Nat) : Int) ≤ kPot κ') ∧ (e_kTakeM κ s u a b c = 0 → o 0 = v_take μ s u a b c ∧ -2147483648 ≤ v_take μ s u a b c ∧ v_take μ s u a b c < 2147483648) := by
  have kvz : e_kTakeM κ s u a b c = 0 → kV (s_kTakeM κ s u a b c) := fun z => by
    rcases qq with y | y
    · exact y.2.2.1
    · exact absurd z y.1
  have kwz : e_kTakeM κ s u a b c = 0 → kW (s_kTakeM κ s u a b c) := fun z => by
    rcases qq with y | y
    · exact y.2.2.2.1
    · exact absurd z y.1
  obtain ⟨j1, j2, j3⟩ := J_take h s u a b c hV' hP' kvz kwz
  rcases qq with ⟨e, rfl, e1, e2, e3⟩ | ⟨e, rfl⟩
  · obtain ⟨jv, O', jI, jp⟩ := j2 e
    exact ⟨j1, ⟨O', jI, jp⟩, fun _ => ⟨by rw [jv]; exact e3, by omega⟩⟩
  · have jI := j3 e
    have ez : kTkc κ' s u a b c = 0 := if_neg (kTc_n e)
    exact ⟨j1, ⟨O, jI, by rw [ez]; simp⟩, fun z => absurd z e⟩
theorem K_line (h : lI κ μ O) (p q : Int) (hV' : mV (s_line μ p q)) (qq : (e_kLine κ p q = 0 ∧ κ' = κ ∧ kV κ ∧ True ∧ o 0 = v_kLine κ p q) ∨ (¬ e_kLine κ p q = 0 ∧ κ' = κ)) : s_line μ p q 0 0 = kR 2 (e_kLine κ p q) ∧ (∃ O', lI κ' (s_line μ p q) O' ∧ kPot κ + 0 ≤ kPot κ') ∧ (e_kLine κ p q = 0 → o 0 = v_line μ p q) := by
  have kvz : e_kLine κ p q = 0 → kV κ := fun z => by
    rcases qq with y | y
    · exact y.2.2.1
    · exact absurd z y.1
  obtain ⟨j1, j2, j3⟩ := J_line h p q hV'
  rcases qq with ⟨e, rfl, e1, e2, e3⟩ | ⟨e, rfl⟩
  · obtain ⟨jv, O', jI, jp⟩ := j2 e
    exact ⟨j1, ⟨O', jI, by omega⟩, fun _ => by rw [jv]; exact e3⟩
  · have jI := j3 e
    exact ⟨j1, ⟨O, jI, by omega⟩, fun z => absurd z e⟩
theorem K_data (h : lI κ μ O) (p q : Int) (hV' : mV (s_data μ p q)) (qq : (e_kData κ p q = 0 ∧ κ' = κ ∧ kV κ ∧ True ∧ o 0 = v_kData κ p q) ∨ (¬ e_kData κ p q = 0 ∧ κ' = κ)) : s_data μ p q 0 0 = kR 2 (e_kData κ p q) ∧ (∃ O', lI κ' (s_data μ p q) O' ∧ kPot κ + 0 ≤ kPot κ') ∧ (e_kData κ p q = 0 → o 0 = v_data μ p q ∧ -2147483648 ≤ v_data μ p q ∧ v_data μ p q < 2147483648) := by
  have kvz : e_kData κ p q = 0 → kV κ := fun z => by
    rcases qq with y | y
    · exact y.2.2.1
    · exact absurd z y.1
  obtain ⟨j1, j2, j3⟩ := J_data h p q hV'
  rcases qq with ⟨e, rfl, e1, e2, e3⟩ | ⟨e, rfl⟩
  · obtain ⟨jv, O', jI, jp⟩ := j2 e
    exact ⟨j1, ⟨O', jI, by omega⟩, fun _ => ⟨by rw [jv]; exact e3, by rw [jv]; exact vb_data⟩⟩
  · have jI := j3 e
    exact ⟨j1, ⟨O, jI, by omega⟩, fun z => absurd z e⟩
theorem K_outs (h : lI κ μ O) (q : Int) (hV' : mV (s_outs μ q)) (qq : (e_kOuts κ q = 0 ∧ κ' = κ ∧ kV κ ∧ True ∧ o 0 = v_kOuts κ q) ∨ (¬ e_kOuts κ q = 0 ∧ κ' = κ)) : s_outs μ q 0 0 = kR 2 (e_kOuts κ q) ∧ (∃ O', lI κ' (s_outs μ q) O' ∧ kPot κ + 0 ≤ kPot κ') ∧ (e_kOuts κ q = 0 → o 0 = v_outs μ q) := by
  have kvz : e_kOuts κ q = 0 → kV κ := fun z => by
    rcases qq with y | y
    · exact y.2.2.1
    · exact absurd z y.1
  obtain ⟨j1, j2, j3⟩ := J_outs h q hV'
  rcases qq with ⟨e, rfl, e1, e2, e3⟩ | ⟨e, rfl⟩
  · obtain ⟨jv, O', jI, jp⟩ := j2 e
    exact ⟨j1, ⟨O', jI, by omega⟩, fun _ => by rw [jv]; exact e3⟩
  · have jI := j3 e
    exact ⟨j1, ⟨O, jI, by omega⟩, fun z => absurd z e⟩
theorem K_stream (h : lI κ μ O) (s i w : Int) (hV' : mV (s_stream μ s i w)) (qq : (e_kStream κ s i w = 0 ∧ κ' = κ ∧ kV κ ∧ True ∧ o 0 = v_kStream κ s i w) ∨ (¬ e_kStream κ s i w = 0 ∧ κ' = κ)) : s_stream μ s i w 0 0 = kR 2 (e_kStream κ s i w) ∧ (∃ O', lI κ' (s_stream μ s i w) O' ∧ kPot κ + 0 ≤ kPot κ') ∧ (e_kStream κ s i w = 0 → o 0 = v_stream μ s i w) := by
  have kvz : e_kStream κ s i w = 0 → kV κ := fun z => by
    rcases qq with y | y
    · exact y.2.2.1
    · exact absurd z y.1
  obtain ⟨j1, j2, j3⟩ := J_stream h s i w hV'
  rcases qq with ⟨e, rfl, e1, e2, e3⟩ | ⟨e, rfl⟩
  · obtain ⟨jv, O', jI, jp⟩ := j2 e
    exact ⟨j1, ⟨O', jI, by omega⟩, fun _ => by rw [jv]; exact e3⟩
  · have jI := j3 e
    exact ⟨j1, ⟨O, jI, by omega⟩, fun z => absurd z e⟩
theorem K_side (h : lI κ μ O) (s w : Int) (hV' : mV (s_side μ s w)) (qq : (e_kSide κ s w = 0 ∧ κ' = κ ∧ kV κ ∧ True ∧ o 0 = v_kSide κ s w) ∨ (¬ e_kSide κ s w = 0 ∧ κ' = κ)) : s_side μ s w 0 0 = kR 2 (e_kSide κ s w) ∧ (∃ O', lI κ' (s_side μ s w) O' ∧ kPot κ + 0 ≤ kPot κ') ∧ (e_kSide κ s w = 0 → o 0 = v_side μ s w) := by
  have kvz : e_kSide κ s w = 0 → kV κ := fun z => by
    rcases qq with y | y
    · exact y.2.2.1
    · exact absurd z y.1
  obtain ⟨j1, j2, j3⟩ := J_side h s w hV'
  rcases qq with ⟨e, rfl, e1, e2, e3⟩ | ⟨e, rfl⟩
  · obtain ⟨jv, O', jI, jp⟩ := j2 e
    exact ⟨j1, ⟨O', jI, by omega⟩, fun _ => by rw [jv]; exact e3⟩
  · have jI := j3 e
    exact ⟨j1, ⟨O, jI, by omega⟩, fun z => absurd z e⟩
end LB
