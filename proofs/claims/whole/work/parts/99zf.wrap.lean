section LW
variable {L : Launch} {G : mmG} {B : Nat → Nat → Nat} {bx : Nat → Option (Nat × Nat)} {A : Nat → Nat} {ax : Nat → Option Nat} {ao : Nat} {o : Nat → Int} {κ μ κ' : Nat → Nat → Int} {O : Nat → Nat}
/-! the law's heap: the class's cells, the reference's, the cell for answers -/
def oc (G : mmG) (o : Nat → Int) : va_E := .inl (mm_dA G 1, 1, .inr (.inl (fun q => iL (o q))))
def lH0 (G : mmG) (A : Nat → Nat) (ax : Nat → Option Nat) (ao : Nat) (o : Nat → Int) (μ : Nat → Nat → Int) : mmH := hm G A ax (va_up (fun _ => none) ao (some (oc G o))) μ
def lH (G : mmG) (A : Nat → Nat) (ax : Nat → Option Nat) (B : Nat → Nat → Nat) (bx : Nat → Option (Nat × Nat)) (ao : Nat) (o : Nat → Int) (κ μ : Nat → Nat → Int) : mmH := hk G B bx (lH0 G A ax ao o μ) κ
def lS (B : Nat → Nat → Nat) (bx : Nat → Option (Nat × Nat)) (A : Nat → Nat) (ax : Nat → Option Nat) (ao : Nat) (κ : Nat → Nat → Int) : Prop := kx B bx κ ∧ mx A ax ∧ (∀ q, bx q = none ∨ ax q = none) ∧ bx ao = none ∧ ax ao = none
theorem lH_hm (h : lS B bx A ax ao κ) : lH G A ax B bx ao o κ μ = hm G A ax (hk G B bx (va_up (fun _ => none) ao (some (oc G o))) κ) μ := hk_hm h.2.2.1
theorem lH0_ao (h : ax ao = none) : lH0 G A ax ao o μ ao = some (oc G o) := by
  unfold lH0 hm
  rw [h]
  exact up_s _ _ _
theorem lH_ao (h : lS B bx A ax ao κ) : lH G A ax B bx ao o κ μ ao = some (oc G o) := (hk_rest h.2.2.2.1).trans (lH0_ao h.2.2.2.2)
theorem lH_A (h : lS B bx A ax ao κ) : ∃ fs, lH G A ax B bx ao o κ μ (A 99) = some (.inr (6, fs)) := by
  rw [lH_hm h]
  exact ⟨_, hm_o h.2.1⟩
theorem lH0_n {q f : Nat} (h : ax q = some f) : lH0 G A ax ao o μ q ≠ none := by
  unfold lH0 hm
  rw [h]
  show (if f = 99 then some (.inr (6, mobj A μ)) else some (marr G μ f)) ≠ none
  split <;> exact fun z => nomatch z
theorem lout_e {v : Int} (h : ax ao = none) : kOut G (lH0 G A ax ao o μ) ao o v = lH0 G A ax ao (fun q => if q = (0 : Int).toNat then v else o q) μ := by
  funext q
  unfold kOut
  by_cases e : q = ao
  · rw [e, up_s, lH0_ao h]; rfl
  · rw [up_n e]
    unfold lH0 hm
    cases ax q with
    | none => show va_up (fun _ => none) ao _ q = va_up (fun _ => none) ao _ q; rw [up_n e, up_n e]
    | some f => rfl
/-- what a wrapper of the law leaves -/
def wR (G : mmG) (A : Nat → Nat) (ax : Nat → Option Nat) (B : Nat → Nat → Nat) (ao : Nat) (κ μ : Nat → Nat → Int) (e c2 : Int) (S : Nat → Nat → Int) (Wp : Prop) (Z : (Nat → Int) → Prop) : Option Value → mmH → Prop := fun r h =>
  ∃ B' bx' κ' o', r = some (.int (iI (kR c2 e))) ∧ h = lH G A ax B' bx' ao o' κ' μ ∧ lS B' bx' A ax ao κ' ∧ B' 5 0 = B 5 0 ∧ ((e = 0 ∧ κ' = S ∧ kV S ∧ Wp ∧ Z o') ∨ (¬ e = 0 ∧ κ' = κ))
theorem kR_0 {c2 e : Int} (h : e = 0) : kR c2 e = 0 := if_pos h
theorem kR_n {c2 e : Int} (h : ¬ e = 0) : kR c2 e = kCd c2 e := if_neg h
theorem wLv {e c2 : Int} {S : Nat → Nat → Int} (hs : lS B bx A ax ao κ) {r : Option Value} {h : mmH} (q : kLn G B bx (lH0 G A ax ao o μ) (lH0 G A ax ao o μ) κ e c2 S r h) : wR G A ax B ao κ μ e c2 S True (fun _ => True) r h := by
  rcases q with ⟨he, rfl, rfl, hx1, hV1⟩ | ⟨he, rfl, rfl⟩
  · exact ⟨B, bx, S, o, by rw [kR_0 he], rfl, ⟨hx1, hs.2⟩, rfl, Or.inl ⟨he, rfl, hV1, trivial, trivial⟩⟩
  · exact ⟨B, bx, κ, o, by rw [kR_n he], rfl, hs, rfl, Or.inr ⟨he, rfl⟩⟩
theorem wLn {e c2 v : Int} {S : Nat → Nat → Int} (hs : lS B bx A ax ao κ) {r : Option Value} {h : mmH} (q : kLn G B bx (lH0 G A ax ao o μ) (kOut G (lH0 G A ax ao o μ) ao o v) κ e c2 S r h) : wR G A ax B ao κ μ e c2 S True (fun o' => o' 0 = v) r h := by
  rcases q with ⟨he, rfl, rfl, hx1, hV1⟩ | ⟨he, rfl, rfl⟩
  · exact ⟨B, bx, S, (fun q => if q = (0 : Int).toNat then v else o q), by rw [kR_0 he], by rw [lout_e hs.2.2.2.2]; rfl, ⟨hx1, hs.2⟩, rfl, Or.inl ⟨he, rfl, hV1, trivial, if_pos rfl⟩⟩
  · exact ⟨B, bx, κ, o, by rw [kR_n he], rfl, hs, rfl, Or.inr ⟨he, rfl⟩⟩
theorem wLa {e c2 v : Int} {S : Nat → Nat → Int} (hs : lS B bx A ax ao κ) {r : Option Value} {h : mmH} (q : kLa G B bx (lH0 G A ax ao o μ) (kOut G (lH0 G A ax ao o μ) ao o v) κ e c2 S r h) : wR G A ax B ao κ μ e c2 S (kW S) (fun o' => o' 0 = v) r h := by
  rcases q with ⟨he, rfl, B', bx', rfl, hx1, hV1, hA⟩ | ⟨he, rfl, rfl⟩
  · have hao : bx' ao = none := (hA.2.2 ao (by rw [lH0_ao hs.2.2.2.2]; exact fun z => nomatch z)).trans hs.2.2.2.1
    refine ⟨B', bx', S, (fun q => if q = (0 : Int).toNat then v else o q), by rw [kR_0 he], by rw [lout_e hs.2.2.2.2]; rfl, ⟨hx1, hs.2.1, fun q => ?_, hao, hs.2.2.2.2⟩, (hA.1 5 0 rfl).1.symm, Or.inl ⟨he, rfl, hV1, hA.2.1, if_pos rfl⟩⟩
    cases e : ax q with
    | none => exact Or.inr rfl
    | some f =>
      refine Or.inl ((hA.2.2 q (lH0_n e)).trans ?_)
      rcases hs.2.2.1 q with z | z
      · exact z
      · rw [e] at z; cases z
  · exact ⟨B, bx, κ, o, by rw [kR_n he], rfl, hs, rfl, Or.inr ⟨he, rfl⟩⟩
/-- what write makes -/
def kWr (κ : Nat → Nat → Int) (s i : Int) : Nat := if e_sideAt κ s = 0 then kAcc κ s i (κ 505 0) else 0
theorem i32_lo (x : Int32) : -2147483648 ≤ x.toInt := Int32.le_toInt x
theorem i32_hi (x : Int32) : x.toInt < 2147483648 := by have := Int32.toInt_lt x; omega
theorem i64_lo (x : Int64) : -9223372036854775808 ≤ x.toInt := Int64.le_toInt x
theorem i64_hi (x : Int64) : x.toInt < 9223372036854775808 := by have := Int64.toInt_lt x; omega
theorem i64_s (x : Int64) : x = iL x.toInt := (Int64.ofInt_toInt x).symm
theorem i32_s (x : Int32) : x = iI x.toInt := (Int32.ofInt_toInt x).symm
set_option maxRecDepth 100000 in
theorem w_grant (hF : mm_F G) (htr : L.stackTraces = false) (hs : lS B bx A ax ao κ) (h : lI κ μ O) {s i v : Int} (ls : -2147483648 ≤ s) (us : s < 2147483648) (li : -2147483648 ≤ i) (ui : i < 2147483648) (lv : -2147483648 ≤ v) (uv : v < 2147483648) :
    mm_Met L G SL_grant [.ref (B 5 0), .int (iI s), .int (iI i), .int (iI v)] (lH G A ax B bx ao o κ μ) 2 12 (wR G A ax B ao κ μ (e_kGrant κ s i v) 2 (s_kGrant κ s i v) True (fun _ => True)) mm_no := by
  obtain ⟨hM, hK, hR, hI, hW, hL, hP, hJ⟩ := id h
  obtain ⟨q1, q2, q3, q4, q5, q6, q7, q8⟩ := hR.1
  have r1 : 0 < κ 602 0 := by omega
  have r2 : κ 601 0 = 2 := q6.2.1
  have r3 : 2048 ≤ κ 600 0 := by rw [q6.1]; decide
  have r4 : 1 < κ 602 0 := by omega
  have r5 : κ 601 1 = 2 := q7.2.1
  have r6 : 2048 ≤ κ 600 1 := by rw [q7.1]; decide
  exact (m_L_grant hF htr hs.1 hK rfl ls us li ui lv uv).mono (fun _ _ q => wLv hs q) (fun _ _ q => q)
theorem n_grant (hF : mm_F G) (htr : L.stackTraces = false) (hs : lS B bx A ax ao κ') (h : lI κ μ O) {s i v : Int} (ls : -2147483648 ≤ s) (us : s < 2147483648) (li : -2147483648 ≤ i) (ui : i < 2147483648) (lv : -2147483648 ≤ v) (uv : v < 2147483648) :
    mm_Met L G SX6_grant [.ref (A 99), .int (iI s), .int (iI i), .int (iI v)] (lH G A ax B bx ao o κ' μ) 0 0 (mRetS none (lH G A ax B bx ao o κ' (s_grant μ s i v)) (mV (s_grant μ s i v))) mm_no := by
  obtain ⟨hM, hK, hR, hI, hW, hL, hP, hJ⟩ := id h
  rw [lH_hm hs, lH_hm hs]
  exact m_grant hF htr hs.2.1 hM ls us li ui lv uv
set_option maxRecDepth 100000 in
theorem w_join (hF : mm_F G) (htr : L.stackTraces = false) (hs : lS B bx A ax ao κ) (h : lI κ μ O) :
    mm_Met L G SL_join [.ref (B 5 0)] (lH G A ax B bx ao o κ μ) 1 6 (wR G A ax B ao κ μ (e_kJoin κ) 1 (s_kJoin κ) True (fun _ => True)) mm_no := by
  obtain ⟨hM, hK, hR, hI, hW, hL, hP, hJ⟩ := id h
  obtain ⟨q1, q2, q3, q4, q5, q6, q7, q8⟩ := hR.1
  have r1 : 0 < κ 602 0 := by omega
  have r2 : κ 601 0 = 2 := q6.2.1
  have r3 : 2048 ≤ κ 600 0 := by rw [q6.1]; decide
  have r4 : 1 < κ 602 0 := by omega
  have r5 : κ 601 1 = 2 := q7.2.1
  have r6 : 2048 ≤ κ 600 1 := by rw [q7.1]; decide
  exact (m_L_join hF htr hs.1 hK rfl (by have := Rel_g8 hR 0 (by omega) (by omega); exact this) (by have := Rel_g9 hR 0 (by omega) (by omega); exact this) (by have := Rel_g8 hR 1 (by omega) (by omega); exact this) (by have := Rel_g9 hR 1 (by omega) (by omega); exact this)).mono (fun _ _ q => wLv hs q) (fun _ _ q => q)
theorem n_join (hF : mm_F G) (htr : L.stackTraces = false) (hs : lS B bx A ax ao κ') (h : lI κ μ O) :
    mm_Met L G SX6_join [.ref (A 99)] (lH G A ax B bx ao o κ' μ) 0 0 (mRetS none (lH G A ax B bx ao o κ' (s_join μ)) (mV (s_join μ))) mm_no := by
  obtain ⟨hM, hK, hR, hI, hW, hL, hP, hJ⟩ := id h
  rw [lH_hm hs, lH_hm hs]
  exact m_join hF htr hs.2.1 hM
set_option maxRecDepth 100000 in
theorem w_feed (hF : mm_F G) (htr : L.stackTraces = false) (hs : lS B bx A ax ao κ) (h : lI κ μ O) {n v : Int} (ln : -2147483648 ≤ n) (un : n < 2147483648) (lv : -9223372036854775808 ≤ v) (uv : v < 9223372036854775808) :
    mm_Met L G SL_feed [.ref (B 5 0), .int (iI n), .long (iL v), .ref ao] (lH G A ax B bx ao o κ μ) 1 6 (wR G A ax B ao κ μ (e_kFeed κ n v) 2 (s_kFeed κ n v) True (fun o' => o' 0 = v_kFeed κ n v)) mm_no := by
  obtain ⟨hM, hK, hR, hI, hW, hL, hP, hJ⟩ := id h
  obtain ⟨q1, q2, q3, q4, q5, q6, q7, q8⟩ := hR.1
  have r1 : 0 < κ 602 0 := by omega
  have r2 : κ 601 0 = 2 := q6.2.1
  have r3 : 2048 ≤ κ 600 0 := by rw [q6.1]; decide
  have r4 : 1 < κ 602 0 := by omega
  have r5 : κ 601 1 = 2 := q7.2.1
  have r6 : 2048 ≤ κ 600 1 := by rw [q7.1]; decide
  exact (m_L_feed hF htr hs.1 hK rfl ln un lv uv r1 r2 r3 hs.2.2.2.1 (lH0_ao hs.2.2.2.2)).mono (fun _ _ q => wLn hs q) (fun _ _ q => q)
theorem n_feed (hF : mm_F G) (htr : L.stackTraces = false) (hs : lS B bx A ax ao κ') (h : lI κ μ O) {n v : Int} (ln : -2147483648 ≤ n) (un : n < 2147483648) (lv : -9223372036854775808 ≤ v) (uv : v < 9223372036854775808) :
    mm_Met L G SX6_feed [.ref (A 99), .int (iI n), .long (iL v)] (lH G A ax B bx ao o κ' μ) 0 0 (mRetS (some (.int (iI (v_feed μ n v)))) (lH G A ax B bx ao o κ' (s_feed μ n v)) (mV (s_feed μ n v))) mm_no := by
  obtain ⟨hM, hK, hR, hI, hW, hL, hP, hJ⟩ := id h
  rw [lH_hm hs, lH_hm hs]
  exact m_feed hF htr hs.2.1 hM ln un lv uv
set_option maxRecDepth 100000 in
theorem w_open (hF : mm_F G) (htr : L.stackTraces = false) (hs : lS B bx A ax ao κ) (h : lI κ μ O) {s p : Int} (ls : -2147483648 ≤ s) (us : s < 2147483648) (bp : p = 0 ∨ p = 1) :
    mm_Met L G SL_open [.ref (B 5 0), .int (iI s), .int (iI p), .ref ao] (lH G A ax B bx ao o κ μ) 7 38 (wR G A ax B ao κ μ (e_kOpen κ s p) 2 (s_kOpen κ s p) (kW (s_kOpen κ s p)) (fun o' => o' 0 = v_kOpen κ s p)) mm_no := by
  obtain ⟨hM, hK, hR, hI, hW, hL, hP, hJ⟩ := id h
  obtain ⟨q1, q2, q3, q4, q5, q6, q7, q8⟩ := hR.1
  have r1 : 0 < κ 602 0 := by omega
  have r2 : κ 601 0 = 2 := q6.2.1
  have r3 : 2048 ≤ κ 600 0 := by rw [q6.1]; decide
  have r4 : 1 < κ 602 0 := by omega
  have r5 : κ 601 1 = 2 := q7.2.1
  have r6 : 2048 ≤ κ 600 1 := by rw [q7.1]; decide
  exact (m_L_open hF htr hs.1 hK hW rfl ls us bp (Rel_O hK hR) hs.2.2.2.1 (lH0_ao hs.2.2.2.2)).mono (fun _ _ q => wLa hs q) (fun _ _ q => q)
theorem n_open (hF : mm_F G) (htr : L.stackTraces = false) (hs : lS B bx A ax ao κ') (h : lI κ μ O) {s p : Int} (ls : -2147483648 ≤ s) (us : s < 2147483648) (bp : p = 0 ∨ p = 1) :
    mm_Met L G SX6_open [.ref (A 99), .int (iI s), .int (iI p)] (lH G A ax B bx ao o κ' μ) 0 0 (mRetS (some (.int (iI (v_open μ s p)))) (lH G A ax B bx ao o κ' (s_open μ s p)) (mV (s_open μ s p))) mm_no := by
  obtain ⟨hM, hK, hR, hI, hW, hL, hP, hJ⟩ := id h
  rw [lH_hm hs, lH_hm hs]
  exact m_open hF htr hs.2.1 hM ls us bp
set_option maxRecDepth 100000 in
theorem w_write (hF : mm_F G) (htr : L.stackTraces = false) (hs : lS B bx A ax ao κ) (h : lI κ μ O) {s i : Int} (ls : -2147483648 ≤ s) (us : s < 2147483648) (li : -2147483648 ≤ i) (ui : i < 2147483648) :
    mm_Met L G SL_write [.ref (B 5 0), .int (iI s), .int (iI i), .ref ao] (lH G A ax B bx ao o κ μ) 3 (6 + kWr κ s i) (wR G A ax B ao κ μ (e_kWrite κ s i) 2 (s_kWrite κ s i) (kW (s_kWrite κ s i)) (fun o' => o' 0 = v_kWrite κ s i)) mm_no := by
  obtain ⟨hM, hK, hR, hI, hW, hL, hP, hJ⟩ := id h
  obtain ⟨q1, q2, q3, q4, q5, q6, q7, q8⟩ := hR.1
  have r1 : 0 < κ 602 0 := by omega
  have r2 : κ 601 0 = 2 := q6.2.1
  have r3 : 2048 ≤ κ 600 0 := by rw [q6.1]; decide
  have r4 : 1 < κ 602 0 := by omega
  have r5 : κ 601 1 = 2 := q7.2.1
  have r6 : 2048 ≤ κ 600 1 := by rw [q7.1]; decide
  by_cases e : e_sideAt κ s = 0
  · rw [show kWr κ s i = kAcc κ s i (κ 505 0) from if_pos e]
    exact (m_L_write hF htr hs.1 hK hW rfl ls us li ui r1 r2 r3 (Rel_SA hM hK hR) (Rel_SRA hM hR) hs.2.2.2.1 (lH0_ao hs.2.2.2.2)).mono (fun _ _ q => wLa hs q) (fun _ _ q => q)
  · rw [show kWr κ s i = 0 from if_neg e]
    exact (m_L_write_n (h1' := kOut G (lH0 G A ax ao o μ) ao o (v_kWrite κ s i)) (S := s_kWrite κ s i) hF htr hs.1 hK rfl ls us e).mono (fun _ _ q => wLa hs q) (fun _ _ q => q)
theorem n_write (hF : mm_F G) (htr : L.stackTraces = false) (hs : lS B bx A ax ao κ') (h : lI κ μ O) {s i : Int} (ls : -2147483648 ≤ s) (us : s < 2147483648) (li : -2147483648 ≤ i) (ui : i < 2147483648) :
    mm_Met L G SX6_write [.ref (A 99), .int (iI s), .int (iI i)] (lH G A ax B bx ao o κ' μ) 0 0 (mRetS (some (.int (iI (v_write μ s i)))) (lH G A ax B bx ao o κ' (s_write μ s i)) (mV (s_write μ s i))) mm_no := by
  obtain ⟨hM, hK, hR, hI, hW, hL, hP, hJ⟩ := id h
  rw [lH_hm hs, lH_hm hs]
  exact m_write hF htr hs.2.1 hM ls us li ui
set_option maxRecDepth 100000 in
theorem w_finish (hF : mm_F G) (htr : L.stackTraces = false) (hs : lS B bx A ax ao κ) (h : lI κ μ O) {s i : Int} (ls : -2147483648 ≤ s) (us : s < 2147483648) (li : -2147483648 ≤ i) (ui : i < 2147483648) :
    mm_Met L G SL_finish [.ref (B 5 0), .int (iI s), .int (iI i), .ref ao] (lH G A ax B bx ao o κ μ) 1 6 (wR G A ax B ao κ μ (e_kFinish κ s i) 2 (s_kFinish κ s i) True (fun o' => o' 0 = v_kFinish κ s i)) mm_no := by
  obtain ⟨hM, hK, hR, hI, hW, hL, hP, hJ⟩ := id h
  obtain ⟨q1, q2, q3, q4, q5, q6, q7, q8⟩ := hR.1
  have r1 : 0 < κ 602 0 := by omega
  have r2 : κ 601 0 = 2 := q6.2.1
  have r3 : 2048 ≤ κ 600 0 := by rw [q6.1]; decide
  have r4 : 1 < κ 602 0 := by omega
  have r5 : κ 601 1 = 2 := q7.2.1
  have r6 : 2048 ≤ κ 600 1 := by rw [q7.1]; decide
  exact (m_L_finish hF htr hs.1 hK rfl ls us li ui hs.2.2.2.1 (lH0_ao hs.2.2.2.2)).mono (fun _ _ q => wLn hs q) (fun _ _ q => q)
theorem n_finish (hF : mm_F G) (htr : L.stackTraces = false) (hs : lS B bx A ax ao κ') (h : lI κ μ O) {s i : Int} (ls : -2147483648 ≤ s) (us : s < 2147483648) (li : -2147483648 ≤ i) (ui : i < 2147483648) :
    mm_Met L G SX6_finish [.ref (A 99), .int (iI s), .int (iI i)] (lH G A ax B bx ao o κ' μ) 0 0 (mRetS (some (.int (iI (v_finish μ s i)))) (lH G A ax B bx ao o κ' (s_finish μ s i)) (mV (s_finish μ s i))) mm_no := by
  obtain ⟨hM, hK, hR, hI, hW, hL, hP, hJ⟩ := id h
  rw [lH_hm hs, lH_hm hs]
  exact m_finish hF htr hs.2.1 hM ls us li ui
set_option maxRecDepth 100000 in
theorem w_reset (hF : mm_F G) (htr : L.stackTraces = false) (hs : lS B bx A ax ao κ) (h : lI κ μ O) {s i c : Int} (ls : -2147483648 ≤ s) (us : s < 2147483648) (li : -2147483648 ≤ i) (ui : i < 2147483648) (lc : -9223372036854775808 ≤ c) (uc : c < 9223372036854775808) :
    mm_Met L G SL_reset [.ref (B 5 0), .int (iI s), .int (iI i), .long (iL c), .ref ao] (lH G A ax B bx ao o κ μ) 2 12 (wR G A ax B ao κ μ (e_kReset κ s i c) 2 (s_kReset κ s i c) True (fun o' => o' 0 = v_kReset κ s i c)) mm_no := by
  obtain ⟨hM, hK, hR, hI, hW, hL, hP, hJ⟩ := id h
  obtain ⟨q1, q2, q3, q4, q5, q6, q7, q8⟩ := hR.1
  have r1 : 0 < κ 602 0 := by omega
  have r2 : κ 601 0 = 2 := q6.2.1
  have r3 : 2048 ≤ κ 600 0 := by rw [q6.1]; decide
  have r4 : 1 < κ 602 0 := by omega
  have r5 : κ 601 1 = 2 := q7.2.1
  have r6 : 2048 ≤ κ 600 1 := by rw [q7.1]; decide
  exact (m_L_reset hF htr hs.1 hK rfl ls us li ui lc uc hs.2.2.2.1 (lH0_ao hs.2.2.2.2)).mono (fun _ _ q => wLn hs q) (fun _ _ q => q)
theorem n_reset (hF : mm_F G) (htr : L.stackTraces = false) (hs : lS B bx A ax ao κ') (h : lI κ μ O) {s i c : Int} (ls : -2147483648 ≤ s) (us : s < 2147483648) (li : -2147483648 ≤ i) (ui : i < 2147483648) (lc : -9223372036854775808 ≤ c) (uc : c < 9223372036854775808) :
    mm_Met L G SX6_reset [.ref (A 99), .int (iI s), .int (iI i), .long (iL c)] (lH G A ax B bx ao o κ' μ) 0 0 (mRetS (some (.int (iI (v_reset μ s i c)))) (lH G A ax B bx ao o κ' (s_reset μ s i c)) (mV (s_reset μ s i c))) mm_no := by
  obtain ⟨hM, hK, hR, hI, hW, hL, hP, hJ⟩ := id h
  rw [lH_hm hs, lH_hm hs]
  exact m_reset hF htr hs.2.1 hM ls us li ui lc uc
set_option maxRecDepth 100000 in
theorem w_stop (hF : mm_F G) (htr : L.stackTraces = false) (hs : lS B bx A ax ao κ) (h : lI κ μ O) {s i c : Int} (ls : -2147483648 ≤ s) (us : s < 2147483648) (li : -2147483648 ≤ i) (ui : i < 2147483648) (lc : -9223372036854775808 ≤ c) (uc : c < 9223372036854775808) :
    mm_Met L G SL_stop [.ref (B 5 0), .int (iI s), .int (iI i), .long (iL c), .ref ao] (lH G A ax B bx ao o κ μ) 2 12 (wR G A ax B ao κ μ (e_kStop κ s i c) 2 (s_kStop κ s i c) True (fun o' => o' 0 = v_kStop κ s i c)) mm_no := by
  obtain ⟨hM, hK, hR, hI, hW, hL, hP, hJ⟩ := id h
  obtain ⟨q1, q2, q3, q4, q5, q6, q7, q8⟩ := hR.1
  have r1 : 0 < κ 602 0 := by omega
  have r2 : κ 601 0 = 2 := q6.2.1
  have r3 : 2048 ≤ κ 600 0 := by rw [q6.1]; decide
  have r4 : 1 < κ 602 0 := by omega
  have r5 : κ 601 1 = 2 := q7.2.1
  have r6 : 2048 ≤ κ 600 1 := by rw [q7.1]; decide
  exact (m_L_stop hF htr hs.1 hK rfl ls us li ui lc uc hs.2.2.2.1 (lH0_ao hs.2.2.2.2)).mono (fun _ _ q => wLn hs q) (fun _ _ q => q)
theorem n_stop (hF : mm_F G) (htr : L.stackTraces = false) (hs : lS B bx A ax ao κ') (h : lI κ μ O) {s i c : Int} (ls : -2147483648 ≤ s) (us : s < 2147483648) (li : -2147483648 ≤ i) (ui : i < 2147483648) (lc : -9223372036854775808 ≤ c) (uc : c < 9223372036854775808) :
    mm_Met L G SX6_stop [.ref (A 99), .int (iI s), .int (iI i), .long (iL c)] (lH G A ax B bx ao o κ' μ) 0 0 (mRetS (some (.int (iI (v_stop μ s i c)))) (lH G A ax B bx ao o κ' (s_stop μ s i c)) (mV (s_stop μ s i c))) mm_no := by
  obtain ⟨hM, hK, hR, hI, hW, hL, hP, hJ⟩ := id h
  rw [lH_hm hs, lH_hm hs]
  exact m_stop hF htr hs.2.1 hM ls us li ui lc uc
set_option maxRecDepth 100000 in
theorem w_read (hF : mm_F G) (htr : L.stackTraces = false) (hs : lS B bx A ax ao κ) (h : lI κ μ O) {s i q : Int} (ls : -2147483648 ≤ s) (us : s < 2147483648) (li : -2147483648 ≤ i) (ui : i < 2147483648) (lq : -2147483648 ≤ q) (uq : q < 2147483648) :
    mm_Met L G SL_read [.ref (B 5 0), .int (iI s), .int (iI i), .int (iI q), .ref ao] (lH G A ax B bx ao o κ μ) 2 12 (wR G A ax B ao κ μ (e_kRead κ s i q) 2 (s_kRead κ s i q) True (fun o' => o' 0 = v_kRead κ s i q)) mm_no := by
  obtain ⟨hM, hK, hR, hI, hW, hL, hP, hJ⟩ := id h
  obtain ⟨q1, q2, q3, q4, q5, q6, q7, q8⟩ := hR.1
  have r1 : 0 < κ 602 0 := by omega
  have r2 : κ 601 0 = 2 := q6.2.1
  have r3 : 2048 ≤ κ 600 0 := by rw [q6.1]; decide
  have r4 : 1 < κ 602 0 := by omega
  have r5 : κ 601 1 = 2 := q7.2.1
  have r6 : 2048 ≤ κ 600 1 := by rw [q7.1]; decide
  exact (m_L_read hF htr hs.1 hK rfl ls us li ui lq uq r4 r5 r6 (Rel_RA hM hK hR) hs.2.2.2.1 (lH0_ao hs.2.2.2.2)).mono (fun _ _ q => wLn hs q) (fun _ _ q => q)
theorem n_read (hF : mm_F G) (htr : L.stackTraces = false) (hs : lS B bx A ax ao κ') (h : lI κ μ O) {s i q : Int} (ls : -2147483648 ≤ s) (us : s < 2147483648) (li : -2147483648 ≤ i) (ui : i < 2147483648) (lq : -2147483648 ≤ q) (uq : q < 2147483648) :
    mm_Met L G SX6_read [.ref (A 99), .int (iI s), .int (iI i), .int (iI q)] (lH G A ax B bx ao o κ' μ) 0 0 (mRetS (some (.int (iI (v_read μ s i q)))) (lH G A ax B bx ao o κ' (s_read μ s i q)) (mV (s_read μ s i q))) mm_no := by
  obtain ⟨hM, hK, hR, hI, hW, hL, hP, hJ⟩ := id h
  rw [lH_hm hs, lH_hm hs]
  exact m_read hF htr hs.2.1 hM ls us li ui lq uq
set_option maxRecDepth 100000 in
theorem w_fill (hF : mm_F G) (htr : L.stackTraces = false) (hs : lS B bx A ax ao κ) (h : lI κ μ O) {s r : Int} (ls : -2147483648 ≤ s) (us : s < 2147483648) (lr : -2147483648 ≤ r) (ur : r < 2147483648) :
    mm_Met L G SL_fill [.ref (B 5 0), .int (iI s), .int (iI r), .ref ao] (lH G A ax B bx ao o κ μ) 4 24 (wR G A ax B ao κ μ (e_kFill κ s r) 2 (s_kFill κ s r) True (fun o' => o' 0 = v_kFill κ s r)) mm_no := by
  obtain ⟨hM, hK, hR, hI, hW, hL, hP, hJ⟩ := id h
  obtain ⟨q1, q2, q3, q4, q5, q6, q7, q8⟩ := hR.1
  have r1 : 0 < κ 602 0 := by omega
  have r2 : κ 601 0 = 2 := q6.2.1
  have r3 : 2048 ≤ κ 600 0 := by rw [q6.1]; decide
  have r4 : 1 < κ 602 0 := by omega
  have r5 : κ 601 1 = 2 := q7.2.1
  have r6 : 2048 ≤ κ 600 1 := by rw [q7.1]; decide
  exact (m_L_fill hF htr hs.1 hK rfl ls us lr ur (Rel_SA hM hK hR) (Rel_lf hR).1 (Rel_lf hR).2 hs.2.2.2.1 (lH0_ao hs.2.2.2.2)).mono (fun _ _ q => wLn hs q) (fun _ _ q => q)
theorem n_fill (hF : mm_F G) (htr : L.stackTraces = false) (hs : lS B bx A ax ao κ') (h : lI κ μ O) {s r : Int} (ls : -2147483648 ≤ s) (us : s < 2147483648) (lr : -2147483648 ≤ r) (ur : r < 2147483648) :
    mm_Met L G SX6_fill [.ref (A 99), .int (iI s), .int (iI r)] (lH G A ax B bx ao o κ' μ) 0 0 (mRetS (some (.int (iI (v_fill μ s r)))) (lH G A ax B bx ao o κ' (s_fill μ s r)) (mV (s_fill μ s r) ∧ mLi (s_fill μ s r))) mm_no := by
  obtain ⟨hM, hK, hR, hI, hW, hL, hP, hJ⟩ := id h
  rw [lH_hm hs, lH_hm hs]
  exact m_fill hF htr hs.2.1 hM ls us lr ur hL
set_option maxRecDepth 100000 in
theorem w_deliver (hF : mm_F G) (htr : L.stackTraces = false) (hs : lS B bx A ax ao κ) (h : lI κ μ O) {p : Int} (lp : -2147483648 ≤ p) (up : p < 2147483648) :
    mm_Met L G SL_deliver [.ref (B 5 0), .int (iI p), .ref ao] (lH G A ax B bx ao o κ μ) 322 (1670 + kDel κ p) (wR G A ax B ao κ μ (e_kDeliver κ p) 2 (s_kDeliver κ p) (kW (s_kDeliver κ p)) (fun o' => o' 0 = v_kDeliver κ p)) mm_no := by
  obtain ⟨hM, hK, hR, hI, hW, hL, hP, hJ⟩ := id h
  obtain ⟨q1, q2, q3, q4, q5, q6, q7, q8⟩ := hR.1
  have r1 : 0 < κ 602 0 := by omega
  have r2 : κ 601 0 = 2 := q6.2.1
  have r3 : 2048 ≤ κ 600 0 := by rw [q6.1]; decide
  have r4 : 1 < κ 602 0 := by omega
  have r5 : κ 601 1 = 2 := q7.2.1
  have r6 : 2048 ≤ κ 600 1 := by rw [q7.1]; decide
  exact (m_L_deliver hF htr hs.1 hK hW rfl lp up (Rel_g8 hR) (Rel_g9 hR) (Rel_NT hK hR) (fun z => Rel_TkD hM hK hR hI hJ z) hs.2.2.2.1 (lH0_ao hs.2.2.2.2)).mono (fun _ _ q => wLa hs q) (fun _ _ q => q)
theorem n_deliver (hF : mm_F G) (htr : L.stackTraces = false) (hs : lS B bx A ax ao κ') (h : lI κ μ O) {p : Int} (lp : -2147483648 ≤ p) (up : p < 2147483648) :
    mm_Met L G SX6_deliver [.ref (A 99), .int (iI p)] (lH G A ax B bx ao o κ' μ) 0 0 (mRetS (some (.int (iI (v_deliver μ p)))) (lH G A ax B bx ao o κ' (s_deliver μ p)) (mV (s_deliver μ p) ∧ (0 ≤ v_deliver μ p ∧ v_deliver μ p ≤ 6) ∧ mP2 (s_deliver μ p))) mm_no := by
  obtain ⟨hM, hK, hR, hI, hW, hL, hP, hJ⟩ := id h
  rw [lH_hm hs, lH_hm hs]
  exact m_deliver hF htr hs.2.1 hM lp up hP
set_option maxRecDepth 100000 in
theorem w_gone (hF : mm_F G) (htr : L.stackTraces = false) (hs : lS B bx A ax ao κ) (h : lI κ μ O) {p g : Int} (lp : -2147483648 ≤ p) (up : p < 2147483648) (bg : g = 0 ∨ g = 1) :
    mm_Met L G SL_gone [.ref (B 5 0), .int (iI p), .int (iI g)] (lH G A ax B bx ao o κ μ) 2 12 (wR G A ax B ao κ μ (e_kGone κ p g) 2 (s_kGone κ p g) True (fun _ => True)) mm_no := by
  obtain ⟨hM, hK, hR, hI, hW, hL, hP, hJ⟩ := id h
  obtain ⟨q1, q2, q3, q4, q5, q6, q7, q8⟩ := hR.1
  have r1 : 0 < κ 602 0 := by omega
  have r2 : κ 601 0 = 2 := q6.2.1
  have r3 : 2048 ≤ κ 600 0 := by rw [q6.1]; decide
  have r4 : 1 < κ 602 0 := by omega
  have r5 : κ 601 1 = 2 := q7.2.1
  have r6 : 2048 ≤ κ 600 1 := by rw [q7.1]; decide
  exact (m_L_gone hF htr hs.1 hK rfl lp up bg (Rel_SA hM hK hR) (fun z => Rel_U hR z hK)).mono (fun _ _ q => wLv hs q) (fun _ _ q => q)
theorem n_gone (hF : mm_F G) (htr : L.stackTraces = false) (hs : lS B bx A ax ao κ') (h : lI κ μ O) {p g : Int} (lp : -2147483648 ≤ p) (up : p < 2147483648) (bg : g = 0 ∨ g = 1) :
    mm_Met L G SX6_gone [.ref (A 99), .int (iI p), .int (iI g)] (lH G A ax B bx ao o κ' μ) 0 0 (mRetS none (lH G A ax B bx ao o κ' (s_gone μ p g)) (mV (s_gone μ p g) ∧ mLi (s_gone μ p g))) mm_no := by
  obtain ⟨hM, hK, hR, hI, hW, hL, hP, hJ⟩ := id h
  rw [lH_hm hs, lH_hm hs]
  exact m_gone hF htr hs.2.1 hM lp up bg hL
set_option maxRecDepth 100000 in
theorem w_take (hF : mm_F G) (htr : L.stackTraces = false) (hs : lS B bx A ax ao κ) (h : lI κ μ O) {s u a b c : Int} (ls : -2147483648 ≤ s) (us : s < 2147483648) (lu : -2147483648 ≤ u) (uu : u < 2147483648) (la : -9223372036854775808 ≤ a) (ua : a < 9223372036854775808) (lb : -9223372036854775808 ≤ b) (ub : b < 9223372036854775808) (lc : -9223372036854775808 ≤ c) (uc : c < 9223372036854775808) :
    mm_Met L G SL_take [.ref (B 5 0), .int (iI s), .int (iI u), .long (iL a), .long (iL b), .long (iL c), .ref ao] (lH G A ax B bx ao o κ μ) 324 (1682 + kTkc κ s u a b c) (wR G A ax B ao κ μ (e_kTakeM κ s u a b c) 2 (s_kTakeM κ s u a b c) (kW (s_kTakeM κ s u a b c)) (fun o' => o' 0 = v_kTakeM κ s u a b c)) mm_no := by
  obtain ⟨hM, hK, hR, hI, hW, hL, hP, hJ⟩ := id h
  obtain ⟨q1, q2, q3, q4, q5, q6, q7, q8⟩ := hR.1
  have r1 : 0 < κ 602 0 := by omega
  have r2 : κ 601 0 = 2 := q6.2.1
  have r3 : 2048 ≤ κ 600 0 := by rw [q6.1]; decide
  have r4 : 1 < κ 602 0 := by omega
  have r5 : κ 601 1 = 2 := q7.2.1
  have r6 : 2048 ≤ κ 600 1 := by rw [q7.1]; decide
  exact (m_L_take hF htr hs.1 hK hW rfl ls us lu uu la ua lb ub lc uc r1 r2 r3 (Rel_g8 hR) (Rel_g9 hR) (Rel_NT hK hR) (fun z => Rel_Tk64 hM hK hR hI z) hs.2.2.2.1 (lH0_ao hs.2.2.2.2)).mono (fun _ _ q => wLa hs q) (fun _ _ q => q)
theorem n_take (hF : mm_F G) (htr : L.stackTraces = false) (hs : lS B bx A ax ao κ') (h : lI κ μ O) {s u a b c : Int} (ls : -2147483648 ≤ s) (us : s < 2147483648) (lu : -2147483648 ≤ u) (uu : u < 2147483648) (la : -9223372036854775808 ≤ a) (ua : a < 9223372036854775808) (lb : -9223372036854775808 ≤ b) (ub : b < 9223372036854775808) (lc : -9223372036854775808 ≤ c) (uc : c < 9223372036854775808) :
    mm_Met L G SX6_take [.ref (A 99), .int (iI s), .int (iI u), .long (iL a), .long (iL b), .long (iL c)] (lH G A ax B bx ao o κ' μ) 0 0 (mRetS (some (.int (iI (v_take μ s u a b c)))) (lH G A ax B bx ao o κ' (s_take μ s u a b c)) (mV (s_take μ s u a b c) ∧ (0 ≤ v_take μ s u a b c ∧ v_take μ s u a b c ≤ 6) ∧ mP2 (s_take μ s u a b c))) mm_no := by
  obtain ⟨hM, hK, hR, hI, hW, hL, hP, hJ⟩ := id h
  rw [lH_hm hs, lH_hm hs]
  exact m_take hF htr hs.2.1 hM ls us lu uu la ua lb ub lc uc hP
set_option maxRecDepth 100000 in
theorem w_line (hF : mm_F G) (htr : L.stackTraces = false) (hs : lS B bx A ax ao κ) (h : lI κ μ O) {p q : Int} (lp : -2147483648 ≤ p) (up : p < 2147483648) (lq : -2147483648 ≤ q) (uq : q < 2147483648) :
    mm_Met L G SL_line [.ref (B 5 0), .int (iI p), .int (iI q), .ref ao] (lH G A ax B bx ao o κ μ) 2 12 (wR G A ax B ao κ μ (e_kLine κ p q) 2 κ True (fun o' => o' 0 = v_kLine κ p q)) mm_no := by
  obtain ⟨hM, hK, hR, hI, hW, hL, hP, hJ⟩ := id h
  obtain ⟨q1, q2, q3, q4, q5, q6, q7, q8⟩ := hR.1
  have r1 : 0 < κ 602 0 := by omega
  have r2 : κ 601 0 = 2 := q6.2.1
  have r3 : 2048 ≤ κ 600 0 := by rw [q6.1]; decide
  have r4 : 1 < κ 602 0 := by omega
  have r5 : κ 601 1 = 2 := q7.2.1
  have r6 : 2048 ≤ κ 600 1 := by rw [q7.1]; decide
  exact (m_L_line hF htr hs.1 hK rfl lp up lq uq hs.2.2.2.1 (lH0_ao hs.2.2.2.2)).mono (fun _ _ q => wLn hs q) (fun _ _ q => q)
theorem n_line (hF : mm_F G) (htr : L.stackTraces = false) (hs : lS B bx A ax ao κ') (h : lI κ μ O) {p q : Int} (lp : -2147483648 ≤ p) (up : p < 2147483648) (lq : -2147483648 ≤ q) (uq : q < 2147483648) :
    mm_Met L G SX6_line [.ref (A 99), .int (iI p), .int (iI q)] (lH G A ax B bx ao o κ' μ) 0 0 (mRetS (some (.long (iL (v_line μ p q)))) (lH G A ax B bx ao o κ' (s_line μ p q)) (mV (s_line μ p q))) mm_no := by
  obtain ⟨hM, hK, hR, hI, hW, hL, hP, hJ⟩ := id h
  rw [lH_hm hs, lH_hm hs]
  exact m_line hF htr hs.2.1 hM lp up lq uq
set_option maxRecDepth 100000 in
theorem w_data (hF : mm_F G) (htr : L.stackTraces = false) (hs : lS B bx A ax ao κ) (h : lI κ μ O) {p q : Int} (lp : -2147483648 ≤ p) (up : p < 2147483648) (lq : -2147483648 ≤ q) (uq : q < 2147483648) :
    mm_Met L G SL_data [.ref (B 5 0), .int (iI p), .int (iI q), .ref ao] (lH G A ax B bx ao o κ μ) 2 12 (wR G A ax B ao κ μ (e_kData κ p q) 2 κ True (fun o' => o' 0 = v_kData κ p q)) mm_no := by
  obtain ⟨hM, hK, hR, hI, hW, hL, hP, hJ⟩ := id h
  obtain ⟨q1, q2, q3, q4, q5, q6, q7, q8⟩ := hR.1
  have r1 : 0 < κ 602 0 := by omega
  have r2 : κ 601 0 = 2 := q6.2.1
  have r3 : 2048 ≤ κ 600 0 := by rw [q6.1]; decide
  have r4 : 1 < κ 602 0 := by omega
  have r5 : κ 601 1 = 2 := q7.2.1
  have r6 : 2048 ≤ κ 600 1 := by rw [q7.1]; decide
  exact (m_L_data hF htr hs.1 hK rfl lp up lq uq (fun z => Rel_row hR z hK) hs.2.2.2.1 (lH0_ao hs.2.2.2.2)).mono (fun _ _ q => wLn hs q) (fun _ _ q => q)
theorem n_data (hF : mm_F G) (htr : L.stackTraces = false) (hs : lS B bx A ax ao κ') (h : lI κ μ O) {p q : Int} (lp : -2147483648 ≤ p) (up : p < 2147483648) (lq : -2147483648 ≤ q) (uq : q < 2147483648) :
    mm_Met L G SX6_data [.ref (A 99), .int (iI p), .int (iI q)] (lH G A ax B bx ao o κ' μ) 0 0 (mRetS (some (.int (iI (v_data μ p q)))) (lH G A ax B bx ao o κ' (s_data μ p q)) (mV (s_data μ p q))) mm_no := by
  obtain ⟨hM, hK, hR, hI, hW, hL, hP, hJ⟩ := id h
  rw [lH_hm hs, lH_hm hs]
  exact m_data hF htr hs.2.1 hM lp up lq uq
set_option maxRecDepth 100000 in
theorem w_outs (hF : mm_F G) (htr : L.stackTraces = false) (hs : lS B bx A ax ao κ) (h : lI κ μ O) {q : Int} (lq : -2147483648 ≤ q) (uq : q < 2147483648) :
    mm_Met L G SL_outs [.ref (B 5 0), .int (iI q), .ref ao] (lH G A ax B bx ao o κ μ) 1 6 (wR G A ax B ao κ μ (e_kOuts κ q) 2 κ True (fun o' => o' 0 = v_kOuts κ q)) mm_no := by
  obtain ⟨hM, hK, hR, hI, hW, hL, hP, hJ⟩ := id h
  obtain ⟨q1, q2, q3, q4, q5, q6, q7, q8⟩ := hR.1
  have r1 : 0 < κ 602 0 := by omega
  have r2 : κ 601 0 = 2 := q6.2.1
  have r3 : 2048 ≤ κ 600 0 := by rw [q6.1]; decide
  have r4 : 1 < κ 602 0 := by omega
  have r5 : κ 601 1 = 2 := q7.2.1
  have r6 : 2048 ≤ κ 600 1 := by rw [q7.1]; decide
  exact (m_L_outs hF htr hs.1 hK rfl lq uq r4 r5 r6 hs.2.2.2.1 (lH0_ao hs.2.2.2.2)).mono (fun _ _ q => wLn hs q) (fun _ _ q => q)
theorem n_outs (hF : mm_F G) (htr : L.stackTraces = false) (hs : lS B bx A ax ao κ') (h : lI κ μ O) {q : Int} (lq : -2147483648 ≤ q) (uq : q < 2147483648) :
    mm_Met L G SX6_outs [.ref (A 99), .int (iI q)] (lH G A ax B bx ao o κ' μ) 0 0 (mRetS (some (.long (iL (v_outs μ q)))) (lH G A ax B bx ao o κ' (s_outs μ q)) (mV (s_outs μ q))) mm_no := by
  obtain ⟨hM, hK, hR, hI, hW, hL, hP, hJ⟩ := id h
  rw [lH_hm hs, lH_hm hs]
  exact m_outs hF htr hs.2.1 hM lq uq
set_option maxRecDepth 100000 in
theorem w_stream (hF : mm_F G) (htr : L.stackTraces = false) (hs : lS B bx A ax ao κ) (h : lI κ μ O) {s i w : Int} (ls : -2147483648 ≤ s) (us : s < 2147483648) (li : -2147483648 ≤ i) (ui : i < 2147483648) (lw : -2147483648 ≤ w) (uw : w < 2147483648) :
    mm_Met L G SL_stream [.ref (B 5 0), .int (iI s), .int (iI i), .int (iI w), .ref ao] (lH G A ax B bx ao o κ μ) 2 12 (wR G A ax B ao κ μ (e_kStream κ s i w) 2 κ True (fun o' => o' 0 = v_kStream κ s i w)) mm_no := by
  obtain ⟨hM, hK, hR, hI, hW, hL, hP, hJ⟩ := id h
  obtain ⟨q1, q2, q3, q4, q5, q6, q7, q8⟩ := hR.1
  have r1 : 0 < κ 602 0 := by omega
  have r2 : κ 601 0 = 2 := q6.2.1
  have r3 : 2048 ≤ κ 600 0 := by rw [q6.1]; decide
  have r4 : 1 < κ 602 0 := by omega
  have r5 : κ 601 1 = 2 := q7.2.1
  have r6 : 2048 ≤ κ 600 1 := by rw [q7.1]; decide
  exact (m_L_stream hF htr hs.1 hK rfl ls us li ui lw uw hs.2.2.2.1 (lH0_ao hs.2.2.2.2)).mono (fun _ _ q => wLn hs q) (fun _ _ q => q)
theorem n_stream (hF : mm_F G) (htr : L.stackTraces = false) (hs : lS B bx A ax ao κ') (h : lI κ μ O) {s i w : Int} (ls : -2147483648 ≤ s) (us : s < 2147483648) (li : -2147483648 ≤ i) (ui : i < 2147483648) (lw : -2147483648 ≤ w) (uw : w < 2147483648) :
    mm_Met L G SX6_stream [.ref (A 99), .int (iI s), .int (iI i), .int (iI w)] (lH G A ax B bx ao o κ' μ) 0 0 (mRetS (some (.long (iL (v_stream μ s i w)))) (lH G A ax B bx ao o κ' (s_stream μ s i w)) (mV (s_stream μ s i w))) mm_no := by
  obtain ⟨hM, hK, hR, hI, hW, hL, hP, hJ⟩ := id h
  rw [lH_hm hs, lH_hm hs]
  exact m_stream hF htr hs.2.1 hM ls us li ui lw uw
set_option maxRecDepth 100000 in
theorem w_side (hF : mm_F G) (htr : L.stackTraces = false) (hs : lS B bx A ax ao κ) (h : lI κ μ O) {s w : Int} (ls : -2147483648 ≤ s) (us : s < 2147483648) (lw : -2147483648 ≤ w) (uw : w < 2147483648) :
    mm_Met L G SL_side [.ref (B 5 0), .int (iI s), .int (iI w), .ref ao] (lH G A ax B bx ao o κ μ) 2 12 (wR G A ax B ao κ μ (e_kSide κ s w) 2 κ True (fun o' => o' 0 = v_kSide κ s w)) mm_no := by
  obtain ⟨hM, hK, hR, hI, hW, hL, hP, hJ⟩ := id h
  obtain ⟨q1, q2, q3, q4, q5, q6, q7, q8⟩ := hR.1
  have r1 : 0 < κ 602 0 := by omega
  have r2 : κ 601 0 = 2 := q6.2.1
  have r3 : 2048 ≤ κ 600 0 := by rw [q6.1]; decide
  have r4 : 1 < κ 602 0 := by omega
  have r5 : κ 601 1 = 2 := q7.2.1
  have r6 : 2048 ≤ κ 600 1 := by rw [q7.1]; decide
  exact (m_L_side hF htr hs.1 hK rfl ls us lw uw hs.2.2.2.1 (lH0_ao hs.2.2.2.2)).mono (fun _ _ q => wLn hs q) (fun _ _ q => q)
theorem n_side (hF : mm_F G) (htr : L.stackTraces = false) (hs : lS B bx A ax ao κ') (h : lI κ μ O) {s w : Int} (ls : -2147483648 ≤ s) (us : s < 2147483648) (lw : -2147483648 ≤ w) (uw : w < 2147483648) :
    mm_Met L G SX6_side [.ref (A 99), .int (iI s), .int (iI w)] (lH G A ax B bx ao o κ' μ) 0 0 (mRetS (some (.long (iL (v_side μ s w)))) (lH G A ax B bx ao o κ' (s_side μ s w)) (mV (s_side μ s w))) mm_no := by
  obtain ⟨hM, hK, hR, hI, hW, hL, hP, hJ⟩ := id h
  rw [lH_hm hs, lH_hm hs]
  exact m_side hF htr hs.2.1 hM ls us lw uw
theorem n_thrown (hF : mm_F G) (htr : L.stackTraces = false) (hs : lS B bx A ax ao κ) (hM : mV μ) :
    mm_Met L G SX6_thrown [.ref (A 99)] (lH G A ax B bx ao o κ μ) 0 0 (mRet (some (.int (iI (μ 0 0)))) (lH G A ax B bx ao o κ μ)) mm_no := by
  rw [lH_hm hs]
  exact m_thrown hF htr hs.2.1 hM
end LW
