section MSC
variable {L : Launch} {G : mmG} {M : mmM} {MC MS : Nat} {PR : Option Value → mmH → Prop} {PX : String → mmH → Prop} {θ : mmT} {j j' pc pc' len : Nat} {l l' : List (Nat × Value)} {st st' : List Value} {h h' : mmH} {cs sl cs' sl' : Nat} {S : mmS} {mc ms k : Nat} {PR1 : Option Value → mmH → Prop} {PX1 : String → mmH → Prop}
theorem mm_cw_plain (h : mm_plain S = true) : mm_cw S = Cond.code (mm_y S) (mm_b S) (mm_nL S) (mm_r S) := by
  obtain ⟨y, b, nl, r, hh, rest⟩ := S
  cases hh with
  | nil => rfl
  | cons a as => cases h
theorem mm_cw_with (h : (!mm_plain S) = true) : mm_cw S = Cond.codeWith (mm_y S) (mm_b S) (mm_nL S) (mm_r S) (mm_hh S) := by
  obtain ⟨y, b, nl, r, hh, rest⟩ := S
  cases hh with
  | nil => cases h
  | cons a as => rfl
theorem mm_cw_good : goodWord (mm_cw S) = true := by
  obtain ⟨y, b, nl, r, hh, rest⟩ := S
  cases hh <;> rfl
theorem mm_cw_at (hF : mm_F G) {U : State} {a : Array Value} (hW : G.1.WarmedH U.vm) (h0 : mm_cw S ∈ lw_tbl) : (mm_cw S).before a U = true := word_at hW (good_of_word mm_cw_good) (hF.1 _ h0)
theorem mm_wsok (hF : mm_F G) (hW : G.1.WarmedH θ.2.2.1.vm) (h0 : mm_cw S ∈ lw_tbl) : ∀ w ∈ mm_ws S, ∀ (a' : Array Value) (U : State), θ.2.2.1.WarmedH U.vm → w.before a' U = true := by
  intro w hw a' U hU
  rw [List.mem_singleton.mp hw]
  exact mm_cw_at hF (State.WarmedH.trans hW hU) h0
theorem mm_nok_of {y : MethodName} {n : Nat} (h : mm_nok y n = true) : (y.cls ≠ "java/lang/invoke/MethodHandle" ∧ y.cls ≠ "java/lang/invoke/VarHandle") ∧ ∀ sig, parseMethodDescriptor y.desc = some sig → n = sig.parameters.length := by
  simp only [mm_nok, decide_eq_true_eq] at h
  refine ⟨⟨h.1, h.2.1⟩, fun sig hs => ?_⟩
  have h2 := h.2.2
  rw [hs] at h2
  exact (Option.some.inj h2).symm
theorem mm_fit1_of (h : mm_fit1 M S = true) : mm_fr S + 1 ≤ mm_fr M.1 ∧ 8 + (mm_nL S + 11) + mm_lo S ≤ mm_lo M.1 := by
  simp only [mm_fit1, Bool.and_eq_true] at h
  exact ⟨Nat.le_of_ble_eq_true h.1, Nat.le_of_ble_eq_true h.2⟩
theorem mm_callB {own : String} (hc : mm_C L G M θ) (hp : mm_plain S = true) {i1 n : Nat} (h0 : mm_cw S ∈ lw_tbl) (h1 : mm_in i1 (.initialized (mm_y S).cls) = true) (hl : (Cond.methodLink own k (mm_y S)).before θ.2.2.2.2.1 θ.2.2.1 = true) (hn : mm_nok (mm_y S) n = true) (hf : mm_fit1 M S = true) :
    CallB (mm_room M.1 MC MS) θ.2.2.1 θ.2.2.2.2.1 own k (mm_y S) (mm_b S) (mm_nL S) (mm_r S) (mm_ws S) (mm_room S mc ms) mc ms n := by
  obtain ⟨hF, -, -, -, -, -, -, hW, -⟩ := hc
  obtain ⟨f1, f2⟩ := mm_fit1_of hf
  obtain ⟨n1, n2⟩ := mm_nok_of hn
  have hcode : (mm_cw S).before θ.2.2.2.2.1 θ.2.2.1 = true := mm_cw_at hF hW h0
  rw [mm_cw_plain hp] at hcode
  exact ⟨rfl, rfl, f1, f2, mm_wsok hF hW h0, by rw [mm_ws, mm_cw_plain hp]; exact List.mem_singleton.mpr rfl, hcode, mm_in_word hF hW h1, n1, n2, hl⟩
theorem mm_callN {own host : String} (hc : mm_C L G M θ) (hp : mm_plain S = true) {i1 n : Nat} (h0 : mm_cw S ∈ lw_tbl) (h1 : mm_in i1 (.initialized (mm_y S).cls) = true) (hl : Cond.methodLinkNest own k (mm_y S) host ∈ lw_tbl) (hn : mm_nok (mm_y S) n = true) (hf : mm_fit1 M S = true) :
    va_CN (mm_room M.1 MC MS) θ.2.2.1 θ.2.2.2.2.1 own k (mm_y S) host (mm_b S) (mm_nL S) (mm_r S) (mm_ws S) (mm_room S mc ms) mc ms n := by
  obtain ⟨hF, -, -, -, -, -, -, hW, -⟩ := hc
  obtain ⟨f1, f2⟩ := mm_fit1_of hf
  obtain ⟨n1, n2⟩ := mm_nok_of hn
  have hcode : (mm_cw S).before θ.2.2.2.2.1 θ.2.2.1 = true := mm_cw_at hF hW h0
  rw [mm_cw_plain hp] at hcode
  exact ⟨⟨rfl, rfl, f1, f2, mm_wsok hF hW h0, by rw [mm_ws, mm_cw_plain hp]; exact List.mem_singleton.mpr rfl⟩, hcode, mm_in_word hF hW h1, n1, n2, va_Nw.use rfl (va_Nw.warmM hW (va_Nw.of rfl (hF.1 _ hl)))⟩
theorem mm_callF {own : String} (hc : mm_C L G M θ) (hown : own = M.2.1) : CallFix θ.1 θ.2.2.2.1 θ.2.2.2.2.2.2.2 (mm_b M.1) (mm_nL M.1) θ.2.2.1 θ.2.2.2.2.1 [] own := by
  subst hown
  obtain ⟨hF, hex, hb, hml, -, ho, -⟩ := hc
  exact ⟨hex, hb, hml, ho, fun _ h => nomatch h⟩
theorem mm_pre (hW : G.1.WarmedH θ.2.2.1.vm) {H : Heap} (hR : mm_R G h H) {av : List Value} : PreS θ.2.2.1 H (mm_Pc G av h) av := ⟨mm_blind G av h, fun U hU hw => ⟨rfl, by rw [hU]; exact hR, State.WarmedH.trans hW hw⟩⟩
theorem mm_split (n : Nat) (st av : List Value) (h : (st.take n).reverse = av) : st = av.reverse ++ st.drop n := by
  rw [← h, List.reverse_reverse, List.take_append_drop]
theorem mm_take_len (n : Nat) (st av : List Value) (h : (st.take n).reverse = av) (hn : n ≤ st.length) : av.length = n := by
  rw [← h]; simp; omega
theorem mm_room8 {rest : List Value} {ls : Array Slot} {m : MethodId} {st0 : List Value} (h : Nat.ble (mm_words rest) 8 = true) : 2 * (F0 m pc ls st0).monitorRoom + (rest.map fun v => v.category).sum ≤ 8 := by
  have : (rest.map fun v => v.category).sum ≤ 8 := Nat.le_of_ble_eq_true h
  show 2 * 0 + _ ≤ 8
  omega
/-- a virtual call -/
theorem ms_callV {y b : Nat} {fs av rest : List Value} (hc : mm_C L G M θ) (hpc : mm_pc M j = pc) (hd : decode (mm_b M.1) pc = .ok (.invokevirtual k, 3))
    (hl : (Cond.methodLink M.2.1 k (mm_y S)).before θ.2.2.2.2.1 θ.2.2.1 = true) (s0 : mm_cw S ∈ lw_tbl) (hs : mm_sV S = true) (hf : mm_fit1 M S = true) (hp : mm_plain S = true) (hy : y < 7) (hyc : mm_cn y = (mm_y S).cls)
    (hst : st = (Value.ref b :: av).reverse ++ rest) (hlen : av.length + 1 = mm_na S) (hw : Nat.ble (mm_words rest) 8 = true) (hb : h b = some (.inr (y, fs)))
    (hM : mm_Met L G S (.ref b :: av) h mc ms PR1 PX1) (h1 : cs + mc ≤ MC) (h2 : sl + ms ≤ MS)
    (kr : ∀ (v : Option Value) (h1 : mmH), PR1 v h1 → ∀ (H1 : Heap) (locs1 : List Loc) (ls : Array Slot), lv_has ls (mm_nL M.1) l → mm_R G h1 H1 → (∀ q ∈ locs1, mm_A G q.base) → mm_WH L G M MC MS PR PX θ (pc + 3) ls (v.toList ++ rest) H1 locs1 (cs + mc) (sl + ms))
    (kx : ∀ (E : String) (h1 : mmH), PX1 E h1 → ∀ (H1 : Heap) (locs1 : List Loc) (ls : Array Slot) (q : Nat) (ce : Cell), lv_has ls (mm_nL M.1) l → mm_R G h1 H1 → (∀ q ∈ locs1, mm_A G q.base) → H1[q]? = some ce → ce.vm = .none → θ.2.2.1.vm.findClass E = some ce.cls →
      vx_W θ.1 L θ.2.1 (mm_room M.1 MC MS) θ.2.2.1 θ.2.2.2.1 θ.2.2.2.2.1 θ.2.2.2.2.2.1 θ.2.2.2.2.2.2.1 θ.2.2.2.2.2.2.2 H1 locs1 (cs + mc) (sl + ms) (vx_MQ θ.2.2.2.2.2.1 (mm_Qc G PR) (mm_XC G PX) θ.2.2.2.2.1 θ.2.2.1 MC MS (mm_A G)) (F0 θ.2.2.2.1 pc ls rest) q) :
    mm_W L G M MC MS PR PX θ j l st h cs sl := by
  subst hpc
  subst hst
  intro H locs ls hR hlv hL
  simp only [mm_sV, Bool.and_eq_true] at hs
  obtain ⟨s1, s2, s3, s4, s5⟩ := hs
  have hF := hc.1
  have hW := hc.2.2.2.2.2.2.2.1
  have hlen' : av.length = mm_na S - 1 := by omega
  refine ms_back (rest := rest) (av := (Value.ref b :: av).toArray) (vx_runV (C := mm_cn y) (As := av) (mm_callF hc rfl) hM ⟨mm_callB hc hp s0 s1 hl s5 hf, mm_in_word hF hW s2, by rw [hyc]; exact mm_in_word hF hW s3⟩ ⟨mm_blind G _ h, ?_, (mm_pre hW hR).2⟩ rfl hlen' hlv.1 (by simp) (mm_room8 hw) hd ⟨h1, h2⟩) hL (fun v h1 hp H1 locs1 hR1 hL1 => kr v h1 hp H1 locs1 ls hlv hR1 hL1) (fun E h1 hp H1 locs1 q ce hR1 hL1 hce hcv hcl => kx E h1 hp H1 locs1 ls q ce hlv hR1 hL1 hce hcv hcl)
  obtain ⟨-, r, e1, cell, q1, q2, q3, -⟩ := hR.2.2 b _ hb
  exact ⟨cell, q1, by rw [q3]; rfl, by rw [q2]; exact (mm_Kn hF hW hy).2.1⟩
/-- a static call -/
theorem ms_callS {av rest : List Value} (hc : mm_C L G M θ) (hpc : mm_pc M j = pc) (hd : decode (mm_b M.1) pc = .ok (.invokestatic k, 3))
    (hl : (Cond.methodLink M.2.1 k (mm_y S)).before θ.2.2.2.2.1 θ.2.2.1 = true) (s0 : mm_cw S ∈ lw_tbl) (hs : mm_sS S = true) (hf : mm_fit1 M S = true) (hp : mm_plain S = true)
    (hst : st = av.reverse ++ rest) (hlen : av.length = mm_na S) (hw : Nat.ble (mm_words rest) 8 = true)
    (hM : mm_Met L G S av h mc ms PR1 PX1) (h1 : cs + mc ≤ MC) (h2 : sl + ms ≤ MS)
    (kr : ∀ (v : Option Value) (h1 : mmH), PR1 v h1 → ∀ (H1 : Heap) (locs1 : List Loc) (ls : Array Slot), lv_has ls (mm_nL M.1) l → mm_R G h1 H1 → (∀ q ∈ locs1, mm_A G q.base) → mm_WH L G M MC MS PR PX θ (pc + 3) ls (v.toList ++ rest) H1 locs1 (cs + mc) (sl + ms))
    (kx : ∀ (E : String) (h1 : mmH), PX1 E h1 → ∀ (H1 : Heap) (locs1 : List Loc) (ls : Array Slot) (q : Nat) (ce : Cell), lv_has ls (mm_nL M.1) l → mm_R G h1 H1 → (∀ q ∈ locs1, mm_A G q.base) → H1[q]? = some ce → ce.vm = .none → θ.2.2.1.vm.findClass E = some ce.cls →
      vx_W θ.1 L θ.2.1 (mm_room M.1 MC MS) θ.2.2.1 θ.2.2.2.1 θ.2.2.2.2.1 θ.2.2.2.2.2.1 θ.2.2.2.2.2.2.1 θ.2.2.2.2.2.2.2 H1 locs1 (cs + mc) (sl + ms) (vx_MQ θ.2.2.2.2.2.1 (mm_Qc G PR) (mm_XC G PX) θ.2.2.2.2.1 θ.2.2.1 MC MS (mm_A G)) (F0 θ.2.2.2.1 pc ls rest) q) :
    mm_W L G M MC MS PR PX θ j l st h cs sl := by
  subst hpc
  subst hst
  intro H locs ls hR hlv hL
  simp only [mm_sS, Bool.and_eq_true] at hs
  obtain ⟨s1, s2, s3⟩ := hs
  have hF := hc.1
  have hW := hc.2.2.2.2.2.2.2.1
  exact ms_back (rest := rest) (av := av.toArray) (vx_runS (As := av) (mm_callF hc rfl) hM ⟨mm_callB hc hp s0 s1 hl s3 hf, mm_in_word hF hW s2⟩ (mm_pre hW hR) rfl hlen hlv.1 rfl (mm_room8 hw) hd ⟨h1, h2⟩) hL (fun v h1 hp H1 locs1 hR1 hL1 => kr v h1 hp H1 locs1 ls hlv hR1 hL1) (fun E h1 hp H1 locs1 q ce hR1 hL1 hce hcv hcl => kx E h1 hp H1 locs1 ls q ce hlv hR1 hL1 hce hcv hcl)
/-- a static call of a method with handlers -/
theorem ms_callSX {av rest : List Value} (hc : mm_C L G M θ) (hpc : mm_pc M j = pc) (hd : decode (mm_b M.1) pc = .ok (.invokestatic k, 3))
    (hl : (Cond.methodLink M.2.1 k (mm_y S)).before θ.2.2.2.2.1 θ.2.2.1 = true) (s0 : mm_cw S ∈ lw_tbl) (hs : mm_sS S = true) (hf : mm_fit1 M S = true) (hp : (!mm_plain S) = true)
    (hst : st = av.reverse ++ rest) (hlen : av.length = mm_na S) (hw : Nat.ble (mm_words rest) 8 = true)
    (hM : mm_Met L G S av h mc ms PR1 PX1) (h1 : cs + mc ≤ MC) (h2 : sl + ms ≤ MS)
    (kr : ∀ (v : Option Value) (h1 : mmH), PR1 v h1 → ∀ (H1 : Heap) (locs1 : List Loc) (ls : Array Slot), lv_has ls (mm_nL M.1) l → mm_R G h1 H1 → (∀ q ∈ locs1, mm_A G q.base) → mm_WH L G M MC MS PR PX θ (pc + 3) ls (v.toList ++ rest) H1 locs1 (cs + mc) (sl + ms))
    (kx : ∀ (E : String) (h1 : mmH), PX1 E h1 → False) :
    mm_W L G M MC MS PR PX θ j l st h cs sl := by
  subst hpc
  subst hst
  intro H locs ls hR hlv hL
  simp only [mm_sS, Bool.and_eq_true] at hs
  obtain ⟨s1, s2, s3⟩ := hs
  have hF := hc.1
  have hW := hc.2.2.2.2.2.2.2.1
  obtain ⟨f1, f2⟩ := mm_fit1_of hf
  obtain ⟨n1, n2⟩ := mm_nok_of s3
  have hcode : (mm_cw S).before θ.2.2.2.2.1 θ.2.2.1 = true := mm_cw_at hF hW s0
  rw [mm_cw_with hp] at hcode
  refine ms_back (rest := rest) (av := av.toArray) (vx_runSX (hh := mm_hh S) (bytes := mm_b S) (maxL := mm_nL S) (ret := mm_r S) (As := av) (mm_callF hc rfl) hM ⟨⟨rfl, rfl, f1, f2, mm_wsok hF hW s0, by rw [mm_ws, mm_cw_with hp]; exact List.mem_singleton.mpr rfl⟩, hcode, mm_in_word hF hW s1, n1, n2, hl, mm_in_word hF hW s2⟩ (mm_pre hW hR) rfl hlen hlv.1 rfl (mm_room8 hw) hd ⟨h1, h2⟩) hL (fun v h1 hp H1 locs1 hR1 hL1 => kr v h1 hp H1 locs1 ls hlv hR1 hL1) (fun E h1 hp _ _ _ _ _ _ _ _ _ => (kx E h1 hp).elim)
/-- a nest mate's static method -/
theorem ms_callSN {av rest : List Value} (hc : mm_C L G M θ) (hpc : mm_pc M j = pc) (hd : decode (mm_b M.1) pc = .ok (.invokestatic k, 3))
    (hl : Cond.methodLinkNest M.2.1 k (mm_y S) "StreamHall" ∈ lw_tbl) (s0 : mm_cw S ∈ lw_tbl) (hs : mm_sS S = true) (hf : mm_fit1 M S = true) (hp : mm_plain S = true)
    (hst : st = av.reverse ++ rest) (hlen : av.length = mm_na S) (hw : Nat.ble (mm_words rest) 8 = true)
    (hM : mm_Met L G S av h mc ms PR1 PX1) (h1 : cs + mc ≤ MC) (h2 : sl + ms ≤ MS)
    (kr : ∀ (v : Option Value) (h1 : mmH), PR1 v h1 → ∀ (H1 : Heap) (locs1 : List Loc) (ls : Array Slot), lv_has ls (mm_nL M.1) l → mm_R G h1 H1 → (∀ q ∈ locs1, mm_A G q.base) → mm_WH L G M MC MS PR PX θ (pc + 3) ls (v.toList ++ rest) H1 locs1 (cs + mc) (sl + ms))
    (kx : ∀ (E : String) (h1 : mmH), PX1 E h1 → False) :
    mm_W L G M MC MS PR PX θ j l st h cs sl := by
  subst hpc
  subst hst
  intro H locs ls hR hlv hL
  simp only [mm_sS, Bool.and_eq_true] at hs
  obtain ⟨s1, s2, s3⟩ := hs
  have hF := hc.1
  have hW := hc.2.2.2.2.2.2.2.1
  have hM' := mm_noX hM (fun E _ t hx => by obtain ⟨h9, g, -⟩ := hx; exact kx E h9 g)
  exact ms_backN (rest := rest) (av := av.toArray) (va_runSN (As := av) (mm_callF hc rfl) hM' ⟨mm_callN hc hp s0 s1 hl s3 hf, mm_in_word hF hW s2, trivial⟩ (mm_pre hW hR) rfl hlen hlv.1 rfl (mm_room8 hw) hd ⟨h1, h2⟩) hL (fun v h1 hp H1 locs1 hR1 hL1 => kr v h1 hp H1 locs1 ls hlv hR1 hL1)
/-- a constructor -/
theorem ms_callI {b : Nat} {av rest : List Value} (hc : mm_C L G M θ) (hpc : mm_pc M j = pc) (hd : decode (mm_b M.1) pc = .ok (.invokespecial k, 3))
    (hl : (Cond.methodLink M.2.1 k (mm_y S)).before θ.2.2.2.2.1 θ.2.2.1 = true ∨ Cond.methodLinkNest M.2.1 k (mm_y S) "StreamHall" ∈ lw_tbl) (s0 : mm_cw S ∈ lw_tbl) (hs : mm_sI S = true) (hf : mm_fit1 M S = true) (hp : mm_plain S = true) (hr : mm_r S = none)
    (hst : st = (Value.ref b :: av).reverse ++ rest) (hlen : av.length + 1 = mm_na S) (hw : Nat.ble (mm_words rest) 8 = true)
    (hM : mm_Met L G S (.ref b :: av) h mc ms PR1 PX1) (h1 : cs + mc ≤ MC) (h2 : sl + ms ≤ MS)
    (kr : ∀ (v : Option Value) (h1 : mmH), PR1 v h1 → ∀ (H1 : Heap) (locs1 : List Loc) (ls : Array Slot), lv_has ls (mm_nL M.1) l → mm_R G h1 H1 → (∀ q ∈ locs1, mm_A G q.base) → mm_WH L G M MC MS PR PX θ (pc + 3) ls (v.toList ++ rest) H1 locs1 (cs + mc) (sl + ms))
    (kx : ∀ (E : String) (h1 : mmH), PX1 E h1 → False) :
    mm_W L G M MC MS PR PX θ j l st h cs sl := by
  subst hpc
  subst hst
  intro H locs ls hR hlv hL
  simp only [mm_sI, Bool.and_eq_true, decide_eq_true_eq] at hs
  obtain ⟨s1, s2, s3, s4, s5⟩ := hs
  have hF := hc.1
  have hW := hc.2.2.2.2.2.2.2.1
  have hlen' : av.length = mm_na S - 1 := by omega
  have hM' := mm_noX hM (fun E _ t hx => by obtain ⟨h9, g, -⟩ := hx; exact kx E h9 g)
  rcases hl with hl | hl
  · have hB := mm_callB (MC := MC) (MS := MS) (mc := mc) (ms := ms) hc hp s0 s1 hl s5 hf
    rw [hr] at hB
    exact ms_backN (rest := rest) (av := (Value.ref b :: av).toArray) (va_runI (As := av) (mm_callF hc rfl) hM' ⟨hB, s3, mm_in_word hF hW s2⟩ (mm_pre hW hR) rfl hlen' hlv.1 (by simp) (mm_room8 hw) hd ⟨h1, h2⟩) hL (fun v h1 hp H1 locs1 hR1 hL1 => kr v h1 hp H1 locs1 ls hlv hR1 hL1)
  · have hB := mm_callN (MC := MC) (MS := MS) (mc := mc) (ms := ms) hc hp s0 s1 hl s5 hf
    rw [hr] at hB
    exact ms_backN (rest := rest) (av := (Value.ref b :: av).toArray) (va_runIN (As := av) (mm_callF hc rfl) hM' ⟨hB, s3, mm_in_word hF hW s2⟩ (mm_pre hW hR) rfl hlen' hlv.1 (by simp) (mm_room8 hw) hd ⟨h1, h2⟩) hL (fun v h1 hp H1 locs1 hR1 hL1 => kr v h1 hp H1 locs1 ls hlv hR1 hL1)
end MSC
