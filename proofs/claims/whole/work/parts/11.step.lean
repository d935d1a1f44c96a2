section MSX
variable {L : Launch} {G : mmG} {M : mmM} {MC MS : Nat} {PR : Option Value → mmH → Prop} {PX : String → mmH → Prop} {θ : mmT} {j : Nat} {l : List (Nat × Value)} {st : List Value} {h : mmH} {cs sl : Nat}
/-- throw new E("text"), out of the checks -/
theorem ms_throwA {pc x y w ik : Nat} (hx2 : x < 2) (hc : mm_C L G M θ) (hpc : mm_pc M j = pc) (d0 : decode (mm_b M.1) pc = .ok (.new ik, 3)) (hk : mm_throwok M pc ik x y w = true) (hw : Nat.ble (mm_words st) 8 = true) (h1 : cs + 1 ≤ MC) (h2 : sl + 6 ≤ MS) (hp : PX (mm_en x) h) : mm_W L G M MC MS PR PX θ j l st h cs sl := by
  simp only [mm_throwok, Bool.and_eq_true, Bool.or_eq_true, decide_eq_true_eq] at hk
  obtain ⟨k0, k1, k2, k3, k4, k5, k6, k7, k8, k9⟩ := hk
  obtain ⟨c1, c2⟩ := mm_thr_ok hx2
  have hF := hc.1
  have hW := hc.2.2.2.2.2.2.2.1
  obtain ⟨v, hv, hv2⟩ := List.any_eq_true.mp k6
  have hall : ∀ v ∈ mm_thr (mm_en x), v ∈ lw_tbl ∧ mm_soft v = true ∧ vx_ot v = true := fun v hv => by
    have := List.all_eq_true.mp c1 v hv
    simpa only [Bool.and_eq_true, decide_eq_true_eq] using this
  split at hv2
  · rename_i o k tx
    simp only [Bool.and_eq_true, decide_eq_true_eq] at hv2
    obtain ⟨e1, e2⟩ := hv2
    have e2 := Nat.eq_of_beq_eq_true e2
    subst e2
    subst e1
    refine ms_throw (ic := w) hc hpc rfl k0 d0 k1 k2 c2 (word_at hW (Or.inl rfl) (hF.1 _ k4)) (word_at hW (Or.inl rfl) (hF.1 _ k5)) hv ?_ ?_ (Nat.le_of_ble_eq_true k8) (Nat.le_of_ble_eq_true k9) hw h1 h2 hp
    · intro v hv
      rcases mm_thr_in hv with rfl | hv
      · exact word_at hW (Or.inl rfl) (hF.1 _ k7)
      · exact mm_soft_word hF hW (hall v hv).1 (hall v hv).2.1
    · intro v hv
      rcases List.mem_cons.mp hv with rfl | hv
      · rfl
      · rcases List.mem_cons.mp hv with rfl | hv
        · rfl
        · rcases mm_thr_in hv with rfl | hv
          · rfl
          · exact (hall v hv).2.2
  · cases hv2
theorem mm_swc_at {v : Int32} {T : Int → Prop} : ∀ {os : List Int} {lo : Int} {k : Nat} {o : Int}, mm_swc v T os lo → os[k]? = some o → v.toInt = lo + k → T o := by
  intro os
  induction os with
  | nil => intro lo k o _ h; simp at h
  | cons a r ih =>
    intro lo k o hs hk hv
    obtain ⟨h1, h2⟩ := hs
    cases k with
    | zero =>
      simp at hk
      subst hk
      exact h1 (by simpa using hv)
    | succ k =>
      simp at hk
      exact ih h2 hk (by omega)
theorem mm_bi {n : Int} (h : -128 ≤ n ∧ n ≤ 127) : (Int8.ofInt n).toInt32 = Int32.ofInt n := by
  apply Int32.toInt_inj.mp
  rw [Int8.toInt_toInt32, Int8.toInt_ofInt_of_le (by omega) (by omega), Int32.toInt_ofInt_of_le (by omega) (by omega)]
theorem mm_si {n : Int} (h : -32768 ≤ n ∧ n ≤ 32767) : (Int16.ofInt n).toInt32 = Int32.ofInt n := by
  apply Int32.toInt_inj.mp
  rw [Int16.toInt_toInt32, Int16.toInt_ofInt_of_le (by omega) (by omega), Int32.toInt_ofInt_of_le (by omega) (by omega)]
theorem mm_ple {n : Nat} {st : List Value} {b : Nat} {av : List Value} (h : (st.take n).reverse = Value.ref b :: av) : st = (Value.ref b :: av).reverse ++ st.drop n ∧ av.length + 1 ≤ n := by
  refine ⟨mm_split n st _ h, ?_⟩
  have := congrArg List.length h
  simp at this
  omega
theorem mm_at_ix : ∀ {l : List (Nat × Value)} {k : Nat} {v : Value}, mm_at l k = some v → ∃ i : Nat, l[i]? = some (k, v) := by
  intro l
  induction l with
  | nil => intro k v h; simp [mm_at] at h
  | cons a r ih =>
    intro k v h
    obtain ⟨i, u⟩ := a
    simp only [mm_at] at h
    split at h
    · rename_i hb
      cases h
      have e := Nat.eq_of_beq_eq_true hb
      subst e
      exact ⟨0, rfl⟩
    · obtain ⟨i9, h9⟩ := ih h
      exact ⟨i9 + 1, by simpa using h9⟩
theorem ms_iinc {pc n : Nat} {d : Int} {v : Int32} (hex : θ.1.tables.exec = Jvm.exec) (hb : θ.2.2.2.2.2.2.2.code = M.1.2.1) (hpc : mm_pc M j = pc) (hn : mm_pc M (j + 1) = pc + 3) (hd : decode (mm_b M.1) pc = .ok (.iinc n d, 3)) (hat : mm_at l n = some (.int v)) (hlt : n < mm_nL M.1)
    (k : mm_W L G M MC MS PR PX θ (j + 1) (mm_st1 l n (.int (v + Int32.ofInt d))) st h cs sl) : mm_W L G M MC MS PR PX θ j l st h cs sl := by
  obtain ⟨i, hi⟩ := mm_at_ix hat
  exact mm_store hpc hn k (fun H locs ls hl k => lv_iinc (v := v + Int32.ofInt d) hex hb hd hl hi rfl hlt rfl k)
theorem ms_oinit {pc k a : Nat} (hc : mm_C L G M θ) (hpc : mm_pc M j = pc) (hn : mm_pc M (j + 1) = pc + 3) (hd : decode (mm_b M.1) pc = .ok (.invokespecial k, 3)) (h1 : (Cond.methodLink M.2.1 k objectInit).before θ.2.2.2.2.1 θ.2.2.1 = true) (h2 : (Cond.instanceMethod objectInit).before θ.2.2.2.2.1 θ.2.2.1 = true) (h3 : (Cond.code objectInit ⟨#[0xb1]⟩ 1 none).before θ.2.2.2.2.1 θ.2.2.1 = true)
    (h4 : 1 ≤ mm_fr M.1) (h5 : 20 ≤ mm_lo M.1) (hw : Nat.ble (mm_words st) 8 = true) (kk : mm_W L G M MC MS PR PX θ (j + 1) l st h cs sl) : mm_W L G M MC MS PR PX θ j l (.ref a :: st) h cs sl := by
  obtain ⟨hF, hex, hb, hml, -, hown, -⟩ := hc
  have hwl : (st.map fun v => v.category).sum ≤ 8 := Nat.le_of_ble_eq_true hw
  exact mm_fall hpc hn kk (fun H locs ls hR hl k => W.objInit hex hb hown h1 h2 h3 rfl (by rw [hml]; exact hl.1) rfl hd h4 (by show 2 * 0 + _ + 12 ≤ mm_lo M.1; omega) k)
theorem mm_w8 {S : mmS} (h : (Nat.ble (mm_na S) st.length && Nat.ble (mm_words (st.drop (mm_na S))) 8) = true) : mm_na S ≤ st.length ∧ Nat.ble (mm_words (st.drop (mm_na S))) 8 = true := by
  simp only [Bool.and_eq_true] at h
  exact ⟨Nat.le_of_ble_eq_true h.1, h.2⟩
theorem ms_spec {pc k x y z w b : Nat} {S : mmS} {av : List Value} {K : Nat → List (Nat × Value) → List Value → mmH → Nat → Nat → Prop} (hc : mm_C L G M θ) (hpc : mm_pc M j = pc) (hn : mm_pc M (j + 1) = pc + 3) (hd : decode (mm_b M.1) pc = .ok (.invokespecial k, 3)) (hz : z = 0 → False) (hk : mm_oks M (pc, .invokespecial k, 3, x, y, z, w) = true) (hS : M.2.2.2.1[x]? = some S)
    (hw8 : (Nat.ble (mm_na S) st.length && Nat.ble (mm_words (st.drop (mm_na S))) 8) = true) (hav : (st.take (mm_na S)).reverse = .ref b :: av) (hK : ∀ j l st h cs sl, K j l st h cs sl → mm_W L G M MC MS PR PX θ j l st h cs sl)
    (hs : mm_call L G S MC MS (.ref b :: av) (st.drop (mm_na S)) h cs sl (fun st h cs sl => K (j + 1) l st h cs sl) (fun _ _ _ _ => False)) : mm_W L G M MC MS PR PX θ j l st h cs sl := by
  obtain ⟨g1, g2⟩ := mm_w8 hw8
  obtain ⟨mc, ms, PR1, PX1, hM, h1, h2, kR, kX⟩ := hs
  have hlen : av.length + 1 = mm_na S := by simpa using mm_take_len _ _ _ hav g1
  have s0 : mm_cw S ∈ lw_tbl := hc.2.2.2.2.2.2.2.2.2.2.2.2 S (List.mem_of_getElem? hS)
  have fin : ((Cond.methodLink M.2.1 k (mm_y S)).before θ.2.2.2.2.1 θ.2.2.1 = true ∨ Cond.methodLinkNest M.2.1 k (mm_y S) "StreamHall" ∈ lw_tbl) → mm_sI S = true → mm_fit1 M S = true → mm_plain S = true → mm_r S = none → mm_W L G M MC MS PR PX θ j l st h cs sl := fun a1 a2 a3 a4 a5 =>
    ms_callI hc hpc hd a1 s0 a2 a3 a4 a5 (mm_split _ _ _ hav) hlen g2 hM h1 h2 (fun v h1 hp H1 locs1 ls hlv hR1 hL1 => mm_use (hK _ _ _ _ _ _ (kR v h1 hp)) hn hR1 hlv hL1) kX
  delta mm_oks at hk; dsimp only at hk
  split at hk
  · exact absurd rfl hz
  · rw [hS] at hk
    simp only [Bool.and_eq_true, decide_eq_true_eq] at hk
    exact fin (Or.inl (mm_in_word hc.1 hc.2.2.2.2.2.2.2.1 hk.1)) hk.2.1 hk.2.2.1 hk.2.2.2.1 hk.2.2.2.2
  · rw [hS] at hk
    simp only [Bool.and_eq_true, decide_eq_true_eq] at hk
    exact fin (Or.inr (mm_inn_mem hk.1)) hk.2.1 hk.2.2.1 hk.2.2.2.1 hk.2.2.2.2
theorem ms_stat {pc k x y z w : Nat} {S : mmS} {K : Nat → List (Nat × Value) → List Value → mmH → Nat → Nat → Prop} (hc : mm_C L G M θ) (hpc : mm_pc M j = pc) (hn : mm_pc M (j + 1) = pc + 3) (hd : decode (mm_b M.1) pc = .ok (.invokestatic k, 3)) (hz : z = 9 → False) (hk : mm_oks M (pc, .invokestatic k, 3, x, y, z, w) = true) (hS : M.2.2.2.1[x]? = some S)
    (hw8 : (Nat.ble (mm_na S) st.length && Nat.ble (mm_words (st.drop (mm_na S))) 8) = true) (hK : ∀ j l st h cs sl, K j l st h cs sl → mm_W L G M MC MS PR PX θ j l st h cs sl)
    (hs : mm_call L G S MC MS (st.take (mm_na S)).reverse (st.drop (mm_na S)) h cs sl (fun st h cs sl => K (j + 1) l st h cs sl) (fun E h1 cs1 sl1 => mm_kx3 z (PX E h1))) : mm_W L G M MC MS PR PX θ j l st h cs sl := by
  obtain ⟨g1, g2⟩ := mm_w8 hw8
  obtain ⟨mc, ms, PR1, PX1, hM, h1, h2, kR, kX⟩ := hs
  have hlen := mm_take_len _ _ _ (rfl : (st.take (mm_na S)).reverse = _) g1
  have s0 : mm_cw S ∈ lw_tbl := hc.2.2.2.2.2.2.2.2.2.2.2.2 S (List.mem_of_getElem? hS)
  have hF := hc.1
  have hW := hc.2.2.2.2.2.2.2.1
  delta mm_oks at hk; dsimp only at hk
  split at hk
  · exact absurd rfl hz
  · rw [hS] at hk
    simp only [Bool.and_eq_true] at hk
    exact ms_callSN hc hpc hd (mm_inn_mem hk.1) s0 hk.2.1 hk.2.2.1 hk.2.2.2 (mm_split _ _ _ rfl) hlen g2 hM h1 h2 (fun v h1 hp H1 locs1 ls hlv hR1 hL1 => mm_use (hK _ _ _ _ _ _ (kR v h1 hp)) hn hR1 hlv hL1) kX
  · rw [hS] at hk
    simp only [Bool.and_eq_true] at hk
    exact ms_callSX hc hpc hd (mm_in_word hF hW hk.1) s0 hk.2.1 hk.2.2.1 hk.2.2.2 (mm_split _ _ _ rfl) hlen g2 hM h1 h2 (fun v h1 hp H1 locs1 ls hlv hR1 hL1 => mm_use (hK _ _ _ _ _ _ (kR v h1 hp)) hn hR1 hlv hL1) kX
  · rw [hS] at hk
    simp only [Bool.and_eq_true, Bool.or_eq_true, Bool.not_eq_true'] at hk
    refine ms_callS hc hpc hd (mm_in_word hF hW hk.1) s0 hk.2.1 hk.2.2.1 hk.2.2.2.1 (mm_split _ _ _ rfl) hlen g2 hM h1 h2 (fun v h1 hp H1 locs1 ls hlv hR1 hL1 => mm_use (hK _ _ _ _ _ _ (kR v h1 hp)) hn hR1 hlv hL1) ?_
    intro E h9 hp H1 locs1 ls q ce hlv hR1 hL1 hce hcv hcl
    have h8 := kX E h9 hp
    unfold mm_kx3 at h8
    split at h8
    · exact ms_out hc (by rcases hk.2.2.2.2 with q | q; exact q; cases q) h8 h1 h2 hR1 hL1 hce hcv hcl
    · exact h8.elim
theorem ms_virt {pc k x y z w b : Nat} {S : mmS} {av : List Value} {K : Nat → List (Nat × Value) → List Value → mmH → Nat → Nat → Prop} (hc : mm_C L G M θ) (hpc : mm_pc M j = pc) (hn : mm_pc M (j + 1) = pc + 3) (hd : decode (mm_b M.1) pc = .ok (.invokevirtual k, 3)) (hk : mm_oks M (pc, .invokevirtual k, 3, x, y, z, w) = true) (hS : M.2.2.2.1[x]? = some S)
    (hw8 : (Nat.ble (mm_na S) st.length && Nat.ble (mm_words (st.drop (mm_na S))) 8) = true) (hav : (st.take (mm_na S)).reverse = .ref b :: av) (hK : ∀ j l st h cs sl, K j l st h cs sl → mm_W L G M MC MS PR PX θ j l st h cs sl)
    (hs : (∃ fs : List Value, h b = some (.inr (y, fs))) ∧ mm_call L G S MC MS (.ref b :: av) (st.drop (mm_na S)) h cs sl (fun st h cs sl => K (j + 1) l st h cs sl) (fun E h1 cs1 sl1 => mm_kx4 z (PX E h1) (mm_hx E (fun k => ∀ q : Nat, K k l [.ref q] h1 cs1 sl1) M.2.2.2.2.2))) : mm_W L G M MC MS PR PX θ j l st h cs sl := by
  obtain ⟨g1, g2⟩ := mm_w8 hw8
  obtain ⟨⟨fs, hb⟩, mc, ms, PR1, PX1, hM, h1, h2, kR, kX⟩ := hs
  have hlen : av.length + 1 = mm_na S := by simpa using mm_take_len _ _ _ hav g1
  have hF := hc.1
  have hW := hc.2.2.2.2.2.2.2.1
  delta mm_oks at hk; dsimp only at hk
  rw [hS] at hk
  simp only [Bool.and_eq_true, decide_eq_true_eq] at hk
  obtain ⟨k1, k2, k3, k4, k5, k6, k7⟩ := hk
  have s0 : mm_cw S ∈ lw_tbl := hc.2.2.2.2.2.2.2.2.2.2.2.2 S (List.mem_of_getElem? hS)
  refine ms_callV hc hpc hd (mm_in_word hF hW k1) s0 k2 k3 k4 (show _ < _ from Nat.le_of_ble_eq_true k5) k6 (mm_split _ _ _ hav) hlen g2 hb hM h1 h2 (fun v h1 hp H1 locs1 ls hlv hR1 hL1 => mm_use (hK _ _ _ _ _ _ (kR v h1 hp)) hn hR1 hlv hL1) ?_
  intro E h9 hp H1 locs1 ls q ce hlv hR1 hL1 hce hcv hcl
  have h8 := kX E h9 hp
  unfold mm_kx4 at h8
  split at h8
  · exact ms_out hc k7 h8 h1 h2 hR1 hL1 hce hcv hcl
  · obtain ⟨hall, n, k9, hmem, rfl⟩ := h8
    have wd : ∀ {v : Cond}, v ∈ lw_tbl → mm_soft v = true → v.before θ.2.2.2.2.1 θ.2.2.1 = true := fun hv hs => mm_soft_word hF hW hv hs
    have kk : ∀ {pc9 : Nat}, mm_pc M k9 = pc9 → mm_WH L G M MC MS PR PX θ pc9 ls [.ref q] H1 locs1 (cs + mc) (sl + ms) := fun e9 => mm_use (hK _ _ _ _ _ _ (hall n k9 hmem rfl q)) e9 hR1 hlv hL1
    have k7 : mm_hok M pc = true := k7
    unfold mm_hok at k7
    split at k7
    · rename_i a n0 k0 e1 e2
      rw [e2] at hmem
      cases List.mem_singleton.mp hmem
      simp only [mm_hok1, Bool.and_eq_true, decide_eq_true_eq, Bool.not_eq_true'] at k7
      obtain ⟨q1, q2, q3, q4, q5, q6⟩ := k7
      exact ms_catch1 (x := a) (pre := []) (suf := []) hc rfl e1 (fun z hz => nomatch hz) (by simpa [covers] using q1) (Nat.ne_of_beq_eq_false q2) (wd q5 rfl) (wd q6 rfl) hce hcv hcl (kk (Nat.eq_of_beq_eq_true q3))
    · rename_i a b n0 k0 n1 k1' e1 e2
      rw [e2] at hmem
      simp only [mm_hok1, Bool.and_eq_true, decide_eq_true_eq, Bool.not_eq_true'] at k7
      obtain ⟨⟨q1, q2, q3, q4, q5, q6⟩, ⟨r1, r2, r3, r4, r5, r6⟩, r7⟩ := k7
      have r7 := Nat.ne_of_beq_eq_false r7
      rcases List.mem_cons.mp hmem with hm | hm
      · cases hm
        exact ms_catch1 (x := a) (pre := []) (suf := [b]) hc rfl e1 (fun z hz => nomatch hz) (by simpa [covers] using q1) (Nat.ne_of_beq_eq_false q2) (wd q5 rfl) (wd q6 rfl) hce hcv hcl (kk (Nat.eq_of_beq_eq_true q3))
      · cases List.mem_singleton.mp hm
        refine ms_catch1 (x := b) (pre := [a]) (suf := []) hc rfl e1 (fun z hz => ?_) (by simpa [covers] using r1) (Nat.ne_of_beq_eq_false r2) (wd r5 rfl) (wd r6 rfl) hce hcv hcl (kk (Nat.eq_of_beq_eq_true r3))
        cases List.mem_singleton.mp hz
        exact ⟨Nat.ne_of_beq_eq_false q2, _, wd q5 rfl, va_Nc.moved hW.alike (hF.2.2.2.2.2.2 _ _ (Nat.le_of_ble_eq_true r4) (Nat.le_of_ble_eq_true q4) (Ne.symm r7))⟩
    · cases k7
  · exact h8.elim
/-- the third kind of exception: its own chain of constructors -/
def mm_thrN : List Cond := (Bundle.throwableAtoms ++ Bundle.throwableSAtoms ++ mm_passN ++ mm_upN ++ mm_restN).filter vx_no
def mm_thrN_chk : Bool := mm_thrN.all (fun v => decide (v ∈ lw_tbl) && (mm_soft v && vx_ot v))
theorem mm_thrN_ok : mm_thrN_chk = true := by decide +kernel
theorem mm_nse_en : mm_en 2 = mm_nse := rfl
theorem ms_throwN {pc y w ik : Nat} (hc : mm_C L G M θ) (hpc : mm_pc M j = pc) (d0 : decode (mm_b M.1) pc = .ok (.new ik, 3)) (hk : mm_throwok M pc ik 2 y w = true) (hw : Nat.ble (mm_words st) 8 = true) (h1 : cs + 1 ≤ MC) (h2 : sl + 6 ≤ MS) (hp : PX (mm_en 2) h) : mm_W L G M MC MS PR PX θ j l st h cs sl := by
  simp only [mm_throwok, Bool.and_eq_true, Bool.or_eq_true, decide_eq_true_eq] at hk
  obtain ⟨hh, d3, dd, k3, k4, k5, k6, k7, k8, k9⟩ := hk
  have hfr : 5 < mm_fr M.1 := Nat.le_of_ble_eq_true k8
  have hlo : 90 ≤ mm_lo M.1 := Nat.le_of_ble_eq_true k9
  have hall : ∀ v ∈ mm_thrN, v ∈ lw_tbl ∧ mm_soft v = true ∧ vx_ot v = true := fun v hv => by
    have := List.all_eq_true.mp mm_thrN_ok v hv
    simpa only [Bool.and_eq_true, decide_eq_true_eq] using this
  obtain ⟨v, hv, hv2⟩ := List.any_eq_true.mp k6
  have hstr : ∃ tx, Cond.stringRef M.2.1 y tx ∈ lw_tbl := by
    split at hv2
    · rename_i o k tx
      simp only [Bool.and_eq_true, decide_eq_true_eq] at hv2
      obtain ⟨e1, e2⟩ := hv2
      have e2 := Nat.eq_of_beq_eq_true e2
      subst e2
      subst e1
      exact ⟨tx, hv⟩
    · cases hv2
  obtain ⟨tx, hstr⟩ := hstr
  subst hpc
  intro H locs ls hR hl hL T hT X
  have hF0 := hc.1
  have hW0' := hc.2.2.2.2.2.2.2.1
  obtain ⟨hF, hex, hb, hml, hret, hown, hlk, hW, -, htab, htr, ⟨hz0, hz1⟩, -⟩ := hc
  obtain ⟨sa, hsa⟩ := hF.2.2.2.2.2.1 _ _ _ hstr
  have hsz : θ.2.2.1.heap.size ≤ H.size := by
    have := X.same.2.1
    rw [← hT]
    exact this
  have hS : va_S (mm_A G) θ.2.2.1.heap H locs := ⟨hsz, fun q _ hq => by
    have hq' : q < G.1.heap.size := Nat.not_le.mp hq
    rw [hR.2.1 q hq', hz1 q hq'], hL⟩
  have kp : ∀ a : Nat, a < G.1.heap.size → ¬ mm_A G a → θ.2.2.1.heap[a]? = G.1.heap[a]? := fun a ha _ => hz1 a ha
  have hU := vx_Zq.moved hW.alike (vx_Zq.kept hF.2.2.2.2.1.1 kp)
  have hN := vx_Zq.moved hW.alike (vx_Zq.kept hF.2.2.2.2.1.2 kp)
  have hwl : (st.map fun v => v.category).sum ≤ 8 := Nat.le_of_ble_eq_true hw
  have hout : ∀ o, ∀ x ∈ θ.2.2.2.2.2.2.2.exceptionTable.toList, covers x o = false := fun o x hx => by
    have e9 : M.1.2.2.2.2.1 = [] := List.isEmpty_iff.mp hh
    rw [htab, e9] at hx
    cases hx
  have htr' : θ.2.1.platform.stackTraces = false := (show θ.2.1.platform.stackTraces = L.stackTraces by rw [X.admits.platform]).trans htr
  have Y := vx_rebase X (R' := { frames := (mm_room M.1 MC MS).frames, locals := (mm_room M.1 MC MS).locals, cells := 1, slots := 6 }) (Nat.le_refl _) (Nat.le_refl _) h1 h2
  obtain ⟨s', hA⟩ : ∃ z, z = (T.setVm θ.2.2.1.vm).setFrames (.invoking θ.2.2.2.1 θ.2.2.2.2.1 :: θ.2.2.2.2.2.1) := ⟨_, rfl⟩
  rw [← hA] at Y
  have hvm : s'.vm = θ.2.2.1.vm := by rw [hA]; rfl
  have hhp : s'.heap = H := by rw [hA]; exact hT
  have hW0 : θ.2.2.1.WarmedH s'.vm := by rw [hvm]; exact State.WarmedH.refl _
  have hWs0 : G.1.WarmedH s'.vm := State.WarmedH.trans hW hW0
  have hU' : vx_Zq Bundle.tN "UNASSIGNED_STACK" Bundle.steD (mm_A G) s' s'.heap := by rw [hhp]; exact vx_Zq.moved hW0.alike (hU.kept hS.2.1)
  have hN' : vx_Zq Bundle.tN "SUPPRESSED_SENTINEL" Bundle.listD (mm_A G) s' s'.heap := by rw [hhp]; exact vx_Zq.moved hW0.alike (hN.kept hS.2.1)
  have hwd : ∀ w ∈ Bundle.throwableAtoms ++ Bundle.throwableSAtoms ++ mm_passN ++ mm_upN ++ mm_restN, w.before θ.2.2.2.2.1 s' = true := vx_own (fun w hw => mm_soft_word hF hWs0 (hall w hw).1 (hall w hw).2.1) (vx_isRefq hU'.1) (vx_isRefq hN'.1) hU'.2.word hN'.2.word
  have hown' : s'.vm.findClass M.2.1 = some θ.2.2.2.1.cls := by rw [hvm]; exact hown
  have hrest : ∀ w ∈ mm_restN, w.before θ.2.2.2.2.1 s' = true := fun w hw => hwd w (List.mem_append.mpr (Or.inr hw))
  have hins : (Cond.instantiable mm_nse 6).before θ.2.2.2.2.1 s' = true := hrest _ (by simp [mm_restN])
  obtain ⟨vm₁, cX, kX, hfX, hkX, -, -, X₁, st1⟩ := Y.newCold hex (own := M.2.1) (C := mm_nse) (index := ik) (n := 6) hown' (word_at hWs0 (Or.inl rfl) (hF.1 _ k4)) hins (word_at hWs0 (Or.inl rfl) (hF.1 _ k5))
    (g := F0 θ.2.2.2.1 (mm_pc M j) ls st) rfl (by rw [hb]; exact d0) (Nat.le_refl _) (Nat.le_refl _)
  generalize hT1 : (T.setVm vm₁).pushCell { cls := cX, slots := kX.instanceTypes.map defaultValue, vm := .none } = T1 at X₁ st1
  have hcat : (Value.ref T.heap.size).category = 1 := rfl
  have hcellA : T1.heap[T.heap.size]? = some (freshCell cX kX) := by rw [← hT1]; exact State.heap_pushCell_size _ _
  have d3' : decode θ.2.2.2.2.2.2.2.code (mm_pc M j + 3) = .ok (.dup, 1) := by rw [hb]; exact d3
  have hstr' : vk_R M.2.1 y tx sa s' := vk_R.warm hW0 (vk_R.warm hW hsa)
  have core : ∀ (pcI : Nat), decode (mm_b M.1) pcI = .ok (.invokespecial w, 3) → decode (mm_b M.1) (pcI + 3) = .ok (.athrow, 1) →
      (∀ U, Steps θ.1.tables θ.2.1 θ.2.2.2.2.2.1 (T1.setTop { method := θ.2.2.2.1, pc := pcI, locals := ls, stack := .ref sa :: .ref T.heap.size :: .ref T.heap.size :: st, locked := none }) U → Steps θ.1.tables θ.2.1 θ.2.2.2.2.2.1 (T1.setTop { method := θ.2.2.2.1, pc := mm_pc M j + 3, locals := ls, stack := .ref T.heap.size :: st, locked := none }) U) →
      ∃ t, Steps θ.1.tables θ.2.1 θ.2.2.2.2.2.1 (T.setTop (F0 θ.2.2.2.1 (mm_pc M j) ls st)) t ∧ vx_MQ θ.2.2.2.2.2.1 (mm_Qc G PR) (mm_XC G PX) θ.2.2.2.2.1 θ.2.2.1 MC MS (mm_A G) t := by
    intro pcI e6 e9 hto
    obtain ⟨U, hsteps, hrun, hend, hWU, hsame, ce, hce, hcls, hcv⟩ := mm_ctorN X₁ hex htr' (own := M.2.1) (ic := w) hown'
      (fun v hv => hwd v (by simp [hv])) (fun v hv => hwd v (by simp [hv])) (fun v hv => hwd v (by simp [hv])) (fun v hv => hwd v (by simp [hv])) hrest (word_at hWs0 (Or.inl rfl) (hF.1 _ k7)) (fun x hx => nomatch hx) hfX hkX hcellA (by rw [hhp, hT]; exact Nat.le_refl _) (msg := .ref sa) rfl
      (g := { method := θ.2.2.2.1, pc := pcI, locals := ls, stack := .ref sa :: .ref T.heap.size :: .ref T.heap.size :: st, locked := none }) rfl (hl.1.trans hml.symm) rfl rfl (rest := st) rfl
      (by rw [hb]; exact e6) (by rw [hb]; exact e9) (hout _) hfr (by show 2 * 0 + _ + 81 ≤ mm_lo M.1; simp only [List.map_cons, List.sum_cons, hcat]; omega) hlk
    obtain ⟨f1, f2⟩ := vx_frame hsame
    rw [hhp] at f1 f2
    have hWs : θ.2.2.1.WarmedH U.vm := State.WarmedH.trans hW0 hWU
    have hcl : θ.2.2.1.vm.findClass mm_nse = some ce.cls := by rw [hvm] at hcls; exact hcls
    have hall9 : θ.2.2.1.sameButNew ({ U with vm := θ.2.2.1.vm } : State) locs MC MS := by
      subst hA
      obtain ⟨e1, e2⟩ := hsame
      rw [State.setFrames_setFrames] at e1
      have h2' : (T.setVm θ.2.2.1.vm).sameButNew ({ U with vm := θ.2.2.1.vm } : State) [] (0 + 1) (0 + 6) := ⟨e1, e2⟩
      have h3 := X.same.trans h2'
      rw [List.append_nil] at h3
      exact h3.mono h1 h2
    have hxx : mm_XC G PX mm_nse θ.2.2.1 U := ⟨h, hp, Nat.le_trans hR.1 f1, fun q hq => by rw [f2 q (Nat.lt_of_lt_of_le hq hR.1) (fun z hz => nomatch hz)]; exact hR.2.1 q hq, fun a e he => ⟨(hR.2.2 a e he).1, va_at.kept (hR.2.2 a e he).2 (f2 a (hR.2.2 a e he).2.lt (fun z hz => nomatch hz))⟩⟩
    refine ⟨U, ?_, .threw T.heap.size, hrun, hend, Or.inr ⟨T.heap.size, rfl, mm_nse, ce, locs, hxx, hce, hcv, hcl, hWs, hall9, hL⟩⟩
    exact st1 _ (hto _ hsteps)
  rcases dd with ⟨d4, d6, d9⟩ | ⟨d4, d6, d9⟩
  · refine core (mm_pc M j + 6) d6 d9 (fun U hU => ?_)
    have d4' : decode θ.2.2.2.2.2.2.2.code (mm_pc M j + 4) = .ok (.ldc y, 2) := by rw [hb]; exact d4
    jvm_step X₁.here [X₁.here.top, hex, d3', Value.category]
    exact X₁.ldcString hex (own := M.2.1) (text := tx) (index := y) (a := sa) hown' hstr'.1 hstr'.2
      (g := { method := θ.2.2.2.1, pc := mm_pc M j + 4, locals := ls, stack := .ref T.heap.size :: .ref T.heap.size :: st, locked := none }) rfl d4' _ hU
  · refine core (mm_pc M j + 7) d6 d9 (fun U hU => ?_)
    have d4' : decode θ.2.2.2.2.2.2.2.code (mm_pc M j + 4) = .ok (.ldc_w y, 3) := by rw [hb]; exact d4
    jvm_step X₁.here [X₁.here.top, hex, d3', Value.category]
    exact X₁.ldcStringW hex (own := M.2.1) (text := tx) (index := y) (a := sa) hown' hstr'.1 hstr'.2
      (g := { method := θ.2.2.2.1, pc := mm_pc M j + 4, locals := ls, stack := .ref T.heap.size :: .ref T.heap.size :: st, locked := none }) rfl d4' _ hU
theorem ms_throwB {pc x y w ik : Nat} (hc : mm_C L G M θ) (hpc : mm_pc M j = pc) (d0 : decode (mm_b M.1) pc = .ok (.new ik, 3)) (hk : mm_oks M (pc, .new ik, 3, x, y, 1, w) = true) (hw : Nat.ble (mm_words st) 8 = true) (h1 : cs + 1 ≤ MC) (h2 : sl + 6 ≤ MS) (hp : PX (mm_en x) h) : mm_W L G M MC MS PR PX θ j l st h cs sl := by
  have hk : mm_throwok M pc ik x y w = true := hk
  by_cases hx : x < 2
  · exact ms_throwA hx hc hpc d0 hk hw h1 h2 hp
  · have hx3 : x < 3 := by
      have h9 := hk
      simp only [mm_throwok, Bool.and_eq_true] at h9
      exact Nat.le_of_ble_eq_true h9.2.2.2.1
    obtain rfl : x = 2 := by omega
    exact ms_throwN hc hpc d0 hk hw h1 h2 hp
/-- a step is sound -/
theorem mm_step_sound (hc : mm_C L G M θ) (hok : mm_ok M = true) {ent : mmE} (he : M.2.2.1[j]? = some ent) {K : Nat → List (Nat × Value) → List Value → mmH → Nat → Nat → Prop}
    (hK : ∀ j l st h cs sl, K j l st h cs sl → mm_W L G M MC MS PR PX θ j l st h cs sl) (hs : mm_step L G M MC MS PR PX j ent l st h cs sl K) : mm_W L G M MC MS PR PX θ j l st h cs sl := by
  obtain ⟨pc, i, len, x, y, z, w⟩ := ent
  have hpc : mm_pc M j = pc := mm_pc_at he
  have h0 := mm_ok_at hok he
  simp only [mm_eok, Bool.and_eq_true, decide_eq_true_eq] at h0
  obtain ⟨hd, hlen0, hn0, hk⟩ := h0
  have hlen : len = mm_len i len := Nat.eq_of_beq_eq_true hlen0
  have hn : mm_falls i z = true → mm_pc M (j + 1) = pc + len := by
    intro hf
    rw [hf] at hn0
    exact Nat.eq_of_beq_eq_true hn0
  clear hlen0 hn0
  have hex := hc.2.1
  have hb := hc.2.2.1
  have hF := hc.1
  have hown := hc.2.2.2.2.2.1
  have hW := hc.2.2.2.2.2.2.2.1
  cases i
  all_goals try (exact False.elim hs)
  case aconst_null =>
    obtain rfl : len = 1 := hlen
    delta mm_step at hs; dsimp only at hs
    exact mm_fall hpc (hn rfl) (hK _ _ _ _ _ _ hs) (fun H locs ls hR hl k => lv_null hex hb hd k)
  case iconst n =>
    obtain rfl : len = 1 := hlen
    delta mm_step at hs; dsimp only at hs
    exact mm_fall hpc (hn rfl) (hK _ _ _ _ _ _ hs) (fun H locs ls hR hl k => lv_iconst hex hb hd rfl k)
  case bipush n =>
    obtain rfl : len = 2 := hlen
    delta mm_step at hs; dsimp only at hs
    have hn9 : -128 ≤ n ∧ n ≤ 127 := by simpa [mm_oks] using hk
    exact mm_fall hpc (hn rfl) (hK _ _ _ _ _ _ hs) (fun H locs ls hR hl k => lv_bipush hex hb hd (mm_bi hn9) k)
  case sipush n =>
    obtain rfl : len = 3 := hlen
    delta mm_step at hs; dsimp only at hs
    have hn9 : -32768 ≤ n ∧ n ≤ 32767 := by simpa [mm_oks] using hk
    exact mm_fall hpc (hn rfl) (hK _ _ _ _ _ _ hs) (fun H locs ls hR hl k => lv_sipush hex hb hd (mm_si hn9) k)
  case lconst n =>
    obtain rfl : len = 1 := hlen
    delta mm_step at hs; dsimp only at hs
    exact mm_fall hpc (hn rfl) (hK _ _ _ _ _ _ hs) (fun H locs ls hR hl k => lv_lconst hex hb hd rfl k)
  case ldc n =>
    obtain rfl : len = 2 := hlen
    delta mm_step at hs; dsimp only at hs
    exact mm_fall hpc (hn rfl) (hK _ _ _ _ _ _ hs) (fun H locs ls hR hl k => lv_ldc hex hb hown (mm_in_word hF hW hk) hd k)
  case ldc2_w n =>
    obtain rfl : len = 3 := hlen
    delta mm_step at hs; dsimp only at hs
    exact mm_fall hpc (hn rfl) (hK _ _ _ _ _ _ hs) (fun H locs ls hR hl k => lv_ldc2 hex hb hown (mm_in_word hF hW hk) hd k)
  case iload n =>
    obtain rfl : len = 2 := hlen
    delta mm_step at hs; dsimp only at hs
    split at hs
    · rename_i hat
      exact mm_fall hpc (hn rfl) (hK _ _ _ _ _ _ hs) (fun H locs ls hR hl k => lv_iload hex hb hd (mm_atL hl hat) k)
    · exact hs.elim
  case iload_n n =>
    obtain rfl : len = 1 := hlen
    delta mm_step at hs; dsimp only at hs
    split at hs
    · rename_i hat
      exact mm_fall hpc (hn rfl) (hK _ _ _ _ _ _ hs) (fun H locs ls hR hl k => lv_iload_n hex hb hd rfl (mm_atL hl hat) k)
    · exact hs.elim
  case lload n =>
    obtain rfl : len = 2 := hlen
    delta mm_step at hs; dsimp only at hs
    split at hs
    · rename_i hat
      exact mm_fall hpc (hn rfl) (hK _ _ _ _ _ _ hs) (fun H locs ls hR hl k => lv_lload hex hb hd (mm_atL hl hat) k)
    · exact hs.elim
  case lload_n n =>
    obtain rfl : len = 1 := hlen
    delta mm_step at hs; dsimp only at hs
    split at hs
    · rename_i hat
      exact mm_fall hpc (hn rfl) (hK _ _ _ _ _ _ hs) (fun H locs ls hR hl k => lv_lload_n hex hb hd rfl (mm_atL hl hat) k)
    · exact hs.elim
  case aload n =>
    obtain rfl : len = 2 := hlen
    delta mm_step at hs; dsimp only at hs
    split at hs
    · rename_i hat
      exact mm_fall hpc (hn rfl) (hK _ _ _ _ _ _ hs) (fun H locs ls hR hl k => lv_aload hex hb hd (mm_atL hl hat) k)
    · rename_i hat
      exact mm_fall hpc (hn rfl) (hK _ _ _ _ _ _ hs) (fun H locs ls hR hl k => lv_aloadN hex hb hd (mm_atL hl hat) k)
    · exact hs.elim
  case aload_n n =>
    obtain rfl : len = 1 := hlen
    delta mm_step at hs; dsimp only at hs
    split at hs
    · rename_i hat
      exact mm_fall hpc (hn rfl) (hK _ _ _ _ _ _ hs) (fun H locs ls hR hl k => lv_aload_n hex hb hd rfl (mm_atL hl hat) k)
    · rename_i hat
      exact mm_fall hpc (hn rfl) (hK _ _ _ _ _ _ hs) (fun H locs ls hR hl k => lv_aload_nN hex hb hd rfl (mm_atL hl hat) k)
    · exact hs.elim
  case istore n =>
    obtain rfl : len = 2 := hlen
    delta mm_step at hs; dsimp only at hs
    split at hs
    · exact mm_store hpc (hn rfl) (hK _ _ _ _ _ _ hs) (fun H locs ls hl k => lv_istore hex hb hd hl (show _ < _ from Nat.le_of_ble_eq_true hk) rfl k)
    · exact hs.elim
  case istore_n n =>
    obtain rfl : len = 1 := hlen
    delta mm_step at hs; dsimp only at hs
    split at hs
    · exact mm_store hpc (hn rfl) (hK _ _ _ _ _ _ hs) (fun H locs ls hl k => lv_istore_n hex hb hd rfl hl (show _ < _ from Nat.le_of_ble_eq_true hk) rfl k)
    · exact hs.elim
  case lstore n =>
    obtain rfl : len = 2 := hlen
    delta mm_step at hs; dsimp only at hs
    split at hs
    · exact mm_store hpc (hn rfl) (hK _ _ _ _ _ _ hs) (fun H locs ls hl k => lv_lstore hex hb hd hl (show _ < _ from Nat.le_of_ble_eq_true hk) rfl k)
    · exact hs.elim
  case lstore_n n =>
    obtain rfl : len = 1 := hlen
    delta mm_step at hs; dsimp only at hs
    split at hs
    · exact mm_store hpc (hn rfl) (hK _ _ _ _ _ _ hs) (fun H locs ls hl k => lv_lstore_n hex hb hd rfl hl (show _ < _ from Nat.le_of_ble_eq_true hk) rfl k)
    · exact hs.elim
  case astore n =>
    obtain rfl : len = 2 := hlen
    delta mm_step at hs; dsimp only at hs
    split at hs
    · exact mm_store hpc (hn rfl) (hK _ _ _ _ _ _ hs) (fun H locs ls hl k => lv_astore hex hb hd hl (show _ < _ from Nat.le_of_ble_eq_true hk) rfl k)
    · exact mm_store hpc (hn rfl) (hK _ _ _ _ _ _ hs) (fun H locs ls hl k => lv_astoreN hex hb hd hl (show _ < _ from Nat.le_of_ble_eq_true hk) rfl k)
    · exact hs.elim
  case astore_n n =>
    obtain rfl : len = 1 := hlen
    delta mm_step at hs; dsimp only at hs
    split at hs
    · exact mm_store hpc (hn rfl) (hK _ _ _ _ _ _ hs) (fun H locs ls hl k => lv_astore_n hex hb hd rfl hl (show _ < _ from Nat.le_of_ble_eq_true hk) rfl k)
    · exact mm_store hpc (hn rfl) (hK _ _ _ _ _ _ hs) (fun H locs ls hl k => lv_astore_nN hex hb hd rfl hl (show _ < _ from Nat.le_of_ble_eq_true hk) rfl k)
    · exact hs.elim
  case iinc n d =>
    obtain rfl : len = 3 := hlen
    delta mm_step at hs; dsimp only at hs
    split at hs
    · rename_i v hat
      exact ms_iinc hex hb hpc (hn rfl) hd hat (show _ < _ from Nat.le_of_ble_eq_true hk) (hK _ _ _ _ _ _ hs)
    · exact hs.elim
  case iadd =>
    obtain rfl : len = 1 := hlen
    delta mm_step at hs; dsimp only at hs
    split at hs
    · exact mm_fall hpc (hn rfl) (hK _ _ _ _ _ _ hs) (fun H locs ls hR hl k => lv_iadd hex hb hd k)
    · exact hs.elim
  case isub =>
    obtain rfl : len = 1 := hlen
    delta mm_step at hs; dsimp only at hs
    split at hs
    · exact mm_fall hpc (hn rfl) (hK _ _ _ _ _ _ hs) (fun H locs ls hR hl k => lv_isub hex hb hd k)
    · exact hs.elim
  case imul =>
    obtain rfl : len = 1 := hlen
    delta mm_step at hs; dsimp only at hs
    split at hs
    · exact mm_fall hpc (hn rfl) (hK _ _ _ _ _ _ hs) (fun H locs ls hR hl k => lv_imul hex hb hd k)
    · exact hs.elim
  case iand =>
    obtain rfl : len = 1 := hlen
    delta mm_step at hs; dsimp only at hs
    split at hs
    · exact mm_fall hpc (hn rfl) (hK _ _ _ _ _ _ hs) (fun H locs ls hR hl k => lv_iand hex hb hd k)
    · exact hs.elim
  case ladd =>
    obtain rfl : len = 1 := hlen
    delta mm_step at hs; dsimp only at hs
    split at hs
    · exact mm_fall hpc (hn rfl) (hK _ _ _ _ _ _ hs) (fun H locs ls hR hl k => lv_ladd hex hb hd k)
    · exact hs.elim
  case lsub =>
    obtain rfl : len = 1 := hlen
    delta mm_step at hs; dsimp only at hs
    split at hs
    · exact mm_fall hpc (hn rfl) (hK _ _ _ _ _ _ hs) (fun H locs ls hR hl k => lv_lsub hex hb hd k)
    · exact hs.elim
  case lmul =>
    obtain rfl : len = 1 := hlen
    delta mm_step at hs; dsimp only at hs
    split at hs
    · exact mm_fall hpc (hn rfl) (hK _ _ _ _ _ _ hs) (fun H locs ls hR hl k => lv_lmul hex hb hd k)
    · exact hs.elim
  case land =>
    obtain rfl : len = 1 := hlen
    delta mm_step at hs; dsimp only at hs
    split at hs
    · exact mm_fall hpc (hn rfl) (hK _ _ _ _ _ _ hs) (fun H locs ls hR hl k => lv_land hex hb hd k)
    · exact hs.elim
  case lor =>
    obtain rfl : len = 1 := hlen
    delta mm_step at hs; dsimp only at hs
    split at hs
    · exact mm_fall hpc (hn rfl) (hK _ _ _ _ _ _ hs) (fun H locs ls hR hl k => lv_lor hex hb hd k)
    · exact hs.elim
  case idiv =>
    obtain rfl : len = 1 := hlen
    delta mm_step at hs; dsimp only at hs
    split at hs
    · exact mm_fall hpc (hn rfl) (hK _ _ _ _ _ _ hs.2) (fun H locs ls hR hl k => lv_idiv hex hb hd hs.1 k)
    · exact hs.elim
  case irem =>
    obtain rfl : len = 1 := hlen
    delta mm_step at hs; dsimp only at hs
    split at hs
    · exact mm_fall hpc (hn rfl) (hK _ _ _ _ _ _ hs.2) (fun H locs ls hR hl k => lv_irem hex hb hd hs.1 k)
    · exact hs.elim
  case ldiv =>
    obtain rfl : len = 1 := hlen
    delta mm_step at hs; dsimp only at hs
    split at hs
    · exact mm_fall hpc (hn rfl) (hK _ _ _ _ _ _ hs.2) (fun H locs ls hR hl k => lv_ldiv hex hb hd hs.1 k)
    · exact hs.elim
  case lrem =>
    obtain rfl : len = 1 := hlen
    delta mm_step at hs; dsimp only at hs
    split at hs
    · exact mm_fall hpc (hn rfl) (hK _ _ _ _ _ _ hs.2) (fun H locs ls hR hl k => lv_lrem hex hb hd hs.1 k)
    · exact hs.elim
  case lshl =>
    obtain rfl : len = 1 := hlen
    delta mm_step at hs; dsimp only at hs
    split at hs
    · exact mm_fall hpc (hn rfl) (hK _ _ _ _ _ _ hs) (fun H locs ls hR hl k => lv_lshl hex hb hd rfl k)
    · exact hs.elim
  case lshr =>
    obtain rfl : len = 1 := hlen
    delta mm_step at hs; dsimp only at hs
    split at hs
    · exact mm_fall hpc (hn rfl) (hK _ _ _ _ _ _ hs) (fun H locs ls hR hl k => lv_lshr hex hb hd rfl k)
    · exact hs.elim
  case lushr =>
    obtain rfl : len = 1 := hlen
    delta mm_step at hs; dsimp only at hs
    split at hs
    · exact mm_fall hpc (hn rfl) (hK _ _ _ _ _ _ hs) (fun H locs ls hR hl k => lv_lushr hex hb hd rfl k)
    · exact hs.elim
  case i2l =>
    obtain rfl : len = 1 := hlen
    delta mm_step at hs; dsimp only at hs
    split at hs
    · exact mm_fall hpc (hn rfl) (hK _ _ _ _ _ _ hs) (fun H locs ls hR hl k => lv_i2l hex hb hd rfl k)
    · exact hs.elim
  case l2i =>
    obtain rfl : len = 1 := hlen
    delta mm_step at hs; dsimp only at hs
    split at hs
    · exact mm_fall hpc (hn rfl) (hK _ _ _ _ _ _ hs) (fun H locs ls hR hl k => lv_l2i hex hb hd rfl k)
    · exact hs.elim
  case i2b =>
    obtain rfl : len = 1 := hlen
    delta mm_step at hs; dsimp only at hs
    split at hs
    · exact mm_fall hpc (hn rfl) (hK _ _ _ _ _ _ hs) (fun H locs ls hR hl k => lv_i2b hex hb hd rfl k)
    · exact hs.elim
  case i2s =>
    obtain rfl : len = 1 := hlen
    delta mm_step at hs; dsimp only at hs
    split at hs
    · exact mm_fall hpc (hn rfl) (hK _ _ _ _ _ _ hs) (fun H locs ls hR hl k => lv_i2s hex hb hd rfl k)
    · exact hs.elim
  case lcmp =>
    obtain rfl : len = 1 := hlen
    delta mm_step at hs; dsimp only at hs
    split at hs
    · exact mm_fall hpc (hn rfl) (hK _ _ _ _ _ _ hs) (fun H locs ls hR hl k => W.lcmp hex hb hd k)
    · exact hs.elim
  case dup =>
    obtain rfl : len = 1 := hlen
    delta mm_step at hs; dsimp only at hs
    split at hs
    · exact mm_fall hpc (hn rfl) (hK _ _ _ _ _ _ hs) (fun H locs ls hR hl k => lv_dup hex hb hd rfl k)
    · exact mm_fall hpc (hn rfl) (hK _ _ _ _ _ _ hs) (fun H locs ls hR hl k => lv_dup hex hb hd rfl k)
    · exact hs.elim
  case dup2 =>
    obtain rfl : len = 1 := hlen
    delta mm_step at hs; dsimp only at hs
    split at hs
    · exact mm_fall hpc (hn rfl) (hK _ _ _ _ _ _ hs) (fun H locs ls hR hl k => lv_dup2_11 hex hb hd rfl rfl k)
    · exact hs.elim
  case pop =>
    obtain rfl : len = 1 := hlen
    delta mm_step at hs; dsimp only at hs
    split at hs
    · exact mm_fall hpc (hn rfl) (hK _ _ _ _ _ _ hs) (fun H locs ls hR hl k => lv_pop hex hb hd rfl k)
    · exact hs.elim
  case goto o =>
    obtain rfl : len = 3 := hlen
    delta mm_step at hs; dsimp only at hs
    exact mm_fall hpc rfl (hK _ _ _ _ _ _ hs) (fun H locs ls hR hl k => lv_goto hex hb hd (by simpa [mm_oks, mm_jump] using hk) k)
  case ifCond c o =>
    obtain rfl : len = 3 := hlen
    delta mm_step at hs; dsimp only at hs
    split at hs
    · obtain ⟨k1, k2⟩ := hs
      subst hpc
      intro H locs ls hR hl hL
      have ht : ((mm_pc M j : Nat) : Int) + o = (mm_pc M x : Int) := by simpa [mm_oks, mm_jump] using hk
      cases c with
      | eq => exact lv_if_eq hex hb hd ht (fun e => mm_use (hK _ _ _ _ _ _ (k1 e)) rfl hR hl hL) (fun e => mm_use (hK _ _ _ _ _ _ (k2 e)) (hn rfl) hR hl hL)
      | ne => exact lv_if_ne hex hb hd ht (fun e => mm_use (hK _ _ _ _ _ _ (k1 e)) rfl hR hl hL) (fun e => mm_use (hK _ _ _ _ _ _ (k2 e)) (hn rfl) hR hl hL)
      | lt => exact lv_if_lt hex hb hd ht (fun e => mm_use (hK _ _ _ _ _ _ (k1 e)) rfl hR hl hL) (fun e => mm_use (hK _ _ _ _ _ _ (k2 e)) (hn rfl) hR hl hL)
      | ge => exact lv_if_ge hex hb hd ht (fun e => mm_use (hK _ _ _ _ _ _ (k1 e)) rfl hR hl hL) (fun e => mm_use (hK _ _ _ _ _ _ (k2 e)) (hn rfl) hR hl hL)
      | gt => exact lv_if_gt hex hb hd ht (fun e => mm_use (hK _ _ _ _ _ _ (k1 e)) rfl hR hl hL) (fun e => mm_use (hK _ _ _ _ _ _ (k2 e)) (hn rfl) hR hl hL)
      | le => exact lv_if_le hex hb hd ht (fun e => mm_use (hK _ _ _ _ _ _ (k1 e)) rfl hR hl hL) (fun e => mm_use (hK _ _ _ _ _ _ (k2 e)) (hn rfl) hR hl hL)
    · exact hs.elim
  case if_icmp c o =>
    obtain rfl : len = 3 := hlen
    delta mm_step at hs; dsimp only at hs
    split at hs
    · obtain ⟨k1, k2⟩ := hs
      subst hpc
      intro H locs ls hR hl hL
      have ht : ((mm_pc M j : Nat) : Int) + o = (mm_pc M x : Int) := by simpa [mm_oks, mm_jump] using hk
      cases c with
      | eq => exact lv_icmp_eq hex hb hd ht (fun e => mm_use (hK _ _ _ _ _ _ (k1 e)) rfl hR hl hL) (fun e => mm_use (hK _ _ _ _ _ _ (k2 e)) (hn rfl) hR hl hL)
      | ne => exact lv_icmp_ne hex hb hd ht (fun e => mm_use (hK _ _ _ _ _ _ (k1 e)) rfl hR hl hL) (fun e => mm_use (hK _ _ _ _ _ _ (k2 e)) (hn rfl) hR hl hL)
      | lt => exact lv_icmp_lt hex hb hd ht (fun e => mm_use (hK _ _ _ _ _ _ (k1 e)) rfl hR hl hL) (fun e => mm_use (hK _ _ _ _ _ _ (k2 e)) (hn rfl) hR hl hL)
      | ge => exact lv_icmp_ge hex hb hd ht (fun e => mm_use (hK _ _ _ _ _ _ (k1 e)) rfl hR hl hL) (fun e => mm_use (hK _ _ _ _ _ _ (k2 e)) (hn rfl) hR hl hL)
      | gt => exact lv_icmp_gt hex hb hd ht (fun e => mm_use (hK _ _ _ _ _ _ (k1 e)) rfl hR hl hL) (fun e => mm_use (hK _ _ _ _ _ _ (k2 e)) (hn rfl) hR hl hL)
      | le => exact lv_icmp_le hex hb hd ht (fun e => mm_use (hK _ _ _ _ _ _ (k1 e)) rfl hR hl hL) (fun e => mm_use (hK _ _ _ _ _ _ (k2 e)) (hn rfl) hR hl hL)
    · exact hs.elim
  case ifnull o =>
    obtain rfl : len = 3 := hlen
    delta mm_step at hs; dsimp only at hs
    split at hs
    · exact mm_fall hpc rfl (hK _ _ _ _ _ _ hs) (fun H locs ls hR hl k => lv_ifnullN hex hb hd (by simpa [mm_oks, mm_jump] using hk) k)
    · exact mm_fall hpc (hn rfl) (hK _ _ _ _ _ _ hs) (fun H locs ls hR hl k => lv_ifnull hex hb hd k)
    · exact hs.elim
  case ifnonnull o =>
    obtain rfl : len = 3 := hlen
    delta mm_step at hs; dsimp only at hs
    split at hs
    · exact mm_fall hpc rfl (hK _ _ _ _ _ _ hs) (fun H locs ls hR hl k => lv_ifnonnull hex hb hd (by simpa [mm_oks, mm_jump] using hk) k)
    · exact mm_fall hpc (hn rfl) (hK _ _ _ _ _ _ hs) (fun H locs ls hR hl k => lv_ifnonnullN hex hb hd k)
    · exact hs.elim
  case tableswitch d lo hi offs =>
    delta mm_step at hs; dsimp only at hs
    split at hs
    · rename_i a st
      obtain ⟨k1, k2⟩ := hs
      simp only [mm_oks, mm_jump, Bool.and_eq_true, decide_eq_true_eq, List.all_eq_true] at hk
      obtain ⟨t1, t2, t3⟩ := hk
      subst hpc
      intro H locs ls hR hl hL
      by_cases c1 : a.toInt < lo ∨ hi < a.toInt
      · exact lv_tableOut hex hb hd c1 t1 (mm_use (hK _ _ _ _ _ _ (k2 c1)) rfl hR hl hL)
      · have c2 : ¬ a.toInt < lo := fun q => c1 (Or.inl q)
        have c3 : ¬ hi < a.toInt := fun q => c1 (Or.inr q)
        have hlt : (a.toInt - lo).toNat < offs.toList.length := by omega
        have ho : offs[(a.toInt - lo).toNat]? = some (offs.toList[(a.toInt - lo).toNat]) := by rw [← Array.getElem?_toList]; exact List.getElem?_eq_getElem hlt
        have hv : a.toInt = lo + ((a.toInt - lo).toNat : Nat) := by omega
        exact lv_tableIn hex hb hd c2 c3 ho (t2 _ (List.getElem_mem hlt)) (mm_use (hK _ _ _ _ _ _ (mm_swc_at k1 (List.getElem?_eq_getElem hlt) hv)) rfl hR hl hL)
    · exact hs.elim
  case getfield k =>
    obtain rfl : len = 3 := hlen
    delta mm_step at hs; dsimp only at hs
    split at hs
    · obtain ⟨fs, ha, hs⟩ := hs
      simp only [mm_oks, Bool.and_eq_true] at hk
      obtain ⟨k1, k2, k3⟩ := hk
      split at hs
      · rename_i hv
        exact ms_get hc hpc (hn rfl) hd (show _ < _ from Nat.le_of_ble_eq_true k2) (show _ < _ from Nat.le_of_ble_eq_true k3) (mm_in_word hF hW k1) ha hv (hK _ _ _ _ _ _ hs)
      · exact hs.elim
    · exact hs.elim
  case putfield k =>
    obtain rfl : len = 3 := hlen
    delta mm_step at hs; dsimp only at hs
    split at hs
    · obtain ⟨fs, ha, hs⟩ := hs
      simp only [mm_oks, Bool.and_eq_true, Bool.or_eq_true, Bool.not_eq_true', decide_eq_true_eq] at hk
      obtain ⟨k1, k2, k3, k4⟩ := hk
      split at hs
      · rename_i hv
        exact ms_put hc hpc (hn rfl) hd (show _ < _ from Nat.le_of_ble_eq_true k2) (show _ < _ from Nat.le_of_ble_eq_true k3) (mm_in_word hF hW k1) k4 ha hv hs.1 (hK _ _ _ _ _ _ hs.2)
      · exact hs.elim
    · exact hs.elim
  case arraylength =>
    obtain rfl : len = 1 := hlen
    delta mm_step at hs; dsimp only at hs
    split at hs
    · split at hs
      · exact ms_slen hc hpc (hn rfl) hd hs.1 (hK _ _ _ _ _ _ hs.2)
      · obtain ⟨k, A, ha, hk10, hs⟩ := hs
        exact ms_alen hc hpc (hn rfl) hd ha hk10 (hK _ _ _ _ _ _ hs)
    · exact hs.elim
  case iaload =>
    obtain rfl : len = 1 := hlen
    delta mm_step at hs; dsimp only at hs
    split at hs
    · split at hs
      · exact ms_sld hc hpc (hn rfl) hd hs.1 hs.2.1 (hK _ _ _ _ _ _ hs.2.2)
      · obtain ⟨n, f, ha, hin, hs⟩ := hs
        exact ms_iald hc hpc (hn rfl) hd ha hin (hK _ _ _ _ _ _ hs)
    · exact hs.elim
  case saload =>
    obtain rfl : len = 1 := hlen
    delta mm_step at hs; dsimp only at hs
    split at hs
    · obtain ⟨n, f, ha, hin, hs⟩ := hs
      exact ms_sald hc hpc (hn rfl) hd ha hin (hK _ _ _ _ _ _ hs)
    · exact hs.elim
  case laload =>
    obtain rfl : len = 1 := hlen
    delta mm_step at hs; dsimp only at hs
    split at hs
    · obtain ⟨n, f, ha, hin, hs⟩ := hs
      exact ms_lald hc hpc (hn rfl) hd ha hin (hK _ _ _ _ _ _ hs)
    · exact hs.elim
  case baload =>
    obtain rfl : len = 1 := hlen
    delta mm_step at hs; dsimp only at hs
    split at hs
    · split at hs
      · obtain ⟨n, f, ha, hin, hs⟩ := hs
        exact ms_zald hc hpc (hn rfl) hd ha hin (hK _ _ _ _ _ _ hs)
      · obtain ⟨n, f, ha, hin, hs⟩ := hs
        exact ms_bald hc hpc (hn rfl) hd ha hin (hK _ _ _ _ _ _ hs)
    · exact hs.elim
  case aaload =>
    obtain rfl : len = 1 := hlen
    delta mm_step at hs; dsimp only at hs
    split at hs
    · obtain ⟨n, f, ha, hin, hs⟩ := hs
      simp only [mm_oks, Bool.and_eq_true] at hk
      exact ms_aald hc hpc (hn rfl) hd (show _ < _ from Nat.le_of_ble_eq_true hk.1) (show _ < _ from Nat.le_of_ble_eq_true hk.2) ha hin (hK _ _ _ _ _ _ hs)
    · exact hs.elim
  case iastore =>
    obtain rfl : len = 1 := hlen
    delta mm_step at hs; dsimp only at hs
    split at hs
    · obtain ⟨n, f, ha, hin, hs⟩ := hs
      exact ms_iast hc hpc (hn rfl) hd ha hin (hK _ _ _ _ _ _ hs)
    · exact hs.elim
  case sastore =>
    obtain rfl : len = 1 := hlen
    delta mm_step at hs; dsimp only at hs
    split at hs
    · obtain ⟨n, f, ha, hin, hs⟩ := hs
      exact ms_sast hc hpc (hn rfl) hd ha hin (hK _ _ _ _ _ _ hs)
    · exact hs.elim
  case lastore =>
    obtain rfl : len = 1 := hlen
    delta mm_step at hs; dsimp only at hs
    split at hs
    · obtain ⟨n, f, ha, hin, hs⟩ := hs
      exact ms_last hc hpc (hn rfl) hd ha hin (hK _ _ _ _ _ _ hs)
    · exact hs.elim
  case bastore =>
    obtain rfl : len = 1 := hlen
    delta mm_step at hs; dsimp only at hs
    split at hs
    · split at hs
      · obtain ⟨n, f, ha, hin, hs⟩ := hs
        exact ms_zast hc hpc (hn rfl) hd ha hin (hK _ _ _ _ _ _ hs)
      · obtain ⟨n, f, ha, hin, hs⟩ := hs
        exact ms_bast hc hpc (hn rfl) hd ha hin (hK _ _ _ _ _ _ hs)
    · exact hs.elim
  case aastore =>
    obtain rfl : len = 1 := hlen
    delta mm_step at hs; dsimp only at hs
    split at hs
    · obtain ⟨n, f, fs, ha, hv, hin, hs⟩ := hs
      exact ms_aast hc hpc (hn rfl) hd (show _ < _ from Nat.le_of_ble_eq_true hk) ha hv hin (hK _ _ _ _ _ _ hs)
    · exact hs.elim
  case newarray at_ =>
    obtain rfl : len = 2 := hlen
    delta mm_step at hs; dsimp only at hs
    split at hs
    · obtain ⟨h1, h2, h3, h4, hs⟩ := hs
      simp only [mm_oks, Bool.and_eq_true] at hk
      exact ms_newa hc hpc (hn rfl) hd (Nat.eq_of_beq_eq_true hk.1) (show _ < _ from Nat.le_of_ble_eq_true hk.2.1) (mm_in_word hF hW hk.2.2) h1 h2 h3 h4 (fun a a1 a2 => hK _ _ _ _ _ _ (hs a a1 a2))
    · exact hs.elim
  case anewarray k =>
    obtain rfl : len = 3 := hlen
    delta mm_step at hs; dsimp only at hs
    split at hs
    · obtain ⟨h1, h2, h3, h4, hs⟩ := hs
      simp only [mm_oks, Bool.and_eq_true] at hk
      exact ms_anew hc hpc (hn rfl) hd (show _ < _ from Nat.le_of_ble_eq_true hk.1) (mm_in_word hF hW hk.2.1) (mm_inn_mem hk.2.2) h1 h2 h3 h4 (fun a a1 a2 => hK _ _ _ _ _ _ (hs a a1 a2))
    · exact hs.elim
  case new k =>
    obtain rfl : len = 3 := hlen
    delta mm_step at hs; dsimp only at hs
    split at hs
    · obtain ⟨h0, h1, h2, hs⟩ := hs
      exact ms_throwB hc hpc hd hk h0 h1 h2 hs
    · rename_i hz9
      obtain ⟨h1, h2, hs⟩ := hs
      have hz8 : mm_falls (Instr.new k) z = true := by
        show (!(z == 1)) = true
        simpa using hz9
      have hk : (Nat.blt x 7 && (mm_in w (.classLink M.2.1 k (mm_cn x)) && (mm_in y (.instantiable (mm_cn x) (mm_N x)) && mm_in (mm_p M.1 (10 + x)) (.initialized (mm_cn x))))) = true := by
        delta mm_oks at hk; dsimp only at hk
        split at hk
        · exact absurd rfl hz9
        · exact hk
      simp only [Bool.and_eq_true] at hk
      exact ms_new hc hpc (hn hz8) hd (show _ < _ from Nat.le_of_ble_eq_true hk.1) (mm_in_word hF hW hk.2.1) (mm_in_word hF hW hk.2.2.1) (mm_in_word hF hW hk.2.2.2) h1 h2 (fun a a1 a2 => hK _ _ _ _ _ _ (hs a a1 a2))
  case invokespecial k =>
    obtain rfl : len = 3 := hlen
    delta mm_step at hs; dsimp only at hs
    split at hs
    · split at hs
      · split at hs
        · rename_i hw8
          simp only [mm_oks, Bool.and_eq_true] at hk
          obtain ⟨k1, k2, k3, k4, k5⟩ := hk
          exact ms_oinit hc hpc (hn rfl) hd (mm_in_word hF hW k1) (mm_in_word hF hW k2) (mm_in_word hF hW k3) (Nat.le_of_ble_eq_true k4) (Nat.le_of_ble_eq_true k5) hw8 (hK _ _ _ _ _ _ hs)
        · exact hs.elim
      · exact hs.elim
    · rename_i hz9
      split at hs
      · rename_i S hS
        split at hs
        · rename_i hw8
          split at hs
          · rename_i b av hav
            exact ms_spec hc hpc (hn rfl) hd hz9 hk hS hw8 hav hK hs
          · exact hs.elim
        · exact hs.elim
      · exact hs.elim
  case invokestatic k =>
    obtain rfl : len = 3 := hlen
    delta mm_step at hs; dsimp only at hs
    split at hs
    · split at hs
      · split at hs
        · rename_i hw8
          simp only [mm_oks, Bool.and_eq_true] at hk
          obtain ⟨k1, k2, k3, k4, k5, k6⟩ := hk
          split at hs
          · obtain ⟨n0, n1, f, g, a0, a1, b1, b2, b3, b4, b5, b6, hs⟩ := hs
            exact ms_copy (t := 2) hc hpc (hn rfl) hd (Or.inr (Or.inl rfl)) (mm_in_word hF hW k1) (mm_in_word hF hW k2) (mm_in_word hF hW k3) (mm_in_word hF hW k4) (Nat.le_of_ble_eq_true k5) (Nat.le_of_ble_eq_true k6) hw8 a0 a1 b1 b2 b3 b4 b5 b6 (hK _ _ _ _ _ _ hs)
          · obtain ⟨n0, n1, f, g, a0, a1, b1, b2, b3, b4, b5, b6, hs⟩ := hs
            exact ms_copy (t := 3) hc hpc (hn rfl) hd (Or.inr (Or.inr rfl)) (mm_in_word hF hW k1) (mm_in_word hF hW k2) (mm_in_word hF hW k3) (mm_in_word hF hW k4) (Nat.le_of_ble_eq_true k5) (Nat.le_of_ble_eq_true k6) hw8 a0 a1 b1 b2 b3 b4 b5 b6 (hK _ _ _ _ _ _ hs)
          · obtain ⟨n0, n1, f, g, a0, a1, b1, b2, b3, b4, b5, b6, hs⟩ := hs
            exact ms_copy (t := 0) hc hpc (hn rfl) hd (Or.inl rfl) (mm_in_word hF hW k1) (mm_in_word hF hW k2) (mm_in_word hF hW k3) (mm_in_word hF hW k4) (Nat.le_of_ble_eq_true k5) (Nat.le_of_ble_eq_true k6) hw8 a0 a1 b1 b2 b3 b4 b5 b6 (hK _ _ _ _ _ _ hs)
        · exact hs.elim
      · exact hs.elim
    · rename_i hz9
      split at hs
      · rename_i S hS
        split at hs
        · rename_i hw8
          exact ms_stat hc hpc (hn rfl) hd hz9 hk hS hw8 hK hs
        · exact hs.elim
      · exact hs.elim
  case invokevirtual k =>
    obtain rfl : len = 3 := hlen
    delta mm_step at hs; dsimp only at hs
    split at hs
    · rename_i S hS
      split at hs
      · rename_i hw8
        split at hs
        · rename_i b av hav
          exact ms_virt hc hpc (hn rfl) hd hk hS hw8 hav hK hs
        · exact hs.elim
      · exact hs.elim
    · exact hs.elim
  case ireturn =>
    obtain rfl : len = 1 := hlen
    delta mm_step at hs; dsimp only at hs
    split at hs
    · split at hs
      · rename_i hr
        exact ms_iret hc hpc hd hr hs.1 hs.2.1 hs.2.2
      · rename_i hr
        exact ms_zret hc hpc hd hr (by rcases hs.1 with rfl | rfl <;> rfl) hs.2.1 hs.2.2.1 hs.2.2.2
      · rename_i hr
        exact ms_zret hc hpc hd hr (congrArg Value.int hs.1) hs.2.1 hs.2.2.1 hs.2.2.2
      · exact hs.elim
    · exact hs.elim
  case lreturn =>
    obtain rfl : len = 1 := hlen
    delta mm_step at hs; dsimp only at hs
    split at hs
    · exact ms_lret hc hpc hd (by simpa [mm_oks] using hk) hs.1 hs.2.1 hs.2.2
    · exact hs.elim
  case areturn =>
    obtain rfl : len = 1 := hlen
    delta mm_step at hs; dsimp only at hs
    have hr : ∃ n, mm_r M.1 = some (.object n) := by
      delta mm_oks at hk; dsimp only at hk
      split at hk
      · rename_i n hr; exact ⟨n, hr⟩
      · cases hk
    obtain ⟨n, hr⟩ := hr
    split at hs
    · exact ms_aret hc hpc hd hr (Or.inr ⟨_, rfl⟩) hs.1 hs.2.1 hs.2.2
    · exact ms_aret hc hpc hd hr (Or.inl rfl) hs.1 hs.2.1 hs.2.2
    · exact hs.elim
  case return_ =>
    obtain rfl : len = 1 := hlen
    delta mm_step at hs; dsimp only at hs
    split at hs
    · exact ms_vret hc hpc hd (by simpa [mm_oks] using hk) hs.1 hs.2.1 hs.2.2
    · exact hs.elim
/-- a run is sound -/
theorem mm_sound (hc : mm_C L G M θ) (hok : mm_ok M = true) : ∀ (f j : Nat) (l : List (Nat × Value)) (st : List Value) (h : mmH) (cs sl : Nat), mm_run L G M MC MS PR PX θ f j l st h cs sl → mm_W L G M MC MS PR PX θ j l st h cs sl := by
  intro f
  induction f with
  | zero => intro j l st h cs sl hr; exact hr
  | succ f ih =>
    intro j l st h cs sl hr
    simp only [mm_run] at hr
    split at hr
    · rename_i ent he
      refine mm_step_sound hc hok he ?_ hr
      intro j l st h cs sl hq
      split at hq
      · exact hq
      · exact ih _ _ _ _ _ _ hq
    · exact hr.elim
end MSX
