section MSE
variable {L : Launch} {G : mmG} {M : mmM} {MC MS : Nat} {PR : Option Value → mmH → Prop} {PX : String → mmH → Prop} {θ : mmT} {j j' pc pc' len : Nat} {l l' : List (Nat × Value)} {st st' : List Value} {h h' : mmH} {cs sl cs' sl' : Nat} {S : mmS} {mc ms k : Nat} {PR1 : Option Value → mmH → Prop} {PX1 : String → mmH → Prop}
theorem mm_qc {v : Option Value} {H : Heap} (hp : PR v h) (hR : mm_R G h H) : ∀ t : State, t.heap = H → θ.2.2.1.WarmedH t.vm → mm_Qc G PR θ.2.2.2.2.1 θ.2.2.1 (.returned v) t := fun t ht _ => ⟨v, h, rfl, hp, by rw [ht]; exact hR⟩
theorem ms_iret {v : Int32} (hc : mm_C L G M θ) (hpc : mm_pc M j = pc) (hd : decode (mm_b M.1) pc = .ok (.ireturn, 1)) (hr : mm_r M.1 = some .int) (hp : PR (some (.int v)) h) (h1 : cs ≤ MC) (h2 : sl ≤ MS) : mm_W L G M MC MS PR PX θ j l [.int v] h cs sl := by
  subst hpc
  intro H locs ls hR hl hL
  obtain ⟨hF, hex, hb, -, hret, hown, hlk, hW, -⟩ := hc
  exact W.widen h1 h2 (vx_ret (W.iret hex hb (hret.trans hr) (mm_qc hp hR) hL hd hlk))
theorem ms_zret {v : Int32} {ty : FieldType} (hc : mm_C L G M θ) (hpc : mm_pc M j = pc) (hd : decode (mm_b M.1) pc = .ok (.ireturn, 1)) (hr : mm_r M.1 = some ty) (hn : narrow ty (.int v) = .int v) (hp : PR (some (.int v)) h) (h1 : cs ≤ MC) (h2 : sl ≤ MS) : mm_W L G M MC MS PR PX θ j l [.int v] h cs sl := by
  subst hpc
  intro H locs ls hR hl hL
  obtain ⟨hF, hex, hb, -, hret, hown, hlk, hW, -⟩ := hc
  exact W.widen h1 h2 (vx_ret (W.zret hex hb (hret.trans hr) hn (mm_qc hp hR) hL hd hlk))
theorem ms_lret {v : Int64} (hc : mm_C L G M θ) (hpc : mm_pc M j = pc) (hd : decode (mm_b M.1) pc = .ok (.lreturn, 1)) (hr : mm_r M.1 = some .long) (hp : PR (some (.long v)) h) (h1 : cs ≤ MC) (h2 : sl ≤ MS) : mm_W L G M MC MS PR PX θ j l [.long v] h cs sl := by
  subst hpc
  intro H locs ls hR hl hL
  obtain ⟨hF, hex, hb, -, hret, hown, hlk, hW, -⟩ := hc
  exact W.widen h1 h2 (vx_ret (W.lret hex hb (hret.trans hr) (mm_qc hp hR) hL hd hlk))
theorem ms_aret {v : Value} {n : String} (hc : mm_C L G M θ) (hpc : mm_pc M j = pc) (hd : decode (mm_b M.1) pc = .ok (.areturn, 1)) (hr : mm_r M.1 = some (.object n)) (hv : v = .null ∨ ∃ a, v = .ref a) (hp : PR (some v) h) (h1 : cs ≤ MC) (h2 : sl ≤ MS) : mm_W L G M MC MS PR PX θ j l [v] h cs sl := by
  subst hpc
  intro H locs ls hR hl hL
  obtain ⟨hF, hex, hb, -, hret, hown, hlk, hW, -⟩ := hc
  exact W.widen h1 h2 (vx_ret (W.aret hex hb (hret.trans hr) (Or.inl ⟨n, rfl⟩) hv (mm_qc hp hR) hL hd hlk))
theorem ms_vret (hc : mm_C L G M θ) (hpc : mm_pc M j = pc) (hd : decode (mm_b M.1) pc = .ok (.return_, 1)) (hr : mm_r M.1 = none) (hp : PR none h) (h1 : cs ≤ MC) (h2 : sl ≤ MS) : mm_W L G M MC MS PR PX θ j l [] h cs sl := by
  subst hpc
  intro H locs ls hR hl hL
  obtain ⟨hF, hex, hb, -, hret, hown, hlk, hW, -⟩ := hc
  exact W.widen h1 h2 (vx_ret (W.vret hex hb (hret.trans hr) (mm_qc hp hR) hL hd hlk))
/-- what a callee throws goes on to the caller: a method without handlers -/
theorem ms_out {E : String} {ce : Cell} {q : Nat} {ls : Array Slot} {rest : List Value} {H : Heap} {locs : List Loc} (hc : mm_C L G M θ) (hh : (mm_hh M.1).isEmpty = true) (hp : PX E h) (h1 : cs ≤ MC) (h2 : sl ≤ MS) (hR : mm_R G h H) (hL : ∀ q ∈ locs, mm_A G q.base) (hce : H[q]? = some ce) (hcv : ce.vm = .none) (hcl : θ.2.2.1.vm.findClass E = some ce.cls) :
    vx_W θ.1 L θ.2.1 (mm_room M.1 MC MS) θ.2.2.1 θ.2.2.2.1 θ.2.2.2.2.1 θ.2.2.2.2.2.1 θ.2.2.2.2.2.2.1 θ.2.2.2.2.2.2.2 H locs cs sl (vx_MQ θ.2.2.2.2.2.1 (mm_Qc G PR) (mm_XC G PX) θ.2.2.2.2.1 θ.2.2.1 MC MS (mm_A G)) (F0 θ.2.2.2.1 pc ls rest) q := by
  obtain ⟨hF, hex, hb, -, hret, hown, hlk, hW, -, htab, -⟩ := hc
  refine vx_out (fun x hx => ?_) hlk hce hcv hcl (fun t ht _ => ⟨h, hp, by rw [ht]; exact hR⟩) hL h1 h2
  have e9 : M.1.2.2.2.2.1 = [] := List.isEmpty_iff.mp hh
  rw [htab, e9] at hx
  cases hx
/-- throw new E("text") -/
theorem ms_throw {E own tx : String} {ik is ic : Nat} (hc : mm_C L G M θ) (hpc : mm_pc M j = pc) (hown9 : own = M.2.1) (hh : (mm_hh M.1).isEmpty = true)
    (d0 : decode (mm_b M.1) pc = .ok (.new ik, 3)) (d3 : decode (mm_b M.1) (pc + 3) = .ok (.dup, 1))
    (dd : (decode (mm_b M.1) (pc + 4) = .ok (.ldc is, 2) ∧ decode (mm_b M.1) (pc + 6) = .ok (.invokespecial ic, 3) ∧ decode (mm_b M.1) (pc + 9) = .ok (.athrow, 1)) ∨ (decode (mm_b M.1) (pc + 4) = .ok (.ldc_w is, 3) ∧ decode (mm_b M.1) (pc + 7) = .ok (.invokespecial ic, 3) ∧ decode (mm_b M.1) (pc + 10) = .ok (.athrow, 1)))
    (hfit : Bundle.fit E = true) (hk : (Cond.classLink own ik E).before θ.2.2.2.2.1 θ.2.2.1 = true) (hini : (Cond.initialized E).before θ.2.2.2.2.1 θ.2.2.1 = true) (hstr : Cond.stringRef own is tx ∈ lw_tbl)
    (hat : ∀ w ∈ vx_atS own ic E ["java/lang/RuntimeException", "java/lang/Exception"], w.before θ.2.2.2.2.1 θ.2.2.1 = true)
    (hgood : ∀ w ∈ Cond.classLink own ik E :: Cond.initialized E :: vx_atS own ic E ["java/lang/RuntimeException", "java/lang/Exception"], vx_ot w = true)
    (hfr : 5 < mm_fr M.1) (hlo : 90 ≤ mm_lo M.1) (hw : Nat.ble (mm_words st) 8 = true) (h1 : cs + 1 ≤ MC) (h2 : sl + 6 ≤ MS) (hp : PX E h) : mm_W L G M MC MS PR PX θ j l st h cs sl := by
  subst hpc; subst hown9
  intro H locs ls hR hl hL T hT X
  obtain ⟨hF, hex, hb, hml, hret, hown, hlk, hW, -, htab, htr, ⟨hz0, hz1⟩, -⟩ := hc
  obtain ⟨sa, hsa⟩ := hF.2.2.2.2.2.1 _ _ _ hstr
  have hsz : θ.2.2.1.heap.size ≤ H.size := by
    have := X.same.2.1
    rw [← hT]
    exact this
  have hS : va_S (mm_A G) θ.2.2.1.heap H locs := ⟨hsz, fun q _ hq => by
    have hq' : q < G.1.heap.size := Nat.not_le.mp hq
    rw [hR.2.1 q hq', hz1 q hq'], hL⟩
  have kp : ∀ a : Nat, a < G.1.heap.size → ¬ mm_A G a → θ.2.2.1.heap[a]? = G.1.heap[a]? := fun a ha _ => hz1 a ha
  have hU := vx_Zq.moved hW.alike (vx_Zq.kept hF.2.2.2.2.1.1 kp)
  have hN := vx_Zq.moved hW.alike (vx_Zq.kept hF.2.2.2.2.1.2 kp)
  have hwl : (st.map fun v => v.category).sum ≤ 8 := Nat.le_of_ble_eq_true hw
  have hout : ∀ o, ∀ x ∈ θ.2.2.2.2.2.2.2.exceptionTable.toList, covers x o = false := fun o x hx => by
    have e9 : M.1.2.2.2.2.1 = [] := List.isEmpty_iff.mp hh
    rw [htab, e9] at hx
    cases hx
  have hxx : ∀ t : State, θ.2.2.1.vm.Alike t.vm → H.size ≤ t.heap.size → (∀ q : Nat, q < H.size → t.heap[q]? = H[q]?) → mm_XC G PX E θ.2.2.1 t := fun t _ hs ho =>
    ⟨h, hp, Nat.le_trans hR.1 hs, fun q hq => by rw [ho q (Nat.lt_of_lt_of_le hq hR.1)]; exact hR.2.1 q hq, fun a e he => ⟨(hR.2.2 a e he).1, va_at.kept (hR.2.2 a e he).2 (ho a (hR.2.2 a e he).2.lt)⟩⟩
  have hnm : ∀ n ∈ ["java/lang/RuntimeException", "java/lang/Exception"], Bundle.fit n = true := by decide +kernel
  rcases dd with ⟨d4, d6, d9⟩ | ⟨d4, d6, d9⟩
  · exact vx_throwS (XC := mm_XC G PX) hex hb htr hown hfit hnm hk hini (vk_R.warm hW hsa) hat hgood hU hN hS (hl.1.trans hml.symm) d0 d3 d4 d6 d9 (hout _) hfr (by show _ ≤ mm_lo M.1; simp only [List.length_cons, List.length_nil]; omega) h1 h2 hlk hxx hL h1 h2 T hT X
  · exact vx_throwSW (XC := mm_XC G PX) hex hb htr hown hfit hnm hk hini (vk_R.warm hW hsa) hat hgood hU hN hS (hl.1.trans hml.symm) d0 d3 d4 d6 d9 (hout _) hfr (by show _ ≤ mm_lo M.1; simp only [List.length_cons, List.length_nil]; omega) h1 h2 hlk hxx hL h1 h2 T hT X
/-- System.arraycopy of whole numbers -/
theorem ms_copy {t n0 n1 s0 d0 : Nat} {sp dp n : Int32} {f g : Nat → Int32} (hc : mm_C L G M θ) (hpc : mm_pc M j = pc) (hn : mm_pc M (j + 1) = pc + 3) (hd : decode (mm_b M.1) pc = .ok (.invokestatic k, 3))
    (ht : t = 0 ∨ t = 2 ∨ t = 3) (hlink : (Cond.methodLink M.2.1 k arraycopyName).before θ.2.2.2.2.1 θ.2.2.1 = true) (hnat : (Cond.native arraycopyName).before θ.2.2.2.2.1 θ.2.2.1 = true) (hstat : (Cond.static arraycopyName).before θ.2.2.2.2.1 θ.2.2.1 = true) (hini : (Cond.initialized "java/lang/System").before θ.2.2.2.2.1 θ.2.2.1 = true)
    (hfr : 1 ≤ mm_fr M.1) (hlo : 8 + (nativeFrameWords "java/lang/System" "arraycopy" 5 + 11) ≤ mm_lo M.1) (hw : Nat.ble (mm_words st) 8 = true)
    (ha0 : h s0 = some (.inl (mm_dA G t, n0, .inl f))) (ha1 : h d0 = some (.inl (mm_dA G t, n1, .inl g))) (h1 : ¬ sp < 0) (h2 : ¬ dp < 0) (h3 : ¬ n < 0) (h4 : sp.toNatClampNeg + n.toNatClampNeg ≤ n0) (h5 : dp.toNatClampNeg + n.toNatClampNeg ≤ n1) (hfit : ∀ i, i < n.toNatClampNeg → fits (mm_ty t) (.int (f (sp.toNatClampNeg + i))) = true)
    (kk : mm_W L G M MC MS PR PX θ (j + 1) l st (va_up h d0 (some (.inl (mm_dA G t, n1, .inl (va_cpy f g sp.toNatClampNeg dp.toNatClampNeg n.toNatClampNeg))))) cs sl) : mm_W L G M MC MS PR PX θ j l (.int n :: .int dp :: .ref d0 :: .int sp :: .ref s0 :: st) h cs sl := by
  obtain ⟨hF, hex, hb, hml, -, hown, -, hW, -⟩ := hc
  have ht10 : t < 10 := by omega
  have hprim : refKind (mm_ty t) = false := by rcases ht with rfl | rfl | rfl <;> rfl
  have nn : ∀ z : Int32, ¬ z < 0 → z.toInt = (z.toNatClampNeg : Int) := by
    intro z hz
    have hz0 : (0 : Int) ≤ z.toInt := by
      have := Int32.not_lt.mp hz
      simpa using Int32.le_iff_toInt_le.mp this
    show z.toInt = ((z.toInt.toNat : Nat) : Int)
    omega
  have hwl : (st.map fun v => v.category).sum ≤ 8 := Nat.le_of_ble_eq_true hw
  refine mm_put hpc hn kk ⟨_, ha1⟩ (fun H locs ls hR hl K => ?_)
  intro T hT X
  have hc0 : H[s0]? = some (vp_cell (mm_dA G t) (n0, .inl f)) := (hR.2.2 s0 _ ha0).2
  have hc1 : H[d0]? = some (vp_cell (mm_dA G t) (n1, .inl g)) := (hR.2.2 d0 _ ha1).2
  obtain ⟨-, k0, hk0, cm0, hkk0⟩ := mm_Ar hF hW ht10 n0 (fun j => .int (f j))
  obtain ⟨-, k1, hk1, cm1, hkk1⟩ := mm_Ar hF hW ht10 n1 (fun j => .int (g j))
  obtain ⟨vm', X', step⟩ := X.arraycopy hex hown hlink hnat hstat hini (src := s0) (dst := d0) (cs := vp_cell (mm_dA G t) (n0, .inl f)) (cd := vp_cell (mm_dA G t) (n1, .inl g)) (srcPos := sp) (destPos := dp) (n := n) (by rw [hT]; exact hc0) (by rw [hT]; exact hc1)
    (fun _ h => by cases h) (fun _ h => by cases h) (fun h => by cases h) (fun h => by cases h) hk0 hk1 hkk0 hkk1 (by simp [hprim]) h1 h2 h3
    (by rw [nn sp h1, nn n h3]; show ¬ _ > ((arrV (mm_dA G t) n0 (fun j => .int (f j))).slots.size : Int); rw [arrV_size]; omega)
    (by rw [nn dp h2, nn n h3]; show ¬ _ > ((arrV (mm_dA G t) n1 (fun j => .int (g j))).slots.size : Int); rw [arrV_size]; omega)
    (fun vm₁ _ i hi => by
      have e : (vp_cell (mm_dA G t) (n0, .inl f)).slots.getD (sp.toNatClampNeg + i) .null = .int (f (sp.toNatClampNeg + i)) := by
        show (arrV (mm_dA G t) n0 (fun j => .int (f j))).slots.getD _ _ = _
        rw [Array.getD_eq_getD_getElem?, arrV_read _ _ (by omega)]
        rfl
      refine ⟨?_, ?_⟩
      · rw [e]
        exact hfit i hi
      · rw [e]
        exact trivial)
    (g := F0 θ.2.2.2.1 pc ls (.int n :: .int dp :: .ref d0 :: .int sp :: .ref s0 :: st)) rfl (by rw [hml]; exact hl.1) (rest := st) rfl (by rw [hb]; exact hd) hfr (by show 2 * 0 + _ + _ ≤ mm_lo M.1; omega)
  have e1 : copied (vp_cell (mm_dA G t) (n0, .inl f)) (vp_cell (mm_dA G t) (n1, .inl g)) sp dp n = vp_cell (mm_dA G t) (n1, .inl (va_cpy f g sp.toNatClampNeg dp.toNatClampNeg n.toNatClampNeg)) := va_copied (fun z => .int z) (mm_dA G t) (mm_dA G t) f g h4
  rw [e1] at X' step
  have hlt : d0 < H.size := (Array.getElem?_eq_some_iff.mp hc1).1
  have hheap : ((T.setVm vm').setCell d0 (vp_cell (mm_dA G t) (n1, .inl (va_cpy f g sp.toNatClampNeg dp.toNatClampNeg n.toNatClampNeg)))).heap = H.setIfInBounds d0 (vp_cell (mm_dA G t) (n1, .inl (va_cpy f g sp.toNatClampNeg dp.toNatClampNeg n.toNatClampNeg))) := by rw [← hT]; rfl
  obtain ⟨t9, a1, b1⟩ := K _ _ (show (H.setIfInBounds d0 _)[d0]? = some _ by simp [Array.getElem?_setIfInBounds, hlt]) (by simp) (fun q hq => by simp [Array.getElem?_setIfInBounds, Ne.symm hq]) (fun q hq => by
      obtain ⟨z, -, hz⟩ := List.mem_map.mp hq
      rw [← hz]) _ hheap X'
  exact ⟨t9, step t9 a1, b1⟩
/-- an exception is caught by the method's own table -/
theorem ms_catch1 {E own : String} {ce : Cell} {q : Nat} {ls : Array Slot} {rest : List Value} {H : Heap} {locs : List Loc} {x : Nat × Nat × Nat × Nat} {pre suf : List (Nat × Nat × Nat × Nat)} (hc : mm_C L G M θ) (hown9 : own = M.2.1) (hh : mm_hh M.1 = pre ++ x :: suf)
    (hpass : ∀ z ∈ pre, z.2.2.2 ≠ 0 ∧ ∃ nm : String, (Cond.classLink own z.2.2.2 nm).before θ.2.2.2.2.1 θ.2.2.1 = true ∧ va_Nc E nm θ.2.2.1) (hcov : covers ⟨x.1, x.2.1, x.2.2.1, x.2.2.2⟩ pc = true) (h0 : x.2.2.2 ≠ 0)
    (hlink : (Cond.classLink own x.2.2.2 E).before θ.2.2.2.2.1 θ.2.2.1 = true) (hcast : (Cond.castable E E).before θ.2.2.2.2.1 θ.2.2.1 = true) (hce : H[q]? = some ce) (hcv : ce.vm = .none) (hcl : θ.2.2.1.vm.findClass E = some ce.cls)
    (kk : mm_WH L G M MC MS PR PX θ x.2.2.1 ls [.ref q] H locs cs sl) :
    vx_W θ.1 L θ.2.1 (mm_room M.1 MC MS) θ.2.2.1 θ.2.2.2.1 θ.2.2.2.2.1 θ.2.2.2.2.2.1 θ.2.2.2.2.2.2.1 θ.2.2.2.2.2.2.2 H locs cs sl (vx_MQ θ.2.2.2.2.2.1 (mm_Qc G PR) (mm_XC G PX) θ.2.2.2.2.1 θ.2.2.1 MC MS (mm_A G)) (F0 θ.2.2.2.1 pc ls rest) q := by
  subst hown9
  obtain ⟨hF, hex, hb, -, hret, hown, hlk, hW, -, htab, -⟩ := hc
  have e9 : M.1.2.2.2.2.1 = pre ++ x :: suf := hh
  refine vx_catch (pc := pc) hown (tableOf pre) ⟨x.1, x.2.1, x.2.2.1, x.2.2.2⟩ (tableOf suf) (htab.trans (e9.symm ▸ (by simp [tableOf]))) (fun z hz => ?_) hcov h0 hlink hcast hce hcv hcl kk
  obtain ⟨z', hz', rfl⟩ := List.mem_map.mp hz
  exact Or.inr (hpass z' hz')
end MSE
