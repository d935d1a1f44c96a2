section MSA
variable {L : Launch} {G : mmG} {M : mmM} {MC MS : Nat} {PR : Option Value → mmH → Prop} {PX : String → mmH → Prop} {θ : mmT} {j j' pc pc' len : Nat} {l l' : List (Nat × Value)} {st st' : List Value} {h h' : mmH} {cs sl cs' sl' : Nat}
theorem mm_cellI {H : Heap} {a n : Nat} {cA : ClassId} {f : Nat → Int32} (hR : mm_R G h H) (ha : h a = some (.inl (cA, n, .inl f))) : H[a]? = some (arrV cA n (fun j => .int (f j))) := (hR.2.2 a _ ha).2
theorem mm_cellL {H : Heap} {a n : Nat} {cA : ClassId} {f : Nat → Int64} (hR : mm_R G h H) (ha : h a = some (.inl (cA, n, .inr (.inl f)))) : H[a]? = some (arrV cA n (fun j => .long (f j))) := (hR.2.2 a _ ha).2
theorem mm_cellR {H : Heap} {a n : Nat} {cA : ClassId} {f : Nat → Option Nat} (hR : mm_R G h H) (ha : h a = some (.inl (cA, n, mm_inr f))) : H[a]? = some (arrV cA n (fun j => va_rf (f j))) := (hR.2.2 a _ ha).2
theorem mm_atI {a n : Nat} {cA : ClassId} {f : Nat → Int32} {H : Heap} (e : H[a]? = some (arrV cA n (fun j => .int (f j)))) : va_at (mm_D G) vwCl (a, .inl (cA, n, .inl f)) H := e
theorem mm_atLL {a n : Nat} {cA : ClassId} {f : Nat → Int64} {H : Heap} (e : H[a]? = some (arrV cA n (fun j => .long (f j)))) : va_at (mm_D G) vwCl (a, .inl (cA, n, .inr (.inl f))) H := e
theorem mm_atR {a n : Nat} {cA : ClassId} {f : Nat → Option Nat} {H : Heap} (e : H[a]? = some (arrV cA n (fun j => va_rf (f j)))) : va_at (mm_D G) vwCl (a, .inl (cA, n, mm_inr f)) H := e
theorem mm_in_lt {i : Int32} {n : Nat} (hin : vp_in i n) : i.toNatClampNeg < n := Nat.not_le.mp fun q => hin (Or.inr q)
theorem mm_upI (cA : ClassId) (n k : Nat) (f : Nat → Int32) (x : Int32) : arrV cA n (updV (fun j => .int (f j)) k (.int x)) = arrV cA n (fun j => .int (upd f k x j)) := by
  congr 1
  funext q
  by_cases hq : q = k
  · subst hq; simp [updV, upd]
  · simp [updV, upd, hq]
theorem mm_upL (cA : ClassId) (n k : Nat) (f : Nat → Int64) (x : Int64) : arrV cA n (updV (fun j => .long (f j)) k (.long x)) = arrV cA n (fun j => .long (vp_updL f k x j)) := by
  congr 1
  funext q
  by_cases hq : q = k
  · subst hq; simp [updV, vp_updL]
  · simp [updV, vp_updL, hq]
theorem mm_upR (cA : ClassId) (n k : Nat) (f : Nat → Option Nat) (x : Nat) : arrV cA n (updV (fun j => va_rf (f j)) k (.ref x)) = arrV cA n (fun j => va_rf (va_up f k (some x) j)) := by
  congr 1
  funext q
  by_cases hq : q = k
  · subst hq; simp [updV, va_up, va_rf]
  · simp [updV, va_up, hq]
theorem ms_iald {a n : Nat} {i : Int32} {f : Nat → Int32} (hc : mm_C L G M θ) (hpc : mm_pc M j = pc) (hn : mm_pc M (j + 1) = pc + 1) (hd : decode (mm_b M.1) pc = .ok (.iaload, 1)) (ha : h a = some (.inl (mm_dA G 0, n, .inl f))) (hin : vp_in i n)
    (kk : mm_W L G M MC MS PR PX θ (j + 1) l (.int (f i.toNatClampNeg) :: st) h cs sl) : mm_W L G M MC MS PR PX θ j l (.int i :: .ref a :: st) h cs sl := by
  obtain ⟨hF, hex, hb, -, -, hown, -, hW, -⟩ := hc
  refine mm_fall hpc hn kk (fun H locs ls hR _ K => ?_)
  exact W.iald (v := .int (f i.toNatClampNeg)) hex hb (mm_cellI hR ha) ((mm_Ar hF hW (k := 0) (by decide)) n (fun j => .int (f j))) (fun q => by cases q) (by rw [arrV_size]; exact hin) (by rw [arrV_read _ _ (mm_in_lt hin)]) rfl rfl hd K
theorem ms_sld {a : Nat} {i : Int32} (hc : mm_C L G M θ) (hpc : mm_pc M j = pc) (hn : mm_pc M (j + 1) = pc + 1) (hd : decode (mm_b M.1) pc = .ok (.iaload, 1)) (ha : a = G.2.2.2.2.1) (hin : vp_in i G.2.2.2.2.2.1)
    (kk : mm_W L G M MC MS PR PX θ (j + 1) l (.int (G.2.2.2.2.2.2 i.toNatClampNeg) :: st) h cs sl) : mm_W L G M MC MS PR PX θ j l (.int i :: .ref a :: st) h cs sl := by
  obtain ⟨hF, hex, hb, -, -, hown, -, hW, -⟩ := hc
  subst ha
  refine mm_fall hpc hn kk (fun H locs ls hR _ K => ?_)
  obtain ⟨⟨scr, h1, h2, h3, h4, h5⟩, hbl⟩ := hF.2.2.2.1
  exact W.iald (v := .int (G.2.2.2.2.2.2 i.toNatClampNeg)) hex hb (by rw [hR.2.1 _ hbl]; exact h1) (State.isArrayOf_alike hW.alike h2) h3 (by rw [h4]; exact hin) (h5 _ (mm_in_lt hin)) rfl rfl hd K
theorem ms_slen {a : Nat} (hc : mm_C L G M θ) (hpc : mm_pc M j = pc) (hn : mm_pc M (j + 1) = pc + 1) (hd : decode (mm_b M.1) pc = .ok (.arraylength, 1)) (ha : a = G.2.2.2.2.1)
    (kk : mm_W L G M MC MS PR PX θ (j + 1) l (.int (Int32.ofNat G.2.2.2.2.2.1) :: st) h cs sl) : mm_W L G M MC MS PR PX θ j l (.ref a :: st) h cs sl := by
  obtain ⟨hF, hex, hb, -, -, hown, -, hW, -⟩ := hc
  subst ha
  refine mm_fall hpc hn kk (fun H locs ls hR _ K => ?_)
  obtain ⟨⟨scr, h1, h2, h3, h4, h5⟩, hbl⟩ := hF.2.2.2.1
  exact W.alen (n := Int32.ofNat G.2.2.2.2.2.1) hex hb (by rw [hR.2.1 _ hbl]; exact h1) (State.isArrayOf_alike hW.alike h2) (by rw [h4] <;> rfl) rfl rfl hd K
theorem ms_alen {a k : Nat} {A : vp_A} (hc : mm_C L G M θ) (hpc : mm_pc M j = pc) (hn : mm_pc M (j + 1) = pc + 1) (hd : decode (mm_b M.1) pc = .ok (.arraylength, 1)) (ha : h a = some (.inl (mm_dA G k, A))) (hk : k < 10)
    (kk : mm_W L G M MC MS PR PX θ (j + 1) l (.int (Int32.ofNat A.1) :: st) h cs sl) : mm_W L G M MC MS PR PX θ j l (.ref a :: st) h cs sl := by
  obtain ⟨hF, hex, hb, -, -, hown, -, hW, -⟩ := hc
  refine mm_fall hpc hn kk (fun H locs ls hR _ K => ?_)
  have hcell := (hR.2.2 a _ ha).2
  have hA := mm_Ar hF hW hk
  obtain ⟨n, f | f | f | f | f⟩ := A
  · exact W.alen (n := Int32.ofNat n) hex hb hcell (hA n (fun j => .int (f j))) (by rw [vp_cell_i, arrV_size] <;> rfl) rfl rfl hd K
  · exact W.alen (n := Int32.ofNat n) hex hb hcell (hA n (fun j => .long (f j))) (by rw [vp_cell_l, arrV_size] <;> rfl) rfl rfl hd K
  · exact W.alen (n := Int32.ofNat n) hex hb hcell (hA n (fun j => .float (f j))) (by rw [vp_cell_f, arrV_size] <;> rfl) rfl rfl hd K
  · exact W.alen (n := Int32.ofNat n) hex hb hcell (hA n (fun j => .double (f j))) (by rw [vp_cell_d, arrV_size] <;> rfl) rfl rfl hd K
  · exact W.alen (n := Int32.ofNat n) hex hb hcell (hA n (fun j => va_rf (f j))) (by rw [vp_cell_q, arrV_size] <;> rfl) rfl rfl hd K
theorem ms_sald {a n : Nat} {i : Int32} {f : Nat → Int32} (hc : mm_C L G M θ) (hpc : mm_pc M j = pc) (hn : mm_pc M (j + 1) = pc + 1) (hd : decode (mm_b M.1) pc = .ok (.saload, 1)) (ha : h a = some (.inl (mm_dA G 3, n, .inl f))) (hin : vp_in i n)
    (kk : mm_W L G M MC MS PR PX θ (j + 1) l (.int (f i.toNatClampNeg) :: st) h cs sl) : mm_W L G M MC MS PR PX θ j l (.int i :: .ref a :: st) h cs sl := by
  obtain ⟨hF, hex, hb, -, -, hown, -, hW, -⟩ := hc
  refine mm_fall hpc hn kk (fun H locs ls hR _ K => ?_)
  exact W.sald (v := .int (f i.toNatClampNeg)) hex hb (mm_cellI hR ha) ((mm_Ar hF hW (k := 3) (by decide)) n (fun j => .int (f j))) (fun q => by cases q) (by rw [arrV_size]; exact hin) (by rw [arrV_read _ _ (mm_in_lt hin)]) rfl rfl hd K
theorem ms_bald {a n : Nat} {i : Int32} {f : Nat → Int32} (hc : mm_C L G M θ) (hpc : mm_pc M j = pc) (hn : mm_pc M (j + 1) = pc + 1) (hd : decode (mm_b M.1) pc = .ok (.baload, 1)) (ha : h a = some (.inl (mm_dA G 2, n, .inl f))) (hin : vp_in i n)
    (kk : mm_W L G M MC MS PR PX θ (j + 1) l (.int (f i.toNatClampNeg) :: st) h cs sl) : mm_W L G M MC MS PR PX θ j l (.int i :: .ref a :: st) h cs sl := by
  obtain ⟨hF, hex, hb, -, -, hown, -, hW, -⟩ := hc
  refine mm_fall hpc hn kk (fun H locs ls hR _ K => ?_)
  exact W.bald (v := .int (f i.toNatClampNeg)) hex hb (mm_cellI hR ha) ((mm_Ar hF hW (k := 2) (by decide)) n (fun j => .int (f j))) (fun q => by cases q) (by rw [arrV_size]; exact hin) (by rw [arrV_read _ _ (mm_in_lt hin)]) rfl rfl hd K
theorem ms_zald {a n : Nat} {i : Int32} {f : Nat → Int32} (hc : mm_C L G M θ) (hpc : mm_pc M j = pc) (hn : mm_pc M (j + 1) = pc + 1) (hd : decode (mm_b M.1) pc = .ok (.baload, 1)) (ha : h a = some (.inl (mm_dA G 4, n, .inl f))) (hin : vp_in i n)
    (kk : mm_W L G M MC MS PR PX θ (j + 1) l (.int (f i.toNatClampNeg) :: st) h cs sl) : mm_W L G M MC MS PR PX θ j l (.int i :: .ref a :: st) h cs sl := by
  obtain ⟨hF, hex, hb, -, -, hown, -, hW, -⟩ := hc
  refine mm_fall hpc hn kk (fun H locs ls hR _ K => ?_)
  exact W.zald (v := .int (f i.toNatClampNeg)) hex hb (mm_cellI hR ha) ((mm_Ar hF hW (k := 4) (by decide)) n (fun j => .int (f j))) (fun q => by cases q) (by rw [arrV_size]; exact hin) (by rw [arrV_read _ _ (mm_in_lt hin)]) rfl rfl hd K
theorem ms_lald {a n : Nat} {i : Int32} {f : Nat → Int64} (hc : mm_C L G M θ) (hpc : mm_pc M j = pc) (hn : mm_pc M (j + 1) = pc + 1) (hd : decode (mm_b M.1) pc = .ok (.laload, 1)) (ha : h a = some (.inl (mm_dA G 1, n, .inr (.inl f)))) (hin : vp_in i n)
    (kk : mm_W L G M MC MS PR PX θ (j + 1) l (.long (f i.toNatClampNeg) :: st) h cs sl) : mm_W L G M MC MS PR PX θ j l (.int i :: .ref a :: st) h cs sl := by
  obtain ⟨hF, hex, hb, -, -, hown, -, hW, -⟩ := hc
  refine mm_fall hpc hn kk (fun H locs ls hR _ K => ?_)
  exact W.lald (v := .long (f i.toNatClampNeg)) hex hb (mm_cellL hR ha) ((mm_Ar hF hW (k := 1) (by decide)) n (fun j => .long (f j))) (fun q => by cases q) (by rw [arrV_size]; exact hin) (by rw [arrV_read _ _ (mm_in_lt hin)]) rfl rfl hd K
theorem mm_tyr {x : Nat} (h : x < 5) : mm_ty (5 + x) = .object (mm_cn x) := by
  match x, h with
  | 0, _ => rfl
  | 1, _ => rfl
  | 2, _ => rfl
  | 3, _ => rfl
  | 4, _ => rfl
theorem ms_aald {a n x : Nat} {i : Int32} {f : Nat → Option Nat} (hc : mm_C L G M θ) (hpc : mm_pc M j = pc) (hn : mm_pc M (j + 1) = pc + 1) (hd : decode (mm_b M.1) pc = .ok (.aaload, 1)) (hx : x < 10) (hx2 : 4 < x) (ha : h a = some (.inl (mm_dA G x, n, mm_inr f))) (hin : vp_in i n)
    (kk : mm_W L G M MC MS PR PX θ (j + 1) l (va_rf (f i.toNatClampNeg) :: st) h cs sl) : mm_W L G M MC MS PR PX θ j l (.int i :: .ref a :: st) h cs sl := by
  obtain ⟨hF, hex, hb, -, -, hown, -, hW, -⟩ := hc
  refine mm_fall hpc hn kk (fun H locs ls hR _ K => ?_)
  have hT : (mm_ty x).isReference = true := by
    obtain ⟨y, rfl⟩ : ∃ y, x = 5 + y := ⟨x - 5, by omega⟩
    rw [mm_tyr (by omega)]
    rfl
  exact W.aald (v := va_rf (f i.toNatClampNeg)) (ty := mm_ty x) hex hb (mm_cellR hR ha) ((mm_Ar hF hW hx) n (fun j => va_rf (f j))) hT (fun q => by cases q) (by rw [arrV_size]; exact hin) (by rw [arrV_read _ _ (mm_in_lt hin)]) rfl rfl hd K
theorem ms_iast {a n : Nat} {i v : Int32} {f : Nat → Int32} (hc : mm_C L G M θ) (hpc : mm_pc M j = pc) (hn : mm_pc M (j + 1) = pc + 1) (hd : decode (mm_b M.1) pc = .ok (.iastore, 1)) (ha : h a = some (.inl (mm_dA G 0, n, .inl f))) (hin : vp_in i n)
    (kk : mm_W L G M MC MS PR PX θ (j + 1) l st (va_up h a (some (.inl (mm_dA G 0, n, .inl (upd f i.toNatClampNeg v))))) cs sl) : mm_W L G M MC MS PR PX θ j l (.int v :: .int i :: .ref a :: st) h cs sl := by
  obtain ⟨hF, hex, hb, -, -, hown, -, hW, -⟩ := hc
  refine mm_put hpc hn kk ⟨_, ha⟩ (fun H locs ls hR _ K => ?_)
  refine W.iast hex hb (mm_cellI hR ha) ((mm_Ar hF hW (k := 0) (by decide)) n (fun j => .int (f j))) (fun q => by cases q) (by rw [arrV_size]; exact hin) rfl rfl hd fun H1 e z oq => ?_
  refine K H1 _ ?_ z oq (fun q hq => by rw [List.mem_singleton.mp hq])
  exact mm_atI (by rw [e, arrV_store, mm_upI])
theorem ms_sast {a n : Nat} {i v : Int32} {f : Nat → Int32} (hc : mm_C L G M θ) (hpc : mm_pc M j = pc) (hn : mm_pc M (j + 1) = pc + 1) (hd : decode (mm_b M.1) pc = .ok (.sastore, 1)) (ha : h a = some (.inl (mm_dA G 3, n, .inl f))) (hin : vp_in i n)
    (kk : mm_W L G M MC MS PR PX θ (j + 1) l st (va_up h a (some (.inl (mm_dA G 3, n, .inl (upd f i.toNatClampNeg (vp_nar .short v)))))) cs sl) : mm_W L G M MC MS PR PX θ j l (.int v :: .int i :: .ref a :: st) h cs sl := by
  obtain ⟨hF, hex, hb, -, -, hown, -, hW, -⟩ := hc
  refine mm_put hpc hn kk ⟨_, ha⟩ (fun H locs ls hR _ K => ?_)
  refine W.sast hex hb (mm_cellI hR ha) ((mm_Ar hF hW (k := 3) (by decide)) n (fun j => .int (f j))) (fun q => by cases q) (by rw [arrV_size]; exact hin) rfl rfl hd fun H1 e z oq => ?_
  refine K H1 _ ?_ z oq (fun q hq => by rw [List.mem_singleton.mp hq])
  exact mm_atI (by rw [e, arrV_store]; exact congrArg some (mm_upI _ _ _ _ _))
theorem ms_bast {a n : Nat} {i v : Int32} {f : Nat → Int32} (hc : mm_C L G M θ) (hpc : mm_pc M j = pc) (hn : mm_pc M (j + 1) = pc + 1) (hd : decode (mm_b M.1) pc = .ok (.bastore, 1)) (ha : h a = some (.inl (mm_dA G 2, n, .inl f))) (hin : vp_in i n)
    (kk : mm_W L G M MC MS PR PX θ (j + 1) l st (va_up h a (some (.inl (mm_dA G 2, n, .inl (upd f i.toNatClampNeg (vp_nar .byte v)))))) cs sl) : mm_W L G M MC MS PR PX θ j l (.int v :: .int i :: .ref a :: st) h cs sl := by
  obtain ⟨hF, hex, hb, -, -, hown, -, hW, -⟩ := hc
  refine mm_put hpc hn kk ⟨_, ha⟩ (fun H locs ls hR _ K => ?_)
  refine W.bast hex hb (mm_cellI hR ha) ((mm_Ar hF hW (k := 2) (by decide)) n (fun j => .int (f j))) (fun q => by cases q) (by rw [arrV_size]; exact hin) rfl rfl hd fun H1 e z oq => ?_
  refine K H1 _ ?_ z oq (fun q hq => by rw [List.mem_singleton.mp hq])
  exact mm_atI (by rw [e, arrV_store]; exact congrArg some (mm_upI _ _ _ _ _))
theorem ms_zast {a n : Nat} {i v : Int32} {f : Nat → Int32} (hc : mm_C L G M θ) (hpc : mm_pc M j = pc) (hn : mm_pc M (j + 1) = pc + 1) (hd : decode (mm_b M.1) pc = .ok (.bastore, 1)) (ha : h a = some (.inl (mm_dA G 4, n, .inl f))) (hin : vp_in i n)
    (kk : mm_W L G M MC MS PR PX θ (j + 1) l st (va_up h a (some (.inl (mm_dA G 4, n, .inl (upd f i.toNatClampNeg (vp_nar .boolean v)))))) cs sl) : mm_W L G M MC MS PR PX θ j l (.int v :: .int i :: .ref a :: st) h cs sl := by
  obtain ⟨hF, hex, hb, -, -, hown, -, hW, -⟩ := hc
  refine mm_put hpc hn kk ⟨_, ha⟩ (fun H locs ls hR _ K => ?_)
  refine W.zast hex hb (mm_cellI hR ha) ((mm_Ar hF hW (k := 4) (by decide)) n (fun j => .int (f j))) (fun q => by cases q) (by rw [arrV_size]; exact hin) rfl rfl hd fun H1 e z oq => ?_
  refine K H1 _ ?_ z oq (fun q hq => by rw [List.mem_singleton.mp hq])
  exact mm_atI (by rw [e, arrV_store]; exact congrArg some (mm_upI _ _ _ _ _))
theorem ms_last {a n : Nat} {i : Int32} {v : Int64} {f : Nat → Int64} (hc : mm_C L G M θ) (hpc : mm_pc M j = pc) (hn : mm_pc M (j + 1) = pc + 1) (hd : decode (mm_b M.1) pc = .ok (.lastore, 1)) (ha : h a = some (.inl (mm_dA G 1, n, .inr (.inl f)))) (hin : vp_in i n)
    (kk : mm_W L G M MC MS PR PX θ (j + 1) l st (va_up h a (some (.inl (mm_dA G 1, n, .inr (.inl (vp_updL f i.toNatClampNeg v)))))) cs sl) : mm_W L G M MC MS PR PX θ j l (.long v :: .int i :: .ref a :: st) h cs sl := by
  obtain ⟨hF, hex, hb, -, -, hown, -, hW, -⟩ := hc
  refine mm_put hpc hn kk ⟨_, ha⟩ (fun H locs ls hR _ K => ?_)
  refine W.last hex hb (mm_cellL hR ha) ((mm_Ar hF hW (k := 1) (by decide)) n (fun j => .long (f j))) (fun q => by cases q) (by rw [arrV_size]; exact hin) rfl rfl hd fun H1 e z oq => ?_
  refine K H1 _ ?_ z oq (fun q hq => by rw [List.mem_singleton.mp hq])
  exact mm_atLL (by rw [e, arrV_store, mm_upL])
theorem ms_aast {a n v x : Nat} {i : Int32} {f : Nat → Option Nat} {fs : List Value} (hc : mm_C L G M θ) (hpc : mm_pc M j = pc) (hn : mm_pc M (j + 1) = pc + 1) (hd : decode (mm_b M.1) pc = .ok (.aastore, 1)) (hx : x < 5) (ha : h a = some (.inl (mm_dA G (5 + x), n, mm_inr f))) (hv : h v = some (.inr (x, fs))) (hin : vp_in i n)
    (kk : mm_W L G M MC MS PR PX θ (j + 1) l st (va_up h a (some (.inl (mm_dA G (5 + x), n, mm_inr (va_up f i.toNatClampNeg (some v)))))) cs sl) : mm_W L G M MC MS PR PX θ j l (.ref v :: .int i :: .ref a :: st) h cs sl := by
  obtain ⟨hF, hex, hb, -, -, hown, -, hW, -⟩ := hc
  refine mm_put hpc hn kk ⟨_, ha⟩ (fun H locs ls hR _ K => ?_)
  have h0 : ¬ i < 0 := fun q => hin (Or.inl q)
  obtain ⟨-, r', hr', cellV, g1, g2, g3, -⟩ := hR.2.2 v _ hv
  have hcls := (mm_Kn hF hW (c := x) (by omega)).2
  have hRA := mm_RAr hF hW (k := 5 + x) (by omega)
  rw [mm_tyr hx] at hRA
  obtain ⟨kA, comp, k1, k2, k3, -⟩ := hRA
  have hcomp : comp = (mm_D G).1 x := Option.some.inj (k3.symm.trans hcls.1)
  subst hcomp
  obtain ⟨kC, hkC, -⟩ := id hcls.2
  refine W.aast hex hb (mm_cellR hR ha) (fun q h => by cases h) (fun h => by cases h) k1 k2 rfl hkC ⟨h0, by rw [arrV_size]; exact mm_in_lt hin⟩ g1 (fun q h => by rw [g3] at h; cases h) (by rw [g2]; exact hkC) (by rw [g2]; exact va_assign hcls) rfl rfl hd fun H1 e z oq => ?_
  refine K H1 _ ?_ z oq (fun q hq => by rw [List.mem_singleton.mp hq])
  exact mm_atR (by rw [e, arrV_store, mm_upR])
theorem ms_newa {x : Nat} {n : Int32} {at_ : ClassFile.ArrayType} (hc : mm_C L G M θ) (hpc : mm_pc M j = pc) (hn : mm_pc M (j + 1) = pc + 2) (hd : decode (mm_b M.1) pc = .ok (.newarray at_, 2)) (hx : mm_atype at_ = x) (hx5 : x < 5) (hw : (Cond.arrayClass (mm_ty x)).before θ.2.2.2.2.1 θ.2.2.1 = true)
    (h1 : ¬ n < 0) (h2 : n.toNatClampNeg ≤ 67108864) (h3 : cs + 1 ≤ MC) (h4 : sl + n.toNatClampNeg ≤ MS)
    (kk : ∀ a : Nat, h a = none → mm_A G a → mm_W L G M MC MS PR PX θ (j + 1) l (.ref a :: st) (va_up h a (some (.inl (mm_dA G x, mm_zero x n.toNatClampNeg)))) (cs + 1) (sl + n.toNatClampNeg)) : mm_W L G M MC MS PR PX θ j l (.int n :: st) h cs sl := by
  obtain ⟨hF, hex, hb, -, -, hown, -, hW, -⟩ := hc
  have hty : newarray.typeOf at_ = mm_ty x := by
    subst hx
    cases at_ <;> first | rfl | exact absurd hx5 (by decide)
  refine mm_make hpc hn kk (fun H locs ls hR K => ?_)
  refine va_newaK hex hb (by rw [hty]; exact hw) rfl hd rfl h1 rfl (by
    have : componentBytes (newarray.typeOf at_) ≤ 8 := by cases at_ <;> decide
    calc n.toNatClampNeg * componentBytes (newarray.typeOf at_) ≤ 67108864 * 8 := Nat.mul_le_mul h2 this
      _ ≤ 536870912 := by decide) h3 h4 rfl fun H1 cA e1 z1 o1 hAr hNm => ?_
  have hcA : cA = mm_dA G x := by
    have h9 := mm_RAr hF hW (k := x) (by omega)
    rw [hty] at hNm
    subst hx
    cases at_ <;> first | exact Option.some.inj (hNm.symm.trans h9) | exact absurd hx5 (by decide)
  subst hcA
  refine K H1 ?_ z1 o1
  show H1[H.size]? = some (vp_cell _ _)
  rw [e1, hty]
  congr 1
  match x, hx5 with
  | 0, _ => rfl
  | 1, _ => rfl
  | 2, _ => rfl
  | 3, _ => rfl
  | 4, _ => rfl
theorem ms_anew {x k : Nat} {n : Int32} (hc : mm_C L G M θ) (hpc : mm_pc M j = pc) (hn : mm_pc M (j + 1) = pc + 3) (hd : decode (mm_b M.1) pc = .ok (.anewarray k, 3)) (hx5 : x < 5) (hw : (Cond.classLink M.2.1 k (mm_cn x)).before θ.2.2.2.2.1 θ.2.2.1 = true) (hv : Cond.arrayOver (.object (mm_cn x)) ∈ lw_tbl)
    (h1 : ¬ n < 0) (h2 : n.toNatClampNeg ≤ 67108864) (h3 : cs + 1 ≤ MC) (h4 : sl + n.toNatClampNeg ≤ MS)
    (kk : ∀ a : Nat, h a = none → mm_A G a → mm_W L G M MC MS PR PX θ (j + 1) l (.ref a :: st) (va_up h a (some (.inl (mm_dA G (5 + x), n.toNatClampNeg, mm_inr (fun _ => none))))) (cs + 1) (sl + n.toNatClampNeg)) : mm_W L G M MC MS PR PX θ j l (.int n :: st) h cs sl := by
  obtain ⟨hF, hex, hb, -, -, hown, -, hW, -⟩ := hc
  have hover : va_AO (mm_cn x) θ.2.2.1 := va_AO.moved hW.alike (va_AO.of (hF.1 _ hv))
  refine mm_make hpc hn kk (fun H locs ls hR K => ?_)
  refine W.anew hex hb hown hw (va_AO.use hover) rfl hd rfl h1 (by omega) h3 h4 fun cA kA comp f1 f2 f3 f4 => ?_
  have hRA := mm_RAr hF hW (k := 5 + x) (by omega)
  rw [mm_tyr hx5] at hRA
  obtain ⟨-, -, -, -, -, h9⟩ := hRA
  have hcA : cA = mm_dA G (5 + x) := Option.some.inj (f1.symm.trans h9)
  subst hcA
  refine K _ ?_ (by rw [Array.size_push]) (fun q hq => by rw [Array.getElem?_push, if_neg (Nat.ne_of_lt hq)])
  exact mm_atR (by rw [Array.getElem?_push_size]; exact congrArg some (arrV_new _ _ _))
theorem ms_new {x k : Nat} (hc : mm_C L G M θ) (hpc : mm_pc M j = pc) (hn : mm_pc M (j + 1) = pc + 3) (hd : decode (mm_b M.1) pc = .ok (.new k, 3)) (hx : x < 7) (hw : (Cond.classLink M.2.1 k (mm_cn x)).before θ.2.2.2.2.1 θ.2.2.1 = true) (hi : (Cond.instantiable (mm_cn x) (mm_N x)).before θ.2.2.2.2.1 θ.2.2.1 = true) (hz : (Cond.initialized (mm_cn x)).before θ.2.2.2.2.1 θ.2.2.1 = true)
    (h3 : cs + 1 ≤ MC) (h4 : sl + mm_N x ≤ MS)
    (kk : ∀ a : Nat, h a = none → mm_A G a → mm_W L G M MC MS PR PX θ (j + 1) l (.ref a :: st) (va_up h a (some (.inr (x, mm_blank x)))) (cs + 1) (sl + mm_N x)) : mm_W L G M MC MS PR PX θ j l st h cs sl := by
  obtain ⟨hF, hex, hb, -, -, hown, -, hW, -⟩ := hc
  have hKn := mm_Kn hF hW hx
  refine mm_make hpc hn kk (fun H locs ls hR K => ?_)
  refine W.newcK hex hb hown hw hi hz rfl hd h3 h4 hKn.2.1 rfl fun H1 kC hkC e1 z1 o1 => ?_
  refine K H1 ?_ z1 o1
  exact ⟨_, mm_cl hx, (u_born (mm_tf x) (mm_wins (args := θ.2.2.2.2.1) hF hW hx) (fun _ h => h) hKn hkC e1 (mm_tok hx)).to (mm_blank_ok x)⟩
end MSA
