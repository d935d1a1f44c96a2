theorem mm_noX {l : Launch} {y : MethodName} {ws : List Cond} {rm : Room} {Pc : Array Value → State → Prop} {Qc : Array Value → State → Outcome → State → Prop} {XC : String → State → State → Prop} {mc ms : Nat} {free : Addr → Prop} (hM : vx_Met l y ws rm Pc Qc XC mc ms free) (hx : ∀ E st t, XC E st t → False) : Met l y ws rm Pc Qc mc ms free := by
  intro p e ha hc hk s m args below hf happ hP hK
  obtain ⟨n, o, h1, h2, h3, hq⟩ := hM p e ha hc hk s m args below hf happ hP hK
  refine ⟨n, o, h1, h2, h3, ?_⟩
  rcases hq with hq | ⟨q, -, E, ce, Ls, hxx, -⟩
  · exact hq
  · exact (hx _ _ _ hxx).elim
theorem mm_at_has {ls : Array Slot} {nL : Nat} : ∀ {l : List (Nat × Value)} {k : Nat} {v : Value}, (∀ q ∈ l, ls[q.1]? = some (Slot.val q.2)) → mm_at l k = some v → ls[k]? = some (.val v) := by
  intro l
  induction l with
  | nil => intro k v _ h; simp [mm_at] at h
  | cons a r ih =>
    intro k v hl h
    obtain ⟨i, u⟩ := a
    simp only [mm_at] at h
    split at h
    · rename_i hb
      cases h
      have : i = k := Nat.eq_of_beq_eq_true hb
      subst this
      exact hl (_, _) List.mem_cons_self
    · exact ih (fun q hq => hl q (List.mem_cons_of_mem _ hq)) h
theorem mm_atL {ls : Array Slot} {nL k : Nat} {l : List (Nat × Value)} {v : Value} (h : lv_has ls nL l) (hk : mm_at l k = some v) : ls[k]? = some (.val v) := mm_at_has (nL := nL) h.2.2 hk
section MSB
variable {p : Program} {L : Launch} {e : Env} {R : Room} {s : State} {m : MethodId} {args : Array Value} {below : List Frame} {meth : Method} {c : Code} {H : Heap} {locs : List Loc} {cs sl mc ms : Nat} {Q : State → Prop} {G : mmG} {pc : Nat} {ls : Array Slot} {st0 rest : List Value} {av : Array Value} {PR : Option Value → mmH → Prop} {PX : String → mmH → Prop}
theorem ms_back (hr : vx_Run p L e R s m args below meth c H locs cs sl mc ms (F0 m pc ls st0) rest (mm_Qc G PR av) (mm_XC G PX) (mm_A G)) (hL : ∀ q ∈ locs, mm_A G q.base)
    (kr : ∀ (v : Option Value) (h : mmH), PR v h → ∀ (H1 : Heap) (locs1 : List Loc), mm_R G h H1 → (∀ q ∈ locs1, mm_A G q.base) → W p L e R s m args below meth c H1 locs1 (cs + mc) (sl + ms) Q (F0 m (pc + 3) ls (v.toList ++ rest)))
    (kx : ∀ (E : String) (h : mmH), PX E h → ∀ (H1 : Heap) (locs1 : List Loc) (q : Nat) (ce : Cell), mm_R G h H1 → (∀ q ∈ locs1, mm_A G q.base) → H1[q]? = some ce → ce.vm = .none → s.vm.findClass E = some ce.cls → vx_W p L e R s m args below meth c H1 locs1 (cs + mc) (sl + ms) Q (F0 m pc ls rest) q) :
    W p L e R s m args below meth c H locs cs sl Q (F0 m pc ls st0) := by
  intro T hT X
  have app : ∀ {Lc : List Loc}, (∀ q ∈ Lc, mm_A G q.base) → ∀ q ∈ locs ++ Lc, mm_A G q.base := fun hx q hq => (List.mem_append.mp hq).elim (hL q) (hx q)
  rcases hr T hT X with ⟨v, st₀, t, T', Lc, h0, X', hLc, e1, e2, ⟨v', h', hv, hp, hR⟩, st⟩ | ⟨q, st₀, t, T', Lc, E, ce, h0, X', hLc, e1, e2, ⟨h', hp, hR⟩, hce, hcv, hcl, st⟩
  · cases hv
    obtain ⟨t2, a1, b1⟩ := kr v h' hp T'.heap (locs ++ Lc) (by rw [e1]; exact hR) (app hLc) T' rfl X'
    exact ⟨t2, st t2 a1, b1⟩
  · obtain ⟨t2, a1, b1⟩ := kx E h' hp T'.heap (locs ++ Lc) q ce (by rw [e1]; exact hR) (app hLc) (by rw [e1]; exact hce) hcv hcl T' rfl X'
    exact ⟨t2, st.trans a1, b1⟩
theorem ms_backN (hr : va_Run p L e R s m args below meth c H locs cs sl mc ms (F0 m pc ls st0) rest (mm_Qc G PR av) (mm_A G)) (hL : ∀ q ∈ locs, mm_A G q.base)
    (kr : ∀ (v : Option Value) (h : mmH), PR v h → ∀ (H1 : Heap) (locs1 : List Loc), mm_R G h H1 → (∀ q ∈ locs1, mm_A G q.base) → W p L e R s m args below meth c H1 locs1 (cs + mc) (sl + ms) Q (F0 m (pc + 3) ls (v.toList ++ rest))) :
    W p L e R s m args below meth c H locs cs sl Q (F0 m pc ls st0) := by
  intro T hT X
  have app : ∀ {Lc : List Loc}, (∀ q ∈ Lc, mm_A G q.base) → ∀ q ∈ locs ++ Lc, mm_A G q.base := fun hx q hq => (List.mem_append.mp hq).elim (hL q) (hx q)
  obtain ⟨v, st₀, t, T', Lc, h0, X', hLc, e1, e2, ⟨v', h', hv, hp, hR⟩, st⟩ := hr T hT X
  cases hv
  obtain ⟨t2, a1, b1⟩ := kr v h' hp T'.heap (locs ++ Lc) (by rw [e1]; exact hR) (app hLc) T' rfl X'
  exact ⟨t2, st t2 a1, b1⟩
end MSB
section MSS
variable {L : Launch} {G : mmG} {M : mmM} {MC MS : Nat} {PR : Option Value → mmH → Prop} {PX : String → mmH → Prop} {θ : mmT} {j j' pc pc' len : Nat} {l l' : List (Nat × Value)} {st st' : List Value} {h h' : mmH} {cs sl cs' sl' : Nat}
/-- the machine at this pc -/
abbrev mm_WH (L : Launch) (G : mmG) (M : mmM) (MC MS : Nat) (PR : Option Value → mmH → Prop) (PX : String → mmH → Prop) (θ : mmT) (pc : Nat) (ls : Array Slot) (st : List Value) (H : Heap) (locs : List Loc) (cs sl : Nat) : Prop :=
  W θ.1 L θ.2.1 (mm_room M.1 MC MS) θ.2.2.1 θ.2.2.2.1 θ.2.2.2.2.1 θ.2.2.2.2.2.1 θ.2.2.2.2.2.2.1 θ.2.2.2.2.2.2.2 H locs cs sl
      (vx_MQ θ.2.2.2.2.2.1 (mm_Qc G PR) (mm_XC G PX) θ.2.2.2.2.1 θ.2.2.1 MC MS (mm_A G)) (F0 θ.2.2.2.1 pc ls st)
theorem mm_use (k : mm_W L G M MC MS PR PX θ j l st h cs sl) (hpc : mm_pc M j = pc) {H : Heap} {locs : List Loc} {ls : Array Slot} (hR : mm_R G h H) (hl : lv_has ls (mm_nL M.1) l) (hL : ∀ q ∈ locs, mm_A G q.base) : mm_WH L G M MC MS PR PX θ pc ls st H locs cs sl := by
  subst hpc
  exact k H locs ls hR hl hL
theorem mm_fall (hpc : mm_pc M j = pc) (hn : mm_pc M j' = pc') (k : mm_W L G M MC MS PR PX θ j' l st' h cs sl)
    (row : ∀ (H : Heap) (locs : List Loc) (ls : Array Slot), mm_R G h H → lv_has ls (mm_nL M.1) l → mm_WH L G M MC MS PR PX θ pc' ls st' H locs cs sl → mm_WH L G M MC MS PR PX θ pc ls st H locs cs sl) : mm_W L G M MC MS PR PX θ j l st h cs sl := by
  subst hpc; subst hn
  intro H locs ls hR hl hL
  exact row H locs ls hR hl (k H locs ls hR hl hL)
theorem mm_store (hpc : mm_pc M j = pc) (hn : mm_pc M j' = pc') (k : mm_W L G M MC MS PR PX θ j' l' st' h cs sl)
    (row : ∀ (H : Heap) (locs : List Loc) (ls : Array Slot), lv_has ls (mm_nL M.1) l → (∀ ls', lv_has ls' (mm_nL M.1) l' → mm_WH L G M MC MS PR PX θ pc' ls' st' H locs cs sl) → mm_WH L G M MC MS PR PX θ pc ls st H locs cs sl) : mm_W L G M MC MS PR PX θ j l st h cs sl := by
  subst hpc; subst hn
  intro H locs ls hR hl hL
  exact row H locs ls hl (fun ls' hl' => k H locs ls' hR hl' hL)
theorem mm_put {a : Nat} {e : va_E} (hpc : mm_pc M j = pc) (hn : mm_pc M j' = pc') (k : mm_W L G M MC MS PR PX θ j' l st' (va_up h a (some e)) cs sl) (hea : ∃ e0, h a = some e0)
    (row : ∀ (H : Heap) (locs : List Loc) (ls : Array Slot), mm_R G h H → lv_has ls (mm_nL M.1) l → (∀ (H1 : Heap) (L1 : List Loc), va_at (mm_D G) vwCl (a, e) H1 → H1.size = H.size → (∀ q, q ≠ a → H1[q]? = H[q]?) → (∀ q ∈ L1, q.base = a) → mm_WH L G M MC MS PR PX θ pc' ls st' H1 (locs ++ L1) cs sl) → mm_WH L G M MC MS PR PX θ pc ls st H locs cs sl) : mm_W L G M MC MS PR PX θ j l st h cs sl := by
  subst hpc; subst hn
  intro H locs ls hR hl hL
  obtain ⟨e0, he0⟩ := hea
  have ha := (hR.2.2 a e0 he0).1
  refine row H locs ls hR hl (fun H1 L1 he z oq hL1 => k H1 (locs ++ L1) ls (hR.set ha he z oq) hl (fun q hq => ?_))
  rcases List.mem_append.mp hq with hq | hq
  · exact hL q hq
  · rw [hL1 q hq]
    exact ha
theorem mm_make {e : va_E} (hpc : mm_pc M j = pc) (hn : mm_pc M j' = pc') (k : ∀ a : Nat, h a = none → mm_A G a → mm_W L G M MC MS PR PX θ j' l (.ref a :: st') (va_up h a (some e)) cs' sl')
    (row : ∀ (H : Heap) (locs : List Loc) (ls : Array Slot), mm_R G h H → (∀ (H1 : Heap), va_at (mm_D G) vwCl (H.size, e) H1 → H1.size = H.size + 1 → (∀ q, q < H.size → H1[q]? = H[q]?) → mm_WH L G M MC MS PR PX θ pc' ls (.ref H.size :: st') H1 locs cs' sl') → mm_WH L G M MC MS PR PX θ pc ls st H locs cs sl) : mm_W L G M MC MS PR PX θ j l st h cs sl := by
  subst hpc; subst hn
  intro H locs ls hR hl hL
  refine row H locs ls hR (fun H1 he z o => ?_)
  obtain ⟨h0, hA, hR1⟩ := hR.push z o he
  exact k H.size h0 hA H1 locs ls hR1 hl hL
theorem mm_Kn {s : State} (hF : mm_F G) (hW : G.1.WarmedH s.vm) {c : Nat} (h : c < 7) : u_Kn s (mm_cn c) (mm_T c) (mm_N c) ((mm_D G).1 c) ((mm_D G).2 c) := u_Kn_moved hW.alike (hF.2.1 c _ (mm_cl h))
theorem mm_Ar {s : State} (hF : mm_F G) (hW : G.1.WarmedH s.vm) {k : Nat} (h : k < 10) : ArrOfT s (mm_dA G k) (mm_ty k) := arrOfT_moved hW.alike (hF.2.2.1 k h).1
theorem mm_RAr {s : State} (hF : mm_F G) (hW : G.1.WarmedH s.vm) {k : Nat} (h : k < 10) : va_RA s (mm_dA G k) (mm_ty k) := va_RA.moved hW.alike (hF.2.2.1 k h).2
theorem mm_wins {s : State} {args : Array Value} (hF : mm_F G) (hW : G.1.WarmedH s.vm) {c : Nat} (h : c < 7) : ∀ w ∈ u_ws (mm_cn c) (mm_T c) (mm_N c), w.before args s = true := by
  intro w hw
  refine word_at hW (good_of_word ?_) (hF.1 w (mm_win h w hw))
  obtain ⟨k, -, rfl⟩ := List.mem_map.mp hw
  unfold u_lay
  split <;> rfl
/-- a field is read -/
theorem ms_get {k x y : Nat} {a : Nat} {fs : List Value} {v : Value} (hc : mm_C L G M θ) (hpc : mm_pc M j = pc) (hn : mm_pc M (j + 1) = pc + 3) (hd : decode (mm_b M.1) pc = .ok (.getfield k, 3))
    (hx : x < 7) (hy : y < mm_N x) (hl : (Cond.fieldLink M.2.1 k (mm_T x y).1 (mm_T x y).2.1 (mm_T x y).2.2.1).before θ.2.2.2.2.1 θ.2.2.1 = true) (ha : h a = some (.inr (x, fs))) (hv : fs[y]? = some v)
    (kk : mm_W L G M MC MS PR PX θ (j + 1) l (v :: st) h cs sl) : mm_W L G M MC MS PR PX θ j l (.ref a :: st) h cs sl := by
  obtain ⟨hF, hex, hb, -, -, hown, -, hW, -⟩ := hc
  refine mm_fall hpc hn kk (fun H locs ls hR _ K => ?_)
  obtain ⟨-, r, h1, cell, q1, q2, q3, q4⟩ := hR.2.2 a _ ha
  have hr : r = (mm_cn x, mm_T x, mm_N x) := Option.some.inj (h1.symm.trans (mm_cl hx))
  subst hr
  obtain ⟨hS, hfc, kC, hkC, hkind⟩ := mm_Kn hF hW hx
  obtain ⟨cf, kf, fi, f, hi, hsl⟩ := hS y hy
  refine W.getf hex hb hown hl hi (u_facts hfc hkC (u_lays (mm_wins (args := θ.2.2.2.2.1) hF hW hx) (fun _ h => h) hy) hi).1 q1 (by rw [q3]; exact fun h => by cases h) (v := v) ?_ rfl rfl hd K
  rw [hsl, q4 y hy]
  simp [vp_V, hv]
theorem mm_slots {s : State} {args : Array Value} (hF : mm_F G) (hW : G.1.WarmedH s.vm) {c : Nat} (h : c < 7) : ∀ x y, x < mm_N c → y < mm_N c → x ≠ y → ((mm_D G).2 c) x ≠ ((mm_D G).2 c) y := by
  intro x y hx hy hne
  obtain ⟨hS, -⟩ := mm_Kn hF hW h
  obtain ⟨_, _, _, fa, hia, ea⟩ := hS x hx
  obtain ⟨_, _, _, fb, hib, eb⟩ := hS y hy
  rw [← ea, ← eb]
  refine u_apart (args := args) (u_lays (mm_wins hF hW h) (fun _ h => h) hx) (u_lays (mm_wins hF hW h) (fun _ h => h) hy) hia hib ?_
  rw [(State.fieldFound?_type hia (mm_tok h x hx)).1, (State.fieldFound?_type hib (mm_tok h y hy)).1]
  exact mm_nm h x hx y hy hne
/-- a field is written -/
theorem ms_put {k x y : Nat} {a : Nat} {fs : List Value} {v v0 : Value} (hc : mm_C L G M θ) (hpc : mm_pc M j = pc) (hn : mm_pc M (j + 1) = pc + 3) (hd : decode (mm_b M.1) pc = .ok (.putfield k, 3))
    (hx : x < 7) (hy : y < mm_N x) (hl : (Cond.fieldLink M.2.1 k (mm_T x y).1 (mm_T x y).2.1 (mm_T x y).2.2.1).before θ.2.2.2.2.1 θ.2.2.1 = true) (hfi : (mm_T x y).2.2.2 = false ∨ ((mm_y M.1).name = "<init>" ∧ (mm_T x y).1 = M.2.1)) (ha : h a = some (.inr (x, fs))) (hv : fs[y]? = some v0) (hf : mm_fitb (mm_tf x y) v)
    (kk : mm_W L G M MC MS PR PX θ (j + 1) l st (va_up h a (some (.inr (x, fs.set y v)))) cs sl) : mm_W L G M MC MS PR PX θ j l (v :: .ref a :: st) h cs sl := by
  obtain ⟨hF, hex, hb, -, -, hown, -, hW, hnm, -⟩ := hc
  obtain ⟨f1, f2⟩ := mm_fit hf
  have hlen : y < fs.length := (List.getElem?_eq_some_iff.mp hv).1
  refine mm_put hpc hn kk ⟨_, ha⟩ (fun H locs ls hR _ K => ?_)
  have hap := mm_slots (args := θ.2.2.2.2.1) hF hW hx
  obtain ⟨-, r, h1, cell, q1, q2, q3, q4⟩ := hR.2.2 a _ ha
  have hr : r = (mm_cn x, mm_T x, mm_N x) := Option.some.inj (h1.symm.trans (mm_cl hx))
  subst hr
  obtain ⟨hS, hfc, kC, hkC, hkind⟩ := mm_Kn hF hW hx
  obtain ⟨cf, kf, fi, f, hi, hsl⟩ := hS y hy
  have hws := mm_wins (args := θ.2.2.2.2.1) hF hW hx
  have hlay := hws _ (u_in_lay hy)
  have hst := (u_facts hfc hkC (u_lays hws (fun _ h => h) hy) hi).1
  have fin : ∀ H' : Heap, H'[a]? = some (cell.setSlot f.slot v) → H'.size = H.size → (∀ q, q ≠ a → H'[q]? = H[q]?) → mm_WH L G M MC MS PR PX θ (pc + 3) ls st H' (locs ++ [⟨a, f.slot⟩]) cs sl := by
    intro H' e1 e2 e3
    rw [hsl] at e1
    refine K H' _ ?_ e2 e3 (fun q hq => by rw [List.mem_singleton.mp hq])
    exact ⟨_, mm_cl hx, t_OB.to (V := updV (vp_V fs) y v) ⟨_, e1, q2, q3, t_set q4 hap hy v⟩ (fun j _ => vp_updV_set hlen v j)⟩
  by_cases hfin : (mm_T x y).2.2.2 = true
  · obtain ⟨hi2, hdecl⟩ : (mm_y M.1).name = "<init>" ∧ (mm_T x y).1 = M.2.1 := by
      rcases hfi with g | g
      · rw [g] at hfin; cases hfin
      · exact g
    unfold u_lay at hlay
    rw [if_pos hfin] at hlay
    have hcf : θ.2.2.2.1.cls = cf := by
      obtain ⟨_, _, c', _, _, _, -, -, hf', -, -, -, hown2, -⟩ := Cond.laysFinal_spec hlay
      have e1 : c' = cf := by have := hi.symm.trans hf'; simp at this; exact this.1.symm
      rw [hdecl] at hown2
      rw [← e1]; exact Option.some.inj (hown.symm.trans hown2)
    have h6 := u_fits hfc hkC hkind (Or.inr hlay) hi (mm_tok hx y hy) f1 f2
    exact W.putFinK hex hb hown hl hi hst hcf (hnm.trans hi2) (by rw [q2]; exact h6) q1 q3 (by rw [hsl]; exact k2_hasslot (q4 y hy)) rfl rfl hd fin
  · unfold u_lay at hlay
    rw [if_neg hfin] at hlay
    have h6 := u_store hfc hkC hkind hlay hi (mm_tok hx y hy) f1 f2
    exact W.putK hex hb (f := f) ⟨hown, hl, ⟨_, _, _, hi⟩, hst⟩ (by rw [q2]; exact h6) q1 q3 (by rw [hsl]; exact k2_hasslot (q4 y hy)) rfl rfl hd fin
end MSS
