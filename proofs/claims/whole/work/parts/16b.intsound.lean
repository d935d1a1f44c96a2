section MIS
theorem cv_cat (v : AV) : (cv v).category = ac v := by
  rcases v with (_ | a) | v | v | ⟨a, b⟩ <;> rfl
theorem cl_at (l : List (Nat × AV)) (k : Nat) : mm_at (cl l) k = (mi_at l k).map cv := by
  induction l with
  | nil => rfl
  | cons q r ih =>
    obtain ⟨i, v⟩ := q
    show (match Nat.beq i k with | true => some (cv v) | false => mm_at (cl r) k) = Option.map cv (match Nat.beq i k with | true => some v | false => mi_at r k)
    cases Nat.beq i k with
    | true => rfl
    | false => exact ih
theorem cl_st1 (l : List (Nat × AV)) (i : Nat) (v : AV) : cl (mi_st1 l i v) = mm_st1 (cl l) i (cv v) := by
  unfold mi_st1 mm_st1 cl
  rw [List.map_cons, List.filter_map]
  congr 3
  funext q
  simp only [Function.comp, cv_cat]
theorem cl_st2 (l : List (Nat × AV)) (i : Nat) (v : AV) : cl (mi_st2 l i v) = mm_st2 (cl l) i (cv v) := by
  unfold mi_st2 mm_st2 cl
  rw [List.map_cons, List.filter_map]
  congr 3
  funext q
  simp only [Function.comp, cv_cat]
theorem mi_fit {ty : FieldType} {v : AV} (h : mi_fitb ty v) : mm_fitb ty (cv v) := by
  unfold mi_fitb at h
  split at h
  · exact trivial
  · exact trivial
  · rcases h with rfl | rfl
    · exact Or.inl rfl
    · exact Or.inr rfl
  · rename_i v
    cases v <;> exact trivial
  · rename_i v
    cases v <;> exact trivial
  · exact h.elim
theorem mi_swc_c {v : Int} (h1 : -2147483648 ≤ v) (h2 : v < 2147483648) {T T' : Int → Prop} (hT : ∀ o, T o → T' o) : ∀ (l : List Int) (lo : Int), mi_swc v T l lo → mm_swc (iI v) T' l lo
  | [], _, _ => trivial
  | o :: r, lo, h => ⟨fun e => hT o (h.1 (by rw [iI_t h1 h2] at e; exact e)), mi_swc_c h1 h2 hT r (lo + 1) h.2⟩
theorem mi_cond_c {c : ClassFile.Cond} {a b : Int} (h1 : -2147483648 ≤ a) (h2 : a < 2147483648) (h3 : -2147483648 ≤ b) (h4 : b < 2147483648) : (mm_cond c (iI a) (iI b) ↔ mi_cond c a b) ∧ (mm_ncond c (iI a) (iI b) ↔ mi_ncond c a b) := by
  cases c
  · exact ⟨iI_eq h1 h2 h3 h4, not_congr (iI_eq h1 h2 h3 h4)⟩
  · exact ⟨not_congr (iI_eq h1 h2 h3 h4), iI_eq h1 h2 h3 h4⟩
  · exact ⟨iI_lt h1 h2 h3 h4, not_congr (iI_lt h1 h2 h3 h4)⟩
  · exact ⟨iI_le h3 h4 h1 h2, not_congr (iI_le h3 h4 h1 h2)⟩
  · exact ⟨iI_lt h3 h4 h1 h2, not_congr (iI_lt h3 h4 h1 h2)⟩
  · exact ⟨iI_le h1 h2 h3 h4, not_congr (iI_le h1 h2 h3 h4)⟩
theorem mi_cond_l {c : ClassFile.Cond} {a b : Int} (h1 : -9223372036854775808 ≤ a) (h2 : a < 9223372036854775808) (h3 : -9223372036854775808 ≤ b) (h4 : b < 9223372036854775808) : (mm_cond c (lg_cmp (iL a) (iL b)) 0 ↔ mi_cond c a b) ∧ (mm_ncond c (lg_cmp (iL a) (iL b)) 0 ↔ mi_ncond c a b) := by
  cases c
  · exact ⟨lc_eq h1 h2 h3 h4, not_congr (lc_eq h1 h2 h3 h4)⟩
  · exact ⟨not_congr (lc_eq h1 h2 h3 h4), lc_eq h1 h2 h3 h4⟩
  · exact ⟨lc_lt h1 h2 h3 h4, not_congr (lc_lt h1 h2 h3 h4)⟩
  · exact ⟨lc_ge h1 h2 h3 h4, not_congr (lc_ge h1 h2 h3 h4)⟩
  · exact ⟨lc_gt h1 h2 h3 h4, not_congr (lc_gt h1 h2 h3 h4)⟩
  · exact ⟨lc_le h1 h2 h3 h4, not_congr (lc_le h1 h2 h3 h4)⟩
theorem iI_inn {a : Int} {n : Nat} (h : 0 ≤ a ∧ a < n ∧ a < 2147483648) : vp_in (iI a) n := by
  unfold vp_in
  rw [iI_ltz (by omega) (by omega), iI_ix (by omega) (by omega)]
  omega
theorem iI_ns {a : Int} (h1 : -32768 ≤ a) (h2 : a < 32768) : vp_nar .short (iI a) = iI a := by
  show (iI a).toInt16.toInt32 = iI a
  apply Int32.toInt_inj.mp
  rw [Int16.toInt_toInt32, Int32.toInt_toInt16, iI_t (by omega) (by omega)]
  exact Int.bmod_eq_of_le (by omega) (by omega)
theorem mi_nar_c {k : Nat} {v : Int} (h : mi_nar k v) : (k = 2 → vp_nar .byte (iI v) = iI v) ∧ (k = 3 → vp_nar .short (iI v) = iI v) ∧ (k = 4 → vp_nar .boolean (iI v) = iI v) := by
  refine ⟨?_, ?_, ?_⟩
  · rintro rfl
    exact iI_nb h.1 h.2
  · rintro rfl
    exact iI_ns h.1 h.2
  · rintro rfl
    exact iI_nz h
theorem fits_b {v : Int} (h1 : -128 ≤ v) (h2 : v < 128) : fits .byte (.int (iI v)) = true := by
  show (decide ((-128 : Int32) ≤ iI v) && decide (iI v ≤ 127)) = true
  rw [Bool.and_eq_true, decide_eq_true_eq, decide_eq_true_eq]
  exact ⟨(iI_le (a := -128) (by omega) (by omega) (by omega) (by omega)).mpr h1, (iI_le (b := 127) (by omega) (by omega) (by omega) (by omega)).mpr (by omega)⟩
theorem fits_s {v : Int} (h1 : -32768 ≤ v) (h2 : v < 32768) : fits .short (.int (iI v)) = true := by
  show (decide ((-32768 : Int32) ≤ iI v) && decide (iI v ≤ 32767)) = true
  rw [Bool.and_eq_true, decide_eq_true_eq, decide_eq_true_eq]
  exact ⟨(iI_le (a := -32768) (by omega) (by omega) (by omega) (by omega)).mpr h1, (iI_le (b := 32767) (by omega) (by omega) (by omega) (by omega)).mpr (by omega)⟩
theorem va_rf_c (v : Option Nat) : va_rf v = cv (.inl v) := by cases v <;> rfl
theorem upd_c {g : Nat → Int} {k : Nat} {v : Int} : upd (fun q => iI (g q)) k (iI v) = fun q => iI (if q = k then v else g q) := by
  funext q
  unfold upd
  split <;> rfl
theorem updL_c {g : Nat → Int} {k : Nat} {v : Int} : vp_updL (fun q => iL (g q)) k (iL v) = fun q => iL (if q = k then v else g q) := by
  funext q
  unfold vp_updL
  split <;> rfl
theorem cpy_c {f g : Nat → Int} {s d n : Nat} : va_cpy (fun q => iI (f q)) (fun q => iI (g q)) s d n = fun q => iI (mi_cpy f g s d n q) := by
  funext q
  unfold va_cpy mi_cpy
  split <;> rfl
variable {L : Launch} {G : mmG} {M : mmM} {MC MS : Nat} {PR : Option Value → mmH → Prop} {PX : String → mmH → Prop}
def mi_bmP (b : Bool) (P : Prop) : Prop := match b with
  | true => P
  | false => False
theorem mi_bm {b : Bool} {P : Prop} (e : b = true) (p : P) : mi_bmP b P := by
  subst e
  exact p
theorem mi_call_c {S : mmS} {av rest : List AV} {h : mmH} {cs sl : Nat} {K : List AV → mmH → Nat → Nat → Prop} {KX KX' : String → mmH → Nat → Nat → Prop} {K' : List Value → mmH → Nat → Nat → Prop}
    (hK : ∀ st h cs sl, K st h cs sl → K' (st.map cv) h cs sl) (hX : ∀ E h cs sl, KX E h cs sl → KX' E h cs sl) (q : mi_call L G S MC MS av rest h cs sl K KX) : mm_call L G S MC MS (av.map cv) (rest.map cv) h cs sl K' KX' := by
  obtain ⟨mc, ms, PR, PX, c, l1, l2, k1, k2⟩ := q
  refine ⟨mc, ms, PR, PX, c, l1, l2, fun v h1 p => ?_, fun E h1 p => hX _ _ _ _ (k2 E h1 p)⟩
  obtain ⟨r, rfl, k⟩ := k1 v h1 p
  have := hK _ _ _ _ k
  rw [List.map_append] at this
  cases r <;> exact this
theorem mi_kx4_c {z : Nat} {P Q Q' : Prop} (h : Q → Q') : mm_kx4 z P Q → mm_kx4 z P Q' := by
  unfold mm_kx4
  split
  · exact id
  · exact h
  · exact id
theorem mi_hx_c {E : String} {K K' : Nat → Prop} {l : List (Nat × Nat)} (h : ∀ k, K k → K' k) : mm_hx E K l → mm_hx E K' l := fun q => ⟨fun n k m e => h k (q.1 n k m e), q.2⟩
theorem mi_step_c {j : Nat} {ent : mmE} {l : List (Nat × AV)} {st : List AV} {h : mmH} {cs sl : Nat} {K : Nat → List (Nat × AV) → List AV → mmH → Nat → Nat → Prop} {K' : Nat → List (Nat × Value) → List Value → mmH → Nat → Nat → Prop}
    (hK : ∀ j l st h cs sl, K j l st h cs sl → K' j (cl l) (st.map cv) h cs sl) (q : mi_step L G M MC MS PR PX j ent l st h cs sl K) : mm_step L G M MC MS PR PX j ent (cl l) (st.map cv) h cs sl K' := by
  obtain ⟨pc, i, len, x, y, z, w⟩ := ent
  have kv : ∀ {j l w v s h cs sl}, K j l (w :: s) h cs sl → v = cv w → K' j (cl l) (v :: s.map cv) h cs sl := fun k e => e ▸ hK _ _ _ _ _ _ k
  cases i with
  | aconst_null =>
    exact kv q rfl
  | iconst n =>
    exact kv q rfl
  | bipush n =>
    exact kv q rfl
  | sipush n =>
    exact kv q rfl
  | lconst n =>
    obtain ⟨v, rfl, q⟩ := q
    exact kv q (congrArg Value.long (iL_N _).symm)
  | ldc n =>
    obtain ⟨v, rfl, q⟩ := q
    exact kv q (congrArg Value.int (iI_N _).symm)
  | ldc2_w n =>
    obtain ⟨v, rfl, q⟩ := q
    exact kv q rfl
  | iload k =>
    dsimp only [mi_step] at q
    dsimp only [mm_step]
    rw [cl_at]
    split at q
    · rename_i v e
      rw [e]
      exact kv q rfl
    · exact q.elim
  | iload_n k =>
    dsimp only [mi_step] at q
    dsimp only [mm_step]
    rw [cl_at]
    split at q
    · rename_i v e
      rw [e]
      exact kv q rfl
    · exact q.elim
  | lload k =>
    dsimp only [mi_step] at q
    dsimp only [mm_step]
    rw [cl_at]
    split at q
    · rename_i v e
      rw [e]
      exact kv q rfl
    · exact q.elim
  | lload_n k =>
    dsimp only [mi_step] at q
    dsimp only [mm_step]
    rw [cl_at]
    split at q
    · rename_i v e
      rw [e]
      exact kv q rfl
    · exact q.elim
  | aload k =>
    dsimp only [mi_step] at q
    dsimp only [mm_step]
    rw [cl_at]
    split at q
    · rename_i v e
      rw [e]
      cases v <;> exact kv q rfl
    · exact q.elim
  | aload_n k =>
    dsimp only [mi_step] at q
    dsimp only [mm_step]
    rw [cl_at]
    split at q
    · rename_i v e
      rw [e]
      cases v <;> exact kv q rfl
    · exact q.elim
  | istore k =>
    dsimp only [mi_step] at q
    split at q
    · have r := hK _ _ _ _ _ _ q
      rw [cl_st1] at r
      exact r
    · exact q.elim
  | istore_n k =>
    dsimp only [mi_step] at q
    split at q
    · have r := hK _ _ _ _ _ _ q
      rw [cl_st1] at r
      exact r
    · exact q.elim
  | lstore k =>
    dsimp only [mi_step] at q
    split at q
    · have r := hK _ _ _ _ _ _ q
      rw [cl_st2] at r
      exact r
    · exact q.elim
  | lstore_n k =>
    dsimp only [mi_step] at q
    split at q
    · have r := hK _ _ _ _ _ _ q
      rw [cl_st2] at r
      exact r
    · exact q.elim
  | astore k =>
    dsimp only [mi_step] at q
    split at q
    · rename_i v st
      have r := hK _ _ _ _ _ _ q
      rw [cl_st1] at r
      cases v <;> exact r
    · exact q.elim
  | astore_n k =>
    dsimp only [mi_step] at q
    split at q
    · rename_i v st
      have r := hK _ _ _ _ _ _ q
      rw [cl_st1] at r
      cases v <;> exact r
    · exact q.elim
  | iinc k n =>
    dsimp only [mi_step] at q
    dsimp only [mm_step]
    rw [cl_at]
    split at q
    · rename_i v e
      have r := hK _ _ _ _ _ _ q
      rw [cl_st1] at r
      rw [e]
      show K' _ (mm_st1 _ _ (.int (iI v + iI n))) _ _ _ _
      rw [iI_add]
      exact r
    · exact q.elim
  | iadd =>
    dsimp only [mi_step] at q
    split at q
    · rename_i b a st
      exact kv q (congrArg Value.int (iI_add a b))
    · exact q.elim
  | isub =>
    dsimp only [mi_step] at q
    split at q
    · rename_i b a st
      exact kv q (congrArg Value.int (iI_sub a b))
    · exact q.elim
  | imul =>
    dsimp only [mi_step] at q
    split at q
    · rename_i b a st
      exact kv q (congrArg Value.int (iI_mul a b))
    · exact q.elim
  | ladd =>
    dsimp only [mi_step] at q
    split at q
    · rename_i b a st
      exact kv q (congrArg Value.long (iL_add a b))
    · exact q.elim
  | lsub =>
    dsimp only [mi_step] at q
    split at q
    · rename_i b a st
      exact kv q (congrArg Value.long (iL_sub a b))
    · exact q.elim
  | lmul =>
    dsimp only [mi_step] at q
    split at q
    · rename_i b a st
      exact kv q (congrArg Value.long (iL_mul a b))
    · exact q.elim
  | iand =>
    dsimp only [mi_step] at q
    split at q
    · obtain ⟨r, e, q⟩ := q
      exact kv q (congrArg Value.int e)
    · exact q.elim
  | land =>
    dsimp only [mi_step] at q
    split at q
    · obtain ⟨r, e, q⟩ := q
      exact kv q (congrArg Value.long e)
    · exact q.elim
  | lor =>
    dsimp only [mi_step] at q
    split at q
    · obtain ⟨r, e, q⟩ := q
      exact kv q (congrArg Value.long e)
    · exact q.elim
  | lshl =>
    dsimp only [mi_step] at q
    split at q
    · obtain ⟨r, e, q⟩ := q
      exact kv q (congrArg Value.long e)
    · exact q.elim
  | lshr =>
    dsimp only [mi_step] at q
    split at q
    · obtain ⟨r, e, q⟩ := q
      exact kv q (congrArg Value.long e)
    · exact q.elim
  | lushr =>
    dsimp only [mi_step] at q
    split at q
    · obtain ⟨r, e, q⟩ := q
      exact kv q (congrArg Value.long e)
    · exact q.elim
  | idiv =>
    dsimp only [mi_step] at q
    split at q
    · rename_i b a st
      obtain ⟨⟨h1, h2, h3, h4⟩, q⟩ := q
      refine ⟨fun e => ?_, kv q (congrArg Value.int (iI_div h1 h2 h3 h4))⟩
      have e := (iI_eq (b := 0) (by omega) (by omega) (by omega) (by omega)).mp e
      omega
    · exact q.elim
  | irem =>
    dsimp only [mi_step] at q
    split at q
    · rename_i b a st
      obtain ⟨⟨h1, h2, h3, h4⟩, q⟩ := q
      refine ⟨fun e => ?_, kv q (congrArg Value.int (iI_rem h1 h2 h3 h4))⟩
      have e := (iI_eq (b := 0) (by omega) (by omega) (by omega) (by omega)).mp e
      omega
    · exact q.elim
  | ldiv =>
    dsimp only [mi_step] at q
    split at q
    · rename_i b a st
      obtain ⟨⟨h1, h2, h3, h4⟩, q⟩ := q
      refine ⟨fun e => ?_, kv q (congrArg Value.long (iL_div h1 h2 h3 h4))⟩
      have e := (iL_eq (b := 0) (by omega) (by omega) (by omega) (by omega)).mp e
      omega
    · exact q.elim
  | lrem =>
    dsimp only [mi_step] at q
    split at q
    · rename_i b a st
      obtain ⟨⟨h1, h2, h3, h4⟩, q⟩ := q
      refine ⟨fun e => ?_, kv q (congrArg Value.long (iL_rem h1 h2 h3 h4))⟩
      have e := (iL_eq (b := 0) (by omega) (by omega) (by omega) (by omega)).mp e
      omega
    · exact q.elim
  | lcmp =>
    dsimp only [mi_step] at q
    split at q
    · exact kv q rfl
    · exact q.elim
  | i2l =>
    dsimp only [mi_step] at q
    split at q
    · exact kv q.2 (congrArg Value.long (iI_l q.1.1 q.1.2))
    · exact q.elim
  | l2i =>
    dsimp only [mi_step] at q
    split at q
    · exact kv q (congrArg Value.int (iL_i _))
    · exact q.elim
  | i2b =>
    dsimp only [mi_step] at q
    split at q
    · obtain ⟨r, e, q⟩ := q
      exact kv q (congrArg Value.int e)
    · exact q.elim
  | i2s =>
    dsimp only [mi_step] at q
    split at q
    · obtain ⟨r, e, q⟩ := q
      exact kv q (congrArg Value.int e)
    · exact q.elim
  | dup =>
    dsimp only [mi_step] at q
    split at q
    · exact hK _ _ _ _ _ _ q
    · exact hK _ _ _ _ _ _ q
    · exact q.elim
  | dup2 =>
    dsimp only [mi_step] at q
    split at q
    · exact hK _ _ _ _ _ _ q
    · exact q.elim
  | pop =>
    dsimp only [mi_step] at q
    split at q
    · exact hK _ _ _ _ _ _ q
    · exact q.elim
  | goto n =>
    exact hK _ _ _ _ _ _ q
  | ifCond c n =>
    dsimp only [mi_step] at q
    split at q
    · obtain ⟨⟨h1, h2⟩, q1, q2⟩ := q
      have e := mi_cond_c (c := c) (b := 0) h1 h2 (by omega) (by omega)
      exact ⟨fun g => hK _ _ _ _ _ _ (q1 (e.1.mp g)), fun g => hK _ _ _ _ _ _ (q2 (e.2.mp g))⟩
    · obtain ⟨⟨h1, h2, h3, h4⟩, q1, q2⟩ := q
      have e := mi_cond_l (c := c) h1 h2 h3 h4
      exact ⟨fun g => hK _ _ _ _ _ _ (q1 (e.1.mp g)), fun g => hK _ _ _ _ _ _ (q2 (e.2.mp g))⟩
    · exact q.elim
  | if_icmp c n =>
    dsimp only [mi_step] at q
    split at q
    · obtain ⟨⟨h1, h2, h3, h4⟩, q1, q2⟩ := q
      have e := mi_cond_c (c := c) h1 h2 h3 h4
      exact ⟨fun g => hK _ _ _ _ _ _ (q1 (e.1.mp g)), fun g => hK _ _ _ _ _ _ (q2 (e.2.mp g))⟩
    · exact q.elim
  | ifnull n =>
    dsimp only [mi_step] at q
    split at q
    · exact hK _ _ _ _ _ _ q
    · exact hK _ _ _ _ _ _ q
    · exact q.elim
  | ifnonnull n =>
    dsimp only [mi_step] at q
    split at q
    · exact hK _ _ _ _ _ _ q
    · exact hK _ _ _ _ _ _ q
    · exact q.elim
  | tableswitch d lo hi offs =>
    dsimp only [mi_step] at q
    split at q
    · obtain ⟨⟨h1, h2⟩, q1, q2⟩ := q
      refine ⟨mi_swc_c h1 h2 (fun o k => hK _ _ _ _ _ _ k) _ _ q1, fun g => hK _ _ _ _ _ _ (q2 ?_)⟩
      rw [iI_t h1 h2] at g
      exact g
    · exact q.elim
  | getfield n =>
    dsimp only [mi_step] at q
    split at q
    · obtain ⟨fs, e, q⟩ := q
      refine ⟨fs.map cv, e, ?_⟩
      rw [List.getElem?_map]
      split at q
      · rename_i v e1
        obtain ⟨v', rfl, q⟩ := q
        rw [e1]
        exact hK _ _ _ _ _ _ q
      · exact q.elim
    · exact q.elim
  | putfield n =>
    dsimp only [mi_step] at q
    split at q
    · obtain ⟨fs, e, q⟩ := q
      refine ⟨fs.map cv, e, ?_⟩
      rw [List.getElem?_map]
      split at q
      · rename_i v e1
        obtain ⟨g, h', rfl, q⟩ := q
        rw [e1]
        have r := hK _ _ _ _ _ _ q
        rw [List.map_set] at r
        exact ⟨mi_fit g, r⟩
      · exact q.elim
    · exact q.elim
  | arraylength =>
    dsimp only [mi_step] at q
    split at q
    · simp only [mm_step, List.map_cons, cv]
      split at q
      · exact ⟨q.1, kv q.2 (congrArg Value.int (iI_N _).symm)⟩
      · rename_i hn
        split
        · exact (hn rfl).elim
        · obtain ⟨k, A, e, hk, n, rfl, q⟩ := q
          exact ⟨k, A, e, hk, kv q (congrArg Value.int (iI_N _).symm)⟩
    · exact q.elim
  | iaload =>
    dsimp only [mi_step] at q
    split at q
    · simp only [mm_step, List.map_cons, cv]
      split at q
      · obtain ⟨e, b, q⟩ := q
        refine ⟨e, iI_inn b, kv q ?_⟩
        rw [iI_ix b.1 b.2.2]
        exact congrArg Value.int (Int32.ofInt_toInt _).symm
      · rename_i hn
        split
        · exact (hn rfl).elim
        · obtain ⟨n, g, v, e, b, rfl, q⟩ := q
          refine ⟨n, _, e, iI_inn b, kv q ?_⟩
          rw [iI_ix b.1 b.2.2]
          rfl
    · exact q.elim
  | saload =>
    dsimp only [mi_step] at q
    split at q
    · obtain ⟨n, g, v, e, b, rfl, q⟩ := q
      refine ⟨n, _, e, iI_inn b, kv q ?_⟩
      rw [iI_ix b.1 b.2.2]
      rfl
    · exact q.elim
  | laload =>
    dsimp only [mi_step] at q
    split at q
    · obtain ⟨n, g, v, e, b, rfl, q⟩ := q
      refine ⟨n, _, e, iI_inn b, kv q ?_⟩
      rw [iI_ix b.1 b.2.2]
      rfl
    · exact q.elim
  | baload =>
    dsimp only [mi_step] at q
    split at q
    · simp only [mm_step, List.map_cons, cv]
      split at q
      · obtain ⟨n, g, v, e, b, rfl, q⟩ := q
        refine ⟨n, _, e, iI_inn b, kv q ?_⟩
        rw [iI_ix b.1 b.2.2]
        rfl
      · rename_i hn
        split
        · exact (hn rfl).elim
        · obtain ⟨n, g, v, e, b, rfl, q⟩ := q
          refine ⟨n, _, e, iI_inn b, kv q ?_⟩
          rw [iI_ix b.1 b.2.2]
          rfl
    · exact q.elim
  | aaload =>
    dsimp only [mi_step] at q
    split at q
    · obtain ⟨n, f, v, e, b, rfl, q⟩ := q
      refine ⟨n, f, e, iI_inn b, kv q ?_⟩
      rw [iI_ix b.1 b.2.2]
      exact va_rf_c _
    · exact q.elim
  | iastore =>
    dsimp only [mi_step] at q
    split at q
    · obtain ⟨n, g, h', e, b, nr, rfl, q⟩ := q
      refine ⟨n, _, e, iI_inn b, ?_⟩
      rw [iI_ix b.1 b.2.2, upd_c]
      exact hK _ _ _ _ _ _ q
    · exact q.elim
  | sastore =>
    dsimp only [mi_step] at q
    split at q
    · obtain ⟨n, g, h', e, b, nr, rfl, q⟩ := q
      refine ⟨n, _, e, iI_inn b, ?_⟩
      rw [iI_ix b.1 b.2.2, (mi_nar_c nr).2.1 rfl, upd_c]
      exact hK _ _ _ _ _ _ q
    · exact q.elim
  | bastore =>
    dsimp only [mi_step] at q
    split at q
    · simp only [mm_step, List.map_cons, cv]
      split at q
      · obtain ⟨n, g, h', e, b, nr, rfl, q⟩ := q
        refine ⟨n, _, e, iI_inn b, ?_⟩
        rw [iI_ix b.1 b.2.2, (mi_nar_c nr).2.2 rfl, upd_c]
        exact hK _ _ _ _ _ _ q
      · rename_i hn
        split
        · exact (hn rfl).elim
        · obtain ⟨n, g, h', e, b, nr, rfl, q⟩ := q
          refine ⟨n, _, e, iI_inn b, ?_⟩
          rw [iI_ix b.1 b.2.2, (mi_nar_c nr).1 rfl, upd_c]
          exact hK _ _ _ _ _ _ q
    · exact q.elim
  | lastore =>
    dsimp only [mi_step] at q
    split at q
    · obtain ⟨n, g, h', e, b, rfl, q⟩ := q
      refine ⟨n, _, e, iI_inn b, ?_⟩
      rw [iI_ix b.1 b.2.2, updL_c]
      exact hK _ _ _ _ _ _ q
    · exact q.elim
  | aastore =>
    dsimp only [mi_step] at q
    split at q
    · obtain ⟨n, f, fs, h', e, e1, b, rfl, q⟩ := q
      refine ⟨n, f, fs, e, e1, iI_inn b, ?_⟩
      rw [iI_ix b.1 b.2.2]
      exact hK _ _ _ _ _ _ q
    · exact q.elim
  | newarray n =>
    dsimp only [mi_step] at q
    split at q
    · obtain ⟨b, l1, l2, q⟩ := q
      have ei := iI_ix b.1 (by omega)
      refine ⟨fun g => ?_, by rw [ei]; omega, l1, by rw [ei]; exact l2, fun a e1 e2 => ?_⟩
      · have g := (iI_ltz (by omega) (by omega)).mp g
        omega
      · rw [ei]
        exact hK _ _ _ _ _ _ (q a e1 e2)
    · exact q.elim
  | anewarray n =>
    dsimp only [mi_step] at q
    split at q
    · obtain ⟨b, l1, l2, q⟩ := q
      have ei := iI_ix b.1 (by omega)
      refine ⟨fun g => ?_, by rw [ei]; omega, l1, by rw [ei]; exact l2, fun a e1 e2 => ?_⟩
      · have g := (iI_ltz (by omega) (by omega)).mp g
        omega
      · rw [ei]
        exact hK _ _ _ _ _ _ (q a e1 e2)
    · exact q.elim
  | new n =>
    dsimp only [mi_step] at q
    dsimp only [mm_step]
    split at q
    · exact q
    · rename_i hn
      obtain ⟨l1, l2, q⟩ := q
      split
      · exact (hn rfl).elim
      · exact ⟨l1, l2, fun a e1 e2 => hK _ _ _ _ _ _ (q a e1 e2)⟩
  | invokespecial n =>
    dsimp only [mi_step] at q
    dsimp only [mm_step]
    split at q
    · split at q
      · split at q
        · rename_i e
          exact mi_bm e (hK _ _ _ _ _ _ q)
        · exact q.elim
      · exact q.elim
    · rename_i hn
      split
      · exact (hn rfl).elim
      split at q
      · rename_i S e
        rw [e]
        dsimp only
        rw [List.length_map, ← List.map_drop, ← List.map_take, ← List.map_reverse]
        split at q
        · rename_i e2
          rw [e2]
          split at q
          · rename_i b av e3
            rw [e3]
            exact mi_call_c (fun _ _ _ _ k => hK _ _ _ _ _ _ k) (fun _ _ _ _ k => k) q
          · exact q.elim
        · exact q.elim
      · exact q.elim
  | invokestatic n =>
    dsimp only [mi_step] at q
    dsimp only [mm_step]
    split at q
    · split at q
      · split at q
        · rename_i e
          refine mi_bm e ?_
          split at q
          · obtain ⟨n0, n1, f, g, h', e0, e1, ⟨b1, b2, b3, b4, b5, b6, b7⟩, nr, rfl, q⟩ := q
            refine ⟨n0, n1, _, _, e0, e1, ?_⟩
            rw [iI_ix b1 (by omega), iI_ix b2 (by omega), iI_ix b3 (by omega), iI_ltz (by omega) (by omega), iI_ltz (by omega) (by omega), iI_ltz (by omega) (by omega), cpy_c]
            refine ⟨by omega, by omega, by omega, by omega, by omega, fun i hi => ?_, hK _ _ _ _ _ _ q⟩
            have nr := nr i (by omega)
            exact fits_b nr.1 nr.2
          · obtain ⟨n0, n1, f, g, h', e0, e1, ⟨b1, b2, b3, b4, b5, b6, b7⟩, nr, rfl, q⟩ := q
            refine ⟨n0, n1, _, _, e0, e1, ?_⟩
            rw [iI_ix b1 (by omega), iI_ix b2 (by omega), iI_ix b3 (by omega), iI_ltz (by omega) (by omega), iI_ltz (by omega) (by omega), iI_ltz (by omega) (by omega), cpy_c]
            refine ⟨by omega, by omega, by omega, by omega, by omega, fun i hi => ?_, hK _ _ _ _ _ _ q⟩
            have nr := nr i (by omega)
            exact fits_s nr.1 nr.2
          · rename_i hn1 hn2
            split
            · exact (hn1 rfl).elim
            · exact (hn2 rfl).elim
            · obtain ⟨n0, n1, f, g, h', e0, e1, ⟨b1, b2, b3, b4, b5, b6, b7⟩, nr, rfl, q⟩ := q
              refine ⟨n0, n1, _, _, e0, e1, ?_⟩
              rw [iI_ix b1 (by omega), iI_ix b2 (by omega), iI_ix b3 (by omega), iI_ltz (by omega) (by omega), iI_ltz (by omega) (by omega), iI_ltz (by omega) (by omega), cpy_c]
              refine ⟨by omega, by omega, by omega, by omega, by omega, fun i hi => ?_, hK _ _ _ _ _ _ q⟩
              have nr := nr i (by omega)
              rfl
        · exact q.elim
      · exact q.elim
    · rename_i hn
      split
      · exact (hn rfl).elim
      split at q
      · rename_i S e
        rw [e]
        dsimp only
        rw [List.length_map, ← List.map_drop, ← List.map_take, ← List.map_reverse]
        split at q
        · rename_i e2
          rw [e2]
          exact mi_call_c (fun _ _ _ _ k => hK _ _ _ _ _ _ k) (fun _ _ _ _ k => k) q
        · exact q.elim
      · exact q.elim
  | invokevirtual n =>
    dsimp only [mi_step] at q
    dsimp only [mm_step]
    split at q
    · rename_i S e
      rw [e]
      dsimp only
      rw [List.length_map, ← List.map_drop, ← List.map_take, ← List.map_reverse]
      split at q
      · rename_i e2
        rw [e2]
        split at q
        · rename_i b av e3
          rw [e3]
          exact ⟨q.1, mi_call_c (fun _ _ _ _ k => hK _ _ _ _ _ _ k) (fun _ _ _ _ k => mi_kx4_c (mi_hx_c (fun k g a => hK _ _ _ _ _ _ (g a))) k) q.2⟩
        · exact q.elim
      · exact q.elim
    · exact q.elim
  | ireturn =>
    dsimp only [mi_step] at q
    dsimp only [mm_step]
    split at q
    · simp only [List.map_cons, List.map_nil, cv]
      split at q
      · rename_i e
        rw [e]
        exact q
      · rename_i e
        rw [e]
        refine ⟨?_, q.2⟩
        rcases q.1 with rfl | rfl
        · exact Or.inl rfl
        · exact Or.inr rfl
      · rename_i e
        rw [e]
        refine ⟨?_, q.2⟩
        have := iI_nb q.1.1 q.1.2
        rw [vp_nar_byte] at this
        exact this
      · exact q.elim
    · exact q.elim
  | lreturn =>
    dsimp only [mi_step] at q
    split at q
    · exact q
    · exact q.elim
  | areturn =>
    dsimp only [mi_step] at q
    split at q
    · exact q
    · exact q
    · exact q.elim
  | return_ =>
    dsimp only [mi_step] at q
    split at q
    · exact q
    · exact q.elim
  | _ => exact q.elim
theorem mi_run_c {θ : mmT} : ∀ (f j : Nat) (l : List (Nat × AV)) (st : List AV) (h : mmH) (cs sl : Nat), mi_run L G M MC MS PR PX θ f j l st h cs sl → mm_run L G M MC MS PR PX θ f j (cl l) (st.map cv) h cs sl
  | 0, _, _, _, _, _, _, q => q
  | f + 1, j, l, st, h, cs, sl, q => by
    unfold mi_run at q
    unfold mm_run
    split at q
    · rename_i ent e
      rw [e]
      refine mi_step_c (fun j l st h cs sl k => ?_) q
      split at k
      · rename_i e1
        rw [e1]
        exact k
      · rename_i e1
        rw [e1]
        exact mi_run_c f _ _ _ _ _ _ k
    · exact q.elim
def mi_args : Nat → List AV → List (Nat × AV)
  | _, [] => []
  | i, v :: vs => (i, v) :: mi_args (if ac v = 2 then i + 2 else i + 1) vs
theorem mi_args_c : ∀ (vs : List AV) (i : Nat), cl (mi_args i vs) = lv_args i (vs.map cv)
  | [], _ => rfl
  | v :: vs, i => by
    show (i, cv v) :: cl (mi_args (if ac v = 2 then i + 2 else i + 1) vs) = (i, cv v) :: lv_args (if (cv v).category = 2 then i + 2 else i + 1) (vs.map cv)
    rw [mi_args_c vs, cv_cat]
/-- the machine at a loop head -/
def mi_W (L : Launch) (G : mmG) (M : mmM) (MC MS : Nat) (PR : Option Value → mmH → Prop) (PX : String → mmH → Prop) (θ : mmT) (j : Nat) (l : List (Nat × AV)) (st : List AV) (h : mmH) (cs sl : Nat) : Prop := mm_W L G M MC MS PR PX θ j (cl l) (st.map cv) h cs sl
theorem mi_sound {θ : mmT} (hC : mm_C L G M θ) (hok : mm_ok M = true) (f j : Nat) (l : List (Nat × AV)) (st : List AV) (h : mmH) (cs sl : Nat) (q : mi_run L G M MC MS PR PX θ f j l st h cs sl) : mi_W L G M MC MS PR PX θ j l st h cs sl := mm_sound hC hok f _ _ _ _ _ _ (mi_run_c f _ _ _ _ _ _ q)
theorem mi_meth (M : mmM) (f : Nat) (hF : mm_F G) (htr : L.stackTraces = false) (hok : mm_ok M = true) {av : List AV} {h : mmH} (hst : (plainName (mm_y M.1).cls && (decide ((mm_y M.1).cls = M.2.1) && Nat.beq (mm_pc M 0) 0)) = true) (hlen : (lg_sl (av.map cv)).length ≤ mm_nL M.1) (hcw : ∀ S ∈ M.2.2.2.1, mm_cw S ∈ lw_tbl)
    (body : ∀ θ : mmT, mm_C L G M θ → mi_run L G M MC MS PR PX θ f 0 (mi_args 0 av) [] h 0 0) : mm_Met L G M.1 (av.map cv) h MC MS PR PX :=
  mm_meth M f hF htr hok hst hlen hcw (fun θ hc => by
    have := mi_run_c f _ _ _ _ _ _ (body θ hc)
    rw [mi_args_c] at this
    exact this)
end MIS
