/-! what is checked of a method's entries, by program -/
/-- the tables, in pieces: a word is named by its piece and its place there: 1000 * piece + place -/
def mm_tb (k : Nat) : List Cond := match k with
  | 0 => k2_sels lw_privs
  | 1 => tables_1_1
  | 2 => tables_1_2
  | 3 => tables_1_3
  | 4 => tables_1_4
  | 5 => tables_1_5
  | 6 => tables_1_6
  | _ => []
theorem mm_tb_in {k : Nat} {w : Cond} (h : w ∈ mm_tb k) : w ∈ lw_tbl := by
  show w ∈ k2_sels lw_privs ++ (tables_1_1 ++ (tables_1_2 ++ (tables_1_3 ++ (tables_1_4 ++ (tables_1_5 ++ tables_1_6)))))
  simp only [List.mem_append]
  match k, h with
  | 0, h => exact Or.inl h
  | 1, h => exact Or.inr (Or.inl h)
  | 2, h => exact Or.inr (Or.inr (Or.inl h))
  | 3, h => exact Or.inr (Or.inr (Or.inr (Or.inl h)))
  | 4, h => exact Or.inr (Or.inr (Or.inr (Or.inr (Or.inl h))))
  | 5, h => exact Or.inr (Or.inr (Or.inr (Or.inr (Or.inr (Or.inl h)))))
  | 6, h => exact Or.inr (Or.inr (Or.inr (Or.inr (Or.inr (Or.inr h)))))
  | _ + 7, h => exact absurd h List.not_mem_nil
def mm_inn (i : Nat) (w : Cond) : Bool := decide ((mm_tb (i / 1000))[i % 1000]? = some w)
def mm_in (i : Nat) (w : Cond) : Bool := mm_inn i w && goodWord w
theorem mm_inn_mem {i : Nat} {w : Cond} (h : mm_inn i w = true) : w ∈ lw_tbl := by
  simp only [mm_inn, decide_eq_true_eq] at h
  exact mm_tb_in (List.mem_of_getElem? h)
theorem mm_in_word {G : mmG} {i : Nat} {w : Cond} {U : State} {a : Array Value} (hF : mm_F G) (hW : G.1.WarmedH U.vm) (h : mm_in i w = true) : w.before a U = true := by
  simp only [mm_in, Bool.and_eq_true] at h
  exact word_at hW (good_of_word h.2) (hF.1 w (mm_inn_mem h.1))
def mm_p (S : mmS) (k : Nat) : Nat := (mm_ps S).getD k 0
def mm_nok (y : MethodName) (n : Nat) : Bool := decide (y.cls ≠ "java/lang/invoke/MethodHandle" ∧ y.cls ≠ "java/lang/invoke/VarHandle" ∧ (parseMethodDescriptor y.desc).map (fun d => d.parameters.length) = some n)
/-- a callee: its code, its class; an instance method, by its class; a static one; a constructor -/
def mm_sV (S : mmS) : Bool := (mm_in (mm_p S 1) (.initialized (mm_y S).cls) && (mm_in (mm_p S 2) (.instanceMethod (mm_y S)) && (mm_in (mm_p S 3) (.selects (mm_y S).cls (mm_y S) (mm_y S)) && (Nat.blt 0 (mm_na S) && mm_nok (mm_y S) (mm_na S - 1)))))
def mm_sS (S : mmS) : Bool := (mm_in (mm_p S 1) (.initialized (mm_y S).cls) && (mm_in (mm_p S 2) (.static (mm_y S)) && mm_nok (mm_y S) (mm_na S)))
def mm_sI (S : mmS) : Bool := (mm_in (mm_p S 1) (.initialized (mm_y S).cls) && (mm_in (mm_p S 2) (.instanceMethod (mm_y S)) && (decide ((mm_y S).name = "<init>") && (Nat.blt 0 (mm_na S) && mm_nok (mm_y S) (mm_na S - 1)))))
def mm_fit1 (M : mmM) (S : mmS) : Bool := Nat.ble (mm_fr S + 1) (mm_fr M.1) && Nat.ble (8 + (mm_nL S + 11) + mm_lo S) (mm_lo M.1)
def mm_plain (S : mmS) : Bool := (mm_hh S).isEmpty
/-- the length of an instruction -/
def mm_len (i : Instr) (len : Nat) : Nat := match i with
  | .bipush _ => 2
  | .sipush _ => 3
  | .ldc _ => 2
  | .ldc2_w _ => 3
  | .iload _ => 2
  | .lload _ => 2
  | .aload _ => 2
  | .istore _ => 2
  | .lstore _ => 2
  | .astore _ => 2
  | .iinc _ _ => 3
  | .goto _ => 3
  | .ifCond _ _ => 3
  | .if_icmp _ _ => 3
  | .ifnull _ => 3
  | .ifnonnull _ => 3
  | .tableswitch _ _ _ _ => len
  | .getfield _ => 3
  | .putfield _ => 3
  | .newarray _ => 2
  | .anewarray _ => 3
  | .new _ => 3
  | .invokespecial _ => 3
  | .invokestatic _ => 3
  | .invokevirtual _ => 3
  | _ => 1
def mm_falls (i : Instr) (z : Nat) : Bool := match i with
  | .goto _ => false
  | .tableswitch _ _ _ _ => false
  | .ireturn => false
  | .lreturn => false
  | .areturn => false
  | .return_ => false
  | .new _ => !(z == 1)
  | _ => true
def mm_atype (a : ClassFile.ArrayType) : Nat := match a with
  | .int => 0
  | .long => 1
  | .byte => 2
  | .short => 3
  | .boolean => 4
  | _ => 99
def mm_names : List String := ["java/lang/RuntimeException", "java/lang/Exception"]
/-- what throwing an exception of this class asks of the tables, but for the link of its constructor -/
def mm_thr (E : String) : List Cond := (Bundle.throwableAtoms ++ Bundle.throwableSAtoms ++ Bundle.chainSAtoms E mm_names ++
  ([.instantiable E 6, .castable E E, .selects E Bundle.tFill0 Bundle.tFill0, .selects E Bundle.tFill Bundle.tFill,
   .lays E Bundle.tN "cause" "Ljava/lang/Throwable;", .lays E Bundle.tN "stackTrace" Bundle.steD, .lays E Bundle.tN "suppressedExceptions" Bundle.listD, .lays E Bundle.tN "detailMessage" "Ljava/lang/String;",
   .fieldLink Bundle.tN 198 Bundle.tN "backtrace" "Ljava/lang/Object;", .lays Bundle.tN Bundle.tN "backtrace" "Ljava/lang/Object;", .lays E Bundle.tN "backtrace" "Ljava/lang/Object;"] : List Cond)).filter vx_no
theorem mm_thr_in {own E : String} {ic : Nat} {w : Cond} (h : w ∈ vx_atS own ic E mm_names) : w = .methodLink own ic (Bundle.initS E) ∨ w ∈ mm_thr E := by
  obtain ⟨h1, h2⟩ := List.mem_filter.mp h
  unfold Bundle.ownAtoms at h1
  rcases List.mem_append.mp h1 with h1 | h1
  · exact Or.inr (List.mem_filter.mpr ⟨List.mem_append.mpr (Or.inl h1), h2⟩)
  · simp only [List.mem_cons, List.not_mem_nil, or_false] at h1
    rcases h1 with rfl | rfl | rfl | rfl | rfl | rfl | rfl | rfl | rfl | rfl | rfl | rfl | rfl | rfl
    · exact Or.inl rfl
    all_goals first
      | exact absurd h2 (by decide +kernel)
      | exact Or.inr (List.mem_filter.mpr ⟨List.mem_append.mpr (Or.inr (by simp)), h2⟩)
/-- words that stay: the good ones, and two kinds more -/
def mm_soft (w : Cond) : Bool := match w with
  | .castable _ _ => true
  | .declares _ => true
  | w => goodWord w
theorem mm_soft_word {G : mmG} {w : Cond} {U : State} {a : Array Value} (hF : mm_F G) (hW : G.1.WarmedH U.vm) (h : w ∈ lw_tbl) (hs : mm_soft w = true) : w.before a U = true := by
  unfold mm_soft at hs
  split at hs
  · exact va_Nw.use rfl (va_Nw.warmC hW (va_Nw.of rfl (hF.1 _ h)))
  · exact va_Nw.use rfl (va_Nw.warmD hW (va_Nw.of rfl (hF.1 _ h)))
  · exact word_at hW (good_of_word hs) (hF.1 _ h)
def mm_thr_chk (E : String) : Bool := (mm_thr E).all (fun v => decide (v ∈ lw_tbl) && (mm_soft v && vx_ot v))
theorem mm_thr_ok {i : Nat} (h : i < 2) : mm_thr_chk (mm_en i) = true ∧ Bundle.fit (mm_en i) = true := by
  match i, h with
  | 0, _ => exact ⟨by decide +kernel, by decide +kernel⟩
  | 1, _ => exact ⟨by decide +kernel, by decide +kernel⟩
def mm_throwok (M : mmM) (pc ik x is ic : Nat) : Bool :=
  (mm_hh M.1).isEmpty && (decide (decode (mm_b M.1) (pc + 3) = .ok (.dup, 1)) && (((decide (decode (mm_b M.1) (pc + 4) = .ok (.ldc is, 2)) && (decide (decode (mm_b M.1) (pc + 6) = .ok (.invokespecial ic, 3)) && decide (decode (mm_b M.1) (pc + 9) = .ok (.athrow, 1)))) ||
    (decide (decode (mm_b M.1) (pc + 4) = .ok (.ldc_w is, 3)) && (decide (decode (mm_b M.1) (pc + 7) = .ok (.invokespecial ic, 3)) && decide (decode (mm_b M.1) (pc + 10) = .ok (.athrow, 1))))) &&
    (Nat.blt x 3 && (decide (Cond.classLink M.2.1 ik (mm_en x) ∈ lw_tbl) && (decide (Cond.initialized (mm_en x) ∈ lw_tbl) && (lw_tbl.any (fun v => match v with
      | .stringRef o k _ => decide (o = M.2.1) && Nat.beq k is
      | _ => false) && (decide (Cond.methodLink M.2.1 ic (Bundle.initS (mm_en x)) ∈ lw_tbl) && (Nat.blt 5 (mm_fr M.1) && Nat.ble 90 (mm_lo M.1)))))))))
/-- a handler: covers the pc, leads to entry k, catches n -/
def mm_hok1 (M : mmM) (pc : Nat) (a : Nat × Nat × Nat × Nat) (n k : Nat) : Bool := covers ⟨a.1, a.2.1, a.2.2.1, a.2.2.2⟩ pc && (!(Nat.beq a.2.2.2 0) && (Nat.beq (mm_pc M k) a.2.2.1 && (Nat.blt n 3 && (decide (Cond.classLink M.2.1 a.2.2.2 (mm_en n) ∈ lw_tbl) && decide (Cond.castable (mm_en n) (mm_en n) ∈ lw_tbl)))))
def mm_hok (M : mmM) (pc : Nat) : Bool := match mm_hh M.1, M.2.2.2.2.2 with
  | [a], [(n, k)] => mm_hok1 M pc a n k
  | [a, b], [(n, k), (n', k')] => mm_hok1 M pc a n k && (mm_hok1 M pc b n' k' && !(Nat.beq n n'))
  | _, _ => false
/-- the entry that stands at this pc -/
def mm_jump (M : mmM) (pc : Nat) (o : Int) (k : Nat) : Bool := decide ((pc : Int) + o = (mm_pc M k : Int))
def mm_oks (M : mmM) (ent : mmE) : Bool := match ent with
  | (pc, i, _, x, y, z, w) => match i with
    | .bipush n => decide (-128 ≤ n ∧ n ≤ 127)
    | .sipush n => decide (-32768 ≤ n ∧ n ≤ 32767)
    | .lreturn => decide (mm_r M.1 = some .long)
    | .return_ => decide (mm_r M.1 = none)
    | .areturn => match mm_r M.1 with
      | some (.object _) => true
      | _ => false
    | .ldc k => mm_in w (.constant M.2.1 k (Int32.ofNat x))
    | .ldc2_w k => mm_in w (.constantLong M.2.1 k (Int64.ofInt ((x : Int) - y)))
    | .istore k => Nat.blt k (mm_nL M.1)
    | .istore_n k => Nat.blt k.val (mm_nL M.1)
    | .lstore k => Nat.blt (k + 1) (mm_nL M.1)
    | .lstore_n k => Nat.blt (k.val + 1) (mm_nL M.1)
    | .astore k => Nat.blt k (mm_nL M.1)
    | .astore_n k => Nat.blt k.val (mm_nL M.1)
    | .iinc k _ => Nat.blt k (mm_nL M.1)
    | .goto o => mm_jump M pc o x
    | .ifCond _ o => mm_jump M pc o x
    | .if_icmp _ o => mm_jump M pc o x
    | .ifnull o => mm_jump M pc o x
    | .ifnonnull o => mm_jump M pc o x
    | .tableswitch d lo hi offs => mm_jump M pc d (mm_ix M ((pc : Int) + d)) && (offs.toList.all (fun o => mm_jump M pc o (mm_ix M ((pc : Int) + o))) && decide (hi = lo + (offs.toList.length : Int) - 1))
    | .getfield k => mm_in w (.fieldLink M.2.1 k (mm_T x y).1 (mm_T x y).2.1 (mm_T x y).2.2.1) && (Nat.blt x 7 && Nat.blt y (mm_N x))
    | .putfield k => mm_in w (.fieldLink M.2.1 k (mm_T x y).1 (mm_T x y).2.1 (mm_T x y).2.2.1) && (Nat.blt x 7 && (Nat.blt y (mm_N x) && (!(mm_T x y).2.2.2 || (decide ((mm_y M.1).name = "<init>") && decide ((mm_T x y).1 = M.2.1)))))
    | .aaload => Nat.blt x 10 && Nat.blt 4 x
    | .aastore => Nat.blt x 5
    | .newarray a => Nat.beq (mm_atype a) x && (Nat.blt x 5 && mm_in w (.arrayClass (mm_ty x)))
    | .anewarray k => Nat.blt x 5 && (mm_in w (.classLink M.2.1 k (mm_cn x)) && mm_inn y (.arrayOver (.object (mm_cn x))))
    | .new k => match z with
      | 1 => mm_throwok M pc k x y w
      | _ => (Nat.blt x 7 && (mm_in w (.classLink M.2.1 k (mm_cn x)) && (mm_in y (.instantiable (mm_cn x) (mm_N x)) && mm_in (mm_p M.1 (10 + x)) (.initialized (mm_cn x)))))
    | .invokespecial k => match z with
      | 0 => mm_in w (.methodLink M.2.1 k objectInit) && (mm_in x (.instanceMethod objectInit) && (mm_in y (.code objectInit ⟨#[0xb1]⟩ 1 none) && (Nat.ble 1 (mm_fr M.1) && Nat.ble 20 (mm_lo M.1))))
      | 1 => match M.2.2.2.1[x]? with
        | some S => mm_in w (.methodLink M.2.1 k (mm_y S)) && (mm_sI S && (mm_fit1 M S && (mm_plain S && decide (mm_r S = none))))
        | none => false
      | _ => match M.2.2.2.1[x]? with
        | some S => mm_inn w (.methodLinkNest M.2.1 k (mm_y S) "StreamHall") && (mm_sI S && (mm_fit1 M S && (mm_plain S && decide (mm_r S = none))))
        | none => false
    | .invokestatic k => match z with
      | 9 => mm_in w (.methodLink M.2.1 k arraycopyName) && (mm_in y (.native arraycopyName) && (mm_in (mm_p M.1 20) (.static arraycopyName) && (mm_in (mm_p M.1 21) (.initialized "java/lang/System") && (Nat.ble 1 (mm_fr M.1) && Nat.ble (8 + (nativeFrameWords "java/lang/System" "arraycopy" 5 + 11)) (mm_lo M.1)))))
      | 2 => match M.2.2.2.1[x]? with
        | some S => mm_inn w (.methodLinkNest M.2.1 k (mm_y S) "StreamHall") && (mm_sS S && (mm_fit1 M S && mm_plain S))
        | none => false
      | 5 => match M.2.2.2.1[x]? with
        | some S => mm_in w (.methodLink M.2.1 k (mm_y S)) && (mm_sS S && (mm_fit1 M S && !mm_plain S))
        | none => false
      | _ => match M.2.2.2.1[x]? with
        | some S => mm_in w (.methodLink M.2.1 k (mm_y S)) && (mm_sS S && (mm_fit1 M S && (mm_plain S && ((mm_hh M.1).isEmpty || !(Nat.beq z 3)))))
        | none => false
    | .invokevirtual k => match M.2.2.2.1[x]? with
        | some S => mm_in w (.methodLink M.2.1 k (mm_y S)) && (mm_sV S && (mm_fit1 M S && (mm_plain S && (Nat.blt y 7 && (decide (mm_cn y = (mm_y S).cls) && (match z with
          | 3 => (mm_hh M.1).isEmpty
          | 4 => mm_hok M pc
          | _ => true))))))
        | none => false
    | _ => true
def mm_next (M : mmM) (j pc len : Nat) : Bool := Nat.beq (mm_pc M (j + 1)) (pc + len)
def mm_eok (M : mmM) (j : Nat) (ent : mmE) : Bool := decide (decode (mm_b M.1) ent.1 = .ok (ent.2.1, ent.2.2.1)) && (Nat.beq ent.2.2.1 (mm_len ent.2.1 ent.2.2.1) && ((!(mm_falls ent.2.1 ent.2.2.2.2.2.1) || mm_next M j ent.1 ent.2.2.1) && mm_oks M ent))
def mm_all (M : mmM) : List mmE → Nat → Bool
  | [], _ => true
  | e :: r, j => mm_eok M j e && mm_all M r (j + 1)
/-- all entries of a method stand as they should -/
def mm_ok (M : mmM) : Bool := mm_all M M.2.2.1 0
theorem mm_all_at {M : mmM} : ∀ {es : List mmE} {j k : Nat} {e : mmE}, mm_all M es j = true → es[k]? = some e → mm_eok M (j + k) e = true := by
  intro es
  induction es with
  | nil => intro j k e _ h; simp at h
  | cons a r ih =>
    intro j k e h hk
    simp only [mm_all, Bool.and_eq_true] at h
    cases k with
    | zero =>
      simp at hk
      subst hk
      exact h.1
    | succ k =>
      simp at hk
      have := ih h.2 hk
      rwa [show j + 1 + k = j + (k + 1) by omega] at this
theorem mm_ok_at {M : mmM} (h : mm_ok M = true) {j : Nat} {e : mmE} (he : M.2.2.1[j]? = some e) : mm_eok M j e = true := by
  have := mm_all_at h he
  rwa [Nat.zero_add] at this
theorem mm_pc_at {M : mmM} {j : Nat} {e : mmE} (he : M.2.2.1[j]? = some e) : mm_pc M j = e.1 := by
  simp [mm_pc, List.getD, he]
