/-- calls: what a call of S with the arguments av gives; it goes on by K with what S returns, by KX with what S throws -/
def mm_call (L : Launch) (G : mmG) (S : mmS) (MC MS : Nat) (av rest : List Value) (h : mmH) (cs sl : Nat) (K : List Value → mmH → Nat → Nat → Prop) (KX : String → mmH → Nat → Nat → Prop) : Prop :=
  ∃ (mc ms : Nat) (PR : Option Value → mmH → Prop) (PX : String → mmH → Prop), mm_Met L G S av h mc ms PR PX ∧ cs + mc ≤ MC ∧ sl + ms ≤ MS ∧
    (∀ (v : Option Value) (h1 : mmH), PR v h1 → K (v.toList ++ rest) h1 (cs + mc) (sl + ms)) ∧ (∀ (E : String) (h1 : mmH), PX E h1 → KX E h1 (cs + mc) (sl + ms))
/-- the condition of a branch -/
def mm_cond (c : ClassFile.Cond) (x y : Int32) : Prop := match c with
  | .eq => x = y
  | .ne => ¬ x = y
  | .lt => x < y
  | .ge => y ≤ x
  | .gt => y < x
  | .le => x ≤ y
def mm_ncond (c : ClassFile.Cond) (x y : Int32) : Prop := match c with
  | .eq => ¬ x = y
  | .ne => x = y
  | .lt => ¬ x < y
  | .ge => ¬ y ≤ x
  | .gt => ¬ y < x
  | .le => ¬ x ≤ y
def mm_kx3 (z : Nat) (P : Prop) : Prop := match z with
  | 3 => P
  | _ => False
def mm_kx4 (z : Nat) (P Q : Prop) : Prop := match z with
  | 3 => P
  | 4 => Q
  | _ => False
/-- one entry, as a formula; K: what is owed at the next entry -/
def mm_step (L : Launch) (G : mmG) (M : mmM) (MC MS : Nat) (PR : Option Value → mmH → Prop) (PX : String → mmH → Prop) (j : Nat) (ent : mmE) (l : List (Nat × Value)) (st : List Value) (h : mmH) (cs sl : Nat) (K : Nat → List (Nat × Value) → List Value → mmH → Nat → Nat → Prop) : Prop :=
  match ent with
  | (pc, i, _, x, y, z, _) => match i with
    | .aconst_null => K (j + 1) l (.null :: st) h cs sl
    | .iconst n => K (j + 1) l (.int (Int32.ofInt n) :: st) h cs sl
    | .bipush n => K (j + 1) l (.int (Int32.ofInt n) :: st) h cs sl
    | .sipush n => K (j + 1) l (.int (Int32.ofInt n) :: st) h cs sl
    | .lconst n => K (j + 1) l (.long (Int64.ofNat (n : Nat)) :: st) h cs sl
    | .ldc _ => K (j + 1) l (.int (Int32.ofNat x) :: st) h cs sl
    | .ldc2_w _ => K (j + 1) l (.long (Int64.ofInt ((x : Int) - y)) :: st) h cs sl
    | .iload k => match mm_at l k with
      | some (.int v) => K (j + 1) l (.int v :: st) h cs sl
      | _ => False
    | .iload_n k => match mm_at l k.val with
      | some (.int v) => K (j + 1) l (.int v :: st) h cs sl
      | _ => False
    | .lload k => match mm_at l k with
      | some (.long v) => K (j + 1) l (.long v :: st) h cs sl
      | _ => False
    | .lload_n k => match mm_at l k.val with
      | some (.long v) => K (j + 1) l (.long v :: st) h cs sl
      | _ => False
    | .aload k => match mm_at l k with
      | some (.ref v) => K (j + 1) l (.ref v :: st) h cs sl
      | some .null => K (j + 1) l (.null :: st) h cs sl
      | _ => False
    | .aload_n k => match mm_at l k.val with
      | some (.ref v) => K (j + 1) l (.ref v :: st) h cs sl
      | some .null => K (j + 1) l (.null :: st) h cs sl
      | _ => False
    | .istore k => match st with
      | .int v :: st => K (j + 1) (mm_st1 l k (.int v)) st h cs sl
      | _ => False
    | .istore_n k => match st with
      | .int v :: st => K (j + 1) (mm_st1 l k.val (.int v)) st h cs sl
      | _ => False
    | .lstore k => match st with
      | .long v :: st => K (j + 1) (mm_st2 l k (.long v)) st h cs sl
      | _ => False
    | .lstore_n k => match st with
      | .long v :: st => K (j + 1) (mm_st2 l k.val (.long v)) st h cs sl
      | _ => False
    | .astore k => match st with
      | .ref v :: st => K (j + 1) (mm_st1 l k (.ref v)) st h cs sl
      | .null :: st => K (j + 1) (mm_st1 l k .null) st h cs sl
      | _ => False
    | .astore_n k => match st with
      | .ref v :: st => K (j + 1) (mm_st1 l k.val (.ref v)) st h cs sl
      | .null :: st => K (j + 1) (mm_st1 l k.val .null) st h cs sl
      | _ => False
    | .iinc k n => match mm_at l k with
      | some (.int v) => K (j + 1) (mm_st1 l k (.int (v + Int32.ofInt n))) st h cs sl
      | _ => False
    | .iadd => match st with
      | .int b :: .int a :: st => K (j + 1) l (.int (a + b) :: st) h cs sl
      | _ => False
    | .isub => match st with
      | .int b :: .int a :: st => K (j + 1) l (.int (a - b) :: st) h cs sl
      | _ => False
    | .imul => match st with
      | .int b :: .int a :: st => K (j + 1) l (.int (a * b) :: st) h cs sl
      | _ => False
    | .iand => match st with
      | .int b :: .int a :: st => K (j + 1) l (.int (a &&& b) :: st) h cs sl
      | _ => False
    | .idiv => match st with
      | .int b :: .int a :: st => ¬ b = 0 ∧ K (j + 1) l (.int (a / b) :: st) h cs sl
      | _ => False
    | .irem => match st with
      | .int b :: .int a :: st => ¬ b = 0 ∧ K (j + 1) l (.int (a - a / b * b) :: st) h cs sl
      | _ => False
    | .ladd => match st with
      | .long b :: .long a :: st => K (j + 1) l (.long (a + b) :: st) h cs sl
      | _ => False
    | .lsub => match st with
      | .long b :: .long a :: st => K (j + 1) l (.long (a - b) :: st) h cs sl
      | _ => False
    | .lmul => match st with
      | .long b :: .long a :: st => K (j + 1) l (.long (a * b) :: st) h cs sl
      | _ => False
    | .land => match st with
      | .long b :: .long a :: st => K (j + 1) l (.long (a &&& b) :: st) h cs sl
      | _ => False
    | .lor => match st with
      | .long b :: .long a :: st => K (j + 1) l (.long (a ||| b) :: st) h cs sl
      | _ => False
    | .ldiv => match st with
      | .long b :: .long a :: st => ¬ b = 0 ∧ K (j + 1) l (.long (a / b) :: st) h cs sl
      | _ => False
    | .lrem => match st with
      | .long b :: .long a :: st => ¬ b = 0 ∧ K (j + 1) l (.long (a - a / b * b) :: st) h cs sl
      | _ => False
    | .lshl => match st with
      | .int b :: .long a :: st => K (j + 1) l (.long (a <<< (b.toInt64 &&& 63)) :: st) h cs sl
      | _ => False
    | .lshr => match st with
      | .int b :: .long a :: st => K (j + 1) l (.long (a >>> (b.toInt64 &&& 63)) :: st) h cs sl
      | _ => False
    | .lushr => match st with
      | .int b :: .long a :: st => K (j + 1) l (.long (a.toUInt64 >>> (b.toInt64.toUInt64 &&& Int64.toUInt64 63)).toInt64 :: st) h cs sl
      | _ => False
    | .lcmp => match st with
      | .long b :: .long a :: st => K (j + 1) l (.int (lg_cmp a b) :: st) h cs sl
      | _ => False
    | .i2l => match st with
      | .int a :: st => K (j + 1) l (.long a.toInt64 :: st) h cs sl
      | _ => False
    | .l2i => match st with
      | .long a :: st => K (j + 1) l (.int a.toInt32 :: st) h cs sl
      | _ => False
    | .i2b => match st with
      | .int a :: st => K (j + 1) l (.int a.toInt8.toInt32 :: st) h cs sl
      | _ => False
    | .i2s => match st with
      | .int a :: st => K (j + 1) l (.int a.toInt16.toInt32 :: st) h cs sl
      | _ => False
    | .dup => match st with
      | .int a :: st => K (j + 1) l (.int a :: .int a :: st) h cs sl
      | .ref a :: st => K (j + 1) l (.ref a :: .ref a :: st) h cs sl
      | _ => False
    | .dup2 => match st with
      | .int b :: .ref a :: st => K (j + 1) l (.int b :: .ref a :: .int b :: .ref a :: st) h cs sl
      | _ => False
    | .pop => match st with
      | .int _ :: st => K (j + 1) l st h cs sl
      | _ => False
    | .goto _ => K x l st h cs sl
    | .ifCond c _ => match st with
      | .int a :: st => (mm_cond c a 0 → K x l st h cs sl) ∧ (mm_ncond c a 0 → K (j + 1) l st h cs sl)
      | _ => False
    | .if_icmp c _ => match st with
      | .int b :: .int a :: st => (mm_cond c a b → K x l st h cs sl) ∧ (mm_ncond c a b → K (j + 1) l st h cs sl)
      | _ => False
    | .ifnull _ => match st with
      | .null :: st => K x l st h cs sl
      | .ref _ :: st => K (j + 1) l st h cs sl
      | _ => False
    | .ifnonnull _ => match st with
      | .ref _ :: st => K x l st h cs sl
      | .null :: st => K (j + 1) l st h cs sl
      | _ => False
    | .tableswitch d lo hi offs => match st with
      | .int a :: st => mm_swc a (fun o => K (mm_ix M ((pc : Int) + o)) l st h cs sl) offs.toList lo ∧ ((a.toInt < lo ∨ hi < a.toInt) → K (mm_ix M ((pc : Int) + d)) l st h cs sl)
      | _ => False
    | .getfield _ => match st with
      | .ref a :: st => ∃ fs : List Value, h a = some (.inr (x, fs)) ∧ (match fs[y]? with
        | some v => K (j + 1) l (v :: st) h cs sl
        | none => False)
      | _ => False
    | .putfield _ => match st with
      | v :: .ref a :: st => ∃ fs : List Value, h a = some (.inr (x, fs)) ∧ (match fs[y]? with
        | some _ => mm_fitb (mm_tf x y) v ∧ K (j + 1) l st (va_up h a (some (.inr (x, fs.set y v)))) cs sl
        | none => False)
      | _ => False
    | .arraylength => match st with
      | .ref a :: st => match x with
        | 1 => a = G.2.2.2.2.1 ∧ K (j + 1) l (.int (Int32.ofNat G.2.2.2.2.2.1) :: st) h cs sl
        | _ => ∃ (k : Nat) (A : vp_A), h a = some (.inl (mm_dA G k, A)) ∧ k < 10 ∧ K (j + 1) l (.int (Int32.ofNat A.1) :: st) h cs sl
      | _ => False
    | .iaload => match st with
      | .int i :: .ref a :: st => match x with
        | 1 => a = G.2.2.2.2.1 ∧ vp_in i G.2.2.2.2.2.1 ∧ K (j + 1) l (.int (G.2.2.2.2.2.2 i.toNatClampNeg) :: st) h cs sl
        | _ => ∃ (n : Nat) (f : Nat → Int32), h a = some (.inl (mm_dA G 0, n, .inl f)) ∧ vp_in i n ∧ K (j + 1) l (.int (f i.toNatClampNeg) :: st) h cs sl
      | _ => False
    | .saload => match st with
      | .int i :: .ref a :: st => ∃ (n : Nat) (f : Nat → Int32), h a = some (.inl (mm_dA G 3, n, .inl f)) ∧ vp_in i n ∧ K (j + 1) l (.int (f i.toNatClampNeg) :: st) h cs sl
      | _ => False
    | .baload => match st with
      | .int i :: .ref a :: st => match x with
        | 4 => ∃ (n : Nat) (f : Nat → Int32), h a = some (.inl (mm_dA G 4, n, .inl f)) ∧ vp_in i n ∧ K (j + 1) l (.int (f i.toNatClampNeg) :: st) h cs sl
        | _ => ∃ (n : Nat) (f : Nat → Int32), h a = some (.inl (mm_dA G 2, n, .inl f)) ∧ vp_in i n ∧ K (j + 1) l (.int (f i.toNatClampNeg) :: st) h cs sl
      | _ => False
    | .laload => match st with
      | .int i :: .ref a :: st => ∃ (n : Nat) (f : Nat → Int64), h a = some (.inl (mm_dA G 1, n, .inr (.inl f))) ∧ vp_in i n ∧ K (j + 1) l (.long (f i.toNatClampNeg) :: st) h cs sl
      | _ => False
    | .aaload => match st with
      | .int i :: .ref a :: st => ∃ (n : Nat) (f : Nat → Option Nat), h a = some (.inl (mm_dA G x, n, mm_inr f)) ∧ vp_in i n ∧ K (j + 1) l (va_rf (f i.toNatClampNeg) :: st) h cs sl
      | _ => False
    | .iastore => match st with
      | .int v :: .int i :: .ref a :: st => ∃ (n : Nat) (f : Nat → Int32), h a = some (.inl (mm_dA G 0, n, .inl f)) ∧ vp_in i n ∧ K (j + 1) l st (va_up h a (some (.inl (mm_dA G 0, n, .inl (upd f i.toNatClampNeg v))))) cs sl
      | _ => False
    | .sastore => match st with
      | .int v :: .int i :: .ref a :: st => ∃ (n : Nat) (f : Nat → Int32), h a = some (.inl (mm_dA G 3, n, .inl f)) ∧ vp_in i n ∧ K (j + 1) l st (va_up h a (some (.inl (mm_dA G 3, n, .inl (upd f i.toNatClampNeg (vp_nar .short v)))))) cs sl
      | _ => False
    | .bastore => match st with
      | .int v :: .int i :: .ref a :: st => match x with
        | 4 => ∃ (n : Nat) (f : Nat → Int32), h a = some (.inl (mm_dA G 4, n, .inl f)) ∧ vp_in i n ∧ K (j + 1) l st (va_up h a (some (.inl (mm_dA G 4, n, .inl (upd f i.toNatClampNeg (vp_nar .boolean v)))))) cs sl
        | _ => ∃ (n : Nat) (f : Nat → Int32), h a = some (.inl (mm_dA G 2, n, .inl f)) ∧ vp_in i n ∧ K (j + 1) l st (va_up h a (some (.inl (mm_dA G 2, n, .inl (upd f i.toNatClampNeg (vp_nar .byte v)))))) cs sl
      | _ => False
    | .lastore => match st with
      | .long v :: .int i :: .ref a :: st => ∃ (n : Nat) (f : Nat → Int64), h a = some (.inl (mm_dA G 1, n, .inr (.inl f))) ∧ vp_in i n ∧ K (j + 1) l st (va_up h a (some (.inl (mm_dA G 1, n, .inr (.inl (vp_updL f i.toNatClampNeg v)))))) cs sl
      | _ => False
    | .aastore => match st with
      | .ref v :: .int i :: .ref a :: st => ∃ (n : Nat) (f : Nat → Option Nat) (fs : List Value), h a = some (.inl (mm_dA G (5 + x), n, mm_inr f)) ∧ h v = some (.inr (x, fs)) ∧ vp_in i n ∧ K (j + 1) l st (va_up h a (some (.inl (mm_dA G (5 + x), n, mm_inr (va_up f i.toNatClampNeg (some v)))))) cs sl
      | _ => False
    | .newarray _ => match st with
      | .int n :: st => ¬ n < 0 ∧ n.toNatClampNeg ≤ 67108864 ∧ cs + 1 ≤ MC ∧ sl + n.toNatClampNeg ≤ MS ∧ ∀ a : Nat, h a = none → mm_A G a → K (j + 1) l (.ref a :: st) (va_up h a (some (.inl (mm_dA G x, mm_zero x n.toNatClampNeg)))) (cs + 1) (sl + n.toNatClampNeg)
      | _ => False
    | .anewarray _ => match st with
      | .int n :: st => ¬ n < 0 ∧ n.toNatClampNeg ≤ 67108864 ∧ cs + 1 ≤ MC ∧ sl + n.toNatClampNeg ≤ MS ∧ ∀ a : Nat, h a = none → mm_A G a → K (j + 1) l (.ref a :: st) (va_up h a (some (.inl (mm_dA G (5 + x), n.toNatClampNeg, mm_inr (fun _ => none))))) (cs + 1) (sl + n.toNatClampNeg)
      | _ => False
    | .new _ => match z with
      | 1 => Nat.ble (mm_words st) 8 = true ∧ cs + 1 ≤ MC ∧ sl + 6 ≤ MS ∧ PX (mm_en x) h
      | _ => cs + 1 ≤ MC ∧ sl + mm_N x ≤ MS ∧ ∀ a : Nat, h a = none → mm_A G a → K (j + 1) l (.ref a :: st) (va_up h a (some (.inr (x, mm_blank x)))) (cs + 1) (sl + mm_N x)
    | .invokespecial _ => match z with
      | 0 => match st with
        | .ref _ :: st => match Nat.ble (mm_words st) 8 with
          | true => K (j + 1) l st h cs sl
          | false => False
        | _ => False
      | _ => match M.2.2.2.1[x]? with
        | some S => match Nat.ble (mm_na S) st.length && Nat.ble (mm_words (st.drop (mm_na S))) 8 with
          | true => match (st.take (mm_na S)).reverse with
            | .ref b :: av => mm_call L G S MC MS (.ref b :: av) (st.drop (mm_na S)) h cs sl (fun st h cs sl => K (j + 1) l st h cs sl) (fun _ _ _ _ => False)
            | _ => False
          | false => False
        | none => False
    | .invokestatic _ => match z with
      | 9 => match st with
        | .int n :: .int dp :: .ref d :: .int sp :: .ref s :: st => match Nat.ble (mm_words st) 8 with
          | true => match x with
            | 2 => ∃ (n0 n1 : Nat) (f g : Nat → Int32), h s = some (.inl (mm_dA G 2, n0, .inl f)) ∧ h d = some (.inl (mm_dA G 2, n1, .inl g)) ∧ ¬ sp < 0 ∧ ¬ dp < 0 ∧ ¬ n < 0 ∧ sp.toNatClampNeg + n.toNatClampNeg ≤ n0 ∧ dp.toNatClampNeg + n.toNatClampNeg ≤ n1 ∧ (∀ i, i < n.toNatClampNeg → fits .byte (.int (f (sp.toNatClampNeg + i))) = true) ∧ K (j + 1) l st (va_up h d (some (.inl (mm_dA G 2, n1, .inl (va_cpy f g sp.toNatClampNeg dp.toNatClampNeg n.toNatClampNeg))))) cs sl
            | 3 => ∃ (n0 n1 : Nat) (f g : Nat → Int32), h s = some (.inl (mm_dA G 3, n0, .inl f)) ∧ h d = some (.inl (mm_dA G 3, n1, .inl g)) ∧ ¬ sp < 0 ∧ ¬ dp < 0 ∧ ¬ n < 0 ∧ sp.toNatClampNeg + n.toNatClampNeg ≤ n0 ∧ dp.toNatClampNeg + n.toNatClampNeg ≤ n1 ∧ (∀ i, i < n.toNatClampNeg → fits .short (.int (f (sp.toNatClampNeg + i))) = true) ∧ K (j + 1) l st (va_up h d (some (.inl (mm_dA G 3, n1, .inl (va_cpy f g sp.toNatClampNeg dp.toNatClampNeg n.toNatClampNeg))))) cs sl
            | _ => ∃ (n0 n1 : Nat) (f g : Nat → Int32), h s = some (.inl (mm_dA G 0, n0, .inl f)) ∧ h d = some (.inl (mm_dA G 0, n1, .inl g)) ∧ ¬ sp < 0 ∧ ¬ dp < 0 ∧ ¬ n < 0 ∧ sp.toNatClampNeg + n.toNatClampNeg ≤ n0 ∧ dp.toNatClampNeg + n.toNatClampNeg ≤ n1 ∧ (∀ i, i < n.toNatClampNeg → fits .int (.int (f (sp.toNatClampNeg + i))) = true) ∧ K (j + 1) l st (va_up h d (some (.inl (mm_dA G 0, n1, .inl (va_cpy f g sp.toNatClampNeg dp.toNatClampNeg n.toNatClampNeg))))) cs sl
          | false => False
        | _ => False
      | _ => match M.2.2.2.1[x]? with
        | some S => match Nat.ble (mm_na S) st.length && Nat.ble (mm_words (st.drop (mm_na S))) 8 with
          | true => mm_call L G S MC MS (st.take (mm_na S)).reverse (st.drop (mm_na S)) h cs sl (fun st h cs sl => K (j + 1) l st h cs sl) (fun E h1 cs1 sl1 => mm_kx3 z (PX E h1))
          | false => False
        | none => False
    | .invokevirtual _ => match M.2.2.2.1[x]? with
        | some S => match Nat.ble (mm_na S) st.length && Nat.ble (mm_words (st.drop (mm_na S))) 8 with
          | true => match (st.take (mm_na S)).reverse with
            | .ref b :: av => (∃ fs : List Value, h b = some (.inr (y, fs))) ∧ mm_call L G S MC MS (.ref b :: av) (st.drop (mm_na S)) h cs sl (fun st h cs sl => K (j + 1) l st h cs sl) (fun E h1 cs1 sl1 => mm_kx4 z (PX E h1) (mm_hx E (fun k => ∀ q : Nat, K k l [.ref q] h1 cs1 sl1) M.2.2.2.2.2))
            | _ => False
          | false => False
        | none => False
    | .ireturn => match st with
      | [.int v] => match M.1.2.2.2.1 with
        | some .int => PR (some (.int v)) h ∧ cs ≤ MC ∧ sl ≤ MS
        | some .boolean => (v = 0 ∨ v = 1) ∧ PR (some (.int v)) h ∧ cs ≤ MC ∧ sl ≤ MS
        | some .byte => v.toInt8.toInt32 = v ∧ PR (some (.int v)) h ∧ cs ≤ MC ∧ sl ≤ MS
        | _ => False
      | _ => False
    | .lreturn => match st with
      | [.long v] => PR (some (.long v)) h ∧ cs ≤ MC ∧ sl ≤ MS
      | _ => False
    | .areturn => match st with
      | [.ref v] => PR (some (.ref v)) h ∧ cs ≤ MC ∧ sl ≤ MS
      | [.null] => PR (some .null) h ∧ cs ≤ MC ∧ sl ≤ MS
      | _ => False
    | .return_ => match st with
      | [] => PR none h ∧ cs ≤ MC ∧ sl ≤ MS
      | _ => False
    | _ => False
/-- from entry j on, at most f entries, up to the loop heads -/
def mm_run (L : Launch) (G : mmG) (M : mmM) (MC MS : Nat) (PR : Option Value → mmH → Prop) (PX : String → mmH → Prop) (θ : mmT) : Nat → Nat → List (Nat × Value) → List Value → mmH → Nat → Nat → Prop
  | 0, j, l, st, h, cs, sl => mm_W L G M MC MS PR PX θ j l st h cs sl
  | f + 1, j, l, st, h, cs, sl => match M.2.2.1[j]? with
    | some ent => mm_step L G M MC MS PR PX j ent l st h cs sl (fun j' l' st' h' cs' sl' => match M.2.2.2.2.1.elem j' with
      | true => mm_W L G M MC MS PR PX θ j' l' st' h' cs' sl'
      | false => mm_run L G M MC MS PR PX θ f j' l' st' h' cs' sl')
    | none => False
