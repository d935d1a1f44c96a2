/-! the machine once more, over Int: what lies on the stack is Int or an address -/
abbrev AV : Type := Option Nat ⊕ Int ⊕ Int ⊕ (Int × Int)
abbrev aR (a : Nat) : AV := .inl (some a)
abbrev aN : AV := .inl none
abbrev aI (v : Int) : AV := .inr (.inl v)
abbrev aL (v : Int) : AV := .inr (.inr (.inl v))
def cv : AV → Value
  | .inl none => .null
  | .inl (some a) => .ref a
  | .inr (.inl v) => .int (iI v)
  | .inr (.inr (.inl v)) => .long (iL v)
  | .inr (.inr (.inr (a, b))) => .int (lg_cmp (iL a) (iL b))
def cl (l : List (Nat × AV)) : List (Nat × Value) := l.map (fun q => (q.1, cv q.2))
def ac : AV → Nat
  | .inr (.inr (.inl _)) => 2
  | _ => 1
def mi_at : List (Nat × AV) → Nat → Option AV
  | [], _ => none
  | (i, v) :: r, k => match Nat.beq i k with
    | true => some v
    | false => mi_at r k
def mi_st1 (l : List (Nat × AV)) (i : Nat) (v : AV) : List (Nat × AV) := (i, v) :: l.filter (fun q => !(q.1 == i) && !(q.1 + 1 == i && ac q.2 == 2))
def mi_st2 (l : List (Nat × AV)) (i : Nat) (v : AV) : List (Nat × AV) := (i, v) :: l.filter (fun q => !(q.1 == i) && (!(q.1 == i + 1) && !(q.1 + 1 == i && ac q.2 == 2)))
def mi_cond (c : ClassFile.Cond) (x y : Int) : Prop := match c with
  | .eq => x = y
  | .ne => ¬ x = y
  | .lt => x < y
  | .ge => y ≤ x
  | .gt => y < x
  | .le => x ≤ y
def mi_ncond (c : ClassFile.Cond) (x y : Int) : Prop := match c with
  | .eq => ¬ x = y
  | .ne => x = y
  | .lt => ¬ x < y
  | .ge => ¬ y ≤ x
  | .gt => ¬ y < x
  | .le => ¬ x ≤ y
def mi_fitb (ty : FieldType) (v : AV) : Prop := match ty, v with
  | .int, .inr (.inl _) => True
  | .long, .inr (.inr (.inl _)) => True
  | .boolean, .inr (.inl k) => k = 0 ∨ k = 1
  | .object _, .inl _ => True
  | .array _, .inl _ => True
  | _, _ => False
def mi_swc (v : Int) (T : Int → Prop) : List Int → Int → Prop
  | [], _ => True
  | o :: r, lo => (v = lo → T o) ∧ mi_swc v T r (lo + 1)
def mi_nar (k : Nat) (v : Int) : Prop := match k with
  | 0 => True
  | 2 => -128 ≤ v ∧ v < 128
  | 3 => -32768 ≤ v ∧ v < 32768
  | _ => v = 0 ∨ v = 1
def mi_call (L : Launch) (G : mmG) (S : mmS) (MC MS : Nat) (av rest : List AV) (h : mmH) (cs sl : Nat) (K : List AV → mmH → Nat → Nat → Prop) (KX : String → mmH → Nat → Nat → Prop) : Prop :=
  ∃ (mc ms : Nat) (PR : Option Value → mmH → Prop) (PX : String → mmH → Prop), mm_Met L G S (av.map cv) h mc ms PR PX ∧ cs + mc ≤ MC ∧ sl + ms ≤ MS ∧
    (∀ (v : Option Value) (h1 : mmH), PR v h1 → ∃ r : Option AV, v = r.map cv ∧ K (r.toList ++ rest) h1 (cs + mc) (sl + ms)) ∧ (∀ (E : String) (h1 : mmH), PX E h1 → KX E h1 (cs + mc) (sl + ms))
/-- an array is read -/
def mi_ld (G : mmG) (k : Nat) (i : Int) (a : Nat) (h : mmH) (K : Int → Prop) : Prop :=
  ∃ (n : Nat) (g : Nat → Int) (v : Int), h a = some (.inl (mm_dA G k, n, .inl (fun q => iI (g q)))) ∧ (0 ≤ i ∧ i < n ∧ i < 2147483648) ∧ g i.toNat = v ∧ K v
def mi_ldL (G : mmG) (i : Int) (a : Nat) (h : mmH) (K : Int → Prop) : Prop :=
  ∃ (n : Nat) (g : Nat → Int) (v : Int), h a = some (.inl (mm_dA G 1, n, .inr (.inl (fun q => iL (g q))))) ∧ (0 ≤ i ∧ i < n ∧ i < 2147483648) ∧ g i.toNat = v ∧ K v
def mi_sto (G : mmG) (k : Nat) (v i : Int) (a : Nat) (h : mmH) (K : mmH → Prop) : Prop :=
  ∃ (n : Nat) (g : Nat → Int) (h' : mmH), h a = some (.inl (mm_dA G k, n, .inl (fun q => iI (g q)))) ∧ (0 ≤ i ∧ i < n ∧ i < 2147483648) ∧ mi_nar k v ∧ va_up h a (some (.inl (mm_dA G k, n, .inl (fun q => iI (if q = i.toNat then v else g q))))) = h' ∧ K h'
def mi_stoL (G : mmG) (v i : Int) (a : Nat) (h : mmH) (K : mmH → Prop) : Prop :=
  ∃ (n : Nat) (g : Nat → Int) (h' : mmH), h a = some (.inl (mm_dA G 1, n, .inr (.inl (fun q => iL (g q))))) ∧ (0 ≤ i ∧ i < n ∧ i < 2147483648) ∧ va_up h a (some (.inl (mm_dA G 1, n, .inr (.inl (fun q => iL (if q = i.toNat then v else g q)))))) = h' ∧ K h'
def mi_cpy (f g : Nat → Int) (s d n : Nat) : Nat → Int := fun q => if d ≤ q ∧ q < d + n then f (s + (q - d)) else g q
def mi_acp (G : mmG) (k : Nat) (n dp sp : Int) (d s : Nat) (h : mmH) (K : mmH → Prop) : Prop :=
  ∃ (n0 n1 : Nat) (f g : Nat → Int) (h' : mmH), h s = some (.inl (mm_dA G k, n0, .inl (fun q => iI (f q)))) ∧ h d = some (.inl (mm_dA G k, n1, .inl (fun q => iI (g q)))) ∧ (0 ≤ sp ∧ 0 ≤ dp ∧ 0 ≤ n ∧ sp + n ≤ n0 ∧ dp + n ≤ n1 ∧ n0 < 2147483648 ∧ n1 < 2147483648) ∧ (∀ i : Nat, (i : Int) < n → mi_nar k (f (sp.toNat + i))) ∧ va_up h d (some (.inl (mm_dA G k, n1, .inl (fun q => iI (mi_cpy f g sp.toNat dp.toNat n.toNat q))))) = h' ∧ K h'
def mi_step (L : Launch) (G : mmG) (M : mmM) (MC MS : Nat) (PR : Option Value → mmH → Prop) (PX : String → mmH → Prop) (j : Nat) (ent : mmE) (l : List (Nat × AV)) (st : List AV) (h : mmH) (cs sl : Nat) (K : Nat → List (Nat × AV) → List AV → mmH → Nat → Nat → Prop) : Prop :=
  match ent with
  | (pc, i, _, x, y, z, _) => match i with
    | .aconst_null => K (j + 1) l (.inl none :: st) h cs sl
    | .iconst n => K (j + 1) l (.inr (.inl n) :: st) h cs sl
    | .bipush n => K (j + 1) l (.inr (.inl n) :: st) h cs sl
    | .sipush n => K (j + 1) l (.inr (.inl n) :: st) h cs sl
    | .lconst n => ∃ v : Int, ((n : Nat) : Int) = v ∧ K (j + 1) l (.inr (.inr (.inl v)) :: st) h cs sl
    | .ldc _ => ∃ v : Int, (x : Int) = v ∧ K (j + 1) l (.inr (.inl v) :: st) h cs sl
    | .ldc2_w _ => ∃ v : Int, (x : Int) - y = v ∧ K (j + 1) l (.inr (.inr (.inl v)) :: st) h cs sl
    | .iload k => match mi_at l k with
      | some (.inr (.inl v)) => K (j + 1) l (.inr (.inl v) :: st) h cs sl
      | _ => False
    | .iload_n k => match mi_at l k.val with
      | some (.inr (.inl v)) => K (j + 1) l (.inr (.inl v) :: st) h cs sl
      | _ => False
    | .lload k => match mi_at l k with
      | some (.inr (.inr (.inl v))) => K (j + 1) l (.inr (.inr (.inl v)) :: st) h cs sl
      | _ => False
    | .lload_n k => match mi_at l k.val with
      | some (.inr (.inr (.inl v))) => K (j + 1) l (.inr (.inr (.inl v)) :: st) h cs sl
      | _ => False
    | .aload k => match mi_at l k with
      | some (.inl v) => K (j + 1) l (.inl v :: st) h cs sl
      | _ => False
    | .aload_n k => match mi_at l k.val with
      | some (.inl v) => K (j + 1) l (.inl v :: st) h cs sl
      | _ => False
    | .istore k => match st with
      | .inr (.inl v) :: st => K (j + 1) (mi_st1 l k (.inr (.inl v))) st h cs sl
      | _ => False
    | .istore_n k => match st with
      | .inr (.inl v) :: st => K (j + 1) (mi_st1 l k.val (.inr (.inl v))) st h cs sl
      | _ => False
    | .lstore k => match st with
      | .inr (.inr (.inl v)) :: st => K (j + 1) (mi_st2 l k (.inr (.inr (.inl v)))) st h cs sl
      | _ => False
    | .lstore_n k => match st with
      | .inr (.inr (.inl v)) :: st => K (j + 1) (mi_st2 l k.val (.inr (.inr (.inl v)))) st h cs sl
      | _ => False
    | .astore k => match st with
      | .inl v :: st => K (j + 1) (mi_st1 l k (.inl v)) st h cs sl
      | _ => False
    | .astore_n k => match st with
      | .inl v :: st => K (j + 1) (mi_st1 l k.val (.inl v)) st h cs sl
      | _ => False
    | .iinc k n => match mi_at l k with
      | some (.inr (.inl v)) => K (j + 1) (mi_st1 l k (.inr (.inl (v + n)))) st h cs sl
      | _ => False
    | .iadd => match st with
      | .inr (.inl b) :: .inr (.inl a) :: st => K (j + 1) l (.inr (.inl (a + b)) :: st) h cs sl
      | _ => False
    | .isub => match st with
      | .inr (.inl b) :: .inr (.inl a) :: st => K (j + 1) l (.inr (.inl (a - b)) :: st) h cs sl
      | _ => False
    | .imul => match st with
      | .inr (.inl b) :: .inr (.inl a) :: st => K (j + 1) l (.inr (.inl (a * b)) :: st) h cs sl
      | _ => False
    | .iand => match st with
      | .inr (.inl b) :: .inr (.inl a) :: st => ∃ r : Int, iI a &&& iI b = iI r ∧ K (j + 1) l (.inr (.inl r) :: st) h cs sl
      | _ => False
    | .idiv => match st with
      | .inr (.inl b) :: .inr (.inl a) :: st => (0 ≤ a ∧ a < 2147483648 ∧ 0 < b ∧ b < 2147483648) ∧ K (j + 1) l (.inr (.inl (a / b)) :: st) h cs sl
      | _ => False
    | .irem => match st with
      | .inr (.inl b) :: .inr (.inl a) :: st => (0 ≤ a ∧ a < 2147483648 ∧ 0 < b ∧ b < 2147483648) ∧ K (j + 1) l (.inr (.inl (a % b)) :: st) h cs sl
      | _ => False
    | .ladd => match st with
      | .inr (.inr (.inl b)) :: .inr (.inr (.inl a)) :: st => K (j + 1) l (.inr (.inr (.inl (a + b))) :: st) h cs sl
      | _ => False
    | .lsub => match st with
      | .inr (.inr (.inl b)) :: .inr (.inr (.inl a)) :: st => K (j + 1) l (.inr (.inr (.inl (a - b))) :: st) h cs sl
      | _ => False
    | .lmul => match st with
      | .inr (.inr (.inl b)) :: .inr (.inr (.inl a)) :: st => K (j + 1) l (.inr (.inr (.inl (a * b))) :: st) h cs sl
      | _ => False
    | .land => match st with
      | .inr (.inr (.inl b)) :: .inr (.inr (.inl a)) :: st => ∃ r : Int, iL a &&& iL b = iL r ∧ K (j + 1) l (.inr (.inr (.inl r)) :: st) h cs sl
      | _ => False
    | .lor => match st with
      | .inr (.inr (.inl b)) :: .inr (.inr (.inl a)) :: st => ∃ r : Int, iL a ||| iL b = iL r ∧ K (j + 1) l (.inr (.inr (.inl r)) :: st) h cs sl
      | _ => False
    | .ldiv => match st with
      | .inr (.inr (.inl b)) :: .inr (.inr (.inl a)) :: st => (0 ≤ a ∧ a < 9223372036854775808 ∧ 0 < b ∧ b < 9223372036854775808) ∧ K (j + 1) l (.inr (.inr (.inl (a / b))) :: st) h cs sl
      | _ => False
    | .lrem => match st with
      | .inr (.inr (.inl b)) :: .inr (.inr (.inl a)) :: st => (0 ≤ a ∧ a < 9223372036854775808 ∧ 0 < b ∧ b < 9223372036854775808) ∧ K (j + 1) l (.inr (.inr (.inl (a % b))) :: st) h cs sl
      | _ => False
    | .lshl => match st with
      | .inr (.inl b) :: .inr (.inr (.inl a)) :: st => ∃ r : Int, iL a <<< ((iI b).toInt64 &&& 63) = iL r ∧ K (j + 1) l (.inr (.inr (.inl r)) :: st) h cs sl
      | _ => False
    | .lshr => match st with
      | .inr (.inl b) :: .inr (.inr (.inl a)) :: st => ∃ r : Int, iL a >>> ((iI b).toInt64 &&& 63) = iL r ∧ K (j + 1) l (.inr (.inr (.inl r)) :: st) h cs sl
      | _ => False
    | .lushr => match st with
      | .inr (.inl b) :: .inr (.inr (.inl a)) :: st => ∃ r : Int, ((iL a).toUInt64 >>> ((iI b).toInt64.toUInt64 &&& Int64.toUInt64 63)).toInt64 = iL r ∧ K (j + 1) l (.inr (.inr (.inl r)) :: st) h cs sl
      | _ => False
    | .lcmp => match st with
      | .inr (.inr (.inl b)) :: .inr (.inr (.inl a)) :: st => K (j + 1) l (.inr (.inr (.inr (a, b))) :: st) h cs sl
      | _ => False
    | .i2l => match st with
      | .inr (.inl a) :: st => (-2147483648 ≤ a ∧ a < 2147483648) ∧ K (j + 1) l (.inr (.inr (.inl a)) :: st) h cs sl
      | _ => False
    | .l2i => match st with
      | .inr (.inr (.inl a)) :: st => K (j + 1) l (.inr (.inl a) :: st) h cs sl
      | _ => False
    | .i2b => match st with
      | .inr (.inl a) :: st => ∃ r : Int, (iI a).toInt8.toInt32 = iI r ∧ K (j + 1) l (.inr (.inl r) :: st) h cs sl
      | _ => False
    | .i2s => match st with
      | .inr (.inl a) :: st => ∃ r : Int, (iI a).toInt16.toInt32 = iI r ∧ K (j + 1) l (.inr (.inl r) :: st) h cs sl
      | _ => False
    | .dup => match st with
      | .inr (.inl a) :: st => K (j + 1) l (.inr (.inl a) :: .inr (.inl a) :: st) h cs sl
      | .inl (some a) :: st => K (j + 1) l (.inl (some a) :: .inl (some a) :: st) h cs sl
      | _ => False
    | .dup2 => match st with
      | .inr (.inl b) :: .inl (some a) :: st => K (j + 1) l (.inr (.inl b) :: .inl (some a) :: .inr (.inl b) :: .inl (some a) :: st) h cs sl
      | _ => False
    | .pop => match st with
      | .inr (.inl _) :: st => K (j + 1) l st h cs sl
      | _ => False
    | .goto _ => K x l st h cs sl
    | .ifCond c _ => match st with
      | .inr (.inl a) :: st => (-2147483648 ≤ a ∧ a < 2147483648) ∧ (mi_cond c a 0 → K x l st h cs sl) ∧ (mi_ncond c a 0 → K (j + 1) l st h cs sl)
      | .inr (.inr (.inr (a, b))) :: st => (-9223372036854775808 ≤ a ∧ a < 9223372036854775808 ∧ -9223372036854775808 ≤ b ∧ b < 9223372036854775808) ∧ (mi_cond c a b → K x l st h cs sl) ∧ (mi_ncond c a b → K (j + 1) l st h cs sl)
      | _ => False
    | .if_icmp c _ => match st with
      | .inr (.inl b) :: .inr (.inl a) :: st => (-2147483648 ≤ a ∧ a < 2147483648 ∧ -2147483648 ≤ b ∧ b < 2147483648) ∧ (mi_cond c a b → K x l st h cs sl) ∧ (mi_ncond c a b → K (j + 1) l st h cs sl)
      | _ => False
    | .ifnull _ => match st with
      | .inl none :: st => K x l st h cs sl
      | .inl (some _) :: st => K (j + 1) l st h cs sl
      | _ => False
    | .ifnonnull _ => match st with
      | .inl (some _) :: st => K x l st h cs sl
      | .inl none :: st => K (j + 1) l st h cs sl
      | _ => False
    | .tableswitch d lo hi offs => match st with
      | .inr (.inl a) :: st => (-2147483648 ≤ a ∧ a < 2147483648) ∧ mi_swc a (fun o => K (mm_ix M ((pc : Int) + o)) l st h cs sl) offs.toList lo ∧ ((a < lo ∨ hi < a) → K (mm_ix M ((pc : Int) + d)) l st h cs sl)
      | _ => False
    | .getfield _ => match st with
      | .inl (some a) :: st => ∃ fs : List AV, h a = some (.inr (x, fs.map cv)) ∧ (match fs[y]? with
        | some v => ∃ v' : AV, v = v' ∧ K (j + 1) l (v' :: st) h cs sl
        | none => False)
      | _ => False
    | .putfield _ => match st with
      | v :: .inl (some a) :: st => ∃ fs : List AV, h a = some (.inr (x, fs.map cv)) ∧ (match fs[y]? with
        | some _ => mi_fitb (mm_tf x y) v ∧ ∃ h' : mmH, va_up h a (some (.inr (x, (fs.set y v).map cv))) = h' ∧ K (j + 1) l st h' cs sl
        | none => False)
      | _ => False
    | .arraylength => match st with
      | .inl (some a) :: st => match x with
        | 1 => a = G.2.2.2.2.1 ∧ K (j + 1) l (.inr (.inl (G.2.2.2.2.2.1 : Int)) :: st) h cs sl
        | _ => ∃ (k : Nat) (A : vp_A), h a = some (.inl (mm_dA G k, A)) ∧ k < 10 ∧ ∃ n : Int, (A.1 : Int) = n ∧ K (j + 1) l (.inr (.inl n) :: st) h cs sl
      | _ => False
    | .iaload => match st with
      | .inr (.inl i) :: .inl (some a) :: st => match x with
        | 1 => a = G.2.2.2.2.1 ∧ (0 ≤ i ∧ i < G.2.2.2.2.2.1 ∧ i < 2147483648) ∧ K (j + 1) l (.inr (.inl (G.2.2.2.2.2.2 i.toNat).toInt) :: st) h cs sl
        | _ => mi_ld G 0 i a h (fun v => K (j + 1) l (.inr (.inl v) :: st) h cs sl)
      | _ => False
    | .saload => match st with
      | .inr (.inl i) :: .inl (some a) :: st => mi_ld G 3 i a h (fun v => K (j + 1) l (.inr (.inl v) :: st) h cs sl)
      | _ => False
    | .baload => match st with
      | .inr (.inl i) :: .inl (some a) :: st => match x with
        | 4 => mi_ld G 4 i a h (fun v => K (j + 1) l (.inr (.inl v) :: st) h cs sl)
        | _ => mi_ld G 2 i a h (fun v => K (j + 1) l (.inr (.inl v) :: st) h cs sl)
      | _ => False
    | .laload => match st with
      | .inr (.inl i) :: .inl (some a) :: st => mi_ldL G i a h (fun v => K (j + 1) l (.inr (.inr (.inl v)) :: st) h cs sl)
      | _ => False
    | .aaload => match st with
      | .inr (.inl i) :: .inl (some a) :: st => ∃ (n : Nat) (f : Nat → Option Nat) (v : Option Nat), h a = some (.inl (mm_dA G x, n, mm_inr f)) ∧ (0 ≤ i ∧ i < n ∧ i < 2147483648) ∧ f i.toNat = v ∧ K (j + 1) l (.inl v :: st) h cs sl
      | _ => False
    | .iastore => match st with
      | .inr (.inl v) :: .inr (.inl i) :: .inl (some a) :: st => mi_sto G 0 v i a h (fun h' => K (j + 1) l st h' cs sl)
      | _ => False
    | .sastore => match st with
      | .inr (.inl v) :: .inr (.inl i) :: .inl (some a) :: st => mi_sto G 3 v i a h (fun h' => K (j + 1) l st h' cs sl)
      | _ => False
    | .bastore => match st with
      | .inr (.inl v) :: .inr (.inl i) :: .inl (some a) :: st => match x with
        | 4 => mi_sto G 4 v i a h (fun h' => K (j + 1) l st h' cs sl)
        | _ => mi_sto G 2 v i a h (fun h' => K (j + 1) l st h' cs sl)
      | _ => False
    | .lastore => match st with
      | .inr (.inr (.inl v)) :: .inr (.inl i) :: .inl (some a) :: st => mi_stoL G v i a h (fun h' => K (j + 1) l st h' cs sl)
      | _ => False
    | .aastore => match st with
      | .inl (some v) :: .inr (.inl i) :: .inl (some a) :: st => ∃ (n : Nat) (f : Nat → Option Nat) (fs : List Value) (h' : mmH), h a = some (.inl (mm_dA G (5 + x), n, mm_inr f)) ∧ h v = some (.inr (x, fs)) ∧ (0 ≤ i ∧ i < n ∧ i < 2147483648) ∧ va_up h a (some (.inl (mm_dA G (5 + x), n, mm_inr (va_up f i.toNat (some v))))) = h' ∧ K (j + 1) l st h' cs sl
      | _ => False
    | .newarray _ => match st with
      | .inr (.inl n) :: st => (0 ≤ n ∧ n ≤ 67108864) ∧ cs + 1 ≤ MC ∧ sl + n.toNat ≤ MS ∧ ∀ a : Nat, h a = none → mm_A G a → K (j + 1) l (.inl (some a) :: st) (va_up h a (some (.inl (mm_dA G x, mm_zero x n.toNat)))) (cs + 1) (sl + n.toNat)
      | _ => False
    | .anewarray _ => match st with
      | .inr (.inl n) :: st => (0 ≤ n ∧ n ≤ 67108864) ∧ cs + 1 ≤ MC ∧ sl + n.toNat ≤ MS ∧ ∀ a : Nat, h a = none → mm_A G a → K (j + 1) l (.inl (some a) :: st) (va_up h a (some (.inl (mm_dA G (5 + x), n.toNat, mm_inr (fun _ => none))))) (cs + 1) (sl + n.toNat)
      | _ => False
    | .new _ => match z with
      | 1 => Nat.ble (mm_words (st.map cv)) 8 = true ∧ cs + 1 ≤ MC ∧ sl + 6 ≤ MS ∧ PX (mm_en x) h
      | _ => cs + 1 ≤ MC ∧ sl + mm_N x ≤ MS ∧ ∀ a : Nat, h a = none → mm_A G a → K (j + 1) l (.inl (some a) :: st) (va_up h a (some (.inr (x, mm_blank x)))) (cs + 1) (sl + mm_N x)
    | .invokespecial _ => match z with
      | 0 => match st with
        | .inl (some _) :: st => match Nat.ble (mm_words (st.map cv)) 8 with
          | true => K (j + 1) l st h cs sl
          | false => False
        | _ => False
      | _ => match M.2.2.2.1[x]? with
        | some S => match Nat.ble (mm_na S) st.length && Nat.ble (mm_words ((st.drop (mm_na S)).map cv)) 8 with
          | true => match (st.take (mm_na S)).reverse with
            | .inl (some b) :: av => mi_call L G S MC MS (.inl (some b) :: av) (st.drop (mm_na S)) h cs sl (fun st h cs sl => K (j + 1) l st h cs sl) (fun _ _ _ _ => False)
            | _ => False
          | false => False
        | none => False
    | .invokestatic _ => match z with
      | 9 => match st with
        | .inr (.inl n) :: .inr (.inl dp) :: .inl (some d) :: .inr (.inl sp) :: .inl (some s) :: st => match Nat.ble (mm_words (st.map cv)) 8 with
          | true => match x with
            | 2 => mi_acp G 2 n dp sp d s h (fun h' => K (j + 1) l st h' cs sl)
            | 3 => mi_acp G 3 n dp sp d s h (fun h' => K (j + 1) l st h' cs sl)
            | _ => mi_acp G 0 n dp sp d s h (fun h' => K (j + 1) l st h' cs sl)
          | false => False
        | _ => False
      | _ => match M.2.2.2.1[x]? with
        | some S => match Nat.ble (mm_na S) st.length && Nat.ble (mm_words ((st.drop (mm_na S)).map cv)) 8 with
          | true => mi_call L G S MC MS (st.take (mm_na S)).reverse (st.drop (mm_na S)) h cs sl (fun st h cs sl => K (j + 1) l st h cs sl) (fun E h1 cs1 sl1 => mm_kx3 z (PX E h1))
          | false => False
        | none => False
    | .invokevirtual _ => match M.2.2.2.1[x]? with
        | some S => match Nat.ble (mm_na S) st.length && Nat.ble (mm_words ((st.drop (mm_na S)).map cv)) 8 with
          | true => match (st.take (mm_na S)).reverse with
            | .inl (some b) :: av => (∃ fs : List Value, h b = some (.inr (y, fs))) ∧ mi_call L G S MC MS (.inl (some b) :: av) (st.drop (mm_na S)) h cs sl (fun st h cs sl => K (j + 1) l st h cs sl) (fun E h1 cs1 sl1 => mm_kx4 z (PX E h1) (mm_hx E (fun k => ∀ q : Nat, K k l [.inl (some q)] h1 cs1 sl1) M.2.2.2.2.2))
            | _ => False
          | false => False
        | none => False
    | .ireturn => match st with
      | [.inr (.inl v)] => match M.1.2.2.2.1 with
        | some .int => PR (some (.int (iI v))) h ∧ cs ≤ MC ∧ sl ≤ MS
        | some .boolean => (v = 0 ∨ v = 1) ∧ PR (some (.int (iI v))) h ∧ cs ≤ MC ∧ sl ≤ MS
        | some .byte => (-128 ≤ v ∧ v < 128) ∧ PR (some (.int (iI v))) h ∧ cs ≤ MC ∧ sl ≤ MS
        | _ => False
      | _ => False
    | .lreturn => match st with
      | [.inr (.inr (.inl v))] => PR (some (.long (iL v))) h ∧ cs ≤ MC ∧ sl ≤ MS
      | _ => False
    | .areturn => match st with
      | [.inl (some v)] => PR (some (.ref v)) h ∧ cs ≤ MC ∧ sl ≤ MS
      | [.inl none] => PR (some .null) h ∧ cs ≤ MC ∧ sl ≤ MS
      | _ => False
    | .return_ => match st with
      | [] => PR none h ∧ cs ≤ MC ∧ sl ≤ MS
      | _ => False
    | _ => False
def mi_run (L : Launch) (G : mmG) (M : mmM) (MC MS : Nat) (PR : Option Value → mmH → Prop) (PX : String → mmH → Prop) (θ : mmT) : Nat → Nat → List (Nat × AV) → List AV → mmH → Nat → Nat → Prop
  | 0, j, l, st, h, cs, sl => mm_W L G M MC MS PR PX θ j (cl l) (st.map cv) h cs sl
  | f + 1, j, l, st, h, cs, sl => match M.2.2.1[j]? with
    | some ent => mi_step L G M MC MS PR PX j ent l st h cs sl (fun j' l' st' h' cs' sl' => match M.2.2.2.2.1.elem j' with
      | true => mm_W L G M MC MS PR PX θ j' (cl l') (st'.map cv) h' cs' sl'
      | false => mi_run L G M MC MS PR PX θ f j' l' st' h' cs' sl')
    | none => False
