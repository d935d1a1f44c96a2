/-! A small machine over the kit's W: heaps as partial maps, code as lists of entries; one step as a formula (mm_step), its soundness (mm_sound). -/
abbrev mmH : Type := Nat → Option va_E
/-- the law's start: state, arguments; numbers of classes and slots; array classes; the script: cell, length, ints -/
abbrev mmG : Type := State × Array Value × va_G × (Nat → ClassId) × Nat × Nat × (Nat → Int32)
abbrev mm_D (G : mmG) : va_G := G.2.2.1
abbrev mm_dA (G : mmG) : Nat → ClassId := G.2.2.2.1
abbrev mm_A (G : mmG) : Nat → Prop := fun q => G.1.heap.size ≤ q
def mm_ty (k : Nat) : FieldType := match k with
  | 0 => .int
  | 1 => .long
  | 2 => .byte
  | 3 => .short
  | 4 => .boolean
  | 5 => .object RX0
  | 6 => .object RX1
  | 7 => .object RX2
  | 8 => .object RX3
  | _ => .object RX4
def mm_T (c : Nat) : u_T := match c with
  | 0 => TX0
  | 1 => TX1
  | 2 => TX2
  | 3 => TX3
  | 4 => TX4
  | 5 => TX5
  | _ => TX6
def mm_tf (c : Nat) : Nat → FieldType := match c with
  | 0 => tyX0
  | 1 => tyX1
  | 2 => tyX2
  | 3 => tyX3
  | 4 => tyX4
  | 5 => tyX5
  | _ => tyX6
def mm_N (c : Nat) : Nat := match c with
  | 0 => 11
  | 1 => 14
  | 2 => 12
  | 3 => 16
  | 4 => 6
  | 5 => 8
  | _ => 61
def mm_cn (c : Nat) : String := match c with
  | 0 => RX0
  | 1 => RX1
  | 2 => RX2
  | 3 => RX3
  | 4 => RX4
  | 5 => RX5
  | _ => RX6
theorem mm_cl {c : Nat} (h : c < 7) : vwCl[c]? = some (mm_cn c, mm_T c, mm_N c) := by
  match c, h with
  | 0, _ => rfl
  | 1, _ => rfl
  | 2, _ => rfl
  | 3, _ => rfl
  | 4, _ => rfl
  | 5, _ => rfl
  | 6, _ => rfl
theorem mm_nm {c : Nat} (h : c < 7) : ∀ a, a < mm_N c → ∀ b, b < mm_N c → a ≠ b → (mm_T c a).2.1 ≠ (mm_T c b).2.1 := by
  match c, h with
  | 0, _ => exact nmX0
  | 1, _ => exact nmX1
  | 2, _ => exact nmX2
  | 3, _ => exact nmX3
  | 4, _ => exact nmX4
  | 5, _ => exact nmX5
  | 6, _ => exact nmX6
theorem mm_tok {c : Nat} (h : c < 7) : ∀ k, k < mm_N c → parseFieldDescriptor (mm_T c k).2.2.1 = some (mm_tf c k) := by
  match c, h with
  | 0, _ => exact tyX0_ok
  | 1, _ => exact tyX1_ok
  | 2, _ => exact tyX2_ok
  | 3, _ => exact tyX3_ok
  | 4, _ => exact tyX4_ok
  | 5, _ => exact tyX5_ok
  | 6, _ => exact tyX6_ok
/-- the default values of a new object's fields -/
def mm_blank (c : Nat) : List Value := (List.range (mm_N c)).map (fun k => defaultValue (mm_tf c k))
theorem mm_blank_ok (c : Nat) : ∀ j, j < mm_N c → defaultValue (mm_tf c j) = vp_V (mm_blank c) j := by
  intro j hj
  simp [mm_blank, vp_V, hj]
/-- every class's words stand in the tables -/
theorem mm_win0 : ∀ w ∈ u_ws RX0 TX0 11, w ∈ lw_tbl := by decide +kernel
theorem mm_win1 : ∀ w ∈ u_ws RX1 TX1 14, w ∈ lw_tbl := by decide +kernel
theorem mm_win2 : ∀ w ∈ u_ws RX2 TX2 12, w ∈ lw_tbl := by decide +kernel
theorem mm_win3 : ∀ w ∈ u_ws RX3 TX3 16, w ∈ lw_tbl := by decide +kernel
theorem mm_win4 : ∀ w ∈ u_ws RX4 TX4 6, w ∈ lw_tbl := by decide +kernel
theorem mm_win5 : ∀ w ∈ u_ws RX5 TX5 8, w ∈ lw_tbl := by decide +kernel
theorem mm_win6 : ∀ w ∈ u_ws RX6 TX6 61, w ∈ lw_tbl := by decide +kernel
theorem mm_win {c : Nat} (h : c < 7) : ∀ w ∈ u_ws (mm_cn c) (mm_T c) (mm_N c), w ∈ lw_tbl := by
  match c, h with
  | 0, _ => exact mm_win0
  | 1, _ => exact mm_win1
  | 2, _ => exact mm_win2
  | 3, _ => exact mm_win3
  | 4, _ => exact mm_win4
  | 5, _ => exact mm_win5
  | 6, _ => exact mm_win6
/-- names and texts of the thrown exceptions -/
def mm_en (k : Nat) : String := match k with
  | 0 => "java/lang/IllegalArgumentException"
  | 1 => "java/lang/IllegalStateException"
  | _ => "java/util/NoSuchElementException"
/-- what is known of the start -/
def mm_F (G : mmG) : Prop :=
  (∀ w ∈ lw_tbl, w.before G.2.1 G.1 = true) ∧
  (∀ (c : Nat) (q : vw_C), vwCl[c]? = some q → u_Kn G.1 q.1 q.2.1 q.2.2 ((mm_D G).1 c) ((mm_D G).2 c)) ∧
  (∀ k, k < 10 → ArrOfT G.1 (mm_dA G k) (mm_ty k) ∧ va_RA G.1 (mm_dA G k) (mm_ty k)) ∧
  ((va_X G.2.2.2.2.1 G.2.2.2.2.2.1 G.2.2.2.2.2.2 G.1 G.1.heap ∧ G.2.2.2.2.1 < G.1.heap.size) ∧
  (vx_Zq Bundle.tN "UNASSIGNED_STACK" Bundle.steD (mm_A G) G.1 G.1.heap ∧ vx_Zq Bundle.tN "SUPPRESSED_SENTINEL" Bundle.listD (mm_A G) G.1 G.1.heap) ∧
  (∀ (own : String) (k : Nat) (tx : String), Cond.stringRef own k tx ∈ lw_tbl → ∃ a : Nat, vk_R own k tx a G.1) ∧
  ∀ i k, i < 3 → k < 3 → i ≠ k → va_Nc (mm_en i) (mm_en k) G.1)
/-- the heap holds the map; nothing old has changed -/
def mm_R (G : mmG) (h : mmH) (H : Heap) : Prop := G.1.heap.size ≤ H.size ∧ (∀ q, q < G.1.heap.size → H[q]? = G.1.heap[q]?) ∧ ∀ (a : Nat) (e : va_E), h a = some e → mm_A G a ∧ va_at (mm_D G) vwCl (a, e) H
theorem mm_R.set {G : mmG} {h : mmH} {H H1 : Heap} {a : Nat} {e : va_E} (hR : mm_R G h H) (ha : mm_A G a) (he : va_at (mm_D G) vwCl (a, e) H1) (z : H1.size = H.size) (oq : ∀ q, q ≠ a → H1[q]? = H[q]?) : mm_R G (va_up h a (some e)) H1 := by
  refine ⟨by rw [z]; exact hR.1, fun q hq => ?_, fun b x hb => ?_⟩
  · rw [oq q (fun e => by subst e; exact absurd hq (Nat.not_lt.mpr ha))]
    exact hR.2.1 q hq
  · by_cases hab : b = a
    · subst hab
      simp [va_up] at hb
      subst hb
      exact ⟨ha, he⟩
    · simp [va_up, hab] at hb
      obtain ⟨g1, g2⟩ := hR.2.2 b x hb
      exact ⟨g1, va_at.kept g2 (oq b hab)⟩
theorem mm_R.push {G : mmG} {h : mmH} {H H1 : Heap} {e : va_E} (hR : mm_R G h H) (z : H1.size = H.size + 1) (o : ∀ q, q < H.size → H1[q]? = H[q]?) (he : va_at (mm_D G) vwCl (H.size, e) H1) : h H.size = none ∧ mm_A G H.size ∧ mm_R G (va_up h H.size (some e)) H1 := by
  have h0 : h H.size = none := by
    cases hh : h H.size with
    | none => rfl
    | some x => exact absurd (hR.2.2 _ _ hh).2.lt (Nat.lt_irrefl _)
  refine ⟨h0, hR.1, by rw [z]; exact Nat.le_succ_of_le hR.1, fun q hq => ?_, fun b x hb => ?_⟩
  · rw [o q (Nat.lt_of_lt_of_le hq hR.1)]
    exact hR.2.1 q hq
  · by_cases hab : b = H.size
    · subst hab
      simp [va_up] at hb
      subst hb
      exact ⟨hR.1, he⟩
    · simp [va_up, hab] at hb
      obtain ⟨g1, g2⟩ := hR.2.2 b x hb
      exact ⟨g1, va_at.kept g2 (o b g2.lt)⟩
/-! ### methods -/
/-- name, bytes, locals, what it returns, handlers, frames and locals that it needs, arguments, places of its words in the tables -/
abbrev mmS : Type := MethodName × ByteArray × Nat × Option FieldType × List (Nat × Nat × Nat × Nat) × Nat × Nat × Nat × List Nat
abbrev mm_y (S : mmS) : MethodName := S.1
abbrev mm_b (S : mmS) : ByteArray := S.2.1
abbrev mm_nL (S : mmS) : Nat := S.2.2.1
abbrev mm_r (S : mmS) : Option FieldType := S.2.2.2.1
abbrev mm_hh (S : mmS) : List (Nat × Nat × Nat × Nat) := S.2.2.2.2.1
abbrev mm_fr (S : mmS) : Nat := S.2.2.2.2.2.1
abbrev mm_lo (S : mmS) : Nat := S.2.2.2.2.2.2.1
abbrev mm_na (S : mmS) : Nat := S.2.2.2.2.2.2.2.1
abbrev mm_ps (S : mmS) : List Nat := S.2.2.2.2.2.2.2.2
/-- pc, instruction, its length, four numbers -/
abbrev mmE : Type := Nat × Instr × Nat × Nat × Nat × Nat × Nat
/-- itself, its class, the entries, those that it calls, loop heads, handlers: class of the exception, entry -/
abbrev mmM : Type := mmS × String × List mmE × List mmS × List Nat × List (Nat × Nat)
def mm_cw (S : mmS) : Cond := match mm_hh S with
  | [] => Cond.code (mm_y S) (mm_b S) (mm_nL S) (mm_r S)
  | _ => Cond.codeWith (mm_y S) (mm_b S) (mm_nL S) (mm_r S) (mm_hh S)
def mm_ws (S : mmS) : List Cond := [mm_cw S]
def mm_room (S : mmS) (mc ms : Nat) : Room := { frames := mm_fr S, cells := mc, slots := ms, locals := mm_lo S }
def mm_Pc (G : mmG) (av : List Value) (h : mmH) : Array Value → State → Prop := fun v U => v = av.toArray ∧ mm_R G h U.heap ∧ G.1.WarmedH U.vm
def mm_Qc (G : mmG) (PR : Option Value → mmH → Prop) : Array Value → State → Outcome → State → Prop := fun _ _ o t => ∃ (v : Option Value) (h : mmH), o = .returned v ∧ PR v h ∧ mm_R G h t.heap
def mm_XC (G : mmG) (PX : String → mmH → Prop) : String → State → State → Prop := fun E _ t => ∃ h : mmH, PX E h ∧ mm_R G h t.heap
/-- the contract of a method at these arguments, this heap: it makes at most mc cells of ms slots; PR of what it returns, PX of what it throws -/
def mm_Met (L : Launch) (G : mmG) (S : mmS) (av : List Value) (h : mmH) (mc ms : Nat) (PR : Option Value → mmH → Prop) (PX : String → mmH → Prop) : Prop :=
  vx_Met L S.1 (mm_ws S) (mm_room S mc ms) (mm_Pc G av h) (mm_Qc G PR) (mm_XC G PX) mc ms (mm_A G)
theorem mm_blind (G : mmG) (av : List Value) (h : mmH) : FrameBlind (mm_Pc G av h) := fun _ _ _ _ q => q
/-- the machine: program, environment, the method's start, its number, arguments, what lies below, itself, its code -/
abbrev mmT : Type := Program × Env × State × MethodId × Array Value × List Frame × Method × Code
def mm_pc (M : mmM) (j : Nat) : Nat := (M.2.2.1.getD j (0, .nop, 0, 0, 0, 0, 0)).1
/-- at entry j the machine comes to its end -/
def mm_W (L : Launch) (G : mmG) (M : mmM) (MC MS : Nat) (PR : Option Value → mmH → Prop) (PX : String → mmH → Prop) (θ : mmT) (j : Nat) (l : List (Nat × Value)) (st : List Value) (h : mmH) (cs sl : Nat) : Prop :=
  ∀ (H : Heap) (locs : List Loc) (ls : Array Slot), mm_R G h H → lv_has ls M.1.2.2.1 l → (∀ q ∈ locs, mm_A G q.base) →
    W θ.1 L θ.2.1 (mm_room M.1 MC MS) θ.2.2.1 θ.2.2.2.1 θ.2.2.2.2.1 θ.2.2.2.2.2.1 θ.2.2.2.2.2.2.1 θ.2.2.2.2.2.2.2 H locs cs sl
      (vx_MQ θ.2.2.2.2.2.1 (mm_Qc G PR) (mm_XC G PX) θ.2.2.2.2.1 θ.2.2.1 MC MS (mm_A G)) (F0 θ.2.2.2.1 (mm_pc M j) ls st)
/-- what holds in a method's body -/
def mm_C (L : Launch) (G : mmG) (M : mmM) (θ : mmT) : Prop :=
  mm_F G ∧ θ.1.tables.exec = Jvm.exec ∧ θ.2.2.2.2.2.2.2.code = M.1.2.1 ∧ θ.2.2.2.2.2.2.2.maxLocals = M.1.2.2.1 ∧ θ.2.2.2.2.2.2.1.sig.returnType = M.1.2.2.2.1 ∧
  θ.2.2.1.vm.findClass M.2.1 = some θ.2.2.2.1.cls ∧ θ.2.2.2.2.2.2.1.locks = false ∧ G.1.WarmedH θ.2.2.1.vm ∧ θ.2.2.2.2.2.2.1.name = M.1.1.name ∧
  θ.2.2.2.2.2.2.2.exceptionTable.toList = tableOf M.1.2.2.2.2.1 ∧ L.stackTraces = false ∧
  (G.1.heap.size ≤ θ.2.2.1.heap.size ∧ ∀ q, q < G.1.heap.size → θ.2.2.1.heap[q]? = G.1.heap[q]?) ∧
  (∀ S ∈ M.2.2.2.1, mm_cw S ∈ lw_tbl)
/-! ### a step -/
def mm_at : List (Nat × Value) → Nat → Option Value
  | [], _ => none
  | (i, v) :: r, k => match Nat.beq i k with
    | true => some v
    | false => mm_at r k
def mm_st1 (l : List (Nat × Value)) (i : Nat) (v : Value) : List (Nat × Value) := (i, v) :: l.filter (fun q => !(q.1 == i) && !(q.1 + 1 == i && q.2.category == 2))
def mm_st2 (l : List (Nat × Value)) (i : Nat) (v : Value) : List (Nat × Value) := (i, v) :: l.filter (fun q => !(q.1 == i) && (!(q.1 == i + 1) && !(q.1 + 1 == i && q.2.category == 2)))
def mm_fitb (ty : FieldType) (v : Value) : Prop := match ty, v with
  | .int, .int _ => True
  | .long, .long _ => True
  | .boolean, .int k => k = 0 ∨ k = 1
  | .object _, .ref _ => True
  | .object _, .null => True
  | .array _, .ref _ => True
  | .array _, .null => True
  | _, _ => False
theorem mm_fit {ty : FieldType} {v : Value} (h : mm_fitb ty v) : narrow ty v = v ∧ fits ty v = true := by
  unfold mm_fitb at h
  split at h
  · exact ⟨rfl, rfl⟩
  · exact ⟨rfl, rfl⟩
  · rcases h with rfl | rfl <;> exact ⟨rfl, rfl⟩
  · exact ⟨rfl, rfl⟩
  · exact ⟨rfl, rfl⟩
  · exact ⟨rfl, rfl⟩
  · exact ⟨rfl, rfl⟩
  · exact h.elim
def mm_zero (k n : Nat) : vp_A := match k with
  | 1 => (n, .inr (.inl (fun _ => 0)))
  | _ => (n, .inl (fun _ => 0))
def mm_words (st : List Value) : Nat := (st.map fun v => v.category).sum
def mm_ix (M : mmM) (pc : Int) : Nat := M.2.2.1.findIdx (fun e => (e.1 : Int) == pc)
def mm_swc (v : Int32) (T : Int → Prop) : List Int → Int → Prop
  | [], _ => True
  | o :: r, lo => (v.toInt = lo → T o) ∧ mm_swc v T r (lo + 1)
def mm_inr (f : Nat → Option Nat) : (Nat → Int32) ⊕ (Nat → Int64) ⊕ (Nat → UInt32) ⊕ (Nat → UInt64) ⊕ (Nat → Option Nat) := .inr (.inr (.inr (.inr f)))
/-- where an exception goes on: the numbers of the classes that are caught, their entries -/
def mm_hx (E : String) (K : Nat → Prop) (l : List (Nat × Nat)) : Prop := (∀ n k, (n, k) ∈ l → E = mm_en n → K k) ∧ ∃ n k, (n, k) ∈ l ∧ E = mm_en n
