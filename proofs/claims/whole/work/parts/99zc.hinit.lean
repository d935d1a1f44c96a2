section KI
variable {L : Launch} {G : mmG} {h0 H h1 : mmH} {a b n : Nat} {e e' : va_E} {LI : List (Nat × va_E)}
/-- a heap that is h0 but for these cells; all but a are new -/
def lh (h0 H : mmH) (a : Nat) (LI : List (Nat × va_E)) : Prop := (LI.map Prod.fst).Nodup ∧ (∀ p ∈ LI, H p.1 = some p.2) ∧ (∀ p ∈ LI, p.1 = a ∨ h0 p.1 = none) ∧ ∀ q, q ∉ LI.map Prod.fst → H q = h0 q
theorem lh_0 : lh h0 (va_up h0 a (some e)) a [(a, e)] := by
  refine ⟨List.nodup_cons.mpr ⟨List.not_mem_nil, List.nodup_nil⟩, fun p hp => ?_, fun p hp => ?_, fun q hq => ?_⟩
  · rw [List.mem_singleton.mp hp]; exact up_s _ _ _
  · rw [List.mem_singleton.mp hp]; exact Or.inl rfl
  · exact up_n (fun z => hq (by rw [z]; exact List.mem_singleton.mpr rfl))
theorem lh_at {x : Nat} (i : Nat) (h : lh h0 H a LI) (hi : LI[i]? = some (x, e)) : H x = some e := h.2.1 _ (List.mem_of_getElem? hi)
theorem lh_ne {x : Nat} (h : lh h0 H a LI) (hb : H b = none) (hx : x ∈ LI.map Prod.fst) : x ≠ b := by
  obtain ⟨p, hp, rfl⟩ := List.mem_map.mp hx
  intro z
  have := h.2.1 p hp
  rw [z, hb] at this
  cases this
theorem lh_nw (h : lh h0 H a LI) (hb : H b = none) : b ∉ LI.map Prod.fst := fun z => lh_ne h hb z rfl
theorem lh_al (h : lh h0 H a LI) (hb : H b = none) : lh h0 (va_up H b (some e)) a (LI ++ [(b, e)]) := by
  have hn := lh_nw h hb
  have em : (LI ++ [(b, e)]).map Prod.fst = LI.map Prod.fst ++ [b] := by rw [List.map_append]; rfl
  refine ⟨?_, fun p hp => ?_, fun p hp => ?_, fun q hq => ?_⟩
  · rw [em, List.nodup_append]
    refine ⟨h.1, List.nodup_cons.mpr ⟨List.not_mem_nil, List.nodup_nil⟩, fun x hx y hy => ?_⟩
    rw [List.mem_singleton.mp hy]
    exact lh_ne h hb hx
  · rcases List.mem_append.mp hp with z | z
    · rw [up_n (lh_ne h hb (List.mem_map.mpr ⟨p, z, rfl⟩))]; exact h.2.1 p z
    · rw [List.mem_singleton.mp z]; exact up_s _ _ _
  · rcases List.mem_append.mp hp with z | z
    · exact h.2.2.1 p z
    · rw [List.mem_singleton.mp z]
      exact Or.inr (by rw [← h.2.2.2 b hn]; exact hb)
  · rw [em] at hq
    have z1 : q ∉ LI.map Prod.fst := fun z => hq (List.mem_append.mpr (Or.inl z))
    have z2 : q ≠ b := fun z => hq (List.mem_append.mpr (Or.inr (by rw [z]; exact List.mem_singleton.mpr rfl)))
    rw [up_n z2]; exact h.2.2.2 q z1
theorem set_fst {x : Nat} : ∀ (LI : List (Nat × va_E)) (i : Nat), LI[i]? = some (x, e) → (LI.set i (x, e')).map Prod.fst = LI.map Prod.fst
  | [], i, h => by simp at h
  | p :: r, 0, h => by
    simp at h
    rw [h]; rfl
  | p :: r, i + 1, h => by
    simp at h
    show p.1 :: (r.set i (x, e')).map Prod.fst = p.1 :: r.map Prod.fst
    rw [set_fst r i h]
theorem nd_fst : ∀ (LI : List (Nat × va_E)), (LI.map Prod.fst).Nodup → ∀ p ∈ LI, ∀ q ∈ LI, p.1 = q.1 → p = q
  | [], _, _, hp, _, _, _ => absurd hp List.not_mem_nil
  | r :: l, hn, p, hp, q, hq, e => by
    rw [List.map_cons, List.nodup_cons] at hn
    rcases List.mem_cons.mp hp with z | z <;> rcases List.mem_cons.mp hq with w | w
    · rw [z, w]
    · exact absurd (List.mem_map.mpr ⟨q, w, by rw [← e, z]⟩) hn.1
    · exact absurd (List.mem_map.mpr ⟨p, z, by rw [e, w]⟩) hn.1
    · exact nd_fst l hn.2 p z q w e
theorem lh_set {x : Nat} (i : Nat) (h : lh h0 H a LI) (hi : LI[i]? = some (x, e)) : lh h0 (va_up H x (some e')) a (LI.set i (x, e')) := by
  have hm : (x, e) ∈ LI := List.mem_of_getElem? hi
  have ef := set_fst (e' := e') LI i hi
  have nd : ((LI.set i (x, e')).map Prod.fst).Nodup := by rw [ef]; exact h.1
  have hin : (x, e') ∈ LI.set i (x, e') := by
    have hl : i < LI.length := (List.getElem?_eq_some_iff.mp hi).1
    exact List.mem_of_getElem? (List.getElem?_set_self hl)
  refine ⟨nd, fun p hp => ?_, fun p hp => ?_, fun q hq => ?_⟩
  · by_cases z : p.1 = x
    · rw [nd_fst _ nd p hp (x, e') hin z]; exact up_s _ _ _
    · rw [up_n z]
      rcases List.mem_or_eq_of_mem_set hp with w | w
      · exact h.2.1 p w
      · rw [w] at z; exact absurd rfl z
  · rcases List.mem_or_eq_of_mem_set hp with w | w
    · exact h.2.2.1 p w
    · rw [w]; exact h.2.2.1 (x, e) hm
  · rw [ef] at hq
    rw [up_n (fun z => hq (by rw [z]; exact List.mem_map.mpr ⟨_, hm, rfl⟩))]
    exact h.2.2.2 q hq
def cSd (G : mmG) (c : Int) (g pg ws w0 w1 ss rs : Nat) : va_E := .inr (3, [aI c, aR g, aR pg, aR ws, aR ss, aR rs, aI 0, aI (-1), aI 0, aI 0, aL 0, aL (-1), aI 0, aI 0, aI 4096, aI 0].map cv)
def cGr (G : mmG) (c : Int) (g pg ws w0 w1 ss rs : Nat) : va_E := .inl (mm_dA G 0, 10, .inl (fun q => iI ((fun q => if q = (9 : Int).toNat then 4 else (fun q => if q = (8 : Int).toNat then 4 else (fun q => if q = (7 : Int).toNat then 1024 else (fun q => if q = (6 : Int).toNat then 1024 else (fun q => if q = (5 : Int).toNat then 1024 else (fun q => if q = (4 : Int).toNat then 4096 else (fun q => if q = (3 : Int).toNat then 0 else (fun q => if q = (2 : Int).toNat then 0 else (fun q => if q = (1 : Int).toNat then 0 else (fun q => if q = (0 : Int).toNat then 0 else (fun _ => 0) q) q) q) q) q) q) q) q) q) q) q)))
def cPg (G : mmG) (c : Int) (g pg ws w0 w1 ss rs : Nat) : va_E := .inl (mm_dA G 0, 10, .inl (fun q => iI ((fun _ => 0) q)))
def cWs (G : mmG) (c : Int) (g pg ws w0 w1 ss rs : Nat) : va_E := .inl (mm_dA G 9, 2, mm_inr (va_up (va_up (fun _ => none) (0 : Int).toNat (some w0)) (1 : Int).toNat (some w1)))
def cW0 (G : mmG) (c : Int) (g pg ws w0 w1 ss rs : Nat) : va_E := .inr (4, [aI 0, aI 0, aI (-1), aI (-1), aI 0, aI 0].map cv)
def cW1 (G : mmG) (c : Int) (g pg ws w0 w1 ss rs : Nat) : va_E := .inr (4, [aI 0, aI 0, aI (-1), aI (-1), aI 0, aI 0].map cv)
def cSs (G : mmG) (c : Int) (g pg ws w0 w1 ss rs : Nat) : va_E := .inl (mm_dA G 7, 256, mm_inr (fun _ => none))
def cRs (G : mmG) (c : Int) (g pg ws w0 w1 ss rs : Nat) : va_E := .inl (mm_dA G 6, 256, mm_inr (fun _ => none))
theorem lh_sd {c : Int} {g pg ws w0 w1 ss rs : Nat} (h : lh h0 H a LI) (hn : H n = none) (k1 : kSn H n g pg ws w0 w1 ss rs) (k2 : kSd G n c H h1 g pg ws w0 w1 ss rs) : lh h0 h1 a (LI ++ [(n, cSd G c g pg ws w0 w1 ss rs), (g, cGr G c g pg ws w0 w1 ss rs), (pg, cPg G c g pg ws w0 w1 ss rs), (ws, cWs G c g pg ws w0 w1 ss rs), (w0, cW0 G c g pg ws w0 w1 ss rs), (w1, cW1 G c g pg ws w0 w1 ss rs), (ss, cSs G c g pg ws w0 w1 ss rs), (rs, cRs G c g pg ws w0 w1 ss rs)]) := by
  obtain ⟨z1, z2, z3, z4, z5, z6, z7, d1, d2, d3, d4, d5, d6, d7, d8, d9, d10, d11, d12, d13, d14, d15, d16, d17, d18, d19, d20, d21, d22, d23, d24, d25, d26, d27, d28⟩ := k1
  obtain ⟨y0, y1, y2, y3, y4, y5, y6, y7, y8⟩ := k2
  have em : (LI ++ [(n, cSd G c g pg ws w0 w1 ss rs), (g, cGr G c g pg ws w0 w1 ss rs), (pg, cPg G c g pg ws w0 w1 ss rs), (ws, cWs G c g pg ws w0 w1 ss rs), (w0, cW0 G c g pg ws w0 w1 ss rs), (w1, cW1 G c g pg ws w0 w1 ss rs), (ss, cSs G c g pg ws w0 w1 ss rs), (rs, cRs G c g pg ws w0 w1 ss rs)]).map Prod.fst = LI.map Prod.fst ++ [n, g, pg, ws, w0, w1, ss, rs] := by rw [List.map_append]; rfl
  have ms : ∀ q, q ∈ [n, g, pg, ws, w0, w1, ss, rs] → H q = none := fun q hq => by
    simp only [List.mem_cons, List.not_mem_nil, or_false] at hq
    rcases hq with rfl | rfl | rfl | rfl | rfl | rfl | rfl | rfl <;> assumption
  refine ⟨?_, fun p hp => ?_, fun p hp => ?_, fun q hq => ?_⟩
  · rw [em, List.nodup_append]
    refine ⟨h.1, ?_, fun x hx y hy => lh_ne h (ms y hy) hx⟩
    simp only [List.nodup_cons, List.mem_cons, List.not_mem_nil, or_false, not_or, List.nodup_nil, and_true, not_false_eq_true]
    exact ⟨⟨d1.symm, d2.symm, d4.symm, d7.symm, d11.symm, d16.symm, d22.symm⟩, ⟨d3.symm, d5.symm, d8.symm, d12.symm, d17.symm, d23.symm⟩, ⟨d6.symm, d9.symm, d13.symm, d18.symm, d24.symm⟩, ⟨d10.symm, d14.symm, d19.symm, d25.symm⟩, ⟨d15.symm, d20.symm, d26.symm⟩, ⟨d21.symm, d27.symm⟩, d28.symm⟩
  · rcases List.mem_append.mp hp with z | z
    · have w : ∀ q, H q = none → p.1 ≠ q := fun q hq => lh_ne h hq (List.mem_map.mpr ⟨p, z, rfl⟩)
      rw [y8 p.1 (w n hn) (w g z1) (w pg z2) (w ws z3) (w w0 z4) (w w1 z5) (w ss z6) (w rs z7)]
      exact h.2.1 p z
    · simp only [List.mem_cons, List.not_mem_nil, or_false] at z
      rcases z with rfl | rfl | rfl | rfl | rfl | rfl | rfl | rfl
      · exact y0
      · exact y1
      · exact y2
      · exact y3
      · exact y4
      · exact y5
      · exact y6
      · exact y7
  · rcases List.mem_append.mp hp with z | z
    · exact h.2.2.1 p z
    · have w : p.1 ∈ [n, g, pg, ws, w0, w1, ss, rs] := by
        simp only [List.mem_cons, List.not_mem_nil, or_false] at z ⊢
        rcases z with rfl | rfl | rfl | rfl | rfl | rfl | rfl | rfl <;> simp
      exact Or.inr (by rw [← h.2.2.2 _ (lh_nw h (ms _ w))]; exact ms _ w)
  · rw [em] at hq
    have z1' : q ∉ LI.map Prod.fst := fun z => hq (List.mem_append.mpr (Or.inl z))
    have w : ∀ x, x ∈ [n, g, pg, ws, w0, w1, ss, rs] → q ≠ x := fun x hx z => hq (List.mem_append.mpr (Or.inr (by rw [z]; exact hx)))
    rw [y8 q (w _ (by simp)) (w _ (by simp)) (w _ (by simp)) (w _ (by simp)) (w _ (by simp)) (w _ (by simp)) (w _ (by simp)) (w _ (by simp))]
    exact h.2.2.2 q z1'
/-- a new frame; a new row of bytes -/
def cFr : va_E := .inr (0, mm_blank 0)
def cBy (G : mmG) : va_E := .inl (mm_dA G 2, mm_zero 2 (2048 : Int).toNat)
def cPl (G : mmG) (F : List Nat) : va_E := .inl (mm_dA G 5, 64, mm_inr (fun q => F[q]?))
def cSi (G : mmG) (x y : Nat) : va_E := .inl (mm_dA G 8, 2, mm_inr (va_up (va_up (fun _ => none) (0 : Int).toNat (some x)) (1 : Int).toNat (some y)))
/-- all cells of a new hall, in the order of their making -/
def hL (G : mmG) (A : Nat → Nat) (F : List Nat) : List (Nat × va_E) :=
  [(A 0, .inr (5, [aR (A 1), aR (A 2), aR (A 3), aR (A 4), aR (A 5), aI 0, aI 0, aI 0].map cv)), (A 1, cSi G (A 6) (A 14)), (A 2, cPl G F), (A 3, cFr), (A 4, cBy G), (A 5, cBy G),
   (A 6, cSd G 0 (A 7) (A 8) (A 9) (A 10) (A 11) (A 12) (A 13)), (A 7, cGr G 0 (A 7) (A 8) (A 9) (A 10) (A 11) (A 12) (A 13)), (A 8, cPg G 0 (A 7) (A 8) (A 9) (A 10) (A 11) (A 12) (A 13)), (A 9, cWs G 0 (A 7) (A 8) (A 9) (A 10) (A 11) (A 12) (A 13)), (A 10, cW0 G 0 (A 7) (A 8) (A 9) (A 10) (A 11) (A 12) (A 13)), (A 11, cW1 G 0 (A 7) (A 8) (A 9) (A 10) (A 11) (A 12) (A 13)), (A 12, cSs G 0 (A 7) (A 8) (A 9) (A 10) (A 11) (A 12) (A 13)), (A 13, cRs G 0 (A 7) (A 8) (A 9) (A 10) (A 11) (A 12) (A 13)),
   (A 14, cSd G 1 (A 15) (A 16) (A 17) (A 18) (A 19) (A 20) (A 21)), (A 15, cGr G 1 (A 15) (A 16) (A 17) (A 18) (A 19) (A 20) (A 21)), (A 16, cPg G 1 (A 15) (A 16) (A 17) (A 18) (A 19) (A 20) (A 21)), (A 17, cWs G 1 (A 15) (A 16) (A 17) (A 18) (A 19) (A 20) (A 21)), (A 18, cW0 G 1 (A 15) (A 16) (A 17) (A 18) (A 19) (A 20) (A 21)), (A 19, cW1 G 1 (A 15) (A 16) (A 17) (A 18) (A 19) (A 20) (A 21)), (A 20, cSs G 1 (A 15) (A 16) (A 17) (A 18) (A 19) (A 20) (A 21)), (A 21, cRs G 1 (A 15) (A 16) (A 17) (A 18) (A 19) (A 20) (A 21))] ++ F.map (fun x => (x, cFr))
def kinv (i : Nat) : Nat × Nat := if 22 ≤ i then (0, i - 22) else match i with
  | 0 => (5, 0)
  | 1 => (10, 0)
  | 2 => (11, 0)
  | 3 => (0, 64)
  | 4 => (17, 0)
  | 5 => (17, 1)
  | 6 => (3, 0)
  | 7 => (12, 0)
  | 8 => (13, 0)
  | 9 => (14, 0)
  | 10 => (4, 0)
  | 11 => (4, 1)
  | 12 => (15, 0)
  | 13 => (16, 0)
  | 14 => (3, 1)
  | 15 => (12, 1)
  | 16 => (13, 1)
  | 17 => (14, 1)
  | 18 => (4, 2)
  | 19 => (4, 3)
  | 20 => (15, 1)
  | _ => (16, 1)
theorem kinv_22 (k : Nat) : kinv (22 + k) = (0, k) := by
  unfold kinv
  rw [if_pos (by omega), show 22 + k - 22 = k by omega]
/-- the cells, one by one -/
theorem kA0_c {t k : Nat} (h : kA0 t k) : (t = 0 ∧ k < 64) ∨ (t, k) ∈ [(0, 64), (3, 0), (3, 1), (4, 0), (4, 1), (4, 2), (4, 3), (5, 0), (10, 0), (11, 0), (12, 0), (12, 1), (13, 0), (13, 1), (14, 0), (14, 1), (15, 0), (15, 1), (16, 0), (16, 1), (17, 0), (17, 1)] := by
  unfold kA0 at h
  rcases h with ⟨rfl, h⟩ | ⟨rfl, h⟩ | ⟨rfl, h⟩ | ⟨rfl, rfl⟩ | ⟨rfl, rfl⟩ | ⟨rfl, rfl⟩ | ⟨h1, h2, h⟩ | ⟨rfl, h⟩
  · by_cases w : k = 64
    · rw [w]; exact Or.inr (by decide)
    · exact Or.inl ⟨rfl, by omega⟩
  · rcases (show k = 0 ∨ k = 1 by omega) with rfl | rfl <;> exact Or.inr (by decide)
  · rcases (show k = 0 ∨ k = 1 ∨ k = 2 ∨ k = 3 by omega) with rfl | rfl | rfl | rfl <;> exact Or.inr (by decide)
  · exact Or.inr (by decide)
  · exact Or.inr (by decide)
  · exact Or.inr (by decide)
  · rcases (show t = 12 ∨ t = 13 ∨ t = 14 ∨ t = 15 ∨ t = 16 by omega) with rfl | rfl | rfl | rfl | rfl <;> rcases (show k = 0 ∨ k = 1 by omega) with rfl | rfl <;> exact Or.inr (by decide)
  · rcases (show k = 0 ∨ k = 1 by omega) with rfl | rfl <;> exact Or.inr (by decide)
theorem kidx_0 {k : Nat} (h : k < 64) : kidx 0 k = 22 + k := by
  show (if k = 64 then 3 else 22 + k) = 22 + k
  rw [if_neg (by omega)]
theorem kinv_k {t k : Nat} (h : kA0 t k) : kinv (kidx t k) = (t, k) ∧ kidx t k < 86 := by
  rcases kA0_c h with ⟨rfl, w⟩ | w
  · rw [kidx_0 w, kinv_22]; exact ⟨rfl, by omega⟩
  · simp only [List.mem_cons, Prod.mk.injEq, List.not_mem_nil, or_false] at w
    rcases w with ⟨rfl, rfl⟩ | ⟨rfl, rfl⟩ | ⟨rfl, rfl⟩ | ⟨rfl, rfl⟩ | ⟨rfl, rfl⟩ | ⟨rfl, rfl⟩ | ⟨rfl, rfl⟩ | ⟨rfl, rfl⟩ | ⟨rfl, rfl⟩ | ⟨rfl, rfl⟩ | ⟨rfl, rfl⟩ | ⟨rfl, rfl⟩ | ⟨rfl, rfl⟩ | ⟨rfl, rfl⟩ | ⟨rfl, rfl⟩ | ⟨rfl, rfl⟩ | ⟨rfl, rfl⟩ | ⟨rfl, rfl⟩ | ⟨rfl, rfl⟩ | ⟨rfl, rfl⟩ | ⟨rfl, rfl⟩ | ⟨rfl, rfl⟩ <;> exact ⟨rfl, by decide⟩
theorem kinv_s {i : Nat} (h : i < 86) : kal k00 (kinv i).1 (kinv i).2 ∧ kidx (kinv i).1 (kinv i).2 = i := by
  by_cases w : 22 ≤ i
  · obtain ⟨k, rfl⟩ := Nat.le.dest w
    rw [kinv_22]
    exact ⟨show k < 65 by omega, kidx_0 (by omega)⟩
  · rcases (show i = 0 ∨ i = 1 ∨ i = 2 ∨ i = 3 ∨ i = 4 ∨ i = 5 ∨ i = 6 ∨ i = 7 ∨ i = 8 ∨ i = 9 ∨ i = 10 ∨ i = 11 ∨ i = 12 ∨ i = 13 ∨ i = 14 ∨ i = 15 ∨ i = 16 ∨ i = 17 ∨ i = 18 ∨ i = 19 ∨ i = 20 ∨ i = 21 by omega) with rfl | rfl | rfl | rfl | rfl | rfl | rfl | rfl | rfl | rfl | rfl | rfl | rfl | rfl | rfl | rfl | rfl | rfl | rfl | rfl | rfl | rfl
    · exact ⟨show (0 : Nat) = 0 from rfl, rfl⟩
    · exact ⟨show (0 : Nat) = 0 from rfl, rfl⟩
    · exact ⟨show (0 : Nat) = 0 from rfl, rfl⟩
    · exact ⟨show 64 < 65 by decide, rfl⟩
    · exact ⟨show ((0 : Nat) : Int) < 2 by decide, rfl⟩
    · exact ⟨show ((1 : Nat) : Int) < 2 by decide, rfl⟩
    · exact ⟨show 0 < 2 by decide, rfl⟩
    · exact ⟨show 0 < 2 by decide, rfl⟩
    · exact ⟨show 0 < 2 by decide, rfl⟩
    · exact ⟨show 0 < 2 by decide, rfl⟩
    · exact ⟨show 0 < 4 by decide, rfl⟩
    · exact ⟨show 1 < 4 by decide, rfl⟩
    · exact ⟨show 0 < 2 by decide, rfl⟩
    · exact ⟨show 0 < 2 by decide, rfl⟩
    · exact ⟨show 1 < 2 by decide, rfl⟩
    · exact ⟨show 1 < 2 by decide, rfl⟩
    · exact ⟨show 1 < 2 by decide, rfl⟩
    · exact ⟨show 1 < 2 by decide, rfl⟩
    · exact ⟨show 2 < 4 by decide, rfl⟩
    · exact ⟨show 3 < 4 by decide, rfl⟩
    · exact ⟨show 1 < 2 by decide, rfl⟩
    · exact ⟨show 1 < 2 by decide, rfl⟩
theorem nd_get : ∀ (l : List Nat), l.Nodup → ∀ (i j x : Nat), l[i]? = some x → l[j]? = some x → i = j
  | [], _, i, _, _, h, _ => by simp at h
  | y :: r, hn, 0, 0, x, _, _ => rfl
  | y :: r, hn, 0, j + 1, x, h1, h2 => by
    simp at h1 h2
    rw [← h1] at h2
    exact absurd (List.mem_of_getElem? h2) (List.nodup_cons.mp hn).1
  | y :: r, hn, i + 1, 0, x, h1, h2 => by
    simp at h1 h2
    rw [← h2] at h1
    exact absurd (List.mem_of_getElem? h1) (List.nodup_cons.mp hn).1
  | y :: r, hn, i + 1, j + 1, x, h1, h2 => by
    simp at h1 h2
    rw [nd_get r (List.nodup_cons.mp hn).2 i j x h1 h2]
theorem g12_0 : cGr G 0 n n n n n n n = kc G (fun _ _ => 0) k00 12 0 := by
  refine congrArg (fun f => (.inl (mm_dA G 0, 10, .inl f) : va_E)) (funext fun q => ?_)
  show iI (if q = 9 then 4 else if q = 8 then 4 else if q = 7 then 1024 else if q = 6 then 1024 else if q = 5 then 1024 else if q = 4 then 4096 else if q = 3 then 0 else if q = 2 then 0 else if q = 1 then 0 else if q = 0 then 0 else 0) = iI (if q < 10 then k00 360 (16 * 0 + q) else 0)
  by_cases w : q < 10
  · rcases (show q = 0 ∨ q = 1 ∨ q = 2 ∨ q = 3 ∨ q = 4 ∨ q = 5 ∨ q = 6 ∨ q = 7 ∨ q = 8 ∨ q = 9 by omega) with rfl | rfl | rfl | rfl | rfl | rfl | rfl | rfl | rfl | rfl <;> rfl
  · rw [if_neg w, if_neg (by omega), if_neg (by omega), if_neg (by omega), if_neg (by omega), if_neg (by omega), if_neg (by omega), if_neg (by omega), if_neg (by omega), if_neg (by omega), if_neg (by omega)]
theorem g12_1 : cGr G 1 n n n n n n n = kc G (fun _ _ => 0) k00 12 1 := by
  refine congrArg (fun f => (.inl (mm_dA G 0, 10, .inl f) : va_E)) (funext fun q => ?_)
  show iI (if q = 9 then 4 else if q = 8 then 4 else if q = 7 then 1024 else if q = 6 then 1024 else if q = 5 then 1024 else if q = 4 then 4096 else if q = 3 then 0 else if q = 2 then 0 else if q = 1 then 0 else if q = 0 then 0 else 0) = iI (if q < 10 then k00 360 (16 * 1 + q) else 0)
  by_cases w : q < 10
  · rcases (show q = 0 ∨ q = 1 ∨ q = 2 ∨ q = 3 ∨ q = 4 ∨ q = 5 ∨ q = 6 ∨ q = 7 ∨ q = 8 ∨ q = 9 by omega) with rfl | rfl | rfl | rfl | rfl | rfl | rfl | rfl | rfl | rfl <;> rfl
  · rw [if_neg w, if_neg (by omega), if_neg (by omega), if_neg (by omega), if_neg (by omega), if_neg (by omega), if_neg (by omega), if_neg (by omega), if_neg (by omega), if_neg (by omega), if_neg (by omega)]
theorem g13 {c : Int} {k : Nat} {B : Nat → Nat → Nat} : cPg G c n n n n n n n = kc G B k00 13 k := by
  refine congrArg (fun f => (.inl (mm_dA G 0, 10, .inl f) : va_E)) (funext fun q => ?_)
  show iI 0 = iI (if q < 10 then 0 else 0)
  rw [ite_self]
theorem g14 {x y : Nat} {f : Nat → Nat} (h0 : f 0 = x) (h1 : f 1 = y) : va_up (va_up (fun _ => none) 0 (some x)) 1 (some y) = (fun q => if q < 2 then some (f q) else none) := by
  funext q
  by_cases w1 : q = 1
  · rw [w1, up_s, if_pos (by decide), h1]
  · rw [up_n w1]
    by_cases w0 : q = 0
    · rw [w0, up_s, if_pos (by decide), h0]
    · rw [up_n w0, if_neg (by omega)]
theorem hinit_fin {A : Nat → Nat} {F : List Nat} (hF : F.length = 64) (h : lh h0 H (A 0) (hL G A F)) : ∃ B bx, kx B bx k00 ∧ B 5 0 = A 0 ∧ (∀ q, bx q ≠ none → q = A 0 ∨ h0 q = none) ∧ H = hk G B bx h0 k00 := by
  obtain ⟨B, hB⟩ : ∃ B : Nat → Nat → Nat, B = fun t k => (((hL G A F)[kidx t k]?).map Prod.fst).getD 0 := ⟨_, rfl⟩
  have len : (hL G A F).length = 86 := by
    unfold hL
    rw [List.length_append, List.length_map, hF]
    rfl
  have at_ : ∀ i, i < 86 → ∃ p, (hL G A F)[i]? = some p := fun i hi => ⟨_, List.getElem?_eq_getElem (by rw [len]; exact hi)⟩
  have bt : ∀ t k p, (hL G A F)[kidx t k]? = some p → B t k = p.1 := fun t k p e => by rw [hB]; show (((hL G A F)[kidx t k]?).map Prod.fst).getD 0 = p.1; rw [e]; rfl
  have fr : ∀ k, k < 64 → ∃ x, F[k]? = some x ∧ (hL G A F)[kidx 0 k]? = some (x, cFr) := fun k hk => by
    refine ⟨F[k]'(by omega), List.getElem?_eq_getElem (by omega), ?_⟩
    rw [kidx_0 hk]
    unfold hL
    rw [List.getElem?_append_right (by show 22 ≤ 22 + k; omega)]
    show (F.map (fun x => (x, cFr)))[22 + k - 22]? = _
    rw [show 22 + k - 22 = k by omega, List.getElem?_map, List.getElem?_eq_getElem (by omega)]
    rfl
  have bA : ∀ t k p, (hL G A F)[kidx t k]? = some p → H (B t k) = some p.2 := fun t k p e => by rw [bt t k p e]; exact lh_at (kidx t k) h e
  have key := hk_of (G := G) (B := B) (h0 := h0) (H := H) (κ := k00) (fun t k t' k' w w' z => by
    have w1 := kinv_k (kal_00 w)
    have w2 := kinv_k (kal_00 w')
    obtain ⟨p, ep⟩ := at_ _ w1.2
    obtain ⟨p', ep'⟩ := at_ _ w2.2
    rw [bt _ _ _ ep, bt _ _ _ ep'] at z
    have i := nd_get _ h.1 (kidx t k) (kidx t' k') p.1 (by rw [List.getElem?_map, ep]; rfl) (by rw [List.getElem?_map, ep', z]; rfl)
    have e := w1.1.symm.trans ((congrArg kinv i).trans w2.1)
    exact ⟨congrArg Prod.fst e, congrArg Prod.snd e⟩) (fun t k w => by
    rcases kA0_c (kal_00 w) with ⟨rfl, u⟩ | u
    · obtain ⟨x, _, e⟩ := fr k u
      exact bA _ _ _ e
    · simp only [List.mem_cons, Prod.mk.injEq, List.not_mem_nil, or_false] at u
      clear w
      rcases u with ⟨rfl, rfl⟩ | ⟨rfl, rfl⟩ | ⟨rfl, rfl⟩ | ⟨rfl, rfl⟩ | ⟨rfl, rfl⟩ | ⟨rfl, rfl⟩ | ⟨rfl, rfl⟩ | ⟨rfl, rfl⟩ | ⟨rfl, rfl⟩ | ⟨rfl, rfl⟩ | ⟨rfl, rfl⟩ | ⟨rfl, rfl⟩ | ⟨rfl, rfl⟩ | ⟨rfl, rfl⟩ | ⟨rfl, rfl⟩ | ⟨rfl, rfl⟩ | ⟨rfl, rfl⟩ | ⟨rfl, rfl⟩ | ⟨rfl, rfl⟩ | ⟨rfl, rfl⟩ | ⟨rfl, rfl⟩ | ⟨rfl, rfl⟩
      · exact bA 0 64 _ rfl
      · refine (bA 3 0 _ rfl).trans ?_
        rw [hB]; rfl
      · refine (bA 3 1 _ rfl).trans ?_
        rw [hB]; rfl
      · exact bA 4 0 _ rfl
      · exact bA 4 1 _ rfl
      · exact bA 4 2 _ rfl
      · exact bA 4 3 _ rfl
      · refine (bA 5 0 _ rfl).trans ?_
        rw [hB]; rfl
      · refine (bA 10 0 _ rfl).trans (congrArg (fun f => some (.inl (mm_dA G 8, 2, mm_inr f) : va_E)) (g14 (f := fun q => B 3 q) (bt 3 0 _ rfl) (bt 3 1 _ rfl)))
      · refine (bA 11 0 _ rfl).trans (congrArg (fun f => some (.inl (mm_dA G 5, 64, mm_inr f) : va_E)) (funext fun q => ?_))
        by_cases w : q < 64
        · obtain ⟨x, e1, e2⟩ := fr q w
          rw [if_pos w, bt _ _ _ e2, e1]
        · rw [if_neg w, List.getElem?_eq_none (by omega)]
      · exact (bA 12 0 _ rfl).trans (congrArg some (g12_0 (n := 0)))
      · exact (bA 12 1 _ rfl).trans (congrArg some (g12_1 (n := 0)))
      · exact (bA 13 0 _ rfl).trans (congrArg some (g13 (n := 0) (c := 0) (k := 0)))
      · exact (bA 13 1 _ rfl).trans (congrArg some (g13 (n := 0) (c := 0) (k := 1)))
      · refine (bA 14 0 _ rfl).trans (congrArg (fun f => some (.inl (mm_dA G 9, 2, mm_inr f) : va_E)) (g14 (f := fun q => B 4 (2 * 0 + q)) (bt 4 0 _ rfl) (bt 4 1 _ rfl)))
      · refine (bA 14 1 _ rfl).trans (congrArg (fun f => some (.inl (mm_dA G 9, 2, mm_inr f) : va_E)) (g14 (f := fun q => B 4 (2 * 1 + q)) (bt 4 2 _ rfl) (bt 4 3 _ rfl)))
      · exact bA 15 0 _ rfl
      · exact bA 15 1 _ rfl
      · exact bA 16 0 _ rfl
      · exact bA 16 1 _ rfl
      · exact bA 17 0 _ rfl
      · exact bA 17 1 _ rfl) (fun q w => h.2.2.2 q (fun z => by
    obtain ⟨p, hp, rfl⟩ := List.mem_map.mp z
    obtain ⟨i, hi, e⟩ := List.mem_iff_getElem.mp hp
    rw [len] at hi
    obtain ⟨s1, s2⟩ := kinv_s hi
    refine w _ _ s1 (bt _ _ _ ?_).symm
    rw [s2, List.getElem?_eq_getElem (by rw [len]; exact hi), e]))
  obtain ⟨bx, e1, e2, e3⟩ := key
  refine ⟨B, bx, e2, bt 5 0 _ rfl, fun q hq => ?_, e1⟩
  obtain ⟨t, k, w, rfl⟩ := e3 q hq
  obtain ⟨p, ep⟩ := at_ _ (kinv_k (kal_00 w)).2
  rw [bt _ _ _ ep]
  exact h.2.2.1 p (List.mem_of_getElem? ep)
theorem pl_up {F : List Nat} {k : Nat} (h : F.length = k) : va_up (fun q => F[q]?) k (some b) = (fun q => (F ++ [b])[q]?) := by
  funext q
  by_cases w : q = k
  · rw [w, up_s, List.getElem?_append_right (by omega), show k - F.length = 0 by omega]
    rfl
  · rw [up_n w]
    by_cases z : q < k
    · rw [List.getElem?_append_left (by omega)]
    · rw [List.getElem?_eq_none (by omega), List.getElem?_eq_none (by rw [List.length_append]; show F.length + 1 ≤ q; omega)]
end KI
