/-! the state of the reference: every field by its number, an array by field and place, a plain field at place 0 -/
def mf_ty (f : Nat) : Nat := match f with
  | 2 => 0
  | 4 => 0
  | 6 => 0
  | 7 => 1
  | 8 => 0
  | 9 => 0
  | 10 => 0
  | 11 => 1
  | 12 => 4
  | 13 => 4
  | 14 => 1
  | 15 => 4
  | 16 => 0
  | 17 => 4
  | 18 => 1
  | 19 => 4
  | 20 => 0
  | 21 => 0
  | 22 => 4
  | 23 => 1
  | 24 => 1
  | 25 => 1
  | 26 => 1
  | 27 => 1
  | 28 => 4
  | 29 => 1
  | 30 => 1
  | 31 => 4
  | 32 => 4
  | 33 => 4
  | 34 => 1
  | 35 => 4
  | 36 => 0
  | 37 => 3
  | 38 => 2
  | 39 => 2
  | 40 => 0
  | 41 => 0
  | 42 => 0
  | 43 => 2
  | 44 => 4
  | 50 => 2
  | 51 => 0
  | 52 => 0
  | 53 => 1
  | 54 => 1
  | 55 => 1
  | 56 => 0
  | 57 => 0
  | 58 => 4
  | 59 => 0
  | 60 => 2
  | _ => 99
def mf_len (f : Nat) : Nat := match f with
  | 2 => 2048
  | 4 => 2048
  | 6 => 32
  | 7 => 6
  | 8 => 4
  | 9 => 4
  | 10 => 4
  | 11 => 2
  | 12 => 2
  | 13 => 4
  | 14 => 6
  | 15 => 4
  | 16 => 2
  | 17 => 512
  | 18 => 512
  | 19 => 512
  | 20 => 512
  | 21 => 512
  | 22 => 512
  | 23 => 512
  | 24 => 512
  | 25 => 512
  | 26 => 512
  | 27 => 512
  | 28 => 512
  | 29 => 512
  | 30 => 512
  | 31 => 512
  | 32 => 512
  | 33 => 512
  | 34 => 512
  | 35 => 512
  | 36 => 2
  | 37 => 131072
  | 38 => 131072
  | 39 => 131072
  | 40 => 2
  | 41 => 2816
  | 42 => 2816
  | 43 => 180224
  | 44 => 180224
  | 50 => 2048
  | 51 => 64
  | 52 => 64
  | 53 => 64
  | 54 => 64
  | 55 => 64
  | 56 => 64
  | 57 => 64
  | 58 => 64
  | 59 => 64
  | 60 => 76800
  | _ => 0
def mf_is (f : Nat) : Bool := Nat.blt (mf_ty f) 5
def mobj (A : Nat → Nat) (μ : Nat → Nat → Int) : List Value := [.int (iI (μ 0 0)), .int (iI (μ 1 0)), .ref (A 2), .int (iI (μ 3 0)), .ref (A 4), .int (iI (μ 5 0)), .ref (A 6), .ref (A 7), .ref (A 8), .ref (A 9), .ref (A 10), .ref (A 11), .ref (A 12), .ref (A 13), .ref (A 14), .ref (A 15), .ref (A 16), .ref (A 17), .ref (A 18), .ref (A 19), .ref (A 20), .ref (A 21), .ref (A 22), .ref (A 23), .ref (A 24), .ref (A 25), .ref (A 26), .ref (A 27), .ref (A 28), .ref (A 29), .ref (A 30), .ref (A 31), .ref (A 32), .ref (A 33), .ref (A 34), .ref (A 35), .ref (A 36), .ref (A 37), .ref (A 38), .ref (A 39), .ref (A 40), .ref (A 41), .ref (A 42), .ref (A 43), .ref (A 44), .int (iI (μ 45 0)), .long (iL (μ 46 0)), .long (iL (μ 47 0)), .long (iL (μ 48 0)), .int (iI (μ 49 0)), .ref (A 50), .ref (A 51), .ref (A 52), .ref (A 53), .ref (A 54), .ref (A 55), .ref (A 56), .ref (A 57), .ref (A 58), .ref (A 59), .ref (A 60)]
def u2 (μ : Nat → Nat → Int) (f k : Nat) (v : Int) : Nat → Nat → Int := fun f' k' => if f' = f ∧ k' = k then v else μ f' k'
theorem u2_s (μ : Nat → Nat → Int) (f k : Nat) (v : Int) : u2 μ f k v f k = v := if_pos ⟨rfl, rfl⟩
theorem u2_f {μ : Nat → Nat → Int} {f k f' k' : Nat} {v : Int} (h : f' ≠ f) : u2 μ f k v f' k' = μ f' k' := if_neg (fun q => h q.1)
theorem u2_k {μ : Nat → Nat → Int} {f k f' k' : Nat} {v : Int} (h : k' ≠ k) : u2 μ f k v f' k' = μ f' k' := if_neg (fun q => h q.2)
theorem u2_g {μ : Nat → Nat → Int} {f k k' : Nat} {v : Int} : u2 μ f k v f k' = if k' = k then v else μ f k' := by
  unfold u2
  by_cases h : k' = k <;> simp [h]
def mcon (μ : Nat → Nat → Int) (f : Nat) : (Nat → Int32) ⊕ (Nat → Int64) ⊕ (Nat → UInt32) ⊕ (Nat → UInt64) ⊕ (Nat → Option Nat) := match mf_ty f with
  | 1 => .inr (.inl (fun k => iL (μ f k)))
  | _ => .inl (fun k => iI (μ f k))
def marr (G : mmG) (μ : Nat → Nat → Int) (f : Nat) : va_E := .inl (mm_dA G (mf_ty f), mf_len f, mcon μ f)
/-- the heap with the reference's cells in it: A their addresses (99: the object), ax the fields by their addresses -/
def hm (G : mmG) (A : Nat → Nat) (ax : Nat → Option Nat) (h0 : mmH) (μ : Nat → Nat → Int) : mmH := fun a => match ax a with
  | none => h0 a
  | some f => if f = 99 then some (.inr (6, mobj A μ)) else some (marr G μ f)
def mx (A : Nat → Nat) (ax : Nat → Option Nat) : Prop := (∀ f, mf_is f = true → ax (A f) = some f) ∧ ax (A 99) = some 99 ∧ ∀ a f, ax a = some f → a = A f ∧ (f = 99 ∨ mf_is f = true)
section MHM
variable {G : mmG} {A : Nat → Nat} {ax : Nat → Option Nat} {h0 : mmH} {μ : Nat → Nat → Int}
theorem hm_o (hx : mx A ax) : hm G A ax h0 μ (A 99) = some (.inr (6, mobj A μ)) := by
  unfold hm; rw [hx.2.1]; rfl
theorem mf_99 {f : Nat} (hf : mf_is f = true) : f ≠ 99 := fun q => by subst q; cases hf
theorem hm_a (hx : mx A ax) (f : Nat) (hf : mf_is f = true) : hm G A ax h0 μ (A f) = some (marr G μ f) := by
  unfold hm; rw [hx.1 f hf]; exact if_neg (mf_99 hf)
theorem mobj_u2 {f k : Nat} {v : Int} (hf : mf_is f = true) : mobj A (u2 μ f k v) = mobj A μ := by
  have h : ∀ g, mf_is g = false → u2 μ f k v g 0 = μ g 0 := fun g hg => u2_f (fun q => by subst q; rw [hg] at hf; cases hf)
  unfold mobj
  simp only [h 0 rfl, h 1 rfl, h 3 rfl, h 5 rfl, h 45 rfl, h 46 rfl, h 47 rfl, h 48 rfl, h 49 rfl]
theorem marr_u2 {f k g : Nat} {v : Int} (h : g ≠ f) : marr G (u2 μ f k v) g = marr G μ g := by
  have e : ∀ j, u2 μ f k v g j = μ g j := fun j => u2_f h
  unfold marr mcon
  simp only [e]
theorem hm_put (hx : mx A ax) {f k : Nat} {v : Int} (hf : mf_is f = true) {e : va_E} (he : e = marr G (u2 μ f k v) f) : va_up (hm G A ax h0 μ) (A f) (some e) = hm G A ax h0 (u2 μ f k v) := by
  subst he
  funext a
  by_cases ha : a = A f
  · subst ha
    rw [up_s, hm_a hx f hf]
  · rw [up_n ha]
    unfold hm
    cases hax : ax a with
    | none => rfl
    | some g =>
      have hg := hx.2.2 a g hax
      have hgf : g ≠ f := fun q => ha (by rw [hg.1, q])
      dsimp only
      by_cases h9 : g = 99
      · rw [if_pos h9, if_pos h9, mobj_u2 hf]
      · rw [if_neg h9, if_neg h9, marr_u2 hgf]
theorem marr_I {f k n : Nat} {v : Int} (ht : mf_ty f ≠ 1) (hn : mf_len f = n) : (Sum.inl (mm_dA G (mf_ty f), n, .inl (upd (fun j => iI (μ f j)) k (iI v))) : va_E) = marr G (u2 μ f k v) f := by
  subst hn
  unfold marr
  have : mcon (u2 μ f k v) f = .inl (upd (fun j => iI (μ f j)) k (iI v)) := by
    unfold mcon
    split
    · rename_i h; exact absurd h ht
    · congr 1
      funext j
      unfold upd
      rw [u2_g]
      split <;> rfl
  rw [this]
theorem marr_L {f k n : Nat} {v : Int} (ht : mf_ty f = 1) (hn : mf_len f = n) : (Sum.inl (mm_dA G 1, n, .inr (.inl (vp_updL (fun j => iL (μ f j)) k (iL v)))) : va_E) = marr G (u2 μ f k v) f := by
  subst hn
  unfold marr
  have : mcon (u2 μ f k v) f = .inr (.inl (vp_updL (fun j => iL (μ f j)) k (iL v))) := by
    unfold mcon
    rw [ht]
    show Sum.inr (Sum.inl fun j => iL (u2 μ f k v f j)) = _
    congr 2
    funext j
    unfold vp_updL
    rw [u2_g]
    split <;> rfl
  rw [this, ht]
theorem hm_putO (hx : mx A ax) {f : Nat} {v : Int} (hf : mf_is f = false) {fs : List Value} (he : fs = mobj A (u2 μ f 0 v)) : va_up (hm G A ax h0 μ) (A 99) (some (.inr (6, fs))) = hm G A ax h0 (u2 μ f 0 v) := by
  subst he
  funext a
  by_cases ha : a = A 99
  · subst ha
    rw [up_s, hm_o hx]
  · rw [up_n ha]
    unfold hm
    cases hax : ax a with
    | none => rfl
    | some g =>
      have hg := hx.2.2 a g hax
      have h9 : g ≠ 99 := fun q => ha (by rw [hg.1, q])
      have hgf : g ≠ f := fun q => by
        rcases hg.2 with w | w
        · exact h9 w
        · rw [q, hf] at w; cases w
      dsimp only
      rw [if_neg h9, if_neg h9, marr_u2 hgf]
end MHM
section MRH
variable {L : Launch} {G : mmG} {M : mmM} {MC MS : Nat} {PR : Option Value → mmH → Prop} {PX : String → mmH → Prop} {θ : mmT} {j : Nat} {l : List (Nat × Value)} {st : List Value} {h h' : mmH} {cs sl f : Nat}
theorem mm_rh (e : h = h') (k : mm_run L G M MC MS PR PX θ f j l st h' cs sl) : mm_run L G M MC MS PR PX θ f j l st h cs sl := e ▸ k
end MRH
