section R24
variable {κ μ κ' μ' ν ν' : Nat → Nat → Int} {O O' : Nat → Nat}
/-- marks of one stream of one side have changed, by offsets -/
def mkM (ν ν' : Nat → Nat → Int) (s i : Int) (F : Nat → Int) : Prop :=
  mV ν' ∧ (∀ f q, ¬ (f = 39 ∧ ν 37 q = i ∧ 65536 * s.toNat ≤ q ∧ q < 65536 * s.toNat + 65536) → f ≠ 50 → ν' f q = ν f q) ∧ (∀ o : Nat, (o : Int) < mW ν s i → mMk ν' s i o = F o)
theorem mk_up (hV : mV ν) {s i : Int} (h1 : 0 ≤ s) (h2 : s ≤ 1) {o : Nat} (ho : (o : Int) < mW ν s i) {v : Int} (hv : 0 ≤ v ∧ v ≤ 3) : mkM ν (u2 ν 39 (v_placeOf ν s i o).toNat v) s i (fun o' => if o' = o then v else mMk ν s i o') ∧ mAll (u2 ν 39 (v_placeOf ν s i o).toNat v) s (mTot (u2 ν 39 (v_placeOf ν s i o).toNat v) s) = mAll ν s (mTot ν s) + b2 (¬ v = 0) - b2 (¬ mMk ν s i o = 0) := by
  have v36 : 0 ≤ ν 36 s.toNat ∧ ν 36 s.toNat ≤ 65536 := hV 36 _
  obtain ⟨n, e1, e2, e3, e4⟩ := placeOf_r hV (i := i) h1 (show (0 : Int) ≤ (o : Int) by omega) ho
  have hix : (v_placeOf ν s i o).toNat = (65536 * s).toNat + n := by omega
  refine ⟨⟨hV.u (f := 39) hv, fun f q x _ => ?_, fun o' ho' => ?_⟩, ?_⟩
  · refine u2_n (fun z => x ⟨z.1, ?_⟩)
    rw [z.2, hix, e3]
    omega
  · show mMk (u2 ν 39 (v_placeOf ν s i o).toNat v) s i o' = if o' = o then v else mMk ν s i o'
    unfold mMk
    rw [v_placeOf_u (by decide), u2_g]
    by_cases z : o' = o
    · rw [if_pos z, if_pos (by rw [z])]
    · rw [if_neg z, if_neg]
      intro y
      obtain ⟨n', f1, f2, f3, f4⟩ := placeOf_r hV (i := i) h1 (show (0 : Int) ≤ (o' : Int) by omega) ho'
      have : n' = n := by omega
      rw [this, e4] at f4
      omega
  · rw [mTot_cg (μ' := ν) (fun k => u2_f (by decide)), mAll_up (μ := ν) (j := (v_placeOf ν s i o).toNat) (fun q hq => u2_n (fun z => hq z.2)), u2_s, if_pos (by unfold mTot; omega)]
    unfold mMk
    omega
theorem mkM_W {F : Nat → Int} {s i : Int} (h : mkM ν ν' s i F) (t j : Int) : mW ν' t j = mW ν t j := mW_cg (fun f hf k => h.2.1 f k (by
  simp only [List.elem_eq_mem, decide_eq_true_eq, List.mem_cons, List.not_mem_nil, or_false] at hf
  omega) (by
  simp only [List.elem_eq_mem, decide_eq_true_eq, List.mem_cons, List.not_mem_nil, or_false] at hf
  omega)) t j
theorem mkM_P {F : Nat → Int} {s i : Int} (h : mkM ν ν' s i F) (t j o : Int) : v_placeOf ν' t j o = v_placeOf ν t j o := v_placeOf_cg (fun f hf k => h.2.1 f k (by
  simp only [List.elem_eq_mem, decide_eq_true_eq, List.mem_cons, List.not_mem_nil, or_false] at hf
  omega) (by
  simp only [List.elem_eq_mem, decide_eq_true_eq, List.mem_cons, List.not_mem_nil, or_false] at hf
  omega))
theorem mkM_tr {ν'' : Nat → Nat → Int} {F F' : Nat → Int} {s i : Int} (h : mkM ν ν' s i F) (h' : mkM ν' ν'' s i F') : mkM ν ν'' s i F' :=
  ⟨h'.1, fun f q x y => by
    rw [h'.2.1 f q (by rw [h.2.1 37 q (by omega) (by omega)]; exact x) y]; exact h.2.1 f q x y, fun o ho => h'.2.2 o (by rw [mkM_W h]; exact ho)⟩
/-- what goneStream does behind its loop -/
def gsT (ν : Nat → Nat → Int) (s i p g : Int) : Nat → Nat → Int := (if (ν 55 p.toNat) = 1 then (if (ν 20 (mj s i)) = 3 then (s_looksOver ν s i) else (if g = 0 then (s_looksOver (u2 ν 20 (mj s i) 2) s i) else (s_looksOver (u2 ν 20 (mj s i) 3) s i))) else (s_looksOver ν s i))
theorem gone_l {s i p g : Int} (h1 : 0 ≤ s) (h2 : s ≤ 1) (hi : μ 53 p.toNat = i) : ∀ (d m j : Nat) (ν : Nat → Nat → Int), mV ν → m < d → ν 56 p.toNat = j + m → ν 54 p.toNat + j + m ≤ mW ν s i → (∀ o : Nat, (o : Int) < ν 54 p.toNat + j + m → ν 54 p.toNat ≤ o → ¬ mMk ν s i o = 0) → ∃ ν', s_goneStream_12 μ s p g d j ν = gsT ν' s i p g ∧ mkM ν ν' s i (fun o => if ν 54 p.toNat + j ≤ (o : Int) ∧ (o : Int) < ν 54 p.toNat + j + m then (if mMk ν s i o = 3 then 3 else if g = 0 then 2 else 3) else mMk ν s i o) ∧ mAll ν' s (mTot ν' s) = mAll ν s (mTot ν s)
  | 0, m, j, ν, _, g1, _, _, _ => by omega
  | d + 1, 0, j, ν, hV, g1, g2, g3, g4 => by
    refine ⟨ν, ?_, ⟨hV, fun _ _ _ _ => rfl, fun o ho => ?_⟩, rfl⟩
    · rw [s_goneStream_12, if_pos (by omega), hi]
      rfl
    · exact (if_neg (show ¬ (ν 54 p.toNat + (j : Int) ≤ (o : Int) ∧ (o : Int) < ν 54 p.toNat + j + ((0 : Nat) : Int)) by omega)).symm
  | d + 1, m + 1, j, ν, hV, g1, g2, g3, g4 => by
    have v54 : 0 ≤ ν 54 p.toNat := (hV 54 _).1
    have ho : (((ν 54 p.toNat).toNat + j : Nat) : Int) < mW ν s i := by omega
    have hpl : v_placeOf ν s (μ 53 p.toNat) (ν 54 p.toNat + j) = v_placeOf ν s i (((ν 54 p.toNat).toNat + j : Nat) : Int) := by
      rw [hi, show ν 54 p.toNat + (j : Int) = (((ν 54 p.toNat).toNat + j : Nat) : Int) by omega]
    have hmk : ν 39 (v_placeOf ν s i (((ν 54 p.toNat).toNat + j : Nat) : Int)).toNat = mMk ν s i ((ν 54 p.toNat).toNat + j) := rfl
    have step : s_goneStream_12 μ s p g (d + 1) j ν = if mMk ν s i ((ν 54 p.toNat).toNat + j) = 3 then s_goneStream_12 μ s p g d (j + 1 : Nat) ν else s_goneStream_12 μ s p g d (j + 1 : Nat) (u2 ν 39 (v_placeOf ν s i (((ν 54 p.toNat).toNat + j : Nat) : Int)).toNat (if g = 0 then 2 else 3)) := by
      rw [s_goneStream_12, if_neg (by omega), hpl, hmk, show (j : Int) + 1 = ((j + 1 : Nat) : Int) by omega]
      split
      · rfl
      · split <;> rfl
    rw [step]
    by_cases z : mMk ν s i ((ν 54 p.toNat).toNat + j) = 3
    · rw [if_pos z]
      obtain ⟨ν', i1, i2, i3⟩ := gone_l h1 h2 hi d m (j + 1) ν hV (by omega) (by omega) (by omega) (fun o x y => g4 o (by omega) y)
      refine ⟨ν', i1, ⟨i2.1, i2.2.1, fun o ho' => ?_⟩, i3⟩
      rw [i2.2.2 o ho']
      show (if ν 54 p.toNat + ((j + 1 : Nat) : Int) ≤ (o : Int) ∧ (o : Int) < ν 54 p.toNat + ((j + 1 : Nat) : Int) + m then (if mMk ν s i o = 3 then 3 else if g = 0 then 2 else 3) else mMk ν s i o) = (if ν 54 p.toNat + j ≤ (o : Int) ∧ (o : Int) < ν 54 p.toNat + j + ((m + 1 : Nat) : Int) then (if mMk ν s i o = 3 then 3 else if g = 0 then 2 else 3) else mMk ν s i o)
      by_cases y : o = (ν 54 p.toNat).toNat + j
      · rw [if_neg (by omega), if_pos (by omega), y, if_pos z, z]
      · by_cases w : ν 54 p.toNat + j ≤ (o : Int) ∧ (o : Int) < ν 54 p.toNat + j + ((m + 1 : Nat) : Int)
        · rw [if_pos w, if_pos (by omega)]
        · rw [if_neg w, if_neg (by omega)]
    · rw [if_neg z]
      have hv : (0 : Int) ≤ (if g = 0 then 2 else 3) ∧ (if g = 0 then (2 : Int) else 3) ≤ 3 := by split <;> omega
      obtain ⟨u1, u2'⟩ := mk_up hV h1 h2 ho hv
      have e56 : (u2 ν 39 (v_placeOf ν s i (((ν 54 p.toNat).toNat + j : Nat) : Int)).toNat (if g = 0 then 2 else 3)) 56 p.toNat = ν 56 p.toNat := u2_f (by decide)
      have e54 : (u2 ν 39 (v_placeOf ν s i (((ν 54 p.toNat).toNat + j : Nat) : Int)).toNat (if g = 0 then 2 else 3)) 54 p.toNat = ν 54 p.toNat := u2_f (by decide)
      obtain ⟨ν', i1, i2, i3⟩ := gone_l h1 h2 hi d m (j + 1) (u2 ν 39 (v_placeOf ν s i (((ν 54 p.toNat).toNat + j : Nat) : Int)).toNat (if g = 0 then 2 else 3)) u1.1 (by omega) (by rw [e56]; omega) (by rw [e54, mkM_W u1]; omega) (fun o x y => by
        rw [e54] at x y
        rw [u1.2.2 o (by omega)]
        show ¬ (if o = (ν 54 p.toNat).toNat + j then (if g = 0 then (2 : Int) else 3) else mMk ν s i o) = 0
        by_cases w : o = (ν 54 p.toNat).toNat + j
        · rw [if_pos w]; split <;> omega
        · rw [if_neg w]; exact g4 o (by omega) y)
      have tr := mkM_tr u1 i2
      refine ⟨ν', i1, ⟨tr.1, tr.2.1, fun o ho' => ?_⟩, ?_⟩
      · rw [tr.2.2 o ho', e54]
        have := u1.2.2 o ho'
        show (if ν 54 p.toNat + ((j + 1 : Nat) : Int) ≤ (o : Int) ∧ (o : Int) < ν 54 p.toNat + ((j + 1 : Nat) : Int) + m then (if mMk (u2 ν 39 (v_placeOf ν s i (((ν 54 p.toNat).toNat + j : Nat) : Int)).toNat (if g = 0 then 2 else 3)) s i o = 3 then 3 else if g = 0 then 2 else 3) else mMk (u2 ν 39 (v_placeOf ν s i (((ν 54 p.toNat).toNat + j : Nat) : Int)).toNat (if g = 0 then 2 else 3)) s i o) = (if ν 54 p.toNat + j ≤ (o : Int) ∧ (o : Int) < ν 54 p.toNat + j + ((m + 1 : Nat) : Int) then (if mMk ν s i o = 3 then 3 else if g = 0 then 2 else 3) else mMk ν s i o)
        rw [this]
        show (if ν 54 p.toNat + ((j + 1 : Nat) : Int) ≤ (o : Int) ∧ (o : Int) < ν 54 p.toNat + ((j + 1 : Nat) : Int) + m then (if (if o = (ν 54 p.toNat).toNat + j then (if g = 0 then (2 : Int) else 3) else mMk ν s i o) = 3 then 3 else if g = 0 then 2 else 3) else (if o = (ν 54 p.toNat).toNat + j then (if g = 0 then (2 : Int) else 3) else mMk ν s i o)) = _
        by_cases y : o = (ν 54 p.toNat).toNat + j
        · rw [if_neg (show ¬ (ν 54 p.toNat + ((j + 1 : Nat) : Int) ≤ (o : Int) ∧ (o : Int) < ν 54 p.toNat + ((j + 1 : Nat) : Int) + m) by omega), if_pos y, if_pos (show ν 54 p.toNat + j ≤ (o : Int) ∧ (o : Int) < ν 54 p.toNat + j + ((m + 1 : Nat) : Int) by omega), y, if_neg z]
        · rw [if_neg y]
          by_cases w : ν 54 p.toNat + j ≤ (o : Int) ∧ (o : Int) < ν 54 p.toNat + j + ((m + 1 : Nat) : Int)
          · rw [if_pos w, if_pos (by omega)]
          · rw [if_neg w, if_neg (by omega)]
      · rw [i3, u2']
        have b1 : b2 (¬ (if g = 0 then (2 : Int) else 3) = 0) = 1 := if_pos (by split <;> omega)
        have b2' : b2 (¬ mMk ν s i ((ν 54 p.toNat).toNat + j) = 0) = 1 := if_pos (g4 _ (by omega) (by omega))
        omega
/-- marks of a sending part have changed, and its counts with them -/
def mkK (κ κ' : Nat → Nat → Int) (s i : Int) (F : Nat → Int) : Prop :=
  (∀ f k, ¬ ((f = 205 ∨ f = 206) ∧ k = mj s i) → f ≠ 1000 + (κ 202 (mj s i)).toNat → κ' f k = κ f k) ∧ (∀ o, κ' (1000 + (κ 202 (mj s i)).toNat) o = F o) ∧ κ' 205 (mj s i) = mR (κ' (1000 + (κ 202 (mj s i)).toNat)) 3 0 (κ 600 (κ 202 (mj s i)).toNat) ∧ κ' 206 (mj s i) = mR (κ' (1000 + (κ 202 (mj s i)).toNat)) 4 0 (κ 600 (κ 202 (mj s i)).toNat)
theorem mR_up {g g' : Nat → Int} {c : Int} {j : Nat} {n : Int} (h : (j : Int) < n) (e : ∀ q, q ≠ j → g' q = g q) : mR g' c 0 n = mR g c 0 n - b2 (g j = c) + b2 (g' j = c) := by
  unfold mR
  exact mRem_up _ _ (by omega) (by omega) e
theorem lost_l {s i u n g : Int} (u0 : 0 ≤ u) : ∀ (d m : Nat) (k : Int) (ν : Nat → Nat → Int), m < d → u ≤ k → k + m = u + n → u + n ≤ ν 600 (ν 202 (mj s i)).toNat → ν 205 (mj s i) = mR (ν (1000 + (ν 202 (mj s i)).toNat)) 3 0 (ν 600 (ν 202 (mj s i)).toNat) → ν 206 (mj s i) = mR (ν (1000 + (ν 202 (mj s i)).toNat)) 4 0 (ν 600 (ν 202 (mj s i)).toNat) →
    ∃ ν', s_markLost_2 κ s i u n g d k ν = (if g = 0 then ν' else (if (ν' 207 (mj s i)) = 4 then ν' else (u2 ν' 207 (mj s i) 3))) ∧ mkK ν ν' s i (fun o => if k ≤ (o : Int) ∧ (o : Int) < k + m then (if ν (1000 + (ν 202 (mj s i)).toNat) o = 2 then 3 else ν (1000 + (ν 202 (mj s i)).toNat) o) else ν (1000 + (ν 202 (mj s i)).toNat) o)
  | 0, m, k, ν, g1, _, _, _, _, _ => by omega
  | d + 1, 0, k, ν, g1, g2, g3, g4, g5, g6 => by
    refine ⟨ν, ?_, fun _ _ _ _ => rfl, fun o => ?_, g5, g6⟩
    · rw [s_markLost_2, if_pos (by omega)]
    · exact (if_neg (show ¬ (k ≤ (o : Int) ∧ (o : Int) < k + ((0 : Nat) : Int)) by omega)).symm
  | d + 1, m + 1, k, ν, g1, g2, g3, g4, g5, g6 => by
    rw [s_markLost_2, if_neg (by omega)]
    by_cases z : ν (1000 + (ν 202 (mj s i)).toNat) k.toNat = 2
    · rw [if_pos z]
      obtain ⟨E, hE⟩ : ∃ E, E = u2 (u2 ν (1000 + (ν 202 (mj s i)).toNat) k.toNat 3) 205 (mj s i) (ν 205 (mj s i) + 1) := ⟨_, rfl⟩
      rw [← hE]
      have e1 : ∀ f q, ¬ (f = 205 ∧ q = mj s i) → ¬ (f = 1000 + (ν 202 (mj s i)).toNat ∧ q = k.toNat) → E f q = ν f q := fun f q x y => by rw [hE, u2_n x, u2_n y]
      have e202 : E 202 (mj s i) = ν 202 (mj s i) := e1 _ _ (by omega) (by omega)
      have e600 : ∀ q, E 600 q = ν 600 q := fun q => e1 _ _ (by omega) (by omega)
      have erow : ∀ q, E (1000 + (ν 202 (mj s i)).toNat) q = if q = k.toNat then 3 else ν (1000 + (ν 202 (mj s i)).toNat) q := fun q => by
        rw [hE, u2_f (by omega), u2_g]
      have hc : ∀ c : Int, mR (E (1000 + (ν 202 (mj s i)).toNat)) c 0 (ν 600 (ν 202 (mj s i)).toNat) = mR (ν (1000 + (ν 202 (mj s i)).toNat)) c 0 (ν 600 (ν 202 (mj s i)).toNat) - b2 ((2 : Int) = c) + b2 ((3 : Int) = c) := fun c => by
        rw [mR_up (g := ν (1000 + (ν 202 (mj s i)).toNat)) (j := k.toNat) (by omega) (fun q hq => by rw [erow, if_neg hq]), z, erow, if_pos rfl]
      obtain ⟨ν', i1, i2, i3, i4, i5⟩ := lost_l (s := s) (i := i) (n := n) (g := g) u0 d m (k + 1) E (by omega) (by omega) (by omega) (by rw [e202, e600]; exact g4) (by rw [e202, e600, hc, hE, u2_s, g5]; simp [b2]) (by rw [e202, e600, hc, e1 206 _ (by omega) (by omega), g6]; simp [b2])
      rw [e202] at i2 i3 i4 i5
      rw [e600] at i4 i5
      refine ⟨ν', i1, fun f q x y => ?_, fun o => ?_, i4, i5⟩
      · rw [i2 f q x y, e1 f q (by omega) (fun w => y w.1)]
      · rw [i3 o]
        show (if k + 1 ≤ (o : Int) ∧ (o : Int) < k + 1 + m then (if E (1000 + (ν 202 (mj s i)).toNat) o = 2 then 3 else E (1000 + (ν 202 (mj s i)).toNat) o) else E (1000 + (ν 202 (mj s i)).toNat) o) = (if k ≤ (o : Int) ∧ (o : Int) < k + ((m + 1 : Nat) : Int) then (if ν (1000 + (ν 202 (mj s i)).toNat) o = 2 then 3 else ν (1000 + (ν 202 (mj s i)).toNat) o) else ν (1000 + (ν 202 (mj s i)).toNat) o)
        rw [erow]
        by_cases y : o = k.toNat
        · rw [if_neg (show ¬ (k + 1 ≤ (o : Int) ∧ (o : Int) < k + 1 + m) by omega), if_pos y, if_pos (show k ≤ (o : Int) ∧ (o : Int) < k + ((m + 1 : Nat) : Int) by omega), y, if_pos z]
        · rw [if_neg y]
          by_cases w : k ≤ (o : Int) ∧ (o : Int) < k + ((m + 1 : Nat) : Int)
          · rw [if_pos w, if_pos (show k + 1 ≤ (o : Int) ∧ (o : Int) < k + 1 + m by omega)]
          · rw [if_neg w, if_neg (show ¬ (k + 1 ≤ (o : Int) ∧ (o : Int) < k + 1 + m) by omega)]
    · rw [if_neg z]
      obtain ⟨ν', i1, i2, i3, i4, i5⟩ := lost_l (s := s) (i := i) (n := n) (g := g) u0 d m (k + 1) ν (by omega) (by omega) (by omega) g4 g5 g6
      refine ⟨ν', i1, i2, fun o => ?_, i4, i5⟩
      rw [i3 o]
      show (if k + 1 ≤ (o : Int) ∧ (o : Int) < k + 1 + m then (if ν (1000 + (ν 202 (mj s i)).toNat) o = 2 then 3 else ν (1000 + (ν 202 (mj s i)).toNat) o) else ν (1000 + (ν 202 (mj s i)).toNat) o) = (if k ≤ (o : Int) ∧ (o : Int) < k + ((m + 1 : Nat) : Int) then (if ν (1000 + (ν 202 (mj s i)).toNat) o = 2 then 3 else ν (1000 + (ν 202 (mj s i)).toNat) o) else ν (1000 + (ν 202 (mj s i)).toNat) o)
      by_cases y : o = k.toNat
      · rw [if_neg (show ¬ (k + 1 ≤ (o : Int) ∧ (o : Int) < k + 1 + m) by omega), if_pos (show k ≤ (o : Int) ∧ (o : Int) < k + ((m + 1 : Nat) : Int) by omega), y, if_neg z]
      · by_cases w : k ≤ (o : Int) ∧ (o : Int) < k + ((m + 1 : Nat) : Int)
        · rw [if_pos w, if_pos (show k + 1 ≤ (o : Int) ∧ (o : Int) < k + 1 + m by omega)]
        · rw [if_neg w, if_neg (show ¬ (k + 1 ≤ (o : Int) ∧ (o : Int) < k + 1 + m) by omega)]
end R24
