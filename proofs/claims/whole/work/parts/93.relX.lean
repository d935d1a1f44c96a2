section R25
variable {κ μ κ' μ' ν ν' : Nat → Nat → Int} {O O' : Nat → Nat}
/-- one mark more -/
theorem mk_step {s i k v : Int} {m : Nat} {ν E ν' : Nat → Nat → Int} (k0 : 0 ≤ k) (hlen : k + ((m + 1 : Nat) : Int) ≤ ν 600 (ν 202 (mj s i)).toNat)
    (e1 : ∀ f q, ¬ ((f = 205 ∨ f = 206) ∧ q = mj s i) → ¬ (f = 1000 + (ν 202 (mj s i)).toNat ∧ q = k.toNat) → E f q = ν f q) (e2 : E (1000 + (ν 202 (mj s i)).toNat) k.toNat = v)
    (h : mkK E ν' s i (fun o => if k + 1 ≤ (o : Int) ∧ (o : Int) < k + 1 + m then v else E (1000 + (E 202 (mj s i)).toNat) o)) : mkK ν ν' s i (fun o => if k ≤ (o : Int) ∧ (o : Int) < k + ((m + 1 : Nat) : Int) then v else ν (1000 + (ν 202 (mj s i)).toNat) o) := by
  have e202 : E 202 (mj s i) = ν 202 (mj s i) := e1 _ _ (by omega) (by omega)
  have e600 : ∀ q, E 600 q = ν 600 q := fun q => e1 _ _ (by omega) (by omega)
  obtain ⟨i2, i3, i4, i5⟩ := h
  rw [e202] at i2 i3 i4 i5
  rw [e600] at i4 i5
  refine ⟨fun f q x y => ?_, fun o => ?_, i4, i5⟩
  · rw [i2 f q x y, e1 f q x (fun w => y w.1)]
  · rw [i3 o]
    show (if k + 1 ≤ (o : Int) ∧ (o : Int) < k + 1 + m then v else E (1000 + (ν 202 (mj s i)).toNat) o) = (if k ≤ (o : Int) ∧ (o : Int) < k + ((m + 1 : Nat) : Int) then v else ν (1000 + (ν 202 (mj s i)).toNat) o)
    by_cases y : o = k.toNat
    · rw [if_neg (show ¬ (k + 1 ≤ (o : Int) ∧ (o : Int) < k + 1 + m) by omega), if_pos (show k ≤ (o : Int) ∧ (o : Int) < k + ((m + 1 : Nat) : Int) by omega), y, e2]
    · rw [e1 _ _ (by omega) (fun w => y w.2)]
      by_cases w : k ≤ (o : Int) ∧ (o : Int) < k + ((m + 1 : Nat) : Int)
      · rw [if_pos w, if_pos (show k + 1 ≤ (o : Int) ∧ (o : Int) < k + 1 + m by omega)]
      · rw [if_neg w, if_neg (show ¬ (k + 1 ≤ (o : Int) ∧ (o : Int) < k + 1 + m) by omega)]
theorem mk_cnt {s i k v c : Int} {ν E : Nat → Nat → Int} (k0 : 0 ≤ k) (hlen : k < ν 600 (ν 202 (mj s i)).toNat)
    (e1 : ∀ f q, ¬ ((f = 205 ∨ f = 206) ∧ q = mj s i) → ¬ (f = 1000 + (ν 202 (mj s i)).toNat ∧ q = k.toNat) → E f q = ν f q) (e2 : E (1000 + (ν 202 (mj s i)).toNat) k.toNat = v) : mR (E (1000 + (E 202 (mj s i)).toNat)) c 0 (E 600 (E 202 (mj s i)).toNat) = mR (ν (1000 + (ν 202 (mj s i)).toNat)) c 0 (ν 600 (ν 202 (mj s i)).toNat) - b2 (ν (1000 + (ν 202 (mj s i)).toNat) k.toNat = c) + b2 (v = c) := by
  have e202 : E 202 (mj s i) = ν 202 (mj s i) := e1 _ _ (by omega) (by omega)
  have e600 : ∀ q, E 600 q = ν 600 q := fun q => e1 _ _ (by omega) (by omega)
  rw [e202, e600, mR_up (g := ν (1000 + (ν 202 (mj s i)).toNat)) (j := k.toNat) (by omega) (fun q hq => e1 _ _ (by omega) (fun w => hq w.2)), e2]
/-- what markHere does behind its loop -/
def mhT (ν : Nat → Nat → Int) (s i g : Int) : Nat → Nat → Int := (if g = 0 then (if (ν 200 (mj s i)) = 1 then (if (ν 207 (mj s i)) = 4 then (if (ν 206 (mj s i)) = (ν 203 (mj s i)) then (u2 ν 200 (mj s i) 2) else ν) else ν) else ν) else (if (ν 200 (mj s i)) = 1 then (if (ν 206 (mj s i)) = (ν 203 (mj s i)) then (u2 (u2 ν 207 (mj s i) 4) 200 (mj s i) 2) else (u2 ν 207 (mj s i) 4)) else (u2 ν 207 (mj s i) 4)))
theorem here_l {s i u n g : Int} (u0 : 0 ≤ u) : ∀ (d m : Nat) (k : Int) (ν : Nat → Nat → Int), m < d → u ≤ k → k + m = u + n → u + n ≤ ν 600 (ν 202 (mj s i)).toNat → ν 205 (mj s i) = mR (ν (1000 + (ν 202 (mj s i)).toNat)) 3 0 (ν 600 (ν 202 (mj s i)).toNat) → ν 206 (mj s i) = mR (ν (1000 + (ν 202 (mj s i)).toNat)) 4 0 (ν 600 (ν 202 (mj s i)).toNat) →
    ∃ ν', s_markHere_2 κ s i u n g d k ν = mhT ν' s i g ∧ mkK ν ν' s i (fun o => if k ≤ (o : Int) ∧ (o : Int) < k + m then 4 else ν (1000 + (ν 202 (mj s i)).toNat) o)
  | 0, m, k, ν, g1, _, _, _, _, _ => by omega
  | d + 1, 0, k, ν, g1, g2, g3, g4, g5, g6 => by
    refine ⟨ν, ?_, fun _ _ _ _ => rfl, fun o => ?_, g5, g6⟩
    · rw [s_markHere_2, if_pos (by omega)]; rfl
    · exact (if_neg (show ¬ (k ≤ (o : Int) ∧ (o : Int) < k + ((0 : Nat) : Int)) by omega)).symm
  | d + 1, m + 1, k, ν, g1, g2, g3, g4, g5, g6 => by
    rw [s_markHere_2, if_neg (by omega)]
    have go : ∀ E : Nat → Nat → Int, (∀ f q, ¬ ((f = 205 ∨ f = 206) ∧ q = mj s i) → ¬ (f = 1000 + (ν 202 (mj s i)).toNat ∧ q = k.toNat) → E f q = ν f q) → E (1000 + (ν 202 (mj s i)).toNat) k.toNat = 4 → E 205 (mj s i) = ν 205 (mj s i) - b2 (ν (1000 + (ν 202 (mj s i)).toNat) k.toNat = 3) → E 206 (mj s i) = ν 206 (mj s i) - b2 (ν (1000 + (ν 202 (mj s i)).toNat) k.toNat = 4) + 1 → ∃ ν', s_markHere_2 κ s i u n g d (k + 1) E = mhT ν' s i g ∧ mkK ν ν' s i (fun o => if k ≤ (o : Int) ∧ (o : Int) < k + ((m + 1 : Nat) : Int) then 4 else ν (1000 + (ν 202 (mj s i)).toNat) o) := by
      intro E e1 e2 e3 e4
      have e202 : E 202 (mj s i) = ν 202 (mj s i) := e1 _ _ (by omega) (by omega)
      have e600 : ∀ q, E 600 q = ν 600 q := fun q => e1 _ _ (by omega) (by omega)
      obtain ⟨ν', i1, i2⟩ := here_l (s := s) (i := i) (n := n) (g := g) u0 d m (k + 1) E (by omega) (by omega) (by omega) (by rw [e202, e600]; exact g4) (by rw [mk_cnt (v := 4) (by omega) (by omega) e1 e2, e3, g5]; simp [b2]) (by rw [mk_cnt (v := 4) (by omega) (by omega) e1 e2, e4, g6]; simp [b2])
      exact ⟨ν', i1, mk_step (by omega) (by omega) e1 e2 i2⟩
    by_cases z : ν (1000 + (ν 202 (mj s i)).toNat) k.toNat = 3
    · rw [if_pos z]
      refine go _ (fun f q x y => ?_) ?_ ?_ ?_
      · rw [u2_n y, u2_n (by omega), u2_n (by omega)]
      · rw [u2_s]
      · rw [u2_f (by omega), u2_f (by omega), u2_s, z]; rfl
      · rw [u2_f (by omega), u2_s, z]; simp [b2]
    · rw [if_neg z]
      by_cases z2 : ν (1000 + (ν 202 (mj s i)).toNat) k.toNat = 4
      · rw [if_pos z2]
        refine go _ (fun f q x y => ?_) ?_ ?_ ?_
        · rw [u2_n y]
        · rw [u2_s]
        · rw [u2_f (by omega)]; simp [b2, z2]
        · rw [u2_f (by omega)]; simp [b2, z2]
      · rw [if_neg z2]
        refine go _ (fun f q x y => ?_) ?_ ?_ ?_
        · rw [u2_n y, u2_n (by omega)]
        · rw [u2_s]
        · rw [u2_f (by omega), u2_f (by omega)]; simp [b2, z]
        · rw [u2_f (by omega), u2_s]; simp [b2, z2]
theorem out_l {s i u n : Int} (u0 : 0 ≤ u) : ∀ (d m : Nat) (k : Int) (ν : Nat → Nat → Int), m < d → u ≤ k → k + m = u + n → u + n ≤ ν 600 (ν 202 (mj s i)).toNat → ν 205 (mj s i) = mR (ν (1000 + (ν 202 (mj s i)).toNat)) 3 0 (ν 600 (ν 202 (mj s i)).toNat) → ν 206 (mj s i) = mR (ν (1000 + (ν 202 (mj s i)).toNat)) 4 0 (ν 600 (ν 202 (mj s i)).toNat) → (∀ o : Nat, k ≤ (o : Int) → (o : Int) < u + n → ¬ ν (1000 + (ν 202 (mj s i)).toNat) o = 4) →
    ∃ ν', s_markOut_6 κ s i u n d k ν = (u2 ν' 204 (mj s i) ((ν' 204 (mj s i)) + (v_maxI 0 ((u + n) - (ν' 204 (mj s i)))))) ∧ v_markOut_6 κ s i u n d k ν = v_maxI 0 ((u + n) - (ν' 204 (mj s i))) ∧ mkK ν ν' s i (fun o => if k ≤ (o : Int) ∧ (o : Int) < k + m then 2 else ν (1000 + (ν 202 (mj s i)).toNat) o)
  | 0, m, k, ν, g1, _, _, _, _, _, _ => by omega
  | d + 1, 0, k, ν, g1, g2, g3, g4, g5, g6, g7 => by
    refine ⟨ν, ?_, ?_, fun _ _ _ _ => rfl, fun o => ?_, g5, g6⟩
    · rw [s_markOut_6, if_pos (by omega)]
    · rw [v_markOut_6, if_pos (by omega)]
    · exact (if_neg (show ¬ (k ≤ (o : Int) ∧ (o : Int) < k + ((0 : Nat) : Int)) by omega)).symm
  | d + 1, m + 1, k, ν, g1, g2, g3, g4, g5, g6, g7 => by
    rw [s_markOut_6, v_markOut_6, if_neg (show ¬ u + n ≤ k by omega), if_neg (show ¬ u + n ≤ k by omega)]
    have n4 : ¬ ν (1000 + (ν 202 (mj s i)).toNat) k.toNat = 4 := g7 _ (by omega) (by omega)
    have go : ∀ E : Nat → Nat → Int, (∀ f q, ¬ ((f = 205 ∨ f = 206) ∧ q = mj s i) → ¬ (f = 1000 + (ν 202 (mj s i)).toNat ∧ q = k.toNat) → E f q = ν f q) → E (1000 + (ν 202 (mj s i)).toNat) k.toNat = 2 → E 205 (mj s i) = ν 205 (mj s i) - b2 (ν (1000 + (ν 202 (mj s i)).toNat) k.toNat = 3) → E 206 (mj s i) = ν 206 (mj s i) → ∃ ν', s_markOut_6 κ s i u n d (k + 1) E = (u2 ν' 204 (mj s i) ((ν' 204 (mj s i)) + (v_maxI 0 ((u + n) - (ν' 204 (mj s i)))))) ∧ v_markOut_6 κ s i u n d (k + 1) E = v_maxI 0 ((u + n) - (ν' 204 (mj s i))) ∧ mkK ν ν' s i (fun o => if k ≤ (o : Int) ∧ (o : Int) < k + ((m + 1 : Nat) : Int) then 2 else ν (1000 + (ν 202 (mj s i)).toNat) o) := by
      intro E e1 e2 e3 e4
      have e202 : E 202 (mj s i) = ν 202 (mj s i) := e1 _ _ (by omega) (by omega)
      have e600 : ∀ q, E 600 q = ν 600 q := fun q => e1 _ _ (by omega) (by omega)
      obtain ⟨ν', i1, i1', i2⟩ := out_l (s := s) (i := i) (n := n) u0 d m (k + 1) E (by omega) (by omega) (by omega) (by rw [e202, e600]; exact g4) (by rw [mk_cnt (v := 2) (by omega) (by omega) e1 e2, e3, g5]; simp [b2]) (by rw [mk_cnt (v := 2) (by omega) (by omega) e1 e2, e4, g6]; simp [b2, n4]) (fun o x y => by rw [e202, e1 _ _ (by omega) (by omega)]; exact g7 o (by omega) y)
      exact ⟨ν', i1, i1', mk_step (by omega) (by omega) e1 e2 i2⟩
    by_cases z : ν (1000 + (ν 202 (mj s i)).toNat) k.toNat = 3
    · rw [if_pos z, if_pos z]
      refine go _ (fun f q x y => ?_) ?_ ?_ ?_
      · rw [u2_n y, u2_n (by omega)]
      · rw [u2_s]
      · rw [u2_f (by omega), u2_s, z]; rfl
      · rw [u2_f (by omega), u2_f (by omega)]
    · rw [if_neg z, if_neg z]
      refine go _ (fun f q x y => ?_) ?_ ?_ ?_
      · rw [u2_n y]
      · rw [u2_s]
      · rw [u2_f (by omega)]; simp [b2, z]
      · rw [u2_f (by omega)]
end R25
