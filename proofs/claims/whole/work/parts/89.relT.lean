section R21
variable {κ μ κ' μ' κt : Nat → Nat → Int} {O O' : Nat → Nat}
/-- a sending part after n bytes of the tape were put to its end -/
def apK (κ κ' : Nat → Nat → Int) (s i n : Int) (R1 R2 : Nat) : Prop :=
  (∀ f k, ¬ ((f = 201 ∨ f = 202 ∨ f = 203) ∧ k = mj s i) → ¬ ((f = 600 ∨ f = 601) ∧ κ 602 0 ≤ (k : Int)) → ¬ (1000 ≤ f ∧ κ 602 0 ≤ ((f - 1000 : Nat) : Int)) → f ≠ 602 → f ≠ 1000 + (κ 201 (mj s i)).toNat → κ' f k = κ f k) ∧
  κ 602 0 ≤ κ' 602 0 ∧ κ' 203 (mj s i) = κ 203 (mj s i) + n ∧ κ' 201 (mj s i) = R1 ∧ κ' 202 (mj s i) = R2 ∧ 2 ≤ R1 ∧ 2 ≤ R2 ∧ (R1 : Int) < κ' 602 0 ∧ (R2 : Int) < κ' 602 0 ∧ R1 ≠ R2 ∧
  (((R1 : Int) = κ 201 (mj s i) ∧ (R2 : Int) = κ 202 (mj s i)) ∨ (κ 602 0 ≤ (R1 : Int) ∧ κ 602 0 ≤ (R2 : Int))) ∧
  κ' 601 R1 = 2 ∧ κ' 601 R2 = 2 ∧ κ' 600 R1 = κ' 600 R2 ∧ κ 203 (mj s i) + n ≤ κ' 600 R1 ∧ κ' 600 R1 ≤ 2 * (κ 203 (mj s i) + n) ∧ κ 600 (κ 202 (mj s i)).toNat ≤ κ' 600 R1 ∧
  (∀ o : Nat, (o : Int) < κ 203 (mj s i) → κ' (1000 + R1) o = κ (1000 + (κ 201 (mj s i)).toNat) o) ∧ (∀ j : Nat, (j : Int) < n → κ' (1000 + R1) ((κ 203 (mj s i)).toNat + j) = κ 1000 j) ∧
  (∀ o : Nat, κ' (1000 + R2) o = κ (1000 + (κ 202 (mj s i)).toNat) o) ∧ (∀ o : Nat, (o : Int) < κ 203 (mj s i) → κ' (1000 + (κ 201 (mj s i)).toNat) o = κ (1000 + (κ 201 (mj s i)).toNat) o)
set_option maxHeartbeats 8000000 in
set_option maxRecDepth 20000 in
theorem append_s {s i n : Int} (h602 : 2 ≤ κ 602 0) (n0 : 0 ≤ n) (k203 : 0 ≤ κ 203 (mj s i)) (k204 : 0 ≤ κ 204 (mj s i)) (hw : κ 203 (mj s i) + n ≤ 65536)
    (r1 : 2 ≤ κ 201 (mj s i)) (r2 : κ 201 (mj s i) < κ 602 0) (r3 : 2 ≤ κ 202 (mj s i)) (r4 : κ 202 (mj s i) < κ 602 0) (r5 : κ 201 (mj s i) ≠ κ 202 (mj s i)) (t1 : κ 601 (κ 201 (mj s i)).toNat = 2) (t2 : κ 601 (κ 202 (mj s i)).toNat = 2)
    (l1 : κ 600 (κ 201 (mj s i)).toNat = κ 600 (κ 202 (mj s i)).toNat) (l2 : κ 203 (mj s i) ≤ κ 600 (κ 201 (mj s i)).toNat) (l3 : κ 600 (κ 201 (mj s i)).toNat ≤ 2 * κ 203 (mj s i)) (l4 : κ 600 (κ 201 (mj s i)).toNat ≤ 65536) (hz : ∀ o : Nat, κ 204 (mj s i) ≤ o → κ (1000 + (κ 202 (mj s i)).toNat) o = 0) :
    ∃ R1 R2 : Nat, apK κ (s_append κ s i 0 n) s i n R1 R2 := by
  by_cases c : κ 203 (mj s i) + n ≤ κ 600 (κ 201 (mj s i)).toNat
  · have e : s_append κ s i 0 n = (u2 (uf κ (1000 + (κ 201 (mj s i)).toNat) (mi_cpy (κ (1000 + (0 : Int).toNat)) (κ (1000 + (κ 201 (mj s i)).toNat)) (0 : Int).toNat ((κ 203 (mj s i)) : Int).toNat (n : Int).toNat)) 203 (mj s i) ((κ 203 (mj s i)) + n)) := by
      unfold s_append
      rw [if_pos c]
    rw [e]
    have row : ∀ o, (u2 (uf κ (1000 + (κ 201 (mj s i)).toNat) (mi_cpy (κ (1000 + (0 : Int).toNat)) (κ (1000 + (κ 201 (mj s i)).toNat)) (0 : Int).toNat ((κ 203 (mj s i)) : Int).toNat (n : Int).toNat)) 203 (mj s i) ((κ 203 (mj s i)) + n)) (1000 + (κ 201 (mj s i)).toNat) o = if (κ 203 (mj s i)).toNat ≤ o ∧ o < (κ 203 (mj s i)).toNat + n.toNat then κ 1000 (o - (κ 203 (mj s i)).toNat) else κ (1000 + (κ 201 (mj s i)).toNat) o := fun o => by
      rw [u2_f (by omega), uf_s]
      unfold mi_cpy
      rw [show (0 : Int).toNat + (o - (κ 203 (mj s i)).toNat) = o - (κ 203 (mj s i)).toNat by simp]
      rfl
    have oth : ∀ f k, ¬ (f = 203 ∧ k = mj s i) → f ≠ 1000 + (κ 201 (mj s i)).toNat → (u2 (uf κ (1000 + (κ 201 (mj s i)).toNat) (mi_cpy (κ (1000 + (0 : Int).toNat)) (κ (1000 + (κ 201 (mj s i)).toNat)) (0 : Int).toNat ((κ 203 (mj s i)) : Int).toNat (n : Int).toNat)) 203 (mj s i) ((κ 203 (mj s i)) + n)) f k = κ f k := fun f k x y => by rw [u2_n x, uf_f y]
    refine ⟨(κ 201 (mj s i)).toNat, (κ 202 (mj s i)).toNat, fun f k x1 x2 x3 x4 x5 => oth f k (by omega) x5, ?_, u2_s _ _ _ _, ?_, ?_, by omega, by omega, ?_, ?_, by omega, Or.inl ⟨by omega, by omega⟩, ?_, ?_, ?_, ?_, ?_, ?_, fun o ho => ?_, fun j hj => ?_, fun o => ?_, fun o ho => ?_⟩
    · rw [oth _ _ (by omega) (by omega)]; exact Int.le_refl _
    · rw [oth _ _ (by omega) (by omega)]; omega
    · rw [oth _ _ (by omega) (by omega)]; omega
    · rw [oth _ _ (by omega) (by omega)]; omega
    · rw [oth _ _ (by omega) (by omega)]; omega
    · rw [oth _ _ (by omega) (by omega)]; exact t1
    · rw [oth _ _ (by omega) (by omega)]; exact t2
    · rw [oth _ _ (by omega) (by omega), oth _ _ (by omega) (by omega)]; exact l1
    · rw [oth _ _ (by omega) (by omega)]; exact c
    · rw [oth _ _ (by omega) (by omega)]; omega
    · rw [oth _ _ (by omega) (by omega)]; omega
    · rw [row, if_neg (by omega)]
    · rw [row, if_pos (by omega), show (κ 203 (mj s i)).toNat + j - (κ 203 (mj s i)).toNat = j by omega]
    · rw [oth _ _ (by omega) (by omega)]
    · rw [row, if_neg (by omega)]
  · have hg : κ 203 (mj s i) + n ≤ v_grownLength (κ 600 (κ 201 (mj s i)).toNat) (κ 203 (mj s i) + n) ∧ v_grownLength (κ 600 (κ 201 (mj s i)).toNat) (κ 203 (mj s i) + n) ≤ 2 * (κ 203 (mj s i) + n) ∧ κ 600 (κ 201 (mj s i)).toNat ≤ v_grownLength (κ 600 (κ 201 (mj s i)).toNat) (κ 203 (mj s i) + n) := by
      unfold v_grownLength v_minI v_maxI
      repeat' split
      all_goals omega
    have eq0 : ∀ E1 E2 E3 E4 E5 E6 E7 : Nat → Nat → Int, E1 = kNr κ 2 (v_grownLength (κ 600 (κ 201 (mj s i)).toNat) ((κ 203 (mj s i)) + n)) → E2 = kNr E1 2 (E1 600 (κ 602 0).toNat) → E3 = uf E2 (1000 + (κ 602 0).toNat) (mi_cpy (E2 (1000 + (κ 201 (mj s i)).toNat)) (E2 (1000 + (κ 602 0).toNat)) (0 : Int).toNat (0 : Int).toNat ((κ 203 (mj s i)) : Int).toNat) → E4 = uf E3 (1000 + (E1 602 0).toNat) (mi_cpy (E3 (1000 + (κ 202 (mj s i)).toNat)) (E3 (1000 + (E1 602 0).toNat)) (0 : Int).toNat (0 : Int).toNat ((κ 204 (mj s i)) : Int).toNat) → E5 = u2 (u2 E4 201 (mj s i) (κ 602 0)) 202 (mj s i) (E1 602 0) → E6 = uf E5 (1000 + (κ 602 0).toNat) (mi_cpy (E5 (1000 + (0 : Int).toNat)) (E5 (1000 + (κ 602 0).toNat)) (0 : Int).toNat ((κ 203 (mj s i)) : Int).toNat (n : Int).toNat) → E7 = u2 E6 203 (mj s i) ((κ 203 (mj s i)) + n) → s_append κ s i 0 n = E7 := by
      intro E1 E2 E3 E4 E5 E6 E7 a1 a2 a3 a4 a5 a6 a7
      unfold s_append
      rw [if_neg c, a7, a6, a5, a4, a3, a2, a1]
    obtain ⟨E1, a1⟩ : ∃ E1, E1 = kNr κ 2 (v_grownLength (κ 600 (κ 201 (mj s i)).toNat) ((κ 203 (mj s i)) + n)) := ⟨_, rfl⟩
    obtain ⟨E2, a2⟩ : ∃ E2, E2 = kNr E1 2 (E1 600 (κ 602 0).toNat) := ⟨_, rfl⟩
    obtain ⟨E3, a3⟩ : ∃ E3, E3 = uf E2 (1000 + (κ 602 0).toNat) (mi_cpy (E2 (1000 + (κ 201 (mj s i)).toNat)) (E2 (1000 + (κ 602 0).toNat)) (0 : Int).toNat (0 : Int).toNat ((κ 203 (mj s i)) : Int).toNat) := ⟨_, rfl⟩
    obtain ⟨E4, a4⟩ : ∃ E4, E4 = uf E3 (1000 + (E1 602 0).toNat) (mi_cpy (E3 (1000 + (κ 202 (mj s i)).toNat)) (E3 (1000 + (E1 602 0).toNat)) (0 : Int).toNat (0 : Int).toNat ((κ 204 (mj s i)) : Int).toNat) := ⟨_, rfl⟩
    obtain ⟨E5, a5⟩ : ∃ E5, E5 = u2 (u2 E4 201 (mj s i) (κ 602 0)) 202 (mj s i) (E1 602 0) := ⟨_, rfl⟩
    obtain ⟨E6, a6⟩ : ∃ E6, E6 = uf E5 (1000 + (κ 602 0).toNat) (mi_cpy (E5 (1000 + (0 : Int).toNat)) (E5 (1000 + (κ 602 0).toNat)) (0 : Int).toNat ((κ 203 (mj s i)) : Int).toNat (n : Int).toNat) := ⟨_, rfl⟩
    obtain ⟨E7, a7⟩ : ∃ E7, E7 = u2 E6 203 (mj s i) ((κ 203 (mj s i)) + n) := ⟨_, rfl⟩
    rw [eq0 E1 E2 E3 E4 E5 E6 E7 a1 a2 a3 a4 a5 a6 a7]
    clear eq0
    have q1 : E1 602 0 = κ 602 0 + 1 := by rw [a1]; exact kNr_602
    have q2 : E2 602 0 = κ 602 0 + 2 := by rw [a2, kNr_602, q1]; omega
    have o1 : ∀ f k, ¬ ((f = 600 ∨ f = 601) ∧ k = (κ 602 0).toNat) → f ≠ 1000 + (κ 602 0).toNat → ¬ (f = 602 ∧ k = 0) → E1 f k = κ f k := fun f k x y z => by rw [a1]; exact kNr_u x y z
    have o2 : ∀ f k, ¬ ((f = 600 ∨ f = 601) ∧ k = (κ 602 0 + 1).toNat) → f ≠ 1000 + (κ 602 0 + 1).toNat → ¬ (f = 602 ∧ k = 0) → E2 f k = E1 f k := fun f k x y z => by rw [a2]; exact kNr_u (by rw [q1]; exact x) (by rw [q1]; exact y) z
    have L1 : E1 600 (κ 602 0).toNat = v_grownLength (κ 600 (κ 201 (mj s i)).toNat) (κ 203 (mj s i) + n) := by rw [a1, kNr_600, if_pos rfl]
    have T1 : E1 601 (κ 602 0).toNat = 2 := by rw [a1, kNr_601, if_pos rfl]; rfl
    have Z1 : ∀ o, E1 (1000 + (κ 602 0).toNat) o = 0 := fun o => by rw [a1]; exact kNr_0
    have L2 : E2 600 (κ 602 0 + 1).toNat = v_grownLength (κ 600 (κ 201 (mj s i)).toNat) (κ 203 (mj s i) + n) := by rw [a2, kNr_600, q1, if_pos rfl, L1]
    have T2 : E2 601 (κ 602 0 + 1).toNat = 2 := by rw [a2, kNr_601, q1, if_pos rfl]; rfl
    have Z2 : ∀ o, E2 (1000 + (κ 602 0 + 1).toNat) o = 0 := fun o => by rw [a2, kNr_w, q1, if_pos rfl]
    rw [q1] at a4 a5
    have o3 : ∀ f k, f ≠ 1000 + (κ 602 0).toNat → E3 f k = E2 f k := fun f k x => by rw [a3, uf_f x]
    have o4 : ∀ f k, f ≠ 1000 + (κ 602 0 + 1).toNat → E4 f k = E3 f k := fun f k x => by rw [a4, uf_f x]
    have o5 : ∀ f k, ¬ ((f = 201 ∨ f = 202) ∧ k = mj s i) → E5 f k = E4 f k := fun f k x => by rw [a5, u2_n (by omega), u2_n (by omega)]
    have o6 : ∀ f k, f ≠ 1000 + (κ 602 0).toNat → E6 f k = E5 f k := fun f k x => by rw [a6, uf_f x]
    have o7 : ∀ f k, ¬ (f = 203 ∧ k = mj s i) → E7 f k = E6 f k := fun f k x => by rw [a7, u2_n x]
    -- the new row of bytes
    have R3 : ∀ o, E3 (1000 + (κ 602 0).toNat) o = if o < (κ 203 (mj s i)).toNat then κ (1000 + (κ 201 (mj s i)).toNat) o else 0 := fun o => by
      rw [a3, uf_s]
      unfold mi_cpy
      rw [o2 _ _ (by omega) (by omega) (by omega), o1 _ _ (by omega) (by omega) (by omega), o2 _ _ (by omega) (by omega) (by omega), Z1]
      simp
    have R4 : ∀ o, E4 (1000 + (κ 602 0 + 1).toNat) o = κ (1000 + (κ 202 (mj s i)).toNat) o := fun o => by
      rw [a4, uf_s]
      unfold mi_cpy
      rw [o3 _ _ (by omega), o2 _ _ (by omega) (by omega) (by omega), o1 _ _ (by omega) (by omega) (by omega), o3 _ _ (by omega), Z2]
      by_cases z : o < (κ 204 (mj s i)).toNat
      · simp [z]
      · rw [if_neg (by simp; omega), hz o (by omega)]
    have R6 : ∀ o, E7 (1000 + (κ 602 0).toNat) o = if (κ 203 (mj s i)).toNat ≤ o ∧ o < (κ 203 (mj s i)).toNat + n.toNat then κ 1000 (o - (κ 203 (mj s i)).toNat) else if o < (κ 203 (mj s i)).toNat then κ (1000 + (κ 201 (mj s i)).toNat) o else 0 := fun o => by
      rw [o7 _ _ (by omega), a6, uf_s]
      unfold mi_cpy
      rw [o5 (1000 + (κ 602 0).toNat) _ (by omega), o4 (1000 + (κ 602 0).toNat) _ (by omega), R3, show (0 : Int).toNat + (o - (κ 203 (mj s i)).toNat) = o - (κ 203 (mj s i)).toNat by simp, show 1000 + (0 : Int).toNat = 1000 by rfl, o5 1000 _ (by omega), o4 1000 _ (by omega), o3 1000 _ (by omega), o2 1000 _ (by omega) (by omega) (by omega), o1 1000 _ (by omega) (by omega) (by omega)]
    have oth : ∀ f k, ¬ ((f = 201 ∨ f = 202 ∨ f = 203) ∧ k = mj s i) → ¬ ((f = 600 ∨ f = 601) ∧ κ 602 0 ≤ (k : Int)) → ¬ (1000 ≤ f ∧ κ 602 0 ≤ ((f - 1000 : Nat) : Int)) → f ≠ 602 → E7 f k = κ f k := fun f k x1 x2 x3 x4 => by
      rw [o7 _ _ (by omega), o6 _ _ (by omega), o5 _ _ (by omega), o4 _ _ (by omega), o3 _ _ (by omega), o2 _ _ (by omega) (by omega) (by omega), o1 _ _ (by omega) (by omega) (by omega)]
    have toE2 : ∀ f k, f < 1000 → ¬ ((f = 201 ∨ f = 202 ∨ f = 203) ∧ k = mj s i) → E7 f k = E2 f k := fun f k x y => by
      rw [o7 _ _ (by omega), o6 _ _ (by omega), o5 _ _ (by omega), o4 _ _ (by omega), o3 _ _ (by omega)]
    have l600a : E7 600 (κ 602 0).toNat = v_grownLength (κ 600 (κ 201 (mj s i)).toNat) (κ 203 (mj s i) + n) := by rw [toE2 _ _ (by omega) (by omega), o2 _ _ (by omega) (by omega) (by omega), L1]
    have l600b : E7 600 (κ 602 0 + 1).toNat = v_grownLength (κ 600 (κ 201 (mj s i)).toNat) (κ 203 (mj s i) + n) := by rw [toE2 _ _ (by omega) (by omega), L2]
    have l602 : E7 602 0 = κ 602 0 + 2 := by rw [toE2 _ _ (by omega) (by omega), q2]
    refine ⟨(κ 602 0).toNat, (κ 602 0 + 1).toNat, fun f k x1 x2 x3 x4 x5 => oth f k x1 x2 x3 x4, ?_, ?_, ?_, ?_, by omega, by omega, ?_, ?_, by omega, Or.inr ⟨by omega, by omega⟩, ?_, ?_, ?_, ?_, ?_, ?_, fun o ho => ?_, fun j hj => ?_, fun o => ?_, fun o ho => ?_⟩
    · rw [l602]; omega
    · rw [a7, u2_s]
    · rw [o7 _ _ (by omega), o6 _ _ (by omega), a5, u2_n (by omega), u2_s]; omega
    · rw [o7 _ _ (by omega), o6 _ _ (by omega), a5, u2_s]; omega
    · rw [l602]; omega
    · rw [l602]; omega
    · rw [toE2 _ _ (by omega) (by omega), o2 _ _ (by omega) (by omega) (by omega), T1]
    · rw [toE2 _ _ (by omega) (by omega), T2]
    · rw [l600a, l600b]
    · rw [l600a]; exact hg.1
    · rw [l600a]; exact hg.2.1
    · rw [l600a]; omega
    · rw [R6, if_neg (by omega), if_pos (by omega)]
    · rw [R6, if_pos (by omega), show (κ 203 (mj s i)).toNat + j - (κ 203 (mj s i)).toNat = j by omega]
    · rw [o7 _ _ (by omega), o6 _ _ (by omega), o5 _ _ (by omega), R4]
    · rw [oth _ _ (by omega) (by omega) (by omega) (by omega)]
end R21
