section R45
variable {κ μ κ' μ' κ1 μ1 κc μc : Nat → Nat → Int} {O O' : Nat → Nat}
theorem firstLost_l {s i : Int} : ∀ (d k : Nat), κ 204 (mj s i) - k < d → (k : Int) ≤ κ 204 (mj s i) → (∀ q : Nat, q < k → ¬ κ (1000 + (κ 202 (mj s i)).toNat) q = 3) →
    ∃ a : Nat, v_firstLost_2 κ s i d k = a ∧ (a : Int) ≤ κ 204 (mj s i) ∧ (∀ q : Nat, q < a → ¬ κ (1000 + (κ 202 (mj s i)).toNat) q = 3) ∧ ((a : Int) < κ 204 (mj s i) → κ (1000 + (κ 202 (mj s i)).toNat) a = 3) := by
  intro d
  induction d with
  | zero => intro k a b; omega
  | succ d ih =>
    intro k e1 e2 e3
    rw [v_firstLost_2]
    by_cases c : κ 204 (mj s i) ≤ k
    · rw [if_pos c]
      exact ⟨k, rfl, e2, e3, fun z => by omega⟩
    · rw [if_neg c, show ((k : Int)).toNat = k by omega]
      by_cases c2 : κ (1000 + (κ 202 (mj s i)).toNat) k = 3
      · rw [if_pos c2]
        exact ⟨k, rfl, e2, e3, fun _ => c2⟩
      · rw [if_neg c2, show (k : Int) + 1 = ((k + 1 : Nat) : Int) by omega]
        refine ih (k + 1) (by omega) (by omega) (fun q hq => ?_)
        by_cases z : q = k
        · rw [z]; exact c2
        · exact e3 q (by omega)
theorem lostRun_l {s i : Int} {u : Nat} : ∀ (d k : Nat), κ 204 (mj s i) - k < d → (k : Int) ≤ κ 204 (mj s i) → u ≤ k → (∀ q : Nat, u ≤ q → q < k → κ (1000 + (κ 202 (mj s i)).toNat) q = 3) →
    ∃ b : Nat, v_lostRun_2 κ s i u d k = (b : Int) - u ∧ u ≤ b ∧ (b : Int) ≤ κ 204 (mj s i) ∧ (∀ q : Nat, u ≤ q → q < b → κ (1000 + (κ 202 (mj s i)).toNat) q = 3) ∧ ((b : Int) < κ 204 (mj s i) → ¬ κ (1000 + (κ 202 (mj s i)).toNat) b = 3) := by
  intro d
  induction d with
  | zero => intro k a b; omega
  | succ d ih =>
    intro k e1 e2 e4 e3
    rw [v_lostRun_2]
    by_cases c : κ 204 (mj s i) ≤ k
    · rw [if_pos c]
      exact ⟨k, rfl, e4, e2, e3, fun z => by omega⟩
    · rw [if_neg c, show ((k : Int)).toNat = k by omega]
      by_cases c2 : κ (1000 + (κ 202 (mj s i)).toNat) k = 3
      · rw [if_pos c2, show (k : Int) + 1 = ((k + 1 : Nat) : Int) by omega]
        refine ih (k + 1) (by omega) (by omega) (by omega) (fun q hq hq2 => ?_)
        by_cases z : q = k
        · rw [z]; exact c2
        · exact e3 q hq (by omega)
      · rw [if_neg c2]
        exact ⟨k, rfl, e4, e2, e3, fun _ => c2⟩
/-- how many bytes the class takes -/
theorem cf_c {p i a m r : Int} (a0 : 0 ≤ a) (r2 : r ≤ 1200) (m0 : 0 ≤ m) : ∃ C : Int, v_countThatFits κ p i a m r = C ∧ s_countThatFits κ p i a m r = u2 κ 10 p.toNat (hdB i a + mSize C + C) ∧ (m = 0 → (C = 0 ∧ hdB i a + mSize 0 + 0 ≤ r) ∨ (C < 0 ∧ r < hdB i a + mSize 0 + 0)) ∧ (1 ≤ m → (C ≤ 0 ∧ r < hdB i a + mSize 1 + 1) ∨ (1 ≤ C ∧ C ≤ m ∧ hdB i a + mSize C + C ≤ r ∧ (C = m ∨ r < hdB i a + mSize (C + 1) + (C + 1)))) := by
  have hmin : ∀ x y : Int, v_minI x y = if x ≤ y then x else y := fun x y => by
    unfold v_minI
    repeat' split
    all_goals omega
  have hH : ∃ H : Int, H = hdB i a ∧ 2 ≤ H ∧ v_countThatFits κ p i a m r = (if H + mSize (v_minI m (r - H - 1)) + (v_minI m (r - H - 1)) ≤ r then v_minI m (r - H - 1) else v_minI m (r - H - 1) + -1) ∧ s_countThatFits κ p i a m r = (if H + mSize (v_minI m (r - H - 1)) + (v_minI m (r - H - 1)) ≤ r then u2 κ 10 p.toNat (H + mSize (v_minI m (r - H - 1)) + (v_minI m (r - H - 1))) else u2 κ 10 p.toNat (H + mSize (v_minI m (r - H - 1) + -1) + (v_minI m (r - H - 1) + -1))) := by
    refine ⟨_, rfl, ?_, ?_, ?_⟩
    · have := mSize_b i
      unfold hdB
      split
      · omega
      · have := mSize_b a; omega
    · unfold v_countThatFits hdB
      simp only [width_e]
      by_cases z : a = 0
      · rw [if_pos z, if_pos (show a ≤ 0 by omega)]
      · rw [if_neg z, if_neg (show ¬ a ≤ 0 by omega)]
    · unfold s_countThatFits hdB
      simp only [width_e]
      by_cases z : a = 0
      · rw [if_pos z, if_pos (show a ≤ 0 by omega)]
      · rw [if_neg z, if_neg (show ¬ a ≤ 0 by omega)]
  obtain ⟨H, eH, H2, e1, e2⟩ := hH
  rw [e1, e2, ← eH]
  have hf := hmin m (r - H - 1)
  generalize v_minI m (r - H - 1) = F at *
  have F1 : F ≤ 1199 := by
    rw [hf]; split <;> omega
  have hF : (F = m ∧ m ≤ r - H - 1) ∨ (F = r - H - 1 ∧ r - H - 1 < m) := by
    rw [hf]; split <;> omega
  have sz : ∀ x : Int, x ≤ 1200 → (x < 64 ∧ mSize x = 1) ∨ (64 ≤ x ∧ mSize x = 2) := fun x hx => by
    unfold mSize
    repeat' split
    all_goals omega
  have s0 := sz 0 (by omega)
  have s1 := sz 1 (by omega)
  have sF := sz F (by omega)
  have sF1 := sz (F + 1) (by omega)
  have sF2 := sz (F + -1) (by omega)
  by_cases c : H + mSize F + F ≤ r
  · rw [if_pos c, if_pos c]
    exact ⟨F, rfl, rfl, fun z => by omega, fun z => by omega⟩
  · rw [if_neg c, if_neg c]
    refine ⟨F + -1, rfl, rfl, fun z => by omega, fun z => ?_⟩
    rw [show F + -1 + 1 = F by omega]
    omega
/-- what fillFrom comes to -/
def ffB (κ : Nat → Nat → Int) (s p r i a m C : Int) (g : Int) : Nat → Nat → Int := s_setData (s_setFields (s_countThatFits κ p i a m r) p 8 i a g) p (κ 201 (mj s i)) a C
def ffM (κ κb : Nat → Nat → Int) (s i a C : Int) : Nat → Nat → Int := u2 (s_markOut κb s i a C) 309 s.toNat ((κ 309 s.toNat) + (v_markOut κb s i a C))
def ffV (κ : Nat → Nat → Int) (s i m C : Int) : Int := if m = 0 ∧ v_owesEnd κ s i = 0 then 0 else if C < 0 then 0 else if C = 0 ∧ 0 < m then 0 else 1
def ffT (κ : Nat → Nat → Int) (s p r i a m C : Int) : Nat → Nat → Int :=
  if κ 200 (mj s i) = 1 ∧ a + C = κ 203 (mj s i) then (if κ 207 (mj s i) = 4 then ffM κ (ffB κ s p r i a m C 1) s i a C else u2 (ffM κ (ffB κ s p r i a m C 1) s i a C) 207 (mj s i) 2) else ffM κ (ffB κ s p r i a m C 0) s i a C
def ffS (κ : Nat → Nat → Int) (s p r i a m C : Int) : Nat → Nat → Int := if m = 0 ∧ v_owesEnd κ s i = 0 then κ else if C < 0 then s_countThatFits κ p i a m r else if C = 0 ∧ 0 < m then s_countThatFits κ p i a m r else ffT κ s p r i a m C
set_option maxHeartbeats 4000000 in
theorem fillFrom_e {s p r i a m : Int} (m0 : 0 ≤ m) (ha : a = if κ 205 (mj s i) ≤ 0 then κ 204 (mj s i) else v_firstLost κ s i) (hm : m = if κ 205 (mj s i) ≤ 0 then v_sendable κ s i else v_lostRun κ s i (v_firstLost κ s i)) : v_fillFrom κ s p r i = ffV κ s i m (v_countThatFits κ p i a m r) ∧ s_fillFrom κ s p r i = ffS κ s p r i a m (v_countThatFits κ p i a m r) := by
  have go : ∀ (C : Int), v_countThatFits κ p i a m r = C → (v_fillFrom κ s p r i = ffV κ s i m C ∧ s_fillFrom κ s p r i = ffS κ s p r i a m C) := by
    intro C hC
    unfold v_fillFrom s_fillFrom ffV ffS ffT ffM ffB
    by_cases c0 : κ 205 (mj s i) ≤ 0
    · rw [if_pos c0] at ha hm
      rw [if_pos c0, if_pos c0]
      rw [← ha, ← hm, hC]
      generalize v_owesEnd κ s i = w
      by_cases c1 : m = 0
      · subst c1
        by_cases c2 : w = 0
        · simp [c2]
        · by_cases c3 : C < 0
          · simp [c2, c3]
          · by_cases c4 : C = 0
            · subst c4
              by_cases c6 : κ 200 (mj s i) = 1 <;> by_cases c7 : a = κ 203 (mj s i) <;> by_cases c8 : κ 207 (mj s i) = 4 <;> simp [c2, c6, c7, c8]
            · by_cases c6 : κ 200 (mj s i) = 1 <;> by_cases c7 : a + C = κ 203 (mj s i) <;> by_cases c8 : κ 207 (mj s i) = 4 <;> simp [c2, c3, c4, c6, c7, c8]
      · have c5 : 0 < m := by omega
        have c5' : ¬ m ≤ 0 := by omega
        by_cases c3 : C < 0
        · simp [c1, c3]
        · by_cases c4 : C = 0
          · simp [c1, c4, c5, c5']
          · by_cases c6 : κ 200 (mj s i) = 1 <;> by_cases c7 : a + C = κ 203 (mj s i) <;> by_cases c8 : κ 207 (mj s i) = 4 <;> simp [c1, c3, c4, c6, c7, c8]
    · rw [if_neg c0] at ha hm
      rw [if_neg c0, if_neg c0]
      rw [← ha] at hm
      rw [← ha, ← hm, hC]
      generalize v_owesEnd κ s i = w
      by_cases c1 : m = 0
      · subst c1
        by_cases c2 : w = 0
        · simp [c2]
        · by_cases c3 : C < 0
          · simp [c2, c3]
          · by_cases c4 : C = 0
            · subst c4
              by_cases c6 : κ 200 (mj s i) = 1 <;> by_cases c7 : a = κ 203 (mj s i) <;> by_cases c8 : κ 207 (mj s i) = 4 <;> simp [c2, c6, c7, c8]
            · by_cases c6 : κ 200 (mj s i) = 1 <;> by_cases c7 : a + C = κ 203 (mj s i) <;> by_cases c8 : κ 207 (mj s i) = 4 <;> simp [c2, c3, c4, c6, c7, c8]
      · have c5 : 0 < m := by omega
        have c5' : ¬ m ≤ 0 := by omega
        by_cases c3 : C < 0
        · simp [c1, c3]
        · by_cases c4 : C = 0
          · simp [c1, c4, c5, c5']
          · by_cases c6 : κ 200 (mj s i) = 1 <;> by_cases c7 : a + C = κ 203 (mj s i) <;> by_cases c8 : κ 207 (mj s i) = 4 <;> simp [c1, c3, c4, c6, c7, c8]
  exact go _ rfl
end R45
