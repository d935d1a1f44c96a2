section R3
variable {μ : Nat → Nat → Int}
theorem readyOf_c7 (hV : mV μ) {s i : Int} (h1 : 0 ≤ s) : ∀ (d n : Nat), n ≤ 65536 → 65536 < d + n → (n : Int) ≤ v_readyOf_7 μ s i d n ∧ (∀ o : Nat, n ≤ o → (o : Int) < v_readyOf_7 μ s i d n → ¬ mX μ s i o = 0) ∧ mX μ s i (v_readyOf_7 μ s i d n).toNat = 0
  | 0, n, g1, g2 => by omega
  | d + 1, n, g1, g2 => by
    rw [v_readyOf_7]
    by_cases e : v_isHere μ s i n = 0
    · rw [if_pos e]
      exact ⟨Int.le_refl _, fun o z1 z2 => by omega, mX_0.mpr e⟩
    · rw [if_neg e]
      have hlt := (isHere_b hV (s := s) i (o := (n : Int)) h1 (by omega)).resolve_left e
      have ih := readyOf_c7 hV (i := i) h1 d (n + 1) (by omega) (by omega)
      rw [show (n : Int) + 1 = ((n + 1 : Nat) : Int) by omega]
      refine ⟨by omega, fun o z1 z2 => ?_, ih.2.2⟩
      by_cases z : o = n
      · rw [z, mX_0]; exact e
      · exact ih.2.1 o (by omega) z2
theorem readyOf_X (hV : mV μ) {s : Int} (i : Int) (h1 : 0 ≤ s) : μ 27 (mj s i) ≤ v_readyOf μ s i ∧ (∀ o : Nat, μ 27 (mj s i) ≤ o → (o : Int) < v_readyOf μ s i → ¬ mX μ s i o = 0) ∧ mX μ s i (v_readyOf μ s i).toNat = 0 := by
  have h27 : 0 ≤ μ 27 (mj s i) ∧ μ 27 (mj s i) ≤ 65536 := hV 27 _
  have := readyOf_c7 hV (i := i) h1 65537 (μ 27 (mj s i)).toNat (by omega) (by omega)
  rw [show (((μ 27 (mj s i)).toNat : Nat) : Int) = μ 27 (mj s i) by omega] at this
  exact ⟨this.1, fun o z1 z2 => this.2.1 o (by omega) z2, this.2.2⟩
theorem readyOf_e (hV : mV μ) {s i r : Int} (h1 : 0 ≤ s) (a : μ 27 (mj s i) ≤ r) (b : ∀ o : Nat, μ 27 (mj s i) ≤ o → (o : Int) < r → ¬ mX μ s i o = 0) (c : mX μ s i r.toNat = 0) : v_readyOf μ s i = r := by
  have h27 : 0 ≤ μ 27 (mj s i) ∧ μ 27 (mj s i) ≤ 65536 := hV 27 _
  obtain ⟨a', b', c'⟩ := readyOf_X hV (s := s) i h1
  rcases Int.lt_trichotomy r (v_readyOf μ s i) with e | e | e
  · exact absurd c (b' r.toNat (by omega) (by omega))
  · exact e.symm
  · exact absurd c' (b (v_readyOf μ s i).toNat (by omega) (by omega))
theorem consumed_s4 (s : Int) : ∀ (d k : Nat), k ≤ 256 → 256 < d + k → v_consumed_4 μ s d (mSum (fun j => if μ 28 (mj s j) = 0 then μ 27 (mj s j) else μ 26 (mj s j)) k) k = mSum (fun j => if μ 28 (mj s j) = 0 then μ 27 (mj s j) else μ 26 (mj s j)) 256
  | 0, k, h1, h2 => by omega
  | d + 1, k, h1, h2 => by
    rw [v_consumed_4]
    split
    · rw [show k = 256 by omega]
    · have ih := consumed_s4 s d (k + 1) (by omega) (by omega)
      rw [← ih]
      split
      · rename_i e
        rw [mSum, if_pos e]
        rfl
      · rename_i e
        rw [mSum, if_neg e]
        rfl
theorem consumed_s (s : Int) : v_consumed μ s = mSum (fun j => if μ 28 (mj s j) = 0 then μ 27 (mj s j) else μ 26 (mj s j)) 256 := consumed_s4 s 257 0 (by omega) (by omega)
theorem mSum_up {h h' : Nat → Int} {j : Nat} (n : Nat) (hj : j < n) (e : ∀ k, k < n → k ≠ j → h' k = h k) : mSum h' n = mSum h n + (h' j - h j) := by
  have := mSum_u (h := h) (j := j) (v := h' j) n
  rw [if_pos hj] at this
  rw [← this]
  refine mSum_cg n (fun k hk => ?_)
  by_cases z : k = j
  · rw [if_pos z, z]
  · rw [if_neg z, e k hk z]
theorem mj_ne {s i t j : Int} (h1 : 0 ≤ s) (h3 : 0 ≤ i) (h4 : i < 256) (g1 : 0 ≤ t) (g3 : 0 ≤ j) (g4 : j < 256) (h : ¬ (t = s ∧ j = i)) : ¬ mj t j = mj s i := by
  unfold mj; omega
theorem received_up {μ' : Nat → Nat → Int} {s i : Int} (h1 : 0 ≤ s) (h3 : 0 ≤ i) (h4 : i < 256) (e : ∀ k, k ≠ mj s i → μ' 25 k = μ 25 k) : v_received μ' s = v_received μ s + (μ' 25 (mj s i) - μ 25 (mj s i)) := by
  rw [received_s, received_s, mSum_up (h := fun j => μ 25 (mj s j)) (j := i.toNat) 256 (by omega) (fun k hk z => e _ (by unfold mj; omega)), show ((i.toNat : Nat) : Int) = i by omega]
theorem received_ot {μ' : Nat → Nat → Int} {s t i : Int} (g1 : 0 ≤ t) (h1 : 0 ≤ s) (h3 : 0 ≤ i) (h4 : i < 256) (hne : t ≠ s) (e : ∀ k, k ≠ mj s i → μ' 25 k = μ 25 k) : v_received μ' t = v_received μ t := by
  rw [received_s, received_s]
  exact mSum_cg 256 (fun k hk => e _ (by unfold mj; omega))
theorem consumed_up {μ' : Nat → Nat → Int} {s i : Int} (h1 : 0 ≤ s) (h3 : 0 ≤ i) (h4 : i < 256) (e : ∀ f k, f = 26 ∨ f = 27 ∨ f = 28 → k ≠ mj s i → μ' f k = μ f k) : v_consumed μ' s = v_consumed μ s + ((if μ' 28 (mj s i) = 0 then μ' 27 (mj s i) else μ' 26 (mj s i)) - (if μ 28 (mj s i) = 0 then μ 27 (mj s i) else μ 26 (mj s i))) := by
  rw [consumed_s, consumed_s, mSum_up (h := fun j => if μ 28 (mj s j) = 0 then μ 27 (mj s j) else μ 26 (mj s j)) (j := i.toNat) 256 (by omega) (fun k hk z => ?_), show ((i.toNat : Nat) : Int) = i by omega]
  have hz : mj s k ≠ mj s i := by unfold mj; omega
  show (if μ' 28 (mj s k) = 0 then μ' 27 (mj s k) else μ' 26 (mj s k)) = _
  rw [e 28 _ (by omega) hz, e 27 _ (by omega) hz, e 26 _ (by omega) hz]
theorem consumed_ot {μ' : Nat → Nat → Int} {s t i : Int} (g1 : 0 ≤ t) (h1 : 0 ≤ s) (h3 : 0 ≤ i) (h4 : i < 256) (hne : t ≠ s) (e : ∀ f k, f = 26 ∨ f = 27 ∨ f = 28 → k ≠ mj s i → μ' f k = μ f k) : v_consumed μ' t = v_consumed μ t := by
  rw [consumed_s, consumed_s]
  refine mSum_cg 256 (fun k hk => ?_)
  have hz : mj t k ≠ mj s i := by unfold mj; omega
  show (if μ' 28 (mj t k) = 0 then μ' 27 (mj t k) else μ' 26 (mj t k)) = (if μ 28 (mj t k) = 0 then μ 27 (mj t k) else μ 26 (mj t k))
  rw [e 28 _ (by omega) hz, e 27 _ (by omega) hz, e 26 _ (by omega) hz]
end R3
section R4
/-- a sending part and the reference's: fields -/
def rA1 (κ μ : Nat → Nat → Int) (s i : Int) : Prop :=
  κ 203 (mj s i) = mW μ s i ∧ κ 207 (mj s i) = (if μ 19 (mj s i) = 0 then 0 else 1 + μ 20 (mj s i)) ∧ κ 208 (mj s i) = μ 18 (mj s i) ∧ κ 209 (mj s i) = μ 24 (mj s i) ∧ κ 210 (mj s i) = (if 0 < μ 21 (mj s i) then μ 23 (mj s i) else 0) ∧ (μ 21 (mj s i) = 1 → κ 211 (mj s i) = μ 22 (mj s i)) ∧ κ 200 (mj s i) = (if 0 < μ 21 (mj s i) then 2 + μ 21 (mj s i) else if μ 19 (mj s i) = 0 then 0 else if μ 20 (mj s i) = 3 ∧ κ 206 (mj s i) = κ 203 (mj s i) then 2 else 1)
/-- its rows -/
def rA2 (κ : Nat → Nat → Int) (O : Nat → Nat) (s i : Int) : Prop :=
  (2 ≤ κ 201 (mj s i) ∧ κ 201 (mj s i) < κ 602 0 ∧ κ 601 (κ 201 (mj s i)).toNat = 2 ∧ O (κ 201 (mj s i)).toNat = 4 * mj s i + 1) ∧ (2 ≤ κ 202 (mj s i) ∧ κ 202 (mj s i) < κ 602 0 ∧ κ 601 (κ 202 (mj s i)).toNat = 2 ∧ O (κ 202 (mj s i)).toNat = 4 * mj s i + 2) ∧ κ 600 (κ 201 (mj s i)).toNat = κ 600 (κ 202 (mj s i)).toNat ∧ κ 203 (mj s i) ≤ κ 600 (κ 201 (mj s i)).toNat ∧ κ 600 (κ 201 (mj s i)).toNat ≤ 2 * κ 203 (mj s i)
/-- its bytes -/
def rA3 (κ μ : Nat → Nat → Int) (s i : Int) : Prop :=
  κ 204 (mj s i) ≤ κ 203 (mj s i) ∧ (∀ o : Nat, (o : Int) < κ 203 (mj s i) → κ (1000 + (κ 201 (mj s i)).toNat) o = μ 38 (v_placeOf μ s i o).toNat) ∧ (∀ o : Nat, (o : Int) < κ 204 (mj s i) → κ (1000 + (κ 202 (mj s i)).toNat) o = 1 + mMk μ s i o ∧ ¬ mMk μ s i o = 0) ∧ (∀ o : Nat, κ 204 (mj s i) ≤ o → κ (1000 + (κ 202 (mj s i)).toNat) o = 0) ∧ (∀ o : Nat, κ 204 (mj s i) ≤ o → (o : Int) < κ 203 (mj s i) → mMk μ s i o = 0) ∧ κ 205 (mj s i) = mR (κ (1000 + (κ 202 (mj s i)).toNat)) 3 0 (κ 600 (κ 202 (mj s i)).toNat) ∧ κ 206 (mj s i) = mR (κ (1000 + (κ 202 (mj s i)).toNat)) 4 0 (κ 600 (κ 202 (mj s i)).toNat)
def rA (κ μ : Nat → Nat → Int) (O : Nat → Nat) (s i : Int) : Prop :=
  (κ 290 (mj s i) = 1 ↔ μ 17 (mj s i) = 1 ∧ (i / 2 % 2 = 0 ∨ i % 2 = s)) ∧ (κ 290 (mj s i) = 1 → rA1 κ μ s i ∧ rA2 κ O s i ∧ rA3 κ μ s i) ∧ (¬ κ 290 (mj s i) = 1 → mW μ s i = 0 ∧ μ 19 (mj s i) = 0 ∧ μ 20 (mj s i) = 0 ∧ μ 21 (mj s i) = 0 ∧ μ 24 (mj s i) = -1)
/-- a receiving part: fields -/
def rB1 (κ μ : Nat → Nat → Int) (s i : Int) : Prop :=
  κ 102 (mj s i) = μ 27 (mj s i) ∧ κ 104 (mj s i) = μ 25 (mj s i) ∧ κ 105 (mj s i) = μ 26 (mj s i) ∧ κ 106 (mj s i) = μ 6 (mg s i).toNat ∧ κ 107 (mj s i) = μ 30 (mj s i) ∧ κ 108 (mj s i) = μ 31 (mj s i) ∧ κ 109 (mj s i) = μ 32 (mj s i) ∧ κ 110 (mj s i) = μ 33 (mj s i) ∧ κ 111 (mj s i) = μ 34 (mj s i) ∧ κ 112 (mj s i) = (if μ 28 (mj s i) = 0 then 0 else μ 29 (mj s i)) ∧ κ 113 (mj s i) = μ 35 (mj s i) ∧ κ 100 (mj s i) = (if μ 28 (mj s i) = 0 then (if 0 ≤ μ 26 (mj s i) then (if μ 27 (mj s i) = μ 26 (mj s i) then 3 else (if κ 103 (mj s i) = μ 26 (mj s i) then 2 else 1)) else 0) else 4)
/-- its row -/
def rB2 (κ : Nat → Nat → Int) (O : Nat → Nat) (s i : Int) : Prop :=
  2 ≤ κ 101 (mj s i) ∧ κ 101 (mj s i) < κ 602 0 ∧ κ 601 (κ 101 (mj s i)).toNat = 3 ∧ O (κ 101 (mj s i)).toNat = 4 * mj s i + 3 ∧ κ 600 (κ 101 (mj s i)).toNat ≤ 2 * κ 104 (mj s i) ∧ 0 ≤ κ 600 (κ 101 (mj s i)).toNat
/-- its bytes -/
def rB3 (κ μ : Nat → Nat → Int) (s i : Int) : Prop :=
  κ 102 (mj s i) ≤ κ 103 (mj s i) ∧ (∀ o : Nat, κ (1000 + (κ 101 (mj s i)).toNat) o = mX μ s i o) ∧ (∀ o : Nat, (o : Int) < κ 103 (mj s i) → ¬ mX μ s i o = 0) ∧ mX μ s i (κ 103 (mj s i)).toNat = 0 ∧ (∀ o : Nat, ¬ mX μ s i o = 0 → (o : Int) < κ 104 (mj s i) ∧ (o : Int) < κ 600 (κ 101 (mj s i)).toNat) ∧ (0 ≤ μ 26 (mj s i) → μ 25 (mj s i) ≤ μ 26 (mj s i)) ∧ (μ 28 (mj s i) = 1 → 0 ≤ μ 26 (mj s i))
def rB (κ μ : Nat → Nat → Int) (O : Nat → Nat) (s i : Int) : Prop :=
  (κ 190 (mj s i) = 1 ↔ μ 17 (mj s i) = 1 ∧ (i / 2 % 2 = 0 ∨ ¬ i % 2 = s)) ∧ (κ 190 (mj s i) = 1 → rB1 κ μ s i ∧ rB2 κ O s i ∧ rB3 κ μ s i) ∧ (¬ κ 190 (mj s i) = 1 → μ 25 (mj s i) = 0 ∧ μ 26 (mj s i) = -1 ∧ μ 27 (mj s i) = 0 ∧ μ 28 (mj s i) = 0 ∧ μ 31 (mj s i) = 0 ∧ μ 32 (mj s i) = 0 ∧ μ 33 (mj s i) = 0 ∧ μ 34 (mj s i) = 0 ∧ μ 35 (mj s i) = 0 ∧ ∀ o : Nat, mX μ s i o = 0)
/-- which streams are there -/
def rT (κ μ : Nat → Nat → Int) (s i : Int) : Prop :=
  (μ 17 (mj s i) = 1 ↔ (i % 2 = s ∧ i / 4 < μ 8 (2 * s + i / 2 % 2).toNat) ∨ (¬ i % 2 = s ∧ i / 4 < μ 9 (2 * s + i / 2 % 2).toNat)) ∧ (μ 17 (mj s i) = 1 → i < κ 306 s.toNat)
/-- a side -/
def rS (κ μ : Nat → Nat → Int) (s : Int) : Prop :=
  κ 308 s.toNat = μ 36 s.toNat ∧ κ 309 s.toNat = mAll μ s (mTot μ s) ∧ κ 310 s.toNat = μ 7 (3 * s).toNat ∧ κ 311 s.toNat = μ 14 (3 * s).toNat ∧ κ 312 s.toNat = v_received μ s ∧ κ 313 s.toNat = v_consumed μ s ∧ κ 314 s.toNat = μ 11 s.toNat ∧ κ 315 s.toNat = μ 12 s.toNat ∧ κ 307 s.toNat = μ 16 s.toNat ∧ (∀ j : Int, 4 ≤ j → j ≤ 7 → κ 360 (16 * s + j).toNat = μ 6 (16 * s + j).toNat) ∧ (μ 1 0 = 1 → ∀ j : Int, 4 ≤ j → j ≤ 7 → κ 361 (16 * s + j).toNat = μ 6 (16 * (1 - s) + j).toNat) ∧ κ 309 s.toNat ≤ κ 310 s.toNat ∧ κ 312 s.toNat ≤ κ 314 s.toNat ∧ (κ 307 s.toNat < κ 306 s.toNat ∨ (κ 306 s.toNat = 0 ∧ κ 307 s.toNat = -1)) ∧ (μ 1 0 = 0 → κ 309 s.toNat = 0 ∧ ∀ i : Int, 0 ≤ i → i < 256 → μ 17 (mj s i) = 0)
/-- a way of a side -/
def rW (κ μ : Nat → Nat → Int) (s w : Int) : Prop :=
  κ 400 (2 * s + w).toNat = μ 8 (2 * s + w).toNat ∧ κ 401 (2 * s + w).toNat = μ 7 (3 * s + 1 + w).toNat ∧ κ 403 (2 * s + w).toNat = μ 14 (3 * s + 1 + w).toNat ∧ κ 404 (2 * s + w).toNat = μ 9 (2 * s + w).toNat ∧ κ 405 (2 * s + w).toNat = μ 13 (2 * s + w).toNat ∧ κ 360 (16 * s + (8 + w)).toNat = μ 10 (2 * s + w).toNat ∧ κ 360 (16 * s + (8 + w)).toNat ≤ 64 ∧ κ 401 (2 * s + w).toNat ≤ 64 ∧ κ 400 (2 * s + w).toNat ≤ κ 401 (2 * s + w).toNat ∧ κ 402 (2 * s + w).toNat ≤ κ 401 (2 * s + w).toNat ∧ (κ 402 (2 * s + w).toNat = κ 401 (2 * s + w).toNat ↔ μ 15 (2 * s + w).toNat = 1 ∧ κ 401 (2 * s + w).toNat ≤ κ 400 (2 * s + w).toNat) ∧ (μ 1 0 = 0 → κ 402 (2 * s + w).toNat = -1 ∧ μ 15 (2 * s + w).toNat = 0 ∧ μ 6 (16 * s + 8 + w).toNat = μ 10 (2 * s + w).toNat ∧ κ 400 (2 * s + w).toNat = 0)
/-- a frame on the line -/
def rF1 (κ μ : Nat → Nat → Int) (p : Nat) : Prop := κ 1 p = μ 59 p ∧ κ 2 p = μ 51 p ∧ κ 3 p = μ 52 p ∧ κ 4 p = μ 53 p ∧ κ 5 p = μ 54 p ∧ κ 6 p = μ 55 p ∧ κ 9 p = μ 56 p ∧ κ 10 p = μ 57 p
def rF2 (κ μ : Nat → Nat → Int) (O : Nat → Nat) (p : Nat) : Prop :=
  κ 8 p = κ 5 p ∧ κ 4 p < 256 ∧ κ 290 (mj (κ 2 p) (κ 4 p)) = 1 ∧ κ 5 p + κ 9 p ≤ κ 204 (mj (κ 2 p) (κ 4 p)) ∧ (κ 6 p = 1 → μ 19 (mj (κ 2 p) (κ 4 p)) = 1) ∧ 2 ≤ κ 7 p ∧ κ 7 p < κ 602 0 ∧ κ 601 (κ 7 p).toNat = 2 ∧ O (κ 7 p).toNat = 4 * mj (κ 2 p) (κ 4 p) + 1 ∧ κ 8 p + κ 9 p ≤ κ 600 (κ 7 p).toNat ∧ ∀ j : Nat, (j : Int) < κ 9 p → κ (1000 + (κ 7 p).toNat) ((κ 8 p).toNat + j) = μ 60 (1200 * p + j)
def rF (κ μ : Nat → Nat → Int) (O : Nat → Nat) (p : Nat) : Prop :=
  κ 0 p = μ 58 p ∧ (κ 0 p = 1 → rF1 κ μ p ∧ (¬ κ 3 p = 8 → κ 9 p = 0 ∧ κ 7 p = -1) ∧ (κ 3 p = 5 ∨ κ 3 p = 17 → κ 4 p < 256 ∧ κ 190 (mj (κ 2 p) (κ 4 p)) = 1) ∧ (κ 3 p = 8 → rF2 κ μ O p))
/-- the hall -/
def rH (κ μ : Nat → Nat → Int) (O : Nat → Nat) : Prop :=
  κ 505 0 = μ 3 0 ∧ κ 506 0 = μ 5 0 ∧ κ 507 0 = μ 1 0 ∧ (∀ j : Nat, (j : Int) < κ 505 0 → κ 1000 j = wB (μ 2 j)) ∧ (∀ j : Nat, (j : Int) < κ 506 0 → κ 1001 j % 256 = μ 4 j) ∧ (κ 600 0 = 2048 ∧ κ 601 0 = 2 ∧ O 0 = 0) ∧ (κ 600 1 = 2048 ∧ κ 601 1 = 2 ∧ O 1 = 0) ∧ 2 ≤ κ 602 0
def kRel (κ μ : Nat → Nat → Int) (O : Nat → Nat) : Prop :=
  rH κ μ O ∧ (∀ s : Int, 0 ≤ s → s ≤ 1 → rS κ μ s ∧ (∀ w : Int, 0 ≤ w → w ≤ 1 → rW κ μ s w) ∧ ∀ i : Int, 0 ≤ i → i < 256 → rT κ μ s i ∧ rA κ μ O s i ∧ rB κ μ O s i) ∧ (∀ p : Nat, p < 64 → rF κ μ O p) ∧ mHz μ
end R4
