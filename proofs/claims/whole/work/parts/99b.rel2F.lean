section R33
variable {κ μ κ' μ' κ1 μ1 : Nat → Nat → Int} {O O' : Nat → Nat}
/-- a receiving part after the bytes of frame p were brought in at u -/
def brS (κ κ' : Nat → Nat → Int) (s i p u : Int) (R3 : Nat) : Prop :=
  (∀ f k, ¬ ((f = 101 ∨ f = 103) ∧ k = mj s i) → ¬ ((f = 600 ∨ f = 601) ∧ κ 602 0 ≤ (k : Int)) → ¬ (1000 ≤ f ∧ κ 602 0 ≤ ((f - 1000 : Nat) : Int)) → f ≠ 602 → f ≠ 1000 + (κ 101 (mj s i)).toNat → κ' f k = κ f k) ∧ κ 602 0 ≤ κ' 602 0 ∧ κ' 101 (mj s i) = R3 ∧ 2 ≤ R3 ∧ (R3 : Int) < κ' 602 0 ∧ ((R3 : Int) = κ 101 (mj s i) ∨ κ 602 0 ≤ (R3 : Int)) ∧ κ' 601 R3 = 3 ∧
  κ 600 (κ 101 (mj s i)).toNat ≤ κ' 600 R3 ∧ (κ' 600 R3 = κ 600 (κ 101 (mj s i)).toNat ∨ κ' 600 R3 ≤ 2 * (u + κ 9 p.toNat)) ∧ (0 < κ 9 p.toNat → u + κ 9 p.toNat ≤ κ' 600 R3) ∧
  (∀ o : Nat, κ' (1000 + R3) o = if u ≤ (o : Int) ∧ (o : Int) < u + κ 9 p.toNat ∧ κ (1000 + (κ 101 (mj s i)).toNat) o = 0 then κ (1000 + (κ 7 p.toNat).toNat) ((κ 8 p.toNat).toNat + (o - u.toNat)) % 256 + 1 else κ (1000 + (κ 101 (mj s i)).toNat) o) ∧
  κ 103 (mj s i) ≤ κ' 103 (mj s i) ∧ κ' 103 (mj s i) ≤ κ' 600 R3 ∧ (∀ o : Nat, κ 103 (mj s i) ≤ o → (o : Int) < κ' 103 (mj s i) → ¬ κ' (1000 + R3) o = 0) ∧ κ' (1000 + R3) (κ' 103 (mj s i)).toNat = 0
set_option maxHeartbeats 4000000 in
theorem bring_s {s i p u : Int} (h602 : 2 ≤ κ 602 0) (u0 : 0 ≤ u) (n0 : 0 ≤ κ 9 p.toNat) (n1 : κ 9 p.toNat ≤ 2048) (hu : u + κ 9 p.toNat ≤ 65536) (hf : 0 < κ 9 p.toNat → 0 ≤ κ 7 p.toNat ∧ κ 7 p.toNat < κ 602 0 ∧ κ 7 p.toNat ≠ κ 101 (mj s i)) (k8 : 0 ≤ κ 8 p.toNat)
    (r1 : 2 ≤ κ 101 (mj s i)) (r2 : κ 101 (mj s i) < κ 602 0) (r3 : κ 601 (κ 101 (mj s i)).toNat = 3) (l0 : 0 ≤ κ 600 (κ 101 (mj s i)).toNat) (l1 : κ (1000 + (κ 101 (mj s i)).toNat) 65536 = 0) (l2 : κ 103 (mj s i) ≤ 65536) (c0 : 0 ≤ κ 103 (mj s i)) (c1 : κ 103 (mj s i) ≤ κ 600 (κ 101 (mj s i)).toNat)
    (hz : ∀ o : Nat, κ 600 (κ 101 (mj s i)).toNat ≤ o → κ (1000 + (κ 101 (mj s i)).toNat) o = 0) (hrd : κ (1000 + (κ 101 (mj s i)).toNat) (κ 103 (mj s i)).toNat = 0) : ∃ R3 : Nat, brS κ (s_bringIn κ s i p u) s i p u R3 := by
  by_cases z : κ 9 p.toNat = 0
  · have e : s_bringIn κ s i p u = κ := by unfold s_bringIn; rw [if_pos z]
    rw [e]
    refine ⟨(κ 101 (mj s i)).toNat, fun _ _ _ _ _ _ _ => rfl, Int.le_refl _, by omega, by omega, by omega, Or.inl (by omega), r3, Int.le_refl _, Or.inl rfl, fun y => by omega, fun o => ?_, Int.le_refl _, c1, fun o x y => by omega, hrd⟩
    rw [if_neg (by omega)]
  · obtain ⟨f1, f2, f3⟩ := hf (by omega)
    -- from a state whose cells hold the same
    have go : ∀ (E : Nat → Nat → Int) (R3 : Nat), (∀ f k, ¬ (f = 101 ∧ k = mj s i) → ¬ ((f = 600 ∨ f = 601) ∧ κ 602 0 ≤ (k : Int)) → ¬ (1000 ≤ f ∧ κ 602 0 ≤ ((f - 1000 : Nat) : Int)) → f ≠ 602 → E f k = κ f k) → κ 602 0 ≤ E 602 0 → E 101 (mj s i) = R3 → 2 ≤ R3 → (R3 : Int) < E 602 0 → ((R3 : Int) = κ 101 (mj s i) ∨ κ 602 0 ≤ (R3 : Int)) → E 601 R3 = 3 → κ 600 (κ 101 (mj s i)).toNat ≤ E 600 R3 → (E 600 R3 = κ 600 (κ 101 (mj s i)).toNat ∨ E 600 R3 ≤ 2 * (u + κ 9 p.toNat)) → u + κ 9 p.toNat ≤ E 600 R3 → (∀ o, E (1000 + R3) o = κ (1000 + (κ 101 (mj s i)).toNat) o) → ∃ R3 : Nat, brS κ (s_bringIn_38 κ s i p u 2049 0 E) s i p u R3 := by
      intro E R3 e1 e2 e3 e4 e5 e6 e7 e8 e9 e10 e11
      have E9 : E 9 p.toNat = κ 9 p.toNat := e1 _ _ (by omega) (by omega) (by omega) (by omega)
      have E7 : E 7 p.toNat = κ 7 p.toNat := e1 _ _ (by omega) (by omega) (by omega) (by omega)
      have E8 : E 8 p.toNat = κ 8 p.toNat := e1 _ _ (by omega) (by omega) (by omega) (by omega)
      have E103 : E 103 (mj s i) = κ 103 (mj s i) := e1 _ _ (by omega) (by omega) (by omega) (by omega)
      have hrow : ∀ o, E (1000 + (κ 7 p.toNat).toNat) o = κ (1000 + (κ 7 p.toNat).toNat) o := fun o => e1 _ _ (by omega) (by omega) (by omega) (by omega)
      obtain ⟨ν', b1, b2', b3⟩ := bring_l (κ := κ) (s := s) (i := i) (p := p) (u := u) u0 2049 (κ 9 p.toNat).toNat 0 E (by omega) (by omega) (by omega) (by omega) (by omega) (by omega)
      rw [e3] at b2' b3
      simp only [Int.toNat_natCast] at b2' b3
      have f600 : ∀ q, ν' 600 q = E 600 q := fun q => b2' _ _ (by omega)
      have f101 : ν' 101 (mj s i) = R3 := by rw [b2' _ _ (by omega), e3]
      have f103 : ν' 103 (mj s i) = κ 103 (mj s i) := by rw [b2' _ _ (by omega), E103]
      have hcell : ∀ o : Nat, ν' (1000 + R3) o = if u ≤ (o : Int) ∧ (o : Int) < u + κ 9 p.toNat ∧ κ (1000 + (κ 101 (mj s i)).toNat) o = 0 then κ (1000 + (κ 7 p.toNat).toNat) ((κ 8 p.toNat).toNat + (o - u.toNat)) % 256 + 1 else κ (1000 + (κ 101 (mj s i)).toNat) o := fun o => by
        rw [b3 o, e11, E7, E8, hrow]
        by_cases w : u ≤ (o : Int) ∧ (o : Int) < u + κ 9 p.toNat ∧ κ (1000 + (κ 101 (mj s i)).toNat) o = 0
        · rw [if_pos w, if_pos ⟨by omega, by omega, w.2.2⟩]
        · rw [if_neg w, if_neg (fun x => w ⟨by omega, by omega, x.2.2⟩)]
      obtain ⟨R, q1, q2, q3, q4, q5⟩ := ready_l (κ := κ) (s := s) (i := i) (p := p) (u := u) 65537 ν' (by rw [f103]; exact c0) (by rw [f103, f101, f600]; simp only [Int.toNat_natCast]; omega) (by rw [f103]; exact l2) (by rw [f103]; omega) (by rw [f101]; simp only [Int.toNat_natCast]; rw [hcell, if_neg (by omega)]; exact l1)
      rw [f103] at q2 q4
      rw [f101, f600] at q3
      rw [f101] at q4
      rw [f101, f600] at q5
      simp only [Int.toNat_natCast] at q3 q4 q5
      have b1' : s_bringIn_38 κ s i p u 2049 0 E = s_bringIn_69 κ s i p u 65537 ν' := b1
      rw [b1', q1]
      refine ⟨R3, fun f k x1 x2 x3 x4 x5 => ?_, ?_, ?_, e4, ?_, e6, ?_, ?_, ?_, fun _ => ?_, fun o => ?_, ?_, ?_, fun o x y => ?_, ?_⟩
      · rw [u2_n (by omega), b2' _ _ (by omega), e1 f k (by omega) x2 x3 x4]
      · rw [u2_f (by omega), b2' _ _ (by omega)]; exact e2
      · rw [u2_f (by omega)]; exact f101
      · rw [u2_f (by omega), b2' _ _ (by omega)]; exact e5
      · rw [u2_f (by omega), b2' _ _ (by omega)]; exact e7
      · rw [u2_f (by omega), f600]; exact e8
      · rw [u2_f (by omega), f600]; exact e9
      · rw [u2_f (by omega), f600]; exact e10
      · rw [u2_f (by omega)]; exact hcell o
      · rw [u2_s]; exact q2
      · rw [u2_s, u2_f (by omega), f600]; exact q3
      · rw [u2_s] at y
        rw [u2_f (by omega)]; exact q4 o x y
      · rw [u2_s, u2_f (by omega)]
        rcases q5 with w | w
        · rw [hcell, if_neg (by omega)]
          exact hz _ (by omega)
        · exact w
    by_cases c : u + κ 9 p.toNat ≤ κ 600 (κ 101 (mj s i)).toNat
    · have e : s_bringIn κ s i p u = s_bringIn_38 κ s i p u 2049 0 κ := by
        unfold s_bringIn
        rw [if_neg z, if_neg (by omega), if_pos c]
      rw [e]
      exact go κ (κ 101 (mj s i)).toNat (fun _ _ _ _ _ _ => rfl) (Int.le_refl _) (by omega) (by omega) (by omega) (Or.inl (by omega)) r3 (Int.le_refl _) (Or.inl rfl) c (fun _ => rfl)
    · have hg : u + κ 9 p.toNat ≤ v_grownLength (κ 600 (κ 101 (mj s i)).toNat) (u + κ 9 p.toNat) ∧ v_grownLength (κ 600 (κ 101 (mj s i)).toNat) (u + κ 9 p.toNat) ≤ 2 * (u + κ 9 p.toNat) ∧ True := by
        unfold v_grownLength v_minI v_maxI
        refine ⟨?_, ?_, trivial⟩
        · repeat' split
          all_goals omega
        · repeat' split
          all_goals omega
      obtain ⟨E1, a1⟩ : ∃ E1, E1 = kNr κ 3 (v_grownLength (κ 600 (κ 101 (mj s i)).toNat) (u + κ 9 p.toNat)) := ⟨_, rfl⟩
      have e : s_bringIn κ s i p u = s_bringIn_38 κ s i p u 2049 0 (u2 (uf E1 (1000 + (κ 602 0).toNat) (mi_cpy (E1 (1000 + (κ 101 (mj s i)).toNat)) (E1 (1000 + (κ 602 0).toNat)) (0 : Int).toNat (0 : Int).toNat ((E1 600 (κ 101 (mj s i)).toNat) : Int).toNat)) 101 (mj s i) (κ 602 0)) := by
        unfold s_bringIn
        rw [if_neg z, if_neg (by omega), if_neg c, a1]
      rw [e]
      have q1 : E1 602 0 = κ 602 0 + 1 := by rw [a1]; exact kNr_602
      have o1 : ∀ f k, ¬ ((f = 600 ∨ f = 601) ∧ k = (κ 602 0).toNat) → f ≠ 1000 + (κ 602 0).toNat → ¬ (f = 602 ∧ k = 0) → E1 f k = κ f k := fun f k x y w => by rw [a1]; exact kNr_u x y w
      have L1 : E1 600 (κ 602 0).toNat = v_grownLength (κ 600 (κ 101 (mj s i)).toNat) (u + κ 9 p.toNat) := by rw [a1, kNr_600, if_pos rfl]
      have T1 : E1 601 (κ 602 0).toNat = 3 := by rw [a1, kNr_601, if_pos rfl]; rfl
      have Z1 : ∀ o, E1 (1000 + (κ 602 0).toNat) o = 0 := fun o => by rw [a1]; exact kNr_0
      have hlow : κ 600 (κ 101 (mj s i)).toNat ≤ v_grownLength (κ 600 (κ 101 (mj s i)).toNat) (u + κ 9 p.toNat) := by omega
      refine go _ (κ 602 0).toNat (fun f k x1 x2 x3 x4 => ?_) ?_ ?_ (by omega) ?_ (Or.inr (by omega)) ?_ ?_ ?_ ?_ (fun o => ?_)
      · rw [u2_n x1, uf_f (by omega), o1 _ _ (by omega) (by omega) (by omega)]
      · rw [u2_f (by omega), uf_f (by omega), q1]; omega
      · rw [u2_s]; omega
      · rw [u2_f (by omega), uf_f (by omega), q1]; omega
      · rw [u2_f (by omega), uf_f (by omega), T1]
      · rw [u2_f (by omega), uf_f (by omega), L1]; omega
      · rw [u2_f (by omega), uf_f (by omega), L1]; exact Or.inr hg.2.1
      · rw [u2_f (by omega), uf_f (by omega), L1]; exact hg.1
      · rw [u2_f (by omega), uf_s]
        unfold mi_cpy
        rw [o1 600 _ (by omega) (by omega) (by omega), Z1, o1 _ _ (by omega) (by omega) (by omega)]
        by_cases w : o < (κ 600 (κ 101 (mj s i)).toNat).toNat
        · simp [w]
        · rw [if_neg (by simp; omega), hz o (by omega)]
end R33
