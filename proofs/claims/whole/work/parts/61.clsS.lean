section KT
variable {L : Launch} {G : mmG} {B : Nat → Nat → Nat} {bx : Nat → Option (Nat × Nat)} {h0 : mmH} {κ : Nat → Nat → Int}
/-- the number that a wrapper gives for a throw -/
def kCd (c2 e : Int) : Int := if e = 2 then c2 else 1
/-- the law's cell for answers -/
def kOut (G : mmG) (h : mmH) (ao : Nat) (o : Nat → Int) (v : Int) : mmH := va_up h ao (some (.inl (mm_dA G 1, 1, .inr (.inl (fun q => iL (if q = (0 : Int).toNat then v else o q))))))
theorem hk_rest {a : Nat} (hb : bx a = none) : hk G B bx h0 κ a = h0 a := by
  unfold hk
  rw [hb]
theorem mm_en01 : mm_en 0 ≠ mm_en 1 := by decide
theorem mm_en02 : mm_en 0 ≠ mm_en 2 := by decide
theorem mm_en12 : mm_en 1 ≠ mm_en 2 := by decide
theorem kThr_e {hh h : mmH} {c : Int} {E : String} (q : kThr hh c E h) : h = hh ∧ (E = mm_en 0 → c = 1) ∧ (E = mm_en 1 → c = 2) ∧ (E = mm_en 2 → c = 3) ∧ (c = 1 → E = mm_en 0) ∧ (c = 2 → E = mm_en 1) ∧ (c = 3 → E = mm_en 2) ∧ (c = 1 ∨ c = 2 ∨ c = 3) := by
  obtain ⟨q, rfl⟩ := q
  refine ⟨rfl, ?_⟩
  rcases q with ⟨rfl, rfl⟩ | ⟨rfl, rfl⟩ | ⟨rfl, rfl⟩
  · exact ⟨fun _ => rfl, fun z => absurd z mm_en01, fun z => absurd z mm_en02, fun _ => rfl, fun z => absurd z (by decide), fun z => absurd z (by decide), Or.inl rfl⟩
  · exact ⟨fun z => absurd z.symm mm_en01, fun _ => rfl, fun z => absurd z mm_en12, fun z => absurd z (by decide), fun _ => rfl, fun z => absurd z (by decide), Or.inr (Or.inl rfl)⟩
  · exact ⟨fun z => absurd z.symm mm_en02, fun z => absurd z.symm mm_en12, fun _ => rfl, fun z => absurd z (by decide), fun z => absurd z (by decide), fun _ => rfl, Or.inr (Or.inr rfl)⟩
def kLn (G : mmG) (B : Nat → Nat → Nat) (bx : Nat → Option (Nat × Nat)) (h0 h1 : mmH) (κ : Nat → Nat → Int) (e c2 : Int) (S : Nat → Nat → Int) : Option Value → mmH → Prop := fun r h => (e = 0 ∧ r = some (.int (iI 0)) ∧ h = hk G B bx h1 S ∧ kx B bx S ∧ kV S) ∨ (¬ e = 0 ∧ r = some (.int (iI (kCd c2 e))) ∧ h = hk G B bx h0 κ)
theorem e_sideAt_b {s : Int} : e_sideAt κ s = 0 ∨ e_sideAt κ s = 1 := by
  unfold e_sideAt
  repeat' split
  all_goals omega
theorem e_frameAt_b {p : Int} : e_frameAt κ p = 0 ∨ e_frameAt κ p = 3 := by
  unfold e_frameAt
  repeat' split
  all_goals omega
theorem e_needJoined_b : e_needJoined κ = 0 ∨ e_needJoined κ = 2 := by
  unfold e_needJoined
  repeat' split
  all_goals omega
theorem e_needCode_b {v : Int} : e_needCode κ v = 0 ∨ e_needCode κ v = 1 := by
  unfold e_needCode
  repeat' split
  all_goals omega
theorem e_kGrant_b {s i v : Int} : e_kGrant κ s i v = 0 ∨ e_kGrant κ s i v = 1 ∨ e_kGrant κ s i v = 2 := by
  have := e_sideAt_b (κ := κ) (s := s)
  unfold e_kGrant
  repeat' split
  all_goals omega
set_option maxRecDepth 100000 in
theorem m_L_grant (hF : mm_F G) (htr : L.stackTraces = false) (hx : kx B bx κ) (hV : kV κ) {s i v : Int} {a0 : Nat} (ea0 : a0 = B 5 0) (h1 : -2147483648 ≤ s) (h1a : s < 2147483648) (h3 : -2147483648 ≤ i) (h3a : i < 2147483648) (h5 : -2147483648 ≤ v) (h5a : v < 2147483648) :
    mm_Met L G SL_grant [.ref a0, .int (iI s), .int (iI i), .int (iI v)] (hk G B bx h0 κ) 2 12 (kLn G B bx h0 h0 κ (e_kGrant κ s i v) 2 (s_kGrant κ s i v)) mm_no := by
  refine mi_meth ML_grant 60 hF htr okL_grant (av := [aR a0, aI s, aI i, aI v]) (by decide +kernel) (Nat.le_of_ble_eq_true rfl) cmL_grant (fun θ hc => ?_)
  refine ⟨⟨_, hk_o5 hx rfl ea0⟩, _, _, _, _, m_kGrant hF htr hx hV ea0 h1 h1a h3 h3a h5 h5a, Nat.le_of_ble_eq_true rfl, Nat.le_of_ble_eq_true rfl, fun w hh q => ?_, fun E hh q => ?_⟩
  · obtain ⟨he, ⟨rfl, rfl⟩, hx1, hV1⟩ := q
    refine ⟨none, rfl, ?_⟩
    exact ⟨Or.inl ⟨he, rfl, rfl, hx1, hV1⟩, Nat.le_of_ble_eq_true rfl, Nat.le_of_ble_eq_true rfl⟩
  · have eb := e_kGrant_b (κ := κ) (s := s) (i := i) (v := v)
    obtain ⟨rfl, z1, z2, z3, y1, y2, y3, y⟩ := kThr_e q
    refine ⟨fun n k hm hE => ?_, ?_⟩
    · have hm' : (n, k) ∈ [(0, 6), (1, 9)] := hm
      simp only [List.mem_cons, Prod.mk.injEq, List.not_mem_nil, or_false] at hm'
      rcases hm' with ⟨rfl, rfl⟩ | ⟨rfl, rfl⟩
      · have e1 := z1 hE
        intro _
        exact ⟨Or.inr ⟨by omega, by rw [e1]; rfl, rfl⟩, Nat.le_of_ble_eq_true rfl, Nat.le_of_ble_eq_true rfl⟩
      · have e1 := z2 hE
        intro _
        exact ⟨Or.inr ⟨by omega, by rw [e1]; rfl, rfl⟩, Nat.le_of_ble_eq_true rfl, Nat.le_of_ble_eq_true rfl⟩
    · rcases (show e_kGrant κ s i v = 1 ∨ e_kGrant κ s i v = 2 by omega) with w | w
      · exact ⟨0, 6, List.mem_cons_self, y1 w⟩
      · exact ⟨1, 9, List.mem_cons_of_mem _ List.mem_cons_self, y2 w⟩
end KT
