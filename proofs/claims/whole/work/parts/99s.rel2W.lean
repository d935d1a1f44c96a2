section R50
variable {κ μ κ' μ' κ1 μ1 κc μc μb : Nat → Nat → Int} {O O' : Nat → Nat}
set_option maxHeartbeats 2000000 in
theorem streams_s {s p r : Int} (h1 : 0 ≤ s) (h2 : s ≤ 1) (p0 : 0 ≤ p) (p1 : p < 64) (r1 : 1 ≤ r) (r2 : r ≤ 1200) (h : fS κ μc O p) :
    (v_fillStream κ s p r = 1 ∧ v_fills_19 μ s r 257 1 μc = 1 ∧ fS (s_fillStream κ s p r) (s_fills_19 μ s r 257 1 μc) O p ∧ fD (s_fillStream κ s p r) (s_fills_19 μ s r 257 1 μc) O s p) ∨ (v_fillStream κ s p r = 0 ∧ v_fills_19 μ s r 257 1 μc = 0 ∧ fS (s_fillStream κ s p r) (s_fills_19 μ s r 257 1 μc) O p) := by
  have t306 : κ 306 s.toNat ≤ 256 := (h.2.2.2.2 _).2.2.2.2.1
  have t307 : -1 ≤ κ 307 s.toNat := (h.2.2.2.2 _).2.2.2.2.2
  have q9 := (h.1.S h1 h2).2.2.2.2.2.2.2.2.1
  have q14 := (h.1.S h1 h2).2.2.2.2.2.2.2.2.2.2.2.2.2.1
  unfold v_fillStream s_fillStream
  obtain ⟨m, hm⟩ : ∃ m : Nat, (m : Int) = κ 306 s.toNat := ⟨(κ 306 s.toNat).toNat, by omega⟩
  by_cases c : κ 307 s.toNat + 1 < κ 306 s.toNat
  · exact streams_l h1 h2 p0 p1 r1 r2 t306 t307 (by omega) m 257 257 1 1 κ μc (by omega) (by omega) (by omega) (by omega) (fun _ => rfl) (fun z => by omega) h rfl rfl
  · obtain ⟨g, hg⟩ : ∃ g : Nat, (g : Int) = 256 - κ 306 s.toNat := ⟨(256 - κ 306 s.toNat).toNat, by omega⟩
    have sk := skip_l (μ := μ) (s := s) (r := r) g (257 - g) 1 μc (by omega) (fun j hj => by
      have ej : (μc 16 s.toNat + (1 + (j : Int)) + 256) % 256 = κ 306 s.toNat + j := by omega
      rw [ej]
      exact stream_n h1 h2 (by omega) (by omega) h (fun w => (top_17 h.2.2.1 h.1 h1 h2 (by omega) (by omega) (by omega)).1 w.1))
    rw [show 257 - g + g = 257 by omega] at sk
    rw [sk.1, sk.2]
    exact streams_l h1 h2 p0 p1 r1 r2 t306 t307 (by omega) m (257 - g) 257 1 (1 + g) κ μc (by omega) (by omega) (by omega) (by omega) (fun z => by omega) (fun z => by omega) h rfl rfl
set_option maxHeartbeats 2000000 in
/-- the next frame of a side -/
theorem R_fills {s p r : Int} (h1 : 0 ≤ s) (h2 : s ≤ 1) (p0 : 0 ≤ p) (p1 : p < 64) (r1 : 1 ≤ r) (r2 : r ≤ 1200) (h : fS κ μ O p) :
    (v_fillNext κ s p r = 1 ∧ v_fills μ s r = 1 ∧ fS (s_fillNext κ s p r) (s_fills μ s r) O p ∧ (fR (s_fillNext κ s p r) (s_fills μ s r) O s p ∨ fD (s_fillNext κ s p r) (s_fills μ s r) O s p)) ∨ (v_fillNext κ s p r = 0 ∧ v_fills μ s r = 0 ∧ fS (s_fillNext κ s p r) (s_fills μ s r) O p) := by
  have t6 : ∀ {κ μ : Nat → Nat → Int}, fS κ μ O p → κ 306 s.toNat - ((0 : Nat) : Int) < ((257 : Nat) : Int) := fun {κ μ} h => by
    have : κ 306 s.toNat ≤ 256 := (h.2.2.2.2 _).2.2.2.2.1
    omega
  have n1 : ¬ ((1 : Int) = 0) := by decide
  unfold v_fillNext s_fillNext v_fills s_fills
  rcases reset_l (κ := κ) (μ := μ) (r := r) h1 h2 p0 p1 256 257 257 0 κ μ (by omega) (by omega) (t6 h) h with ⟨x1, x2, x3⟩ | ⟨x1, μ1, x2, x3, x4⟩
  · have x1' : v_fillReset κ s p r = 1 := x1
    have x2' : v_fillsResets μ s r = 1 := x2
    simp only [x1', x2', if_neg n1]
    exact Or.inl ⟨trivial, trivial, x3.1, Or.inl x3⟩
  have x1' : v_fillReset κ s p r = 0 := x1
  have x2' : v_fillsResets μ s r = v_fillsResets_47 μ s r 257 0 μ1 := x2
  have x3' : s_fillsResets μ s r = s_fillsResets_47 μ s r 257 0 μ1 := x3
  have x4' : fS (s_fillReset κ s p r) μ1 O p := x4
  simp only [x1', if_true]
  generalize s_fillReset κ s p r = κa at *
  rcases stop_l (κ := κa) (μ := μ) (r := r) h1 h2 p0 p1 256 257 257 0 κa μ1 (by omega) (by omega) (t6 x4') x4' with ⟨y1, y2, y3⟩ | ⟨y1, μ2, y2, y3, y4⟩
  · have y1' : v_fillStop κa s p r = 1 := y1
    have y2' : v_fillsResets μ s r = 1 := x2'.trans y2
    rw [← show s_fillsResets μ s r = s_fillsResets_47 μ s r 257 (0 : Nat) μ1 from x3'] at y3
    simp only [y1', y2', if_neg n1]
    exact Or.inl ⟨trivial, trivial, y3.1, Or.inl y3⟩
  have y1' : v_fillStop κa s p r = 0 := y1
  have y2' : v_fillsResets μ s r = 0 := x2'.trans y2
  have y3' : s_fillsResets μ s r = μ2 := x3'.trans y3
  have y4' : fS (s_fillStop κa s p r) μ2 O p := y4
  simp only [y1', y2', y3', if_true]
  generalize s_fillStop κa s p r = κb at *
  clear x1 x2 x3 x4 x1' x2' x3' x4' y1 y2 y3 y4 y1' y2' y3' h
  rcases dgrant_s (r := r) h1 h2 p0 p1 y4' with ⟨z1, z2, z3⟩ | ⟨z1, μ3, z2, z3, z4⟩
  · simp only [z1, z2, if_neg n1]
    exact Or.inl ⟨trivial, trivial, z3.1, Or.inl z3⟩
  simp only [z1, if_true]
  generalize s_fillDataGrant κb s p r = κc at *
  rcases grant_l (κ := κc) (μ := μ2) (r := r) h1 h2 p0 p1 256 257 257 0 κc μ3 (by omega) (by omega) (t6 z4) z4 with ⟨y1, y2, y3⟩ | ⟨y1, μ4, y2, y3, y4⟩
  · have y1' : v_fillGrant κc s p r = 1 := y1
    have y2' : v_fillsGrants μ2 s r = 1 := z2.trans y2
    rw [← show s_fillsGrants μ2 s r = s_fillsGrants_25 μ2 s r 257 (0 : Nat) μ3 from z3] at y3
    simp only [y1', y2', if_neg n1]
    exact Or.inl ⟨trivial, trivial, y3.1, Or.inl y3⟩
  have y1' : v_fillGrant κc s p r = 0 := y1
  have y2' : v_fillsGrants μ2 s r = v_fillsGrants_65 μ2 s r 3 0 μ4 := z2.trans y2
  have y3' : s_fillsGrants μ2 s r = s_fillsGrants_65 μ2 s r 3 0 μ4 := z3.trans y3
  have y4' : fS (s_fillGrant κc s p r) μ4 O p := y4
  simp only [y1', if_true]
  generalize s_fillGrant κc s p r = κd at *
  clear z1 z2 z3 z4 y1 y2 y3 y4 y1'
  rcases sgrant_l (κ := κd) (μ := μ2) (r := r) h1 h2 p0 p1 2 3 3 0 κd μ4 (by omega) (by omega) (by omega) y4' with ⟨z1, z2, z3⟩ | ⟨z1, z2, z3⟩
  · have z1' : v_fillStreamsGrant κd s p r = 1 := z1
    have z2' : v_fillsGrants μ2 s r = 1 := y2'.trans z2
    rw [← show s_fillsGrants μ2 s r = s_fillsGrants_65 μ2 s r 3 (0 : Nat) μ4 from y3'] at z3
    simp only [z1', z2', if_neg n1]
    exact Or.inl ⟨trivial, trivial, z3.1, Or.inl z3⟩
  have z1' : v_fillStreamsGrant κd s p r = 0 := z1
  have z2' : v_fillsGrants μ2 s r = 0 := y2'.trans z2
  rw [← show s_fillsGrants μ2 s r = s_fillsGrants_65 μ2 s r 3 (0 : Nat) μ4 from y3'] at z3
  have z3' : fS (s_fillStreamsGrant κd s p r) (s_fillsGrants μ2 s r) O p := z3
  simp only [z1', z2', if_true]
  generalize s_fillStreamsGrant κd s p r = κe at *
  generalize s_fillsGrants μ2 s r = μ5 at *
  clear z1 z2 z3 z1' z2' y2' y3' y4'
  rcases dblocked_s (r := r) h1 h2 p0 p1 z3' with ⟨z1, z2, z3⟩ | ⟨z1, μ6, z2, z3, z4⟩
  · simp only [z1, z2, if_neg n1]
    exact Or.inl ⟨trivial, trivial, z3.1, Or.inl z3⟩
  simp only [z1, if_true]
  generalize s_fillDataBlocked κe s p r = κf at *
  rcases blocked_l (κ := κf) (μ := μ5) (r := r) h1 h2 p0 p1 256 257 257 0 κf μ6 (by omega) (by omega) (t6 z4) z4 with ⟨y1, y2, y3⟩ | ⟨y1, μ7, y2, y3, y4⟩
  · have y1' : v_fillBlocked κf s p r = 1 := y1
    have y2' : v_fillsBlocked μ5 s r = 1 := z2.trans y2
    rw [← show s_fillsBlocked μ5 s r = s_fillsBlocked_73 μ5 s r 257 (0 : Nat) μ6 from z3] at y3
    simp only [y1', y2', if_neg n1]
    exact Or.inl ⟨trivial, trivial, y3.1, Or.inl y3⟩
  have y1' : v_fillBlocked κf s p r = 0 := y1
  have y2' : v_fillsBlocked μ5 s r = v_fillsBlocked_132 μ5 s r 3 0 μ7 := z2.trans y2
  have y3' : s_fillsBlocked μ5 s r = s_fillsBlocked_132 μ5 s r 3 0 μ7 := z3.trans y3
  have y4' : fS (s_fillBlocked κf s p r) μ7 O p := y4
  simp only [y1', if_true]
  generalize s_fillBlocked κf s p r = κg at *
  clear z1 z2 z3 z4 y1 y2 y3 y4 y1'
  rcases sblocked_l (κ := κg) (μ := μ5) (r := r) h1 h2 p0 p1 2 3 3 0 κg μ7 (by omega) (by omega) (by omega) y4' with ⟨z1, z2, z3⟩ | ⟨z1, z2, z3⟩
  · have z1' : v_fillStreamsBlocked κg s p r = 1 := z1
    have z2' : v_fillsBlocked μ5 s r = 1 := y2'.trans z2
    rw [← show s_fillsBlocked μ5 s r = s_fillsBlocked_132 μ5 s r 3 (0 : Nat) μ7 from y3'] at z3
    simp only [z1', z2', if_neg n1]
    exact Or.inl ⟨trivial, trivial, z3.1, Or.inl z3⟩
  have z1' : v_fillStreamsBlocked κg s p r = 0 := z1
  have z2' : v_fillsBlocked μ5 s r = 0 := y2'.trans z2
  rw [← show s_fillsBlocked μ5 s r = s_fillsBlocked_132 μ5 s r 3 (0 : Nat) μ7 from y3'] at z3
  have z3' : fS (s_fillStreamsBlocked κg s p r) (s_fillsBlocked μ5 s r) O p := z3
  simp only [z1', z2', if_true]
  generalize s_fillStreamsBlocked κg s p r = κh at *
  generalize s_fillsBlocked μ5 s r = μ8 at *
  rcases streams_s (μ := μ) h1 h2 p0 p1 r1 r2 z3' with ⟨w1, w2, w3, w4⟩ | ⟨w1, w2, w3⟩
  · simp only [w1, w2, if_neg n1]
    exact Or.inl ⟨trivial, trivial, w3, Or.inr w4⟩
  · simp only [w1, w2, if_true]
    exact Or.inr ⟨trivial, trivial, w3⟩
end R50
