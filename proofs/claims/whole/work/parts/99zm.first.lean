/-! what is known at the start -/
section LF
variable {s : State} {A : Array Value} {b L : Nat} {xs : Nat → Int32}
theorem lf_i0 : Cond.instantiable (mm_cn 0) (mm_N 0) ∈ lw_tbl := by decide +kernel
theorem lf_i1 : Cond.instantiable (mm_cn 1) (mm_N 1) ∈ lw_tbl := by decide +kernel
theorem lf_i2 : Cond.instantiable (mm_cn 2) (mm_N 2) ∈ lw_tbl := by decide +kernel
theorem lf_i3 : Cond.instantiable (mm_cn 3) (mm_N 3) ∈ lw_tbl := by decide +kernel
theorem lf_i4 : Cond.instantiable (mm_cn 4) (mm_N 4) ∈ lw_tbl := by decide +kernel
theorem lf_i5 : Cond.instantiable (mm_cn 5) (mm_N 5) ∈ lw_tbl := by decide +kernel
theorem lf_i6 : Cond.instantiable (mm_cn 6) (mm_N 6) ∈ lw_tbl := by decide +kernel
theorem lf_i {c : Nat} (h : c < 7) : Cond.instantiable (mm_cn c) (mm_N c) ∈ lw_tbl := by
  match c, h with
  | 0, _ => exact lf_i0
  | 1, _ => exact lf_i1
  | 2, _ => exact lf_i2
  | 3, _ => exact lf_i3
  | 4, _ => exact lf_i4
  | 5, _ => exact lf_i5
  | 6, _ => exact lf_i6
theorem lf_a0 : Cond.arrayClass .int ∈ lw_tbl := by decide +kernel
theorem lf_a1 : Cond.arrayClass .long ∈ lw_tbl := by decide +kernel
theorem lf_a2 : Cond.arrayClass .byte ∈ lw_tbl := by decide +kernel
theorem lf_a3 : Cond.arrayClass .short ∈ lw_tbl := by decide +kernel
theorem lf_a4 : Cond.arrayClass .boolean ∈ lw_tbl := by decide +kernel
theorem lf_a5 : Cond.arrayOver (.object RX0) ∈ lw_tbl := by decide +kernel
theorem lf_a6 : Cond.arrayOver (.object RX1) ∈ lw_tbl := by decide +kernel
theorem lf_a7 : Cond.arrayOver (.object RX2) ∈ lw_tbl := by decide +kernel
theorem lf_a8 : Cond.arrayOver (.object RX3) ∈ lw_tbl := by decide +kernel
theorem lf_a9 : Cond.arrayOver (.object RX4) ∈ lw_tbl := by decide +kernel
theorem lf_s0 : Cond.laysStatic Bundle.tN "UNASSIGNED_STACK" Bundle.steD ∈ lw_tbl := by decide +kernel
theorem lf_s1 : Cond.laysStatic Bundle.tN "SUPPRESSED_SENTINEL" Bundle.listD ∈ lw_tbl := by decide +kernel
theorem lf_s2 : Cond.initialized Bundle.tN ∈ lw_tbl := by decide +kernel
theorem lf_n0 : Cond.isRef (.static Bundle.tN "UNASSIGNED_STACK" Bundle.steD) ∈ flatC (Jvm.Cond.and given_1 narrow_1) := by decide +kernel
theorem lf_n1 : Cond.isRef (.static Bundle.tN "SUPPRESSED_SENTINEL" Bundle.listD) ∈ flatC (Jvm.Cond.and given_1 narrow_1) := by decide +kernel
theorem lf_c01 : Cond.not (.castable (mm_en 0) (mm_en 1)) ∈ flatC (Jvm.Cond.and given_1 narrow_1) := by decide +kernel
theorem lf_c02 : Cond.not (.castable (mm_en 0) (mm_en 2)) ∈ flatC (Jvm.Cond.and given_1 narrow_1) := by decide +kernel
theorem lf_c10 : Cond.not (.castable (mm_en 1) (mm_en 0)) ∈ flatC (Jvm.Cond.and given_1 narrow_1) := by decide +kernel
theorem lf_c12 : Cond.not (.castable (mm_en 1) (mm_en 2)) ∈ flatC (Jvm.Cond.and given_1 narrow_1) := by decide +kernel
theorem lf_c20 : Cond.not (.castable (mm_en 2) (mm_en 0)) ∈ flatC (Jvm.Cond.and given_1 narrow_1) := by decide +kernel
theorem lf_c21 : Cond.not (.castable (mm_en 2) (mm_en 1)) ∈ flatC (Jvm.Cond.and given_1 narrow_1) := by decide +kernel
theorem lf_c {i k : Nat} (hi : i < 3) (hk : k < 3) (ne : i ≠ k) : Cond.not (.castable (mm_en i) (mm_en k)) ∈ flatC (Jvm.Cond.and given_1 narrow_1) := by
  match i, k, hi, hk, ne with
  | 0, 0, _, _, ne => exact absurd rfl ne
  | 0, 1, _, _, _ => exact lf_c01
  | 0, 2, _, _, _ => exact lf_c02
  | 1, 0, _, _, _ => exact lf_c10
  | 1, 1, _, _, ne => exact absurd rfl ne
  | 1, 2, _, _, _ => exact lf_c12
  | 2, 0, _, _, _ => exact lf_c20
  | 2, 1, _, _, _ => exact lf_c21
  | 2, 2, _, _, ne => exact absurd rfl ne
theorem lf_arr {ty : FieldType} {c comp : ClassId} {k : Class} (h1 : s.vm.classes[c]? = some k) (h2 : k.kind = .array comp ty) : ArrOfT s c ty := fun _ _ => ⟨fun _ h => (by cases h), k, h1, comp, h2⟩
theorem lf_over {C : String} (h : (Cond.arrayOver (.object C)).before A s = true) : ∃ c : ClassId, ArrOfT s c (.object C) ∧ va_RA s c (.object C) := by
  obtain ⟨comp, c, k, h1, -, h3, h4, h5⟩ := Cond.arrayOver_spec h
  exact ⟨c, lf_arr h3 h4, k, comp, h3, h4, h1, h5⟩
theorem lf_A (hts : ∀ w ∈ lw_tbl, w.before A s = true) {k : Nat} (hk : k < 10) : ∃ c : ClassId, ArrOfT s c (mm_ty k) ∧ va_RA s c (mm_ty k) := by
  match k, hk with
  | 0, _ => obtain ⟨c, k, comp, h1, h2, h3⟩ := Cond.arrayClass_spec (hts _ lf_a0); exact ⟨c, lf_arr h2 h3, h1⟩
  | 1, _ => obtain ⟨c, k, comp, h1, h2, h3⟩ := Cond.arrayClass_spec (hts _ lf_a1); exact ⟨c, lf_arr h2 h3, h1⟩
  | 2, _ => obtain ⟨c, k, comp, h1, h2, h3⟩ := Cond.arrayClass_spec (hts _ lf_a2); exact ⟨c, lf_arr h2 h3, h1⟩
  | 3, _ => obtain ⟨c, k, comp, h1, h2, h3⟩ := Cond.arrayClass_spec (hts _ lf_a3); exact ⟨c, lf_arr h2 h3, h1⟩
  | 4, _ => obtain ⟨c, k, comp, h1, h2, h3⟩ := Cond.arrayClass_spec (hts _ lf_a4); exact ⟨c, lf_arr h2 h3, h1⟩
  | 5, _ => exact lf_over (hts _ lf_a5)
  | 6, _ => exact lf_over (hts _ lf_a6)
  | 7, _ => exact lf_over (hts _ lf_a7)
  | 8, _ => exact lf_over (hts _ lf_a8)
  | 9, _ => exact lf_over (hts _ lf_a9)
theorem lf_str (hts : ∀ w ∈ lw_tbl, w.before A s = true) {own tx : String} {k : Nat} (hm : Cond.stringRef own k tx ∈ lw_tbl) : ∃ a : Nat, vk_R own k tx a s := by
  have h := hts _ hm
  cases hc : s.vm.findClass own with
  | none => simp [Cond.before, Cond.holds, Cond.value, hc] at h
  | some cur =>
    obtain ⟨_, _, _, a, -, -, -, -, -, hev⟩ := Cond.stringRef_spec hc h
    exact ⟨a, vk_R.of h hev⟩
theorem lf_len {c : Nat} {q : vw_C} (h : vwCl[c]? = some q) : c < 7 := (List.getElem?_eq_some_iff.mp h).1
theorem lf_F (hts : ∀ w ∈ lw_tbl, w.before A s = true) (hgv : (Jvm.Cond.and given_1 narrow_1).before A s = true) (hX : va_X b L xs s s.heap) (hb : b < s.heap.size) : ∃ (D : va_G) (dA : Nat → ClassId), mm_F (s, A, D, dA, b, L, xs) := by
  have hs := flat_of_before _ hgv
  have h1 : ∀ c : Nat, ∃ q : ClassId × (Nat → Nat), c < 7 → u_Kn s (mm_cn c) (mm_T c) (mm_N c) q.1 q.2 := by
    intro c
    by_cases h : c < 7
    · obtain ⟨a, b, h9⟩ := u_known hts (mm_win h) (hts _ (lf_i h))
      exact ⟨(a, b), fun _ => h9⟩
    · exact ⟨(0, fun _ => 0), fun z => absurd z h⟩
  have h2 : ∀ k : Nat, ∃ c : ClassId, k < 10 → ArrOfT s c (mm_ty k) ∧ va_RA s c (mm_ty k) := by
    intro k
    by_cases h : k < 10
    · obtain ⟨c, h9⟩ := lf_A hts h
      exact ⟨c, fun _ => h9⟩
    · exact ⟨0, fun z => absurd z h⟩
  obtain ⟨q, hq⟩ := Classical.axiomOfChoice h1
  obtain ⟨dA, hdA⟩ := Classical.axiomOfChoice h2
  refine ⟨(fun c => (q c).1, fun c => (q c).2), dA, hts, fun c z hz => ?_, fun k hk => hdA k hk, ⟨hX, hb⟩, ⟨?_, ?_⟩, fun own k tx hm => lf_str hts hm, fun i k hi hk ne => va_Nc.of (hs _ (lf_c hi hk ne))⟩
  · have hc := lf_len hz
    cases Option.some.inj ((mm_cl hc).symm.trans hz)
    exact hq c hc
  · exact vx_Zqof (hts _ lf_s0) (hts _ lf_s2) (hs _ lf_n0) (fun a h => Nat.not_le.mpr h)
  · exact vx_Zqof (hts _ lf_s1) (hts _ lf_s2) (hs _ lf_n1) (fun a h => Nat.not_le.mpr h)
end LF
