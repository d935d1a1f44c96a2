section R63
variable {κ κ0 ν : Nat → Nat → Int}
/-! fill keeps the rows that are spoken of -/
def w7 (κ ν : Nat → Nat → Int) : Prop := (∀ k, ν 7 k < κ 602 0) ∧ (∀ k, ν 201 k = κ 201 k) ∧ (∀ k, ν 290 k = κ 290 k)
theorem w7_fits (h2 : 2 ≤ κ 602 0) {p t a b c m : Int} (h : w7 κ ν) : w7 κ (s_fits ν p t a b c m) := by
  obtain ⟨f1, f2, f3, f4, f5, f6, _⟩ := fits_o (κ := ν) (p := p) (t := t) (a := a) (b := b) (c := c) (m := m)
  refine ⟨fun k => ?_, fun k => ?_, fun k => ?_⟩
  · by_cases e : k = p.toNat
    · rw [e, f6]; omega
    · rw [f1 7 k (by omega)]; exact h.1 k
  · rw [f1 201 k (by omega)]; exact h.2.1 k
  · rw [f1 290 k (by omega)]; exact h.2.2 k
theorem w7_ite {c : Prop} [Decidable c] {x y : Nat → Nat → Int} (h1 : c → w7 κ x) (h2 : ¬ c → w7 κ y) : w7 κ (if c then x else y) := by
  by_cases e : c
  · rw [if_pos e]; exact h1 e
  · rw [if_neg e]; exact h2 e
theorem w7_u {f k : Nat} {v : Int} (hf : f ≠ 7 ∧ f ≠ 201 ∧ f ≠ 290) (h : w7 κ ν) : w7 κ (u2 ν f k v) :=
  ⟨fun q => by rw [u2_f (by omega)]; exact h.1 q, fun q => by rw [u2_f (by omega)]; exact h.2.1 q, fun q => by rw [u2_f (by omega)]; exact h.2.2 q⟩
theorem w7_reset (h2 : 2 ≤ κ 602 0) {s p m : Int} : ∀ (d : Nat) (k : Int) (ν : Nat → Nat → Int), w7 κ ν → w7 κ (s_fillReset_2 κ0 s p m d k ν)
  | 0, _, _, h => h
  | d + 1, k, ν, h => by
    have ih : ∀ (k : Int) (ν : Nat → Nat → Int), w7 κ ν → w7 κ (s_fillReset_2 κ0 s p m d k ν) := w7_reset h2 d
    rw [s_fillReset_2]
    repeat' split
    all_goals first | exact h | exact ih _ _ h | exact ih _ _ (w7_fits h2 h) | exact w7_u (by decide) (w7_fits h2 h)
theorem w7_stop (h2 : 2 ≤ κ 602 0) {s p m : Int} : ∀ (d : Nat) (k : Int) (ν : Nat → Nat → Int), w7 κ ν → w7 κ (s_fillStop_2 κ0 s p m d k ν)
  | 0, _, _, h => h
  | d + 1, k, ν, h => by
    have ih : ∀ (k : Int) (ν : Nat → Nat → Int), w7 κ ν → w7 κ (s_fillStop_2 κ0 s p m d k ν) := w7_stop h2 d
    rw [s_fillStop_2]
    repeat' split
    all_goals first | exact h | exact ih _ _ h | exact ih _ _ (w7_fits h2 h) | exact w7_u (by decide) (w7_fits h2 h)
theorem w7_grant (h2 : 2 ≤ κ 602 0) {s p m : Int} : ∀ (d : Nat) (k : Int) (ν : Nat → Nat → Int), w7 κ ν → w7 κ (s_fillGrant_2 κ0 s p m d k ν)
  | 0, _, _, h => h
  | d + 1, k, ν, h => by
    have ih : ∀ (k : Int) (ν : Nat → Nat → Int), w7 κ ν → w7 κ (s_fillGrant_2 κ0 s p m d k ν) := w7_grant h2 d
    rw [s_fillGrant_2]
    repeat' split
    all_goals first | exact h | exact ih _ _ h | exact ih _ _ (w7_fits h2 h) | exact w7_u (by decide) (w7_fits h2 h)
theorem w7_sgrant (h2 : 2 ≤ κ 602 0) {s p m : Int} : ∀ (d : Nat) (k : Int) (ν : Nat → Nat → Int), w7 κ ν → w7 κ (s_fillStreamsGrant_2 κ0 s p m d k ν)
  | 0, _, _, h => h
  | d + 1, k, ν, h => by
    have ih : ∀ (k : Int) (ν : Nat → Nat → Int), w7 κ ν → w7 κ (s_fillStreamsGrant_2 κ0 s p m d k ν) := w7_sgrant h2 d
    rw [s_fillStreamsGrant_2]
    repeat' split
    all_goals first | exact h | exact ih _ _ h | exact ih _ _ (w7_fits h2 h) | exact w7_u (by decide) (w7_fits h2 h)
theorem w7_blocked (h2 : 2 ≤ κ 602 0) {s p m : Int} : ∀ (d : Nat) (k : Int) (ν : Nat → Nat → Int), w7 κ ν → w7 κ (s_fillBlocked_2 κ0 s p m d k ν)
  | 0, _, _, h => h
  | d + 1, k, ν, h => by
    have ih : ∀ (k : Int) (ν : Nat → Nat → Int), w7 κ ν → w7 κ (s_fillBlocked_2 κ0 s p m d k ν) := w7_blocked h2 d
    rw [s_fillBlocked_2]
    repeat' split
    all_goals first | exact h | exact ih _ _ h | exact ih _ _ (w7_fits h2 h) | exact w7_u (by decide) (w7_fits h2 h)
theorem w7_sblocked (h2 : 2 ≤ κ 602 0) {s p m : Int} : ∀ (d : Nat) (k : Int) (ν : Nat → Nat → Int), w7 κ ν → w7 κ (s_fillStreamsBlocked_2 κ0 s p m d k ν)
  | 0, _, _, h => h
  | d + 1, k, ν, h => by
    have ih : ∀ (k : Int) (ν : Nat → Nat → Int), w7 κ ν → w7 κ (s_fillStreamsBlocked_2 κ0 s p m d k ν) := w7_sblocked h2 d
    rw [s_fillStreamsBlocked_2]
    repeat' split
    all_goals first | exact h | exact ih _ _ h | exact ih _ _ (w7_fits h2 h) | exact w7_u (by decide) (w7_fits h2 h)
theorem w7_dgrant (h2 : 2 ≤ κ 602 0) {s p m : Int} (h : w7 κ ν) : w7 κ (s_fillDataGrant ν s p m) := by
  unfold s_fillDataGrant
  repeat' split
  all_goals first | exact h | exact w7_fits h2 h | exact w7_u (by decide) (w7_fits h2 h)
theorem w7_dblocked (h2 : 2 ≤ κ 602 0) {s p m : Int} (h : w7 κ ν) : w7 κ (s_fillDataBlocked ν s p m) := by
  unfold s_fillDataBlocked
  repeat' split
  all_goals first | exact h | exact w7_fits h2 h | exact w7_u (by decide) (w7_fits h2 h)
theorem w7_ctf {p i u m r : Int} (h : w7 κ ν) : w7 κ (s_countThatFits ν p i u m r) :=
  ⟨fun q => by rw [s_countThatFits_fr rfl]; exact h.1 q, fun q => by rw [s_countThatFits_fr rfl]; exact h.2.1 q, fun q => by rw [s_countThatFits_fr rfl]; exact h.2.2 q⟩
theorem w7_sf {p t a b c : Int} (h : w7 κ ν) : w7 κ (s_setFields ν p t a b c) :=
  ⟨fun q => by rw [s_setFields_fr rfl]; exact h.1 q, fun q => by rw [s_setFields_fr rfl]; exact h.2.1 q, fun q => by rw [s_setFields_fr rfl]; exact h.2.2 q⟩
theorem w7_mo {s i u n : Int} (h : w7 κ ν) : w7 κ (s_markOut ν s i u n) :=
  ⟨fun q => by rw [s_markOut_fr rfl]; exact h.1 q, fun q => by rw [s_markOut_fr rfl]; exact h.2.1 q, fun q => by rw [s_markOut_fr rfl]; exact h.2.2 q⟩
theorem w7_sd {p r u n : Int} (hr : r < κ 602 0) (h : w7 κ ν) : w7 κ (s_setData ν p r u n) := by
  unfold s_setData
  refine w7_u (f := 9) (by decide) (w7_u (f := 8) (by decide) ⟨fun q => ?_, fun q => ?_, fun q => ?_⟩)
  · by_cases e : q = p.toNat
    · rw [e, u2_s]; exact hr
    · rw [u2_n (by omega)]; exact h.1 q
  · rw [u2_f (by decide)]; exact h.2.1 q
  · rw [u2_f (by decide)]; exact h.2.2 q
set_option maxRecDepth 100000 in
theorem w7_from {s p m i : Int} (hr : κ 201 (mj s i) < κ 602 0) (h : w7 κ ν) : w7 κ (s_fillFrom ν s p m i) := by
  have hr' : ν 201 (mj s i) < κ 602 0 := by rw [h.2.1]; exact hr
  unfold s_fillFrom
  repeat' with_reducible refine w7_ite (fun _ => ?_) (fun _ => ?_)
  all_goals first
    | with_reducible exact h
    | with_reducible exact w7_ctf h
    | with_reducible exact w7_u (f := 309) (by decide) (w7_mo (w7_sd hr' (w7_sf (w7_ctf h))))
    | with_reducible exact w7_u (f := 207) (by decide) (w7_u (f := 309) (by decide) (w7_mo (w7_sd hr' (w7_sf (w7_ctf h)))))
theorem w7_stream (h2 : 2 ≤ κ 602 0) (hW : kW κ) {s p m : Int} : ∀ (d : Nat) (k : Int) (ν : Nat → Nat → Int), w7 κ ν → w7 κ (s_fillStream_2 κ0 s p m d k ν)
  | 0, _, _, h => h
  | d + 1, k, ν, h => by
    have ih : ∀ (k : Int) (ν : Nat → Nat → Int), w7 κ ν → w7 κ (s_fillStream_2 κ0 s p m d k ν) := w7_stream h2 hW d
    have fr : ∀ i, ν 290 (mj s i) = 1 → w7 κ (s_fillFrom ν s p m i) := fun i z => w7_from (hW.1 _ ((h.2.2 _).symm.trans z)).1 h
    rw [s_fillStream_2]
    repeat' split
    all_goals first | exact h | exact ih _ _ h | exact ih _ _ (fr _ (by assumption)) | exact w7_u (by decide) (fr _ (by assumption))
theorem w7_next (h2 : 2 ≤ κ 602 0) (hW : kW κ) {s p m : Int} (h : w7 κ κ) : w7 κ (s_fillNext κ s p m) := by
  have r1 : w7 κ (s_fillReset κ s p m) := w7_reset h2 257 0 κ h
  have r2 : w7 κ (s_fillStop (s_fillReset κ s p m) s p m) := w7_stop h2 257 0 _ r1
  have r3 := w7_dgrant h2 (s := s) (p := p) (m := m) r2
  have r4 : w7 κ (s_fillGrant (s_fillDataGrant (s_fillStop (s_fillReset κ s p m) s p m) s p m) s p m) := w7_grant h2 257 0 _ r3
  have r5 : w7 κ (s_fillStreamsGrant (s_fillGrant (s_fillDataGrant (s_fillStop (s_fillReset κ s p m) s p m) s p m) s p m) s p m) := w7_sgrant h2 3 0 _ r4
  have r6 := w7_dblocked h2 (s := s) (p := p) (m := m) r5
  have r7 : w7 κ (s_fillBlocked (s_fillDataBlocked (s_fillStreamsGrant (s_fillGrant (s_fillDataGrant (s_fillStop (s_fillReset κ s p m) s p m) s p m) s p m) s p m) s p m) s p m) := w7_blocked h2 257 0 _ r6
  have r8 : w7 κ (s_fillStreamsBlocked (s_fillBlocked (s_fillDataBlocked (s_fillStreamsGrant (s_fillGrant (s_fillDataGrant (s_fillStop (s_fillReset κ s p m) s p m) s p m) s p m) s p m) s p m) s p m) s p m) := w7_sblocked h2 3 0 _ r7
  have r9 : w7 κ (s_fillStream (s_fillStreamsBlocked (s_fillBlocked (s_fillDataBlocked (s_fillStreamsGrant (s_fillGrant (s_fillDataGrant (s_fillStop (s_fillReset κ s p m) s p m) s p m) s p m) s p m) s p m) s p m) s p m) s p m) := w7_stream h2 hW 257 1 _ r8
  unfold s_fillNext
  repeat' split
  all_goals assumption
theorem kW_fill (h2 : 2 ≤ κ 602 0) (hW : kW κ) {s m : Int} : kW (s_kFill κ s m) := by
  have h : w7 κ κ := ⟨hW.2.2, fun _ => rfl, fun _ => rfl⟩
  have w : w7 κ (s_kFill κ s m) := by
    unfold s_kFill
    repeat' split
    all_goals first | exact h | exact w7_next h2 hW h | exact w7_u (by decide) (w7_u (by decide) (w7_u (by decide) (w7_next h2 hW h)))
  have f602 : s_kFill κ s m 602 0 = κ 602 0 := s_kFill_fr rfl
  refine ⟨fun k z => ?_, fun k z => ?_, fun k => ?_⟩
  · rw [s_kFill_fr (f := 290) rfl] at z
    rw [s_kFill_fr (f := 201) rfl, s_kFill_fr (f := 202) rfl, f602]
    exact hW.1 k z
  · rw [s_kFill_fr (f := 190) rfl] at z
    rw [s_kFill_fr (f := 101) rfl, f602]
    exact hW.2.1 k z
  · rw [f602]; exact w.1 k
end R63
