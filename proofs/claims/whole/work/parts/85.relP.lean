section R17
variable {κ μ κ' μ' : Nat → Nat → Int} {O O' : Nat → Nat}
/-- the cells that a new stream brings: all others as they were -/
def nwK (κ κ' : Nat → Nat → Int) (s i : Int) (R1 R2 R3 : Nat) : Prop :=
  (∀ f k, ¬ (((100 ≤ f ∧ f ≤ 113) ∨ f = 190 ∨ (200 ≤ f ∧ f ≤ 211) ∨ f = 290) ∧ k = mj s i) → ¬ ((f = 600 ∨ f = 601) ∧ κ 602 0 ≤ (k : Int)) → ¬ (1000 ≤ f ∧ κ 602 0 ≤ ((f - 1000 : Nat) : Int)) → f ≠ 602 → ¬ (f = 306 ∧ k = s.toNat) → κ' f k = κ f k) ∧ κ 602 0 ≤ κ' 602 0 ∧ κ' 306 s.toNat = v_maxI (κ 306 s.toNat) (i + 1) ∧
  ((i / 2 % 2 = 0 ∨ i % 2 = s) → κ' 290 (mj s i) = 1 ∧ κ' 200 (mj s i) = 0 ∧ κ' 201 (mj s i) = R1 ∧ κ' 202 (mj s i) = R2 ∧ κ' 203 (mj s i) = 0 ∧ κ' 204 (mj s i) = 0 ∧ κ' 205 (mj s i) = 0 ∧ κ' 206 (mj s i) = 0 ∧ κ' 207 (mj s i) = 0 ∧ κ' 208 (mj s i) = κ 361 ((16 * s) + v_grantFor (1 - s) i).toNat ∧ κ' 209 (mj s i) = -1 ∧ κ' 210 (mj s i) = 0 ∧ κ' 211 (mj s i) = 0 ∧ κ 602 0 ≤ (R1 : Int) ∧ (R1 : Int) < κ' 602 0 ∧ κ 602 0 ≤ (R2 : Int) ∧ (R2 : Int) < κ' 602 0 ∧ R1 ≠ R2 ∧ κ' 600 R1 = 0 ∧ κ' 600 R2 = 0 ∧ κ' 601 R1 = 2 ∧ κ' 601 R2 = 2 ∧ ∀ o, κ' (1000 + R1) o = 0 ∧ κ' (1000 + R2) o = 0) ∧
  (¬ (i / 2 % 2 = 0 ∨ i % 2 = s) → ∀ f, (200 ≤ f ∧ f ≤ 211) ∨ f = 290 → κ' f (mj s i) = κ f (mj s i)) ∧
  ((i / 2 % 2 = 0 ∨ ¬ i % 2 = s) → κ' 190 (mj s i) = 1 ∧ κ' 100 (mj s i) = 0 ∧ κ' 101 (mj s i) = R3 ∧ κ' 102 (mj s i) = 0 ∧ κ' 103 (mj s i) = 0 ∧ κ' 104 (mj s i) = 0 ∧ κ' 105 (mj s i) = -1 ∧ κ' 106 (mj s i) = κ 360 ((16 * s) + v_grantFor s i).toNat ∧ κ' 107 (mj s i) = κ 360 ((16 * s) + v_grantFor s i).toNat ∧ κ' 108 (mj s i) = 0 ∧ κ' 109 (mj s i) = 0 ∧ κ' 110 (mj s i) = 0 ∧ κ' 111 (mj s i) = 0 ∧ κ' 112 (mj s i) = 0 ∧ κ' 113 (mj s i) = 0 ∧ κ 602 0 ≤ (R3 : Int) ∧ (R3 : Int) < κ' 602 0 ∧ R3 ≠ R1 ∧ R3 ≠ R2 ∧ κ' 600 R3 = 0 ∧ κ' 601 R3 = 3 ∧ ∀ o, κ' (1000 + R3) o = 0) ∧
  (¬ (i / 2 % 2 = 0 ∨ ¬ i % 2 = s) → ∀ f, (100 ≤ f ∧ f ≤ 113) ∨ f = 190 → κ' f (mj s i) = κ f (mj s i))
theorem kNr_u {c f k : Nat} {n : Int} (h1 : ¬ ((f = 600 ∨ f = 601) ∧ k = (κ 602 0).toNat)) (h2 : f ≠ 1000 + (κ 602 0).toNat) (h3 : ¬ (f = 602 ∧ k = 0)) : kNr κ c n f k = κ f k := by
  unfold kNr
  rw [u2_n h3, u2_n (by omega), u2_n (by omega), uf_f h2]
theorem kNr_0 {c o : Nat} {n : Int} : kNr κ c n (1000 + (κ 602 0).toNat) o = 0 := by
  rw [kNr_w, if_pos rfl]
theorem kNs_e {k f : Nat} {r1 r2 c : Int} (k' : Nat) : kNs κ k r1 r2 c f k' = if k' = k then (if f = 290 then 1 else if f = 211 then 0 else if f = 210 then 0 else if f = 209 then -1 else if f = 208 then c else if f = 207 then 0 else if f = 206 then 0 else if f = 205 then 0 else if f = 204 then 0 else if f = 203 then 0 else if f = 202 then r2 else if f = 201 then r1 else if f = 200 then 0 else κ f k') else κ f k' := by
  unfold kNs u2
  by_cases e : k' = k
  · simp only [e, and_true, if_true]
  · simp only [e, and_false, if_false]
set_option maxHeartbeats 4000000 in
theorem makeParts_s (h602 : 2 ≤ κ 602 0) {s i : Int} (h1 : 0 ≤ s) (h2 : s ≤ 1) (h3 : 0 ≤ i) (h4 : i < 256) : ∃ R1 R2 R3 : Nat, nwK κ (s_makeParts κ s i) s i R1 R2 R3 := by
  have hw := (kWayOf_b h3).1
  have o1 : ∀ (c : Nat) (n : Int) (f k : Nat), ¬ ((f = 600 ∨ f = 601) ∧ κ 602 0 ≤ (k : Int)) → ¬ (1000 ≤ f ∧ κ 602 0 ≤ ((f - 1000 : Nat) : Int)) → f ≠ 602 → kNr κ c n f k = κ f k := fun c n f k x y z => kNr_u (by omega) (by omega) (by omega)
  have q602 : ∀ c n, kNr κ c n 602 0 = κ 602 0 + 1 := fun c n => kNr_602
  -- two rows
  have o2 : ∀ (f k : Nat), ¬ ((f = 600 ∨ f = 601) ∧ κ 602 0 ≤ (k : Int)) → ¬ (1000 ≤ f ∧ κ 602 0 ≤ ((f - 1000 : Nat) : Int)) → f ≠ 602 → kNr (kNr κ 2 0) 2 0 f k = κ f k := fun f k x y z => by
    rw [kNr_u (by rw [q602]; omega) (by rw [q602]; omega) (by omega), o1 _ _ f k x y z]
  have p602 : kNr (kNr κ 2 0) 2 0 602 0 = κ 602 0 + 2 := by rw [kNr_602, q602]; omega
  have r1a : kNr (kNr κ 2 0) 2 0 600 (κ 602 0).toNat = 0 ∧ kNr (kNr κ 2 0) 2 0 601 (κ 602 0).toNat = 2 ∧ ∀ o, kNr (kNr κ 2 0) 2 0 (1000 + (κ 602 0).toNat) o = 0 := by
    refine ⟨?_, ?_, fun o => ?_⟩
    · rw [kNr_600, q602, if_neg (by omega), kNr_600, if_pos rfl]
    · rw [kNr_601, q602, if_neg (by omega), kNr_601, if_pos rfl]; rfl
    · rw [kNr_w, q602, if_neg (by omega)]; exact kNr_0
  have r2a : kNr (kNr κ 2 0) 2 0 600 (κ 602 0 + 1).toNat = 0 ∧ kNr (kNr κ 2 0) 2 0 601 (κ 602 0 + 1).toNat = 2 ∧ ∀ o, kNr (kNr κ 2 0) 2 0 (1000 + (κ 602 0 + 1).toNat) o = 0 := by
    refine ⟨?_, ?_, fun o => ?_⟩
    · rw [kNr_600, q602, if_pos rfl]
    · rw [kNr_601, q602, if_pos rfl]; rfl
    · rw [kNr_w, q602, if_pos rfl]
  -- with the sending part
  by_cases both : i / 2 % 2 = 0
  · have hb : v_kWayOf i = 0 := by omega
    have eK : s_makeParts κ s i = (u2 (kNq (kNr (kNs (kNr (kNr κ 2 0) 2 0) (mj s i) (κ 602 0) (κ 602 0 + 1) (κ 361 ((16 * s) + (v_grantFor (1 - s) i)).toNat)) 3 0) (mj s i) ((kNs (kNr (kNr κ 2 0) 2 0) (mj s i) (κ 602 0) (κ 602 0 + 1) (κ 361 ((16 * s) + (v_grantFor (1 - s) i)).toNat)) 602 0) (κ 360 ((16 * s) + (v_grantFor s i)).toNat)) 306 s.toNat (v_maxI (κ 306 s.toNat) (i + 1))) := by
      unfold s_makeParts
      simp only [if_pos hb]
      split <;> rfl
    have s602 : ∀ c, kNs (kNr (kNr κ 2 0) 2 0) (mj s i) (κ 602 0) (κ 602 0 + 1) c 602 0 = κ 602 0 + 2 := fun c => by rw [kNs_o (by omega), p602]
    rw [eK, s602]
    generalize hc1 : κ 361 ((16 * s) + (v_grantFor (1 - s) i)).toNat = c1
    generalize hc2 : κ 360 ((16 * s) + (v_grantFor s i)).toNat = c2
    have go : ∀ f k, ¬ (((100 ≤ f ∧ f ≤ 113) ∨ f = 190) ∧ k = mj s i) → ¬ ((f = 600 ∨ f = 601) ∧ k = (κ 602 0 + 2).toNat) → f ≠ 1000 + (κ 602 0 + 2).toNat → f ≠ 602 → ¬ (f = 306 ∧ k = s.toNat) → (u2 (kNq (kNr (kNs (kNr (kNr κ 2 0) 2 0) (mj s i) (κ 602 0) (κ 602 0 + 1) c1) 3 0) (mj s i) (κ 602 0 + 2) c2) 306 s.toNat (v_maxI (κ 306 s.toNat) (i + 1))) f k = kNs (kNr (kNr κ 2 0) 2 0) (mj s i) (κ 602 0) (κ 602 0 + 1) c1 f k := fun f k x1 x2 x3 x4 x5 => by
      rw [u2_n x5, kNq_o (by omega), kNr_u (by rw [s602]; exact x2) (by rw [s602]; exact x3) (by omega)]
    refine ⟨(κ 602 0).toNat, (κ 602 0 + 1).toNat, (κ 602 0 + 2).toNat, ?_, ?_, ?_, fun _ => ?_, fun z => absurd (Or.inl both) z, fun _ => ?_, fun z => absurd (Or.inl both) z⟩
    · intro f k x1 x2 x3 x4 x5
      rw [go f k (by omega) (by omega) (by omega) x4 x5, kNs_o (by omega), o2 f k x2 x3 x4]
    · rw [u2_n (by omega), kNq_o (by omega), kNr_602, s602]; omega
    · rw [u2_s]
    · refine ⟨?_, ?_, ?_, ?_, ?_, ?_, ?_, ?_, ?_, ?_, ?_, ?_, ?_, by omega, ?_, by omega, ?_, by omega, ?_, ?_, ?_, ?_, fun o => ⟨?_, ?_⟩⟩
      · rw [go _ _ (by omega) (by omega) (by omega) (by omega) (by omega), kNs_290]
      · rw [go _ _ (by omega) (by omega) (by omega) (by omega) (by omega), kNs_200]
      · rw [go _ _ (by omega) (by omega) (by omega) (by omega) (by omega), kNs_201]; omega
      · rw [go _ _ (by omega) (by omega) (by omega) (by omega) (by omega), kNs_202]; omega
      · rw [go _ _ (by omega) (by omega) (by omega) (by omega) (by omega), kNs_203]
      · rw [go _ _ (by omega) (by omega) (by omega) (by omega) (by omega), kNs_204]
      · rw [go _ _ (by omega) (by omega) (by omega) (by omega) (by omega), kNs_205]
      · rw [go _ _ (by omega) (by omega) (by omega) (by omega) (by omega), kNs_206]
      · rw [go _ _ (by omega) (by omega) (by omega) (by omega) (by omega), kNs_207]
      · rw [go _ _ (by omega) (by omega) (by omega) (by omega) (by omega), kNs_208, hc1]
      · rw [go _ _ (by omega) (by omega) (by omega) (by omega) (by omega), kNs_209]
      · rw [go _ _ (by omega) (by omega) (by omega) (by omega) (by omega), kNs_210]
      · rw [go _ _ (by omega) (by omega) (by omega) (by omega) (by omega), kNs_211]
      · rw [u2_n (by omega), kNq_o (by omega), kNr_602, s602]; omega
      · rw [u2_n (by omega), kNq_o (by omega), kNr_602, s602]; omega
      · rw [go _ _ (by omega) (by omega) (by omega) (by omega) (by omega), kNs_o (by omega)]; exact r1a.1
      · rw [go _ _ (by omega) (by omega) (by omega) (by omega) (by omega), kNs_o (by omega)]; exact r2a.1
      · rw [go _ _ (by omega) (by omega) (by omega) (by omega) (by omega), kNs_o (by omega)]; exact r1a.2.1
      · rw [go _ _ (by omega) (by omega) (by omega) (by omega) (by omega), kNs_o (by omega)]; exact r2a.2.1
      · rw [go _ _ (by omega) (by omega) (by omega) (by omega) (by omega), kNs_o (by omega)]; exact r1a.2.2 o
      · rw [go _ _ (by omega) (by omega) (by omega) (by omega) (by omega), kNs_o (by omega)]; exact r2a.2.2 o
    · refine ⟨?_, ?_, ?_, ?_, ?_, ?_, ?_, ?_, ?_, ?_, ?_, ?_, ?_, ?_, ?_, by omega, ?_, by omega, by omega, ?_, ?_, fun o => ?_⟩
      · rw [u2_n (by omega), kNq_190]
      · rw [u2_n (by omega), kNq_100]
      · rw [u2_n (by omega), kNq_101]; omega
      · rw [u2_n (by omega), kNq_102]
      · rw [u2_n (by omega), kNq_103]
      · rw [u2_n (by omega), kNq_104]
      · rw [u2_n (by omega), kNq_105]
      · rw [u2_n (by omega), kNq_106, hc2]
      · rw [u2_n (by omega), kNq_107, hc2]
      · rw [u2_n (by omega), kNq_108]
      · rw [u2_n (by omega), kNq_109]
      · rw [u2_n (by omega), kNq_110]
      · rw [u2_n (by omega), kNq_111]
      · rw [u2_n (by omega), kNq_112]
      · rw [u2_n (by omega), kNq_113]
      · rw [u2_n (by omega), kNq_o (by omega), kNr_602, s602]; omega
      · rw [u2_n (by omega), kNq_o (by omega), kNr_600, s602, if_pos rfl]
      · rw [u2_n (by omega), kNq_o (by omega), kNr_601, s602, if_pos rfl]; rfl
      · rw [u2_n (by omega), kNq_o (by omega), kNr_w, s602, if_pos rfl]
  · have hb : ¬ v_kWayOf i = 0 := by omega
    by_cases own : i % 2 = s
    · have eK : s_makeParts κ s i = (u2 (kNs (kNr (kNr κ 2 0) 2 0) (mj s i) (κ 602 0) (κ 602 0 + 1) (κ 361 ((16 * s) + (v_grantFor (1 - s) i)).toNat)) 306 s.toNat (v_maxI (κ 306 s.toNat) (i + 1))) := by
        unfold s_makeParts
        rw [if_pos own, if_neg hb]
      rw [eK]
      refine ⟨(κ 602 0).toNat, (κ 602 0 + 1).toNat, 0, ?_, ?_, ?_, fun _ => ?_, fun z => absurd (Or.inr own) z, fun z => ?_, fun _ f x => ?_⟩
      · intro f k x1 x2 x3 x4 x5
        rw [u2_n x5, kNs_o (by omega), o2 f k x2 x3 x4]
      · rw [u2_n (by omega), kNs_o (by omega), p602]; omega
      · rw [u2_s]
      · refine ⟨?_, ?_, ?_, ?_, ?_, ?_, ?_, ?_, ?_, ?_, ?_, ?_, ?_, by omega, ?_, by omega, ?_, by omega, ?_, ?_, ?_, ?_, fun o => ⟨?_, ?_⟩⟩
        · rw [u2_n (by omega), kNs_290]
        · rw [u2_n (by omega), kNs_200]
        · rw [u2_n (by omega), kNs_201]; omega
        · rw [u2_n (by omega), kNs_202]; omega
        · rw [u2_n (by omega), kNs_203]
        · rw [u2_n (by omega), kNs_204]
        · rw [u2_n (by omega), kNs_205]
        · rw [u2_n (by omega), kNs_206]
        · rw [u2_n (by omega), kNs_207]
        · rw [u2_n (by omega), kNs_208]
        · rw [u2_n (by omega), kNs_209]
        · rw [u2_n (by omega), kNs_210]
        · rw [u2_n (by omega), kNs_211]
        · rw [u2_n (by omega), kNs_o (by omega), p602]; omega
        · rw [u2_n (by omega), kNs_o (by omega), p602]; omega
        · rw [u2_n (by omega), kNs_o (by omega)]; exact r1a.1
        · rw [u2_n (by omega), kNs_o (by omega)]; exact r2a.1
        · rw [u2_n (by omega), kNs_o (by omega)]; exact r1a.2.1
        · rw [u2_n (by omega), kNs_o (by omega)]; exact r2a.2.1
        · rw [u2_n (by omega), kNs_o (by omega)]; exact r1a.2.2 o
        · rw [u2_n (by omega), kNs_o (by omega)]; exact r2a.2.2 o
      · omega
      · rw [u2_n (by omega), kNs_o (by omega), o2 _ _ (by omega) (by omega) (by omega)]
    · have eK : s_makeParts κ s i = (u2 (kNq (kNr κ 3 0) (mj s i) (κ 602 0) (κ 360 ((16 * s) + (v_grantFor s i)).toNat)) 306 s.toNat (v_maxI (κ 306 s.toNat) (i + 1))) := by
        unfold s_makeParts
        rw [if_neg own, if_neg hb]
      rw [eK]
      refine ⟨(κ 602 0).toNat + 1, (κ 602 0).toNat + 1, (κ 602 0).toNat, ?_, ?_, ?_, fun z => ?_, fun _ f x => ?_, fun _ => ?_, fun z => absurd (Or.inr own) z⟩
      · intro f k x1 x2 x3 x4 x5
        rw [u2_n x5, kNq_o (by omega), o1 _ _ f k x2 x3 x4]
      · rw [u2_n (by omega), kNq_o (by omega), kNr_602]; omega
      · rw [u2_s]
      · omega
      · rw [u2_n (by omega), kNq_o (by omega), o1 _ _ _ _ (by omega) (by omega) (by omega)]
      · refine ⟨?_, ?_, ?_, ?_, ?_, ?_, ?_, ?_, ?_, ?_, ?_, ?_, ?_, ?_, ?_, by omega, ?_, by omega, by omega, ?_, ?_, fun o => ?_⟩
        · rw [u2_n (by omega), kNq_190]
        · rw [u2_n (by omega), kNq_100]
        · rw [u2_n (by omega), kNq_101]; omega
        · rw [u2_n (by omega), kNq_102]
        · rw [u2_n (by omega), kNq_103]
        · rw [u2_n (by omega), kNq_104]
        · rw [u2_n (by omega), kNq_105]
        · rw [u2_n (by omega), kNq_106]
        · rw [u2_n (by omega), kNq_107]
        · rw [u2_n (by omega), kNq_108]
        · rw [u2_n (by omega), kNq_109]
        · rw [u2_n (by omega), kNq_110]
        · rw [u2_n (by omega), kNq_111]
        · rw [u2_n (by omega), kNq_112]
        · rw [u2_n (by omega), kNq_113]
        · rw [u2_n (by omega), kNq_o (by omega), kNr_602]; omega
        · rw [u2_n (by omega), kNq_o (by omega), kNr_600, if_pos rfl]
        · rw [u2_n (by omega), kNq_o (by omega), kNr_601, if_pos rfl]; rfl
        · rw [u2_n (by omega), kNq_o (by omega), kNr_w, if_pos rfl]
end R17
