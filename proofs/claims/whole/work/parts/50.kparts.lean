section KP
variable {L : Launch} {G : mmG} {B B' B'' : Nat → Nat → Nat} {bx bx' : Nat → Option (Nat × Nat)} {h0 : mmH} {κ κ' κ'' : Nat → Nat → Int}
theorem u2_n {μ : Nat → Nat → Int} {f k f' k' : Nat} {v : Int} (h : ¬ (f' = f ∧ k' = k)) : u2 μ f k v f' k' = μ f' k' := if_neg h
def kNs (κ : Nat → Nat → Int) (k : Nat) (r1 r2 c : Int) : Nat → Nat → Int := u2 (u2 (u2 (u2 (u2 (u2 (u2 (u2 (u2 (u2 (u2 (u2 (u2 κ 200 k 0) 201 k r1) 202 k r2) 203 k 0) 204 k 0) 205 k 0) 206 k 0) 207 k 0) 208 k c) 209 k (-1)) 210 k 0) 211 k 0) 290 k 1
theorem kNs_o {k f k' : Nat} {r1 r2 c : Int} (h : ¬ (k' = k ∧ ((200 ≤ f ∧ f ≤ 211) ∨ f = 290))) : kNs κ k r1 r2 c f k' = κ f k' := by
  unfold kNs
  rw [u2_n (by omega), u2_n (by omega), u2_n (by omega), u2_n (by omega), u2_n (by omega), u2_n (by omega), u2_n (by omega), u2_n (by omega), u2_n (by omega), u2_n (by omega), u2_n (by omega), u2_n (by omega), u2_n (by omega)]
theorem kNs_200 {k : Nat} {r1 r2 c : Int} : kNs κ k r1 r2 c 200 k = 0 := by
  unfold kNs
  rw [u2_n (by omega), u2_n (by omega), u2_n (by omega), u2_n (by omega), u2_n (by omega), u2_n (by omega), u2_n (by omega), u2_n (by omega), u2_n (by omega), u2_n (by omega), u2_n (by omega), u2_n (by omega), u2_s]
theorem kNs_201 {k : Nat} {r1 r2 c : Int} : kNs κ k r1 r2 c 201 k = r1 := by
  unfold kNs
  rw [u2_n (by omega), u2_n (by omega), u2_n (by omega), u2_n (by omega), u2_n (by omega), u2_n (by omega), u2_n (by omega), u2_n (by omega), u2_n (by omega), u2_n (by omega), u2_n (by omega), u2_s]
theorem kNs_202 {k : Nat} {r1 r2 c : Int} : kNs κ k r1 r2 c 202 k = r2 := by
  unfold kNs
  rw [u2_n (by omega), u2_n (by omega), u2_n (by omega), u2_n (by omega), u2_n (by omega), u2_n (by omega), u2_n (by omega), u2_n (by omega), u2_n (by omega), u2_n (by omega), u2_s]
theorem kNs_203 {k : Nat} {r1 r2 c : Int} : kNs κ k r1 r2 c 203 k = 0 := by
  unfold kNs
  rw [u2_n (by omega), u2_n (by omega), u2_n (by omega), u2_n (by omega), u2_n (by omega), u2_n (by omega), u2_n (by omega), u2_n (by omega), u2_n (by omega), u2_s]
theorem kNs_204 {k : Nat} {r1 r2 c : Int} : kNs κ k r1 r2 c 204 k = 0 := by
  unfold kNs
  rw [u2_n (by omega), u2_n (by omega), u2_n (by omega), u2_n (by omega), u2_n (by omega), u2_n (by omega), u2_n (by omega), u2_n (by omega), u2_s]
theorem kNs_205 {k : Nat} {r1 r2 c : Int} : kNs κ k r1 r2 c 205 k = 0 := by
  unfold kNs
  rw [u2_n (by omega), u2_n (by omega), u2_n (by omega), u2_n (by omega), u2_n (by omega), u2_n (by omega), u2_n (by omega), u2_s]
theorem kNs_206 {k : Nat} {r1 r2 c : Int} : kNs κ k r1 r2 c 206 k = 0 := by
  unfold kNs
  rw [u2_n (by omega), u2_n (by omega), u2_n (by omega), u2_n (by omega), u2_n (by omega), u2_n (by omega), u2_s]
theorem kNs_207 {k : Nat} {r1 r2 c : Int} : kNs κ k r1 r2 c 207 k = 0 := by
  unfold kNs
  rw [u2_n (by omega), u2_n (by omega), u2_n (by omega), u2_n (by omega), u2_n (by omega), u2_s]
theorem kNs_208 {k : Nat} {r1 r2 c : Int} : kNs κ k r1 r2 c 208 k = c := by
  unfold kNs
  rw [u2_n (by omega), u2_n (by omega), u2_n (by omega), u2_n (by omega), u2_s]
theorem kNs_209 {k : Nat} {r1 r2 c : Int} : kNs κ k r1 r2 c 209 k = -1 := by
  unfold kNs
  rw [u2_n (by omega), u2_n (by omega), u2_n (by omega), u2_s]
theorem kNs_210 {k : Nat} {r1 r2 c : Int} : kNs κ k r1 r2 c 210 k = 0 := by
  unfold kNs
  rw [u2_n (by omega), u2_n (by omega), u2_s]
theorem kNs_211 {k : Nat} {r1 r2 c : Int} : kNs κ k r1 r2 c 211 k = 0 := by
  unfold kNs
  rw [u2_n (by omega), u2_s]
theorem kNs_290 {k : Nat} {r1 r2 c : Int} : kNs κ k r1 r2 c 290 k = 1 := by
  unfold kNs
  rw [u2_s]
def kNs_l (B : Nat → Nat → Nat) (r1 r2 c : Int) : List AV := [aI 0, aR (B 17 r1.toNat), aR (B 17 r2.toNat), aI 0, aI 0, aI 0, aI 0, aI 0, aL c, aL (-1), aL 0, aI 0]
theorem kNs_ko {k : Nat} {r1 r2 c : Int} : ko2 B (kNs κ k r1 r2 c) k = kNs_l B r1 r2 c := by
  unfold kNs_l
  simp only [ko2, kNs_200, kNs_201, kNs_202, kNs_203, kNs_204, kNs_205, kNs_206, kNs_207, kNs_208, kNs_209, kNs_210, kNs_211]
theorem kal_kNs {t k k' : Nat} {r1 r2 c : Int} : kal (kNs κ k' r1 r2 c) t k ↔ kal κ t k ∨ (t = 2 ∧ k = k') := by
  have o : ∀ f q, (f < 200 ∨ 211 < f) → f ≠ 290 → kNs κ k' r1 r2 c f q = κ f q := fun f q h1 h2 => kNs_o (by omega)
  unfold kal
  split
  · constructor; (· exact Or.inl); (· rintro (h | h); exact h; exact absurd h.1 (by decide))
  · rw [o 190 k (by decide) (by decide)]; constructor; (· exact Or.inl); (· rintro (h | h); exact h; exact absurd h.1 (by decide))
  · constructor
    · intro h
      by_cases e : k = k'
      · exact Or.inr ⟨rfl, e⟩
      · exact Or.inl (by rw [kNs_o (by omega)] at h; exact h)
    · rintro (h | h)
      · by_cases e : k = k'
        · rw [e]; exact kNs_290
        · rw [kNs_o (by omega)]; exact h
      · rw [h.2]; exact kNs_290
  · constructor; (· exact Or.inl); (· rintro (h | h); exact h; exact absurd h.1 (by decide))
  · constructor; (· exact Or.inl); (· rintro (h | h); exact h; exact absurd h.1 (by decide))
  · constructor; (· exact Or.inl); (· rintro (h | h); exact h; exact absurd h.1 (by decide))
  · constructor; (· exact Or.inl); (· rintro (h | h); exact h; exact absurd h.1 (by decide))
  · constructor; (· exact Or.inl); (· rintro (h | h); exact h; exact absurd h.1 (by decide))
  · constructor; (· exact Or.inl); (· rintro (h | h); exact h; exact absurd h.1 (by decide))
  · constructor; (· exact Or.inl); (· rintro (h | h); exact h; exact absurd h.1 (by decide))
  · constructor; (· exact Or.inl); (· rintro (h | h); exact h; exact absurd h.1 (by decide))
  · constructor; (· exact Or.inl); (· rintro (h | h); exact h; exact absurd h.1 (by decide))
  · constructor; (· exact Or.inl); (· rintro (h | h); exact h; exact absurd h.1 (by decide))
  · rw [o 602 0 (by decide) (by decide)]; constructor; (· exact Or.inl); (· rintro (h | h); exact h; exact absurd h.1 (by decide))
  · rename_i hn1 hn2 hn3 hn4 hn5 hn6 hn7 hn8 hn9 hn10 hn11 hn12 hn13 hn14; constructor; (· exact Or.inl); (· rintro (h | h); exact h; exact absurd h.1 hn3)
theorem kc_kNs {t k a : Nat} {s i r1 r2 c : Int} (h1 : 0 ≤ s) (h3 : 0 ≤ i) (h4 : i < 256) (hn : ¬ κ 290 (mj s i) = 1) (ha : kal κ t k) (hne : ¬ (t = 15 ∧ k = s.toNat)) : kc G (kB B 2 (mj s i) a) (kNs κ (mj s i) r1 r2 c) t k = kc G B κ t k := by
  have o : ∀ f q, (f < 200 ∨ 211 < f) → f ≠ 290 → kNs κ (mj s i) r1 r2 c f q = κ f q := fun f q h1 h2 => kNs_o (by omega)
  have bt : ∀ t x, t ≠ 2 → kB B 2 (mj s i) a t x = B t x := fun t x ht => kB_o (fun z => ht z.1)
  have hK : mj s i = 256 * s.toNat + i.toNat := by unfold mj; omega
  unfold kc
  split
  · simp only [ko0, o 0 k (by decide) (by decide), o 1 k (by decide) (by decide), o 2 k (by decide) (by decide), o 3 k (by decide) (by decide), o 4 k (by decide) (by decide), o 5 k (by decide) (by decide), o 6 k (by decide) (by decide), o 7 k (by decide) (by decide), o 8 k (by decide) (by decide), o 9 k (by decide) (by decide), o 10 k (by decide) (by decide), krow, fun x => bt 17 x (by decide)]
  · simp only [ko1, o 100 k (by decide) (by decide), o 101 k (by decide) (by decide), o 102 k (by decide) (by decide), o 103 k (by decide) (by decide), o 104 k (by decide) (by decide), o 105 k (by decide) (by decide), o 106 k (by decide) (by decide), o 107 k (by decide) (by decide), o 108 k (by decide) (by decide), o 109 k (by decide) (by decide), o 110 k (by decide) (by decide), o 111 k (by decide) (by decide), o 112 k (by decide) (by decide), o 113 k (by decide) (by decide), fun x => bt 17 x (by decide)]
  · have hk : k ≠ mj s i := fun z => hn (by rw [← z]; exact ha)
    have e : ∀ f, kNs κ (mj s i) r1 r2 c f k = κ f k := fun f => kNs_o (fun z => hk z.1)
    simp only [ko2, e, bt 17 _ (by decide)]
  · simp only [ko3, o 306 k (by decide) (by decide), o 307 k (by decide) (by decide), o 308 k (by decide) (by decide), o 309 k (by decide) (by decide), o 310 k (by decide) (by decide), o 311 k (by decide) (by decide), o 312 k (by decide) (by decide), o 313 k (by decide) (by decide), o 314 k (by decide) (by decide), o 315 k (by decide) (by decide), bt 12 k (by decide), bt 13 k (by decide), bt 14 k (by decide), bt 15 k (by decide), bt 16 k (by decide)]
  · simp only [ko4, o 400 k (by decide) (by decide), o 401 k (by decide) (by decide), o 402 k (by decide) (by decide), o 403 k (by decide) (by decide), o 404 k (by decide) (by decide), o 405 k (by decide) (by decide)]
  · simp only [ko5, o 505 k (by decide) (by decide), o 506 k (by decide) (by decide), o 507 k (by decide) (by decide), bt 10 0 (by decide), bt 11 0 (by decide), bt 0 64 (by decide), bt 17 0 (by decide), bt 17 1 (by decide)]
  · simp only [fun q => bt 3 q (by decide)]
  · simp only [fun q => bt 0 q (by decide)]
  · simp only [fun q => o 360 q (by decide) (by decide)]
  · simp only [fun q => o 361 q (by decide) (by decide)]
  · simp only [fun q => bt 4 q (by decide)]
  · congr 3
    unfold mm_inr
    congr 4
    funext q
    by_cases e : q < 256
    · have hne2 : 256 * k + q ≠ mj s i := fun z => hne ⟨rfl, by omega⟩
      rw [kNs_o (fun z => hne2 z.1), kB_o (fun z => hne2 z.2)]
    · rw [if_neg (fun z => e z.2), if_neg (fun z => e z.2)]
  · simp only [fun q => o 190 q (by decide) (by decide), fun q => bt 1 q (by decide)]
  · simp only [o 600 k (by decide) (by decide), o 601 k (by decide) (by decide), fun q => o (1000 + k) q (by omega) (by omega)]
  · rfl
theorem kNs_V (hV : kV κ) {k : Nat} {r1 r2 c : Int} (q1 : 0 ≤ r1) (q2 : 0 ≤ r2) (c1 : 0 ≤ c) (c2 : c ≤ 4611686018427387903) : kV (kNs κ k r1 r2 c) := (((((((((((((hV.u (f := 200) (k := k) (v := 0) rfl (show (0 : Int) ≤ 0 ∧ (0 : Int) ≤ 4 from by omega)).pl (f := 201) (k := k) (v := r1) rfl (show (0 : Int) ≤ r1 from by omega)).pl (f := 202) (k := k) (v := r2) rfl (show (0 : Int) ≤ r2 from by omega)).u (f := 203) (k := k) (v := 0) rfl (show (0 : Int) ≤ 0 ∧ (0 : Int) ≤ 65536 from by omega)).u (f := 204) (k := k) (v := 0) rfl (show (0 : Int) ≤ 0 ∧ (0 : Int) ≤ 65536 from by omega)).u (f := 205) (k := k) (v := 0) rfl (show (0 : Int) ≤ 0 ∧ (0 : Int) ≤ 65536 from by omega)).u (f := 206) (k := k) (v := 0) rfl (show (0 : Int) ≤ 0 ∧ (0 : Int) ≤ 65536 from by omega)).u (f := 207) (k := k) (v := 0) rfl (show (0 : Int) ≤ 0 ∧ (0 : Int) ≤ 4 from by omega)).u (f := 208) (k := k) (v := c) rfl (show (0 : Int) ≤ c ∧ (c : Int) ≤ 4611686018427387903 from by omega)).u (f := 209) (k := k) (v := (-1)) rfl (show (-1 : Int) ≤ (-1) ∧ ((-1) : Int) ≤ 4611686018427387903 from by omega)).u (f := 210) (k := k) (v := 0) rfl (show (0 : Int) ≤ 0 ∧ (0 : Int) ≤ 4611686018427387903 from by omega)).u (f := 211) (k := k) (v := 0) rfl (show (0 : Int) ≤ 0 ∧ (0 : Int) ≤ 1 from by omega)).u (f := 290) (k := k) (v := 1) rfl (show (0 : Int) ≤ 1 ∧ (1 : Int) ≤ 1 from by omega))
theorem kNs_W (hW : kW κ) {k : Nat} {r1 r2 c : Int} (gr1 : r1 < κ 602 0) (gr2 : r2 < κ 602 0) : kW (kNs κ k r1 r2 c) := by
  have o : ∀ f q, (f < 200 ∨ 211 < f) → f ≠ 290 → kNs κ k r1 r2 c f q = κ f q := fun f q h1 h2 => kNs_o (by omega)
  have o602 := o 602 0 (by decide) (by decide)
  refine ⟨fun q hq => ?_, fun q hq => ?_, fun q => ?_⟩
  · rw [o602]
    by_cases e : q = k
    · subst e
      rw [kNs_201, kNs_202]
      exact ⟨gr1, gr2⟩
    · rw [kNs_o (fun z => e z.1)] at hq
      rw [kNs_o (fun z => e z.1), kNs_o (fun z => e z.1)]
      exact hW.1 q hq
  · rw [o 190 q (by decide) (by decide)] at hq
    rw [o 101 q (by decide) (by decide), o602]
    exact hW.2.1 q hq
  · rw [o 7 q (by decide) (by decide), o602]
    exact hW.2.2 q
theorem kNs_ex (hx : kx B bx κ) (hV : kV κ) (hW : kW κ) {s i r1 r2 c : Int} {a : Nat} (h1 : 0 ≤ s) (h2 : s ≤ 1) (h3 : 0 ≤ i) (h4 : i < 256) (hn : ¬ κ 290 (mj s i) = 1) (hb : bx a = none) (hz : h0 a = none) (q1 : 0 ≤ r1) (q2 : 0 ≤ r2) (c1 : 0 ≤ c) (c2 : c ≤ 4611686018427387903) (gr1 : r1 < κ 602 0) (gr2 : r2 < κ 602 0) :
    ∃ B' bx', va_up (hk G B bx (va_up h0 a (some (.inr (2, (kNs_l B r1 r2 c).map cv)))) κ) (B 15 s.toNat) (some (.inl (mm_dA G 7, 256, mm_inr (va_up (fun q => if κ 290 (256 * s.toNat + q) = 1 ∧ q < 256 then some (B 2 (256 * s.toNat + q)) else none) i.toNat (some a))))) = hk G B' bx' h0 (kNs κ (mj s i) r1 r2 c) ∧ kx B' bx' (kNs κ (mj s i) r1 r2 c) ∧ kV (kNs κ (mj s i) r1 r2 c) ∧ kaw h0 bx B κ bx' B' (kNs κ (mj s i) r1 r2 c) ∧ B' 2 (mj s i) = a := by
  have hK : mj s i = 256 * s.toNat + i.toNat := by unfold mj; omega
  have hnew : ∀ t k, kal κ t k → B t k ≠ a ∧ ¬ (t = 2 ∧ k = mj s i) := fun t k hk => ⟨fun z => (by have := hx.1 t k hk; rw [z, hb] at this; cases this), fun z => (by obtain ⟨rfl, rfl⟩ := z; exact hn hk)⟩
  have h15 : kal κ 15 s.toNat := (show s.toNat < 2 by omega)
  refine ⟨kB B 2 (mj s i) a, kbx bx a 2 (mj s i), ?_, ⟨fun t k hk => ?_, fun q t k e => ?_⟩, kNs_V hV q1 q2 c1 c2, ⟨fun t k hk => ⟨(kB_o (hnew t k hk).2).symm, kal_kNs.mpr (Or.inl hk)⟩, kNs_W hW gr1 gr2, fun q hq => if_neg (fun z => hq (by rw [z]; exact hz))⟩, kB_s⟩
  · funext q
    by_cases e : q = B 15 s.toNat
    · subst e
      rw [up_s]
      unfold hk kbx
      rw [if_neg (hnew _ _ h15).1, hx.1 _ _ h15]
      show _ = some (Sum.inl (mm_dA G 7, 256, mm_inr (fun q => if kNs κ (mj s i) r1 r2 c 290 (256 * s.toNat + q) = 1 ∧ q < 256 then some (kB B 2 (mj s i) a 2 (256 * s.toNat + q)) else none)))
      congr 5
      funext z
      by_cases ez : z = i.toNat
      · subst ez
        rw [up_s, ← hK, kNs_290, kB_s, if_pos ⟨rfl, by omega⟩]
      · rw [up_n ez]
        by_cases e2 : z < 256
        · have hne2 : 256 * s.toNat + z ≠ mj s i := by omega
          rw [kNs_o (fun w => hne2 w.1), kB_o (fun w => hne2 w.2)]
        · rw [if_neg (fun w => e2 w.2), if_neg (fun w => e2 w.2)]
    · rw [up_n e]
      by_cases ea : q = a
      · subst ea
        unfold hk kbx
        rw [if_pos rfl, hb]
        show va_up h0 q _ q = some (Sum.inr (2, (ko2 (kB B 2 (mj s i) q) (kNs κ (mj s i) r1 r2 c) (mj s i)).map cv))
        rw [up_s, kNs_ko]
        rfl
      · unfold hk kbx
        rw [if_neg ea]
        cases hq : bx q with
        | none => exact up_n ea
        | some w =>
          obtain ⟨t, k⟩ := w
          dsimp only
          have w2 := hx.2 q t k hq
          rw [kc_kNs h1 h3 h4 hn w2.2 (fun z => e (by rw [w2.1, z.1, z.2]))]
  · rcases kal_kNs.mp hk with z | z
    · rw [kB_o (hnew t k z).2]
      unfold kbx
      rw [if_neg (hnew t k z).1]
      exact hx.1 t k z
    · obtain ⟨rfl, rfl⟩ := z
      rw [kB_s]
      exact if_pos rfl
  · unfold kbx at e
    split at e
    · rename_i z
      obtain ⟨rfl, rfl⟩ := Prod.mk.inj (Option.some.inj e)
      exact ⟨by rw [z, kB_s], kal_kNs.mpr (Or.inr ⟨rfl, rfl⟩)⟩
    · have w := hx.2 q t k e
      exact ⟨by rw [kB_o (hnew t k w.2).2]; exact w.1, kal_kNs.mpr (Or.inl w.2)⟩
def kNq (κ : Nat → Nat → Int) (k : Nat) (r1 c : Int) : Nat → Nat → Int := u2 (u2 (u2 (u2 (u2 (u2 (u2 (u2 (u2 (u2 (u2 (u2 (u2 (u2 (u2 κ 100 k 0) 101 k r1) 102 k 0) 103 k 0) 104 k 0) 105 k (-1)) 106 k c) 107 k c) 108 k 0) 109 k 0) 110 k 0) 111 k 0) 112 k 0) 113 k 0) 190 k 1
theorem kNq_o {k f k' : Nat} {r1 c : Int} (h : ¬ (k' = k ∧ ((100 ≤ f ∧ f ≤ 113) ∨ f = 190))) : kNq κ k r1 c f k' = κ f k' := by
  unfold kNq
  rw [u2_n (by omega), u2_n (by omega), u2_n (by omega), u2_n (by omega), u2_n (by omega), u2_n (by omega), u2_n (by omega), u2_n (by omega), u2_n (by omega), u2_n (by omega), u2_n (by omega), u2_n (by omega), u2_n (by omega), u2_n (by omega), u2_n (by omega)]
theorem kNq_100 {k : Nat} {r1 c : Int} : kNq κ k r1 c 100 k = 0 := by
  unfold kNq
  rw [u2_n (by omega), u2_n (by omega), u2_n (by omega), u2_n (by omega), u2_n (by omega), u2_n (by omega), u2_n (by omega), u2_n (by omega), u2_n (by omega), u2_n (by omega), u2_n (by omega), u2_n (by omega), u2_n (by omega), u2_n (by omega), u2_s]
theorem kNq_101 {k : Nat} {r1 c : Int} : kNq κ k r1 c 101 k = r1 := by
  unfold kNq
  rw [u2_n (by omega), u2_n (by omega), u2_n (by omega), u2_n (by omega), u2_n (by omega), u2_n (by omega), u2_n (by omega), u2_n (by omega), u2_n (by omega), u2_n (by omega), u2_n (by omega), u2_n (by omega), u2_n (by omega), u2_s]
theorem kNq_102 {k : Nat} {r1 c : Int} : kNq κ k r1 c 102 k = 0 := by
  unfold kNq
  rw [u2_n (by omega), u2_n (by omega), u2_n (by omega), u2_n (by omega), u2_n (by omega), u2_n (by omega), u2_n (by omega), u2_n (by omega), u2_n (by omega), u2_n (by omega), u2_n (by omega), u2_n (by omega), u2_s]
theorem kNq_103 {k : Nat} {r1 c : Int} : kNq κ k r1 c 103 k = 0 := by
  unfold kNq
  rw [u2_n (by omega), u2_n (by omega), u2_n (by omega), u2_n (by omega), u2_n (by omega), u2_n (by omega), u2_n (by omega), u2_n (by omega), u2_n (by omega), u2_n (by omega), u2_n (by omega), u2_s]
theorem kNq_104 {k : Nat} {r1 c : Int} : kNq κ k r1 c 104 k = 0 := by
  unfold kNq
  rw [u2_n (by omega), u2_n (by omega), u2_n (by omega), u2_n (by omega), u2_n (by omega), u2_n (by omega), u2_n (by omega), u2_n (by omega), u2_n (by omega), u2_n (by omega), u2_s]
theorem kNq_105 {k : Nat} {r1 c : Int} : kNq κ k r1 c 105 k = -1 := by
  unfold kNq
  rw [u2_n (by omega), u2_n (by omega), u2_n (by omega), u2_n (by omega), u2_n (by omega), u2_n (by omega), u2_n (by omega), u2_n (by omega), u2_n (by omega), u2_s]
theorem kNq_106 {k : Nat} {r1 c : Int} : kNq κ k r1 c 106 k = c := by
  unfold kNq
  rw [u2_n (by omega), u2_n (by omega), u2_n (by omega), u2_n (by omega), u2_n (by omega), u2_n (by omega), u2_n (by omega), u2_n (by omega), u2_s]
theorem kNq_107 {k : Nat} {r1 c : Int} : kNq κ k r1 c 107 k = c := by
  unfold kNq
  rw [u2_n (by omega), u2_n (by omega), u2_n (by omega), u2_n (by omega), u2_n (by omega), u2_n (by omega), u2_n (by omega), u2_s]
theorem kNq_108 {k : Nat} {r1 c : Int} : kNq κ k r1 c 108 k = 0 := by
  unfold kNq
  rw [u2_n (by omega), u2_n (by omega), u2_n (by omega), u2_n (by omega), u2_n (by omega), u2_n (by omega), u2_s]
theorem kNq_109 {k : Nat} {r1 c : Int} : kNq κ k r1 c 109 k = 0 := by
  unfold kNq
  rw [u2_n (by omega), u2_n (by omega), u2_n (by omega), u2_n (by omega), u2_n (by omega), u2_s]
theorem kNq_110 {k : Nat} {r1 c : Int} : kNq κ k r1 c 110 k = 0 := by
  unfold kNq
  rw [u2_n (by omega), u2_n (by omega), u2_n (by omega), u2_n (by omega), u2_s]
theorem kNq_111 {k : Nat} {r1 c : Int} : kNq κ k r1 c 111 k = 0 := by
  unfold kNq
  rw [u2_n (by omega), u2_n (by omega), u2_n (by omega), u2_s]
theorem kNq_112 {k : Nat} {r1 c : Int} : kNq κ k r1 c 112 k = 0 := by
  unfold kNq
  rw [u2_n (by omega), u2_n (by omega), u2_s]
theorem kNq_113 {k : Nat} {r1 c : Int} : kNq κ k r1 c 113 k = 0 := by
  unfold kNq
  rw [u2_n (by omega), u2_s]
theorem kNq_190 {k : Nat} {r1 c : Int} : kNq κ k r1 c 190 k = 1 := by
  unfold kNq
  rw [u2_s]
def kNq_l (B : Nat → Nat → Nat) (r1 c : Int) : List AV := [aI 0, aR (B 17 r1.toNat), aI 0, aI 0, aI 0, aI (-1), aI c, aI c, aI 0, aI 0, aI 0, aL 0, aL 0, aI 0]
theorem kNq_ko {k : Nat} {r1 c : Int} : ko1 B (kNq κ k r1 c) k = kNq_l B r1 c := by
  unfold kNq_l
  simp only [ko1, kNq_100, kNq_101, kNq_102, kNq_103, kNq_104, kNq_105, kNq_106, kNq_107, kNq_108, kNq_109, kNq_110, kNq_111, kNq_112, kNq_113]
theorem kal_kNq {t k k' : Nat} {r1 c : Int} : kal (kNq κ k' r1 c) t k ↔ kal κ t k ∨ (t = 1 ∧ k = k') := by
  have o : ∀ f q, (f < 100 ∨ 113 < f) → f ≠ 190 → kNq κ k' r1 c f q = κ f q := fun f q h1 h2 => kNq_o (by omega)
  unfold kal
  split
  · constructor; (· exact Or.inl); (· rintro (h | h); exact h; exact absurd h.1 (by decide))
  · constructor
    · intro h
      by_cases e : k = k'
      · exact Or.inr ⟨rfl, e⟩
      · exact Or.inl (by rw [kNq_o (by omega)] at h; exact h)
    · rintro (h | h)
      · by_cases e : k = k'
        · rw [e]; exact kNq_190
        · rw [kNq_o (by omega)]; exact h
      · rw [h.2]; exact kNq_190
  · rw [o 290 k (by decide) (by decide)]; constructor; (· exact Or.inl); (· rintro (h | h); exact h; exact absurd h.1 (by decide))
  · constructor; (· exact Or.inl); (· rintro (h | h); exact h; exact absurd h.1 (by decide))
  · constructor; (· exact Or.inl); (· rintro (h | h); exact h; exact absurd h.1 (by decide))
  · constructor; (· exact Or.inl); (· rintro (h | h); exact h; exact absurd h.1 (by decide))
  · constructor; (· exact Or.inl); (· rintro (h | h); exact h; exact absurd h.1 (by decide))
  · constructor; (· exact Or.inl); (· rintro (h | h); exact h; exact absurd h.1 (by decide))
  · constructor; (· exact Or.inl); (· rintro (h | h); exact h; exact absurd h.1 (by decide))
  · constructor; (· exact Or.inl); (· rintro (h | h); exact h; exact absurd h.1 (by decide))
  · constructor; (· exact Or.inl); (· rintro (h | h); exact h; exact absurd h.1 (by decide))
  · constructor; (· exact Or.inl); (· rintro (h | h); exact h; exact absurd h.1 (by decide))
  · constructor; (· exact Or.inl); (· rintro (h | h); exact h; exact absurd h.1 (by decide))
  · rw [o 602 0 (by decide) (by decide)]; constructor; (· exact Or.inl); (· rintro (h | h); exact h; exact absurd h.1 (by decide))
  · rename_i hn1 hn2 hn3 hn4 hn5 hn6 hn7 hn8 hn9 hn10 hn11 hn12 hn13 hn14; constructor; (· exact Or.inl); (· rintro (h | h); exact h; exact absurd h.1 hn2)
theorem kc_kNq {t k a : Nat} {s i r1 c : Int} (h1 : 0 ≤ s) (h3 : 0 ≤ i) (h4 : i < 256) (hn : ¬ κ 190 (mj s i) = 1) (ha : kal κ t k) (hne : ¬ (t = 16 ∧ k = s.toNat)) : kc G (kB B 1 (mj s i) a) (kNq κ (mj s i) r1 c) t k = kc G B κ t k := by
  have o : ∀ f q, (f < 100 ∨ 113 < f) → f ≠ 190 → kNq κ (mj s i) r1 c f q = κ f q := fun f q h1 h2 => kNq_o (by omega)
  have bt : ∀ t x, t ≠ 1 → kB B 1 (mj s i) a t x = B t x := fun t x ht => kB_o (fun z => ht z.1)
  have hK : mj s i = 256 * s.toNat + i.toNat := by unfold mj; omega
  unfold kc
  split
  · simp only [ko0, o 0 k (by decide) (by decide), o 1 k (by decide) (by decide), o 2 k (by decide) (by decide), o 3 k (by decide) (by decide), o 4 k (by decide) (by decide), o 5 k (by decide) (by decide), o 6 k (by decide) (by decide), o 7 k (by decide) (by decide), o 8 k (by decide) (by decide), o 9 k (by decide) (by decide), o 10 k (by decide) (by decide), krow, fun x => bt 17 x (by decide)]
  · have hk : k ≠ mj s i := fun z => hn (by rw [← z]; exact ha)
    have e : ∀ f, kNq κ (mj s i) r1 c f k = κ f k := fun f => kNq_o (fun z => hk z.1)
    simp only [ko1, e, bt 17 _ (by decide)]
  · simp only [ko2, o 200 k (by decide) (by decide), o 201 k (by decide) (by decide), o 202 k (by decide) (by decide), o 203 k (by decide) (by decide), o 204 k (by decide) (by decide), o 205 k (by decide) (by decide), o 206 k (by decide) (by decide), o 207 k (by decide) (by decide), o 208 k (by decide) (by decide), o 209 k (by decide) (by decide), o 210 k (by decide) (by decide), o 211 k (by decide) (by decide), fun x => bt 17 x (by decide)]
  · simp only [ko3, o 306 k (by decide) (by decide), o 307 k (by decide) (by decide), o 308 k (by decide) (by decide), o 309 k (by decide) (by decide), o 310 k (by decide) (by decide), o 311 k (by decide) (by decide), o 312 k (by decide) (by decide), o 313 k (by decide) (by decide), o 314 k (by decide) (by decide), o 315 k (by decide) (by decide), bt 12 k (by decide), bt 13 k (by decide), bt 14 k (by decide), bt 15 k (by decide), bt 16 k (by decide)]
  · simp only [ko4, o 400 k (by decide) (by decide), o 401 k (by decide) (by decide), o 402 k (by decide) (by decide), o 403 k (by decide) (by decide), o 404 k (by decide) (by decide), o 405 k (by decide) (by decide)]
  · simp only [ko5, o 505 k (by decide) (by decide), o 506 k (by decide) (by decide), o 507 k (by decide) (by decide), bt 10 0 (by decide), bt 11 0 (by decide), bt 0 64 (by decide), bt 17 0 (by decide), bt 17 1 (by decide)]
  · simp only [fun q => bt 3 q (by decide)]
  · simp only [fun q => bt 0 q (by decide)]
  · simp only [fun q => o 360 q (by decide) (by decide)]
  · simp only [fun q => o 361 q (by decide) (by decide)]
  · simp only [fun q => bt 4 q (by decide)]
  · simp only [fun q => o 290 q (by decide) (by decide), fun q => bt 2 q (by decide)]
  · congr 3
    unfold mm_inr
    congr 4
    funext q
    by_cases e : q < 256
    · have hne2 : 256 * k + q ≠ mj s i := fun z => hne ⟨rfl, by omega⟩
      rw [kNq_o (fun z => hne2 z.1), kB_o (fun z => hne2 z.2)]
    · rw [if_neg (fun z => e z.2), if_neg (fun z => e z.2)]
  · simp only [o 600 k (by decide) (by decide), o 601 k (by decide) (by decide), fun q => o (1000 + k) q (by omega) (by omega)]
  · rfl
theorem kNq_V (hV : kV κ) {k : Nat} {r1 c : Int} (q1 : 0 ≤ r1) (c1 : 0 ≤ c) (c2 : c ≤ 65536) : kV (kNq κ k r1 c) := (((((((((((((((hV.u (f := 100) (k := k) (v := 0) rfl (show (0 : Int) ≤ 0 ∧ (0 : Int) ≤ 4 from by omega)).pl (f := 101) (k := k) (v := r1) rfl (show (0 : Int) ≤ r1 from by omega)).u (f := 102) (k := k) (v := 0) rfl (show (0 : Int) ≤ 0 ∧ (0 : Int) ≤ 65536 from by omega)).u (f := 103) (k := k) (v := 0) rfl (show (0 : Int) ≤ 0 ∧ (0 : Int) ≤ 65536 from by omega)).u (f := 104) (k := k) (v := 0) rfl (show (0 : Int) ≤ 0 ∧ (0 : Int) ≤ 65536 from by omega)).u (f := 105) (k := k) (v := (-1)) rfl (show (-1 : Int) ≤ (-1) ∧ ((-1) : Int) ≤ 65536 from by omega)).u (f := 106) (k := k) (v := c) rfl (show (0 : Int) ≤ c ∧ (c : Int) ≤ 65536 from by omega)).u (f := 107) (k := k) (v := c) rfl (show (0 : Int) ≤ c ∧ (c : Int) ≤ 65536 from by omega)).u (f := 108) (k := k) (v := 0) rfl (show (0 : Int) ≤ 0 ∧ (0 : Int) ≤ 1 from by omega)).u (f := 109) (k := k) (v := 0) rfl (show (0 : Int) ≤ 0 ∧ (0 : Int) ≤ 1 from by omega)).u (f := 110) (k := k) (v := 0) rfl (show (0 : Int) ≤ 0 ∧ (0 : Int) ≤ 1 from by omega)).u (f := 111) (k := k) (v := 0) rfl (show (0 : Int) ≤ 0 ∧ (0 : Int) ≤ 4611686018427387903 from by omega)).u (f := 112) (k := k) (v := 0) rfl (show (0 : Int) ≤ 0 ∧ (0 : Int) ≤ 4611686018427387903 from by omega)).u (f := 113) (k := k) (v := 0) rfl (show (0 : Int) ≤ 0 ∧ (0 : Int) ≤ 1 from by omega)).u (f := 190) (k := k) (v := 1) rfl (show (0 : Int) ≤ 1 ∧ (1 : Int) ≤ 1 from by omega))
theorem kNq_W (hW : kW κ) {k : Nat} {r1 c : Int} (gr1 : r1 < κ 602 0) : kW (kNq κ k r1 c) := by
  have o : ∀ f q, (f < 100 ∨ 113 < f) → f ≠ 190 → kNq κ k r1 c f q = κ f q := fun f q h1 h2 => kNq_o (by omega)
  have o602 := o 602 0 (by decide) (by decide)
  refine ⟨fun q hq => ?_, fun q hq => ?_, fun q => ?_⟩
  · rw [o 290 q (by decide) (by decide)] at hq
    rw [o 201 q (by decide) (by decide), o 202 q (by decide) (by decide), o602]
    exact hW.1 q hq
  · rw [o602]
    by_cases e : q = k
    · subst e
      rw [kNq_101]
      exact gr1
    · rw [kNq_o (fun z => e z.1)] at hq
      rw [kNq_o (fun z => e z.1)]
      exact hW.2.1 q hq
  · rw [o 7 q (by decide) (by decide), o602]
    exact hW.2.2 q
theorem kNq_ex (hx : kx B bx κ) (hV : kV κ) (hW : kW κ) {s i r1 c : Int} {a : Nat} (h1 : 0 ≤ s) (h2 : s ≤ 1) (h3 : 0 ≤ i) (h4 : i < 256) (hn : ¬ κ 190 (mj s i) = 1) (hb : bx a = none) (hz : h0 a = none) (q1 : 0 ≤ r1) (c1 : 0 ≤ c) (c2 : c ≤ 65536) (gr1 : r1 < κ 602 0) :
    ∃ B' bx', va_up (hk G B bx (va_up h0 a (some (.inr (1, (kNq_l B r1 c).map cv)))) κ) (B 16 s.toNat) (some (.inl (mm_dA G 6, 256, mm_inr (va_up (fun q => if κ 190 (256 * s.toNat + q) = 1 ∧ q < 256 then some (B 1 (256 * s.toNat + q)) else none) i.toNat (some a))))) = hk G B' bx' h0 (kNq κ (mj s i) r1 c) ∧ kx B' bx' (kNq κ (mj s i) r1 c) ∧ kV (kNq κ (mj s i) r1 c) ∧ kaw h0 bx B κ bx' B' (kNq κ (mj s i) r1 c) ∧ B' 1 (mj s i) = a := by
  have hK : mj s i = 256 * s.toNat + i.toNat := by unfold mj; omega
  have hnew : ∀ t k, kal κ t k → B t k ≠ a ∧ ¬ (t = 1 ∧ k = mj s i) := fun t k hk => ⟨fun z => (by have := hx.1 t k hk; rw [z, hb] at this; cases this), fun z => (by obtain ⟨rfl, rfl⟩ := z; exact hn hk)⟩
  have h15 : kal κ 16 s.toNat := (show s.toNat < 2 by omega)
  refine ⟨kB B 1 (mj s i) a, kbx bx a 1 (mj s i), ?_, ⟨fun t k hk => ?_, fun q t k e => ?_⟩, kNq_V hV q1 c1 c2, ⟨fun t k hk => ⟨(kB_o (hnew t k hk).2).symm, kal_kNq.mpr (Or.inl hk)⟩, kNq_W hW gr1, fun q hq => if_neg (fun z => hq (by rw [z]; exact hz))⟩, kB_s⟩
  · funext q
    by_cases e : q = B 16 s.toNat
    · subst e
      rw [up_s]
      unfold hk kbx
      rw [if_neg (hnew _ _ h15).1, hx.1 _ _ h15]
      show _ = some (Sum.inl (mm_dA G 6, 256, mm_inr (fun q => if kNq κ (mj s i) r1 c 190 (256 * s.toNat + q) = 1 ∧ q < 256 then some (kB B 1 (mj s i) a 1 (256 * s.toNat + q)) else none)))
      congr 5
      funext z
      by_cases ez : z = i.toNat
      · subst ez
        rw [up_s, ← hK, kNq_190, kB_s, if_pos ⟨rfl, by omega⟩]
      · rw [up_n ez]
        by_cases e2 : z < 256
        · have hne2 : 256 * s.toNat + z ≠ mj s i := by omega
          rw [kNq_o (fun w => hne2 w.1), kB_o (fun w => hne2 w.2)]
        · rw [if_neg (fun w => e2 w.2), if_neg (fun w => e2 w.2)]
    · rw [up_n e]
      by_cases ea : q = a
      · subst ea
        unfold hk kbx
        rw [if_pos rfl, hb]
        show va_up h0 q _ q = some (Sum.inr (1, (ko1 (kB B 1 (mj s i) q) (kNq κ (mj s i) r1 c) (mj s i)).map cv))
        rw [up_s, kNq_ko]
        rfl
      · unfold hk kbx
        rw [if_neg ea]
        cases hq : bx q with
        | none => exact up_n ea
        | some w =>
          obtain ⟨t, k⟩ := w
          dsimp only
          have w2 := hx.2 q t k hq
          rw [kc_kNq h1 h3 h4 hn w2.2 (fun z => e (by rw [w2.1, z.1, z.2]))]
  · rcases kal_kNq.mp hk with z | z
    · rw [kB_o (hnew t k z).2]
      unfold kbx
      rw [if_neg (hnew t k z).1]
      exact hx.1 t k z
    · obtain ⟨rfl, rfl⟩ := z
      rw [kB_s]
      exact if_pos rfl
  · unfold kbx at e
    split at e
    · rename_i z
      obtain ⟨rfl, rfl⟩ := Prod.mk.inj (Option.some.inj e)
      exact ⟨by rw [z, kB_s], kal_kNq.mpr (Or.inr ⟨rfl, rfl⟩)⟩
    · have w := hx.2 q t k e
      exact ⟨by rw [kB_o (hnew t k w.2).2]; exact w.1, kal_kNq.mpr (Or.inl w.2)⟩
end KP
