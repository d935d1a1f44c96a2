section KN
variable {L : Launch} {G : mmG} {B B' B'' : Nat → Nat → Nat} {bx bx' bx'' : Nat → Option (Nat × Nat)} {h0 : mmH} {κ κ' κ'' : Nat → Nat → Int}
/-- rows that are spoken of are there -/
def kW (κ : Nat → Nat → Int) : Prop := (∀ k, κ 290 k = 1 → κ 201 k < κ 602 0 ∧ κ 202 k < κ 602 0) ∧ (∀ k, κ 190 k = 1 → κ 101 k < κ 602 0) ∧ ∀ k, κ 7 k < κ 602 0
/-- addresses stay as they are; rows that are spoken of are there; nothing of the rest is taken -/
def kaw (h0 : mmH) (bx : Nat → Option (Nat × Nat)) (B : Nat → Nat → Nat) (κ : Nat → Nat → Int) (bx' : Nat → Option (Nat × Nat)) (B' : Nat → Nat → Nat) (κ' : Nat → Nat → Int) : Prop := kag B κ B' κ' ∧ kW κ' ∧ ∀ q, h0 q ≠ none → bx' q = bx q
theorem kW_cg (e : ∀ f, [7, 101, 190, 201, 202, 290, 602].elem f = true → ∀ k, κ' f k = κ'' f k) (h : kW κ') : kW κ'' := by
  have e1 := e 201 rfl
  have e2 := e 202 rfl
  have e3 := e 602 rfl
  have e4 := e 290 rfl
  have e5 := e 101 rfl
  have e6 := e 190 rfl
  have e7 := e 7 rfl
  refine ⟨fun k hk => ?_, fun k hk => ?_, fun k => ?_⟩
  · rw [← e1, ← e2, ← e3]; exact h.1 k ((e4 k).trans hk)
  · rw [← e5, ← e3]; exact h.2.1 k ((e6 k).trans hk)
  · rw [← e7, ← e3]; exact h.2.2 k
theorem kaw_refl (h : kW κ) : kaw h0 bx B κ bx B κ := ⟨kag_refl, h, fun _ _ => rfl⟩
theorem kaw_trans (h : kaw h0 bx B κ bx' B' κ') (h' : kaw h0 bx' B' κ' bx'' B'' κ'') : kaw h0 bx B κ bx'' B'' κ'' := ⟨kag_trans h.1 h'.1, h'.2.1, fun q hq => (h'.2.2 q hq).trans (h.2.2 q hq)⟩
theorem kaw_h {h0' : mmH} (e : ∀ q, h0 q ≠ none → h0' q ≠ none) (h : kaw h0' bx B κ bx' B' κ') : kaw h0 bx B κ bx' B' κ' := ⟨h.1, h.2.1, fun q hq => h.2.2 q (e q hq)⟩
theorem kaw_f {a : Nat} {o : va_E} (h : kaw (va_up h0 a (some o)) bx B κ bx' B' κ') : kaw h0 bx B κ bx' B' κ' := kaw_h (fun q hq => (by unfold va_up; split; (· exact fun z => nomatch z); exact hq)) h
theorem kaw_cg (e : ∀ f, [7, 101, 190, 201, 202, 290, 602].elem f = true → ∀ k, κ' f k = κ'' f k) (h : kaw h0 bx B κ bx' B' κ') : kaw h0 bx B κ bx' B' κ'' :=
  ⟨kag_cg (fun f hf => e f (by simp only [List.elem_eq_mem, decide_eq_true_eq, List.mem_cons, List.not_mem_nil, or_false] at hf ⊢; omega)) h.1, kW_cg e h.2.1, h.2.2⟩
theorem kaw_u {f k : Nat} {v : Int} (hf : [7, 101, 190, 201, 202, 290, 602].elem f = false) (h : kaw h0 bx B κ bx' B' κ') : kaw h0 bx B κ bx' B' (u2 κ' f k v) := kaw_cg (fun g hg q => (u2_f (by rintro rfl; rw [hg] at hf; cases hf)).symm) h
theorem kaw_w {r k : Nat} {v : Int} (h : kaw h0 bx B κ bx' B' κ') : kaw h0 bx B κ bx' B' (u2 κ' (1000 + r) k v) := kaw_cg (fun g hg q => (u2_f (by simp only [List.elem_eq_mem, decide_eq_true_eq, List.mem_cons, List.not_mem_nil, or_false] at hg; omega)).symm) h
theorem kaw_wf {r : Nat} {w : Nat → Int} (h : kaw h0 bx B κ bx' B' κ') : kaw h0 bx B κ bx' B' (uf κ' (1000 + r) w) := kaw_cg (fun g hg q => (uf_f (by simp only [List.elem_eq_mem, decide_eq_true_eq, List.mem_cons, List.not_mem_nil, or_false] at hg; omega)).symm) h
theorem kaw_r {f k : Nat} {v : Int} (hf : f = 7 ∨ f = 101 ∨ f = 201 ∨ f = 202) (hv : v < κ' 602 0) (h : kaw h0 bx B κ bx' B' κ') : kaw h0 bx B κ bx' B' (u2 κ' f k v) := by
  refine ⟨kag_u (by rcases hf with rfl | rfl | rfl | rfl <;> rfl) h.1, ?_, h.2.2⟩
  have n : ∀ g, g = 190 ∨ g = 290 ∨ g = 602 → ∀ q, u2 κ' f k v g q = κ' g q := fun g hg q => u2_f (by omega)
  have c : ∀ g q, κ' g q < κ' 602 0 → u2 κ' f k v g q < κ' 602 0 := fun g q hq => by
    unfold u2
    split
    · exact hv
    · exact hq
  have hW := h.2.1
  refine ⟨fun q hq => ?_, fun q hq => ?_, fun q => ?_⟩
  · rw [n 290 (by omega)] at hq
    rw [n 602 (by omega)]
    exact ⟨c _ _ (hW.1 q hq).1, c _ _ (hW.1 q hq).2⟩
  · rw [n 190 (by omega)] at hq
    rw [n 602 (by omega)]
    exact c _ _ (hW.2.1 q hq)
  · rw [n 602 (by omega)]
    exact c _ _ (hW.2.2 q)
def mRetW (G : mmG) (bx : Nat → Option (Nat × Nat)) (B : Nat → Nat → Nat) (h0 : mmH) (κ : Nat → Nat → Int) (v : Option Value) (S : Nat → Nat → Int) (P : Prop) : Option Value → mmH → Prop := fun r h => r = v ∧ ∃ B' bx', h = hk G B' bx' h0 S ∧ kx B' bx' S ∧ kV S ∧ kaw h0 bx B κ bx' B' S ∧ P
theorem mkiw {r : Option AV} {S : Nat → Nat → Int} {P : Prop} {Q : Option AV → mmH → Prop} (k : ∀ B' bx', kx B' bx' S → kV S → kaw h0 bx B κ bx' B' S → P → Q r (hk G B' bx' h0 S)) : ∀ v h1, mRetW G bx B h0 κ (r.map cv) S P v h1 → ∃ r', v = r'.map cv ∧ Q r' h1 := by
  rintro _ _ ⟨rfl, B', bx', rfl, a, b, c, d⟩
  exact ⟨r, rfl, k B' bx' a b c d⟩
theorem kRetIW {v v' : Int} {S : Nat → Nat → Int} {P : Prop} (e : v' = v) (e2 : S = κ') (hx : kx B' bx' κ') (hv : kV κ') (hA : kaw h0 bx B κ bx' B' κ') (hp : P) : mRetW G bx B h0 κ (some (.int (iI v'))) S P (some (.int (iI v))) (hk G B' bx' h0 κ') := by
  subst e e2
  exact ⟨rfl, B', bx', rfl, hx, hv, hA, hp⟩
theorem kRetVW {S : Nat → Nat → Int} {P : Prop} (e2 : S = κ') (hx : kx B' bx' κ') (hv : kV κ') (hA : kaw h0 bx B κ bx' B' κ') (hp : P) : mRetW G bx B h0 κ none S P none (hk G B' bx' h0 κ') := by
  subst e2
  exact ⟨rfl, B', bx', rfl, hx, hv, hA, hp⟩
/-! new cells -/
def kB (B : Nat → Nat → Nat) (t0 k0 a : Nat) : Nat → Nat → Nat := fun t k => if t = t0 ∧ k = k0 then a else B t k
def kbx (bx : Nat → Option (Nat × Nat)) (a t0 k0 : Nat) : Nat → Option (Nat × Nat) := fun q => if q = a then some (t0, k0) else bx q
theorem kB_s {t k a : Nat} : kB B t k a t k = a := if_pos ⟨rfl, rfl⟩
theorem kB_o {t0 k0 a t k : Nat} (h : ¬ (t = t0 ∧ k = k0)) : kB B t0 k0 a t k = B t k := if_neg h
def kNr (κ : Nat → Nat → Int) (c : Nat) (n : Int) : Nat → Nat → Int := u2 (u2 (u2 (uf κ (1000 + (κ 602 0).toNat) (fun _ => 0)) 600 (κ 602 0).toNat n) 601 (κ 602 0).toNat (c : Int)) 602 0 (κ 602 0 + 1)
theorem kNr_o {c f k : Nat} {n : Int} (h : f < 600) : kNr κ c n f k = κ f k := by
  unfold kNr
  rw [u2_f (by omega), u2_f (by omega), u2_f (by omega), uf_f (by omega)]
theorem kNr_602 {c : Nat} {n : Int} : kNr κ c n 602 0 = κ 602 0 + 1 := u2_s _ _ _ _
theorem kNr_600 {c k : Nat} {n : Int} : kNr κ c n 600 k = if k = (κ 602 0).toNat then n else κ 600 k := by
  unfold kNr
  rw [u2_f (by decide), u2_f (by decide), u2_g, uf_f (by omega)]
theorem kNr_601 {c k : Nat} {n : Int} : kNr κ c n 601 k = if k = (κ 602 0).toNat then (c : Int) else κ 601 k := by
  unfold kNr
  rw [u2_f (by decide), u2_g, u2_f (by decide), uf_f (by omega)]
theorem kNr_w {c r k : Nat} {n : Int} : kNr κ c n (1000 + r) k = if r = (κ 602 0).toNat then 0 else κ (1000 + r) k := by
  unfold kNr
  rw [u2_f (by omega), u2_f (by omega), u2_f (by omega)]
  by_cases e : r = (κ 602 0).toNat
  · rw [if_pos e, e, uf_s]
  · rw [if_neg e, uf_f (by omega)]
theorem kc_nr (h2 : 2 ≤ κ 602 0) (hW : kW κ) {c t k a : Nat} {n : Int} (ha : kal κ t k) : kc G (kB B 17 (κ 602 0).toNat a) (kNr κ c n) t k = kc G B κ t k := by
  have e : ∀ f x, f < 600 → kNr κ c n f x = κ f x := fun f x hf => kNr_o hf
  have b : ∀ x, x ≠ (κ 602 0).toNat → kB B 17 (κ 602 0).toNat a 17 x = B 17 x := fun x hx => kB_o (fun z => hx z.2)
  have bt : ∀ t x, t ≠ 17 → kB B 17 (κ 602 0).toNat a t x = B t x := fun t x ht => kB_o (fun z => ht z.1)
  unfold kc
  split
  · have hw := hW.2.2 k
    have kr : krow (kB B 17 (κ 602 0).toNat a) (κ 7 k) = krow B (κ 7 k) := by
      unfold krow
      by_cases z : κ 7 k < 0
      · rw [if_pos z, if_pos z]
      · rw [if_neg z, if_neg z, b _ (by omega)]
    simp only [ko0, e 0 k (by decide), e 1 k (by decide), e 2 k (by decide), e 3 k (by decide), e 4 k (by decide), e 5 k (by decide), e 6 k (by decide), e 7 k (by decide), e 8 k (by decide), e 9 k (by decide), e 10 k (by decide), kr]
  · have hw := hW.2.1 k ha
    simp only [ko1, e 100 k (by decide), e 101 k (by decide), e 102 k (by decide), e 103 k (by decide), e 104 k (by decide), e 105 k (by decide), e 106 k (by decide), e 107 k (by decide), e 108 k (by decide), e 109 k (by decide), e 110 k (by decide), e 111 k (by decide), e 112 k (by decide), e 113 k (by decide), b (κ 101 k).toNat (by omega)]
  · have hw := hW.1 k ha
    simp only [ko2, e 200 k (by decide), e 201 k (by decide), e 202 k (by decide), e 203 k (by decide), e 204 k (by decide), e 205 k (by decide), e 206 k (by decide), e 207 k (by decide), e 208 k (by decide), e 209 k (by decide), e 210 k (by decide), e 211 k (by decide), b (κ 201 k).toNat (by omega), b (κ 202 k).toNat (by omega)]
  · simp only [ko3, e 306 k (by decide), e 307 k (by decide), e 308 k (by decide), e 309 k (by decide), e 310 k (by decide), e 311 k (by decide), e 312 k (by decide), e 313 k (by decide), e 314 k (by decide), e 315 k (by decide), bt 12 k (by decide), bt 13 k (by decide), bt 14 k (by decide), bt 15 k (by decide), bt 16 k (by decide)]
  · simp only [ko4, e 400 k (by decide), e 401 k (by decide), e 402 k (by decide), e 403 k (by decide), e 404 k (by decide), e 405 k (by decide)]
  · simp only [ko5, e 505 k (by decide), e 506 k (by decide), e 507 k (by decide), bt 10 0 (by decide), bt 11 0 (by decide), bt 0 64 (by decide), b 0 (by omega), b 1 (by omega)]
  · simp only [fun q => bt 3 q (by decide)]
  · simp only [fun q => bt 0 q (by decide)]
  · simp only [fun q => e 360 q (by decide)]
  · simp only [fun q => e 361 q (by decide)]
  · simp only [fun q => bt 4 q (by decide)]
  · simp only [fun q => e 290 q (by decide), fun q => bt 2 q (by decide)]
  · simp only [fun q => e 190 q (by decide), fun q => bt 1 q (by decide)]
  · have hk : (k : Int) < κ 602 0 := ha
    simp only [kNr_600, kNr_601, kNr_w, if_neg (show ¬ k = (κ 602 0).toNat by omega)]
  · rfl
theorem kal_nr {c t k : Nat} {n : Int} (h2 : 2 ≤ κ 602 0) : kal (kNr κ c n) t k ↔ kal κ t k ∨ (t = 17 ∧ k = (κ 602 0).toNat) := by
  unfold kal
  split
  all_goals first
    | (rw [kNr_o (by decide)]; constructor; (· exact Or.inl); (· rintro (h | h); exact h; exact absurd h.1 (by decide)))
    | (rw [kNr_602]; constructor; (· intro h; by_cases e : k = (κ 602 0).toNat; exact Or.inr ⟨rfl, e⟩; exact Or.inl (by omega)); (· rintro (h | h); omega; omega))
    | (constructor; (· exact Or.inl); (· rintro (h | h); exact h; exact absurd h.1 (by decide)))
    | (rename_i hn1 hn2 hn3 hn4 hn5 hn6 hn7 hn8 hn9 hn10 hn11 hn12 hn13 hn14; constructor; (· exact Or.inl); (· rintro (h | h); exact h; exact absurd h.1 hn14))
theorem kNr_V (hV : kV κ) {c : Nat} (hc : c = 2 ∨ c = 3) {n : Int} (h1 : 0 ≤ n) (h2 : n ≤ 65536) : kV (kNr κ c n) := by
  have l602 : 2 ≤ κ 602 0 := hV.l 602 0
  refine ⟨fun f k => ?_, fun r k => ?_⟩
  · by_cases e1 : f < 600
    · rw [kNr_o e1]; exact hV.1 f k
    · by_cases e2 : f = 600
      · subst e2
        rw [kNr_600]
        split
        · exact ⟨h1, fun _ => h2⟩
        · exact hV.1 600 k
      · by_cases e3 : f = 601
        · subst e3
          rw [kNr_601]
          split
          · exact ⟨show (0 : Int) ≤ c by omega, fun _ => show (c : Int) ≤ 3 by omega⟩
          · exact hV.1 601 k
        · by_cases e4 : f = 602
          · subst e4
            by_cases e : k = 0
            · subst e
              rw [kNr_602]
              exact ⟨show (2 : Int) ≤ κ 602 0 + 1 by omega, fun z => absurd z (by decide)⟩
            · rw [show kNr κ c n 602 k = κ 602 k from by unfold kNr; rw [u2_k e, u2_f (show 602 ≠ 601 by decide), u2_f (show 602 ≠ 600 by decide), uf_f (by omega)]]
              exact hV.1 602 k
          · by_cases e5 : 1000 ≤ f
            · obtain ⟨r, rfl⟩ := Nat.le.dest e5
              rw [kNr_w]
              split
              · rw [klo_big, khi_big]; exact ⟨by decide, fun _ => by decide⟩
              · exact hV.1 _ k
            · unfold kNr
              rw [u2_f (by omega), u2_f (by omega), u2_f (by omega), uf_f (by omega)]
              exact hV.1 f k
  · rw [kNr_601, kNr_w]
    by_cases e : r = (κ 602 0).toNat
    · rw [if_pos e, if_pos e]; intro _; decide
    · rw [if_neg e, if_neg e]; exact hV.2 r k
theorem kNr_W (hW : kW κ) {c : Nat} {n : Int} : kW (kNr κ c n) := by
  refine ⟨fun k hk => ?_, fun k hk => ?_, fun k => ?_⟩
  · rw [kNr_o (f := 290) (by decide)] at hk
    rw [kNr_o (f := 201) (by decide), kNr_o (f := 202) (by decide), kNr_602]
    have := hW.1 k hk
    omega
  · rw [kNr_o (f := 190) (by decide)] at hk
    rw [kNr_o (f := 101) (by decide), kNr_602]
    have := hW.2.1 k hk
    omega
  · rw [kNr_o (f := 7) (by decide), kNr_602]
    have := hW.2.2 k
    omega
theorem hk_no {a : Nat} (h : hk G B bx h0 κ a = none) : bx a = none := by
  unfold hk at h
  cases e : bx a with
  | none => rfl
  | some q => rw [e] at h; cases h
theorem hk_no2 {a : Nat} (h : hk G B bx h0 κ a = none) : h0 a = none := by
  have := hk_no h
  unfold hk at h
  rw [this] at h
  exact h
/-- a new row takes its place among the rows -/
theorem kNr_ex (hx : kx B bx κ) (hV : kV κ) (hW : kW κ) {c : Nat} (hc : c = 2 ∨ c = 3) {n : Int} (h1 : 0 ≤ n) (h2 : n ≤ 65536) {a : Nat} (ha : hk G B bx h0 κ a = none) :
    ∃ B' bx', va_up (hk G B bx h0 κ) a (some (.inl (mm_dA G c, mm_zero c n.toNat))) = hk G B' bx' h0 (kNr κ c n) ∧ kx B' bx' (kNr κ c n) ∧ kV (kNr κ c n) ∧ kaw h0 bx B κ bx' B' (kNr κ c n) ∧ B' 17 (κ 602 0).toNat = a ∧ ∀ q, q ≠ a → bx' q = bx q := by
  have l602 : 2 ≤ κ 602 0 := hV.l 602 0
  have hb := hk_no ha
  have hnew : ∀ t k, kal κ t k → B t k ≠ a ∧ ¬ (t = 17 ∧ k = (κ 602 0).toNat) := fun t k hk => ⟨fun z => (by have := hx.1 t k hk; rw [z, hb] at this; cases this), fun z => (by obtain ⟨rfl, rfl⟩ := z; have : (((κ 602 0).toNat : Nat) : Int) < κ 602 0 := hk; omega)⟩
  refine ⟨kB B 17 (κ 602 0).toNat a, kbx bx a 17 (κ 602 0).toNat, ?_, ⟨fun t k hk => ?_, fun q t k e => ?_⟩, kNr_V hV hc h1 h2, ⟨fun t k hk => ⟨(kB_o (hnew t k hk).2).symm, (kal_nr l602).mpr (Or.inl hk)⟩, kNr_W hW, fun q hq => if_neg (fun z => hq (by rw [z]; exact hk_no2 ha))⟩, kB_s, fun q hq => if_neg hq⟩
  · funext q
    by_cases e : q = a
    · subst e
      rw [up_s]
      unfold hk kbx
      rw [if_pos rfl]
      show _ = some (Sum.inl (mm_dA G (kNr κ c n 601 (κ 602 0).toNat).toNat, (kNr κ c n 600 (κ 602 0).toNat).toNat, Sum.inl (fun z => iI (kNr κ c n (1000 + (κ 602 0).toNat) z))))
      simp only [kNr_600, kNr_601, kNr_w, if_true]
      rcases hc with rfl | rfl <;> rfl
    · rw [up_n e]
      unfold hk kbx
      rw [if_neg e]
      cases hq : bx q with
      | none => rfl
      | some w =>
        obtain ⟨t, k⟩ := w
        dsimp only
        rw [kc_nr l602 hW (hx.2 q t k hq).2]
  · rcases (kal_nr l602).mp hk with z | z
    · rw [kB_o (hnew t k z).2]
      unfold kbx
      rw [if_neg (hnew t k z).1]
      exact hx.1 t k z
    · obtain ⟨rfl, rfl⟩ := z
      rw [kB_s]
      exact if_pos rfl
  · unfold kbx at e
    split at e
    · rename_i z
      obtain ⟨rfl, rfl⟩ := Prod.mk.inj (Option.some.inj e)
      exact ⟨by rw [z, kB_s], (kal_nr l602).mpr (Or.inr ⟨rfl, rfl⟩)⟩
    · have w := hx.2 q t k e
      exact ⟨by rw [kB_o (hnew t k w.2).2]; exact w.1, (kal_nr l602).mpr (Or.inl w.2)⟩
/-! an object that no field speaks of yet lies in the rest of the heap -/
theorem hk_fl {a : Nat} {o : va_E} (hb : bx a = none) : va_up (hk G B bx h0 κ) a (some o) = hk G B bx (va_up h0 a (some o)) κ := by
  funext q
  by_cases e : q = a
  · subst e
    rw [up_s]
    unfold hk
    rw [hb]
    exact (up_s _ _ _).symm
  · rw [up_n e]
    unfold hk
    cases hq : bx q with
    | none => exact (up_n e).symm
    | some w => rfl
theorem hk_fw {a : Nat} {o o' : va_E} (hb : bx a = none) : va_up (hk G B bx (va_up h0 a (some o)) κ) a (some o') = hk G B bx (va_up h0 a (some o')) κ := by
  rw [hk_fl hb]
  congr 1
  funext q
  by_cases e : q = a
  · subst e; rw [up_s, up_s]
  · rw [up_n e, up_n e, up_n e]
theorem hk_fr {a : Nat} {o : va_E} (hb : bx a = none) : hk G B bx (va_up h0 a (some o)) κ a = some o := by
  unfold hk
  rw [hb]
  exact up_s _ _ _
end KN
