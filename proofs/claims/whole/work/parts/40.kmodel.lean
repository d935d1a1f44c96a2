section KM
/-! the class's state: κ (100 * class + field) place; rows: 600 length, 601 kind, 602 how many, 1000 + r content -/
def krow (B : Nat → Nat → Nat) (r : Int) : AV := if r < 0 then aN else aR (B 17 r.toNat)
def uf (κ : Nat → Nat → Int) (f : Nat) (g : Nat → Int) : Nat → Nat → Int := fun f' k' => if f' = f then g k' else κ f' k'
theorem uf_s {κ : Nat → Nat → Int} {f : Nat} {g : Nat → Int} (k : Nat) : uf κ f g f k = g k := if_pos rfl
theorem uf_f {κ : Nat → Nat → Int} {f f' k : Nat} {g : Nat → Int} (h : f' ≠ f) : uf κ f g f' k = κ f' k := if_neg h
def ko0 (B : Nat → Nat → Nat) (κ : Nat → Nat → Int) (k : Nat) : List AV := [aI (κ 0 k), aI (κ 1 k), aI (κ 2 k), aI (κ 3 k), aL (κ 4 k), aL (κ 5 k), aL (κ 6 k), krow B (κ 7 k), aI (κ 8 k), aI (κ 9 k), aI (κ 10 k)]
def ko1 (B : Nat → Nat → Nat) (κ : Nat → Nat → Int) (k : Nat) : List AV := [aI (κ 100 k), aR (B 17 (κ 101 k).toNat), aI (κ 102 k), aI (κ 103 k), aI (κ 104 k), aI (κ 105 k), aI (κ 106 k), aI (κ 107 k), aI (κ 108 k), aI (κ 109 k), aI (κ 110 k), aL (κ 111 k), aL (κ 112 k), aI (κ 113 k)]
def ko2 (B : Nat → Nat → Nat) (κ : Nat → Nat → Int) (k : Nat) : List AV := [aI (κ 200 k), aR (B 17 (κ 201 k).toNat), aR (B 17 (κ 202 k).toNat), aI (κ 203 k), aI (κ 204 k), aI (κ 205 k), aI (κ 206 k), aI (κ 207 k), aL (κ 208 k), aL (κ 209 k), aL (κ 210 k), aI (κ 211 k)]
def ko3 (B : Nat → Nat → Nat) (κ : Nat → Nat → Int) (k : Nat) : List AV := [aI (k : Int), aR (B 12 k), aR (B 13 k), aR (B 14 k), aR (B 15 k), aR (B 16 k), aI (κ 306 k), aI (κ 307 k), aI (κ 308 k), aI (κ 309 k), aL (κ 310 k), aL (κ 311 k), aI (κ 312 k), aI (κ 313 k), aI (κ 314 k), aI (κ 315 k)]
def ko4 (B : Nat → Nat → Nat) (κ : Nat → Nat → Int) (k : Nat) : List AV := [aI (κ 400 k), aI (κ 401 k), aI (κ 402 k), aI (κ 403 k), aI (κ 404 k), aI (κ 405 k)]
def ko5 (B : Nat → Nat → Nat) (κ : Nat → Nat → Int) (k : Nat) : List AV := [aR (B 10 0), aR (B 11 0), aR (B 0 64), aR (B 17 0), aR (B 17 1), aI (κ 505 k), aI (κ 506 k), aI (κ 507 k)]
def kc (G : mmG) (B : Nat → Nat → Nat) (κ : Nat → Nat → Int) (t k : Nat) : va_E := match t with
  | 0 => .inr (0, (ko0 B κ k).map cv)
  | 1 => .inr (1, (ko1 B κ k).map cv)
  | 2 => .inr (2, (ko2 B κ k).map cv)
  | 3 => .inr (3, (ko3 B κ k).map cv)
  | 4 => .inr (4, (ko4 B κ k).map cv)
  | 5 => .inr (5, (ko5 B κ k).map cv)
  | 10 => .inl (mm_dA G 8, 2, mm_inr (fun q => if q < 2 then some (B 3 q) else none))
  | 11 => .inl (mm_dA G 5, 64, mm_inr (fun q => if q < 64 then some (B 0 q) else none))
  | 12 => .inl (mm_dA G 0, 10, .inl (fun q => iI (if q < 10 then κ 360 (16 * k + q) else 0)))
  | 13 => .inl (mm_dA G 0, 10, .inl (fun q => iI (if q < 10 then κ 361 (16 * k + q) else 0)))
  | 14 => .inl (mm_dA G 9, 2, mm_inr (fun q => if q < 2 then some (B 4 (2 * k + q)) else none))
  | 15 => .inl (mm_dA G 7, 256, mm_inr (fun q => if κ 290 (256 * k + q) = 1 ∧ q < 256 then some (B 2 (256 * k + q)) else none))
  | 16 => .inl (mm_dA G 6, 256, mm_inr (fun q => if κ 190 (256 * k + q) = 1 ∧ q < 256 then some (B 1 (256 * k + q)) else none))
  | 17 => .inl (mm_dA G (κ 601 k).toNat, (κ 600 k).toNat, .inl (fun q => iI (κ (1000 + k) q)))
  | _ => .inr (0, [])
/-- which cells there are -/
def kal (κ : Nat → Nat → Int) (t k : Nat) : Prop := match t with
  | 0 => k < 65
  | 1 => κ 190 k = 1
  | 2 => κ 290 k = 1
  | 3 => k < 2
  | 4 => k < 4
  | 5 => k = 0
  | 10 => k = 0
  | 11 => k = 0
  | 12 => k < 2
  | 13 => k < 2
  | 14 => k < 2
  | 15 => k < 2
  | 16 => k < 2
  | 17 => (k : Int) < κ 602 0
  | _ => False
def hk (G : mmG) (B : Nat → Nat → Nat) (bx : Nat → Option (Nat × Nat)) (h0 : mmH) (κ : Nat → Nat → Int) : mmH := fun a => match bx a with
  | none => h0 a
  | some q => some (kc G B κ q.1 q.2)
def kx (B : Nat → Nat → Nat) (bx : Nat → Option (Nat × Nat)) (κ : Nat → Nat → Int) : Prop := (∀ t k, kal κ t k → bx (B t k) = some (t, k)) ∧ ∀ a t k, bx a = some (t, k) → a = B t k ∧ kal κ t k
variable {G : mmG} {B : Nat → Nat → Nat} {bx : Nat → Option (Nat × Nat)} {h0 : mmH} {κ : Nat → Nat → Int}
theorem hk_c (hx : kx B bx κ) {t k : Nat} (ha : kal κ t k) : hk G B bx h0 κ (B t k) = some (kc G B κ t k) := by
  unfold hk; rw [hx.1 t k ha]
theorem hk_put (hx : kx B bx κ) {t k : Nat} (ha : kal κ t k) {κ' : Nat → Nat → Int} {e : va_E} (hne : ∀ t' k', ¬ (t' = t ∧ k' = k) → kc G B κ' t' k' = kc G B κ t' k') (he : e = kc G B κ' t k) : va_up (hk G B bx h0 κ) (B t k) (some e) = hk G B bx h0 κ' := by
  subst he
  funext a
  by_cases q : a = B t k
  · subst q
    rw [up_s]
    unfold hk
    rw [hx.1 t k ha]
  · rw [up_n q]
    unfold hk
    cases hb : bx a with
    | none => rfl
    | some p =>
      obtain ⟨t', k'⟩ := p
      have w := hx.2 a t' k' hb
      dsimp only
      rw [hne t' k' (fun z => q (by rw [w.1, z.1, z.2]))]
theorem kal_cg {κ κ' : Nat → Nat → Int} (h : ∀ f, [190, 290, 602].elem f = true → ∀ k, κ f k = κ' f k) {t k : Nat} : kal κ t k ↔ kal κ' t k := by
  unfold kal
  split <;> simp only [h 190 rfl, h 290 rfl, h 602 rfl]
theorem kx_cg {κ κ' : Nat → Nat → Int} (h : ∀ f, [190, 290, 602].elem f = true → ∀ k, κ f k = κ' f k) (hx : kx B bx κ) : kx B bx κ' :=
  ⟨fun t k ha => hx.1 t k ((kal_cg h).mpr ha), fun a t k e => ⟨(hx.2 a t k e).1, (kal_cg h).mp (hx.2 a t k e).2⟩⟩
theorem kx_u {f k : Nat} {v : Int} (hf : [190, 290, 602].elem f = false) (hx : kx B bx κ) : kx B bx (u2 κ f k v) := kx_cg (fun g hg q => (u2_f (by rintro rfl; rw [hg] at hf; cases hf)).symm) hx
theorem kx_f {f : Nat} {g : Nat → Int} (hf : [190, 290, 602].elem f = false) (hx : kx B bx κ) : kx B bx (uf κ f g) := kx_cg (fun g hg q => (uf_f (by rintro rfl; rw [hg] at hf; cases hf)).symm) hx
theorem kc_u {F k t k' : Nat} {v : Int} (hF : F < 600) (n1 : F ≠ 190) (n2 : F ≠ 290) (n3 : F ≠ 360) (n4 : F ≠ 361) (h : ¬ (t = F / 100 ∧ k' = k)) : kc G B (u2 κ F k v) t k' = kc G B κ t k' := by
  have e : ∀ f, (f / 100 = F / 100 → t = f / 100) → u2 κ F k v f k' = κ f k' := fun f hf => by
    unfold u2
    rw [if_neg]
    rintro ⟨rfl, rfl⟩
    exact h ⟨hf rfl, rfl⟩
  have g : ∀ f, f ≠ F → ∀ q, u2 κ F k v f q = κ f q := fun f hf q => u2_f hf
  unfold kc
  split
  · simp only [ko0, e 0 (fun _ => rfl), e 1 (fun _ => rfl), e 2 (fun _ => rfl), e 3 (fun _ => rfl), e 4 (fun _ => rfl), e 5 (fun _ => rfl), e 6 (fun _ => rfl), e 7 (fun _ => rfl), e 8 (fun _ => rfl), e 9 (fun _ => rfl), e 10 (fun _ => rfl)]
  · simp only [ko1, e 100 (fun _ => rfl), e 101 (fun _ => rfl), e 102 (fun _ => rfl), e 103 (fun _ => rfl), e 104 (fun _ => rfl), e 105 (fun _ => rfl), e 106 (fun _ => rfl), e 107 (fun _ => rfl), e 108 (fun _ => rfl), e 109 (fun _ => rfl), e 110 (fun _ => rfl), e 111 (fun _ => rfl), e 112 (fun _ => rfl), e 113 (fun _ => rfl)]
  · simp only [ko2, e 200 (fun _ => rfl), e 201 (fun _ => rfl), e 202 (fun _ => rfl), e 203 (fun _ => rfl), e 204 (fun _ => rfl), e 205 (fun _ => rfl), e 206 (fun _ => rfl), e 207 (fun _ => rfl), e 208 (fun _ => rfl), e 209 (fun _ => rfl), e 210 (fun _ => rfl), e 211 (fun _ => rfl)]
  · simp only [ko3, e 306 (fun _ => rfl), e 307 (fun _ => rfl), e 308 (fun _ => rfl), e 309 (fun _ => rfl), e 310 (fun _ => rfl), e 311 (fun _ => rfl), e 312 (fun _ => rfl), e 313 (fun _ => rfl), e 314 (fun _ => rfl), e 315 (fun _ => rfl)]
  · simp only [ko4, e 400 (fun _ => rfl), e 401 (fun _ => rfl), e 402 (fun _ => rfl), e 403 (fun _ => rfl), e 404 (fun _ => rfl), e 405 (fun _ => rfl)]
  · simp only [ko5, e 505 (fun _ => rfl), e 506 (fun _ => rfl), e 507 (fun _ => rfl)]
  · rfl
  · rfl
  · simp only [g 360 (by omega)]
  · simp only [g 361 (by omega)]
  · rfl
  · simp only [g 290 (by omega)]
  · simp only [g 190 (by omega)]
  · simp only [g 600 (by omega), g 601 (by omega), g (1000 + k') (by omega)]
  · rfl
theorem kc_r {r i t k : Nat} {v : Int} (h : ¬ (t = 17 ∧ k = r)) : kc G B (u2 κ (1000 + r) i v) t k = kc G B κ t k := by
  have g : ∀ f, f ≠ 1000 + r → ∀ q, u2 κ (1000 + r) i v f q = κ f q := fun f hf q => u2_f hf
  unfold kc
  split
  · simp only [ko0, g 0 (by omega), g 1 (by omega), g 2 (by omega), g 3 (by omega), g 4 (by omega), g 5 (by omega), g 6 (by omega), g 7 (by omega), g 8 (by omega), g 9 (by omega), g 10 (by omega)]
  · simp only [ko1, g 100 (by omega), g 101 (by omega), g 102 (by omega), g 103 (by omega), g 104 (by omega), g 105 (by omega), g 106 (by omega), g 107 (by omega), g 108 (by omega), g 109 (by omega), g 110 (by omega), g 111 (by omega), g 112 (by omega), g 113 (by omega)]
  · simp only [ko2, g 200 (by omega), g 201 (by omega), g 202 (by omega), g 203 (by omega), g 204 (by omega), g 205 (by omega), g 206 (by omega), g 207 (by omega), g 208 (by omega), g 209 (by omega), g 210 (by omega), g 211 (by omega)]
  · simp only [ko3, g 306 (by omega), g 307 (by omega), g 308 (by omega), g 309 (by omega), g 310 (by omega), g 311 (by omega), g 312 (by omega), g 313 (by omega), g 314 (by omega), g 315 (by omega)]
  · simp only [ko4, g 400 (by omega), g 401 (by omega), g 402 (by omega), g 403 (by omega), g 404 (by omega), g 405 (by omega)]
  · simp only [ko5, g 505 (by omega), g 506 (by omega), g 507 (by omega)]
  · rfl
  · rfl
  · simp only [g 360 (by omega)]
  · simp only [g 361 (by omega)]
  · rfl
  · simp only [g 290 (by omega)]
  · simp only [g 190 (by omega)]
  · simp only [g 600 (by omega), g 601 (by omega), g (1000 + k) (fun z => h ⟨rfl, by omega⟩)]
  · rfl
theorem kc_f {r t k : Nat} {w : Nat → Int} (h : ¬ (t = 17 ∧ k = r)) : kc G B (uf κ (1000 + r) w) t k = kc G B κ t k := by
  have g : ∀ f, f ≠ 1000 + r → ∀ q, uf κ (1000 + r) w f q = κ f q := fun f hf q => uf_f hf
  unfold kc
  split
  · simp only [ko0, g 0 (by omega), g 1 (by omega), g 2 (by omega), g 3 (by omega), g 4 (by omega), g 5 (by omega), g 6 (by omega), g 7 (by omega), g 8 (by omega), g 9 (by omega), g 10 (by omega)]
  · simp only [ko1, g 100 (by omega), g 101 (by omega), g 102 (by omega), g 103 (by omega), g 104 (by omega), g 105 (by omega), g 106 (by omega), g 107 (by omega), g 108 (by omega), g 109 (by omega), g 110 (by omega), g 111 (by omega), g 112 (by omega), g 113 (by omega)]
  · simp only [ko2, g 200 (by omega), g 201 (by omega), g 202 (by omega), g 203 (by omega), g 204 (by omega), g 205 (by omega), g 206 (by omega), g 207 (by omega), g 208 (by omega), g 209 (by omega), g 210 (by omega), g 211 (by omega)]
  · simp only [ko3, g 306 (by omega), g 307 (by omega), g 308 (by omega), g 309 (by omega), g 310 (by omega), g 311 (by omega), g 312 (by omega), g 313 (by omega), g 314 (by omega), g 315 (by omega)]
  · simp only [ko4, g 400 (by omega), g 401 (by omega), g 402 (by omega), g 403 (by omega), g 404 (by omega), g 405 (by omega)]
  · simp only [ko5, g 505 (by omega), g 506 (by omega), g 507 (by omega)]
  · rfl
  · rfl
  · simp only [g 360 (by omega)]
  · simp only [g 361 (by omega)]
  · rfl
  · simp only [g 290 (by omega)]
  · simp only [g 190 (by omega)]
  · simp only [g 600 (by omega), g 601 (by omega), g (1000 + k) (fun z => h ⟨rfl, by omega⟩)]
  · rfl
theorem kc_g {s i t k : Nat} {v : Int} (hi : i < 10) (h : ¬ (t = 12 ∧ k = s)) : kc G B (u2 κ 360 (16 * s + i) v) t k = kc G B κ t k := by
  have g : ∀ f, f ≠ 360 → ∀ q, u2 κ 360 (16 * s + i) v f q = κ f q := fun f hf q => u2_f hf
  unfold kc
  split
  · simp only [ko0, g 0 (by decide), g 1 (by decide), g 2 (by decide), g 3 (by decide), g 4 (by decide), g 5 (by decide), g 6 (by decide), g 7 (by decide), g 8 (by decide), g 9 (by decide), g 10 (by decide)]
  · simp only [ko1, g 100 (by decide), g 101 (by decide), g 102 (by decide), g 103 (by decide), g 104 (by decide), g 105 (by decide), g 106 (by decide), g 107 (by decide), g 108 (by decide), g 109 (by decide), g 110 (by decide), g 111 (by decide), g 112 (by decide), g 113 (by decide)]
  · simp only [ko2, g 200 (by decide), g 201 (by decide), g 202 (by decide), g 203 (by decide), g 204 (by decide), g 205 (by decide), g 206 (by decide), g 207 (by decide), g 208 (by decide), g 209 (by decide), g 210 (by decide), g 211 (by decide)]
  · simp only [ko3, g 306 (by decide), g 307 (by decide), g 308 (by decide), g 309 (by decide), g 310 (by decide), g 311 (by decide), g 312 (by decide), g 313 (by decide), g 314 (by decide), g 315 (by decide)]
  · simp only [ko4, g 400 (by decide), g 401 (by decide), g 402 (by decide), g 403 (by decide), g 404 (by decide), g 405 (by decide)]
  · simp only [ko5, g 505 (by decide), g 506 (by decide), g 507 (by decide)]
  · rfl
  · rfl
  · congr 4; funext q; split; (· rename_i hq; rw [u2_k (show 16 * k + q ≠ 16 * s + i from fun z => h ⟨rfl, by omega⟩)]); rfl
  · simp only [g 361 (by decide)]
  · rfl
  · simp only [g 290 (by decide)]
  · simp only [g 190 (by decide)]
  · simp only [g 600 (by decide), g 601 (by decide), g (1000 + k) (by omega)]
  · rfl
theorem kc_p {s i t k : Nat} {v : Int} (hi : i < 10) (h : ¬ (t = 13 ∧ k = s)) : kc G B (u2 κ 361 (16 * s + i) v) t k = kc G B κ t k := by
  have g : ∀ f, f ≠ 361 → ∀ q, u2 κ 361 (16 * s + i) v f q = κ f q := fun f hf q => u2_f hf
  unfold kc
  split
  · simp only [ko0, g 0 (by decide), g 1 (by decide), g 2 (by decide), g 3 (by decide), g 4 (by decide), g 5 (by decide), g 6 (by decide), g 7 (by decide), g 8 (by decide), g 9 (by decide), g 10 (by decide)]
  · simp only [ko1, g 100 (by decide), g 101 (by decide), g 102 (by decide), g 103 (by decide), g 104 (by decide), g 105 (by decide), g 106 (by decide), g 107 (by decide), g 108 (by decide), g 109 (by decide), g 110 (by decide), g 111 (by decide), g 112 (by decide), g 113 (by decide)]
  · simp only [ko2, g 200 (by decide), g 201 (by decide), g 202 (by decide), g 203 (by decide), g 204 (by decide), g 205 (by decide), g 206 (by decide), g 207 (by decide), g 208 (by decide), g 209 (by decide), g 210 (by decide), g 211 (by decide)]
  · simp only [ko3, g 306 (by decide), g 307 (by decide), g 308 (by decide), g 309 (by decide), g 310 (by decide), g 311 (by decide), g 312 (by decide), g 313 (by decide), g 314 (by decide), g 315 (by decide)]
  · simp only [ko4, g 400 (by decide), g 401 (by decide), g 402 (by decide), g 403 (by decide), g 404 (by decide), g 405 (by decide)]
  · simp only [ko5, g 505 (by decide), g 506 (by decide), g 507 (by decide)]
  · rfl
  · rfl
  · simp only [g 360 (by decide)]
  · congr 4; funext q; split; (· rename_i hq; rw [u2_k (show 16 * k + q ≠ 16 * s + i from fun z => h ⟨rfl, by omega⟩)]); rfl
  · rfl
  · simp only [g 290 (by decide)]
  · simp only [g 190 (by decide)]
  · simp only [g 600 (by decide), g 601 (by decide), g (1000 + k) (by omega)]
  · rfl
theorem hk_o0 (hx : kx B bx κ) {k a : Nat} (ha : kal κ 0 k) (e : a = B 0 k) : hk G B bx h0 κ a = some (.inr (0, (ko0 B κ k).map cv)) := by subst e; exact hk_c hx ha
theorem hk_o1 (hx : kx B bx κ) {k a : Nat} (ha : kal κ 1 k) (e : a = B 1 k) : hk G B bx h0 κ a = some (.inr (1, (ko1 B κ k).map cv)) := by subst e; exact hk_c hx ha
theorem hk_o2 (hx : kx B bx κ) {k a : Nat} (ha : kal κ 2 k) (e : a = B 2 k) : hk G B bx h0 κ a = some (.inr (2, (ko2 B κ k).map cv)) := by subst e; exact hk_c hx ha
theorem hk_o3 (hx : kx B bx κ) {k a : Nat} (ha : kal κ 3 k) (e : a = B 3 k) : hk G B bx h0 κ a = some (.inr (3, (ko3 B κ k).map cv)) := by subst e; exact hk_c hx ha
theorem hk_o4 (hx : kx B bx κ) {k a : Nat} (ha : kal κ 4 k) (e : a = B 4 k) : hk G B bx h0 κ a = some (.inr (4, (ko4 B κ k).map cv)) := by subst e; exact hk_c hx ha
theorem hk_o5 (hx : kx B bx κ) {k a : Nat} (ha : kal κ 5 k) (e : a = B 5 k) : hk G B bx h0 κ a = some (.inr (5, (ko5 B κ k).map cv)) := by subst e; exact hk_c hx ha
theorem kp_0 (hx : kx B bx κ) {k a : Nat} {v : Int} (ha : kal κ 0 k) (e : a = B 0 k) : va_up (hk G B bx h0 κ) a (some (.inr (0, ((ko0 B κ k).set 0 (aI v)).map cv))) = hk G B bx h0 (u2 κ 0 k v) := by
  subst e
  exact hk_put hx ha (fun t' k' q => kc_u (by decide) (by decide) (by decide) (by decide) (by decide) q) (congrArg (fun l => Sum.inr (0, List.map cv l)) (by have e : ∀ f, f ≠ 0 → u2 κ 0 k v f k = κ f k := fun f h => u2_f h; simp only [ko0, u2_s, e 1 (by decide), e 2 (by decide), e 3 (by decide), e 4 (by decide), e 5 (by decide), e 6 (by decide), e 7 (by decide), e 8 (by decide), e 9 (by decide), e 10 (by decide)]; rfl))
theorem kp_1 (hx : kx B bx κ) {k a : Nat} {v : Int} (ha : kal κ 0 k) (e : a = B 0 k) : va_up (hk G B bx h0 κ) a (some (.inr (0, ((ko0 B κ k).set 1 (aI v)).map cv))) = hk G B bx h0 (u2 κ 1 k v) := by
  subst e
  exact hk_put hx ha (fun t' k' q => kc_u (by decide) (by decide) (by decide) (by decide) (by decide) q) (congrArg (fun l => Sum.inr (0, List.map cv l)) (by have e : ∀ f, f ≠ 1 → u2 κ 1 k v f k = κ f k := fun f h => u2_f h; simp only [ko0, u2_s, e 0 (by decide), e 2 (by decide), e 3 (by decide), e 4 (by decide), e 5 (by decide), e 6 (by decide), e 7 (by decide), e 8 (by decide), e 9 (by decide), e 10 (by decide)]; rfl))
theorem kp_2 (hx : kx B bx κ) {k a : Nat} {v : Int} (ha : kal κ 0 k) (e : a = B 0 k) : va_up (hk G B bx h0 κ) a (some (.inr (0, ((ko0 B κ k).set 2 (aI v)).map cv))) = hk G B bx h0 (u2 κ 2 k v) := by
  subst e
  exact hk_put hx ha (fun t' k' q => kc_u (by decide) (by decide) (by decide) (by decide) (by decide) q) (congrArg (fun l => Sum.inr (0, List.map cv l)) (by have e : ∀ f, f ≠ 2 → u2 κ 2 k v f k = κ f k := fun f h => u2_f h; simp only [ko0, u2_s, e 0 (by decide), e 1 (by decide), e 3 (by decide), e 4 (by decide), e 5 (by decide), e 6 (by decide), e 7 (by decide), e 8 (by decide), e 9 (by decide), e 10 (by decide)]; rfl))
theorem kp_3 (hx : kx B bx κ) {k a : Nat} {v : Int} (ha : kal κ 0 k) (e : a = B 0 k) : va_up (hk G B bx h0 κ) a (some (.inr (0, ((ko0 B κ k).set 3 (aI v)).map cv))) = hk G B bx h0 (u2 κ 3 k v) := by
  subst e
  exact hk_put hx ha (fun t' k' q => kc_u (by decide) (by decide) (by decide) (by decide) (by decide) q) (congrArg (fun l => Sum.inr (0, List.map cv l)) (by have e : ∀ f, f ≠ 3 → u2 κ 3 k v f k = κ f k := fun f h => u2_f h; simp only [ko0, u2_s, e 0 (by decide), e 1 (by decide), e 2 (by decide), e 4 (by decide), e 5 (by decide), e 6 (by decide), e 7 (by decide), e 8 (by decide), e 9 (by decide), e 10 (by decide)]; rfl))
theorem kp_4 (hx : kx B bx κ) {k a : Nat} {v : Int} (ha : kal κ 0 k) (e : a = B 0 k) : va_up (hk G B bx h0 κ) a (some (.inr (0, ((ko0 B κ k).set 4 (aL v)).map cv))) = hk G B bx h0 (u2 κ 4 k v) := by
  subst e
  exact hk_put hx ha (fun t' k' q => kc_u (by decide) (by decide) (by decide) (by decide) (by decide) q) (congrArg (fun l => Sum.inr (0, List.map cv l)) (by have e : ∀ f, f ≠ 4 → u2 κ 4 k v f k = κ f k := fun f h => u2_f h; simp only [ko0, u2_s, e 0 (by decide), e 1 (by decide), e 2 (by decide), e 3 (by decide), e 5 (by decide), e 6 (by decide), e 7 (by decide), e 8 (by decide), e 9 (by decide), e 10 (by decide)]; rfl))
theorem kp_5 (hx : kx B bx κ) {k a : Nat} {v : Int} (ha : kal κ 0 k) (e : a = B 0 k) : va_up (hk G B bx h0 κ) a (some (.inr (0, ((ko0 B κ k).set 5 (aL v)).map cv))) = hk G B bx h0 (u2 κ 5 k v) := by
  subst e
  exact hk_put hx ha (fun t' k' q => kc_u (by decide) (by decide) (by decide) (by decide) (by decide) q) (congrArg (fun l => Sum.inr (0, List.map cv l)) (by have e : ∀ f, f ≠ 5 → u2 κ 5 k v f k = κ f k := fun f h => u2_f h; simp only [ko0, u2_s, e 0 (by decide), e 1 (by decide), e 2 (by decide), e 3 (by decide), e 4 (by decide), e 6 (by decide), e 7 (by decide), e 8 (by decide), e 9 (by decide), e 10 (by decide)]; rfl))
theorem kp_6 (hx : kx B bx κ) {k a : Nat} {v : Int} (ha : kal κ 0 k) (e : a = B 0 k) : va_up (hk G B bx h0 κ) a (some (.inr (0, ((ko0 B κ k).set 6 (aL v)).map cv))) = hk G B bx h0 (u2 κ 6 k v) := by
  subst e
  exact hk_put hx ha (fun t' k' q => kc_u (by decide) (by decide) (by decide) (by decide) (by decide) q) (congrArg (fun l => Sum.inr (0, List.map cv l)) (by have e : ∀ f, f ≠ 6 → u2 κ 6 k v f k = κ f k := fun f h => u2_f h; simp only [ko0, u2_s, e 0 (by decide), e 1 (by decide), e 2 (by decide), e 3 (by decide), e 4 (by decide), e 5 (by decide), e 7 (by decide), e 8 (by decide), e 9 (by decide), e 10 (by decide)]; rfl))
theorem kp_7n (hx : kx B bx κ) {k a : Nat} (ha : kal κ 0 k) (e : a = B 0 k) : va_up (hk G B bx h0 κ) a (some (.inr (0, ((ko0 B κ k).set 7 (aN)).map cv))) = hk G B bx h0 (u2 κ 7 k (-1)) := by
  subst e
  exact hk_put hx ha (fun t' k' q => kc_u (by decide) (by decide) (by decide) (by decide) (by decide) q) (congrArg (fun l => Sum.inr (0, List.map cv l)) (by have e : ∀ f, f ≠ 7 → u2 κ 7 k (-1) f k = κ f k := fun f h => u2_f h; simp only [ko0, u2_s, e 0 (by decide), e 1 (by decide), e 2 (by decide), e 3 (by decide), e 4 (by decide), e 5 (by decide), e 6 (by decide), e 8 (by decide), e 9 (by decide), e 10 (by decide)]; rfl))
theorem kp_7 (hx : kx B bx κ) {k a : Nat} {v : Int} (ha : kal κ 0 k) (hv : 0 ≤ v) (e : a = B 0 k) : va_up (hk G B bx h0 κ) a (some (.inr (0, ((ko0 B κ k).set 7 (aR (B 17 v.toNat))).map cv))) = hk G B bx h0 (u2 κ 7 k v) := by
  subst e
  exact hk_put hx ha (fun t' k' q => kc_u (by decide) (by decide) (by decide) (by decide) (by decide) q) (congrArg (fun l => Sum.inr (0, List.map cv l)) (by rw [show aR (B 17 v.toNat) = krow B v from (if_neg (by omega)).symm]; have e : ∀ f, f ≠ 7 → u2 κ 7 k v f k = κ f k := fun f h => u2_f h; simp only [ko0, u2_s, e 0 (by decide), e 1 (by decide), e 2 (by decide), e 3 (by decide), e 4 (by decide), e 5 (by decide), e 6 (by decide), e 8 (by decide), e 9 (by decide), e 10 (by decide)]; rfl))
theorem kp_8 (hx : kx B bx κ) {k a : Nat} {v : Int} (ha : kal κ 0 k) (e : a = B 0 k) : va_up (hk G B bx h0 κ) a (some (.inr (0, ((ko0 B κ k).set 8 (aI v)).map cv))) = hk G B bx h0 (u2 κ 8 k v) := by
  subst e
  exact hk_put hx ha (fun t' k' q => kc_u (by decide) (by decide) (by decide) (by decide) (by decide) q) (congrArg (fun l => Sum.inr (0, List.map cv l)) (by have e : ∀ f, f ≠ 8 → u2 κ 8 k v f k = κ f k := fun f h => u2_f h; simp only [ko0, u2_s, e 0 (by decide), e 1 (by decide), e 2 (by decide), e 3 (by decide), e 4 (by decide), e 5 (by decide), e 6 (by decide), e 7 (by decide), e 9 (by decide), e 10 (by decide)]; rfl))
theorem kp_9 (hx : kx B bx κ) {k a : Nat} {v : Int} (ha : kal κ 0 k) (e : a = B 0 k) : va_up (hk G B bx h0 κ) a (some (.inr (0, ((ko0 B κ k).set 9 (aI v)).map cv))) = hk G B bx h0 (u2 κ 9 k v) := by
  subst e
  exact hk_put hx ha (fun t' k' q => kc_u (by decide) (by decide) (by decide) (by decide) (by decide) q) (congrArg (fun l => Sum.inr (0, List.map cv l)) (by have e : ∀ f, f ≠ 9 → u2 κ 9 k v f k = κ f k := fun f h => u2_f h; simp only [ko0, u2_s, e 0 (by decide), e 1 (by decide), e 2 (by decide), e 3 (by decide), e 4 (by decide), e 5 (by decide), e 6 (by decide), e 7 (by decide), e 8 (by decide), e 10 (by decide)]; rfl))
theorem kp_10 (hx : kx B bx κ) {k a : Nat} {v : Int} (ha : kal κ 0 k) (e : a = B 0 k) : va_up (hk G B bx h0 κ) a (some (.inr (0, ((ko0 B κ k).set 10 (aI v)).map cv))) = hk G B bx h0 (u2 κ 10 k v) := by
  subst e
  exact hk_put hx ha (fun t' k' q => kc_u (by decide) (by decide) (by decide) (by decide) (by decide) q) (congrArg (fun l => Sum.inr (0, List.map cv l)) (by have e : ∀ f, f ≠ 10 → u2 κ 10 k v f k = κ f k := fun f h => u2_f h; simp only [ko0, u2_s, e 0 (by decide), e 1 (by decide), e 2 (by decide), e 3 (by decide), e 4 (by decide), e 5 (by decide), e 6 (by decide), e 7 (by decide), e 8 (by decide), e 9 (by decide)]; rfl))
theorem kp_100 (hx : kx B bx κ) {k a : Nat} {v : Int} (ha : kal κ 1 k) (e : a = B 1 k) : va_up (hk G B bx h0 κ) a (some (.inr (1, ((ko1 B κ k).set 0 (aI v)).map cv))) = hk G B bx h0 (u2 κ 100 k v) := by
  subst e
  exact hk_put hx ha (fun t' k' q => kc_u (by decide) (by decide) (by decide) (by decide) (by decide) q) (congrArg (fun l => Sum.inr (1, List.map cv l)) (by have e : ∀ f, f ≠ 100 → u2 κ 100 k v f k = κ f k := fun f h => u2_f h; simp only [ko1, u2_s, e 101 (by decide), e 102 (by decide), e 103 (by decide), e 104 (by decide), e 105 (by decide), e 106 (by decide), e 107 (by decide), e 108 (by decide), e 109 (by decide), e 110 (by decide), e 111 (by decide), e 112 (by decide), e 113 (by decide)]; rfl))
theorem kp_101 (hx : kx B bx κ) {k a : Nat} {v : Int} (ha : kal κ 1 k) (e : a = B 1 k) : va_up (hk G B bx h0 κ) a (some (.inr (1, ((ko1 B κ k).set 1 (aR (B 17 v.toNat))).map cv))) = hk G B bx h0 (u2 κ 101 k v) := by
  subst e
  exact hk_put hx ha (fun t' k' q => kc_u (by decide) (by decide) (by decide) (by decide) (by decide) q) (congrArg (fun l => Sum.inr (1, List.map cv l)) (by have e : ∀ f, f ≠ 101 → u2 κ 101 k v f k = κ f k := fun f h => u2_f h; simp only [ko1, u2_s, e 100 (by decide), e 102 (by decide), e 103 (by decide), e 104 (by decide), e 105 (by decide), e 106 (by decide), e 107 (by decide), e 108 (by decide), e 109 (by decide), e 110 (by decide), e 111 (by decide), e 112 (by decide), e 113 (by decide)]; rfl))
theorem kp_102 (hx : kx B bx κ) {k a : Nat} {v : Int} (ha : kal κ 1 k) (e : a = B 1 k) : va_up (hk G B bx h0 κ) a (some (.inr (1, ((ko1 B κ k).set 2 (aI v)).map cv))) = hk G B bx h0 (u2 κ 102 k v) := by
  subst e
  exact hk_put hx ha (fun t' k' q => kc_u (by decide) (by decide) (by decide) (by decide) (by decide) q) (congrArg (fun l => Sum.inr (1, List.map cv l)) (by have e : ∀ f, f ≠ 102 → u2 κ 102 k v f k = κ f k := fun f h => u2_f h; simp only [ko1, u2_s, e 100 (by decide), e 101 (by decide), e 103 (by decide), e 104 (by decide), e 105 (by decide), e 106 (by decide), e 107 (by decide), e 108 (by decide), e 109 (by decide), e 110 (by decide), e 111 (by decide), e 112 (by decide), e 113 (by decide)]; rfl))
theorem kp_103 (hx : kx B bx κ) {k a : Nat} {v : Int} (ha : kal κ 1 k) (e : a = B 1 k) : va_up (hk G B bx h0 κ) a (some (.inr (1, ((ko1 B κ k).set 3 (aI v)).map cv))) = hk G B bx h0 (u2 κ 103 k v) := by
  subst e
  exact hk_put hx ha (fun t' k' q => kc_u (by decide) (by decide) (by decide) (by decide) (by decide) q) (congrArg (fun l => Sum.inr (1, List.map cv l)) (by have e : ∀ f, f ≠ 103 → u2 κ 103 k v f k = κ f k := fun f h => u2_f h; simp only [ko1, u2_s, e 100 (by decide), e 101 (by decide), e 102 (by decide), e 104 (by decide), e 105 (by decide), e 106 (by decide), e 107 (by decide), e 108 (by decide), e 109 (by decide), e 110 (by decide), e 111 (by decide), e 112 (by decide), e 113 (by decide)]; rfl))
theorem kp_104 (hx : kx B bx κ) {k a : Nat} {v : Int} (ha : kal κ 1 k) (e : a = B 1 k) : va_up (hk G B bx h0 κ) a (some (.inr (1, ((ko1 B κ k).set 4 (aI v)).map cv))) = hk G B bx h0 (u2 κ 104 k v) := by
  subst e
  exact hk_put hx ha (fun t' k' q => kc_u (by decide) (by decide) (by decide) (by decide) (by decide) q) (congrArg (fun l => Sum.inr (1, List.map cv l)) (by have e : ∀ f, f ≠ 104 → u2 κ 104 k v f k = κ f k := fun f h => u2_f h; simp only [ko1, u2_s, e 100 (by decide), e 101 (by decide), e 102 (by decide), e 103 (by decide), e 105 (by decide), e 106 (by decide), e 107 (by decide), e 108 (by decide), e 109 (by decide), e 110 (by decide), e 111 (by decide), e 112 (by decide), e 113 (by decide)]; rfl))
theorem kp_105 (hx : kx B bx κ) {k a : Nat} {v : Int} (ha : kal κ 1 k) (e : a = B 1 k) : va_up (hk G B bx h0 κ) a (some (.inr (1, ((ko1 B κ k).set 5 (aI v)).map cv))) = hk G B bx h0 (u2 κ 105 k v) := by
  subst e
  exact hk_put hx ha (fun t' k' q => kc_u (by decide) (by decide) (by decide) (by decide) (by decide) q) (congrArg (fun l => Sum.inr (1, List.map cv l)) (by have e : ∀ f, f ≠ 105 → u2 κ 105 k v f k = κ f k := fun f h => u2_f h; simp only [ko1, u2_s, e 100 (by decide), e 101 (by decide), e 102 (by decide), e 103 (by decide), e 104 (by decide), e 106 (by decide), e 107 (by decide), e 108 (by decide), e 109 (by decide), e 110 (by decide), e 111 (by decide), e 112 (by decide), e 113 (by decide)]; rfl))
theorem kp_106 (hx : kx B bx κ) {k a : Nat} {v : Int} (ha : kal κ 1 k) (e : a = B 1 k) : va_up (hk G B bx h0 κ) a (some (.inr (1, ((ko1 B κ k).set 6 (aI v)).map cv))) = hk G B bx h0 (u2 κ 106 k v) := by
  subst e
  exact hk_put hx ha (fun t' k' q => kc_u (by decide) (by decide) (by decide) (by decide) (by decide) q) (congrArg (fun l => Sum.inr (1, List.map cv l)) (by have e : ∀ f, f ≠ 106 → u2 κ 106 k v f k = κ f k := fun f h => u2_f h; simp only [ko1, u2_s, e 100 (by decide), e 101 (by decide), e 102 (by decide), e 103 (by decide), e 104 (by decide), e 105 (by decide), e 107 (by decide), e 108 (by decide), e 109 (by decide), e 110 (by decide), e 111 (by decide), e 112 (by decide), e 113 (by decide)]; rfl))
theorem kp_107 (hx : kx B bx κ) {k a : Nat} {v : Int} (ha : kal κ 1 k) (e : a = B 1 k) : va_up (hk G B bx h0 κ) a (some (.inr (1, ((ko1 B κ k).set 7 (aI v)).map cv))) = hk G B bx h0 (u2 κ 107 k v) := by
  subst e
  exact hk_put hx ha (fun t' k' q => kc_u (by decide) (by decide) (by decide) (by decide) (by decide) q) (congrArg (fun l => Sum.inr (1, List.map cv l)) (by have e : ∀ f, f ≠ 107 → u2 κ 107 k v f k = κ f k := fun f h => u2_f h; simp only [ko1, u2_s, e 100 (by decide), e 101 (by decide), e 102 (by decide), e 103 (by decide), e 104 (by decide), e 105 (by decide), e 106 (by decide), e 108 (by decide), e 109 (by decide), e 110 (by decide), e 111 (by decide), e 112 (by decide), e 113 (by decide)]; rfl))
theorem kp_108 (hx : kx B bx κ) {k a : Nat} {v : Int} (ha : kal κ 1 k) (e : a = B 1 k) : va_up (hk G B bx h0 κ) a (some (.inr (1, ((ko1 B κ k).set 8 (aI v)).map cv))) = hk G B bx h0 (u2 κ 108 k v) := by
  subst e
  exact hk_put hx ha (fun t' k' q => kc_u (by decide) (by decide) (by decide) (by decide) (by decide) q) (congrArg (fun l => Sum.inr (1, List.map cv l)) (by have e : ∀ f, f ≠ 108 → u2 κ 108 k v f k = κ f k := fun f h => u2_f h; simp only [ko1, u2_s, e 100 (by decide), e 101 (by decide), e 102 (by decide), e 103 (by decide), e 104 (by decide), e 105 (by decide), e 106 (by decide), e 107 (by decide), e 109 (by decide), e 110 (by decide), e 111 (by decide), e 112 (by decide), e 113 (by decide)]; rfl))
theorem kp_109 (hx : kx B bx κ) {k a : Nat} {v : Int} (ha : kal κ 1 k) (e : a = B 1 k) : va_up (hk G B bx h0 κ) a (some (.inr (1, ((ko1 B κ k).set 9 (aI v)).map cv))) = hk G B bx h0 (u2 κ 109 k v) := by
  subst e
  exact hk_put hx ha (fun t' k' q => kc_u (by decide) (by decide) (by decide) (by decide) (by decide) q) (congrArg (fun l => Sum.inr (1, List.map cv l)) (by have e : ∀ f, f ≠ 109 → u2 κ 109 k v f k = κ f k := fun f h => u2_f h; simp only [ko1, u2_s, e 100 (by decide), e 101 (by decide), e 102 (by decide), e 103 (by decide), e 104 (by decide), e 105 (by decide), e 106 (by decide), e 107 (by decide), e 108 (by decide), e 110 (by decide), e 111 (by decide), e 112 (by decide), e 113 (by decide)]; rfl))
theorem kp_110 (hx : kx B bx κ) {k a : Nat} {v : Int} (ha : kal κ 1 k) (e : a = B 1 k) : va_up (hk G B bx h0 κ) a (some (.inr (1, ((ko1 B κ k).set 10 (aI v)).map cv))) = hk G B bx h0 (u2 κ 110 k v) := by
  subst e
  exact hk_put hx ha (fun t' k' q => kc_u (by decide) (by decide) (by decide) (by decide) (by decide) q) (congrArg (fun l => Sum.inr (1, List.map cv l)) (by have e : ∀ f, f ≠ 110 → u2 κ 110 k v f k = κ f k := fun f h => u2_f h; simp only [ko1, u2_s, e 100 (by decide), e 101 (by decide), e 102 (by decide), e 103 (by decide), e 104 (by decide), e 105 (by decide), e 106 (by decide), e 107 (by decide), e 108 (by decide), e 109 (by decide), e 111 (by decide), e 112 (by decide), e 113 (by decide)]; rfl))
theorem kp_111 (hx : kx B bx κ) {k a : Nat} {v : Int} (ha : kal κ 1 k) (e : a = B 1 k) : va_up (hk G B bx h0 κ) a (some (.inr (1, ((ko1 B κ k).set 11 (aL v)).map cv))) = hk G B bx h0 (u2 κ 111 k v) := by
  subst e
  exact hk_put hx ha (fun t' k' q => kc_u (by decide) (by decide) (by decide) (by decide) (by decide) q) (congrArg (fun l => Sum.inr (1, List.map cv l)) (by have e : ∀ f, f ≠ 111 → u2 κ 111 k v f k = κ f k := fun f h => u2_f h; simp only [ko1, u2_s, e 100 (by decide), e 101 (by decide), e 102 (by decide), e 103 (by decide), e 104 (by decide), e 105 (by decide), e 106 (by decide), e 107 (by decide), e 108 (by decide), e 109 (by decide), e 110 (by decide), e 112 (by decide), e 113 (by decide)]; rfl))
theorem kp_112 (hx : kx B bx κ) {k a : Nat} {v : Int} (ha : kal κ 1 k) (e : a = B 1 k) : va_up (hk G B bx h0 κ) a (some (.inr (1, ((ko1 B κ k).set 12 (aL v)).map cv))) = hk G B bx h0 (u2 κ 112 k v) := by
  subst e
  exact hk_put hx ha (fun t' k' q => kc_u (by decide) (by decide) (by decide) (by decide) (by decide) q) (congrArg (fun l => Sum.inr (1, List.map cv l)) (by have e : ∀ f, f ≠ 112 → u2 κ 112 k v f k = κ f k := fun f h => u2_f h; simp only [ko1, u2_s, e 100 (by decide), e 101 (by decide), e 102 (by decide), e 103 (by decide), e 104 (by decide), e 105 (by decide), e 106 (by decide), e 107 (by decide), e 108 (by decide), e 109 (by decide), e 110 (by decide), e 111 (by decide), e 113 (by decide)]; rfl))
theorem kp_113 (hx : kx B bx κ) {k a : Nat} {v : Int} (ha : kal κ 1 k) (e : a = B 1 k) : va_up (hk G B bx h0 κ) a (some (.inr (1, ((ko1 B κ k).set 13 (aI v)).map cv))) = hk G B bx h0 (u2 κ 113 k v) := by
  subst e
  exact hk_put hx ha (fun t' k' q => kc_u (by decide) (by decide) (by decide) (by decide) (by decide) q) (congrArg (fun l => Sum.inr (1, List.map cv l)) (by have e : ∀ f, f ≠ 113 → u2 κ 113 k v f k = κ f k := fun f h => u2_f h; simp only [ko1, u2_s, e 100 (by decide), e 101 (by decide), e 102 (by decide), e 103 (by decide), e 104 (by decide), e 105 (by decide), e 106 (by decide), e 107 (by decide), e 108 (by decide), e 109 (by decide), e 110 (by decide), e 111 (by decide), e 112 (by decide)]; rfl))
theorem kp_200 (hx : kx B bx κ) {k a : Nat} {v : Int} (ha : kal κ 2 k) (e : a = B 2 k) : va_up (hk G B bx h0 κ) a (some (.inr (2, ((ko2 B κ k).set 0 (aI v)).map cv))) = hk G B bx h0 (u2 κ 200 k v) := by
  subst e
  exact hk_put hx ha (fun t' k' q => kc_u (by decide) (by decide) (by decide) (by decide) (by decide) q) (congrArg (fun l => Sum.inr (2, List.map cv l)) (by have e : ∀ f, f ≠ 200 → u2 κ 200 k v f k = κ f k := fun f h => u2_f h; simp only [ko2, u2_s, e 201 (by decide), e 202 (by decide), e 203 (by decide), e 204 (by decide), e 205 (by decide), e 206 (by decide), e 207 (by decide), e 208 (by decide), e 209 (by decide), e 210 (by decide), e 211 (by decide)]; rfl))
theorem kp_201 (hx : kx B bx κ) {k a : Nat} {v : Int} (ha : kal κ 2 k) (e : a = B 2 k) : va_up (hk G B bx h0 κ) a (some (.inr (2, ((ko2 B κ k).set 1 (aR (B 17 v.toNat))).map cv))) = hk G B bx h0 (u2 κ 201 k v) := by
  subst e
  exact hk_put hx ha (fun t' k' q => kc_u (by decide) (by decide) (by decide) (by decide) (by decide) q) (congrArg (fun l => Sum.inr (2, List.map cv l)) (by have e : ∀ f, f ≠ 201 → u2 κ 201 k v f k = κ f k := fun f h => u2_f h; simp only [ko2, u2_s, e 200 (by decide), e 202 (by decide), e 203 (by decide), e 204 (by decide), e 205 (by decide), e 206 (by decide), e 207 (by decide), e 208 (by decide), e 209 (by decide), e 210 (by decide), e 211 (by decide)]; rfl))
theorem kp_202 (hx : kx B bx κ) {k a : Nat} {v : Int} (ha : kal κ 2 k) (e : a = B 2 k) : va_up (hk G B bx h0 κ) a (some (.inr (2, ((ko2 B κ k).set 2 (aR (B 17 v.toNat))).map cv))) = hk G B bx h0 (u2 κ 202 k v) := by
  subst e
  exact hk_put hx ha (fun t' k' q => kc_u (by decide) (by decide) (by decide) (by decide) (by decide) q) (congrArg (fun l => Sum.inr (2, List.map cv l)) (by have e : ∀ f, f ≠ 202 → u2 κ 202 k v f k = κ f k := fun f h => u2_f h; simp only [ko2, u2_s, e 200 (by decide), e 201 (by decide), e 203 (by decide), e 204 (by decide), e 205 (by decide), e 206 (by decide), e 207 (by decide), e 208 (by decide), e 209 (by decide), e 210 (by decide), e 211 (by decide)]; rfl))
theorem kp_203 (hx : kx B bx κ) {k a : Nat} {v : Int} (ha : kal κ 2 k) (e : a = B 2 k) : va_up (hk G B bx h0 κ) a (some (.inr (2, ((ko2 B κ k).set 3 (aI v)).map cv))) = hk G B bx h0 (u2 κ 203 k v) := by
  subst e
  exact hk_put hx ha (fun t' k' q => kc_u (by decide) (by decide) (by decide) (by decide) (by decide) q) (congrArg (fun l => Sum.inr (2, List.map cv l)) (by have e : ∀ f, f ≠ 203 → u2 κ 203 k v f k = κ f k := fun f h => u2_f h; simp only [ko2, u2_s, e 200 (by decide), e 201 (by decide), e 202 (by decide), e 204 (by decide), e 205 (by decide), e 206 (by decide), e 207 (by decide), e 208 (by decide), e 209 (by decide), e 210 (by decide), e 211 (by decide)]; rfl))
theorem kp_204 (hx : kx B bx κ) {k a : Nat} {v : Int} (ha : kal κ 2 k) (e : a = B 2 k) : va_up (hk G B bx h0 κ) a (some (.inr (2, ((ko2 B κ k).set 4 (aI v)).map cv))) = hk G B bx h0 (u2 κ 204 k v) := by
  subst e
  exact hk_put hx ha (fun t' k' q => kc_u (by decide) (by decide) (by decide) (by decide) (by decide) q) (congrArg (fun l => Sum.inr (2, List.map cv l)) (by have e : ∀ f, f ≠ 204 → u2 κ 204 k v f k = κ f k := fun f h => u2_f h; simp only [ko2, u2_s, e 200 (by decide), e 201 (by decide), e 202 (by decide), e 203 (by decide), e 205 (by decide), e 206 (by decide), e 207 (by decide), e 208 (by decide), e 209 (by decide), e 210 (by decide), e 211 (by decide)]; rfl))
theorem kp_205 (hx : kx B bx κ) {k a : Nat} {v : Int} (ha : kal κ 2 k) (e : a = B 2 k) : va_up (hk G B bx h0 κ) a (some (.inr (2, ((ko2 B κ k).set 5 (aI v)).map cv))) = hk G B bx h0 (u2 κ 205 k v) := by
  subst e
  exact hk_put hx ha (fun t' k' q => kc_u (by decide) (by decide) (by decide) (by decide) (by decide) q) (congrArg (fun l => Sum.inr (2, List.map cv l)) (by have e : ∀ f, f ≠ 205 → u2 κ 205 k v f k = κ f k := fun f h => u2_f h; simp only [ko2, u2_s, e 200 (by decide), e 201 (by decide), e 202 (by decide), e 203 (by decide), e 204 (by decide), e 206 (by decide), e 207 (by decide), e 208 (by decide), e 209 (by decide), e 210 (by decide), e 211 (by decide)]; rfl))
theorem kp_206 (hx : kx B bx κ) {k a : Nat} {v : Int} (ha : kal κ 2 k) (e : a = B 2 k) : va_up (hk G B bx h0 κ) a (some (.inr (2, ((ko2 B κ k).set 6 (aI v)).map cv))) = hk G B bx h0 (u2 κ 206 k v) := by
  subst e
  exact hk_put hx ha (fun t' k' q => kc_u (by decide) (by decide) (by decide) (by decide) (by decide) q) (congrArg (fun l => Sum.inr (2, List.map cv l)) (by have e : ∀ f, f ≠ 206 → u2 κ 206 k v f k = κ f k := fun f h => u2_f h; simp only [ko2, u2_s, e 200 (by decide), e 201 (by decide), e 202 (by decide), e 203 (by decide), e 204 (by decide), e 205 (by decide), e 207 (by decide), e 208 (by decide), e 209 (by decide), e 210 (by decide), e 211 (by decide)]; rfl))
theorem kp_207 (hx : kx B bx κ) {k a : Nat} {v : Int} (ha : kal κ 2 k) (e : a = B 2 k) : va_up (hk G B bx h0 κ) a (some (.inr (2, ((ko2 B κ k).set 7 (aI v)).map cv))) = hk G B bx h0 (u2 κ 207 k v) := by
  subst e
  exact hk_put hx ha (fun t' k' q => kc_u (by decide) (by decide) (by decide) (by decide) (by decide) q) (congrArg (fun l => Sum.inr (2, List.map cv l)) (by have e : ∀ f, f ≠ 207 → u2 κ 207 k v f k = κ f k := fun f h => u2_f h; simp only [ko2, u2_s, e 200 (by decide), e 201 (by decide), e 202 (by decide), e 203 (by decide), e 204 (by decide), e 205 (by decide), e 206 (by decide), e 208 (by decide), e 209 (by decide), e 210 (by decide), e 211 (by decide)]; rfl))
theorem kp_208 (hx : kx B bx κ) {k a : Nat} {v : Int} (ha : kal κ 2 k) (e : a = B 2 k) : va_up (hk G B bx h0 κ) a (some (.inr (2, ((ko2 B κ k).set 8 (aL v)).map cv))) = hk G B bx h0 (u2 κ 208 k v) := by
  subst e
  exact hk_put hx ha (fun t' k' q => kc_u (by decide) (by decide) (by decide) (by decide) (by decide) q) (congrArg (fun l => Sum.inr (2, List.map cv l)) (by have e : ∀ f, f ≠ 208 → u2 κ 208 k v f k = κ f k := fun f h => u2_f h; simp only [ko2, u2_s, e 200 (by decide), e 201 (by decide), e 202 (by decide), e 203 (by decide), e 204 (by decide), e 205 (by decide), e 206 (by decide), e 207 (by decide), e 209 (by decide), e 210 (by decide), e 211 (by decide)]; rfl))
theorem kp_209 (hx : kx B bx κ) {k a : Nat} {v : Int} (ha : kal κ 2 k) (e : a = B 2 k) : va_up (hk G B bx h0 κ) a (some (.inr (2, ((ko2 B κ k).set 9 (aL v)).map cv))) = hk G B bx h0 (u2 κ 209 k v) := by
  subst e
  exact hk_put hx ha (fun t' k' q => kc_u (by decide) (by decide) (by decide) (by decide) (by decide) q) (congrArg (fun l => Sum.inr (2, List.map cv l)) (by have e : ∀ f, f ≠ 209 → u2 κ 209 k v f k = κ f k := fun f h => u2_f h; simp only [ko2, u2_s, e 200 (by decide), e 201 (by decide), e 202 (by decide), e 203 (by decide), e 204 (by decide), e 205 (by decide), e 206 (by decide), e 207 (by decide), e 208 (by decide), e 210 (by decide), e 211 (by decide)]; rfl))
theorem kp_210 (hx : kx B bx κ) {k a : Nat} {v : Int} (ha : kal κ 2 k) (e : a = B 2 k) : va_up (hk G B bx h0 κ) a (some (.inr (2, ((ko2 B κ k).set 10 (aL v)).map cv))) = hk G B bx h0 (u2 κ 210 k v) := by
  subst e
  exact hk_put hx ha (fun t' k' q => kc_u (by decide) (by decide) (by decide) (by decide) (by decide) q) (congrArg (fun l => Sum.inr (2, List.map cv l)) (by have e : ∀ f, f ≠ 210 → u2 κ 210 k v f k = κ f k := fun f h => u2_f h; simp only [ko2, u2_s, e 200 (by decide), e 201 (by decide), e 202 (by decide), e 203 (by decide), e 204 (by decide), e 205 (by decide), e 206 (by decide), e 207 (by decide), e 208 (by decide), e 209 (by decide), e 211 (by decide)]; rfl))
theorem kp_211 (hx : kx B bx κ) {k a : Nat} {v : Int} (ha : kal κ 2 k) (e : a = B 2 k) : va_up (hk G B bx h0 κ) a (some (.inr (2, ((ko2 B κ k).set 11 (aI v)).map cv))) = hk G B bx h0 (u2 κ 211 k v) := by
  subst e
  exact hk_put hx ha (fun t' k' q => kc_u (by decide) (by decide) (by decide) (by decide) (by decide) q) (congrArg (fun l => Sum.inr (2, List.map cv l)) (by have e : ∀ f, f ≠ 211 → u2 κ 211 k v f k = κ f k := fun f h => u2_f h; simp only [ko2, u2_s, e 200 (by decide), e 201 (by decide), e 202 (by decide), e 203 (by decide), e 204 (by decide), e 205 (by decide), e 206 (by decide), e 207 (by decide), e 208 (by decide), e 209 (by decide), e 210 (by decide)]; rfl))
theorem kp_306 (hx : kx B bx κ) {k a : Nat} {v : Int} (ha : kal κ 3 k) (e : a = B 3 k) : va_up (hk G B bx h0 κ) a (some (.inr (3, ((ko3 B κ k).set 6 (aI v)).map cv))) = hk G B bx h0 (u2 κ 306 k v) := by
  subst e
  exact hk_put hx ha (fun t' k' q => kc_u (by decide) (by decide) (by decide) (by decide) (by decide) q) (congrArg (fun l => Sum.inr (3, List.map cv l)) (by have e : ∀ f, f ≠ 306 → u2 κ 306 k v f k = κ f k := fun f h => u2_f h; simp only [ko3, u2_s, e 307 (by decide), e 308 (by decide), e 309 (by decide), e 310 (by decide), e 311 (by decide), e 312 (by decide), e 313 (by decide), e 314 (by decide), e 315 (by decide)]; rfl))
theorem kp_307 (hx : kx B bx κ) {k a : Nat} {v : Int} (ha : kal κ 3 k) (e : a = B 3 k) : va_up (hk G B bx h0 κ) a (some (.inr (3, ((ko3 B κ k).set 7 (aI v)).map cv))) = hk G B bx h0 (u2 κ 307 k v) := by
  subst e
  exact hk_put hx ha (fun t' k' q => kc_u (by decide) (by decide) (by decide) (by decide) (by decide) q) (congrArg (fun l => Sum.inr (3, List.map cv l)) (by have e : ∀ f, f ≠ 307 → u2 κ 307 k v f k = κ f k := fun f h => u2_f h; simp only [ko3, u2_s, e 306 (by decide), e 308 (by decide), e 309 (by decide), e 310 (by decide), e 311 (by decide), e 312 (by decide), e 313 (by decide), e 314 (by decide), e 315 (by decide)]; rfl))
theorem kp_308 (hx : kx B bx κ) {k a : Nat} {v : Int} (ha : kal κ 3 k) (e : a = B 3 k) : va_up (hk G B bx h0 κ) a (some (.inr (3, ((ko3 B κ k).set 8 (aI v)).map cv))) = hk G B bx h0 (u2 κ 308 k v) := by
  subst e
  exact hk_put hx ha (fun t' k' q => kc_u (by decide) (by decide) (by decide) (by decide) (by decide) q) (congrArg (fun l => Sum.inr (3, List.map cv l)) (by have e : ∀ f, f ≠ 308 → u2 κ 308 k v f k = κ f k := fun f h => u2_f h; simp only [ko3, u2_s, e 306 (by decide), e 307 (by decide), e 309 (by decide), e 310 (by decide), e 311 (by decide), e 312 (by decide), e 313 (by decide), e 314 (by decide), e 315 (by decide)]; rfl))
theorem kp_309 (hx : kx B bx κ) {k a : Nat} {v : Int} (ha : kal κ 3 k) (e : a = B 3 k) : va_up (hk G B bx h0 κ) a (some (.inr (3, ((ko3 B κ k).set 9 (aI v)).map cv))) = hk G B bx h0 (u2 κ 309 k v) := by
  subst e
  exact hk_put hx ha (fun t' k' q => kc_u (by decide) (by decide) (by decide) (by decide) (by decide) q) (congrArg (fun l => Sum.inr (3, List.map cv l)) (by have e : ∀ f, f ≠ 309 → u2 κ 309 k v f k = κ f k := fun f h => u2_f h; simp only [ko3, u2_s, e 306 (by decide), e 307 (by decide), e 308 (by decide), e 310 (by decide), e 311 (by decide), e 312 (by decide), e 313 (by decide), e 314 (by decide), e 315 (by decide)]; rfl))
theorem kp_310 (hx : kx B bx κ) {k a : Nat} {v : Int} (ha : kal κ 3 k) (e : a = B 3 k) : va_up (hk G B bx h0 κ) a (some (.inr (3, ((ko3 B κ k).set 10 (aL v)).map cv))) = hk G B bx h0 (u2 κ 310 k v) := by
  subst e
  exact hk_put hx ha (fun t' k' q => kc_u (by decide) (by decide) (by decide) (by decide) (by decide) q) (congrArg (fun l => Sum.inr (3, List.map cv l)) (by have e : ∀ f, f ≠ 310 → u2 κ 310 k v f k = κ f k := fun f h => u2_f h; simp only [ko3, u2_s, e 306 (by decide), e 307 (by decide), e 308 (by decide), e 309 (by decide), e 311 (by decide), e 312 (by decide), e 313 (by decide), e 314 (by decide), e 315 (by decide)]; rfl))
theorem kp_311 (hx : kx B bx κ) {k a : Nat} {v : Int} (ha : kal κ 3 k) (e : a = B 3 k) : va_up (hk G B bx h0 κ) a (some (.inr (3, ((ko3 B κ k).set 11 (aL v)).map cv))) = hk G B bx h0 (u2 κ 311 k v) := by
  subst e
  exact hk_put hx ha (fun t' k' q => kc_u (by decide) (by decide) (by decide) (by decide) (by decide) q) (congrArg (fun l => Sum.inr (3, List.map cv l)) (by have e : ∀ f, f ≠ 311 → u2 κ 311 k v f k = κ f k := fun f h => u2_f h; simp only [ko3, u2_s, e 306 (by decide), e 307 (by decide), e 308 (by decide), e 309 (by decide), e 310 (by decide), e 312 (by decide), e 313 (by decide), e 314 (by decide), e 315 (by decide)]; rfl))
theorem kp_312 (hx : kx B bx κ) {k a : Nat} {v : Int} (ha : kal κ 3 k) (e : a = B 3 k) : va_up (hk G B bx h0 κ) a (some (.inr (3, ((ko3 B κ k).set 12 (aI v)).map cv))) = hk G B bx h0 (u2 κ 312 k v) := by
  subst e
  exact hk_put hx ha (fun t' k' q => kc_u (by decide) (by decide) (by decide) (by decide) (by decide) q) (congrArg (fun l => Sum.inr (3, List.map cv l)) (by have e : ∀ f, f ≠ 312 → u2 κ 312 k v f k = κ f k := fun f h => u2_f h; simp only [ko3, u2_s, e 306 (by decide), e 307 (by decide), e 308 (by decide), e 309 (by decide), e 310 (by decide), e 311 (by decide), e 313 (by decide), e 314 (by decide), e 315 (by decide)]; rfl))
theorem kp_313 (hx : kx B bx κ) {k a : Nat} {v : Int} (ha : kal κ 3 k) (e : a = B 3 k) : va_up (hk G B bx h0 κ) a (some (.inr (3, ((ko3 B κ k).set 13 (aI v)).map cv))) = hk G B bx h0 (u2 κ 313 k v) := by
  subst e
  exact hk_put hx ha (fun t' k' q => kc_u (by decide) (by decide) (by decide) (by decide) (by decide) q) (congrArg (fun l => Sum.inr (3, List.map cv l)) (by have e : ∀ f, f ≠ 313 → u2 κ 313 k v f k = κ f k := fun f h => u2_f h; simp only [ko3, u2_s, e 306 (by decide), e 307 (by decide), e 308 (by decide), e 309 (by decide), e 310 (by decide), e 311 (by decide), e 312 (by decide), e 314 (by decide), e 315 (by decide)]; rfl))
theorem kp_314 (hx : kx B bx κ) {k a : Nat} {v : Int} (ha : kal κ 3 k) (e : a = B 3 k) : va_up (hk G B bx h0 κ) a (some (.inr (3, ((ko3 B κ k).set 14 (aI v)).map cv))) = hk G B bx h0 (u2 κ 314 k v) := by
  subst e
  exact hk_put hx ha (fun t' k' q => kc_u (by decide) (by decide) (by decide) (by decide) (by decide) q) (congrArg (fun l => Sum.inr (3, List.map cv l)) (by have e : ∀ f, f ≠ 314 → u2 κ 314 k v f k = κ f k := fun f h => u2_f h; simp only [ko3, u2_s, e 306 (by decide), e 307 (by decide), e 308 (by decide), e 309 (by decide), e 310 (by decide), e 311 (by decide), e 312 (by decide), e 313 (by decide), e 315 (by decide)]; rfl))
theorem kp_315 (hx : kx B bx κ) {k a : Nat} {v : Int} (ha : kal κ 3 k) (e : a = B 3 k) : va_up (hk G B bx h0 κ) a (some (.inr (3, ((ko3 B κ k).set 15 (aI v)).map cv))) = hk G B bx h0 (u2 κ 315 k v) := by
  subst e
  exact hk_put hx ha (fun t' k' q => kc_u (by decide) (by decide) (by decide) (by decide) (by decide) q) (congrArg (fun l => Sum.inr (3, List.map cv l)) (by have e : ∀ f, f ≠ 315 → u2 κ 315 k v f k = κ f k := fun f h => u2_f h; simp only [ko3, u2_s, e 306 (by decide), e 307 (by decide), e 308 (by decide), e 309 (by decide), e 310 (by decide), e 311 (by decide), e 312 (by decide), e 313 (by decide), e 314 (by decide)]; rfl))
theorem kp_400 (hx : kx B bx κ) {k a : Nat} {v : Int} (ha : kal κ 4 k) (e : a = B 4 k) : va_up (hk G B bx h0 κ) a (some (.inr (4, ((ko4 B κ k).set 0 (aI v)).map cv))) = hk G B bx h0 (u2 κ 400 k v) := by
  subst e
  exact hk_put hx ha (fun t' k' q => kc_u (by decide) (by decide) (by decide) (by decide) (by decide) q) (congrArg (fun l => Sum.inr (4, List.map cv l)) (by have e : ∀ f, f ≠ 400 → u2 κ 400 k v f k = κ f k := fun f h => u2_f h; simp only [ko4, u2_s, e 401 (by decide), e 402 (by decide), e 403 (by decide), e 404 (by decide), e 405 (by decide)]; rfl))
theorem kp_401 (hx : kx B bx κ) {k a : Nat} {v : Int} (ha : kal κ 4 k) (e : a = B 4 k) : va_up (hk G B bx h0 κ) a (some (.inr (4, ((ko4 B κ k).set 1 (aI v)).map cv))) = hk G B bx h0 (u2 κ 401 k v) := by
  subst e
  exact hk_put hx ha (fun t' k' q => kc_u (by decide) (by decide) (by decide) (by decide) (by decide) q) (congrArg (fun l => Sum.inr (4, List.map cv l)) (by have e : ∀ f, f ≠ 401 → u2 κ 401 k v f k = κ f k := fun f h => u2_f h; simp only [ko4, u2_s, e 400 (by decide), e 402 (by decide), e 403 (by decide), e 404 (by decide), e 405 (by decide)]; rfl))
theorem kp_402 (hx : kx B bx κ) {k a : Nat} {v : Int} (ha : kal κ 4 k) (e : a = B 4 k) : va_up (hk G B bx h0 κ) a (some (.inr (4, ((ko4 B κ k).set 2 (aI v)).map cv))) = hk G B bx h0 (u2 κ 402 k v) := by
  subst e
  exact hk_put hx ha (fun t' k' q => kc_u (by decide) (by decide) (by decide) (by decide) (by decide) q) (congrArg (fun l => Sum.inr (4, List.map cv l)) (by have e : ∀ f, f ≠ 402 → u2 κ 402 k v f k = κ f k := fun f h => u2_f h; simp only [ko4, u2_s, e 400 (by decide), e 401 (by decide), e 403 (by decide), e 404 (by decide), e 405 (by decide)]; rfl))
theorem kp_403 (hx : kx B bx κ) {k a : Nat} {v : Int} (ha : kal κ 4 k) (e : a = B 4 k) : va_up (hk G B bx h0 κ) a (some (.inr (4, ((ko4 B κ k).set 3 (aI v)).map cv))) = hk G B bx h0 (u2 κ 403 k v) := by
  subst e
  exact hk_put hx ha (fun t' k' q => kc_u (by decide) (by decide) (by decide) (by decide) (by decide) q) (congrArg (fun l => Sum.inr (4, List.map cv l)) (by have e : ∀ f, f ≠ 403 → u2 κ 403 k v f k = κ f k := fun f h => u2_f h; simp only [ko4, u2_s, e 400 (by decide), e 401 (by decide), e 402 (by decide), e 404 (by decide), e 405 (by decide)]; rfl))
theorem kp_404 (hx : kx B bx κ) {k a : Nat} {v : Int} (ha : kal κ 4 k) (e : a = B 4 k) : va_up (hk G B bx h0 κ) a (some (.inr (4, ((ko4 B κ k).set 4 (aI v)).map cv))) = hk G B bx h0 (u2 κ 404 k v) := by
  subst e
  exact hk_put hx ha (fun t' k' q => kc_u (by decide) (by decide) (by decide) (by decide) (by decide) q) (congrArg (fun l => Sum.inr (4, List.map cv l)) (by have e : ∀ f, f ≠ 404 → u2 κ 404 k v f k = κ f k := fun f h => u2_f h; simp only [ko4, u2_s, e 400 (by decide), e 401 (by decide), e 402 (by decide), e 403 (by decide), e 405 (by decide)]; rfl))
theorem kp_405 (hx : kx B bx κ) {k a : Nat} {v : Int} (ha : kal κ 4 k) (e : a = B 4 k) : va_up (hk G B bx h0 κ) a (some (.inr (4, ((ko4 B κ k).set 5 (aI v)).map cv))) = hk G B bx h0 (u2 κ 405 k v) := by
  subst e
  exact hk_put hx ha (fun t' k' q => kc_u (by decide) (by decide) (by decide) (by decide) (by decide) q) (congrArg (fun l => Sum.inr (4, List.map cv l)) (by have e : ∀ f, f ≠ 405 → u2 κ 405 k v f k = κ f k := fun f h => u2_f h; simp only [ko4, u2_s, e 400 (by decide), e 401 (by decide), e 402 (by decide), e 403 (by decide), e 404 (by decide)]; rfl))
theorem kp_505 (hx : kx B bx κ) {k a : Nat} {v : Int} (ha : kal κ 5 k) (e : a = B 5 k) : va_up (hk G B bx h0 κ) a (some (.inr (5, ((ko5 B κ k).set 5 (aI v)).map cv))) = hk G B bx h0 (u2 κ 505 k v) := by
  subst e
  exact hk_put hx ha (fun t' k' q => kc_u (by decide) (by decide) (by decide) (by decide) (by decide) q) (congrArg (fun l => Sum.inr (5, List.map cv l)) (by have e : ∀ f, f ≠ 505 → u2 κ 505 k v f k = κ f k := fun f h => u2_f h; simp only [ko5, u2_s, e 506 (by decide), e 507 (by decide)]; rfl))
theorem kp_506 (hx : kx B bx κ) {k a : Nat} {v : Int} (ha : kal κ 5 k) (e : a = B 5 k) : va_up (hk G B bx h0 κ) a (some (.inr (5, ((ko5 B κ k).set 6 (aI v)).map cv))) = hk G B bx h0 (u2 κ 506 k v) := by
  subst e
  exact hk_put hx ha (fun t' k' q => kc_u (by decide) (by decide) (by decide) (by decide) (by decide) q) (congrArg (fun l => Sum.inr (5, List.map cv l)) (by have e : ∀ f, f ≠ 506 → u2 κ 506 k v f k = κ f k := fun f h => u2_f h; simp only [ko5, u2_s, e 505 (by decide), e 507 (by decide)]; rfl))
theorem kp_507 (hx : kx B bx κ) {k a : Nat} {v : Int} (ha : kal κ 5 k) (e : a = B 5 k) : va_up (hk G B bx h0 κ) a (some (.inr (5, ((ko5 B κ k).set 7 (aI v)).map cv))) = hk G B bx h0 (u2 κ 507 k v) := by
  subst e
  exact hk_put hx ha (fun t' k' q => kc_u (by decide) (by decide) (by decide) (by decide) (by decide) q) (congrArg (fun l => Sum.inr (5, List.map cv l)) (by have e : ∀ f, f ≠ 507 → u2 κ 507 k v f k = κ f k := fun f h => u2_f h; simp only [ko5, u2_s, e 505 (by decide), e 506 (by decide)]; rfl))
theorem hk_w (hx : kx B bx κ) {r c : Nat} (ha : kal κ 17 r) (hc : κ 601 r = c) {a : Nat} (e : a = B 17 r) : hk G B bx h0 κ a = some (.inl (mm_dA G c, (κ 600 r).toNat, .inl (fun q => iI (κ (1000 + r) q)))) := by
  subst e
  have := hk_c (G := G) (h0 := h0) hx ha
  rw [this]
  show some (Sum.inl (mm_dA G (κ 601 r).toNat, _)) = _
  rw [hc]
  rfl
theorem kp_w (hx : kx B bx κ) {r c i : Nat} {v : Int} (ha : kal κ 17 r) (hc : κ 601 r = c) {a : Nat} (e : a = B 17 r) : va_up (hk G B bx h0 κ) a (some (.inl (mm_dA G c, (κ 600 r).toNat, .inl (fun q => iI (if q = i then v else κ (1000 + r) q))))) = hk G B bx h0 (u2 κ (1000 + r) i v) := by
  subst e
  refine hk_put hx ha (fun t' k' q => kc_r q) ?_
  show _ = Sum.inl (mm_dA G (u2 κ (1000 + r) i v 601 r).toNat, (u2 κ (1000 + r) i v 600 r).toNat, Sum.inl (fun q => iI (u2 κ (1000 + r) i v (1000 + r) q)))
  rw [u2_f (show 601 ≠ 1000 + r by omega), u2_f (show 600 ≠ 1000 + r by omega), hc]
  simp only [u2_g]
  rfl
theorem kp_wf (hx : kx B bx κ) {r c : Nat} {w : Nat → Int} (ha : kal κ 17 r) (hc : κ 601 r = c) {a : Nat} (e : a = B 17 r) : va_up (hk G B bx h0 κ) a (some (.inl (mm_dA G c, (κ 600 r).toNat, .inl (fun q => iI (w q))))) = hk G B bx h0 (uf κ (1000 + r) w) := by
  subst e
  refine hk_put hx ha (fun t' k' q => kc_f q) ?_
  show _ = Sum.inl (mm_dA G (uf κ (1000 + r) w 601 r).toNat, (uf κ (1000 + r) w 600 r).toNat, Sum.inl (fun q => iI (uf κ (1000 + r) w (1000 + r) q)))
  rw [uf_f (show 601 ≠ 1000 + r by omega), uf_f (show 600 ≠ 1000 + r by omega), hc]
  simp only [uf_s]
  rfl
/-- element i of a side's array of ten -/
def kg (κ : Nat → Nat → Int) (f s : Nat) : Nat → Int := fun q => if q < 10 then κ f (16 * s + q) else 0
theorem kg_i {f : Nat} {s i : Int} (h1 : 0 ≤ s) (h2 : 0 ≤ i) (h3 : i < 10) : kg κ f s.toNat i.toNat = κ f (16 * s + i).toNat := by
  unfold kg
  rw [if_pos (by omega), show 16 * s.toNat + i.toNat = (16 * s + i).toNat by omega]
theorem hk_g (hx : kx B bx κ) {s : Nat} (ha : s < 2) {a : Nat} (e : a = B 12 s) : hk G B bx h0 κ a = some (.inl (mm_dA G 0, 10, .inl (fun q => iI (kg κ 360 s q)))) := by subst e; exact hk_c hx (t := 12) ha
theorem hk_p (hx : kx B bx κ) {s : Nat} (ha : s < 2) {a : Nat} (e : a = B 13 s) : hk G B bx h0 κ a = some (.inl (mm_dA G 0, 10, .inl (fun q => iI (kg κ 361 s q)))) := by subst e; exact hk_c hx (t := 13) ha
theorem kp_g (hx : kx B bx κ) {s i v : Int} (h1 : 0 ≤ s) (h2 : s ≤ 1) (h3 : 0 ≤ i) (h4 : i < 10) {a : Nat} (e : a = B 12 s.toNat) : va_up (hk G B bx h0 κ) a (some (.inl (mm_dA G 0, 10, .inl (fun q => iI (if q = i.toNat then v else kg κ 360 s.toNat q))))) = hk G B bx h0 (u2 κ 360 (16 * s + i).toNat v) := by
  subst e
  rw [show (16 * s + i).toNat = 16 * s.toNat + i.toNat by omega]
  refine hk_put hx (t := 12) (show s.toNat < 2 by omega) (fun t' k' q => kc_g (by omega) q) ?_
  show _ = Sum.inl (mm_dA G 0, 10, Sum.inl (fun q => iI (if q < 10 then u2 κ 360 (16 * s.toNat + i.toNat) v 360 (16 * s.toNat + q) else 0)))
  congr 4
  funext q
  unfold kg
  rw [u2_g]
  by_cases e : q = i.toNat
  · rw [if_pos e, if_pos (show q < 10 by omega), if_pos (by omega)]
  · rw [if_neg e]
    by_cases e2 : q < 10
    · rw [if_pos e2, if_pos e2, if_neg (by omega)]
    · rw [if_neg e2, if_neg e2]
theorem hk_sides (hx : kx B bx κ) {a : Nat} (e : a = B 10 0) : hk G B bx h0 κ a = some (.inl (mm_dA G 8, 2, mm_inr (fun q => if q < 2 then some (B 3 q) else none))) := by subst e; exact hk_c hx (t := 10) rfl
theorem hk_places (hx : kx B bx κ) {a : Nat} (e : a = B 11 0) : hk G B bx h0 κ a = some (.inl (mm_dA G 5, 64, mm_inr (fun q => if q < 64 then some (B 0 q) else none))) := by subst e; exact hk_c hx (t := 11) rfl
theorem hk_ways (hx : kx B bx κ) {s : Nat} (ha : s < 2) {a : Nat} (e : a = B 14 s) : hk G B bx h0 κ a = some (.inl (mm_dA G 9, 2, mm_inr (fun q => if q < 2 then some (B 4 (2 * s + q)) else none))) := by subst e; exact hk_c hx (t := 14) ha
theorem hk_ss (hx : kx B bx κ) {s : Nat} (ha : s < 2) {a : Nat} (e : a = B 15 s) : hk G B bx h0 κ a = some (.inl (mm_dA G 7, 256, mm_inr (fun q => if κ 290 (256 * s + q) = 1 ∧ q < 256 then some (B 2 (256 * s + q)) else none))) := by subst e; exact hk_c hx (t := 15) ha
theorem hk_rs (hx : kx B bx κ) {s : Nat} (ha : s < 2) {a : Nat} (e : a = B 16 s) : hk G B bx h0 κ a = some (.inl (mm_dA G 6, 256, mm_inr (fun q => if κ 190 (256 * s + q) = 1 ∧ q < 256 then some (B 1 (256 * s + q)) else none))) := by subst e; exact hk_c hx (t := 16) ha
theorem ka_3 {i : Int} (h1 : 0 ≤ i) (h2 : i < 2) : (if i.toNat < 2 then some (B 3 i.toNat) else none) = some (B 3 i.toNat) := if_pos (by omega)
theorem ka_0 {i : Int} (h1 : 0 ≤ i) (h2 : i < 64) : (if i.toNat < 64 then some (B 0 i.toNat) else none) = some (B 0 i.toNat) := if_pos (by omega)
theorem ka_4 {s i : Int} (h0 : 0 ≤ s) (h1 : 0 ≤ i) (h2 : i < 2) : (if i.toNat < 2 then some (B 4 (2 * s.toNat + i.toNat)) else none) = some (B 4 (2 * s + i).toNat) := by
  rw [if_pos (by omega), show 2 * s.toNat + i.toNat = (2 * s + i).toNat by omega]
theorem ka_y {f t : Nat} {s i : Int} (h0 : 0 ≤ s) (h1 : 0 ≤ i) (h2 : i < 256) (e : κ f (mj s i) = 1) : (if κ f (256 * s.toNat + i.toNat) = 1 ∧ i.toNat < 256 then some (B t (256 * s.toNat + i.toNat)) else none) = some (B t (mj s i)) := by
  have z : 256 * s.toNat + i.toNat = mj s i := by unfold mj; omega
  rw [z, if_pos ⟨e, by omega⟩]
theorem ka_n {f t : Nat} {s i : Int} (h0 : 0 ≤ s) (h1 : 0 ≤ i) (h2 : i < 256) (e : ¬ κ f (mj s i) = 1) : (if κ f (256 * s.toNat + i.toNat) = 1 ∧ i.toNat < 256 then some (B t (256 * s.toNat + i.toNat)) else none) = none := by
  have z : 256 * s.toNat + i.toNat = mj s i := by unfold mj; omega
  rw [z, if_neg (fun q => e q.1)]
theorem kr_n {r : Int} (h : r < 0) : krow B r = aN := if_pos h
theorem kr_r {r : Int} (h : ¬ r < 0) : krow B r = aR (B 17 r.toNat) := if_neg h
end KM
