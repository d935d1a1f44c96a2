section MR17
variable {L : Launch} {G : mmG} {A : Nat → Nat} {ax : Nat → Option Nat} {h0 : mmH} {μ ν : Nat → Nat → Int}
theorem mi_rh6 {M : mmM} {MC MS : Nat} {PR : Option Value → mmH → Prop} {PX : String → mmH → Prop} {θ : mmT} {f j : Nat} {l : List (Nat × AV)} {st : List AV} {h h' : mmH} {cs sl : Nat} (e : h = h') (k : mi_run L G M MC MS PR PX θ f j l st h' cs sl) : mi_run L G M MC MS PR PX θ f j l st h cs sl := e ▸ k
theorem mV0 : mV (fun _ _ => 0) := by
  intro f k
  by_cases q : f < 61
  · exact (show ∀ f, f < 61 → vlo f ≤ 0 ∧ 0 ≤ vhi f by decide +kernel) f q
  · rw [vlo_big (by omega), vhi_big (by omega)]; exact ⟨Int.le_refl _, Int.le_refl _⟩
def cR6 (G : mmG) (a : Nat) (h : mmH) (S : Nat → Nat → Int) : Option Value → mmH → Prop := fun r h1 => ∃ A ax, mx A ax ∧ A 99 = a ∧ (∀ q f, ax q = some f → q = a ∨ h q = none) ∧ mRetS none (hm G A ax h S) (mV S) r h1
theorem c6 {S : Nat → Nat → Int} (hx : mx A ax) (hfr : ∀ q f, ax q = some f → q = A 99 ∨ h0 q = none) (e : S = μ) (hv : mV μ) : cR6 G (A 99) h0 S none (hm G A ax h0 μ) := ⟨A, ax, hx, rfl, hfr, mRetVS e hv⟩
theorem cfl_h {h : mmH} {b : Nat} : ∀ {l : List (Nat × Nat)}, cfl G h l b = none → h b = none
  | [], hb => hb
  | p :: l, hb => by
    have hb : va_up (cfl G h l) p.1 (some (.inl (mm_dA G (mf_ty p.2), mm_zero (mf_ty p.2) (mf_len p.2)))) b = none := hb
    by_cases e : b = p.1
    · rw [e, up_s] at hb; cases hb
    · rw [up_n e] at hb; exact cfl_h hb
theorem cnh_c {h : mmH} {a b f : Nat} {o : va_E} {l : List (Nat × Nat)} (hn : va_up (cfl G h l) a (some o) b = none) (hd : ∀ p ∈ l, h p.1 = none) : ∀ p ∈ ((b, f) :: l), h p.1 = none := by
  have e : b ≠ a := fun z => by rw [z, up_s] at hn; cases hn
  rw [up_n e] at hn
  intro p hp
  rcases List.mem_cons.mp hp with z | z
  · rw [z]; exact cfl_h hn
  · exact hd p z
theorem nd_inj : ∀ (l : List (Nat × Nat)), (l.map Prod.snd).Nodup → ∀ p ∈ l, ∀ q ∈ l, p.2 = q.2 → p = q
  | [], _, _, hp, _, _, _ => absurd hp List.not_mem_nil
  | r :: l, hn, p, hp, q, hq, e => by
    rw [List.map_cons, List.nodup_cons] at hn
    rcases List.mem_cons.mp hp with z | z <;> rcases List.mem_cons.mp hq with w | w
    · rw [z, w]
    · exact absurd (List.mem_map.mpr ⟨q, w, by rw [← e, z]⟩) hn.1
    · exact absurd (List.mem_map.mpr ⟨p, z, by rw [e, w]⟩) hn.1
    · exact nd_inj l hn.2 p z q w e
theorem mm_bl6 : mm_blank 6 = [aI 0, aI 0, aN, aI 0, aN, aI 0, aN, aN, aN, aN, aN, aN, aN, aN, aN, aN, aN, aN, aN, aN, aN, aN, aN, aN, aN, aN, aN, aN, aN, aN, aN, aN, aN, aN, aN, aN, aN, aN, aN, aN, aN, aN, aN, aN, aN, aI 0, aL 0, aL 0, aL 0, aI 0, aN, aN, aN, aN, aN, aN, aN, aN, aN, aN, aN].map cv := rfl
def s_init6_304 (μ : Nat → Nat → Int) : Nat → Int → (Nat → Nat → Int) → (Nat → Nat → Int)
  | 0, _, ν => ν
  | d + 1, k, ν => (if 512 ≤ k then ν else (s_init6_304 μ d (k + 1) (u2 (u2 ν 26 k.toNat (-1)) 24 k.toNat (-1))))
def s_init6 (μ : Nat → Nat → Int) : Nat → Nat → Int := (s_init6_304 μ 513 0 (u2 (u2 (u2 (u2 (u2 (u2 (u2 (u2 (u2 (u2 (u2 (u2 (u2 (u2 (u2 (u2 (u2 (u2 (u2 (u2 (u2 (u2 (u2 (u2 (u2 (u2 μ 6 4 4096) 6 5 1024) 6 6 1024) 6 7 1024) 6 8 4) 6 9 4) 11 0 4096) 10 0 4) 10 1 4) 16 0 (-1)) 14 0 (-1)) 14 1 (-1)) 14 2 (-1)) 6 20 4096) 6 21 1024) 6 22 1024) 6 23 1024) 6 24 4) 6 25 4) 11 1 4096) 10 2 4) 10 3 4) 16 1 (-1)) 14 3 (-1)) 14 4 (-1)) 14 5 (-1)))
set_option maxRecDepth 100000 in
set_option maxHeartbeats 8000000 in
theorem m_init6 (hF : mm_F G) (htr : L.stackTraces = false) {a : Nat} {h0 : mmH} :
    mm_Met L G SX6_init [.ref a] (va_up h0 a (some (.inr (6, mm_blank 6)))) 52 852618 (cR6 G a h0 (s_init6 (fun _ _ => 0))) mm_no := by
  refine mi_meth MX6_init 1200 hF htr okX6_init (av := [aR a]) (by decide +kernel) (Nat.le_of_ble_eq_true rfl) cmX6_init (fun θ hc => ?_)
  rw [mm_bl6]
  have d_0 : cnd a [] := trivial
  have c_0 : ∀ p ∈ ([] : List (Nat × Nat)), h0 p.1 = none := fun _ hp => absurd hp List.not_mem_nil
  refine ⟨by omega, (Nat.le_of_ble_eq_true rfl), (Nat.le_of_ble_eq_true rfl), fun b2 hn2 _ => ?_⟩
  have d_2 := cnd_c (G := G) (h := h0) (l := []) (f := 2) hn2 d_0
  have c_2 := cnh_c (G := G) (h := h0) (l := []) (f := 2) hn2 c_0
  refine ⟨_, cs_r hn2, trivial, _, cs_u (G := G) (h := h0) (l := []) (f := 2) (o' := .inr (6, [aI 0, aI 0, aR b2, aI 0, aN, aI 0, aN, aN, aN, aN, aN, aN, aN, aN, aN, aN, aN, aN, aN, aN, aN, aN, aN, aN, aN, aN, aN, aN, aN, aN, aN, aN, aN, aN, aN, aN, aN, aN, aN, aN, aN, aN, aN, aN, aN, aI 0, aL 0, aL 0, aL 0, aI 0, aN, aN, aN, aN, aN, aN, aN, aN, aN, aN, aN].map cv)) rfl rfl, ?_⟩
  refine ⟨by omega, (Nat.le_of_ble_eq_true rfl), (Nat.le_of_ble_eq_true rfl), fun b4 hn4 _ => ?_⟩
  have d_4 := cnd_c (G := G) (h := h0) (f := 4) hn4 d_2
  have c_4 := cnh_c (G := G) (h := h0) (f := 4) hn4 c_2
  refine ⟨_, cs_r hn4, trivial, _, cs_u (G := G) (h := h0) (f := 4) (o' := .inr (6, [aI 0, aI 0, aR b2, aI 0, aR b4, aI 0, aN, aN, aN, aN, aN, aN, aN, aN, aN, aN, aN, aN, aN, aN, aN, aN, aN, aN, aN, aN, aN, aN, aN, aN, aN, aN, aN, aN, aN, aN, aN, aN, aN, aN, aN, aN, aN, aN, aN, aI 0, aL 0, aL 0, aL 0, aI 0, aN, aN, aN, aN, aN, aN, aN, aN, aN, aN, aN].map cv)) rfl rfl, ?_⟩
  refine ⟨by omega, (Nat.le_of_ble_eq_true rfl), (Nat.le_of_ble_eq_true rfl), fun b6 hn6 _ => ?_⟩
  have d_6 := cnd_c (G := G) (h := h0) (f := 6) hn6 d_4
  have c_6 := cnh_c (G := G) (h := h0) (f := 6) hn6 c_4
  refine ⟨_, cs_r hn6, trivial, _, cs_u (G := G) (h := h0) (f := 6) (o' := .inr (6, [aI 0, aI 0, aR b2, aI 0, aR b4, aI 0, aR b6, aN, aN, aN, aN, aN, aN, aN, aN, aN, aN, aN, aN, aN, aN, aN, aN, aN, aN, aN, aN, aN, aN, aN, aN, aN, aN, aN, aN, aN, aN, aN, aN, aN, aN, aN, aN, aN, aN, aI 0, aL 0, aL 0, aL 0, aI 0, aN, aN, aN, aN, aN, aN, aN, aN, aN, aN, aN].map cv)) rfl rfl, ?_⟩
  refine ⟨by omega, (Nat.le_of_ble_eq_true rfl), (Nat.le_of_ble_eq_true rfl), fun b7 hn7 _ => ?_⟩
  have d_7 := cnd_c (G := G) (h := h0) (f := 7) hn7 d_6
  have c_7 := cnh_c (G := G) (h := h0) (f := 7) hn7 c_6
  refine ⟨_, cs_r hn7, trivial, _, cs_u (G := G) (h := h0) (f := 7) (o' := .inr (6, [aI 0, aI 0, aR b2, aI 0, aR b4, aI 0, aR b6, aR b7, aN, aN, aN, aN, aN, aN, aN, aN, aN, aN, aN, aN, aN, aN, aN, aN, aN, aN, aN, aN, aN, aN, aN, aN, aN, aN, aN, aN, aN, aN, aN, aN, aN, aN, aN, aN, aN, aI 0, aL 0, aL 0, aL 0, aI 0, aN, aN, aN, aN, aN, aN, aN, aN, aN, aN, aN].map cv)) rfl rfl, ?_⟩
  refine ⟨by omega, (Nat.le_of_ble_eq_true rfl), (Nat.le_of_ble_eq_true rfl), fun b8 hn8 _ => ?_⟩
  have d_8 := cnd_c (G := G) (h := h0) (f := 8) hn8 d_7
  have c_8 := cnh_c (G := G) (h := h0) (f := 8) hn8 c_7
  refine ⟨_, cs_r hn8, trivial, _, cs_u (G := G) (h := h0) (f := 8) (o' := .inr (6, [aI 0, aI 0, aR b2, aI 0, aR b4, aI 0, aR b6, aR b7, aR b8, aN, aN, aN, aN, aN, aN, aN, aN, aN, aN, aN, aN, aN, aN, aN, aN, aN, aN, aN, aN, aN, aN, aN, aN, aN, aN, aN, aN, aN, aN, aN, aN, aN, aN, aN, aN, aI 0, aL 0, aL 0, aL 0, aI 0, aN, aN, aN, aN, aN, aN, aN, aN, aN, aN, aN].map cv)) rfl rfl, ?_⟩
  refine ⟨by omega, (Nat.le_of_ble_eq_true rfl), (Nat.le_of_ble_eq_true rfl), fun b9 hn9 _ => ?_⟩
  have d_9 := cnd_c (G := G) (h := h0) (f := 9) hn9 d_8
  have c_9 := cnh_c (G := G) (h := h0) (f := 9) hn9 c_8
  refine ⟨_, cs_r hn9, trivial, _, cs_u (G := G) (h := h0) (f := 9) (o' := .inr (6, [aI 0, aI 0, aR b2, aI 0, aR b4, aI 0, aR b6, aR b7, aR b8, aR b9, aN, aN, aN, aN, aN, aN, aN, aN, aN, aN, aN, aN, aN, aN, aN, aN, aN, aN, aN, aN, aN, aN, aN, aN, aN, aN, aN, aN, aN, aN, aN, aN, aN, aN, aN, aI 0, aL 0, aL 0, aL 0, aI 0, aN, aN, aN, aN, aN, aN, aN, aN, aN, aN, aN].map cv)) rfl rfl, ?_⟩
  refine ⟨by omega, (Nat.le_of_ble_eq_true rfl), (Nat.le_of_ble_eq_true rfl), fun b10 hn10 _ => ?_⟩
  have d_10 := cnd_c (G := G) (h := h0) (f := 10) hn10 d_9
  have c_10 := cnh_c (G := G) (h := h0) (f := 10) hn10 c_9
  refine ⟨_, cs_r hn10, trivial, _, cs_u (G := G) (h := h0) (f := 10) (o' := .inr (6, [aI 0, aI 0, aR b2, aI 0, aR b4, aI 0, aR b6, aR b7, aR b8, aR b9, aR b10, aN, aN, aN, aN, aN, aN, aN, aN, aN, aN, aN, aN, aN, aN, aN, aN, aN, aN, aN, aN, aN, aN, aN, aN, aN, aN, aN, aN, aN, aN, aN, aN, aN, aN, aI 0, aL 0, aL 0, aL 0, aI 0, aN, aN, aN, aN, aN, aN, aN, aN, aN, aN, aN].map cv)) rfl rfl, ?_⟩
  refine ⟨by omega, (Nat.le_of_ble_eq_true rfl), (Nat.le_of_ble_eq_true rfl), fun b11 hn11 _ => ?_⟩
  have d_11 := cnd_c (G := G) (h := h0) (f := 11) hn11 d_10
  have c_11 := cnh_c (G := G) (h := h0) (f := 11) hn11 c_10
  refine ⟨_, cs_r hn11, trivial, _, cs_u (G := G) (h := h0) (f := 11) (o' := .inr (6, [aI 0, aI 0, aR b2, aI 0, aR b4, aI 0, aR b6, aR b7, aR b8, aR b9, aR b10, aR b11, aN, aN, aN, aN, aN, aN, aN, aN, aN, aN, aN, aN, aN, aN, aN, aN, aN, aN, aN, aN, aN, aN, aN, aN, aN, aN, aN, aN, aN, aN, aN, aN, aN, aI 0, aL 0, aL 0, aL 0, aI 0, aN, aN, aN, aN, aN, aN, aN, aN, aN, aN, aN].map cv)) rfl rfl, ?_⟩
  refine ⟨by omega, (Nat.le_of_ble_eq_true rfl), (Nat.le_of_ble_eq_true rfl), fun b12 hn12 _ => ?_⟩
  have d_12 := cnd_c (G := G) (h := h0) (f := 12) hn12 d_11
  have c_12 := cnh_c (G := G) (h := h0) (f := 12) hn12 c_11
  refine ⟨_, cs_r hn12, trivial, _, cs_u (G := G) (h := h0) (f := 12) (o' := .inr (6, [aI 0, aI 0, aR b2, aI 0, aR b4, aI 0, aR b6, aR b7, aR b8, aR b9, aR b10, aR b11, aR b12, aN, aN, aN, aN, aN, aN, aN, aN, aN, aN, aN, aN, aN, aN, aN, aN, aN, aN, aN, aN, aN, aN, aN, aN, aN, aN, aN, aN, aN, aN, aN, aN, aI 0, aL 0, aL 0, aL 0, aI 0, aN, aN, aN, aN, aN, aN, aN, aN, aN, aN, aN].map cv)) rfl rfl, ?_⟩
  refine ⟨by omega, (Nat.le_of_ble_eq_true rfl), (Nat.le_of_ble_eq_true rfl), fun b13 hn13 _ => ?_⟩
  have d_13 := cnd_c (G := G) (h := h0) (f := 13) hn13 d_12
  have c_13 := cnh_c (G := G) (h := h0) (f := 13) hn13 c_12
  refine ⟨_, cs_r hn13, trivial, _, cs_u (G := G) (h := h0) (f := 13) (o' := .inr (6, [aI 0, aI 0, aR b2, aI 0, aR b4, aI 0, aR b6, aR b7, aR b8, aR b9, aR b10, aR b11, aR b12, aR b13, aN, aN, aN, aN, aN, aN, aN, aN, aN, aN, aN, aN, aN, aN, aN, aN, aN, aN, aN, aN, aN, aN, aN, aN, aN, aN, aN, aN, aN, aN, aN, aI 0, aL 0, aL 0, aL 0, aI 0, aN, aN, aN, aN, aN, aN, aN, aN, aN, aN, aN].map cv)) rfl rfl, ?_⟩
  refine ⟨by omega, (Nat.le_of_ble_eq_true rfl), (Nat.le_of_ble_eq_true rfl), fun b14 hn14 _ => ?_⟩
  have d_14 := cnd_c (G := G) (h := h0) (f := 14) hn14 d_13
  have c_14 := cnh_c (G := G) (h := h0) (f := 14) hn14 c_13
  refine ⟨_, cs_r hn14, trivial, _, cs_u (G := G) (h := h0) (f := 14) (o' := .inr (6, [aI 0, aI 0, aR b2, aI 0, aR b4, aI 0, aR b6, aR b7, aR b8, aR b9, aR b10, aR b11, aR b12, aR b13, aR b14, aN, aN, aN, aN, aN, aN, aN, aN, aN, aN, aN, aN, aN, aN, aN, aN, aN, aN, aN, aN, aN, aN, aN, aN, aN, aN, aN, aN, aN, aN, aI 0, aL 0, aL 0, aL 0, aI 0, aN, aN, aN, aN, aN, aN, aN, aN, aN, aN, aN].map cv)) rfl rfl, ?_⟩
  refine ⟨by omega, (Nat.le_of_ble_eq_true rfl), (Nat.le_of_ble_eq_true rfl), fun b15 hn15 _ => ?_⟩
  have d_15 := cnd_c (G := G) (h := h0) (f := 15) hn15 d_14
  have c_15 := cnh_c (G := G) (h := h0) (f := 15) hn15 c_14
  refine ⟨_, cs_r hn15, trivial, _, cs_u (G := G) (h := h0) (f := 15) (o' := .inr (6, [aI 0, aI 0, aR b2, aI 0, aR b4, aI 0, aR b6, aR b7, aR b8, aR b9, aR b10, aR b11, aR b12, aR b13, aR b14, aR b15, aN, aN, aN, aN, aN, aN, aN, aN, aN, aN, aN, aN, aN, aN, aN, aN, aN, aN, aN, aN, aN, aN, aN, aN, aN, aN, aN, aN, aN, aI 0, aL 0, aL 0, aL 0, aI 0, aN, aN, aN, aN, aN, aN, aN, aN, aN, aN, aN].map cv)) rfl rfl, ?_⟩
  refine ⟨by omega, (Nat.le_of_ble_eq_true rfl), (Nat.le_of_ble_eq_true rfl), fun b16 hn16 _ => ?_⟩
  have d_16 := cnd_c (G := G) (h := h0) (f := 16) hn16 d_15
  have c_16 := cnh_c (G := G) (h := h0) (f := 16) hn16 c_15
  refine ⟨_, cs_r hn16, trivial, _, cs_u (G := G) (h := h0) (f := 16) (o' := .inr (6, [aI 0, aI 0, aR b2, aI 0, aR b4, aI 0, aR b6, aR b7, aR b8, aR b9, aR b10, aR b11, aR b12, aR b13, aR b14, aR b15, aR b16, aN, aN, aN, aN, aN, aN, aN, aN, aN, aN, aN, aN, aN, aN, aN, aN, aN, aN, aN, aN, aN, aN, aN, aN, aN, aN, aN, aN, aI 0, aL 0, aL 0, aL 0, aI 0, aN, aN, aN, aN, aN, aN, aN, aN, aN, aN, aN].map cv)) rfl rfl, ?_⟩
  refine ⟨by omega, (Nat.le_of_ble_eq_true rfl), (Nat.le_of_ble_eq_true rfl), fun b17 hn17 _ => ?_⟩
  have d_17 := cnd_c (G := G) (h := h0) (f := 17) hn17 d_16
  have c_17 := cnh_c (G := G) (h := h0) (f := 17) hn17 c_16
  refine ⟨_, cs_r hn17, trivial, _, cs_u (G := G) (h := h0) (f := 17) (o' := .inr (6, [aI 0, aI 0, aR b2, aI 0, aR b4, aI 0, aR b6, aR b7, aR b8, aR b9, aR b10, aR b11, aR b12, aR b13, aR b14, aR b15, aR b16, aR b17, aN, aN, aN, aN, aN, aN, aN, aN, aN, aN, aN, aN, aN, aN, aN, aN, aN, aN, aN, aN, aN, aN, aN, aN, aN, aN, aN, aI 0, aL 0, aL 0, aL 0, aI 0, aN, aN, aN, aN, aN, aN, aN, aN, aN, aN, aN].map cv)) rfl rfl, ?_⟩
  refine ⟨by omega, (Nat.le_of_ble_eq_true rfl), (Nat.le_of_ble_eq_true rfl), fun b18 hn18 _ => ?_⟩
  have d_18 := cnd_c (G := G) (h := h0) (f := 18) hn18 d_17
  have c_18 := cnh_c (G := G) (h := h0) (f := 18) hn18 c_17
  refine ⟨_, cs_r hn18, trivial, _, cs_u (G := G) (h := h0) (f := 18) (o' := .inr (6, [aI 0, aI 0, aR b2, aI 0, aR b4, aI 0, aR b6, aR b7, aR b8, aR b9, aR b10, aR b11, aR b12, aR b13, aR b14, aR b15, aR b16, aR b17, aR b18, aN, aN, aN, aN, aN, aN, aN, aN, aN, aN, aN, aN, aN, aN, aN, aN, aN, aN, aN, aN, aN, aN, aN, aN, aN, aN, aI 0, aL 0, aL 0, aL 0, aI 0, aN, aN, aN, aN, aN, aN, aN, aN, aN, aN, aN].map cv)) rfl rfl, ?_⟩
  refine ⟨by omega, (Nat.le_of_ble_eq_true rfl), (Nat.le_of_ble_eq_true rfl), fun b19 hn19 _ => ?_⟩
  have d_19 := cnd_c (G := G) (h := h0) (f := 19) hn19 d_18
  have c_19 := cnh_c (G := G) (h := h0) (f := 19) hn19 c_18
  refine ⟨_, cs_r hn19, trivial, _, cs_u (G := G) (h := h0) (f := 19) (o' := .inr (6, [aI 0, aI 0, aR b2, aI 0, aR b4, aI 0, aR b6, aR b7, aR b8, aR b9, aR b10, aR b11, aR b12, aR b13, aR b14, aR b15, aR b16, aR b17, aR b18, aR b19, aN, aN, aN, aN, aN, aN, aN, aN, aN, aN, aN, aN, aN, aN, aN, aN, aN, aN, aN, aN, aN, aN, aN, aN, aN, aI 0, aL 0, aL 0, aL 0, aI 0, aN, aN, aN, aN, aN, aN, aN, aN, aN, aN, aN].map cv)) rfl rfl, ?_⟩
  refine ⟨by omega, (Nat.le_of_ble_eq_true rfl), (Nat.le_of_ble_eq_true rfl), fun b20 hn20 _ => ?_⟩
  have d_20 := cnd_c (G := G) (h := h0) (f := 20) hn20 d_19
  have c_20 := cnh_c (G := G) (h := h0) (f := 20) hn20 c_19
  refine ⟨_, cs_r hn20, trivial, _, cs_u (G := G) (h := h0) (f := 20) (o' := .inr (6, [aI 0, aI 0, aR b2, aI 0, aR b4, aI 0, aR b6, aR b7, aR b8, aR b9, aR b10, aR b11, aR b12, aR b13, aR b14, aR b15, aR b16, aR b17, aR b18, aR b19, aR b20, aN, aN, aN, aN, aN, aN, aN, aN, aN, aN, aN, aN, aN, aN, aN, aN, aN, aN, aN, aN, aN, aN, aN, aN, aI 0, aL 0, aL 0, aL 0, aI 0, aN, aN, aN, aN, aN, aN, aN, aN, aN, aN, aN].map cv)) rfl rfl, ?_⟩
  refine ⟨by omega, (Nat.le_of_ble_eq_true rfl), (Nat.le_of_ble_eq_true rfl), fun b21 hn21 _ => ?_⟩
  have d_21 := cnd_c (G := G) (h := h0) (f := 21) hn21 d_20
  have c_21 := cnh_c (G := G) (h := h0) (f := 21) hn21 c_20
  refine ⟨_, cs_r hn21, trivial, _, cs_u (G := G) (h := h0) (f := 21) (o' := .inr (6, [aI 0, aI 0, aR b2, aI 0, aR b4, aI 0, aR b6, aR b7, aR b8, aR b9, aR b10, aR b11, aR b12, aR b13, aR b14, aR b15, aR b16, aR b17, aR b18, aR b19, aR b20, aR b21, aN, aN, aN, aN, aN, aN, aN, aN, aN, aN, aN, aN, aN, aN, aN, aN, aN, aN, aN, aN, aN, aN, aN, aI 0, aL 0, aL 0, aL 0, aI 0, aN, aN, aN, aN, aN, aN, aN, aN, aN, aN, aN].map cv)) rfl rfl, ?_⟩
  refine ⟨by omega, (Nat.le_of_ble_eq_true rfl), (Nat.le_of_ble_eq_true rfl), fun b22 hn22 _ => ?_⟩
  have d_22 := cnd_c (G := G) (h := h0) (f := 22) hn22 d_21
  have c_22 := cnh_c (G := G) (h := h0) (f := 22) hn22 c_21
  refine ⟨_, cs_r hn22, trivial, _, cs_u (G := G) (h := h0) (f := 22) (o' := .inr (6, [aI 0, aI 0, aR b2, aI 0, aR b4, aI 0, aR b6, aR b7, aR b8, aR b9, aR b10, aR b11, aR b12, aR b13, aR b14, aR b15, aR b16, aR b17, aR b18, aR b19, aR b20, aR b21, aR b22, aN, aN, aN, aN, aN, aN, aN, aN, aN, aN, aN, aN, aN, aN, aN, aN, aN, aN, aN, aN, aN, aN, aI 0, aL 0, aL 0, aL 0, aI 0, aN, aN, aN, aN, aN, aN, aN, aN, aN, aN, aN].map cv)) rfl rfl, ?_⟩
  refine ⟨by omega, (Nat.le_of_ble_eq_true rfl), (Nat.le_of_ble_eq_true rfl), fun b23 hn23 _ => ?_⟩
  have d_23 := cnd_c (G := G) (h := h0) (f := 23) hn23 d_22
  have c_23 := cnh_c (G := G) (h := h0) (f := 23) hn23 c_22
  refine ⟨_, cs_r hn23, trivial, _, cs_u (G := G) (h := h0) (f := 23) (o' := .inr (6, [aI 0, aI 0, aR b2, aI 0, aR b4, aI 0, aR b6, aR b7, aR b8, aR b9, aR b10, aR b11, aR b12, aR b13, aR b14, aR b15, aR b16, aR b17, aR b18, aR b19, aR b20, aR b21, aR b22, aR b23, aN, aN, aN, aN, aN, aN, aN, aN, aN, aN, aN, aN, aN, aN, aN, aN, aN, aN, aN, aN, aN, aI 0, aL 0, aL 0, aL 0, aI 0, aN, aN, aN, aN, aN, aN, aN, aN, aN, aN, aN].map cv)) rfl rfl, ?_⟩
  refine ⟨by omega, (Nat.le_of_ble_eq_true rfl), (Nat.le_of_ble_eq_true rfl), fun b24 hn24 _ => ?_⟩
  have d_24 := cnd_c (G := G) (h := h0) (f := 24) hn24 d_23
  have c_24 := cnh_c (G := G) (h := h0) (f := 24) hn24 c_23
  refine ⟨_, cs_r hn24, trivial, _, cs_u (G := G) (h := h0) (f := 24) (o' := .inr (6, [aI 0, aI 0, aR b2, aI 0, aR b4, aI 0, aR b6, aR b7, aR b8, aR b9, aR b10, aR b11, aR b12, aR b13, aR b14, aR b15, aR b16, aR b17, aR b18, aR b19, aR b20, aR b21, aR b22, aR b23, aR b24, aN, aN, aN, aN, aN, aN, aN, aN, aN, aN, aN, aN, aN, aN, aN, aN, aN, aN, aN, aN, aI 0, aL 0, aL 0, aL 0, aI 0, aN, aN, aN, aN, aN, aN, aN, aN, aN, aN, aN].map cv)) rfl rfl, ?_⟩
  refine ⟨by omega, (Nat.le_of_ble_eq_true rfl), (Nat.le_of_ble_eq_true rfl), fun b25 hn25 _ => ?_⟩
  have d_25 := cnd_c (G := G) (h := h0) (f := 25) hn25 d_24
  have c_25 := cnh_c (G := G) (h := h0) (f := 25) hn25 c_24
  refine ⟨_, cs_r hn25, trivial, _, cs_u (G := G) (h := h0) (f := 25) (o' := .inr (6, [aI 0, aI 0, aR b2, aI 0, aR b4, aI 0, aR b6, aR b7, aR b8, aR b9, aR b10, aR b11, aR b12, aR b13, aR b14, aR b15, aR b16, aR b17, aR b18, aR b19, aR b20, aR b21, aR b22, aR b23, aR b24, aR b25, aN, aN, aN, aN, aN, aN, aN, aN, aN, aN, aN, aN, aN, aN, aN, aN, aN, aN, aN, aI 0, aL 0, aL 0, aL 0, aI 0, aN, aN, aN, aN, aN, aN, aN, aN, aN, aN, aN].map cv)) rfl rfl, ?_⟩
  refine ⟨by omega, (Nat.le_of_ble_eq_true rfl), (Nat.le_of_ble_eq_true rfl), fun b26 hn26 _ => ?_⟩
  have d_26 := cnd_c (G := G) (h := h0) (f := 26) hn26 d_25
  have c_26 := cnh_c (G := G) (h := h0) (f := 26) hn26 c_25
  refine ⟨_, cs_r hn26, trivial, _, cs_u (G := G) (h := h0) (f := 26) (o' := .inr (6, [aI 0, aI 0, aR b2, aI 0, aR b4, aI 0, aR b6, aR b7, aR b8, aR b9, aR b10, aR b11, aR b12, aR b13, aR b14, aR b15, aR b16, aR b17, aR b18, aR b19, aR b20, aR b21, aR b22, aR b23, aR b24, aR b25, aR b26, aN, aN, aN, aN, aN, aN, aN, aN, aN, aN, aN, aN, aN, aN, aN, aN, aN, aN, aI 0, aL 0, aL 0, aL 0, aI 0, aN, aN, aN, aN, aN, aN, aN, aN, aN, aN, aN].map cv)) rfl rfl, ?_⟩
  refine ⟨by omega, (Nat.le_of_ble_eq_true rfl), (Nat.le_of_ble_eq_true rfl), fun b27 hn27 _ => ?_⟩
  have d_27 := cnd_c (G := G) (h := h0) (f := 27) hn27 d_26
  have c_27 := cnh_c (G := G) (h := h0) (f := 27) hn27 c_26
  refine ⟨_, cs_r hn27, trivial, _, cs_u (G := G) (h := h0) (f := 27) (o' := .inr (6, [aI 0, aI 0, aR b2, aI 0, aR b4, aI 0, aR b6, aR b7, aR b8, aR b9, aR b10, aR b11, aR b12, aR b13, aR b14, aR b15, aR b16, aR b17, aR b18, aR b19, aR b20, aR b21, aR b22, aR b23, aR b24, aR b25, aR b26, aR b27, aN, aN, aN, aN, aN, aN, aN, aN, aN, aN, aN, aN, aN, aN, aN, aN, aN, aI 0, aL 0, aL 0, aL 0, aI 0, aN, aN, aN, aN, aN, aN, aN, aN, aN, aN, aN].map cv)) rfl rfl, ?_⟩
  refine ⟨by omega, (Nat.le_of_ble_eq_true rfl), (Nat.le_of_ble_eq_true rfl), fun b28 hn28 _ => ?_⟩
  have d_28 := cnd_c (G := G) (h := h0) (f := 28) hn28 d_27
  have c_28 := cnh_c (G := G) (h := h0) (f := 28) hn28 c_27
  refine ⟨_, cs_r hn28, trivial, _, cs_u (G := G) (h := h0) (f := 28) (o' := .inr (6, [aI 0, aI 0, aR b2, aI 0, aR b4, aI 0, aR b6, aR b7, aR b8, aR b9, aR b10, aR b11, aR b12, aR b13, aR b14, aR b15, aR b16, aR b17, aR b18, aR b19, aR b20, aR b21, aR b22, aR b23, aR b24, aR b25, aR b26, aR b27, aR b28, aN, aN, aN, aN, aN, aN, aN, aN, aN, aN, aN, aN, aN, aN, aN, aN, aI 0, aL 0, aL 0, aL 0, aI 0, aN, aN, aN, aN, aN, aN, aN, aN, aN, aN, aN].map cv)) rfl rfl, ?_⟩
  refine ⟨by omega, (Nat.le_of_ble_eq_true rfl), (Nat.le_of_ble_eq_true rfl), fun b29 hn29 _ => ?_⟩
  have d_29 := cnd_c (G := G) (h := h0) (f := 29) hn29 d_28
  have c_29 := cnh_c (G := G) (h := h0) (f := 29) hn29 c_28
  refine ⟨_, cs_r hn29, trivial, _, cs_u (G := G) (h := h0) (f := 29) (o' := .inr (6, [aI 0, aI 0, aR b2, aI 0, aR b4, aI 0, aR b6, aR b7, aR b8, aR b9, aR b10, aR b11, aR b12, aR b13, aR b14, aR b15, aR b16, aR b17, aR b18, aR b19, aR b20, aR b21, aR b22, aR b23, aR b24, aR b25, aR b26, aR b27, aR b28, aR b29, aN, aN, aN, aN, aN, aN, aN, aN, aN, aN, aN, aN, aN, aN, aN, aI 0, aL 0, aL 0, aL 0, aI 0, aN, aN, aN, aN, aN, aN, aN, aN, aN, aN, aN].map cv)) rfl rfl, ?_⟩
  refine ⟨by omega, (Nat.le_of_ble_eq_true rfl), (Nat.le_of_ble_eq_true rfl), fun b30 hn30 _ => ?_⟩
  have d_30 := cnd_c (G := G) (h := h0) (f := 30) hn30 d_29
  have c_30 := cnh_c (G := G) (h := h0) (f := 30) hn30 c_29
  refine ⟨_, cs_r hn30, trivial, _, cs_u (G := G) (h := h0) (f := 30) (o' := .inr (6, [aI 0, aI 0, aR b2, aI 0, aR b4, aI 0, aR b6, aR b7, aR b8, aR b9, aR b10, aR b11, aR b12, aR b13, aR b14, aR b15, aR b16, aR b17, aR b18, aR b19, aR b20, aR b21, aR b22, aR b23, aR b24, aR b25, aR b26, aR b27, aR b28, aR b29, aR b30, aN, aN, aN, aN, aN, aN, aN, aN, aN, aN, aN, aN, aN, aN, aI 0, aL 0, aL 0, aL 0, aI 0, aN, aN, aN, aN, aN, aN, aN, aN, aN, aN, aN].map cv)) rfl rfl, ?_⟩
  refine ⟨by omega, (Nat.le_of_ble_eq_true rfl), (Nat.le_of_ble_eq_true rfl), fun b31 hn31 _ => ?_⟩
  have d_31 := cnd_c (G := G) (h := h0) (f := 31) hn31 d_30
  have c_31 := cnh_c (G := G) (h := h0) (f := 31) hn31 c_30
  refine ⟨_, cs_r hn31, trivial, _, cs_u (G := G) (h := h0) (f := 31) (o' := .inr (6, [aI 0, aI 0, aR b2, aI 0, aR b4, aI 0, aR b6, aR b7, aR b8, aR b9, aR b10, aR b11, aR b12, aR b13, aR b14, aR b15, aR b16, aR b17, aR b18, aR b19, aR b20, aR b21, aR b22, aR b23, aR b24, aR b25, aR b26, aR b27, aR b28, aR b29, aR b30, aR b31, aN, aN, aN, aN, aN, aN, aN, aN, aN, aN, aN, aN, aN, aI 0, aL 0, aL 0, aL 0, aI 0, aN, aN, aN, aN, aN, aN, aN, aN, aN, aN, aN].map cv)) rfl rfl, ?_⟩
  refine ⟨by omega, (Nat.le_of_ble_eq_true rfl), (Nat.le_of_ble_eq_true rfl), fun b32 hn32 _ => ?_⟩
  have d_32 := cnd_c (G := G) (h := h0) (f := 32) hn32 d_31
  have c_32 := cnh_c (G := G) (h := h0) (f := 32) hn32 c_31
  refine ⟨_, cs_r hn32, trivial, _, cs_u (G := G) (h := h0) (f := 32) (o' := .inr (6, [aI 0, aI 0, aR b2, aI 0, aR b4, aI 0, aR b6, aR b7, aR b8, aR b9, aR b10, aR b11, aR b12, aR b13, aR b14, aR b15, aR b16, aR b17, aR b18, aR b19, aR b20, aR b21, aR b22, aR b23, aR b24, aR b25, aR b26, aR b27, aR b28, aR b29, aR b30, aR b31, aR b32, aN, aN, aN, aN, aN, aN, aN, aN, aN, aN, aN, aN, aI 0, aL 0, aL 0, aL 0, aI 0, aN, aN, aN, aN, aN, aN, aN, aN, aN, aN, aN].map cv)) rfl rfl, ?_⟩
  refine ⟨by omega, (Nat.le_of_ble_eq_true rfl), (Nat.le_of_ble_eq_true rfl), fun b33 hn33 _ => ?_⟩
  have d_33 := cnd_c (G := G) (h := h0) (f := 33) hn33 d_32
  have c_33 := cnh_c (G := G) (h := h0) (f := 33) hn33 c_32
  refine ⟨_, cs_r hn33, trivial, _, cs_u (G := G) (h := h0) (f := 33) (o' := .inr (6, [aI 0, aI 0, aR b2, aI 0, aR b4, aI 0, aR b6, aR b7, aR b8, aR b9, aR b10, aR b11, aR b12, aR b13, aR b14, aR b15, aR b16, aR b17, aR b18, aR b19, aR b20, aR b21, aR b22, aR b23, aR b24, aR b25, aR b26, aR b27, aR b28, aR b29, aR b30, aR b31, aR b32, aR b33, aN, aN, aN, aN, aN, aN, aN, aN, aN, aN, aN, aI 0, aL 0, aL 0, aL 0, aI 0, aN, aN, aN, aN, aN, aN, aN, aN, aN, aN, aN].map cv)) rfl rfl, ?_⟩
  refine ⟨by omega, (Nat.le_of_ble_eq_true rfl), (Nat.le_of_ble_eq_true rfl), fun b34 hn34 _ => ?_⟩
  have d_34 := cnd_c (G := G) (h := h0) (f := 34) hn34 d_33
  have c_34 := cnh_c (G := G) (h := h0) (f := 34) hn34 c_33
  refine ⟨_, cs_r hn34, trivial, _, cs_u (G := G) (h := h0) (f := 34) (o' := .inr (6, [aI 0, aI 0, aR b2, aI 0, aR b4, aI 0, aR b6, aR b7, aR b8, aR b9, aR b10, aR b11, aR b12, aR b13, aR b14, aR b15, aR b16, aR b17, aR b18, aR b19, aR b20, aR b21, aR b22, aR b23, aR b24, aR b25, aR b26, aR b27, aR b28, aR b29, aR b30, aR b31, aR b32, aR b33, aR b34, aN, aN, aN, aN, aN, aN, aN, aN, aN, aN, aI 0, aL 0, aL 0, aL 0, aI 0, aN, aN, aN, aN, aN, aN, aN, aN, aN, aN, aN].map cv)) rfl rfl, ?_⟩
  refine ⟨by omega, (Nat.le_of_ble_eq_true rfl), (Nat.le_of_ble_eq_true rfl), fun b35 hn35 _ => ?_⟩
  have d_35 := cnd_c (G := G) (h := h0) (f := 35) hn35 d_34
  have c_35 := cnh_c (G := G) (h := h0) (f := 35) hn35 c_34
  refine ⟨_, cs_r hn35, trivial, _, cs_u (G := G) (h := h0) (f := 35) (o' := .inr (6, [aI 0, aI 0, aR b2, aI 0, aR b4, aI 0, aR b6, aR b7, aR b8, aR b9, aR b10, aR b11, aR b12, aR b13, aR b14, aR b15, aR b16, aR b17, aR b18, aR b19, aR b20, aR b21, aR b22, aR b23, aR b24, aR b25, aR b26, aR b27, aR b28, aR b29, aR b30, aR b31, aR b32, aR b33, aR b34, aR b35, aN, aN, aN, aN, aN, aN, aN, aN, aN, aI 0, aL 0, aL 0, aL 0, aI 0, aN, aN, aN, aN, aN, aN, aN, aN, aN, aN, aN].map cv)) rfl rfl, ?_⟩
  refine ⟨by omega, (Nat.le_of_ble_eq_true rfl), (Nat.le_of_ble_eq_true rfl), fun b36 hn36 _ => ?_⟩
  have d_36 := cnd_c (G := G) (h := h0) (f := 36) hn36 d_35
  have c_36 := cnh_c (G := G) (h := h0) (f := 36) hn36 c_35
  refine ⟨_, cs_r hn36, trivial, _, cs_u (G := G) (h := h0) (f := 36) (o' := .inr (6, [aI 0, aI 0, aR b2, aI 0, aR b4, aI 0, aR b6, aR b7, aR b8, aR b9, aR b10, aR b11, aR b12, aR b13, aR b14, aR b15, aR b16, aR b17, aR b18, aR b19, aR b20, aR b21, aR b22, aR b23, aR b24, aR b25, aR b26, aR b27, aR b28, aR b29, aR b30, aR b31, aR b32, aR b33, aR b34, aR b35, aR b36, aN, aN, aN, aN, aN, aN, aN, aN, aI 0, aL 0, aL 0, aL 0, aI 0, aN, aN, aN, aN, aN, aN, aN, aN, aN, aN, aN].map cv)) rfl rfl, ?_⟩
  refine ⟨131072, rfl, ?_⟩
  refine ⟨by omega, (Nat.le_of_ble_eq_true rfl), (Nat.le_of_ble_eq_true rfl), fun b37 hn37 _ => ?_⟩
  have d_37 := cnd_c (G := G) (h := h0) (f := 37) hn37 d_36
  have c_37 := cnh_c (G := G) (h := h0) (f := 37) hn37 c_36
  refine ⟨_, cs_r hn37, trivial, _, cs_u (G := G) (h := h0) (f := 37) (o' := .inr (6, [aI 0, aI 0, aR b2, aI 0, aR b4, aI 0, aR b6, aR b7, aR b8, aR b9, aR b10, aR b11, aR b12, aR b13, aR b14, aR b15, aR b16, aR b17, aR b18, aR b19, aR b20, aR b21, aR b22, aR b23, aR b24, aR b25, aR b26, aR b27, aR b28, aR b29, aR b30, aR b31, aR b32, aR b33, aR b34, aR b35, aR b36, aR b37, aN, aN, aN, aN, aN, aN, aN, aI 0, aL 0, aL 0, aL 0, aI 0, aN, aN, aN, aN, aN, aN, aN, aN, aN, aN, aN].map cv)) rfl rfl, ?_⟩
  refine ⟨131072, rfl, ?_⟩
  refine ⟨by omega, (Nat.le_of_ble_eq_true rfl), (Nat.le_of_ble_eq_true rfl), fun b38 hn38 _ => ?_⟩
  have d_38 := cnd_c (G := G) (h := h0) (f := 38) hn38 d_37
  have c_38 := cnh_c (G := G) (h := h0) (f := 38) hn38 c_37
  refine ⟨_, cs_r hn38, trivial, _, cs_u (G := G) (h := h0) (f := 38) (o' := .inr (6, [aI 0, aI 0, aR b2, aI 0, aR b4, aI 0, aR b6, aR b7, aR b8, aR b9, aR b10, aR b11, aR b12, aR b13, aR b14, aR b15, aR b16, aR b17, aR b18, aR b19, aR b20, aR b21, aR b22, aR b23, aR b24, aR b25, aR b26, aR b27, aR b28, aR b29, aR b30, aR b31, aR b32, aR b33, aR b34, aR b35, aR b36, aR b37, aR b38, aN, aN, aN, aN, aN, aN, aI 0, aL 0, aL 0, aL 0, aI 0, aN, aN, aN, aN, aN, aN, aN, aN, aN, aN, aN].map cv)) rfl rfl, ?_⟩
  refine ⟨131072, rfl, ?_⟩
  refine ⟨by omega, (Nat.le_of_ble_eq_true rfl), (Nat.le_of_ble_eq_true rfl), fun b39 hn39 _ => ?_⟩
  have d_39 := cnd_c (G := G) (h := h0) (f := 39) hn39 d_38
  have c_39 := cnh_c (G := G) (h := h0) (f := 39) hn39 c_38
  refine ⟨_, cs_r hn39, trivial, _, cs_u (G := G) (h := h0) (f := 39) (o' := .inr (6, [aI 0, aI 0, aR b2, aI 0, aR b4, aI 0, aR b6, aR b7, aR b8, aR b9, aR b10, aR b11, aR b12, aR b13, aR b14, aR b15, aR b16, aR b17, aR b18, aR b19, aR b20, aR b21, aR b22, aR b23, aR b24, aR b25, aR b26, aR b27, aR b28, aR b29, aR b30, aR b31, aR b32, aR b33, aR b34, aR b35, aR b36, aR b37, aR b38, aR b39, aN, aN, aN, aN, aN, aI 0, aL 0, aL 0, aL 0, aI 0, aN, aN, aN, aN, aN, aN, aN, aN, aN, aN, aN].map cv)) rfl rfl, ?_⟩
  refine ⟨by omega, (Nat.le_of_ble_eq_true rfl), (Nat.le_of_ble_eq_true rfl), fun b40 hn40 _ => ?_⟩
  have d_40 := cnd_c (G := G) (h := h0) (f := 40) hn40 d_39
  have c_40 := cnh_c (G := G) (h := h0) (f := 40) hn40 c_39
  refine ⟨_, cs_r hn40, trivial, _, cs_u (G := G) (h := h0) (f := 40) (o' := .inr (6, [aI 0, aI 0, aR b2, aI 0, aR b4, aI 0, aR b6, aR b7, aR b8, aR b9, aR b10, aR b11, aR b12, aR b13, aR b14, aR b15, aR b16, aR b17, aR b18, aR b19, aR b20, aR b21, aR b22, aR b23, aR b24, aR b25, aR b26, aR b27, aR b28, aR b29, aR b30, aR b31, aR b32, aR b33, aR b34, aR b35, aR b36, aR b37, aR b38, aR b39, aR b40, aN, aN, aN, aN, aI 0, aL 0, aL 0, aL 0, aI 0, aN, aN, aN, aN, aN, aN, aN, aN, aN, aN, aN].map cv)) rfl rfl, ?_⟩
  refine ⟨by omega, (Nat.le_of_ble_eq_true rfl), (Nat.le_of_ble_eq_true rfl), fun b41 hn41 _ => ?_⟩
  have d_41 := cnd_c (G := G) (h := h0) (f := 41) hn41 d_40
  have c_41 := cnh_c (G := G) (h := h0) (f := 41) hn41 c_40
  refine ⟨_, cs_r hn41, trivial, _, cs_u (G := G) (h := h0) (f := 41) (o' := .inr (6, [aI 0, aI 0, aR b2, aI 0, aR b4, aI 0, aR b6, aR b7, aR b8, aR b9, aR b10, aR b11, aR b12, aR b13, aR b14, aR b15, aR b16, aR b17, aR b18, aR b19, aR b20, aR b21, aR b22, aR b23, aR b24, aR b25, aR b26, aR b27, aR b28, aR b29, aR b30, aR b31, aR b32, aR b33, aR b34, aR b35, aR b36, aR b37, aR b38, aR b39, aR b40, aR b41, aN, aN, aN, aI 0, aL 0, aL 0, aL 0, aI 0, aN, aN, aN, aN, aN, aN, aN, aN, aN, aN, aN].map cv)) rfl rfl, ?_⟩
  refine ⟨by omega, (Nat.le_of_ble_eq_true rfl), (Nat.le_of_ble_eq_true rfl), fun b42 hn42 _ => ?_⟩
  have d_42 := cnd_c (G := G) (h := h0) (f := 42) hn42 d_41
  have c_42 := cnh_c (G := G) (h := h0) (f := 42) hn42 c_41
  refine ⟨_, cs_r hn42, trivial, _, cs_u (G := G) (h := h0) (f := 42) (o' := .inr (6, [aI 0, aI 0, aR b2, aI 0, aR b4, aI 0, aR b6, aR b7, aR b8, aR b9, aR b10, aR b11, aR b12, aR b13, aR b14, aR b15, aR b16, aR b17, aR b18, aR b19, aR b20, aR b21, aR b22, aR b23, aR b24, aR b25, aR b26, aR b27, aR b28, aR b29, aR b30, aR b31, aR b32, aR b33, aR b34, aR b35, aR b36, aR b37, aR b38, aR b39, aR b40, aR b41, aR b42, aN, aN, aI 0, aL 0, aL 0, aL 0, aI 0, aN, aN, aN, aN, aN, aN, aN, aN, aN, aN, aN].map cv)) rfl rfl, ?_⟩
  refine ⟨180224, rfl, ?_⟩
  refine ⟨by omega, (Nat.le_of_ble_eq_true rfl), (Nat.le_of_ble_eq_true rfl), fun b43 hn43 _ => ?_⟩
  have d_43 := cnd_c (G := G) (h := h0) (f := 43) hn43 d_42
  have c_43 := cnh_c (G := G) (h := h0) (f := 43) hn43 c_42
  refine ⟨_, cs_r hn43, trivial, _, cs_u (G := G) (h := h0) (f := 43) (o' := .inr (6, [aI 0, aI 0, aR b2, aI 0, aR b4, aI 0, aR b6, aR b7, aR b8, aR b9, aR b10, aR b11, aR b12, aR b13, aR b14, aR b15, aR b16, aR b17, aR b18, aR b19, aR b20, aR b21, aR b22, aR b23, aR b24, aR b25, aR b26, aR b27, aR b28, aR b29, aR b30, aR b31, aR b32, aR b33, aR b34, aR b35, aR b36, aR b37, aR b38, aR b39, aR b40, aR b41, aR b42, aR b43, aN, aI 0, aL 0, aL 0, aL 0, aI 0, aN, aN, aN, aN, aN, aN, aN, aN, aN, aN, aN].map cv)) rfl rfl, ?_⟩
  refine ⟨180224, rfl, ?_⟩
  refine ⟨by omega, (Nat.le_of_ble_eq_true rfl), (Nat.le_of_ble_eq_true rfl), fun b44 hn44 _ => ?_⟩
  have d_44 := cnd_c (G := G) (h := h0) (f := 44) hn44 d_43
  have c_44 := cnh_c (G := G) (h := h0) (f := 44) hn44 c_43
  refine ⟨_, cs_r hn44, trivial, _, cs_u (G := G) (h := h0) (f := 44) (o' := .inr (6, [aI 0, aI 0, aR b2, aI 0, aR b4, aI 0, aR b6, aR b7, aR b8, aR b9, aR b10, aR b11, aR b12, aR b13, aR b14, aR b15, aR b16, aR b17, aR b18, aR b19, aR b20, aR b21, aR b22, aR b23, aR b24, aR b25, aR b26, aR b27, aR b28, aR b29, aR b30, aR b31, aR b32, aR b33, aR b34, aR b35, aR b36, aR b37, aR b38, aR b39, aR b40, aR b41, aR b42, aR b43, aR b44, aI 0, aL 0, aL 0, aL 0, aI 0, aN, aN, aN, aN, aN, aN, aN, aN, aN, aN, aN].map cv)) rfl rfl, ?_⟩
  refine ⟨by omega, (Nat.le_of_ble_eq_true rfl), (Nat.le_of_ble_eq_true rfl), fun b50 hn50 _ => ?_⟩
  have d_50 := cnd_c (G := G) (h := h0) (f := 50) hn50 d_44
  have c_50 := cnh_c (G := G) (h := h0) (f := 50) hn50 c_44
  refine ⟨_, cs_r hn50, trivial, _, cs_u (G := G) (h := h0) (f := 50) (o' := .inr (6, [aI 0, aI 0, aR b2, aI 0, aR b4, aI 0, aR b6, aR b7, aR b8, aR b9, aR b10, aR b11, aR b12, aR b13, aR b14, aR b15, aR b16, aR b17, aR b18, aR b19, aR b20, aR b21, aR b22, aR b23, aR b24, aR b25, aR b26, aR b27, aR b28, aR b29, aR b30, aR b31, aR b32, aR b33, aR b34, aR b35, aR b36, aR b37, aR b38, aR b39, aR b40, aR b41, aR b42, aR b43, aR b44, aI 0, aL 0, aL 0, aL 0, aI 0, aR b50, aN, aN, aN, aN, aN, aN, aN, aN, aN, aN].map cv)) rfl rfl, ?_⟩
  refine ⟨by omega, (Nat.le_of_ble_eq_true rfl), (Nat.le_of_ble_eq_true rfl), fun b51 hn51 _ => ?_⟩
  have d_51 := cnd_c (G := G) (h := h0) (f := 51) hn51 d_50
  have c_51 := cnh_c (G := G) (h := h0) (f := 51) hn51 c_50
  refine ⟨_, cs_r hn51, trivial, _, cs_u (G := G) (h := h0) (f := 51) (o' := .inr (6, [aI 0, aI 0, aR b2, aI 0, aR b4, aI 0, aR b6, aR b7, aR b8, aR b9, aR b10, aR b11, aR b12, aR b13, aR b14, aR b15, aR b16, aR b17, aR b18, aR b19, aR b20, aR b21, aR b22, aR b23, aR b24, aR b25, aR b26, aR b27, aR b28, aR b29, aR b30, aR b31, aR b32, aR b33, aR b34, aR b35, aR b36, aR b37, aR b38, aR b39, aR b40, aR b41, aR b42, aR b43, aR b44, aI 0, aL 0, aL 0, aL 0, aI 0, aR b50, aR b51, aN, aN, aN, aN, aN, aN, aN, aN, aN].map cv)) rfl rfl, ?_⟩
  refine ⟨by omega, (Nat.le_of_ble_eq_true rfl), (Nat.le_of_ble_eq_true rfl), fun b52 hn52 _ => ?_⟩
  have d_52 := cnd_c (G := G) (h := h0) (f := 52) hn52 d_51
  have c_52 := cnh_c (G := G) (h := h0) (f := 52) hn52 c_51
  refine ⟨_, cs_r hn52, trivial, _, cs_u (G := G) (h := h0) (f := 52) (o' := .inr (6, [aI 0, aI 0, aR b2, aI 0, aR b4, aI 0, aR b6, aR b7, aR b8, aR b9, aR b10, aR b11, aR b12, aR b13, aR b14, aR b15, aR b16, aR b17, aR b18, aR b19, aR b20, aR b21, aR b22, aR b23, aR b24, aR b25, aR b26, aR b27, aR b28, aR b29, aR b30, aR b31, aR b32, aR b33, aR b34, aR b35, aR b36, aR b37, aR b38, aR b39, aR b40, aR b41, aR b42, aR b43, aR b44, aI 0, aL 0, aL 0, aL 0, aI 0, aR b50, aR b51, aR b52, aN, aN, aN, aN, aN, aN, aN, aN].map cv)) rfl rfl, ?_⟩
  refine ⟨by omega, (Nat.le_of_ble_eq_true rfl), (Nat.le_of_ble_eq_true rfl), fun b53 hn53 _ => ?_⟩
  have d_53 := cnd_c (G := G) (h := h0) (f := 53) hn53 d_52
  have c_53 := cnh_c (G := G) (h := h0) (f := 53) hn53 c_52
  refine ⟨_, cs_r hn53, trivial, _, cs_u (G := G) (h := h0) (f := 53) (o' := .inr (6, [aI 0, aI 0, aR b2, aI 0, aR b4, aI 0, aR b6, aR b7, aR b8, aR b9, aR b10, aR b11, aR b12, aR b13, aR b14, aR b15, aR b16, aR b17, aR b18, aR b19, aR b20, aR b21, aR b22, aR b23, aR b24, aR b25, aR b26, aR b27, aR b28, aR b29, aR b30, aR b31, aR b32, aR b33, aR b34, aR b35, aR b36, aR b37, aR b38, aR b39, aR b40, aR b41, aR b42, aR b43, aR b44, aI 0, aL 0, aL 0, aL 0, aI 0, aR b50, aR b51, aR b52, aR b53, aN, aN, aN, aN, aN, aN, aN].map cv)) rfl rfl, ?_⟩
  refine ⟨by omega, (Nat.le_of_ble_eq_true rfl), (Nat.le_of_ble_eq_true rfl), fun b54 hn54 _ => ?_⟩
  have d_54 := cnd_c (G := G) (h := h0) (f := 54) hn54 d_53
  have c_54 := cnh_c (G := G) (h := h0) (f := 54) hn54 c_53
  refine ⟨_, cs_r hn54, trivial, _, cs_u (G := G) (h := h0) (f := 54) (o' := .inr (6, [aI 0, aI 0, aR b2, aI 0, aR b4, aI 0, aR b6, aR b7, aR b8, aR b9, aR b10, aR b11, aR b12, aR b13, aR b14, aR b15, aR b16, aR b17, aR b18, aR b19, aR b20, aR b21, aR b22, aR b23, aR b24, aR b25, aR b26, aR b27, aR b28, aR b29, aR b30, aR b31, aR b32, aR b33, aR b34, aR b35, aR b36, aR b37, aR b38, aR b39, aR b40, aR b41, aR b42, aR b43, aR b44, aI 0, aL 0, aL 0, aL 0, aI 0, aR b50, aR b51, aR b52, aR b53, aR b54, aN, aN, aN, aN, aN, aN].map cv)) rfl rfl, ?_⟩
  refine ⟨by omega, (Nat.le_of_ble_eq_true rfl), (Nat.le_of_ble_eq_true rfl), fun b55 hn55 _ => ?_⟩
  have d_55 := cnd_c (G := G) (h := h0) (f := 55) hn55 d_54
  have c_55 := cnh_c (G := G) (h := h0) (f := 55) hn55 c_54
  refine ⟨_, cs_r hn55, trivial, _, cs_u (G := G) (h := h0) (f := 55) (o' := .inr (6, [aI 0, aI 0, aR b2, aI 0, aR b4, aI 0, aR b6, aR b7, aR b8, aR b9, aR b10, aR b11, aR b12, aR b13, aR b14, aR b15, aR b16, aR b17, aR b18, aR b19, aR b20, aR b21, aR b22, aR b23, aR b24, aR b25, aR b26, aR b27, aR b28, aR b29, aR b30, aR b31, aR b32, aR b33, aR b34, aR b35, aR b36, aR b37, aR b38, aR b39, aR b40, aR b41, aR b42, aR b43, aR b44, aI 0, aL 0, aL 0, aL 0, aI 0, aR b50, aR b51, aR b52, aR b53, aR b54, aR b55, aN, aN, aN, aN, aN].map cv)) rfl rfl, ?_⟩
  refine ⟨by omega, (Nat.le_of_ble_eq_true rfl), (Nat.le_of_ble_eq_true rfl), fun b56 hn56 _ => ?_⟩
  have d_56 := cnd_c (G := G) (h := h0) (f := 56) hn56 d_55
  have c_56 := cnh_c (G := G) (h := h0) (f := 56) hn56 c_55
  refine ⟨_, cs_r hn56, trivial, _, cs_u (G := G) (h := h0) (f := 56) (o' := .inr (6, [aI 0, aI 0, aR b2, aI 0, aR b4, aI 0, aR b6, aR b7, aR b8, aR b9, aR b10, aR b11, aR b12, aR b13, aR b14, aR b15, aR b16, aR b17, aR b18, aR b19, aR b20, aR b21, aR b22, aR b23, aR b24, aR b25, aR b26, aR b27, aR b28, aR b29, aR b30, aR b31, aR b32, aR b33, aR b34, aR b35, aR b36, aR b37, aR b38, aR b39, aR b40, aR b41, aR b42, aR b43, aR b44, aI 0, aL 0, aL 0, aL 0, aI 0, aR b50, aR b51, aR b52, aR b53, aR b54, aR b55, aR b56, aN, aN, aN, aN].map cv)) rfl rfl, ?_⟩
  refine ⟨by omega, (Nat.le_of_ble_eq_true rfl), (Nat.le_of_ble_eq_true rfl), fun b57 hn57 _ => ?_⟩
  have d_57 := cnd_c (G := G) (h := h0) (f := 57) hn57 d_56
  have c_57 := cnh_c (G := G) (h := h0) (f := 57) hn57 c_56
  refine ⟨_, cs_r hn57, trivial, _, cs_u (G := G) (h := h0) (f := 57) (o' := .inr (6, [aI 0, aI 0, aR b2, aI 0, aR b4, aI 0, aR b6, aR b7, aR b8, aR b9, aR b10, aR b11, aR b12, aR b13, aR b14, aR b15, aR b16, aR b17, aR b18, aR b19, aR b20, aR b21, aR b22, aR b23, aR b24, aR b25, aR b26, aR b27, aR b28, aR b29, aR b30, aR b31, aR b32, aR b33, aR b34, aR b35, aR b36, aR b37, aR b38, aR b39, aR b40, aR b41, aR b42, aR b43, aR b44, aI 0, aL 0, aL 0, aL 0, aI 0, aR b50, aR b51, aR b52, aR b53, aR b54, aR b55, aR b56, aR b57, aN, aN, aN].map cv)) rfl rfl, ?_⟩
  refine ⟨by omega, (Nat.le_of_ble_eq_true rfl), (Nat.le_of_ble_eq_true rfl), fun b58 hn58 _ => ?_⟩
  have d_58 := cnd_c (G := G) (h := h0) (f := 58) hn58 d_57
  have c_58 := cnh_c (G := G) (h := h0) (f := 58) hn58 c_57
  refine ⟨_, cs_r hn58, trivial, _, cs_u (G := G) (h := h0) (f := 58) (o' := .inr (6, [aI 0, aI 0, aR b2, aI 0, aR b4, aI 0, aR b6, aR b7, aR b8, aR b9, aR b10, aR b11, aR b12, aR b13, aR b14, aR b15, aR b16, aR b17, aR b18, aR b19, aR b20, aR b21, aR b22, aR b23, aR b24, aR b25, aR b26, aR b27, aR b28, aR b29, aR b30, aR b31, aR b32, aR b33, aR b34, aR b35, aR b36, aR b37, aR b38, aR b39, aR b40, aR b41, aR b42, aR b43, aR b44, aI 0, aL 0, aL 0, aL 0, aI 0, aR b50, aR b51, aR b52, aR b53, aR b54, aR b55, aR b56, aR b57, aR b58, aN, aN].map cv)) rfl rfl, ?_⟩
  refine ⟨by omega, (Nat.le_of_ble_eq_true rfl), (Nat.le_of_ble_eq_true rfl), fun b59 hn59 _ => ?_⟩
  have d_59 := cnd_c (G := G) (h := h0) (f := 59) hn59 d_58
  have c_59 := cnh_c (G := G) (h := h0) (f := 59) hn59 c_58
  refine ⟨_, cs_r hn59, trivial, _, cs_u (G := G) (h := h0) (f := 59) (o' := .inr (6, [aI 0, aI 0, aR b2, aI 0, aR b4, aI 0, aR b6, aR b7, aR b8, aR b9, aR b10, aR b11, aR b12, aR b13, aR b14, aR b15, aR b16, aR b17, aR b18, aR b19, aR b20, aR b21, aR b22, aR b23, aR b24, aR b25, aR b26, aR b27, aR b28, aR b29, aR b30, aR b31, aR b32, aR b33, aR b34, aR b35, aR b36, aR b37, aR b38, aR b39, aR b40, aR b41, aR b42, aR b43, aR b44, aI 0, aL 0, aL 0, aL 0, aI 0, aR b50, aR b51, aR b52, aR b53, aR b54, aR b55, aR b56, aR b57, aR b58, aR b59, aN].map cv)) rfl rfl, ?_⟩
  refine ⟨76800, rfl, ?_⟩
  refine ⟨by omega, (Nat.le_of_ble_eq_true rfl), (Nat.le_of_ble_eq_true rfl), fun b60 hn60 _ => ?_⟩
  have d_60 := cnd_c (G := G) (h := h0) (f := 60) hn60 d_59
  have c_60 := cnh_c (G := G) (h := h0) (f := 60) hn60 c_59
  refine ⟨_, cs_r hn60, trivial, _, cs_u (G := G) (h := h0) (f := 60) (o' := .inr (6, [aI 0, aI 0, aR b2, aI 0, aR b4, aI 0, aR b6, aR b7, aR b8, aR b9, aR b10, aR b11, aR b12, aR b13, aR b14, aR b15, aR b16, aR b17, aR b18, aR b19, aR b20, aR b21, aR b22, aR b23, aR b24, aR b25, aR b26, aR b27, aR b28, aR b29, aR b30, aR b31, aR b32, aR b33, aR b34, aR b35, aR b36, aR b37, aR b38, aR b39, aR b40, aR b41, aR b42, aR b43, aR b44, aI 0, aL 0, aL 0, aL 0, aI 0, aR b50, aR b51, aR b52, aR b53, aR b54, aR b55, aR b56, aR b57, aR b58, aR b59, aR b60].map cv)) rfl rfl, ?_⟩
  have hs : ∀ p ∈ [(b60, 60), (b59, 59), (b58, 58), (b57, 57), (b56, 56), (b55, 55), (b54, 54), (b53, 53), (b52, 52), (b51, 51), (b50, 50), (b44, 44), (b43, 43), (b42, 42), (b41, 41), (b40, 40), (b39, 39), (b38, 38), (b37, 37), (b36, 36), (b35, 35), (b34, 34), (b33, 33), (b32, 32), (b31, 31), (b30, 30), (b29, 29), (b28, 28), (b27, 27), (b26, 26), (b25, 25), (b24, 24), (b23, 23), (b22, 22), (b21, 21), (b20, 20), (b19, 19), (b18, 18), (b17, 17), (b16, 16), (b15, 15), (b14, 14), (b13, 13), (b12, 12), (b11, 11), (b10, 10), (b9, 9), (b8, 8), (b7, 7), (b6, 6), (b4, 4), (b2, 2)], mf_is p.2 = true := fun p hp => (show ∀ f ∈ [60, 59, 58, 57, 56, 55, 54, 53, 52, 51, 50, 44, 43, 42, 41, 40, 39, 38, 37, 36, 35, 34, 33, 32, 31, 30, 29, 28, 27, 26, 25, 24, 23, 22, 21, 20, 19, 18, 17, 16, 15, 14, 13, 12, 11, 10, 9, 8, 7, 6, 4, 2], mf_is f = true by decide) p.2 (List.mem_map.mpr ⟨p, hp, rfl⟩)
  have hx := cnd_mx d_60 (fun f hf => by
    have hlt : f < 61 := by
      by_cases q : f < 61
      · exact q
      · unfold mf_is at hf; rw [mf_ty_big (by omega)] at hf; cases hf
    have hm9 := (show ∀ f, f < 61 → mf_is f = true → f ∈ [60, 59, 58, 57, 56, 55, 54, 53, 52, 51, 50, 44, 43, 42, 41, 40, 39, 38, 37, 36, 35, 34, 33, 32, 31, 30, 29, 28, 27, 26, 25, 24, 23, 22, 21, 20, 19, 18, 17, 16, 15, 14, 13, 12, 11, 10, 9, 8, 7, 6, 4, 2] by decide) f hlt hf
    obtain ⟨p, hp, rfl⟩ := List.mem_map.mp (show f ∈ ([(b60, 60), (b59, 59), (b58, 58), (b57, 57), (b56, 56), (b55, 55), (b54, 54), (b53, 53), (b52, 52), (b51, 51), (b50, 50), (b44, 44), (b43, 43), (b42, 42), (b41, 41), (b40, 40), (b39, 39), (b38, 38), (b37, 37), (b36, 36), (b35, 35), (b34, 34), (b33, 33), (b32, 32), (b31, 31), (b30, 30), (b29, 29), (b28, 28), (b27, 27), (b26, 26), (b25, 25), (b24, 24), (b23, 23), (b22, 22), (b21, 21), (b20, 20), (b19, 19), (b18, 18), (b17, 17), (b16, 16), (b15, 15), (b14, 14), (b13, 13), (b12, 12), (b11, 11), (b10, 10), (b9, 9), (b8, 8), (b7, 7), (b6, 6), (b4, 4), (b2, 2)]).map Prod.snd from hm9)
    exact ⟨p.1, hp⟩) hs (nd_inj _ (show ([60, 59, 58, 57, 56, 55, 54, 53, 52, 51, 50, 44, 43, 42, 41, 40, 39, 38, 37, 36, 35, 34, 33, 32, 31, 30, 29, 28, 27, 26, 25, 24, 23, 22, 21, 20, 19, 18, 17, 16, 15, 14, 13, 12, 11, 10, 9, 8, 7, 6, 4, 2]).Nodup by decide))
  have hh := (cnd_hm (G := G) (h := h0) (a := a) (l := [(b60, 60), (b59, 59), (b58, 58), (b57, 57), (b56, 56), (b55, 55), (b54, 54), (b53, 53), (b52, 52), (b51, 51), (b50, 50), (b44, 44), (b43, 43), (b42, 42), (b41, 41), (b40, 40), (b39, 39), (b38, 38), (b37, 37), (b36, 36), (b35, 35), (b34, 34), (b33, 33), (b32, 32), (b31, 31), (b30, 30), (b29, 29), (b28, 28), (b27, 27), (b26, 26), (b25, 25), (b24, 24), (b23, 23), (b22, 22), (b21, 21), (b20, 20), (b19, 19), (b18, 18), (b17, 17), (b16, 16), (b15, 15), (b14, 14), (b13, 13), (b12, 12), (b11, 11), (b10, 10), (b9, 9), (b8, 8), (b7, 7), (b6, 6), (b4, 4), (b2, 2)])).resolve_right (fun ⟨p, hp, e⟩ => mf_99 (hs p hp) e)
  have hfr : ∀ q f, cX a [(b60, 60), (b59, 59), (b58, 58), (b57, 57), (b56, 56), (b55, 55), (b54, 54), (b53, 53), (b52, 52), (b51, 51), (b50, 50), (b44, 44), (b43, 43), (b42, 42), (b41, 41), (b40, 40), (b39, 39), (b38, 38), (b37, 37), (b36, 36), (b35, 35), (b34, 34), (b33, 33), (b32, 32), (b31, 31), (b30, 30), (b29, 29), (b28, 28), (b27, 27), (b26, 26), (b25, 25), (b24, 24), (b23, 23), (b22, 22), (b21, 21), (b20, 20), (b19, 19), (b18, 18), (b17, 17), (b16, 16), (b15, 15), (b14, 14), (b13, 13), (b12, 12), (b11, 11), (b10, 10), (b9, 9), (b8, 8), (b7, 7), (b6, 6), (b4, 4), (b2, 2)] q = some f → q = a ∨ h0 q = none := fun q f e => by
    unfold cX at e
    split at e
    · left; assumption
    · right
      split at e
      · rename_i p hp
        rw [← (by simpa using List.find?_some hp : p.1 = q)]
        exact c_60 p (List.mem_of_find?_eq_some hp)
      · cases e
  refine mi_rh6 hh ?_
  have h99 : cA a [(b60, 60), (b59, 59), (b58, 58), (b57, 57), (b56, 56), (b55, 55), (b54, 54), (b53, 53), (b52, 52), (b51, 51), (b50, 50), (b44, 44), (b43, 43), (b42, 42), (b41, 41), (b40, 40), (b39, 39), (b38, 38), (b37, 37), (b36, 36), (b35, 35), (b34, 34), (b33, 33), (b32, 32), (b31, 31), (b30, 30), (b29, 29), (b28, 28), (b27, 27), (b26, 26), (b25, 25), (b24, 24), (b23, 23), (b22, 22), (b21, 21), (b20, 20), (b19, 19), (b18, 18), (b17, 17), (b16, 16), (b15, 15), (b14, 14), (b13, 13), (b12, 12), (b11, 11), (b10, 10), (b9, 9), (b8, 8), (b7, 7), (b6, 6), (b4, 4), (b2, 2)] 99 = a := rfl
  clear hh
  generalize cX a [(b60, 60), (b59, 59), (b58, 58), (b57, 57), (b56, 56), (b55, 55), (b54, 54), (b53, 53), (b52, 52), (b51, 51), (b50, 50), (b44, 44), (b43, 43), (b42, 42), (b41, 41), (b40, 40), (b39, 39), (b38, 38), (b37, 37), (b36, 36), (b35, 35), (b34, 34), (b33, 33), (b32, 32), (b31, 31), (b30, 30), (b29, 29), (b28, 28), (b27, 27), (b26, 26), (b25, 25), (b24, 24), (b23, 23), (b22, 22), (b21, 21), (b20, 20), (b19, 19), (b18, 18), (b17, 17), (b16, 16), (b15, 15), (b14, 14), (b13, 13), (b12, 12), (b11, 11), (b10, 10), (b9, 9), (b8, 8), (b7, 7), (b6, 6), (b4, 4), (b2, 2)] = ax at *
  generalize cA a [(b60, 60), (b59, 59), (b58, 58), (b57, 57), (b56, 56), (b55, 55), (b54, 54), (b53, 53), (b52, 52), (b51, 51), (b50, 50), (b44, 44), (b43, 43), (b42, 42), (b41, 41), (b40, 40), (b39, 39), (b38, 38), (b37, 37), (b36, 36), (b35, 35), (b34, 34), (b33, 33), (b32, 32), (b31, 31), (b30, 30), (b29, 29), (b28, 28), (b27, 27), (b26, 26), (b25, 25), (b24, 24), (b23, 23), (b22, 22), (b21, 21), (b20, 20), (b19, 19), (b18, 18), (b17, 17), (b16, 16), (b15, 15), (b14, 14), (b13, 13), (b12, 12), (b11, 11), (b10, 10), (b9, 9), (b8, 8), (b7, 7), (b6, 6), (b4, 4), (b2, 2)] = A at *
  subst h99
  have hV := mV0
  generalize (fun (_ _ : Nat) => (0 : Int)) = μ at *
  have loop304 : ∀ (S : Nat → Nat → Int) (d : Nat) (k : Int) (ν : Nat → Nat → Int) (hV : mV ν), (0 ≤ k ∧ k ≤ 512) → (512 - k) < (d : Int) → s_init6_304 μ d k ν = S → mi_W L G MX6_init 52 852618 (cR6 G (A 99) h0 S) mm_no θ 304 [(1, aI k), (0, aR (A 99))] [] (hm G A ax h0 ν) 52 852618 := by
    intro S d
    induction d with
    | zero =>
      intro k ν hV hi1 hms hsr
      omega
    | succ d ih =>
      intro k ν hV hi1 hms hsr
      refine mi_sound hc okX6_init 1200 _ _ _ _ _ _ ?_
      refine ⟨by omega, fun (e1 : 512 ≤ k) => ?_, fun (e1 : ¬ (512 ≤ k)) => ?_⟩
      · exact ⟨c6 hx hfr (hsr.symm.trans (by first | exact if_pos e1 | (rw [s_init6_304]; rw [if_pos e1]))) hV, Nat.le_refl _, Nat.le_refl _⟩
      · refine ⟨_, hm_oi hx, aR (A 26), rfl, ?_⟩
        refine ⟨(-1), rfl, ?_⟩
        refine ⟨512, _, _, hm_a hx 26 rfl, by omega, hm_pl hx (i := k.toNat) (v := -1) rfl rfl rfl, ?_⟩
        have hV2 := hV.u (f := 26) (k := k.toNat) (v := -1) (show -1 ≤ (-1) ∧ (-1) ≤ 65536 from by omega)
        refine ⟨_, hm_oi hx, aR (A 24), rfl, ?_⟩
        refine ⟨(-1), rfl, ?_⟩
        refine ⟨512, _, _, hm_a hx 24 rfl, by omega, hm_pl hx (i := k.toNat) (v := -1) rfl rfl rfl, ?_⟩
        have hV3 := hV2.u (f := 24) (k := k.toNat) (v := -1) (show -1 ≤ (-1) ∧ (-1) ≤ 4611686018427387903 from by omega)
        exact mi_Wsub (List.forall_mem_cons.mpr ⟨(.head _), List.forall_mem_cons.mpr ⟨(.tail _ (.head _)), fun _ h => absurd h List.not_mem_nil⟩⟩) (ih (k + 1) (u2 (u2 ν 26 k.toNat (-1)) 24 k.toNat (-1)) hV3 (show 0 ≤ (k + 1) ∧ (k + 1) ≤ 512 from by omega) (show (512 - (k + 1)) < (d : Int) from by omega) (Eq.trans (by first | exact (if_neg e1).symm | (rw [s_init6_304]; rw [if_neg e1])) hsr))
  refine ⟨by omega, fun (e : (2 : Int) ≤ 0) => absurd e (by decide), fun _ => ?_⟩
  refine mi_nl [(1, aI 0), (0, aR (A 99))] rfl ?_
  refine ⟨_, hm_oi hx, aR (A 6), rfl, ?_⟩
  refine ⟨32, _, _, hm_a hx 6 rfl, by omega, trivial, hm_pi hx (i := 4) (v := 4096) rfl rfl rfl rfl, ?_⟩
  have hV4 := hV.u (f := 6) (k := 4) (v := 4096) (show 0 ≤ 4096 ∧ 4096 ≤ 65536 from by omega)
  refine ⟨by omega, fun (e : (8 : Int) ≤ 5) => absurd e (by decide), fun _ => ?_⟩
  refine mi_nl [(2, aI 5), (1, aI 0), (0, aR (A 99))] rfl ?_
  refine ⟨_, hm_oi hx, aR (A 6), rfl, ?_⟩
  refine ⟨32, _, _, hm_a hx 6 rfl, by omega, trivial, hm_pi hx (i := 5) (v := 1024) rfl rfl rfl rfl, ?_⟩
  have hV5 := hV4.u (f := 6) (k := 5) (v := 1024) (show 0 ≤ 1024 ∧ 1024 ≤ 65536 from by omega)
  refine ⟨by omega, fun (e : (8 : Int) ≤ (5 + 1)) => absurd e (by decide), fun _ => ?_⟩
  refine mi_nl [(2, aI (5 + 1)), (1, aI 0), (0, aR (A 99))] rfl ?_
  refine ⟨_, hm_oi hx, aR (A 6), rfl, ?_⟩
  refine ⟨32, _, _, hm_a hx 6 rfl, by omega, trivial, hm_pi hx (i := 6) (v := 1024) rfl rfl rfl rfl, ?_⟩
  have hV6 := hV5.u (f := 6) (k := 6) (v := 1024) (show 0 ≤ 1024 ∧ 1024 ≤ 65536 from by omega)
  refine ⟨by omega, fun (e : (8 : Int) ≤ ((5 + 1) + 1)) => absurd e (by decide), fun _ => ?_⟩
  refine mi_nl [(2, aI ((5 + 1) + 1)), (1, aI 0), (0, aR (A 99))] rfl ?_
  refine ⟨_, hm_oi hx, aR (A 6), rfl, ?_⟩
  refine ⟨32, _, _, hm_a hx 6 rfl, by omega, trivial, hm_pi hx (i := 7) (v := 1024) rfl rfl rfl rfl, ?_⟩
  have hV7 := hV6.u (f := 6) (k := 7) (v := 1024) (show 0 ≤ 1024 ∧ 1024 ≤ 65536 from by omega)
  refine ⟨by omega, fun _ => ?_, fun (e : ¬ ((8 : Int) ≤ (((5 + 1) + 1) + 1))) => (e (by decide)).elim⟩
  refine mi_nl [(2, aI (((5 + 1) + 1) + 1)), (1, aI 0), (0, aR (A 99))] rfl ?_
  refine ⟨_, hm_oi hx, aR (A 6), rfl, ?_⟩
  refine ⟨32, _, _, hm_a hx 6 rfl, by omega, trivial, hm_pi hx (i := 8) (v := 4) rfl rfl rfl rfl, ?_⟩
  have hV8 := hV7.u (f := 6) (k := 8) (v := 4) (show 0 ≤ 4 ∧ 4 ≤ 65536 from by omega)
  refine ⟨_, hm_oi hx, aR (A 6), rfl, ?_⟩
  refine ⟨32, _, _, hm_a hx 6 rfl, by omega, trivial, hm_pi hx (i := 9) (v := 4) rfl rfl rfl rfl, ?_⟩
  have hV9 := hV8.u (f := 6) (k := 9) (v := 4) (show 0 ≤ 4 ∧ 4 ≤ 65536 from by omega)
  refine ⟨_, hm_oi hx, aR (A 11), rfl, ?_⟩
  refine ⟨4096, rfl, ?_⟩
  refine ⟨2, _, _, hm_a hx 11 rfl, by omega, hm_pl hx (i := 0) (v := 4096) rfl rfl rfl, ?_⟩
  have hV10 := hV9.u (f := 11) (k := 0) (v := 4096) (show 0 ≤ 4096 ∧ 4096 ≤ 65536 from by omega)
  refine ⟨_, hm_oi hx, aR (A 10), rfl, ?_⟩
  refine ⟨4, _, _, hm_a hx 10 rfl, by omega, trivial, hm_pi hx (i := 0) (v := 4) rfl rfl rfl rfl, ?_⟩
  have hV11 := hV10.u (f := 10) (k := 0) (v := 4) (show 0 ≤ 4 ∧ 4 ≤ 64 from by omega)
  refine ⟨_, hm_oi hx, aR (A 10), rfl, ?_⟩
  refine ⟨4, _, _, hm_a hx 10 rfl, by omega, trivial, hm_pi hx (i := 1) (v := 4) rfl rfl rfl rfl, ?_⟩
  have hV12 := hV11.u (f := 10) (k := 1) (v := 4) (show 0 ≤ 4 ∧ 4 ≤ 64 from by omega)
  refine ⟨_, hm_oi hx, aR (A 16), rfl, ?_⟩
  refine ⟨2, _, _, hm_a hx 16 rfl, by omega, trivial, hm_pi hx (i := 0) (v := -1) rfl rfl rfl rfl, ?_⟩
  have hV13 := hV12.u (f := 16) (k := 0) (v := -1) (show -1 ≤ (-1) ∧ (-1) ≤ 255 from by omega)
  refine ⟨by omega, fun (e : (3 : Int) ≤ 0) => absurd e (by decide), fun _ => ?_⟩
  refine mi_nl [(2, aI 0), (1, aI 0), (0, aR (A 99))] rfl ?_
  refine ⟨_, hm_oi hx, aR (A 14), rfl, ?_⟩
  refine ⟨(-1), rfl, ?_⟩
  refine ⟨6, _, _, hm_a hx 14 rfl, by omega, hm_pl hx (i := 0) (v := -1) rfl rfl rfl, ?_⟩
  have hV14 := hV13.u (f := 14) (k := 0) (v := -1) (show -1 ≤ (-1) ∧ (-1) ≤ 4611686018427387903 from by omega)
  refine ⟨by omega, fun (e : (3 : Int) ≤ (0 + 1)) => absurd e (by decide), fun _ => ?_⟩
  refine mi_nl [(2, aI (0 + 1)), (1, aI 0), (0, aR (A 99))] rfl ?_
  refine ⟨_, hm_oi hx, aR (A 14), rfl, ?_⟩
  refine ⟨(-1), rfl, ?_⟩
  refine ⟨6, _, _, hm_a hx 14 rfl, by omega, hm_pl hx (i := 1) (v := -1) rfl rfl rfl, ?_⟩
  have hV15 := hV14.u (f := 14) (k := 1) (v := -1) (show -1 ≤ (-1) ∧ (-1) ≤ 4611686018427387903 from by omega)
  refine ⟨by omega, fun (e : (3 : Int) ≤ ((0 + 1) + 1)) => absurd e (by decide), fun _ => ?_⟩
  refine mi_nl [(2, aI ((0 + 1) + 1)), (1, aI 0), (0, aR (A 99))] rfl ?_
  refine ⟨_, hm_oi hx, aR (A 14), rfl, ?_⟩
  refine ⟨(-1), rfl, ?_⟩
  refine ⟨6, _, _, hm_a hx 14 rfl, by omega, hm_pl hx (i := 2) (v := -1) rfl rfl rfl, ?_⟩
  have hV16 := hV15.u (f := 14) (k := 2) (v := -1) (show -1 ≤ (-1) ∧ (-1) ≤ 4611686018427387903 from by omega)
  refine ⟨by omega, fun _ => ?_, fun (e : ¬ ((3 : Int) ≤ (((0 + 1) + 1) + 1))) => (e (by decide)).elim⟩
  refine mi_nl [(2, aI (((0 + 1) + 1) + 1)), (1, aI 0), (0, aR (A 99))] rfl ?_
  refine ⟨by omega, fun (e : (2 : Int) ≤ (0 + 1)) => absurd e (by decide), fun _ => ?_⟩
  refine mi_nl [(1, aI (0 + 1)), (2, aI (((0 + 1) + 1) + 1)), (0, aR (A 99))] rfl ?_
  refine ⟨_, hm_oi hx, aR (A 6), rfl, ?_⟩
  refine ⟨32, _, _, hm_a hx 6 rfl, by omega, trivial, hm_pi hx (i := 20) (v := 4096) rfl rfl rfl rfl, ?_⟩
  have hV17 := hV16.u (f := 6) (k := 20) (v := 4096) (show 0 ≤ 4096 ∧ 4096 ≤ 65536 from by omega)
  refine ⟨by omega, fun (e : (8 : Int) ≤ 5) => absurd e (by decide), fun _ => ?_⟩
  refine mi_nl [(2, aI 5), (1, aI (0 + 1)), (0, aR (A 99))] rfl ?_
  refine ⟨_, hm_oi hx, aR (A 6), rfl, ?_⟩
  refine ⟨32, _, _, hm_a hx 6 rfl, by omega, trivial, hm_pi hx (i := 21) (v := 1024) rfl rfl rfl rfl, ?_⟩
  have hV18 := hV17.u (f := 6) (k := 21) (v := 1024) (show 0 ≤ 1024 ∧ 1024 ≤ 65536 from by omega)
  refine ⟨by omega, fun (e : (8 : Int) ≤ (5 + 1)) => absurd e (by decide), fun _ => ?_⟩
  refine mi_nl [(2, aI (5 + 1)), (1, aI (0 + 1)), (0, aR (A 99))] rfl ?_
  refine ⟨_, hm_oi hx, aR (A 6), rfl, ?_⟩
  refine ⟨32, _, _, hm_a hx 6 rfl, by omega, trivial, hm_pi hx (i := 22) (v := 1024) rfl rfl rfl rfl, ?_⟩
  have hV19 := hV18.u (f := 6) (k := 22) (v := 1024) (show 0 ≤ 1024 ∧ 1024 ≤ 65536 from by omega)
  refine ⟨by omega, fun (e : (8 : Int) ≤ ((5 + 1) + 1)) => absurd e (by decide), fun _ => ?_⟩
  refine mi_nl [(2, aI ((5 + 1) + 1)), (1, aI (0 + 1)), (0, aR (A 99))] rfl ?_
  refine ⟨_, hm_oi hx, aR (A 6), rfl, ?_⟩
  refine ⟨32, _, _, hm_a hx 6 rfl, by omega, trivial, hm_pi hx (i := 23) (v := 1024) rfl rfl rfl rfl, ?_⟩
  have hV20 := hV19.u (f := 6) (k := 23) (v := 1024) (show 0 ≤ 1024 ∧ 1024 ≤ 65536 from by omega)
  refine ⟨by omega, fun _ => ?_, fun (e : ¬ ((8 : Int) ≤ (((5 + 1) + 1) + 1))) => (e (by decide)).elim⟩
  refine mi_nl [(2, aI (((5 + 1) + 1) + 1)), (1, aI (0 + 1)), (0, aR (A 99))] rfl ?_
  refine ⟨_, hm_oi hx, aR (A 6), rfl, ?_⟩
  refine ⟨32, _, _, hm_a hx 6 rfl, by omega, trivial, hm_pi hx (i := 24) (v := 4) rfl rfl rfl rfl, ?_⟩
  have hV21 := hV20.u (f := 6) (k := 24) (v := 4) (show 0 ≤ 4 ∧ 4 ≤ 65536 from by omega)
  refine ⟨_, hm_oi hx, aR (A 6), rfl, ?_⟩
  refine ⟨32, _, _, hm_a hx 6 rfl, by omega, trivial, hm_pi hx (i := 25) (v := 4) rfl rfl rfl rfl, ?_⟩
  have hV22 := hV21.u (f := 6) (k := 25) (v := 4) (show 0 ≤ 4 ∧ 4 ≤ 65536 from by omega)
  refine ⟨_, hm_oi hx, aR (A 11), rfl, ?_⟩
  refine ⟨4096, rfl, ?_⟩
  refine ⟨2, _, _, hm_a hx 11 rfl, by omega, hm_pl hx (i := 1) (v := 4096) rfl rfl rfl, ?_⟩
  have hV23 := hV22.u (f := 11) (k := 1) (v := 4096) (show 0 ≤ 4096 ∧ 4096 ≤ 65536 from by omega)
  refine ⟨_, hm_oi hx, aR (A 10), rfl, ?_⟩
  refine ⟨4, _, _, hm_a hx 10 rfl, by omega, trivial, hm_pi hx (i := 2) (v := 4) rfl rfl rfl rfl, ?_⟩
  have hV24 := hV23.u (f := 10) (k := 2) (v := 4) (show 0 ≤ 4 ∧ 4 ≤ 64 from by omega)
  refine ⟨_, hm_oi hx, aR (A 10), rfl, ?_⟩
  refine ⟨4, _, _, hm_a hx 10 rfl, by omega, trivial, hm_pi hx (i := 3) (v := 4) rfl rfl rfl rfl, ?_⟩
  have hV25 := hV24.u (f := 10) (k := 3) (v := 4) (show 0 ≤ 4 ∧ 4 ≤ 64 from by omega)
  refine ⟨_, hm_oi hx, aR (A 16), rfl, ?_⟩
  refine ⟨2, _, _, hm_a hx 16 rfl, by omega, trivial, hm_pi hx (i := 1) (v := -1) rfl rfl rfl rfl, ?_⟩
  have hV26 := hV25.u (f := 16) (k := 1) (v := -1) (show -1 ≤ (-1) ∧ (-1) ≤ 255 from by omega)
  refine ⟨by omega, fun (e : (3 : Int) ≤ 0) => absurd e (by decide), fun _ => ?_⟩
  refine mi_nl [(2, aI 0), (1, aI (0 + 1)), (0, aR (A 99))] rfl ?_
  refine ⟨_, hm_oi hx, aR (A 14), rfl, ?_⟩
  refine ⟨(-1), rfl, ?_⟩
  refine ⟨6, _, _, hm_a hx 14 rfl, by omega, hm_pl hx (i := 3) (v := -1) rfl rfl rfl, ?_⟩
  have hV27 := hV26.u (f := 14) (k := 3) (v := -1) (show -1 ≤ (-1) ∧ (-1) ≤ 4611686018427387903 from by omega)
  refine ⟨by omega, fun (e : (3 : Int) ≤ (0 + 1)) => absurd e (by decide), fun _ => ?_⟩
  refine mi_nl [(2, aI (0 + 1)), (1, aI (0 + 1)), (0, aR (A 99))] rfl ?_
  refine ⟨_, hm_oi hx, aR (A 14), rfl, ?_⟩
  refine ⟨(-1), rfl, ?_⟩
  refine ⟨6, _, _, hm_a hx 14 rfl, by omega, hm_pl hx (i := 4) (v := -1) rfl rfl rfl, ?_⟩
  have hV28 := hV27.u (f := 14) (k := 4) (v := -1) (show -1 ≤ (-1) ∧ (-1) ≤ 4611686018427387903 from by omega)
  refine ⟨by omega, fun (e : (3 : Int) ≤ ((0 + 1) + 1)) => absurd e (by decide), fun _ => ?_⟩
  refine mi_nl [(2, aI ((0 + 1) + 1)), (1, aI (0 + 1)), (0, aR (A 99))] rfl ?_
  refine ⟨_, hm_oi hx, aR (A 14), rfl, ?_⟩
  refine ⟨(-1), rfl, ?_⟩
  refine ⟨6, _, _, hm_a hx 14 rfl, by omega, hm_pl hx (i := 5) (v := -1) rfl rfl rfl, ?_⟩
  have hV29 := hV28.u (f := 14) (k := 5) (v := -1) (show -1 ≤ (-1) ∧ (-1) ≤ 4611686018427387903 from by omega)
  refine ⟨by omega, fun _ => ?_, fun (e : ¬ ((3 : Int) ≤ (((0 + 1) + 1) + 1))) => (e (by decide)).elim⟩
  refine mi_nl [(2, aI (((0 + 1) + 1) + 1)), (1, aI (0 + 1)), (0, aR (A 99))] rfl ?_
  refine ⟨by omega, fun _ => ?_, fun (e : ¬ ((2 : Int) ≤ ((0 + 1) + 1))) => (e (by decide)).elim⟩
  refine mi_nl [(1, aI ((0 + 1) + 1)), (2, aI (((0 + 1) + 1) + 1)), (0, aR (A 99))] rfl ?_
  exact mi_Wsub (List.forall_mem_cons.mpr ⟨(.head _), List.forall_mem_cons.mpr ⟨(.tail _ (.tail _ (.head _))), fun _ h => absurd h List.not_mem_nil⟩⟩) (loop304 _ 513 0 (u2 (u2 (u2 (u2 (u2 (u2 (u2 (u2 (u2 (u2 (u2 (u2 (u2 (u2 (u2 (u2 (u2 (u2 (u2 (u2 (u2 (u2 (u2 (u2 (u2 (u2 μ 6 4 4096) 6 5 1024) 6 6 1024) 6 7 1024) 6 8 4) 6 9 4) 11 0 4096) 10 0 4) 10 1 4) 16 0 (-1)) 14 0 (-1)) 14 1 (-1)) 14 2 (-1)) 6 20 4096) 6 21 1024) 6 22 1024) 6 23 1024) 6 24 4) 6 25 4) 11 1 4096) 10 2 4) 10 3 4) 16 1 (-1)) 14 3 (-1)) 14 4 (-1)) 14 5 (-1)) hV29 (show 0 ≤ 0 ∧ 0 ≤ 512 from by omega) (show (512 - 0) < (513 : Int) from by omega) rfl)
set_option maxRecDepth 100000 in
theorem s_init6_304_fr {f kk : Nat} (hf : [6, 10, 11, 14, 16, 24, 26].elem f = false) : ∀ (d : Nat) (k : Int) (ν : Nat → Nat → Int), s_init6_304 μ d k ν f kk = ν f kk := by
  have n6 : f ≠ 6 := by rintro rfl; exact absurd hf (by decide)
  have n10 : f ≠ 10 := by rintro rfl; exact absurd hf (by decide)
  have n11 : f ≠ 11 := by rintro rfl; exact absurd hf (by decide)
  have n14 : f ≠ 14 := by rintro rfl; exact absurd hf (by decide)
  have n16 : f ≠ 16 := by rintro rfl; exact absurd hf (by decide)
  have n24 : f ≠ 24 := by rintro rfl; exact absurd hf (by decide)
  have n26 : f ≠ 26 := by rintro rfl; exact absurd hf (by decide)
  have f6 : ∀ (m : Nat → Nat → Int) (a b : Nat) (v : Int), u2 m 6 a v f b = m f b := fun m a b v => u2_f n6
  have f10 : ∀ (m : Nat → Nat → Int) (a b : Nat) (v : Int), u2 m 10 a v f b = m f b := fun m a b v => u2_f n10
  have f11 : ∀ (m : Nat → Nat → Int) (a b : Nat) (v : Int), u2 m 11 a v f b = m f b := fun m a b v => u2_f n11
  have f14 : ∀ (m : Nat → Nat → Int) (a b : Nat) (v : Int), u2 m 14 a v f b = m f b := fun m a b v => u2_f n14
  have f16 : ∀ (m : Nat → Nat → Int) (a b : Nat) (v : Int), u2 m 16 a v f b = m f b := fun m a b v => u2_f n16
  have f24 : ∀ (m : Nat → Nat → Int) (a b : Nat) (v : Int), u2 m 24 a v f b = m f b := fun m a b v => u2_f n24
  have f26 : ∀ (m : Nat → Nat → Int) (a b : Nat) (v : Int), u2 m 26 a v f b = m f b := fun m a b v => u2_f n26
  intro d
  induction d with
  | zero => intros; rfl
  | succ d ih =>
    intro k ν
    rw [s_init6_304]
    repeat' with_reducible apply f_ite
    all_goals first | rfl | simp only [f6, f10, f11, f14, f16, f24, f26, ih]
set_option maxRecDepth 100000 in
theorem s_init6_fr {f kk : Nat} (hf : [6, 10, 11, 14, 16, 24, 26].elem f = false) : s_init6 μ f kk = μ f kk := by
  have n6 : f ≠ 6 := by rintro rfl; exact absurd hf (by decide)
  have n10 : f ≠ 10 := by rintro rfl; exact absurd hf (by decide)
  have n11 : f ≠ 11 := by rintro rfl; exact absurd hf (by decide)
  have n14 : f ≠ 14 := by rintro rfl; exact absurd hf (by decide)
  have n16 : f ≠ 16 := by rintro rfl; exact absurd hf (by decide)
  have n24 : f ≠ 24 := by rintro rfl; exact absurd hf (by decide)
  have n26 : f ≠ 26 := by rintro rfl; exact absurd hf (by decide)
  have f6 : ∀ (m : Nat → Nat → Int) (a b : Nat) (v : Int), u2 m 6 a v f b = m f b := fun m a b v => u2_f n6
  have f10 : ∀ (m : Nat → Nat → Int) (a b : Nat) (v : Int), u2 m 10 a v f b = m f b := fun m a b v => u2_f n10
  have f11 : ∀ (m : Nat → Nat → Int) (a b : Nat) (v : Int), u2 m 11 a v f b = m f b := fun m a b v => u2_f n11
  have f14 : ∀ (m : Nat → Nat → Int) (a b : Nat) (v : Int), u2 m 14 a v f b = m f b := fun m a b v => u2_f n14
  have f16 : ∀ (m : Nat → Nat → Int) (a b : Nat) (v : Int), u2 m 16 a v f b = m f b := fun m a b v => u2_f n16
  have f24 : ∀ (m : Nat → Nat → Int) (a b : Nat) (v : Int), u2 m 24 a v f b = m f b := fun m a b v => u2_f n24
  have f26 : ∀ (m : Nat → Nat → Int) (a b : Nat) (v : Int), u2 m 26 a v f b = m f b := fun m a b v => u2_f n26
  unfold s_init6
  repeat' with_reducible apply f_ite
  all_goals first | rfl | simp only [f6, f10, f11, f14, f16, f24, f26, s_init6_304_fr hf]
end MR17
