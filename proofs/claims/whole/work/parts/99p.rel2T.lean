section R47
variable {κ μ κ' μ' κ1 μ1 κc μc μb : Nat → Nat → Int} {O O' : Nat → Nat}
/-- one stream's frame: tried by both -/
def stO (κ κ' μ' : Nat → Nat → Int) (O : Nat → Nat) (s p v v' : Int) : Prop :=
  (v = 1 ∧ v' = 1 ∧ fS κ' μ' O p ∧ fD κ' μ' O s p) ∨ (v = 0 ∧ v' = 0 ∧ fS κ' μ' O p ∧ ∀ f k, 200 ≤ f → κ' f k = κ f k)
/-- the workplace for a stream's frame -/
def mu0 (μ : Nat → Nat → Int) (i a : Int) : Nat → Nat → Int := u2 (u2 (u2 (u2 (u2 μ 49 0 0) 45 0 8) 46 0 i) 47 0 a) 48 0 0
theorem mu0_o (i a : Int) : (∀ f k, ¬ (45 ≤ f ∧ f ≤ 50) → mu0 μ i a f k = μ f k) ∧ mu0 μ i a 45 0 = 8 ∧ mu0 μ i a 46 0 = i ∧ mu0 μ i a 47 0 = a ∧ mu0 μ i a 48 0 = 0 ∧ mu0 μ i a 49 0 = 0 := by
  unfold mu0
  refine ⟨fun f k z => ?_, ?_, ?_, ?_, ?_, ?_⟩
  · rw [u2_f (by omega), u2_f (by omega), u2_f (by omega), u2_f (by omega), u2_f (by omega)]
  all_goals simp (disch := decide) only [u2_f, u2_s]
theorem mu0_V (hV : mV μ) {i a : Int} (hi : 0 ≤ i ∧ i ≤ 4611686018427387903) (ha : 0 ≤ a ∧ a ≤ 4611686018427387903) : mV (mu0 μ i a) :=
  ((((hV.u (f := 49) (by decide)).u (f := 45) (by decide)).u (f := 46) hi).u (f := 47) ha).u (f := 48) (by decide)
theorem mMk_sc (h : ∀ f k, ¬ (45 ≤ f ∧ f ≤ 50) → μ' f k = μ f k) (s i : Int) (o : Nat) : mMk μ' s i o = mMk μ s i o := by
  unfold mMk
  rw [v_placeOf_cg (μ := μ') (μ' := μ) (fun f hf k => h f k (by
    simp only [List.elem_eq_mem, decide_eq_true_eq, List.mem_cons, List.not_mem_nil, or_false] at hf
    omega)), h 39 _ (by omega)]
set_option maxHeartbeats 4000000 in
theorem stream_go {s p r i a t q m : Int} (h1 : 0 ≤ s) (h2 : s ≤ 1) (h3 : 0 ≤ i) (h4 : i < 256) (p0 : 0 ≤ p) (p1 : p < 64) (r1 : 1 ≤ r) (r2 : r ≤ 1200) (h : fS κ μ O p) (hp : κ 290 (mj s i) = 1) (hl : κ 200 (mj s i) = 0 ∨ κ 200 (mj s i) = 1) (a0 : 0 ≤ a) (a1 : a ≤ 65536) (m1 : 1 ≤ m) (hle : a + m ≤ κ 203 (mj s i))
    (hcase : (a + m ≤ κ 204 (mj s i) ∧ ∀ o : Nat, a ≤ o → (o : Int) < a + m → κ (1000 + (κ 202 (mj s i)).toNat) o = 3) ∨ (a = κ 204 (mj s i) ∧ m ≤ κ 310 s.toNat - κ 309 s.toNat))
    (hf : v_fillFrom κ s p r i = ffV κ s i m (v_countThatFits κ p i a m r) ∧ s_fillFrom κ s p r i = ffS κ s p r i a m (v_countThatFits κ p i a m r))
    (hs : v_fillsStream μ s i r = v_fillsStream_115 μ s i r 1202 1 0 a t q (mW μ s i) (mu0 μ i a) ∧ s_fillsStream μ s i r = s_fillsStream_115 μ s i r 1202 1 0 a t q (mW μ s i) (mu0 μ i a))
    (hin : ∀ o : Int, 0 ≤ o → o < m → o < q ∧ a + o < mW μ s i ∧ mMk μ s i (a + o).toNat = t) (hout : ¬ (m < q ∧ a + m < mW μ s i ∧ mMk μ s i (a + m).toNat = t)) :
    stO κ (s_fillFrom κ s p r i) (s_fillsStream μ s i r) O s p (v_fillFrom κ s p r i) (v_fillsStream μ s i r) := by
  obtain ⟨o0, o45, o46, o47, o48, o49⟩ := mu0_o (μ := μ) i a
  have hV0 : mV (mu0 μ i a) := mu0_V h.2.2.1 (by clear hcase hl; omega) (by clear hcase hl; omega)
  have emk : ∀ o, mMk (mu0 μ i a) s i o = mMk μ s i o := fun o => mMk_sc o0 s i o
  obtain ⟨N, ν', n1, n2, n3, n4, n5, n6, n7⟩ := many_l (μ := μ) (s := s) (i := i) (r := r) (a := a) (t := t) (q := q) (w := mW μ s i) (L := m) r1 a0 (by omega) 1202 0 (mu0 μ i a) (Int.le_refl _) (by omega) (by omega) o45 (fun o x y => by rw [emk]; exact hin o x y) (by rw [emk]; exact hout) (fun z => by omega)
  rw [o46, o47] at n6 n7
  obtain ⟨C, e1, e2, _, e4⟩ := cf_c (κ := κ) (p := p) (i := i) (a := a) (m := m) (r := r) a0 r2 (by omega)
  have e5 := e4 m1
  rw [e1] at hf
  rw [hf.1, hf.2, hs.1, hs.2, n1, n2]
  have scr : ∀ x : Int, ∀ f k, ¬ (45 ≤ f ∧ f ≤ 50) → u2 ν' 49 0 x f k = μ f k := fun x f k z => by
    rw [u2_f (by clear hcase hl e5 n6 e4; omega), n3 f k (by clear hcase hl e5 n6 e4; omega), o0 f k z]
  have hV' : ∀ x : Int, 0 ≤ x → x ≤ 1200 → mV (u2 ν' 49 0 x) := fun x x0 x1 f k => by
    by_cases z : f = 49 ∧ k = 0
    · have := (hV0.u (f := 49) (k := 0) (v := x) ⟨x0, Int.le_trans x1 (by decide)⟩) f k
      rw [z.1, z.2, u2_s] at this ⊢
      exact this
    · rw [u2_n z, n3 f k z]; exact hV0 f k
  clear e4
  by_cases z : N = 0
  · have hC : C ≤ 0 := by
      rcases e5 with x | x
      · exact x.1
      · exfalso
        subst z
        have := mSize_mo (show (1 : Int) ≤ C by omega)
        rw [show (0 : Int) + 1 = 1 by omega] at n6
        omega
    rw [if_pos z, if_pos z, z]
    have eV : ffV κ s i m C = 0 := by
      unfold ffV
      rw [if_neg (fun w => by omega)]
      by_cases y : C < 0
      · rw [if_pos y]
      · rw [if_neg y, if_pos (by omega)]
    have eS : ffS κ s p r i a m C = s_countThatFits κ p i a m r := by
      unfold ffS
      rw [if_neg (fun w => by omega)]
      by_cases y : C < 0
      · rw [if_pos y]
      · rw [if_neg y, if_pos (by omega)]
    rw [eV, eS, e2]
    refine Or.inr ⟨rfl, rfl, fS_sc p0 p1 h (fun f k w => u2_n (by omega)) (scr 0) (hV' 0 (by decide) (by decide)), fun f k w => u2_n (by omega)⟩
  · rw [if_neg z, if_neg z]
    have n7' := n7 (by omega)
    have hNC : C = N ∧ 1 ≤ C := by
      rcases e5 with x | x
      · exfalso
        have := mSize_mo (show (1 : Int) ≤ N by omega)
        omega
      · refine ⟨?_, x.1⟩
        rcases Int.lt_trichotomy C N with y | y | y
        · have := mSize_mo (show C + 1 ≤ N by omega)
          omega
        · exact y
        · have := mSize_mo (show N + 1 ≤ C by omega)
          omega
    obtain ⟨hNC, C1⟩ := hNC
    subst hNC
    have Cm : C ≤ m := n5
    have sz := mSize_b C
    have hB : 0 ≤ hdB i a := by
      have := mSize_b i
      unfold hdB
      split
      · omega
      · have := mSize_b a; omega
    have C2 : C ≤ 1200 := by omega
    clear n6 e5 n7
    have eV : ffV κ s i m C = 1 := by
      unfold ffV
      rw [if_neg (fun w => by omega), if_neg (by omega), if_neg (by omega)]
    have eS : ffS κ s p r i a m C = ffT κ s p r i a m C := by
      unfold ffS
      rw [if_neg (fun w => by omega), if_neg (by omega), if_neg (by omega)]
    rw [eV, eS]
    have hVb : mV (u2 ν' 49 0 C) := hV' C (by omega) (by omega)
    have y1 : κ 203 (mj s i) = mW μ s i := ((h.1.A h1 h2 h3 h4).2.1 hp).1.1
    have hw : mW (u2 ν' 49 0 C) s i = mW μ s i := mW_cg (fun f hf k => scr C f k (by
      simp only [List.elem_eq_mem, decide_eq_true_eq, List.mem_cons, List.not_mem_nil, or_false] at hf
      clear hcase hl
      omega)) s i
    obtain ⟨μ1, g1, g2, g3, g4, g5, g6⟩ := outs172_l (μ := μ) (s := s) (i := i) (r := r) (n := C) (a := a) (w := mW μ s i) h1 h2 a0 1201 C.toNat 0 (u2 ν' 49 0 C) (by omega) hVb (by omega) (by rw [hw]; omega) (by omega)
    have g1' : s_fillsStream_172 μ s i r 1201 0 C a (mW μ s i) (u2 ν' 49 0 C) = fsT μ1 s i (a + C) (mW μ s i) := g1
    have g2' : v_fillsStream_172 μ s i r 1201 0 C a (mW μ s i) (u2 ν' 49 0 C) = 1 := g2
    rw [g1', g2']
    have b4 : ∀ f, f ≠ 49 → u2 ν' 49 0 C f 0 = mu0 μ i a f 0 := fun f x => by rw [u2_f x, n3 f 0 (fun w => x w.1)]
    refine Or.inl ⟨rfl, rfl, stream_fin h1 h2 h3 h4 p0 p1 h hp hl a0 (by omega) C2 (by omega) ?_ e2 (scr C) hVb (by rw [b4 45 (by decide)]; exact o45) (by rw [b4 46 (by decide)]; exact o46) (by rw [b4 47 (by decide)]; exact o47) (by rw [b4 48 (by decide)]; exact o48) (by rw [u2_s]) ?_ ?_ ?_⟩
    · rcases hcase with ⟨x, y⟩ | ⟨x, y⟩
      · exact Or.inl ⟨by omega, fun o z1 z2 => y o z1 (by omega)⟩
      · exact Or.inr ⟨x, by omega⟩
    · refine ⟨g3.1, g3.2.1, fun o ho => ?_⟩
      rw [g3.2.2 o ho]
      show (if a + ((0 : Nat) : Int) ≤ (o : Int) ∧ (o : Int) < a + C then 1 else mMk (u2 ν' 49 0 C) s i o) = _
      rw [show a + ((0 : Nat) : Int) = a by omega]
    · intro q hq
      exact g5 q (by omega) hq
    · rw [g6]
      rfl
end R47
