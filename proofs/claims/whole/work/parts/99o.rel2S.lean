section R46
variable {κ μ κ' μ' κ1 μ1 κc μc μb : Nat → Nat → Int} {O O' : Nat → Nat}
theorem bytes_g {ν : Nat → Nat → Int} (h45 : ν 45 0 = 8) : v_bytes ν = hdB (ν 46 0) (ν 47 0) + mSize (ν 49 0) + ν 49 0 := by
  unfold v_bytes hdB
  rw [if_pos h45]
  split <;> omega
/-- a frame with data stands there -/
def fD (κ μ : Nat → Nat → Int) (O : Nat → Nat) (s p : Int) : Prop :=
  (κ 3 p.toNat = 8 ∧ μ 45 0 = 8 ∧ κ 4 p.toNat = μ 46 0 ∧ κ 5 p.toNat = μ 47 0 ∧ κ 6 p.toNat = μ 48 0 ∧ κ 9 p.toNat = μ 49 0 ∧ κ 10 p.toNat = v_bytes μ) ∧ κ 9 p.toNat ≤ 1200 ∧ κ 8 p.toNat = κ 5 p.toNat ∧ 0 ≤ κ 4 p.toNat ∧ κ 4 p.toNat < 256 ∧ κ 290 (mj s (κ 4 p.toNat)) = 1 ∧ κ 5 p.toNat + κ 9 p.toNat ≤ κ 204 (mj s (κ 4 p.toNat)) ∧ (κ 6 p.toNat = 1 → μ 19 (mj s (κ 4 p.toNat)) = 1) ∧ 2 ≤ κ 7 p.toNat ∧ κ 7 p.toNat < κ 602 0 ∧ κ 601 (κ 7 p.toNat).toNat = 2 ∧ O (κ 7 p.toNat).toNat = 4 * mj s (κ 4 p.toNat) + 1 ∧ κ 8 p.toNat + κ 9 p.toNat ≤ κ 600 (κ 7 p.toNat).toNat ∧ ∀ j : Nat, (j : Int) < κ 9 p.toNat → κ (1000 + (κ 7 p.toNat).toNat) ((κ 8 p.toNat).toNat + j) = μ 50 j
theorem maxI_e (x : Int) : v_maxI 0 x = if 0 ≤ x then x else 0 := by
  unfold v_maxI
  repeat' split
  all_goals omega
def ffE (κ : Nat → Nat → Int) (s i a C g : Int) : Nat → Nat → Int :=
  if g = 1 then (if κ 207 (mj s i) = 4 then ffM κ κ s i a C else u2 (ffM κ κ s i a C) 207 (mj s i) 2) else ffM κ κ s i a C
set_option maxHeartbeats 4000000 in
theorem stream_fin0 {s p i a C g : Int} (h1 : 0 ≤ s) (h2 : s ≤ 1) (h3 : 0 ≤ i) (h4 : i < 256) (p0 : 0 ≤ p) (p1 : p < 64) (h : fS κ μ O p) (hp : κ 290 (mj s i) = 1) (hl : κ 200 (mj s i) = 0 ∨ κ 200 (mj s i) = 1) (a0 : 0 ≤ a) (C0 : 0 ≤ C) (C2 : C ≤ 1200) (hle : a + C ≤ κ 203 (mj s i))
    (hg : g = if κ 200 (mj s i) = 1 ∧ a + C = κ 203 (mj s i) then 1 else 0)
    (hcase : (a + C ≤ κ 204 (mj s i) ∧ ∀ o : Nat, a ≤ o → (o : Int) < a + C → κ (1000 + (κ 202 (mj s i)).toNat) o = 3) ∨ (a = κ 204 (mj s i) ∧ C ≤ κ 310 s.toNat - κ 309 s.toNat))
    (kb3 : κ 3 p.toNat = 8) (kb4 : κ 4 p.toNat = i) (kb5 : κ 5 p.toNat = a) (kb6 : κ 6 p.toNat = g) (kb7 : κ 7 p.toNat = κ 201 (mj s i)) (kb8 : κ 8 p.toNat = a) (kb9 : κ 9 p.toNat = C) (kb10 : κ 10 p.toNat = hdB i a + mSize C + C)
    (b45 : μ 45 0 = 8) (b46 : μ 46 0 = i) (b47 : μ 47 0 = a) (b48 : μ 48 0 = 0) (b49 : μ 49 0 = C)
    (hmm : mkM μ μ1 s i (fun o => if a ≤ (o : Int) ∧ (o : Int) < a + C then 1 else mMk μ s i o)) (h50 : ∀ q : Nat, (q : Int) < C → μ1 50 q = μ 38 (v_placeOf μ s i (a + q)).toNat) (hall : mAll μ1 s (mTot μ1 s) = mAll μ s (mTot μ s) + mRem (mMk μ s i) 0 a.toNat C.toNat) :
    fS (ffE κ s i a C g) (fsT μ1 s i (a + C) (mW μ s i)) O p ∧ fD (ffE κ s i a C g) (fsT μ1 s i (a + C) (mW μ s i)) O s p := by
  obtain ⟨hR, hI, hV, h0p, hQ⟩ := h
  have hA0 := hR.A h1 h2 h3 h4
  obtain ⟨a1, a2, a3⟩ := hA0.2.1 hp
  obtain ⟨⟨r1, r2, r3, r4⟩, ⟨r5, r6, r7, r8⟩, r9, r10, r11⟩ := a2
  obtain ⟨c1, c2, c3, c4, c5, c6, c7⟩ := a3
  have y1 := a1.1
  have hcase' := fun (_ : Unit) => hcase
  have hl' := fun (_ : Unit) => hl
  have hg' := fun (_ : Unit) => hg
  clear hcase hl hg
  have k204 : 0 ≤ κ 204 (mj s i) := (hQ _).1
  have v19 : 0 ≤ μ 19 (mj s i) ∧ μ 19 (mj s i) ≤ 1 := hV 19 _
  have v20 : 0 ≤ μ 20 (mj s i) ∧ μ 20 (mj s i) ≤ 3 := hV 20 _
  have v21 : 0 ≤ μ 21 (mj s i) := (hV 21 _).1
  have n4 : ∀ o : Nat, a ≤ (o : Int) → (o : Int) < a + C → ¬ κ (1000 + (κ 202 (mj s i)).toNat) o = 4 ∧ ((o : Int) < κ 204 (mj s i) → κ (1000 + (κ 202 (mj s i)).toNat) o = 3) := fun o x y => by
    rcases hcase' () with ⟨z1, z2⟩ | ⟨z1, z2⟩
    · have := z2 o x y; omega
    · have := c4 o (by omega); omega
  obtain ⟨κ1, l1, l2, l3⟩ := out_l (κ := κ) (s := s) (i := i) (u := a) (n := C) a0 (C.toNat + 1) C.toNat a κ (by omega) (Int.le_refl _) (by omega) (by omega) c6 c7 (fun o x y => (n4 o x y).1)
  have lk : ∀ f k, ¬ ((f = 205 ∨ f = 206) ∧ k = mj s i) → f ≠ 1000 + (κ 202 (mj s i)).toNat → κ1 f k = κ f k := l3.1
  obtain ⟨D, hD⟩ : ∃ D : Int, D = v_maxI 0 ((a + C) - (κ 204 (mj s i))) := ⟨_, rfl⟩
  have hD4 : Unit → (a + C ≤ κ 204 (mj s i) ∧ D = 0) ∨ (κ 204 (mj s i) < a + C ∧ D = a + C - κ 204 (mj s i)) := fun _ => by
    have hD2 := maxI_e ((a + C) - (κ 204 (mj s i)))
    rw [← hD] at hD2
    by_cases z : 0 ≤ (a + C) - (κ 204 (mj s i))
    · rw [if_pos z] at hD2; omega
    · rw [if_neg z] at hD2; omega
  have eM : ffM κ κ s i a C = u2 (u2 κ1 204 (mj s i) (κ 204 (mj s i) + D)) 309 s.toNat (κ 309 s.toNat + D) := by
    unfold ffM s_markOut v_markOut
    rw [l1, l2, lk 204 _ (by omega) (by omega), ← hD]
  -- the class's state
  obtain ⟨κ', hκ'⟩ : ∃ κ', κ' = ffE κ s i a C g := ⟨_, rfl⟩
  have kk : (∀ f k, ¬ ((f = 204 ∨ f = 207) ∧ k = mj s i) → ¬ (f = 309 ∧ k = s.toNat) → κ' f k = κ1 f k) ∧ κ' 204 (mj s i) = κ 204 (mj s i) + D ∧ κ' 309 s.toNat = κ 309 s.toNat + D ∧ κ' 207 (mj s i) = if g = 1 ∧ ¬ κ 207 (mj s i) = 4 then 2 else κ 207 (mj s i) := by
    rw [hκ']
    unfold ffE
    rw [eM]
    have e207 : κ1 207 (mj s i) = κ 207 (mj s i) := lk _ _ (by omega) (by omega)
    by_cases z : g = 1
    · rw [if_pos z]
      by_cases z2 : κ 207 (mj s i) = 4
      · rw [if_pos z2, if_neg (fun w => w.2 z2)]
        refine ⟨fun f k x y => ?_, ?_, ?_, ?_⟩
        · rw [u2_n (by omega), u2_n (by omega)]
        · rw [u2_f (by omega), u2_s]
        · rw [u2_s]
        · rw [u2_f (by omega), u2_f (by omega)]; exact e207
      · rw [if_neg z2, if_pos ⟨z, z2⟩]
        refine ⟨fun f k x y => ?_, ?_, ?_, ?_⟩
        · rw [u2_n (by omega), u2_n (by omega), u2_n (by omega)]
        · rw [u2_f (by omega), u2_f (by omega), u2_s]
        · rw [u2_f (by omega), u2_s]
        · rw [u2_s]
    · rw [if_neg z, if_neg (fun w => z w.1)]
      refine ⟨fun f k x y => ?_, ?_, ?_, ?_⟩
      · rw [u2_n (by omega), u2_n (by omega)]
      · rw [u2_f (by omega), u2_s]
      · rw [u2_s]
      · rw [u2_f (by omega), u2_f (by omega)]; exact e207
  rw [← hκ']
  clear hκ' eM l1 l2
  obtain ⟨kk1, kk204, kk309, kk207'⟩ := kk
  have kk207 := fun (_ : Unit) => kk207'
  clear kk207'
  have kf : ∀ f k, ¬ ((204 ≤ f ∧ f ≤ 207) ∧ k = mj s i) → ¬ (f = 309 ∧ k = s.toNat) → f ≠ 1000 + (κ 202 (mj s i)).toNat → κ' f k = κ f k := fun f k x y z => by
    rw [kk1 f k (by omega) y, lk f k (by omega) z]
  -- the reference's state
  have m1 : ∀ f k, f ≠ 39 → f ≠ 50 → μ1 f k = μ f k := fun f k x y => hmm.2.1 f k (by omega) y
  have m19 : μ1 19 (mj s i) = μ 19 (mj s i) := m1 _ _ (by omega) (by omega)
  have m20 : μ1 20 (mj s i) = μ 20 (mj s i) := m1 _ _ (by omega) (by omega)
  have g19 : Unit → (g = 1 ↔ a + C = mW μ s i ∧ ¬ μ 19 (mj s i) = 0) := fun _ => by
    have hl := hl' ()
    have y7 := a1.2.2.2.2.2.2
    have : κ 200 (mj s i) = 1 ↔ ¬ μ 19 (mj s i) = 0 := by
      rw [y7] at hl ⊢
      by_cases z : 0 < μ 21 (mj s i)
      · rw [if_pos z] at hl; omega
      · rw [if_neg z] at hl ⊢
        by_cases z2 : μ 19 (mj s i) = 0
        · rw [if_pos z2]; omega
        · rw [if_neg z2] at hl ⊢
          by_cases z3 : μ 20 (mj s i) = 3 ∧ κ 206 (mj s i) = κ 203 (mj s i)
          · rw [if_pos z3] at hl; omega
          · rw [if_neg z3]; omega
    rw [hg' ()]
    by_cases z : κ 200 (mj s i) = 1 ∧ a + C = κ 203 (mj s i)
    · rw [if_pos z]; omega
    · rw [if_neg z]; omega
  have g01 : Unit → (g = 0 ∨ g = 1) := fun _ => by rw [hg' ()]; split <;> omega
  obtain ⟨μ', hμ'⟩ : ∃ μ', μ' = fsT μ1 s i (a + C) (mW μ s i) := ⟨_, rfl⟩
  have mm : (∀ f k, ¬ (f = 20 ∧ k = mj s i) → f ≠ 48 → μ' f k = μ1 f k) ∧ mV μ' ∧ μ' 20 (mj s i) = (if g = 1 ∧ ¬ μ 20 (mj s i) = 3 then 1 else μ 20 (mj s i)) ∧ μ' 48 0 = g := by
    rw [hμ']
    unfold fsT
    rw [m19, m20]
    have g01 := g01 ()
    have g19 := g19 ()
    by_cases z : a + C = mW μ s i
    · rw [if_pos z]
      by_cases z2 : μ 19 (mj s i) = 0
      · have : g = 0 := by omega
        rw [if_pos z2, if_neg (by omega), m1 48 0 (by omega) (by omega), b48]
        exact ⟨fun _ _ _ _ => rfl, hmm.1, m20, this.symm⟩
      · have : g = 1 := g19.mpr ⟨z, z2⟩
        rw [if_neg z2]
        by_cases z3 : μ 20 (mj s i) = 3
        · rw [if_pos z3, if_neg (by omega)]
          exact ⟨fun f k _ y => u2_f y, hmm.1.u (f := 48) (by decide), by rw [u2_f (by decide)]; exact m20, by rw [u2_s]; exact this.symm⟩
        · rw [if_neg z3, if_pos ⟨this, z3⟩]
          exact ⟨fun f k x y => by rw [u2_n x, u2_f y], (hmm.1.u (f := 48) (by decide)).u (f := 20) (by decide), by rw [u2_s], by rw [u2_f (by decide), u2_s]; exact this.symm⟩
    · have : g = 0 := by omega
      rw [if_neg z, if_neg (by omega), m1 48 0 (by omega) (by omega), b48]
      exact ⟨fun _ _ _ _ => rfl, hmm.1, m20, this.symm⟩
  rw [← hμ']
  clear hμ'
  obtain ⟨mm1, mmV, mm20', mm48⟩ := mm
  have mm20 := fun (_ : Unit) => mm20'
  clear mm20'
  have mf : ∀ f k, ¬ (f = 20 ∧ k = mj s i) → f ≠ 48 → f ≠ 39 → f ≠ 50 → μ' f k = μ f k := fun f k x y z w => by rw [mm1 f k x y, m1 f k z w]
  have e206 : κ1 206 (mj s i) = κ 206 (mj s i) := by
    rw [l3.2.2.2, c7]
    unfold mR
    refine mRem_ext _ _ _ (fun q hq => ?_)
    rw [l3.2.1]
    show (if a ≤ (((0 : Int).toNat + q : Nat) : Int) ∧ (((0 : Int).toNat + q : Nat) : Int) < a + C.toNat then 2 else κ (1000 + (κ 202 (mj s i)).toNat) ((0 : Int).toNat + q)) = 4 ↔ κ (1000 + (κ 202 (mj s i)).toNat) ((0 : Int).toNat + q) = 4
    by_cases z : a ≤ (((0 : Int).toNat + q : Nat) : Int) ∧ (((0 : Int).toNat + q : Nat) : Int) < a + C.toNat
    · rw [if_pos z]
      have := (n4 _ z.1 (by omega)).1
      omega
    · rw [if_neg z]
  have hall' : mAll μ' s (mTot μ' s) = mAll μ s (mTot μ s) + D := by
    have x1 : mAll μ' s (mTot μ' s) = mAll μ1 s (mTot μ1 s) := by
      rw [mTot_cg (μ := μ') (μ' := μ1) (fun k => mm1 _ _ (by omega) (by omega))]
      exact mAll_cgr _ (fun q _ => mm1 _ _ (by omega) (by omega))
    rw [x1, hall]
    have hD3 := hD4 ()
    rcases hcase' () with ⟨z1, z2⟩ | ⟨z1, z2⟩
    · rw [mRem_z C.toNat a.toNat (fun q hq => (c3 _ (by omega)).2)]
      omega
    · rw [mRem_full C.toNat a.toNat (fun q hq => c5 _ (by omega) (by omega))]
      omega
  have hS : rS κ' μ' s := by
    obtain ⟨q1, q2, q3, q4, q5, q6, q7, q8, q9, q10, q11, q12, q13, q14, q15⟩ := hR.S h1 h2
    have hk3 : ∀ f, 306 ≤ f → f ≤ 315 → f ≠ 309 → κ' f s.toNat = κ f s.toNat := fun f x y z => kf _ _ (by omega) (by omega) (by omega)
    have hrec : v_received μ' s = v_received μ s := v_received_cg (fun f hf k => by
      simp only [List.elem_eq_mem, decide_eq_true_eq, List.mem_cons, List.not_mem_nil, or_false] at hf
      exact mf f k (by omega) (by omega) (by omega) (by omega))
    have hcon : v_consumed μ' s = v_consumed μ s := v_consumed_cg (fun f hf k => by
      simp only [List.elem_eq_mem, decide_eq_true_eq, List.mem_cons, List.not_mem_nil, or_false] at hf
      exact mf f k (by omega) (by omega) (by omega) (by omega))
    unfold rS
    rw [hk3 306 (by omega) (by omega) (by omega), hk3 307 (by omega) (by omega) (by omega), hk3 308 (by omega) (by omega) (by omega), kk309, hk3 310 (by omega) (by omega) (by omega), hk3 311 (by omega) (by omega) (by omega), hk3 312 (by omega) (by omega) (by omega), hk3 313 (by omega) (by omega) (by omega), hk3 314 (by omega) (by omega) (by omega), hk3 315 (by omega) (by omega) (by omega), mf 11 _ (by omega) (by omega) (by omega) (by omega), mf 12 _ (by omega) (by omega) (by omega) (by omega), mf 16 _ (by omega) (by omega) (by omega) (by omega), mf 36 _ (by omega) (by omega) (by omega) (by omega), mf 7 _ (by omega) (by omega) (by omega) (by omega), mf 14 _ (by omega) (by omega) (by omega) (by omega), mf 1 _ (by omega) (by omega) (by omega) (by omega), hall', hrec, hcon]
    have hD3 := hD4 ()
    have hx : κ 309 s.toNat + D ≤ κ 310 s.toNat := by
      rcases hcase' () with ⟨z1, z2⟩ | ⟨z1, z2⟩
      · omega
      · omega
    refine ⟨q1, by omega, q3, q4, q5, q6, q7, q8, q9, fun j x y => ?_, fun hj j x y => ?_, hx, q13, q14, fun hj => ?_⟩
    · rw [kf 360 _ (by omega) (by omega) (by omega), mf 6 _ (by omega) (by omega) (by omega) (by omega)]; exact q10 j x y
    · rw [kf 361 _ (by omega) (by omega) (by omega), mf 6 _ (by omega) (by omega) (by omega) (by omega)]; exact q11 hj j x y
    · have := (q15 hj).2 i h3 h4
      have := (hA0.1.mp hp).1
      omega
  have hD5 : 0 ≤ D ∧ κ 204 (mj s i) + D ≤ κ 203 (mj s i) ∧ a + C ≤ κ 204 (mj s i) + D := by
    have := hD4 ()
    omega
  have hR' : kRel κ' μ' O := by
    refine Rel_M hV hR h1 h2 h3 h4 hp l3 hmm (fun f k x y => kk1 f k (by omega) (by omega)) (fun f k x y z => mm1 f k x (by omega)) (by omega) (by omega) (fun o ho => ?_) (fun o ho => ?_) (fun o x y => ?_) hS ?_ ?_
    · show (if a ≤ (o : Int) ∧ (o : Int) < a + C.toNat then 2 else κ (1000 + (κ 202 (mj s i)).toNat) o) = 1 + (if a ≤ (o : Int) ∧ (o : Int) < a + C then 1 else mMk μ s i o) ∧ ¬ (if a ≤ (o : Int) ∧ (o : Int) < a + C then 1 else mMk μ s i o) = 0
      by_cases w : a ≤ (o : Int) ∧ (o : Int) < a + C
      · rw [if_pos w, if_pos (show a ≤ (o : Int) ∧ (o : Int) < a + C.toNat by omega)]
        exact ⟨rfl, by decide⟩
      · rw [if_neg w, if_neg (show ¬ (a ≤ (o : Int) ∧ (o : Int) < a + C.toNat) by omega)]
        refine c3 o ?_
        rcases hcase' () with ⟨z1, z2⟩ | ⟨z1, z2⟩
        · have := hD4 (); omega
        · have := hD4 (); omega
    · show (if a ≤ (o : Int) ∧ (o : Int) < a + C.toNat then 2 else κ (1000 + (κ 202 (mj s i)).toNat) o) = 0
      rw [if_neg (by omega)]
      exact c4 o (by omega)
    · show (if a ≤ (o : Int) ∧ (o : Int) < a + C then 1 else mMk μ s i o) = 0
      rw [if_neg (by omega)]
      exact c5 o (by omega) y
    · have y2 := a1.2.1
      rw [kk207 (), mm20 (), y2]
      have g19 := g19 ()
      clear y2
      by_cases z2 : μ 19 (mj s i) = 0
      · rw [if_pos z2, if_pos z2, if_neg (by omega)]
      · rw [if_neg z2]
        by_cases z : g = 1 ∧ ¬ μ 20 (mj s i) = 3
        · rw [if_pos z, if_pos (by omega), if_neg z2]; rfl
        · rw [if_neg z, if_neg (by omega), if_neg z2]
    · rw [kf 200 _ (by omega) (by omega) (by omega), a1.2.2.2.2.2.2, e206, mm20 ()]
      by_cases z : g = 1 ∧ ¬ μ 20 (mj s i) = 3
      · rw [if_pos z, if_neg (show ¬ (μ 20 (mj s i) = 3 ∧ κ 206 (mj s i) = κ 203 (mj s i)) from fun w => z.2 w.1), if_neg (show ¬ ((1 : Int) = 3 ∧ κ 206 (mj s i) = κ 203 (mj s i)) from fun w => absurd w.1 (by decide))]
      · rw [if_neg z]
  refine ⟨⟨hR', Inv_cg hI (fun f k z => kf _ _ (by omega) (by omega) (by omega)) (fun k z => kf _ _ (by omega) (by omega) (by omega)), mmV, by rw [kf _ _ (by omega) (by omega) (by omega)]; exact h0p, fun k => ?_⟩, ?_⟩
  · have := hQ k
    rw [kf 113 _ (by omega) (by omega) (by omega), kf 360 _ (by omega) (by omega) (by omega), kf 306 _ (by omega) (by omega) (by omega), kf 307 _ (by omega) (by omega) (by omega)]
    refine ⟨?_, this.2⟩
    by_cases z : k = mj s i
    · rw [z, kk204]; omega
    · rw [kf 204 _ (by omega) (by omega) (by omega)]; exact this.1
  · unfold fD
    have kp : ∀ f, f ≤ 10 → κ' f p.toNat = κ f p.toNat := fun f x => kf _ _ (by omega) (by omega) (by omega)
    rw [bytes_g (ν := μ') (by rw [mf 45 _ (by omega) (by omega) (by omega) (by omega)]; exact b45), kp 3 (by omega), kp 4 (by omega), kp 5 (by omega), kp 6 (by omega), kp 7 (by omega), kp 8 (by omega), kp 9 (by omega), kp 10 (by omega), mm48, mf 45 _ (by omega) (by omega) (by omega) (by omega), mf 46 _ (by omega) (by omega) (by omega) (by omega), mf 47 _ (by omega) (by omega) (by omega) (by omega), mf 49 _ (by omega) (by omega) (by omega) (by omega), kb3, kb4, kb5, kb6, kb7, kb8, kb9, kb10, b45, b46, b47, b49, kf 290 _ (by omega) (by omega) (by omega), kk204, mf 19 _ (by omega) (by omega) (by omega) (by omega), kf 602 _ (by omega) (by omega) (by omega), kf 600 _ (by omega) (by omega) (by omega), kf 601 _ (by omega) (by omega) (by omega)]
    refine ⟨⟨rfl, rfl, rfl, rfl, rfl, rfl, rfl⟩, C2, rfl, h3, h4, hp, by omega, fun z => by have := ((g19 ()).mp z).2; omega, r1, r2, r3, r4, by omega, fun j hj => ?_⟩
    rw [mm1 50 _ (by omega) (by omega), h50 j hj, kf _ _ (by omega) (by omega) (fun z => by
      rw [show (κ 201 (mj s i)).toNat = (κ 202 (mj s i)).toNat by omega, r8] at r4; omega), c2 _ (by omega), show a + (j : Int) = ((a.toNat + j : Nat) : Int) by omega]
set_option maxHeartbeats 4000000 in
theorem stream_fin {s p r i a m C : Int} (h1 : 0 ≤ s) (h2 : s ≤ 1) (h3 : 0 ≤ i) (h4 : i < 256) (p0 : 0 ≤ p) (p1 : p < 64) (h : fS κ μ O p) (hp : κ 290 (mj s i) = 1) (hl : κ 200 (mj s i) = 0 ∨ κ 200 (mj s i) = 1) (a0 : 0 ≤ a) (C0 : 0 ≤ C) (C2 : C ≤ 1200) (hle : a + C ≤ κ 203 (mj s i))
    (hcase : (a + C ≤ κ 204 (mj s i) ∧ ∀ o : Nat, a ≤ o → (o : Int) < a + C → κ (1000 + (κ 202 (mj s i)).toNat) o = 3) ∨ (a = κ 204 (mj s i) ∧ C ≤ κ 310 s.toNat - κ 309 s.toNat)) (hsz : s_countThatFits κ p i a m r = u2 κ 10 p.toNat (hdB i a + mSize C + C))
    (hb : ∀ f k, ¬ (45 ≤ f ∧ f ≤ 50) → μb f k = μ f k) (hVb : mV μb) (b45 : μb 45 0 = 8) (b46 : μb 46 0 = i) (b47 : μb 47 0 = a) (b48 : μb 48 0 = 0) (b49 : μb 49 0 = C)
    (hmm : mkM μb μ1 s i (fun o => if a ≤ (o : Int) ∧ (o : Int) < a + C then 1 else mMk μb s i o)) (h50 : ∀ q : Nat, (q : Int) < C → μ1 50 q = μb 38 (v_placeOf μb s i (a + q)).toNat) (hall : mAll μ1 s (mTot μ1 s) = mAll μb s (mTot μb s) + mRem (mMk μb s i) 0 a.toNat C.toNat) :
    fS (ffT κ s p r i a m C) (fsT μ1 s i (a + C) (mW μ s i)) O p ∧ fD (ffT κ s p r i a m C) (fsT μ1 s i (a + C) (mW μ s i)) O s p := by
  obtain ⟨g, hg⟩ : ∃ g : Int, g = if κ 200 (mj s i) = 1 ∧ a + C = κ 203 (mj s i) then 1 else 0 := ⟨_, rfl⟩
  obtain ⟨κb, hκb⟩ : ∃ κb, κb = ffB κ s p r i a m C g := ⟨_, rfl⟩
  have kb : (∀ f k, ¬ (3 ≤ f ∧ f ≤ 10 ∧ k = p.toNat) → κb f k = κ f k) ∧ κb 3 p.toNat = 8 ∧ κb 4 p.toNat = i ∧ κb 5 p.toNat = a ∧ κb 6 p.toNat = g ∧ κb 7 p.toNat = κ 201 (mj s i) ∧ κb 8 p.toNat = a ∧ κb 9 p.toNat = C ∧ κb 10 p.toNat = hdB i a + mSize C + C := by
    rw [hκb]
    unfold ffB s_setData s_setFields
    rw [hsz]
    clear hκb hg hcase hl hsz
    refine ⟨fun f k z => ?_, ?_, ?_, ?_, ?_, ?_, ?_, ?_, ?_⟩
    all_goals simp (disch := omega) only [u2_n, u2_s]
  obtain ⟨kb0, kb3, kb4, kb5, kb6, kb7, kb8, kb9, kb10⟩ := kb
  have e2 : ∀ f, 200 ≤ f → ∀ k, κb f k = κ f k := fun f x k => kb0 _ _ (by clear hg hcase; omega)
  have hw : mW μb s i = mW μ s i := mW_cg (fun f hf k => hb f k (by
    simp only [List.elem_eq_mem, decide_eq_true_eq, List.mem_cons, List.not_mem_nil, or_false] at hf
    clear hg hcase
    omega)) s i
  have eT : ffT κ s p r i a m C = ffE κb s i a C g := by
    have x207 := e2 207 (by decide) (mj s i)
    have hM : ffM κ κb s i a C = ffM κb κb s i a C := by
      unfold ffM
      rw [e2 309 (by decide)]
    unfold ffT ffE
    by_cases z : κ 200 (mj s i) = 1 ∧ a + C = κ 203 (mj s i)
    · rw [if_pos z] at hg
      rw [if_pos z, if_pos hg, x207, ← hM, hκb, hg]
    · rw [if_neg z] at hg
      rw [if_neg z, if_neg (show ¬ g = 1 by rw [hg]; decide), ← hM, hκb, hg]
  rw [eT, ← hw]
  refine stream_fin0 h1 h2 h3 h4 p0 p1 (fS_sc p0 p1 h kb0 hb hVb) ?_ ?_ a0 C0 C2 ?_ ?_ ?_ kb3 kb4 kb5 kb6 ?_ kb8 kb9 kb10 b45 b46 b47 b48 b49 hmm h50 hall
  · rw [e2 290 (by decide)]; exact hp
  · rw [e2 200 (by decide)]; exact hl
  · rw [e2 203 (by decide)]; exact hle
  · rw [e2 200 (by decide), e2 203 (by decide)]; exact hg
  · rw [e2 204 (by decide), e2 310 (by decide), e2 309 (by decide), e2 202 (by decide)]
    rcases hcase with ⟨x, y⟩ | x
    · exact Or.inl ⟨x, fun o z1 z2 => by rw [e2 _ (by omega)]; exact y o z1 z2⟩
    · exact Or.inr x
  · rw [kb7, e2 201 (by decide)]
end R46
