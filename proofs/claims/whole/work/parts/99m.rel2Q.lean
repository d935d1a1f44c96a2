section R44
variable {κ μ κ' μ' κ1 μ1 κc μc : Nat → Nat → Int} {O O' : Nat → Nat}
/-- the bytes of a stream's frame beside its data -/
def hdB (i a : Int) : Int := 1 + mSize i + (if a ≤ 0 then 0 else mSize a)
theorem bytes_8 {ν : Nat → Nat → Int} {n : Int} (h45 : ν 45 0 = 8) : v_bytes (u2 ν 49 0 n) = hdB (ν 46 0) (ν 47 0) + mSize n + n := by
  unfold v_bytes hdB
  simp (disch := omega) only [u2_f, u2_s]
  rw [if_pos h45]
  split <;> omega
theorem mSize_mo {a b : Int} (h : a ≤ b) : mSize a ≤ mSize b := by
  unfold mSize
  repeat' split
  all_goals omega
/-- how many bytes the reference takes -/
theorem many_l {s i r a t q w L : Int} (r1 : 1 ≤ r) (a0 : 0 ≤ a) (L0 : 0 ≤ L) : ∀ (d : Nat) (n : Int) (ν : Nat → Nat → Int), 0 ≤ n → n ≤ L → r - n + 1 < d → ν 45 0 = 8 → (∀ o : Int, n ≤ o → o < L → o < q ∧ a + o < w ∧ mMk ν s i (a + o).toNat = t) → ¬ (L < q ∧ a + L < w ∧ mMk ν s i (a + L).toNat = t) → (1 ≤ n → hdB (ν 46 0) (ν 47 0) + mSize n + n ≤ r) →
    ∃ (N : Int) (ν' : Nat → Nat → Int), v_fillsStream_115 μ s i r d 1 n a t q w ν = (if N = 0 then 0 else v_fillsStream_172 μ s i r 1201 0 N a w (u2 ν' 49 0 N)) ∧ s_fillsStream_115 μ s i r d 1 n a t q w ν = (if N = 0 then u2 ν' 49 0 N else s_fillsStream_172 μ s i r 1201 0 N a w (u2 ν' 49 0 N)) ∧ (∀ f k, ¬ (f = 49 ∧ k = 0) → ν' f k = ν f k) ∧ n ≤ N ∧ N ≤ L ∧ (N = L ∨ r < hdB (ν 46 0) (ν 47 0) + mSize (N + 1) + (N + 1)) ∧ (1 ≤ N → hdB (ν 46 0) (ν 47 0) + mSize N + N ≤ r) := by
  intro d
  induction d with
  | zero =>
    intro n ν n0 nL e1 h45 hin hout hfit
    exfalso
    have := mSize_b n
    have h2 := mSize_b (ν 46 0)
    by_cases z : 1 ≤ n
    · have := hfit z
      have : 0 ≤ (if ν 47 0 ≤ 0 then 0 else mSize (ν 47 0)) := by
        split
        · decide
        · have := mSize_b (ν 47 0); omega
      unfold hdB at *
      omega
    · omega
  | succ d ih =>
    intro n ν n0 nL e1 h45 hin hout hfit
    have stop : ∀ ν' : Nat → Nat → Int, (∀ f k, ¬ (f = 49 ∧ k = 0) → ν' f k = ν f k) → (n = L ∨ r < hdB (ν 46 0) (ν 47 0) + mSize (n + 1) + (n + 1)) → 1 ≤ d → ∃ (N : Int) (ν'' : Nat → Nat → Int), v_fillsStream_115 μ s i r d 0 n a t q w ν' = (if N = 0 then 0 else v_fillsStream_172 μ s i r 1201 0 N a w (u2 ν'' 49 0 N)) ∧ s_fillsStream_115 μ s i r d 0 n a t q w ν' = (if N = 0 then u2 ν'' 49 0 N else s_fillsStream_172 μ s i r 1201 0 N a w (u2 ν'' 49 0 N)) ∧ (∀ f k, ¬ (f = 49 ∧ k = 0) → ν'' f k = ν f k) ∧ n ≤ N ∧ N ≤ L ∧ (N = L ∨ r < hdB (ν 46 0) (ν 47 0) + mSize (N + 1) + (N + 1)) ∧ (1 ≤ N → hdB (ν 46 0) (ν 47 0) + mSize N + N ≤ r) := fun ν' hν' hx hd => by
      obtain ⟨d', rfl⟩ : ∃ d', d = d' + 1 := ⟨d - 1, by omega⟩
      refine ⟨n, ν', ?_, ?_, hν', Int.le_refl _, nL, hx, hfit⟩
      · rw [v_fillsStream_115, if_pos rfl]
      · rw [s_fillsStream_115, if_pos rfl]
    have hd1 : 1 ≤ d := by
      have := mSize_b n
      have h2 := mSize_b (ν 46 0)
      have h4 : 0 ≤ (if ν 47 0 ≤ 0 then 0 else mSize (ν 47 0)) := by
        split
        · decide
        · have := mSize_b (ν 47 0); omega
      by_cases z : 1 ≤ n
      · have := hfit z
        unfold hdB at *
        omega
      · omega
    rw [v_fillsStream_115, s_fillsStream_115, if_neg (show ¬ (1 : Int) = 0 by decide), if_neg (show ¬ (1 : Int) = 0 by decide)]
    by_cases c1 : q ≤ n
    · have : n = L := by
        by_cases z : n = L
        · exact z
        · have := (hin n (Int.le_refl _) (by omega)).1; omega
      rw [if_pos c1, if_pos c1]
      exact stop ν (fun _ _ _ => rfl) (Or.inl this) hd1
    · rw [if_neg c1, if_neg c1]
      by_cases c2 : w ≤ a + n
      · have : n = L := by
          by_cases z : n = L
          · exact z
          · have := (hin n (Int.le_refl _) (by omega)).2.1; omega
        rw [if_pos c2, if_pos c2]
        exact stop ν (fun _ _ _ => rfl) (Or.inl this) hd1
      · rw [if_neg c2, if_neg c2]
        have hmk : ν 39 (v_placeOf ν s i (a + n)).toNat = mMk ν s i (a + n).toNat := by
          unfold mMk
          rw [show (((a + n).toNat : Nat) : Int) = a + n by omega]
        rw [hmk, bytes_8 h45]
        by_cases c3 : mMk ν s i (a + n).toNat = t
        · have nl : n < L := by
            by_cases z : n < L
            · exact z
            · exfalso
              have : n = L := by omega
              subst this
              exact hout ⟨by omega, by omega, c3⟩
          rw [if_pos c3, if_pos c3]
          by_cases c4 : r < hdB (ν 46 0) (ν 47 0) + mSize (n + 1) + (n + 1)
          · rw [if_pos c4, if_pos c4]
            exact stop _ (fun f k x => u2_n x) (Or.inr c4) hd1
          · rw [if_neg c4, if_neg c4]
            have e46 : (u2 ν 49 0 (n + 1)) 46 0 = ν 46 0 := u2_f (by decide)
            have e47 : (u2 ν 49 0 (n + 1)) 47 0 = ν 47 0 := u2_f (by decide)
            have emk : ∀ o, mMk (u2 ν 49 0 (n + 1)) s i o = mMk ν s i o := fun o => by unfold mMk; rw [v_placeOf_u (by decide), u2_f (by decide)]
            obtain ⟨N, ν', i1, i2, i3, i4, i5, i6, i7⟩ := ih (n + 1) (u2 ν 49 0 (n + 1)) (by omega) (by omega) (by omega) (by rw [u2_f (by decide)]; exact h45) (fun o x y => by rw [emk]; exact hin o (by omega) y) (by rw [emk]; exact hout) (fun _ => by rw [e46, e47]; omega)
            rw [e46, e47] at i6 i7
            exact ⟨N, ν', i1, i2, fun f k x => by rw [i3 f k x, u2_n x], by omega, i5, i6, i7⟩
        · have : n = L := by
            by_cases z : n = L
            · exact z
            · exact absurd (hin n (Int.le_refl _) (by omega)).2.2 c3
          rw [if_neg c3, if_neg c3]
          exact stop ν (fun _ _ _ => rfl) (Or.inl this) hd1
/-- what the reference does behind the marks -/
def fsT (ν : Nat → Nat → Int) (s i e w : Int) : Nat → Nat → Int := (if e = w then (if (ν 19 (mj s i)) = 0 then ν else (if (ν 20 (mj s i)) = 3 then (u2 ν 48 0 1) else (u2 (u2 ν 48 0 1) 20 (mj s i) 1))) else ν)
theorem outs172_l {s i r n a w : Int} (h1 : 0 ≤ s) (h2 : s ≤ 1) (a0 : 0 ≤ a) : ∀ (d m j : Nat) (ν : Nat → Nat → Int), m < d → mV ν → (j : Int) + m = n → a + n ≤ mW ν s i → j + m ≤ 2048 → ∃ ν', s_fillsStream_172 μ s i r d j n a w ν = fsT ν' s i (a + n) w ∧ v_fillsStream_172 μ s i r d j n a w ν = 1 ∧ mkM ν ν' s i (fun o => if a + j ≤ (o : Int) ∧ (o : Int) < a + n then 1 else mMk ν s i o) ∧ (∀ q : Nat, q < j → ν' 50 q = ν 50 q) ∧ (∀ q : Nat, j ≤ q → (q : Int) < n → ν' 50 q = ν 38 (v_placeOf ν s i (a + q)).toNat) ∧ mAll ν' s (mTot ν' s) = mAll ν s (mTot ν s) + mRem (mMk ν s i) 0 (a.toNat + j) m := by
  intro d
  induction d with
  | zero => intro m j ν g1; omega
  | succ d ih =>
    intro m
    cases m with
    | zero =>
      intro j ν g1 hV g2 g3 g4
      refine ⟨ν, ?_, ?_, ⟨hV, fun _ _ _ _ => rfl, fun o ho => ?_⟩, fun _ _ => rfl, fun q x y => by omega, ?_⟩
      · rw [s_fillsStream_172, if_pos (by omega)]; rfl
      · rw [v_fillsStream_172, if_pos (by omega)]
        repeat' split
        all_goals rfl
      · exact (if_neg (show ¬ (a + (j : Int) ≤ (o : Int) ∧ (o : Int) < a + n) by omega)).symm
      · exact (Int.add_zero _).symm
    | succ m =>
      intro j ν g1 hV g2 g3 g4
      have ho : ((a.toNat + j : Nat) : Int) < mW ν s i := by omega
      have hpl : a + (j : Int) = ((a.toNat + j : Nat) : Int) := by omega
      obtain ⟨E, hE⟩ : ∃ E, E = u2 ν 50 j (ν 38 (v_placeOf ν s i ((a.toNat + j : Nat) : Int)).toNat) := ⟨_, rfl⟩
      have hVE : mV E := by rw [hE]; exact hV.u (f := 50) (hV 38 _)
      have pE : ∀ o : Int, v_placeOf E s i o = v_placeOf ν s i o := fun o => by rw [hE]; exact v_placeOf_u (by decide)
      have mE : ∀ o, mMk E s i o = mMk ν s i o := fun o => by unfold mMk; rw [pE, hE, u2_f (by decide)]
      have wE : mW E s i = mW ν s i := mW_cg (fun f hf k => by
        simp only [List.elem_eq_mem, decide_eq_true_eq, List.mem_cons, List.not_mem_nil, or_false] at hf
        rw [hE]; exact u2_f (by omega)) s i
      obtain ⟨u1, u2'⟩ := mk_up hVE h1 h2 (by rw [wE]; exact ho) (v := 1) (by decide)
      have e1 : s_fillsStream_172 μ s i r (d + 1) j n a w ν = s_fillsStream_172 μ s i r d (j + 1 : Nat) n a w (u2 E 39 (v_placeOf E s i ((a.toNat + j : Nat) : Int)).toNat 1) := by
        rw [s_fillsStream_172, if_neg (by omega), hpl, pE, hE, show ((j : Int)).toNat = j by omega, show (j : Int) + 1 = ((j + 1 : Nat) : Int) by omega]
      have e2 : v_fillsStream_172 μ s i r (d + 1) j n a w ν = v_fillsStream_172 μ s i r d (j + 1 : Nat) n a w (u2 E 39 (v_placeOf E s i ((a.toNat + j : Nat) : Int)).toNat 1) := by
        rw [v_fillsStream_172, if_neg (by omega), hpl, pE, hE, show ((j : Int)).toNat = j by omega, show (j : Int) + 1 = ((j + 1 : Nat) : Int) by omega]
      rw [e1, e2]
      obtain ⟨ν', i1, i2, i3, i4, i5, i6⟩ := ih m (j + 1) (u2 E 39 (v_placeOf E s i ((a.toNat + j : Nat) : Int)).toNat 1) (by omega) u1.1 (by omega) (by rw [mkM_W u1, wE]; exact g3) (by omega)
      have tr := mkM_tr u1 i3
      have uo : ∀ o : Nat, (o : Int) < mW ν s i → mMk (u2 E 39 (v_placeOf E s i ((a.toNat + j : Nat) : Int)).toNat 1) s i o = if o = a.toNat + j then 1 else mMk ν s i o := fun o ho => by
        rw [u1.2.2 o (by rw [wE]; exact ho)]
        show (if o = a.toNat + j then (1 : Int) else mMk E s i o) = _
        rw [mE]
      refine ⟨ν', i1, i2, ⟨tr.1, fun f q x y => ?_, fun o ho' => ?_⟩, fun q hq => ?_, fun q x y => ?_, ?_⟩
      · rw [tr.2.1 f q (by rw [hE, u2_f (by decide)]; exact x) y, hE, u2_f y]
      · rw [tr.2.2 o (by rw [wE]; exact ho')]
        show (if a + ((j + 1 : Nat) : Int) ≤ (o : Int) ∧ (o : Int) < a + n then 1 else mMk (u2 E 39 (v_placeOf E s i ((a.toNat + j : Nat) : Int)).toNat 1) s i o) = (if a + (j : Int) ≤ (o : Int) ∧ (o : Int) < a + n then 1 else mMk ν s i o)
        rw [uo o ho']
        by_cases y : o = a.toNat + j
        · rw [if_pos y, ite_self, if_pos (by omega)]
        · rw [if_neg y]
          by_cases z : a + (j : Int) ≤ (o : Int) ∧ (o : Int) < a + n
          · rw [if_pos z, if_pos (by omega)]
          · rw [if_neg z, if_neg (by omega)]
      · rw [i4 q (by omega), u2_f (by decide), hE, u2_n (by omega)]
      · by_cases z : q = j
        · rw [z, i4 j (by omega), u2_f (by decide), hE, u2_s, ← hpl]
        · rw [i5 q (by omega) y, u2_f (by decide), mkM_P u1, pE, hE, u2_f (by decide)]
      · rw [i6, u2', mE]
        have hall : mAll E s (mTot E s) = mAll ν s (mTot ν s) := by
          rw [hE, mTot_cg (μ' := ν) (fun k => u2_f (by decide))]
          exact mAll_cgr _ (fun q _ => u2_f (by decide))
        have hrem : mRem (mMk (u2 E 39 (v_placeOf E s i ((a.toNat + j : Nat) : Int)).toNat 1) s i) 0 (a.toNat + (j + 1)) m = mRem (mMk ν s i) 0 (a.toNat + (j + 1)) m := mRem_cg _ _ (fun q x y => by rw [uo q (by omega), if_neg (by omega)])
        rw [hall, hrem]
        show _ = mAll ν s (mTot ν s) + (b2 (mMk ν s i (a.toNat + j) = 0) + mRem (mMk ν s i) 0 (a.toNat + j + 1) m)
        rw [show b2 (¬ (1 : Int) = 0) = 1 from rfl, show a.toNat + j + 1 = a.toNat + (j + 1) by omega]
        rcases b2_c (mMk ν s i (a.toNat + j) = 0) with x | x
        · have : b2 (¬ mMk ν s i (a.toNat + j) = 0) = 0 := if_neg (fun z => z x.1)
          omega
        · have : b2 (¬ mMk ν s i (a.toNat + j) = 0) = 1 := if_pos x.1
          omega
end R44
