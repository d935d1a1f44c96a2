section R39
variable {κ μ κ' μ' κ1 μ1 κc μc : Nat → Nat → Int} {O O' : Nat → Nat}
theorem deliver_l {p : Int} (p0 : 0 ≤ p) : ∀ (d m k : Nat) (ν : Nat → Nat → Int), m < d → mV ν → ν 49 0 = k + m → (∀ j : Nat, j < k → ν 50 j = ν 60 (1200 * p.toNat + j)) → ∃ ν', s_deliver_41 μ p d k ν = (if (v_takes ν' (1 - (ν' 51 p.toNat))) = 0 then (u2 (s_takes ν' (1 - (ν' 51 p.toNat))) 59 p.toNat 1) else (s_takes ν' (1 - (ν' 51 p.toNat)))) ∧ v_deliver_41 μ p d k ν = v_takes ν' (1 - (ν' 51 p.toNat)) ∧ mV ν' ∧ (∀ f q, f ≠ 50 → ν' f q = ν f q) ∧ ∀ j : Nat, (j : Int) < ν 49 0 → ν' 50 j = ν 60 (1200 * p.toNat + j) := by
  intro d
  induction d with
  | zero => intro m k ν g1; omega
  | succ d ih =>
    intro m
    cases m with
    | zero =>
      intro k ν g1 g2 g3 g4
      refine ⟨ν, ?_, ?_, g2, fun _ _ _ => rfl, fun j hj => g4 j (by omega)⟩
      · rw [s_deliver_41, if_pos (by omega)]
      · rw [v_deliver_41, if_pos (by omega), ite_self]
    | succ m =>
      intro k ν g1 g2 g3 g4
      have hix : (1200 * p + (k : Int)).toNat = 1200 * p.toNat + k := by omega
      have e1 : s_deliver_41 μ p (d + 1) k ν = s_deliver_41 μ p d (k + 1 : Nat) (u2 ν 50 k (ν 60 (1200 * p.toNat + k))) := by
        rw [s_deliver_41, if_neg (by omega), hix, show ((k : Int)).toNat = k by omega, show (k : Int) + 1 = ((k + 1 : Nat) : Int) by omega]
      have e2 : v_deliver_41 μ p (d + 1) k ν = v_deliver_41 μ p d (k + 1 : Nat) (u2 ν 50 k (ν 60 (1200 * p.toNat + k))) := by
        rw [v_deliver_41, if_neg (by omega), hix, show ((k : Int)).toNat = k by omega, show (k : Int) + 1 = ((k + 1 : Nat) : Int) by omega]
      rw [e1, e2]
      obtain ⟨ν', i1, i2, i3, i4, i5⟩ := ih m (k + 1) (u2 ν 50 k (ν 60 (1200 * p.toNat + k))) (by omega) (g2.u (f := 50) (g2 60 _)) (by rw [u2_f (by decide)]; omega) (fun j hj => by
        rw [u2_f (f := 50) (f' := 60) (by decide)]
        by_cases z : j = k
        · rw [z, u2_s]
        · rw [u2_n (by omega)]; exact g4 j (by omega))
      rw [u2_f (f := 50) (f' := 49) (by decide)] at i5
      exact ⟨ν', i1, i2, i3, fun f q x => by rw [i4 f q x, u2_f x], fun j hj => by
        have := i5 j hj
        rw [u2_f (f := 50) (f' := 60) (by decide)] at this
        exact this⟩
theorem R_deliver (hV : mV μ) (hK : kV κ) (hR : kRel κ μ O) (hI : kInv κ) (hP : mP2 μ) (hL : mLi μ) (p : Int) (hJ : ∀ q : Nat, q < 64 → κ 0 q = 1 → κ 507 0 = 1) : s_deliver μ p 0 0 = kR 1 (e_kDeliver κ p) ∧ (e_kDeliver κ p = 0 → v_deliver μ p = v_kDeliver κ p ∧ ∃ O', kRel (s_kDeliver κ p) (s_deliver μ p) O' ∧ kInv (s_kDeliver κ p)) ∧ (¬ e_kDeliver κ p = 0 → kRel κ (s_deliver μ p) O) := by
  rcases frameAt_c hV hR p with ⟨e, hn, p0, p1, h0⟩ | ⟨e, hn⟩
  · obtain ⟨fq, fr⟩ := Rel.F hR (p := p.toNat) (by omega)
    obtain ⟨f1, f2, f3, f4⟩ := fr h0
    obtain ⟨g1, g2, g3, g4, g5, g6, g7, g8⟩ := f1
    have v58 : 0 ≤ μ 58 p.toNat ∧ μ 58 p.toNat ≤ 1 := hV 58 _
    have v51 : 0 ≤ μ 51 p.toNat ∧ μ 51 p.toNat ≤ 1 := hV 51 _
    have v56 : 0 ≤ μ 56 p.toNat ∧ μ 56 p.toNat ≤ 1200 := hV 56 _
    have hkind := noPlace_L hL hn v58
    have hj : μ 1 0 = 1 := by rw [← hR.1.2.2.1]; exact hJ p.toNat (by omega) h0
    have eE : e_kDeliver κ p = 0 := by unfold e_kDeliver; rw [if_pos e, ite_self]
    obtain ⟨M0, hM0⟩ : ∃ M0, M0 = (u2 (u2 (u2 (u2 (u2 (u2 μ 0 0 0) 45 0 (μ 52 p.toNat)) 46 0 (μ 53 p.toNat)) 47 0 (μ 54 p.toNat)) 48 0 (μ 55 p.toNat)) 49 0 (μ 56 p.toNat)) := ⟨_, rfl⟩
    have eS : s_deliver μ p = s_deliver_41 μ p 2049 0 M0 := by
      unfold s_deliver
      simp only [hn, if_true, hM0]
    have eV : v_deliver μ p = v_deliver_41 μ p 2049 0 M0 := by
      unfold v_deliver
      simp only [hn, if_true, hM0]
    have hV0 : mV M0 := by
      rw [hM0]
      refine (((((hV.u (f := 0) (by decide)).u (f := 45) (hV 52 _)).u (f := 46) (hV 53 _)).u (f := 47) (hV 54 _)).u (f := 48) (hV 55 _)).u (f := 49) ⟨v56.1, ?_⟩
      show μ 56 p.toNat ≤ 2048
      omega
    have m0 : ∀ f k, ¬ (f = 0 ∨ (45 ≤ f ∧ f ≤ 49)) → M0 f k = μ f k := fun f k z => by
      rw [hM0, u2_f (by omega), u2_f (by omega), u2_f (by omega), u2_f (by omega), u2_f (by omega), u2_f (by omega)]
    have m49 : M0 49 0 = μ 56 p.toNat := by rw [hM0, u2_s]
    obtain ⟨ν, n1, n2, n3, n4, n5⟩ := deliver_l (μ := μ) p0 2049 (μ 56 p.toNat).toNat 0 M0 (by omega) hV0 (by rw [m49]; omega) (fun j hj => by omega)
    have n1' : s_deliver_41 μ p 2049 0 M0 = _ := n1
    have n2' : v_deliver_41 μ p 2049 0 M0 = _ := n2
    have nm : ∀ f k, ¬ (f = 0 ∨ (45 ≤ f ∧ f ≤ 50)) → ν f k = μ f k := fun f k z => by rw [n4 f k (by omega), m0 f k (by omega)]
    have hRν : kRel κ ν O := Rel_0 hV hR nm
    have hPν : mP2 ν := mP2_cg (fun f hf k => by
      simp only [List.elem_eq_mem, decide_eq_true_eq, List.mem_cons, List.not_mem_nil, or_false] at hf
      exact (nm f k (by omega)).symm) hP
    have hTν : fT κ ν O p := by
      refine ⟨?_, ?_, ?_, ?_, ?_, ?_, fun z => ?_, fun j hj => ?_⟩
      · rw [n4 _ _ (by decide), hM0, u2_f (by decide), u2_f (by decide), u2_f (by decide), u2_f (by decide), u2_s]; exact g3
      · rw [n4 _ _ (by decide), hM0, u2_f (by decide), u2_f (by decide), u2_f (by decide), u2_s]; exact g4
      · rw [n4 _ _ (by decide), hM0, u2_f (by decide), u2_f (by decide), u2_s]; exact g5
      · rw [n4 _ _ (by decide), hM0, u2_f (by decide), u2_s]; exact g6
      · rw [n4 _ _ (by decide), m49]; exact g7
      · exact (hK.1 8 _).1
      · have c8 : κ 3 p.toNat = 8 := by
          by_cases w : κ 3 p.toNat = 8
          · exact w
          · have := (f2 w).1; omega
        obtain ⟨_, _, _, _, _, x6, x7, _, x9, _⟩ := f4 c8
        exact ⟨by omega, x7, by rw [x9]; omega⟩
      · have c8 : κ 3 p.toNat = 8 := by
          by_cases w : κ 3 p.toNat = 8
          · exact w
          · have := (f2 w).1; omega
        have := (f4 c8).2.2.2.2.2.2.2.2.2.2 j hj
        rw [this, n5 j (by rw [m49]; omega), m0 60 _ (by omega)]
    have k45 : ν 45 0 = μ 52 p.toNat := by rw [← hTν.1]; exact g3
    obtain ⟨tv, O', tR, tI⟩ := R_takes (s := 1 - μ 51 p.toNat) n3 hK.q hRν hI hPν (by rw [nm _ _ (by omega)]; exact hj) (by omega) (by omega) hTν (by rw [k45]; omega)
    have n51 : ν 51 p.toNat = μ 51 p.toNat := nm _ _ (by omega)
    rw [n51] at n1' n2'
    have eK : s_kDeliver κ p = if v_takeIn κ (1 - μ 51 p.toNat) p = 0 then u2 (s_takeIn κ (1 - μ 51 p.toNat) p) 1 p.toNat 1 else s_takeIn κ (1 - μ 51 p.toNat) p := by
      unfold s_kDeliver
      rw [if_pos e, g2]
    have eW : v_kDeliver κ p = v_takeIn κ (1 - μ 51 p.toNat) p := by
      unfold v_kDeliver
      rw [if_pos e, ite_self, g2]
    have t0 : ∀ Y, s_takes ν (1 - μ 51 p.toNat) 0 0 = Y → Y = 0 := fun Y h => by
      rw [← h, s_takes_fr (by decide), n4 _ _ (by decide), hM0, u2_f (by decide), u2_f (by decide), u2_f (by decide), u2_f (by decide), u2_f (by decide), u2_s]
    rw [eE, eS, eV, eK, eW, n1', n2', tv]
    refine ⟨?_, fun _ => ⟨rfl, O', ?_⟩, fun z => absurd rfl z⟩
    · split
      · rw [u2_f (by decide), t0 _ rfl]; rfl
      · rw [t0 _ rfl]; rfl
    · by_cases c : v_takeIn κ (1 - μ 51 p.toNat) p = 0
      · rw [if_pos c, if_pos c]
        -- delivered: one flag more
        refine ⟨?_, Inv_cg tI (fun f k z => u2_f (by omega)) (fun k z => u2_f (by omega))⟩
        have hVt : mV (s_takes ν (1 - μ 51 p.toNat)) → True := fun _ => trivial
        obtain ⟨zq, zr⟩ := Rel.F tR (p := p.toNat) (by omega)
        obtain ⟨th, ts, tf, tz⟩ := tR
        have fk : ∀ f k, ¬ (f = 1 ∧ k = p.toNat) → (u2 (s_takeIn κ (1 - μ 51 p.toNat) p) 1 p.toNat 1) f k = s_takeIn κ (1 - μ 51 p.toNat) p f k := fun f k x => u2_n x
        have fm : ∀ f k, ¬ (f = 59 ∧ k = p.toNat) → (u2 (s_takes ν (1 - μ 51 p.toNat)) 59 p.toNat 1) f k = s_takes ν (1 - μ 51 p.toNat) f k := fun f k x => u2_n x
        refine ⟨?_, ?_, ?_, mHz_cg (fun f k a => fm f k (by omega)) tz⟩
        · exact rH_cg (fun f a b => fk _ _ (by omega)) (fun f r a b => fk _ _ (by omega)) (fun r a => rfl) (by rw [fk _ _ (by omega)]; exact Int.le_refl _) (fun r o a => fk _ _ (by omega)) (fun f k a b => fm _ _ (by omega)) th
        · intro t g1' g2'
          obtain ⟨x1, x2, x3⟩ := ts t g1' g2'
          refine ⟨?_, fun w w0 w1 => ?_, fun j j0 j1 => ?_⟩
          · refine rS_cg g1' g2' (fun f a b => fk _ _ (by omega)) (fun f k a b c => fk _ _ (by omega)) (fun f a => fm _ _ (by omega)) (fm _ _ (by omega)) (fm _ _ (by omega)) (fm _ _ (by omega)) (fun k => fm _ _ (by omega)) (fun j _ _ => fm _ _ (by omega)) ?_ (v_received_u (by decide)) (v_consumed_u (by decide)) x1
            rw [mTot_cg (μ' := s_takes ν (1 - μ 51 p.toNat)) (fun k => fm _ _ (by omega))]
            exact mAll_cgr _ (fun q _ => fm _ _ (by omega))
          · exact rW_cg g1' g2' w0 w1 (fun f a b => fk _ _ (by omega)) (fk _ _ (by omega)) (fun f a => fm _ _ (by omega)) (fm _ _ (by omega)) (fm _ _ (by omega)) (fm _ _ (by omega)) (fm _ _ (by omega)) (x2 w w0 w1)
          · obtain ⟨y1, y2, y3⟩ := x3 j j0 j1
            have hAm := rA_m (μ := s_takes ν (1 - μ 51 p.toNat)) (μ' := u2 (s_takes ν (1 - μ 51 p.toNat)) 59 p.toNat 1) (s := t) (i := j) (fun f a b k => fm _ _ (by omega))
            refine ⟨rT_cg (by rw [fk _ _ (by omega)]; exact Int.le_refl _) (fm _ _ (by omega)) (fm _ _ (by omega)) (fm _ _ (by omega)) y1, ?_, ?_⟩
            · exact rA_cg (fun f a => fk _ _ (by omega)) (fun r a b c => ⟨fk _ _ (by omega), fk _ _ (by omega), rfl, fun o => fk _ _ (by omega)⟩) (by rw [fk _ _ (by omega)]; exact Int.le_refl _) (fun f a b => fm _ _ (by omega)) hAm.1 hAm.2 y2
            · exact rB_cg (fun f a => fk _ _ (by omega)) (fun r a b c => ⟨fk _ _ (by omega), fk _ _ (by omega), rfl, fun o => fk _ _ (by omega)⟩) (by rw [fk _ _ (by omega)]; exact Int.le_refl _) (fun f a => fm _ _ (by omega)) (fun _ => fm _ _ (by omega)) (mX_u (by decide)) y3
        · intro q hq
          by_cases c2 : q = p.toNat
          · subst c2
            refine ⟨by rw [fk _ _ (by omega), fm _ _ (by omega)]; exact zq, fun z => ?_⟩
            rw [fk _ _ (by omega)] at z
            obtain ⟨d1, d2, d3, d4⟩ := zr z
            obtain ⟨e1, e2, e3, e4, e5, e6, e7, e8⟩ := d1
            refine ⟨?_, ?_, ?_, ?_⟩
            · unfold rF1
              simp (disch := omega) only [u2_f, u2_s]
              exact ⟨trivial, e2, e3, e4, e5, e6, e7, e8⟩
            · simp (disch := omega) only [u2_f]
              exact d2
            · simp (disch := omega) only [u2_f]
              exact d3
            · intro h8
              rw [u2_f (by omega)] at h8
              have := d4 h8
              unfold rF2 at this ⊢
              simp (disch := omega) only [u2_f]
              exact this
          · obtain ⟨yq, yr⟩ := tf q hq
            refine ⟨by rw [fk _ _ (by omega), fm _ _ (by omega)]; exact yq, fun z => ?_⟩
            rw [fk _ _ (by omega)] at z
            obtain ⟨d1, d2, d3, d4⟩ := yr z
            obtain ⟨e1, e2, e3, e4, e5, e6, e7, e8⟩ := d1
            refine ⟨?_, ?_, ?_, ?_⟩
            · unfold rF1
              simp (disch := omega) only [u2_f, u2_n]
              exact ⟨e1, e2, e3, e4, e5, e6, e7, e8⟩
            · simp (disch := omega) only [u2_f]
              exact d2
            · simp (disch := omega) only [u2_f]
              exact d3
            · intro h8
              rw [u2_f (by omega)] at h8
              have := d4 h8
              unfold rF2 at this ⊢
              simp (disch := omega) only [u2_f]
              exact this
      · rw [if_neg c, if_neg c]
        exact ⟨tR, tI⟩
  · have eE : e_kDeliver κ p = 3 := by unfold e_kDeliver; rw [if_neg (by omega), e]
    have eS : s_deliver μ p = u2 μ 0 0 1 := by
      unfold s_deliver
      rw [hn, if_neg (by decide)]
      rfl
    rw [eE, eS]
    exact ⟨by rw [u2_s]; rfl, fun z => absurd z (by decide), fun _ => Rel_u0 hV hR⟩
end R39
