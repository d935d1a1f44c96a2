section KA
variable {L : Launch} {G : mmG} {B : Nat → Nat → Nat} {bx : Nat → Option (Nat × Nat)} {h0 : mmH} {κ : Nat → Nat → Int}
/-! what the class's fields may hold -/
def klo (f : Nat) : Int := match f with
  | 0 => 0
  | 1 => 0
  | 2 => 0
  | 3 => 0
  | 4 => 0
  | 5 => 0
  | 6 => 0
  | 7 => -1
  | 8 => 0
  | 9 => 0
  | 10 => -100
  | 100 => 0
  | 101 => 0
  | 102 => 0
  | 103 => 0
  | 104 => 0
  | 105 => -1
  | 106 => 0
  | 107 => 0
  | 108 => 0
  | 109 => 0
  | 110 => 0
  | 111 => 0
  | 112 => 0
  | 113 => 0
  | 190 => 0
  | 200 => 0
  | 201 => 0
  | 202 => 0
  | 203 => 0
  | 204 => 0
  | 205 => 0
  | 206 => 0
  | 207 => 0
  | 208 => 0
  | 209 => -1
  | 210 => 0
  | 211 => 0
  | 290 => 0
  | 306 => 0
  | 307 => -1
  | 308 => 0
  | 309 => 0
  | 310 => 0
  | 311 => -1
  | 312 => 0
  | 313 => 0
  | 314 => 0
  | 315 => 0
  | 360 => 0
  | 361 => 0
  | 400 => 0
  | 401 => 0
  | 402 => -1
  | 403 => -1
  | 404 => 0
  | 405 => 0
  | 505 => 0
  | 506 => 0
  | 507 => 0
  | 600 => 0
  | 601 => 0
  | 602 => 2
  | _ => -128
def khi (f : Nat) : Int := match f with
  | 0 => 1
  | 1 => 1
  | 2 => 1
  | 3 => 23
  | 4 => 4611686018427387903
  | 5 => 4611686018427387903
  | 6 => 4611686018427387903
  | 7 => 0
  | 8 => 65536
  | 9 => 2048
  | 10 => 3000
  | 100 => 4
  | 101 => 0
  | 102 => 65536
  | 103 => 65536
  | 104 => 65536
  | 105 => 65536
  | 106 => 65536
  | 107 => 65536
  | 108 => 1
  | 109 => 1
  | 110 => 1
  | 111 => 4611686018427387903
  | 112 => 4611686018427387903
  | 113 => 1
  | 190 => 1
  | 200 => 4
  | 201 => 0
  | 202 => 0
  | 203 => 65536
  | 204 => 65536
  | 205 => 65536
  | 206 => 65536
  | 207 => 4
  | 208 => 4611686018427387903
  | 209 => 4611686018427387903
  | 210 => 4611686018427387903
  | 211 => 1
  | 290 => 1
  | 306 => 256
  | 307 => 255
  | 308 => 65536
  | 309 => 65536
  | 310 => 4611686018427387903
  | 311 => 4611686018427387903
  | 312 => 65536
  | 313 => 16777216
  | 314 => 65536
  | 315 => 1
  | 360 => 65536
  | 361 => 65536
  | 400 => 64
  | 401 => 64
  | 402 => 64
  | 403 => 64
  | 404 => 64
  | 405 => 1
  | 505 => 2048
  | 506 => 2048
  | 507 => 1
  | 600 => 65536
  | 601 => 3
  | 602 => 0
  | _ => 256
def kub (f : Nat) : Bool := match f with
  | 7 => false
  | 101 => false
  | 201 => false
  | 202 => false
  | 602 => false
  | _ => true
def kV (κ : Nat → Nat → Int) : Prop := (∀ f k, klo f ≤ κ f k ∧ (kub f = true → κ f k ≤ khi f)) ∧ ∀ r k, κ 601 r = 2 → κ (1000 + r) k ≤ 127
theorem kV.g (h : kV κ) (f k : Nat) (hu : kub f = true) : klo f ≤ κ f k ∧ κ f k ≤ khi f := ⟨(h.1 f k).1, (h.1 f k).2 hu⟩
theorem kV.l (h : kV κ) (f k : Nat) : klo f ≤ κ f k := (h.1 f k).1
theorem klo_big (r : Nat) : klo (1000 + r) = -128 := by
  unfold klo
  split <;> first | omega | rfl
theorem khi_big (r : Nat) : khi (1000 + r) = 256 := by
  unfold khi
  split <;> first | omega | rfl
theorem kub_big (r : Nat) : kub (1000 + r) = true := by
  unfold kub
  split <;> first | omega | rfl
theorem kV.w (h : kV κ) (r k : Nat) : -128 ≤ κ (1000 + r) k ∧ κ (1000 + r) k ≤ 256 := by
  have := h.g (1000 + r) k (kub_big r)
  rw [klo_big, khi_big] at this
  exact this
theorem kV.u (h : kV κ) {f k : Nat} {v : Int} (hf : (Nat.blt f 1000 && !(Nat.beq f 601)) = true) (hv : klo f ≤ v ∧ v ≤ khi f) : kV (u2 κ f k v) := by
  simp only [Bool.and_eq_true, Nat.blt_eq, Bool.not_eq_true'] at hf
  have hn : f ≠ 601 := fun q => by rw [q] at hf; exact absurd hf.2 (by decide)
  refine ⟨fun f' k' => ?_, fun r k' => ?_⟩
  · unfold u2
    split
    · rename_i q
      obtain ⟨rfl, rfl⟩ := q
      exact ⟨hv.1, fun _ => hv.2⟩
    · exact h.1 f' k'
  · rw [u2_f (fun q => hn q.symm), u2_f (by omega)]
    exact h.2 r k'
theorem kV.pl (h : kV κ) {f k : Nat} {v : Int} (hf : (Nat.blt f 1000 && !(Nat.beq f 601) && !(kub f)) = true) (hv : klo f ≤ v) : kV (u2 κ f k v) := by
  simp only [Bool.and_eq_true, Nat.blt_eq, Bool.not_eq_true'] at hf
  have hn : f ≠ 601 := fun q => by rw [q] at hf; exact absurd hf.1.2 (by decide)
  refine ⟨fun f' k' => ?_, fun r k' => ?_⟩
  · unfold u2
    split
    · rename_i q
      obtain ⟨rfl, rfl⟩ := q
      exact ⟨hv, fun z => by rw [hf.2] at z; cases z⟩
    · exact h.1 f' k'
  · rw [u2_f (fun q => hn q.symm), u2_f (by omega)]
    exact h.2 r k'
theorem kV.pw (h : kV κ) {r k : Nat} {v : Int} (h1 : -128 ≤ v) (h2 : v ≤ 256) (h3 : κ 601 r = 2 → v ≤ 127) : kV (u2 κ (1000 + r) k v) := by
  refine ⟨fun f' k' => ?_, fun r' k' => ?_⟩
  · unfold u2
    split
    · rename_i q
      obtain ⟨rfl, rfl⟩ := q
      rw [klo_big, khi_big]
      exact ⟨h1, fun _ => h2⟩
    · exact h.1 f' k'
  · rw [u2_f (show 601 ≠ 1000 + r by omega)]
    intro z
    unfold u2
    split
    · rename_i q
      have : r' = r := by omega
      subst this
      exact h3 z
    · exact h.2 r' k' z
theorem kx_w (hx : kx B bx κ) {r k : Nat} {v : Int} : kx B bx (u2 κ (1000 + r) k v) := kx_cg (fun g hg q => (u2_f (by simp only [List.elem_eq_mem, decide_eq_true_eq, List.mem_cons, List.not_mem_nil, or_false] at hg; omega)).symm) hx
theorem kRetI {v v' : Int} (e : v' = v) : mRet (some (.int (iI v'))) (hk G B bx h0 κ) (some (.int (iI v))) (hk G B bx h0 κ) := by subst e; exact ⟨rfl, rfl⟩
theorem kRetL {v v' : Int} (e : v' = v) : mRet (some (.long (iL v'))) (hk G B bx h0 κ) (some (.long (iL v))) (hk G B bx h0 κ) := by subst e; exact ⟨rfl, rfl⟩
theorem kRetV : mRet none (hk G B bx h0 κ) none (hk G B bx h0 κ) := ⟨rfl, rfl⟩
theorem mRetR {a b : Nat} (e : a = b) : mRet (some (.ref b)) (hk G B bx h0 κ) (some (.ref a)) (hk G B bx h0 κ) := by subst e; exact ⟨rfl, rfl⟩
theorem kRetIS {v v' : Int} {κ' : Nat → Nat → Int} (e : v' = v) (e2 : κ' = κ) (hx : kx B bx κ) (hv : kV κ) : mRetS (some (.int (iI v'))) (hk G B bx h0 κ') (kx B bx κ' ∧ kV κ') (some (.int (iI v))) (hk G B bx h0 κ) := by subst e e2; exact ⟨⟨rfl, rfl⟩, hx, hv⟩
theorem kRetLS {v v' : Int} {κ' : Nat → Nat → Int} (e : v' = v) (e2 : κ' = κ) (hx : kx B bx κ) (hv : kV κ) : mRetS (some (.long (iL v'))) (hk G B bx h0 κ') (kx B bx κ' ∧ kV κ') (some (.long (iL v))) (hk G B bx h0 κ) := by subst e e2; exact ⟨⟨rfl, rfl⟩, hx, hv⟩
theorem kRetVS {κ' : Nat → Nat → Int} (e2 : κ' = κ) (hx : kx B bx κ) (hv : kV κ) : mRetS none (hk G B bx h0 κ') (kx B bx κ' ∧ kV κ') none (hk G B bx h0 κ) := by subst e2; exact ⟨⟨rfl, rfl⟩, hx, hv⟩
theorem kRetISP {v v' : Int} {κ' : Nat → Nat → Int} {P : Int → (Nat → Nat → Int) → Prop} (e : v' = v) (e2 : κ' = κ) (hx : kx B bx κ) (hv : kV κ) (hp : P v κ) : mRetS (some (.int (iI v'))) (hk G B bx h0 κ') (kx B bx κ' ∧ kV κ' ∧ P v' κ') (some (.int (iI v))) (hk G B bx h0 κ) := by subst e e2; exact ⟨⟨rfl, rfl⟩, hx, hv, hp⟩
theorem kRetVSP {κ' : Nat → Nat → Int} {P : Int → (Nat → Nat → Int) → Prop} (e2 : κ' = κ) (hx : kx B bx κ) (hv : kV κ) (hp : P 0 κ) : mRetS none (hk G B bx h0 κ') (kx B bx κ' ∧ kV κ' ∧ P 0 κ') none (hk G B bx h0 κ) := by subst e2; exact ⟨⟨rfl, rfl⟩, hx, hv, hp⟩
/-- the throw of code c, at the heap hh -/
def kThr (hh : mmH) (c : Int) : String → mmH → Prop := fun E h => (c = 1 ∧ E = mm_en 0 ∨ c = 2 ∧ E = mm_en 1 ∨ c = 3 ∧ E = mm_en 2) ∧ h = hh
theorem kThr_up {hh h : mmH} {c c' : Int} {E : String} (q : kThr hh c E h) (k : ¬ c = 0 → c' = c) : kThr hh c' E h := by
  have : ¬ c = 0 := by rcases q.1 with z | z | z <;> omega
  rw [k this]
  exact q
theorem mkit {r : Option AV} {h' : mmH} {P : Prop} {Q : Option AV → mmH → Prop} (k : P → Q r h') : ∀ v h1, (P ∧ mRet (r.map cv) h' v h1) → ∃ r', v = r'.map cv ∧ Q r' h1 := by
  rintro _ _ ⟨p, rfl, rfl⟩
  exact ⟨r, rfl, k p⟩
def v_maxI  (a b : Int) : Int := (if a < b then b else a)
set_option maxRecDepth 100000 in
theorem m_maxI (hF : mm_F G) (htr : L.stackTraces = false) (hx : kx B bx κ) (hV : kV κ) {a b : Int} (h1 : -2147483648 ≤ a) (h1a : a < 2147483648) (h2 : -2147483648 ≤ b) (h2a : b < 2147483648) :
    mm_Met L G SJ9_max_7cf53 [.int (iI a), .int (iI b)] (hk G B bx h0 κ) 0 0 (mRet (some (.int (iI (v_maxI a b)))) (hk G B bx h0 κ)) mm_no := by
  refine mi_methF MJ9_max_7cf53 400 hF htr okJ9_max_7cf53 (av := [aI a, aI b]) (by decide +kernel) (by decide +kernel) (by decide +kernel) (Nat.le_of_ble_eq_true rfl) cmJ9_max_7cf53 (fun θ hc => ?_)
  refine ⟨by omega, fun (e1 : a < b) => ?_, fun (e1 : ¬ (a < b)) => ?_⟩
  · exact ⟨kRetI (by first | exact if_pos e1 | (unfold v_maxI; rw [if_pos e1])), Nat.le_refl _, Nat.le_refl _⟩
  · exact ⟨kRetI (by first | exact if_neg e1 | (unfold v_maxI; rw [if_neg e1])), Nat.le_refl _, Nat.le_refl _⟩
theorem maxI_b (a b : Int) : (v_maxI a b = a ∨ v_maxI a b = b) ∧ v_maxI a b ≥ a ∧ v_maxI a b ≥ b := by
  unfold v_maxI
  repeat' split
  all_goals omega
def v_minI  (a b : Int) : Int := (if b < a then b else a)
set_option maxRecDepth 100000 in
theorem m_minI (hF : mm_F G) (htr : L.stackTraces = false) (hx : kx B bx κ) (hV : kV κ) {a b : Int} (h1 : -2147483648 ≤ a) (h1a : a < 2147483648) (h2 : -2147483648 ≤ b) (h2a : b < 2147483648) :
    mm_Met L G SJ9_min_7cf53 [.int (iI a), .int (iI b)] (hk G B bx h0 κ) 0 0 (mRet (some (.int (iI (v_minI a b)))) (hk G B bx h0 κ)) mm_no := by
  refine mi_methF MJ9_min_7cf53 400 hF htr okJ9_min_7cf53 (av := [aI a, aI b]) (by decide +kernel) (by decide +kernel) (by decide +kernel) (Nat.le_of_ble_eq_true rfl) cmJ9_min_7cf53 (fun θ hc => ?_)
  refine ⟨by omega, fun (e1 : b < a) => ?_, fun (e1 : ¬ (b < a)) => ?_⟩
  · exact ⟨kRetI (by first | exact if_pos e1 | (unfold v_minI; rw [if_pos e1])), Nat.le_refl _, Nat.le_refl _⟩
  · exact ⟨kRetI (by first | exact if_neg e1 | (unfold v_minI; rw [if_neg e1])), Nat.le_refl _, Nat.le_refl _⟩
theorem minI_b (a b : Int) : (v_minI a b = a ∨ v_minI a b = b) ∧ v_minI a b ≤ a ∧ v_minI a b ≤ b := by
  unfold v_minI
  repeat' split
  all_goals omega
def v_maxL  (a b : Int) : Int := (if a < b then b else a)
set_option maxRecDepth 100000 in
theorem m_maxL (hF : mm_F G) (htr : L.stackTraces = false) (hx : kx B bx κ) (hV : kV κ) {a b : Int} (h1 : -9223372036854775808 ≤ a) (h1a : a < 9223372036854775808) (h2 : -9223372036854775808 ≤ b) (h2a : b < 9223372036854775808) :
    mm_Met L G SJ9_max_f86c9 [.long (iL a), .long (iL b)] (hk G B bx h0 κ) 0 0 (mRet (some (.long (iL (v_maxL a b)))) (hk G B bx h0 κ)) mm_no := by
  refine mi_methF MJ9_max_f86c9 400 hF htr okJ9_max_f86c9 (av := [aL a, aL b]) (by decide +kernel) (by decide +kernel) (by decide +kernel) (Nat.le_of_ble_eq_true rfl) cmJ9_max_f86c9 (fun θ hc => ?_)
  refine ⟨by omega, fun (e1 : a < b) => ?_, fun (e1 : ¬ (a < b)) => ?_⟩
  · exact ⟨kRetL (by first | exact if_pos e1 | (unfold v_maxL; rw [if_pos e1])), Nat.le_refl _, Nat.le_refl _⟩
  · exact ⟨kRetL (by first | exact if_neg e1 | (unfold v_maxL; rw [if_neg e1])), Nat.le_refl _, Nat.le_refl _⟩
theorem maxL_b (a b : Int) : (v_maxL a b = a ∨ v_maxL a b = b) ∧ v_maxL a b ≥ a ∧ v_maxL a b ≥ b := by
  unfold v_maxL
  repeat' split
  all_goals omega
def v_minL  (a b : Int) : Int := (if b < a then b else a)
set_option maxRecDepth 100000 in
theorem m_minL (hF : mm_F G) (htr : L.stackTraces = false) (hx : kx B bx κ) (hV : kV κ) {a b : Int} (h1 : -9223372036854775808 ≤ a) (h1a : a < 9223372036854775808) (h2 : -9223372036854775808 ≤ b) (h2a : b < 9223372036854775808) :
    mm_Met L G SJ9_min_f86c9 [.long (iL a), .long (iL b)] (hk G B bx h0 κ) 0 0 (mRet (some (.long (iL (v_minL a b)))) (hk G B bx h0 κ)) mm_no := by
  refine mi_methF MJ9_min_f86c9 400 hF htr okJ9_min_f86c9 (av := [aL a, aL b]) (by decide +kernel) (by decide +kernel) (by decide +kernel) (Nat.le_of_ble_eq_true rfl) cmJ9_min_f86c9 (fun θ hc => ?_)
  refine ⟨by omega, fun (e1 : b < a) => ?_, fun (e1 : ¬ (b < a)) => ?_⟩
  · exact ⟨kRetL (by first | exact if_pos e1 | (unfold v_minL; rw [if_pos e1])), Nat.le_refl _, Nat.le_refl _⟩
  · exact ⟨kRetL (by first | exact if_neg e1 | (unfold v_minL; rw [if_neg e1])), Nat.le_refl _, Nat.le_refl _⟩
theorem minL_b (a b : Int) : (v_minL a b = a ∨ v_minL a b = b) ∧ v_minL a b ≤ a ∧ v_minL a b ≤ b := by
  unfold v_minL
  repeat' split
  all_goals omega
def v_sLive (κ : Nat → Nat → Int) (s i : Int) : Int := (if (κ 200 (mj s i)) = 0 then 1 else (if (κ 200 (mj s i)) = 1 then 1 else 0))
set_option maxRecDepth 100000 in
theorem m_sLive (hF : mm_F G) (htr : L.stackTraces = false) (hx : kx B bx κ) (hV : kV κ) {s i : Int} {a0 : Nat} (ea0 : a0 = B 2 (mj s i)) (hp : κ 290 (mj s i) = 1) :
    mm_Met L G SX2_isLive [.ref a0] (hk G B bx h0 κ) 0 0 (mRet (some (.int (iI (v_sLive κ s i)))) (hk G B bx h0 κ)) mm_no := by
  refine mi_meth MX2_isLive 400 hF htr okX2_isLive (av := [aR a0]) (by decide +kernel) (Nat.le_of_ble_eq_true rfl) cmX2_isLive (fun θ hc => ?_)
  refine ⟨_, hk_o2 hx (show κ 290 (mj s i) = 1 from hp) ea0, aI (κ 200 (mj s i)), rfl, ?_⟩
  have t1 := (show 0 ≤ κ 200 (mj s i) ∧ κ 200 (mj s i) ≤ 4 from hV.g 200 (mj s i) rfl)
  refine ⟨by omega, fun (e2 : (κ 200 (mj s i)) = 0) => ?_, fun (e2 : ¬ ((κ 200 (mj s i)) = 0)) => ?_⟩
  · exact ⟨(Or.inr rfl), kRetI (by first | exact if_pos e2 | (unfold v_sLive; rw [if_pos e2])), Nat.le_refl _, Nat.le_refl _⟩
  · refine ⟨_, hk_o2 hx (show κ 290 (mj s i) = 1 from hp) ea0, aI (κ 200 (mj s i)), rfl, ?_⟩
    refine ⟨by omega, fun (e3 : ¬ ((κ 200 (mj s i)) = 1)) => ?_, fun (e3 : (κ 200 (mj s i)) = 1) => ?_⟩
    · exact ⟨(Or.inl rfl), kRetI (by first | exact (if_neg e2).trans (if_neg e3) | (unfold v_sLive; rw [if_neg e2, if_neg e3])), Nat.le_refl _, Nat.le_refl _⟩
    · exact ⟨(Or.inr rfl), kRetI (by first | exact (if_neg e2).trans (if_pos e3) | (unfold v_sLive; rw [if_neg e2, if_pos e3])), Nat.le_refl _, Nat.le_refl _⟩
set_option maxRecDepth 100000 in
theorem v_sLive_cg {κ κ' : Nat → Nat → Int} {s i : Int} (h : ∀ f, [200].elem f = true → ∀ k, κ f k = κ' f k) : v_sLive κ s i = v_sLive κ' s i := by
  have q200 := h 200 rfl
  unfold v_sLive
  simp only [q200]
set_option maxRecDepth 100000 in
theorem v_sLive_b (κ : Nat → Nat → Int) (s i : Int) : 0 ≤ v_sLive κ s i ∧ v_sLive κ s i ≤ 1 := by
  unfold v_sLive
  repeat' with_reducible apply b_ite
  all_goals decide
def s_giveUp (κ : Nat → Nat → Int) (s i c : Int) : Nat → Nat → Int := (u2 (u2 (u2 κ 200 (mj s i) 3) 210 (mj s i) c) 211 (mj s i) 1)
set_option maxRecDepth 100000 in
theorem m_giveUp (hF : mm_F G) (htr : L.stackTraces = false) (hx : kx B bx κ) (hV : kV κ) {s i c : Int} {a0 : Nat} (ea0 : a0 = B 2 (mj s i)) (hp : κ 290 (mj s i) = 1) (h5 : 0 ≤ c) (h5a : c ≤ 4611686018427387903) :
    mm_Met L G SX2_giveUp [.ref a0, .long (iL c)] (hk G B bx h0 κ) 0 0 (mRetS none (hk G B bx h0 (s_giveUp κ s i c)) (kx B bx (s_giveUp κ s i c) ∧ kV (s_giveUp κ s i c))) mm_no := by
  refine mi_meth MX2_giveUp 400 hF htr okX2_giveUp (av := [aR a0, aL c]) (by decide +kernel) (Nat.le_of_ble_eq_true rfl) cmX2_giveUp (fun θ hc => ?_)
  refine ⟨_, hk_o2 hx (show κ 290 (mj s i) = 1 from hp) ea0, trivial, _, kp_200 hx (show κ 290 (mj s i) = 1 from hp) (v := 3) ea0, ?_⟩
  have hV1 := hV.u (f := 200) (k := (mj s i)) (v := 3) rfl (show 0 ≤ 3 ∧ 3 ≤ 4 from by omega)
  have hx2 := kx_u (f := 200) (k := (mj s i)) (v := 3) rfl hx
  refine ⟨_, hk_o2 hx2 (show (u2 κ 200 (mj s i) 3) 290 (mj s i) = 1 from ((u2_f (by decide))).trans hp) ea0, trivial, _, kp_210 hx2 (show (u2 κ 200 (mj s i) 3) 290 (mj s i) = 1 from ((u2_f (by decide))).trans hp) (v := c) ea0, ?_⟩
  have hV3 := hV1.u (f := 210) (k := (mj s i)) (v := c) rfl (show 0 ≤ c ∧ c ≤ 4611686018427387903 from by omega)
  have hx4 := kx_u (f := 210) (k := (mj s i)) (v := c) rfl hx2
  refine ⟨_, hk_o2 hx4 (show (u2 (u2 κ 200 (mj s i) 3) 210 (mj s i) c) 290 (mj s i) = 1 from ((Eq.trans (u2_f (by decide)) (u2_f (by decide)))).trans hp) ea0, (show 1 = 0 ∨ 1 = 1 from by omega), _, kp_211 hx4 (show (u2 (u2 κ 200 (mj s i) 3) 210 (mj s i) c) 290 (mj s i) = 1 from ((Eq.trans (u2_f (by decide)) (u2_f (by decide)))).trans hp) (v := 1) ea0, ?_⟩
  have hV5 := hV3.u (f := 211) (k := (mj s i)) (v := 1) rfl (show 0 ≤ 1 ∧ 1 ≤ 1 from by omega)
  have hx6 := kx_u (f := 211) (k := (mj s i)) (v := 1) rfl hx4
  exact ⟨kRetVS  rfl hx6 hV5, Nat.le_refl _, Nat.le_refl _⟩
set_option maxRecDepth 100000 in
theorem s_giveUp_fr {f kk : Nat} {s i c : Int} (hf : (!([200, 210, 211].elem f)) = true) : s_giveUp κ s i c f kk = κ f kk := by
  have n200 : f ≠ 200 := by rintro rfl; exact absurd hf (by decide)
  have n210 : f ≠ 210 := by rintro rfl; exact absurd hf (by decide)
  have n211 : f ≠ 211 := by rintro rfl; exact absurd hf (by decide)
  have f200 : ∀ (m : Nat → Nat → Int) (a b : Nat) (v : Int), u2 m 200 a v f b = m f b := fun m a b v => u2_f n200
  have f210 : ∀ (m : Nat → Nat → Int) (a b : Nat) (v : Int), u2 m 210 a v f b = m f b := fun m a b v => u2_f n210
  have f211 : ∀ (m : Nat → Nat → Int) (a b : Nat) (v : Int), u2 m 211 a v f b = m f b := fun m a b v => u2_f n211
  unfold s_giveUp
  repeat' with_reducible apply f_ite
  all_goals first | rfl | simp only [f200, f210, f211]
def v_rLive (κ : Nat → Nat → Int) (s i : Int) : Int := (if (κ 100 (mj s i)) = 0 then 1 else (if (κ 100 (mj s i)) = 1 then 1 else 0))
set_option maxRecDepth 100000 in
theorem m_rLive (hF : mm_F G) (htr : L.stackTraces = false) (hx : kx B bx κ) (hV : kV κ) {s i : Int} {a0 : Nat} (ea0 : a0 = B 1 (mj s i)) (hp : κ 190 (mj s i) = 1) :
    mm_Met L G SX1_isLive [.ref a0] (hk G B bx h0 κ) 0 0 (mRet (some (.int (iI (v_rLive κ s i)))) (hk G B bx h0 κ)) mm_no := by
  refine mi_meth MX1_isLive 400 hF htr okX1_isLive (av := [aR a0]) (by decide +kernel) (Nat.le_of_ble_eq_true rfl) cmX1_isLive (fun θ hc => ?_)
  refine ⟨_, hk_o1 hx (show κ 190 (mj s i) = 1 from hp) ea0, aI (κ 100 (mj s i)), rfl, ?_⟩
  have t1 := (show 0 ≤ κ 100 (mj s i) ∧ κ 100 (mj s i) ≤ 4 from hV.g 100 (mj s i) rfl)
  refine ⟨by omega, fun (e2 : (κ 100 (mj s i)) = 0) => ?_, fun (e2 : ¬ ((κ 100 (mj s i)) = 0)) => ?_⟩
  · exact ⟨(Or.inr rfl), kRetI (by first | exact if_pos e2 | (unfold v_rLive; rw [if_pos e2])), Nat.le_refl _, Nat.le_refl _⟩
  · refine ⟨_, hk_o1 hx (show κ 190 (mj s i) = 1 from hp) ea0, aI (κ 100 (mj s i)), rfl, ?_⟩
    refine ⟨by omega, fun (e3 : ¬ ((κ 100 (mj s i)) = 1)) => ?_, fun (e3 : (κ 100 (mj s i)) = 1) => ?_⟩
    · exact ⟨(Or.inl rfl), kRetI (by first | exact (if_neg e2).trans (if_neg e3) | (unfold v_rLive; rw [if_neg e2, if_neg e3])), Nat.le_refl _, Nat.le_refl _⟩
    · exact ⟨(Or.inr rfl), kRetI (by first | exact (if_neg e2).trans (if_pos e3) | (unfold v_rLive; rw [if_neg e2, if_pos e3])), Nat.le_refl _, Nat.le_refl _⟩
set_option maxRecDepth 100000 in
theorem v_rLive_cg {κ κ' : Nat → Nat → Int} {s i : Int} (h : ∀ f, [100].elem f = true → ∀ k, κ f k = κ' f k) : v_rLive κ s i = v_rLive κ' s i := by
  have q100 := h 100 rfl
  unfold v_rLive
  simp only [q100]
set_option maxRecDepth 100000 in
theorem v_rLive_b (κ : Nat → Nat → Int) (s i : Int) : 0 ≤ v_rLive κ s i ∧ v_rLive κ s i ≤ 1 := by
  unfold v_rLive
  repeat' with_reducible apply b_ite
  all_goals decide
def s_settle (κ : Nat → Nat → Int) (s i : Int) : Nat → Nat → Int := (if 0 ≤ (κ 105 (mj s i)) then (if (κ 105 (mj s i)) ≤ (κ 103 (mj s i)) then (if (κ 105 (mj s i)) ≤ (κ 102 (mj s i)) then (u2 κ 100 (mj s i) 3) else (u2 κ 100 (mj s i) 2)) else (u2 κ 100 (mj s i) 1)) else κ)
set_option maxRecDepth 100000 in
theorem m_settle (hF : mm_F G) (htr : L.stackTraces = false) (hx : kx B bx κ) (hV : kV κ) {s i : Int} {a0 : Nat} (ea0 : a0 = B 1 (mj s i)) (hp : κ 190 (mj s i) = 1) :
    mm_Met L G SX1_settle [.ref a0] (hk G B bx h0 κ) 0 0 (mRetS none (hk G B bx h0 (s_settle κ s i)) (kx B bx (s_settle κ s i) ∧ kV (s_settle κ s i))) mm_no := by
  refine mi_meth MX1_settle 400 hF htr okX1_settle (av := [aR a0]) (by decide +kernel) (Nat.le_of_ble_eq_true rfl) cmX1_settle (fun θ hc => ?_)
  refine ⟨_, hk_o1 hx (show κ 190 (mj s i) = 1 from hp) ea0, aI (κ 105 (mj s i)), rfl, ?_⟩
  have t1 := (show -1 ≤ κ 105 (mj s i) ∧ κ 105 (mj s i) ≤ 65536 from hV.g 105 (mj s i) rfl)
  refine ⟨by omega, fun (e2 : 0 ≤ (κ 105 (mj s i))) => ?_, fun (e2 : ¬ (0 ≤ (κ 105 (mj s i)))) => ?_⟩
  · refine ⟨_, hk_o1 hx (show κ 190 (mj s i) = 1 from hp) ea0, aI (κ 103 (mj s i)), rfl, ?_⟩
    have t3 := (show 0 ≤ κ 103 (mj s i) ∧ κ 103 (mj s i) ≤ 65536 from hV.g 103 (mj s i) rfl)
    refine ⟨_, hk_o1 hx (show κ 190 (mj s i) = 1 from hp) ea0, aI (κ 105 (mj s i)), rfl, ?_⟩
    refine ⟨by omega, fun (e4 : (κ 105 (mj s i)) ≤ (κ 103 (mj s i))) => ?_, fun (e4 : ¬ ((κ 105 (mj s i)) ≤ (κ 103 (mj s i)))) => ?_⟩
    · refine ⟨_, hk_o1 hx (show κ 190 (mj s i) = 1 from hp) ea0, aI (κ 102 (mj s i)), rfl, ?_⟩
      have t5 := (show 0 ≤ κ 102 (mj s i) ∧ κ 102 (mj s i) ≤ 65536 from hV.g 102 (mj s i) rfl)
      refine ⟨_, hk_o1 hx (show κ 190 (mj s i) = 1 from hp) ea0, aI (κ 105 (mj s i)), rfl, ?_⟩
      refine ⟨by omega, fun (e6 : (κ 105 (mj s i)) ≤ (κ 102 (mj s i))) => ?_, fun (e6 : ¬ ((κ 105 (mj s i)) ≤ (κ 102 (mj s i)))) => ?_⟩
      · refine ⟨_, hk_o1 hx (show κ 190 (mj s i) = 1 from hp) ea0, trivial, _, kp_100 hx (show κ 190 (mj s i) = 1 from hp) (v := 3) ea0, ?_⟩
        have hV7 := hV.u (f := 100) (k := (mj s i)) (v := 3) rfl (show 0 ≤ 3 ∧ 3 ≤ 4 from by omega)
        have hx8 := kx_u (f := 100) (k := (mj s i)) (v := 3) rfl hx
        exact ⟨kRetVS  (by first | exact (if_pos e2).trans ((if_pos e4).trans (if_pos e6)) | (unfold s_settle; rw [if_pos e2, if_pos e4, if_pos e6])) hx8 hV7, Nat.le_refl _, Nat.le_refl _⟩
      · refine ⟨_, hk_o1 hx (show κ 190 (mj s i) = 1 from hp) ea0, trivial, _, kp_100 hx (show κ 190 (mj s i) = 1 from hp) (v := 2) ea0, ?_⟩
        have hV9 := hV.u (f := 100) (k := (mj s i)) (v := 2) rfl (show 0 ≤ 2 ∧ 2 ≤ 4 from by omega)
        have hx10 := kx_u (f := 100) (k := (mj s i)) (v := 2) rfl hx
        exact ⟨kRetVS  (by first | exact (if_pos e2).trans ((if_pos e4).trans (if_neg e6)) | (unfold s_settle; rw [if_pos e2, if_pos e4, if_neg e6])) hx10 hV9, Nat.le_refl _, Nat.le_refl _⟩
    · refine ⟨_, hk_o1 hx (show κ 190 (mj s i) = 1 from hp) ea0, trivial, _, kp_100 hx (show κ 190 (mj s i) = 1 from hp) (v := 1) ea0, ?_⟩
      have hV11 := hV.u (f := 100) (k := (mj s i)) (v := 1) rfl (show 0 ≤ 1 ∧ 1 ≤ 4 from by omega)
      have hx12 := kx_u (f := 100) (k := (mj s i)) (v := 1) rfl hx
      exact ⟨kRetVS  (by first | exact (if_pos e2).trans (if_neg e4) | (unfold s_settle; rw [if_pos e2, if_neg e4])) hx12 hV11, Nat.le_refl _, Nat.le_refl _⟩
  · exact ⟨kRetVS  (by first | exact if_neg e2 | (unfold s_settle; rw [if_neg e2])) hx hV, Nat.le_refl _, Nat.le_refl _⟩
set_option maxRecDepth 100000 in
theorem s_settle_fr {f kk : Nat} {s i : Int} (hf : (!([100].elem f)) = true) : s_settle κ s i f kk = κ f kk := by
  have n100 : f ≠ 100 := by rintro rfl; exact absurd hf (by decide)
  have f100 : ∀ (m : Nat → Nat → Int) (a b : Nat) (v : Int), u2 m 100 a v f b = m f b := fun m a b v => u2_f n100
  unfold s_settle
  repeat' with_reducible apply f_ite
  all_goals first | rfl | simp only [f100]
def s_setFields (κ : Nat → Nat → Int) (p t a b c : Int) : Nat → Nat → Int := (u2 (u2 (u2 (u2 κ 3 p.toNat t) 4 p.toNat a) 5 p.toNat b) 6 p.toNat c)
set_option maxRecDepth 100000 in
theorem m_setFields (hF : mm_F G) (htr : L.stackTraces = false) (hx : kx B bx κ) (hV : kV κ) {p t a b c : Int} {a0 : Nat} (ea0 : a0 = B 0 p.toNat) (hf1 : 0 ≤ p) (hf2 : p ≤ 64) (h1 : 0 ≤ t) (h1a : t ≤ 23) (h2 : 0 ≤ a) (h2a : a ≤ 4611686018427387903) (h3 : 0 ≤ b) (h3a : b ≤ 4611686018427387903) (h4 : 0 ≤ c) (h4a : c ≤ 4611686018427387903) :
    mm_Met L G SX0_setFields [.ref a0, .int (iI t), .long (iL a), .long (iL b), .long (iL c)] (hk G B bx h0 κ) 0 0 (mRetS none (hk G B bx h0 (s_setFields κ p t a b c)) (kx B bx (s_setFields κ p t a b c) ∧ kV (s_setFields κ p t a b c))) mm_no := by
  refine mi_meth MX0_setFields 400 hF htr okX0_setFields (av := [aR a0, aI t, aL a, aL b, aL c]) (by decide +kernel) (Nat.le_of_ble_eq_true rfl) cmX0_setFields (fun θ hc => ?_)
  refine ⟨_, hk_o0 hx (show p.toNat < 65 from by omega) ea0, trivial, _, kp_3 hx (show p.toNat < 65 from by omega) (v := t) ea0, ?_⟩
  have hV1 := hV.u (f := 3) (k := p.toNat) (v := t) rfl (show 0 ≤ t ∧ t ≤ 23 from by omega)
  have hx2 := kx_u (f := 3) (k := p.toNat) (v := t) rfl hx
  refine ⟨_, hk_o0 hx2 (show p.toNat < 65 from by omega) ea0, trivial, _, kp_4 hx2 (show p.toNat < 65 from by omega) (v := a) ea0, ?_⟩
  have hV3 := hV1.u (f := 4) (k := p.toNat) (v := a) rfl (show 0 ≤ a ∧ a ≤ 4611686018427387903 from by omega)
  have hx4 := kx_u (f := 4) (k := p.toNat) (v := a) rfl hx2
  refine ⟨_, hk_o0 hx4 (show p.toNat < 65 from by omega) ea0, trivial, _, kp_5 hx4 (show p.toNat < 65 from by omega) (v := b) ea0, ?_⟩
  have hV5 := hV3.u (f := 5) (k := p.toNat) (v := b) rfl (show 0 ≤ b ∧ b ≤ 4611686018427387903 from by omega)
  have hx6 := kx_u (f := 5) (k := p.toNat) (v := b) rfl hx4
  refine ⟨_, hk_o0 hx6 (show p.toNat < 65 from by omega) ea0, trivial, _, kp_6 hx6 (show p.toNat < 65 from by omega) (v := c) ea0, ?_⟩
  have hV7 := hV5.u (f := 6) (k := p.toNat) (v := c) rfl (show 0 ≤ c ∧ c ≤ 4611686018427387903 from by omega)
  have hx8 := kx_u (f := 6) (k := p.toNat) (v := c) rfl hx6
  exact ⟨kRetVS  rfl hx8 hV7, Nat.le_refl _, Nat.le_refl _⟩
set_option maxRecDepth 100000 in
theorem s_setFields_fr {f kk : Nat} {p t a b c : Int} (hf : (!([3, 4, 5, 6].elem f)) = true) : s_setFields κ p t a b c f kk = κ f kk := by
  have n3 : f ≠ 3 := by rintro rfl; exact absurd hf (by decide)
  have n4 : f ≠ 4 := by rintro rfl; exact absurd hf (by decide)
  have n5 : f ≠ 5 := by rintro rfl; exact absurd hf (by decide)
  have n6 : f ≠ 6 := by rintro rfl; exact absurd hf (by decide)
  have f3 : ∀ (m : Nat → Nat → Int) (a b : Nat) (v : Int), u2 m 3 a v f b = m f b := fun m a b v => u2_f n3
  have f4 : ∀ (m : Nat → Nat → Int) (a b : Nat) (v : Int), u2 m 4 a v f b = m f b := fun m a b v => u2_f n4
  have f5 : ∀ (m : Nat → Nat → Int) (a b : Nat) (v : Int), u2 m 5 a v f b = m f b := fun m a b v => u2_f n5
  have f6 : ∀ (m : Nat → Nat → Int) (a b : Nat) (v : Int), u2 m 6 a v f b = m f b := fun m a b v => u2_f n6
  unfold s_setFields
  repeat' with_reducible apply f_ite
  all_goals first | rfl | simp only [f3, f4, f5, f6]
end KA
