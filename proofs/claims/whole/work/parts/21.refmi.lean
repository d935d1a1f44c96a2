section MRI
variable {L : Launch} {G : mmG} {A : Nat → Nat} {ax : Nat → Option Nat} {h0 : mmH} {μ : Nat → Nat → Int}
def mobi (A : Nat → Nat) (μ : Nat → Nat → Int) : List AV := [aI (μ 0 0), aI (μ 1 0), aR (A 2), aI (μ 3 0), aR (A 4), aI (μ 5 0), aR (A 6), aR (A 7), aR (A 8), aR (A 9), aR (A 10), aR (A 11), aR (A 12), aR (A 13), aR (A 14), aR (A 15), aR (A 16), aR (A 17), aR (A 18), aR (A 19), aR (A 20), aR (A 21), aR (A 22), aR (A 23), aR (A 24), aR (A 25), aR (A 26), aR (A 27), aR (A 28), aR (A 29), aR (A 30), aR (A 31), aR (A 32), aR (A 33), aR (A 34), aR (A 35), aR (A 36), aR (A 37), aR (A 38), aR (A 39), aR (A 40), aR (A 41), aR (A 42), aR (A 43), aR (A 44), aI (μ 45 0), aL (μ 46 0), aL (μ 47 0), aL (μ 48 0), aI (μ 49 0), aR (A 50), aR (A 51), aR (A 52), aR (A 53), aR (A 54), aR (A 55), aR (A 56), aR (A 57), aR (A 58), aR (A 59), aR (A 60)]
theorem hm_oi (hx : mx A ax) : hm G A ax h0 μ (A 99) = some (.inr (6, (mobi A μ).map cv)) := hm_o hx
theorem hm_pi (hx : mx A ax) {f k n i : Nat} {v : Int} (hf : mf_is f = true) (ht : mf_ty f = k) (hk : Nat.beq k 1 = false) (hn : mf_len f = n) : va_up (hm G A ax h0 μ) (A f) (some (.inl (mm_dA G k, n, .inl (fun q => iI (if q = i then v else μ f q))))) = hm G A ax h0 (u2 μ f i v) := by
  refine hm_put hx hf ?_
  subst ht hn
  unfold marr
  have : mcon (u2 μ f i v) f = .inl (fun q => iI (if q = i then v else μ f q)) := by
    unfold mcon
    split
    · rename_i h; rw [h] at hk; cases hk
    · congr 1
      funext j
      rw [u2_g]
  rw [this]
theorem hm_pl (hx : mx A ax) {f n i : Nat} {v : Int} (hf : mf_is f = true) (ht : mf_ty f = 1) (hn : mf_len f = n) : va_up (hm G A ax h0 μ) (A f) (some (.inl (mm_dA G 1, n, .inr (.inl (fun q => iL (if q = i then v else μ f q)))))) = hm G A ax h0 (u2 μ f i v) := by
  refine hm_put hx hf ?_
  subst hn
  unfold marr
  have : mcon (u2 μ f i v) f = .inr (.inl (fun q => iL (if q = i then v else μ f q))) := by
    unfold mcon
    rw [ht]
    show Sum.inr (Sum.inl fun j => iL (u2 μ f i v f j)) = _
    congr 2
    funext j
    rw [u2_g]
  rw [this, ht]
theorem mRetI {v v' : Int} {μ' : Nat → Nat → Int} (e : v' = v) (e2 : μ' = μ) : mRet (some (.int (iI v'))) (hm G A ax h0 μ') (some (.int (iI v))) (hm G A ax h0 μ) := by
  subst e e2
  exact ⟨rfl, rfl⟩
theorem mRetL {v v' : Int} {μ' : Nat → Nat → Int} (e : v' = v) (e2 : μ' = μ) : mRet (some (.long (iL v'))) (hm G A ax h0 μ') (some (.long (iL v))) (hm G A ax h0 μ) := by
  subst e e2
  exact ⟨rfl, rfl⟩
theorem mRetV {μ' : Nat → Nat → Int} (e2 : μ' = μ) : mRet none (hm G A ax h0 μ') none (hm G A ax h0 μ) := by
  subst e2
  exact ⟨rfl, rfl⟩
theorem mki_ {r : Option AV} {h' : mmH} {Q : Option AV → mmH → Prop} (k : Q r h') : ∀ v h1, mRet (r.map cv) h' v h1 → ∃ r', v = r'.map cv ∧ Q r' h1 := by
  rintro _ _ ⟨rfl, rfl⟩
  exact ⟨r, rfl, k⟩
theorem mi_Wsub {M : mmM} {MC MS : Nat} {PR : Option Value → mmH → Prop} {PX : String → mmH → Prop} {θ : mmT} {j : Nat} {l l' : List (Nat × AV)} {st : List AV} {h : mmH} {cs sl : Nat} (hs : ∀ q ∈ l, q ∈ l') (k : mi_W L G M MC MS PR PX θ j l st h cs sl) : mm_W L G M MC MS PR PX θ j (cl l') (st.map cv) h cs sl := by
  intro H locs ls hR hl hq
  refine k H locs ls hR ?_ hq
  refine ⟨hl.1, hl.2.1, fun q hq => hl.2.2 q ?_⟩
  obtain ⟨a, ha, rfl⟩ := List.mem_map.mp hq
  exact List.mem_map.mpr ⟨a, hs a ha, rfl⟩
theorem b2_e0 {p : Prop} [Decidable p] : b2 p = 0 ↔ ¬ p := by
  unfold b2
  split <;> simp_all
theorem b2_n0 {p : Prop} [Decidable p] : ¬ b2 p = 0 ↔ p := by
  unfold b2
  split <;> simp_all
theorem b2_r (p : Prop) [Decidable p] : 0 ≤ b2 p ∧ b2 p ≤ 1 := by
  unfold b2
  split <;> omega
theorem m_fails0 (hF : mm_F G) (htr : L.stackTraces = false) (hx : mx A ax) {c : Int} :
    mm_Met L G SX6_fails [.ref (A 99), .int (iI 0), .int (iI c)] (hm G A ax h0 μ) 0 0 (mRet (some (.int (iI 0))) (hm G A ax h0 (u2 μ 0 0 0))) mm_no := m_fails (p := False) hF htr hx (c := c)
theorem m_fails1 (hF : mm_F G) (htr : L.stackTraces = false) (hx : mx A ax) {c : Int} :
    mm_Met L G SX6_fails [.ref (A 99), .int (iI 1), .int (iI c)] (hm G A ax h0 μ) 0 0 (mRet (some (.int (iI 1))) (hm G A ax h0 (u2 μ 0 0 c))) mm_no := m_fails (p := True) hF htr hx (c := c)
theorem m_failsV (hF : mm_F G) (htr : L.stackTraces = false) (hx : mx A ax) {v c : Int} (hv : v = 0 ∨ v = 1) :
    mm_Met L G SX6_fails [.ref (A 99), .int (iI v), .int (iI c)] (hm G A ax h0 μ) 0 0 (mRet (some (.int (iI v))) (hm G A ax h0 (u2 μ 0 0 (if v = 0 then 0 else c)))) mm_no := by
  rcases hv with rfl | rfl
  · exact m_fails0 hF htr hx
  · exact m_fails1 hF htr hx
end MRI
