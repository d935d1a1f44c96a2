section MR11
variable {L : Launch} {G : mmG} {A : Nat → Nat} {ax : Nat → Option Nat} {h0 : mmH} {μ ν : Nat → Nat → Int}
/-! the pieces of a side: distinct, each below its stream's highest; so there are few -/
def mSum (h : Nat → Int) : Nat → Int
  | 0 => 0
  | k + 1 => mSum h k + h k
theorem mSum_cg {h h' : Nat → Int} : ∀ n, (∀ k, k < n → h k = h' k) → mSum h n = mSum h' n
  | 0, _ => rfl
  | n + 1, e => by
    show mSum h n + h n = mSum h' n + h' n
    rw [mSum_cg n (fun k hk => e k (by omega)), e n (by omega)]
theorem mSum_u {h : Nat → Int} {j : Nat} {v : Int} : ∀ n, mSum (fun k => if k = j then v else h k) n = mSum h n + (if j < n then v - h j else 0)
  | 0 => rfl
  | n + 1 => by
    show mSum (fun k => if k = j then v else h k) n + (if n = j then v else h n) = mSum h n + h n + _
    rw [mSum_u n]
    by_cases e : n = j
    · subst e
      rw [if_pos rfl, if_neg (Nat.lt_irrefl _), if_pos (by omega)]
      omega
    · rw [if_neg e]
      by_cases e2 : j < n
      · rw [if_pos e2, if_pos (by omega)]; omega
      · rw [if_neg e2, if_neg (by omega)]; omega
theorem received_s4 (s : Int) : ∀ (d k : Nat), k ≤ 256 → 256 < d + k → v_received_4 μ s d (mSum (fun j => μ 25 (mj s j)) k) k = mSum (fun j => μ 25 (mj s j)) 256
  | 0, k, h1, h2 => by omega
  | d + 1, k, h1, h2 => by
    rw [v_received_4]
    split
    · rw [show k = 256 by omega]
    · have ih := received_s4 s d (k + 1) (by omega) (by omega)
      rw [← ih]
      rfl
theorem received_s (s : Int) : v_received μ s = mSum (fun j => μ 25 (mj s j)) 256 := received_s4 s 257 0 (by omega) (by omega)
theorem mj_u {μ : Nat → Nat → Int} {f : Nat} {s i v : Int} (h1 : 0 ≤ s) (h3 : 0 ≤ i) (h4 : i < 256) (j : Nat) (hj : j < 256) : u2 μ f (mj s i) v f (mj s j) = if j = i.toNat then v else μ f (mj s j) := by
  rw [u2_g]
  by_cases e : j = i.toNat
  · rw [if_pos e, if_pos (by unfold mj; omega)]
  · rw [if_neg e, if_neg (by unfold mj; omega)]
theorem received_u {s i v : Int} (h1 : 0 ≤ s) (h3 : 0 ≤ i) (h4 : i < 256) : v_received (u2 μ 25 (mj s i) v) s = v_received μ s + (v - μ 25 (mj s i)) := by
  rw [received_s, received_s, mSum_cg (h' := fun j => if j = i.toNat then v else (fun j : Nat => μ 25 (mj s j)) j) 256 (fun j hj => mj_u h1 h3 h4 j hj), mSum_u, if_pos (by omega)]
  show _ + (v - μ 25 (mj s i.toNat)) = _
  rw [show ((i.toNat : Nat) : Int) = i by omega]
theorem received_o {s t i v : Int} (h1 : 0 ≤ s) (h2 : s ≤ 1) (h1' : 0 ≤ t) (h2' : t ≤ 1) (h : t ≠ s) (h3 : 0 ≤ i) (h4 : i < 256) : v_received (u2 μ 25 (mj s i) v) t = v_received μ t := by
  rw [received_s, received_s]
  refine mSum_cg 256 (fun j hj => ?_)
  rw [u2_k]
  unfold mj
  omega
theorem m_pig : ∀ (n : Nat) (T : List Nat) (c : Nat → Nat), (∀ p q, p < q → q < n → c p ≠ c q) → (∀ p, p < n → c p ∈ T) → n ≤ T.length
  | 0, _, _, _, _ => Nat.zero_le _
  | n + 1, T, c, h1, h2 => by
    have hm := h2 n (Nat.lt_succ_self _)
    have ih := m_pig n (T.erase (c n)) c (fun p q a b => h1 p q a (by omega)) (fun p hp => (List.mem_erase_of_ne (h1 p n hp (Nat.lt_succ_self _))).mpr (h2 p (by omega)))
    rw [List.length_erase_of_mem hm] at ih
    have := List.length_pos_of_mem hm
    omega
def mPT (h : Nat → Int) : Nat → List Nat
  | 0 => []
  | k + 1 => mPT h k ++ (List.range ((h k + 63) / 64).toNat).map (fun n => k * 1024 + n)
theorem mPT_len (h : Nat → Int) (hh : ∀ k, 0 ≤ h k) : ∀ k, 64 * ((mPT h k).length : Int) ≤ mSum h k + 63 * k
  | 0 => by show (64 : Int) * 0 ≤ 0 + 63 * 0; omega
  | k + 1 => by
    have ih := mPT_len h hh k
    have := hh k
    show 64 * (((mPT h k ++ (List.range ((h k + 63) / 64).toNat).map (fun n => k * 1024 + n)).length : Nat) : Int) ≤ mSum h k + h k + 63 * ((k + 1 : Nat) : Int)
    rw [List.length_append, List.length_map, List.length_range]
    omega
theorem mPT_mem (h : Nat → Int) {i n : Nat} : ∀ k, i < k → (64 * (n : Int) < h i) → i * 1024 + n ∈ mPT h k
  | 0, h1, _ => by omega
  | k + 1, h1, h2 => by
    show _ ∈ mPT h k ++ _
    by_cases e : i = k
    · subst e
      exact List.mem_append_right _ (List.mem_map.mpr ⟨n, List.mem_range.mpr (by omega), rfl⟩)
    · exact List.mem_append_left _ (mPT_mem h k (by omega) h2)
def mPi (μ : Nat → Nat → Int) (s : Int) : Prop := v_received μ s ≤ 65536 ∧ (∀ p : Nat, (p : Int) < μ 40 s.toNat → 64 * μ 42 ((1408 * s).toNat + p) < μ 25 (mj s (μ 41 ((1408 * s).toNat + p)))) ∧ ∀ p q : Nat, p < q → (q : Int) < μ 40 s.toNat → ¬ (μ 41 ((1408 * s).toNat + p) = μ 41 ((1408 * s).toNat + q) ∧ μ 42 ((1408 * s).toNat + p) = μ 42 ((1408 * s).toNat + q))
theorem mPi_lt (hV : mV μ) {s : Int} (hP : mPi μ s) : μ 40 s.toNat ≤ 1300 := by
  have r41 : ∀ k, 0 ≤ μ 41 k ∧ μ 41 k ≤ 255 := fun k => hV 41 k
  have r42 : ∀ k, 0 ≤ μ 42 k ∧ μ 42 k ≤ 1023 := fun k => hV 42 k
  have r25 : ∀ k, 0 ≤ μ 25 k ∧ μ 25 k ≤ 65536 := fun k => hV 25 k
  have := m_pig (μ 40 s.toNat).toNat (mPT (fun j => μ 25 (mj s j)) 256) (fun p => (μ 41 ((1408 * s).toNat + p)).toNat * 1024 + (μ 42 ((1408 * s).toNat + p)).toNat) (fun p q h1 h2 e => by
      refine hP.2.2 p q h1 (by omega) ?_
      have a1 := r41 ((1408 * s).toNat + p)
      have a2 := r41 ((1408 * s).toNat + q)
      have a3 := r42 ((1408 * s).toNat + p)
      have a4 := r42 ((1408 * s).toNat + q)
      omega) (fun p h1 => by
      have a1 := r41 ((1408 * s).toNat + p)
      have a3 := r42 ((1408 * s).toNat + p)
      have q := hP.2.1 p (by omega)
      refine mPT_mem _ 256 (by omega) ?_
      show 64 * (((μ 42 ((1408 * s).toNat + p)).toNat : Nat) : Int) < μ 25 (mj s ((μ 41 ((1408 * s).toNat + p)).toNat : Nat))
      rw [show (((μ 41 ((1408 * s).toNat + p)).toNat : Nat) : Int) = μ 41 ((1408 * s).toNat + p) by omega]
      omega)
  have l := mPT_len (fun j => μ 25 (mj s j)) (fun k => (r25 _).1) 256
  have r := hP.1
  rw [received_s] at r
  omega
theorem mPi_cg {μ μ' : Nat → Nat → Int} {s : Int} (h : ∀ f, [25, 40, 41, 42].elem f = true → ∀ k, μ f k = μ' f k) (q : mPi μ s) : mPi μ' s := by
  have e25 := h 25 rfl
  have e40 := h 40 rfl
  have e41 := h 41 rfl
  have e42 := h 42 rfl
  refine ⟨?_, fun p hp => ?_, fun p r h1 h2 => ?_⟩
  · rw [← v_received_cg (μ := μ) (fun f hf k => h f (by simp only [List.elem_eq_mem, decide_eq_true_eq, List.mem_cons, List.not_mem_nil, or_false] at hf ⊢; omega) k)]; exact q.1
  · rw [← e42, ← e41, ← e25]; exact q.2.1 p (by rw [e40]; exact hp)
  · rw [← e42, ← e41, ← e42, ← e41]; exact q.2.2 p r h1 (by rw [e40]; exact h2)
theorem pieceAt_n4 {s i n : Int} (h1 : 0 ≤ s) : ∀ (d m : Nat), v_pieceAt_4 μ s i n d (1408 * s + m) = -1 → μ 40 s.toNat < d + m → ∀ p : Nat, m ≤ p → (p : Int) < μ 40 s.toNat → ¬ (μ 41 ((1408 * s).toNat + p) = i ∧ μ 42 ((1408 * s).toNat + p) = n)
  | 0, m, _, h2, p, h3, h4 => by omega
  | d + 1, m, h, h2, p, h3, h4 => by
    rw [v_pieceAt_4, show (1408 * s + (m : Int)).toNat = (1408 * s).toNat + m by omega, show 1408 * s + (m : Int) + 1 = 1408 * s + ((m + 1 : Nat) : Int) by omega] at h
    have ih := pieceAt_n4 (s := s) (i := i) (n := n) h1 d (m + 1)
    split at h
    · omega
    · by_cases e : p = m
      · subst e
        split at h
        · split at h
          · omega
          · rename_i g; exact fun z => g z.2
        · rename_i g; exact fun z => g z.1
      · split at h
        · split at h
          · omega
          · exact ih h (by omega) p (by omega) h4
        · exact ih h (by omega) p (by omega) h4
theorem pieceAt_n (hV : mV μ) {s i n : Int} (h1 : 0 ≤ s) (h : v_pieceAt μ s i n = -1) (p : Nat) (hp : (p : Int) < μ 40 s.toNat) : ¬ (μ 41 ((1408 * s).toNat + p) = i ∧ μ 42 ((1408 * s).toNat + p) = n) := by
  have r40 : 0 ≤ μ 40 s.toNat ∧ μ 40 s.toNat ≤ 1408 := hV 40 _
  refine pieceAt_n4 h1 1409 0 ?_ (by omega) p (Nat.zero_le _) hp
  rw [show 1408 * s + ((0 : Nat) : Int) = 1408 * s by omega]
  exact h
/-- one more piece, at its side -/
theorem mPi_new {S : Nat → Nat → Int} (hV : mV μ) {s i o : Int} (h1 : 0 ≤ s) (h2 : s ≤ 1) (ho : 0 ≤ o) (hh : o < μ 25 (mj s i)) (hn : v_pieceAt μ s i (o / 64) = -1) (hP : mPi μ s)
    (e25 : ∀ k, S 25 k = μ 25 k) (e40 : S 40 s.toNat = μ 40 s.toNat + 1) (e41 : ∀ k, S 41 k = if k = (1408 * s + μ 40 s.toNat).toNat then i else μ 41 k) (e42 : ∀ k, S 42 k = if k = (1408 * s + μ 40 s.toNat).toNat then o / 64 else μ 42 k) : mPi S s := by
  have r40 : 0 ≤ μ 40 s.toNat ∧ μ 40 s.toNat ≤ 1408 := hV 40 _
  have k1 : ∀ p : Nat, (p : Int) < μ 40 s.toNat → S 41 ((1408 * s).toNat + p) = μ 41 ((1408 * s).toNat + p) ∧ S 42 ((1408 * s).toNat + p) = μ 42 ((1408 * s).toNat + p) := fun p hp => by
    rw [e41, e42, if_neg (by omega), if_neg (by omega)]; exact ⟨rfl, rfl⟩
  have k2 : ∀ p : Nat, (p : Int) = μ 40 s.toNat → S 41 ((1408 * s).toNat + p) = i ∧ S 42 ((1408 * s).toNat + p) = o / 64 := fun p hp => by
    rw [e41, e42, if_pos (by omega), if_pos (by omega)]; exact ⟨rfl, rfl⟩
  refine ⟨?_, fun p hp => ?_, fun p q hpq hq => ?_⟩
  · rw [v_received_cg (μ' := μ) (fun f hf k => by simp only [List.elem_eq_mem, decide_eq_true_eq, List.mem_cons, List.not_mem_nil, or_false] at hf; subst hf; exact e25 k)]; exact hP.1
  · rw [e40] at hp
    by_cases e : (p : Int) < μ 40 s.toNat
    · rw [(k1 p e).1, (k1 p e).2, e25]; exact hP.2.1 p e
    · rw [(k2 p (by omega)).1, (k2 p (by omega)).2, e25]; omega
  · rw [e40] at hq
    have a := k1 p (by omega)
    rw [a.1, a.2]
    by_cases e : (q : Int) < μ 40 s.toNat
    · rw [(k1 q e).1, (k1 q e).2]; exact hP.2.2 p q hpq e
    · rw [(k2 q (by omega)).1, (k2 q (by omega)).2]
      exact pieceAt_n hV h1 hn p (by omega)
theorem mPi_oth {S : Nat → Nat → Int} (hV : mV μ) {s t i o : Int} (h1 : 0 ≤ s) (h2 : s ≤ 1) (g1 : 0 ≤ t) (g2 : t ≤ 1) (hne : t ≠ s) (hl : μ 40 s.toNat < 1408) (hP : mPi μ t)
    (e25 : ∀ k, S 25 k = μ 25 k) (e40 : S 40 t.toNat = μ 40 t.toNat) (e41 : ∀ k, S 41 k = if k = (1408 * s + μ 40 s.toNat).toNat then i else μ 41 k) (e42 : ∀ k, S 42 k = if k = (1408 * s + μ 40 s.toNat).toNat then o / 64 else μ 42 k) : mPi S t := by
  have r40 : 0 ≤ μ 40 s.toNat ∧ μ 40 s.toNat ≤ 1408 := hV 40 _
  have r40' : 0 ≤ μ 40 t.toNat ∧ μ 40 t.toNat ≤ 1408 := hV 40 _
  have k1 : ∀ p : Nat, (p : Int) < μ 40 t.toNat → S 41 ((1408 * t).toNat + p) = μ 41 ((1408 * t).toNat + p) ∧ S 42 ((1408 * t).toNat + p) = μ 42 ((1408 * t).toNat + p) := fun p hp => by
    rw [e41, e42, if_neg (by omega), if_neg (by omega)]; exact ⟨rfl, rfl⟩
  refine ⟨?_, fun p hp => ?_, fun p q hpq hq => ?_⟩
  · rw [v_received_cg (μ' := μ) (fun f hf k => by simp only [List.elem_eq_mem, decide_eq_true_eq, List.mem_cons, List.not_mem_nil, or_false] at hf; subst hf; exact e25 k)]; exact hP.1
  · rw [e40] at hp
    rw [(k1 p hp).1, (k1 p hp).2, e25]; exact hP.2.1 p hp
  · rw [e40] at hq
    have a := k1 p (by omega)
    rw [a.1, a.2, (k1 q hq).1, (k1 q hq).2]
    exact hP.2.2 p q hpq hq
def mP2 (μ : Nat → Nat → Int) : Prop := ∀ t : Int, 0 ≤ t → t ≤ 1 → mPi μ t
theorem mP2_cg {μ μ' : Nat → Nat → Int} (h : ∀ f, [25, 40, 41, 42].elem f = true → ∀ k, μ f k = μ' f k) (q : mP2 μ) : mP2 μ' := fun t a b => mPi_cg h (q t a b)
theorem mP2_u {f k : Nat} {v : Int} (hf : [25, 40, 41, 42].elem f = false) (q : mP2 ν) : mP2 (u2 ν f k v) := mP2_cg (fun g hg k' => (u2_f (by rintro rfl; rw [hg] at hf; cases hf)).symm) q
theorem comes_p2 (hV : mV μ) {s i o b : Int} (h1 : 0 ≤ s) (h2 : s ≤ 1) (ho : 0 ≤ o) (hh : o < μ 25 (mj s i)) (hP : mP2 μ) : mP2 (s_comes μ s i o b) := by
  have hl := mPi_lt hV (hP s h1 h2)
  unfold s_comes
  split
  · split
    · exact mP2_u (by decide) (mP2_u (by decide) hP)
    · exact hP
  · rename_i hneg
    have hn : v_pieceAt μ s i (o / 64) = -1 := by
      rcases pieceAt_c (μ := μ) (s := s) i (o / 64) h1 with q | q <;> omega
    have key : ∀ S : Nat → Nat → Int, (∀ k, S 25 k = μ 25 k) → (∀ k, S 40 k = if k = s.toNat then μ 40 s.toNat + 1 else μ 40 k) → (∀ k, S 41 k = if k = (1408 * s + μ 40 s.toNat).toNat then i else μ 41 k) → (∀ k, S 42 k = if k = (1408 * s + μ 40 s.toNat).toNat then o / 64 else μ 42 k) → mP2 S := by
      intro S e25 e40 e41 e42 t g1 g2
      by_cases e : t = s
      · subst e
        exact mPi_new hV h1 h2 ho hh hn (hP t h1 h2) e25 (by rw [e40, if_pos rfl]) e41 e42
      · exact mPi_oth (i := i) (o := o) hV h1 h2 g1 g2 e (by omega) (hP t g1 g2) e25 (by rw [e40, if_neg (by omega)]) e41 e42
    split
    · refine key _ (fun k => rfl) (fun k => ?_) (fun k => ?_) (fun k => ?_)
      · exact u2_g
      · exact u2_g
      · exact u2_g
    · refine key _ (fun k => rfl) (fun k => ?_) (fun k => ?_) (fun k => ?_)
      · exact u2_g
      · exact u2_g
      · exact u2_g
theorem high_p2 {μ' : Nat → Nat → Int} {s i e : Int} (hP : mP2 μ) (h : ∀ f, [25, 40, 41, 42].elem f = true → ∀ k, μ f k = μ' f k) (h1 : 0 ≤ s) (h2 : s ≤ 1) (h3 : 0 ≤ i) (h4 : i < 256) (he : μ 25 (mj s i) ≤ e) (hr : μ 25 (mj s i) < e → v_received μ s + (e - μ 25 (mj s i)) ≤ 65536) : mP2 (u2 μ' 25 (mj s i) e) := by
  have hP' := mP2_cg h hP
  have hrc : ∀ t, v_received μ' t = v_received μ t := fun t => (v_received_cg (fun f hf k => h f (by simp only [List.elem_eq_mem, decide_eq_true_eq, List.mem_cons, List.not_mem_nil, or_false] at hf ⊢; omega) k)).symm
  intro t g1 g2
  have hp := hP' t g1 g2
  refine ⟨?_, fun p hp' => ?_, fun p q => hp.2.2 p q⟩
  · by_cases e' : t = s
    · subst e'
      rw [received_u h1 h3 h4, hrc, ← h 25 rfl]
      have hp1 := (hP t g1 g2).1
      by_cases q : μ 25 (mj t i) < e
      · exact hr q
      · omega
    · rw [received_o h1 h2 g1 g2 e' h3 h4]; exact hp.1
  · have q := hp.2.1 p hp'
    show 64 * μ' 42 ((1408 * t).toNat + p) < u2 μ' 25 (mj s i) e 25 (mj t (μ' 41 ((1408 * t).toNat + p)))
    rw [u2_g]
    split
    · rename_i e'
      rw [e', ← h 25 rfl] at q
      omega
    · exact q
theorem meant_0 (hV : mV μ) {s a p : Int} (h : v_meant μ s a p = 0) : a < 256 := by
  have r10 : 0 ≤ μ 10 (2 * s + a / 2 % 2).toNat ∧ μ 10 (2 * s + a / 2 % 2).toNat ≤ 64 := hV 10 _
  unfold v_meant at h
  repeat' split at h
  all_goals omega
theorem reaches_0 (hV : mV μ) {s i e p : Int} (h : v_reaches μ s i e p = 0) : e ≤ 65536 ∧ (μ 25 (mj s i) < e → v_received μ s + (e - μ 25 (mj s i)) ≤ 65536) ∧ (p = 1 → μ 25 (mj s i) ≤ e) := by
  have r1 : 0 ≤ μ 11 s.toNat ∧ μ 11 s.toNat ≤ 65536 := hV 11 _
  have r2 : 0 ≤ μ 6 (mg s i).toNat ∧ μ 6 (mg s i).toNat ≤ 65536 := hV 6 _
  have r3 : 0 ≤ μ 30 (mj s i) ∧ μ 30 (mj s i) ≤ 65536 := hV 30 _
  unfold v_reaches at h
  repeat' split at h
  all_goals (refine ⟨?_, ?_, ?_⟩ <;> omega)
end MR11
