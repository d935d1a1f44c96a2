section MR8
variable {L : Launch} {G : mmG} {A : Nat → Nat} {ax : Nat → Option Nat} {h0 : mmH} {μ : Nat → Nat → Int}
def v_fillsStream_172 (μ : Nat → Nat → Int) (s i r : Int) : Nat → Int → Int → Int → Int → (Nat → Nat → Int) → Int
  | 0, _, _, _, _, _ => 0
  | d + 1, j, n, a, w, ν => (if n ≤ j then (if (a + n) = w then (if (ν 19 (mj s i)) = 0 then 1 else (if (ν 20 (mj s i)) = 3 then 1 else 1)) else 1) else (v_fillsStream_172 μ s i r d (j + 1) n a w (u2 (u2 ν 50 j.toNat (ν 38 (v_placeOf ν s i (a + j)).toNat)) 39 (v_placeOf ν s i (a + j)).toNat 1)))
def s_fillsStream_172 (μ : Nat → Nat → Int) (s i r : Int) : Nat → Int → Int → Int → Int → (Nat → Nat → Int) → (Nat → Nat → Int)
  | 0, _, _, _, _, ν => ν
  | d + 1, j, n, a, w, ν => (if n ≤ j then (if (a + n) = w then (if (ν 19 (mj s i)) = 0 then ν else (if (ν 20 (mj s i)) = 3 then (u2 ν 48 0 1) else (u2 (u2 ν 48 0 1) 20 (mj s i) 1))) else ν) else (s_fillsStream_172 μ s i r d (j + 1) n a w (u2 (u2 ν 50 j.toNat (ν 38 (v_placeOf ν s i (a + j)).toNat)) 39 (v_placeOf ν s i (a + j)).toNat 1)))
def v_fillsStream_115 (μ : Nat → Nat → Int) (s i r : Int) : Nat → Int → Int → Int → Int → Int → Int → (Nat → Nat → Int) → Int
  | 0, _, _, _, _, _, _, _ => 0
  | d + 1, m, n, a, t, q, w, ν => (if m = 0 then (if n = 0 then 0 else (v_fillsStream_172 μ s i r 1201 0 n a w (u2 ν 49 0 n))) else (if q ≤ n then (v_fillsStream_115 μ s i r d 0 n a t q w ν) else (if w ≤ (a + n) then (v_fillsStream_115 μ s i r d 0 n a t q w ν) else (if (ν 39 (v_placeOf ν s i (a + n)).toNat) = t then (if r < (v_bytes (u2 ν 49 0 (n + 1))) then (v_fillsStream_115 μ s i r d 0 n a t q w (u2 ν 49 0 (n + 1))) else (v_fillsStream_115 μ s i r d 1 (n + 1) a t q w (u2 ν 49 0 (n + 1)))) else (v_fillsStream_115 μ s i r d 0 n a t q w ν)))))
def s_fillsStream_115 (μ : Nat → Nat → Int) (s i r : Int) : Nat → Int → Int → Int → Int → Int → Int → (Nat → Nat → Int) → (Nat → Nat → Int)
  | 0, _, _, _, _, _, _, ν => ν
  | d + 1, m, n, a, t, q, w, ν => (if m = 0 then (if n = 0 then (u2 ν 49 0 n) else (s_fillsStream_172 μ s i r 1201 0 n a w (u2 ν 49 0 n))) else (if q ≤ n then (s_fillsStream_115 μ s i r d 0 n a t q w ν) else (if w ≤ (a + n) then (s_fillsStream_115 μ s i r d 0 n a t q w ν) else (if (ν 39 (v_placeOf ν s i (a + n)).toNat) = t then (if r < (v_bytes (u2 ν 49 0 (n + 1))) then (s_fillsStream_115 μ s i r d 0 n a t q w (u2 ν 49 0 (n + 1))) else (s_fillsStream_115 μ s i r d 1 (n + 1) a t q w (u2 ν 49 0 (n + 1)))) else (s_fillsStream_115 μ s i r d 0 n a t q w ν)))))
def v_fillsStream (μ : Nat → Nat → Int) (s i r : Int) : Int := (if ((0 ≤ i ∧ i < 256 ∧ μ 17 (mj s i) = 1) ∧ (i / 2 % 2 = 0 ∨ i % 2 = s)) ∧ mSend μ s i < 2 then (if (v_firstIn μ s i 2) < 0 then (if 0 ≤ (v_firstIn μ s i 2) then (if (μ 19 (mj s i)) = 0 then (if 0 ≤ (v_firstIn μ s i 2) then (v_fillsStream_115 μ s i r 1202 1 0 (v_firstIn μ s i 2) 0 65536 (mCnt μ s i (-1) (mTot μ s)) (u2 (u2 (u2 (u2 (u2 μ 49 0 0) 45 0 8) 46 0 i) 47 0 (v_firstIn μ s i 2)) 48 0 0)) else 0) else (if (μ 20 (mj s i)) = 0 then (if 0 ≤ (v_firstIn μ s i 2) then (v_fillsStream_115 μ s i r 1202 1 0 (v_firstIn μ s i 2) 0 65536 (mCnt μ s i (-1) (mTot μ s)) (u2 (u2 (u2 (u2 (u2 μ 49 0 0) 45 0 8) 46 0 i) 47 0 (v_firstIn μ s i 2)) 48 0 0)) else (v_endAlone (u2 (u2 (u2 (u2 (u2 μ 49 0 0) 45 0 8) 46 0 i) 47 0 (mCnt μ s i (-1) (mTot μ s))) 48 0 0) s i r)) else (if (μ 20 (mj s i)) = 2 then (if 0 ≤ (v_firstIn μ s i 2) then (v_fillsStream_115 μ s i r 1202 1 0 (v_firstIn μ s i 2) 0 65536 (mCnt μ s i (-1) (mTot μ s)) (u2 (u2 (u2 (u2 (u2 μ 49 0 0) 45 0 8) 46 0 i) 47 0 (v_firstIn μ s i 2)) 48 0 0)) else (v_endAlone (u2 (u2 (u2 (u2 (u2 μ 49 0 0) 45 0 8) 46 0 i) 47 0 (mCnt μ s i (-1) (mTot μ s))) 48 0 0) s i r)) else (if 0 ≤ (v_firstIn μ s i 2) then (v_fillsStream_115 μ s i r 1202 1 0 (v_firstIn μ s i 2) 0 65536 (mCnt μ s i (-1) (mTot μ s)) (u2 (u2 (u2 (u2 (u2 μ 49 0 0) 45 0 8) 46 0 i) 47 0 (v_firstIn μ s i 2)) 48 0 0)) else 0)))) else (if (μ 19 (mj s i)) = 0 then (if 0 ≤ (v_firstIn μ s i 0) then (if (v_allowed μ s i) = 0 then 0 else (v_fillsStream_115 μ s i r 1202 1 0 (v_firstIn μ s i 0) 0 (v_allowed μ s i) (mCnt μ s i (-1) (mTot μ s)) (u2 (u2 (u2 (u2 (u2 μ 49 0 0) 45 0 8) 46 0 i) 47 0 (v_firstIn μ s i 0)) 48 0 0))) else 0) else (if (μ 20 (mj s i)) = 0 then (if 0 ≤ (v_firstIn μ s i 0) then (if (v_allowed μ s i) = 0 then 0 else (v_fillsStream_115 μ s i r 1202 1 0 (v_firstIn μ s i 0) 0 (v_allowed μ s i) (mCnt μ s i (-1) (mTot μ s)) (u2 (u2 (u2 (u2 (u2 μ 49 0 0) 45 0 8) 46 0 i) 47 0 (v_firstIn μ s i 0)) 48 0 0))) else (v_endAlone (u2 (u2 (u2 (u2 (u2 μ 49 0 0) 45 0 8) 46 0 i) 47 0 (mCnt μ s i (-1) (mTot μ s))) 48 0 0) s i r)) else (if (μ 20 (mj s i)) = 2 then (if 0 ≤ (v_firstIn μ s i 0) then (if (v_allowed μ s i) = 0 then 0 else (v_fillsStream_115 μ s i r 1202 1 0 (v_firstIn μ s i 0) 0 (v_allowed μ s i) (mCnt μ s i (-1) (mTot μ s)) (u2 (u2 (u2 (u2 (u2 μ 49 0 0) 45 0 8) 46 0 i) 47 0 (v_firstIn μ s i 0)) 48 0 0))) else (v_endAlone (u2 (u2 (u2 (u2 (u2 μ 49 0 0) 45 0 8) 46 0 i) 47 0 (mCnt μ s i (-1) (mTot μ s))) 48 0 0) s i r)) else (if 0 ≤ (v_firstIn μ s i 0) then (if (v_allowed μ s i) = 0 then 0 else (v_fillsStream_115 μ s i r 1202 1 0 (v_firstIn μ s i 0) 0 (v_allowed μ s i) (mCnt μ s i (-1) (mTot μ s)) (u2 (u2 (u2 (u2 (u2 μ 49 0 0) 45 0 8) 46 0 i) 47 0 (v_firstIn μ s i 0)) 48 0 0))) else 0))))) else (if 0 ≤ (v_firstIn μ s i 2) then (if (μ 19 (mj s i)) = 0 then (if 0 ≤ (v_firstIn μ s i 2) then (v_fillsStream_115 μ s i r 1202 1 0 (v_firstIn μ s i 2) 2 65536 (mCnt μ s i (-1) (mTot μ s)) (u2 (u2 (u2 (u2 (u2 μ 49 0 0) 45 0 8) 46 0 i) 47 0 (v_firstIn μ s i 2)) 48 0 0)) else 0) else (if (μ 20 (mj s i)) = 0 then (if 0 ≤ (v_firstIn μ s i 2) then (v_fillsStream_115 μ s i r 1202 1 0 (v_firstIn μ s i 2) 2 65536 (mCnt μ s i (-1) (mTot μ s)) (u2 (u2 (u2 (u2 (u2 μ 49 0 0) 45 0 8) 46 0 i) 47 0 (v_firstIn μ s i 2)) 48 0 0)) else (v_endAlone (u2 (u2 (u2 (u2 (u2 μ 49 0 0) 45 0 8) 46 0 i) 47 0 (mCnt μ s i (-1) (mTot μ s))) 48 0 0) s i r)) else (if (μ 20 (mj s i)) = 2 then (if 0 ≤ (v_firstIn μ s i 2) then (v_fillsStream_115 μ s i r 1202 1 0 (v_firstIn μ s i 2) 2 65536 (mCnt μ s i (-1) (mTot μ s)) (u2 (u2 (u2 (u2 (u2 μ 49 0 0) 45 0 8) 46 0 i) 47 0 (v_firstIn μ s i 2)) 48 0 0)) else (v_endAlone (u2 (u2 (u2 (u2 (u2 μ 49 0 0) 45 0 8) 46 0 i) 47 0 (mCnt μ s i (-1) (mTot μ s))) 48 0 0) s i r)) else (if 0 ≤ (v_firstIn μ s i 2) then (v_fillsStream_115 μ s i r 1202 1 0 (v_firstIn μ s i 2) 2 65536 (mCnt μ s i (-1) (mTot μ s)) (u2 (u2 (u2 (u2 (u2 μ 49 0 0) 45 0 8) 46 0 i) 47 0 (v_firstIn μ s i 2)) 48 0 0)) else 0)))) else (if (μ 19 (mj s i)) = 0 then (if 0 ≤ (v_firstIn μ s i 0) then (if (v_allowed μ s i) = 0 then 0 else (v_fillsStream_115 μ s i r 1202 1 0 (v_firstIn μ s i 0) 2 (v_allowed μ s i) (mCnt μ s i (-1) (mTot μ s)) (u2 (u2 (u2 (u2 (u2 μ 49 0 0) 45 0 8) 46 0 i) 47 0 (v_firstIn μ s i 0)) 48 0 0))) else 0) else (if (μ 20 (mj s i)) = 0 then (if 0 ≤ (v_firstIn μ s i 0) then (if (v_allowed μ s i) = 0 then 0 else (v_fillsStream_115 μ s i r 1202 1 0 (v_firstIn μ s i 0) 2 (v_allowed μ s i) (mCnt μ s i (-1) (mTot μ s)) (u2 (u2 (u2 (u2 (u2 μ 49 0 0) 45 0 8) 46 0 i) 47 0 (v_firstIn μ s i 0)) 48 0 0))) else (v_endAlone (u2 (u2 (u2 (u2 (u2 μ 49 0 0) 45 0 8) 46 0 i) 47 0 (mCnt μ s i (-1) (mTot μ s))) 48 0 0) s i r)) else (if (μ 20 (mj s i)) = 2 then (if 0 ≤ (v_firstIn μ s i 0) then (if (v_allowed μ s i) = 0 then 0 else (v_fillsStream_115 μ s i r 1202 1 0 (v_firstIn μ s i 0) 2 (v_allowed μ s i) (mCnt μ s i (-1) (mTot μ s)) (u2 (u2 (u2 (u2 (u2 μ 49 0 0) 45 0 8) 46 0 i) 47 0 (v_firstIn μ s i 0)) 48 0 0))) else (v_endAlone (u2 (u2 (u2 (u2 (u2 μ 49 0 0) 45 0 8) 46 0 i) 47 0 (mCnt μ s i (-1) (mTot μ s))) 48 0 0) s i r)) else (if 0 ≤ (v_firstIn μ s i 0) then (if (v_allowed μ s i) = 0 then 0 else (v_fillsStream_115 μ s i r 1202 1 0 (v_firstIn μ s i 0) 2 (v_allowed μ s i) (mCnt μ s i (-1) (mTot μ s)) (u2 (u2 (u2 (u2 (u2 μ 49 0 0) 45 0 8) 46 0 i) 47 0 (v_firstIn μ s i 0)) 48 0 0))) else 0)))))) else 0)
def s_fillsStream (μ : Nat → Nat → Int) (s i r : Int) : Nat → Nat → Int := (if ((0 ≤ i ∧ i < 256 ∧ μ 17 (mj s i) = 1) ∧ (i / 2 % 2 = 0 ∨ i % 2 = s)) ∧ mSend μ s i < 2 then (if (v_firstIn μ s i 2) < 0 then (if 0 ≤ (v_firstIn μ s i 2) then (if (μ 19 (mj s i)) = 0 then (if 0 ≤ (v_firstIn μ s i 2) then (s_fillsStream_115 μ s i r 1202 1 0 (v_firstIn μ s i 2) 0 65536 (mCnt μ s i (-1) (mTot μ s)) (u2 (u2 (u2 (u2 (u2 μ 49 0 0) 45 0 8) 46 0 i) 47 0 (v_firstIn μ s i 2)) 48 0 0)) else μ) else (if (μ 20 (mj s i)) = 0 then (if 0 ≤ (v_firstIn μ s i 2) then (s_fillsStream_115 μ s i r 1202 1 0 (v_firstIn μ s i 2) 0 65536 (mCnt μ s i (-1) (mTot μ s)) (u2 (u2 (u2 (u2 (u2 μ 49 0 0) 45 0 8) 46 0 i) 47 0 (v_firstIn μ s i 2)) 48 0 0)) else (s_endAlone (u2 (u2 (u2 (u2 (u2 μ 49 0 0) 45 0 8) 46 0 i) 47 0 (mCnt μ s i (-1) (mTot μ s))) 48 0 0) s i r)) else (if (μ 20 (mj s i)) = 2 then (if 0 ≤ (v_firstIn μ s i 2) then (s_fillsStream_115 μ s i r 1202 1 0 (v_firstIn μ s i 2) 0 65536 (mCnt μ s i (-1) (mTot μ s)) (u2 (u2 (u2 (u2 (u2 μ 49 0 0) 45 0 8) 46 0 i) 47 0 (v_firstIn μ s i 2)) 48 0 0)) else (s_endAlone (u2 (u2 (u2 (u2 (u2 μ 49 0 0) 45 0 8) 46 0 i) 47 0 (mCnt μ s i (-1) (mTot μ s))) 48 0 0) s i r)) else (if 0 ≤ (v_firstIn μ s i 2) then (s_fillsStream_115 μ s i r 1202 1 0 (v_firstIn μ s i 2) 0 65536 (mCnt μ s i (-1) (mTot μ s)) (u2 (u2 (u2 (u2 (u2 μ 49 0 0) 45 0 8) 46 0 i) 47 0 (v_firstIn μ s i 2)) 48 0 0)) else μ)))) else (if (μ 19 (mj s i)) = 0 then (if 0 ≤ (v_firstIn μ s i 0) then (if (v_allowed μ s i) = 0 then μ else (s_fillsStream_115 μ s i r 1202 1 0 (v_firstIn μ s i 0) 0 (v_allowed μ s i) (mCnt μ s i (-1) (mTot μ s)) (u2 (u2 (u2 (u2 (u2 μ 49 0 0) 45 0 8) 46 0 i) 47 0 (v_firstIn μ s i 0)) 48 0 0))) else μ) else (if (μ 20 (mj s i)) = 0 then (if 0 ≤ (v_firstIn μ s i 0) then (if (v_allowed μ s i) = 0 then μ else (s_fillsStream_115 μ s i r 1202 1 0 (v_firstIn μ s i 0) 0 (v_allowed μ s i) (mCnt μ s i (-1) (mTot μ s)) (u2 (u2 (u2 (u2 (u2 μ 49 0 0) 45 0 8) 46 0 i) 47 0 (v_firstIn μ s i 0)) 48 0 0))) else (s_endAlone (u2 (u2 (u2 (u2 (u2 μ 49 0 0) 45 0 8) 46 0 i) 47 0 (mCnt μ s i (-1) (mTot μ s))) 48 0 0) s i r)) else (if (μ 20 (mj s i)) = 2 then (if 0 ≤ (v_firstIn μ s i 0) then (if (v_allowed μ s i) = 0 then μ else (s_fillsStream_115 μ s i r 1202 1 0 (v_firstIn μ s i 0) 0 (v_allowed μ s i) (mCnt μ s i (-1) (mTot μ s)) (u2 (u2 (u2 (u2 (u2 μ 49 0 0) 45 0 8) 46 0 i) 47 0 (v_firstIn μ s i 0)) 48 0 0))) else (s_endAlone (u2 (u2 (u2 (u2 (u2 μ 49 0 0) 45 0 8) 46 0 i) 47 0 (mCnt μ s i (-1) (mTot μ s))) 48 0 0) s i r)) else (if 0 ≤ (v_firstIn μ s i 0) then (if (v_allowed μ s i) = 0 then μ else (s_fillsStream_115 μ s i r 1202 1 0 (v_firstIn μ s i 0) 0 (v_allowed μ s i) (mCnt μ s i (-1) (mTot μ s)) (u2 (u2 (u2 (u2 (u2 μ 49 0 0) 45 0 8) 46 0 i) 47 0 (v_firstIn μ s i 0)) 48 0 0))) else μ))))) else (if 0 ≤ (v_firstIn μ s i 2) then (if (μ 19 (mj s i)) = 0 then (if 0 ≤ (v_firstIn μ s i 2) then (s_fillsStream_115 μ s i r 1202 1 0 (v_firstIn μ s i 2) 2 65536 (mCnt μ s i (-1) (mTot μ s)) (u2 (u2 (u2 (u2 (u2 μ 49 0 0) 45 0 8) 46 0 i) 47 0 (v_firstIn μ s i 2)) 48 0 0)) else μ) else (if (μ 20 (mj s i)) = 0 then (if 0 ≤ (v_firstIn μ s i 2) then (s_fillsStream_115 μ s i r 1202 1 0 (v_firstIn μ s i 2) 2 65536 (mCnt μ s i (-1) (mTot μ s)) (u2 (u2 (u2 (u2 (u2 μ 49 0 0) 45 0 8) 46 0 i) 47 0 (v_firstIn μ s i 2)) 48 0 0)) else (s_endAlone (u2 (u2 (u2 (u2 (u2 μ 49 0 0) 45 0 8) 46 0 i) 47 0 (mCnt μ s i (-1) (mTot μ s))) 48 0 0) s i r)) else (if (μ 20 (mj s i)) = 2 then (if 0 ≤ (v_firstIn μ s i 2) then (s_fillsStream_115 μ s i r 1202 1 0 (v_firstIn μ s i 2) 2 65536 (mCnt μ s i (-1) (mTot μ s)) (u2 (u2 (u2 (u2 (u2 μ 49 0 0) 45 0 8) 46 0 i) 47 0 (v_firstIn μ s i 2)) 48 0 0)) else (s_endAlone (u2 (u2 (u2 (u2 (u2 μ 49 0 0) 45 0 8) 46 0 i) 47 0 (mCnt μ s i (-1) (mTot μ s))) 48 0 0) s i r)) else (if 0 ≤ (v_firstIn μ s i 2) then (s_fillsStream_115 μ s i r 1202 1 0 (v_firstIn μ s i 2) 2 65536 (mCnt μ s i (-1) (mTot μ s)) (u2 (u2 (u2 (u2 (u2 μ 49 0 0) 45 0 8) 46 0 i) 47 0 (v_firstIn μ s i 2)) 48 0 0)) else μ)))) else (if (μ 19 (mj s i)) = 0 then (if 0 ≤ (v_firstIn μ s i 0) then (if (v_allowed μ s i) = 0 then μ else (s_fillsStream_115 μ s i r 1202 1 0 (v_firstIn μ s i 0) 2 (v_allowed μ s i) (mCnt μ s i (-1) (mTot μ s)) (u2 (u2 (u2 (u2 (u2 μ 49 0 0) 45 0 8) 46 0 i) 47 0 (v_firstIn μ s i 0)) 48 0 0))) else μ) else (if (μ 20 (mj s i)) = 0 then (if 0 ≤ (v_firstIn μ s i 0) then (if (v_allowed μ s i) = 0 then μ else (s_fillsStream_115 μ s i r 1202 1 0 (v_firstIn μ s i 0) 2 (v_allowed μ s i) (mCnt μ s i (-1) (mTot μ s)) (u2 (u2 (u2 (u2 (u2 μ 49 0 0) 45 0 8) 46 0 i) 47 0 (v_firstIn μ s i 0)) 48 0 0))) else (s_endAlone (u2 (u2 (u2 (u2 (u2 μ 49 0 0) 45 0 8) 46 0 i) 47 0 (mCnt μ s i (-1) (mTot μ s))) 48 0 0) s i r)) else (if (μ 20 (mj s i)) = 2 then (if 0 ≤ (v_firstIn μ s i 0) then (if (v_allowed μ s i) = 0 then μ else (s_fillsStream_115 μ s i r 1202 1 0 (v_firstIn μ s i 0) 2 (v_allowed μ s i) (mCnt μ s i (-1) (mTot μ s)) (u2 (u2 (u2 (u2 (u2 μ 49 0 0) 45 0 8) 46 0 i) 47 0 (v_firstIn μ s i 0)) 48 0 0))) else (s_endAlone (u2 (u2 (u2 (u2 (u2 μ 49 0 0) 45 0 8) 46 0 i) 47 0 (mCnt μ s i (-1) (mTot μ s))) 48 0 0) s i r)) else (if 0 ≤ (v_firstIn μ s i 0) then (if (v_allowed μ s i) = 0 then μ else (s_fillsStream_115 μ s i r 1202 1 0 (v_firstIn μ s i 0) 2 (v_allowed μ s i) (mCnt μ s i (-1) (mTot μ s)) (u2 (u2 (u2 (u2 (u2 μ 49 0 0) 45 0 8) 46 0 i) 47 0 (v_firstIn μ s i 0)) 48 0 0))) else μ)))))) else μ)
set_option maxRecDepth 100000 in
set_option maxHeartbeats 40000000 in
theorem m_fillsStream (hF : mm_F G) (htr : L.stackTraces = false) (hx : mx A ax) (hV : mV μ) {s i r : Int} (h1 : 0 ≤ s) (h2 : s ≤ 1) (h3 : 0 ≤ i) (h4 : i < 256) (h5 : 1 ≤ r) (h5a : r ≤ 1200) :
    mm_Met L G SX6_fillsStream [.ref (A 99), .int (iI s), .int (iI i), .int (iI r)] (hm G A ax h0 μ) 0 0 (mRetS (some (.int (iI (v_fillsStream μ s i r)))) (hm G A ax h0 (s_fillsStream μ s i r)) (mV (s_fillsStream μ s i r) ∧ (fun r m => r = 1 → m 49 0 ≤ 1200) (v_fillsStream μ s i r) (s_fillsStream μ s i r))) mm_no := by
  refine mi_meth MX6_fillsStream 400 hF htr okX6_fillsStream (av := [aR (A 99), aI s, aI i, aI r]) (by decide +kernel) (Nat.le_of_ble_eq_true rfl) cmX6_fillsStream (fun θ hc => ?_)
  have loop172 : ∀ (R : Int) (S : Nat → Nat → Int) (d : Nat) (j n a w : Int) (ν : Nat → Nat → Int) (hV : mV ν), (0 ≤ j ∧ j ≤ n) → (0 ≤ n ∧ n ≤ 1200) → (0 ≤ a ∧ a + n ≤ w ∧ w ≤ 65536) → (ν 49 0 ≤ 1200) → (w ≤ mRem (ν 37) i (65536 * s).toNat (ν 36 s.toNat).toNat) → (n - j) < (d : Int) → v_fillsStream_172 μ s i r d j n a w ν = R → s_fillsStream_172 μ s i r d j n a w ν = S → mi_W L G MX6_fillsStream 0 0 (mRetS (some (.int (iI R))) (hm G A ax h0 S) (mV S ∧ (fun r m => r = 1 → m 49 0 ≤ 1200) R S)) mm_no θ 172 [(14, aI j), (12, aI n), (5, aI a), (9, aI w), (0, aR (A 99)), (1, aI s), (2, aI i), (3, aI r), (4, aI ((256 * s) + i))] [] (hm G A ax h0 ν) 0 0 := by
    intro R S d
    induction d with
    | zero =>
      intro j n a w ν hV hm1 hm2 hm3 hm6 hw hms hvr hsr
      omega
    | succ d ih =>
      intro j n a w ν hV hm1 hm2 hm3 hm6 hw hms hvr hsr
      refine mi_sound hc okX6_fillsStream 400 _ _ _ _ _ _ ?_
      refine ⟨by omega, fun (e1 : n ≤ j) => ?_, fun (e1 : ¬ (n ≤ j)) => ?_⟩
      · refine ⟨by omega, fun (e2 : ¬ ((a + n) = w)) => ?_, fun (e2 : (a + n) = w) => ?_⟩
        · exact ⟨(Or.inr rfl), mRetIP (P := fun r m => r = 1 → m 49 0 ≤ 1200) (hvr.symm.trans (by rw [v_fillsStream_172]; rw [if_pos e1, if_neg e2])) (hsr.symm.trans (by rw [s_fillsStream_172]; rw [if_pos e1, if_neg e2])) hV (fun (q : 1 = 1) => by first | assumption | omega), Nat.le_refl _, Nat.le_refl _⟩
        · refine ⟨_, hm_oi hx, aR (A 19), rfl, ?_⟩
          refine ⟨512, _, (ν 19 (mj s i)), hm_a hx 19 rfl, by omega, rfl, ?_⟩
          have t3 := (show 0 ≤ ν 19 (mj s i) ∧ ν 19 (mj s i) ≤ 1 from hV.g 19 (mj s i))
          refine ⟨by omega, fun (e4 : (ν 19 (mj s i)) = 0) => ?_, fun (e4 : ¬ ((ν 19 (mj s i)) = 0)) => ?_⟩
          · exact ⟨(Or.inr rfl), mRetIP (P := fun r m => r = 1 → m 49 0 ≤ 1200) (hvr.symm.trans (by rw [v_fillsStream_172]; rw [if_pos e1, if_pos e2, if_pos e4])) (hsr.symm.trans (by rw [s_fillsStream_172]; rw [if_pos e1, if_pos e2, if_pos e4])) hV (fun (q : 1 = 1) => by first | assumption | omega), Nat.le_refl _, Nat.le_refl _⟩
          · refine ⟨1, rfl, ?_⟩
            refine ⟨_, hm_oi hx, trivial, _, hm_putO hx (f := 48) (v := 1) rfl rfl, ?_⟩
            have hV5 := hV.u (f := 48) (k := 0) (v := 1) (show 0 ≤ 1 ∧ 1 ≤ 4611686018427387903 from by omega)
            refine ⟨_, hm_oi hx, aR (A 20), rfl, ?_⟩
            refine ⟨512, _, (ν 20 (mj s i)), hm_a hx 20 rfl, by omega, (u2_f (by decide)), ?_⟩
            have t6 := (show 0 ≤ ν 20 (mj s i) ∧ ν 20 (mj s i) ≤ 3 from hV.g 20 (mj s i))
            refine ⟨by omega, fun (e7 : (ν 20 (mj s i)) = 3) => ?_, fun (e7 : ¬ ((ν 20 (mj s i)) = 3)) => ?_⟩
            · exact ⟨(Or.inr rfl), mRetIP (P := fun r m => r = 1 → m 49 0 ≤ 1200) (hvr.symm.trans (by rw [v_fillsStream_172]; rw [if_pos e1, if_pos e2, if_neg e4, if_pos e7])) (hsr.symm.trans (by rw [s_fillsStream_172]; rw [if_pos e1, if_pos e2, if_neg e4, if_pos e7])) hV5 (fun (q : 1 = 1) => by first | assumption | omega), Nat.le_refl _, Nat.le_refl _⟩
            · refine ⟨_, hm_oi hx, aR (A 20), rfl, ?_⟩
              refine ⟨512, _, _, hm_a hx 20 rfl, by omega, trivial, hm_pi hx (i := (mj s i)) (v := 1) rfl rfl rfl rfl, ?_⟩
              have hV8 := hV5.u (f := 20) (k := (mj s i)) (v := 1) (show 0 ≤ 1 ∧ 1 ≤ 3 from by omega)
              exact ⟨(Or.inr rfl), mRetIP (P := fun r m => r = 1 → m 49 0 ≤ 1200) (hvr.symm.trans (by rw [v_fillsStream_172]; rw [if_pos e1, if_pos e2, if_neg e4, if_neg e7])) (hsr.symm.trans (by rw [s_fillsStream_172]; rw [if_pos e1, if_pos e2, if_neg e4, if_neg e7])) hV8 (fun (q : 1 = 1) => by first | assumption | omega), Nat.le_refl _, Nat.le_refl _⟩
      · refine ⟨⟨_, hm_oi hx⟩, _, _, _, _, (m_placeOf hF htr hx hV (s := s) (i := i) (o := (a + j)) (by omega) (by omega) (by omega) (by omega) (by omega) (by omega)), Nat.le_refl _, Nat.le_refl _, mki_ (r := some (aI (v_placeOf ν s i (a + j)))) ?_, fun _ _ q => q.elim⟩
        have t9 := placeOf_b hV (s := s) (i := i) (o := (a + j)) (by omega) (by omega) (by omega) (by omega)
        refine ⟨_, hm_oi hx, aR (A 50), rfl, ?_⟩
        refine ⟨_, hm_oi hx, aR (A 38), rfl, ?_⟩
        refine ⟨131072, _, (ν 38 (v_placeOf ν s i (a + j)).toNat), hm_a hx 38 rfl, by omega, rfl, ?_⟩
        have t10 := (show -128 ≤ ν 38 (v_placeOf ν s i (a + j)).toNat ∧ ν 38 (v_placeOf ν s i (a + j)).toNat ≤ 127 from hV.g 38 (v_placeOf ν s i (a + j)).toNat)
        refine ⟨2048, _, _, hm_a hx 50 rfl, by omega, (show -128 ≤ (ν 38 (v_placeOf ν s i (a + j)).toNat) ∧ (ν 38 (v_placeOf ν s i (a + j)).toNat) < 128 from by omega), hm_pi hx (i := j.toNat) (v := (ν 38 (v_placeOf ν s i (a + j)).toNat)) rfl rfl rfl rfl, ?_⟩
        have hV11 := hV.u (f := 50) (k := j.toNat) (v := (ν 38 (v_placeOf ν s i (a + j)).toNat)) (show -128 ≤ (ν 38 (v_placeOf ν s i (a + j)).toNat) ∧ (ν 38 (v_placeOf ν s i (a + j)).toNat) ≤ 127 from by omega)
        refine ⟨_, hm_oi hx, aR (A 39), rfl, ?_⟩
        refine ⟨131072, _, _, hm_a hx 39 rfl, by omega, (show -128 ≤ 1 ∧ 1 < 128 from by omega), hm_pi hx (i := (v_placeOf ν s i (a + j)).toNat) (v := 1) rfl rfl rfl rfl, ?_⟩
        have hV12 := hV11.u (f := 39) (k := (v_placeOf ν s i (a + j)).toNat) (v := 1) (show 0 ≤ 1 ∧ 1 ≤ 3 from by omega)
        have t13 := (show 0 ≤ ν 49 0 ∧ ν 49 0 ≤ 2048 from hV.g 49 0)
        exact mi_Wsub (List.forall_mem_cons.mpr ⟨(.head _), List.forall_mem_cons.mpr ⟨(.tail _ (.tail _ (.head _))), List.forall_mem_cons.mpr ⟨(.tail _ (.tail _ (.tail _ (.head _)))), List.forall_mem_cons.mpr ⟨(.tail _ (.tail _ (.tail _ (.tail _ (.head _))))), List.forall_mem_cons.mpr ⟨(.tail _ (.tail _ (.tail _ (.tail _ (.tail _ (.head _)))))), List.forall_mem_cons.mpr ⟨(.tail _ (.tail _ (.tail _ (.tail _ (.tail _ (.tail _ (.head _))))))), List.forall_mem_cons.mpr ⟨(.tail _ (.tail _ (.tail _ (.tail _ (.tail _ (.tail _ (.tail _ (.head _)))))))), List.forall_mem_cons.mpr ⟨(.tail _ (.tail _ (.tail _ (.tail _ (.tail _ (.tail _ (.tail _ (.tail _ (.head _))))))))), List.forall_mem_cons.mpr ⟨(.tail _ (.tail _ (.tail _ (.tail _ (.tail _ (.tail _ (.tail _ (.tail _ (.tail _ (.head _)))))))))), fun _ h => absurd h List.not_mem_nil⟩⟩⟩⟩⟩⟩⟩⟩⟩) (ih (j + 1) n a w (u2 (u2 ν 50 j.toNat (ν 38 (v_placeOf ν s i (a + j)).toNat)) 39 (v_placeOf ν s i (a + j)).toNat 1) hV12 (show 0 ≤ (j + 1) ∧ (j + 1) ≤ n from by omega) (show 0 ≤ n ∧ n ≤ 1200 from by omega) (show 0 ≤ a ∧ a + n ≤ w ∧ w ≤ 65536 from by omega) (show (ν 49 0) ≤ 1200 from by omega) (show w ≤ mRem (ν 37) i (65536 * s).toNat (ν 36 s.toNat).toNat from by omega) (show (n - (j + 1)) < (d : Int) from by omega) (Eq.trans (by rw [v_fillsStream_172]; rw [if_neg e1]) hvr) (Eq.trans (by rw [s_fillsStream_172]; rw [if_neg e1]) hsr))
  have loop115 : ∀ (R : Int) (S : Nat → Nat → Int) (d : Nat) (m n a t q w : Int) (ν : Nat → Nat → Int) (hV : mV ν), (m = 0 ∨ m = 1) → (0 ≤ n ∧ n ≤ 1200) → (0 ≤ a ∧ a + n ≤ w ∧ w ≤ 65536) → (0 ≤ t ∧ t ≤ 2) → (0 ≤ q ∧ q ≤ 4611686018427387903) → (ν 45 0 = 8) → (w ≤ mRem (ν 37) i (65536 * s).toNat (ν 36 s.toNat).toNat) → (1200 - n + m) < (d : Int) → v_fillsStream_115 μ s i r d m n a t q w ν = R → s_fillsStream_115 μ s i r d m n a t q w ν = S → mi_W L G MX6_fillsStream 0 0 (mRetS (some (.int (iI R))) (hm G A ax h0 S) (mV S ∧ (fun r m => r = 1 → m 49 0 ≤ 1200) R S)) mm_no θ 115 [(13, aI m), (12, aI n), (5, aI a), (6, aI t), (7, aL q), (9, aI w), (0, aR (A 99)), (1, aI s), (2, aI i), (3, aI r), (4, aI ((256 * s) + i))] [] (hm G A ax h0 ν) 0 0 := by
    intro R S d
    induction d with
    | zero =>
      intro m n a t q w ν hV hm1 hm2 hm3 hm4 hm5 hm6 hw hms hvr hsr
      omega
    | succ d ih =>
      intro m n a t q w ν hV hm1 hm2 hm3 hm4 hm5 hm6 hw hms hvr hsr
      refine mi_sound hc okX6_fillsStream 400 _ _ _ _ _ _ ?_
      refine ⟨by omega, fun (e14 : m = 0) => ?_, fun (e14 : ¬ (m = 0)) => ?_⟩
      · refine ⟨_, hm_oi hx, trivial, _, hm_putO hx (f := 49) (v := n) rfl rfl, ?_⟩
        have hV15 := hV.u (f := 49) (k := 0) (v := n) (show 0 ≤ n ∧ n ≤ 2048 from by omega)
        refine ⟨by omega, fun (e16 : ¬ (n = 0)) => ?_, fun (e16 : n = 0) => ?_⟩
        · exact mi_Wsub (List.forall_mem_cons.mpr ⟨(.head _), List.forall_mem_cons.mpr ⟨(.tail _ (.tail _ (.head _))), List.forall_mem_cons.mpr ⟨(.tail _ (.tail _ (.tail _ (.head _)))), List.forall_mem_cons.mpr ⟨(.tail _ (.tail _ (.tail _ (.tail _ (.tail _ (.tail _ (.head _))))))), List.forall_mem_cons.mpr ⟨(.tail _ (.tail _ (.tail _ (.tail _ (.tail _ (.tail _ (.tail _ (.head _)))))))), List.forall_mem_cons.mpr ⟨(.tail _ (.tail _ (.tail _ (.tail _ (.tail _ (.tail _ (.tail _ (.tail _ (.head _))))))))), List.forall_mem_cons.mpr ⟨(.tail _ (.tail _ (.tail _ (.tail _ (.tail _ (.tail _ (.tail _ (.tail _ (.tail _ (.head _)))))))))), List.forall_mem_cons.mpr ⟨(.tail _ (.tail _ (.tail _ (.tail _ (.tail _ (.tail _ (.tail _ (.tail _ (.tail _ (.tail _ (.head _))))))))))), List.forall_mem_cons.mpr ⟨(.tail _ (.tail _ (.tail _ (.tail _ (.tail _ (.tail _ (.tail _ (.tail _ (.tail _ (.tail _ (.tail _ (.head _)))))))))))), fun _ h => absurd h List.not_mem_nil⟩⟩⟩⟩⟩⟩⟩⟩⟩) (loop172 _ _ 1201 0 n a w (u2 ν 49 0 n) hV15 (show 0 ≤ 0 ∧ 0 ≤ n from by omega) (show 0 ≤ n ∧ n ≤ 1200 from by omega) (show 0 ≤ a ∧ a + n ≤ w ∧ w ≤ 65536 from by omega) (show n ≤ 1200 from by omega) (show w ≤ mRem (ν 37) i (65536 * s).toNat (ν 36 s.toNat).toNat from by omega) (show (n - 0) < (1201 : Int) from by omega) (Eq.trans (by rw [v_fillsStream_115]; rw [if_pos e14, if_neg e16]) hvr) (Eq.trans (by rw [s_fillsStream_115]; rw [if_pos e14, if_neg e16]) hsr))
        · exact ⟨(Or.inl rfl), mRetIP (P := fun r m => r = 1 → m 49 0 ≤ 1200) (hvr.symm.trans (by rw [v_fillsStream_115]; rw [if_pos e14, if_pos e16])) (hsr.symm.trans (by rw [s_fillsStream_115]; rw [if_pos e14, if_pos e16])) hV15 (fun (q : 0 = 1) => show n ≤ 1200 from by omega), Nat.le_refl _, Nat.le_refl _⟩
      · refine ⟨by omega, ?_⟩
        refine ⟨by omega, fun (e17 : q ≤ n) => ?_, fun (e17 : ¬ (q ≤ n)) => ?_⟩
        · refine ⟨by omega, fun (e : ¬ ((0 : Int) = 0)) => (e (by decide)).elim, fun _ => ?_⟩
          have t18 := (show 0 ≤ ν 45 0 ∧ ν 45 0 ≤ 23 from hV.g 45 0)
          exact mi_Wsub (List.forall_mem_cons.mpr ⟨(.head _), List.forall_mem_cons.mpr ⟨(.tail _ (.head _)), List.forall_mem_cons.mpr ⟨(.tail _ (.tail _ (.head _))), List.forall_mem_cons.mpr ⟨(.tail _ (.tail _ (.tail _ (.head _)))), List.forall_mem_cons.mpr ⟨(.tail _ (.tail _ (.tail _ (.tail _ (.head _))))), List.forall_mem_cons.mpr ⟨(.tail _ (.tail _ (.tail _ (.tail _ (.tail _ (.head _)))))), List.forall_mem_cons.mpr ⟨(.tail _ (.tail _ (.tail _ (.tail _ (.tail _ (.tail _ (.head _))))))), List.forall_mem_cons.mpr ⟨(.tail _ (.tail _ (.tail _ (.tail _ (.tail _ (.tail _ (.tail _ (.head _)))))))), List.forall_mem_cons.mpr ⟨(.tail _ (.tail _ (.tail _ (.tail _ (.tail _ (.tail _ (.tail _ (.tail _ (.head _))))))))), List.forall_mem_cons.mpr ⟨(.tail _ (.tail _ (.tail _ (.tail _ (.tail _ (.tail _ (.tail _ (.tail _ (.tail _ (.head _)))))))))), List.forall_mem_cons.mpr ⟨(.tail _ (.tail _ (.tail _ (.tail _ (.tail _ (.tail _ (.tail _ (.tail _ (.tail _ (.tail _ (.head _))))))))))), fun _ h => absurd h List.not_mem_nil⟩⟩⟩⟩⟩⟩⟩⟩⟩⟩⟩) (ih 0 n a t q w ν hV (show 0 = 0 ∨ 0 = 1 from by omega) (show 0 ≤ n ∧ n ≤ 1200 from by omega) (show 0 ≤ a ∧ a + n ≤ w ∧ w ≤ 65536 from by omega) (show 0 ≤ t ∧ t ≤ 2 from by omega) (show 0 ≤ q ∧ q ≤ 4611686018427387903 from by omega) (show (ν 45 0) = 8 from by omega) (show w ≤ mRem (ν 37) i (65536 * s).toNat (ν 36 s.toNat).toNat from by omega) (show (1200 - n + 0) < (d : Int) from by omega) (Eq.trans (by rw [v_fillsStream_115]; rw [if_neg e14, if_pos e17]) hvr) (Eq.trans (by rw [s_fillsStream_115]; rw [if_neg e14, if_pos e17]) hsr))
        · refine ⟨by omega, fun (e19 : w ≤ (a + n)) => ?_, fun (e19 : ¬ (w ≤ (a + n))) => ?_⟩
          · refine ⟨by omega, fun (e : ¬ ((0 : Int) = 0)) => (e (by decide)).elim, fun _ => ?_⟩
            have t20 := (show 0 ≤ ν 45 0 ∧ ν 45 0 ≤ 23 from hV.g 45 0)
            exact mi_Wsub (List.forall_mem_cons.mpr ⟨(.head _), List.forall_mem_cons.mpr ⟨(.tail _ (.head _)), List.forall_mem_cons.mpr ⟨(.tail _ (.tail _ (.head _))), List.forall_mem_cons.mpr ⟨(.tail _ (.tail _ (.tail _ (.head _)))), List.forall_mem_cons.mpr ⟨(.tail _ (.tail _ (.tail _ (.tail _ (.head _))))), List.forall_mem_cons.mpr ⟨(.tail _ (.tail _ (.tail _ (.tail _ (.tail _ (.head _)))))), List.forall_mem_cons.mpr ⟨(.tail _ (.tail _ (.tail _ (.tail _ (.tail _ (.tail _ (.head _))))))), List.forall_mem_cons.mpr ⟨(.tail _ (.tail _ (.tail _ (.tail _ (.tail _ (.tail _ (.tail _ (.head _)))))))), List.forall_mem_cons.mpr ⟨(.tail _ (.tail _ (.tail _ (.tail _ (.tail _ (.tail _ (.tail _ (.tail _ (.head _))))))))), List.forall_mem_cons.mpr ⟨(.tail _ (.tail _ (.tail _ (.tail _ (.tail _ (.tail _ (.tail _ (.tail _ (.tail _ (.head _)))))))))), List.forall_mem_cons.mpr ⟨(.tail _ (.tail _ (.tail _ (.tail _ (.tail _ (.tail _ (.tail _ (.tail _ (.tail _ (.tail _ (.head _))))))))))), fun _ h => absurd h List.not_mem_nil⟩⟩⟩⟩⟩⟩⟩⟩⟩⟩⟩) (ih 0 n a t q w ν hV (show 0 = 0 ∨ 0 = 1 from by omega) (show 0 ≤ n ∧ n ≤ 1200 from by omega) (show 0 ≤ a ∧ a + n ≤ w ∧ w ≤ 65536 from by omega) (show 0 ≤ t ∧ t ≤ 2 from by omega) (show 0 ≤ q ∧ q ≤ 4611686018427387903 from by omega) (show (ν 45 0) = 8 from by omega) (show w ≤ mRem (ν 37) i (65536 * s).toNat (ν 36 s.toNat).toNat from by omega) (show (1200 - n + 0) < (d : Int) from by omega) (Eq.trans (by rw [v_fillsStream_115]; rw [if_neg e14, if_neg e17, if_pos e19]) hvr) (Eq.trans (by rw [s_fillsStream_115]; rw [if_neg e14, if_neg e17, if_pos e19]) hsr))
          · refine ⟨_, hm_oi hx, aR (A 39), rfl, ?_⟩
            refine ⟨⟨_, hm_oi hx⟩, _, _, _, _, (m_placeOf hF htr hx hV (s := s) (i := i) (o := (a + n)) (by omega) (by omega) (by omega) (by omega) (by omega) (by omega)), Nat.le_refl _, Nat.le_refl _, mki_ (r := some (aI (v_placeOf ν s i (a + n)))) ?_, fun _ _ q => q.elim⟩
            have t21 := placeOf_b hV (s := s) (i := i) (o := (a + n)) (by omega) (by omega) (by omega) (by omega)
            refine ⟨131072, _, (ν 39 (v_placeOf ν s i (a + n)).toNat), hm_a hx 39 rfl, by omega, rfl, ?_⟩
            have t22 := (show 0 ≤ ν 39 (v_placeOf ν s i (a + n)).toNat ∧ ν 39 (v_placeOf ν s i (a + n)).toNat ≤ 3 from hV.g 39 (v_placeOf ν s i (a + n)).toNat)
            refine ⟨by omega, fun (e23 : ¬ ((ν 39 (v_placeOf ν s i (a + n)).toNat) = t)) => ?_, fun (e23 : (ν 39 (v_placeOf ν s i (a + n)).toNat) = t) => ?_⟩
            · refine ⟨by omega, fun (e : ¬ ((0 : Int) = 0)) => (e (by decide)).elim, fun _ => ?_⟩
              have t24 := (show 0 ≤ ν 45 0 ∧ ν 45 0 ≤ 23 from hV.g 45 0)
              exact mi_Wsub (List.forall_mem_cons.mpr ⟨(.head _), List.forall_mem_cons.mpr ⟨(.tail _ (.head _)), List.forall_mem_cons.mpr ⟨(.tail _ (.tail _ (.head _))), List.forall_mem_cons.mpr ⟨(.tail _ (.tail _ (.tail _ (.head _)))), List.forall_mem_cons.mpr ⟨(.tail _ (.tail _ (.tail _ (.tail _ (.head _))))), List.forall_mem_cons.mpr ⟨(.tail _ (.tail _ (.tail _ (.tail _ (.tail _ (.head _)))))), List.forall_mem_cons.mpr ⟨(.tail _ (.tail _ (.tail _ (.tail _ (.tail _ (.tail _ (.head _))))))), List.forall_mem_cons.mpr ⟨(.tail _ (.tail _ (.tail _ (.tail _ (.tail _ (.tail _ (.tail _ (.head _)))))))), List.forall_mem_cons.mpr ⟨(.tail _ (.tail _ (.tail _ (.tail _ (.tail _ (.tail _ (.tail _ (.tail _ (.head _))))))))), List.forall_mem_cons.mpr ⟨(.tail _ (.tail _ (.tail _ (.tail _ (.tail _ (.tail _ (.tail _ (.tail _ (.tail _ (.head _)))))))))), List.forall_mem_cons.mpr ⟨(.tail _ (.tail _ (.tail _ (.tail _ (.tail _ (.tail _ (.tail _ (.tail _ (.tail _ (.tail _ (.head _))))))))))), fun _ h => absurd h List.not_mem_nil⟩⟩⟩⟩⟩⟩⟩⟩⟩⟩⟩) (ih 0 n a t q w ν hV (show 0 = 0 ∨ 0 = 1 from by omega) (show 0 ≤ n ∧ n ≤ 1200 from by omega) (show 0 ≤ a ∧ a + n ≤ w ∧ w ≤ 65536 from by omega) (show 0 ≤ t ∧ t ≤ 2 from by omega) (show 0 ≤ q ∧ q ≤ 4611686018427387903 from by omega) (show (ν 45 0) = 8 from by omega) (show w ≤ mRem (ν 37) i (65536 * s).toNat (ν 36 s.toNat).toNat from by omega) (show (1200 - n + 0) < (d : Int) from by omega) (Eq.trans (by rw [v_fillsStream_115]; rw [if_neg e14, if_neg e17, if_neg e19, if_neg e23]) hvr) (Eq.trans (by rw [s_fillsStream_115]; rw [if_neg e14, if_neg e17, if_neg e19, if_neg e23]) hsr))
            · refine ⟨by omega, fun _ => ?_, fun (e : (1 : Int) = 0) => absurd e (by decide)⟩
              refine ⟨_, hm_oi hx, trivial, _, hm_putO hx (f := 49) (v := (n + 1)) rfl rfl, ?_⟩
              have hV25 := hV.u (f := 49) (k := 0) (v := (n + 1)) (show 0 ≤ (n + 1) ∧ (n + 1) ≤ 2048 from by omega)
              refine ⟨⟨_, hm_oi hx⟩, _, _, _, _, (m_bytes hF htr hx hV25), Nat.le_refl _, Nat.le_refl _, mki_ (r := some (aI (v_bytes (u2 ν 49 0 (n + 1))))) ?_, fun _ _ q => q.elim⟩
              have t26 := (show 1 ≤ v_bytes (u2 ν 49 0 (n + 1)) ∧ v_bytes (u2 ν 49 0 (n + 1)) ≤ 2100 ∧ ((ν 45 0) = 8 → (n + 1) + 2 ≤ v_bytes (u2 ν 49 0 (n + 1))) from bytes_b hV25)
              refine ⟨by omega, fun (e27 : r < (v_bytes (u2 ν 49 0 (n + 1)))) => ?_, fun (e27 : ¬ (r < (v_bytes (u2 ν 49 0 (n + 1))))) => ?_⟩
              · refine ⟨by omega, fun _ => ?_, fun (e : ¬ ((0 : Int) = 0)) => (e (by decide)).elim⟩
                have t28 := (show 0 ≤ ν 45 0 ∧ ν 45 0 ≤ 23 from hV.g 45 0)
                exact mi_Wsub (List.forall_mem_cons.mpr ⟨(.head _), List.forall_mem_cons.mpr ⟨(.tail _ (.head _)), List.forall_mem_cons.mpr ⟨(.tail _ (.tail _ (.head _))), List.forall_mem_cons.mpr ⟨(.tail _ (.tail _ (.tail _ (.head _)))), List.forall_mem_cons.mpr ⟨(.tail _ (.tail _ (.tail _ (.tail _ (.head _))))), List.forall_mem_cons.mpr ⟨(.tail _ (.tail _ (.tail _ (.tail _ (.tail _ (.head _)))))), List.forall_mem_cons.mpr ⟨(.tail _ (.tail _ (.tail _ (.tail _ (.tail _ (.tail _ (.head _))))))), List.forall_mem_cons.mpr ⟨(.tail _ (.tail _ (.tail _ (.tail _ (.tail _ (.tail _ (.tail _ (.head _)))))))), List.forall_mem_cons.mpr ⟨(.tail _ (.tail _ (.tail _ (.tail _ (.tail _ (.tail _ (.tail _ (.tail _ (.head _))))))))), List.forall_mem_cons.mpr ⟨(.tail _ (.tail _ (.tail _ (.tail _ (.tail _ (.tail _ (.tail _ (.tail _ (.tail _ (.head _)))))))))), List.forall_mem_cons.mpr ⟨(.tail _ (.tail _ (.tail _ (.tail _ (.tail _ (.tail _ (.tail _ (.tail _ (.tail _ (.tail _ (.head _))))))))))), fun _ h => absurd h List.not_mem_nil⟩⟩⟩⟩⟩⟩⟩⟩⟩⟩⟩) (ih 0 n a t q w (u2 ν 49 0 (n + 1)) hV25 (show 0 = 0 ∨ 0 = 1 from by omega) (show 0 ≤ n ∧ n ≤ 1200 from by omega) (show 0 ≤ a ∧ a + n ≤ w ∧ w ≤ 65536 from by omega) (show 0 ≤ t ∧ t ≤ 2 from by omega) (show 0 ≤ q ∧ q ≤ 4611686018427387903 from by omega) (show (ν 45 0) = 8 from by omega) (show w ≤ mRem (ν 37) i (65536 * s).toNat (ν 36 s.toNat).toNat from by omega) (show (1200 - n + 0) < (d : Int) from by omega) (Eq.trans (by rw [v_fillsStream_115]; rw [if_neg e14, if_neg e17, if_neg e19, if_pos e23, if_pos e27]) hvr) (Eq.trans (by rw [s_fillsStream_115]; rw [if_neg e14, if_neg e17, if_neg e19, if_pos e23, if_pos e27]) hsr))
              · refine ⟨by omega, fun (e : (1 : Int) = 0) => absurd e (by decide), fun _ => ?_⟩
                have t29 := (show 0 ≤ ν 45 0 ∧ ν 45 0 ≤ 23 from hV.g 45 0)
                exact mi_Wsub (List.forall_mem_cons.mpr ⟨(.tail _ (.head _)), List.forall_mem_cons.mpr ⟨(.head _), List.forall_mem_cons.mpr ⟨(.tail _ (.tail _ (.head _))), List.forall_mem_cons.mpr ⟨(.tail _ (.tail _ (.tail _ (.head _)))), List.forall_mem_cons.mpr ⟨(.tail _ (.tail _ (.tail _ (.tail _ (.head _))))), List.forall_mem_cons.mpr ⟨(.tail _ (.tail _ (.tail _ (.tail _ (.tail _ (.head _)))))), List.forall_mem_cons.mpr ⟨(.tail _ (.tail _ (.tail _ (.tail _ (.tail _ (.tail _ (.head _))))))), List.forall_mem_cons.mpr ⟨(.tail _ (.tail _ (.tail _ (.tail _ (.tail _ (.tail _ (.tail _ (.head _)))))))), List.forall_mem_cons.mpr ⟨(.tail _ (.tail _ (.tail _ (.tail _ (.tail _ (.tail _ (.tail _ (.tail _ (.head _))))))))), List.forall_mem_cons.mpr ⟨(.tail _ (.tail _ (.tail _ (.tail _ (.tail _ (.tail _ (.tail _ (.tail _ (.tail _ (.head _)))))))))), List.forall_mem_cons.mpr ⟨(.tail _ (.tail _ (.tail _ (.tail _ (.tail _ (.tail _ (.tail _ (.tail _ (.tail _ (.tail _ (.head _))))))))))), fun _ h => absurd h List.not_mem_nil⟩⟩⟩⟩⟩⟩⟩⟩⟩⟩⟩) (ih 1 (n + 1) a t q w (u2 ν 49 0 (n + 1)) hV25 (show 1 = 0 ∨ 1 = 1 from by omega) (show 0 ≤ (n + 1) ∧ (n + 1) ≤ 1200 from by omega) (show 0 ≤ a ∧ a + (n + 1) ≤ w ∧ w ≤ 65536 from by omega) (show 0 ≤ t ∧ t ≤ 2 from by omega) (show 0 ≤ q ∧ q ≤ 4611686018427387903 from by omega) (show (ν 45 0) = 8 from by omega) (show w ≤ mRem (ν 37) i (65536 * s).toNat (ν 36 s.toNat).toNat from by omega) (show (1200 - (n + 1) + 1) < (d : Int) from by omega) (Eq.trans (by rw [v_fillsStream_115]; rw [if_neg e14, if_neg e17, if_neg e19, if_pos e23, if_neg e27]) hvr) (Eq.trans (by rw [s_fillsStream_115]; rw [if_neg e14, if_neg e17, if_neg e19, if_pos e23, if_neg e27]) hsr))
  refine ⟨⟨_, hm_oi hx⟩, _, _, _, _, (m_isOpenSending hF htr hx hV.T hV.N (s := s) (i := i) (by omega) (by omega) (by omega) (by omega) (hV.g 21 _).2), Nat.le_refl _, Nat.le_refl _, mki_ (r := some (aI (b2 (((0 ≤ i ∧ i < 256 ∧ μ 17 (mj s i) = 1) ∧ (i / 2 % 2 = 0 ∨ i % 2 = s)) ∧ mSend μ s i < 2)))) ?_, fun _ _ q => q.elim⟩
  refine ⟨by have := b2_r (((0 ≤ i ∧ i < 256 ∧ μ 17 (mj s i) = 1) ∧ (i / 2 % 2 = 0 ∨ i % 2 = s)) ∧ mSend μ s i < 2); omega, fun e30 => ?_, fun e30 => ?_⟩
  · have e30 : ((0 ≤ i ∧ i < 256 ∧ μ 17 (mj s i) = 1) ∧ (i / 2 % 2 = 0 ∨ i % 2 = s)) ∧ mSend μ s i < 2 := b2_n0.mp e30
    refine ⟨_, _, _, _, (m_at hF htr (s := s) (i := i)), Nat.le_refl _, Nat.le_refl _, mki_ (r := some (aI ((256 * s) + i))) ?_, fun _ _ q => q.elim⟩
    refine ⟨⟨_, hm_oi hx⟩, _, _, _, _, (m_firstIn hF htr hx hV (s := s) (i := i) (t := 2) (by omega) (by omega) (by omega) (by omega) (by omega) (by omega)), Nat.le_refl _, Nat.le_refl _, mki_ (r := some (aI (v_firstIn μ s i 2))) ?_, fun _ _ q => q.elim⟩
    have t31 := hV.cnt (s := s) i (-1) (by omega) (by omega)
    have t32 := firstIn_b hV (s := s) i 2 (by omega) (by omega)
    refine ⟨by omega, fun (e33 : (v_firstIn μ s i 2) < 0) => ?_, fun (e33 : ¬ ((v_firstIn μ s i 2) < 0)) => ?_⟩
    · refine ⟨65536, rfl, ?_⟩
      refine ⟨by omega, fun (e34 : 0 ≤ (v_firstIn μ s i 2)) => ?_, fun (e34 : ¬ (0 ≤ (v_firstIn μ s i 2))) => ?_⟩
      · refine ⟨⟨_, hm_oi hx⟩, _, _, _, _, (m_written hF htr hx hV.T hV.N (s := s) (i := i) (by omega) (by omega) (by omega) (by omega)), Nat.le_refl _, Nat.le_refl _, mki_ (r := some (aI (mCnt μ s i (-1) (mTot μ s)))) ?_, fun _ _ q => q.elim⟩
        refine ⟨_, hm_oi hx, aR (A 19), rfl, ?_⟩
        refine ⟨512, _, (μ 19 (mj s i)), hm_a hx 19 rfl, by omega, rfl, ?_⟩
        have t35 := (show 0 ≤ μ 19 (mj s i) ∧ μ 19 (mj s i) ≤ 1 from hV.g 19 (mj s i))
        refine ⟨by omega, fun (e36 : (μ 19 (mj s i)) = 0) => ?_, fun (e36 : ¬ ((μ 19 (mj s i)) = 0)) => ?_⟩
        · refine ⟨by omega, fun (e37 : 0 ≤ (v_firstIn μ s i 2)) => ?_, fun (e37 : ¬ (0 ≤ (v_firstIn μ s i 2))) => ?_⟩
          · refine ⟨by omega, fun _ => ?_, fun (e : ¬ ((0 : Int) = 0)) => (e (by decide)).elim⟩
            refine ⟨by omega, fun (e : ¬ ((0 : Int) = 0)) => (e (by decide)).elim, fun _ => ?_⟩
            refine ⟨0, rfl, ?_⟩
            refine ⟨by omega, fun _ => ?_, fun (e : (65536 : Int) = 0) => absurd e (by decide)⟩
            refine ⟨_, hm_oi hx, trivial, _, hm_putO hx (f := 49) (v := 0) rfl rfl, ?_⟩
            have hV38 := hV.u (f := 49) (k := 0) (v := 0) (show 0 ≤ 0 ∧ 0 ≤ 2048 from by omega)
            refine ⟨_, hm_oi hx, trivial, _, hm_putO hx (f := 45) (v := 8) rfl rfl, ?_⟩
            have hV39 := hV38.u (f := 45) (k := 0) (v := 8) (show 0 ≤ 8 ∧ 8 ≤ 23 from by omega)
            refine ⟨by omega, ?_⟩
            refine ⟨_, hm_oi hx, trivial, _, hm_putO hx (f := 46) (v := i) rfl rfl, ?_⟩
            have hV40 := hV39.u (f := 46) (k := 0) (v := i) (show 0 ≤ i ∧ i ≤ 4611686018427387903 from by omega)
            refine ⟨by omega, fun _ => ?_, fun (e : ¬ ((0 : Int) = 0)) => (e (by decide)).elim⟩
            refine ⟨by omega, ?_⟩
            refine ⟨_, hm_oi hx, trivial, _, hm_putO hx (f := 47) (v := (v_firstIn μ s i 2)) rfl rfl, ?_⟩
            have hV41 := hV40.u (f := 47) (k := 0) (v := (v_firstIn μ s i 2)) (show 0 ≤ (v_firstIn μ s i 2) ∧ (v_firstIn μ s i 2) ≤ 4611686018427387903 from by omega)
            refine ⟨0, rfl, ?_⟩
            refine ⟨_, hm_oi hx, trivial, _, hm_putO hx (f := 48) (v := 0) rfl rfl, ?_⟩
            have hV42 := hV41.u (f := 48) (k := 0) (v := 0) (show 0 ≤ 0 ∧ 0 ≤ 4611686018427387903 from by omega)
            refine ⟨by omega, fun _ => ?_, fun (e : ¬ ((0 : Int) = 0)) => (e (by decide)).elim⟩
            exact mi_Wsub (List.forall_mem_cons.mpr ⟨(.head _), List.forall_mem_cons.mpr ⟨(.tail _ (.head _)), List.forall_mem_cons.mpr ⟨(.tail _ (.tail _ (.tail _ (.tail _ (.tail _ (.tail _ (.tail _ (.head _)))))))), List.forall_mem_cons.mpr ⟨(.tail _ (.tail _ (.tail _ (.tail _ (.tail _ (.tail _ (.head _))))))), List.forall_mem_cons.mpr ⟨(.tail _ (.tail _ (.tail _ (.tail _ (.tail _ (.head _)))))), List.forall_mem_cons.mpr ⟨(.tail _ (.tail _ (.tail _ (.tail _ (.head _))))), List.forall_mem_cons.mpr ⟨(.tail _ (.tail _ (.tail _ (.tail _ (.tail _ (.tail _ (.tail _ (.tail _ (.tail _ (.head _)))))))))), List.forall_mem_cons.mpr ⟨(.tail _ (.tail _ (.tail _ (.tail _ (.tail _ (.tail _ (.tail _ (.tail _ (.tail _ (.tail _ (.head _))))))))))), List.forall_mem_cons.mpr ⟨(.tail _ (.tail _ (.tail _ (.tail _ (.tail _ (.tail _ (.tail _ (.tail _ (.tail _ (.tail _ (.tail _ (.head _)))))))))))), List.forall_mem_cons.mpr ⟨(.tail _ (.tail _ (.tail _ (.tail _ (.tail _ (.tail _ (.tail _ (.tail _ (.tail _ (.tail _ (.tail _ (.tail _ (.head _))))))))))))), List.forall_mem_cons.mpr ⟨(.tail _ (.tail _ (.tail _ (.tail _ (.tail _ (.tail _ (.tail _ (.tail _ (.head _))))))))), fun _ h => absurd h List.not_mem_nil⟩⟩⟩⟩⟩⟩⟩⟩⟩⟩⟩) (loop115 _ _ 1202 1 0 (v_firstIn μ s i 2) 0 65536 (mCnt μ s i (-1) (mTot μ s)) (u2 (u2 (u2 (u2 (u2 μ 49 0 0) 45 0 8) 46 0 i) 47 0 (v_firstIn μ s i 2)) 48 0 0) hV42 (show 1 = 0 ∨ 1 = 1 from by omega) (show 0 ≤ 0 ∧ 0 ≤ 1200 from by omega) (show 0 ≤ (v_firstIn μ s i 2) ∧ (v_firstIn μ s i 2) + 0 ≤ (mCnt μ s i (-1) (mTot μ s)) ∧ (mCnt μ s i (-1) (mTot μ s)) ≤ 65536 from by omega) (show 0 ≤ 0 ∧ 0 ≤ 2 from by omega) (show 0 ≤ 65536 ∧ 65536 ≤ 4611686018427387903 from by omega) (show 8 = 8 from by omega) (show mCnt μ s i (-1) (mTot μ s) ≤ mRem (μ 37) i (65536 * s).toNat (μ 36 s.toNat).toNat from by rw [mRem_cnt]; exact Int.le_refl _) (show (1200 - 0 + 1) < (1202 : Int) from by omega) (by unfold v_fillsStream; rw [if_pos e30, if_pos e33, if_pos e34, if_pos e36, if_pos e37]) (by unfold s_fillsStream; rw [if_pos e30, if_pos e33, if_pos e34, if_pos e36, if_pos e37]))
          · refine ⟨by omega, fun (e : (1 : Int) = 0) => absurd e (by decide), fun _ => ?_⟩
            refine ⟨by omega, fun _ => ?_, fun (e : ¬ ((0 : Int) = 0)) => (e (by decide)).elim⟩
            exact ⟨(Or.inl rfl), mRetIP (P := fun r m => r = 1 → m 49 0 ≤ 1200) (by unfold v_fillsStream; rw [if_pos e30, if_pos e33, if_pos e34, if_pos e36, if_neg e37]) (by unfold s_fillsStream; rw [if_pos e30, if_pos e33, if_pos e34, if_pos e36, if_neg e37]) hV (fun (q : 0 = 1) => by first | assumption | omega), Nat.le_refl _, Nat.le_refl _⟩
        · refine ⟨_, hm_oi hx, aR (A 20), rfl, ?_⟩
          refine ⟨512, _, (μ 20 (mj s i)), hm_a hx 20 rfl, by omega, rfl, ?_⟩
          have t43 := (show 0 ≤ μ 20 (mj s i) ∧ μ 20 (mj s i) ≤ 3 from hV.g 20 (mj s i))
          refine ⟨by omega, fun (e44 : (μ 20 (mj s i)) = 0) => ?_, fun (e44 : ¬ ((μ 20 (mj s i)) = 0)) => ?_⟩
          · refine ⟨by omega, fun (e45 : 0 ≤ (v_firstIn μ s i 2)) => ?_, fun (e45 : ¬ (0 ≤ (v_firstIn μ s i 2))) => ?_⟩
            · refine ⟨by omega, fun _ => ?_, fun (e : ¬ ((0 : Int) = 0)) => (e (by decide)).elim⟩
              refine ⟨by omega, fun (e : ¬ ((0 : Int) = 0)) => (e (by decide)).elim, fun _ => ?_⟩
              refine ⟨0, rfl, ?_⟩
              refine ⟨by omega, fun _ => ?_, fun (e : (65536 : Int) = 0) => absurd e (by decide)⟩
              refine ⟨_, hm_oi hx, trivial, _, hm_putO hx (f := 49) (v := 0) rfl rfl, ?_⟩
              have hV46 := hV.u (f := 49) (k := 0) (v := 0) (show 0 ≤ 0 ∧ 0 ≤ 2048 from by omega)
              refine ⟨_, hm_oi hx, trivial, _, hm_putO hx (f := 45) (v := 8) rfl rfl, ?_⟩
              have hV47 := hV46.u (f := 45) (k := 0) (v := 8) (show 0 ≤ 8 ∧ 8 ≤ 23 from by omega)
              refine ⟨by omega, ?_⟩
              refine ⟨_, hm_oi hx, trivial, _, hm_putO hx (f := 46) (v := i) rfl rfl, ?_⟩
              have hV48 := hV47.u (f := 46) (k := 0) (v := i) (show 0 ≤ i ∧ i ≤ 4611686018427387903 from by omega)
              refine ⟨by omega, fun _ => ?_, fun (e : ¬ ((0 : Int) = 0)) => (e (by decide)).elim⟩
              refine ⟨by omega, ?_⟩
              refine ⟨_, hm_oi hx, trivial, _, hm_putO hx (f := 47) (v := (v_firstIn μ s i 2)) rfl rfl, ?_⟩
              have hV49 := hV48.u (f := 47) (k := 0) (v := (v_firstIn μ s i 2)) (show 0 ≤ (v_firstIn μ s i 2) ∧ (v_firstIn μ s i 2) ≤ 4611686018427387903 from by omega)
              refine ⟨0, rfl, ?_⟩
              refine ⟨_, hm_oi hx, trivial, _, hm_putO hx (f := 48) (v := 0) rfl rfl, ?_⟩
              have hV50 := hV49.u (f := 48) (k := 0) (v := 0) (show 0 ≤ 0 ∧ 0 ≤ 4611686018427387903 from by omega)
              refine ⟨by omega, fun _ => ?_, fun (e : ¬ ((0 : Int) = 0)) => (e (by decide)).elim⟩
              exact mi_Wsub (List.forall_mem_cons.mpr ⟨(.head _), List.forall_mem_cons.mpr ⟨(.tail _ (.head _)), List.forall_mem_cons.mpr ⟨(.tail _ (.tail _ (.tail _ (.tail _ (.tail _ (.tail _ (.tail _ (.head _)))))))), List.forall_mem_cons.mpr ⟨(.tail _ (.tail _ (.tail _ (.tail _ (.tail _ (.tail _ (.head _))))))), List.forall_mem_cons.mpr ⟨(.tail _ (.tail _ (.tail _ (.tail _ (.tail _ (.head _)))))), List.forall_mem_cons.mpr ⟨(.tail _ (.tail _ (.tail _ (.tail _ (.head _))))), List.forall_mem_cons.mpr ⟨(.tail _ (.tail _ (.tail _ (.tail _ (.tail _ (.tail _ (.tail _ (.tail _ (.tail _ (.head _)))))))))), List.forall_mem_cons.mpr ⟨(.tail _ (.tail _ (.tail _ (.tail _ (.tail _ (.tail _ (.tail _ (.tail _ (.tail _ (.tail _ (.head _))))))))))), List.forall_mem_cons.mpr ⟨(.tail _ (.tail _ (.tail _ (.tail _ (.tail _ (.tail _ (.tail _ (.tail _ (.tail _ (.tail _ (.tail _ (.head _)))))))))))), List.forall_mem_cons.mpr ⟨(.tail _ (.tail _ (.tail _ (.tail _ (.tail _ (.tail _ (.tail _ (.tail _ (.tail _ (.tail _ (.tail _ (.tail _ (.head _))))))))))))), List.forall_mem_cons.mpr ⟨(.tail _ (.tail _ (.tail _ (.tail _ (.tail _ (.tail _ (.tail _ (.tail _ (.head _))))))))), fun _ h => absurd h List.not_mem_nil⟩⟩⟩⟩⟩⟩⟩⟩⟩⟩⟩) (loop115 _ _ 1202 1 0 (v_firstIn μ s i 2) 0 65536 (mCnt μ s i (-1) (mTot μ s)) (u2 (u2 (u2 (u2 (u2 μ 49 0 0) 45 0 8) 46 0 i) 47 0 (v_firstIn μ s i 2)) 48 0 0) hV50 (show 1 = 0 ∨ 1 = 1 from by omega) (show 0 ≤ 0 ∧ 0 ≤ 1200 from by omega) (show 0 ≤ (v_firstIn μ s i 2) ∧ (v_firstIn μ s i 2) + 0 ≤ (mCnt μ s i (-1) (mTot μ s)) ∧ (mCnt μ s i (-1) (mTot μ s)) ≤ 65536 from by omega) (show 0 ≤ 0 ∧ 0 ≤ 2 from by omega) (show 0 ≤ 65536 ∧ 65536 ≤ 4611686018427387903 from by omega) (show 8 = 8 from by omega) (show mCnt μ s i (-1) (mTot μ s) ≤ mRem (μ 37) i (65536 * s).toNat (μ 36 s.toNat).toNat from by rw [mRem_cnt]; exact Int.le_refl _) (show (1200 - 0 + 1) < (1202 : Int) from by omega) (by unfold v_fillsStream; rw [if_pos e30, if_pos e33, if_pos e34, if_neg e36, if_pos e44, if_pos e45]) (by unfold s_fillsStream; rw [if_pos e30, if_pos e33, if_pos e34, if_neg e36, if_pos e44, if_pos e45]))
            · refine ⟨by omega, fun (e : (1 : Int) = 0) => absurd e (by decide), fun _ => ?_⟩
              refine ⟨by omega, fun (e : (1 : Int) = 0) => absurd e (by decide), fun _ => ?_⟩
              refine ⟨by omega, fun _ => ?_, fun (e : (1 : Int) = 0) => absurd e (by decide)⟩
              refine ⟨_, hm_oi hx, trivial, _, hm_putO hx (f := 49) (v := 0) rfl rfl, ?_⟩
              have hV51 := hV.u (f := 49) (k := 0) (v := 0) (show 0 ≤ 0 ∧ 0 ≤ 2048 from by omega)
              refine ⟨_, hm_oi hx, trivial, _, hm_putO hx (f := 45) (v := 8) rfl rfl, ?_⟩
              have hV52 := hV51.u (f := 45) (k := 0) (v := 8) (show 0 ≤ 8 ∧ 8 ≤ 23 from by omega)
              refine ⟨by omega, ?_⟩
              refine ⟨_, hm_oi hx, trivial, _, hm_putO hx (f := 46) (v := i) rfl rfl, ?_⟩
              have hV53 := hV52.u (f := 46) (k := 0) (v := i) (show 0 ≤ i ∧ i ≤ 4611686018427387903 from by omega)
              refine ⟨by omega, fun (e : (1 : Int) = 0) => absurd e (by decide), fun _ => ?_⟩
              refine ⟨by omega, ?_⟩
              refine ⟨_, hm_oi hx, trivial, _, hm_putO hx (f := 47) (v := (mCnt μ s i (-1) (mTot μ s))) rfl rfl, ?_⟩
              have hV54 := hV53.u (f := 47) (k := 0) (v := (mCnt μ s i (-1) (mTot μ s))) (show 0 ≤ (mCnt μ s i (-1) (mTot μ s)) ∧ (mCnt μ s i (-1) (mTot μ s)) ≤ 4611686018427387903 from by omega)
              refine ⟨0, rfl, ?_⟩
              refine ⟨_, hm_oi hx, trivial, _, hm_putO hx (f := 48) (v := 0) rfl rfl, ?_⟩
              have hV55 := hV54.u (f := 48) (k := 0) (v := 0) (show 0 ≤ 0 ∧ 0 ≤ 4611686018427387903 from by omega)
              refine ⟨by omega, fun (e : (1 : Int) = 0) => absurd e (by decide), fun _ => ?_⟩
              refine ⟨⟨_, hm_oi hx⟩, _, _, _, _, (m_endAlone hF htr hx hV55 (s := s) (i := i) (r := r) (by omega) (by omega) (by omega) (by omega) (by omega) (by omega) (show (0 : Int) ≤ 1200 from by decide)), Nat.le_refl _, Nat.le_refl _, mkis_ (r := some (aI (v_endAlone (u2 (u2 (u2 (u2 (u2 μ 49 0 0) 45 0 8) 46 0 i) 47 0 (mCnt μ s i (-1) (mTot μ s))) 48 0 0) s i r))) (fun ⟨hV56, hp57⟩ => ?_), fun _ _ q => q.elim⟩
              have t58 := v_endAlone_b (u2 (u2 (u2 (u2 (u2 μ 49 0 0) 45 0 8) 46 0 i) 47 0 (mCnt μ s i (-1) (mTot μ s))) 48 0 0) s i r
              have hp57 : (v_endAlone (u2 (u2 (u2 (u2 (u2 μ 49 0 0) 45 0 8) 46 0 i) 47 0 (mCnt μ s i (-1) (mTot μ s))) 48 0 0) s i r) = 1 → (s_endAlone (u2 (u2 (u2 (u2 (u2 μ 49 0 0) 45 0 8) 46 0 i) 47 0 (mCnt μ s i (-1) (mTot μ s))) 48 0 0) s i r) 49 0 ≤ 1200 := hp57
              exact ⟨(by omega), mRetIP (P := fun r m => r = 1 → m 49 0 ≤ 1200) (by unfold v_fillsStream; rw [if_pos e30, if_pos e33, if_pos e34, if_neg e36, if_pos e44, if_neg e45]) (by unfold s_fillsStream; rw [if_pos e30, if_pos e33, if_pos e34, if_neg e36, if_pos e44, if_neg e45]) hV56 (fun (q : (v_endAlone (u2 (u2 (u2 (u2 (u2 μ 49 0 0) 45 0 8) 46 0 i) 47 0 (mCnt μ s i (-1) (mTot μ s))) 48 0 0) s i r) = 1) => show 0 ≤ 1200 from by omega), Nat.le_refl _, Nat.le_refl _⟩
          · refine ⟨_, hm_oi hx, aR (A 20), rfl, ?_⟩
            refine ⟨512, _, (μ 20 (mj s i)), hm_a hx 20 rfl, by omega, rfl, ?_⟩
            refine ⟨by omega, fun (e59 : ¬ ((μ 20 (mj s i)) = 2)) => ?_, fun (e59 : (μ 20 (mj s i)) = 2) => ?_⟩
            · refine ⟨by omega, fun (e60 : 0 ≤ (v_firstIn μ s i 2)) => ?_, fun (e60 : ¬ (0 ≤ (v_firstIn μ s i 2))) => ?_⟩
              · refine ⟨by omega, fun _ => ?_, fun (e : ¬ ((0 : Int) = 0)) => (e (by decide)).elim⟩
                refine ⟨by omega, fun (e : ¬ ((0 : Int) = 0)) => (e (by decide)).elim, fun _ => ?_⟩
                refine ⟨0, rfl, ?_⟩
                refine ⟨by omega, fun _ => ?_, fun (e : (65536 : Int) = 0) => absurd e (by decide)⟩
                refine ⟨_, hm_oi hx, trivial, _, hm_putO hx (f := 49) (v := 0) rfl rfl, ?_⟩
                have hV61 := hV.u (f := 49) (k := 0) (v := 0) (show 0 ≤ 0 ∧ 0 ≤ 2048 from by omega)
                refine ⟨_, hm_oi hx, trivial, _, hm_putO hx (f := 45) (v := 8) rfl rfl, ?_⟩
                have hV62 := hV61.u (f := 45) (k := 0) (v := 8) (show 0 ≤ 8 ∧ 8 ≤ 23 from by omega)
                refine ⟨by omega, ?_⟩
                refine ⟨_, hm_oi hx, trivial, _, hm_putO hx (f := 46) (v := i) rfl rfl, ?_⟩
                have hV63 := hV62.u (f := 46) (k := 0) (v := i) (show 0 ≤ i ∧ i ≤ 4611686018427387903 from by omega)
                refine ⟨by omega, fun _ => ?_, fun (e : ¬ ((0 : Int) = 0)) => (e (by decide)).elim⟩
                refine ⟨by omega, ?_⟩
                refine ⟨_, hm_oi hx, trivial, _, hm_putO hx (f := 47) (v := (v_firstIn μ s i 2)) rfl rfl, ?_⟩
                have hV64 := hV63.u (f := 47) (k := 0) (v := (v_firstIn μ s i 2)) (show 0 ≤ (v_firstIn μ s i 2) ∧ (v_firstIn μ s i 2) ≤ 4611686018427387903 from by omega)
                refine ⟨0, rfl, ?_⟩
                refine ⟨_, hm_oi hx, trivial, _, hm_putO hx (f := 48) (v := 0) rfl rfl, ?_⟩
                have hV65 := hV64.u (f := 48) (k := 0) (v := 0) (show 0 ≤ 0 ∧ 0 ≤ 4611686018427387903 from by omega)
                refine ⟨by omega, fun _ => ?_, fun (e : ¬ ((0 : Int) = 0)) => (e (by decide)).elim⟩
                exact mi_Wsub (List.forall_mem_cons.mpr ⟨(.head _), List.forall_mem_cons.mpr ⟨(.tail _ (.head _)), List.forall_mem_cons.mpr ⟨(.tail _ (.tail _ (.tail _ (.tail _ (.tail _ (.tail _ (.tail _ (.head _)))))))), List.forall_mem_cons.mpr ⟨(.tail _ (.tail _ (.tail _ (.tail _ (.tail _ (.tail _ (.head _))))))), List.forall_mem_cons.mpr ⟨(.tail _ (.tail _ (.tail _ (.tail _ (.tail _ (.head _)))))), List.forall_mem_cons.mpr ⟨(.tail _ (.tail _ (.tail _ (.tail _ (.head _))))), List.forall_mem_cons.mpr ⟨(.tail _ (.tail _ (.tail _ (.tail _ (.tail _ (.tail _ (.tail _ (.tail _ (.tail _ (.head _)))))))))), List.forall_mem_cons.mpr ⟨(.tail _ (.tail _ (.tail _ (.tail _ (.tail _ (.tail _ (.tail _ (.tail _ (.tail _ (.tail _ (.head _))))))))))), List.forall_mem_cons.mpr ⟨(.tail _ (.tail _ (.tail _ (.tail _ (.tail _ (.tail _ (.tail _ (.tail _ (.tail _ (.tail _ (.tail _ (.head _)))))))))))), List.forall_mem_cons.mpr ⟨(.tail _ (.tail _ (.tail _ (.tail _ (.tail _ (.tail _ (.tail _ (.tail _ (.tail _ (.tail _ (.tail _ (.tail _ (.head _))))))))))))), List.forall_mem_cons.mpr ⟨(.tail _ (.tail _ (.tail _ (.tail _ (.tail _ (.tail _ (.tail _ (.tail _ (.head _))))))))), fun _ h => absurd h List.not_mem_nil⟩⟩⟩⟩⟩⟩⟩⟩⟩⟩⟩) (loop115 _ _ 1202 1 0 (v_firstIn μ s i 2) 0 65536 (mCnt μ s i (-1) (mTot μ s)) (u2 (u2 (u2 (u2 (u2 μ 49 0 0) 45 0 8) 46 0 i) 47 0 (v_firstIn μ s i 2)) 48 0 0) hV65 (show 1 = 0 ∨ 1 = 1 from by omega) (show 0 ≤ 0 ∧ 0 ≤ 1200 from by omega) (show 0 ≤ (v_firstIn μ s i 2) ∧ (v_firstIn μ s i 2) + 0 ≤ (mCnt μ s i (-1) (mTot μ s)) ∧ (mCnt μ s i (-1) (mTot μ s)) ≤ 65536 from by omega) (show 0 ≤ 0 ∧ 0 ≤ 2 from by omega) (show 0 ≤ 65536 ∧ 65536 ≤ 4611686018427387903 from by omega) (show 8 = 8 from by omega) (show mCnt μ s i (-1) (mTot μ s) ≤ mRem (μ 37) i (65536 * s).toNat (μ 36 s.toNat).toNat from by rw [mRem_cnt]; exact Int.le_refl _) (show (1200 - 0 + 1) < (1202 : Int) from by omega) (by unfold v_fillsStream; rw [if_pos e30, if_pos e33, if_pos e34, if_neg e36, if_neg e44, if_neg e59, if_pos e60]) (by unfold s_fillsStream; rw [if_pos e30, if_pos e33, if_pos e34, if_neg e36, if_neg e44, if_neg e59, if_pos e60]))
              · refine ⟨by omega, fun (e : (1 : Int) = 0) => absurd e (by decide), fun _ => ?_⟩
                refine ⟨by omega, fun _ => ?_, fun (e : ¬ ((0 : Int) = 0)) => (e (by decide)).elim⟩
                exact ⟨(Or.inl rfl), mRetIP (P := fun r m => r = 1 → m 49 0 ≤ 1200) (by unfold v_fillsStream; rw [if_pos e30, if_pos e33, if_pos e34, if_neg e36, if_neg e44, if_neg e59, if_neg e60]) (by unfold s_fillsStream; rw [if_pos e30, if_pos e33, if_pos e34, if_neg e36, if_neg e44, if_neg e59, if_neg e60]) hV (fun (q : 0 = 1) => by first | assumption | omega), Nat.le_refl _, Nat.le_refl _⟩
            · refine ⟨by omega, fun (e66 : 0 ≤ (v_firstIn μ s i 2)) => ?_, fun (e66 : ¬ (0 ≤ (v_firstIn μ s i 2))) => ?_⟩
              · refine ⟨by omega, fun _ => ?_, fun (e : ¬ ((0 : Int) = 0)) => (e (by decide)).elim⟩
                refine ⟨by omega, fun (e : ¬ ((0 : Int) = 0)) => (e (by decide)).elim, fun _ => ?_⟩
                refine ⟨0, rfl, ?_⟩
                refine ⟨by omega, fun _ => ?_, fun (e : (65536 : Int) = 0) => absurd e (by decide)⟩
                refine ⟨_, hm_oi hx, trivial, _, hm_putO hx (f := 49) (v := 0) rfl rfl, ?_⟩
                have hV67 := hV.u (f := 49) (k := 0) (v := 0) (show 0 ≤ 0 ∧ 0 ≤ 2048 from by omega)
                refine ⟨_, hm_oi hx, trivial, _, hm_putO hx (f := 45) (v := 8) rfl rfl, ?_⟩
                have hV68 := hV67.u (f := 45) (k := 0) (v := 8) (show 0 ≤ 8 ∧ 8 ≤ 23 from by omega)
                refine ⟨by omega, ?_⟩
                refine ⟨_, hm_oi hx, trivial, _, hm_putO hx (f := 46) (v := i) rfl rfl, ?_⟩
                have hV69 := hV68.u (f := 46) (k := 0) (v := i) (show 0 ≤ i ∧ i ≤ 4611686018427387903 from by omega)
                refine ⟨by omega, fun _ => ?_, fun (e : ¬ ((0 : Int) = 0)) => (e (by decide)).elim⟩
                refine ⟨by omega, ?_⟩
                refine ⟨_, hm_oi hx, trivial, _, hm_putO hx (f := 47) (v := (v_firstIn μ s i 2)) rfl rfl, ?_⟩
                have hV70 := hV69.u (f := 47) (k := 0) (v := (v_firstIn μ s i 2)) (show 0 ≤ (v_firstIn μ s i 2) ∧ (v_firstIn μ s i 2) ≤ 4611686018427387903 from by omega)
                refine ⟨0, rfl, ?_⟩
                refine ⟨_, hm_oi hx, trivial, _, hm_putO hx (f := 48) (v := 0) rfl rfl, ?_⟩
                have hV71 := hV70.u (f := 48) (k := 0) (v := 0) (show 0 ≤ 0 ∧ 0 ≤ 4611686018427387903 from by omega)
                refine ⟨by omega, fun _ => ?_, fun (e : ¬ ((0 : Int) = 0)) => (e (by decide)).elim⟩
                exact mi_Wsub (List.forall_mem_cons.mpr ⟨(.head _), List.forall_mem_cons.mpr ⟨(.tail _ (.head _)), List.forall_mem_cons.mpr ⟨(.tail _ (.tail _ (.tail _ (.tail _ (.tail _ (.tail _ (.tail _ (.head _)))))))), List.forall_mem_cons.mpr ⟨(.tail _ (.tail _ (.tail _ (.tail _ (.tail _ (.tail _ (.head _))))))), List.forall_mem_cons.mpr ⟨(.tail _ (.tail _ (.tail _ (.tail _ (.tail _ (.head _)))))), List.forall_mem_cons.mpr ⟨(.tail _ (.tail _ (.tail _ (.tail _ (.head _))))), List.forall_mem_cons.mpr ⟨(.tail _ (.tail _ (.tail _ (.tail _ (.tail _ (.tail _ (.tail _ (.tail _ (.tail _ (.head _)))))))))), List.forall_mem_cons.mpr ⟨(.tail _ (.tail _ (.tail _ (.tail _ (.tail _ (.tail _ (.tail _ (.tail _ (.tail _ (.tail _ (.head _))))))))))), List.forall_mem_cons.mpr ⟨(.tail _ (.tail _ (.tail _ (.tail _ (.tail _ (.tail _ (.tail _ (.tail _ (.tail _ (.tail _ (.tail _ (.head _)))))))))))), List.forall_mem_cons.mpr ⟨(.tail _ (.tail _ (.tail _ (.tail _ (.tail _ (.tail _ (.tail _ (.tail _ (.tail _ (.tail _ (.tail _ (.tail _ (.head _))))))))))))), List.forall_mem_cons.mpr ⟨(.tail _ (.tail _ (.tail _ (.tail _ (.tail _ (.tail _ (.tail _ (.tail _ (.head _))))))))), fun _ h => absurd h List.not_mem_nil⟩⟩⟩⟩⟩⟩⟩⟩⟩⟩⟩) (loop115 _ _ 1202 1 0 (v_firstIn μ s i 2) 0 65536 (mCnt μ s i (-1) (mTot μ s)) (u2 (u2 (u2 (u2 (u2 μ 49 0 0) 45 0 8) 46 0 i) 47 0 (v_firstIn μ s i 2)) 48 0 0) hV71 (show 1 = 0 ∨ 1 = 1 from by omega) (show 0 ≤ 0 ∧ 0 ≤ 1200 from by omega) (show 0 ≤ (v_firstIn μ s i 2) ∧ (v_firstIn μ s i 2) + 0 ≤ (mCnt μ s i (-1) (mTot μ s)) ∧ (mCnt μ s i (-1) (mTot μ s)) ≤ 65536 from by omega) (show 0 ≤ 0 ∧ 0 ≤ 2 from by omega) (show 0 ≤ 65536 ∧ 65536 ≤ 4611686018427387903 from by omega) (show 8 = 8 from by omega) (show mCnt μ s i (-1) (mTot μ s) ≤ mRem (μ 37) i (65536 * s).toNat (μ 36 s.toNat).toNat from by rw [mRem_cnt]; exact Int.le_refl _) (show (1200 - 0 + 1) < (1202 : Int) from by omega) (by unfold v_fillsStream; rw [if_pos e30, if_pos e33, if_pos e34, if_neg e36, if_neg e44, if_pos e59, if_pos e66]) (by unfold s_fillsStream; rw [if_pos e30, if_pos e33, if_pos e34, if_neg e36, if_neg e44, if_pos e59, if_pos e66]))
              · refine ⟨by omega, fun (e : (1 : Int) = 0) => absurd e (by decide), fun _ => ?_⟩
                refine ⟨by omega, fun (e : (1 : Int) = 0) => absurd e (by decide), fun _ => ?_⟩
                refine ⟨by omega, fun _ => ?_, fun (e : (1 : Int) = 0) => absurd e (by decide)⟩
                refine ⟨_, hm_oi hx, trivial, _, hm_putO hx (f := 49) (v := 0) rfl rfl, ?_⟩
                have hV72 := hV.u (f := 49) (k := 0) (v := 0) (show 0 ≤ 0 ∧ 0 ≤ 2048 from by omega)
                refine ⟨_, hm_oi hx, trivial, _, hm_putO hx (f := 45) (v := 8) rfl rfl, ?_⟩
                have hV73 := hV72.u (f := 45) (k := 0) (v := 8) (show 0 ≤ 8 ∧ 8 ≤ 23 from by omega)
                refine ⟨by omega, ?_⟩
                refine ⟨_, hm_oi hx, trivial, _, hm_putO hx (f := 46) (v := i) rfl rfl, ?_⟩
                have hV74 := hV73.u (f := 46) (k := 0) (v := i) (show 0 ≤ i ∧ i ≤ 4611686018427387903 from by omega)
                refine ⟨by omega, fun (e : (1 : Int) = 0) => absurd e (by decide), fun _ => ?_⟩
                refine ⟨by omega, ?_⟩
                refine ⟨_, hm_oi hx, trivial, _, hm_putO hx (f := 47) (v := (mCnt μ s i (-1) (mTot μ s))) rfl rfl, ?_⟩
                have hV75 := hV74.u (f := 47) (k := 0) (v := (mCnt μ s i (-1) (mTot μ s))) (show 0 ≤ (mCnt μ s i (-1) (mTot μ s)) ∧ (mCnt μ s i (-1) (mTot μ s)) ≤ 4611686018427387903 from by omega)
                refine ⟨0, rfl, ?_⟩
                refine ⟨_, hm_oi hx, trivial, _, hm_putO hx (f := 48) (v := 0) rfl rfl, ?_⟩
                have hV76 := hV75.u (f := 48) (k := 0) (v := 0) (show 0 ≤ 0 ∧ 0 ≤ 4611686018427387903 from by omega)
                refine ⟨by omega, fun (e : (1 : Int) = 0) => absurd e (by decide), fun _ => ?_⟩
                refine ⟨⟨_, hm_oi hx⟩, _, _, _, _, (m_endAlone hF htr hx hV76 (s := s) (i := i) (r := r) (by omega) (by omega) (by omega) (by omega) (by omega) (by omega) (show (0 : Int) ≤ 1200 from by decide)), Nat.le_refl _, Nat.le_refl _, mkis_ (r := some (aI (v_endAlone (u2 (u2 (u2 (u2 (u2 μ 49 0 0) 45 0 8) 46 0 i) 47 0 (mCnt μ s i (-1) (mTot μ s))) 48 0 0) s i r))) (fun ⟨hV77, hp78⟩ => ?_), fun _ _ q => q.elim⟩
                have t79 := v_endAlone_b (u2 (u2 (u2 (u2 (u2 μ 49 0 0) 45 0 8) 46 0 i) 47 0 (mCnt μ s i (-1) (mTot μ s))) 48 0 0) s i r
                have hp78 : (v_endAlone (u2 (u2 (u2 (u2 (u2 μ 49 0 0) 45 0 8) 46 0 i) 47 0 (mCnt μ s i (-1) (mTot μ s))) 48 0 0) s i r) = 1 → (s_endAlone (u2 (u2 (u2 (u2 (u2 μ 49 0 0) 45 0 8) 46 0 i) 47 0 (mCnt μ s i (-1) (mTot μ s))) 48 0 0) s i r) 49 0 ≤ 1200 := hp78
                exact ⟨(by omega), mRetIP (P := fun r m => r = 1 → m 49 0 ≤ 1200) (by unfold v_fillsStream; rw [if_pos e30, if_pos e33, if_pos e34, if_neg e36, if_neg e44, if_pos e59, if_neg e66]) (by unfold s_fillsStream; rw [if_pos e30, if_pos e33, if_pos e34, if_neg e36, if_neg e44, if_pos e59, if_neg e66]) hV77 (fun (q : (v_endAlone (u2 (u2 (u2 (u2 (u2 μ 49 0 0) 45 0 8) 46 0 i) 47 0 (mCnt μ s i (-1) (mTot μ s))) 48 0 0) s i r) = 1) => show 0 ≤ 1200 from by omega), Nat.le_refl _, Nat.le_refl _⟩
      · refine ⟨⟨_, hm_oi hx⟩, _, _, _, _, (m_firstIn hF htr hx hV (s := s) (i := i) (t := 0) (by omega) (by omega) (by omega) (by omega) (by omega) (by omega)), Nat.le_refl _, Nat.le_refl _, mki_ (r := some (aI (v_firstIn μ s i 0))) ?_, fun _ _ q => q.elim⟩
        have t80 := firstIn_b hV (s := s) i 0 (by omega) (by omega)
        refine ⟨⟨_, hm_oi hx⟩, _, _, _, _, (m_allowed hF htr hx hV (s := s) (i := i) (by omega) (by omega) (by omega) (by omega)), Nat.le_refl _, Nat.le_refl _, mki_ (r := some (aL (v_allowed μ s i))) ?_, fun _ _ q => q.elim⟩
        have t81 := allowed_b hV (s := s) i (by omega) (by omega)
        refine ⟨⟨_, hm_oi hx⟩, _, _, _, _, (m_written hF htr hx hV.T hV.N (s := s) (i := i) (by omega) (by omega) (by omega) (by omega)), Nat.le_refl _, Nat.le_refl _, mki_ (r := some (aI (mCnt μ s i (-1) (mTot μ s)))) ?_, fun _ _ q => q.elim⟩
        refine ⟨_, hm_oi hx, aR (A 19), rfl, ?_⟩
        refine ⟨512, _, (μ 19 (mj s i)), hm_a hx 19 rfl, by omega, rfl, ?_⟩
        have t82 := (show 0 ≤ μ 19 (mj s i) ∧ μ 19 (mj s i) ≤ 1 from hV.g 19 (mj s i))
        refine ⟨by omega, fun (e83 : (μ 19 (mj s i)) = 0) => ?_, fun (e83 : ¬ ((μ 19 (mj s i)) = 0)) => ?_⟩
        · refine ⟨by omega, fun (e84 : 0 ≤ (v_firstIn μ s i 0)) => ?_, fun (e84 : ¬ (0 ≤ (v_firstIn μ s i 0))) => ?_⟩
          · refine ⟨by omega, fun _ => ?_, fun (e : ¬ ((0 : Int) = 0)) => (e (by decide)).elim⟩
            refine ⟨by omega, fun (e : ¬ ((0 : Int) = 0)) => (e (by decide)).elim, fun _ => ?_⟩
            refine ⟨0, rfl, ?_⟩
            refine ⟨by omega, fun (e85 : ¬ ((v_allowed μ s i) = 0)) => ?_, fun (e85 : (v_allowed μ s i) = 0) => ?_⟩
            · refine ⟨_, hm_oi hx, trivial, _, hm_putO hx (f := 49) (v := 0) rfl rfl, ?_⟩
              have hV86 := hV.u (f := 49) (k := 0) (v := 0) (show 0 ≤ 0 ∧ 0 ≤ 2048 from by omega)
              refine ⟨_, hm_oi hx, trivial, _, hm_putO hx (f := 45) (v := 8) rfl rfl, ?_⟩
              have hV87 := hV86.u (f := 45) (k := 0) (v := 8) (show 0 ≤ 8 ∧ 8 ≤ 23 from by omega)
              refine ⟨by omega, ?_⟩
              refine ⟨_, hm_oi hx, trivial, _, hm_putO hx (f := 46) (v := i) rfl rfl, ?_⟩
              have hV88 := hV87.u (f := 46) (k := 0) (v := i) (show 0 ≤ i ∧ i ≤ 4611686018427387903 from by omega)
              refine ⟨by omega, fun _ => ?_, fun (e : ¬ ((0 : Int) = 0)) => (e (by decide)).elim⟩
              refine ⟨by omega, ?_⟩
              refine ⟨_, hm_oi hx, trivial, _, hm_putO hx (f := 47) (v := (v_firstIn μ s i 0)) rfl rfl, ?_⟩
              have hV89 := hV88.u (f := 47) (k := 0) (v := (v_firstIn μ s i 0)) (show 0 ≤ (v_firstIn μ s i 0) ∧ (v_firstIn μ s i 0) ≤ 4611686018427387903 from by omega)
              refine ⟨0, rfl, ?_⟩
              refine ⟨_, hm_oi hx, trivial, _, hm_putO hx (f := 48) (v := 0) rfl rfl, ?_⟩
              have hV90 := hV89.u (f := 48) (k := 0) (v := 0) (show 0 ≤ 0 ∧ 0 ≤ 4611686018427387903 from by omega)
              refine ⟨by omega, fun _ => ?_, fun (e : ¬ ((0 : Int) = 0)) => (e (by decide)).elim⟩
              exact mi_Wsub (List.forall_mem_cons.mpr ⟨(.head _), List.forall_mem_cons.mpr ⟨(.tail _ (.head _)), List.forall_mem_cons.mpr ⟨(.tail _ (.tail _ (.tail _ (.tail _ (.tail _ (.tail _ (.head _))))))), List.forall_mem_cons.mpr ⟨(.tail _ (.tail _ (.tail _ (.tail _ (.tail _ (.tail _ (.tail _ (.head _)))))))), List.forall_mem_cons.mpr ⟨(.tail _ (.tail _ (.tail _ (.tail _ (.tail _ (.head _)))))), List.forall_mem_cons.mpr ⟨(.tail _ (.tail _ (.tail _ (.tail _ (.head _))))), List.forall_mem_cons.mpr ⟨(.tail _ (.tail _ (.tail _ (.tail _ (.tail _ (.tail _ (.tail _ (.tail _ (.tail _ (.head _)))))))))), List.forall_mem_cons.mpr ⟨(.tail _ (.tail _ (.tail _ (.tail _ (.tail _ (.tail _ (.tail _ (.tail _ (.tail _ (.tail _ (.head _))))))))))), List.forall_mem_cons.mpr ⟨(.tail _ (.tail _ (.tail _ (.tail _ (.tail _ (.tail _ (.tail _ (.tail _ (.tail _ (.tail _ (.tail _ (.head _)))))))))))), List.forall_mem_cons.mpr ⟨(.tail _ (.tail _ (.tail _ (.tail _ (.tail _ (.tail _ (.tail _ (.tail _ (.tail _ (.tail _ (.tail _ (.tail _ (.head _))))))))))))), List.forall_mem_cons.mpr ⟨(.tail _ (.tail _ (.tail _ (.tail _ (.tail _ (.tail _ (.tail _ (.tail _ (.head _))))))))), fun _ h => absurd h List.not_mem_nil⟩⟩⟩⟩⟩⟩⟩⟩⟩⟩⟩) (loop115 _ _ 1202 1 0 (v_firstIn μ s i 0) 0 (v_allowed μ s i) (mCnt μ s i (-1) (mTot μ s)) (u2 (u2 (u2 (u2 (u2 μ 49 0 0) 45 0 8) 46 0 i) 47 0 (v_firstIn μ s i 0)) 48 0 0) hV90 (show 1 = 0 ∨ 1 = 1 from by omega) (show 0 ≤ 0 ∧ 0 ≤ 1200 from by omega) (show 0 ≤ (v_firstIn μ s i 0) ∧ (v_firstIn μ s i 0) + 0 ≤ (mCnt μ s i (-1) (mTot μ s)) ∧ (mCnt μ s i (-1) (mTot μ s)) ≤ 65536 from by omega) (show 0 ≤ 0 ∧ 0 ≤ 2 from by omega) (show 0 ≤ (v_allowed μ s i) ∧ (v_allowed μ s i) ≤ 4611686018427387903 from by omega) (show 8 = 8 from by omega) (show mCnt μ s i (-1) (mTot μ s) ≤ mRem (μ 37) i (65536 * s).toNat (μ 36 s.toNat).toNat from by rw [mRem_cnt]; exact Int.le_refl _) (show (1200 - 0 + 1) < (1202 : Int) from by omega) (by unfold v_fillsStream; rw [if_pos e30, if_pos e33, if_neg e34, if_pos e83, if_pos e84, if_neg e85]) (by unfold s_fillsStream; rw [if_pos e30, if_pos e33, if_neg e34, if_pos e83, if_pos e84, if_neg e85]))
            · exact ⟨(Or.inl rfl), mRetIP (P := fun r m => r = 1 → m 49 0 ≤ 1200) (by unfold v_fillsStream; rw [if_pos e30, if_pos e33, if_neg e34, if_pos e83, if_pos e84, if_pos e85]) (by unfold s_fillsStream; rw [if_pos e30, if_pos e33, if_neg e34, if_pos e83, if_pos e84, if_pos e85]) hV (fun (q : 0 = 1) => by first | assumption | omega), Nat.le_refl _, Nat.le_refl _⟩
          · refine ⟨by omega, fun (e : (1 : Int) = 0) => absurd e (by decide), fun _ => ?_⟩
            refine ⟨by omega, fun _ => ?_, fun (e : ¬ ((0 : Int) = 0)) => (e (by decide)).elim⟩
            exact ⟨(Or.inl rfl), mRetIP (P := fun r m => r = 1 → m 49 0 ≤ 1200) (by unfold v_fillsStream; rw [if_pos e30, if_pos e33, if_neg e34, if_pos e83, if_neg e84]) (by unfold s_fillsStream; rw [if_pos e30, if_pos e33, if_neg e34, if_pos e83, if_neg e84]) hV (fun (q : 0 = 1) => by first | assumption | omega), Nat.le_refl _, Nat.le_refl _⟩
        · refine ⟨_, hm_oi hx, aR (A 20), rfl, ?_⟩
          refine ⟨512, _, (μ 20 (mj s i)), hm_a hx 20 rfl, by omega, rfl, ?_⟩
          have t91 := (show 0 ≤ μ 20 (mj s i) ∧ μ 20 (mj s i) ≤ 3 from hV.g 20 (mj s i))
          refine ⟨by omega, fun (e92 : (μ 20 (mj s i)) = 0) => ?_, fun (e92 : ¬ ((μ 20 (mj s i)) = 0)) => ?_⟩
          · refine ⟨by omega, fun (e93 : 0 ≤ (v_firstIn μ s i 0)) => ?_, fun (e93 : ¬ (0 ≤ (v_firstIn μ s i 0))) => ?_⟩
            · refine ⟨by omega, fun _ => ?_, fun (e : ¬ ((0 : Int) = 0)) => (e (by decide)).elim⟩
              refine ⟨by omega, fun (e : ¬ ((0 : Int) = 0)) => (e (by decide)).elim, fun _ => ?_⟩
              refine ⟨0, rfl, ?_⟩
              refine ⟨by omega, fun (e94 : ¬ ((v_allowed μ s i) = 0)) => ?_, fun (e94 : (v_allowed μ s i) = 0) => ?_⟩
              · refine ⟨_, hm_oi hx, trivial, _, hm_putO hx (f := 49) (v := 0) rfl rfl, ?_⟩
                have hV95 := hV.u (f := 49) (k := 0) (v := 0) (show 0 ≤ 0 ∧ 0 ≤ 2048 from by omega)
                refine ⟨_, hm_oi hx, trivial, _, hm_putO hx (f := 45) (v := 8) rfl rfl, ?_⟩
                have hV96 := hV95.u (f := 45) (k := 0) (v := 8) (show 0 ≤ 8 ∧ 8 ≤ 23 from by omega)
                refine ⟨by omega, ?_⟩
                refine ⟨_, hm_oi hx, trivial, _, hm_putO hx (f := 46) (v := i) rfl rfl, ?_⟩
                have hV97 := hV96.u (f := 46) (k := 0) (v := i) (show 0 ≤ i ∧ i ≤ 4611686018427387903 from by omega)
                refine ⟨by omega, fun _ => ?_, fun (e : ¬ ((0 : Int) = 0)) => (e (by decide)).elim⟩
                refine ⟨by omega, ?_⟩
                refine ⟨_, hm_oi hx, trivial, _, hm_putO hx (f := 47) (v := (v_firstIn μ s i 0)) rfl rfl, ?_⟩
                have hV98 := hV97.u (f := 47) (k := 0) (v := (v_firstIn μ s i 0)) (show 0 ≤ (v_firstIn μ s i 0) ∧ (v_firstIn μ s i 0) ≤ 4611686018427387903 from by omega)
                refine ⟨0, rfl, ?_⟩
                refine ⟨_, hm_oi hx, trivial, _, hm_putO hx (f := 48) (v := 0) rfl rfl, ?_⟩
                have hV99 := hV98.u (f := 48) (k := 0) (v := 0) (show 0 ≤ 0 ∧ 0 ≤ 4611686018427387903 from by omega)
                refine ⟨by omega, fun _ => ?_, fun (e : ¬ ((0 : Int) = 0)) => (e (by decide)).elim⟩
                exact mi_Wsub (List.forall_mem_cons.mpr ⟨(.head _), List.forall_mem_cons.mpr ⟨(.tail _ (.head _)), List.forall_mem_cons.mpr ⟨(.tail _ (.tail _ (.tail _ (.tail _ (.tail _ (.tail _ (.head _))))))), List.forall_mem_cons.mpr ⟨(.tail _ (.tail _ (.tail _ (.tail _ (.tail _ (.tail _ (.tail _ (.head _)))))))), List.forall_mem_cons.mpr ⟨(.tail _ (.tail _ (.tail _ (.tail _ (.tail _ (.head _)))))), List.forall_mem_cons.mpr ⟨(.tail _ (.tail _ (.tail _ (.tail _ (.head _))))), List.forall_mem_cons.mpr ⟨(.tail _ (.tail _ (.tail _ (.tail _ (.tail _ (.tail _ (.tail _ (.tail _ (.tail _ (.head _)))))))))), List.forall_mem_cons.mpr ⟨(.tail _ (.tail _ (.tail _ (.tail _ (.tail _ (.tail _ (.tail _ (.tail _ (.tail _ (.tail _ (.head _))))))))))), List.forall_mem_cons.mpr ⟨(.tail _ (.tail _ (.tail _ (.tail _ (.tail _ (.tail _ (.tail _ (.tail _ (.tail _ (.tail _ (.tail _ (.head _)))))))))))), List.forall_mem_cons.mpr ⟨(.tail _ (.tail _ (.tail _ (.tail _ (.tail _ (.tail _ (.tail _ (.tail _ (.tail _ (.tail _ (.tail _ (.tail _ (.head _))))))))))))), List.forall_mem_cons.mpr ⟨(.tail _ (.tail _ (.tail _ (.tail _ (.tail _ (.tail _ (.tail _ (.tail _ (.head _))))))))), fun _ h => absurd h List.not_mem_nil⟩⟩⟩⟩⟩⟩⟩⟩⟩⟩⟩) (loop115 _ _ 1202 1 0 (v_firstIn μ s i 0) 0 (v_allowed μ s i) (mCnt μ s i (-1) (mTot μ s)) (u2 (u2 (u2 (u2 (u2 μ 49 0 0) 45 0 8) 46 0 i) 47 0 (v_firstIn μ s i 0)) 48 0 0) hV99 (show 1 = 0 ∨ 1 = 1 from by omega) (show 0 ≤ 0 ∧ 0 ≤ 1200 from by omega) (show 0 ≤ (v_firstIn μ s i 0) ∧ (v_firstIn μ s i 0) + 0 ≤ (mCnt μ s i (-1) (mTot μ s)) ∧ (mCnt μ s i (-1) (mTot μ s)) ≤ 65536 from by omega) (show 0 ≤ 0 ∧ 0 ≤ 2 from by omega) (show 0 ≤ (v_allowed μ s i) ∧ (v_allowed μ s i) ≤ 4611686018427387903 from by omega) (show 8 = 8 from by omega) (show mCnt μ s i (-1) (mTot μ s) ≤ mRem (μ 37) i (65536 * s).toNat (μ 36 s.toNat).toNat from by rw [mRem_cnt]; exact Int.le_refl _) (show (1200 - 0 + 1) < (1202 : Int) from by omega) (by unfold v_fillsStream; rw [if_pos e30, if_pos e33, if_neg e34, if_neg e83, if_pos e92, if_pos e93, if_neg e94]) (by unfold s_fillsStream; rw [if_pos e30, if_pos e33, if_neg e34, if_neg e83, if_pos e92, if_pos e93, if_neg e94]))
              · exact ⟨(Or.inl rfl), mRetIP (P := fun r m => r = 1 → m 49 0 ≤ 1200) (by unfold v_fillsStream; rw [if_pos e30, if_pos e33, if_neg e34, if_neg e83, if_pos e92, if_pos e93, if_pos e94]) (by unfold s_fillsStream; rw [if_pos e30, if_pos e33, if_neg e34, if_neg e83, if_pos e92, if_pos e93, if_pos e94]) hV (fun (q : 0 = 1) => by first | assumption | omega), Nat.le_refl _, Nat.le_refl _⟩
            · refine ⟨by omega, fun (e : (1 : Int) = 0) => absurd e (by decide), fun _ => ?_⟩
              refine ⟨by omega, fun (e : (1 : Int) = 0) => absurd e (by decide), fun _ => ?_⟩
              refine ⟨by omega, fun _ => ?_, fun (e : (1 : Int) = 0) => absurd e (by decide)⟩
              refine ⟨_, hm_oi hx, trivial, _, hm_putO hx (f := 49) (v := 0) rfl rfl, ?_⟩
              have hV100 := hV.u (f := 49) (k := 0) (v := 0) (show 0 ≤ 0 ∧ 0 ≤ 2048 from by omega)
              refine ⟨_, hm_oi hx, trivial, _, hm_putO hx (f := 45) (v := 8) rfl rfl, ?_⟩
              have hV101 := hV100.u (f := 45) (k := 0) (v := 8) (show 0 ≤ 8 ∧ 8 ≤ 23 from by omega)
              refine ⟨by omega, ?_⟩
              refine ⟨_, hm_oi hx, trivial, _, hm_putO hx (f := 46) (v := i) rfl rfl, ?_⟩
              have hV102 := hV101.u (f := 46) (k := 0) (v := i) (show 0 ≤ i ∧ i ≤ 4611686018427387903 from by omega)
              refine ⟨by omega, fun (e : (1 : Int) = 0) => absurd e (by decide), fun _ => ?_⟩
              refine ⟨by omega, ?_⟩
              refine ⟨_, hm_oi hx, trivial, _, hm_putO hx (f := 47) (v := (mCnt μ s i (-1) (mTot μ s))) rfl rfl, ?_⟩
              have hV103 := hV102.u (f := 47) (k := 0) (v := (mCnt μ s i (-1) (mTot μ s))) (show 0 ≤ (mCnt μ s i (-1) (mTot μ s)) ∧ (mCnt μ s i (-1) (mTot μ s)) ≤ 4611686018427387903 from by omega)
              refine ⟨0, rfl, ?_⟩
              refine ⟨_, hm_oi hx, trivial, _, hm_putO hx (f := 48) (v := 0) rfl rfl, ?_⟩
              have hV104 := hV103.u (f := 48) (k := 0) (v := 0) (show 0 ≤ 0 ∧ 0 ≤ 4611686018427387903 from by omega)
              refine ⟨by omega, fun (e : (1 : Int) = 0) => absurd e (by decide), fun _ => ?_⟩
              refine ⟨⟨_, hm_oi hx⟩, _, _, _, _, (m_endAlone hF htr hx hV104 (s := s) (i := i) (r := r) (by omega) (by omega) (by omega) (by omega) (by omega) (by omega) (show (0 : Int) ≤ 1200 from by decide)), Nat.le_refl _, Nat.le_refl _, mkis_ (r := some (aI (v_endAlone (u2 (u2 (u2 (u2 (u2 μ 49 0 0) 45 0 8) 46 0 i) 47 0 (mCnt μ s i (-1) (mTot μ s))) 48 0 0) s i r))) (fun ⟨hV105, hp106⟩ => ?_), fun _ _ q => q.elim⟩
              have t107 := v_endAlone_b (u2 (u2 (u2 (u2 (u2 μ 49 0 0) 45 0 8) 46 0 i) 47 0 (mCnt μ s i (-1) (mTot μ s))) 48 0 0) s i r
              have hp106 : (v_endAlone (u2 (u2 (u2 (u2 (u2 μ 49 0 0) 45 0 8) 46 0 i) 47 0 (mCnt μ s i (-1) (mTot μ s))) 48 0 0) s i r) = 1 → (s_endAlone (u2 (u2 (u2 (u2 (u2 μ 49 0 0) 45 0 8) 46 0 i) 47 0 (mCnt μ s i (-1) (mTot μ s))) 48 0 0) s i r) 49 0 ≤ 1200 := hp106
              exact ⟨(by omega), mRetIP (P := fun r m => r = 1 → m 49 0 ≤ 1200) (by unfold v_fillsStream; rw [if_pos e30, if_pos e33, if_neg e34, if_neg e83, if_pos e92, if_neg e93]) (by unfold s_fillsStream; rw [if_pos e30, if_pos e33, if_neg e34, if_neg e83, if_pos e92, if_neg e93]) hV105 (fun (q : (v_endAlone (u2 (u2 (u2 (u2 (u2 μ 49 0 0) 45 0 8) 46 0 i) 47 0 (mCnt μ s i (-1) (mTot μ s))) 48 0 0) s i r) = 1) => show 0 ≤ 1200 from by omega), Nat.le_refl _, Nat.le_refl _⟩
          · refine ⟨_, hm_oi hx, aR (A 20), rfl, ?_⟩
            refine ⟨512, _, (μ 20 (mj s i)), hm_a hx 20 rfl, by omega, rfl, ?_⟩
            refine ⟨by omega, fun (e108 : ¬ ((μ 20 (mj s i)) = 2)) => ?_, fun (e108 : (μ 20 (mj s i)) = 2) => ?_⟩
            · refine ⟨by omega, fun (e109 : 0 ≤ (v_firstIn μ s i 0)) => ?_, fun (e109 : ¬ (0 ≤ (v_firstIn μ s i 0))) => ?_⟩
              · refine ⟨by omega, fun _ => ?_, fun (e : ¬ ((0 : Int) = 0)) => (e (by decide)).elim⟩
                refine ⟨by omega, fun (e : ¬ ((0 : Int) = 0)) => (e (by decide)).elim, fun _ => ?_⟩
                refine ⟨0, rfl, ?_⟩
                refine ⟨by omega, fun (e110 : ¬ ((v_allowed μ s i) = 0)) => ?_, fun (e110 : (v_allowed μ s i) = 0) => ?_⟩
                · refine ⟨_, hm_oi hx, trivial, _, hm_putO hx (f := 49) (v := 0) rfl rfl, ?_⟩
                  have hV111 := hV.u (f := 49) (k := 0) (v := 0) (show 0 ≤ 0 ∧ 0 ≤ 2048 from by omega)
                  refine ⟨_, hm_oi hx, trivial, _, hm_putO hx (f := 45) (v := 8) rfl rfl, ?_⟩
                  have hV112 := hV111.u (f := 45) (k := 0) (v := 8) (show 0 ≤ 8 ∧ 8 ≤ 23 from by omega)
                  refine ⟨by omega, ?_⟩
                  refine ⟨_, hm_oi hx, trivial, _, hm_putO hx (f := 46) (v := i) rfl rfl, ?_⟩
                  have hV113 := hV112.u (f := 46) (k := 0) (v := i) (show 0 ≤ i ∧ i ≤ 4611686018427387903 from by omega)
                  refine ⟨by omega, fun _ => ?_, fun (e : ¬ ((0 : Int) = 0)) => (e (by decide)).elim⟩
                  refine ⟨by omega, ?_⟩
                  refine ⟨_, hm_oi hx, trivial, _, hm_putO hx (f := 47) (v := (v_firstIn μ s i 0)) rfl rfl, ?_⟩
                  have hV114 := hV113.u (f := 47) (k := 0) (v := (v_firstIn μ s i 0)) (show 0 ≤ (v_firstIn μ s i 0) ∧ (v_firstIn μ s i 0) ≤ 4611686018427387903 from by omega)
                  refine ⟨0, rfl, ?_⟩
                  refine ⟨_, hm_oi hx, trivial, _, hm_putO hx (f := 48) (v := 0) rfl rfl, ?_⟩
                  have hV115 := hV114.u (f := 48) (k := 0) (v := 0) (show 0 ≤ 0 ∧ 0 ≤ 4611686018427387903 from by omega)
                  refine ⟨by omega, fun _ => ?_, fun (e : ¬ ((0 : Int) = 0)) => (e (by decide)).elim⟩
                  exact mi_Wsub (List.forall_mem_cons.mpr ⟨(.head _), List.forall_mem_cons.mpr ⟨(.tail _ (.head _)), List.forall_mem_cons.mpr ⟨(.tail _ (.tail _ (.tail _ (.tail _ (.tail _ (.tail _ (.head _))))))), List.forall_mem_cons.mpr ⟨(.tail _ (.tail _ (.tail _ (.tail _ (.tail _ (.tail _ (.tail _ (.head _)))))))), List.forall_mem_cons.mpr ⟨(.tail _ (.tail _ (.tail _ (.tail _ (.tail _ (.head _)))))), List.forall_mem_cons.mpr ⟨(.tail _ (.tail _ (.tail _ (.tail _ (.head _))))), List.forall_mem_cons.mpr ⟨(.tail _ (.tail _ (.tail _ (.tail _ (.tail _ (.tail _ (.tail _ (.tail _ (.tail _ (.head _)))))))))), List.forall_mem_cons.mpr ⟨(.tail _ (.tail _ (.tail _ (.tail _ (.tail _ (.tail _ (.tail _ (.tail _ (.tail _ (.tail _ (.head _))))))))))), List.forall_mem_cons.mpr ⟨(.tail _ (.tail _ (.tail _ (.tail _ (.tail _ (.tail _ (.tail _ (.tail _ (.tail _ (.tail _ (.tail _ (.head _)))))))))))), List.forall_mem_cons.mpr ⟨(.tail _ (.tail _ (.tail _ (.tail _ (.tail _ (.tail _ (.tail _ (.tail _ (.tail _ (.tail _ (.tail _ (.tail _ (.head _))))))))))))), List.forall_mem_cons.mpr ⟨(.tail _ (.tail _ (.tail _ (.tail _ (.tail _ (.tail _ (.tail _ (.tail _ (.head _))))))))), fun _ h => absurd h List.not_mem_nil⟩⟩⟩⟩⟩⟩⟩⟩⟩⟩⟩) (loop115 _ _ 1202 1 0 (v_firstIn μ s i 0) 0 (v_allowed μ s i) (mCnt μ s i (-1) (mTot μ s)) (u2 (u2 (u2 (u2 (u2 μ 49 0 0) 45 0 8) 46 0 i) 47 0 (v_firstIn μ s i 0)) 48 0 0) hV115 (show 1 = 0 ∨ 1 = 1 from by omega) (show 0 ≤ 0 ∧ 0 ≤ 1200 from by omega) (show 0 ≤ (v_firstIn μ s i 0) ∧ (v_firstIn μ s i 0) + 0 ≤ (mCnt μ s i (-1) (mTot μ s)) ∧ (mCnt μ s i (-1) (mTot μ s)) ≤ 65536 from by omega) (show 0 ≤ 0 ∧ 0 ≤ 2 from by omega) (show 0 ≤ (v_allowed μ s i) ∧ (v_allowed μ s i) ≤ 4611686018427387903 from by omega) (show 8 = 8 from by omega) (show mCnt μ s i (-1) (mTot μ s) ≤ mRem (μ 37) i (65536 * s).toNat (μ 36 s.toNat).toNat from by rw [mRem_cnt]; exact Int.le_refl _) (show (1200 - 0 + 1) < (1202 : Int) from by omega) (by unfold v_fillsStream; rw [if_pos e30, if_pos e33, if_neg e34, if_neg e83, if_neg e92, if_neg e108, if_pos e109, if_neg e110]) (by unfold s_fillsStream; rw [if_pos e30, if_pos e33, if_neg e34, if_neg e83, if_neg e92, if_neg e108, if_pos e109, if_neg e110]))
                · exact ⟨(Or.inl rfl), mRetIP (P := fun r m => r = 1 → m 49 0 ≤ 1200) (by unfold v_fillsStream; rw [if_pos e30, if_pos e33, if_neg e34, if_neg e83, if_neg e92, if_neg e108, if_pos e109, if_pos e110]) (by unfold s_fillsStream; rw [if_pos e30, if_pos e33, if_neg e34, if_neg e83, if_neg e92, if_neg e108, if_pos e109, if_pos e110]) hV (fun (q : 0 = 1) => by first | assumption | omega), Nat.le_refl _, Nat.le_refl _⟩
              · refine ⟨by omega, fun (e : (1 : Int) = 0) => absurd e (by decide), fun _ => ?_⟩
                refine ⟨by omega, fun _ => ?_, fun (e : ¬ ((0 : Int) = 0)) => (e (by decide)).elim⟩
                exact ⟨(Or.inl rfl), mRetIP (P := fun r m => r = 1 → m 49 0 ≤ 1200) (by unfold v_fillsStream; rw [if_pos e30, if_pos e33, if_neg e34, if_neg e83, if_neg e92, if_neg e108, if_neg e109]) (by unfold s_fillsStream; rw [if_pos e30, if_pos e33, if_neg e34, if_neg e83, if_neg e92, if_neg e108, if_neg e109]) hV (fun (q : 0 = 1) => by first | assumption | omega), Nat.le_refl _, Nat.le_refl _⟩
            · refine ⟨by omega, fun (e116 : 0 ≤ (v_firstIn μ s i 0)) => ?_, fun (e116 : ¬ (0 ≤ (v_firstIn μ s i 0))) => ?_⟩
              · refine ⟨by omega, fun _ => ?_, fun (e : ¬ ((0 : Int) = 0)) => (e (by decide)).elim⟩
                refine ⟨by omega, fun (e : ¬ ((0 : Int) = 0)) => (e (by decide)).elim, fun _ => ?_⟩
                refine ⟨0, rfl, ?_⟩
                refine ⟨by omega, fun (e117 : ¬ ((v_allowed μ s i) = 0)) => ?_, fun (e117 : (v_allowed μ s i) = 0) => ?_⟩
                · refine ⟨_, hm_oi hx, trivial, _, hm_putO hx (f := 49) (v := 0) rfl rfl, ?_⟩
                  have hV118 := hV.u (f := 49) (k := 0) (v := 0) (show 0 ≤ 0 ∧ 0 ≤ 2048 from by omega)
                  refine ⟨_, hm_oi hx, trivial, _, hm_putO hx (f := 45) (v := 8) rfl rfl, ?_⟩
                  have hV119 := hV118.u (f := 45) (k := 0) (v := 8) (show 0 ≤ 8 ∧ 8 ≤ 23 from by omega)
                  refine ⟨by omega, ?_⟩
                  refine ⟨_, hm_oi hx, trivial, _, hm_putO hx (f := 46) (v := i) rfl rfl, ?_⟩
                  have hV120 := hV119.u (f := 46) (k := 0) (v := i) (show 0 ≤ i ∧ i ≤ 4611686018427387903 from by omega)
                  refine ⟨by omega, fun _ => ?_, fun (e : ¬ ((0 : Int) = 0)) => (e (by decide)).elim⟩
                  refine ⟨by omega, ?_⟩
                  refine ⟨_, hm_oi hx, trivial, _, hm_putO hx (f := 47) (v := (v_firstIn μ s i 0)) rfl rfl, ?_⟩
                  have hV121 := hV120.u (f := 47) (k := 0) (v := (v_firstIn μ s i 0)) (show 0 ≤ (v_firstIn μ s i 0) ∧ (v_firstIn μ s i 0) ≤ 4611686018427387903 from by omega)
                  refine ⟨0, rfl, ?_⟩
                  refine ⟨_, hm_oi hx, trivial, _, hm_putO hx (f := 48) (v := 0) rfl rfl, ?_⟩
                  have hV122 := hV121.u (f := 48) (k := 0) (v := 0) (show 0 ≤ 0 ∧ 0 ≤ 4611686018427387903 from by omega)
                  refine ⟨by omega, fun _ => ?_, fun (e : ¬ ((0 : Int) = 0)) => (e (by decide)).elim⟩
                  exact mi_Wsub (List.forall_mem_cons.mpr ⟨(.head _), List.forall_mem_cons.mpr ⟨(.tail _ (.head _)), List.forall_mem_cons.mpr ⟨(.tail _ (.tail _ (.tail _ (.tail _ (.tail _ (.tail _ (.head _))))))), List.forall_mem_cons.mpr ⟨(.tail _ (.tail _ (.tail _ (.tail _ (.tail _ (.tail _ (.tail _ (.head _)))))))), List.forall_mem_cons.mpr ⟨(.tail _ (.tail _ (.tail _ (.tail _ (.tail _ (.head _)))))), List.forall_mem_cons.mpr ⟨(.tail _ (.tail _ (.tail _ (.tail _ (.head _))))), List.forall_mem_cons.mpr ⟨(.tail _ (.tail _ (.tail _ (.tail _ (.tail _ (.tail _ (.tail _ (.tail _ (.tail _ (.head _)))))))))), List.forall_mem_cons.mpr ⟨(.tail _ (.tail _ (.tail _ (.tail _ (.tail _ (.tail _ (.tail _ (.tail _ (.tail _ (.tail _ (.head _))))))))))), List.forall_mem_cons.mpr ⟨(.tail _ (.tail _ (.tail _ (.tail _ (.tail _ (.tail _ (.tail _ (.tail _ (.tail _ (.tail _ (.tail _ (.head _)))))))))))), List.forall_mem_cons.mpr ⟨(.tail _ (.tail _ (.tail _ (.tail _ (.tail _ (.tail _ (.tail _ (.tail _ (.tail _ (.tail _ (.tail _ (.tail _ (.head _))))))))))))), List.forall_mem_cons.mpr ⟨(.tail _ (.tail _ (.tail _ (.tail _ (.tail _ (.tail _ (.tail _ (.tail _ (.head _))))))))), fun _ h => absurd h List.not_mem_nil⟩⟩⟩⟩⟩⟩⟩⟩⟩⟩⟩) (loop115 _ _ 1202 1 0 (v_firstIn μ s i 0) 0 (v_allowed μ s i) (mCnt μ s i (-1) (mTot μ s)) (u2 (u2 (u2 (u2 (u2 μ 49 0 0) 45 0 8) 46 0 i) 47 0 (v_firstIn μ s i 0)) 48 0 0) hV122 (show 1 = 0 ∨ 1 = 1 from by omega) (show 0 ≤ 0 ∧ 0 ≤ 1200 from by omega) (show 0 ≤ (v_firstIn μ s i 0) ∧ (v_firstIn μ s i 0) + 0 ≤ (mCnt μ s i (-1) (mTot μ s)) ∧ (mCnt μ s i (-1) (mTot μ s)) ≤ 65536 from by omega) (show 0 ≤ 0 ∧ 0 ≤ 2 from by omega) (show 0 ≤ (v_allowed μ s i) ∧ (v_allowed μ s i) ≤ 4611686018427387903 from by omega) (show 8 = 8 from by omega) (show mCnt μ s i (-1) (mTot μ s) ≤ mRem (μ 37) i (65536 * s).toNat (μ 36 s.toNat).toNat from by rw [mRem_cnt]; exact Int.le_refl _) (show (1200 - 0 + 1) < (1202 : Int) from by omega) (by unfold v_fillsStream; rw [if_pos e30, if_pos e33, if_neg e34, if_neg e83, if_neg e92, if_pos e108, if_pos e116, if_neg e117]) (by unfold s_fillsStream; rw [if_pos e30, if_pos e33, if_neg e34, if_neg e83, if_neg e92, if_pos e108, if_pos e116, if_neg e117]))
                · exact ⟨(Or.inl rfl), mRetIP (P := fun r m => r = 1 → m 49 0 ≤ 1200) (by unfold v_fillsStream; rw [if_pos e30, if_pos e33, if_neg e34, if_neg e83, if_neg e92, if_pos e108, if_pos e116, if_pos e117]) (by unfold s_fillsStream; rw [if_pos e30, if_pos e33, if_neg e34, if_neg e83, if_neg e92, if_pos e108, if_pos e116, if_pos e117]) hV (fun (q : 0 = 1) => by first | assumption | omega), Nat.le_refl _, Nat.le_refl _⟩
              · refine ⟨by omega, fun (e : (1 : Int) = 0) => absurd e (by decide), fun _ => ?_⟩
                refine ⟨by omega, fun (e : (1 : Int) = 0) => absurd e (by decide), fun _ => ?_⟩
                refine ⟨by omega, fun _ => ?_, fun (e : (1 : Int) = 0) => absurd e (by decide)⟩
                refine ⟨_, hm_oi hx, trivial, _, hm_putO hx (f := 49) (v := 0) rfl rfl, ?_⟩
                have hV123 := hV.u (f := 49) (k := 0) (v := 0) (show 0 ≤ 0 ∧ 0 ≤ 2048 from by omega)
                refine ⟨_, hm_oi hx, trivial, _, hm_putO hx (f := 45) (v := 8) rfl rfl, ?_⟩
                have hV124 := hV123.u (f := 45) (k := 0) (v := 8) (show 0 ≤ 8 ∧ 8 ≤ 23 from by omega)
                refine ⟨by omega, ?_⟩
                refine ⟨_, hm_oi hx, trivial, _, hm_putO hx (f := 46) (v := i) rfl rfl, ?_⟩
                have hV125 := hV124.u (f := 46) (k := 0) (v := i) (show 0 ≤ i ∧ i ≤ 4611686018427387903 from by omega)
                refine ⟨by omega, fun (e : (1 : Int) = 0) => absurd e (by decide), fun _ => ?_⟩
                refine ⟨by omega, ?_⟩
                refine ⟨_, hm_oi hx, trivial, _, hm_putO hx (f := 47) (v := (mCnt μ s i (-1) (mTot μ s))) rfl rfl, ?_⟩
                have hV126 := hV125.u (f := 47) (k := 0) (v := (mCnt μ s i (-1) (mTot μ s))) (show 0 ≤ (mCnt μ s i (-1) (mTot μ s)) ∧ (mCnt μ s i (-1) (mTot μ s)) ≤ 4611686018427387903 from by omega)
                refine ⟨0, rfl, ?_⟩
                refine ⟨_, hm_oi hx, trivial, _, hm_putO hx (f := 48) (v := 0) rfl rfl, ?_⟩
                have hV127 := hV126.u (f := 48) (k := 0) (v := 0) (show 0 ≤ 0 ∧ 0 ≤ 4611686018427387903 from by omega)
                refine ⟨by omega, fun (e : (1 : Int) = 0) => absurd e (by decide), fun _ => ?_⟩
                refine ⟨⟨_, hm_oi hx⟩, _, _, _, _, (m_endAlone hF htr hx hV127 (s := s) (i := i) (r := r) (by omega) (by omega) (by omega) (by omega) (by omega) (by omega) (show (0 : Int) ≤ 1200 from by decide)), Nat.le_refl _, Nat.le_refl _, mkis_ (r := some (aI (v_endAlone (u2 (u2 (u2 (u2 (u2 μ 49 0 0) 45 0 8) 46 0 i) 47 0 (mCnt μ s i (-1) (mTot μ s))) 48 0 0) s i r))) (fun ⟨hV128, hp129⟩ => ?_), fun _ _ q => q.elim⟩
                have t130 := v_endAlone_b (u2 (u2 (u2 (u2 (u2 μ 49 0 0) 45 0 8) 46 0 i) 47 0 (mCnt μ s i (-1) (mTot μ s))) 48 0 0) s i r
                have hp129 : (v_endAlone (u2 (u2 (u2 (u2 (u2 μ 49 0 0) 45 0 8) 46 0 i) 47 0 (mCnt μ s i (-1) (mTot μ s))) 48 0 0) s i r) = 1 → (s_endAlone (u2 (u2 (u2 (u2 (u2 μ 49 0 0) 45 0 8) 46 0 i) 47 0 (mCnt μ s i (-1) (mTot μ s))) 48 0 0) s i r) 49 0 ≤ 1200 := hp129
                exact ⟨(by omega), mRetIP (P := fun r m => r = 1 → m 49 0 ≤ 1200) (by unfold v_fillsStream; rw [if_pos e30, if_pos e33, if_neg e34, if_neg e83, if_neg e92, if_pos e108, if_neg e116]) (by unfold s_fillsStream; rw [if_pos e30, if_pos e33, if_neg e34, if_neg e83, if_neg e92, if_pos e108, if_neg e116]) hV128 (fun (q : (v_endAlone (u2 (u2 (u2 (u2 (u2 μ 49 0 0) 45 0 8) 46 0 i) 47 0 (mCnt μ s i (-1) (mTot μ s))) 48 0 0) s i r) = 1) => show 0 ≤ 1200 from by omega), Nat.le_refl _, Nat.le_refl _⟩
    · refine ⟨65536, rfl, ?_⟩
      refine ⟨by omega, fun (e131 : 0 ≤ (v_firstIn μ s i 2)) => ?_, fun (e131 : ¬ (0 ≤ (v_firstIn μ s i 2))) => ?_⟩
      · refine ⟨⟨_, hm_oi hx⟩, _, _, _, _, (m_written hF htr hx hV.T hV.N (s := s) (i := i) (by omega) (by omega) (by omega) (by omega)), Nat.le_refl _, Nat.le_refl _, mki_ (r := some (aI (mCnt μ s i (-1) (mTot μ s)))) ?_, fun _ _ q => q.elim⟩
        refine ⟨_, hm_oi hx, aR (A 19), rfl, ?_⟩
        refine ⟨512, _, (μ 19 (mj s i)), hm_a hx 19 rfl, by omega, rfl, ?_⟩
        have t132 := (show 0 ≤ μ 19 (mj s i) ∧ μ 19 (mj s i) ≤ 1 from hV.g 19 (mj s i))
        refine ⟨by omega, fun (e133 : (μ 19 (mj s i)) = 0) => ?_, fun (e133 : ¬ ((μ 19 (mj s i)) = 0)) => ?_⟩
        · refine ⟨by omega, fun (e134 : 0 ≤ (v_firstIn μ s i 2)) => ?_, fun (e134 : ¬ (0 ≤ (v_firstIn μ s i 2))) => ?_⟩
          · refine ⟨by omega, fun _ => ?_, fun (e : ¬ ((0 : Int) = 0)) => (e (by decide)).elim⟩
            refine ⟨by omega, fun (e : ¬ ((0 : Int) = 0)) => (e (by decide)).elim, fun _ => ?_⟩
            refine ⟨0, rfl, ?_⟩
            refine ⟨by omega, fun _ => ?_, fun (e : (65536 : Int) = 0) => absurd e (by decide)⟩
            refine ⟨_, hm_oi hx, trivial, _, hm_putO hx (f := 49) (v := 0) rfl rfl, ?_⟩
            have hV135 := hV.u (f := 49) (k := 0) (v := 0) (show 0 ≤ 0 ∧ 0 ≤ 2048 from by omega)
            refine ⟨_, hm_oi hx, trivial, _, hm_putO hx (f := 45) (v := 8) rfl rfl, ?_⟩
            have hV136 := hV135.u (f := 45) (k := 0) (v := 8) (show 0 ≤ 8 ∧ 8 ≤ 23 from by omega)
            refine ⟨by omega, ?_⟩
            refine ⟨_, hm_oi hx, trivial, _, hm_putO hx (f := 46) (v := i) rfl rfl, ?_⟩
            have hV137 := hV136.u (f := 46) (k := 0) (v := i) (show 0 ≤ i ∧ i ≤ 4611686018427387903 from by omega)
            refine ⟨by omega, fun _ => ?_, fun (e : ¬ ((0 : Int) = 0)) => (e (by decide)).elim⟩
            refine ⟨by omega, ?_⟩
            refine ⟨_, hm_oi hx, trivial, _, hm_putO hx (f := 47) (v := (v_firstIn μ s i 2)) rfl rfl, ?_⟩
            have hV138 := hV137.u (f := 47) (k := 0) (v := (v_firstIn μ s i 2)) (show 0 ≤ (v_firstIn μ s i 2) ∧ (v_firstIn μ s i 2) ≤ 4611686018427387903 from by omega)
            refine ⟨0, rfl, ?_⟩
            refine ⟨_, hm_oi hx, trivial, _, hm_putO hx (f := 48) (v := 0) rfl rfl, ?_⟩
            have hV139 := hV138.u (f := 48) (k := 0) (v := 0) (show 0 ≤ 0 ∧ 0 ≤ 4611686018427387903 from by omega)
            refine ⟨by omega, fun _ => ?_, fun (e : ¬ ((0 : Int) = 0)) => (e (by decide)).elim⟩
            exact mi_Wsub (List.forall_mem_cons.mpr ⟨(.head _), List.forall_mem_cons.mpr ⟨(.tail _ (.head _)), List.forall_mem_cons.mpr ⟨(.tail _ (.tail _ (.tail _ (.tail _ (.tail _ (.tail _ (.tail _ (.head _)))))))), List.forall_mem_cons.mpr ⟨(.tail _ (.tail _ (.tail _ (.tail _ (.tail _ (.tail _ (.head _))))))), List.forall_mem_cons.mpr ⟨(.tail _ (.tail _ (.tail _ (.tail _ (.tail _ (.head _)))))), List.forall_mem_cons.mpr ⟨(.tail _ (.tail _ (.tail _ (.tail _ (.head _))))), List.forall_mem_cons.mpr ⟨(.tail _ (.tail _ (.tail _ (.tail _ (.tail _ (.tail _ (.tail _ (.tail _ (.tail _ (.head _)))))))))), List.forall_mem_cons.mpr ⟨(.tail _ (.tail _ (.tail _ (.tail _ (.tail _ (.tail _ (.tail _ (.tail _ (.tail _ (.tail _ (.head _))))))))))), List.forall_mem_cons.mpr ⟨(.tail _ (.tail _ (.tail _ (.tail _ (.tail _ (.tail _ (.tail _ (.tail _ (.tail _ (.tail _ (.tail _ (.head _)))))))))))), List.forall_mem_cons.mpr ⟨(.tail _ (.tail _ (.tail _ (.tail _ (.tail _ (.tail _ (.tail _ (.tail _ (.tail _ (.tail _ (.tail _ (.tail _ (.head _))))))))))))), List.forall_mem_cons.mpr ⟨(.tail _ (.tail _ (.tail _ (.tail _ (.tail _ (.tail _ (.tail _ (.tail _ (.head _))))))))), fun _ h => absurd h List.not_mem_nil⟩⟩⟩⟩⟩⟩⟩⟩⟩⟩⟩) (loop115 _ _ 1202 1 0 (v_firstIn μ s i 2) 2 65536 (mCnt μ s i (-1) (mTot μ s)) (u2 (u2 (u2 (u2 (u2 μ 49 0 0) 45 0 8) 46 0 i) 47 0 (v_firstIn μ s i 2)) 48 0 0) hV139 (show 1 = 0 ∨ 1 = 1 from by omega) (show 0 ≤ 0 ∧ 0 ≤ 1200 from by omega) (show 0 ≤ (v_firstIn μ s i 2) ∧ (v_firstIn μ s i 2) + 0 ≤ (mCnt μ s i (-1) (mTot μ s)) ∧ (mCnt μ s i (-1) (mTot μ s)) ≤ 65536 from by omega) (show 0 ≤ 2 ∧ 2 ≤ 2 from by omega) (show 0 ≤ 65536 ∧ 65536 ≤ 4611686018427387903 from by omega) (show 8 = 8 from by omega) (show mCnt μ s i (-1) (mTot μ s) ≤ mRem (μ 37) i (65536 * s).toNat (μ 36 s.toNat).toNat from by rw [mRem_cnt]; exact Int.le_refl _) (show (1200 - 0 + 1) < (1202 : Int) from by omega) (by unfold v_fillsStream; rw [if_pos e30, if_neg e33, if_pos e131, if_pos e133, if_pos e134]) (by unfold s_fillsStream; rw [if_pos e30, if_neg e33, if_pos e131, if_pos e133, if_pos e134]))
          · refine ⟨by omega, fun (e : (1 : Int) = 0) => absurd e (by decide), fun _ => ?_⟩
            refine ⟨by omega, fun _ => ?_, fun (e : ¬ ((0 : Int) = 0)) => (e (by decide)).elim⟩
            exact ⟨(Or.inl rfl), mRetIP (P := fun r m => r = 1 → m 49 0 ≤ 1200) (by unfold v_fillsStream; rw [if_pos e30, if_neg e33, if_pos e131, if_pos e133, if_neg e134]) (by unfold s_fillsStream; rw [if_pos e30, if_neg e33, if_pos e131, if_pos e133, if_neg e134]) hV (fun (q : 0 = 1) => by first | assumption | omega), Nat.le_refl _, Nat.le_refl _⟩
        · refine ⟨_, hm_oi hx, aR (A 20), rfl, ?_⟩
          refine ⟨512, _, (μ 20 (mj s i)), hm_a hx 20 rfl, by omega, rfl, ?_⟩
          have t140 := (show 0 ≤ μ 20 (mj s i) ∧ μ 20 (mj s i) ≤ 3 from hV.g 20 (mj s i))
          refine ⟨by omega, fun (e141 : (μ 20 (mj s i)) = 0) => ?_, fun (e141 : ¬ ((μ 20 (mj s i)) = 0)) => ?_⟩
          · refine ⟨by omega, fun (e142 : 0 ≤ (v_firstIn μ s i 2)) => ?_, fun (e142 : ¬ (0 ≤ (v_firstIn μ s i 2))) => ?_⟩
            · refine ⟨by omega, fun _ => ?_, fun (e : ¬ ((0 : Int) = 0)) => (e (by decide)).elim⟩
              refine ⟨by omega, fun (e : ¬ ((0 : Int) = 0)) => (e (by decide)).elim, fun _ => ?_⟩
              refine ⟨0, rfl, ?_⟩
              refine ⟨by omega, fun _ => ?_, fun (e : (65536 : Int) = 0) => absurd e (by decide)⟩
              refine ⟨_, hm_oi hx, trivial, _, hm_putO hx (f := 49) (v := 0) rfl rfl, ?_⟩
              have hV143 := hV.u (f := 49) (k := 0) (v := 0) (show 0 ≤ 0 ∧ 0 ≤ 2048 from by omega)
              refine ⟨_, hm_oi hx, trivial, _, hm_putO hx (f := 45) (v := 8) rfl rfl, ?_⟩
              have hV144 := hV143.u (f := 45) (k := 0) (v := 8) (show 0 ≤ 8 ∧ 8 ≤ 23 from by omega)
              refine ⟨by omega, ?_⟩
              refine ⟨_, hm_oi hx, trivial, _, hm_putO hx (f := 46) (v := i) rfl rfl, ?_⟩
              have hV145 := hV144.u (f := 46) (k := 0) (v := i) (show 0 ≤ i ∧ i ≤ 4611686018427387903 from by omega)
              refine ⟨by omega, fun _ => ?_, fun (e : ¬ ((0 : Int) = 0)) => (e (by decide)).elim⟩
              refine ⟨by omega, ?_⟩
              refine ⟨_, hm_oi hx, trivial, _, hm_putO hx (f := 47) (v := (v_firstIn μ s i 2)) rfl rfl, ?_⟩
              have hV146 := hV145.u (f := 47) (k := 0) (v := (v_firstIn μ s i 2)) (show 0 ≤ (v_firstIn μ s i 2) ∧ (v_firstIn μ s i 2) ≤ 4611686018427387903 from by omega)
              refine ⟨0, rfl, ?_⟩
              refine ⟨_, hm_oi hx, trivial, _, hm_putO hx (f := 48) (v := 0) rfl rfl, ?_⟩
              have hV147 := hV146.u (f := 48) (k := 0) (v := 0) (show 0 ≤ 0 ∧ 0 ≤ 4611686018427387903 from by omega)
              refine ⟨by omega, fun _ => ?_, fun (e : ¬ ((0 : Int) = 0)) => (e (by decide)).elim⟩
              exact mi_Wsub (List.forall_mem_cons.mpr ⟨(.head _), List.forall_mem_cons.mpr ⟨(.tail _ (.head _)), List.forall_mem_cons.mpr ⟨(.tail _ (.tail _ (.tail _ (.tail _ (.tail _ (.tail _ (.tail _ (.head _)))))))), List.forall_mem_cons.mpr ⟨(.tail _ (.tail _ (.tail _ (.tail _ (.tail _ (.tail _ (.head _))))))), List.forall_mem_cons.mpr ⟨(.tail _ (.tail _ (.tail _ (.tail _ (.tail _ (.head _)))))), List.forall_mem_cons.mpr ⟨(.tail _ (.tail _ (.tail _ (.tail _ (.head _))))), List.forall_mem_cons.mpr ⟨(.tail _ (.tail _ (.tail _ (.tail _ (.tail _ (.tail _ (.tail _ (.tail _ (.tail _ (.head _)))))))))), List.forall_mem_cons.mpr ⟨(.tail _ (.tail _ (.tail _ (.tail _ (.tail _ (.tail _ (.tail _ (.tail _ (.tail _ (.tail _ (.head _))))))))))), List.forall_mem_cons.mpr ⟨(.tail _ (.tail _ (.tail _ (.tail _ (.tail _ (.tail _ (.tail _ (.tail _ (.tail _ (.tail _ (.tail _ (.head _)))))))))))), List.forall_mem_cons.mpr ⟨(.tail _ (.tail _ (.tail _ (.tail _ (.tail _ (.tail _ (.tail _ (.tail _ (.tail _ (.tail _ (.tail _ (.tail _ (.head _))))))))))))), List.forall_mem_cons.mpr ⟨(.tail _ (.tail _ (.tail _ (.tail _ (.tail _ (.tail _ (.tail _ (.tail _ (.head _))))))))), fun _ h => absurd h List.not_mem_nil⟩⟩⟩⟩⟩⟩⟩⟩⟩⟩⟩) (loop115 _ _ 1202 1 0 (v_firstIn μ s i 2) 2 65536 (mCnt μ s i (-1) (mTot μ s)) (u2 (u2 (u2 (u2 (u2 μ 49 0 0) 45 0 8) 46 0 i) 47 0 (v_firstIn μ s i 2)) 48 0 0) hV147 (show 1 = 0 ∨ 1 = 1 from by omega) (show 0 ≤ 0 ∧ 0 ≤ 1200 from by omega) (show 0 ≤ (v_firstIn μ s i 2) ∧ (v_firstIn μ s i 2) + 0 ≤ (mCnt μ s i (-1) (mTot μ s)) ∧ (mCnt μ s i (-1) (mTot μ s)) ≤ 65536 from by omega) (show 0 ≤ 2 ∧ 2 ≤ 2 from by omega) (show 0 ≤ 65536 ∧ 65536 ≤ 4611686018427387903 from by omega) (show 8 = 8 from by omega) (show mCnt μ s i (-1) (mTot μ s) ≤ mRem (μ 37) i (65536 * s).toNat (μ 36 s.toNat).toNat from by rw [mRem_cnt]; exact Int.le_refl _) (show (1200 - 0 + 1) < (1202 : Int) from by omega) (by unfold v_fillsStream; rw [if_pos e30, if_neg e33, if_pos e131, if_neg e133, if_pos e141, if_pos e142]) (by unfold s_fillsStream; rw [if_pos e30, if_neg e33, if_pos e131, if_neg e133, if_pos e141, if_pos e142]))
            · refine ⟨by omega, fun (e : (1 : Int) = 0) => absurd e (by decide), fun _ => ?_⟩
              refine ⟨by omega, fun (e : (1 : Int) = 0) => absurd e (by decide), fun _ => ?_⟩
              refine ⟨by omega, fun _ => ?_, fun (e : (1 : Int) = 0) => absurd e (by decide)⟩
              refine ⟨_, hm_oi hx, trivial, _, hm_putO hx (f := 49) (v := 0) rfl rfl, ?_⟩
              have hV148 := hV.u (f := 49) (k := 0) (v := 0) (show 0 ≤ 0 ∧ 0 ≤ 2048 from by omega)
              refine ⟨_, hm_oi hx, trivial, _, hm_putO hx (f := 45) (v := 8) rfl rfl, ?_⟩
              have hV149 := hV148.u (f := 45) (k := 0) (v := 8) (show 0 ≤ 8 ∧ 8 ≤ 23 from by omega)
              refine ⟨by omega, ?_⟩
              refine ⟨_, hm_oi hx, trivial, _, hm_putO hx (f := 46) (v := i) rfl rfl, ?_⟩
              have hV150 := hV149.u (f := 46) (k := 0) (v := i) (show 0 ≤ i ∧ i ≤ 4611686018427387903 from by omega)
              refine ⟨by omega, fun (e : (1 : Int) = 0) => absurd e (by decide), fun _ => ?_⟩
              refine ⟨by omega, ?_⟩
              refine ⟨_, hm_oi hx, trivial, _, hm_putO hx (f := 47) (v := (mCnt μ s i (-1) (mTot μ s))) rfl rfl, ?_⟩
              have hV151 := hV150.u (f := 47) (k := 0) (v := (mCnt μ s i (-1) (mTot μ s))) (show 0 ≤ (mCnt μ s i (-1) (mTot μ s)) ∧ (mCnt μ s i (-1) (mTot μ s)) ≤ 4611686018427387903 from by omega)
              refine ⟨0, rfl, ?_⟩
              refine ⟨_, hm_oi hx, trivial, _, hm_putO hx (f := 48) (v := 0) rfl rfl, ?_⟩
              have hV152 := hV151.u (f := 48) (k := 0) (v := 0) (show 0 ≤ 0 ∧ 0 ≤ 4611686018427387903 from by omega)
              refine ⟨by omega, fun (e : (1 : Int) = 0) => absurd e (by decide), fun _ => ?_⟩
              refine ⟨⟨_, hm_oi hx⟩, _, _, _, _, (m_endAlone hF htr hx hV152 (s := s) (i := i) (r := r) (by omega) (by omega) (by omega) (by omega) (by omega) (by omega) (show (0 : Int) ≤ 1200 from by decide)), Nat.le_refl _, Nat.le_refl _, mkis_ (r := some (aI (v_endAlone (u2 (u2 (u2 (u2 (u2 μ 49 0 0) 45 0 8) 46 0 i) 47 0 (mCnt μ s i (-1) (mTot μ s))) 48 0 0) s i r))) (fun ⟨hV153, hp154⟩ => ?_), fun _ _ q => q.elim⟩
              have t155 := v_endAlone_b (u2 (u2 (u2 (u2 (u2 μ 49 0 0) 45 0 8) 46 0 i) 47 0 (mCnt μ s i (-1) (mTot μ s))) 48 0 0) s i r
              have hp154 : (v_endAlone (u2 (u2 (u2 (u2 (u2 μ 49 0 0) 45 0 8) 46 0 i) 47 0 (mCnt μ s i (-1) (mTot μ s))) 48 0 0) s i r) = 1 → (s_endAlone (u2 (u2 (u2 (u2 (u2 μ 49 0 0) 45 0 8) 46 0 i) 47 0 (mCnt μ s i (-1) (mTot μ s))) 48 0 0) s i r) 49 0 ≤ 1200 := hp154
              exact ⟨(by omega), mRetIP (P := fun r m => r = 1 → m 49 0 ≤ 1200) (by unfold v_fillsStream; rw [if_pos e30, if_neg e33, if_pos e131, if_neg e133, if_pos e141, if_neg e142]) (by unfold s_fillsStream; rw [if_pos e30, if_neg e33, if_pos e131, if_neg e133, if_pos e141, if_neg e142]) hV153 (fun (q : (v_endAlone (u2 (u2 (u2 (u2 (u2 μ 49 0 0) 45 0 8) 46 0 i) 47 0 (mCnt μ s i (-1) (mTot μ s))) 48 0 0) s i r) = 1) => show 0 ≤ 1200 from by omega), Nat.le_refl _, Nat.le_refl _⟩
          · refine ⟨_, hm_oi hx, aR (A 20), rfl, ?_⟩
            refine ⟨512, _, (μ 20 (mj s i)), hm_a hx 20 rfl, by omega, rfl, ?_⟩
            refine ⟨by omega, fun (e156 : ¬ ((μ 20 (mj s i)) = 2)) => ?_, fun (e156 : (μ 20 (mj s i)) = 2) => ?_⟩
            · refine ⟨by omega, fun (e157 : 0 ≤ (v_firstIn μ s i 2)) => ?_, fun (e157 : ¬ (0 ≤ (v_firstIn μ s i 2))) => ?_⟩
              · refine ⟨by omega, fun _ => ?_, fun (e : ¬ ((0 : Int) = 0)) => (e (by decide)).elim⟩
                refine ⟨by omega, fun (e : ¬ ((0 : Int) = 0)) => (e (by decide)).elim, fun _ => ?_⟩
                refine ⟨0, rfl, ?_⟩
                refine ⟨by omega, fun _ => ?_, fun (e : (65536 : Int) = 0) => absurd e (by decide)⟩
                refine ⟨_, hm_oi hx, trivial, _, hm_putO hx (f := 49) (v := 0) rfl rfl, ?_⟩
                have hV158 := hV.u (f := 49) (k := 0) (v := 0) (show 0 ≤ 0 ∧ 0 ≤ 2048 from by omega)
                refine ⟨_, hm_oi hx, trivial, _, hm_putO hx (f := 45) (v := 8) rfl rfl, ?_⟩
                have hV159 := hV158.u (f := 45) (k := 0) (v := 8) (show 0 ≤ 8 ∧ 8 ≤ 23 from by omega)
                refine ⟨by omega, ?_⟩
                refine ⟨_, hm_oi hx, trivial, _, hm_putO hx (f := 46) (v := i) rfl rfl, ?_⟩
                have hV160 := hV159.u (f := 46) (k := 0) (v := i) (show 0 ≤ i ∧ i ≤ 4611686018427387903 from by omega)
                refine ⟨by omega, fun _ => ?_, fun (e : ¬ ((0 : Int) = 0)) => (e (by decide)).elim⟩
                refine ⟨by omega, ?_⟩
                refine ⟨_, hm_oi hx, trivial, _, hm_putO hx (f := 47) (v := (v_firstIn μ s i 2)) rfl rfl, ?_⟩
                have hV161 := hV160.u (f := 47) (k := 0) (v := (v_firstIn μ s i 2)) (show 0 ≤ (v_firstIn μ s i 2) ∧ (v_firstIn μ s i 2) ≤ 4611686018427387903 from by omega)
                refine ⟨0, rfl, ?_⟩
                refine ⟨_, hm_oi hx, trivial, _, hm_putO hx (f := 48) (v := 0) rfl rfl, ?_⟩
                have hV162 := hV161.u (f := 48) (k := 0) (v := 0) (show 0 ≤ 0 ∧ 0 ≤ 4611686018427387903 from by omega)
                refine ⟨by omega, fun _ => ?_, fun (e : ¬ ((0 : Int) = 0)) => (e (by decide)).elim⟩
                exact mi_Wsub (List.forall_mem_cons.mpr ⟨(.head _), List.forall_mem_cons.mpr ⟨(.tail _ (.head _)), List.forall_mem_cons.mpr ⟨(.tail _ (.tail _ (.tail _ (.tail _ (.tail _ (.tail _ (.tail _ (.head _)))))))), List.forall_mem_cons.mpr ⟨(.tail _ (.tail _ (.tail _ (.tail _ (.tail _ (.tail _ (.head _))))))), List.forall_mem_cons.mpr ⟨(.tail _ (.tail _ (.tail _ (.tail _ (.tail _ (.head _)))))), List.forall_mem_cons.mpr ⟨(.tail _ (.tail _ (.tail _ (.tail _ (.head _))))), List.forall_mem_cons.mpr ⟨(.tail _ (.tail _ (.tail _ (.tail _ (.tail _ (.tail _ (.tail _ (.tail _ (.tail _ (.head _)))))))))), List.forall_mem_cons.mpr ⟨(.tail _ (.tail _ (.tail _ (.tail _ (.tail _ (.tail _ (.tail _ (.tail _ (.tail _ (.tail _ (.head _))))))))))), List.forall_mem_cons.mpr ⟨(.tail _ (.tail _ (.tail _ (.tail _ (.tail _ (.tail _ (.tail _ (.tail _ (.tail _ (.tail _ (.tail _ (.head _)))))))))))), List.forall_mem_cons.mpr ⟨(.tail _ (.tail _ (.tail _ (.tail _ (.tail _ (.tail _ (.tail _ (.tail _ (.tail _ (.tail _ (.tail _ (.tail _ (.head _))))))))))))), List.forall_mem_cons.mpr ⟨(.tail _ (.tail _ (.tail _ (.tail _ (.tail _ (.tail _ (.tail _ (.tail _ (.head _))))))))), fun _ h => absurd h List.not_mem_nil⟩⟩⟩⟩⟩⟩⟩⟩⟩⟩⟩) (loop115 _ _ 1202 1 0 (v_firstIn μ s i 2) 2 65536 (mCnt μ s i (-1) (mTot μ s)) (u2 (u2 (u2 (u2 (u2 μ 49 0 0) 45 0 8) 46 0 i) 47 0 (v_firstIn μ s i 2)) 48 0 0) hV162 (show 1 = 0 ∨ 1 = 1 from by omega) (show 0 ≤ 0 ∧ 0 ≤ 1200 from by omega) (show 0 ≤ (v_firstIn μ s i 2) ∧ (v_firstIn μ s i 2) + 0 ≤ (mCnt μ s i (-1) (mTot μ s)) ∧ (mCnt μ s i (-1) (mTot μ s)) ≤ 65536 from by omega) (show 0 ≤ 2 ∧ 2 ≤ 2 from by omega) (show 0 ≤ 65536 ∧ 65536 ≤ 4611686018427387903 from by omega) (show 8 = 8 from by omega) (show mCnt μ s i (-1) (mTot μ s) ≤ mRem (μ 37) i (65536 * s).toNat (μ 36 s.toNat).toNat from by rw [mRem_cnt]; exact Int.le_refl _) (show (1200 - 0 + 1) < (1202 : Int) from by omega) (by unfold v_fillsStream; rw [if_pos e30, if_neg e33, if_pos e131, if_neg e133, if_neg e141, if_neg e156, if_pos e157]) (by unfold s_fillsStream; rw [if_pos e30, if_neg e33, if_pos e131, if_neg e133, if_neg e141, if_neg e156, if_pos e157]))
              · refine ⟨by omega, fun (e : (1 : Int) = 0) => absurd e (by decide), fun _ => ?_⟩
                refine ⟨by omega, fun _ => ?_, fun (e : ¬ ((0 : Int) = 0)) => (e (by decide)).elim⟩
                exact ⟨(Or.inl rfl), mRetIP (P := fun r m => r = 1 → m 49 0 ≤ 1200) (by unfold v_fillsStream; rw [if_pos e30, if_neg e33, if_pos e131, if_neg e133, if_neg e141, if_neg e156, if_neg e157]) (by unfold s_fillsStream; rw [if_pos e30, if_neg e33, if_pos e131, if_neg e133, if_neg e141, if_neg e156, if_neg e157]) hV (fun (q : 0 = 1) => by first | assumption | omega), Nat.le_refl _, Nat.le_refl _⟩
            · refine ⟨by omega, fun (e163 : 0 ≤ (v_firstIn μ s i 2)) => ?_, fun (e163 : ¬ (0 ≤ (v_firstIn μ s i 2))) => ?_⟩
              · refine ⟨by omega, fun _ => ?_, fun (e : ¬ ((0 : Int) = 0)) => (e (by decide)).elim⟩
                refine ⟨by omega, fun (e : ¬ ((0 : Int) = 0)) => (e (by decide)).elim, fun _ => ?_⟩
                refine ⟨0, rfl, ?_⟩
                refine ⟨by omega, fun _ => ?_, fun (e : (65536 : Int) = 0) => absurd e (by decide)⟩
                refine ⟨_, hm_oi hx, trivial, _, hm_putO hx (f := 49) (v := 0) rfl rfl, ?_⟩
                have hV164 := hV.u (f := 49) (k := 0) (v := 0) (show 0 ≤ 0 ∧ 0 ≤ 2048 from by omega)
                refine ⟨_, hm_oi hx, trivial, _, hm_putO hx (f := 45) (v := 8) rfl rfl, ?_⟩
                have hV165 := hV164.u (f := 45) (k := 0) (v := 8) (show 0 ≤ 8 ∧ 8 ≤ 23 from by omega)
                refine ⟨by omega, ?_⟩
                refine ⟨_, hm_oi hx, trivial, _, hm_putO hx (f := 46) (v := i) rfl rfl, ?_⟩
                have hV166 := hV165.u (f := 46) (k := 0) (v := i) (show 0 ≤ i ∧ i ≤ 4611686018427387903 from by omega)
                refine ⟨by omega, fun _ => ?_, fun (e : ¬ ((0 : Int) = 0)) => (e (by decide)).elim⟩
                refine ⟨by omega, ?_⟩
                refine ⟨_, hm_oi hx, trivial, _, hm_putO hx (f := 47) (v := (v_firstIn μ s i 2)) rfl rfl, ?_⟩
                have hV167 := hV166.u (f := 47) (k := 0) (v := (v_firstIn μ s i 2)) (show 0 ≤ (v_firstIn μ s i 2) ∧ (v_firstIn μ s i 2) ≤ 4611686018427387903 from by omega)
                refine ⟨0, rfl, ?_⟩
                refine ⟨_, hm_oi hx, trivial, _, hm_putO hx (f := 48) (v := 0) rfl rfl, ?_⟩
                have hV168 := hV167.u (f := 48) (k := 0) (v := 0) (show 0 ≤ 0 ∧ 0 ≤ 4611686018427387903 from by omega)
                refine ⟨by omega, fun _ => ?_, fun (e : ¬ ((0 : Int) = 0)) => (e (by decide)).elim⟩
                exact mi_Wsub (List.forall_mem_cons.mpr ⟨(.head _), List.forall_mem_cons.mpr ⟨(.tail _ (.head _)), List.forall_mem_cons.mpr ⟨(.tail _ (.tail _ (.tail _ (.tail _ (.tail _ (.tail _ (.tail _ (.head _)))))))), List.forall_mem_cons.mpr ⟨(.tail _ (.tail _ (.tail _ (.tail _ (.tail _ (.tail _ (.head _))))))), List.forall_mem_cons.mpr ⟨(.tail _ (.tail _ (.tail _ (.tail _ (.tail _ (.head _)))))), List.forall_mem_cons.mpr ⟨(.tail _ (.tail _ (.tail _ (.tail _ (.head _))))), List.forall_mem_cons.mpr ⟨(.tail _ (.tail _ (.tail _ (.tail _ (.tail _ (.tail _ (.tail _ (.tail _ (.tail _ (.head _)))))))))), List.forall_mem_cons.mpr ⟨(.tail _ (.tail _ (.tail _ (.tail _ (.tail _ (.tail _ (.tail _ (.tail _ (.tail _ (.tail _ (.head _))))))))))), List.forall_mem_cons.mpr ⟨(.tail _ (.tail _ (.tail _ (.tail _ (.tail _ (.tail _ (.tail _ (.tail _ (.tail _ (.tail _ (.tail _ (.head _)))))))))))), List.forall_mem_cons.mpr ⟨(.tail _ (.tail _ (.tail _ (.tail _ (.tail _ (.tail _ (.tail _ (.tail _ (.tail _ (.tail _ (.tail _ (.tail _ (.head _))))))))))))), List.forall_mem_cons.mpr ⟨(.tail _ (.tail _ (.tail _ (.tail _ (.tail _ (.tail _ (.tail _ (.tail _ (.head _))))))))), fun _ h => absurd h List.not_mem_nil⟩⟩⟩⟩⟩⟩⟩⟩⟩⟩⟩) (loop115 _ _ 1202 1 0 (v_firstIn μ s i 2) 2 65536 (mCnt μ s i (-1) (mTot μ s)) (u2 (u2 (u2 (u2 (u2 μ 49 0 0) 45 0 8) 46 0 i) 47 0 (v_firstIn μ s i 2)) 48 0 0) hV168 (show 1 = 0 ∨ 1 = 1 from by omega) (show 0 ≤ 0 ∧ 0 ≤ 1200 from by omega) (show 0 ≤ (v_firstIn μ s i 2) ∧ (v_firstIn μ s i 2) + 0 ≤ (mCnt μ s i (-1) (mTot μ s)) ∧ (mCnt μ s i (-1) (mTot μ s)) ≤ 65536 from by omega) (show 0 ≤ 2 ∧ 2 ≤ 2 from by omega) (show 0 ≤ 65536 ∧ 65536 ≤ 4611686018427387903 from by omega) (show 8 = 8 from by omega) (show mCnt μ s i (-1) (mTot μ s) ≤ mRem (μ 37) i (65536 * s).toNat (μ 36 s.toNat).toNat from by rw [mRem_cnt]; exact Int.le_refl _) (show (1200 - 0 + 1) < (1202 : Int) from by omega) (by unfold v_fillsStream; rw [if_pos e30, if_neg e33, if_pos e131, if_neg e133, if_neg e141, if_pos e156, if_pos e163]) (by unfold s_fillsStream; rw [if_pos e30, if_neg e33, if_pos e131, if_neg e133, if_neg e141, if_pos e156, if_pos e163]))
              · refine ⟨by omega, fun (e : (1 : Int) = 0) => absurd e (by decide), fun _ => ?_⟩
                refine ⟨by omega, fun (e : (1 : Int) = 0) => absurd e (by decide), fun _ => ?_⟩
                refine ⟨by omega, fun _ => ?_, fun (e : (1 : Int) = 0) => absurd e (by decide)⟩
                refine ⟨_, hm_oi hx, trivial, _, hm_putO hx (f := 49) (v := 0) rfl rfl, ?_⟩
                have hV169 := hV.u (f := 49) (k := 0) (v := 0) (show 0 ≤ 0 ∧ 0 ≤ 2048 from by omega)
                refine ⟨_, hm_oi hx, trivial, _, hm_putO hx (f := 45) (v := 8) rfl rfl, ?_⟩
                have hV170 := hV169.u (f := 45) (k := 0) (v := 8) (show 0 ≤ 8 ∧ 8 ≤ 23 from by omega)
                refine ⟨by omega, ?_⟩
                refine ⟨_, hm_oi hx, trivial, _, hm_putO hx (f := 46) (v := i) rfl rfl, ?_⟩
                have hV171 := hV170.u (f := 46) (k := 0) (v := i) (show 0 ≤ i ∧ i ≤ 4611686018427387903 from by omega)
                refine ⟨by omega, fun (e : (1 : Int) = 0) => absurd e (by decide), fun _ => ?_⟩
                refine ⟨by omega, ?_⟩
                refine ⟨_, hm_oi hx, trivial, _, hm_putO hx (f := 47) (v := (mCnt μ s i (-1) (mTot μ s))) rfl rfl, ?_⟩
                have hV172 := hV171.u (f := 47) (k := 0) (v := (mCnt μ s i (-1) (mTot μ s))) (show 0 ≤ (mCnt μ s i (-1) (mTot μ s)) ∧ (mCnt μ s i (-1) (mTot μ s)) ≤ 4611686018427387903 from by omega)
                refine ⟨0, rfl, ?_⟩
                refine ⟨_, hm_oi hx, trivial, _, hm_putO hx (f := 48) (v := 0) rfl rfl, ?_⟩
                have hV173 := hV172.u (f := 48) (k := 0) (v := 0) (show 0 ≤ 0 ∧ 0 ≤ 4611686018427387903 from by omega)
                refine ⟨by omega, fun (e : (1 : Int) = 0) => absurd e (by decide), fun _ => ?_⟩
                refine ⟨⟨_, hm_oi hx⟩, _, _, _, _, (m_endAlone hF htr hx hV173 (s := s) (i := i) (r := r) (by omega) (by omega) (by omega) (by omega) (by omega) (by omega) (show (0 : Int) ≤ 1200 from by decide)), Nat.le_refl _, Nat.le_refl _, mkis_ (r := some (aI (v_endAlone (u2 (u2 (u2 (u2 (u2 μ 49 0 0) 45 0 8) 46 0 i) 47 0 (mCnt μ s i (-1) (mTot μ s))) 48 0 0) s i r))) (fun ⟨hV174, hp175⟩ => ?_), fun _ _ q => q.elim⟩
                have t176 := v_endAlone_b (u2 (u2 (u2 (u2 (u2 μ 49 0 0) 45 0 8) 46 0 i) 47 0 (mCnt μ s i (-1) (mTot μ s))) 48 0 0) s i r
                have hp175 : (v_endAlone (u2 (u2 (u2 (u2 (u2 μ 49 0 0) 45 0 8) 46 0 i) 47 0 (mCnt μ s i (-1) (mTot μ s))) 48 0 0) s i r) = 1 → (s_endAlone (u2 (u2 (u2 (u2 (u2 μ 49 0 0) 45 0 8) 46 0 i) 47 0 (mCnt μ s i (-1) (mTot μ s))) 48 0 0) s i r) 49 0 ≤ 1200 := hp175
                exact ⟨(by omega), mRetIP (P := fun r m => r = 1 → m 49 0 ≤ 1200) (by unfold v_fillsStream; rw [if_pos e30, if_neg e33, if_pos e131, if_neg e133, if_neg e141, if_pos e156, if_neg e163]) (by unfold s_fillsStream; rw [if_pos e30, if_neg e33, if_pos e131, if_neg e133, if_neg e141, if_pos e156, if_neg e163]) hV174 (fun (q : (v_endAlone (u2 (u2 (u2 (u2 (u2 μ 49 0 0) 45 0 8) 46 0 i) 47 0 (mCnt μ s i (-1) (mTot μ s))) 48 0 0) s i r) = 1) => show 0 ≤ 1200 from by omega), Nat.le_refl _, Nat.le_refl _⟩
      · refine ⟨⟨_, hm_oi hx⟩, _, _, _, _, (m_firstIn hF htr hx hV (s := s) (i := i) (t := 0) (by omega) (by omega) (by omega) (by omega) (by omega) (by omega)), Nat.le_refl _, Nat.le_refl _, mki_ (r := some (aI (v_firstIn μ s i 0))) ?_, fun _ _ q => q.elim⟩
        have t177 := firstIn_b hV (s := s) i 0 (by omega) (by omega)
        refine ⟨⟨_, hm_oi hx⟩, _, _, _, _, (m_allowed hF htr hx hV (s := s) (i := i) (by omega) (by omega) (by omega) (by omega)), Nat.le_refl _, Nat.le_refl _, mki_ (r := some (aL (v_allowed μ s i))) ?_, fun _ _ q => q.elim⟩
        have t178 := allowed_b hV (s := s) i (by omega) (by omega)
        refine ⟨⟨_, hm_oi hx⟩, _, _, _, _, (m_written hF htr hx hV.T hV.N (s := s) (i := i) (by omega) (by omega) (by omega) (by omega)), Nat.le_refl _, Nat.le_refl _, mki_ (r := some (aI (mCnt μ s i (-1) (mTot μ s)))) ?_, fun _ _ q => q.elim⟩
        refine ⟨_, hm_oi hx, aR (A 19), rfl, ?_⟩
        refine ⟨512, _, (μ 19 (mj s i)), hm_a hx 19 rfl, by omega, rfl, ?_⟩
        have t179 := (show 0 ≤ μ 19 (mj s i) ∧ μ 19 (mj s i) ≤ 1 from hV.g 19 (mj s i))
        refine ⟨by omega, fun (e180 : (μ 19 (mj s i)) = 0) => ?_, fun (e180 : ¬ ((μ 19 (mj s i)) = 0)) => ?_⟩
        · refine ⟨by omega, fun (e181 : 0 ≤ (v_firstIn μ s i 0)) => ?_, fun (e181 : ¬ (0 ≤ (v_firstIn μ s i 0))) => ?_⟩
          · refine ⟨by omega, fun _ => ?_, fun (e : ¬ ((0 : Int) = 0)) => (e (by decide)).elim⟩
            refine ⟨by omega, fun (e : ¬ ((0 : Int) = 0)) => (e (by decide)).elim, fun _ => ?_⟩
            refine ⟨0, rfl, ?_⟩
            refine ⟨by omega, fun (e182 : ¬ ((v_allowed μ s i) = 0)) => ?_, fun (e182 : (v_allowed μ s i) = 0) => ?_⟩
            · refine ⟨_, hm_oi hx, trivial, _, hm_putO hx (f := 49) (v := 0) rfl rfl, ?_⟩
              have hV183 := hV.u (f := 49) (k := 0) (v := 0) (show 0 ≤ 0 ∧ 0 ≤ 2048 from by omega)
              refine ⟨_, hm_oi hx, trivial, _, hm_putO hx (f := 45) (v := 8) rfl rfl, ?_⟩
              have hV184 := hV183.u (f := 45) (k := 0) (v := 8) (show 0 ≤ 8 ∧ 8 ≤ 23 from by omega)
              refine ⟨by omega, ?_⟩
              refine ⟨_, hm_oi hx, trivial, _, hm_putO hx (f := 46) (v := i) rfl rfl, ?_⟩
              have hV185 := hV184.u (f := 46) (k := 0) (v := i) (show 0 ≤ i ∧ i ≤ 4611686018427387903 from by omega)
              refine ⟨by omega, fun _ => ?_, fun (e : ¬ ((0 : Int) = 0)) => (e (by decide)).elim⟩
              refine ⟨by omega, ?_⟩
              refine ⟨_, hm_oi hx, trivial, _, hm_putO hx (f := 47) (v := (v_firstIn μ s i 0)) rfl rfl, ?_⟩
              have hV186 := hV185.u (f := 47) (k := 0) (v := (v_firstIn μ s i 0)) (show 0 ≤ (v_firstIn μ s i 0) ∧ (v_firstIn μ s i 0) ≤ 4611686018427387903 from by omega)
              refine ⟨0, rfl, ?_⟩
              refine ⟨_, hm_oi hx, trivial, _, hm_putO hx (f := 48) (v := 0) rfl rfl, ?_⟩
              have hV187 := hV186.u (f := 48) (k := 0) (v := 0) (show 0 ≤ 0 ∧ 0 ≤ 4611686018427387903 from by omega)
              refine ⟨by omega, fun _ => ?_, fun (e : ¬ ((0 : Int) = 0)) => (e (by decide)).elim⟩
              exact mi_Wsub (List.forall_mem_cons.mpr ⟨(.head _), List.forall_mem_cons.mpr ⟨(.tail _ (.head _)), List.forall_mem_cons.mpr ⟨(.tail _ (.tail _ (.tail _ (.tail _ (.tail _ (.tail _ (.head _))))))), List.forall_mem_cons.mpr ⟨(.tail _ (.tail _ (.tail _ (.tail _ (.tail _ (.tail _ (.tail _ (.head _)))))))), List.forall_mem_cons.mpr ⟨(.tail _ (.tail _ (.tail _ (.tail _ (.tail _ (.head _)))))), List.forall_mem_cons.mpr ⟨(.tail _ (.tail _ (.tail _ (.tail _ (.head _))))), List.forall_mem_cons.mpr ⟨(.tail _ (.tail _ (.tail _ (.tail _ (.tail _ (.tail _ (.tail _ (.tail _ (.tail _ (.head _)))))))))), List.forall_mem_cons.mpr ⟨(.tail _ (.tail _ (.tail _ (.tail _ (.tail _ (.tail _ (.tail _ (.tail _ (.tail _ (.tail _ (.head _))))))))))), List.forall_mem_cons.mpr ⟨(.tail _ (.tail _ (.tail _ (.tail _ (.tail _ (.tail _ (.tail _ (.tail _ (.tail _ (.tail _ (.tail _ (.head _)))))))))))), List.forall_mem_cons.mpr ⟨(.tail _ (.tail _ (.tail _ (.tail _ (.tail _ (.tail _ (.tail _ (.tail _ (.tail _ (.tail _ (.tail _ (.tail _ (.head _))))))))))))), List.forall_mem_cons.mpr ⟨(.tail _ (.tail _ (.tail _ (.tail _ (.tail _ (.tail _ (.tail _ (.tail _ (.head _))))))))), fun _ h => absurd h List.not_mem_nil⟩⟩⟩⟩⟩⟩⟩⟩⟩⟩⟩) (loop115 _ _ 1202 1 0 (v_firstIn μ s i 0) 2 (v_allowed μ s i) (mCnt μ s i (-1) (mTot μ s)) (u2 (u2 (u2 (u2 (u2 μ 49 0 0) 45 0 8) 46 0 i) 47 0 (v_firstIn μ s i 0)) 48 0 0) hV187 (show 1 = 0 ∨ 1 = 1 from by omega) (show 0 ≤ 0 ∧ 0 ≤ 1200 from by omega) (show 0 ≤ (v_firstIn μ s i 0) ∧ (v_firstIn μ s i 0) + 0 ≤ (mCnt μ s i (-1) (mTot μ s)) ∧ (mCnt μ s i (-1) (mTot μ s)) ≤ 65536 from by omega) (show 0 ≤ 2 ∧ 2 ≤ 2 from by omega) (show 0 ≤ (v_allowed μ s i) ∧ (v_allowed μ s i) ≤ 4611686018427387903 from by omega) (show 8 = 8 from by omega) (show mCnt μ s i (-1) (mTot μ s) ≤ mRem (μ 37) i (65536 * s).toNat (μ 36 s.toNat).toNat from by rw [mRem_cnt]; exact Int.le_refl _) (show (1200 - 0 + 1) < (1202 : Int) from by omega) (by unfold v_fillsStream; rw [if_pos e30, if_neg e33, if_neg e131, if_pos e180, if_pos e181, if_neg e182]) (by unfold s_fillsStream; rw [if_pos e30, if_neg e33, if_neg e131, if_pos e180, if_pos e181, if_neg e182]))
            · exact ⟨(Or.inl rfl), mRetIP (P := fun r m => r = 1 → m 49 0 ≤ 1200) (by unfold v_fillsStream; rw [if_pos e30, if_neg e33, if_neg e131, if_pos e180, if_pos e181, if_pos e182]) (by unfold s_fillsStream; rw [if_pos e30, if_neg e33, if_neg e131, if_pos e180, if_pos e181, if_pos e182]) hV (fun (q : 0 = 1) => by first | assumption | omega), Nat.le_refl _, Nat.le_refl _⟩
          · refine ⟨by omega, fun (e : (1 : Int) = 0) => absurd e (by decide), fun _ => ?_⟩
            refine ⟨by omega, fun _ => ?_, fun (e : ¬ ((0 : Int) = 0)) => (e (by decide)).elim⟩
            exact ⟨(Or.inl rfl), mRetIP (P := fun r m => r = 1 → m 49 0 ≤ 1200) (by unfold v_fillsStream; rw [if_pos e30, if_neg e33, if_neg e131, if_pos e180, if_neg e181]) (by unfold s_fillsStream; rw [if_pos e30, if_neg e33, if_neg e131, if_pos e180, if_neg e181]) hV (fun (q : 0 = 1) => by first | assumption | omega), Nat.le_refl _, Nat.le_refl _⟩
        · refine ⟨_, hm_oi hx, aR (A 20), rfl, ?_⟩
          refine ⟨512, _, (μ 20 (mj s i)), hm_a hx 20 rfl, by omega, rfl, ?_⟩
          have t188 := (show 0 ≤ μ 20 (mj s i) ∧ μ 20 (mj s i) ≤ 3 from hV.g 20 (mj s i))
          refine ⟨by omega, fun (e189 : (μ 20 (mj s i)) = 0) => ?_, fun (e189 : ¬ ((μ 20 (mj s i)) = 0)) => ?_⟩
          · refine ⟨by omega, fun (e190 : 0 ≤ (v_firstIn μ s i 0)) => ?_, fun (e190 : ¬ (0 ≤ (v_firstIn μ s i 0))) => ?_⟩
            · refine ⟨by omega, fun _ => ?_, fun (e : ¬ ((0 : Int) = 0)) => (e (by decide)).elim⟩
              refine ⟨by omega, fun (e : ¬ ((0 : Int) = 0)) => (e (by decide)).elim, fun _ => ?_⟩
              refine ⟨0, rfl, ?_⟩
              refine ⟨by omega, fun (e191 : ¬ ((v_allowed μ s i) = 0)) => ?_, fun (e191 : (v_allowed μ s i) = 0) => ?_⟩
              · refine ⟨_, hm_oi hx, trivial, _, hm_putO hx (f := 49) (v := 0) rfl rfl, ?_⟩
                have hV192 := hV.u (f := 49) (k := 0) (v := 0) (show 0 ≤ 0 ∧ 0 ≤ 2048 from by omega)
                refine ⟨_, hm_oi hx, trivial, _, hm_putO hx (f := 45) (v := 8) rfl rfl, ?_⟩
                have hV193 := hV192.u (f := 45) (k := 0) (v := 8) (show 0 ≤ 8 ∧ 8 ≤ 23 from by omega)
                refine ⟨by omega, ?_⟩
                refine ⟨_, hm_oi hx, trivial, _, hm_putO hx (f := 46) (v := i) rfl rfl, ?_⟩
                have hV194 := hV193.u (f := 46) (k := 0) (v := i) (show 0 ≤ i ∧ i ≤ 4611686018427387903 from by omega)
                refine ⟨by omega, fun _ => ?_, fun (e : ¬ ((0 : Int) = 0)) => (e (by decide)).elim⟩
                refine ⟨by omega, ?_⟩
                refine ⟨_, hm_oi hx, trivial, _, hm_putO hx (f := 47) (v := (v_firstIn μ s i 0)) rfl rfl, ?_⟩
                have hV195 := hV194.u (f := 47) (k := 0) (v := (v_firstIn μ s i 0)) (show 0 ≤ (v_firstIn μ s i 0) ∧ (v_firstIn μ s i 0) ≤ 4611686018427387903 from by omega)
                refine ⟨0, rfl, ?_⟩
                refine ⟨_, hm_oi hx, trivial, _, hm_putO hx (f := 48) (v := 0) rfl rfl, ?_⟩
                have hV196 := hV195.u (f := 48) (k := 0) (v := 0) (show 0 ≤ 0 ∧ 0 ≤ 4611686018427387903 from by omega)
                refine ⟨by omega, fun _ => ?_, fun (e : ¬ ((0 : Int) = 0)) => (e (by decide)).elim⟩
                exact mi_Wsub (List.forall_mem_cons.mpr ⟨(.head _), List.forall_mem_cons.mpr ⟨(.tail _ (.head _)), List.forall_mem_cons.mpr ⟨(.tail _ (.tail _ (.tail _ (.tail _ (.tail _ (.tail _ (.head _))))))), List.forall_mem_cons.mpr ⟨(.tail _ (.tail _ (.tail _ (.tail _ (.tail _ (.tail _ (.tail _ (.head _)))))))), List.forall_mem_cons.mpr ⟨(.tail _ (.tail _ (.tail _ (.tail _ (.tail _ (.head _)))))), List.forall_mem_cons.mpr ⟨(.tail _ (.tail _ (.tail _ (.tail _ (.head _))))), List.forall_mem_cons.mpr ⟨(.tail _ (.tail _ (.tail _ (.tail _ (.tail _ (.tail _ (.tail _ (.tail _ (.tail _ (.head _)))))))))), List.forall_mem_cons.mpr ⟨(.tail _ (.tail _ (.tail _ (.tail _ (.tail _ (.tail _ (.tail _ (.tail _ (.tail _ (.tail _ (.head _))))))))))), List.forall_mem_cons.mpr ⟨(.tail _ (.tail _ (.tail _ (.tail _ (.tail _ (.tail _ (.tail _ (.tail _ (.tail _ (.tail _ (.tail _ (.head _)))))))))))), List.forall_mem_cons.mpr ⟨(.tail _ (.tail _ (.tail _ (.tail _ (.tail _ (.tail _ (.tail _ (.tail _ (.tail _ (.tail _ (.tail _ (.tail _ (.head _))))))))))))), List.forall_mem_cons.mpr ⟨(.tail _ (.tail _ (.tail _ (.tail _ (.tail _ (.tail _ (.tail _ (.tail _ (.head _))))))))), fun _ h => absurd h List.not_mem_nil⟩⟩⟩⟩⟩⟩⟩⟩⟩⟩⟩) (loop115 _ _ 1202 1 0 (v_firstIn μ s i 0) 2 (v_allowed μ s i) (mCnt μ s i (-1) (mTot μ s)) (u2 (u2 (u2 (u2 (u2 μ 49 0 0) 45 0 8) 46 0 i) 47 0 (v_firstIn μ s i 0)) 48 0 0) hV196 (show 1 = 0 ∨ 1 = 1 from by omega) (show 0 ≤ 0 ∧ 0 ≤ 1200 from by omega) (show 0 ≤ (v_firstIn μ s i 0) ∧ (v_firstIn μ s i 0) + 0 ≤ (mCnt μ s i (-1) (mTot μ s)) ∧ (mCnt μ s i (-1) (mTot μ s)) ≤ 65536 from by omega) (show 0 ≤ 2 ∧ 2 ≤ 2 from by omega) (show 0 ≤ (v_allowed μ s i) ∧ (v_allowed μ s i) ≤ 4611686018427387903 from by omega) (show 8 = 8 from by omega) (show mCnt μ s i (-1) (mTot μ s) ≤ mRem (μ 37) i (65536 * s).toNat (μ 36 s.toNat).toNat from by rw [mRem_cnt]; exact Int.le_refl _) (show (1200 - 0 + 1) < (1202 : Int) from by omega) (by unfold v_fillsStream; rw [if_pos e30, if_neg e33, if_neg e131, if_neg e180, if_pos e189, if_pos e190, if_neg e191]) (by unfold s_fillsStream; rw [if_pos e30, if_neg e33, if_neg e131, if_neg e180, if_pos e189, if_pos e190, if_neg e191]))
              · exact ⟨(Or.inl rfl), mRetIP (P := fun r m => r = 1 → m 49 0 ≤ 1200) (by unfold v_fillsStream; rw [if_pos e30, if_neg e33, if_neg e131, if_neg e180, if_pos e189, if_pos e190, if_pos e191]) (by unfold s_fillsStream; rw [if_pos e30, if_neg e33, if_neg e131, if_neg e180, if_pos e189, if_pos e190, if_pos e191]) hV (fun (q : 0 = 1) => by first | assumption | omega), Nat.le_refl _, Nat.le_refl _⟩
            · refine ⟨by omega, fun (e : (1 : Int) = 0) => absurd e (by decide), fun _ => ?_⟩
              refine ⟨by omega, fun (e : (1 : Int) = 0) => absurd e (by decide), fun _ => ?_⟩
              refine ⟨by omega, fun _ => ?_, fun (e : (1 : Int) = 0) => absurd e (by decide)⟩
              refine ⟨_, hm_oi hx, trivial, _, hm_putO hx (f := 49) (v := 0) rfl rfl, ?_⟩
              have hV197 := hV.u (f := 49) (k := 0) (v := 0) (show 0 ≤ 0 ∧ 0 ≤ 2048 from by omega)
              refine ⟨_, hm_oi hx, trivial, _, hm_putO hx (f := 45) (v := 8) rfl rfl, ?_⟩
              have hV198 := hV197.u (f := 45) (k := 0) (v := 8) (show 0 ≤ 8 ∧ 8 ≤ 23 from by omega)
              refine ⟨by omega, ?_⟩
              refine ⟨_, hm_oi hx, trivial, _, hm_putO hx (f := 46) (v := i) rfl rfl, ?_⟩
              have hV199 := hV198.u (f := 46) (k := 0) (v := i) (show 0 ≤ i ∧ i ≤ 4611686018427387903 from by omega)
              refine ⟨by omega, fun (e : (1 : Int) = 0) => absurd e (by decide), fun _ => ?_⟩
              refine ⟨by omega, ?_⟩
              refine ⟨_, hm_oi hx, trivial, _, hm_putO hx (f := 47) (v := (mCnt μ s i (-1) (mTot μ s))) rfl rfl, ?_⟩
              have hV200 := hV199.u (f := 47) (k := 0) (v := (mCnt μ s i (-1) (mTot μ s))) (show 0 ≤ (mCnt μ s i (-1) (mTot μ s)) ∧ (mCnt μ s i (-1) (mTot μ s)) ≤ 4611686018427387903 from by omega)
              refine ⟨0, rfl, ?_⟩
              refine ⟨_, hm_oi hx, trivial, _, hm_putO hx (f := 48) (v := 0) rfl rfl, ?_⟩
              have hV201 := hV200.u (f := 48) (k := 0) (v := 0) (show 0 ≤ 0 ∧ 0 ≤ 4611686018427387903 from by omega)
              refine ⟨by omega, fun (e : (1 : Int) = 0) => absurd e (by decide), fun _ => ?_⟩
              refine ⟨⟨_, hm_oi hx⟩, _, _, _, _, (m_endAlone hF htr hx hV201 (s := s) (i := i) (r := r) (by omega) (by omega) (by omega) (by omega) (by omega) (by omega) (show (0 : Int) ≤ 1200 from by decide)), Nat.le_refl _, Nat.le_refl _, mkis_ (r := some (aI (v_endAlone (u2 (u2 (u2 (u2 (u2 μ 49 0 0) 45 0 8) 46 0 i) 47 0 (mCnt μ s i (-1) (mTot μ s))) 48 0 0) s i r))) (fun ⟨hV202, hp203⟩ => ?_), fun _ _ q => q.elim⟩
              have t204 := v_endAlone_b (u2 (u2 (u2 (u2 (u2 μ 49 0 0) 45 0 8) 46 0 i) 47 0 (mCnt μ s i (-1) (mTot μ s))) 48 0 0) s i r
              have hp203 : (v_endAlone (u2 (u2 (u2 (u2 (u2 μ 49 0 0) 45 0 8) 46 0 i) 47 0 (mCnt μ s i (-1) (mTot μ s))) 48 0 0) s i r) = 1 → (s_endAlone (u2 (u2 (u2 (u2 (u2 μ 49 0 0) 45 0 8) 46 0 i) 47 0 (mCnt μ s i (-1) (mTot μ s))) 48 0 0) s i r) 49 0 ≤ 1200 := hp203
              exact ⟨(by omega), mRetIP (P := fun r m => r = 1 → m 49 0 ≤ 1200) (by unfold v_fillsStream; rw [if_pos e30, if_neg e33, if_neg e131, if_neg e180, if_pos e189, if_neg e190]) (by unfold s_fillsStream; rw [if_pos e30, if_neg e33, if_neg e131, if_neg e180, if_pos e189, if_neg e190]) hV202 (fun (q : (v_endAlone (u2 (u2 (u2 (u2 (u2 μ 49 0 0) 45 0 8) 46 0 i) 47 0 (mCnt μ s i (-1) (mTot μ s))) 48 0 0) s i r) = 1) => show 0 ≤ 1200 from by omega), Nat.le_refl _, Nat.le_refl _⟩
          · refine ⟨_, hm_oi hx, aR (A 20), rfl, ?_⟩
            refine ⟨512, _, (μ 20 (mj s i)), hm_a hx 20 rfl, by omega, rfl, ?_⟩
            refine ⟨by omega, fun (e205 : ¬ ((μ 20 (mj s i)) = 2)) => ?_, fun (e205 : (μ 20 (mj s i)) = 2) => ?_⟩
            · refine ⟨by omega, fun (e206 : 0 ≤ (v_firstIn μ s i 0)) => ?_, fun (e206 : ¬ (0 ≤ (v_firstIn μ s i 0))) => ?_⟩
              · refine ⟨by omega, fun _ => ?_, fun (e : ¬ ((0 : Int) = 0)) => (e (by decide)).elim⟩
                refine ⟨by omega, fun (e : ¬ ((0 : Int) = 0)) => (e (by decide)).elim, fun _ => ?_⟩
                refine ⟨0, rfl, ?_⟩
                refine ⟨by omega, fun (e207 : ¬ ((v_allowed μ s i) = 0)) => ?_, fun (e207 : (v_allowed μ s i) = 0) => ?_⟩
                · refine ⟨_, hm_oi hx, trivial, _, hm_putO hx (f := 49) (v := 0) rfl rfl, ?_⟩
                  have hV208 := hV.u (f := 49) (k := 0) (v := 0) (show 0 ≤ 0 ∧ 0 ≤ 2048 from by omega)
                  refine ⟨_, hm_oi hx, trivial, _, hm_putO hx (f := 45) (v := 8) rfl rfl, ?_⟩
                  have hV209 := hV208.u (f := 45) (k := 0) (v := 8) (show 0 ≤ 8 ∧ 8 ≤ 23 from by omega)
                  refine ⟨by omega, ?_⟩
                  refine ⟨_, hm_oi hx, trivial, _, hm_putO hx (f := 46) (v := i) rfl rfl, ?_⟩
                  have hV210 := hV209.u (f := 46) (k := 0) (v := i) (show 0 ≤ i ∧ i ≤ 4611686018427387903 from by omega)
                  refine ⟨by omega, fun _ => ?_, fun (e : ¬ ((0 : Int) = 0)) => (e (by decide)).elim⟩
                  refine ⟨by omega, ?_⟩
                  refine ⟨_, hm_oi hx, trivial, _, hm_putO hx (f := 47) (v := (v_firstIn μ s i 0)) rfl rfl, ?_⟩
                  have hV211 := hV210.u (f := 47) (k := 0) (v := (v_firstIn μ s i 0)) (show 0 ≤ (v_firstIn μ s i 0) ∧ (v_firstIn μ s i 0) ≤ 4611686018427387903 from by omega)
                  refine ⟨0, rfl, ?_⟩
                  refine ⟨_, hm_oi hx, trivial, _, hm_putO hx (f := 48) (v := 0) rfl rfl, ?_⟩
                  have hV212 := hV211.u (f := 48) (k := 0) (v := 0) (show 0 ≤ 0 ∧ 0 ≤ 4611686018427387903 from by omega)
                  refine ⟨by omega, fun _ => ?_, fun (e : ¬ ((0 : Int) = 0)) => (e (by decide)).elim⟩
                  exact mi_Wsub (List.forall_mem_cons.mpr ⟨(.head _), List.forall_mem_cons.mpr ⟨(.tail _ (.head _)), List.forall_mem_cons.mpr ⟨(.tail _ (.tail _ (.tail _ (.tail _ (.tail _ (.tail _ (.head _))))))), List.forall_mem_cons.mpr ⟨(.tail _ (.tail _ (.tail _ (.tail _ (.tail _ (.tail _ (.tail _ (.head _)))))))), List.forall_mem_cons.mpr ⟨(.tail _ (.tail _ (.tail _ (.tail _ (.tail _ (.head _)))))), List.forall_mem_cons.mpr ⟨(.tail _ (.tail _ (.tail _ (.tail _ (.head _))))), List.forall_mem_cons.mpr ⟨(.tail _ (.tail _ (.tail _ (.tail _ (.tail _ (.tail _ (.tail _ (.tail _ (.tail _ (.head _)))))))))), List.forall_mem_cons.mpr ⟨(.tail _ (.tail _ (.tail _ (.tail _ (.tail _ (.tail _ (.tail _ (.tail _ (.tail _ (.tail _ (.head _))))))))))), List.forall_mem_cons.mpr ⟨(.tail _ (.tail _ (.tail _ (.tail _ (.tail _ (.tail _ (.tail _ (.tail _ (.tail _ (.tail _ (.tail _ (.head _)))))))))))), List.forall_mem_cons.mpr ⟨(.tail _ (.tail _ (.tail _ (.tail _ (.tail _ (.tail _ (.tail _ (.tail _ (.tail _ (.tail _ (.tail _ (.tail _ (.head _))))))))))))), List.forall_mem_cons.mpr ⟨(.tail _ (.tail _ (.tail _ (.tail _ (.tail _ (.tail _ (.tail _ (.tail _ (.head _))))))))), fun _ h => absurd h List.not_mem_nil⟩⟩⟩⟩⟩⟩⟩⟩⟩⟩⟩) (loop115 _ _ 1202 1 0 (v_firstIn μ s i 0) 2 (v_allowed μ s i) (mCnt μ s i (-1) (mTot μ s)) (u2 (u2 (u2 (u2 (u2 μ 49 0 0) 45 0 8) 46 0 i) 47 0 (v_firstIn μ s i 0)) 48 0 0) hV212 (show 1 = 0 ∨ 1 = 1 from by omega) (show 0 ≤ 0 ∧ 0 ≤ 1200 from by omega) (show 0 ≤ (v_firstIn μ s i 0) ∧ (v_firstIn μ s i 0) + 0 ≤ (mCnt μ s i (-1) (mTot μ s)) ∧ (mCnt μ s i (-1) (mTot μ s)) ≤ 65536 from by omega) (show 0 ≤ 2 ∧ 2 ≤ 2 from by omega) (show 0 ≤ (v_allowed μ s i) ∧ (v_allowed μ s i) ≤ 4611686018427387903 from by omega) (show 8 = 8 from by omega) (show mCnt μ s i (-1) (mTot μ s) ≤ mRem (μ 37) i (65536 * s).toNat (μ 36 s.toNat).toNat from by rw [mRem_cnt]; exact Int.le_refl _) (show (1200 - 0 + 1) < (1202 : Int) from by omega) (by unfold v_fillsStream; rw [if_pos e30, if_neg e33, if_neg e131, if_neg e180, if_neg e189, if_neg e205, if_pos e206, if_neg e207]) (by unfold s_fillsStream; rw [if_pos e30, if_neg e33, if_neg e131, if_neg e180, if_neg e189, if_neg e205, if_pos e206, if_neg e207]))
                · exact ⟨(Or.inl rfl), mRetIP (P := fun r m => r = 1 → m 49 0 ≤ 1200) (by unfold v_fillsStream; rw [if_pos e30, if_neg e33, if_neg e131, if_neg e180, if_neg e189, if_neg e205, if_pos e206, if_pos e207]) (by unfold s_fillsStream; rw [if_pos e30, if_neg e33, if_neg e131, if_neg e180, if_neg e189, if_neg e205, if_pos e206, if_pos e207]) hV (fun (q : 0 = 1) => by first | assumption | omega), Nat.le_refl _, Nat.le_refl _⟩
              · refine ⟨by omega, fun (e : (1 : Int) = 0) => absurd e (by decide), fun _ => ?_⟩
                refine ⟨by omega, fun _ => ?_, fun (e : ¬ ((0 : Int) = 0)) => (e (by decide)).elim⟩
                exact ⟨(Or.inl rfl), mRetIP (P := fun r m => r = 1 → m 49 0 ≤ 1200) (by unfold v_fillsStream; rw [if_pos e30, if_neg e33, if_neg e131, if_neg e180, if_neg e189, if_neg e205, if_neg e206]) (by unfold s_fillsStream; rw [if_pos e30, if_neg e33, if_neg e131, if_neg e180, if_neg e189, if_neg e205, if_neg e206]) hV (fun (q : 0 = 1) => by first | assumption | omega), Nat.le_refl _, Nat.le_refl _⟩
            · refine ⟨by omega, fun (e213 : 0 ≤ (v_firstIn μ s i 0)) => ?_, fun (e213 : ¬ (0 ≤ (v_firstIn μ s i 0))) => ?_⟩
              · refine ⟨by omega, fun _ => ?_, fun (e : ¬ ((0 : Int) = 0)) => (e (by decide)).elim⟩
                refine ⟨by omega, fun (e : ¬ ((0 : Int) = 0)) => (e (by decide)).elim, fun _ => ?_⟩
                refine ⟨0, rfl, ?_⟩
                refine ⟨by omega, fun (e214 : ¬ ((v_allowed μ s i) = 0)) => ?_, fun (e214 : (v_allowed μ s i) = 0) => ?_⟩
                · refine ⟨_, hm_oi hx, trivial, _, hm_putO hx (f := 49) (v := 0) rfl rfl, ?_⟩
                  have hV215 := hV.u (f := 49) (k := 0) (v := 0) (show 0 ≤ 0 ∧ 0 ≤ 2048 from by omega)
                  refine ⟨_, hm_oi hx, trivial, _, hm_putO hx (f := 45) (v := 8) rfl rfl, ?_⟩
                  have hV216 := hV215.u (f := 45) (k := 0) (v := 8) (show 0 ≤ 8 ∧ 8 ≤ 23 from by omega)
                  refine ⟨by omega, ?_⟩
                  refine ⟨_, hm_oi hx, trivial, _, hm_putO hx (f := 46) (v := i) rfl rfl, ?_⟩
                  have hV217 := hV216.u (f := 46) (k := 0) (v := i) (show 0 ≤ i ∧ i ≤ 4611686018427387903 from by omega)
                  refine ⟨by omega, fun _ => ?_, fun (e : ¬ ((0 : Int) = 0)) => (e (by decide)).elim⟩
                  refine ⟨by omega, ?_⟩
                  refine ⟨_, hm_oi hx, trivial, _, hm_putO hx (f := 47) (v := (v_firstIn μ s i 0)) rfl rfl, ?_⟩
                  have hV218 := hV217.u (f := 47) (k := 0) (v := (v_firstIn μ s i 0)) (show 0 ≤ (v_firstIn μ s i 0) ∧ (v_firstIn μ s i 0) ≤ 4611686018427387903 from by omega)
                  refine ⟨0, rfl, ?_⟩
                  refine ⟨_, hm_oi hx, trivial, _, hm_putO hx (f := 48) (v := 0) rfl rfl, ?_⟩
                  have hV219 := hV218.u (f := 48) (k := 0) (v := 0) (show 0 ≤ 0 ∧ 0 ≤ 4611686018427387903 from by omega)
                  refine ⟨by omega, fun _ => ?_, fun (e : ¬ ((0 : Int) = 0)) => (e (by decide)).elim⟩
                  exact mi_Wsub (List.forall_mem_cons.mpr ⟨(.head _), List.forall_mem_cons.mpr ⟨(.tail _ (.head _)), List.forall_mem_cons.mpr ⟨(.tail _ (.tail _ (.tail _ (.tail _ (.tail _ (.tail _ (.head _))))))), List.forall_mem_cons.mpr ⟨(.tail _ (.tail _ (.tail _ (.tail _ (.tail _ (.tail _ (.tail _ (.head _)))))))), List.forall_mem_cons.mpr ⟨(.tail _ (.tail _ (.tail _ (.tail _ (.tail _ (.head _)))))), List.forall_mem_cons.mpr ⟨(.tail _ (.tail _ (.tail _ (.tail _ (.head _))))), List.forall_mem_cons.mpr ⟨(.tail _ (.tail _ (.tail _ (.tail _ (.tail _ (.tail _ (.tail _ (.tail _ (.tail _ (.head _)))))))))), List.forall_mem_cons.mpr ⟨(.tail _ (.tail _ (.tail _ (.tail _ (.tail _ (.tail _ (.tail _ (.tail _ (.tail _ (.tail _ (.head _))))))))))), List.forall_mem_cons.mpr ⟨(.tail _ (.tail _ (.tail _ (.tail _ (.tail _ (.tail _ (.tail _ (.tail _ (.tail _ (.tail _ (.tail _ (.head _)))))))))))), List.forall_mem_cons.mpr ⟨(.tail _ (.tail _ (.tail _ (.tail _ (.tail _ (.tail _ (.tail _ (.tail _ (.tail _ (.tail _ (.tail _ (.tail _ (.head _))))))))))))), List.forall_mem_cons.mpr ⟨(.tail _ (.tail _ (.tail _ (.tail _ (.tail _ (.tail _ (.tail _ (.tail _ (.head _))))))))), fun _ h => absurd h List.not_mem_nil⟩⟩⟩⟩⟩⟩⟩⟩⟩⟩⟩) (loop115 _ _ 1202 1 0 (v_firstIn μ s i 0) 2 (v_allowed μ s i) (mCnt μ s i (-1) (mTot μ s)) (u2 (u2 (u2 (u2 (u2 μ 49 0 0) 45 0 8) 46 0 i) 47 0 (v_firstIn μ s i 0)) 48 0 0) hV219 (show 1 = 0 ∨ 1 = 1 from by omega) (show 0 ≤ 0 ∧ 0 ≤ 1200 from by omega) (show 0 ≤ (v_firstIn μ s i 0) ∧ (v_firstIn μ s i 0) + 0 ≤ (mCnt μ s i (-1) (mTot μ s)) ∧ (mCnt μ s i (-1) (mTot μ s)) ≤ 65536 from by omega) (show 0 ≤ 2 ∧ 2 ≤ 2 from by omega) (show 0 ≤ (v_allowed μ s i) ∧ (v_allowed μ s i) ≤ 4611686018427387903 from by omega) (show 8 = 8 from by omega) (show mCnt μ s i (-1) (mTot μ s) ≤ mRem (μ 37) i (65536 * s).toNat (μ 36 s.toNat).toNat from by rw [mRem_cnt]; exact Int.le_refl _) (show (1200 - 0 + 1) < (1202 : Int) from by omega) (by unfold v_fillsStream; rw [if_pos e30, if_neg e33, if_neg e131, if_neg e180, if_neg e189, if_pos e205, if_pos e213, if_neg e214]) (by unfold s_fillsStream; rw [if_pos e30, if_neg e33, if_neg e131, if_neg e180, if_neg e189, if_pos e205, if_pos e213, if_neg e214]))
                · exact ⟨(Or.inl rfl), mRetIP (P := fun r m => r = 1 → m 49 0 ≤ 1200) (by unfold v_fillsStream; rw [if_pos e30, if_neg e33, if_neg e131, if_neg e180, if_neg e189, if_pos e205, if_pos e213, if_pos e214]) (by unfold s_fillsStream; rw [if_pos e30, if_neg e33, if_neg e131, if_neg e180, if_neg e189, if_pos e205, if_pos e213, if_pos e214]) hV (fun (q : 0 = 1) => by first | assumption | omega), Nat.le_refl _, Nat.le_refl _⟩
              · refine ⟨by omega, fun (e : (1 : Int) = 0) => absurd e (by decide), fun _ => ?_⟩
                refine ⟨by omega, fun (e : (1 : Int) = 0) => absurd e (by decide), fun _ => ?_⟩
                refine ⟨by omega, fun _ => ?_, fun (e : (1 : Int) = 0) => absurd e (by decide)⟩
                refine ⟨_, hm_oi hx, trivial, _, hm_putO hx (f := 49) (v := 0) rfl rfl, ?_⟩
                have hV220 := hV.u (f := 49) (k := 0) (v := 0) (show 0 ≤ 0 ∧ 0 ≤ 2048 from by omega)
                refine ⟨_, hm_oi hx, trivial, _, hm_putO hx (f := 45) (v := 8) rfl rfl, ?_⟩
                have hV221 := hV220.u (f := 45) (k := 0) (v := 8) (show 0 ≤ 8 ∧ 8 ≤ 23 from by omega)
                refine ⟨by omega, ?_⟩
                refine ⟨_, hm_oi hx, trivial, _, hm_putO hx (f := 46) (v := i) rfl rfl, ?_⟩
                have hV222 := hV221.u (f := 46) (k := 0) (v := i) (show 0 ≤ i ∧ i ≤ 4611686018427387903 from by omega)
                refine ⟨by omega, fun (e : (1 : Int) = 0) => absurd e (by decide), fun _ => ?_⟩
                refine ⟨by omega, ?_⟩
                refine ⟨_, hm_oi hx, trivial, _, hm_putO hx (f := 47) (v := (mCnt μ s i (-1) (mTot μ s))) rfl rfl, ?_⟩
                have hV223 := hV222.u (f := 47) (k := 0) (v := (mCnt μ s i (-1) (mTot μ s))) (show 0 ≤ (mCnt μ s i (-1) (mTot μ s)) ∧ (mCnt μ s i (-1) (mTot μ s)) ≤ 4611686018427387903 from by omega)
                refine ⟨0, rfl, ?_⟩
                refine ⟨_, hm_oi hx, trivial, _, hm_putO hx (f := 48) (v := 0) rfl rfl, ?_⟩
                have hV224 := hV223.u (f := 48) (k := 0) (v := 0) (show 0 ≤ 0 ∧ 0 ≤ 4611686018427387903 from by omega)
                refine ⟨by omega, fun (e : (1 : Int) = 0) => absurd e (by decide), fun _ => ?_⟩
                refine ⟨⟨_, hm_oi hx⟩, _, _, _, _, (m_endAlone hF htr hx hV224 (s := s) (i := i) (r := r) (by omega) (by omega) (by omega) (by omega) (by omega) (by omega) (show (0 : Int) ≤ 1200 from by decide)), Nat.le_refl _, Nat.le_refl _, mkis_ (r := some (aI (v_endAlone (u2 (u2 (u2 (u2 (u2 μ 49 0 0) 45 0 8) 46 0 i) 47 0 (mCnt μ s i (-1) (mTot μ s))) 48 0 0) s i r))) (fun ⟨hV225, hp226⟩ => ?_), fun _ _ q => q.elim⟩
                have t227 := v_endAlone_b (u2 (u2 (u2 (u2 (u2 μ 49 0 0) 45 0 8) 46 0 i) 47 0 (mCnt μ s i (-1) (mTot μ s))) 48 0 0) s i r
                have hp226 : (v_endAlone (u2 (u2 (u2 (u2 (u2 μ 49 0 0) 45 0 8) 46 0 i) 47 0 (mCnt μ s i (-1) (mTot μ s))) 48 0 0) s i r) = 1 → (s_endAlone (u2 (u2 (u2 (u2 (u2 μ 49 0 0) 45 0 8) 46 0 i) 47 0 (mCnt μ s i (-1) (mTot μ s))) 48 0 0) s i r) 49 0 ≤ 1200 := hp226
                exact ⟨(by omega), mRetIP (P := fun r m => r = 1 → m 49 0 ≤ 1200) (by unfold v_fillsStream; rw [if_pos e30, if_neg e33, if_neg e131, if_neg e180, if_neg e189, if_pos e205, if_neg e213]) (by unfold s_fillsStream; rw [if_pos e30, if_neg e33, if_neg e131, if_neg e180, if_neg e189, if_pos e205, if_neg e213]) hV225 (fun (q : (v_endAlone (u2 (u2 (u2 (u2 (u2 μ 49 0 0) 45 0 8) 46 0 i) 47 0 (mCnt μ s i (-1) (mTot μ s))) 48 0 0) s i r) = 1) => show 0 ≤ 1200 from by omega), Nat.le_refl _, Nat.le_refl _⟩
  · have e30 : ¬ (((0 ≤ i ∧ i < 256 ∧ μ 17 (mj s i) = 1) ∧ (i / 2 % 2 = 0 ∨ i % 2 = s)) ∧ mSend μ s i < 2) := b2_e0.mp e30
    exact ⟨(Or.inl rfl), mRetIP (P := fun r m => r = 1 → m 49 0 ≤ 1200) (by unfold v_fillsStream; rw [if_neg e30]) (by unfold s_fillsStream; rw [if_neg e30]) hV (fun (q : 0 = 1) => by first | assumption | omega), Nat.le_refl _, Nat.le_refl _⟩
set_option maxRecDepth 100000 in
theorem s_fillsStream_172_fr {f kk : Nat} {s i r : Int} (hf : [20, 39, 45, 46, 47, 48, 49, 50].elem f = false) : ∀ (d : Nat) (j n a w : Int) (ν : Nat → Nat → Int), s_fillsStream_172 μ s i r d j n a w ν f kk = ν f kk := by
  have n20 : f ≠ 20 := by rintro rfl; exact absurd hf (by decide)
  have n39 : f ≠ 39 := by rintro rfl; exact absurd hf (by decide)
  have n45 : f ≠ 45 := by rintro rfl; exact absurd hf (by decide)
  have n46 : f ≠ 46 := by rintro rfl; exact absurd hf (by decide)
  have n47 : f ≠ 47 := by rintro rfl; exact absurd hf (by decide)
  have n48 : f ≠ 48 := by rintro rfl; exact absurd hf (by decide)
  have n49 : f ≠ 49 := by rintro rfl; exact absurd hf (by decide)
  have n50 : f ≠ 50 := by rintro rfl; exact absurd hf (by decide)
  have f20 : ∀ (m : Nat → Nat → Int) (a b : Nat) (v : Int), u2 m 20 a v f b = m f b := fun m a b v => u2_f n20
  have f39 : ∀ (m : Nat → Nat → Int) (a b : Nat) (v : Int), u2 m 39 a v f b = m f b := fun m a b v => u2_f n39
  have f45 : ∀ (m : Nat → Nat → Int) (a b : Nat) (v : Int), u2 m 45 a v f b = m f b := fun m a b v => u2_f n45
  have f46 : ∀ (m : Nat → Nat → Int) (a b : Nat) (v : Int), u2 m 46 a v f b = m f b := fun m a b v => u2_f n46
  have f47 : ∀ (m : Nat → Nat → Int) (a b : Nat) (v : Int), u2 m 47 a v f b = m f b := fun m a b v => u2_f n47
  have f48 : ∀ (m : Nat → Nat → Int) (a b : Nat) (v : Int), u2 m 48 a v f b = m f b := fun m a b v => u2_f n48
  have f49 : ∀ (m : Nat → Nat → Int) (a b : Nat) (v : Int), u2 m 49 a v f b = m f b := fun m a b v => u2_f n49
  have f50 : ∀ (m : Nat → Nat → Int) (a b : Nat) (v : Int), u2 m 50 a v f b = m f b := fun m a b v => u2_f n50
  have c_endAlone : ∀ (m : Nat → Nat → Int) (z_s z_i z_r : Int) (k : Nat), s_endAlone m z_s z_i z_r f k = m f k := by intros; exact s_endAlone_fr (by simp only [List.elem_cons, List.elem_nil, beq_eq_false_iff_ne.mpr n20, beq_eq_false_iff_ne.mpr n48]; try rfl)
  intro d
  induction d with
  | zero => intros; rfl
  | succ d ih =>
    intro j n a w ν
    rw [s_fillsStream_172]
    repeat' with_reducible apply f_ite
    all_goals first | rfl | simp only [f20, f39, f45, f46, f47, f48, f49, f50, c_endAlone, ih]
set_option maxRecDepth 100000 in
theorem s_fillsStream_115_fr {f kk : Nat} {s i r : Int} (hf : [20, 39, 45, 46, 47, 48, 49, 50].elem f = false) : ∀ (d : Nat) (m n a t q w : Int) (ν : Nat → Nat → Int), s_fillsStream_115 μ s i r d m n a t q w ν f kk = ν f kk := by
  have n20 : f ≠ 20 := by rintro rfl; exact absurd hf (by decide)
  have n39 : f ≠ 39 := by rintro rfl; exact absurd hf (by decide)
  have n45 : f ≠ 45 := by rintro rfl; exact absurd hf (by decide)
  have n46 : f ≠ 46 := by rintro rfl; exact absurd hf (by decide)
  have n47 : f ≠ 47 := by rintro rfl; exact absurd hf (by decide)
  have n48 : f ≠ 48 := by rintro rfl; exact absurd hf (by decide)
  have n49 : f ≠ 49 := by rintro rfl; exact absurd hf (by decide)
  have n50 : f ≠ 50 := by rintro rfl; exact absurd hf (by decide)
  have f20 : ∀ (m : Nat → Nat → Int) (a b : Nat) (v : Int), u2 m 20 a v f b = m f b := fun m a b v => u2_f n20
  have f39 : ∀ (m : Nat → Nat → Int) (a b : Nat) (v : Int), u2 m 39 a v f b = m f b := fun m a b v => u2_f n39
  have f45 : ∀ (m : Nat → Nat → Int) (a b : Nat) (v : Int), u2 m 45 a v f b = m f b := fun m a b v => u2_f n45
  have f46 : ∀ (m : Nat → Nat → Int) (a b : Nat) (v : Int), u2 m 46 a v f b = m f b := fun m a b v => u2_f n46
  have f47 : ∀ (m : Nat → Nat → Int) (a b : Nat) (v : Int), u2 m 47 a v f b = m f b := fun m a b v => u2_f n47
  have f48 : ∀ (m : Nat → Nat → Int) (a b : Nat) (v : Int), u2 m 48 a v f b = m f b := fun m a b v => u2_f n48
  have f49 : ∀ (m : Nat → Nat → Int) (a b : Nat) (v : Int), u2 m 49 a v f b = m f b := fun m a b v => u2_f n49
  have f50 : ∀ (m : Nat → Nat → Int) (a b : Nat) (v : Int), u2 m 50 a v f b = m f b := fun m a b v => u2_f n50
  have c_endAlone : ∀ (m : Nat → Nat → Int) (z_s z_i z_r : Int) (k : Nat), s_endAlone m z_s z_i z_r f k = m f k := by intros; exact s_endAlone_fr (by simp only [List.elem_cons, List.elem_nil, beq_eq_false_iff_ne.mpr n20, beq_eq_false_iff_ne.mpr n48]; try rfl)
  intro d
  induction d with
  | zero => intros; rfl
  | succ d ih =>
    intro m n a t q w ν
    rw [s_fillsStream_115]
    repeat' with_reducible apply f_ite
    all_goals first | rfl | simp only [f20, f39, f45, f46, f47, f48, f49, f50, c_endAlone, ih, s_fillsStream_172_fr hf]
set_option maxRecDepth 100000 in
theorem s_fillsStream_fr {f kk : Nat} {s i r : Int} (hf : [20, 39, 45, 46, 47, 48, 49, 50].elem f = false) : s_fillsStream μ s i r f kk = μ f kk := by
  have n20 : f ≠ 20 := by rintro rfl; exact absurd hf (by decide)
  have n39 : f ≠ 39 := by rintro rfl; exact absurd hf (by decide)
  have n45 : f ≠ 45 := by rintro rfl; exact absurd hf (by decide)
  have n46 : f ≠ 46 := by rintro rfl; exact absurd hf (by decide)
  have n47 : f ≠ 47 := by rintro rfl; exact absurd hf (by decide)
  have n48 : f ≠ 48 := by rintro rfl; exact absurd hf (by decide)
  have n49 : f ≠ 49 := by rintro rfl; exact absurd hf (by decide)
  have n50 : f ≠ 50 := by rintro rfl; exact absurd hf (by decide)
  have f20 : ∀ (m : Nat → Nat → Int) (a b : Nat) (v : Int), u2 m 20 a v f b = m f b := fun m a b v => u2_f n20
  have f39 : ∀ (m : Nat → Nat → Int) (a b : Nat) (v : Int), u2 m 39 a v f b = m f b := fun m a b v => u2_f n39
  have f45 : ∀ (m : Nat → Nat → Int) (a b : Nat) (v : Int), u2 m 45 a v f b = m f b := fun m a b v => u2_f n45
  have f46 : ∀ (m : Nat → Nat → Int) (a b : Nat) (v : Int), u2 m 46 a v f b = m f b := fun m a b v => u2_f n46
  have f47 : ∀ (m : Nat → Nat → Int) (a b : Nat) (v : Int), u2 m 47 a v f b = m f b := fun m a b v => u2_f n47
  have f48 : ∀ (m : Nat → Nat → Int) (a b : Nat) (v : Int), u2 m 48 a v f b = m f b := fun m a b v => u2_f n48
  have f49 : ∀ (m : Nat → Nat → Int) (a b : Nat) (v : Int), u2 m 49 a v f b = m f b := fun m a b v => u2_f n49
  have f50 : ∀ (m : Nat → Nat → Int) (a b : Nat) (v : Int), u2 m 50 a v f b = m f b := fun m a b v => u2_f n50
  have c_endAlone : ∀ (m : Nat → Nat → Int) (z_s z_i z_r : Int) (k : Nat), s_endAlone m z_s z_i z_r f k = m f k := by intros; exact s_endAlone_fr (by simp only [List.elem_cons, List.elem_nil, beq_eq_false_iff_ne.mpr n20, beq_eq_false_iff_ne.mpr n48]; try rfl)
  unfold s_fillsStream
  repeat' with_reducible apply f_ite
  all_goals first | rfl | simp only [f20, f39, f45, f46, f47, f48, f49, f50, c_endAlone, s_fillsStream_172_fr hf, s_fillsStream_115_fr hf]
end MR8
