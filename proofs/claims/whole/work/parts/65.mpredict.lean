theorem mIs {n : Nat} (hn : n < 2 ^ 31) (i : Int32) : (∃ j, i = nI j ∧ j < n ∧ fX12_is i (nI n) = some 1) ∨ ((∀ j, j < n → i ≠ nI j) ∧ fX12_is i (nI n) = some 0) := by
  unfold fX12_is
  rcases pk_ix i (n := n) hn with q | q | ⟨j, q1, q2⟩
  · right
    refine ⟨fun j hj e => ?_, if_pos q⟩
    rw [e] at q
    have := Int32.lt_iff_toInt_lt.mp q
    rw [nI_toInt (by omega)] at this
    rw [show (0 : Int32).toInt = 0 from rfl] at this
    omega
  · right
    refine ⟨fun j hj e => ?_, ?_⟩
    · rw [e] at q
      have := (nI_leI (by omega) (by omega)).mp q
      omega
    · rw [if_pos q, ite_self]
  · left
    have q0 : ¬ i < 0 := fun w => by
      have h1 := Int32.lt_iff_toInt_lt.mp w
      rw [q2, nI_toInt (by omega)] at h1
      rw [show (0 : Int32).toInt = 0 from rfl] at h1
      omega
    refine ⟨j, q2, q1, ?_⟩
    rw [if_neg q0, q2, if_neg (nI_gt (by omega) q1)]
theorem mIs1 {n j : Nat} (hn : n < 2 ^ 31) (hj : j < n) : fX12_is (nI j) (nI n) = some 1 := by
  rcases mIs hn (nI j) with ⟨_, _, _, e⟩ | ⟨e, _⟩
  · exact e
  · exact absurd rfl (e j hj)
theorem SameM_I {s : Sto} {i j : Nat} {v : Int32} (h : 8 ≤ j) : SameM s (sI s 0 i j v) := by
  refine ⟨fun a b c q => ?_, fun _ _ _ _ => rfl, fun _ _ _ _ => rfl⟩
  rw [gI_sI, if_neg (by omega)]
theorem SameM_O {s : Sto} {i n : Nat} {v : Nat → UInt32} (h : n ≤ 16) : SameM s (putO s 1 i 784 n v) := by
  refine ⟨fun _ _ _ _ => rfl, fun a b c q => ?_, fun _ _ _ _ => rfl⟩
  rw [putO_g (by omega)]
theorem mPredict {x m : Sto} {c : Nat} (h : CoreOk x) (hm : LiveM x m) (hp : PartsOk x) (hl : LvParts x m) (hc : c < cN x 1) : fX12_predict (nI c) m = some (1, sI (sI (sI (putO (sI m 0 0 10 0) 1 0 784 16 (pB x c)) 0 0 8 0) 0 0 32 1) 0 0 9 0) := by
  have c8 : c < 8 := Nat.lt_of_lt_of_le hc (h.1 1 (by decide)).2
  have hcn : gI (sI m 0 0 10 0) 0 0 3 = nI (cN x 1) := by
    rw [gI_sI, if_neg (by omega)]
    exact (hm.1 1 (by decide)).trans (h.1 1 (by decide)).1
  have b1 : cN x 1 ≤ 8 := (h.1 1 (by decide)).2
  unfold fX12_predict
  rw [lt1_e, hcn, mIs1 (by omega) hc, Option.bind_some, if_neg (by decide)]
  rw [loopO (f := 1) (i := 0) (o := 784) (pB x c) 16 (by decide) (fun k hk => by
    have hS : SameM m (putO (sI m 0 0 10 0) 1 0 784 k (pB x c)) := SameM_t (SameM_I (by decide)) (SameM_O (by omega))
    have hL := LiveM_S h hS hm
    have hP : LvParts x (putO (sI m 0 0 10 0) 1 0 784 k (pB x c)) := hl
    have e1 : ((16 : Int32) * ((41 : Int32) + nI c)) + nI k = nI (16 * (41 + c) + k) := by
      show nI 16 * (nI 41 + nI c) + nI k = _
      simp only [pk_mul, nI_add]
    have e2 : (784 : Int32) + nI k = nI (784 + k) := nI_add 784 k
    have ecl := hL.2.2.1 c hc k hk
    obtain ⟨q1, q2, _, _⟩ := pq_b h hp hc hk
    have hloop := mParts h hL hp hP hk ⟨q1, q2⟩
    dsimp only [un2]
    rw [if_neg (g16 hk), e1, e2, ck_t (by rw [show lFM 1 0 = 2176 from rfl]; exact ixl (by omega) (by omega)), nI_cl (n := 16 * (41 + c) + k) (by omega), ecl, (qtn_b (h.2.2.1 c hc k hk)).2.1, Option.bind_some]
    refine (congrArg (fun o => Option.bind o _) hloop).trans ?_
    rw [Option.bind_some, (pB_b h hp hc hk).2, Option.bind_some, ck_t (by rw [show lFM 1 0 = 2176 from rfl]; exact ixl (by omega) (by omega)), nI_cl (by omega), lt1_e, lt1_e, nI_s]) (by dsimp only [un2]; exact if_pos (show nI 16 ≤ nI 16 by decide))]
  rfl
