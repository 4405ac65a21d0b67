/-! ===== the reference's new chip ===== -/
theorem mNewChip {m : Sto} {f n a : Nat} (hf : f < 136) (hn : gI m 0 0 2 = nI n) (h : n < 40) (hfn : f ≠ 1 + n) (ha : gI m 0 0 44 = nI a) (ha2 : a ≤ 60) : fX12_newChip (nI f) m = some (nI n, actS (sI (putO (putO m 1 0 (16 * (1 + n)) 16 (fun k => gF m 1 0 (16 * f + k))) 2 0 (16 * n) 16 (fun _ => FP.fconst0)) 0 0 2 (nI (n + 1))) a 0 (nI n) 0 0) := by
  unfold fX12_newChip
  have e1 : (1 : Int32) + nI n = nI (1 + n) := nI_add 1 n
  rw [hn, lt1_e, e1, mCopy hf (by omega) hfn, Option.bind_some]
  rw [loopO (f := 2) (i := 0) (o := 16 * n) (fun _ => FP.fconst0) 16 (by decide) (fun k hk => by
    dsimp only [un2]
    have e2 : ((16 : Int32) * nI n) + nI k = nI (16 * n + k) := by
      show nI 16 * nI n + nI k = _
      simp only [pk_mul, nI_add]
    have ia : 0 ≤ (nI (16 * n + k)).toInt ∧ (nI (16 * n + k)).toInt < ((640 : Nat) : Int) := ixl (by omega) (by omega)
    rw [if_neg (g16 hk), e2, show lFM 2 0 = 640 from rfl, ck_t ia, nI_cl (by omega), lt1_e, lt1_e, nI_s]) (by dsimp only [un2]; exact if_pos (show nI 16 ≤ nI 16 by decide)), Option.bind_some]
  have q2 : gI (putO (putO m 1 0 (16 * (1 + n)) 16 (fun k => gF m 1 0 (16 * f + k))) 2 0 (16 * n) 16 (fun _ => FP.fconst0)) 0 0 2 = nI n := hn
  have q44 : gI (sI (putO (putO m 1 0 (16 * (1 + n)) 16 (fun k => gF m 1 0 (16 * f + k))) 2 0 (16 * n) 16 (fun _ => FP.fconst0)) 0 0 2 (nI (n + 1))) 0 0 44 = nI a := ha
  rw [q2, show nI n + (1 : Int32) = nI (n + 1) from nI_1 n, lt1_e, mAct q44 ha2, Option.bind_some]
