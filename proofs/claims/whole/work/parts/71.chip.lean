/-! ===== the reference's new chip ===== -/
theorem mNewChip {m : Sto} {f n a : Nat} (hf : f < 136) (hn : gI m 0 0 2 = nI n) (h : n < 40) (hfn : f ≠ 1 + n) (ha : gI m 0 0 44 = nI a) (ha2 : a ≤ 60) : fX12_newChip (nI f) m = some (nI n, actS (sI (putO (putO m 1 0 (16 * (1 + n)) 16 (fun k => gF m 1 0 (16 * f + k))) 2 0 (16 * n) 16 (fun _ => FP.fconst0)) 0 0 2 (nI (n + 1))) a 0 (nI n) 0 0) := by
  unfold fX12_newChip
  have e1 : (1 : Int32) + nI n = nI (1 + n) := nI_add 1 n
  rw [hn, lt1_e, e1, mCopy hf (by omega) hfn, Option.bind_some]
  rw [loopO (f := 2) (i := 0) (o := 16 * n) (fun _ => FP.fconst0) 16 (by decide) (fun k hk => by
    dsimp only [un2]
    have e2 : ((16 : Int32) * nI n) + nI k = nI (16 * n + k) := by
      show nI 16 * nI n + nI k = _
      simp only [pk_mul, nI_add]
    have ia : 0 ≤ (nI (16 * n + k)).toInt ∧ (nI (16 * n + k)).toInt < ((640 : Nat) : Int) := ixl (by omega) (by omega)
    rw [if_neg (g16 hk), e2, show lFM 2 0 = 640 from rfl, ck_t ia, nI_cl (by omega), lt1_e, lt1_e, nI_s]) (by dsimp only [un2]; exact if_pos (show nI 16 ≤ nI 16 by decide)), Option.bind_some]
  have q2 : gI (putO (putO m 1 0 (16 * (1 + n)) 16 (fun k => gF m 1 0 (16 * f + k))) 2 0 (16 * n) 16 (fun _ => FP.fconst0)) 0 0 2 = nI n := hn
  have q44 : gI (sI (putO (putO m 1 0 (16 * (1 + n)) 16 (fun k => gF m 1 0 (16 * f + k))) 2 0 (16 * n) 16 (fun _ => FP.fconst0)) 0 0 2 (nI (n + 1))) 0 0 44 = nI a := ha
  rw [q2, show nI n + (1 : Int32) = nI (n + 1) from nI_1 n, lt1_e, mAct q44 ha2, Option.bind_some]
/-! ===== both chip() ===== -/
theorem xChip0 {x : Sto} (h : cN x 0 = 40) (hc : CntOk x) : fX11_chip x = some (-1, sI x 0 0 19 1) := by
  have c1 : gI x 3 0 0 = nI (cN x 0) := (hc 0 (by decide)).1
  unfold fX11_chip
  rw [c1, h, if_neg (show ¬ nI 40 < (40 : Int32) by decide), xRefused, Option.bind_some]
  rfl
theorem xChip1 {x : Sto} (h : cN x 0 < 40) (hc : CntOk x) (hr : RingOk x) : fX11_chip x = some (nI (cN x 0), sI (sI (noteS (putF x 20 (cN x 0) 16 (fun k => gF x 1 0 k)) ((iN x 18 0 2 + 1) % 60) (min (iN x 18 0 3 + 1) 60) (nI 0) 0 0 0) 0 0 19 0) 3 0 0 (nI (cN x 0 + 1))) := by
  have c1 : gI x 3 0 0 = nI (cN x 0) := (hc 0 (by decide)).1
  have hcmp : nI (cN x 0) < (40 : Int32) := by
    show nI (cN x 0) < nI 40
    rw [Int32.lt_iff_toInt_lt, nI_toInt (by omega), nI_toInt (by decide)]; omega
  unfold fX11_chip
  rw [c1, if_pos hcmp, ck_t (by exact ixl (by omega) (by omega)), nI_cl (by omega), xCopy (by decide) (Nat.le_of_eq (show lFX 20 (cN x 0) = 16 from if_pos h).symm), Option.bind_some]
  have hn := xNewOne (x := putF x 20 (cN x 0) 16 (fun k => gF x 1 0 k)) (a := 0) (n := cN x 0) (by decide) hr c1 (by omega)
  rw [show fX11_newOne (0 : Int32) (putF x 20 (cN x 0) 16 fun k => gF x 1 0 k) = _ from hn, Option.bind_some]
  rfl
theorem mChip0 {m : Sto} (h : gI m 0 0 2 = nI 40) : fX12_chip m = some (-1, sI (sI m 0 0 10 0) 0 0 9 1) := by
  unfold fX12_chip
  rw [lt1_e]
  have q : gI (sI m 0 0 10 0) 0 0 2 = nI 40 := h
  rw [q, if_pos (show nI 40 = (40 : Int32) from rfl), mNo, Option.bind_some]
  rfl
theorem mChip1 {m : Sto} {n a : Nat} (hn : gI m 0 0 2 = nI n) (h : n < 40) (ha : gI m 0 0 44 = nI a) (ha2 : a ≤ 60) : fX12_chip m = some (nI n, actS (sI (putO (putO (sI m 0 0 10 0) 1 0 (16 * (1 + n)) 16 (fun k => gF m 1 0 (16 * 0 + k))) 2 0 (16 * n) 16 (fun _ => FP.fconst0)) 0 0 2 (nI (n + 1))) a 0 (nI n) 0 0) := by
  unfold fX12_chip
  rw [lt1_e]
  have q : gI (sI m 0 0 10 0) 0 0 2 = nI n := hn
  rw [q, if_neg (show ¬ nI n = (40 : Int32) from fun e => by have := (nI_inj (by omega) (by decide)).mp (show nI n = nI 40 from e); omega)]
  have hc := mNewChip (m := sI m 0 0 10 0) (f := 0) (n := n) (a := a) (by decide) hn h (by omega) ha ha2
  rw [show fX12_newChip (0 : Int32) (sI m 0 0 10 0) = _ from hc, Option.bind_some]
  rfl
