/-! ===== places copied ===== -/
theorem mCopy {m : Sto} {f t : Nat} (hf : f < 136) (ht : t < 136) (hft : f ≠ t) : fX12_copy (nI f) (nI t) m = some (putO m 1 0 (16 * t) 16 (fun k => gF m 1 0 (16 * f + k))) := by
  unfold fX12_copy
  rw [loopO (f := 1) (i := 0) (o := 16 * t) (fun k => gF m 1 0 (16 * f + k)) 16 (by decide) (fun k hk => by
    dsimp only [un2]
    have e1 : ((16 : Int32) * nI f) + nI k = nI (16 * f + k) := by
      show nI 16 * nI f + nI k = _
      simp only [pk_mul, nI_add]
    have e2 : ((16 : Int32) * nI t) + nI k = nI (16 * t + k) := by
      show nI 16 * nI t + nI k = _
      simp only [pk_mul, nI_add]
    have ia : 0 ≤ (nI (16 * f + k)).toInt ∧ (nI (16 * f + k)).toInt < ((2176 : Nat) : Int) := ixl (by omega) (by omega)
    have ib : 0 ≤ (nI (16 * t + k)).toInt ∧ (nI (16 * t + k)).toInt < ((2176 : Nat) : Int) := ixl (by omega) (by omega)
    rw [if_neg (g16 hk), e1, e2, show lFM 1 0 = 2176 from rfl, ck_t ia, ck_t ib, nI_cl (n := 16 * f + k) (by omega), nI_cl (n := 16 * t + k) (by omega), putO_g (by omega), lt1_e, lt1_e, nI_s]) (by dsimp only [un2]; exact if_pos (show nI 16 ≤ nI 16 by decide))]
  rfl
theorem xCopy {x : Sto} {f i g j : Nat} (h1 : 16 ≤ lFX f i) (h2 : 16 ≤ lFX g j) : fX11_copyRow f i g j x = some (putF x g j 16 (fun k => gF x f i k)) := by
  unfold fX11_copyRow
  rw [ck_t ⟨h1, h2⟩, lt1_e, cF_put]
theorem xRefused (a : Int32) (x : Sto) : fX11_refused a x = some (-1, sI x 0 0 19 a) := rfl
theorem xDenied (a : Int32) (x : Sto) : fX11_denied a x = some (0, sI x 0 0 19 a) := rfl
theorem xAccept (x : Sto) : fX11_accept x = some (1, sI x 0 0 19 0) := rfl
theorem mNo (a : Int32) (m : Sto) : fX12_no a m = some (-1, sI m 0 0 9 a) := rfl
theorem mNot (a : Int32) (m : Sto) : fX12_not a m = some (0, sI m 0 0 9 a) := rfl
/-- the class's new one of a kind: noted, accepted, counted -/
theorem xNewOne {x : Sto} {a n : Nat} (ha : a < 6) (hr : RingOk x) (hn : gI x 3 0 a = nI n) (h : n < 2 ^ 30) : fX11_newOne (nI a) x = some (nI n, sI (sI (noteS x ((iN x 18 0 2 + 1) % 60) (min (iN x 18 0 3 + 1) 60) (nI a) 0 0 0) 0 0 19 0) 3 0 a (nI (n + 1))) := by
  unfold fX11_newOne
  rw [xNote hr, Option.bind_some]
  dsimp only [un2]
  rw [xAccept, Option.bind_some]
  dsimp only [un2]
  have i3 : 0 ≤ (nI a).toInt ∧ (nI a).toInt < ((6 : Nat) : Int) := ixl (by omega) (by omega)
  have q1 : gI (sI (noteS x ((iN x 18 0 2 + 1) % 60) (min (iN x 18 0 3 + 1) 60) (nI a) 0 0 0) 0 0 19 0) 3 0 a = nI n := by
    unfold noteS
    rw [gI_sI, if_neg (by omega), gI_sI, if_neg (by omega), gI_sI, if_neg (by omega), gI_sI, if_neg (by omega), gI_sI, if_neg (by omega), gI_sI, if_neg (by omega), gI_sI, if_neg (by omega), hn]
  rw [show lIX 3 0 = 6 from rfl, ck_t i3, ck_t i3, nI_cl (by omega), q1, show nI n + (1 : Int32) = nI (n + 1) from nI_1 n, lt1_e, ck_t i3, gI_sI, if_pos ⟨rfl, rfl, rfl⟩, show nI (n + 1) - (1 : Int32) = nI n from pk_sub (b := 1) (by omega)]
