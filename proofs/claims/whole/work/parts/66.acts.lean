/-! ===== acts ===== -/
def noteS (x : Sto) (w s : Nat) (a b c d : Int32) : Sto := sI (sI (sI (sI (sI (sI x 18 0 2 (nI w)) 18 0 3 (nI s)) 55 w 0 a) 55 w 1 b) 55 w 2 c) 55 w 3 d
/-- the ring's pointer and its fill -/
def RingOk (x : Sto) : Prop := isN x 18 0 2 59 ∧ isN x 18 0 3 60
theorem xNote {x : Sto} (h : RingOk x) (a b c d : Int32) : fX0_note a b c d x = some ((57, (iN x 18 0 2 + 1) % 60), noteS x ((iN x 18 0 2 + 1) % 60) (min (iN x 18 0 3 + 1) 60) a b c d) := by
  obtain ⟨⟨h1, h2⟩, h3, h4⟩ := h
  have hw : (iN x 18 0 2 + 1) % 60 < 60 := Nat.mod_lt _ (by decide)
  have e1 : (gI x 18 0 2 + (1 : Int32)) - (gI x 18 0 2 + (1 : Int32)) / (60 : Int32) * (60 : Int32) = nI ((iN x 18 0 2 + 1) % 60) := by
    rw [h1]
    show (nI (iN x 18 0 2) + nI 1) - (nI (iN x 18 0 2) + nI 1) / nI 60 * nI 60 = _
    rw [nI_add, pk_rem (by omega) (by decide) (by decide)]
  have e2 : (if (60 : Int32) < gI x 18 0 3 + (1 : Int32) then (60 : Int32) else gI x 18 0 3 + (1 : Int32)) = nI (min (iN x 18 0 3 + 1) 60) := by
    rw [h3]
    show (if nI 60 < nI (iN x 18 0 3) + nI 1 then nI 60 else nI (iN x 18 0 3) + nI 1) = _
    rw [nI_add]
    by_cases g : 60 < iN x 18 0 3 + 1
    · rw [if_pos (by
        rw [Int32.lt_iff_toInt_lt, nI_toInt (by decide), nI_toInt (by omega)]; omega)]
      exact congrArg nI (by omega)
    · rw [if_neg (by
        rw [Int32.lt_iff_toInt_lt, nI_toInt (by decide), nI_toInt (by omega)]; omega)]
      exact congrArg nI (by omega)
  generalize (iN x 18 0 2 + 1) % 60 = w at hw e1 ⊢
  generalize min (iN x 18 0 3 + 1) 60 = s at e2 ⊢
  unfold fX0_note
  rw [ck_t (by decide), e1, lt1_e]
  have g3 : gI (sI x 18 0 2 (nI w)) 18 0 3 = gI x 18 0 3 := rfl
  rw [g3, e2, lt1_e]
  have l55 : lIX 55 w = 4 := if_pos hw
  have q1 : gI (sI (sI x 18 0 2 (nI w)) 18 0 3 (nI s)) 18 0 2 = nI w := rfl
  have q2 : ∀ v, gI (sI (sI (sI x 18 0 2 (nI w)) 18 0 3 (nI s)) 55 w 0 v) 18 0 2 = nI w := fun _ => rfl
  have q3 : ∀ v u, gI (sI (sI (sI (sI x 18 0 2 (nI w)) 18 0 3 (nI s)) 55 w 0 v) 55 w 1 u) 18 0 2 = nI w := fun _ _ => rfl
  have q4 : ∀ v u t, gI (sI (sI (sI (sI (sI x 18 0 2 (nI w)) 18 0 3 (nI s)) 55 w 0 v) 55 w 1 u) 55 w 2 t) 18 0 2 = nI w := fun _ _ _ => rfl
  have q5 : ∀ v u t r, gI (sI (sI (sI (sI (sI (sI x 18 0 2 (nI w)) 18 0 3 (nI s)) 55 w 0 v) 55 w 1 u) 55 w 2 t) 55 w 3 r) 18 0 2 = nI w := fun _ _ _ _ => rfl
  have iw : 0 ≤ (nI w).toInt ∧ (nI w).toInt < (60 : Int) := ixl (by omega) (by omega)
  rw [q1, ck_t iw, nI_cl (by omega), l55, ck_t (by decide), lt1_e, q2, ck_t iw, nI_cl (by omega), l55, ck_t (by decide), lt1_e, q3, ck_t iw, nI_cl (by omega), l55, ck_t (by decide), lt1_e, q4, ck_t iw, nI_cl (by omega), l55, ck_t (by decide), lt1_e, q5, ck_t iw, nI_cl (by omega)]
  rfl
theorem xDrop {x : Sto} (h : RingOk x) (h0 : 1 ≤ iN x 18 0 3) : fX0_drop x = some (sI (sI x 18 0 2 (nI ((iN x 18 0 2 + 59) % 60))) 18 0 3 (nI (iN x 18 0 3 - 1))) := by
  obtain ⟨⟨h1, h2⟩, h3, h4⟩ := h
  have e1 : ((gI x 18 0 2 + (60 : Int32)) - (1 : Int32)) - ((gI x 18 0 2 + (60 : Int32)) - (1 : Int32)) / (60 : Int32) * (60 : Int32) = nI ((iN x 18 0 2 + 59) % 60) := by
    rw [h1]
    have e : (nI (iN x 18 0 2) + (60 : Int32)) - (1 : Int32) = nI (iN x 18 0 2 + 59) := by
      show (nI (iN x 18 0 2) + nI 60) - nI 1 = _
      rw [nI_add, pk_sub (by omega)]
      exact congrArg nI (by omega)
    rw [e]
    exact pk_rem (by omega) (by decide) (by decide)
  unfold fX0_drop
  rw [ck_t (by decide), e1, lt1_e]
  have g3 : ∀ v, gI (sI x 18 0 2 v) 18 0 3 = gI x 18 0 3 := fun _ => rfl
  rw [g3, h3, show nI (iN x 18 0 3) - (1 : Int32) = nI (iN x 18 0 3 - 1) from pk_sub (b := 1) h0, lt1_e]
