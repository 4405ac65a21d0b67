/-! ===== the chain ===== -/
/-- the ring's row of the j-th latest act -/
def rw_ (x : Sto) (j : Nat) : Nat := (iN x 18 0 2 + 60 - j) % 60
/-- the ring's row w of t is that of x -/
def sameRow (x t : Sto) (w : Nat) : Prop := (∀ k, k < 4 → gI t 55 w k = gI x 55 w k) ∧ ∀ k, k < 32 → gF t 57 w k = gF x 57 w k
/-- what undo leaves as it is, in the class's store: all but families 3, 20, 21, 22, 29, 30, 32, 33 -/
def KeepX (t u : Sto) : Prop := gL u = gL t ∧ gD u = gD t ∧ (∀ f i j, f ≠ 3 → f ≠ 22 → f ≠ 29 → f ≠ 30 → f ≠ 32 → gI u f i j = gI t f i j) ∧ (∀ f i j, f ≠ 20 → f ≠ 21 → f ≠ 33 → gF u f i j = gF t f i j)
/-- the class's ring goes back along c: c 0 is what there is, c j what there was j acts ago -/
def ChainX (x : Sto) (c : Nat → Sto) : Prop := LiveEq (c 0) x ∧ (∀ j, j ≤ iN x 18 0 3 → CoreOk (c j)) ∧ ∀ j, j < iN x 18 0 3 → ∀ t, LiveEq (c j) t → sameRow x t (rw_ x j) → ∃ u, undoAt (rw_ x j) t = some u ∧ LiveEq (c (j + 1)) u ∧ KeepX t u
theorem KeepX_r (t : Sto) : KeepX t t := ⟨rfl, rfl, fun _ _ _ _ _ _ _ _ => rfl, fun _ _ _ _ _ _ => rfl⟩
theorem rw_0 {x : Sto} (h : RingOk x) : rw_ x 0 = iN x 18 0 2 := by
  have := h.1.2
  unfold rw_
  omega
/-- the class's undo takes the chain's head -/
theorem xUndoC {x : Sto} {c : Nat → Sto} (h : RingOk x) (h0 : 1 ≤ iN x 18 0 3) (hc : ChainX x c) : ∃ u, fX11_undo x = some (1, sI (sI u 18 0 2 (nI ((iN x 18 0 2 + 59) % 60))) 18 0 3 (nI (iN x 18 0 3 - 1))) ∧ LiveEq (c 1) u ∧ KeepX x u := by
  obtain ⟨u, u1, u2, u3⟩ := hc.2.2 0 (by omega) x hc.1 ⟨fun _ _ => rfl, fun _ _ => rfl⟩
  rw [rw_0 h] at u1
  exact ⟨u, xUndo h h0 u1 ⟨u3.2.2.1 18 0 2 (by decide) (by decide) (by decide) (by decide) (by decide), u3.2.2.1 18 0 3 (by decide) (by decide) (by decide) (by decide) (by decide)⟩, u2, u3⟩
