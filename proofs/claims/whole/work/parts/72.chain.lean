/-! ===== the chain ===== -/
/-- the ring's row of the j-th latest act -/
def rw_ (x : Sto) (j : Nat) : Nat := (iN x 18 0 2 + 60 - j) % 60
/-- the ring's row w of t is that of x -/
def sameRow (x t : Sto) (w : Nat) : Prop := (∀ k, k < 4 → gI t 55 w k = gI x 55 w k) ∧ ∀ k, k < 32 → gF t 57 w k = gF x 57 w k
/-- what undo leaves as it is, in the class's store: all but families 3, 20, 21, 22, 29, 30, 32, 33 -/
def KeepX (t u : Sto) : Prop := gL u = gL t ∧ gD u = gD t ∧ (∀ f i j, f ≠ 3 → f ≠ 22 → f ≠ 29 → f ≠ 30 → f ≠ 32 → gI u f i j = gI t f i j) ∧ (∀ f i j, f ≠ 20 → f ≠ 21 → f ≠ 33 → gF u f i j = gF t f i j)
/-- the class's ring goes back along c: c 0 is what there is, c j what there was j acts ago -/
def ChainX (x : Sto) (c : Nat → Sto) : Prop := LiveEq (c 0) x ∧ (∀ j, j ≤ iN x 18 0 3 → CoreOk (c j)) ∧ ∀ j, j < iN x 18 0 3 → ∀ t, LiveEq (c j) t → sameRow x t (rw_ x j) → ∃ u, undoAt (rw_ x j) t = some u ∧ LiveEq (c (j + 1)) u ∧ KeepX t u
theorem KeepX_r (t : Sto) : KeepX t t := ⟨rfl, rfl, fun _ _ _ _ _ _ _ _ => rfl, fun _ _ _ _ _ _ => rfl⟩
theorem rw_0 {x : Sto} (h : RingOk x) : rw_ x 0 = iN x 18 0 2 := by
  have := h.1.2
  unfold rw_
  omega
/-- the class's undo takes the chain's head -/
theorem xUndoC {x : Sto} {c : Nat → Sto} (h : RingOk x) (h0 : 1 ≤ iN x 18 0 3) (hc : ChainX x c) : ∃ u, fX11_undo x = some (1, sI (sI u 18 0 2 (nI ((iN x 18 0 2 + 59) % 60))) 18 0 3 (nI (iN x 18 0 3 - 1))) ∧ LiveEq (c 1) u ∧ KeepX x u := by
  obtain ⟨u, u1, u2, u3⟩ := hc.2.2 0 (by omega) x hc.1 ⟨fun _ _ => rfl, fun _ _ => rfl⟩
  rw [rw_0 h] at u1
  exact ⟨u, xUndo h h0 u1 ⟨u3.2.2.1 18 0 2 (by decide) (by decide) (by decide) (by decide) (by decide), u3.2.2.1 18 0 3 (by decide) (by decide) (by decide) (by decide) (by decide)⟩, u2, u3⟩
/-- behind an undo the chain goes on with its tail -/
theorem ChainX_tl {x u : Sto} {c : Nat → Sto} (h : RingOk x) (h0 : 1 ≤ iN x 18 0 3) (hc : ChainX x c) (hu : LiveEq (c 1) u) (hk : KeepX x u) : ChainX (sI (sI u 18 0 2 (nI ((iN x 18 0 2 + 59) % 60))) 18 0 3 (nI (iN x 18 0 3 - 1))) (fun j => c (j + 1)) := by
  have b1 := h.1.2
  have b2 := h.2.2
  have e2 : iN (sI (sI u 18 0 2 (nI ((iN x 18 0 2 + 59) % 60))) 18 0 3 (nI (iN x 18 0 3 - 1))) 18 0 2 = (iN x 18 0 2 + 59) % 60 := nI_cl (n := (iN x 18 0 2 + 59) % 60) (by omega)
  have e3 : iN (sI (sI u 18 0 2 (nI ((iN x 18 0 2 + 59) % 60))) 18 0 3 (nI (iN x 18 0 3 - 1))) 18 0 3 = iN x 18 0 3 - 1 := nI_cl (n := iN x 18 0 3 - 1) (by omega)
  generalize hy : sI (sI u 18 0 2 (nI ((iN x 18 0 2 + 59) % 60))) 18 0 3 (nI (iN x 18 0 3 - 1)) = y at e2 e3 ⊢
  have gI_y : ∀ f i j, f ≠ 18 → gI y f i j = gI u f i j := fun f i j hf => by
    rw [← hy, gI_sI, if_neg (fun q => hf q.1), gI_sI, if_neg (fun q => hf q.1)]
  have gF_y : gF y = gF u := by rw [← hy]; rfl
  have gD_y : gD y = gD u := by rw [← hy]; rfl
  refine ⟨?_, ?_, ?_⟩
  · obtain ⟨k1, k2, k3, k4, k5, k6, k7, k8⟩ := hu
    refine ⟨fun k hk => ?_, ?_, ?_, ?_, fun d hd => ?_, fun i hi => ?_, fun l hl j hj => ?_, fun b hb => ?_⟩
    · rw [gI_y _ _ _ (by decide)]; exact k1 k hk
    · rw [gF_y]; exact k2
    · rw [gF_y]; exact k3
    · rw [gF_y]; exact k4
    · refine ⟨fun j hj => ?_, fun s hs => ⟨?_, ?_⟩⟩
      · rw [gI_y _ _ _ (by decide)]; exact (k5 d hd).1 j hj
      · rw [gI_y _ _ _ (by decide)]; exact ((k5 d hd).2 s hs).1
      · rw [gD_y]; exact ((k5 d hd).2 s hs).2
    · refine ⟨fun j hj => ?_, ?_⟩
      · rw [gI_y _ _ _ (by decide)]; exact (k6 i hi).1 j hj
      · rw [gD_y]; exact (k6 i hi).2
    · rw [gI_y _ _ _ (by decide)]; exact k7 l hl j hj
    · obtain ⟨p1, p2, p3, p4, p5, p6⟩ := k8 b hb
      rw [gI_y _ _ _ (by decide), gI_y _ _ _ (by decide), gI_y _ _ _ (by decide), gI_y _ _ _ (by decide), gF_y]
      refine ⟨p1, p2, p3, p4, fun k hk => ?_, p6⟩
      rw [gI_y _ _ _ (by decide), gI_y _ _ _ (by decide)]
      exact p5 k hk
  · intro j hj
    rw [e3] at hj
    exact hc.2.1 (j + 1) (by omega)
  · intro j hj t ht hs
    rw [e3] at hj
    have er : rw_ y j = rw_ x (j + 1) := by
      unfold rw_
      rw [e2]
      omega
    rw [er] at hs ⊢
    refine hc.2.2 (j + 1) (by omega) t ht ⟨fun k hk' => ?_, fun k hk' => ?_⟩
    · rw [hs.1 k hk', gI_y _ _ _ (by decide), hk.2.2.1 55 _ _ (by decide) (by decide) (by decide) (by decide) (by decide)]
    · rw [hs.2 k hk', gF_y, hk.2.2.2 57 _ _ (by decide) (by decide) (by decide)]
def consC (y : Sto) (c : Nat → Sto) : Nat → Sto
  | 0 => y
  | j + 1 => c j
/-- an act more: the chain is longer by it, and the oldest of sixty drops out -/
theorem ChainX_ps {x y : Sto} {c : Nat → Sto} (h : RingOk x) (hc : ChainX x c) (hy : CoreOk y) (e2 : iN y 18 0 2 = (iN x 18 0 2 + 1) % 60) (e3 : iN y 18 0 3 = min (iN x 18 0 3 + 1) 60) (hrow : ∀ w, w < 60 → w ≠ (iN x 18 0 2 + 1) % 60 → sameRow x y w) (hhead : ∀ t, LiveEq y t → sameRow y t ((iN x 18 0 2 + 1) % 60) → ∃ u, undoAt ((iN x 18 0 2 + 1) % 60) t = some u ∧ LiveEq (c 0) u ∧ KeepX t u) : ChainX y (consC y c) := by
  have b1 := h.1.2
  have b2 := h.2.2
  refine ⟨LiveEq_r hy, ?_, ?_⟩
  · intro j hj
    cases j with
    | zero => exact hy
    | succ j => exact hc.2.1 j (by omega)
  · intro j hj t ht hs
    cases j with
    | zero =>
      have er : rw_ y 0 = (iN x 18 0 2 + 1) % 60 := by unfold rw_; omega
      rw [er] at hs ⊢
      exact hhead t ht hs
    | succ j =>
      have er : rw_ y (j + 1) = rw_ x j := by unfold rw_; omega
      have hw : rw_ x j < 60 := Nat.mod_lt _ (by decide)
      have hne : rw_ x j ≠ (iN x 18 0 2 + 1) % 60 := by unfold rw_; omega
      have hr := hrow _ hw hne
      rw [er] at hs ⊢
      exact hc.2.2 j (by omega) t ht ⟨fun k hk => (hs.1 k hk).trans (hr.1 k hk), fun k hk => (hs.2 k hk).trans (hr.2 k hk)⟩
