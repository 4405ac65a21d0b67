/-! ===== undo, by both ===== -/
theorem b_undo {x m : Sto} (h : Rel x m) : ∃ r x' m', fX11_undo x = some (r, x') ∧ fX12_undo m = some (r, m') ∧ Rel x' m' := by
  have h0 := h
  obtain ⟨hR, h9, hC⟩ := h
  obtain ⟨⟨r1, r2⟩, hx, hm, h44, c, hc, hM⟩ := hR
  have b1 := r1.2
  have b2 := r2.2
  have q44 : gI m 0 0 44 = nI (iN x 18 0 3) := h44.trans r2.1
  by_cases e : iN x 18 0 3 = 0
  · refine ⟨0, x, sI m 0 0 10 0, xUndo0 (by rw [r2.1, e]; rfl), ?_, rel_th h0⟩
    unfold fX12_undo
    rw [lt1_e, show gI (sI m 0 0 10 0) 0 0 44 = nI (iN x 18 0 3) from q44, e, if_pos (show nI 0 = 0 from rfl)]
  · obtain ⟨u, u1, u2, u3⟩ := xUndoC ⟨r1, r2⟩ (by omega) hc
    obtain ⟨um, v1, v2, v3, v4⟩ := mUndoC b2 (by omega) q44 hm hc.1 hM
    have tl := ChainX_tl ⟨r1, r2⟩ (by omega) hc u2 u3
    have hS : SCX u (sI (sI u 18 0 2 (nI ((iN x 18 0 2 + 59) % 60))) 18 0 3 (nI (iN x 18 0 3 - 1))) := SCX_t (SCX_I (by decide)) (SCX_I (by decide))
    have e2 : gI (sI (sI u 18 0 2 (nI ((iN x 18 0 2 + 59) % 60))) 18 0 3 (nI (iN x 18 0 3 - 1))) 18 0 2 = nI ((iN x 18 0 2 + 59) % 60) := rfl
    have e3 : gI (sI (sI u 18 0 2 (nI ((iN x 18 0 2 + 59) % 60))) 18 0 3 (nI (iN x 18 0 3 - 1))) 18 0 3 = nI (iN x 18 0 3 - 1) := rfl
    have e9 : gI (sI (sI u 18 0 2 (nI ((iN x 18 0 2 + 59) % 60))) 18 0 3 (nI (iN x 18 0 3 - 1))) 0 0 19 = gI u 0 0 19 := rfl
    refine ⟨1, sI (sI u 18 0 2 (nI ((iN x 18 0 2 + 59) % 60))) 18 0 3 (nI (iN x 18 0 3 - 1)), um, u1, v1, ?_⟩
    generalize sI (sI u 18 0 2 (nI ((iN x 18 0 2 + 59) % 60))) 18 0 3 (nI (iN x 18 0 3 - 1)) = y at tl hS e2 e3 e9 ⊢
    have f2 := isN_v (b := 59) e2 (by omega) (by decide)
    have f3 := isN_v (b := 60) e3 (by omega) (by decide)
    refine ⟨⟨⟨f2.2, f3.2⟩, CoreOk_E tl.1 (hc.2.1 1 (by omega)), LiveM_E tl.1 v3, v2.trans e3.symm, fun j => c (j + 1), tl, ?_⟩, ?_, Cur_f (SCX_t (SCX_K u3) hS) (SCM_K v4) hC⟩
    · rw [f3.1]; exact ChainM_tl hM v4
    · rw [e9, u3.2.2.1 0 0 19 (by decide) (by decide) (by decide) (by decide) (by decide), v4.2.2.1 0 0 9 (by omega) (by decide) (by decide) (by decide) (by decide) (by decide) (by decide)]
      exact h9
