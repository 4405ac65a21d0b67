/-- what undo does by the ring's row w, but for the ring itself -/
def undoAt (w : Nat) (t : Sto) : Option Sto := if (6 : Int32) ≤ gI t 55 w 0 then fX11_takeBack 55 w 57 w t else ck (0 ≤ (gI t 55 w 0).toInt ∧ (gI t 55 w 0).toInt < (lIX 3 0 : Int)) (some (sI t 3 0 ((gI t 55 w 0).toNatClampNeg) (gI t 3 0 ((gI t 55 w 0).toNatClampNeg) - (1 : Int32))))
theorem xUndo0 {x : Sto} (h : gI x 18 0 3 = 0) : fX11_undo x = some (0, x) := by
  unfold fX11_undo
  rw [if_pos h]
theorem xUndo {x t : Sto} (h : RingOk x) (h0 : 1 ≤ iN x 18 0 3) (hu : undoAt (iN x 18 0 2) x = some t) (ht : gI t 18 0 2 = gI x 18 0 2 ∧ gI t 18 0 3 = gI x 18 0 3) : fX11_undo x = some (1, sI (sI t 18 0 2 (nI ((iN x 18 0 2 + 59) % 60))) 18 0 3 (nI (iN x 18 0 3 - 1))) := by
  obtain ⟨⟨h1, h2⟩, h3, h4⟩ := h
  have hd : fX0_drop t = some (sI (sI t 18 0 2 (nI ((iN x 18 0 2 + 59) % 60))) 18 0 3 (nI (iN x 18 0 3 - 1))) := by
    have e2 : iN t 18 0 2 = iN x 18 0 2 := iN_e ht.1
    have e3 : iN t 18 0 3 = iN x 18 0 3 := iN_e ht.2
    have hr : RingOk t := ⟨isN_e ht.1 ⟨h1, h2⟩, isN_e ht.2 ⟨h3, h4⟩⟩
    have := xDrop hr (by rw [e3]; exact h0)
    rw [e2, e3] at this
    exact this
  have iw : 0 ≤ (gI x 18 0 2).toInt ∧ (gI x 18 0 2).toInt < (60 : Int) := by rw [h1]; exact ixl (by omega) (by omega)
  have hl : fX0_latest x = some (55, iN x 18 0 2) := by
    unfold fX0_latest
    rw [ck_t iw]; rfl
  have hk : fX0_keptOfLatest x = some (57, iN x 18 0 2) := by
    unfold fX0_keptOfLatest
    rw [ck_t iw]; rfl
  have l55 : lIX 55 (iN x 18 0 2) = 4 := if_pos (show iN x 18 0 2 < 60 by omega)
  unfold fX11_undo
  rw [if_neg (show ¬ gI x 18 0 3 = 0 from fun e => by
    rw [h3] at e
    have := (nI_z (by omega)).mp e
    omega), hl, Option.bind_some]
  dsimp only [un2]
  rw [l55, ck_t (by decide)]
  unfold undoAt at hu
  by_cases c : (6 : Int32) ≤ gI x 55 (iN x 18 0 2) 0
  · rw [if_pos c] at hu
    rw [if_pos c, hk, Option.bind_some]
    dsimp only [un2]
    rw [hu, Option.bind_some, hd, Option.bind_some]
  · rw [if_neg c] at hu
    obtain ⟨g1, g2⟩ := ck_c hu
    rw [if_neg c, ck_t (by decide), ck_t g1, ck_t g1, lt1_e]
    cases g2
    rw [hd, Option.bind_some]
