theorem both_size (v : Int32) : (∃ j, v = nI j ∧ 1 ≤ j ∧ j ≤ 1000 ∧ fX11_isWithin v 1 1000 = some 1 ∧ fX12_isSize v = some 1) ∨ (fX11_isWithin v 1 1000 = some 0 ∧ fX12_isSize v = some 0) := by
  rcases rng v 1 1000 (by decide) (by decide) with ⟨j, e1, e2, e3, e4, e5, _, e6⟩ | ⟨e, e6⟩
  · refine Or.inl ⟨j, e1, e2, e3, e6, ?_⟩
    unfold fX12_isSize
    rw [show ((1 : Int32)) = nI 1 from rfl, if_neg e4, if_neg (show ¬ (1000 : Int32) < v from e5)]
  · refine Or.inr ⟨e6, ?_⟩
    unfold fX12_isSize
    rcases e with e | ⟨e, e', _⟩
    · exact if_pos e
    · exact (if_neg e).trans (if_pos e')
theorem b_lot {x m : Sto} (h : Rel x m) (a up down mg_ : Int32) : ∃ r x' m', fX11_lot a up down mg_ x = some (r, x') ∧ fX12_lot a up down mg_ m = some (r, m') ∧ Rel x' m' := by
  have hx := h.1.2.1
  obtain ⟨c1, c2, cap⟩ := rel_cnt h (k := 4) (by decide)
  obtain ⟨_, d2, _⟩ := rel_cnt h (k := 2) (by decide)
  obtain ⟨a1, a2⟩ := rel_acts h
  have cap : cN x 4 ≤ 20 := cap
  have cap1 : cN x 2 ≤ 12 := (hx.1 2 (by decide)).2
  have qd : gI (sI m 0 0 10 0) 0 0 4 = nI (cN x 2) := d2
  rcases both_is hx (a := 2) (by decide) a with ⟨cl, rfl, hcl, e1, e2⟩ | ⟨_, e1, e2⟩
  rotate_left
  · refine ⟨-1, _, _, ?_, ?_, rel_no (v := 2) h⟩
    · unfold fX11_lot
      rw [show fX11_isThere (2 : Int32) a x = some 0 from e1, Option.bind_some, if_pos rfl, xRefused, Option.bind_some]; rfl
    · unfold fX12_lot
      rw [lt1_e, qd, e2, Option.bind_some, if_pos rfl, mNo, Option.bind_some]; rfl
  have e1 : fX11_isThere (2 : Int32) (nI cl) x = some 1 := e1
  rcases both_size up with ⟨u, rfl, u1, u2, u3, u4⟩ | ⟨u3, u4⟩
  rotate_left
  · refine ⟨-1, _, _, ?_, ?_, rel_no (v := 3) h⟩
    · unfold fX11_lot
      rw [e1, Option.bind_some, if_neg (show ¬ (1 : Int32) = 0 by decide), u3, Option.bind_some, if_pos rfl, xRefused, Option.bind_some]; rfl
    · unfold fX12_lot
      rw [lt1_e, qd, e2, Option.bind_some, if_neg (show ¬ (1 : Int32) = 0 by decide), u4, Option.bind_some, if_pos rfl, mNo, Option.bind_some]; rfl
  rcases both_size down with ⟨w, rfl, w1, w2, w3, w4⟩ | ⟨w3, w4⟩
  rotate_left
  · refine ⟨-1, _, _, ?_, ?_, rel_no (v := 3) h⟩
    · unfold fX11_lot
      rw [e1, Option.bind_some, if_neg (show ¬ (1 : Int32) = 0 by decide), u3, Option.bind_some, if_neg (show ¬ (1 : Int32) = 0 by decide), w3, Option.bind_some, if_pos rfl, xRefused, Option.bind_some]; rfl
    · unfold fX12_lot
      rw [lt1_e, qd, e2, Option.bind_some, if_neg (show ¬ (1 : Int32) = 0 by decide), u4, Option.bind_some, if_neg (show ¬ (1 : Int32) = 0 by decide), w4, Option.bind_some, if_pos rfl, mNo, Option.bind_some]; rfl
  rcases rng mg_ 1 1000000000 (by decide) (by decide) with ⟨z, rfl, z1, z2, z3, z4, z5, z6⟩ | ⟨z, z6⟩
  rotate_left
  · refine ⟨-1, _, _, ?_, ?_, rel_no (v := 3) h⟩
    · unfold fX11_lot
      rw [e1, Option.bind_some, if_neg (show ¬ (1 : Int32) = 0 by decide), u3, Option.bind_some, if_neg (show ¬ (1 : Int32) = 0 by decide), w3, Option.bind_some, if_neg (show ¬ (1 : Int32) = 0 by decide), show fX11_isWithin mg_ (1 : Int32) (1000000000 : Int32) = some 0 from z6, Option.bind_some, if_pos rfl, xRefused, Option.bind_some]; rfl
    · unfold fX12_lot
      rw [lt1_e, qd, e2, Option.bind_some, if_neg (show ¬ (1 : Int32) = 0 by decide), u4, Option.bind_some, if_neg (show ¬ (1 : Int32) = 0 by decide), w4, Option.bind_some, if_neg (show ¬ (1 : Int32) = 0 by decide)]
      rcases z with z | ⟨z, _, z'⟩
      · rw [if_pos (show mg_ < (1 : Int32) from z), mNo, Option.bind_some]; rfl
      · rw [if_neg (show ¬ mg_ < (1 : Int32) from z), if_neg (show ¬ mg_ ≤ (1000000000 : Int32) from z'), mNo, Option.bind_some]; rfl
  have z6 : fX11_isWithin (nI z) (1 : Int32) (1000000000 : Int32) = some 1 := z6
  generalize hn : cN x 4 = n at c1 c2 cap
  have c2 : gI m 0 0 6 = nI n := c2
  have q3 : gI (sI m 0 0 10 0) 0 0 6 = nI n := c2
  by_cases e : n = 20
  · subst e
    refine ⟨-1, _, _, ?_, ?_, rel_no (v := 1) h⟩
    · unfold fX11_lot
      rw [e1, Option.bind_some, if_neg (show ¬ (1 : Int32) = 0 by decide), u3, Option.bind_some, if_neg (show ¬ (1 : Int32) = 0 by decide), w3, Option.bind_some, if_neg (show ¬ (1 : Int32) = 0 by decide), z6, Option.bind_some, if_neg (show ¬ (1 : Int32) = 0 by decide), c1, if_neg (show ¬ nI 20 < (20 : Int32) by decide), xRefused, Option.bind_some]; rfl
    · unfold fX12_lot
      rw [lt1_e, qd, e2, Option.bind_some, if_neg (show ¬ (1 : Int32) = 0 by decide), u4, Option.bind_some, if_neg (show ¬ (1 : Int32) = 0 by decide), w4, Option.bind_some, if_neg (show ¬ (1 : Int32) = 0 by decide), if_neg (show ¬ nI z < (1 : Int32) from z3), if_pos (show nI z ≤ (1000000000 : Int32) from z5), q3, if_pos (show nI 20 = (20 : Int32) from rfl), mNo, Option.bind_some]; rfl
  · have hlt : n < 20 := by omega
    generalize hx1 : sI (sI (sI (sI (sI x 29 n 0 (nI cl)) 29 n 1 (nI u)) 29 n 2 (nI w)) 29 n 3 (nI z)) 29 n 4 (nI z) = x1
    have x1r : RingOk x1 := by rw [← hx1]; exact h.1.1
    have x1c : gI x1 3 0 4 = nI n := by rw [← hx1]; exact c1
    have hnew := xNewOne (x := x1) (a := 4) (n := n) (by decide) x1r x1c (by omega)
    have er2 : iN x1 18 0 2 = iN x 18 0 2 := by rw [← hx1]; rfl
    have er3 : iN x1 18 0 3 = iN x 18 0 3 := by rw [← hx1]; rfl
    rw [er2, er3] at hnew
    have i16 : 0 ≤ (nI n).toInt ∧ (nI n).toInt < ((20 : Nat) : Int) := ixl (by omega) (by omega)
    refine ⟨nI n, newS x1 ((iN x 18 0 2 + 1) % 60) (min (iN x 18 0 3 + 1) 60) 4 n, actS (sI (sI (sI (sI (sI (sI (sI m 0 0 10 0) 16 0 n (nI cl)) 17 0 n (nI u)) 18 0 n (nI w)) 19 0 n (nI z)) 20 0 n (nI z)) 0 0 6 (nI (n + 1))) (iN x 18 0 3) (kA 4) 0 0 0, ?_, ?_, ?_⟩
    · unfold fX11_lot
      rw [e1, Option.bind_some, if_neg (show ¬ (1 : Int32) = 0 by decide), u3, Option.bind_some, if_neg (show ¬ (1 : Int32) = 0 by decide), w3, Option.bind_some, if_neg (show ¬ (1 : Int32) = 0 by decide), z6, Option.bind_some, if_neg (show ¬ (1 : Int32) = 0 by decide), c1, if_pos (show nI n < (20 : Int32) from (nI_ltJ (b := 20) (by omega) (by decide)).mpr hlt), ck_t (by exact ixl (by omega) (by omega)), nI_cl (by omega)]
      unfold fX4_begin
      rw [lt1_e, lt1_e, lt1_e, lt1_e, lt1_e, Option.bind_some, hx1, show fX11_newOne (4 : Int32) x1 = _ from hnew, Option.bind_some]
      rfl
    · have q4 : gI (sI (sI m 0 0 10 0) 16 0 n (nI cl)) 0 0 6 = nI n := c2
      have q5 : gI (sI (sI (sI m 0 0 10 0) 16 0 n (nI cl)) 17 0 n (nI u)) 0 0 6 = nI n := c2
      have q6 : gI (sI (sI (sI (sI m 0 0 10 0) 16 0 n (nI cl)) 17 0 n (nI u)) 18 0 n (nI w)) 0 0 6 = nI n := c2
      have q7 : gI (sI (sI (sI (sI (sI m 0 0 10 0) 16 0 n (nI cl)) 17 0 n (nI u)) 18 0 n (nI w)) 19 0 n (nI z)) 0 0 6 = nI n := c2
      have q8 : gI (sI (sI (sI (sI (sI (sI m 0 0 10 0) 16 0 n (nI cl)) 17 0 n (nI u)) 18 0 n (nI w)) 19 0 n (nI z)) 20 0 n (nI z)) 0 0 6 = nI n := c2
      have q44 : gI (sI (sI (sI (sI (sI (sI (sI m 0 0 10 0) 16 0 n (nI cl)) 17 0 n (nI u)) 18 0 n (nI w)) 19 0 n (nI z)) 20 0 n (nI z)) 0 0 6 (nI (n + 1))) 0 0 44 = nI (iN x 18 0 3) := a1
      unfold fX12_lot
      rw [lt1_e, qd, e2, Option.bind_some, if_neg (show ¬ (1 : Int32) = 0 by decide), u4, Option.bind_some, if_neg (show ¬ (1 : Int32) = 0 by decide), w4, Option.bind_some, if_neg (show ¬ (1 : Int32) = 0 by decide), if_neg (show ¬ nI z < (1 : Int32) from z3), if_pos (show nI z ≤ (1000000000 : Int32) from z5), q3, if_neg (show ¬ nI n = (20 : Int32) from fun q => e ((nI_inj (by omega) (by decide)).mp (show nI n = nI 20 from q))), show lIM 16 0 = 20 from rfl, show lIM 17 0 = 20 from rfl, show lIM 18 0 = 20 from rfl, show lIM 19 0 = 20 from rfl, show lIM 20 0 = 20 from rfl, ck_t i16, nI_cl (by omega), lt1_e, q4, ck_t i16, nI_cl (by omega), lt1_e, q5, ck_t i16, nI_cl (by omega), lt1_e, q6, ck_t i16, nI_cl (by omega), lt1_e, q7, ck_t i16, nI_cl (by omega), lt1_e, q8, show nI n + (1 : Int32) = nI (n + 1) from nI_1 n, lt1_e]
      refine (congrArg (fun o => Option.bind o _) (mAct q44 a2 6 0 0 0)).trans ?_
      rw [Option.bind_some, act_end (by decide) (by omega) rfl]
      rfl
    · have y0 : gI (newS x1 ((iN x 18 0 2 + 1) % 60) (min (iN x 18 0 3 + 1) 60) 4 n) 29 n 0 = nI cl := (newS_I (by omega)).trans (by rw [← hx1]; simp [gI_sI])
      have y1 : gI (newS x1 ((iN x 18 0 2 + 1) % 60) (min (iN x 18 0 3 + 1) 60) 4 n) 29 n 1 = nI u := (newS_I (by omega)).trans (by rw [← hx1]; simp [gI_sI])
      have y2 : gI (newS x1 ((iN x 18 0 2 + 1) % 60) (min (iN x 18 0 3 + 1) 60) 4 n) 29 n 2 = nI w := (newS_I (by omega)).trans (by rw [← hx1]; simp [gI_sI])
      have y3 : gI (newS x1 ((iN x 18 0 2 + 1) % 60) (min (iN x 18 0 3 + 1) 60) 4 n) 29 n 3 = nI z := (newS_I (by omega)).trans (by rw [← hx1]; simp [gI_sI])
      have y4 : gI (newS x1 ((iN x 18 0 2 + 1) % 60) (min (iN x 18 0 3 + 1) 60) 4 n) 29 n 4 = nI z := (newS_I (by omega)).trans (by rw [← hx1]; simp [gI_sI])
      have yc : cN (newS x1 ((iN x 18 0 2 + 1) % 60) (min (iN x 18 0 3 + 1) 60) 4 n) 2 = cN x 2 := iN_e (by rw [newS_3, if_neg (by decide), ← hx1]; rfl)
      refine rel_newI (fx := 29) h hn hlt (Or.inr (Or.inl ⟨rfl, rfl⟩)) (fun f i j q => ?_) (by rw [← hx1]; rfl) (fun f i j q1 q2 => ?_) rfl rfl ?_ ?_
      · rw [← hx1, gI_sI, if_neg (by omega), gI_sI, if_neg (by omega), gI_sI, if_neg (by omega), gI_sI, if_neg (by omega), gI_sI, if_neg (by omega)]
      · rw [gI_sI, if_neg (by omega), gI_sI, if_neg (by omega), gI_sI, if_neg (by omega), gI_sI, if_neg (by omega), gI_sI, if_neg (by omega), gI_sI, if_neg (by omega), gI_sI, if_neg (by omega)]
      · obtain ⟨v0, p0⟩ := isN_v (b := 12) y0 (by omega) (by decide)
        obtain ⟨v1, p1⟩ := isN_v (b := 1000) y1 (by omega) (by decide)
        obtain ⟨v2, p2⟩ := isN_v (b := 1000) y2 (by omega) (by decide)
        obtain ⟨v3, p3⟩ := isN_v (b := 1000000000) y3 (by omega) (by decide)
        obtain ⟨v4, p4⟩ := isN_v (b := 1000000000) y4 (by omega) (by decide)
        refine ⟨⟨p0, ?_⟩, ⟨p1, ?_⟩, ⟨p2, ?_⟩, p3, p4, ?_⟩
        · rw [v0, yc]; exact hcl
        · rw [v1]; exact u1
        · rw [v2]; exact w1
        · rw [v3, v4]; exact Nat.le_refl _
      · refine ⟨?_, ?_, ?_, ?_, ?_⟩
        · rw [actS_I (by decide) (by omega), y0]; simp [gI_sI]
        · rw [actS_I (by decide) (by omega), y1]; simp [gI_sI]
        · rw [actS_I (by decide) (by omega), y2]; simp [gI_sI]
        · rw [actS_I (by decide) (by omega), y3]; simp [gI_sI]
        · rw [actS_I (by decide) (by omega), y4]; simp [gI_sI]
theorem b_batch {x m : Sto} (h : Rel x m) (a k_ : Int32) : ∃ r x' m', fX11_batch a k_ x = some (r, x') ∧ fX12_batch a k_ m = some (r, m') ∧ Rel x' m' := by
  have hx := h.1.2.1
  obtain ⟨c1, c2, cap⟩ := rel_cnt h (k := 5) (by decide)
  obtain ⟨_, d2, _⟩ := rel_cnt h (k := 1) (by decide)
  obtain ⟨a1, a2⟩ := rel_acts h
  have cap : cN x 5 ≤ 12 := cap
  have cap1 : cN x 1 ≤ 8 := (hx.1 1 (by decide)).2
  have qd : gI (sI m 0 0 10 0) 0 0 3 = nI (cN x 1) := d2
  rcases both_is hx (a := 1) (by decide) a with ⟨cl, rfl, hcl, e1, e2⟩ | ⟨_, e1, e2⟩
  rotate_left
  · refine ⟨-1, _, _, ?_, ?_, rel_no (v := 2) h⟩
    · unfold fX11_batch
      rw [show fX11_isThere (1 : Int32) a x = some 0 from e1, Option.bind_some, if_pos rfl, xRefused, Option.bind_some]; rfl
    · unfold fX12_batch
      rw [lt1_e, qd, e2, Option.bind_some, if_pos rfl, mNo, Option.bind_some]; rfl
  have e1 : fX11_isThere (1 : Int32) (nI cl) x = some 1 := e1
  rcases both_size k_ with ⟨u, rfl, u1, u2, u3, u4⟩ | ⟨u3, u4⟩
  rotate_left
  · refine ⟨-1, _, _, ?_, ?_, rel_no (v := 3) h⟩
    · unfold fX11_batch
      rw [e1, Option.bind_some, if_neg (show ¬ (1 : Int32) = 0 by decide), u3, Option.bind_some, if_pos rfl, xRefused, Option.bind_some]; rfl
    · unfold fX12_batch
      rw [lt1_e, qd, e2, Option.bind_some, if_neg (show ¬ (1 : Int32) = 0 by decide), u4, Option.bind_some, if_pos rfl, mNo, Option.bind_some]; rfl
  generalize hn : cN x 5 = n at c1 c2 cap
  have c2 : gI m 0 0 7 = nI n := c2
  have q3 : gI (sI m 0 0 10 0) 0 0 7 = nI n := c2
  by_cases e : n = 12
  · subst e
    refine ⟨-1, _, _, ?_, ?_, rel_no (v := 1) h⟩
    · unfold fX11_batch
      rw [e1, Option.bind_some, if_neg (show ¬ (1 : Int32) = 0 by decide), u3, Option.bind_some, if_neg (show ¬ (1 : Int32) = 0 by decide), c1, if_neg (show ¬ nI 12 < (12 : Int32) by decide), xRefused, Option.bind_some]; rfl
    · unfold fX12_batch
      rw [lt1_e, qd, e2, Option.bind_some, if_neg (show ¬ (1 : Int32) = 0 by decide), u4, Option.bind_some, if_neg (show ¬ (1 : Int32) = 0 by decide), q3, if_pos (show nI 12 = (12 : Int32) from rfl), mNo, Option.bind_some]; rfl
  · have hlt : n < 12 := by omega
    generalize hx1 : sI (sI (sI (sI x 30 n 0 (nI cl)) 30 n 1 (nI u)) 30 n 2 0) 30 n 5 0 = x1
    have x1r : RingOk x1 := by rw [← hx1]; exact h.1.1
    have x1c : gI x1 3 0 5 = nI n := by rw [← hx1]; exact c1
    have hnew := xNewOne (x := x1) (a := 5) (n := n) (by decide) x1r x1c (by omega)
    have er2 : iN x1 18 0 2 = iN x 18 0 2 := by rw [← hx1]; rfl
    have er3 : iN x1 18 0 3 = iN x 18 0 3 := by rw [← hx1]; rfl
    rw [er2, er3] at hnew
    have i16 : 0 ≤ (nI n).toInt ∧ (nI n).toInt < ((12 : Nat) : Int) := ixl (by omega) (by omega)
    have z0 : vp_nar .boolean (0 : Int32) = 0 := rfl
    refine ⟨nI n, newS x1 ((iN x 18 0 2 + 1) % 60) (min (iN x 18 0 3 + 1) 60) 5 n, actS (sI (sI (sI (sI (sI (sI m 0 0 10 0) 21 0 n (nI cl)) 22 0 n (nI u)) 23 0 n 0) 26 0 n 0) 0 0 7 (nI (n + 1))) (iN x 18 0 3) (kA 5) 0 0 0, ?_, ?_, ?_⟩
    · unfold fX11_batch
      rw [e1, Option.bind_some, if_neg (show ¬ (1 : Int32) = 0 by decide), u3, Option.bind_some, if_neg (show ¬ (1 : Int32) = 0 by decide), c1, if_pos (show nI n < (12 : Int32) from (nI_ltJ (b := 12) (by omega) (by decide)).mpr hlt), ck_t (by exact ixl (by omega) (by omega)), nI_cl (by omega)]
      unfold fX1_begin
      rw [lt1_e, lt1_e, lt1_e, lt1_e, Option.bind_some, hx1, show fX11_newOne (5 : Int32) x1 = _ from hnew, Option.bind_some]
      rfl
    · have q4 : gI (sI (sI m 0 0 10 0) 21 0 n (nI cl)) 0 0 7 = nI n := c2
      have q5 : gI (sI (sI (sI m 0 0 10 0) 21 0 n (nI cl)) 22 0 n (nI u)) 0 0 7 = nI n := c2
      have q6 : gI (sI (sI (sI (sI m 0 0 10 0) 21 0 n (nI cl)) 22 0 n (nI u)) 23 0 n 0) 0 0 7 = nI n := c2
      have q7 : gI (sI (sI (sI (sI (sI m 0 0 10 0) 21 0 n (nI cl)) 22 0 n (nI u)) 23 0 n 0) 26 0 n 0) 0 0 7 = nI n := c2
      have q44 : gI (sI (sI (sI (sI (sI (sI m 0 0 10 0) 21 0 n (nI cl)) 22 0 n (nI u)) 23 0 n 0) 26 0 n 0) 0 0 7 (nI (n + 1))) 0 0 44 = nI (iN x 18 0 3) := a1
      unfold fX12_batch
      rw [lt1_e, qd, e2, Option.bind_some, if_neg (show ¬ (1 : Int32) = 0 by decide), u4, Option.bind_some, if_neg (show ¬ (1 : Int32) = 0 by decide), q3, if_neg (show ¬ nI n = (12 : Int32) from fun q => e ((nI_inj (by omega) (by decide)).mp (show nI n = nI 12 from q))), show lIM 21 0 = 12 from rfl, show lIM 22 0 = 12 from rfl, show lIM 23 0 = 12 from rfl, show lZM 26 0 = 12 from rfl, z0, ck_t i16, nI_cl (by omega), lt1_e, q4, ck_t i16, nI_cl (by omega), lt1_e, q5, ck_t i16, nI_cl (by omega), lt1_e, q6, ck_t i16, nI_cl (by omega), lt1_e, q7, show nI n + (1 : Int32) = nI (n + 1) from nI_1 n, lt1_e]
      refine (congrArg (fun o => Option.bind o _) (mAct q44 a2 7 0 0 0)).trans ?_
      rw [Option.bind_some, act_end (by decide) (by omega) rfl]
      rfl
    · have y0 : gI (newS x1 ((iN x 18 0 2 + 1) % 60) (min (iN x 18 0 3 + 1) 60) 5 n) 30 n 0 = nI cl := (newS_I (by omega)).trans (by rw [← hx1]; simp [gI_sI])
      have y1 : gI (newS x1 ((iN x 18 0 2 + 1) % 60) (min (iN x 18 0 3 + 1) 60) 5 n) 30 n 1 = nI u := (newS_I (by omega)).trans (by rw [← hx1]; simp [gI_sI])
      have y2 : gI (newS x1 ((iN x 18 0 2 + 1) % 60) (min (iN x 18 0 3 + 1) 60) 5 n) 30 n 2 = nI 0 := (newS_I (by omega)).trans (by rw [← hx1]; simp [gI_sI]; rfl)
      have y5 : gI (newS x1 ((iN x 18 0 2 + 1) % 60) (min (iN x 18 0 3 + 1) 60) 5 n) 30 n 5 = nI 0 := (newS_I (by omega)).trans (by rw [← hx1]; simp [gI_sI]; rfl)
      have yc : cN (newS x1 ((iN x 18 0 2 + 1) % 60) (min (iN x 18 0 3 + 1) 60) 5 n) 1 = cN x 1 := iN_e (by rw [newS_3, if_neg (by decide), ← hx1]; rfl)
      obtain ⟨v0, p0⟩ := isN_v (b := 12) y0 (by omega) (by decide)
      obtain ⟨v1, p1⟩ := isN_v (b := 1000) y1 (by omega) (by decide)
      obtain ⟨v2, p2⟩ := isN_v (b := 8) y2 (by omega) (by decide)
      obtain ⟨v5, p5⟩ := isN_v (b := 1) y5 (by omega) (by decide)
      refine rel_newI (fx := 30) h hn hlt (Or.inr (Or.inr ⟨rfl, rfl⟩)) (fun f i j q => ?_) (by rw [← hx1]; rfl) (fun f i j q1 q2 => ?_) rfl rfl ?_ ?_
      · rw [← hx1, gI_sI, if_neg (by omega), gI_sI, if_neg (by omega), gI_sI, if_neg (by omega), gI_sI, if_neg (by omega)]
      · rw [gI_sI, if_neg (by omega), gI_sI, if_neg (by omega), gI_sI, if_neg (by omega), gI_sI, if_neg (by omega), gI_sI, if_neg (by omega), gI_sI, if_neg (by omega)]
      · refine ⟨⟨p0, ?_⟩, ⟨p1, ?_⟩, p2, p5, fun k hk => ?_, fun j k _ hk => ?_, fun q => ?_⟩
        · rw [v0, yc]; exact hcl
        · rw [v1]; exact u1
        · rw [v2] at hk; omega
        · rw [v2] at hk; omega
        · rw [v5] at q; omega
      · refine ⟨?_, ?_, ?_, ?_, fun k hk => ?_, fun q => ?_⟩
        · rw [actS_I (by decide) (by omega), y0]; simp [gI_sI]
        · rw [actS_I (by decide) (by omega), y1]; simp [gI_sI]
        · rw [actS_I (by decide) (by omega), y2]; simp [gI_sI]; rfl
        · rw [actS_I (by decide) (by omega), y5]; simp [gI_sI]; rfl
        · rw [v2] at hk; omega
        · rw [v5] at q; omega
