theorem b_recipeOf {x m : Sto} (h : Rel x m) (a : Int32) : ∃ r m', fX11_recipeOf a x = some r ∧ fX12_recipeOf a m = some (r, m') ∧ Rel x m' := by
  obtain ⟨p1, p2, p3⟩ := h.2.2.2.2.1
  have n1 : ¬ (1 : Int32) = 0 := by decide
  have q57 : gI (sI m 0 0 10 0) 0 0 57 = nI (iN x 16 0 12) := p2.trans p1.1
  have key : ∀ r : Int32, fX8_resultOf 0 a x = some r → fX12_recipeOf a m = some (r, sI m 0 0 10 0) → ∃ r m', fX11_recipeOf a x = some r ∧ fX12_recipeOf a m = some (r, m') ∧ Rel x m' := fun r p q => ⟨r, _, by
    unfold fX11_recipeOf
    rw [p, Option.bind_some], q, rel_th h⟩
  by_cases e : iN x 16 0 12 = 0
  · refine key (-1) ?_ ?_
    · unfold fX8_resultOf
      rw [p1.1, e, if_pos (show nI 0 = 0 from rfl)]
    · unfold fX12_recipeOf
      rw [lt1_e, q57, e, if_pos (show nI 0 = 0 from rfl)]
  · have e1 : iN x 16 0 12 = 1 := by have := p1.2; omega
    obtain ⟨o1, o2, o3, o4, o5, _⟩ := p3 e1
    rw [e1] at q57
    have e12 : gI x 16 0 12 = 1 := by rw [p1.1, e1]; rfl
    rcases xResultOf (o := 0) (a := a) (by decide) e12 o2 o4.1 o4.2 with ⟨w1, w2⟩ | ⟨j, hj, rfl, w2⟩
    · refine key (-1) w2 ?_
      unfold fX12_recipeOf
      rcases mIs (n := 8) (by decide) a with ⟨j, f1, f2, _⟩ | ⟨_, f2⟩
      · exfalso
        rcases w1 j with z | z | z
        · exact z f1
        · omega
        · omega
      · rw [lt1_e, q57, if_neg (show ¬ nI 1 = 0 by decide), show fX12_is a (8 : Int32) = some 0 from f2, Option.bind_some, if_pos rfl]
    · refine key _ w2 ?_
      unfold fX12_recipeOf
      rw [lt1_e, q57, if_neg (show ¬ nI 1 = 0 by decide), show fX12_is (nI j) (8 : Int32) = some 1 from mIs1 (n := 8) (by decide) hj, Option.bind_some, if_neg n1]
      by_cases j0 : j = 0
      · subst j0
        rw [if_pos (show nI 0 = 0 from rfl), if_pos rfl, show gI (sI m 0 0 10 0) 0 0 52 = gI x 16 0 10 from o1]
      rw [if_neg (show ¬ nI j = 0 from fun z => j0 ((nI_z (by omega)).mp z)), if_neg j0]
      by_cases j1 : j = 1
      · subst j1
        rw [if_pos (show nI 1 = (1 : Int32) from rfl), if_pos rfl, show gI (sI m 0 0 10 0) 0 0 55 = gI x 16 0 11 from o3]
        have hb1 := o2.2
        have hb0 := o2.1
        by_cases z : iN x 16 0 11 = 0
        · rw [hb0, z, if_pos (show nI 0 = 0 from rfl)]; rfl
        · have z1 : iN x 16 0 11 = 1 := by omega
          rw [hb0, z1, if_neg (show ¬ nI 1 = 0 by decide)]; rfl
      rw [if_neg (show ¬ nI j = (1 : Int32) from fun z => j1 ((nI_inj (b := 1) (by omega) (by decide)).mp z)), if_neg j1, show nI j - (2 : Int32) = nI (j - 2) from pk_sub (b := 2) (by omega), show lIM 64 0 = 6 from rfl, ck_t (by exact ixl (by omega) (by omega)), nI_cl (by omega)]
      obtain ⟨v1, v2⟩ := o5 ((j - 2) / 2) (by omega)
      by_cases p : j % 2 = 0
      · rw [show gI (sI m 0 0 10 0) 64 0 (j - 2) = gI m 64 0 (2 * ((j - 2) / 2)) from by rw [show 2 * ((j - 2) / 2) = j - 2 by omega]; rfl, v1]
        split
        · rfl
        · rfl
      · rw [show gI (sI m 0 0 10 0) 64 0 (j - 2) = gI m 64 0 (2 * ((j - 2) / 2) + 1) from by rw [show 2 * ((j - 2) / 2) + 1 = j - 2 by omega]; rfl, v2]
        split
        · rfl
        · rfl
theorem b_addition {x m : Sto} (h : Rel x m) (a : Int32) : ∃ r m', fX11_addition a x = some r ∧ fX12_addition a m = some (r, m') ∧ Rel x m' := by
  obtain ⟨p1, p2, p3⟩ := h.2.2.2.2.2.1
  have n1 : ¬ (1 : Int32) = 0 := by decide
  have q57 : gI (sI m 0 0 10 0) 0 0 71 = nI (iN x 16 1 12) := p2.trans p1.1
  have key : ∀ r : Int32, fX8_resultOf 1 a x = some r → fX12_addition a m = some (r, sI m 0 0 10 0) → ∃ r m', fX11_addition a x = some r ∧ fX12_addition a m = some (r, m') ∧ Rel x m' := fun r p q => ⟨r, _, by
    unfold fX11_addition
    rw [p, Option.bind_some], q, rel_th h⟩
  by_cases e : iN x 16 1 12 = 0
  · refine key (-1) ?_ ?_
    · unfold fX8_resultOf
      rw [p1.1, e, if_pos (show nI 0 = 0 from rfl)]
    · unfold fX12_addition
      rw [lt1_e, q57, e, if_pos (show nI 0 = 0 from rfl)]
  · have e1 : iN x 16 1 12 = 1 := by have := p1.2; omega
    obtain ⟨o1, o2, o3, o4, o5⟩ := p3 e1
    have b2 := o4.2
    rw [e1] at q57
    have e12 : gI x 16 1 12 = 1 := by rw [p1.1, e1]; rfl
    rcases xResultOf (o := 1) (a := a) (by decide) e12 o2 o4.1 (by omega) with ⟨w1, w2⟩ | ⟨j, hj, rfl, w2⟩
    · refine key (-1) w2 ?_
      unfold fX12_addition
      rcases mIs (n := 6) (by decide) a with ⟨j, f1, f2, _⟩ | ⟨_, f2⟩
      · exfalso
        rcases w1 j with z | z | z
        · exact z f1
        · omega
        · omega
      · rw [lt1_e, q57, if_neg (show ¬ nI 1 = 0 by decide), show fX12_is a (6 : Int32) = some 0 from f2, Option.bind_some, if_pos rfl]
    · refine key _ w2 ?_
      unfold fX12_addition
      by_cases j6 : j < 6
      · rw [lt1_e, q57, if_neg (show ¬ nI 1 = 0 by decide), show fX12_is (nI j) (6 : Int32) = some 1 from mIs1 (n := 6) (by decide) j6, Option.bind_some, if_neg n1, show lIM 70 0 = 6 from rfl, ck_t (by exact ixl (by omega) (by omega)), nI_cl (by omega)]
        by_cases j0 : j = 0
        · subst j0
          rw [if_pos rfl, show gI (sI m 0 0 10 0) 70 0 0 = gI x 16 1 10 from o1]
        rw [if_neg j0]
        by_cases j1 : j = 1
        · subst j1
          rw [if_pos rfl, show gI (sI m 0 0 10 0) 70 0 1 = gI x 16 1 11 from o3]
        rw [if_neg j1]
        obtain ⟨v1, v2⟩ := o5 ((j - 2) / 2) (by omega)
        by_cases p : j % 2 = 0
        · rw [show gI (sI m 0 0 10 0) 70 0 j = gI m 70 0 (2 + 2 * ((j - 2) / 2)) from by rw [show 2 + 2 * ((j - 2) / 2) = j by omega]; rfl, v1]
          split
          · rfl
          · rfl
        · rw [show gI (sI m 0 0 10 0) 70 0 j = gI m 70 0 (3 + 2 * ((j - 2) / 2)) from by rw [show 3 + 2 * ((j - 2) / 2) = j by omega]; rfl, v2]
          split
          · rfl
          · rfl
      · rcases mIs (n := 6) (by decide) (nI j) with ⟨k, f1, f2, _⟩ | ⟨_, f2⟩
        · have := (nI_inj (by omega) (by omega)).mp f1; omega
        · rw [lt1_e, q57, if_neg (show ¬ nI 1 = 0 by decide), show fX12_is (nI j) (6 : Int32) = some 0 from f2, Option.bind_some, if_pos rfl, if_neg (by omega), if_neg (by omega), if_neg (by omega)]
/-! ===== spectra by sort ===== -/
theorem both_spec {x m : Sto} (h : Rel x m) (s i : Int32) : (∃ f j p, fX11_spectrumOf s i x = some (some (f, j)) ∧ fX12_placeOf s i (sI m 0 0 10 0) = some (nI p) ∧ p < 135 ∧ lFX f j = 16 ∧ (∀ k, k < 16 → fl2 (gF x f j k) ∧ gF m 1 0 (16 * p + k) = gF x f j k) ∧ f ≠ 44 ∧ ((s = 0 ∧ f = 1) ∨ (¬ s = 0 ∧ f ≠ 1 ∧ p ≠ 0))) ∨ (fX11_spectrumOf s i x = some none ∧ fX12_placeOf s i (sI m 0 0 10 0) = some (-1) ∧ ¬ s = 0) := by
  have hx := h.1.2.1
  have hm := h.1.2.2.1
  have n1 : ¬ (1 : Int32) = 0 := by decide
  have b0 : cN x 0 ≤ 40 := (hx.1 0 (by decide)).2
  have b1 : cN x 1 ≤ 8 := (hx.1 1 (by decide)).2
  have b5 : cN x 5 ≤ 12 := (hx.1 5 (by decide)).2
  have q0 : gI (sI m 0 0 10 0) 0 0 2 = nI (cN x 0) := (rel_cnt h (k := 0) (by decide)).2.1
  have q1 : gI (sI m 0 0 10 0) 0 0 3 = nI (cN x 1) := (rel_cnt h (k := 1) (by decide)).2.1
  have q5 : gI (sI m 0 0 10 0) 0 0 7 = nI (cN x 5) := (rel_cnt h (k := 5) (by decide)).2.1
  obtain ⟨r1, ⟨r2, r3, r4⟩, _⟩ := h.2.2.1
  by_cases s0 : s = 0
  · subst s0
    exact Or.inl ⟨1, 0, 0, rfl, rfl, by decide, rfl, fun k hk => ⟨(r1 k hk).1, by rw [Nat.mul_zero, Nat.zero_add]; exact (r1 k hk).2⟩, by decide, Or.inl ⟨rfl, rfl⟩⟩
  unfold fX11_spectrumOf fX12_placeOf
  rw [if_neg s0, if_neg s0]
  by_cases s1 : s = 1
  · subst s1
    rw [if_pos rfl, if_pos rfl, q0]
    rcases both_is hx (a := 0) (by decide) i with ⟨c, rfl, hc, e1, e2⟩ | ⟨_, e1, e2⟩
    · refine Or.inl ⟨20, c, 1 + c, ?_, ?_, by omega, if_pos (by omega), fun k hk => ⟨(hx.2.1.1 c hc k hk).1, (hm.2.1 c hc k hk).1⟩, by decide, Or.inr ⟨by decide, by decide, by omega⟩⟩
      · rw [show fX11_isThere (0 : Int32) (nI c) x = some 1 from e1, Option.bind_some, if_neg n1, ck_t (by exact ixl (by omega) (by omega)), nI_cl (by omega)]
      · rw [e2, Option.bind_some, if_neg n1]
        exact congrArg some (nI_add 1 c)
    · refine Or.inr ⟨?_, ?_, by decide⟩
      · rw [show fX11_isThere (0 : Int32) i x = some 0 from e1, Option.bind_some, if_pos rfl]
      · rw [e2, Option.bind_some, if_pos rfl]
  rw [if_neg s1, if_neg s1]
  by_cases s2 : s = 2
  · subst s2
    rw [if_pos rfl, if_pos rfl, q1]
    rcases both_is hx (a := 1) (by decide) i with ⟨c, rfl, hc, e1, e2⟩ | ⟨_, e1, e2⟩
    · refine Or.inl ⟨6, c, 41 + c, ?_, ?_, by omega, if_pos (by omega), fun k hk => ⟨hx.2.2.1 c hc k hk, hm.2.2.1 c hc k hk⟩, by decide, Or.inr ⟨by decide, by decide, by omega⟩⟩
      · rw [show fX11_isThere (1 : Int32) (nI c) x = some 1 from e1, Option.bind_some, if_neg n1, ck_t (by exact ixl (by omega) (by omega)), nI_cl (by omega)]
      · rw [e2, Option.bind_some, if_neg n1]
        exact congrArg some (nI_add 41 c)
    · refine Or.inr ⟨?_, ?_, by decide⟩
      · rw [show fX11_isThere (1 : Int32) i x = some 0 from e1, Option.bind_some, if_pos rfl]
      · rw [e2, Option.bind_some, if_pos rfl]
  rw [if_neg s2, if_neg s2]
  by_cases s3 : s = 3
  · subst s3
    have e32 : gI (sI m 0 0 10 0) 0 0 32 = gI x 0 0 2 := r3
    rw [if_pos rfl, if_pos rfl, e32, r2.1]
    by_cases z : iN x 0 0 2 = 0
    · refine Or.inr ⟨?_, ?_, by decide⟩
      · rw [z, if_pos (show nI 0 = 0 from rfl)]
      · rw [z, if_pos (show nI 0 = 0 from rfl)]
    · have z1 : iN x 0 0 2 = 1 := by have := r2.2; omega
      refine Or.inl ⟨2, 0, 49, ?_, ?_, by decide, rfl, r4 z1, by decide, Or.inr ⟨by decide, by decide, by decide⟩⟩
      · rw [z1, if_neg (show ¬ nI 1 = 0 by decide)]
      · rw [z1, if_neg (show ¬ nI 1 = 0 by decide)]; rfl
  rw [if_neg s3, if_neg s3]
  by_cases s4 : s = 4
  · subst s4
    exact Or.inr ⟨if_pos rfl, if_pos rfl, by decide⟩
  rw [if_neg s4, if_neg s4]
  by_cases s5 : s = 5
  · subst s5
    rw [if_pos rfl, if_pos rfl, q5]
    rcases both_is hx (a := 5) (by decide) i with ⟨c, rfl, hc, e1, e2⟩ | ⟨_, e1, e2⟩
    · have c12 : c < 12 := by omega
      have ic : 0 ≤ (nI c).toInt ∧ (nI c).toInt < ((12 : Nat) : Int) := ixl (by omega) (by omega)
      obtain ⟨_, _, _, m5, _, k7⟩ := hx.2.2.2.2.2.2 c hc
      obtain ⟨_, _, _, l4, _, l6⟩ := hm.2.2.2.2.2.2 c hc
      have e26 : gI (sI m 0 0 10 0) 26 0 c = nI (iN x 30 c 5) := l4.trans m5.1
      by_cases z : iN x 30 c 5 = 0
      · refine Or.inr ⟨?_, ?_, by decide⟩
        · rw [show fX11_isThere (5 : Int32) (nI c) x = some 1 from e1, Option.bind_some, if_neg n1, ck_t (by exact ic), nI_cl (by omega), m5.1, z, if_pos (show nI 0 = 0 from rfl)]
        · rw [e2, Option.bind_some, if_neg n1, show lZM 26 0 = 12 from rfl, ck_t ic, nI_cl (by omega), e26, z, if_pos (show nI 0 = 0 from rfl)]
      · have z1 : iN x 30 c 5 = 1 := by have := m5.2; omega
        refine Or.inl ⟨33, c, 50 + c, ?_, ?_, by omega, if_pos c12, fun k hk => ⟨k7.2 z1 k hk, l6 z1 k hk⟩, by decide, Or.inr ⟨by decide, by decide, by omega⟩⟩
        · rw [show fX11_isThere (5 : Int32) (nI c) x = some 1 from e1, Option.bind_some, if_neg n1, ck_t (by exact ic), nI_cl (by omega), m5.1, z1, if_neg (show ¬ nI 1 = 0 by decide), ck_t (by exact ic)]
        · rw [e2, Option.bind_some, if_neg n1, show lZM 26 0 = 12 from rfl, ck_t ic, nI_cl (by omega), e26, z1, if_neg (show ¬ nI 1 = 0 by decide)]
          exact congrArg some (nI_add 50 c)
    · refine Or.inr ⟨?_, ?_, by decide⟩
      · rw [show fX11_isThere (5 : Int32) i x = some 0 from e1, Option.bind_some, if_pos rfl]
      · rw [e2, Option.bind_some, if_pos rfl]
  · rw [if_neg s5, if_neg s5]
    exact Or.inr ⟨rfl, rfl, s0⟩
