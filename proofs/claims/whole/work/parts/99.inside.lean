theorem b_inside {x m : Sto} (h : Rel x m) (s c : Int32) : ∃ r x' m', fX11_inside s c x = some (r, x') ∧ fX12_inside s c m = some (r, m') ∧ Rel x' m' := by
  have hx := h.1.2.1
  have hm := h.1.2.2.1
  have n1 : ¬ (1 : Int32) = 0 := by decide
  have b0 : cN x 0 ≤ 40 := (hx.1 0 (by decide)).2
  have b3 : cN x 3 ≤ 12 := (hx.1 3 (by decide)).2
  have q0 : gI (sI m 0 0 10 0) 0 0 2 = nI (cN x 0) := (rel_cnt h (k := 0) (by decide)).2.1
  have q3 : gI (sI m 0 0 10 0) 0 0 5 = nI (cN x 3) := (rel_cnt h (k := 3) (by decide)).2.1
  have no : fX11_inside s c x = some (-1, x) → fX12_inside s c m = some (-1, sI m 0 0 10 0) → ∃ r x' m', fX11_inside s c x = some (r, x') ∧ fX12_inside s c m = some (r, m') ∧ Rel x' m' := fun p q => ⟨-1, _, _, p, q, rel_th h⟩
  rcases both_is hx (a := 3) (by decide) s with ⟨s, rfl, hs, e1, e2⟩ | ⟨_, e1, e2⟩
  rotate_left
  · refine no ?_ ?_
    · unfold fX11_inside
      rw [show fX11_isThere (3 : Int32) s x = some 0 from e1, Option.bind_some, if_pos rfl]
    · unfold fX12_inside
      rw [lt1_e, q3, e2, Option.bind_some, if_pos rfl]
  have e1 : fX11_isThere (3 : Int32) (nI s) x = some 1 := e1
  rcases both_is hx (a := 0) (by decide) c with ⟨c, rfl, hc, f1, f2⟩ | ⟨_, f1, f2⟩
  rotate_left
  · refine no ?_ ?_
    · unfold fX11_inside
      rw [e1, Option.bind_some, if_neg n1, show fX11_isThere (0 : Int32) c x = some 0 from f1, Option.bind_some, if_pos rfl]
    · unfold fX12_inside
      rw [lt1_e, q3, e2, Option.bind_some, if_neg n1, q0, f2, Option.bind_some, if_pos rfl]
  obtain ⟨r, x', g1, g2, g3⟩ := side_both (f := 20) (j := c) (p := 1 + c) h hs (if_pos (by omega)) (by omega) (by decide) (fun k hk => ⟨(hx.2.1.1 c hc k hk).1, (hm.2.1 c hc k hk).1⟩)
  refine ⟨r, x', sI m 0 0 10 0, ?_, ?_, rel_th (rel_S h g2)⟩
  · unfold fX11_inside
    rw [e1, Option.bind_some, if_neg n1, show fX11_isThere (0 : Int32) (nI c) x = some 1 from f1, Option.bind_some, if_neg n1, ck_t (by exact ixl (by omega) (by omega)), ck_t (by exact ixl (by omega) (by omega)), nI_cl (n := s) (by omega), nI_cl (n := c) (by omega), g1, Option.bind_some]
    rfl
  · unfold fX12_inside
    rw [lt1_e, q3, e2, Option.bind_some, if_neg n1, q0, f2, Option.bind_some, if_neg n1, show (1 : Int32) + nI c = nI (1 + c) from nI_add 1 c, g3, Option.bind_some]
theorem b_passes {x m : Sto} (h : Rel x m) (b s : Int32) : ∃ r x' m', fX11_passes b s x = some (r, x') ∧ fX12_passes b s m = some (r, m') ∧ Rel x' m' := by
  have hx := h.1.2.1
  have hm := h.1.2.2.1
  have n1 : ¬ (1 : Int32) = 0 := by decide
  have b5 : cN x 5 ≤ 12 := (hx.1 5 (by decide)).2
  have b3 : cN x 3 ≤ 12 := (hx.1 3 (by decide)).2
  have q5 : gI (sI m 0 0 10 0) 0 0 7 = nI (cN x 5) := (rel_cnt h (k := 5) (by decide)).2.1
  have q3 : gI (sI m 0 0 10 0) 0 0 5 = nI (cN x 3) := (rel_cnt h (k := 3) (by decide)).2.1
  have no : fX11_passes b s x = some (-1, x) → fX12_passes b s m = some (-1, sI m 0 0 10 0) → ∃ r x' m', fX11_passes b s x = some (r, x') ∧ fX12_passes b s m = some (r, m') ∧ Rel x' m' := fun p q => ⟨-1, _, _, p, q, rel_th h⟩
  rcases both_is hx (a := 5) (by decide) b with ⟨b, rfl, hb, e1, e2⟩ | ⟨_, e1, e2⟩
  rotate_left
  · refine no ?_ ?_
    · unfold fX11_passes
      rw [show fX11_isThere (5 : Int32) b x = some 0 from e1, Option.bind_some, if_pos rfl]
    · unfold fX12_passes
      rw [lt1_e, q5, e2, Option.bind_some, if_pos rfl]
  have e1 : fX11_isThere (5 : Int32) (nI b) x = some 1 := e1
  rcases both_is hx (a := 3) (by decide) s with ⟨s, rfl, hs, f1, f2⟩ | ⟨_, f1, f2⟩
  rotate_left
  · refine no ?_ ?_
    · unfold fX11_passes
      rw [e1, Option.bind_some, if_neg n1, show fX11_isThere (3 : Int32) s x = some 0 from f1, Option.bind_some, if_pos rfl]
    · unfold fX12_passes
      rw [lt1_e, q5, e2, Option.bind_some, if_neg n1, q3, f2, Option.bind_some, if_pos rfl]
  have f1 : fX11_isThere (3 : Int32) (nI s) x = some 1 := f1
  have ib : 0 ≤ (nI b).toInt ∧ (nI b).toInt < ((12 : Nat) : Int) := ixl (by omega) (by omega)
  have is_ : 0 ≤ (nI s).toInt ∧ (nI s).toInt < ((12 : Nat) : Int) := ixl (by omega) (by omega)
  obtain ⟨_, _, _, m5, _, k7⟩ := hx.2.2.2.2.2.2 b hb
  obtain ⟨_, _, _, l4, _, l6⟩ := hm.2.2.2.2.2.2 b hb
  have e26 : gI (sI m 0 0 10 0) 26 0 b = nI (iN x 30 b 5) := l4.trans m5.1
  by_cases z : iN x 30 b 5 = 0
  · refine no ?_ ?_
    · unfold fX11_passes
      rw [e1, Option.bind_some, if_neg n1, f1, Option.bind_some, if_neg n1, ck_t (by exact ib), nI_cl (n := b) (by omega), m5.1, z, if_pos (show nI 0 = 0 from rfl)]
    · unfold fX12_passes
      rw [lt1_e, q5, e2, Option.bind_some, if_neg n1, q3, f2, Option.bind_some, if_neg n1, show lZM 26 0 = 12 from rfl, ck_t ib, nI_cl (n := b) (by omega), e26, z, if_pos (show nI 0 = 0 from rfl)]
  · have z1 : iN x 30 b 5 = 1 := by have := m5.2; omega
    obtain ⟨r, x', g1, g2, g3⟩ := side_both (f := 33) (j := b) (p := 50 + b) h hs (if_pos (by omega)) (by omega) (by decide) (fun k hk => ⟨k7.2 z1 k hk, l6 z1 k hk⟩)
    refine ⟨if r = 0 then 0 else 1, x', sI m 0 0 10 0, ?_, ?_, rel_th (rel_S h g2)⟩
    · unfold fX11_passes
      rw [e1, Option.bind_some, if_neg n1, f1, Option.bind_some, if_neg n1, ck_t (by exact ib), nI_cl (n := b) (by omega), m5.1, z1, if_neg (show ¬ nI 1 = 0 by decide), ck_t (by exact is_), ck_t (by exact ib), nI_cl (n := s) (by omega), g1, Option.bind_some]
      dsimp only [un2]
      split <;> rfl
    · unfold fX12_passes
      rw [lt1_e, q5, e2, Option.bind_some, if_neg n1, q3, f2, Option.bind_some, if_neg n1, show lZM 26 0 = 12 from rfl, ck_t ib, nI_cl (n := b) (by omega), e26, z1, if_neg (show ¬ nI 1 = 0 by decide), show (50 : Int32) + nI b = nI (50 + b) from nI_add 50 b, g3, Option.bind_some]
      split <;> rfl
