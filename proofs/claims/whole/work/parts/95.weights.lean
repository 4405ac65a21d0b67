/-! ===== weights, the measure ===== -/
theorem isN_up {x : Sto} {f i j b c : Nat} (h : isN x f i j b) (k : b ≤ c) : isN x f i j c := ⟨h.1, Nat.le_trans h.2 k⟩
theorem not_ix {n : Nat} {v : Int32} (hn : n < 2 ^ 31) (q : ∀ j, j < n → v ≠ nI j) : v < 0 ∨ (¬ v < 0 ∧ nI n ≤ v ∧ ¬ v < nI n) := by
  rcases pk_ix v (n := n) hn with z | z | ⟨j, z1, z2⟩
  · exact Or.inl z
  · have h1 := Int32.le_iff_toInt_le.mp z
    rw [nI_toInt hn] at h1
    refine Or.inr ⟨fun w => ?_, z, fun w => ?_⟩
    · have h2 := Int32.lt_iff_toInt_lt.mp w
      rw [show (0 : Int32).toInt = 0 from rfl] at h2
      omega
    · have h2 := Int32.lt_iff_toInt_lt.mp w
      rw [nI_toInt hn] at h2
      omega
  · exact absurd z2 (q j z1)
theorem both_weight (k w : Int32) : (∃ i j, k = nI i ∧ w = nI j ∧ i < 16 ∧ j ≤ 1000000 ∧ fX9_isWeight k w = some 1 ∧ fX12_is k 16 = some 1 ∧ fX12_isWeight w = some 1) ∨ (fX9_isWeight k w = some 0 ∧ (fX12_is k 16 = some 0 ∨ (fX12_is k 16 = some 1 ∧ fX12_isWeight w = some 0))) := by
  unfold fX9_isWeight fX12_isWeight
  rcases mIs (n := 16) (by decide) k with ⟨i, rfl, hi, e1⟩ | ⟨q, e1⟩
  · rw [if_neg (nI_lt0 (by omega)), if_neg (show ¬ (16 : Int32) ≤ nI i from nI_gt (N := 16) (by decide) hi)]
    rcases rng w 0 1000000 (by decide) (by decide) with ⟨j, rfl, z1, z2, z3, z4, _, _⟩ | ⟨z, _⟩
    · exact Or.inl ⟨i, j, rfl, rfl, hi, z2, by rw [if_neg (show ¬ nI j < 0 from z3), if_neg (show ¬ (1000000 : Int32) < nI j from z4)], e1, by rw [if_neg (show ¬ nI j < 0 from z3), if_neg (show ¬ (1000000 : Int32) < nI j from z4)]⟩
    · rcases z with z | ⟨z, z', _⟩
      · exact Or.inr ⟨if_pos z, Or.inr ⟨e1, if_pos z⟩⟩
      · exact Or.inr ⟨by rw [if_neg (show ¬ w < 0 from z), if_pos (show (1000000 : Int32) < w from z')], Or.inr ⟨e1, by rw [if_neg (show ¬ w < 0 from z), if_pos (show (1000000 : Int32) < w from z')]⟩⟩
  · refine Or.inr ⟨?_, Or.inl e1⟩
    rcases not_ix (by decide) q with z | ⟨z, z', _⟩
    · exact if_pos z
    · rw [if_neg z, if_pos (show (16 : Int32) ≤ k from z')]
theorem b_light {x m : Sto} (h : Rel x m) (l k w : Int32) : ∃ r x' m', fX11_light l k w x = some (r, x') ∧ fX12_light l k w m = some (r, m') ∧ Rel x' m' := by
  have n1 : ¬ (1 : Int32) = 0 := by decide
  have no : fX9_setLight l k w x = some (0, x) → fX12_light l k w m = some (0, sI (sI m 0 0 10 0) 0 0 9 3) → ∃ r x' m', fX11_light l k w x = some (r, x') ∧ fX12_light l k w m = some (r, m') ∧ Rel x' m' := fun p q => ⟨0, _, _, by
    unfold fX11_light
    rw [p, Option.bind_some]
    dsimp only [un2]
    rw [if_pos rfl, xDenied, Option.bind_some]; exact un2_k0 _, q, rel_no (v := 3) h⟩
  rcases mIs (n := 6) (by decide) l with ⟨i, rfl, hi, e1⟩ | ⟨q, e1⟩
  rotate_left
  · refine no ?_ ?_
    · unfold fX9_setLight
      rcases not_ix (by decide) q with z | ⟨z, z', _⟩
      · exact if_pos z
      · rw [if_neg z, if_pos (show (6 : Int32) ≤ l from z')]
    · unfold fX12_light
      rw [lt1_e, show fX12_is l (6 : Int32) = some 0 from e1, Option.bind_some, if_pos rfl, mNot, Option.bind_some]; exact un2_k0 _
  have e1 : fX12_is (nI i) (6 : Int32) = some 1 := e1
  have i0 := nI_lt0 (a := i) (by omega)
  have i6 : ¬ (6 : Int32) ≤ nI i := nI_gt (N := 6) (by decide) hi
  rcases both_weight k w with ⟨k, w, rfl, rfl, hk, hw, f1, f2, f3⟩ | ⟨f1, f2⟩
  rotate_left
  · refine no ?_ ?_
    · unfold fX9_setLight
      rw [if_neg i0, if_neg i6, f1, Option.bind_some, if_pos rfl]
    · unfold fX12_light
      rw [lt1_e, e1, Option.bind_some, if_neg n1]
      rcases f2 with f2 | ⟨f2, f3⟩
      · rw [f2, Option.bind_some, if_pos rfl, mNot, Option.bind_some]; exact un2_k0 _
      · rw [f2, Option.bind_some, if_neg n1, f3, Option.bind_some, if_pos rfl, mNot, Option.bind_some]; exact un2_k0 _
  have e16 : ((16 : Int32) * nI i) + nI k = nI (16 * i + k) := by
    show nI 16 * nI i + nI k = _
    simp only [pk_mul, nI_add]
  refine ⟨1, sI (sI x 35 i k (nI w)) 0 0 19 0, sI (sI (sI m 0 0 10 0) 27 0 (16 * i + k) (nI w)) 0 0 9 0, ?_, ?_, ?_, rfl, ?_⟩
  · unfold fX11_light fX9_setLight
    rw [if_neg i0, if_neg i6, f1, Option.bind_some, if_neg n1, ck_t (by exact ixl (by omega) (by omega)), nI_cl (n := i) (by omega), show lIX 35 i = 16 from if_pos hi, ck_t (by exact ixc hk (by decide)), nI_cl (by omega), lt1_e, Option.bind_some]
    dsimp only [un2]
    rw [if_neg n1, xAccept, Option.bind_some]; exact un2_k1 _
  · unfold fX12_light
    rw [lt1_e, e1, Option.bind_some, if_neg n1, f2, Option.bind_some, if_neg n1, f3, Option.bind_some, if_neg n1, e16, show lIM 27 0 = 96 from rfl, ck_t (by exact ixl (by omega) (by omega)), nI_cl (by omega), lt1_e, lt1_e]
  · exact RelC_keep (KX_t (KX_I (by decide)) (KX_I (by decide))) (KM_t (KM_t (KM_I (by decide)) (KM_I (by omega))) (KM_I (by decide))) h.1
  · obtain ⟨hA, ⟨b1, b2, b3⟩, hC, hD, hE⟩ := h.2.2
    refine ⟨hA, ⟨fun l q hl hq => ?_, b2, b3⟩, hC, hD, hE⟩
    have xv : gI (sI (sI x 35 i k (nI w)) 0 0 19 0) 35 l q = if l = i ∧ q = k then nI w else gI x 35 l q := by
      rw [gI_sI, if_neg (by omega), gI_sI]
      by_cases e : l = i ∧ q = k
      · rw [if_pos ⟨rfl, e⟩, if_pos e]
      · rw [if_neg (fun z => e z.2), if_neg e]
    have mv : gI (sI (sI (sI m 0 0 10 0) 27 0 (16 * i + k) (nI w)) 0 0 9 0) 27 0 (16 * l + q) = if l = i ∧ q = k then nI w else gI m 27 0 (16 * l + q) := by
      rw [gI_sI, if_neg (by omega), gI_sI]
      by_cases e : l = i ∧ q = k
      · rw [if_pos (by omega), if_pos e]
      · rw [if_neg (by omega), if_neg e, gI_sI, if_neg (by omega)]
    by_cases e : l = i ∧ q = k
    · rw [if_pos e] at xv mv
      exact ⟨(isN_v xv hw (by decide)).2, mv.trans xv.symm⟩
    · rw [if_neg e] at xv mv
      obtain ⟨o1, o2⟩ := b1 l q hl hq
      exact ⟨isN_e xv o1, (mv.trans o2).trans xv.symm⟩
theorem b_eye {x m : Sto} (h : Rel x m) (l a k w : Int32) : ∃ r x' m', fX11_eye l a k w x = some (r, x') ∧ fX12_eye l a k w m = some (r, m') ∧ Rel x' m' := by
  have n1 : ¬ (1 : Int32) = 0 := by decide
  have no : fX9_setEye l a k w x = some (0, x) → fX12_eye l a k w m = some (0, sI (sI m 0 0 10 0) 0 0 9 3) → ∃ r x' m', fX11_eye l a k w x = some (r, x') ∧ fX12_eye l a k w m = some (r, m') ∧ Rel x' m' := fun p q => ⟨0, _, _, by
    unfold fX11_eye
    rw [p, Option.bind_some]
    dsimp only [un2]
    rw [if_pos rfl, xDenied, Option.bind_some]; exact un2_k0 _, q, rel_no (v := 3) h⟩
  rcases mIs (n := 2) (by decide) l with ⟨i, rfl, hi, e1⟩ | ⟨q, e1⟩
  rotate_left
  · refine no ?_ ?_
    · unfold fX9_setEye
      rcases not_ix (by decide) q with z | ⟨z, z', _⟩
      · exact if_pos z
      · rw [if_neg z, if_pos (show (2 : Int32) ≤ l from z')]
    · unfold fX12_eye
      rw [lt1_e, show fX12_is l (2 : Int32) = some 0 from e1, Option.bind_some, if_pos rfl, mNot, Option.bind_some]; exact un2_k0 _
  have e1 : fX12_is (nI i) (2 : Int32) = some 1 := e1
  have i0 := nI_lt0 (a := i) (by omega)
  have i6 : ¬ (2 : Int32) ≤ nI i := nI_gt (N := 2) (by decide) hi
  rcases mIs (n := 3) (by decide) a with ⟨a, rfl, ha, e2⟩ | ⟨q, e2⟩
  rotate_left
  · refine no ?_ ?_
    · unfold fX9_setEye
      rw [if_neg i0, if_neg i6]
      rcases not_ix (by decide) q with z | ⟨z, z', _⟩
      · exact if_pos z
      · rw [if_neg z, if_pos (show (3 : Int32) ≤ a from z')]
    · unfold fX12_eye
      rw [lt1_e, e1, Option.bind_some, if_neg n1, show fX12_is a (3 : Int32) = some 0 from e2, Option.bind_some, if_pos rfl, mNot, Option.bind_some]; exact un2_k0 _
  have e2 : fX12_is (nI a) (3 : Int32) = some 1 := e2
  have a0 := nI_lt0 (a := a) (by omega)
  have a3 : ¬ (3 : Int32) ≤ nI a := nI_gt (N := 3) (by decide) ha
  rcases both_weight k w with ⟨k, w, rfl, rfl, hk, hw, f1, f2, f3⟩ | ⟨f1, f2⟩
  rotate_left
  · refine no ?_ ?_
    · unfold fX9_setEye
      rw [if_neg i0, if_neg i6, if_neg a0, if_neg a3, f1, Option.bind_some, if_pos rfl]
    · unfold fX12_eye
      rw [lt1_e, e1, Option.bind_some, if_neg n1, e2, Option.bind_some, if_neg n1]
      rcases f2 with f2 | ⟨f2, f3⟩
      · rw [f2, Option.bind_some, if_pos rfl, mNot, Option.bind_some]; exact un2_k0 _
      · rw [f2, Option.bind_some, if_neg n1, f3, Option.bind_some, if_pos rfl, mNot, Option.bind_some]; exact un2_k0 _
  have e16 : (((48 : Int32) * nI i) + ((16 : Int32) * nI a)) + nI k = nI (48 * i + 16 * a + k) := by
    show (nI 48 * nI i + nI 16 * nI a) + nI k = _
    simp only [pk_mul, nI_add]
  have ex : (nI i * (3 : Int32)) + nI a = nI (3 * i + a) := by
    show nI i * nI 3 + nI a = _
    simp only [pk_mul, nI_add]
    rw [Nat.mul_comm]
  refine ⟨1, sI (sI x 37 (3 * i + a) k (nI w)) 0 0 19 0, sI (sI (sI m 0 0 10 0) 28 0 (48 * i + 16 * a + k) (nI w)) 0 0 9 0, ?_, ?_, ?_, rfl, ?_⟩
  · unfold fX11_eye fX9_setEye
    rw [if_neg i0, if_neg i6, if_neg a0, if_neg a3, f1, Option.bind_some, if_neg n1, ex, ck_t (by exact ixl (by omega) (by omega)), nI_cl (n := 3 * i + a) (by omega), show lIX 37 (3 * i + a) = 16 from if_pos (by omega), ck_t (by exact ixc hk (by decide)), nI_cl (by omega), lt1_e, Option.bind_some]
    dsimp only [un2]
    rw [if_neg n1, xAccept, Option.bind_some]; exact un2_k1 _
  · unfold fX12_eye
    rw [lt1_e, e1, Option.bind_some, if_neg n1, e2, Option.bind_some, if_neg n1, f2, Option.bind_some, if_neg n1, f3, Option.bind_some, if_neg n1, e16, show lIM 28 0 = 96 from rfl, ck_t (by exact ixl (by omega) (by omega)), nI_cl (by omega), lt1_e, lt1_e]
  · exact RelC_keep (KX_t (KX_I (by decide)) (KX_I (by decide))) (KM_t (KM_t (KM_I (by decide)) (KM_I (by omega))) (KM_I (by decide))) h.1
  · obtain ⟨hA, ⟨b1, b2, b3⟩, hC, hD, hE⟩ := h.2.2
    refine ⟨hA, ⟨b1, fun l c q hl hc hq => ?_, b3⟩, hC, hD, hE⟩
    have xv : gI (sI (sI x 37 (3 * i + a) k (nI w)) 0 0 19 0) 37 (3 * l + c) q = if l = i ∧ c = a ∧ q = k then nI w else gI x 37 (3 * l + c) q := by
      rw [gI_sI, if_neg (by omega), gI_sI]
      by_cases e : l = i ∧ c = a ∧ q = k
      · rw [if_pos (by omega), if_pos e]
      · rw [if_neg (by omega), if_neg e]
    have mv : gI (sI (sI (sI m 0 0 10 0) 28 0 (48 * i + 16 * a + k) (nI w)) 0 0 9 0) 28 0 (48 * l + 16 * c + q) = if l = i ∧ c = a ∧ q = k then nI w else gI m 28 0 (48 * l + 16 * c + q) := by
      rw [gI_sI, if_neg (by omega), gI_sI]
      by_cases e : l = i ∧ c = a ∧ q = k
      · rw [if_pos (by omega), if_pos e]
      · rw [if_neg (by omega), if_neg e, gI_sI, if_neg (by omega)]
    by_cases e : l = i ∧ c = a ∧ q = k
    · rw [if_pos e] at xv mv
      exact ⟨(isN_v xv hw (by decide)).2, mv.trans xv.symm⟩
    · rw [if_neg e] at xv mv
      obtain ⟨o1, o2⟩ := b2 l c q hl hc hq
      exact ⟨isN_e xv o1, (mv.trans o2).trans xv.symm⟩
theorem b_measure {x m : Sto} (h : Rel x m) (a b c : Int32) : ∃ r x' m', fX11_measure a b c x = some (r, x') ∧ fX12_measure a b c m = some (r, m') ∧ Rel x' m' := by
  have n1 : ¬ (1 : Int32) = 0 := by decide
  have no : fX11_measure a b c x = some (0, sI x 0 0 19 3) → fX12_measure a b c m = some (0, sI (sI m 0 0 10 0) 0 0 9 3) → ∃ r x' m', fX11_measure a b c x = some (r, x') ∧ fX12_measure a b c m = some (r, m') ∧ Rel x' m' := fun p q => ⟨0, _, _, p, q, rel_no (v := 3) h⟩
  rcases rng a 1 100 (by decide) (by decide) with ⟨A, rfl, a1, a2, a3, a4, _, a6⟩ | ⟨z, z6⟩
  rotate_left
  · refine no ?_ ?_
    · unfold fX11_measure
      rw [show fX11_isWithin a (1 : Int32) (100 : Int32) = some 0 from z6, Option.bind_some, if_pos rfl, xDenied, Option.bind_some]; exact un2_k0 _
    · unfold fX12_measure
      rw [lt1_e]
      rcases z with z | ⟨z, z', _⟩
      · rw [if_pos (show a < (1 : Int32) from z), mNot, Option.bind_some]; exact un2_k0 _
      · rw [if_neg (show ¬ a < (1 : Int32) from z), if_pos (show (100 : Int32) < a from z'), mNot, Option.bind_some]; exact un2_k0 _
  have a3 : ¬ nI A < (1 : Int32) := a3
  have a4 : ¬ (100 : Int32) < nI A := a4
  have a6 : fX11_isWithin (nI A) (1 : Int32) (100 : Int32) = some 1 := a6
  rcases rng b 1 100 (by decide) (by decide) with ⟨B, rfl, b1, b2, b3, b4, _, b6⟩ | ⟨z, z6⟩
  rotate_left
  · refine no ?_ ?_
    · unfold fX11_measure
      rw [a6, Option.bind_some, if_neg n1, show fX11_isWithin b (1 : Int32) (100 : Int32) = some 0 from z6, Option.bind_some, if_pos rfl, xDenied, Option.bind_some]; exact un2_k0 _
    · unfold fX12_measure
      rw [lt1_e, if_neg a3, if_neg a4]
      rcases z with z | ⟨z, z', _⟩
      · rw [if_pos (show b < (1 : Int32) from z), mNot, Option.bind_some]; exact un2_k0 _
      · rw [if_neg (show ¬ b < (1 : Int32) from z), if_pos (show (100 : Int32) < b from z'), mNot, Option.bind_some]; exact un2_k0 _
  have b3 : ¬ nI B < (1 : Int32) := b3
  have b4 : ¬ (100 : Int32) < nI B := b4
  have b6 : fX11_isWithin (nI B) (1 : Int32) (100 : Int32) = some 1 := b6
  rcases rng c 1 100 (by decide) (by decide) with ⟨C, rfl, c1, c2, c3, c4, c5, c6⟩ | ⟨z, z6⟩
  rotate_left
  · refine no ?_ ?_
    · unfold fX11_measure
      rw [a6, Option.bind_some, if_neg n1, b6, Option.bind_some, if_neg n1, show fX11_isWithin c (1 : Int32) (100 : Int32) = some 0 from z6, Option.bind_some, if_pos rfl, xDenied, Option.bind_some]; exact un2_k0 _
    · unfold fX12_measure
      rw [lt1_e, if_neg a3, if_neg a4, if_neg b3, if_neg b4]
      rcases z with z | ⟨z, _, z'⟩
      · rw [if_pos (show c < (1 : Int32) from z), mNot, Option.bind_some]; exact un2_k0 _
      · rw [if_neg (show ¬ c < (1 : Int32) from z), if_neg (show ¬ c ≤ (100 : Int32) from z'), mNot, Option.bind_some]; exact un2_k0 _
  refine ⟨1, sI (sD (sD (sD x 13 0 2 (FP.i2d (nI A))) 13 0 3 (FP.i2d (nI B))) 13 0 4 (FP.i2d (nI C))) 0 0 19 0, sI (sI (sI (sI (sI m 0 0 10 0) 29 0 0 (nI A)) 29 0 1 (nI B)) 29 0 2 (nI C)) 0 0 9 0, ?_, ?_, ?_, rfl, ?_⟩
  · unfold fX11_measure fX9_setMeasure
    rw [a6, Option.bind_some, if_neg n1, b6, Option.bind_some, if_neg n1, show fX11_isWithin (nI C) (1 : Int32) (100 : Int32) = some 1 from c6, Option.bind_some, if_neg n1, lt1_e, lt1_e, lt1_e, Option.bind_some, xAccept, Option.bind_some]; exact un2_k1 _
  · unfold fX12_measure
    rw [lt1_e, if_neg a3, if_neg a4, if_neg b3, if_neg b4, if_neg (show ¬ nI C < (1 : Int32) from c3), if_pos (show nI C ≤ (100 : Int32) from c5), lt1_e, lt1_e, lt1_e, lt1_e]
  · exact RelC_keep (KX_t (KX_t (KX_t (KX_D (by decide)) (KX_D (by decide))) (KX_D (by decide))) (KX_I (by decide))) (KM_t (KM_t (KM_t (KM_t (KM_I (by decide)) (KM_I (by decide))) (KM_I (by decide))) (KM_I (by decide))) (KM_I (by decide))) h.1
  · obtain ⟨hA, ⟨k1, k2, k3⟩, hC, hD, hE⟩ := h.2.2
    refine ⟨hA, ⟨k1, k2, fun j hj => ?_⟩, ?_, ?_, hE⟩
    · obtain rfl | rfl | rfl : j = 0 ∨ j = 1 ∨ j = 2 := by omega
      · exact ⟨A, a1, a2, rfl, rfl⟩
      · exact ⟨B, b1, b2, rfl, rfl⟩
      · exact ⟨C, c1, c2, rfl, rfl⟩
    · exact hC
    · exact hD
