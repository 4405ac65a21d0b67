/-! ===== told, weighed ===== -/
def smI (c : Nat → Int32) : Nat → Int32
  | 0 => 0
  | n + 1 => smI c n + c n
theorem i32_ge {v : Int32} {n : Nat} (hn : n < 2 ^ 31) (h : nI n ≤ v) : (n : Int) ≤ v.toInt := by
  have h1 := Int32.le_iff_toInt_le.mp h
  rw [nI_toInt hn] at h1; exact h1
theorem i32_lt0 {v : Int32} (h : v < 0) : v.toInt < 0 := by
  have h1 := Int32.lt_iff_toInt_lt.mp h
  rw [show (0 : Int32).toInt = 0 from rfl] at h1; exact h1
theorem i32_ltn {v : Int32} {n : Nat} (hn : n < 2 ^ 31) : v < nI n ↔ v.toInt < (n : Int) := by
  rw [Int32.lt_iff_toInt_lt, nI_toInt hn]
theorem i32_nlt {v : Int32} {n : Nat} (hn : n < 2 ^ 31) : nI n < v ↔ (n : Int) < v.toInt := by
  rw [Int32.lt_iff_toInt_lt, nI_toInt hn]
theorem i32_nle {v : Int32} {n : Nat} (hn : n < 2 ^ 31) : nI n ≤ v ↔ (n : Int) ≤ v.toInt := by
  rw [Int32.le_iff_toInt_le, nI_toInt hn]
theorem xGrams {x : Sto} {b n : Nat} (hb : b < 12) (hn : gI x 30 b 2 = nI n) (n8 : n ≤ 8) : fX1_gramsInAll b x = some (smI (fun k => gI x 32 b k) n) := by
  unfold fX1_gramsInAll
  have l32 : lIX 32 b = 8 := if_pos hb
  refine (congrArg (fun o => Option.bind o _) (lp_seq (fun k => (nI k, smI (fun k => gI x 32 b k) k)) (r := smI (fun k => gI x 32 b k) n) n 4000 0 (fun k _ hk => ?_) ?_ (by omega))).trans ?_
  · have hk : k < n := by omega
    dsimp only [un2]
    rw [hn, if_neg (nI_gt (by omega) hk), l32, ck_t (by exact ixl (by omega) (by omega)), nI_cl (by omega), lt1_e, lt1_e, nI_s]
    rfl
  · rw [Nat.zero_add]
    dsimp only [un2]
    rw [hn, if_pos ((nI_leI (by omega) (by omega)).mpr (Nat.le_refl _))]
  · rw [Option.bind_some]
theorem b_told {x m : Sto} (h : Rel x m) (i w : Int32) : ∃ r m', fX11_told i w x = some r ∧ fX12_told i w m = some (r, m') ∧ Rel x m' := by
  have hx := h.1.2.1
  have hm := h.1.2.2.1
  have n1 : ¬ (1 : Int32) = 0 := by decide
  have q2 : gI (sI m 0 0 10 0) 0 0 4 = nI (cN x 2) := (rel_cnt h (k := 2) (by decide)).2.1
  have q4 : gI (sI m 0 0 10 0) 0 0 6 = nI (cN x 4) := (rel_cnt h (k := 4) (by decide)).2.1
  have q5 : gI (sI m 0 0 10 0) 0 0 7 = nI (cN x 5) := (rel_cnt h (k := 5) (by decide)).2.1
  have b2 : cN x 2 ≤ 12 := (hx.1 2 (by decide)).2
  have b4 : cN x 4 ≤ 20 := (hx.1 4 (by decide)).2
  have b5 : cN x 5 ≤ 12 := (hx.1 5 (by decide)).2
  have key : ∀ r : Int32, fX11_told i w x = some r → fX12_told i w m = some (r, sI m 0 0 10 0) → ∃ r m', fX11_told i w x = some r ∧ fX12_told i w m = some (r, m') ∧ Rel x m' := fun r p q => ⟨r, _, p, q, rel_th h⟩
  rcases pk_ix w (n := 12) (by decide) with z | z | ⟨j, hj, rfl⟩
  · -- below 0
    have z' := i32_lt0 z
    refine key (-1) ?_ ?_
    · unfold fX11_told
      rw [jn_e, if_pos z, jn_e, if_pos (show w < (4 : Int32) from (i32_ltn (n := 4) (by decide)).mpr (by omega)), if_pos (show w < (9 : Int32) from (i32_ltn (n := 9) (by decide)).mpr (by omega))]
    · unfold fX12_told
      rw [lt1_e, if_neg (show ¬ (4 : Int32) ≤ w from fun q => by have := (i32_nle (n := 4) (by decide)).mp q; omega), q4]
      rcases both_is hx (a := 4) (by decide) i with ⟨l, rfl, hl, e1, e2⟩ | ⟨_, e1, e2⟩
      · have g : ∀ k, k < 4 → ¬ w = nI k := fun k hk e => by
          rw [e, nI_toInt (by omega)] at z'; omega
        unfold fX12_toldOfLot
        rw [e2, Option.bind_some, if_neg n1, if_neg (show ¬ w = (0 : Int32) from g 0 (by decide)), if_neg (show ¬ w = (1 : Int32) from g 1 (by decide)), if_neg (show ¬ w = (2 : Int32) from g 2 (by decide)), if_neg (show ¬ w = (3 : Int32) from g 3 (by decide)), Option.bind_some]
      · rw [e2, Option.bind_some, if_pos rfl]
  · have z' := i32_ge (by decide) z
    refine key (-1) ?_ ?_
    · unfold fX11_told
      rw [jn_e, if_neg (fun q => by have := i32_lt0 q; omega), if_pos (show (3 : Int32) < w from (i32_nlt (n := 3) (by decide)).mpr (by omega)), jn_e, if_neg (show ¬ w < (4 : Int32) from fun q => by have := (i32_ltn (n := 4) (by decide)).mp q; omega), if_pos (show (8 : Int32) < w from (i32_nlt (n := 8) (by decide)).mpr (by omega)), if_neg (show ¬ w < (9 : Int32) from fun q => by have := (i32_ltn (n := 9) (by decide)).mp q; omega), if_pos (show (11 : Int32) < w from (i32_nlt (n := 11) (by decide)).mpr (by omega))]
    · have g : ∀ k, k < 12 → ¬ w = nI k := fun k hk e => by
        rw [e, nI_toInt (by omega)] at z'; omega
      unfold fX12_told
      rw [lt1_e, if_pos (show (4 : Int32) ≤ w from (i32_nle (n := 4) (by decide)).mpr (by omega)), if_pos (show (9 : Int32) ≤ w from (i32_nle (n := 9) (by decide)).mpr (by omega)), q2]
      rcases both_is hx (a := 2) (by decide) i with ⟨l, rfl, hl, e1, e2⟩ | ⟨_, e1, e2⟩
      · rw [e2, Option.bind_some, if_neg n1, if_neg (show ¬ w = (9 : Int32) from g 9 (by decide)), if_neg (show ¬ w = (10 : Int32) from g 10 (by decide)), if_neg (show ¬ w = (11 : Int32) from g 11 (by decide))]
      · rw [e2, Option.bind_some, if_pos rfl]
  · have j0 := nI_lt0 (a := j) (by omega)
    by_cases j4 : j < 4
    · -- of a lot
      have c3 : ¬ (3 : Int32) < nI j := fun q => by have := (nI_ltJ (a := 3) (by decide) (by omega)).mp q; omega
      have c4 : ¬ (4 : Int32) ≤ nI j := nI_gt (N := 4) (by decide) j4
      rcases both_is hx (a := 4) (by decide) i with ⟨l, rfl, hl, e1, e2⟩ | ⟨_, e1, e2⟩
      rotate_left
      · refine key (-1) ?_ ?_
        · unfold fX11_told
          rw [jn_e, if_neg j0, if_neg c3, show fX11_isThere (4 : Int32) i x = some 0 from e1, Option.bind_some, if_pos rfl]
        · unfold fX12_told
          rw [lt1_e, if_neg c4, q4, e2, Option.bind_some, if_pos rfl]
      have l20 : l < 20 := by omega
      have il : 0 ≤ (nI l).toInt ∧ (nI l).toInt < ((20 : Nat) : Int) := ixl (by omega) (by omega)
      obtain ⟨w0, _, _, w3, w4⟩ := hm.2.2.2.2.2.1 l hl
      have v0 : gI (sI m 0 0 10 0) 16 0 l = gI x 29 l 0 := w0
      have v3 : gI (sI m 0 0 10 0) 19 0 l = gI x 29 l 3 := w3
      have v4 : gI (sI m 0 0 10 0) 20 0 l = gI x 29 l 4 := w4
      have kx : ∀ r, fX4_tell l (nI j) x = some r → fX12_toldOfLot (nI l) (nI j) (sI m 0 0 10 0) = some r → ∃ r m', fX11_told (nI l) (nI j) x = some r ∧ fX12_told (nI l) (nI j) m = some (r, m') ∧ Rel x m' := fun r p q => key r (by
        unfold fX11_told
        rw [jn_e, if_neg j0, if_neg c3, show fX11_isThere (4 : Int32) (nI l) x = some 1 from e1, Option.bind_some, if_neg n1, ck_t (by exact il), nI_cl (by omega), p, Option.bind_some]) (by
        unfold fX12_told
        rw [lt1_e, if_neg c4, q4, e2, Option.bind_some, if_neg n1, q, Option.bind_some])
      obtain rfl | rfl | rfl | rfl : j = 0 ∨ j = 1 ∨ j = 2 ∨ j = 3 := by omega
      · refine kx _ rfl ?_
        unfold fX12_toldOfLot
        rw [if_pos (show nI 0 = (0 : Int32) from rfl), show lIM 16 0 = 20 from rfl, ck_t il, nI_cl (by omega), v0]
      · refine kx _ rfl ?_
        unfold fX12_toldOfLot
        rw [if_neg (show ¬ nI 1 = (0 : Int32) by decide), if_pos (show nI 1 = (1 : Int32) from rfl), show lIM 20 0 = 20 from rfl, ck_t il, nI_cl (by omega), v4]
      · refine kx _ rfl ?_
        unfold fX12_toldOfLot
        rw [if_neg (show ¬ nI 2 = (0 : Int32) by decide), if_neg (show ¬ nI 2 = (1 : Int32) by decide), if_pos (show nI 2 = (2 : Int32) from rfl), show lIM 19 0 = 20 from rfl, show lIM 20 0 = 20 from rfl, ck_t il, ck_t il, nI_cl (by omega), v3, v4]
      · refine kx _ rfl ?_
        unfold fX12_toldOfLot
        rw [if_neg (show ¬ nI 3 = (0 : Int32) by decide), if_neg (show ¬ nI 3 = (1 : Int32) by decide), if_neg (show ¬ nI 3 = (2 : Int32) by decide), if_pos (show nI 3 = (3 : Int32) from rfl), show lIM 19 0 = 20 from rfl, ck_t il, nI_cl (by omega), v3]
    · have c3 : (3 : Int32) < nI j := (nI_ltJ (a := 3) (by decide) (by omega)).mpr (by omega)
      have c4 : (4 : Int32) ≤ nI j := (nI_leI (a := 4) (by decide) (by omega)).mpr (by omega)
      have d4 : ¬ nI j < (4 : Int32) := fun q => by have := (nI_ltJ (b := 4) (by omega) (by decide)).mp q; omega
      by_cases j9 : j < 9
      · -- of a batch
        have c8 : ¬ (8 : Int32) < nI j := fun q => by have := (nI_ltJ (a := 8) (by decide) (by omega)).mp q; omega
        have c9 : ¬ (9 : Int32) ≤ nI j := nI_gt (N := 9) (by decide) j9
        rcases both_is hx (a := 5) (by decide) i with ⟨l, rfl, hl, e1, e2⟩ | ⟨_, e1, e2⟩
        rotate_left
        · refine key (-1) ?_ ?_
          · unfold fX11_told
            rw [jn_e, if_neg j0, if_pos c3, jn_e, if_neg d4, if_neg c8, show fX11_isThere (5 : Int32) i x = some 0 from e1, Option.bind_some, if_pos rfl]
          · unfold fX12_told
            rw [lt1_e, if_pos c4, if_neg c9, q5, e2, Option.bind_some, if_pos rfl]
        have il : 0 ≤ (nI l).toInt ∧ (nI l).toInt < ((12 : Nat) : Int) := ixl (by omega) (by omega)
        obtain ⟨w0, w1, w2, w3, w4, _⟩ := hm.2.2.2.2.2.2 l hl
        obtain ⟨_, _, o2, o5, _⟩ := hx.2.2.2.2.2.2 l hl
        have v0 : gI (sI m 0 0 10 0) 21 0 l = gI x 30 l 0 := w0
        have v1 : gI (sI m 0 0 10 0) 22 0 l = gI x 30 l 1 := w1
        have v2 : gI (sI m 0 0 10 0) 23 0 l = gI x 30 l 2 := w2
        have v5 : gI (sI m 0 0 10 0) 26 0 l = gI x 30 l 5 := w3
        have kx : ∀ r, fX1_tell l (nI (j - 4)) x = some r → fX12_toldOfBatch (nI l) (nI j) (sI m 0 0 10 0) = some r → ∃ r m', fX11_told (nI l) (nI j) x = some r ∧ fX12_told (nI l) (nI j) m = some (r, m') ∧ Rel x m' := fun r p q => key r (by
          unfold fX11_told
          rw [jn_e, if_neg j0, if_pos c3, jn_e, if_neg d4, if_neg c8, show fX11_isThere (5 : Int32) (nI l) x = some 1 from e1, Option.bind_some, if_neg n1, ck_t (by exact il), nI_cl (by omega), show nI j - (4 : Int32) = nI (j - 4) from pk_sub (b := 4) (by omega), p, Option.bind_some]) (by
          unfold fX12_told
          rw [lt1_e, if_pos c4, if_neg c9, q5, e2, Option.bind_some, if_neg n1, q, Option.bind_some])
        obtain rfl | rfl | rfl | rfl | rfl : j = 4 ∨ j = 5 ∨ j = 6 ∨ j = 7 ∨ j = 8 := by omega
        · refine kx _ rfl ?_
          unfold fX12_toldOfBatch
          rw [if_pos (show nI 4 = (4 : Int32) from rfl), show lIM 21 0 = 12 from rfl, ck_t il, nI_cl (by omega), v0]
        · refine kx _ rfl ?_
          unfold fX12_toldOfBatch
          rw [if_neg (show ¬ nI 5 = (4 : Int32) by decide), if_pos (show nI 5 = (5 : Int32) from rfl), show lIM 22 0 = 12 from rfl, ck_t il, nI_cl (by omega), v1]
        · refine kx _ rfl ?_
          unfold fX12_toldOfBatch
          rw [if_neg (show ¬ nI 6 = (4 : Int32) by decide), if_neg (show ¬ nI 6 = (5 : Int32) by decide), if_pos (show nI 6 = (6 : Int32) from rfl), show lIM 23 0 = 12 from rfl, ck_t il, nI_cl (by omega), v2]
        · refine kx (smI (fun k => gI x 32 l k) (iN x 30 l 2)) ?_ ?_
          · have hg := xGrams (x := x) (b := l) (by omega) o2.1 o2.2
            show Option.bind (fX1_gramsInAll l x) _ = _
            rw [hg, Option.bind_some]
          · have n8 := o2.2
            have v2' := v2.trans o2.1
            unfold fX12_toldOfBatch
            rw [if_neg (show ¬ nI 7 = (4 : Int32) by decide), if_neg (show ¬ nI 7 = (5 : Int32) by decide), if_neg (show ¬ nI 7 = (6 : Int32) by decide), if_pos (show nI 7 = (7 : Int32) from rfl)]
            refine (congrArg (fun o => Option.bind o _) (lp_seq (fun k => (nI k, smI (fun k => gI x 32 l k) k)) (r := smI (fun k => gI x 32 l k) (iN x 30 l 2)) (iN x 30 l 2) 4000 0 (fun k _ hk => ?_) ?_ (by omega))).trans ?_
            · have hk : k < iN x 30 l 2 := by omega
              have e8 : ((8 : Int32) * nI l) + nI k = nI (8 * l + k) := by
                show nI 8 * nI l + nI k = _
                simp only [pk_mul, nI_add]
              have vk : gI (sI m 0 0 10 0) 25 0 (8 * l + k) = gI x 32 l k := (w4 k hk).2
              dsimp only [un2]
              rw [show lIM 23 0 = 12 from rfl, ck_t il, nI_cl (n := l) (by omega), v2', if_neg (nI_gt (by omega) hk), e8, show lIM 25 0 = 96 from rfl, ck_t (by exact ixl (by omega) (by omega)), nI_cl (by omega), vk, lt1_e, lt1_e, nI_s]
              rfl
            · rw [Nat.zero_add]
              dsimp only [un2]
              rw [show lIM 23 0 = 12 from rfl, ck_t il, nI_cl (n := l) (by omega), v2', if_pos ((nI_leI (by omega) (by omega)).mpr (Nat.le_refl _))]
            · rw [Option.bind_some]
        · refine kx (if gI x 30 l 5 = 0 then 0 else 1) ?_ ?_
          · show (if gI x 30 l 5 = 0 then some (0 : Int32) else some 1) = _
            split <;> rfl
          · unfold fX12_toldOfBatch
            rw [if_neg (show ¬ nI 8 = (4 : Int32) by decide), if_neg (show ¬ nI 8 = (5 : Int32) by decide), if_neg (show ¬ nI 8 = (6 : Int32) by decide), if_neg (show ¬ nI 8 = (7 : Int32) by decide), show lZM 26 0 = 12 from rfl, ck_t il, nI_cl (by omega), v5]
            split <;> rfl
      · -- of a dye
        have c8 : (8 : Int32) < nI j := (nI_ltJ (a := 8) (by decide) (by omega)).mpr (by omega)
        have c9 : (9 : Int32) ≤ nI j := (nI_leI (a := 9) (by decide) (by omega)).mpr (by omega)
        have d9 : ¬ nI j < (9 : Int32) := fun q => by have := (nI_ltJ (b := 9) (by omega) (by decide)).mp q; omega
        have c11 : ¬ (11 : Int32) < nI j := fun q => by have := (nI_ltJ (a := 11) (by decide) (by omega)).mp q; omega
        rcases both_is hx (a := 2) (by decide) i with ⟨l, rfl, hl, e1, e2⟩ | ⟨_, e1, e2⟩
        rotate_left
        · refine key (-1) ?_ ?_
          · unfold fX11_told
            rw [jn_e, if_neg j0, if_pos c3, jn_e, if_neg d4, if_pos c8, if_neg d9, if_neg c11, show fX11_isThere (2 : Int32) i x = some 0 from e1, Option.bind_some, if_pos rfl]
          · unfold fX12_told
            rw [lt1_e, if_pos c4, if_pos c9, q2, e2, Option.bind_some, if_pos rfl]
        have il : 0 ≤ (nI l).toInt ∧ (nI l).toInt < ((12 : Nat) : Int) := ixl (by omega) (by omega)
        obtain ⟨w0, w1, w2, _⟩ := hm.2.2.2.1 l hl
        have v0 : gI (sI m 0 0 10 0) 12 0 l = gI x 22 l 0 := w0
        have v1 : gI (sI m 0 0 10 0) 13 0 l = gI x 22 l 2 := w1
        have v2 : gI (sI m 0 0 10 0) 15 0 l = gI x 22 l 1 := w2
        have kx : ∀ r, fX3_tell l (nI (j - 9)) x = some r → fX12_told (nI l) (nI j) m = some (r, sI m 0 0 10 0) → ∃ r m', fX11_told (nI l) (nI j) x = some r ∧ fX12_told (nI l) (nI j) m = some (r, m') ∧ Rel x m' := fun r p q => key r (by
          unfold fX11_told
          rw [jn_e, if_neg j0, if_pos c3, jn_e, if_neg d4, if_pos c8, if_neg d9, if_neg c11, show fX11_isThere (2 : Int32) (nI l) x = some 1 from e1, Option.bind_some, if_neg n1, ck_t (by exact il), nI_cl (by omega), show nI j - (9 : Int32) = nI (j - 9) from pk_sub (b := 9) (by omega), p, Option.bind_some]) q
        unfold fX12_told at kx ⊢
        obtain rfl | rfl | rfl : j = 9 ∨ j = 10 ∨ j = 11 := by omega
        · refine kx _ rfl ?_
          rw [lt1_e, if_pos c4, if_pos c9, q2, e2, Option.bind_some, if_neg n1, if_pos (show nI 9 = (9 : Int32) from rfl), show lIM 12 0 = 12 from rfl, ck_t il, nI_cl (by omega), v0]
        · refine kx _ rfl ?_
          rw [lt1_e, if_pos c4, if_pos c9, q2, e2, Option.bind_some, if_neg n1, if_neg (show ¬ nI 10 = (9 : Int32) by decide), if_pos (show nI 10 = (10 : Int32) from rfl), show lIM 13 0 = 12 from rfl, ck_t il, nI_cl (by omega), v1]
        · refine kx _ rfl ?_
          rw [lt1_e, if_pos c4, if_pos c9, q2, e2, Option.bind_some, if_neg n1, if_neg (show ¬ nI 11 = (9 : Int32) by decide), if_neg (show ¬ nI 11 = (10 : Int32) by decide), if_pos (show nI 11 = (11 : Int32) from rfl), show lIM 15 0 = 12 from rfl, ck_t il, nI_cl (by omega), v2]
theorem b_weighed {x m : Sto} (h : Rel x m) (a k g : Int32) : ∃ r m', fX11_weighed a k g x = some r ∧ fX12_weighed a k g m = some (r, m') ∧ Rel x m' := by
  have hx := h.1.2.1
  have hm := h.1.2.2.1
  have n1 : ¬ (1 : Int32) = 0 := by decide
  have q5 : gI (sI m 0 0 10 0) 0 0 7 = nI (cN x 5) := (rel_cnt h (k := 5) (by decide)).2.1
  have b5 : cN x 5 ≤ 12 := (hx.1 5 (by decide)).2
  have key : ∀ r : Int32, fX11_weighed a k g x = some r → fX12_weighed a k g m = some (r, sI m 0 0 10 0) → ∃ r m', fX11_weighed a k g x = some r ∧ fX12_weighed a k g m = some (r, m') ∧ Rel x m' := fun r p q => ⟨r, _, p, q, rel_th h⟩
  rcases both_is hx (a := 5) (by decide) a with ⟨b, rfl, hb, e1, e2⟩ | ⟨_, e1, e2⟩
  rotate_left
  · refine key (-1) ?_ ?_
    · unfold fX11_weighed
      rw [show fX11_isThere (5 : Int32) a x = some 0 from e1, Option.bind_some, if_pos rfl]
    · unfold fX12_weighed
      rw [lt1_e, q5, e2, Option.bind_some, if_pos rfl]
  have e1 : fX11_isThere (5 : Int32) (nI b) x = some 1 := e1
  have il : 0 ≤ (nI b).toInt ∧ (nI b).toInt < ((12 : Nat) : Int) := ixl (by omega) (by omega)
  obtain ⟨_, _, w2, _, w4, _⟩ := hm.2.2.2.2.2.2 b hb
  obtain ⟨_, _, o2, _⟩ := hx.2.2.2.2.2.2 b hb
  have n8 := o2.2
  have v2 : gI (sI m 0 0 10 0) 23 0 b = nI (iN x 30 b 2) := w2.trans o2.1
  rcases mIs (n := iN x 30 b 2) (by omega) k with ⟨j, rfl, hj, ek⟩ | ⟨q, ek⟩
  rotate_left
  · refine key (-1) ?_ ?_
    · unfold fX11_weighed
      rw [e1, Option.bind_some, if_neg n1]
      rcases not_ix (by omega) q with z | ⟨z, _, z'⟩
      · rw [if_pos z]
      · rw [if_neg z, ck_t (by exact il), nI_cl (by omega), o2.1, if_neg z']
    · unfold fX12_weighed
      rw [lt1_e, q5, e2, Option.bind_some, if_neg n1, show lIM 23 0 = 12 from rfl, ck_t il, nI_cl (by omega), v2, ek, Option.bind_some, if_pos rfl]
  have e8 : ((8 : Int32) * nI b) + nI j = nI (8 * b + j) := by
    show nI 8 * nI b + nI j = _
    simp only [pk_mul, nI_add]
  have l31 : lIX 31 b = 8 := if_pos (by omega)
  have l32 : lIX 32 b = 8 := if_pos (by omega)
  have v24 : gI (sI m 0 0 10 0) 24 0 (8 * b + j) = gI x 31 b j := (w4 j hj).1
  have v25 : gI (sI m 0 0 10 0) 25 0 (8 * b + j) = gI x 32 b j := (w4 j hj).2
  refine key (if g = 0 then gI x 31 b j else gI x 32 b j) ?_ ?_
  · unfold fX11_weighed
    rw [e1, Option.bind_some, if_neg n1, if_neg (nI_lt0 (by omega)), ck_t (by exact il), nI_cl (n := b) (by omega), o2.1, if_pos ((nI_ltJ (by omega) (by omega)).mpr hj), l31, l32, ck_t (by exact il), ck_t (by exact ixl (by omega) (by omega)), ck_t (by exact il), ck_t (by exact ixl (by omega) (by omega)), nI_cl (by omega)]
    split <;> rfl
  · unfold fX12_weighed
    rw [lt1_e, q5, e2, Option.bind_some, if_neg n1, show lIM 23 0 = 12 from rfl, ck_t il, nI_cl (n := b) (by omega), v2, ek, Option.bind_some, if_neg n1, e8, show lIM 24 0 = 96 from rfl, show lIM 25 0 = 96 from rfl, ck_t (by exact ixl (by omega) (by omega)), ck_t (by exact ixl (by omega) (by omega)), nI_cl (by omega), v24, v25]
    split <;> rfl
