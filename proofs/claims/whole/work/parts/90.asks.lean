/-! ===== what asks alone, by both ===== -/
theorem ck_v {β : Type} {c : Prop} [Decidable c] {x : Option β} (h : c) : ck c x = x := if_pos h
theorem b_trouble {x m : Sto} (h : Rel x m) : ∃ r m', fX11_trouble x = some r ∧ fX12_trouble m = some (r, m') ∧ Rel x m' :=
  ⟨gI x 0 0 19, sI m 0 0 10 0, rfl, by
    unfold fX12_trouble
    rw [lt1_e]
    exact congrArg (fun v => some (v, sI m 0 0 10 0)) h.2.1, rel_th h⟩
theorem b_count {x m : Sto} (h : Rel x m) (a : Int32) : ∃ r m', fX11_count a x = some r ∧ fX12_count a m = some (r, m') ∧ Rel x m' := by
  have c := fun k (hk : k < 6) => (h.1.2.2.1.1 k hk)
  have e8 : gI m 0 0 8 = gI x 0 0 11 := h.2.2.1.2.2.2.1
  have e44 : gI m 0 0 44 = gI x 18 0 3 := h.1.2.2.2.1
  have e75 : gI m 0 0 75 = gI x 17 0 1 := h.2.2.2.2.2.2.1.1
  have key : ∀ r : Int32, fX11_count a x = some r → fX12_count a m = some (r, sI m 0 0 10 0) → ∃ r m', fX11_count a x = some r ∧ fX12_count a m = some (r, m') ∧ Rel x m' := fun r p q => ⟨r, _, p, q, rel_th h⟩
  rcases pk_ix a (n := 9) (by decide) with q | q | ⟨j, hj, rfl⟩
  · have g : ∀ k, k < 10 → ¬ a = nI k := fun k hk e => by
      rw [e] at q; exact nI_lt0 (by omega) q
    refine key (-1) ?_ ?_
    · unfold fX11_count
      rw [jn_e, if_pos q, if_neg (show ¬ a = (6 : Int32) from g 6 (by decide)), if_neg (show ¬ a = (7 : Int32) from g 7 (by decide)), if_neg (show ¬ a = (8 : Int32) from g 8 (by decide))]
    · unfold fX12_count
      rw [lt1_e, if_neg (show ¬ a = (0 : Int32) from g 0 (by decide)), if_neg (show ¬ a = (1 : Int32) from g 1 (by decide)), if_neg (show ¬ a = (2 : Int32) from g 2 (by decide)), if_neg (show ¬ a = (3 : Int32) from g 3 (by decide)), if_neg (show ¬ a = (4 : Int32) from g 4 (by decide)), if_neg (show ¬ a = (5 : Int32) from g 5 (by decide)), if_neg (show ¬ a = (6 : Int32) from g 6 (by decide)), if_neg (show ¬ a = (7 : Int32) from g 7 (by decide)), if_neg (show ¬ a = (8 : Int32) from g 8 (by decide))]
  · have g : ∀ k, k < 9 → ¬ a = nI k := fun k hk e => by
      rw [e] at q; exact nI_gt (by decide) hk q
    have q6 : (6 : Int32) ≤ a := by
      have h1 := Int32.le_iff_toInt_le.mp q
      rw [nI_toInt (by decide)] at h1
      rw [Int32.le_iff_toInt_le, show (6 : Int32).toInt = 6 from rfl]; omega
    have q0 : ¬ a < 0 := fun z => by
      have h1 := Int32.le_iff_toInt_le.mp q6
      have h2 := Int32.lt_iff_toInt_lt.mp z
      rw [show (6 : Int32).toInt = 6 from rfl] at h1
      rw [show (0 : Int32).toInt = 0 from rfl] at h2
      omega
    refine key (-1) ?_ ?_
    · unfold fX11_count
      rw [jn_e, if_neg q0, if_pos q6, if_neg (show ¬ a = (6 : Int32) from g 6 (by decide)), if_neg (show ¬ a = (7 : Int32) from g 7 (by decide)), if_neg (show ¬ a = (8 : Int32) from g 8 (by decide))]
    · unfold fX12_count
      rw [lt1_e, if_neg (show ¬ a = (0 : Int32) from g 0 (by decide)), if_neg (show ¬ a = (1 : Int32) from g 1 (by decide)), if_neg (show ¬ a = (2 : Int32) from g 2 (by decide)), if_neg (show ¬ a = (3 : Int32) from g 3 (by decide)), if_neg (show ¬ a = (4 : Int32) from g 4 (by decide)), if_neg (show ¬ a = (5 : Int32) from g 5 (by decide)), if_neg (show ¬ a = (6 : Int32) from g 6 (by decide)), if_neg (show ¬ a = (7 : Int32) from g 7 (by decide)), if_neg (show ¬ a = (8 : Int32) from g 8 (by decide))]
  · obtain rfl | rfl | rfl | rfl | rfl | rfl | rfl | rfl | rfl : j = 0 ∨ j = 1 ∨ j = 2 ∨ j = 3 ∨ j = 4 ∨ j = 5 ∨ j = 6 ∨ j = 7 ∨ j = 8 := by omega
    · exact key _ rfl (congrArg (fun v => some (v, sI m 0 0 10 0)) (c 0 (by decide)))
    · exact key _ rfl (congrArg (fun v => some (v, sI m 0 0 10 0)) (c 1 (by decide)))
    · exact key _ rfl (congrArg (fun v => some (v, sI m 0 0 10 0)) (c 2 (by decide)))
    · exact key _ rfl (congrArg (fun v => some (v, sI m 0 0 10 0)) (c 3 (by decide)))
    · exact key _ rfl (congrArg (fun v => some (v, sI m 0 0 10 0)) (c 4 (by decide)))
    · exact key _ rfl (congrArg (fun v => some (v, sI m 0 0 10 0)) (c 5 (by decide)))
    · exact key _ rfl (congrArg (fun v => some (v, sI m 0 0 10 0)) e8)
    · exact key _ rfl (congrArg (fun v => some (v, sI m 0 0 10 0)) e44)
    · exact key _ rfl (congrArg (fun v => some (v, sI m 0 0 10 0)) e75)
theorem b_recipeBy {x m : Sto} (h : Rel x m) (a : Int32) : ∃ r m', fX11_recipeBy a x = some r ∧ fX12_recipeBy a m = some (r, m') ∧ Rel x m' := by
  obtain ⟨p1, p2, p3⟩ := h.2.2.2.2.1
  have q57 : gI (sI m 0 0 10 0) 0 0 57 = nI (iN x 16 0 12) := p2.trans p1.1
  have key : ∀ r : Int64, fX11_recipeBy a x = some r → fX12_recipeBy a m = some (r, sI m 0 0 10 0) → ∃ r m', fX11_recipeBy a x = some r ∧ fX12_recipeBy a m = some (r, m') ∧ Rel x m' := fun r p q => ⟨r, _, p, q, rel_th h⟩
  by_cases e : iN x 16 0 12 = 0
  · refine key 0 ?_ ?_
    · unfold fX11_recipeBy
      rw [p1.1, e, if_pos (show nI 0 = 0 from rfl)]
    · unfold fX12_recipeBy
      rw [lt1_e, q57, e, if_pos (show nI 0 = 0 from rfl)]
  · have e1 : iN x 16 0 12 = 1 := by have := p1.2; omega
    obtain ⟨_, _, _, _, _, o1, o2, o3, o4⟩ := p3 e1
    have n1 : ¬ nI 1 = 0 := by decide
    have q64 : gD (sI m 0 0 10 0) 0 0 64 = gD x 16 0 17 := o3
    have q65 : gL (sI m 0 0 10 0) 0 0 65 = gL x 16 0 18 := o4
    obtain ⟨d1, d2⟩ := dbits o1 o2
    by_cases a0 : a = 0
    · refine key (gD x 16 0 17).toInt64 ?_ ?_
      · unfold fX11_recipeBy
        rw [p1.1, e1, if_neg n1, if_pos a0, d1, Option.bind_some]
      · unfold fX12_recipeBy
        rw [lt1_e, q57, e1, if_neg n1, if_pos a0, q64, d2, Option.bind_some]
    · by_cases a1 : a = 1
      · refine key (gL x 16 0 18) ?_ ?_
        · unfold fX11_recipeBy
          rw [p1.1, e1, if_neg n1, if_neg a0, if_pos a1]
        · unfold fX12_recipeBy
          rw [lt1_e, q57, e1, if_neg n1, if_neg a0, if_pos a1, q65]
      · refine key 0 ?_ ?_
        · unfold fX11_recipeBy
          rw [p1.1, e1, if_neg n1, if_neg a0, if_neg a1]
        · unfold fX12_recipeBy
          rw [lt1_e, q57, e1, if_neg n1, if_neg a0, if_neg a1]
/-- a search's result as the class tells it -/
theorem xResultOf {x : Sto} {o : Nat} {a : Int32} {b : Nat} (ho : o < 2) (h12 : gI x 16 o 12 = 1) (h11 : isN x 16 o 11 1) (h16 : gI x 16 o 16 = nI b) (hb : b ≤ 3) : (∀ j, a ≠ nI j ∨ 8 ≤ j ∨ 2 ^ 31 ≤ j) ∧ fX8_resultOf o a x = some (-1) ∨ ∃ j, j < 8 ∧ a = nI j ∧ fX8_resultOf o a x = some (if j = 0 then gI x 16 o 10 else if j = 1 then gI x 16 o 11 else if (j - 2) / 2 < b then (if j % 2 = 0 then gI x 50 o ((j - 2) / 2) else gI x 51 o ((j - 2) / 2)) else -1) := by
  have n1 : ¬ (1 : Int32) = 0 := by decide
  rcases pk_ix a (n := 8) (by decide) with q | q | ⟨j, hj, rfl⟩
  · left
    refine ⟨fun j => ?_, ?_⟩
    · by_cases e : a = nI j
      · right
        by_cases j31 : 2 ^ 31 ≤ j
        · exact Or.inr j31
        · rw [e] at q; exact absurd q (nI_lt0 (by omega))
      · exact Or.inl e
    · have q' : ¬ 0 ≤ a := fun z => by
        have h1 := Int32.le_iff_toInt_le.mp z
        have h2 := Int32.lt_iff_toInt_lt.mp q
        rw [show (0 : Int32).toInt = 0 from rfl] at h1 h2
        omega
      unfold fX8_resultOf
      rw [h12, if_neg n1, if_neg q']
  · left
    have h1 := Int32.le_iff_toInt_le.mp q
    rw [nI_toInt (by decide)] at h1
    obtain ⟨v, hv⟩ : ∃ v : Nat, a = nI v ∧ 8 ≤ v ∧ v < 2 ^ 31 := by
      refine ⟨a.toInt.toNat, ?_, by omega, by have := Int32.toInt_lt a; omega⟩
      apply Int32.toInt_inj.mp
      rw [nI_toInt (by have := Int32.toInt_lt a; omega)]; omega
    obtain ⟨rfl, v8, v31⟩ := hv
    refine ⟨fun j => ?_, ?_⟩
    · by_cases j31 : 2 ^ 31 ≤ j
      · exact Or.inr (Or.inr j31)
      · by_cases e : nI v = nI j
        · have := (nI_inj (by omega) (by omega)).mp e
          exact Or.inr (Or.inl (by omega))
        · exact Or.inl e
    · have e2 : nI v / (2 : Int32) = nI (v / 2) := pk_div (d := 2) (by omega) (by decide) (by decide)
      unfold fX8_resultOf
      rw [h12, if_neg n1, if_pos (show (0 : Int32) ≤ nI v from (nI_leI (a := 0) (by decide) (by omega)).mpr (Nat.zero_le _)), if_neg (show ¬ nI v = 0 from fun z => by have := (nI_z (by omega)).mp z; omega), if_neg (show ¬ nI v = (1 : Int32) from fun z => by have := (nI_inj (b := 1) (by omega) (by decide)).mp z; omega), ck_t (by decide), e2, show nI (v / 2) - (1 : Int32) = nI (v / 2 - 1) from pk_sub (b := 1) (by omega), lt1_e, h16, if_neg (fun z => by have := (nI_ltJ (by omega) (by omega)).mp z; omega)]
  · right
    refine ⟨j, hj, rfl, ?_⟩
    unfold fX8_resultOf
    rw [h12, if_neg n1, if_pos (show (0 : Int32) ≤ nI j from (nI_leI (a := 0) (by decide) (by omega)).mpr (Nat.zero_le _))]
    by_cases j0 : j = 0
    · subst j0
      rw [if_pos (show nI 0 = 0 from rfl), if_pos rfl]
    rw [if_neg (show ¬ nI j = 0 from fun z => j0 ((nI_z (by omega)).mp z)), if_neg j0]
    by_cases j1 : j = 1
    · subst j1
      rw [if_pos (show nI 1 = (1 : Int32) from rfl), if_pos rfl]
      have hb1 := h11.2
      have hb0 := h11.1
      by_cases e : iN x 16 o 11 = 0
      · rw [hb0, e, if_pos (show nI 0 = 0 from rfl)]; rfl
      · have e1 : iN x 16 o 11 = 1 := by omega
        rw [hb0, e1, if_neg (show ¬ nI 1 = 0 by decide)]; rfl
    rw [if_neg (show ¬ nI j = (1 : Int32) from fun z => j1 ((nI_inj (b := 1) (by omega) (by decide)).mp z)), if_neg j1]
    have e2 : nI j / (2 : Int32) = nI (j / 2) := pk_div (d := 2) (by omega) (by decide) (by decide)
    have e3 : nI j - nI j / (2 : Int32) * (2 : Int32) = nI (j % 2) := pk_rem (d := 2) (by omega) (by decide) (by decide)
    have e4 : j / 2 - 1 = (j - 2) / 2 := by omega
    have l50 : lIX 50 o = 3 := if_pos ho
    have l51 : lIX 51 o = 3 := if_pos ho
    rw [ck_t (by decide), e2, show nI (j / 2) - (1 : Int32) = nI (j / 2 - 1) from pk_sub (b := 1) (by omega), lt1_e, h16, e4]
    by_cases c : (j - 2) / 2 < b
    · rw [if_pos ((nI_ltJ (by omega) (by omega)).mpr c), if_pos c, ck_t (by decide), show nI j - nI (j / 2) * (2 : Int32) = nI (j % 2) from by rw [← e2]; exact e3, nI_cl (by omega), l50, l51, ck_t (by exact ixl (by omega) (by omega)), ck_t (by exact ixl (by omega) (by omega))]
      by_cases p : j % 2 = 0
      · rw [p, if_pos (show nI 0 = 0 from rfl), if_pos rfl]
      · rw [if_neg (fun z => p ((nI_z (by omega)).mp z)), if_neg p]
    · rw [if_neg (fun z => c ((nI_ltJ (by omega) (by omega)).mp z)), if_neg c]
