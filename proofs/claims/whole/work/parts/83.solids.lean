theorem axV_e {r s : Nat → UInt32} {W : Nat → Nat} (h : ∀ k, k < 16 → r k = s k) : axV r W = axV s W := by
  have q : ∀ n, n ≤ 16 → smS r W n = smS s W n := by
    intro n
    induction n with
    | zero => intro _; rfl
    | succ n ih =>
      intro hn
      show FP.dadd (smS r W n) (FP.dmul (FP.f2d (r n)) _) = FP.dadd (smS s W n) (FP.dmul (FP.f2d (s n)) _)
      rw [ih (by omega), h n (by omega)]
  unfold axV
  rw [q 16 (Nat.le_refl _)]
theorem colV_e {r s : Nat → UInt32} {W : Nat → Nat → Nat} (h : ∀ k, k < 16 → r k = s k) (k : Nat) : colV r W k = colV s W k := by
  unfold colV
  rw [axV_e h, axV_e (W := W 0) h, axV_e (W := W 2) h]
/-- the reference's colour of a place that holds a spectrum -/
theorem mColR {p l e k : Nat} {st : Sto} {W : Nat → Nat → Nat} {r : Nat → UInt32} (hp : p < 136) (hl : l < 6) (he : e < 2) (hk : k < 3) (ha : MAim st l e W) (h : ∀ k, k < 16 → gF st 1 0 (16 * p + k) = r k) (hr : ∀ k, k < 16 → fl2 (r k)) : fX12_colourOf (nI p) (nI l) (nI e) (nI k) st = some (colV r W k) := by
  rw [mCol hp hl he hk ha (fun k hk => by rw [h k hk]; exact hr k hk), colV_e h]
theorem xColR {f i : Nat} {st : Sto} {W : Nat → Nat → Nat} {r : Nat → UInt32} (ha : Aim st W) (hl : lFX f i = 16) (h : ∀ k, k < 16 → gF st f i k = r k) (hr : ∀ k, k < 16 → fl2 (r k)) : fX9_coloursOf f i st = some ((42, 0), putD st 42 0 3 (colV r W)) := by
  rw [xCol ha hl (fun k hk => by rw [h k hk]; exact hr k hk)]
  exact congrArg (fun s => some ((42, 0), s)) (putD_e fun k _ => colV_e h k)
theorem both_sort (v : Int32) : (∃ i, v = nI i ∧ i ≤ 1 ∧ fX11_isWithin v 0 1 = some 1 ∧ fX12_is v 2 = some 1) ∨ (fX11_isWithin v 0 1 = some 0 ∧ fX12_is v 2 = some 0) := by
  rcases mIs (n := 2) (by decide) v with ⟨i, rfl, hi, e1⟩ | ⟨q, e1⟩
  · rcases rng (nI i) 0 1 (by decide) (by decide) with ⟨j, q1, q2, q3, _, _, _, q4⟩ | ⟨q, q4⟩
    · exact Or.inl ⟨i, rfl, by omega, q4, e1⟩
    · exfalso
      rcases q with q | ⟨_, q, _⟩
      · exact nI_lt0 (by omega) q
      · have := (nI_ltJ (a := 1) (by decide) (by omega)).mp q; omega
  · rcases rng v 0 1 (by decide) (by decide) with ⟨j, q1, q2, q3, _, _, _, q4⟩ | ⟨_, q4⟩
    · exact absurd q1 (q j (by omega))
    · exact Or.inr ⟨q4, e1⟩
theorem no01 {a : Option Int32} (h : a = some 1) (k : a = some 0) : False := absurd (Option.some.inj (h.symm.trans k)) (by decide)
theorem xSolid_bad {x : Sto} {s c l e a b d : Int32} (hc : fX11_isThere 0 c x = some 1) (hs : fX11_isWithin s 0 1 = some 1 ∨ fX11_isWithin s 0 1 = some 0) (ho : fX9_isOne l e = some 1 ∨ fX9_isOne l e = some 0) (ha : fX11_isWithin a 1 1000 = some 1 ∨ fX11_isWithin a 1 1000 = some 0) (hb : fX11_isWithin b 1 1000 = some 1 ∨ fX11_isWithin b 1 1000 = some 0) (hd : fX11_isWithin d 1 1000 = some 1 ∨ fX11_isWithin d 1 1000 = some 0) (bad : fX11_isWithin s 0 1 = some 0 ∨ fX9_isOne l e = some 0 ∨ fX11_isWithin a 1 1000 = some 0 ∨ fX11_isWithin b 1 1000 = some 0 ∨ fX11_isWithin d 1 1000 = some 0) : fX11_solid s c l e a b d x = some (-1, sI x 0 0 19 3) := by
  have n1 : ¬ (1 : Int32) = 0 := by decide
  unfold fX11_solid
  rw [hc, Option.bind_some, if_neg n1]
  rcases hs with q1 | q
  rotate_left
  · rw [q, Option.bind_some, if_pos rfl, xRefused, Option.bind_some]; rfl
  rw [q1, Option.bind_some, if_neg n1]
  rcases ho with q2 | q
  rotate_left
  · rw [q, Option.bind_some, if_pos rfl, xRefused, Option.bind_some]; rfl
  rw [q2, Option.bind_some, if_neg n1]
  rcases ha with q3 | q
  rotate_left
  · rw [q, Option.bind_some, if_pos rfl, xRefused, Option.bind_some]; rfl
  rw [q3, Option.bind_some, if_neg n1]
  rcases hb with q4 | q
  rotate_left
  · rw [q, Option.bind_some, if_pos rfl, xRefused, Option.bind_some]; rfl
  rw [q4, Option.bind_some, if_neg n1]
  rcases hd with q5 | q
  rotate_left
  · rw [q, Option.bind_some, if_pos rfl, xRefused, Option.bind_some]; rfl
  rcases bad with z | z | z | z | z
  · exact (no01 q1 z).elim
  · exact (no01 q2 z).elim
  · exact (no01 q3 z).elim
  · exact (no01 q4 z).elim
  · exact (no01 q5 z).elim
theorem mSolid_bad {m : Sto} {n : Int32} {s c l e a b d : Int32} (hn : gI (sI m 0 0 10 0) 0 0 2 = n) (hc : fX12_is c n = some 1) (hs : fX12_is s 2 = some 1 ∨ fX12_is s 2 = some 0) (hl : fX12_is l 6 = some 1 ∨ fX12_is l 6 = some 0) (he : fX12_is e 2 = some 1 ∨ fX12_is e 2 = some 0) (ha : fX12_isSize a = some 1 ∨ fX12_isSize a = some 0) (hb : fX12_isSize b = some 1 ∨ fX12_isSize b = some 0) (hd : fX12_isSize d = some 1 ∨ fX12_isSize d = some 0) (bad : fX12_is s 2 = some 0 ∨ fX12_is l 6 = some 0 ∨ fX12_is e 2 = some 0 ∨ fX12_isSize a = some 0 ∨ fX12_isSize b = some 0 ∨ fX12_isSize d = some 0) : fX12_solid s c l e a b d m = some (-1, sI (sI m 0 0 10 0) 0 0 9 3) := by
  have n1 : ¬ (1 : Int32) = 0 := by decide
  unfold fX12_solid
  rw [lt1_e, hn, hc, Option.bind_some, if_neg n1]
  rcases hs with q1 | q
  rotate_left
  · rw [q, Option.bind_some, if_pos rfl, mNo, Option.bind_some]; rfl
  rw [q1, Option.bind_some, if_neg n1]
  rcases ha with q2 | q
  rotate_left
  · rw [q, Option.bind_some, if_pos rfl, mNo, Option.bind_some]; rfl
  rw [q2, Option.bind_some, if_neg n1]
  rcases hb with q3 | q
  rotate_left
  · rw [q, Option.bind_some, if_pos rfl, mNo, Option.bind_some]; rfl
  rw [q3, Option.bind_some, if_neg n1]
  rcases hd with q4 | q
  rotate_left
  · rw [q, Option.bind_some, if_pos rfl, mNo, Option.bind_some]; rfl
  rw [q4, Option.bind_some, if_neg n1]
  rcases hl with q5 | q
  rotate_left
  · rw [q, Option.bind_some, if_pos rfl, mNo, Option.bind_some]; rfl
  rw [q5, Option.bind_some, if_neg n1]
  rcases he with q6 | q
  rotate_left
  · rw [q, Option.bind_some, if_pos rfl, mNo, Option.bind_some]; rfl
  rcases bad with z | z | z | z | z | z
  · exact (no01 q1 z).elim
  · exact (no01 q5 z).elim
  · exact (no01 q6 z).elim
  · exact (no01 q2 z).elim
  · exact (no01 q3 z).elim
  · exact (no01 q4 z).elim
theorem solid_step {m : Sto} {n c l e u v w k : Nat} {W : Nat → Nat → Nat} {r : Nat → UInt32} (hn : n < 12) (hc : c < 40) (hl : l < 6) (he : e < 2) (hk : k < 3) (g5 : gI m 0 0 5 = nI n) (ha : MAim m l e W) (h : ∀ k, k < 16 → gF m 1 0 (16 * (1 + c) + k) = r k) (hr : ∀ k, k < 16 → fl2 (r k)) : fX12_colourOf ((1 : Int32) + nI c) (nI l) (nI e) (nI k) (solM m n u v w (colV r W) k) = some (colV r W k) := by
  obtain ⟨eI, eF, _⟩ := solM_I (m := m) (n := n) (u := u) (v := v) (w := w) (col := colV r W) k
  rw [show (1 : Int32) + nI c = nI (1 + c) from nI_add 1 c]
  refine mColR (by omega) hl he hk ?_ (fun q hq => by rw [eF]; exact h q hq) hr
  obtain ⟨L, E, p1, p2, p3⟩ := ha
  exact ⟨L, E, fun q hq => by rw [eI]; exact p1 q hq, fun a ha q hq => by rw [eI]; exact p2 a ha q hq, p3⟩
theorem mSolid_ok {m : Sto} {n c l e i u v w s_ : Nat} {W : Nat → Nat → Nat} {r : Nat → UInt32} {cc : Int32} (hn : gI m 0 0 2 = cc) (hc : fX12_is (nI c) cc = some 1) (c40 : c < 40) (hi : i < 2) (hl : l < 6) (he : e < 2) (hu : 1 ≤ u ∧ u ≤ 1000 ∧ fX12_isSize (nI u) = some 1) (hv : 1 ≤ v ∧ v ≤ 1000 ∧ fX12_isSize (nI v) = some 1) (hw : 1 ≤ w ∧ w ≤ 1000 ∧ fX12_isSize (nI w) = some 1) (g5 : gI m 0 0 5 = nI n) (n12 : n < 12) (ha : MAim m l e W) (h : ∀ k, k < 16 → gF m 1 0 (16 * (1 + c) + k) = r k) (hr : ∀ k, k < 16 → fl2 (r k)) (h44 : gI m 0 0 44 = nI s_) (hs : s_ ≤ 60) : fX12_solid (nI i) (nI c) (nI l) (nI e) (nI u) (nI v) (nI w) m = some (nI n, actS (sI (solM (sI (sI (sI (sI m 0 0 10 0) 34 0 n (nI i)) 35 0 n (nI l)) 36 0 n (nI e)) n u v w (colV r W) 3) 0 0 5 (nI (n + 1))) s_ 5 0 0 0) := by
  have n1 : ¬ (1 : Int32) = 0 := by decide
  have i12 : 0 ≤ (nI n).toInt ∧ (nI n).toInt < ((12 : Nat) : Int) := ixl (by omega) (by omega)
  have q2 : gI (sI m 0 0 10 0) 0 0 2 = cc := hn
  have q3 : gI (sI m 0 0 10 0) 0 0 5 = nI n := g5
  have q4 : gI (sI (sI m 0 0 10 0) 34 0 n (nI i)) 0 0 5 = nI n := g5
  have q5 : gI (sI (sI (sI m 0 0 10 0) 34 0 n (nI i)) 35 0 n (nI l)) 0 0 5 = nI n := g5
  unfold fX12_solid
  rw [lt1_e, q2, hc, Option.bind_some, if_neg n1, show fX12_is (nI i) (2 : Int32) = some 1 from mIs1 (n := 2) (by decide) hi, Option.bind_some, if_neg n1, hu.2.2, Option.bind_some, if_neg n1, hv.2.2, Option.bind_some, if_neg n1, hw.2.2, Option.bind_some, if_neg n1, show fX12_is (nI l) (6 : Int32) = some 1 from mIs1 (n := 6) (by decide) hl, Option.bind_some, if_neg n1, show fX12_is (nI e) (2 : Int32) = some 1 from mIs1 (n := 2) (by decide) he, Option.bind_some, if_neg n1, q3, if_neg (show ¬ nI n = (12 : Int32) from fun q => by have := (nI_inj (by omega) (by decide)).mp (show nI n = nI 12 from q); omega), show lIM 34 0 = 12 from rfl, show lIM 35 0 = 12 from rfl, show lIM 36 0 = 12 from rfl, ck_t i12, nI_cl (by omega), lt1_e, q4, ck_t i12, nI_cl (by omega), lt1_e, q5, ck_t i12, nI_cl (by omega), lt1_e]
  generalize hM : sI (sI (sI (sI m 0 0 10 0) 34 0 n (nI i)) 35 0 n (nI l)) 36 0 n (nI e) = M
  have gM : gI M 0 0 5 = nI n := by rw [← hM]; exact g5
  have aM : MAim M l e W := by
    rw [← hM]
    exact ha
  have rM : ∀ k, k < 16 → gF M 1 0 (16 * (1 + c) + k) = r k := by rw [← hM]; exact h
  have M44 : gI M 0 0 44 = nI s_ := by rw [← hM]; exact h44
  have i36 : ∀ k, k < 3 → 0 ≤ (nI (3 * n + k)).toInt ∧ (nI (3 * n + k)).toInt < ((36 : Nat) : Int) := fun k hk => ixl (by omega) (by omega)
  have e3 : ∀ k, ((3 : Int32) * nI n) + nI k = nI (3 * n + k) := fun k => by
    show nI 3 * nI n + nI k = _
    simp only [pk_mul, nI_add]
  have g5a : ∀ k, gI (solM M n u v w (colV r W) k) 0 0 5 = nI n := fun k => by rw [(solM_I k).1]; exact gM
  have g5b : ∀ k j z, gI (sD (solM M n u v w (colV r W) k) 37 0 j z) 0 0 5 = nI n := fun k _ _ => g5a k
  have st := fun k (hk : k < 3) => solid_step (u := u) (v := v) (w := w) n12 c40 hl he hk gM aM rM hr
  refine (congrArg (fun o => Option.bind o _) (lp_3x (s1 := (nI 1, solM M n u v w (colV r W) 1)) (s2 := (nI 2, solM M n u v w (colV r W) 2)) (s3 := (nI 3, solM M n u v w (colV r W) 3)) (r := solM M n u v w (colV r W) 3) ?_ ?_ ?_ ?_)).trans ?_
  · have c0 : fX12_colourOf ((1 : Int32) + nI c) (nI l) (nI e) (0 : Int32) M = some (colV r W 0) := st 0 (by decide)
    dsimp only [un2]
    rw [if_neg (show ¬ (3 : Int32) ≤ 0 by decide), c0, Option.bind_some, gM, show ((3 : Int32) * nI n) + (0 : Int32) = nI (3 * n + 0) from e3 0, show lDM 37 0 = 36 from rfl, show lDM 38 0 = 36 from rfl, ck_t (i36 0 (by decide)), nI_cl (by omega), lt1_e, if_pos rfl, show FP.ddiv (FP.i2d (nI u)) (4621819117588971520 : UInt64) = szV u from rfl, nd_t (szV_b hu.1 hu.2.1).2.1, show gI (sD M 37 0 (3 * n + 0) (colV r W 0)) 0 0 5 = nI n from gM, show ((3 : Int32) * nI n) + (0 : Int32) = nI (3 * n + 0) from e3 0, ck_t (i36 0 (by decide)), nI_cl (by omega), lt1_e, lt1_e]
    rfl
  · have c0 : fX12_colourOf ((1 : Int32) + nI c) (nI l) (nI e) (nI 1) (solM M n u v w (colV r W) 1) = some (colV r W 1) := st 1 (by decide)
    dsimp only [un2]
    rw [if_neg (show ¬ (3 : Int32) ≤ nI 1 by decide), c0, Option.bind_some, g5a, e3 1, show lDM 37 0 = 36 from rfl, show lDM 38 0 = 36 from rfl, ck_t (i36 1 (by decide)), nI_cl (by omega), lt1_e, if_neg (show ¬ nI 1 = 0 by decide), if_pos (show nI 1 = (1 : Int32) from rfl), show FP.ddiv (FP.i2d (nI v)) (4621819117588971520 : UInt64) = szV v from rfl, nd_t (szV_b hv.1 hv.2.1).2.1, g5b, e3 1, ck_t (i36 1 (by decide)), nI_cl (by omega), lt1_e, lt1_e]
    rfl
  · have c0 : fX12_colourOf ((1 : Int32) + nI c) (nI l) (nI e) (nI 2) (solM M n u v w (colV r W) 2) = some (colV r W 2) := st 2 (by decide)
    dsimp only [un2]
    rw [if_neg (show ¬ (3 : Int32) ≤ nI 2 by decide), c0, Option.bind_some, g5a, e3 2, show lDM 37 0 = 36 from rfl, show lDM 38 0 = 36 from rfl, ck_t (i36 2 (by decide)), nI_cl (by omega), lt1_e, if_neg (show ¬ nI 2 = 0 by decide), if_neg (show ¬ nI 2 = (1 : Int32) by decide), show FP.ddiv (FP.i2d (nI w)) (4621819117588971520 : UInt64) = szV w from rfl, nd_t (szV_b hw.1 hw.2.1).2.1, g5b, e3 2, ck_t (i36 2 (by decide)), nI_cl (by omega), lt1_e, lt1_e]
    rfl
  · dsimp only [un2]
    exact if_pos (show (3 : Int32) ≤ nI 3 by decide)
  · rw [Option.bind_some, g5a, show nI n + (1 : Int32) = nI (n + 1) from nI_1 n, lt1_e]
    refine (congrArg (fun o => Option.bind o _) (mAct (m := sI (solM M n u v w (colV r W) 3) 0 0 5 (nI (n + 1))) (n := s_) ?_ hs 5 0 0 0)).trans ?_
    · show gI (solM M n u v w (colV r W) 3) 0 0 44 = _
      rw [(solM_I 3).1]; exact M44
    · rw [Option.bind_some, act_end (by decide) (by omega) rfl]
