/-! ===== a recipe, by both ===== -/
theorem b_recipe {x m : Sto} (h : Rel x m) (a1 a2 a3 a4 a5 a6 a7 a8 : Int32) : ∃ r x' m', fX11_recipe a1 a2 a3 a4 a5 a6 a7 a8 x = some (r, x') ∧ fX12_recipe a1 a2 a3 a4 a5 a6 a7 a8 m = some (r, m') ∧ Rel x' m' := by
  have hx := h.1.2.1
  have hm := h.1.2.2.1
  have n1 : ¬ (1 : Int32) = 0 := by decide
  have q2 : gI (sI m 0 0 10 0) 0 0 2 = nI (cN x 0) := (rel_cnt h (k := 0) (by decide)).2.1
  have q3 : gI (sI m 0 0 10 0) 0 0 3 = nI (cN x 1) := (rel_cnt h (k := 1) (by decide)).2.1
  have q4 : gI (sI m 0 0 10 0) 0 0 4 = nI (cN x 2) := (rel_cnt h (k := 2) (by decide)).2.1
  have x32 : gI x 3 0 2 = nI (cN x 2) := (rel_cnt h (k := 2) (by decide)).1
  have c40 : cN x 0 ≤ 40 := (hx.1 0 (by decide)).2
  have c8 : cN x 1 ≤ 8 := (hx.1 1 (by decide)).2
  have c12 : cN x 2 ≤ 12 := (hx.1 2 (by decide)).2
  rcases both_is hx (a := 0) (by decide) a1 with ⟨ch, rfl, hch, e1, e2⟩ | ⟨_, e1, e2⟩
  rotate_left
  · refine ⟨-1, _, _, ?_, ?_, rel_no (v := 2) h⟩
    · unfold fX11_recipe
      rw [show fX11_isThere (0 : Int32) a1 x = some 0 from e1, Option.bind_some, if_pos rfl, xRefused, Option.bind_some]; rfl
    · unfold fX12_recipe
      rw [lt1_e, q2, e2, Option.bind_some, if_pos rfl, mNo, Option.bind_some]; rfl
  have e1 : fX11_isThere (0 : Int32) (nI ch) x = some 1 := e1
  rcases both_is hx (a := 1) (by decide) a2 with ⟨cl, rfl, hcl, e3, e4⟩ | ⟨_, e3, e4⟩
  rotate_left
  · refine ⟨-1, _, _, ?_, ?_, rel_no (v := 2) h⟩
    · unfold fX11_recipe
      rw [e1, Option.bind_some, if_neg n1, show fX11_isThere (1 : Int32) a2 x = some 0 from e3, Option.bind_some, if_pos rfl, xRefused, Option.bind_some]; rfl
    · unfold fX12_recipe
      rw [lt1_e, q2, e2, Option.bind_some, if_neg n1, q3, e4, Option.bind_some, if_pos rfl, mNo, Option.bind_some]; rfl
  have e3 : fX11_isThere (1 : Int32) (nI cl) x = some 1 := e3
  rcases both_one a3 a4 with ⟨l, e, rfl, rfl, hl, he, e5, e6, e7⟩ | ⟨e5, e6⟩
  rotate_left
  · refine ⟨-1, _, _, ?_, ?_, rel_no (v := 3) h⟩
    · unfold fX11_recipe
      rw [e1, Option.bind_some, if_neg n1, e3, Option.bind_some, if_neg n1, e5, Option.bind_some, if_pos rfl, xRefused, Option.bind_some]; rfl
    · unfold fX12_recipe
      rw [lt1_e, q2, e2, Option.bind_some, if_neg n1, q3, e4, Option.bind_some, if_neg n1]
      rcases e6 with e6 | ⟨e6, e7⟩
      · rw [e6, Option.bind_some, if_pos rfl, mNo, Option.bind_some]; rfl
      · rw [e6, Option.bind_some, if_neg n1, e7, Option.bind_some, if_pos rfl, mNo, Option.bind_some]; rfl
  rcases rng a6 1 3 (by decide) (by decide) with ⟨a, rfl, w1, w2, w3, w4, _, w6⟩ | ⟨w, w6⟩
  rotate_left
  · refine ⟨-1, _, _, ?_, ?_, rel_no (v := 3) h⟩
    · unfold fX11_recipe
      rw [e1, Option.bind_some, if_neg n1, e3, Option.bind_some, if_neg n1, e5, Option.bind_some, if_neg n1, show fX11_isWithin a6 (1 : Int32) (3 : Int32) = some 0 from w6, Option.bind_some, if_pos rfl, xRefused, Option.bind_some]; rfl
    · unfold fX12_recipe
      rw [lt1_e, q2, e2, Option.bind_some, if_neg n1, q3, e4, Option.bind_some, if_neg n1, e6, Option.bind_some, if_neg n1, e7, Option.bind_some, if_neg n1]
      rcases w with w | ⟨w, w', _⟩
      · rw [if_pos (show a6 < (1 : Int32) from w), mNo, Option.bind_some]; rfl
      · rw [if_neg (show ¬ a6 < (1 : Int32) from w), if_pos (show (3 : Int32) < a6 from w'), mNo, Option.bind_some]; rfl
  have w6 : fX11_isWithin (nI a) (1 : Int32) (3 : Int32) = some 1 := w6
  have w3 : ¬ nI a < (1 : Int32) := w3
  have w4 : ¬ (3 : Int32) < nI a := w4
  rcases rng a7 1 10000 (by decide) (by decide) with ⟨st, rfl, u1, u2, u3, u4, _, u6⟩ | ⟨u, u6⟩
  rotate_left
  · refine ⟨-1, _, _, ?_, ?_, rel_no (v := 3) h⟩
    · unfold fX11_recipe fX11_isGrid
      rw [e1, Option.bind_some, if_neg n1, e3, Option.bind_some, if_neg n1, e5, Option.bind_some, if_neg n1, w6, Option.bind_some, if_neg n1, show fX11_isWithin a7 (1 : Int32) (10000 : Int32) = some 0 from u6, Option.bind_some, if_pos rfl, Option.bind_some, if_pos rfl, xRefused, Option.bind_some]; rfl
    · unfold fX12_recipe
      rw [lt1_e, q2, e2, Option.bind_some, if_neg n1, q3, e4, Option.bind_some, if_neg n1, e6, Option.bind_some, if_neg n1, e7, Option.bind_some, if_neg n1, if_neg w3, if_neg w4]
      rcases u with u | ⟨u, u', _⟩
      · rw [if_pos (show a7 < (1 : Int32) from u), mNo, Option.bind_some]; rfl
      · rw [if_neg (show ¬ a7 < (1 : Int32) from u), if_pos (show (10000 : Int32) < a7 from u'), mNo, Option.bind_some]; rfl
  have u6 : fX11_isWithin (nI st) (1 : Int32) (10000 : Int32) = some 1 := u6
  have u3 : ¬ nI st < (1 : Int32) := u3
  have u4 : ¬ (10000 : Int32) < nI st := u4
  rcases rng a8 1 12 (by decide) (by decide) with ⟨T, rfl, t1, t2, t3, t4, _, t6⟩ | ⟨u, t6⟩
  rotate_left
  · refine ⟨-1, _, _, ?_, ?_, rel_no (v := 3) h⟩
    · unfold fX11_recipe fX11_isGrid
      rw [e1, Option.bind_some, if_neg n1, e3, Option.bind_some, if_neg n1, e5, Option.bind_some, if_neg n1, w6, Option.bind_some, if_neg n1, u6, Option.bind_some, if_neg n1, show fX11_isWithin a8 (1 : Int32) (12 : Int32) = some 0 from t6, Option.bind_some, if_pos rfl, Option.bind_some, if_pos rfl, xRefused, Option.bind_some]; rfl
    · unfold fX12_recipe
      rw [lt1_e, q2, e2, Option.bind_some, if_neg n1, q3, e4, Option.bind_some, if_neg n1, e6, Option.bind_some, if_neg n1, e7, Option.bind_some, if_neg n1, if_neg w3, if_neg w4, if_neg u3, if_neg u4]
      rcases u with u | ⟨u, u', _⟩
      · rw [if_pos (show a8 < (1 : Int32) from u), mNo, Option.bind_some]; rfl
      · rw [if_neg (show ¬ a8 < (1 : Int32) from u), if_pos (show (12 : Int32) < a8 from u'), mNo, Option.bind_some]; rfl
  have t6 : fX11_isWithin (nI T) (1 : Int32) (12 : Int32) = some 1 := t6
  have t3 : ¬ nI T < (1 : Int32) := t3
  have t4 : ¬ (12 : Int32) < nI T := t4
  have hgrid : fX11_isGrid (nI st) (nI T) = some 1 := by
    unfold fX11_isGrid
    rw [u6, Option.bind_some, if_neg n1, t6, Option.bind_some, if_neg n1]
  by_cases hset : (a5.toUInt32 >>> ((nI (cN x 2)).toUInt32 &&& Int32.toUInt32 31)).toInt32 = 0
  rotate_left
  · refine ⟨-1, _, _, ?_, ?_, rel_no (v := 3) h⟩
    · unfold fX11_recipe
      rw [e1, Option.bind_some, if_neg n1, e3, Option.bind_some, if_neg n1, e5, Option.bind_some, if_neg n1, w6, Option.bind_some, if_neg n1, hgrid, Option.bind_some, if_neg n1, x32, if_neg hset, xRefused, Option.bind_some]; rfl
    · unfold fX12_recipe
      rw [lt1_e, q2, e2, Option.bind_some, if_neg n1, q3, e4, Option.bind_some, if_neg n1, e6, Option.bind_some, if_neg n1, e7, Option.bind_some, if_neg n1, if_neg w3, if_neg w4, if_neg u3, if_neg u4, if_neg t3, if_neg t4, q4, if_neg hset, mNo, Option.bind_some]; rfl
  -- the class begins
  obtain ⟨B, hB, B3, B4, B5, B6, B9, B10, B13, BI, kB⟩ : ∃ B, fX8_begin 0 (nI a) (nI st) (0 : Int32) x = some B ∧ gI B 16 0 3 = 0 ∧ gI B 16 0 4 = nI a ∧ gI B 16 0 5 = nI st ∧ gI B 16 0 6 = 0 ∧ gI B 16 0 9 = 0 ∧ gI B 16 0 10 = 0 ∧ gI B 16 0 13 = 0 ∧ (∀ f i j, f ≠ 16 → gI B f i j = gI x f i j) ∧ KF 0 x B := by
    refine ⟨_, rfl, rfl, rfl, rfl, rfl, rfl, rfl, rfl, fun f i j q => ?_, KF_t (KF_t (KF_t (KF_t (KF_t (KF_t (KF_I (by decide)) (KF_I (by decide))) (KF_I (by decide))) (KF_I (by decide))) (KF_I (by decide))) (KF_I (by decide))) (KF_I (by decide))⟩
    rw [gI_sI, if_neg (by omega), gI_sI, if_neg (by omega), gI_sI, if_neg (by omega), gI_sI, if_neg (by omega), gI_sI, if_neg (by omega), gI_sI, if_neg (by omega), gI_sI, if_neg (by omega)]
  obtain ⟨Z, z1, z2, z3, z4, z5, z6, z7, z8⟩ := xOffers (a5 := a5) (T := T) (cnt := cN x 2) (t := B) B3 ((BI _ _ _ (by decide)).trans x32) c12 t1 t2
  have kZ : KF 0 x Z := KF_t kB ⟨fun f i j q => z5 f i j (by omega), fun f i j _ => by rw [z6], fun f i j _ _ _ => by rw [z7], fun f i j _ => by rw [z8]⟩
  have RZ : RelS x 0 Z (sI m 0 0 10 0) := RelS_f (RelS_0 0 h) kZ (FM_I (by decide))
  obtain ⟨A, A1, A2, A3⟩ := xAimC (RelS_B RZ) hl he
  have hA20 : ∀ k, gF A 20 ch k = gF x 20 ch k := fun k => (A3.2.2.1 20 ch k (by decide)).symm.trans (kZ.2.1 20 ch k (by decide))
  have hgr : ∀ k, k < 16 → fl2 (gF A 20 ch k) := fun k hk => by rw [hA20]; exact (hx.2.1.1 ch hch k hk).1
  obtain ⟨G, G1, G2, G3, G4⟩ := xGoal (f := 20) (i := ch) A2 (show lFX 20 ch = 16 from if_pos (by omega)) hgr
  have gG : gI G = gI Z := G3.1.symm.trans A3.1.symm
  have kG : KF 0 x G := KF_t kZ (KF_t (KF_S A3) (KF_S G3))
  -- the reference begins
  generalize hW : Wt Z l e = W at A2 G2 G4
  obtain ⟨m1, hm1, fm1, m58, m59, m60, m61, m62, m1F, m1I⟩ : ∃ m1, m1 = sI (sI (sI (sI (sI (sI m 0 0 10 0) 0 0 58 (nI cl)) 0 0 59 (nI l)) 0 0 60 (nI e)) 0 0 61 (nI st)) 0 0 62 (nI T) ∧ FM m m1 ∧ gI m1 0 0 58 = nI cl ∧ gI m1 0 0 59 = nI l ∧ gI m1 0 0 60 = nI e ∧ gI m1 0 0 61 = nI st ∧ gI m1 0 0 62 = nI T ∧ gF m1 = gF m ∧ ∀ f i j, f ≠ 0 → gI m1 f i j = gI m f i j :=
    ⟨_, rfl, FM_t (FM_t (FM_t (FM_t (FM_t (FM_I (by decide)) (FM_I (by decide))) (FM_I (by decide))) (FM_I (by decide))) (FM_I (by decide))) (FM_I (by decide)), rfl, rfl, rfl, rfl, rfl, rfl, fun f i j q => by rw [gI_sI, if_neg (by omega), gI_sI, if_neg (by omega), gI_sI, if_neg (by omega), gI_sI, if_neg (by omega), gI_sI, if_neg (by omega), gI_sI, if_neg (by omega)]⟩
  have hgoal := mGoalR (x := Z) (m := sI m 0 0 10 0) (st := m1) (l := l) (e := e) (p := 1 + ch) (g := fun k => gF A 20 ch k) (RelS_B RZ) hl he (by omega) (fun f i j q _ => by rw [m1I _ _ _ (by omega), gI_sI, if_neg (by omega)]) (fun k hk => by rw [m1F, hA20]; exact (hm.2.1 ch hch k hk).1) hgr
  rw [hW] at hgoal
  obtain ⟨m3, hm3, fm3, M51, M56, M49, M58, M59, M60, M61, M62, M46, M4⟩ : ∃ m3, m3 = sI (sI (sI (putD m1 46 0 3 (colV (fun k => gF A 20 ch k) W)) 0 0 51 0) 0 0 56 0) 0 0 49 0 ∧ FM m m3 ∧ gI m3 0 0 51 = nI 0 ∧ gI m3 0 0 56 = 0 ∧ gI m3 0 0 49 = nI 0 ∧ gI m3 0 0 58 = nI cl ∧ gI m3 0 0 59 = nI l ∧ gI m3 0 0 60 = nI e ∧ gI m3 0 0 61 = nI st ∧ gI m3 0 0 62 = nI T ∧ (∀ k, k < 3 → gD m3 46 0 k = colV (fun k => gF A 20 ch k) W k) ∧ gI m3 0 0 4 = gI m1 0 0 4 :=
    ⟨_, rfl, FM_t fm1 (FM_t (FM_t (FM_t FM_pD (FM_I (by decide))) (FM_I (by decide))) (FM_I (by decide))), rfl, rfl, rfl, m58, m59, m60, m61, m62, fun k hk => putD_h hk, rfl⟩
  have m4 : gI m3 0 0 4 = nI (cN x 2) := M4.trans (by rw [hm1]; exact q4)
  have hE : Env x l e cl (rk (bt a5) (cN x 2)) a st T (fun q => iN Z 45 0 q) (fun k => gF A 20 ch k) := ⟨hl, he, hcl, hgr, Nat.le_trans (rk_le _ _) c12, w2, ⟨u1, u2⟩, ⟨t1, t2⟩, fun q hq => by
    obtain ⟨⟨u, v1, v2⟩, _⟩ := z4 q hq
    dsimp only
    unfold iN
    rw [v2, nI_cl (by omega)]; exact v1⟩
  have hS : Sel a5 (bt a5) (cN x 2) (rk (bt a5) (cN x 2)) (fun q => iN Z 45 0 q) := ⟨c12, rfl, fun v hv hs => by
    dsimp only
    unfold iN
    rw [z3 v hv hs, nI_cl (by omega)], fun mm v hv h4 => mIsOf hv c12 h4⟩
  have hSe : SeX l e (rk (bt a5) (cN x 2)) a st T (fun q => iN Z 45 0 q) W (fun k => gF A 20 ch k) G := by
    refine ⟨by rw [gG]; exact z2, by rw [gG, z5 _ _ _ (by omega)]; exact B4, by rw [gG, z5 _ _ _ (by omega)]; exact B5, by rw [gG, z5 _ _ _ (by omega)]; exact B6, fun q hq => ?_, (Wt_I (fun f i j _ => by rw [gG])).trans hW, G2, G4⟩
    obtain ⟨⟨u, v1, v2⟩, v3⟩ := z4 q hq
    rw [gG]
    refine ⟨?_, v3⟩
    dsimp only
    unfold iN
    rw [v2, nI_cl (by omega)]
  have RG : RelS x 0 G m3 := RelS_f (RelS_0 0 h) kG fm3
  have cG : ∀ q, q < 6 → cN G q = cN x q := fun q hq => iN_e (kG.1 3 0 q (by omega))
  obtain ⟨X1, r1, s1, s2, s3, s4, s5, s6, s7, s8, s9⟩ := s_try (s := 0) (k := 0) (i := fun k => k) (d := fun j => iN Z 45 0 j) (g := fun _ => T) RG hSe ⟨M58, M59, M60, M61, M62, M46⟩ ⟨by rw [gG, z5 _ _ _ (by omega)]; exact B10, M51, fun _ => by rw [gG, z5 _ _ _ (by omega)]; exact B13, fun q => absurd q (by decide)⟩ (by decide) hl he (by rw [cG 1 (by decide)]; exact hcl) hgr (by decide) (fun p hp => absurd hp (Nat.not_lt_zero p)) (fun p hp => absurd hp (Nat.not_lt_zero p)) ⟨by rw [gG, z5 _ _ _ (by omega)]; exact B9, by rw [gG, z5 _ _ _ (by omega)]; exact B5, fun p hp => absurd hp (Nat.not_lt_zero p)⟩ ⟨M49, fun p hp => absurd hp (Nat.not_lt_zero p)⟩
  have hIV : IV x l e cl (rk (bt a5) (cN x 2)) a st T (fun q => iN Z 45 0 q) W (fun k => gF A 20 ch k) X1 0 (fun k => k) (fun _ => T) r1 := ⟨1, X1, Nat.le_refl 1, by decide, XR_1 _ _, s3, s4, s5, s6, s7, (s9.1 0 0 56 (by omega)).trans M56, fun q hq => (iN_e (s8.1 3 0 q (by omega))).trans (cG q hq)⟩
  obtain ⟨r, r1e, r2⟩ := mSizes hE hS hIV ((s9.1 0 0 4 (by omega)).trans m4)
  obtain ⟨k, Y, b, ⟨Z', y1, y2⟩, y3, y4, y5, y6⟩ := xEnds hE r2
  obtain ⟨_, b2, _, b4⟩ := id y4
  obtain ⟨_, _, _, _, sb, c5, c6, c7, _⟩ := b4 y5
  obtain ⟨⟨ur, u⟩, v1, rfl, v3, v4, v5, v6⟩ := mEnd_e c7 c5 b2 y6
  refine ⟨nI sb, sI (sI (sI Y 16 0 11 b) 16 0 12 1) 0 0 19 0, u, ?_, ?_, recFin y3 y4 y5 c7 c5 (by rcases y6 with ⟨_, z⟩ | ⟨_, z⟩; exact Or.inr z; exact Or.inl z) v3 v4 v5 v6⟩
  · unfold fX11_recipe
    rw [e1, Option.bind_some, if_neg n1, e3, Option.bind_some, if_neg n1, e5, Option.bind_some, if_neg n1, w6, Option.bind_some, if_neg n1, hgrid, Option.bind_some, if_neg n1, x32, if_pos hset, hB, Option.bind_some]
    refine (congrArg (fun o => Option.bind o _) z1).trans ?_
    rw [Option.bind_some, A1, Option.bind_some, ck_t (by exact ixl (by omega) (by omega)), nI_cl (n := ch) (by omega), G1, Option.bind_some, ck_t (by exact ixl (by omega) (by omega)), nI_cl (n := cl) (by omega), s1, Option.bind_some]
    have y1' := y1
    unfold xLB at y1'
    rw [nI_cl (n := cl) (by omega)] at y1'
    refine (congrArg (fun o => Option.bind o _) y1').trans ?_
    rw [Option.bind_some, y2, Option.bind_some, xAccept, Option.bind_some]
    dsimp only [un2]
    rw [show gI (sI (sI (sI Y 16 0 11 b) 16 0 12 1) 0 0 19 0) 16 0 16 = nI sb from by rw [gI_sI, if_neg (by omega), gI_sI, if_neg (by omega), gI_sI, if_neg (by omega)]; exact c6]
  · unfold fX12_recipe
    rw [lt1_e, q2, e2, Option.bind_some, if_neg n1, q3, e4, Option.bind_some, if_neg n1, e6, Option.bind_some, if_neg n1, e7, Option.bind_some, if_neg n1, if_neg w3, if_neg w4, if_neg u3, if_neg u4, if_neg t3, if_neg t4, q4, if_pos hset, lt1_e, lt1_e, lt1_e, lt1_e, lt1_e, ← hm1, show (1 : Int32) + nI ch = nI (1 + ch) from nI_add 1 ch, hgoal, Option.bind_some, lt1_e, lt1_e, lt1_e, ← hm3, s2, Option.bind_some]
    refine (congrArg (fun o => Option.bind o _) r1e).trans ?_
    rw [Option.bind_some]
    exact v1
