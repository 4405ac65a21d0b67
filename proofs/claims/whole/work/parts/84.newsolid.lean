theorem gF_I (s : Sto) (f i j : Nat) (v : Int32) : gF (sI s f i j v) = gF s := rfl
theorem gD_I (s : Sto) (f i j : Nat) (v : Int32) : gD (sI s f i j v) = gD s := rfl
theorem gL_I (s : Sto) (f i j : Nat) (v : Int32) : gL (sI s f i j v) = gL s := rfl
theorem xSolid_ok {x m : Sto} {n c l e i u v w : Nat} (h : Rel x m) (hn : cN x 3 = n) (n12 : n < 12) (hc : c < cN x 0) (hth : fX11_isThere 0 (nI c) x = some 1) (hi : i < 2) (si : fX11_isWithin (nI i) 0 1 = some 1) (hl : l < 6) (he : e < 2) (so : fX9_isOne (nI l) (nI e) = some 1) (hu : 1 ≤ u ∧ u ≤ 1000 ∧ fX11_isWithin (nI u) 1 1000 = some 1) (hv : 1 ≤ v ∧ v ≤ 1000 ∧ fX11_isWithin (nI v) 1 1000 = some 1) (hw : 1 ≤ w ∧ w ≤ 1000 ∧ fX11_isWithin (nI w) 1 1000 = some 1) : ∃ x1, SameX x x1 ∧ fX11_solid (nI i) (nI c) (nI l) (nI e) (nI u) (nI v) (nI w) x = some (nI n, newS (solX x1 n i l e u v w (colV (fun k => gF x 20 c k) (Wt x l e))) ((iN x 18 0 2 + 1) % 60) (min (iN x 18 0 3 + 1) 60) 3 n) := by
  have n1 : ¬ (1 : Int32) = 0 := by decide
  obtain ⟨c1, _, _⟩ := rel_cnt h (k := 3) (by decide)
  rw [hn] at c1
  have hx := h.1.2.1
  have c40 : c < 40 := Nat.lt_of_lt_of_le hc (hx.1 0 (by decide)).2
  obtain ⟨x1, a1, a2, a3⟩ := xAimC h.2.2.2.1 hl he
  refine ⟨x1, a3, ?_⟩
  have hcol := xColR (f := 20) (i := c) (r := fun k => gF x 20 c k) a2 (if_pos c40) (fun k _ => (a3.2.2.1 20 c k (by decide)).symm) (fun k hk => (hx.2.1.1 c hc k hk).1)
  generalize hs : solX x1 n i l e u v w (colV (fun k => gF x 20 c k) (Wt x l e)) = x2
  have eI : ∀ f a b, f ≠ 26 → gI x2 f a b = gI x f a b := fun f a b q => by
    rw [← hs, solX_I (by omega), ← a3.1]
  have hr2 : RingOk x2 := ⟨isN_e (eI 18 0 2 (by decide)) h.1.1.1, isN_e (eI 18 0 3 (by decide)) h.1.1.2⟩
  have hnew := xNewOne (x := x2) (a := 3) (n := n) (by decide) hr2 ((eI 3 0 3 (by decide)).trans c1) (by omega)
  rw [iN_e (eI 18 0 2 (by decide)), iN_e (eI 18 0 3 (by decide))] at hnew
  unfold fX11_solid
  rw [hth, Option.bind_some, if_neg n1, si, Option.bind_some, if_neg n1, so, Option.bind_some, if_neg n1, hu.2.2, Option.bind_some, if_neg n1, hv.2.2, Option.bind_some, if_neg n1, hw.2.2, Option.bind_some, if_neg n1, c1, if_pos (show nI n < (12 : Int32) from (nI_ltJ (b := 12) (by omega) (by decide)).mpr n12), ck_t (by exact ixl (by omega) (by omega)), a1, Option.bind_some, ck_t (by exact ixl (by omega) (by omega)), nI_cl (n := c) (by omega), nI_cl (n := n) (by omega), hcol, Option.bind_some]
  dsimp only [un2]
  have l27 : lDX 27 n = 3 := if_pos n12
  have l28 : lDX 28 n = 3 := if_pos n12
  unfold fX10_begin
  rw [lt1_e, lt1_e, lt1_e, l27, ck_t (by decide), lt1_e, Option.bind_some]
  unfold fX10_setSizes
  rw [l28, show FP.ddiv (FP.i2d (nI u)) (4621819117588971520 : UInt64) = szV u from rfl, show FP.ddiv (FP.i2d (nI v)) (4621819117588971520 : UInt64) = szV v from rfl, show FP.ddiv (FP.i2d (nI w)) (4621819117588971520 : UInt64) = szV w from rfl, nd_t (szV_b hu.1 hu.2.1).2.1, ck_t (by decide), lt1_e, nd_t (szV_b hv.1 hv.2.1).2.1, ck_t (by decide), lt1_e, nd_t (szV_b hw.1 hw.2.1).2.1, ck_t (by decide), lt1_e, Option.bind_some]
  rw [show sD (sD (sD (cD (sI (sI (sI (putD x1 42 0 3 (colV (fun k => gF x 20 c k) (Wt x l e))) 26 n 0 (nI i)) 26 n 1 (nI l)) 26 n 2 (nI e)) 42 0 0 27 n 0 3) 28 n 0 (szV u)) 28 n 1 (szV v)) 28 n 2 (szV w) = x2 from hs, show fX11_newOne (3 : Int32) x2 = _ from hnew, Option.bind_some]
  rfl
theorem b_solid {x m : Sto} (h : Rel x m) (s c l e a b d : Int32) : ∃ r x' m', fX11_solid s c l e a b d x = some (r, x') ∧ fX12_solid s c l e a b d m = some (r, m') ∧ Rel x' m' := by
  have hx := h.1.2.1
  have hm := h.1.2.2.1
  have n1 : ¬ (1 : Int32) = 0 := by decide
  obtain ⟨c1, c2, cap⟩ := rel_cnt h (k := 3) (by decide)
  obtain ⟨d1, d2, cap0⟩ := rel_cnt h (k := 0) (by decide)
  obtain ⟨a1, a2⟩ := rel_acts h
  have cap : cN x 3 ≤ 12 := cap
  have cap0 : cN x 0 ≤ 40 := cap0
  have qd : gI (sI m 0 0 10 0) 0 0 2 = nI (cN x 0) := d2
  rcases both_is hx (a := 0) (by decide) c with ⟨cc, rfl, hcc, e1, e2⟩ | ⟨_, e1, e2⟩
  rotate_left
  · refine ⟨-1, _, _, ?_, ?_, rel_no (v := 2) h⟩
    · unfold fX11_solid
      rw [show fX11_isThere (0 : Int32) c x = some 0 from e1, Option.bind_some, if_pos rfl, xRefused, Option.bind_some]; rfl
    · unfold fX12_solid
      rw [lt1_e, qd, e2, Option.bind_some, if_pos rfl, mNo, Option.bind_some]; rfl
  have e1 : fX11_isThere (0 : Int32) (nI cc) x = some 1 := e1
  have HS := both_sort s
  have HO := both_one l e
  have HA := both_size a
  have HB := both_size b
  have HD := both_size d
  have xs : fX11_isWithin s 0 1 = some 1 ∨ fX11_isWithin s 0 1 = some 0 := HS.imp (fun ⟨_, _, _, q, _⟩ => q) (fun q => q.1)
  have ms : fX12_is s 2 = some 1 ∨ fX12_is s 2 = some 0 := HS.imp (fun ⟨_, _, _, _, q⟩ => q) (fun q => q.2)
  have xa : fX11_isWithin a 1 1000 = some 1 ∨ fX11_isWithin a 1 1000 = some 0 := HA.imp (fun ⟨_, _, _, _, q, _⟩ => q) (fun q => q.1)
  have ma : fX12_isSize a = some 1 ∨ fX12_isSize a = some 0 := HA.imp (fun ⟨_, _, _, _, _, q⟩ => q) (fun q => q.2)
  have xb : fX11_isWithin b 1 1000 = some 1 ∨ fX11_isWithin b 1 1000 = some 0 := HB.imp (fun ⟨_, _, _, _, q, _⟩ => q) (fun q => q.1)
  have mb : fX12_isSize b = some 1 ∨ fX12_isSize b = some 0 := HB.imp (fun ⟨_, _, _, _, _, q⟩ => q) (fun q => q.2)
  have xd : fX11_isWithin d 1 1000 = some 1 ∨ fX11_isWithin d 1 1000 = some 0 := HD.imp (fun ⟨_, _, _, _, q, _⟩ => q) (fun q => q.1)
  have md : fX12_isSize d = some 1 ∨ fX12_isSize d = some 0 := HD.imp (fun ⟨_, _, _, _, _, q⟩ => q) (fun q => q.2)
  have xo : fX9_isOne l e = some 1 ∨ fX9_isOne l e = some 0 := HO.imp (fun ⟨_, _, _, _, _, _, q, _⟩ => q) (fun q => q.1)
  have ml : fX12_is l 6 = some 1 ∨ fX12_is l 6 = some 0 := (mIs (n := 6) (by decide) l).imp (fun ⟨_, _, _, q⟩ => q) (fun q => q.2)
  have me : fX12_is e 2 = some 1 ∨ fX12_is e 2 = some 0 := (mIs (n := 2) (by decide) e).imp (fun ⟨_, _, _, q⟩ => q) (fun q => q.2)
  rcases HS with ⟨si, rfl, s1, s2, s3⟩ | ⟨q1, q2⟩
  rotate_left
  · exact ⟨-1, _, _, xSolid_bad e1 xs xo xa xb xd (Or.inl q1), mSolid_bad qd e2 ms ml me ma mb md (Or.inl q2), rel_no (v := 3) h⟩
  rcases HO with ⟨li, ei, rfl, rfl, l1, l2, l3, l4, l5⟩ | ⟨q1, q2⟩
  rotate_left
  · refine ⟨-1, _, _, xSolid_bad e1 xs xo xa xb xd (Or.inr (Or.inl q1)), mSolid_bad qd e2 ms ml me ma mb md ?_, rel_no (v := 3) h⟩
    rcases q2 with q2 | ⟨_, q2⟩
    · exact Or.inr (Or.inl q2)
    · exact Or.inr (Or.inr (Or.inl q2))
  rcases HA with ⟨u, rfl, u1, u2, u3, u4⟩ | ⟨q1, q2⟩
  rotate_left
  · exact ⟨-1, _, _, xSolid_bad e1 xs xo xa xb xd (Or.inr (Or.inr (Or.inl q1))), mSolid_bad qd e2 ms ml me ma mb md (Or.inr (Or.inr (Or.inr (Or.inl q2)))), rel_no (v := 3) h⟩
  rcases HB with ⟨v, rfl, v1, v2, v3, v4⟩ | ⟨q1, q2⟩
  rotate_left
  · exact ⟨-1, _, _, xSolid_bad e1 xs xo xa xb xd (Or.inr (Or.inr (Or.inr (Or.inl q1)))), mSolid_bad qd e2 ms ml me ma mb md (Or.inr (Or.inr (Or.inr (Or.inr (Or.inl q2))))), rel_no (v := 3) h⟩
  rcases HD with ⟨w, rfl, w1, w2, w3, w4⟩ | ⟨q1, q2⟩
  rotate_left
  · exact ⟨-1, _, _, xSolid_bad e1 xs xo xa xb xd (Or.inr (Or.inr (Or.inr (Or.inr q1)))), mSolid_bad qd e2 ms ml me ma mb md (Or.inr (Or.inr (Or.inr (Or.inr (Or.inr q2))))), rel_no (v := 3) h⟩
  have c2 : gI m 0 0 5 = nI (cN x 3) := c2
  have q5 : gI (sI m 0 0 10 0) 0 0 5 = nI (cN x 3) := c2
  by_cases en : cN x 3 = 12
  · refine ⟨-1, _, _, ?_, ?_, rel_no (v := 1) h⟩
    · unfold fX11_solid
      rw [e1, Option.bind_some, if_neg n1, s2, Option.bind_some, if_neg n1, l3, Option.bind_some, if_neg n1, u3, Option.bind_some, if_neg n1, v3, Option.bind_some, if_neg n1, w3, Option.bind_some, if_neg n1, c1, if_neg (show ¬ nI (cN x 3) < (12 : Int32) by rw [en]; decide), xRefused, Option.bind_some]; rfl
    · unfold fX12_solid
      rw [lt1_e, qd, e2, Option.bind_some, if_neg n1, s3, Option.bind_some, if_neg n1, u4, Option.bind_some, if_neg n1, v4, Option.bind_some, if_neg n1, w4, Option.bind_some, if_neg n1, l4, Option.bind_some, if_neg n1, l5, Option.bind_some, if_neg n1, q5, if_pos (show nI (cN x 3) = (12 : Int32) by rw [en]; rfl), mNo, Option.bind_some]; rfl
  · have n12 : cN x 3 < 12 := by omega
    have c40 : cc < 40 := by omega
    have fr : ∀ k, k < 16 → fl2 (gF x 20 cc k) := fun k hk => (hx.2.1.1 cc hcc k hk).1
    obtain ⟨x1, hS, hX⟩ := xSolid_ok h rfl n12 hcc e1 (show si < 2 by omega) s2 l1 l2 l3 ⟨u1, u2, u3⟩ ⟨v1, v2, v3⟩ ⟨w1, w2, w3⟩
    have hM := mSolid_ok (m := m) (n := cN x 3) (W := Wt x li ei) (r := fun k => gF x 20 cc k) (i := si) d2 e2 c40 (by omega) l1 l2 ⟨u1, u2, u4⟩ ⟨v1, v2, v4⟩ ⟨w1, w2, w4⟩ c2 n12 (mAimC h.2.2.2.1 l1 l2) (fun k hk => (hm.2.1 cc hcc k hk).1) fr a1 a2
    refine ⟨nI (cN x 3), _, _, hX, hM, ?_⟩
    have hcolb := fun k => (colV_b (W := Wt x li ei) fr (Wt_b h.2.2.2.1 l1 l2) k).1
    generalize colV (fun k => gF x 20 cc k) (Wt x li ei) = col at hcolb ⊢
    generalize hn : cN x 3 = n at n12 c1 c2 ⊢
    generalize hx2 : solX x1 n si li ei u v w col = x2
    have xI : ∀ f a b, ¬ (f = 26 ∧ a = n) → gI x2 f a b = gI x f a b := fun f a b q => by
      rw [← hx2, solX_I q, ← hS.1]
    have xF : ∀ f a b, f ≠ 44 → gF x2 f a b = gF x f a b := fun f a b q => by
      rw [← hx2]; exact (hS.2.2.1 f a b q).symm
    have xL : gL x2 = gL x := by rw [← hx2]; exact hS.2.1.symm
    have xD : ∀ f a b, f ≠ 14 → f ≠ 39 → f ≠ 40 → f ≠ 41 → f ≠ 42 → f ≠ 43 → ¬ ((f = 27 ∨ f = 28) ∧ a = n) → gD x2 f a b = gD x f a b := fun f a b q1 q2 q3 q4 q5 q6 q7 => by
      rw [← hx2, solX_g q5 q7]; exact (hS.2.2.2 f a b q1 q2 q3 q4 q5 q6).symm
    have y26 := solX_26 (x1 := x1) (n := n) (i := si) (l := li) (e := ei) (u := u) (v := v) (w := w) (col := col)
    have y27 := fun k (hk : k < 3) => solX_27 (x1 := x1) (n := n) (i := si) (l := li) (e := ei) (u := u) (v := v) (w := w) (col := col) hk
    rw [hx2] at y26 y27
    have sz3_b : ∀ k, 1 ≤ sz3 u v w k ∧ sz3 u v w k ≤ 1000 := fun k => by unfold sz3; split <;> (try split) <;> omega
    generalize hMM : sI (sI (sI (sI m 0 0 10 0) 34 0 n (nI si)) 35 0 n (nI li)) 36 0 n (nI ei) = M
    have MF : gF M = gF m := by rw [← hMM]; rfl
    have ML : gL M = gL m := by rw [← hMM]; rfl
    have MD : gD M = gD m := by rw [← hMM]; rfl
    have MI : ∀ f a b, ¬ (f = 0 ∧ b = 10) → ¬ ((34 ≤ f ∧ f ≤ 36) ∧ b = n) → gI M f a b = gI m f a b := fun f a b q1 q2 => by
      rw [← hMM, gI_sI, if_neg (by omega), gI_sI, if_neg (by omega), gI_sI, if_neg (by omega), gI_sI, if_neg (by omega)]
    have M34 : gI M 34 0 n = nI si ∧ gI M 35 0 n = nI li ∧ gI M 36 0 n = nI ei := by
      rw [← hMM]
      refine ⟨?_, ?_, ?_⟩ <;> simp [gI_sI]
    generalize hm1 : sI (solM M n u v w col 3) 0 0 5 (nI (n + 1)) = m1
    have mI : ∀ f a b, ¬ (f = 0 ∧ (b = 5 ∨ b = 10)) → ¬ ((34 ≤ f ∧ f ≤ 36) ∧ b = n) → gI m1 f a b = gI m f a b := fun f a b q1 q2 => by
      rw [← hm1, gI_sI, if_neg (by omega), (solM_I 3).1]
      exact MI f a b (by omega) q2
    have mF : gF m1 = gF m := by rw [← hm1, gF_I, (solM_I 3).2.1, MF]
    have mL : gL m1 = gL m := by rw [← hm1, gL_I, (solM_I 3).2.2, ML]
    have mD : ∀ f a b, ¬ ((f = 37 ∨ f = 38) ∧ 3 * n ≤ b ∧ b < 3 * n + 3) → gD m1 f a b = gD m f a b := fun f a b q => by
      rw [← hm1, gD_I, solM_g 3 q, MD]
    have m34 : gI m1 34 0 n = nI si ∧ gI m1 35 0 n = nI li ∧ gI m1 36 0 n = nI ei := by
      rw [← hm1, gI_sI, if_neg (by omega), gI_sI, if_neg (by omega), gI_sI, if_neg (by omega), (solM_I 3).1]
      exact M34
    have m37 : ∀ k, k < 3 → gD m1 37 0 (3 * n + k) = col k ∧ gD m1 38 0 (3 * n + k) = szV (sz3 u v w k) := fun k hk => by
      rw [← hm1, gD_I]
      exact solM_h 3 hk
    have yI : ∀ j, gI (newS x2 ((iN x 18 0 2 + 1) % 60) (min (iN x 18 0 3 + 1) 60) 3 n) 26 n j = gI x2 26 n j := fun j => newS_I (by omega)
    refine rel_new (by decide) h hn (show n < 12 from n12) ?_ (fun i j => xF 21 i j (by decide)) (fun k => xI 3 0 k (by omega)) (fun v k => xI 55 v k (by omega)) (fun v k => xF 57 v k (by decide)) ⟨fun f i j q => xI f i j (by omega), fun f i j q => xF f i j (by omega), fun f i j q => xD f i j (by omega) (by omega) (by omega) (by omega) (by omega) (by omega) (by omega), xL⟩ ?_ ?_ ?_ ⟨fun f i j q => mI f i j (by omega) (by omega), fun j q => by rw [mF], mD 0 0 64 (by omega), by rw [mL]⟩ (fun f i q1 q2 => mI f 0 i (by omega) (by omega)) (fun f i q => by rw [mF]) ?_
    · refine six (P := fun k => ∀ i, i < cN x k → eqX k x x2 i) (fun i hi k _ => ⟨xF _ _ _ (by decide), xF _ _ _ (by decide)⟩) (fun i hi k _ => xF _ _ _ (by decide)) (fun i hi => ⟨fun j _ => xI _ _ _ (by omega), fun s _ => ⟨xI _ _ _ (by omega), fun k _ => xD _ _ _ (by decide) (by decide) (by decide) (by decide) (by decide) (by decide) (by omega)⟩⟩) (fun i hi => ?_) (fun i hi j _ => xI _ _ _ (by omega)) (fun i hi => ⟨xI _ _ _ (by omega), xI _ _ _ (by omega), xI _ _ _ (by omega), xI _ _ _ (by omega), fun k _ => ⟨xI _ _ _ (by omega), xI _ _ _ (by omega)⟩, fun _ k _ => xF _ _ _ (by decide)⟩)
      exact ⟨fun j _ => xI _ _ _ (by omega), fun k _ => ⟨xD _ _ _ (by decide) (by decide) (by decide) (by decide) (by decide) (by decide) (by omega), xD _ _ _ (by decide) (by decide) (by decide) (by decide) (by decide) (by decide) (by omega)⟩⟩
    · refine ⟨(isN_v ((yI 0).trans y26.1) s1 (by decide)).2, (isN_v (b := 5) ((yI 1).trans y26.2.1) (by omega) (by decide)).2, (isN_v (b := 1) ((yI 2).trans y26.2.2) (by omega) (by decide)).2, fun k hk => ⟨?_, sz3 u v w k, (sz3_b k).1, (sz3_b k).2, ?_⟩⟩
      · show mg 1060 (gD x2 27 n k)
        rw [(y27 k hk).1]; exact hcolb k
      · exact (y27 k hk).2
    · refine six (P := fun k => ∀ i, i < cN x k → CM k x m m1 i) (fun i hi k _ => by rw [mF]; exact ⟨rfl, rfl⟩) (fun i hi k _ => by rw [mF]) (fun i hi => ⟨mI _ _ _ (by omega) (by omega), mI _ _ _ (by omega) (by omega), mI _ _ _ (by omega) (by omega), fun s _ => ⟨mI _ _ _ (by omega) (by omega), fun _ _ => by rw [mF]⟩⟩) (fun i hi => ?_) (fun i hi => ⟨mI _ _ _ (by omega) (by omega), mI _ _ _ (by omega) (by omega), mI _ _ _ (by omega) (by omega), mI _ _ _ (by omega) (by omega), mI _ _ _ (by omega) (by omega)⟩) (fun i hi => ⟨mI _ _ _ (by omega) (by omega), mI _ _ _ (by omega) (by omega), mI _ _ _ (by omega) (by omega), mI _ _ _ (by omega) (by omega), fun _ _ => ⟨mI _ _ _ (by omega) (by omega), mI _ _ _ (by omega) (by omega)⟩, fun _ _ _ => by rw [mF]⟩)
      exact ⟨mI _ _ _ (by omega) (by omega), mI _ _ _ (by omega) (by omega), mI _ _ _ (by omega) (by omega), fun k hk => ⟨mD _ _ _ (by omega), mD _ _ _ (by omega)⟩⟩
    · intro k hk
      have ek := cM_v k hk
      by_cases e : k = 3
      · subst e; rw [if_pos rfl, ← hm1]; rfl
      · rw [if_neg e]
        exact mI 0 0 _ (by omega) (by omega)
    · refine ⟨?_, ?_, ?_, fun k hk => ?_⟩
      · rw [actS_I (by decide) (by omega), yI, y26.1]; exact m34.1
      · rw [actS_I (by decide) (by omega), yI, y26.2.1]; exact m34.2.1
      · rw [actS_I (by decide) (by omega), yI, y26.2.2]; exact m34.2.2
      · rw [actS_D.1]
        exact ⟨(m37 k hk).1.trans (y27 k hk).1.symm, (m37 k hk).2.trans (y27 k hk).2.symm⟩
