/-! ===== bands, colours, distances ===== -/
theorem b_band {x m : Sto} (h : Rel x m) (s i k : Int32) : ∃ r m', fX11_band s i k x = some r ∧ fX12_band s i k m = some (r, m') ∧ Rel x m' := by
  have hx := h.1.2.1
  have hm := h.1.2.2.1
  have n1 : ¬ (1 : Int32) = 0 := by decide
  have key : ∀ r : Int32, fX11_band s i k x = some r → fX12_band s i k m = some (r, sI m 0 0 10 0) → ∃ r m', fX11_band s i k x = some r ∧ fX12_band s i k m = some (r, m') ∧ Rel x m' := fun r p q => ⟨r, _, p, q, rel_th h⟩
  have q0 : gI (sI m 0 0 10 0) 0 0 2 = nI (cN x 0) := (rel_cnt h (k := 0) (by decide)).2.1
  have b0 : cN x 0 ≤ 40 := (hx.1 0 (by decide)).2
  have bad : (∀ j, j < 16 → k ≠ nI j) → (if k < 0 then some (0 : Int32) else if k < (16 : Int32) then (none : Option Int32) else some (0 : Int32)) = some 0 ∧ (k < 0 ∨ (¬ k < 0 ∧ ¬ k < (16 : Int32))) := fun q => by
    rcases pk_ix k (n := 16) (by decide) with z | z | ⟨j, z1, z2⟩
    · exact ⟨if_pos z, Or.inl z⟩
    · have z0 : ¬ k < 0 := fun w => by
        have h1 := Int32.le_iff_toInt_le.mp z
        have h2 := Int32.lt_iff_toInt_lt.mp w
        rw [nI_toInt (by decide)] at h1
        rw [show (0 : Int32).toInt = 0 from rfl] at h2
        omega
      have z3 : ¬ k < (16 : Int32) := fun w => by
        have h1 := Int32.le_iff_toInt_le.mp z
        have h2 := Int32.lt_iff_toInt_lt.mp w
        rw [nI_toInt (by decide)] at h1
        rw [show (16 : Int32).toInt = 16 from rfl] at h2
        omega
      exact ⟨by rw [if_neg z0, if_neg z3], Or.inr ⟨z0, z3⟩⟩
    · exact absurd z2 (q j z1)
  rcases mIs (n := 16) (by decide) k with ⟨k, rfl, hk, ek⟩ | ⟨q, ek⟩
  rotate_left
  · have ek : fX12_is k (16 : Int32) = some 0 := ek
    have hb := (bad q).2
    refine key 0 ?_ ?_
    · unfold fX11_band
      by_cases s4 : s = 4
      · rw [if_pos s4]
        unfold fX11_driftOf
        rcases xThere hx (a := 0) (by decide) i with ⟨c, rfl, hc, e1⟩ | ⟨_, e1⟩
        · rw [show fX11_isThere (0 : Int32) (nI c) x = some 1 from e1, Option.bind_some, if_neg n1, ck_t (by exact ixl (by omega) (by omega)), Option.bind_some]
          show (if k < 0 then _ else _) = _
          rcases hb with hb | ⟨hb, hb'⟩
          · rw [if_pos hb]
          · rw [if_neg hb, if_neg hb']
        · rw [show fX11_isThere (0 : Int32) i x = some 0 from e1, Option.bind_some, if_pos rfl, Option.bind_some]; rfl
      · rw [if_neg s4]
        rcases both_spec h s i with ⟨f, j, p, e1, _⟩ | ⟨e1, _⟩
        · rw [e1, Option.bind_some]
          show (if k < 0 then _ else _) = _
          rcases hb with hb | ⟨hb, hb'⟩
          · rw [if_pos hb]
          · rw [if_neg hb, if_neg hb']
        · rw [e1, Option.bind_some]; rfl
    · unfold fX12_band
      rw [lt1_e, ek, Option.bind_some, if_pos rfl]
  have ek : fX12_is (nI k) (16 : Int32) = some 1 := ek
  have k0 := nI_lt0 (a := k) (by omega)
  have k16 : nI k < (16 : Int32) := (nI_ltJ (b := 16) (by omega) (by decide)).mpr hk
  by_cases s4 : s = 4
  · subst s4
    rcases both_is hx (a := 0) (by decide) i with ⟨c, rfl, hc, e1, e2⟩ | ⟨_, e1, e2⟩
    · obtain ⟨_, v1, v2, v3, v4, _⟩ := hx.2.1.1 c hc k hk
      obtain ⟨f1, f2, f3⟩ := fbits (mg_mono v2 (by decide)) v3
      rw [v4] at f1 f3
      refine key (gF x 21 c k).toInt32 ?_ ?_
      · unfold fX11_band fX11_driftOf
        rw [if_pos rfl, show fX11_isThere (0 : Int32) (nI c) x = some 1 from e1, Option.bind_some, if_neg n1, ck_t (by exact ixl (by omega) (by omega)), Option.bind_some, nI_cl (n := c) (by omega)]
        show (if nI k < 0 then _ else _) = _
        rw [if_neg k0, if_pos k16, show lFX 21 c = 16 from if_pos (by omega), ck_t (by exact ixc hk (by decide)), nI_cl (by omega), nd_t (mg_n64 v2 (by decide)), f1, Option.bind_some]
      · have e16 : ((16 : Int32) * nI c) + nI k = nI (16 * c + k) := by
          show nI 16 * nI c + nI k = _
          simp only [pk_mul, nI_add]
        have ed : gF (sI m 0 0 10 0) 2 0 (16 * c + k) = gF x 21 c k := (hm.2.1 c hc k hk).2
        unfold fX12_band
        rw [lt1_e, ek, Option.bind_some, if_neg n1, if_pos rfl, q0, e2, Option.bind_some, if_neg n1, e16, show lFM 2 0 = 640 from rfl, ck_t (by exact ixl (by omega) (by omega)), nI_cl (by omega), ed, f3, Option.bind_some]
    · refine key 0 ?_ ?_
      · unfold fX11_band fX11_driftOf
        rw [if_pos rfl, show fX11_isThere (0 : Int32) i x = some 0 from e1, Option.bind_some, if_pos rfl, Option.bind_some]; rfl
      · unfold fX12_band
        rw [lt1_e, ek, Option.bind_some, if_neg n1, if_pos rfl, q0, e2, Option.bind_some, if_pos rfl]
  · rcases both_spec h s i with ⟨f, j, p, e1, e2, hp, hl, hs, _, _⟩ | ⟨e1, e2, _⟩
    · obtain ⟨v1, v2⟩ := hs k hk
      obtain ⟨f0, f1, f3⟩ := fbits_fl2 v1
      refine key (gF x f j k).toInt32 ?_ ?_
      · unfold fX11_band
        rw [if_neg s4, e1, Option.bind_some]
        show (if nI k < 0 then _ else _) = _
        rw [if_neg k0, if_pos k16, hl, ck_t (by exact ixc hk (by decide)), nI_cl (by omega), nd_t f0, f1, Option.bind_some]
      · have e16 : ((16 : Int32) * nI p) + nI k = nI (16 * p + k) := by
          show nI 16 * nI p + nI k = _
          simp only [pk_mul, nI_add]
        have ed : gF (sI m 0 0 10 0) 1 0 (16 * p + k) = gF x f j k := v2
        unfold fX12_band
        rw [lt1_e, ek, Option.bind_some, if_neg n1, if_neg s4, e2, Option.bind_some, if_neg (show ¬ nI p = (-1 : Int32) from fun z => by
          have := congrArg Int32.toInt z
          rw [nI_toInt (by omega), show (-1 : Int32).toInt = -1 from rfl] at this
          omega), e16, show lFM 1 0 = 2176 from rfl, ck_t (by exact ixl (by omega) (by omega)), nI_cl (by omega), ed, f3, Option.bind_some]
    · refine key 0 ?_ ?_
      · unfold fX11_band
        rw [if_neg s4, e1, Option.bind_some]; rfl
      · unfold fX12_band
        rw [lt1_e, ek, Option.bind_some, if_neg n1, if_neg s4, e2, Option.bind_some, if_pos rfl]
theorem rel_S {x y m : Sto} (h : Rel x m) (k : SameX x y) : Rel y m := ⟨RelC_keep (KX_S k) (KM_r m) h.1, by rw [h.2.1, k.1], Cur_f (SCX_S k) (SCM_r m) h.2.2⟩
theorem b_colour {x m : Sto} (h : Rel x m) (s i l e k : Int32) : ∃ r x' m', fX11_colour s i l e k x = some (r, x') ∧ fX12_colour s i l e k m = some (r, m') ∧ Rel x' m' := by
  have n1 : ¬ (1 : Int32) = 0 := by decide
  have no : fX11_colour s i l e k x = some (0, x) → fX12_colour s i l e k m = some (0, sI m 0 0 10 0) → ∃ r x' m', fX11_colour s i l e k x = some (r, x') ∧ fX12_colour s i l e k m = some (r, m') ∧ Rel x' m' := fun p q => ⟨0, _, _, p, q, rel_th h⟩
  rcases both_spec h s i with ⟨f, j, p, e1, e2, hp, hl, hs, hf, _⟩ | ⟨e1, e2, _⟩
  rotate_left
  · refine no ?_ ?_
    · unfold fX11_colour
      rw [e1, Option.bind_some]; rfl
    · unfold fX12_colour
      rw [lt1_e, e2, Option.bind_some, if_pos rfl]
  have np : ¬ nI p = (-1 : Int32) := fun z => by
    have := congrArg Int32.toInt z
    rw [nI_toInt (by omega), show (-1 : Int32).toInt = -1 from rfl] at this
    omega
  rcases both_one l e with ⟨li, ei, rfl, rfl, l1, l2, l3, l4, l5⟩ | ⟨q1, q2⟩
  rotate_left
  · refine no ?_ ?_
    · unfold fX11_colour
      rw [e1, Option.bind_some]
      rw [oq_e1]
      rw [q1, Option.bind_some, if_pos rfl]
    · unfold fX12_colour
      rw [lt1_e, e2, Option.bind_some, if_neg np]
      rcases q2 with q2 | ⟨q2, q3⟩
      · rw [q2, Option.bind_some, if_pos rfl]
      · rw [q2, Option.bind_some, if_neg n1, q3, Option.bind_some, if_pos rfl]
  rcases mIs (n := 3) (by decide) k with ⟨k, rfl, hk, ek⟩ | ⟨q, ek⟩
  rotate_left
  · refine no ?_ ?_
    · unfold fX11_colour
      rw [e1, Option.bind_some]
      rw [oq_e1]
      rw [l3, Option.bind_some, if_neg n1]
      rcases pk_ix k (n := 3) (by decide) with z | z | ⟨j, z1, z2⟩
      · rw [if_pos z]
      · have z0 : ¬ k < 0 := fun w => by
          have h1 := Int32.le_iff_toInt_le.mp z
          have h2 := Int32.lt_iff_toInt_lt.mp w
          rw [nI_toInt (by decide)] at h1
          rw [show (0 : Int32).toInt = 0 from rfl] at h2
          omega
        have z3 : ¬ k < (3 : Int32) := fun w => by
          have h1 := Int32.le_iff_toInt_le.mp z
          have h2 := Int32.lt_iff_toInt_lt.mp w
          rw [nI_toInt (by decide)] at h1
          rw [show (3 : Int32).toInt = 3 from rfl] at h2
          omega
        rw [if_neg z0, if_neg z3]
      · exact absurd z2 (q j z1)
    · unfold fX12_colour
      rw [lt1_e, e2, Option.bind_some, if_neg np, l4, Option.bind_some, if_neg n1, l5, Option.bind_some, if_neg n1, show fX12_is k (3 : Int32) = some 0 from ek, Option.bind_some, if_pos rfl]
  obtain ⟨x1, a1, a2, a3⟩ := xAimC h.2.2.2.1 l1 l2
  have fr : ∀ q, q < 16 → fl2 (gF x f j q) := fun q hq => (hs q hq).1
  have hcol := xColR (r := fun q => gF x f j q) a2 hl (fun q _ => (a3.2.2.1 f j q hf).symm) fr
  have hmc := mColR (p := p) (st := sI m 0 0 10 0) (r := fun q => gF x f j q) (by omega) l1 l2 hk (mAimC h.2.2.2.1 l1 l2) (fun q hq => (hs q hq).2) fr
  obtain ⟨c1, c2⟩ := colV_b (r := fun q => gF x f j q) (W := Wt x li ei) fr (Wt_b h.2.2.2.1 l1 l2) k
  obtain ⟨d1, d2⟩ := dbits (mg_mono c1 (by decide)) c2
  refine ⟨(colV (fun q => gF x f j q) (Wt x li ei) k).toInt64, putD x1 42 0 3 (colV (fun q => gF x f j q) (Wt x li ei)), sI m 0 0 10 0, ?_, ?_, rel_th (rel_S h (SameX_t a3 (SameX_pD (by decide))))⟩
  · unfold fX11_colour
    rw [e1, Option.bind_some]
    rw [oq_e1]
    rw [l3, Option.bind_some, if_neg n1, if_neg (nI_lt0 (by omega)), if_pos (show nI k < (3 : Int32) from (nI_ltJ (b := 3) (by omega) (by decide)).mpr hk), a1, Option.bind_some, hcol, Option.bind_some]
    dsimp only [un2]
    rw [show lDX 42 0 = 3 from rfl, ck_t (by exact ixc hk (by decide)), nI_cl (by omega), putD_h hk, d1, Option.bind_some]
  · unfold fX12_colour
    rw [lt1_e, e2, Option.bind_some, if_neg np, l4, Option.bind_some, if_neg n1, l5, Option.bind_some, if_neg n1, show fX12_is (nI k) (3 : Int32) = some 1 from ek, Option.bind_some, if_neg n1, hmc, Option.bind_some, d2, Option.bind_some]
/-- the measure of both -/
theorem cur_meas {x m : Sto} (hB : CurB x m) : pw 1031 (gD x 13 0 2) ∧ pw 1031 (gD x 13 0 3) ∧ pw 1031 (gD x 13 0 4) ∧ FP.i2d (gI m 29 0 0) = gD x 13 0 2 ∧ FP.i2d (gI m 29 0 1) = gD x 13 0 3 ∧ FP.i2d (gI m 29 0 2) = gD x 13 0 4 := by
  have g : ∀ j, j < 3 → pw 1031 (gD x 13 0 (2 + j)) ∧ FP.i2d (gI m 29 0 j) = gD x 13 0 (2 + j) := fun j hj => by
    obtain ⟨n, n1, n2, n3, n4⟩ := hB.2.2 j hj
    rw [n3, n4]
    obtain ⟨f, u⟩ := i2d_nI (n := n) (by omega)
    exact ⟨pw_mono (iv_pw (c := 100) (j := 7) ⟨by rw [u]; exact Nat.mul_le_mul_right _ n2, f⟩ (by decide)) (by decide), rfl⟩
  exact ⟨(g 0 (by decide)).1, (g 1 (by decide)).1, (g 2 (by decide)).1, (g 0 (by decide)).2, (g 1 (by decide)).2, (g 2 (by decide)).2⟩
/-- a gap under a light for an eye, of two spectra -/
def gapO (x : Sto) (l e : Nat) (r s : Nat → UInt32) : UInt64 := gapV (gD x 13 0 2) (gD x 13 0 3) (gD x 13 0 4) (colV r (Wt x l e)) (colV s (Wt x l e))
theorem gapO_b {x m : Sto} {l e : Nat} {r s : Nat → UInt32} (hB : CurB x m) (hl : l < 6) (he : e < 2) (hr : ∀ k, k < 16 → fl2 (r k)) (hs : ∀ k, k < 16 → fl2 (s k)) : pw 1116 (gapO x l e r s) ∧ gapO x l e s r = gapO x l e r s := by
  obtain ⟨a1, a2, a3, _⟩ := cur_meas hB
  have hW := Wt_b hB hl he
  obtain ⟨b1, b2, _⟩ := gapV_b a1 a2 a3 (fun k _ => (colV_b hr hW k).1) (fun k _ => (colV_b hs hW k).1)
  exact ⟨b2, b1⟩
theorem xGapR {x0 x m : Sto} {l e f i : Nat} {g r : Nat → UInt32} (hB : CurB x0 m) (hl6 : l < 6) (he : e < 2) (hS : SameX x0 x) (ha : Aim x (Wt x0 l e)) (hl : lFX f i = 16) (h : ∀ k, k < 16 → gF x f i k = r k) (hr : ∀ k, k < 16 → fl2 (r k)) (hg : ∀ k, k < 3 → gD x 41 0 k = colV g (Wt x0 l e) k) (hgf : ∀ k, k < 16 → fl2 (g k)) : fX9_gapTo f i x = some (gapO x0 l e g r, putD x 42 0 3 (colV r (Wt x0 l e))) := by
  obtain ⟨a1, a2, a3, _⟩ := cur_meas hB
  have hW := Wt_b hB hl6 he
  have hr2 : ∀ k, k < 16 → fl2 (gF x f i k) := fun k hk => by rw [h k hk]; exact hr k hk
  have e13 : ∀ j, gD x 13 0 j = gD x0 13 0 j := fun j => (hS.2.2.2 13 0 j (by decide) (by decide) (by decide) (by decide) (by decide) (by decide)).symm
  have hh := xGap (g := colV g (Wt x0 l e)) (a := gD x0 13 0 2) (b := gD x0 13 0 3) (c := gD x0 13 0 4) ha hl hr2 (fun k hk => ⟨hg k hk, (colV_b hgf hW k).1⟩) ⟨e13 2, a1⟩ ⟨e13 3, a2⟩ ⟨e13 4, a3⟩
  rw [hh]
  have e1 : colV (fun k => gF x f i k) (Wt x0 l e) = colV r (Wt x0 l e) := funext fun k => colV_e h k
  rw [e1]; rfl
theorem mFromR {x m st : Sto} {l e p : Nat} {g r : Nat → UInt32} (hB : CurB x m) (hl6 : l < 6) (he : e < 2) (hp : p < 136) (hI : ∀ f i j, 27 ≤ f → f ≤ 29 → gI st f i j = gI m f i j) (h : ∀ k, k < 16 → gF st 1 0 (16 * p + k) = r k) (hr : ∀ k, k < 16 → fl2 (r k)) (hg : ∀ k, k < 3 → gD st 46 0 k = colV g (Wt x l e) k) (hgf : ∀ k, k < 16 → fl2 (g k)) : fX12_fromTo (nI p) (nI l) (nI e) st = some (gapO x l e r g) := by
  obtain ⟨a1, a2, a3, a4, a5, a6⟩ := cur_meas hB
  have hW := Wt_b hB hl6 he
  have hA : MAim st l e (Wt x l e) := by
    obtain ⟨L, E, p1, p2, p3⟩ := mAimC hB hl6 he
    exact ⟨L, E, fun q hq => by rw [hI 27 0 _ (by decide) (by decide)]; exact p1 q hq, fun a ha q hq => by rw [hI 28 0 _ (by decide) (by decide)]; exact p2 a ha q hq, p3⟩
  have hr2 : ∀ k, k < 16 → fl2 (gF st 1 0 (16 * p + k)) := fun k hk => by rw [h k hk]; exact hr k hk
  have hh := mFromTo (g := colV g (Wt x l e)) (a := gD x 13 0 2) (b := gD x 13 0 3) (c := gD x 13 0 4) hp hl6 he hA hr2 (fun k hk => ⟨hg k hk, (colV_b hgf hW k).1⟩) ⟨by rw [hI 29 0 0 (by decide) (by decide)]; exact a4, a1⟩ ⟨by rw [hI 29 0 1 (by decide) (by decide)]; exact a5, a2⟩ ⟨by rw [hI 29 0 2 (by decide) (by decide)]; exact a6, a3⟩
  rw [hh]
  have e1 : colV (fun k => gF st 1 0 (16 * p + k)) (Wt x l e) = colV r (Wt x l e) := funext fun k => colV_e h k
  rw [e1]; rfl
theorem mGoalR {x m st : Sto} {l e p : Nat} {g : Nat → UInt32} (hB : CurB x m) (hl6 : l < 6) (he : e < 2) (hp : p < 136) (hI : ∀ f i j, 27 ≤ f → f ≤ 28 → gI st f i j = gI m f i j) (h : ∀ k, k < 16 → gF st 1 0 (16 * p + k) = g k) (hg : ∀ k, k < 16 → fl2 (g k)) : fX12_goalIs (nI p) (nI l) (nI e) st = some (putD st 46 0 3 (colV g (Wt x l e))) := by
  have hA : MAim st l e (Wt x l e) := by
    obtain ⟨L, E, p1, p2, p3⟩ := mAimC hB hl6 he
    exact ⟨L, E, fun q hq => by rw [hI 27 0 _ (by decide) (by decide)]; exact p1 q hq, fun a ha q hq => by rw [hI 28 0 _ (by decide) (by decide)]; exact p2 a ha q hq, p3⟩
  rw [mGoal hp hl6 he hA (fun k hk => by rw [h k hk]; exact hg k hk)]
  exact congrArg some (putD_e fun k _ => colV_e h k)
theorem xChipGap {x0 x m : Sto} {a b l e : Nat} (hB : CurB x0 m) (hx : CoreOk x0) (hS : SameX x0 x) (ha : a < cN x0 0) (hb : b < cN x0 0) (hl : l < 6) (he : e < 2) : ∃ x', fX11_chipGap (nI a) (nI b) (nI l) (nI e) x = some (gapO x0 l e (fun k => gF x0 20 a k) (fun k => gF x0 20 b k), x') ∧ SameX x0 x' := by
  have b0 : cN x0 0 ≤ 40 := (hx.1 0 (by decide)).2
  have hB2 : CurB x m := by
    have e1 : gI x = gI x0 := hS.1.symm
    have e13 : ∀ j, gD x 13 0 j = gD x0 13 0 j := fun j => (hS.2.2.2 13 0 j (by decide) (by decide) (by decide) (by decide) (by decide) (by decide)).symm
    obtain ⟨p1, p2, p3⟩ := hB
    refine ⟨fun l k hl hk => ?_, fun e a k he ha hk => ?_, fun j hj => ?_⟩
    · rw [e1]; exact ⟨isN_e (by rw [e1]) (p1 l k hl hk).1, (p1 l k hl hk).2⟩
    · rw [e1]; exact ⟨isN_e (by rw [e1]) (p2 e a k he ha hk).1, (p2 e a k he ha hk).2⟩
    · rw [e13]; exact p3 j hj
  have eW : Wt x l e = Wt x0 l e := by
    unfold Wt iN
    rw [hS.1]
  obtain ⟨x1, a1, a2, a3⟩ := xAimC hB2 hl he
  rw [eW] at a2
  have hS1 := SameX_t hS a3
  have f1 : ∀ c, c < cN x0 0 → ∀ k, k < 16 → fl2 (gF x0 20 c k) := fun c hc k hk => (hx.2.1.1 c hc k hk).1
  have r1 : ∀ c, ∀ k, k < 16 → gF x1 20 c k = gF x0 20 c k := fun c k _ => (hS1.2.2.1 20 c k (by decide)).symm
  obtain ⟨x2, g1, g2, g3, g4⟩ := xGoal (f := 20) (i := a) a2 (if_pos (by omega)) (fun k hk => by rw [r1 a k hk]; exact f1 a ha k hk)
  have hS2 := SameX_t hS1 g3
  have hgap := xGapR (g := fun k => gF x0 20 a k) (r := fun k => gF x0 20 b k) (f := 20) (i := b) hB hl he hS2 g2 (if_pos (by omega)) (fun k _ => (hS2.2.2.1 20 b k (by decide)).symm) (f1 b hb) (fun k hk => by rw [g4 k hk]; exact colV_e (r1 a) k) (f1 a ha)
  refine ⟨putD x2 42 0 3 (colV (fun k => gF x0 20 b k) (Wt x0 l e)), ?_, SameX_t hS2 (SameX_pD (f := 42) (by decide))⟩
  unfold fX11_chipGap
  rw [a1, Option.bind_some, ck_t (by exact ixl (by omega) (by omega)), nI_cl (n := a) (by omega), g1, Option.bind_some, ck_t (by exact ixl (by omega) (by omega)), nI_cl (n := b) (by omega), hgap, Option.bind_some]
  rfl
theorem pw_dbits {v : UInt64} (h : pw 1116 v) : fX7_doubleBits v = some v.toInt64 ∧ fmJxe99ae_doubleToLongBits_ccdee v = some v.toInt64 := by
  have hv : v.toNat < 1116 * 2 ^ 52 := h
  exact dbits (pw_mg (pw_mono h (by decide)) (by decide)) (by unfold nm0; omega)
theorem b_distance {x m : Sto} (h : Rel x m) (a b l e : Int32) : ∃ r x' m', fX11_distance a b l e x = some (r, x') ∧ fX12_distance a b l e m = some (r, m') ∧ Rel x' m' := by
  have hx := h.1.2.1
  have hm := h.1.2.2.1
  have hB := h.2.2.2.1
  have n1 : ¬ (1 : Int32) = 0 := by decide
  have b0 : cN x 0 ≤ 40 := (hx.1 0 (by decide)).2
  have q0 : gI (sI m 0 0 10 0) 0 0 2 = nI (cN x 0) := (rel_cnt h (k := 0) (by decide)).2.1
  have no : fX11_distance a b l e x = some (-1, x) → fX12_distance a b l e m = some (-1, sI m 0 0 10 0) → ∃ r x' m', fX11_distance a b l e x = some (r, x') ∧ fX12_distance a b l e m = some (r, m') ∧ Rel x' m' := fun p q => ⟨-1, _, _, p, q, rel_th h⟩
  rcases both_is hx (a := 0) (by decide) a with ⟨i, rfl, hi, e1, e2⟩ | ⟨_, e1, e2⟩
  rotate_left
  · refine no ?_ ?_
    · unfold fX11_distance
      rw [show fX11_isThere (0 : Int32) a x = some 0 from e1, Option.bind_some, if_pos rfl]
    · unfold fX12_distance
      rw [lt1_e, q0, e2, Option.bind_some, if_pos rfl]
  have e1 : fX11_isThere (0 : Int32) (nI i) x = some 1 := e1
  rcases both_is hx (a := 0) (by decide) b with ⟨j, rfl, hj, f1, f2⟩ | ⟨_, f1, f2⟩
  rotate_left
  · refine no ?_ ?_
    · unfold fX11_distance
      rw [e1, Option.bind_some, if_neg n1, show fX11_isThere (0 : Int32) b x = some 0 from f1, Option.bind_some, if_pos rfl]
    · unfold fX12_distance
      rw [lt1_e, q0, e2, Option.bind_some, if_neg n1, f2, Option.bind_some, if_pos rfl]
  have f1 : fX11_isThere (0 : Int32) (nI j) x = some 1 := f1
  rcases both_one l e with ⟨li, ei, rfl, rfl, l1, l2, l3, l4, l5⟩ | ⟨q1, q2⟩
  rotate_left
  · refine no ?_ ?_
    · unfold fX11_distance
      rw [e1, Option.bind_some, if_neg n1, f1, Option.bind_some, if_neg n1, q1, Option.bind_some, if_pos rfl]
    · unfold fX12_distance
      rw [lt1_e, q0, e2, Option.bind_some, if_neg n1, f2, Option.bind_some, if_neg n1]
      rcases q2 with q2 | ⟨q2, q3⟩
      · rw [q2, Option.bind_some, if_pos rfl]
      · rw [q2, Option.bind_some, if_neg n1, q3, Option.bind_some, if_pos rfl]
  have fr : ∀ c, c < cN x 0 → ∀ k, k < 16 → fl2 (gF x 20 c k) := fun c hc k hk => (hx.2.1.1 c hc k hk).1
  obtain ⟨x', g1, g2⟩ := xChipGap hB hx (SameX_r x) hi hj l1 l2
  obtain ⟨p1, p2⟩ := gapO_b hB l1 l2 (fr i hi) (fr j hj)
  obtain ⟨d1, d2⟩ := pw_dbits p1
  have m1 := mGoalR (st := sI m 0 0 10 0) (p := 1 + j) (g := fun k => gF x 20 j k) hB l1 l2 (by omega) (fun f _ _ _ _ => by rw [gI_sI, if_neg (by omega)]) (fun k hk => (hm.2.1 j hj k hk).1) (fr j hj)
  have m2 := mFromR (st := putD (sI m 0 0 10 0) 46 0 3 (colV (fun k => gF x 20 j k) (Wt x li ei))) (p := 1 + i) (g := fun k => gF x 20 j k) (r := fun k => gF x 20 i k) hB l1 l2 (by omega) (fun f i' j' q1 q2 => by
    show gI (sI m 0 0 10 0) f i' j' = _
    rw [gI_sI, if_neg (by omega)]) (fun k hk => (hm.2.1 i hi k hk).1) (fr i hi) (fun k hk => putD_h hk) (fr j hj)
  refine ⟨(gapO x li ei (fun k => gF x 20 i k) (fun k => gF x 20 j k)).toInt64, x', putD (sI m 0 0 10 0) 46 0 3 (colV (fun k => gF x 20 j k) (Wt x li ei)), ?_, ?_, rel_S ?_ g2⟩
  · unfold fX11_distance
    rw [e1, Option.bind_some, if_neg n1, f1, Option.bind_some, if_neg n1, l3, Option.bind_some, if_neg n1, g1, Option.bind_some]
    dsimp only [un2]
    rw [d1, Option.bind_some]
  · unfold fX12_distance
    rw [lt1_e, q0, e2, Option.bind_some, if_neg n1, f2, Option.bind_some, if_neg n1, l4, Option.bind_some, if_neg n1, l5, Option.bind_some, if_neg n1, show (1 : Int32) + nI j = nI (1 + j) from nI_add 1 j, m1, Option.bind_some, show (1 : Int32) + nI i = nI (1 + i) from nI_add 1 i, m2, Option.bind_some, d2, Option.bind_some]
  · exact ⟨RelC_keep (KX_r x) (KM_t (KM_I (by decide)) (KM_pD (by decide))) h.1, h.2.1, Cur_f (SCX_r x) (SCM_t (SCM_I (by decide)) (SCM_pD (by decide))) h.2.2⟩
