/-! ===== parts, predictions, weights, the measure ===== -/
theorem b_part {x m : Sto} (h : Rel x m) (lot w g : Int32) (hl : lot = 0 ∨ lot = 1) : ∃ r x' m', fX11_part lot w g x = some (r, x') ∧ fX12_part lot w g m = some (r, m') ∧ Rel x' m' := by
  have hx := h.1.2.1
  have n1 : ¬ (1 : Int32) = 0 := by decide
  obtain ⟨r1, r2, ⟨r3, r4⟩, r5, r6⟩ := h.2.2.1
  -- the kind: 2 a dye, 4 a lot
  obtain ⟨K, b, hK, eX, eM⟩ : ∃ (K : Nat) (b : Int32), ((K = 2 ∧ b = 0 ∧ lot = 0) ∨ (K = 4 ∧ b = 1 ∧ lot = 1)) ∧ fX11_part lot w g x = (fun (K13 : Int32) => (fX11_isThere K13 w x).bind (fun (v5 : Int32) =>
    if v5 = 0 then (
     (fX11_refused (2 : Int32) x).bind (un2 fun (v33 : Int32) (t34 : Sto) =>
      some (v33, t34))) else (
     (fX11_isWithin g (0 : Int32) (1000000 : Int32)).bind (fun (v8 : Int32) =>
      if v8 = 0 then (
       (fX11_refused (3 : Int32) x).bind (un2 fun (v30 : Int32) (t31 : Sto) =>
        some (v30, t31))) else (
       if gI x 0 (0) 11 < (6 : Int32) then (
        ck (0 ≤ (gI x 0 (0) 11).toInt ∧ (gI x 0 (0) 11).toInt < (6 : Int)) (
          ck (0 ≤ (0 : Int32).toInt ∧ (0 : Int32).toInt < (lIX (12) ((gI x 0 (0) 11).toNatClampNeg) : Int)) (lt1 (sI x (12) ((gI x 0 (0) 11).toNatClampNeg) (0) K13) fun (t17 : Sto) =>
           ck (0 ≤ (gI t17 0 (0) 11).toInt ∧ (gI t17 0 (0) 11).toInt < (6 : Int)) (
            ck (0 ≤ (1 : Int32).toInt ∧ (1 : Int32).toInt < (lIX (12) ((gI t17 0 (0) 11).toNatClampNeg) : Int)) (lt1 (sI t17 (12) ((gI t17 0 (0) 11).toNatClampNeg) (1) w) fun (t19 : Sto) =>
             ck (0 ≤ (gI t19 0 (0) 11).toInt ∧ (gI t19 0 (0) 11).toInt < (6 : Int)) (
              ck (0 ≤ (2 : Int32).toInt ∧ (2 : Int32).toInt < (lIX (12) ((gI t19 0 (0) 11).toNatClampNeg) : Int)) (lt1 (sI t19 (12) ((gI t19 0 (0) 11).toNatClampNeg) (2) g) fun (t21 : Sto) =>
               lt1 (sI t21 0 (0) 11 ((gI t21 0 (0) 11) + (1 : Int32))) fun (t22 : Sto) =>
               (fX11_accept t22).bind (un2 fun (v23 : Int32) (t24 : Sto) =>
                some (gI t24 0 (0) 11, t24))))))))) else (
        (fX11_refused (1 : Int32) x).bind (un2 fun (v27 : Int32) (t28 : Sto) =>
         some (v27, t28)))))))) (nI K) ∧ (if lot = 0 then gI (sI m 0 0 10 0) 0 0 4 else gI (sI m 0 0 10 0) 0 0 6) = nI (cN x K) := by
    rcases hl with rfl | rfl
    · exact ⟨2, 0, Or.inl ⟨rfl, rfl, rfl⟩, rfl, (rel_cnt h (k := 2) (by decide)).2.1⟩
    · exact ⟨4, 1, Or.inr ⟨rfl, rfl, rfl⟩, rfl, (rel_cnt h (k := 4) (by decide)).2.1⟩
  have hK6 : K < 6 := by omega
  have hb20 : cN x K ≤ 20 := by
    rcases hK with ⟨rfl, _⟩ | ⟨rfl, _⟩
    · have q : cN x 2 ≤ 12 := (hx.1 2 (by decide)).2
      omega
    · exact (hx.1 4 (by decide)).2
  rw [eX]
  have eM2 : fX12_part lot w g m = (fun (v5 : Int32) => (fX12_is w v5).bind (fun (v6 : Int32) =>
    if v6 = 0 then (
     (fX12_no (2 : Int32) (sI m 0 0 10 0)).bind (un2 fun (v26 : Int32) (t27 : Sto) =>
      some (v26, t27))) else (
     if g < 0 then (
      (fX12_no (3 : Int32) (sI m 0 0 10 0)).bind (un2 fun (v10 : Int32) (t11 : Sto) =>
       some (v10, t11))) else (
      if g ≤ (1000000 : Int32) then (
       if gI (sI m 0 0 10 0) 0 (0) 8 = (6 : Int32) then (
        (fX12_no (1 : Int32) (sI m 0 0 10 0)).bind (un2 fun (v20 : Int32) (t21 : Sto) =>
         some (v20, t21))) else (
        ck (0 ≤ (gI (sI m 0 0 10 0) 0 (0) 8).toInt ∧ (gI (sI m 0 0 10 0) 0 (0) 8).toInt < (lZM (32) (0) : Int)) (lt1 (sI (sI m 0 0 10 0) (32) (0) ((gI (sI m 0 0 10 0) 0 (0) 8).toNatClampNeg) (vp_nar .boolean lot)) fun (t15 : Sto) =>
         ck (0 ≤ (gI t15 0 (0) 8).toInt ∧ (gI t15 0 (0) 8).toInt < (lIM (30) (0) : Int)) (lt1 (sI t15 (30) (0) ((gI t15 0 (0) 8).toNatClampNeg) w) fun (t16 : Sto) =>
          ck (0 ≤ (gI t16 0 (0) 8).toInt ∧ (gI t16 0 (0) 8).toInt < (lIM (31) (0) : Int)) (lt1 (sI t16 (31) (0) ((gI t16 0 (0) 8).toNatClampNeg) g) fun (t17 : Sto) =>
           lt1 (sI t17 0 (0) 8 ((gI t17 0 (0) 8) + (1 : Int32))) fun (t18 : Sto) =>
           lt1 (sI t18 0 (0) 9 (0 : Int32)) fun (t19 : Sto) =>
           some (gI t19 0 (0) 8, t19)))))) else (
       (fX12_no (3 : Int32) (sI m 0 0 10 0)).bind (un2 fun (v23 : Int32) (t24 : Sto) =>
        some (v23, t24))))))) (nI (cN x K)) := by
    rw [← eM]
    unfold fX12_part
    rw [lt1_e, jn_e]
    split <;> rfl
  rw [eM2]
  have e8 : gI (sI m 0 0 10 0) 0 0 8 = nI (iN x 0 0 11) := r5.trans r3.1
  rcases both_is hx (a := K) hK6 w with ⟨v, rfl, hv, e1, e2⟩ | ⟨_, e1, e2⟩
  rotate_left
  · refine ⟨-1, _, _, ?_, ?_, rel_no (v := 2) h⟩
    · dsimp only
      rw [e1, Option.bind_some, if_pos rfl, xRefused, Option.bind_some]; rfl
    · dsimp only
      rw [e2, Option.bind_some, if_pos rfl, mNo, Option.bind_some]; rfl
  rcases rng g 0 1000000 (by decide) (by decide) with ⟨z, rfl, z1, z2, z3, z4, z5, z6⟩ | ⟨z, z6⟩
  rotate_left
  · refine ⟨-1, _, _, ?_, ?_, rel_no (v := 3) h⟩
    · dsimp only
      rw [e1, Option.bind_some, if_neg n1, show fX11_isWithin g (0 : Int32) (1000000 : Int32) = some 0 from z6, Option.bind_some, if_pos rfl, xRefused, Option.bind_some]; rfl
    · dsimp only
      rw [e2, Option.bind_some, if_neg n1]
      rcases z with z | ⟨z, _, z'⟩
      · rw [if_pos (show g < 0 from z), mNo, Option.bind_some]; rfl
      · rw [if_neg (show ¬ g < 0 from z), if_neg (show ¬ g ≤ (1000000 : Int32) from z'), mNo, Option.bind_some]; rfl
  have z6 : fX11_isWithin (nI z) (0 : Int32) (1000000 : Int32) = some 1 := z6
  generalize hp : iN x 0 0 11 = p at r3 r4 r6 e8
  have p6 : p ≤ 6 := by have := r3.2; omega
  have r31 : gI x 0 0 11 = nI p := by rw [← hp]; exact r3.1
  by_cases ep : p = 6
  · subst ep
    refine ⟨-1, _, _, ?_, ?_, rel_no (v := 1) h⟩
    · dsimp only
      rw [e1, Option.bind_some, if_neg n1, z6, Option.bind_some, if_neg n1, r31, if_neg (show ¬ nI 6 < (6 : Int32) by decide), xRefused, Option.bind_some]; rfl
    · dsimp only
      rw [e2, Option.bind_some, if_neg n1, if_neg (show ¬ nI z < 0 from z3), if_pos (show nI z ≤ (1000000 : Int32) from z5), e8, if_pos (show nI 6 = (6 : Int32) from rfl), mNo, Option.bind_some]; rfl
  · have hlt : p < 6 := by omega
    have ip : 0 ≤ (nI p).toInt ∧ (nI p).toInt < ((6 : Nat) : Int) := ixl (by omega) (by omega)
    have l12 : lIX 12 p = 3 := if_pos hlt
    have nb : vp_nar .boolean lot = b := by
      rcases hK with ⟨_, rfl, rfl⟩ | ⟨_, rfl, rfl⟩ <;> rfl
    refine ⟨nI (p + 1), sI (sI (sI (sI (sI x 12 p 0 (nI K)) 12 p 1 (nI v)) 12 p 2 (nI z)) 0 0 11 (nI (p + 1))) 0 0 19 0, sI (sI (sI (sI (sI (sI m 0 0 10 0) 32 0 p b) 30 0 p (nI v)) 31 0 p (nI z)) 0 0 8 (nI (p + 1))) 0 0 9 0, ?_, ?_, ?_, rfl, ?_⟩
    · have t1 : gI (sI x 12 p 0 (nI K)) 0 0 11 = nI p := r31
      have t2 : gI (sI (sI x 12 p 0 (nI K)) 12 p 1 (nI v)) 0 0 11 = nI p := r31
      have t3 : gI (sI (sI (sI x 12 p 0 (nI K)) 12 p 1 (nI v)) 12 p 2 (nI z)) 0 0 11 = nI p := r31
      dsimp only
      rw [e1, Option.bind_some, if_neg n1, z6, Option.bind_some, if_neg n1, r31, if_pos (show nI p < (6 : Int32) from (nI_ltJ (b := 6) (by omega) (by decide)).mpr hlt), ck_t (by exact ip), nI_cl (by omega), l12, ck_t (by decide), lt1_e, t1, ck_t (by exact ip), nI_cl (by omega), l12, ck_t (by decide), lt1_e, t2, ck_t (by exact ip), nI_cl (by omega), l12, ck_t (by decide), lt1_e, t3, show nI p + (1 : Int32) = nI (p + 1) from nI_1 p, lt1_e, xAccept, Option.bind_some]
      rfl
    · have t1 : gI (sI (sI m 0 0 10 0) 32 0 p b) 0 0 8 = nI p := e8
      have t2 : gI (sI (sI (sI m 0 0 10 0) 32 0 p b) 30 0 p (nI v)) 0 0 8 = nI p := e8
      have t3 : gI (sI (sI (sI (sI m 0 0 10 0) 32 0 p b) 30 0 p (nI v)) 31 0 p (nI z)) 0 0 8 = nI p := e8
      dsimp only
      rw [e2, Option.bind_some, if_neg n1, if_neg (show ¬ nI z < 0 from z3), if_pos (show nI z ≤ (1000000 : Int32) from z5), e8, if_neg (show ¬ nI p = (6 : Int32) from fun q => ep ((nI_inj (by omega) (by decide)).mp (show nI p = nI 6 from q))), show lZM 32 0 = 6 from rfl, show lIM 30 0 = 6 from rfl, show lIM 31 0 = 6 from rfl, ck_t ip, nI_cl (by omega), nb, lt1_e, t1, ck_t ip, nI_cl (by omega), lt1_e, t2, ck_t ip, nI_cl (by omega), lt1_e, t3, show nI p + (1 : Int32) = nI (p + 1) from nI_1 p, lt1_e, lt1_e]
      rfl
    · exact RelC_keep (KX_t (KX_t (KX_t (KX_t (KX_I (by decide)) (KX_I (by decide))) (KX_I (by decide))) (KX_I (by decide))) (KX_I (by decide))) (KM_t (KM_t (KM_t (KM_t (KM_t (KM_I (by decide)) (KM_I (by omega))) (KM_I (by omega))) (KM_I (by omega))) (KM_I (by omega))) (KM_I (by decide))) h.1
    · generalize hx' : sI (sI (sI (sI (sI x 12 p 0 (nI K)) 12 p 1 (nI v)) 12 p 2 (nI z)) 0 0 11 (nI (p + 1))) 0 0 19 0 = x'
      generalize hm' : sI (sI (sI (sI (sI (sI m 0 0 10 0) 32 0 p b) 30 0 p (nI v)) 31 0 p (nI z)) 0 0 8 (nI (p + 1))) 0 0 9 0 = m'
      have xo : ∀ q j, q ≠ p → gI x' 12 q j = gI x 12 q j := fun q j hq => by
        rw [← hx', gI_sI, if_neg (by omega), gI_sI, if_neg (by omega), gI_sI, if_neg (by omega), gI_sI, if_neg (by omega), gI_sI, if_neg (by omega)]
      have x0 : gI x' 12 p 0 = nI K := by rw [← hx']; simp [gI_sI]
      have x1 : gI x' 12 p 1 = nI v := by rw [← hx']; simp [gI_sI]
      have x2 : gI x' 12 p 2 = nI z := by rw [← hx']; simp [gI_sI]
      have x11 : gI x' 0 0 11 = nI (p + 1) := by rw [← hx']; rfl
      have mo : ∀ f q, (f = 30 ∨ f = 31 ∨ f = 32) → q ≠ p → gI m' f 0 q = gI m f 0 q := fun f q hf hq => by
        rw [← hm', gI_sI, if_neg (by omega), gI_sI, if_neg (by omega), gI_sI, if_neg (by omega), gI_sI, if_neg (by omega), gI_sI, if_neg (by omega), gI_sI, if_neg (by omega)]
      have m32 : gI m' 32 0 p = b := by rw [← hm']; simp [gI_sI]
      have m30 : gI m' 30 0 p = nI v := by rw [← hm']; simp [gI_sI]
      have m31 : gI m' 31 0 p = nI z := by rw [← hm']; simp [gI_sI]
      have i11 := isN_v (b := 6) x11 (by omega) (by decide)
      obtain ⟨v0, w0⟩ := isN_v (b := 4) x0 (by omega) (by decide)
      refine ⟨⟨by rw [← hx', ← hm']; exact r1, by rw [← hx', ← hm']; exact r2, ⟨i11.2, fun q hq => ?_⟩, ?_, fun q hq => ?_⟩, ?_, ?_, ?_, ?_⟩
      · rw [i11.1] at hq
        by_cases e : q = p
        · subst e
          exact ⟨⟨w0, by rw [v0]; omega⟩, (isN_v x1 (by omega) (by decide)).2, (isN_v x2 (by omega) (by decide)).2⟩
        · obtain ⟨⟨o1, o2⟩, o3, o4⟩ := r4 q (by omega)
          exact ⟨⟨isN_e (xo q 0 e) o1, by rw [iN_e (xo q 0 e)]; exact o2⟩, isN_e (xo q 1 e) o3, isN_e (xo q 2 e) o4⟩
      · rw [x11, ← hm']; rfl
      · rw [i11.1] at hq
        by_cases e : q = p
        · subst e
          refine ⟨?_, m30.trans x1.symm, m31.trans x2.symm⟩
          rw [m32, v0]
          rcases hK with ⟨rfl, rfl, _⟩ | ⟨rfl, rfl, _⟩ <;> rfl
        · obtain ⟨o1, o2, o3⟩ := r6 q (by omega)
          rw [mo 32 q (by decide) e, mo 30 q (by decide) e, mo 31 q (by decide) e, iN_e (xo q 0 e), xo q 1 e, xo q 2 e]
          exact ⟨o1, o2, o3⟩
      · rw [← hx', ← hm']; exact h.2.2.2.1
      · rw [← hx', ← hm']; exact h.2.2.2.2.1
      · rw [← hx', ← hm']; exact h.2.2.2.2.2.1
      · rw [← hx', ← hm']; exact h.2.2.2.2.2.2
theorem b_predict {x m : Sto} (h : Rel x m) (c : Int32) : ∃ r x' m', fX11_predict c x = some (r, x') ∧ fX12_predict c m = some (r, m') ∧ Rel x' m' := by
  have hx := h.1.2.1
  have hm := h.1.2.2.1
  have q1 : gI (sI m 0 0 10 0) 0 0 3 = nI (cN x 1) := (rel_cnt h (k := 1) (by decide)).2.1
  rcases both_is hx (a := 1) (by decide) c with ⟨c, rfl, hc, e1, e2⟩ | ⟨_, e1, e2⟩
  rotate_left
  · refine ⟨0, _, _, ?_, ?_, rel_no (v := 2) h⟩
    · unfold fX11_predict
      rw [show fX11_isThere (1 : Int32) c x = some 0 from e1, Option.bind_some, if_pos rfl, xDenied, Option.bind_some]; exact un2_k0 _
    · unfold fX12_predict
      rw [lt1_e, q1, e2, Option.bind_some, if_pos rfl, mNot, Option.bind_some]; exact un2_k0 _
  obtain ⟨r1, r2, r3, r4⟩ := h.2.2.1
  obtain ⟨x', g1, g2⟩ := xPredict hx r3 hc
  have g3 := mPredict hx hm r3 r4 hc
  refine ⟨1, x', _, g1, g3, rel_S ?_ g2⟩
  refine ⟨RelC_keep (KX_t (KX_t (KX_t (KX_pF (by decide)) (KX_I (by decide))) (KX_I (by decide))) (KX_I (by decide))) (KM_t (KM_t (KM_t (KM_t (KM_I (by decide)) (KM_O (by omega))) (KM_I (by decide))) (KM_I (by decide))) (KM_I (by decide))) h.1, rfl, ⟨fun k hk => ?_, ⟨⟨rfl, ?_⟩, rfl, fun _ k hk => ⟨?_, ?_⟩⟩, ⟨⟨rfl, ?_⟩, fun p hp => ?_⟩, rfl, fun p hp => ?_⟩, h.2.2.2.1, h.2.2.2.2.1, h.2.2.2.2.2.1, h.2.2.2.2.2.2⟩
  · refine ⟨(r1 k hk).1, ?_⟩
    have : gF (sI (sI (sI (putO (sI m 0 0 10 0) 1 0 784 16 (pB x c)) 0 0 8 0) 0 0 32 1) 0 0 9 0) 1 0 k = gF (sI m 0 0 10 0) 1 0 k := putO_g (by omega)
    rw [this]
    exact (r1 k hk).2
  · exact Nat.le_refl 1
  · rw [show gF (sI (sI (sI (putF x 2 0 16 (pB x c)) 0 0 2 1) 0 0 11 0) 0 0 19 0) 2 0 k = pB x c k from putF_h hk]
    exact (pB_b hx r3 hc hk).1
  · rw [show gF (sI (sI (sI (putF x 2 0 16 (pB x c)) 0 0 2 1) 0 0 11 0) 0 0 19 0) 2 0 k = pB x c k from putF_h hk]
    exact putO_h hk
  · exact Nat.zero_le _
  · exact absurd hp (Nat.not_lt_zero p)
  · exact absurd hp (Nat.not_lt_zero p)
