/-! ===== blends ===== -/
theorem xBecome {x : Sto} {a b n up down : Nat} (ha : a < n) (hb : b < n) (hn : n < 40) (fa : ∀ k, k < 16 → fl2 (gF x 20 a k)) (fb : ∀ k, k < 16 → fl2 (gF x 20 b k)) (hd : 1 ≤ down) (hd2 : down ≤ 1000) (hu : up ≤ down) : fX2_become n a b (nI up) (nI down) x = some (putF x 20 n 16 fun k => blV (gF x 20 a k) (gF x 20 b k) up down) := by
  unfold fX2_become
  have la : lFX 20 a = 16 := if_pos (by omega)
  have lb : lFX 20 b = 16 := if_pos (by omega)
  have ln : lFX 20 n = 16 := if_pos (by omega)
  rw [loopF (f := 20) (i := n) (fun k => blV (gF x 20 a k) (gF x 20 b k) up down) 16 (by decide) (fun k hk => by
    obtain ⟨b1, b2, b3, b4, b5⟩ := blV_b (fa k hk) (fb k hk) hd hd2 hu
    unfold blV at b5
    dsimp only [un2]
    rw [if_neg (g16 hk), ck_t (by rw [la]; exact ixc hk (by decide)), nI_cl (by omega), putF_g (by omega), nd_t (n64_of (f2d_fl2 (fa k hk)).2.1), nd_t (n64_of b1), ck_t (by rw [lb]; exact ixc hk (by decide)), putF_g (by omega), nd_t (n64_of (f2d_fl2 (fb k hk)).2.1), show nI down - nI up = nI (down - up) from pk_sub (by omega), nd_t (n64_of b2), nd_t (n64_of b3), nd_t (n64_of b4), nf_t (n32_of (fl2_ffn b5)), ck_t (by rw [ln]; exact ixc hk (by decide)), lt1_e, lt1_e, nI_s]
    rfl) (by dsimp only [un2]; exact if_pos (show nI 16 ≤ nI 16 by decide))]
  rfl
theorem b_blend {x m : Sto} (h : Rel x m) (a b up down : Int32) : ∃ r x' m', fX11_blend a b up down x = some (r, x') ∧ fX12_blend a b up down m = some (r, m') ∧ Rel x' m' := by
  have hx := h.1.2.1
  have hm := h.1.2.2.1
  obtain ⟨c1, c2, cap⟩ := rel_cnt h (k := 0) (by decide)
  obtain ⟨a1, a2⟩ := rel_acts h
  have cap : cN x 0 ≤ 40 := cap
  have c2 : gI m 0 0 2 = nI (cN x 0) := c2
  have q3 : gI (sI m 0 0 10 0) 0 0 2 = nI (cN x 0) := c2
  have n1 : ¬ (1 : Int32) = 0 := by decide
  rcases both_is hx (a := 0) (by decide) a with ⟨i, rfl, hi, e1, e2⟩ | ⟨_, e1, e2⟩
  rotate_left
  · refine ⟨-1, _, _, ?_, ?_, rel_no (v := 2) h⟩
    · unfold fX11_blend
      rw [show fX11_isThere (0 : Int32) a x = some 0 from e1, Option.bind_some, if_pos rfl, xRefused, Option.bind_some]; rfl
    · unfold fX12_blend
      rw [lt1_e, q3, e2, Option.bind_some, if_pos rfl, mNo, Option.bind_some]; rfl
  have e1 : fX11_isThere (0 : Int32) (nI i) x = some 1 := e1
  rcases both_is hx (a := 0) (by decide) b with ⟨j, rfl, hj, f1, f2⟩ | ⟨_, f1, f2⟩
  rotate_left
  · refine ⟨-1, _, _, ?_, ?_, rel_no (v := 2) h⟩
    · unfold fX11_blend
      rw [e1, Option.bind_some, if_neg n1, show fX11_isThere (0 : Int32) b x = some 0 from f1, Option.bind_some, if_pos rfl, xRefused, Option.bind_some]; rfl
    · unfold fX12_blend
      rw [lt1_e, q3, e2, Option.bind_some, if_neg n1, f2, Option.bind_some, if_pos rfl, mNo, Option.bind_some]; rfl
  have f1 : fX11_isThere (0 : Int32) (nI j) x = some 1 := f1
  rcases rng down 1 1000 (by decide) (by decide) with ⟨d, rfl, z1, z2, z3, z4, _, z6⟩ | ⟨z, z6⟩
  rotate_left
  · refine ⟨-1, _, _, ?_, ?_, rel_no (v := 3) h⟩
    · unfold fX11_blend
      rw [e1, Option.bind_some, if_neg n1, f1, Option.bind_some, if_neg n1, show fX11_isWithin down (1 : Int32) (1000 : Int32) = some 0 from z6, Option.bind_some, if_pos rfl, xRefused, Option.bind_some]; rfl
    · unfold fX12_blend
      rw [lt1_e, q3, e2, Option.bind_some, if_neg n1, f2, Option.bind_some, if_neg n1]
      rcases z with z | ⟨z, z', _⟩
      · rw [if_pos (show down < (1 : Int32) from z), mNo, Option.bind_some]; rfl
      · rw [if_neg (show ¬ down < (1 : Int32) from z), if_pos (show (1000 : Int32) < down from z'), mNo, Option.bind_some]; rfl
  have z6 : fX11_isWithin (nI d) (1 : Int32) (1000 : Int32) = some 1 := z6
  have z3 : ¬ nI d < (1 : Int32) := z3
  have z4 : ¬ (1000 : Int32) < nI d := z4
  rcases rng up 0 d (by omega) (by omega) with ⟨u, rfl, w1, w2, w3, _, w5, w6⟩ | ⟨w, w6⟩
  rotate_left
  · refine ⟨-1, _, _, ?_, ?_, rel_no (v := 3) h⟩
    · unfold fX11_blend
      rw [e1, Option.bind_some, if_neg n1, f1, Option.bind_some, if_neg n1, z6, Option.bind_some, if_neg n1, show fX11_isWithin up (0 : Int32) (nI d) = some 0 from w6, Option.bind_some, if_pos rfl, xRefused, Option.bind_some]; rfl
    · unfold fX12_blend
      rw [lt1_e, q3, e2, Option.bind_some, if_neg n1, f2, Option.bind_some, if_neg n1, if_neg z3, if_neg z4]
      rcases w with w | ⟨w, _, w'⟩
      · rw [if_pos (show up < (0 : Int32) from w), mNo, Option.bind_some]; rfl
      · rw [if_neg (show ¬ up < (0 : Int32) from w), if_neg w', mNo, Option.bind_some]; rfl
  have w6 : fX11_isWithin (nI u) (0 : Int32) (nI d) = some 1 := w6
  have w3 : ¬ nI u < (0 : Int32) := w3
  by_cases e : cN x 0 = 40
  · have q40 : gI (sI m 0 0 10 0) 0 0 2 = (40 : Int32) := by rw [q3, e]; rfl
    refine ⟨-1, _, _, ?_, ?_, rel_no (v := 1) h⟩
    · unfold fX11_blend
      rw [e1, Option.bind_some, if_neg n1, f1, Option.bind_some, if_neg n1, z6, Option.bind_some, if_neg n1, w6, Option.bind_some, if_neg n1, c1, if_neg (show ¬ nI (cN x 0) < (40 : Int32) by rw [e]; decide), xRefused, Option.bind_some]; rfl
    · unfold fX12_blend
      rw [lt1_e, q3, e2, Option.bind_some, if_neg n1, f2, Option.bind_some, if_neg n1, if_neg z3, if_neg z4, if_neg w3, if_pos w5, if_pos (show nI (cN x 0) = (40 : Int32) by rw [e]; rfl), mNo, Option.bind_some]; rfl
  · have hlt : cN x 0 < 40 := by omega
    have fa : ∀ k, k < 16 → fl2 (gF x 20 i k) := fun k hk => (hx.2.1.1 i hi k hk).1
    have fb : ∀ k, k < 16 → fl2 (gF x 20 j k) := fun k hk => (hx.2.1.1 j hj k hk).1
    have hnew := xNewOne (x := putF x 20 (cN x 0) 16 fun k => blV (gF x 20 i k) (gF x 20 j k) u d) (a := 0) (n := cN x 0) (by decide) h.1.1 c1 (by omega)
    refine ⟨nI (cN x 0), newS (putF x 20 (cN x 0) 16 fun k => blV (gF x 20 i k) (gF x 20 j k) u d) ((iN x 18 0 2 + 1) % 60) (min (iN x 18 0 3 + 1) 60) 0 (cN x 0), actS (sI (putO (putO (putO (sI m 0 0 10 0) 1 0 2160 16 fun k => blV (gF x 20 i k) (gF x 20 j k) u d) 1 0 (16 * (1 + cN x 0)) 16 (fun k => gF (putO (sI m 0 0 10 0) 1 0 2160 16 fun k => blV (gF x 20 i k) (gF x 20 j k) u d) 1 0 (16 * 135 + k))) 2 0 (16 * cN x 0) 16 (fun _ => FP.fconst0)) 0 0 2 (nI (cN x 0 + 1))) (iN x 18 0 3) (kA 0) (nI (cN x 0)) 0 0, ?_, ?_, ?_⟩
    · unfold fX11_blend
      rw [e1, Option.bind_some, if_neg n1, f1, Option.bind_some, if_neg n1, z6, Option.bind_some, if_neg n1, w6, Option.bind_some, if_neg n1, c1, if_pos (show nI (cN x 0) < (40 : Int32) from (nI_ltJ (b := 40) (by omega) (by decide)).mpr hlt), ck_t (by exact ixl (by omega) (by omega)), ck_t (by exact ixl (by omega) (by omega)), ck_t (by exact ixl (by omega) (by omega)), nI_cl (n := cN x 0) (by omega), nI_cl (n := i) (by omega), nI_cl (n := j) (by omega), xBecome hi hj hlt fa fb z1 z2 w2, Option.bind_some, show fX11_newOne (0 : Int32) (putF x 20 (cN x 0) 16 fun k => blV (gF x 20 i k) (gF x 20 j k) u d) = _ from hnew, Option.bind_some]
      rfl
    · have hc := mNewChip (m := putO (sI m 0 0 10 0) 1 0 2160 16 fun k => blV (gF x 20 i k) (gF x 20 j k) u d) (f := 135) (n := cN x 0) (a := iN x 18 0 3) (by decide) c2 hlt (by omega) a1 a2
      unfold fX12_blend
      rw [lt1_e, q3, e2, Option.bind_some, if_neg n1, f2, Option.bind_some, if_neg n1, if_neg z3, if_neg z4, if_neg w3, if_pos w5, if_neg (show ¬ nI (cN x 0) = (40 : Int32) from fun q => e ((nI_inj (by omega) (by decide)).mp (show nI (cN x 0) = nI 40 from q))), loopO (f := 1) (i := 0) (o := 2160) (fun k => blV (gF x 20 i k) (gF x 20 j k) u d) 16 (by decide) (fun k hk => by
        obtain ⟨b1, b2, b3, b4, b5⟩ := blV_b (fa k hk) (fb k hk) z1 z2 w2
        unfold blV at b5
        have ea : ((16 : Int32) * ((1 : Int32) + nI i)) + nI k = nI (16 * (1 + i) + k) := by
          show nI 16 * (nI 1 + nI i) + nI k = _
          simp only [pk_mul, nI_add]
        have eb : ((16 : Int32) * ((1 : Int32) + nI j)) + nI k = nI (16 * (1 + j) + k) := by
          show nI 16 * (nI 1 + nI j) + nI k = _
          simp only [pk_mul, nI_add]
        have ec : (2160 : Int32) + nI k = nI (2160 + k) := nI_add 2160 k
        have va : gF (putO (sI m 0 0 10 0) 1 0 2160 k fun k => blV (gF x 20 i k) (gF x 20 j k) u d) 1 0 (16 * (1 + i) + k) = gF x 20 i k := by
          rw [putO_g (by omega)]; exact (hm.2.1 i hi k hk).1
        have vb : gF (putO (sI m 0 0 10 0) 1 0 2160 k fun k => blV (gF x 20 i k) (gF x 20 j k) u d) 1 0 (16 * (1 + j) + k) = gF x 20 j k := by
          rw [putO_g (by omega)]; exact (hm.2.1 j hj k hk).1
        dsimp only [un2]
        rw [if_neg (g16 hk), ea, eb, ec, show lFM 1 0 = 2176 from rfl, ck_t (by exact ixl (by omega) (by omega)), nI_cl (n := 16 * (1 + i) + k) (by omega), va, nd_t (n64_of (f2d_fl2 (fa k hk)).2.1), ck_t (by exact ixl (by omega) (by omega)), nI_cl (n := 16 * (1 + j) + k) (by omega), vb, nd_t (n64_of (f2d_fl2 (fb k hk)).2.1), nd_t (n64_of b1), show nI d - nI u = nI (d - u) from pk_sub (by omega), nd_t (n64_of b2), nd_t (n64_of b3), nd_t (n64_of b4), nf_t (n32_of (fl2_ffn b5)), ck_t (by exact ixl (by omega) (by omega)), nI_cl (by omega), lt1_e, lt1_e, nI_s]
        rfl) (by dsimp only [un2]; exact if_pos (show nI 16 ≤ nI 16 by decide)), Option.bind_some, show fX12_newChip (135 : Int32) (putO (sI m 0 0 10 0) 1 0 2160 16 fun k => blV (gF x 20 i k) (gF x 20 j k) u d) = _ from hc, Option.bind_some]
      rfl
    · exact rel_chip h rfl hlt (KM_t (KM_I (by decide)) (KM_O (by omega))) (SCM_t (SCM_I (by decide)) (SCM_O (by omega))) (fun k hk => ⟨(blV_b (fa k hk) (fb k hk) z1 z2 w2).2.2.2.2, by
        show gF (putO (sI m 0 0 10 0) 1 0 2160 16 fun k => blV (gF x 20 i k) (gF x 20 j k) u d) 1 0 (2160 + k) = _
        rw [putO_h hk]⟩)
