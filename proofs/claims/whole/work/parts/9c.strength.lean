/-! ===== a dye's next strength, by both ===== -/
theorem b_strength {x m : Sto} (h : Rel x m) (a gr : Int32) : ∃ r x' m', fX11_strength a gr x = some (r, x') ∧ fX12_strength a gr m = some (r, m') ∧ Rel x' m' := by
  have hx := h.1.2.1
  have hm := h.1.2.2.1
  have n1 : ¬ (1 : Int32) = 0 := by decide
  obtain ⟨_, d2, cap⟩ := rel_cnt h (k := 2) (by decide)
  obtain ⟨a1, a2⟩ := rel_acts h
  have cap : cN x 2 ≤ 12 := cap
  have qd : gI (sI m 0 0 10 0) 0 0 4 = nI (cN x 2) := d2
  rcases both_is hx (a := 2) (by decide) a with ⟨d, rfl, hd, e1, e2⟩ | ⟨_, e1, e2⟩
  rotate_left
  · refine ⟨-1, _, _, ?_, ?_, rel_no (v := 2) h⟩
    · unfold fX11_strength
      rw [show fX11_isThere (2 : Int32) a x = some 0 from e1, Option.bind_some, if_pos rfl, xRefused, Option.bind_some]; rfl
    · unfold fX12_strength
      rw [lt1_e, qd, e2, Option.bind_some, if_pos rfl, mNo, Option.bind_some]; rfl
  have e1 : fX11_isThere (2 : Int32) (nI d) x = some 1 := e1
  have d12 : d < 12 := by omega
  obtain ⟨⟨o1, o1'⟩, o2, o3, o4, o5⟩ := hx.2.2.2.1 d hd
  obtain ⟨w1, w2, w3, w4⟩ := hm.2.2.2.1 d hd
  have hcl : iN x 22 d 0 < 8 := Nat.lt_of_lt_of_le o1' (hx.1 1 (by decide)).2
  generalize hcl_ : iN x 22 d 0 = cl at hcl o1' w4
  have e220 : gI x 22 d 0 = nI cl := by rw [← hcl_]; exact o1.1
  generalize hn_ : iN x 22 d 2 = n at o3 o4 o5 w4
  have n6 : n ≤ 6 := by have := o3.2; omega
  have e222 : gI x 22 d 2 = nI n := by rw [← hn_]; exact o3.1
  have i12 : 0 ≤ (nI d).toInt ∧ (nI d).toInt < ((12 : Nat) : Int) := ixl (by omega) (by omega)
  have q13 : gI (sI m 0 0 10 0) 13 0 d = nI n := w2.trans e222
  have e6 : ∀ j, ((6 : Int32) * nI d) + nI j = nI (6 * d + j) := fun j => by
    show nI 6 * nI d + nI j = _
    simp only [pk_mul, nI_add]
  rcases rng gr 1 100000 (by decide) (by decide) with ⟨g, rfl, z1, z2, z3, z4, _, z6⟩ | ⟨z, z6⟩
  rotate_left
  · refine ⟨-1, _, _, ?_, ?_, rel_no (v := 3) h⟩
    · unfold fX11_strength
      rw [e1, Option.bind_some, if_neg n1, ck_t (by exact i12), show fX11_isWithin gr (1 : Int32) (100000 : Int32) = some 0 from z6, Option.bind_some, if_pos rfl, xRefused, Option.bind_some]; rfl
    · unfold fX12_strength
      rw [lt1_e, qd, e2, Option.bind_some, if_neg n1, show lIM 13 0 = 12 from rfl, ck_t i12, nI_cl (by omega), q13, lt1_e]
      rcases z with z | ⟨z, z', _⟩
      · rw [if_pos (show gr < (1 : Int32) from z), mNo, Option.bind_some]; rfl
      · rw [if_neg (show ¬ gr < (1 : Int32) from z), if_pos (show (100000 : Int32) < gr from z'), mNo, Option.bind_some]; rfl
  have z6 : fX11_isWithin (nI g) (1 : Int32) (100000 : Int32) = some 1 := z6
  have z3 : ¬ nI g < (1 : Int32) := z3
  have z4 : ¬ (100000 : Int32) < nI g := z4
  have hlast := xLast (x := x) d12 e222 n6 o4
  have L31 : (if n = 0 then 0 else iN x 23 d (n - 1)) < 2 ^ 31 := by
    split
    · decide
    · have := (o4 (n - 1) (by omega)).2; omega
  -- the reference's road behind the grams
  by_cases hL : (if n = 0 then 0 else iN x 23 d (n - 1)) < g
  rotate_left
  · have n0 : n ≠ 0 := fun e => by rw [if_pos e] at hL; omega
    rw [if_neg n0] at hL hlast L31
    refine ⟨-1, _, _, ?_, ?_, rel_no (v := 3) h⟩
    · unfold fX11_strength
      rw [e1, Option.bind_some, if_neg n1, ck_t (by exact i12), z6, Option.bind_some, if_neg n1, nI_cl (n := d) (by omega), hlast, Option.bind_some, if_neg (fun q => hL ((nI_ltJ L31 (by omega)).mp q)), xRefused, Option.bind_some]; rfl
    · have q14 : gI (sI m 0 0 10 0) 14 0 (6 * d + (n - 1)) = nI (iN x 23 d (n - 1)) := (w4 (n - 1) (by omega)).1.trans (o4 (n - 1) (by omega)).1
      unfold fX12_strength
      rw [lt1_e, qd, e2, Option.bind_some, if_neg n1, show lIM 13 0 = 12 from rfl, ck_t i12, nI_cl (n := d) (by omega), q13, lt1_e, if_neg z3, if_neg z4, jn_e, if_neg (show ¬ nI n ≤ 0 from nI_gt (N := n) (n := 0) (by omega) (by omega)), e6 n, show nI (6 * d + n) - (1 : Int32) = nI (6 * d + n - 1) from pk_sub (b := 1) (by omega), show 6 * d + n - 1 = 6 * d + (n - 1) by omega, show lIM 14 0 = 72 from rfl, ck_t (by exact ixl (by omega) (by omega)), nI_cl (n := 6 * d + (n - 1)) (by omega), q14, if_neg (fun q => hL ((nI_ltJ L31 (by omega)).mp q)), mNo, Option.bind_some]
      rfl
  have hK : ∀ {β : Type} (K : Unit → Option β) (Z : Option β), jn K (fun K14 => if nI n ≤ 0 then K14 () else ck (0 ≤ (nI (6 * d + n) - (1 : Int32)).toInt ∧ (nI (6 * d + n) - (1 : Int32)).toInt < (lIM (14) (0) : Int)) (if gI (sI m 0 0 10 0) (14) (0) ((nI (6 * d + n) - (1 : Int32)).toNatClampNeg) < nI g then K14 () else Z)) = K () := fun K Z => by
    rw [jn_e]
    by_cases n0 : n = 0
    · rw [if_pos (show nI n ≤ 0 by rw [n0]; decide)]
    · rw [if_neg n0] at hL L31
      have q14 : gI (sI m 0 0 10 0) 14 0 (6 * d + (n - 1)) = nI (iN x 23 d (n - 1)) := (w4 (n - 1) (by omega)).1.trans (o4 (n - 1) (by omega)).1
      rw [if_neg (show ¬ nI n ≤ 0 from nI_gt (N := n) (n := 0) (by omega) (by omega)), show nI (6 * d + n) - (1 : Int32) = nI (6 * d + n - 1) from pk_sub (b := 1) (by omega), show 6 * d + n - 1 = 6 * d + (n - 1) by omega, show lIM 14 0 = 72 from rfl, ck_t (by exact ixl (by omega) (by omega)), nI_cl (n := 6 * d + (n - 1)) (by omega), q14, if_pos ((nI_ltJ L31 (by omega)).mpr hL)]
  by_cases n6' : n = 6
  · subst n6'
    refine ⟨-1, _, _, ?_, ?_, rel_no (v := 1) h⟩
    · unfold fX11_strength
      rw [e1, Option.bind_some, if_neg n1, ck_t (by exact i12), z6, Option.bind_some, if_neg n1, nI_cl (n := d) (by omega), hlast, Option.bind_some, if_pos ((nI_ltJ L31 (by omega)).mpr hL), e222, if_neg (show ¬ nI 6 < (6 : Int32) by decide), xRefused, Option.bind_some]; rfl
    · unfold fX12_strength
      rw [lt1_e, qd, e2, Option.bind_some, if_neg n1, show lIM 13 0 = 12 from rfl, ck_t i12, nI_cl (n := d) (by omega), q13, lt1_e, if_neg z3, if_neg z4, e6 6]
      refine (hK _ _).trans ?_
      rw [if_pos (show nI 6 = (6 : Int32) from rfl), mNo, Option.bind_some]
      rfl
  have hn6 : n < 6 := by omega
  have f1 : ∀ k, k < 16 → fl2 (gF x 1 0 k) := fun k hk => (h.2.2.1.1 k hk).1
  have f2 : ∀ k, k < 16 → fl2 (gF x 6 cl k) := fun k hk => hx.2.2.1 cl o1' k hk
  have hstr := xStrengthen (x := x) (g := g) d12 e222 hn6 hcl f1 f2
  generalize hw : (iN x 18 0 2 + 1) % 60 = w
  have w60 : w < 60 := by omega
  generalize hs : min (iN x 18 0 3 + 1) 60 = s_
  generalize hx1 : sI (sI (putD x 25 (6 * d + n) 16 (fun k => ownQ (gF x 1 0 k) (gF x 6 cl k))) 23 d n (nI g)) 22 d 2 (nI (n + 1)) = x1 at hstr
  have x1r : RingOk x1 := by rw [← hx1]; exact h.1.1
  have hnote := xNote x1r (6 : Int32) (nI d) 0 0
  rw [show iN x1 18 0 2 = iN x 18 0 2 from by rw [← hx1]; rfl, show iN x1 18 0 3 = iN x 18 0 3 from by rw [← hx1]; rfl, hw, hs] at hnote
  generalize hm1 : sI (sI (putO (sI m 0 0 10 0) 1 0 (16 * (62 + 6 * d + n)) 16 (fun k => gF m 1 0 (16 * 0 + k))) 14 0 (6 * d + n) (nI g)) 13 0 d (nI (n + 1)) = m1
  have m44 : gI m1 0 0 44 = nI (iN x 18 0 3) := by rw [← hm1]; exact a1
  have hact := mAct m44 a2 3 (nI d) 0 0
  have x1I : ∀ f i j, ¬ (f = 22 ∧ i = d ∧ j = 2) → ¬ (f = 23 ∧ i = d ∧ j = n) → gI x1 f i j = gI x f i j := fun f i j q1 q2 => by
    rw [← hx1, gI_sI, if_neg (by omega), gI_sI, if_neg (by omega)]; rfl
  have x12 : gI x1 22 d 2 = nI (n + 1) := by rw [← hx1, gI_sI, if_pos ⟨rfl, rfl, rfl⟩]
  have x123 : gI x1 23 d n = nI g := by rw [← hx1, gI_sI, if_neg (by omega), gI_sI, if_pos ⟨rfl, rfl, rfl⟩]
  have x1D : ∀ f i j, ¬ (f = 25 ∧ i = 6 * d + n) → gD x1 f i j = gD x f i j := fun f i j q => by
    rw [← hx1, gD_I, gD_I]
    exact putD_g (fun z => q ⟨z.1, z.2.1⟩)
  have x125 : ∀ k, k < 16 → gD x1 25 (6 * d + n) k = ownQ (gF x 1 0 k) (gF x 6 cl k) := fun k hk => by
    rw [← hx1, gD_I, gD_I]
    exact putD_h hk
  have x1F : gF x1 = gF x := by rw [← hx1]; rfl
  have x1L : gL x1 = gL x := by rw [← hx1]; rfl
  have m1I : ∀ f i j, ¬ (f = 14 ∧ j = 6 * d + n) → ¬ (f = 13 ∧ j = d) → ¬ (f = 0 ∧ j = 10) → gI m1 f i j = gI m f i j := fun f i j q1 q2 q3 => by
    rw [← hm1, gI_sI, if_neg (by omega), gI_sI, if_neg (by omega)]
    show gI (sI m 0 0 10 0) f i j = _
    rw [gI_sI, if_neg (by omega)]
  have m113 : gI m1 13 0 d = nI (n + 1) := by rw [← hm1, gI_sI, if_pos ⟨rfl, rfl, rfl⟩]
  have m114 : gI m1 14 0 (6 * d + n) = nI g := by rw [← hm1, gI_sI, if_neg (by omega), gI_sI, if_pos ⟨rfl, rfl, rfl⟩]
  have m1F : ∀ f j, ¬ (f = 1 ∧ 16 * (62 + 6 * d + n) ≤ j ∧ j < 16 * (62 + 6 * d + n) + 16) → gF m1 f 0 j = gF m f 0 j := fun f j q => by
    rw [← hm1]
    show gF (putO (sI m 0 0 10 0) 1 0 (16 * (62 + 6 * d + n)) 16 (fun k => gF m 1 0 (16 * 0 + k))) f 0 j = _
    rw [putO_g (by omega)]; rfl
  have m1R : ∀ k, k < 16 → gF m1 1 0 (16 * (62 + 6 * d + n) + k) = gF x 1 0 k := fun k hk => by
    rw [← hm1]
    show gF (putO (sI m 0 0 10 0) 1 0 (16 * (62 + 6 * d + n)) 16 (fun k => gF m 1 0 (16 * 0 + k))) 1 0 (16 * (62 + 6 * d + n) + k) = _
    rw [putO_h hk, Nat.mul_zero, Nat.zero_add]
    exact (h.2.2.1.1 k hk).2
  have m1D : gD m1 = gD m := by rw [← hm1]; rfl
  have m1L : gL m1 = gL m := by rw [← hm1]; rfl
  refine ⟨nI (n + 1), modS x1 w s_ 6 (nI d) 0 0, actS m1 (iN x 18 0 3) 3 (nI d) 0 0, ?_, ?_, ?_⟩
  · unfold fX11_strength
    rw [e1, Option.bind_some, if_neg n1, ck_t (by exact i12), z6, Option.bind_some, if_neg n1, nI_cl (n := d) (by omega), hlast, Option.bind_some, if_pos ((nI_ltJ L31 (by omega)).mpr hL), e222, if_pos (show nI n < (6 : Int32) from (nI_ltJ (b := 6) (by omega) (by decide)).mpr hn6), e220, ck_t (by exact ixl (by omega) (by omega)), nI_cl (n := cl) (by omega), hstr, Option.bind_some, hnote, Option.bind_some]
    dsimp only [un2]
    rw [xAccept, Option.bind_some]
    dsimp only [un2]
    have : gI (sI (noteS x1 w s_ 6 (nI d) 0 0) 0 0 19 0) 22 d 2 = nI (n + 1) := by
      rw [gI_sI, if_neg (by omega), noteS_I (by decide), x12]
    rw [this]; rfl
  · have hc := mCopy (m := sI m 0 0 10 0) (f := 0) (t := 62 + 6 * d + n) (by decide) (by omega) (by omega)
    unfold fX12_strength
    rw [lt1_e, qd, e2, Option.bind_some, if_neg n1, show lIM 13 0 = 12 from rfl, ck_t i12, nI_cl (n := d) (by omega), q13, lt1_e, if_neg z3, if_neg z4, e6 n]
    refine (hK _ _).trans ?_
    have e62 : ((62 : Int32) + ((6 : Int32) * nI d)) + nI n = nI (62 + 6 * d + n) := by
      show (nI 62 + nI 6 * nI d) + nI n = _
      simp only [pk_mul, nI_add]
    have q13b : gI (sI (putO (sI m 0 0 10 0) 1 0 (16 * (62 + 6 * d + n)) 16 (fun k => gF m 1 0 (16 * 0 + k))) 14 0 (6 * d + n) (nI g)) 13 0 d = nI n := q13
    rw [if_neg (show ¬ nI n = (6 : Int32) from fun q => n6' ((nI_inj (by omega) (by decide)).mp (show nI n = nI 6 from q))), e62, show fX12_copy (0 : Int32) (nI (62 + 6 * d + n)) (sI m 0 0 10 0) = some (putO (sI m 0 0 10 0) 1 0 (16 * (62 + 6 * d + n)) 16 (fun k => gF m 1 0 (16 * 0 + k))) from hc, Option.bind_some, show lIM 14 0 = 72 from rfl, ck_t (by exact ixl (by omega) (by omega)), nI_cl (n := 6 * d + n) (by omega), lt1_e, ck_t i12, ck_t i12, q13b, show nI n + (1 : Int32) = nI (n + 1) from nI_1 n, lt1_e, hm1]
    refine (congrArg (fun o => Option.bind o _) hact).trans ?_
    rw [Option.bind_some]
  · obtain ⟨B, D, hA⟩ := actS_c (m := m1) (s := iN x 18 0 3) (a := 3) (b := nI d) (c := 0) (d := 0) a2
    have hA2 : ActM (iN x 18 0 3) m (actS m1 (iN x 18 0 3) 3 (nI d) 0 0) 3 (nI d) 0 0 B D := by
      obtain ⟨p1, p2, p3, p4, p5, p6, p7⟩ := hA
      refine ⟨p1, p2, p3, p4, p5, p6, fun j hj => ⟨fun f q1 q2 => ((p7 j hj).1 f q1 q2).trans (m1I _ _ _ (by omega) (by omega) (by omega)), fun k hk => ⟨((p7 j hj).2 k hk).1.trans (m1F _ _ (by omega)), ((p7 j hj).2 k hk).2.trans (m1F _ _ (by omega))⟩⟩⟩
    have yC := fun k (hk : k < 6) i => modS_C (x1 := x1) (w := w) (s := s_) (a := 6) (b := nI d) (c := 0) (d := 0) (i := i) k hk
    have yI : ∀ f i j, f ≠ 18 ∧ f ≠ 55 ∧ (f ≠ 0 ∨ j ≠ 19) → gI (modS x1 w s_ 6 (nI d) 0 0) f i j = gI x1 f i j := fun f i j q => modS_I q
    have yw := modS_w (x1 := x1) (w := w) (s := s_) (a := 6) (b := nI d) (c := 0) (d := 0)
    have y55 : ∀ v j, v ≠ w → gI (modS x1 w s_ 6 (nI d) 0 0) 55 v j = gI x1 55 v j := fun v j q => modS_55 q
    have y9 : gI (modS x1 w s_ 6 (nI d) 0 0) 0 0 19 = 0 := rfl
    have yF : gF (modS x1 w s_ 6 (nI d) 0 0) = gF x := x1F
    have yD : gD (modS x1 w s_ 6 (nI d) 0 0) = gD x1 := rfl
    have yL : gL (modS x1 w s_ 6 (nI d) 0 0) = gL x := x1L
    have nS : SCM m1 (actS m1 (iN x 18 0 3) 3 (nI d) 0 0) := SCM_act
    have n9 := actS_9 (m := m1) (n := iN x 18 0 3) (a := 3) (b := nI d) (c := 0) (d := 0)
    have nI_ : ∀ f i j, f < 39 ∨ 42 < f → ¬ (f = 0 ∧ (j = 9 ∨ j = 44)) → gI (actS m1 (iN x 18 0 3) 3 (nI d) 0 0) f i j = gI m1 f i j := fun f i j q1 q2 => actS_I q1 q2
    have nF : ∀ f i j, f < 43 ∨ 44 < f → gF (actS m1 (iN x 18 0 3) 3 (nI d) 0 0) f i j = gF m1 f i j := fun f i j q => actS_F q
    have nD : gD (actS m1 (iN x 18 0 3) 3 (nI d) 0 0) = gD m := actS_D.1.trans m1D
    have nC := fun k (hk : k < 6) i => CM_act0 (x := x) (m := m1) (n := iN x 18 0 3) (i := i) (k := k) (a := 3) (b := nI d) (c := 0) (d := 0) hk
    generalize modS x1 w s_ 6 (nI d) 0 0 = y at yC yI yw y55 y9 yF yD yL ⊢
    generalize actS m1 (iN x 18 0 3) 3 (nI d) 0 0 = m' at hA2 nS n9 nI_ nF nD nC ⊢
    have ec : ∀ k, k < 6 → gI y 3 0 k = gI x 3 0 k := fun k _ => (yI _ _ _ (by omega)).trans (x1I _ _ _ (by omega) (by omega))
    have CXo : ∀ k, k < 6 → ∀ i, i < cN x k → ¬ (k = 2 ∧ i = d) → eqX k x y i := fun k hk i hi q => by
      refine CX_t k hk ?_ (yC k hk i)
      refine six (P := fun k => i < cN x k → ¬ (k = 2 ∧ i = d) → eqX k x x1 i) (fun _ _ k _ => by rw [x1F]; exact ⟨rfl, rfl⟩) (fun _ _ k _ => by rw [x1F]) (fun hi q => ?_) (fun _ _ => ⟨fun j _ => x1I _ _ _ (by omega) (by omega), fun _ _ => ⟨x1D _ _ _ (by omega), x1D _ _ _ (by omega)⟩⟩) (fun _ _ j _ => x1I _ _ _ (by omega) (by omega)) (fun _ _ => ⟨x1I _ _ _ (by omega) (by omega), x1I _ _ _ (by omega) (by omega), x1I _ _ _ (by omega) (by omega), x1I _ _ _ (by omega) (by omega), fun _ _ => ⟨x1I _ _ _ (by omega) (by omega), x1I _ _ _ (by omega) (by omega)⟩, fun _ _ _ => by rw [x1F]⟩) k hk hi q
      have s6 : iN x 22 i 2 ≤ 6 := (hx.2.2.2.1 i hi).2.2.1.2
      exact ⟨fun j _ => x1I _ _ _ (by omega) (by omega), fun s hs => ⟨x1I _ _ _ (by omega) (by omega), fun _ _ => x1D _ _ _ (by omega)⟩⟩
    have CMo : ∀ k, k < 6 → ∀ i, i < cN x k → ¬ (k = 2 ∧ i = d) → CM k x m m' i := fun k hk i hi q => by
      refine CM_t k hk ?_ (nC k hk i)
      have b0 : cN x 0 ≤ 40 := (hx.1 0 (by decide)).2
      have b1 : cN x 1 ≤ 8 := (hx.1 1 (by decide)).2
      have b5 : cN x 5 ≤ 12 := (hx.1 5 (by decide)).2
      refine six (P := fun k => i < cN x k → ¬ (k = 2 ∧ i = d) → CM k x m m1 i) (fun _ _ k _ => ⟨m1F _ _ (by omega), m1F _ _ (by omega)⟩) (fun _ _ k _ => m1F _ _ (by omega)) (fun hi q => ?_) (fun _ _ => ⟨m1I _ _ _ (by omega) (by omega) (by omega), m1I _ _ _ (by omega) (by omega) (by omega), m1I _ _ _ (by omega) (by omega) (by omega), fun _ _ => by rw [m1D]; exact ⟨rfl, rfl⟩⟩) (fun _ _ => ⟨m1I _ _ _ (by omega) (by omega) (by omega), m1I _ _ _ (by omega) (by omega) (by omega), m1I _ _ _ (by omega) (by omega) (by omega), m1I _ _ _ (by omega) (by omega) (by omega), m1I _ _ _ (by omega) (by omega) (by omega)⟩) (fun _ _ => ⟨m1I _ _ _ (by omega) (by omega) (by omega), m1I _ _ _ (by omega) (by omega) (by omega), m1I _ _ _ (by omega) (by omega) (by omega), m1I _ _ _ (by omega) (by omega) (by omega), fun _ _ => ⟨m1I _ _ _ (by omega) (by omega) (by omega), m1I _ _ _ (by omega) (by omega) (by omega)⟩, fun _ _ _ => m1F _ _ (by omega)⟩) k hk hi q
      have s6 : iN x 22 i 2 ≤ 6 := (hx.2.2.2.1 i hi).2.2.1.2
      exact ⟨m1I _ _ _ (by omega) (by omega) (by omega), m1I _ _ _ (by omega) (by omega) (by omega), m1I _ _ _ (by omega) (by omega) (by omega), fun s hs => ⟨m1I _ _ _ (by omega) (by omega) (by omega), fun _ _ => m1F _ _ (by omega)⟩⟩
    have y22 : ∀ j, j ≠ 2 → gI y 22 d j = gI x 22 d j := fun j q => (yI _ _ _ (by omega)).trans (x1I _ _ _ (by omega) (by omega))
    have y2 : gI y 22 d 2 = nI (n + 1) := (yI _ _ _ (by omega)).trans x12
    have y23 : ∀ s, s ≠ n → gI y 23 d s = gI x 23 d s := fun s q => (yI _ _ _ (by omega)).trans (x1I _ _ _ (by omega) (by omega))
    have y23n : gI y 23 d n = nI g := (yI _ _ _ (by omega)).trans x123
    have y25 : ∀ s k, s ≠ n → gD y 25 (6 * d + s) k = gD x 25 (6 * d + s) k := fun s k q => by rw [yD]; exact x1D _ _ _ (by omega)
    have y25n : ∀ k, k < 16 → gD y 25 (6 * d + n) k = ownQ (gF x 1 0 k) (gF x 6 cl k) := fun k hk => by rw [yD]; exact x125 k hk
    have v2 : iN y 22 d 2 = n + 1 := (isN_v (b := 6) y2 (by omega) (by decide)).1
    have v0 : iN y 22 d 0 = cl := (iN_e (y22 0 (by decide))).trans hcl_
    have bcl : cN x 1 ≤ 8 := (hx.1 1 (by decide)).2
    have mcl : ∀ k, k < 16 → gF m' 1 0 (16 * (41 + cl) + k) = gF x 6 cl k := fun k hk => (nF _ _ _ (by decide)).trans ((m1F _ _ (by omega)).trans (hm.2.2.1 cl o1' k hk))
    have mro : ∀ k, k < 16 → gF m' 1 0 (16 * (62 + 6 * d + n) + k) = gF x 1 0 k := fun k hk => (nF _ _ _ (by decide)).trans (m1R k hk)
    refine rel_mod h (by rw [hw]; exact yw.2.2.2.2.1) (by rw [hs]; exact yw.2.2.2.2.2) (fun v _ hv => ⟨fun k _ => (y55 v k (by omega)).trans (x1I _ _ _ (by omega) (by omega)), fun k _ => by rw [yF]⟩) ec (fun l _ => ?_) (fun i q1 q2 k hk => by rw [yF]; exact hx.2.1.2 i q1 q2 k hk) (fun k hk => ?_) (fun i hi => CMo 1 (by decide) i hi (by omega)) (fun k hk i hi => ?_) hA2 (fun hyc t ht hts => ?_) (fun hyc tm i h1 h2 h3 h4 h5 _ _ hLt => ?_) ⟨fun f i j q => (yI _ _ _ (by omega)).trans (x1I _ _ _ (by omega) (by omega)), fun _ _ _ _ => by rw [yF], fun f i j q => by rw [yD]; exact x1D _ _ _ (by omega), yL⟩ (SCM_t ⟨fun f i j q => m1I _ _ _ (by omega) (by omega) (by omega), fun j q => m1F _ _ (by omega), by rw [m1D], by rw [m1L]⟩ nS) (n9.trans y9.symm)
    · rw [iN_e ((yI 29 l 3 (by omega)).trans (x1I 29 l 3 (by omega) (by omega))), iN_e ((yI 29 l 4 (by omega)).trans (x1I 29 l 4 (by omega) (by omega)))]
      exact Nat.le_refl _
    · have ek := cM_v k hk
      exact (nI_ _ _ _ (by omega) (by omega)).trans (m1I _ _ _ (by omega) (by omega) (by omega))
    · by_cases e : k = 2 ∧ i = d
      · obtain ⟨rfl, rfl⟩ := e
        right
        refine ⟨⟨⟨isN_e (y22 0 (by decide)) o1, ?_⟩, isN_e (y22 1 (by decide)) o2, (isN_v y2 (by omega) (by decide)).2, fun s hs => ?_, fun k hk => ?_⟩, ?_, ?_, ?_, fun s hs => ⟨?_, fun k hk => ⟨?_, ?_⟩⟩⟩
        · rw [v0, show cN y 1 = cN x 1 from iN_e (ec 1 (by decide))]; exact o1'
        · rw [v2] at hs
          by_cases es : s = n
          · subst es; exact (isN_v y23n z2 (by decide)).2
          · exact isN_e (y23 s es) (o4 s (by omega))
        · obtain ⟨k1, k2, k3, k4⟩ := o5 k hk
          rw [v2]
          refine ⟨by omega, fun s hs => ?_, fun s hs => ?_, fun s hs => ?_⟩
          · by_cases es : s = n
            · subst es; rw [(isN_v (b := 100000) y23n z2 (by decide)).1]; exact ⟨z1, z2⟩
            · rw [iN_e (y23 s es)]; exact k2 s (by omega)
          · by_cases es : s + 1 = n
            · rw [es, (isN_v (b := 100000) y23n z2 (by decide)).1, iN_e (y23 s (by omega))]
              rw [if_neg (by omega)] at hL
              rw [show s = n - 1 by omega]; exact hL
            · rw [iN_e (y23 s (by omega)), iN_e (y23 (s + 1) es)]; exact k3 s (by omega)
          · dsimp only
            by_cases es : s = n
            · subst es; rw [y25n k hk]; exact ownQ_b (f1 k hk) (f2 k hk)
            · rw [y25 s k es]; exact k4 s (by omega)
        · rw [nI_ _ _ _ (by decide) (by omega), m1I _ _ _ (by omega) (by omega) (by omega), y22 0 (by decide)]; exact w1
        · rw [nI_ _ _ _ (by decide) (by omega), m113, y2]
        · rw [nI_ _ _ _ (by decide) (by omega), m1I _ _ _ (by omega) (by omega) (by omega), y22 1 (by decide)]; exact w3
        · rw [v2] at hs
          by_cases es : s = n
          · subst es; rw [nI_ _ _ _ (by decide) (by omega), m114, y23n]
          · rw [nI_ _ _ _ (by decide) (by omega), m1I _ _ _ (by omega) (by omega) (by omega), y23 s es]; exact (w4 s (by omega)).1
        · rw [v2] at hs
          by_cases es : s = n
          · subst es; rw [mro k hk]; exact f1 k hk
          · rw [nF _ _ _ (by decide), m1F _ _ (by omega)]; exact ((w4 s (by omega)).2 k hk).1
        · rw [v2] at hs
          rw [v0]
          unfold mO
          rw [mcl k hk]
          by_cases es : s = n
          · subst es; rw [mro k hk, y25n k hk]
          · rw [nF _ _ _ (by decide), m1F _ _ (by omega), y25 s k es, ← hm.2.2.1 cl o1' k hk]; exact ((w4 s (by omega)).2 k hk).2
      · exact Or.inl ⟨CXo k hk i hi e, CMo k hk i hi e⟩
    · rw [hw] at hts ⊢
      have r0 : gI t 55 w 0 = 6 := (hts.1 0 (by decide)).trans yw.1
      have r1 : gI t 55 w 1 = nI d := (hts.1 1 (by decide)).trans yw.2.1
      have ti := fun k hk i hi => LiveEq_X ht k hk i (by rw [show cN y k = cN x k from iN_e (ec k hk)]; exact hi)
      have t22 : gI t 22 d 2 = nI (n + 1) := ((ti 2 (by decide) d hd).1 2 (by decide)).trans y2
      refine ⟨sI t 22 d 2 (nI n), ?_, LiveEq_mk (fun k hk => ?_) (fun i q1 q2 k hk => ?_) (fun k hk i hi => ?_), rfl, rfl, fun f i j _ q _ _ _ => by rw [gI_sI, if_neg (by omega)], fun _ _ _ _ _ _ => rfl⟩
      · unfold undoAt
        rw [r0, if_pos (show (6 : Int32) ≤ 6 by decide)]
        unfold fX11_takeBack
        rw [ck_t (r55_0 w60), lt1_e, r0, if_pos rfl, ck_t (r55_1 w60), r1, ck_t (by exact i12), nI_cl (by omega), t22, show nI (n + 1) - (1 : Int32) = nI n from pk_sub (b := 1) (by omega), lt1_e]
      · exact (ht.1 k hk).trans (ec k hk)
      · exact LiveEq_z ht i (by rw [show cN y 0 = cN x 0 from iN_e (ec 0 (by decide))]; exact q1) q2 k hk
      · by_cases e : k = 2 ∧ i = d
        · obtain ⟨rfl, rfl⟩ := e
          obtain ⟨u1, u2⟩ := ti 2 (by decide) i hi
          refine ⟨fun j hj => ?_, fun s hs => ?_⟩
          · rw [gI_sI]
            by_cases ej : j = 2
            · subst ej; rw [if_pos ⟨rfl, rfl, rfl⟩]; exact e222.symm
            · rw [if_neg (by omega), u1 j hj, y22 j ej]
          · rw [hn_] at hs
            have := u2 s (by rw [v2]; omega)
            exact ⟨this.1.trans (y23 s (by omega)), fun k hk => (this.2 k hk).trans (y25 s k (by omega))⟩
        · exact CX_t k hk (CXo k hk i hi e) (CX_t k hk (ti k hk i hi) (CX_I k hk (by omega) (by omega) (by omega) (by omega)))
    · have eY := fun k hk => show cN y k = cN x k from iN_e (ec k hk)
      obtain ⟨l1, l2, l3, l4⟩ := LiveM_L hLt 2 (by decide) d (by rw [eY 2 (by decide)]; exact hd)
      refine ⟨_, mUndo_3 h2 h1 h3 h4 d12 (n := n) (by omega) (l2.trans y2), ?_, ?_, rfl, rfl, fun f i j q q13 _ _ _ _ _ => by rw [gI_sI, if_neg (by omega), gI_sI, if_neg (by omega), gI_sI, if_neg (by omega)], fun _ _ _ _ _ => rfl⟩
      · rfl
      · have uI : ∀ f j, ¬ (f = 13 ∧ j = d) → f ≠ 0 → gI (sI (sI (sI tm 0 0 10 0) 0 0 44 (nI i)) 13 0 d (nI n)) f 0 j = gI tm f 0 j := fun f j q1 q2 => by
          rw [gI_sI, if_neg (by omega), gI_sI, if_neg (by omega), gI_sI, if_neg (by omega)]
        have cmo : ∀ k, k < 6 → ∀ j, ¬ (k = 2 ∧ j = d) → CM k y tm (sI (sI (sI tm 0 0 10 0) 0 0 44 (nI i)) 13 0 d (nI n)) j := fun k hk j q =>
          six (P := fun k => ¬ (k = 2 ∧ j = d) → CM k y tm (sI (sI (sI tm 0 0 10 0) 0 0 44 (nI i)) 13 0 d (nI n)) j) (fun _ => CM_r y tm j 0 (by decide)) (fun _ => CM_r y tm j 1 (by decide)) (fun q => ⟨uI _ _ (by omega) (by decide), uI _ _ (by omega) (by decide), uI _ _ (by omega) (by decide), fun _ _ => ⟨uI _ _ (by omega) (by decide), fun _ _ => rfl⟩⟩) (fun _ => ⟨uI _ _ (by omega) (by decide), uI _ _ (by omega) (by decide), uI _ _ (by omega) (by decide), fun _ _ => ⟨rfl, rfl⟩⟩) (fun _ => ⟨uI _ _ (by omega) (by decide), uI _ _ (by omega) (by decide), uI _ _ (by omega) (by decide), uI _ _ (by omega) (by decide), uI _ _ (by omega) (by decide)⟩) (fun _ => ⟨uI _ _ (by omega) (by decide), uI _ _ (by omega) (by decide), uI _ _ (by omega) (by decide), uI _ _ (by omega) (by decide), fun _ _ => ⟨uI _ _ (by omega) (by decide), uI _ _ (by omega) (by decide)⟩, fun _ _ _ => rfl⟩) k hk q
        refine live_up (x := y) (m := tm) hyc hLt (fun k hk => ?_) (fun j _ => cmo 1 (by decide) j (by omega)) (fun k hk j hj => ?_)
        · have ek := cM_v k hk
          rw [gI_sI, if_neg (by omega), gI_sI, if_neg (by omega), gI_sI, if_neg (by omega), hLt.1 k hk, ec k hk]
        · by_cases e : k = 2 ∧ j = d
          · obtain ⟨rfl, rfl⟩ := e
            right
            refine ⟨?_, ?_, ?_, fun s hs => ?_⟩
            · rw [uI _ _ (by omega) (by decide), l1, y22 0 (by decide)]
            · rw [gI_sI, if_pos ⟨rfl, rfl, rfl⟩]; exact e222.symm
            · rw [uI _ _ (by omega) (by decide), l3, y22 1 (by decide)]
            · rw [hn_] at hs
              have := l4 s (by rw [v2]; omega)
              refine ⟨?_, fun k hk => ⟨(this.2 k hk).1, ?_⟩⟩
              · rw [uI _ _ (by omega) (by decide), this.1, y23 s (by omega)]
              · have q := (this.2 k hk).2
                rw [y25 s k (by omega), v0] at q
                rw [hcl_]
                exact q
          · exact Or.inl ⟨by rw [eY k hk]; exact hj, CX_s k hk (CXo k hk j hj e), cmo k hk j e⟩
