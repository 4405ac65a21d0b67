/-! ===== a weighing, by both ===== -/
theorem nI_ne1 {p : Nat} (h : p < 2 ^ 31) : ¬ nI p = (-1 : Int32) := fun e => by
  have := congrArg Int32.toInt e
  rw [nI_toInt h] at this
  have : (p : Int) = -1 := this
  omega
theorem xAddAt {t : Sto} {b l g n p c : Nat} (hb : b < 12) (hn : gI t 30 b 2 = nI n) (n8 : n ≤ 8) (hp : p ≤ n) (p8 : p < 8) (hno : ∀ k, k < p → gI t 31 b k ≠ nI l) (hy : p < n → gI t 31 b p = nI l ∧ gI t 32 b p = nI c) (hc : ¬ p < n → c = 0) : ∃ u, fX1_addGrams b (nI l) (nI g) t = some (nI (c + g), u) ∧ (∀ f i j, gI u f i j = if f = 32 ∧ i = b ∧ j = p then nI (c + g) else if f = 31 ∧ i = b ∧ j = p then nI l else if f = 30 ∧ i = b ∧ j = 2 then nI (if p < n then n else n + 1) else gI t f i j) ∧ gF u = gF t ∧ gD u = gD t ∧ gL u = gL t := by
  have l31 : lIX 31 b = 8 := if_pos hb
  have l32 : lIX 32 b = 8 := if_pos hb
  have hpl := xPlaceAt (x := t) (l := nI l) hb hn n8 hp hno (fun q => (hy q).1)
  unfold fX1_addGrams
  rw [hpl, Option.bind_some, jn_e]
  by_cases q : p < n
  · rw [if_pos q, if_neg (nI_ne1 (by omega)), l32]
    dsimp only
    rw [ck_t (by exact ixl (by omega) (by omega)), ck_t (by exact ixl (by omega) (by omega)), nI_cl (by omega), (hy q).2, nI_add, lt1_e, ck_t (by exact ixl (by omega) (by omega)), gI_sI, if_pos ⟨rfl, rfl, rfl⟩]
    refine ⟨_, rfl, fun f i j => ?_, rfl, rfl, rfl⟩
    rw [gI_sI, if_pos q]
    by_cases z : f = 32 ∧ i = b ∧ j = p
    · rw [if_pos z, if_pos z]
    · rw [if_neg z, if_neg z]
      by_cases z2 : f = 31 ∧ i = b ∧ j = p
      · rw [if_pos z2]; obtain ⟨rfl, rfl, rfl⟩ := z2; exact (hy q).1
      · rw [if_neg z2]
        by_cases z3 : f = 30 ∧ i = b ∧ j = 2
        · rw [if_pos z3]; obtain ⟨rfl, rfl, rfl⟩ := z3; exact hn
        · rw [if_neg z3]
  · have e : p = n := by omega
    subst e
    have c0 := hc q
    subst c0
    have z0 : (0 : Int32) + nI g = nI (0 + g) := nI_add 0 g
    rw [if_neg q, if_pos rfl, hn, lt1_e, show nI p + (1 : Int32) = nI (p + 1) from nI_1 p, lt1_e, l31, ck_t (by exact ixl (by omega) (by omega)), nI_cl (by omega), lt1_e, l32, ck_t (by exact ixl (by omega) (by omega)), lt1_e]
    dsimp only
    rw [ck_t (by exact ixl (by omega) (by omega)), ck_t (by exact ixl (by omega) (by omega)), nI_cl (by omega), show gI (sI (sI (sI t 30 b 2 (nI (p + 1))) 31 b p (nI l)) 32 b p 0) 32 b p = 0 from by rw [gI_sI, if_pos ⟨rfl, rfl, rfl⟩], z0, lt1_e, ck_t (by exact ixl (by omega) (by omega)), gI_sI, if_pos ⟨rfl, rfl, rfl⟩]
    refine ⟨_, rfl, fun f i j => ?_, rfl, rfl, rfl⟩
    rw [gI_sI, gI_sI, gI_sI, gI_sI, if_neg q]
    by_cases z : f = 32 ∧ i = b ∧ j = p
    · rw [if_pos z, if_pos z]
    · rw [if_neg z, if_neg z, if_neg z]
theorem b_weigh {x m : Sto} (h : Rel x m) (a d gr : Int32) : ∃ r x' m', fX11_weigh a d gr x = some (r, x') ∧ fX12_weigh a d gr m = some (r, m') ∧ Rel x' m' := by
  have hx := h.1.2.1
  have hm := h.1.2.2.1
  have n1 : ¬ (1 : Int32) = 0 := by decide
  obtain ⟨a1, a2⟩ := rel_acts h
  have q7 : gI (sI m 0 0 10 0) 0 0 7 = nI (cN x 5) := (rel_cnt h (k := 5) (by decide)).2.1
  have q6 : gI (sI m 0 0 10 0) 0 0 6 = nI (cN x 4) := (rel_cnt h (k := 4) (by decide)).2.1
  have cap5 : cN x 5 ≤ 12 := (hx.1 5 (by decide)).2
  have cap4 : cN x 4 ≤ 20 := (hx.1 4 (by decide)).2
  rcases both_is hx (a := 5) (by decide) a with ⟨b, rfl, hb, e1, e2⟩ | ⟨_, e1, e2⟩
  rotate_left
  · refine ⟨-1, _, _, ?_, ?_, rel_no (v := 2) h⟩
    · unfold fX11_weigh
      rw [show fX11_isThere (5 : Int32) a x = some 0 from e1, Option.bind_some, if_pos rfl, xRefused, Option.bind_some]; rfl
    · unfold fX12_weigh
      rw [lt1_e, q7, e2, Option.bind_some, if_pos rfl, mNo, Option.bind_some]; rfl
  have e1 : fX11_isThere (5 : Int32) (nI b) x = some 1 := e1
  rcases both_is hx (a := 4) (by decide) d with ⟨l, rfl, hl, e3, e4⟩ | ⟨_, e3, e4⟩
  rotate_left
  · refine ⟨-1, _, _, ?_, ?_, rel_no (v := 2) h⟩
    · unfold fX11_weigh
      rw [e1, Option.bind_some, if_neg n1, show fX11_isThere (4 : Int32) d x = some 0 from e3, Option.bind_some, if_pos rfl, xRefused, Option.bind_some]; rfl
    · unfold fX12_weigh
      rw [lt1_e, q7, e2, Option.bind_some, if_neg n1, q6, e4, Option.bind_some, if_pos rfl, mNo, Option.bind_some]; rfl
  have e3 : fX11_isThere (4 : Int32) (nI l) x = some 1 := e3
  have b12 : b < 12 := by omega
  have l20 : l < 20 := by omega
  have ib : 0 ≤ (nI b).toInt ∧ (nI b).toInt < ((12 : Nat) : Int) := ixl (by omega) (by omega)
  have il : 0 ≤ (nI l).toInt ∧ (nI l).toInt < ((20 : Nat) : Int) := ixl (by omega) (by omega)
  rcases rng gr 1 100000 (by decide) (by decide) with ⟨g, rfl, z1, z2, z3, z4, z5, z6⟩ | ⟨z, z6⟩
  rotate_left
  · refine ⟨-1, _, _, ?_, ?_, rel_no (v := 3) h⟩
    · unfold fX11_weigh
      rw [e1, Option.bind_some, if_neg n1, e3, Option.bind_some, if_neg n1, show fX11_isWithin gr (1 : Int32) (100000 : Int32) = some 0 from z6, Option.bind_some, if_pos rfl, xRefused, Option.bind_some]; rfl
    · unfold fX12_weigh
      rw [lt1_e, q7, e2, Option.bind_some, if_neg n1, q6, e4, Option.bind_some, if_neg n1]
      rcases z with z | ⟨z, _, z'⟩
      · rw [if_pos (show gr < (1 : Int32) from z), mNo, Option.bind_some]; rfl
      · rw [if_neg (show ¬ gr < (1 : Int32) from z), if_neg (show ¬ gr ≤ (100000 : Int32) from z'), mNo, Option.bind_some]; rfl
  have z6 : fX11_isWithin (nI g) (1 : Int32) (100000 : Int32) = some 1 := z6
  have z3 : ¬ nI g < (1 : Int32) := z3
  have z5 : nI g ≤ (100000 : Int32) := z5
  obtain ⟨⟨o0, o0'⟩, ⟨o1, o1'⟩, o2, o5, oP, oD, oR⟩ := hx.2.2.2.2.2.2 b hb
  obtain ⟨w0, w1, w2, w5, wP, wR⟩ := hm.2.2.2.2.2.2 b hb
  obtain ⟨⟨k0, k0'⟩, ⟨k1, k1'⟩, ⟨k2, k2'⟩, k3, k4, k5⟩ := hx.2.2.2.2.2.1 l hl
  obtain ⟨v0, v1, v2, v3, v4⟩ := hm.2.2.2.2.2.1 l hl
  generalize hn_ : iN x 30 b 2 = n at o2 oP oD wP
  have n8 : n ≤ 8 := by have := o2.2; omega
  have xn : gI x 30 b 2 = nI n := by rw [← hn_]; exact o2.1
  have mn : gI (sI m 0 0 10 0) 23 0 b = nI n := w2.trans xn
  generalize hL_ : iN x 29 l 4 = L at k4 k5
  have L9 : L ≤ 1000000000 := by rw [← hL_]; exact k4.2
  have xL : gI x 29 l 4 = nI L := by rw [← hL_]; exact k4.1
  have mL : gI (sI m 0 0 10 0) 20 0 l = nI L := v4.trans xL
  have eg : nI g * (1000 : Int32) = nI (1000 * g) := by
    show nI g * nI 1000 = _
    rw [pk_mul, Nat.mul_comm]
  have emg : (1000 : Int32) * nI g = nI (1000 * g) := pk_mul 1000 g
  have egl : (nI g).toInt64 * (1000 : Int64) = lN (1000 * g) := by
    rw [nI_64 (by omega)]
    show lN g * lN 1000 = _
    rw [lN_mul, Nat.mul_comm]
  have eLl : (nI L).toInt64 = lN L := nI_64 (by omega)
  -- too much for the lot
  by_cases hgL : 1000 * g ≤ L
  rotate_left
  · refine ⟨-1, _, _, ?_, ?_, rel_no (v := 4) h⟩
    · unfold fX11_weigh
      rw [e1, Option.bind_some, if_neg n1, e3, Option.bind_some, if_neg n1, z6, Option.bind_some, if_neg n1, ck_t (by exact il), nI_cl (n := l) (by omega), xL, eg, if_neg (nI_gt (by omega) (by omega)), xRefused, Option.bind_some]; rfl
    · unfold fX12_weigh
      rw [lt1_e, q7, e2, Option.bind_some, if_neg n1, q6, e4, Option.bind_some, if_neg n1, if_neg z3, if_pos z5, show lIM 20 0 = 20 from rfl, ck_t (by exact il), nI_cl (n := l) (by omega), mL, egl, eLl, if_neg (fun q => hgL ((lN_leI (by omega) (by omega)).mp ((lg_cmp_le _ _).mp q))), mNo, Option.bind_some]; rfl
  have xleq : nI (1000 * g) ≤ nI L := by
    rw [Int32.le_iff_toInt_le, nI_toInt (by omega), nI_toInt (by omega)]; omega
  have mleq : lg_cmp (lN (1000 * g)) (lN L) ≤ 0 := (lg_cmp_le _ _).mpr ((lN_leI (by omega) (by omega)).mpr hgL)
  -- its place
  obtain ⟨p, hp, pno, pyes⟩ := firstOf (fun k => gI x 31 b k = nI l) n
  have mlot : ∀ k, k < n → gI (sI m 0 0 10 0) 24 0 (8 * b + k) = gI x 31 b k := fun k hk => (wP k hk).1
  have mgr : ∀ k, k < n → gI (sI m 0 0 10 0) 25 0 (8 * b + k) = gI x 32 b k := fun k hk => (wP k hk).2
  have hpl := xPlaceAt (x := x) (l := nI l) b12 xn n8 hp pno pyes
  have hsl := mSlotAt (m := sI m 0 0 10 0) (l := nI l) b12 mn n8 hp (fun k hk => by rw [mlot k (by omega)]; exact pno k hk) (fun q => (mlot p q).trans (pyes q))
  by_cases p8 : p = 8
  · rw [if_neg (show ¬ p < n by omega)] at hpl
    refine ⟨-1, _, _, ?_, ?_, rel_no (v := 1) h⟩
    · unfold fX11_weigh fX1_hasRoomFor
      rw [e1, Option.bind_some, if_neg n1, e3, Option.bind_some, if_neg n1, z6, Option.bind_some, if_neg n1, ck_t (by exact il), nI_cl (n := l) (by omega), xL, eg, if_pos xleq, ck_t (by exact ib), nI_cl (n := b) (by omega), xn, if_neg (show ¬ nI n < (8 : Int32) from fun q => by have := (nI_ltJ (b := 8) (by omega) (by decide)).mp q; omega), hpl, Option.bind_some, if_pos rfl, Option.bind_some, if_pos rfl, xRefused, Option.bind_some]; rfl
    · unfold fX12_weigh
      rw [lt1_e, q7, e2, Option.bind_some, if_neg n1, q6, e4, Option.bind_some, if_neg n1, if_neg z3, if_pos z5, show lIM 20 0 = 20 from rfl, ck_t (by exact il), nI_cl (n := l) (by omega), mL, egl, eLl, if_pos mleq, hsl, Option.bind_some, if_pos (show nI p = (8 : Int32) by rw [p8]; rfl), mNo, Option.bind_some]; rfl
  have p8 : p < 8 := by omega
  have hroom : fX1_hasRoomFor b (nI l) x = some 1 := by
    unfold fX1_hasRoomFor
    rw [xn]
    by_cases q : n < 8
    · rw [if_pos (show nI n < (8 : Int32) from (nI_ltJ (b := 8) (by omega) (by decide)).mpr q)]
    · rw [if_neg (show ¬ nI n < (8 : Int32) from fun z => q ((nI_ltJ (b := 8) (by omega) (by decide)).mp z)), hpl, Option.bind_some, if_pos (show p < n by omega), if_neg (nI_ne1 (by omega))]
  -- the grams before
  obtain ⟨c, hc0, hc1, hcL⟩ : ∃ c, (p < n → gI x 32 b p = nI c ∧ iN x 32 b p = c ∧ c ≠ 0) ∧ (¬ p < n → c = 0) ∧ 1000 * c ≤ iN x 29 l 3 - L := by
    by_cases q : p < n
    · obtain ⟨⟨s1, s2⟩, s3, s4, s5⟩ := oP p q
      refine ⟨iN x 32 b p, fun _ => ⟨s3.1, rfl, by omega⟩, fun z => absurd q z, ?_⟩
      have : iN x 31 b p = l := by unfold iN; rw [pyes q]; exact nI_cl (by omega)
      rw [this, hL_] at s5
      exact s5
    · exact ⟨0, fun z => absurd z q, fun _ => rfl, by omega⟩
  have k3' := k3.2
  have cg6 : c + g ≤ 1000000 := by omega
  generalize hn' : (if p < n then n else n + 1) = n'
  have pn' : p < n' := by rw [← hn']; split <;> omega
  have n'8 : n' ≤ 8 := by rw [← hn']; split <;> omega
  have nn' : n ≤ n' := by rw [← hn']; split <;> omega
  have n'1 : n' ≤ n + 1 := by rw [← hn']; split <;> omega
  have nc : (if c = 0 then n' - 1 else n') = n := by
    rw [← hn']
    by_cases q : p < n
    · rw [if_pos q, if_neg (hc0 q).2.2]
    · rw [if_neg q, if_pos (hc1 q)]; omega
  generalize hw : (iN x 18 0 2 + 1) % 60 = w
  have w60 : w < 60 := by omega
  generalize hs : min (iN x 18 0 3 + 1) 60 = s_
  have eL : nI L - nI (1000 * g) = nI (L - 1000 * g) := pk_sub hgL
  have hnote := xNote (x := sI x 29 l 4 (nI (L - 1000 * g))) h.1.1 (8 : Int32) (nI b) (nI l) (nI g)
  rw [show iN (sI x 29 l 4 (nI (L - 1000 * g))) 18 0 2 = iN x 18 0 2 from rfl, show iN (sI x 29 l 4 (nI (L - 1000 * g))) 18 0 3 = iN x 18 0 3 from rfl, hw, hs] at hnote
  have x1I : ∀ f i j, gI (sI x 29 l 4 (nI (L - 1000 * g))) f i j = if f = 29 ∧ i = l ∧ j = 4 then nI (L - 1000 * g) else gI x f i j := fun f i j => gI_sI _ _ _ _ _ _ _ _
  have x1F : gF (sI x 29 l 4 (nI (L - 1000 * g))) = gF x := rfl
  have x1D : gD (sI x 29 l 4 (nI (L - 1000 * g))) = gD x := rfl
  have x1L : gL (sI x 29 l 4 (nI (L - 1000 * g))) = gL x := rfl
  generalize hx1 : sI x 29 l 4 (nI (L - 1000 * g)) = x1 at hnote x1I x1F x1D x1L
  have yw0 := modS_w (x1 := x1) (w := w) (s := s_) (a := 8) (b := nI b) (c := nI l) (d := nI g)
  have yI0 : ∀ f i j, f ≠ 18 ∧ f ≠ 55 ∧ (f ≠ 0 ∨ j ≠ 19) → gI (modS x1 w s_ 8 (nI b) (nI l) (nI g)) f i j = gI x1 f i j := fun f i j q => modS_I q
  have y550 : ∀ v j, v ≠ w → gI (modS x1 w s_ 8 (nI b) (nI l) (nI g)) 55 v j = gI x1 55 v j := fun v j q => modS_55 q
  have y190 : gI (modS x1 w s_ 8 (nI b) (nI l) (nI g)) 0 0 19 = 0 := rfl
  have yF0 : gF (modS x1 w s_ 8 (nI b) (nI l) (nI g)) = gF x := x1F
  have yD0 : gD (modS x1 w s_ 8 (nI b) (nI l) (nI g)) = gD x := x1D
  have yL0 : gL (modS x1 w s_ 8 (nI b) (nI l) (nI g)) = gL x := x1L
  have yx : ∀ f i j, f ≠ 18 ∧ f ≠ 55 ∧ (f ≠ 0 ∨ j ≠ 19) → ¬ (f = 29 ∧ i = l ∧ j = 4) → gI (modS x1 w s_ 8 (nI b) (nI l) (nI g)) f i j = gI x f i j := fun f i j q q2 => by rw [yI0 f i j q, x1I, if_neg q2]
  have y290 : gI (modS x1 w s_ 8 (nI b) (nI l) (nI g)) 29 l 4 = nI (L - 1000 * g) := by rw [yI0 _ _ _ (by decide), x1I, if_pos ⟨rfl, rfl, rfl⟩]
  obtain ⟨y, hadd, yA, yF1, yD1, yL1⟩ := xAddAt (t := modS x1 w s_ 8 (nI b) (nI l) (nI g)) (b := b) (l := l) (g := g) (n := n) (p := p) (c := c) b12 ((yx _ _ _ (by omega) (by omega)).trans xn) n8 hp p8 (fun k hk => by rw [yx _ _ _ (by omega) (by omega)]; exact pno k hk) (fun q => ⟨(yx _ _ _ (by omega) (by omega)).trans (pyes q), (yx _ _ _ (by omega) (by omega)).trans (hc0 q).1⟩) hc1
  rw [hn'] at yA
  -- the reference's
  have e8 : ((8 : Int32) * nI b) + nI p = nI (8 * b + p) := by
    show nI 8 * nI b + nI p = _
    simp only [pk_mul, nI_add]
  obtain ⟨m1, hM, m1I, m1F, m1D, m1L⟩ : ∃ m1, fX12_weigh (nI b) (nI l) (nI g) m = (fX12_act (8 : Int32) (nI b) (nI l) (nI g) m1).bind (fun (t26 : Sto) => ck (0 ≤ (nI (8 * b + p)).toInt ∧ (nI (8 * b + p)).toInt < (lIM (25) (0) : Int)) (some (gI t26 (25) (0) ((nI (8 * b + p)).toNatClampNeg), t26))) ∧ (∀ f i j, gI m1 f i j = if f = 20 ∧ i = 0 ∧ j = l then nI (L - 1000 * g) else if f = 25 ∧ i = 0 ∧ j = 8 * b + p then nI (c + g) else if f = 23 ∧ i = 0 ∧ j = b then nI n' else if f = 24 ∧ i = 0 ∧ j = 8 * b + p then nI l else gI (sI m 0 0 10 0) f i j) ∧ gF m1 = gF m ∧ gD m1 = gD m ∧ gL m1 = gL m := by
    unfold fX12_weigh
    rw [lt1_e, q7, e2, Option.bind_some, if_neg n1, q6, e4, Option.bind_some, if_neg n1, if_neg z3, if_pos z5, show lIM 20 0 = 20 from rfl, ck_t (by exact il), nI_cl (n := l) (by omega), mL, egl, eLl, if_pos mleq, hsl, Option.bind_some, if_neg (show ¬ nI p = (8 : Int32) from fun q => by have := (nI_inj (by omega) (by decide)).mp (show nI p = nI 8 from q); omega), show lIM 23 0 = 12 from rfl, ck_t (by exact ib), jn_e, nI_cl (n := b) (by omega), mn, e8]
    have MR : gF (sI m 0 0 10 0) = gF m ∧ gD (sI m 0 0 10 0) = gD m ∧ gL (sI m 0 0 10 0) = gL m := ⟨rfl, rfl, rfl⟩
    generalize sI m 0 0 10 0 = M at mn mL mlot mgr MR
    have i25 : 0 ≤ (nI (8 * b + p)).toInt ∧ (nI (8 * b + p)).toInt < ((96 : Nat) : Int) := ixl (by omega) (by omega)
    by_cases q : p < n
    · rw [if_pos q] at hn'
      subst hn'
      have q25 := (mgr p q).trans (hc0 q).1
      rw [if_neg (show ¬ nI p = nI n from fun z => by have := (nI_inj (by omega) (by omega)).mp z; omega), show lIM 25 0 = 96 from rfl]
      dsimp only
      rw [ck_t (by exact i25), ck_t (by exact i25), nI_cl (n := 8 * b + p) (by omega), q25, nI_add, lt1_e, ck_t (by exact il), ck_t (by exact il), show gI (sI M 25 0 (8 * b + p) (nI (c + g))) 20 0 l = nI L from by rw [gI_sI, if_neg (by omega)]; exact mL, emg, eL, lt1_e]
      refine ⟨_, rfl, fun f i j => ?_, MR⟩
      rw [gI_sI, gI_sI]
      by_cases y1 : f = 20 ∧ i = 0 ∧ j = l
      · rw [if_pos y1, if_pos y1]
      · rw [if_neg y1, if_neg y1]
        by_cases y2 : f = 25 ∧ i = 0 ∧ j = 8 * b + p
        · rw [if_pos y2, if_pos y2]
        · rw [if_neg y2, if_neg y2]
          by_cases y3 : f = 23 ∧ i = 0 ∧ j = b
          · rw [if_pos y3]; obtain ⟨rfl, rfl, rfl⟩ := y3; exact mn
          · rw [if_neg y3]
            by_cases y4 : f = 24 ∧ i = 0 ∧ j = 8 * b + p
            · rw [if_pos y4]; obtain ⟨rfl, rfl, rfl⟩ := y4; exact (mlot p q).trans (pyes q)
            · rw [if_neg y4]
    · rw [if_neg q] at hn'
      have e : p = n := by omega
      subst e
      subst hn'
      have c0 := hc1 q
      subst c0
      rw [if_pos rfl, show lIM 24 0 = 96 from rfl, ck_t (by exact i25), nI_cl (n := 8 * b + p) (by omega), lt1_e, show lIM 25 0 = 96 from rfl, ck_t (by exact i25), lt1_e, ck_t (by exact ib), ck_t (by exact ib), show gI (sI (sI M 24 0 (8 * b + p) (nI l)) 25 0 (8 * b + p) 0) 23 0 b = nI p from by rw [gI_sI, if_neg (by omega), gI_sI, if_neg (by omega)]; exact mn, show nI p + (1 : Int32) = nI (p + 1) from nI_1 p, lt1_e]
      dsimp only
      rw [ck_t (by exact i25), ck_t (by exact i25), show gI (sI (sI (sI M 24 0 (8 * b + p) (nI l)) 25 0 (8 * b + p) 0) 23 0 b (nI (p + 1))) 25 0 (8 * b + p) = 0 from by rw [gI_sI, if_neg (by omega), gI_sI, if_pos ⟨rfl, rfl, rfl⟩], show (0 : Int32) + nI g = nI (0 + g) from nI_add 0 g, lt1_e, ck_t (by exact il), ck_t (by exact il), show gI (sI (sI (sI (sI M 24 0 (8 * b + p) (nI l)) 25 0 (8 * b + p) 0) 23 0 b (nI (p + 1))) 25 0 (8 * b + p) (nI (0 + g))) 20 0 l = nI L from by rw [gI_sI, if_neg (by omega), gI_sI, if_neg (by omega), gI_sI, if_neg (by omega), gI_sI, if_neg (by omega)]; exact mL, emg, eL, lt1_e]
      refine ⟨_, rfl, fun f i j => ?_, MR⟩
      rw [gI_sI, gI_sI, gI_sI, gI_sI, gI_sI]
      by_cases y2 : f = 25 ∧ i = 0 ∧ j = 8 * b + p
      · rw [if_pos y2, if_pos y2]
      · rw [if_neg y2, if_neg y2, if_neg y2]
  have m44 : gI m1 0 0 44 = nI (iN x 18 0 3) := by rw [m1I, if_neg (by omega), if_neg (by omega), if_neg (by omega), if_neg (by omega)]; exact a1
  have hact := mAct m44 a2 8 (nI b) (nI l) (nI g)
  have m1' : ∀ f i j, ¬ (f = 20 ∧ j = l) → ¬ (f = 25 ∧ j = 8 * b + p) → ¬ (f = 23 ∧ j = b) → ¬ (f = 24 ∧ j = 8 * b + p) → ¬ (f = 0 ∧ j = 10) → gI m1 f i j = gI m f i j := fun f i j q1 q2 q3 q4 q5 => by
    rw [m1I, if_neg (by omega), if_neg (by omega), if_neg (by omega), if_neg (by omega), gI_sI, if_neg (by omega)]
  have m125 : gI m1 25 0 (8 * b + p) = nI (c + g) := by rw [m1I, if_neg (by omega), if_pos ⟨rfl, rfl, rfl⟩]
  refine ⟨nI (c + g), y, actS m1 (iN x 18 0 3) 8 (nI b) (nI l) (nI g), ?_, ?_, ?_⟩
  · unfold fX11_weigh
    rw [e1, Option.bind_some, if_neg n1, e3, Option.bind_some, if_neg n1, z6, Option.bind_some, if_neg n1, ck_t (by exact il), nI_cl (n := l) (by omega), xL, eg, if_pos xleq, ck_t (by exact ib), nI_cl (n := b) (by omega), hroom, Option.bind_some, if_neg n1, ck_t (by exact il), eL, hx1, lt1_e, hnote, Option.bind_some]
    dsimp only [un2]
    rw [xAccept, Option.bind_some]
    dsimp only [un2]
    rw [ck_t (by exact ib), show fX1_addGrams b (nI l) (nI g) (sI (noteS x1 w s_ 8 (nI b) (nI l) (nI g)) 0 0 19 0) = some (nI (c + g), y) from hadd, Option.bind_some]; rfl
  · rw [hM]
    refine (congrArg (fun o => Option.bind o _) hact).trans ?_
    rw [Option.bind_some, show lIM 25 0 = 96 from rfl, ck_t (by exact ixl (by omega) (by omega)), nI_cl (n := 8 * b + p) (by omega), actS_I (by decide) (by omega), m125]
  obtain ⟨B, D, hA⟩ := actS_c (m := m1) (s := iN x 18 0 3) (a := 8) (b := nI b) (c := nI l) (d := nI g) a2
  have hA2 : ActM (iN x 18 0 3) m (actS m1 (iN x 18 0 3) 8 (nI b) (nI l) (nI g)) 8 (nI b) (nI l) (nI g) B D := by
    obtain ⟨p1, p2, p3, p4, p5, p6, p7⟩ := hA
    refine ⟨p1, p2, p3, p4, p5, p6, fun j hj => ⟨fun f q1 q2 => ((p7 j hj).1 f q1 q2).trans (m1' _ _ _ (by omega) (by omega) (by omega) (by omega) (by omega)), fun k hk => ⟨((p7 j hj).2 k hk).1.trans (by rw [m1F]), ((p7 j hj).2 k hk).2.trans (by rw [m1F])⟩⟩⟩
  have n9 := actS_9 (m := m1) (n := iN x 18 0 3) (a := 8) (b := nI b) (c := nI l) (d := nI g)
  have nI_ : ∀ f i j, f < 39 ∨ 42 < f → ¬ (f = 0 ∧ (j = 9 ∨ j = 44)) → gI (actS m1 (iN x 18 0 3) 8 (nI b) (nI l) (nI g)) f i j = gI m1 f i j := fun f i j q1 q2 => actS_I q1 q2
  have nF : ∀ f i j, f < 43 ∨ 44 < f → gF (actS m1 (iN x 18 0 3) 8 (nI b) (nI l) (nI g)) f i j = gF m f i j := fun f i j q => (actS_F q).trans (by rw [m1F])
  have nD : gD (actS m1 (iN x 18 0 3) 8 (nI b) (nI l) (nI g)) = gD m := actS_D.1.trans m1D
  have nL : gL (actS m1 (iN x 18 0 3) 8 (nI b) (nI l) (nI g)) = gL m := actS_D.2.trans m1L
  generalize actS m1 (iN x 18 0 3) 8 (nI b) (nI l) (nI g) = m' at hA2 n9 nI_ nF nD nL ⊢
  have mI : ∀ f i j, f < 39 ∨ 42 < f → ¬ (f = 0 ∧ (j = 9 ∨ j = 10 ∨ j = 44)) → ¬ (f = 20 ∧ j = l) → ¬ (f = 25 ∧ j = 8 * b + p) → ¬ (f = 23 ∧ j = b) → ¬ (f = 24 ∧ j = 8 * b + p) → gI m' f i j = gI m f i j := fun f i j q1 q2 q3 q4 q5 q6 => (nI_ f i j q1 (by omega)).trans (m1' f i j q3 q4 q5 q6 (by omega))
  have m25 : gI m' 25 0 (8 * b + p) = nI (c + g) := (nI_ _ _ _ (by decide) (by omega)).trans m125
  have m20 : gI m' 20 0 l = nI (L - 1000 * g) := (nI_ _ _ _ (by decide) (by omega)).trans (by rw [m1I, if_pos ⟨rfl, rfl, rfl⟩])
  have m23 : gI m' 23 0 b = nI n' := (nI_ _ _ _ (by decide) (by omega)).trans (by rw [m1I, if_neg (by omega), if_neg (by omega), if_pos ⟨rfl, rfl, rfl⟩])
  have m24 : gI m' 24 0 (8 * b + p) = nI l := (nI_ _ _ _ (by decide) (by omega)).trans (by rw [m1I, if_neg (by omega), if_neg (by omega), if_neg (by omega), if_pos ⟨rfl, rfl, rfl⟩])
  have yI : ∀ f i j, f ≠ 18 ∧ f ≠ 55 ∧ (f ≠ 0 ∨ j ≠ 19) → ¬ (f = 29 ∧ i = l ∧ j = 4) → ¬ (f = 30 ∧ i = b ∧ j = 2) → ¬ (f = 31 ∧ i = b ∧ j = p) → ¬ (f = 32 ∧ i = b ∧ j = p) → gI y f i j = gI x f i j := fun f i j q1 q2 q3 q4 q5 => by rw [yA, if_neg q5, if_neg q4, if_neg q3, yx f i j q1 q2]
  have y0 : ∀ f i j, f < 29 ∨ 32 < f → gI y f i j = gI (modS x1 w s_ 8 (nI b) (nI l) (nI g)) f i j := fun f i j q => by rw [yA, if_neg (by omega), if_neg (by omega), if_neg (by omega)]
  have y29 : gI y 29 l 4 = nI (L - 1000 * g) := by rw [yA, if_neg (by omega), if_neg (by omega), if_neg (by omega), y290]
  have y30 : gI y 30 b 2 = nI n' := by rw [yA, if_neg (by omega), if_neg (by omega), if_pos ⟨rfl, rfl, rfl⟩]
  have y31 : gI y 31 b p = nI l := by rw [yA, if_neg (by omega), if_pos ⟨rfl, rfl, rfl⟩]
  have y32 : gI y 32 b p = nI (c + g) := by rw [yA, if_pos ⟨rfl, rfl, rfl⟩]
  have y55 : ∀ v j, v ≠ w → gI y 55 v j = gI x 55 v j := fun v j q => by rw [y0 _ _ _ (by decide), y550 v j q, x1I, if_neg (by omega)]
  have y19 : gI y 0 0 19 = 0 := (y0 _ _ _ (by decide)).trans y190
  have yF : gF y = gF x := yF1.trans yF0
  have yD : gD y = gD x := yD1.trans yD0
  have yL : gL y = gL x := yL1.trans yL0
  have r0 : gI y 55 w 0 = 8 := (y0 _ _ _ (by decide)).trans yw0.1
  have r1 : gI y 55 w 1 = nI b := (y0 _ _ _ (by decide)).trans yw0.2.1
  have r2 : gI y 55 w 2 = nI l := (y0 _ _ _ (by decide)).trans yw0.2.2.1
  have r3 : gI y 55 w 3 = nI g := (y0 _ _ _ (by decide)).trans yw0.2.2.2.1
  have y182 : gI y 18 0 2 = nI w := (y0 _ _ _ (by decide)).trans yw0.2.2.2.2.1
  have y183 : gI y 18 0 3 = nI s_ := (y0 _ _ _ (by decide)).trans yw0.2.2.2.2.2
  clear yw0 yI0 y550 y190 yF0 yD0 yL0 y290 yF1 yD1 yL1 hadd hnote hM hact
  have ec : ∀ k, k < 6 → gI y 3 0 k = gI x 3 0 k := fun k _ => yI 3 0 k (by omega) (by omega) (by omega) (by omega) (by omega)
  have CXo : ∀ k, k < 6 → ∀ i, ¬ (k = 5 ∧ i = b) → ¬ (k = 4 ∧ i = l) → eqX k x y i := fun k hk i q q' =>
    six (P := fun k => ¬ (k = 5 ∧ i = b) → ¬ (k = 4 ∧ i = l) → eqX k x y i) (fun _ _ k _ => by rw [yF]; exact ⟨rfl, rfl⟩) (fun _ _ k _ => by rw [yF]) (fun _ _ => ⟨fun j _ => yI _ _ _ (by omega) (by omega) (by omega) (by omega) (by omega), fun s _ => ⟨yI _ _ _ (by omega) (by omega) (by omega) (by omega) (by omega), fun _ _ => by rw [yD]⟩⟩) (fun _ _ => ⟨fun j _ => yI _ _ _ (by omega) (by omega) (by omega) (by omega) (by omega), fun _ _ => by rw [yD]; exact ⟨rfl, rfl⟩⟩) (fun _ q' j _ => yI _ _ _ (by omega) (by omega) (by omega) (by omega) (by omega)) (fun q _ => ⟨yI _ _ _ (by omega) (by omega) (by omega) (by omega) (by omega), yI _ _ _ (by omega) (by omega) (by omega) (by omega) (by omega), yI _ _ _ (by omega) (by omega) (by omega) (by omega) (by omega), yI _ _ _ (by omega) (by omega) (by omega) (by omega) (by omega), fun _ _ => ⟨yI _ _ _ (by omega) (by omega) (by omega) (by omega) (by omega), yI _ _ _ (by omega) (by omega) (by omega) (by omega) (by omega)⟩, fun _ _ _ => by rw [yF]⟩) k hk q q'
  have CMo : ∀ k, k < 6 → ∀ i, i < cN x k → ¬ (k = 5 ∧ i = b) → ¬ (k = 4 ∧ i = l) → CM k x m m' i := fun k hk i hi q q' => by
    refine six (P := fun k => i < cN x k → ¬ (k = 5 ∧ i = b) → ¬ (k = 4 ∧ i = l) → CM k x m m' i) (fun _ _ _ k _ => ⟨nF _ _ _ (by decide), nF _ _ _ (by decide)⟩) (fun _ _ _ k _ => nF _ _ _ (by decide)) (fun _ _ _ => ⟨mI _ _ _ (by omega) (by omega) (by omega) (by omega) (by omega) (by omega), mI _ _ _ (by omega) (by omega) (by omega) (by omega) (by omega) (by omega), mI _ _ _ (by omega) (by omega) (by omega) (by omega) (by omega) (by omega), fun s _ => ⟨mI _ _ _ (by omega) (by omega) (by omega) (by omega) (by omega) (by omega), fun _ _ => nF _ _ _ (by decide)⟩⟩) (fun _ _ _ => ⟨mI _ _ _ (by omega) (by omega) (by omega) (by omega) (by omega) (by omega), mI _ _ _ (by omega) (by omega) (by omega) (by omega) (by omega) (by omega), mI _ _ _ (by omega) (by omega) (by omega) (by omega) (by omega) (by omega), fun _ _ => by rw [nD]; exact ⟨rfl, rfl⟩⟩) (fun _ _ q' => ⟨mI _ _ _ (by omega) (by omega) (by omega) (by omega) (by omega) (by omega), mI _ _ _ (by omega) (by omega) (by omega) (by omega) (by omega) (by omega), mI _ _ _ (by omega) (by omega) (by omega) (by omega) (by omega) (by omega), mI _ _ _ (by omega) (by omega) (by omega) (by omega) (by omega) (by omega), mI _ _ _ (by omega) (by omega) (by omega) (by omega) (by omega) (by omega)⟩) (fun hi q _ => ?_) k hk hi q q'
    have s8 : iN x 30 i 2 ≤ 8 := (hx.2.2.2.2.2.2 i hi).2.2.1.2
    exact ⟨mI _ _ _ (by omega) (by omega) (by omega) (by omega) (by omega) (by omega), mI _ _ _ (by omega) (by omega) (by omega) (by omega) (by omega) (by omega), mI _ _ _ (by omega) (by omega) (by omega) (by omega) (by omega) (by omega), mI _ _ _ (by omega) (by omega) (by omega) (by omega) (by omega) (by omega), fun _ _ => ⟨mI _ _ _ (by omega) (by omega) (by omega) (by omega) (by omega) (by omega), mI _ _ _ (by omega) (by omega) (by omega) (by omega) (by omega) (by omega)⟩, fun _ _ _ => nF _ _ _ (by decide)⟩
  have yB : ∀ j, j ≠ 2 → gI y 30 b j = gI x 30 b j := fun j q => yI _ _ _ (by omega) (by omega) (by omega) (by omega) (by omega)
  have yl : ∀ j, j ≠ 4 → gI y 29 l j = gI x 29 l j := fun j q => yI _ _ _ (by omega) (by omega) (by omega) (by omega) (by omega)
  have yp : ∀ k, k ≠ p → gI y 31 b k = gI x 31 b k ∧ gI y 32 b k = gI x 32 b k := fun k q => ⟨yI _ _ _ (by omega) (by omega) (by omega) (by omega) (by omega), yI _ _ _ (by omega) (by omega) (by omega) (by omega) (by omega)⟩
  have vn' : iN y 30 b 2 = n' := (isN_v (b := 8) y30 n'8 (by decide)).1
  have vL : iN y 29 l 4 = L - 1000 * g := (isN_v (b := 1000000000) y29 (by omega) (by decide)).1
  have vl : iN y 31 b p = l := (isN_v (b := 20) y31 (by omega) (by decide)).1
  have vg : iN y 32 b p = c + g := (isN_v (b := 1000000) y32 cg6 (by decide)).1
  have hl2 : ∀ l', iN x 29 l' 3 - iN x 29 l' 4 ≤ iN y 29 l' 3 - iN y 29 l' 4 := fun l' => by
    by_cases e : l' = l
    · subst e
      rw [vL, hL_, iN_e (yl 3 (by decide))]; omega
    · rw [iN_e (yI 29 l' 3 (by omega) (by omega) (by omega) (by omega) (by omega)), iN_e (yI 29 l' 4 (by omega) (by omega) (by omega) (by omega) (by omega))]; exact Nat.le_refl _
  have kn : ∀ k, k < n' → k ≠ p → k < n := fun k q1 q2 => by
    by_cases q : p < n
    · rw [if_pos q] at hn'; omega
    · rw [if_neg q] at hn'; omega
  have eY := fun k hk => show cN y k = cN x k from iN_e (ec k hk)
  have nol : ∀ k, k < n → k < p → iN x 31 b k ≠ l := fun k q1 q2 e => pno k q2 (by
    have := (oP k q1).1.1.1
    rw [this, e])
  refine rel_mod h (by rw [hw]; exact y182) (by rw [hs]; exact y183) (fun v _ hv => ⟨fun k _ => y55 v k (by omega), fun k _ => by rw [yF]⟩) ec (fun l' _ => hl2 l') (fun i q1 q2 k hk => by rw [yF]; exact hx.2.1.2 i q1 q2 k hk) (fun k hk => ?_) (fun i hi => CMo 1 (by decide) i hi (by omega) (by omega)) (fun k hk i hi => ?_) hA2 (fun hyc t ht hts => ?_) (fun hyc tm i h1 h2 h3 h4 h5 h6 _ hLt => ?_) ⟨fun f i j q => yI _ _ _ (by omega) (by omega) (by omega) (by omega) (by omega), fun _ _ _ _ => by rw [yF], fun f i j q => by rw [yD], yL⟩ ⟨fun f i j q => mI _ _ _ (by omega) (by omega) (by omega) (by omega) (by omega) (by omega), fun j q => nF _ _ _ (by decide), by rw [nD], by rw [nL]⟩ (n9.trans y19.symm)
  · have ek := cM_v k hk
    exact mI _ _ _ (by omega) (by omega) (by omega) (by omega) (by omega) (by omega)
  · by_cases e : k = 5 ∧ i = b
    · obtain ⟨rfl, rfl⟩ := e
      right
      refine ⟨⟨⟨isN_e (yB 0 (by decide)) o0, ?_⟩, ⟨isN_e (yB 1 (by decide)) o1, ?_⟩, (isN_v y30 n'8 (by decide)).2, isN_e (yB 5 (by decide)) o5, fun k hk => ?_, fun j k hjk hk => ?_, fun q k hk => ?_⟩, ?_, ?_, ?_, ?_, fun k hk => ?_, fun q k hk => ?_⟩
      · rw [iN_e (yB 0 (by decide)), eY 1 (by decide)]; exact o0'
      · rw [iN_e (yB 1 (by decide))]; exact o1'
      · rw [vn'] at hk
        by_cases ek : k = p
        · subst ek
          rw [vl, vg, vL, iN_e (yl 3 (by decide)), eY 4 (by decide)]
          exact ⟨⟨(isN_v y31 (by omega) (by decide)).2, hl⟩, (isN_v y32 cg6 (by decide)).2, by omega, by omega⟩
        · obtain ⟨⟨s1, s2⟩, s3, s4, s5⟩ := oP k (kn k hk ek)
          obtain ⟨t1, t2⟩ := yp k ek
          refine ⟨⟨isN_e t1 s1, ?_⟩, isN_e t2 s3, ?_, ?_⟩
          · rw [iN_e t1, eY 4 (by decide)]; exact s2
          · rw [iN_e t2]; exact s4
          · rw [iN_e t2, iN_e t1]; exact Nat.le_trans s5 (hl2 _)
      · rw [vn'] at hk
        by_cases ek : k = p
        · subst ek
          rw [vl, iN_e (yp j (by omega)).1]
          exact nol j (by omega) hjk
        · have kn' := kn k hk ek
          rw [iN_e (yp k ek).1]
          by_cases ej : j = p
          · subst ej
            rw [vl]
            have e31 : iN x 31 i j = l := by unfold iN; rw [pyes (by omega)]; exact nI_cl (by omega)
            rw [← e31]; exact oD j k hjk kn'
          · rw [iN_e (yp j ej).1]; exact oD j k hjk kn'
      · rw [iN_e (yB 5 (by decide))] at q
        rw [yF]; exact oR q k hk
      · rw [mI _ _ _ (by omega) (by omega) (by omega) (by omega) (by omega) (by omega), yB 0 (by decide)]; exact w0
      · rw [mI _ _ _ (by omega) (by omega) (by omega) (by omega) (by omega) (by omega), yB 1 (by decide)]; exact w1
      · rw [m23, y30]
      · rw [mI _ _ _ (by omega) (by omega) (by omega) (by omega) (by omega) (by omega), yB 5 (by decide)]; exact w5
      · rw [vn'] at hk
        by_cases ek : k = p
        · subst ek
          rw [m24, m25, y31, y32]; exact ⟨rfl, rfl⟩
        · obtain ⟨t1, t2⟩ := yp k ek
          have := wP k (kn k hk ek)
          rw [mI _ _ _ (by omega) (by omega) (by omega) (by omega) (by omega) (by omega), mI _ _ _ (by omega) (by omega) (by omega) (by omega) (by omega) (by omega), t1, t2]; exact this
      · rw [iN_e (yB 5 (by decide))] at q
        rw [yF, nF _ _ _ (by decide)]; exact wR q k hk
    · by_cases e' : k = 4 ∧ i = l
      · obtain ⟨rfl, rfl⟩ := e'
        right
        refine ⟨⟨⟨isN_e (yl 0 (by decide)) k0, ?_⟩, ⟨isN_e (yl 1 (by decide)) k1, ?_⟩, ⟨isN_e (yl 2 (by decide)) k2, ?_⟩, isN_e (yl 3 (by decide)) k3, (isN_v y29 (by omega) (by decide)).2, ?_⟩, ?_, ?_, ?_, ?_, ?_⟩
        · rw [iN_e (yl 0 (by decide)), eY 2 (by decide)]; exact k0'
        · rw [iN_e (yl 1 (by decide))]; exact k1'
        · rw [iN_e (yl 2 (by decide))]; exact k2'
        · rw [vL, iN_e (yl 3 (by decide))]; omega
        · rw [mI _ _ _ (by omega) (by omega) (by omega) (by omega) (by omega) (by omega), yl 0 (by decide)]; exact v0
        · rw [mI _ _ _ (by omega) (by omega) (by omega) (by omega) (by omega) (by omega), yl 1 (by decide)]; exact v1
        · rw [mI _ _ _ (by omega) (by omega) (by omega) (by omega) (by omega) (by omega), yl 2 (by decide)]; exact v2
        · rw [mI _ _ _ (by omega) (by omega) (by omega) (by omega) (by omega) (by omega), yl 3 (by decide)]; exact v3
        · rw [m20, y29]
      · exact Or.inl ⟨CXo k hk i e e', CMo k hk i hi e e'⟩
  · rw [hw] at hts ⊢
    have ti := fun k hk i hi => LiveEq_X ht k hk i (by rw [eY k hk]; exact hi)
    obtain ⟨c0, c1, c2, c5, cP, cR⟩ := ti 5 (by decide) b hb
    have cl : ∀ j, j < 5 → gI t 29 l j = gI y 29 l j := ti 4 (by decide) l hl
    rw [vn'] at cP
    obtain ⟨u, hu, uI, uF, uD, uL⟩ := xTake8 (t := t) (b := b) (l := l) (g := g) (n := n') (p := p) (c := c) (L := L - 1000 * g) w60 b12 l20 ((hts.1 0 (by decide)).trans r0) ((hts.1 1 (by decide)).trans r1) ((hts.1 2 (by decide)).trans r2) ((hts.1 3 (by decide)).trans r3) (c2.trans y30) n'8 pn' (fun k hk => by rw [(cP k (by omega)).1, (yp k (by omega)).1]; exact pno k hk) ((cP p pn').1.trans y31) ((cP p pn').2.trans y32) (by omega) ((cl 4 (by decide)).trans y29)
    rw [nc, show L - 1000 * g + 1000 * g = L by omega] at uI
    have uo : ∀ f i j, ¬ (f = 29 ∧ i = l ∧ j = 4) → ¬ (f = 32 ∧ i = b ∧ j = p) → ¬ (f = 30 ∧ i = b ∧ j = 2) → gI u f i j = gI t f i j := fun f i j q1 q2 q3 => by rw [uI, if_neg q1, if_neg q2, if_neg q3]
    refine ⟨u, hu, LiveEq_mk (fun k hk => ?_) (fun i q1 q2 k hk => ?_) (fun k hk i hi => ?_), uL, uD, fun f i j _ _ q3 q4 q5 => uo f i j (by omega) (by omega) (by omega), fun f i j _ _ _ => by rw [uF]⟩
    · rw [uo _ _ _ (by omega) (by omega) (by omega)]; exact (ht.1 k hk).trans (ec k hk)
    · rw [uF]
      exact LiveEq_z ht i (by rw [eY 0 (by decide)]; exact q1) q2 k hk
    · by_cases e : k = 5 ∧ i = b
      · obtain ⟨rfl, rfl⟩ := e
        refine ⟨?_, ?_, ?_, ?_, fun k hk => ?_, fun q k hk => ?_⟩
        · rw [uo _ _ _ (by omega) (by omega) (by omega), c0, yB 0 (by decide)]
        · rw [uo _ _ _ (by omega) (by omega) (by omega), c1, yB 1 (by decide)]
        · rw [uI, if_neg (by omega), if_neg (by omega), if_pos ⟨rfl, rfl, rfl⟩, xn]
        · rw [uo _ _ _ (by omega) (by omega) (by omega), c5, yB 5 (by decide)]
        · rw [hn_] at hk
          have := cP k (by omega)
          by_cases ek : k = p
          · subst ek
            refine ⟨?_, ?_⟩
            · rw [uo _ _ _ (by omega) (by omega) (by omega), this.1, y31]; exact (pyes hk).symm
            · rw [uI, if_neg (by omega), if_pos ⟨rfl, rfl, rfl⟩]; exact (hc0 hk).1.symm
          · refine ⟨?_, ?_⟩
            · rw [uo _ _ _ (by omega) (by omega) (by omega), this.1]; exact (yp k ek).1
            · rw [uo _ _ _ (by omega) (by omega) (by omega), this.2]; exact (yp k ek).2
        · rw [uF, cR (by rw [iN_e (yB 5 (by decide))]; exact q) k hk, yF]
      · by_cases e' : k = 4 ∧ i = l
        · obtain ⟨rfl, rfl⟩ := e'
          intro j hj
          by_cases ej : j = 4
          · subst ej; rw [uI, if_pos ⟨rfl, rfl, rfl⟩, xL]
          · rw [uo _ _ _ (by omega) (by omega) (by omega), cl j hj, yl j ej]
        · refine CX_t k hk (CXo k hk i e e') (CX_t k hk (ti k hk i hi) ?_)
          exact six (P := fun k => ¬ (k = 5 ∧ i = b) → ¬ (k = 4 ∧ i = l) → eqX k t u i) (fun _ _ k _ => by rw [uF]; exact ⟨rfl, rfl⟩) (fun _ _ k _ => by rw [uF]) (fun _ _ => ⟨fun j _ => uo _ _ _ (by omega) (by omega) (by omega), fun s _ => ⟨uo _ _ _ (by omega) (by omega) (by omega), fun _ _ => by rw [uD]⟩⟩) (fun _ _ => ⟨fun j _ => uo _ _ _ (by omega) (by omega) (by omega), fun _ _ => by rw [uD]; exact ⟨rfl, rfl⟩⟩) (fun _ q' j _ => uo _ _ _ (by omega) (by omega) (by omega)) (fun q _ => ⟨uo _ _ _ (by omega) (by omega) (by omega), uo _ _ _ (by omega) (by omega) (by omega), uo _ _ _ (by omega) (by omega) (by omega), uo _ _ _ (by omega) (by omega) (by omega), fun _ _ => ⟨uo _ _ _ (by omega) (by omega) (by omega), uo _ _ _ (by omega) (by omega) (by omega)⟩, fun _ _ _ => by rw [uF]⟩) k hk e e'
  · obtain ⟨c0, c1, c2, c5, cP, cR⟩ := LiveM_L hLt 5 (by decide) b (by rw [eY 5 (by decide)]; exact hb)
    obtain ⟨d0, d1, d2, d3, d4⟩ := LiveM_L hLt 4 (by decide) l (by rw [eY 4 (by decide)]; exact hl)
    rw [vn'] at cP
    obtain ⟨u, hu, uI, uF, uD, uL⟩ := mUndo_8 (tm := tm) (i := i) (b := b) (l := l) (g := g) (n := n') (p := p) (c := c) (L := L - 1000 * g) h2 h1 h3 h4 h5 h6 b12 l20 (c2.trans y30) n'8 pn' (fun k hk => by rw [(cP k (by omega)).1, (yp k (by omega)).1]; exact pno k hk) ((cP p pn').1.trans y31) ((cP p pn').2.trans y32) (by omega) (d4.trans y29)
    rw [nc, show L - 1000 * g + 1000 * g = L by omega] at uI
    have uo : ∀ f i' j, ¬ (f = 23 ∧ j = b) → ¬ (f = 25 ∧ j = 8 * b + p) → ¬ (f = 20 ∧ j = l) → ¬ (f = 0 ∧ (j = 44 ∨ j = 10)) → gI u f i' j = gI tm f i' j := fun f i' j q1 q2 q3 q4 => by rw [uI, if_neg (by omega), if_neg (by omega), if_neg (by omega), if_neg (by omega), if_neg (by omega)]
    refine ⟨u, hu, by rw [uI, if_neg (by omega), if_neg (by omega), if_neg (by omega), if_pos ⟨rfl, rfl, rfl⟩], ?_, uL, uD, fun f i' j q1 q2 q3 q4 q5 q6 q7 => uo f i' j (by omega) (by omega) (by omega) (by omega), fun f i' j _ _ => by rw [uF]⟩
    have cmo : ∀ k, k < 6 → ∀ j, j < cN x k → ¬ (k = 5 ∧ j = b) → ¬ (k = 4 ∧ j = l) → CM k y tm u j := fun k hk j hj q q' => by
      refine six (P := fun k => j < cN x k → ¬ (k = 5 ∧ j = b) → ¬ (k = 4 ∧ j = l) → CM k y tm u j) (fun _ _ _ k _ => by rw [uF]; exact ⟨rfl, rfl⟩) (fun _ _ _ k _ => by rw [uF]) (fun _ _ _ => ⟨uo _ _ _ (by omega) (by omega) (by omega) (by omega), uo _ _ _ (by omega) (by omega) (by omega) (by omega), uo _ _ _ (by omega) (by omega) (by omega) (by omega), fun _ _ => ⟨uo _ _ _ (by omega) (by omega) (by omega) (by omega), fun _ _ => by rw [uF]⟩⟩) (fun _ _ _ => ⟨uo _ _ _ (by omega) (by omega) (by omega) (by omega), uo _ _ _ (by omega) (by omega) (by omega) (by omega), uo _ _ _ (by omega) (by omega) (by omega) (by omega), fun _ _ => by rw [uD]; exact ⟨rfl, rfl⟩⟩) (fun _ _ q' => ⟨uo _ _ _ (by omega) (by omega) (by omega) (by omega), uo _ _ _ (by omega) (by omega) (by omega) (by omega), uo _ _ _ (by omega) (by omega) (by omega) (by omega), uo _ _ _ (by omega) (by omega) (by omega) (by omega), uo _ _ _ (by omega) (by omega) (by omega) (by omega)⟩) (fun hj q _ => ?_) k hk hj q q'
      have s8 : iN y 30 j 2 ≤ 8 := by
        rw [iN_e (yI 30 j 2 (by omega) (by omega) (by omega) (by omega) (by omega))]
        exact (hx.2.2.2.2.2.2 j hj).2.2.1.2
      exact ⟨uo _ _ _ (by omega) (by omega) (by omega) (by omega), uo _ _ _ (by omega) (by omega) (by omega) (by omega), uo _ _ _ (by omega) (by omega) (by omega) (by omega), uo _ _ _ (by omega) (by omega) (by omega) (by omega), fun _ _ => ⟨uo _ _ _ (by omega) (by omega) (by omega) (by omega), uo _ _ _ (by omega) (by omega) (by omega) (by omega)⟩, fun _ _ _ => by rw [uF]⟩
    refine live_up (x := y) (m := tm) hyc hLt (fun k hk => ?_) (fun j hj => cmo 1 (by decide) j (by rw [← eY 1 (by decide)]; exact hj) (by omega) (by omega)) (fun k hk j hj => ?_)
    · have ek := cM_v k hk
      rw [uo _ _ _ (by omega) (by omega) (by omega) (by omega), hLt.1 k hk, ec k hk]
    · by_cases e : k = 5 ∧ j = b
      · obtain ⟨rfl, rfl⟩ := e
        right
        refine ⟨?_, ?_, ?_, ?_, fun k hk => ?_, fun q k hk => ?_⟩
        · rw [uo _ _ _ (by omega) (by omega) (by omega) (by omega), c0, yB 0 (by decide)]
        · rw [uo _ _ _ (by omega) (by omega) (by omega) (by omega), c1, yB 1 (by decide)]
        · rw [uI, if_pos ⟨rfl, rfl, rfl⟩, xn]
        · rw [uo _ _ _ (by omega) (by omega) (by omega) (by omega), c5, yB 5 (by decide)]
        · rw [hn_] at hk
          have := cP k (by omega)
          by_cases ek : k = p
          · subst ek
            refine ⟨?_, ?_⟩
            · rw [uo _ _ _ (by omega) (by omega) (by omega) (by omega), this.1, y31]; exact (pyes hk).symm
            · rw [uI, if_neg (by omega), if_pos ⟨rfl, rfl, rfl⟩]; exact (hc0 hk).1.symm
          · refine ⟨?_, ?_⟩
            · rw [uo _ _ _ (by omega) (by omega) (by omega) (by omega), this.1]; exact (yp k ek).1
            · rw [uo _ _ _ (by omega) (by omega) (by omega) (by omega), this.2]; exact (yp k ek).2
        · rw [uF, cR (by rw [iN_e (yB 5 (by decide))]; exact q) k hk, yF]
      · by_cases e' : k = 4 ∧ j = l
        · obtain ⟨rfl, rfl⟩ := e'
          right
          refine ⟨?_, ?_, ?_, ?_, ?_⟩
          · rw [uo _ _ _ (by omega) (by omega) (by omega) (by omega), d0, yl 0 (by decide)]
          · rw [uo _ _ _ (by omega) (by omega) (by omega) (by omega), d1, yl 1 (by decide)]
          · rw [uo _ _ _ (by omega) (by omega) (by omega) (by omega), d2, yl 2 (by decide)]
          · rw [uo _ _ _ (by omega) (by omega) (by omega) (by omega), d3, yl 3 (by decide)]
          · rw [uI, if_neg (by omega), if_neg (by omega), if_pos ⟨rfl, rfl, rfl⟩, xL]
        · exact Or.inl ⟨by rw [eY k hk]; exact hj, CX_s k hk (CXo k hk j e e'), cmo k hk j hj e e'⟩
