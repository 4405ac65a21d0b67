/-! ===== strengths and cents ===== -/
theorem un2_k0 (t : Sto) : un2 (fun (v : Int32) (t : Sto) => ck (v &&& 1 = v) (some (v, t))) (0, t) = some (0, t) := if_pos (show (0 : Int32) &&& 1 = 0 by decide)
theorem un2_k1 (t : Sto) : un2 (fun (v : Int32) (t : Sto) => ck (v &&& 1 = v) (some (v, t))) (1, t) = some (1, t) := if_pos (show (1 : Int32) &&& 1 = 1 by decide)
theorem ring55 {w : Nat} (hw : w < 60) : (∀ k, k < 4 → 0 ≤ (nI k).toInt ∧ (nI k).toInt < (lIX 55 w : Int)) := fun k hk => by
  rw [show lIX 55 w = 4 from if_pos hw]; exact ixl (by omega) (by omega)
theorem r55_0 {w : Nat} (hw : w < 60) : 0 ≤ (0 : Int32).toInt ∧ (0 : Int32).toInt < (lIX 55 w : Int) := ring55 hw 0 (by decide)
theorem r55_1 {w : Nat} (hw : w < 60) : 0 ≤ (1 : Int32).toInt ∧ (1 : Int32).toInt < (lIX 55 w : Int) := ring55 hw 1 (by decide)
theorem r55_2 {w : Nat} (hw : w < 60) : 0 ≤ (2 : Int32).toInt ∧ (2 : Int32).toInt < (lIX 55 w : Int) := ring55 hw 2 (by decide)
theorem r55_3 {w : Nat} (hw : w < 60) : 0 ≤ (3 : Int32).toInt ∧ (3 : Int32).toInt < (lIX 55 w : Int) := ring55 hw 3 (by decide)
theorem xStrengthen {x : Sto} {d n cl g : Nat} (hd : d < 12) (hn : gI x 22 d 2 = nI n) (n6 : n < 6) (hc : cl < 8) (f1 : ∀ k, k < 16 → fl2 (gF x 1 0 k)) (f2 : ∀ k, k < 16 → fl2 (gF x 6 cl k)) : fX3_strengthen d (nI g) 1 0 6 cl x = some (sI (sI (putD x 25 (6 * d + n) 16 (fun k => ownQ (gF x 1 0 k) (gF x 6 cl k))) 23 d n (nI g)) 22 d 2 (nI (n + 1))) := by
  unfold fX3_strengthen
  have l25 := lD25 hd n6
  have l6 : lFX 6 cl = 16 := if_pos hc
  rw [loopD (f := 25) (i := 6 * d + n) (fun k => ownQ (gF x 1 0 k) (gF x 6 cl k)) 16 (by decide) (fun k hk => by
    obtain ⟨c1, c2⟩ := ownQ_c (f1 k hk) (f2 k hk)
    have e1 : gF (putD x 25 (6 * d + n) k fun k => ownQ (gF x 1 0 k) (gF x 6 cl k)) 1 0 k = gF x 1 0 k := rfl
    have e2 : gF (putD x 25 (6 * d + n) k fun k => ownQ (gF x 1 0 k) (gF x 6 cl k)) 6 cl k = gF x 6 cl k := rfl
    have e22 : gI (putD x 25 (6 * d + n) k fun k => ownQ (gF x 1 0 k) (gF x 6 cl k)) 22 d 2 = nI n := hn
    dsimp only [un2]
    rw [if_neg (g16 hk), show lFX 1 0 = 16 from rfl, ck_t (by exact ixc hk (by decide)), nI_cl (n := k) (by omega), e1, (qtn_b (f1 k hk)).1, Option.bind_some, l6, ck_t (by exact ixc hk (by decide)), e2, (qtn_b (f2 k hk)).1, Option.bind_some, nd_t c1, e22, ck_t (by exact ixl (by omega) (by omega)), nI_cl (n := n) (by omega), l25]
    by_cases h : (qtn (gF x 1 0 k)).toNat < (qtn (gF x 6 cl k)).toNat
    · rw [if_neg (fun w => c2.mp w h), ck_t (by exact ixc hk (by decide)), lt1_e, lt1_e, nI_s]
      show _ = some (Sum.inl (nI (k + 1), sD _ 25 (6 * d + n) k (ownQ (gF x 1 0 k) (gF x 6 cl k))))
      rw [show ownQ (gF x 1 0 k) (gF x 6 cl k) = FP.dconst0 from if_pos h]
    · rw [if_pos (c2.mpr h), ck_t (by exact ixc hk (by decide)), lt1_e, lt1_e, nI_s]
      show _ = some (Sum.inl (nI (k + 1), sD _ 25 (6 * d + n) k (ownQ (gF x 1 0 k) (gF x 6 cl k))))
      rw [show ownQ (gF x 1 0 k) (gF x 6 cl k) = FP.dsub (qtn (gF x 1 0 k)) (qtn (gF x 6 cl k)) from if_neg h]) (by dsimp only [un2]; exact if_pos (show nI 16 ≤ nI 16 by decide)), Option.bind_some]
  have e22 : gI (putD x 25 (6 * d + n) 16 fun k => ownQ (gF x 1 0 k) (gF x 6 cl k)) 22 d 2 = nI n := hn
  have e23 : gI (sI (putD x 25 (6 * d + n) 16 fun k => ownQ (gF x 1 0 k) (gF x 6 cl k)) 23 d n (nI g)) 22 d 2 = nI n := hn
  have l23 : lIX 23 d = 6 := if_pos hd
  rw [e22, l23, ck_t (by exact ixl (by omega) (by omega)), nI_cl (by omega), lt1_e, e23, show nI n + (1 : Int32) = nI (n + 1) from nI_1 n, lt1_e]
theorem xLast {x : Sto} {d n : Nat} (hd : d < 12) (hn : gI x 22 d 2 = nI n) (n6 : n ≤ 6) (hG : ∀ s, s < n → isN x 23 d s 100000) : fX3_lastGrams d x = some (nI (if n = 0 then 0 else iN x 23 d (n - 1))) := by
  unfold fX3_lastGrams
  by_cases e : n = 0
  · subst e
    rw [hn, if_pos (show nI 0 = 0 from rfl), if_pos rfl]; rfl
  · have l23 : lIX 23 d = 6 := if_pos hd
    rw [hn, if_neg (fun q => e ((nI_z (by omega)).mp q)), if_neg e, show nI n - (1 : Int32) = nI (n - 1) from pk_sub (b := 1) (by omega), l23, ck_t (by exact ixl (by omega) (by omega)), nI_cl (by omega)]
    exact congrArg some (hG (n - 1) (by omega)).1
theorem mUndo_3 {tm : Sto} {i d n : Nat} (h44 : gI tm 0 0 44 = nI (i + 1)) (hi : i < 60) (hk : gI tm 39 0 i = 3) (h40 : gI tm 40 0 i = nI d) (hd : d < 12) (hn : n < 1000) (hg : gI tm 13 0 d = nI (n + 1)) : fX12_undo tm = some (1, sI (sI (sI tm 0 0 10 0) 0 0 44 (nI i)) 13 0 d (nI n)) := by
  unfold fX12_undo
  have q44 : gI (sI tm 0 0 10 0) 0 0 44 = nI (i + 1) := h44
  have q3 : gI (sI (sI tm 0 0 10 0) 0 0 44 (nI i)) 0 0 44 = nI i := rfl
  have qk : gI (sI (sI tm 0 0 10 0) 0 0 44 (nI i)) 39 0 i = 3 := hk
  have i39 : 0 ≤ (nI i).toInt ∧ (nI i).toInt < (lIM 39 0 : Int) := by rw [show lIM 39 0 = 60 from rfl]; exact ixl (by omega) (by omega)
  have i40 : 0 ≤ (nI i).toInt ∧ (nI i).toInt < (lIM 40 0 : Int) := by rw [show lIM 40 0 = 60 from rfl]; exact ixl (by omega) (by omega)
  have i41 : 0 ≤ (nI i).toInt ∧ (nI i).toInt < (lIM 41 0 : Int) := by rw [show lIM 41 0 = 60 from rfl]; exact ixl (by omega) (by omega)
  have i42 : 0 ≤ (nI i).toInt ∧ (nI i).toInt < (lIM 42 0 : Int) := by rw [show lIM 42 0 = 60 from rfl]; exact ixl (by omega) (by omega)
  rw [lt1_e, q44, if_neg (show ¬ nI (i + 1) = 0 from fun e => by have := (nI_z (by omega)).mp e; omega), show nI (i + 1) - (1 : Int32) = nI i from pk_sub (b := 1) (by omega), lt1_e, q3, ck_t i40, lt1_e, ck_t i41, lt1_e, ck_t i42, lt1_e, ck_t i39, nI_cl (by omega), qk, lt1_e]
  have q40 : gI (sI (sI tm 0 0 10 0) 0 0 44 (nI i)) 40 0 i = nI d := h40
  have qg : gI (sI (sI tm 0 0 10 0) 0 0 44 (nI i)) 13 0 d = nI (n + 1) := hg
  have id : 0 ≤ (nI d).toInt ∧ (nI d).toInt < (lIM 13 0 : Int) := by rw [show lIM 13 0 = 12 from rfl]; exact ixl (by omega) (by omega)
  rw [if_neg (show ¬ (3 : Int32) = 0 by decide), if_neg (show ¬ (3 : Int32) = 1 by decide), if_neg (show ¬ (3 : Int32) = 2 by decide), if_pos rfl, q40, ck_t id, ck_t id, nI_cl (by omega), qg, show nI (n + 1) - (1 : Int32) = nI n from pk_sub (b := 1) (by omega), lt1_e]
theorem mUndo_4 {tm : Sto} {i d : Nat} {c : Int32} (h44 : gI tm 0 0 44 = nI (i + 1)) (hi : i < 60) (hk : gI tm 39 0 i = 4) (h40 : gI tm 40 0 i = nI d) (h41 : gI tm 41 0 i = c) (hd : d < 12) : fX12_undo tm = some (1, sI (sI (sI tm 0 0 10 0) 0 0 44 (nI i)) 15 0 d c) := by
  unfold fX12_undo
  have q44 : gI (sI tm 0 0 10 0) 0 0 44 = nI (i + 1) := h44
  have q3 : gI (sI (sI tm 0 0 10 0) 0 0 44 (nI i)) 0 0 44 = nI i := rfl
  have qk : gI (sI (sI tm 0 0 10 0) 0 0 44 (nI i)) 39 0 i = 4 := hk
  have i39 : 0 ≤ (nI i).toInt ∧ (nI i).toInt < (lIM 39 0 : Int) := by rw [show lIM 39 0 = 60 from rfl]; exact ixl (by omega) (by omega)
  have i40 : 0 ≤ (nI i).toInt ∧ (nI i).toInt < (lIM 40 0 : Int) := by rw [show lIM 40 0 = 60 from rfl]; exact ixl (by omega) (by omega)
  have i41 : 0 ≤ (nI i).toInt ∧ (nI i).toInt < (lIM 41 0 : Int) := by rw [show lIM 41 0 = 60 from rfl]; exact ixl (by omega) (by omega)
  have i42 : 0 ≤ (nI i).toInt ∧ (nI i).toInt < (lIM 42 0 : Int) := by rw [show lIM 42 0 = 60 from rfl]; exact ixl (by omega) (by omega)
  rw [lt1_e, q44, if_neg (show ¬ nI (i + 1) = 0 from fun e => by have := (nI_z (by omega)).mp e; omega), show nI (i + 1) - (1 : Int32) = nI i from pk_sub (b := 1) (by omega), lt1_e, q3, ck_t i40, lt1_e, ck_t i41, lt1_e, ck_t i42, lt1_e, ck_t i39, nI_cl (by omega), qk, lt1_e]
  have q40 : gI (sI (sI tm 0 0 10 0) 0 0 44 (nI i)) 40 0 i = nI d := h40
  have q41 : gI (sI (sI tm 0 0 10 0) 0 0 44 (nI i)) 41 0 i = c := h41
  have id : 0 ≤ (nI d).toInt ∧ (nI d).toInt < (lIM 15 0 : Int) := by rw [show lIM 15 0 = 12 from rfl]; exact ixl (by omega) (by omega)
  rw [if_neg (show ¬ (4 : Int32) = 0 by decide), if_neg (show ¬ (4 : Int32) = 1 by decide), if_neg (show ¬ (4 : Int32) = 2 by decide), if_neg (show ¬ (4 : Int32) = 3 by decide), if_pos rfl, q40, ck_t id, nI_cl (by omega), q41, lt1_e]
theorem b_cents {x m : Sto} (h : Rel x m) (a c : Int32) : ∃ r x' m', fX11_cents a c x = some (r, x') ∧ fX12_cents a c m = some (r, m') ∧ Rel x' m' := by
  have hx := h.1.2.1
  have hm := h.1.2.2.1
  have n1 : ¬ (1 : Int32) = 0 := by decide
  obtain ⟨_, d2, cap⟩ := rel_cnt h (k := 2) (by decide)
  obtain ⟨a1, a2⟩ := rel_acts h
  have cap : cN x 2 ≤ 12 := cap
  have qd : gI (sI m 0 0 10 0) 0 0 4 = nI (cN x 2) := d2
  rcases both_is hx (a := 2) (by decide) a with ⟨d, rfl, hd, e1, e2⟩ | ⟨_, e1, e2⟩
  rotate_left
  · refine ⟨0, _, _, ?_, ?_, rel_no (v := 2) h⟩
    · unfold fX11_cents
      rw [show fX11_isThere (2 : Int32) a x = some 0 from e1, Option.bind_some, if_pos rfl, xDenied, Option.bind_some]; exact un2_k0 _
    · unfold fX12_cents
      rw [lt1_e, qd, e2, Option.bind_some, if_pos rfl, mNot, Option.bind_some]; exact un2_k0 _
  have e1 : fX11_isThere (2 : Int32) (nI d) x = some 1 := e1
  rcases rng c 0 100000 (by decide) (by decide) with ⟨z, rfl, z1, z2, z3, z4, z5, z6⟩ | ⟨z, z6⟩
  rotate_left
  · refine ⟨0, _, _, ?_, ?_, rel_no (v := 3) h⟩
    · unfold fX11_cents
      rw [e1, Option.bind_some, if_neg n1, show fX11_isWithin c (0 : Int32) (100000 : Int32) = some 0 from z6, Option.bind_some, if_pos rfl, xDenied, Option.bind_some]; exact un2_k0 _
    · unfold fX12_cents
      rw [lt1_e, qd, e2, Option.bind_some, if_neg n1]
      rcases z with z | ⟨z, _, z'⟩
      · rw [if_pos (show c < 0 from z), mNot, Option.bind_some]; exact un2_k0 _
      · rw [if_neg (show ¬ c < 0 from z), if_neg (show ¬ c ≤ (100000 : Int32) from z'), mNot, Option.bind_some]; exact un2_k0 _
  have d12 : d < 12 := by omega
  have hold := (hx.2.2.2.1 d hd).2.1
  have mold : gI m 15 0 d = gI x 22 d 1 := (hm.2.2.2.1 d hd).2.2.1
  generalize hc0 : iN x 22 d 1 = c0
  have eold : gI x 22 d 1 = nI c0 := by rw [← hc0]; exact hold.1
  have i12 : 0 ≤ (nI d).toInt ∧ (nI d).toInt < ((12 : Nat) : Int) := ixl (by omega) (by omega)
  generalize hw : (iN x 18 0 2 + 1) % 60 = w
  have w60 : w < 60 := by omega
  generalize hs : min (iN x 18 0 3 + 1) 60 = s_
  generalize hy : sI (sI (noteS x w s_ 7 (nI d) (nI c0) 0) 22 d 1 (nI z)) 0 0 19 0 = y
  generalize hn : sI (actS (sI m 0 0 10 0) (iN x 18 0 3) 4 (nI d) (nI c0) 0) 15 0 d (nI z) = m'
  have hnote := xNote h.1.1 (7 : Int32) (nI d) (nI c0) 0
  rw [hw, hs] at hnote
  have hact := mAct (m := sI m 0 0 10 0) a1 a2 4 (nI d) (nI c0) 0
  refine ⟨1, y, m', ?_, ?_, ?_⟩
  · unfold fX11_cents
    rw [e1, Option.bind_some, if_neg n1, show fX11_isWithin (nI z) (0 : Int32) (100000 : Int32) = some 1 from z6, Option.bind_some, if_neg n1, ck_t (by exact i12), nI_cl (by omega), eold, hnote, Option.bind_some]
    dsimp only [un2]
    rw [ck_t (by exact i12), lt1_e, xAccept, Option.bind_some]
    dsimp only [un2]
    rw [ck_t (by decide), ← hy]
  · have q15 : gI (sI m 0 0 10 0) 15 0 d = nI c0 := mold.trans eold
    unfold fX12_cents
    rw [lt1_e, qd, e2, Option.bind_some, if_neg n1, if_neg (show ¬ nI z < 0 from z3), if_pos (show nI z ≤ (100000 : Int32) from z5), show lIM 15 0 = 12 from rfl, ck_t i12, nI_cl (by omega), q15]
    refine (congrArg (fun o => Option.bind o _) hact).trans ?_
    rw [Option.bind_some, ck_t i12, lt1_e, hn]
  · have yI : ∀ f i j, f ≠ 18 → f ≠ 55 → ¬ (f = 22 ∧ i = d ∧ j = 1) → ¬ (f = 0 ∧ j = 19) → gI y f i j = gI x f i j := fun f i j q1 q2 q3 q4 => by
      rw [← hy, gI_sI, if_neg (by omega), gI_sI, if_neg (by omega), noteS_I ⟨q1, q2⟩]
    have yF : gF y = gF x := by rw [← hy]; rfl
    have yD : gD y = gD x := by rw [← hy]; rfl
    have yL : gL y = gL x := by rw [← hy]; rfl
    have y1 : gI y 22 d 1 = nI z := by rw [← hy, gI_sI, if_neg (by omega), gI_sI, if_pos ⟨rfl, rfl, rfl⟩]
    have y55 : ∀ v j, v ≠ w → gI y 55 v j = gI x 55 v j := fun v j q => by
      rw [← hy, gI_sI, if_neg (by omega), gI_sI, if_neg (by omega), noteS_55 q]
    have yw : gI y 55 w 0 = 7 ∧ gI y 55 w 1 = nI d ∧ gI y 55 w 2 = nI c0 := by
      have g : ∀ j, gI y 55 w j = gI (noteS x w s_ 7 (nI d) (nI c0) 0) 55 w j := fun j => by rw [← hy, gI_sI, if_neg (by omega), gI_sI, if_neg (by omega)]
      have := noteS_w (x := x) (w := w) (s := s_) (a := 7) (b := nI d) (c := nI c0) (d := 0)
      exact ⟨(g 0).trans this.1, (g 1).trans this.2.1, (g 2).trans this.2.2.1⟩
    have nI' : ∀ f i j, ¬ (f = 15 ∧ j = d) → ¬ (f = 0 ∧ (j = 9 ∨ j = 10 ∨ j = 44)) → f < 39 ∨ 42 < f → gI m' f i j = gI m f i j := fun f i j q1 q2 q3 => by
      rw [← hn, gI_sI, if_neg (by omega), actS_I q3 (by omega), gI_sI, if_neg (by omega)]
    have nF : ∀ f i j, f < 43 ∨ 44 < f → gF m' f i j = gF m f i j := fun f i j q => by
      rw [← hn]
      show gF (actS (sI m 0 0 10 0) (iN x 18 0 3) 4 (nI d) (nI c0) 0) f i j = _
      rw [actS_F q]; rfl
    have nD : gD m' = gD m := by
      rw [← hn]
      show gD (actS (sI m 0 0 10 0) (iN x 18 0 3) 4 (nI d) (nI c0) 0) = _
      rw [actS_D.1]; rfl
    have nL : gL m' = gL m := by
      rw [← hn]
      show gL (actS (sI m 0 0 10 0) (iN x 18 0 3) 4 (nI d) (nI c0) 0) = _
      rw [actS_D.2]; rfl
    have n15 : gI m' 15 0 d = nI z := by rw [← hn, gI_sI, if_pos ⟨rfl, rfl, rfl⟩]
    have s6 : iN x 22 d 2 ≤ 6 := (hx.2.2.2.1 d hd).2.2.1.2
    have ec : ∀ k, k < 6 → gI y 3 0 k = gI x 3 0 k := fun k _ => yI 3 0 k (by decide) (by decide) (by omega) (by omega)
    have CXo : ∀ k, k < 6 → ∀ i, ¬ (k = 2 ∧ i = d) → eqX k x y i := fun k hk i q => by
      refine six (P := fun k => ¬ (k = 2 ∧ i = d) → eqX k x y i) (fun _ k _ => by rw [yF]; exact ⟨rfl, rfl⟩) (fun _ k _ => by rw [yF]) (fun q => ⟨fun j _ => yI _ _ _ (by decide) (by decide) (by omega) (by omega), fun s _ => ⟨yI _ _ _ (by decide) (by decide) (by omega) (by omega), fun _ _ => by rw [yD]⟩⟩) (fun _ => ⟨fun j _ => yI _ _ _ (by decide) (by decide) (by omega) (by omega), fun _ _ => by rw [yD]; exact ⟨rfl, rfl⟩⟩) (fun _ j _ => yI _ _ _ (by decide) (by decide) (by omega) (by omega)) (fun _ => ⟨yI _ _ _ (by decide) (by decide) (by omega) (by omega), yI _ _ _ (by decide) (by decide) (by omega) (by omega), yI _ _ _ (by decide) (by decide) (by omega) (by omega), yI _ _ _ (by decide) (by decide) (by omega) (by omega), fun _ _ => ⟨yI _ _ _ (by decide) (by decide) (by omega) (by omega), yI _ _ _ (by decide) (by decide) (by omega) (by omega)⟩, fun _ _ _ => by rw [yF]⟩) k hk q
    have CMo : ∀ k, k < 6 → ∀ i, ¬ (k = 2 ∧ i = d) → CM k x m m' i := fun k hk i q => by
      refine six (P := fun k => ¬ (k = 2 ∧ i = d) → CM k x m m' i) (fun _ k _ => ⟨nF _ _ _ (by decide), nF _ _ _ (by decide)⟩) (fun _ k _ => nF _ _ _ (by decide)) (fun q => ⟨nI' _ _ _ (by omega) (by omega) (by decide), nI' _ _ _ (by omega) (by omega) (by decide), nI' _ _ _ (by omega) (by omega) (by decide), fun s _ => ⟨nI' _ _ _ (by omega) (by omega) (by decide), fun _ _ => nF _ _ _ (by decide)⟩⟩) (fun _ => ⟨nI' _ _ _ (by omega) (by omega) (by decide), nI' _ _ _ (by omega) (by omega) (by decide), nI' _ _ _ (by omega) (by omega) (by decide), fun _ _ => by rw [nD]; exact ⟨rfl, rfl⟩⟩) (fun _ => ⟨nI' _ _ _ (by omega) (by omega) (by decide), nI' _ _ _ (by omega) (by omega) (by decide), nI' _ _ _ (by omega) (by omega) (by decide), nI' _ _ _ (by omega) (by omega) (by decide), nI' _ _ _ (by omega) (by omega) (by decide)⟩) (fun _ => ⟨nI' _ _ _ (by omega) (by omega) (by decide), nI' _ _ _ (by omega) (by omega) (by decide), nI' _ _ _ (by omega) (by omega) (by decide), nI' _ _ _ (by omega) (by omega) (by decide), fun _ _ => ⟨nI' _ _ _ (by omega) (by omega) (by decide), nI' _ _ _ (by omega) (by omega) (by decide)⟩, fun _ _ _ => nF _ _ _ (by decide)⟩) k hk q
    have y22 : ∀ j, j ≠ 1 → gI y 22 d j = gI x 22 d j := fun j q => yI _ _ _ (by decide) (by decide) (by omega) (by omega)
    have y23 : ∀ s, gI y 23 d s = gI x 23 d s := fun s => yI _ _ _ (by decide) (by decide) (by omega) (by omega)
    obtain ⟨B, D, hA⟩ := actS_c (m := sI m 0 0 10 0) (s := iN x 18 0 3) (a := 4) (b := nI d) (c := nI c0) (d := 0) a2
    have hA2 : ActM (iN x 18 0 3) m m' 4 (nI d) (nI c0) 0 B D := by
      obtain ⟨p1, p2, p3, p4, p5, p6, p7⟩ := hA
      have gq : ∀ f j, f ≠ 15 → gI m' f 0 j = gI (actS (sI m 0 0 10 0) (iN x 18 0 3) 4 (nI d) (nI c0) 0) f 0 j := fun f j q => by rw [← hn, gI_sI, if_neg (by omega)]
      have gf : gF m' = gF (actS (sI m 0 0 10 0) (iN x 18 0 3) 4 (nI d) (nI c0) 0) := by rw [← hn]; rfl
      refine ⟨(gq _ _ (by decide)).trans p1, (gq _ _ (by decide)).trans p2, (gq _ _ (by decide)).trans p3, (gq _ _ (by decide)).trans p4, (gq _ _ (by decide)).trans p5, by rw [gf]; exact p6, fun j hj => ⟨fun f q1 q2 => (gq _ _ (by omega)).trans (((p7 j hj).1 f q1 q2).trans (by rw [gI_sI, if_neg (by omega)])), by rw [gf]; exact (p7 j hj).2⟩⟩
    refine rel_mod h ?_ ?_ (fun v _ hv => ⟨fun k _ => y55 v k (by omega), fun k _ => by rw [yF]⟩) ec (fun l _ => ?_) (fun i q1 q2 k hk => by rw [yF]; exact hx.2.1.2 i q1 q2 k hk) (fun k hk => ?_) (fun i hi => CMo 1 (by decide) i (by omega)) (fun k hk i hi => ?_) hA2 (fun hyc t ht hs => ?_) (fun hyc tm i h1 h2 h3 h4 h5 _ _ hL => ?_) ⟨fun f i j q => yI _ _ _ (by omega) (by omega) (by omega) (by omega), fun _ _ _ _ => by rw [yF], fun _ _ _ _ => by rw [yD], yL⟩ ⟨fun f i j q => nI' _ _ _ (by omega) (by omega) (by omega), fun j q => nF _ _ _ (by decide), by rw [nD], by rw [nL]⟩ ?_
    · rw [hw, ← hy]; rfl
    · rw [hs, ← hy]; rfl
    · rw [iN_e (yI 29 l 3 (by decide) (by decide) (by omega) (by omega)), iN_e (yI 29 l 4 (by decide) (by decide) (by omega) (by omega))]
      exact Nat.le_refl _
    · have ek := cM_v k hk
      exact nI' _ _ _ (by omega) (by omega) (by decide)
    · by_cases e : k = 2 ∧ i = d
      · obtain ⟨rfl, rfl⟩ := e
        right
        obtain ⟨⟨o1, o1'⟩, o2, o3, o4, o5⟩ := hx.2.2.2.1 i hd
        obtain ⟨w1, w2, w3, w4⟩ := hm.2.2.2.1 i hd
        have i0 := iN_e (y22 0 (by decide))
        have i2 := iN_e (y22 2 (by decide))
        refine ⟨⟨⟨isN_e (y22 0 (by decide)) o1, ?_⟩, (isN_v y1 z2 (by decide)).2, isN_e (y22 2 (by decide)) o3, fun s hs => ?_, fun k hk => ?_⟩, ?_, ?_, ?_, fun s hs => ⟨?_, fun k hk => ⟨?_, ?_⟩⟩⟩
        · rw [i0, show cN y 1 = cN x 1 from iN_e (ec 1 (by decide))]; exact o1'
        · rw [i2] at hs; exact isN_e (y23 s) (o4 s hs)
        · rw [i2, yD, show iN y 23 i = iN x 23 i from funext fun s => iN_e (y23 s)]; exact o5 k hk
        · rw [nI' _ _ _ (by omega) (by omega) (by decide), y22 0 (by decide)]; exact w1
        · rw [nI' _ _ _ (by omega) (by omega) (by decide), y22 2 (by decide)]; exact w2
        · rw [n15, y1]
        · rw [i2] at hs
          rw [nI' _ _ _ (by omega) (by omega) (by decide), y23]; exact (w4 s hs).1
        · rw [i2] at hs
          rw [nF _ _ _ (by decide)]; exact ((w4 s hs).2 k hk).1
        · rw [i2] at hs
          rw [yD, i0]
          unfold mO
          rw [nF _ _ _ (by decide), nF _ _ _ (by decide)]
          exact ((w4 s hs).2 k hk).2
      · exact Or.inl ⟨CXo k hk i e, CMo k hk i e⟩
    · rw [hw] at hs ⊢
      have r0 : gI t 55 w 0 = 7 := (hs.1 0 (by decide)).trans yw.1
      have r1 : gI t 55 w 1 = nI d := (hs.1 1 (by decide)).trans yw.2.1
      have r2 : gI t 55 w 2 = nI c0 := (hs.1 2 (by decide)).trans yw.2.2
      have ti := fun k hk i hi => LiveEq_X ht k hk i (by rw [show cN y k = cN x k from iN_e (ec k hk)]; exact hi)
      refine ⟨sI t 22 d 1 (nI c0), ?_, LiveEq_mk (fun k hk => ?_) (fun i q1 q2 k hk => ?_) (fun k hk i hi => ?_), rfl, rfl, fun f i j _ q _ _ _ => by rw [gI_sI, if_neg (by omega)], fun _ _ _ _ _ _ => rfl⟩
      · unfold undoAt
        rw [r0, if_pos (show (6 : Int32) ≤ 7 by decide)]
        unfold fX11_takeBack
        rw [ck_t (r55_0 w60), lt1_e, r0, if_neg (show ¬ (7 : Int32) = 6 by decide), if_pos rfl, ck_t (r55_1 w60), r1, ck_t (by exact i12), ck_t (r55_2 w60), r2, nI_cl (by omega), lt1_e]
      · exact (ht.1 k hk).trans (ec k hk)
      · exact LiveEq_z ht i (by rw [show cN y 0 = cN x 0 from iN_e (ec 0 (by decide))]; exact q1) q2 k hk
      · by_cases e : k = 2 ∧ i = d
        · obtain ⟨rfl, rfl⟩ := e
          obtain ⟨u1, u2⟩ := ti 2 (by decide) i hi
          refine ⟨fun j hj => ?_, fun s hs => ?_⟩
          · rw [gI_sI]
            by_cases ej : j = 1
            · subst ej; rw [if_pos ⟨rfl, rfl, rfl⟩]; exact eold.symm
            · rw [if_neg (by omega), u1 j hj, y22 j ej]
          · have := u2 s (by rw [iN_e (y22 2 (by decide))]; exact hs)
            refine ⟨this.1.trans (y23 s), fun k hk => (this.2 k hk).trans (by rw [yD])⟩
        · exact CX_t k hk (CXo k hk i e) (CX_t k hk (ti k hk i hi) (CX_I k hk (by omega) (by omega) (by omega) (by omega)))
    · refine ⟨_, mUndo_4 h2 h1 h3 h4 h5 d12, ?_, ?_, rfl, rfl, fun f i j q _ q15 _ _ _ _ => by rw [gI_sI, if_neg (by omega), gI_sI, if_neg (by omega), gI_sI, if_neg (by omega)], fun _ _ _ _ _ => rfl⟩
      · rfl
      · have uI : ∀ f j, ¬ (f = 15 ∧ j = d) → f ≠ 0 → gI (sI (sI (sI tm 0 0 10 0) 0 0 44 (nI i)) 15 0 d (nI c0)) f 0 j = gI tm f 0 j := fun f j q1 q2 => by
          rw [gI_sI, if_neg (by omega), gI_sI, if_neg (by omega), gI_sI, if_neg (by omega)]
        have eY := fun k hk => show cN y k = cN x k from iN_e (ec k hk)
        have cmo : ∀ k, k < 6 → ∀ j, ¬ (k = 2 ∧ j = d) → CM k y tm (sI (sI (sI tm 0 0 10 0) 0 0 44 (nI i)) 15 0 d (nI c0)) j := fun k hk j q =>
          six (P := fun k => ¬ (k = 2 ∧ j = d) → CM k y tm (sI (sI (sI tm 0 0 10 0) 0 0 44 (nI i)) 15 0 d (nI c0)) j) (fun _ => CM_r y tm j 0 (by decide)) (fun _ => CM_r y tm j 1 (by decide)) (fun q => ⟨uI _ _ (by omega) (by decide), uI _ _ (by omega) (by decide), uI _ _ (by omega) (by decide), fun _ _ => ⟨uI _ _ (by omega) (by decide), fun _ _ => rfl⟩⟩) (fun _ => ⟨uI _ _ (by omega) (by decide), uI _ _ (by omega) (by decide), uI _ _ (by omega) (by decide), fun _ _ => ⟨rfl, rfl⟩⟩) (fun _ => ⟨uI _ _ (by omega) (by decide), uI _ _ (by omega) (by decide), uI _ _ (by omega) (by decide), uI _ _ (by omega) (by decide), uI _ _ (by omega) (by decide)⟩) (fun _ => ⟨uI _ _ (by omega) (by decide), uI _ _ (by omega) (by decide), uI _ _ (by omega) (by decide), uI _ _ (by omega) (by decide), fun _ _ => ⟨uI _ _ (by omega) (by decide), uI _ _ (by omega) (by decide)⟩, fun _ _ _ => rfl⟩) k hk q
        refine live_up (x := y) (m := tm) hyc hL (fun k hk => ?_) (fun j _ => cmo 1 (by decide) j (by omega)) (fun k hk j hj => ?_)
        · have ek := cM_v k hk
          rw [gI_sI, if_neg (by omega), gI_sI, if_neg (by omega), gI_sI, if_neg (by omega), hL.1 k hk, ec k hk]
        · by_cases e : k = 2 ∧ j = d
          · obtain ⟨rfl, rfl⟩ := e
            right
            obtain ⟨w1, w2, w3, w4⟩ := LiveM_L hL 2 (by decide) j (by rw [eY 2 (by decide)]; exact hj)
            refine ⟨?_, ?_, ?_, fun s hs => ?_⟩
            · rw [uI _ _ (by omega) (by decide), w1, y22 0 (by decide)]
            · rw [uI _ _ (by omega) (by decide), w2, y22 2 (by decide)]
            · rw [gI_sI, if_pos ⟨rfl, rfl, rfl⟩]; exact eold.symm
            · have := w4 s (by rw [iN_e (y22 2 (by decide))]; exact hs)
              refine ⟨?_, fun k hk => ⟨(this.2 k hk).1, ?_⟩⟩
              · rw [uI _ _ (by omega) (by decide), this.1, y23]
              · have q := (this.2 k hk).2
                rw [yD, iN_e (y22 0 (by decide))] at q
                exact q
          · exact Or.inl ⟨by rw [eY k hk]; exact hj, CX_s k hk (CXo k hk j e), cmo k hk j e⟩
    · rw [← hn, ← hy, gI_sI, if_neg (by omega), actS_9]; rfl
