/-! ===== a batch measured ===== -/
theorem b_measured {x m : Sto} (h : Rel x m) (a : Int32) : ∃ r x' m', fX11_measured a x = some (r, x') ∧ fX12_measured a m = some (r, m') ∧ Rel x' m' := by
  have hx := h.1.2.1
  have hm := h.1.2.2.1
  have n1 : ¬ (1 : Int32) = 0 := by decide
  obtain ⟨a1, a2⟩ := rel_acts h
  have cap : cN x 5 ≤ 12 := (hx.1 5 (by decide)).2
  have q0 : gI (sI m 0 0 10 0) 0 0 7 = nI (cN x 5) := (rel_cnt h (k := 5) (by decide)).2.1
  rcases both_is hx (a := 5) (by decide) a with ⟨b, rfl, hb, e1, e2⟩ | ⟨_, e1, e2⟩
  rotate_left
  · refine ⟨0, _, _, ?_, ?_, rel_no (v := 2) h⟩
    · unfold fX11_measured
      rw [show fX11_isThere (5 : Int32) a x = some 0 from e1, Option.bind_some, if_pos rfl, xDenied, Option.bind_some]; exact un2_k0 _
    · unfold fX12_measured
      rw [lt1_e, q0, e2, Option.bind_some, if_pos rfl, mNot, Option.bind_some]; exact un2_k0 _
  have e1 : fX11_isThere (5 : Int32) (nI b) x = some 1 := e1
  have b12 : b < 12 := by omega
  have ib : 0 ≤ (nI b).toInt ∧ (nI b).toInt < ((12 : Nat) : Int) := ixl (by omega) (by omega)
  have fr : ∀ k, k < 16 → fl2 (gF x 1 0 k) := fun k hk => (h.2.2.1.1 k hk).1
  have b0 : cN x 0 ≤ 40 := (hx.1 0 (by decide)).2
  have b1 : cN x 1 ≤ 8 := (hx.1 1 (by decide)).2
  have b2 : cN x 2 ≤ 12 := (hx.1 2 (by decide)).2
  obtain ⟨o0, o1, o2, o5, o3, o4, o6⟩ := hx.2.2.2.2.2.2 b hb
  obtain ⟨l0, l1, l2, l5, l3, l6⟩ := hm.2.2.2.2.2.2 b hb
  -- what it was
  obtain ⟨v, hv, ev⟩ : ∃ v : Int32, (v = 0 ∨ v = 1) ∧ gI x 30 b 5 = v := by
    refine ⟨gI x 30 b 5, ?_, rfl⟩
    have := o5.2
    by_cases z : iN x 30 b 5 = 0
    · left; rw [o5.1, z]; rfl
    · right; rw [o5.1, show iN x 30 b 5 = 1 by omega]; rfl
  have v1 : v = 1 ↔ iN x 30 b 5 = 1 := by
    have := o5.2
    rw [← ev]
    constructor
    · intro q
      unfold iN; rw [q]; rfl
    · intro q
      rw [o5.1, q]; rfl
  have em : gI (sI m 0 0 10 0) 26 0 b = v := l5.trans ev
  generalize hw : (iN x 18 0 2 + 1) % 60 = w
  have w60 : w < 60 := by omega
  generalize hs : min (iN x 18 0 3 + 1) 60 = s_
  have s60 : 1 ≤ s_ ∧ s_ ≤ 60 := by omega
  have hnote := xNote h.1.1 (9 : Int32) (nI b) v 0
  rw [hw, hs] at hnote
  have l57 : lFX 57 w = 32 := if_pos w60
  have l33 : lFX 33 b = 16 := if_pos b12
  generalize hK : putF (noteS x w s_ 9 (nI b) v 0) 57 w 16 (fun k => gF (noteS x w s_ 9 (nI b) v 0) 33 b k) = K
  have KI : ∀ f i j, f ≠ 18 ∧ f ≠ 55 → gI K f i j = gI x f i j := fun f i j q => by
    rw [← hK]
    show gI (noteS x w s_ 9 (nI b) v 0) f i j = _
    exact noteS_I q
  have K55 : ∀ u j, u ≠ w → gI K 55 u j = gI x 55 u j := fun u j q => by
    rw [← hK]
    show gI (noteS x w s_ 9 (nI b) v 0) 55 u j = _
    exact noteS_55 q
  have Kw : gI K 55 w 0 = 9 ∧ gI K 55 w 1 = nI b ∧ gI K 55 w 2 = v ∧ gI K 18 0 2 = nI w ∧ gI K 18 0 3 = nI s_ := by
    have := noteS_w (x := x) (w := w) (s := s_) (a := 9) (b := nI b) (c := v) (d := 0)
    rw [← hK]
    exact ⟨this.1, this.2.1, this.2.2.1, this.2.2.2.2.1, this.2.2.2.2.2⟩
  have KF : ∀ f i j, ¬ (f = 57 ∧ i = w ∧ j < 16) → gF K f i j = gF x f i j := fun f i j q => by
    rw [← hK, putF_g q]; rfl
  have KF57 : ∀ k, k < 16 → gF K 57 w k = gF x 33 b k := fun k hk => by rw [← hK, putF_h hk]; rfl
  have KD : gD K = gD x := by rw [← hK]; rfl
  have KL : gL K = gL x := by rw [← hK]; rfl
  generalize hx1 : putF K 33 b 16 (fun k => gF K 1 0 k) = x1
  have x1I : gI x1 = gI K := by rw [← hx1]; rfl
  have x1F : ∀ f i j, ¬ (f = 33 ∧ i = b ∧ j < 16) → gF x1 f i j = gF K f i j := fun f i j q => by rw [← hx1, putF_g q]
  have x133 : ∀ k, k < 16 → gF x1 33 b k = gF x 1 0 k := fun k hk => by rw [← hx1, putF_h hk, KF _ _ _ (by omega)]
  have x1D : gD x1 = gD x := by rw [← hx1]; exact KD
  have x1L : gL x1 = gL x := by rw [← hx1]; exact KL
  -- the reference's
  have hact := mAct (m := sI m 0 0 10 0) a1 a2 9 (nI b) v 0
  obtain ⟨B0, D0, p1, p2, p3, p4, p5, p6, p7⟩ := actS_c (m := sI m 0 0 10 0) (s := iN x 18 0 3) (a := 9) (b := nI b) (c := v) (d := 0) a2
  have A9 := actS_9 (m := sI m 0 0 10 0) (n := iN x 18 0 3) (a := 9) (b := nI b) (c := v) (d := 0)
  have AI : ∀ f i j, f < 39 ∨ 42 < f → ¬ (f = 0 ∧ (j = 9 ∨ j = 10 ∨ j = 44)) → gI (actS (sI m 0 0 10 0) (iN x 18 0 3) 9 (nI b) v 0) f i j = gI m f i j := fun f i j q1 q2 => by
    rw [actS_I q1 (by omega), gI_sI, if_neg (by omega)]
  have AF : ∀ f i j, f < 43 ∨ 44 < f → gF (actS (sI m 0 0 10 0) (iN x 18 0 3) 9 (nI b) v 0) f i j = gF m f i j := fun f i j q => by rw [actS_F q]; rfl
  have AD : gD (actS (sI m 0 0 10 0) (iN x 18 0 3) 9 (nI b) v 0) = gD m := actS_D.1
  have AL : gL (actS (sI m 0 0 10 0) (iN x 18 0 3) 9 (nI b) v 0) = gL m := actS_D.2
  generalize actS (sI m 0 0 10 0) (iN x 18 0 3) 9 (nI b) v 0 = A at hact p1 p2 p3 p4 p5 p6 p7 A9 AI AF AD AL
  rw [hs] at p1 p2 p3 p4 p5 p6 p7
  have hn2 := mNote1 (t := A) (p := 50 + b) (by omega) p1 s60.1 s60.2
  have A0 : ∀ k, k < 16 → gF A 1 0 k = gF x 1 0 k := fun k hk => (AF _ _ _ (by decide)).trans (h.2.2.1.1 k hk).2
  generalize hN : putO A 43 0 (16 * (s_ - 1)) 16 (fun k => gF A 1 0 (16 * (50 + b) + k)) = N at hn2
  have NI : gI N = gI A := by rw [← hN]; rfl
  have ND : gD N = gD A := by rw [← hN]; rfl
  have NL : gL N = gL A := by rw [← hN]; rfl
  have NF : ∀ f j, ¬ (f = 43 ∧ 16 * (s_ - 1) ≤ j ∧ j < 16 * (s_ - 1) + 16) → gF N f 0 j = gF A f 0 j := fun f j q => by rw [← hN, putO_g (by omega)]
  have N43 : ∀ k, k < 16 → gF N 43 0 (16 * (s_ - 1) + k) = gF m 1 0 (16 * (50 + b) + k) := fun k hk => by
    rw [← hN, putO_h hk]; exact AF _ _ _ (by decide)
  have hcopy := mCopy (m := N) (f := 0) (t := 50 + b) (by decide) (by omega) (by omega)
  generalize hm' : sI (putO N 1 0 (16 * (50 + b)) 16 (fun k => gF N 1 0 (16 * 0 + k))) 26 0 b 1 = m'
  have mI : ∀ f j, ¬ (f = 26 ∧ j = b) → gI m' f 0 j = gI A f 0 j := fun f j q => by
    rw [← hm', gI_sI, if_neg (by omega)]
    show gI N f 0 j = _
    rw [NI]
  have mI2 : ∀ f i j, ¬ (f = 26 ∧ j = b) → f < 39 ∨ 42 < f → ¬ (f = 0 ∧ (j = 9 ∨ j = 10 ∨ j = 44)) → gI m' f i j = gI m f i j := fun f i j q1 q2 q3 => by
    rw [← hm', gI_sI, if_neg (by omega)]
    show gI N f i j = _
    rw [NI, AI f i j q2 q3]
  have m26 : gI m' 26 0 b = 1 := by rw [← hm', gI_sI, if_pos ⟨rfl, rfl, rfl⟩]
  have mD : gD m' = gD m := by rw [← hm']; exact ND.trans AD
  have mL : gL m' = gL m := by rw [← hm']; exact NL.trans AL
  have mF : ∀ f j, ¬ (f = 1 ∧ 16 * (50 + b) ≤ j ∧ j < 16 * (50 + b) + 16) → gF m' f 0 j = gF N f 0 j := fun f j q1 => by rw [← hm', gF_I, putO_g (by omega)]
  have mF2 : ∀ f j, f < 43 ∨ 44 < f → ¬ (f = 1 ∧ 16 * (50 + b) ≤ j ∧ j < 16 * (50 + b) + 16) → gF m' f 0 j = gF m f 0 j := fun f j q q1 => (mF f j q1).trans ((NF f j (by omega)).trans (AF f 0 j q))
  have mR : ∀ k, k < 16 → gF m' 1 0 (16 * (50 + b) + k) = gF x 1 0 k := fun k hk => by
    rw [← hm', gF_I, putO_h hk, Nat.mul_zero, Nat.zero_add, NF _ _ (by omega)]; exact A0 k hk
  refine ⟨1, sI (sI x1 30 b 5 1) 0 0 19 0, m', ?_, ?_, ?_⟩
  · unfold fX11_measured
    rw [e1, Option.bind_some, if_neg n1, ck_t (by exact ib), nI_cl (by omega), jn_e, ev]
    have go : ∀ z : Int32, z = v → ((fX0_note (9 : Int32) (nI b) z (0 : Int32) x).bind (un2 fun (v9 : (Nat × Nat)) (t10 : Sto) => un2 (fun (qf12 qi13 : Nat) =>
        (fX11_copyRow (33) b qf12 qi13 t10).bind (fun (t14 : Sto) =>
         (fX11_copyRow (1) (0) (33) b t14).bind (fun (t16 : Sto) =>
          lt1 (sI t16 30 b 5 (1 : Int32)) fun (t18 : Sto) =>
          (fX11_accept t18).bind (un2 fun (v19 : Int32) (t20 : Sto) =>
           ck (v19 &&& 1 = v19) (
            some (v19, t20)))))) v9)) = some (1, sI (sI x1 30 b 5 1) 0 0 19 0) := fun z hz => by
      subst hz
      rw [hnote, Option.bind_some]
      dsimp only [un2]
      rw [xCopy (by rw [l33]; exact Nat.le_refl _) (by rw [l57]; decide), Option.bind_some, hK, xCopy (by decide) (by rw [l33]; exact Nat.le_refl _), Option.bind_some, hx1, lt1_e, xAccept, Option.bind_some]
      exact un2_k1 _
    rcases hv with hv | hv
    · rw [if_pos hv]; exact go 0 hv.symm
    · rw [if_neg (by rw [hv]; decide)]; exact go 1 hv.symm
  · unfold fX12_measured
    rw [lt1_e, q0, e2, Option.bind_some, if_neg n1, show lZM 26 0 = 12 from rfl, ck_t ib, nI_cl (by omega), jn_e, em]
    have go : ∀ z : Int32, z = v → ((fX12_act (9 : Int32) (nI b) z (0 : Int32) (sI m 0 0 10 0)).bind (fun (t9 : Sto) =>
       (fX12_note ((50 : Int32) + nI b) (-1 : Int32) t9).bind (fun (t11 : Sto) =>
        (fX12_copy (0 : Int32) ((50 : Int32) + nI b) t11).bind (fun (t13 : Sto) =>
         ck (0 ≤ (nI b).toInt ∧ (nI b).toInt < ((12 : Nat) : Int)) (lt1 (sI t13 (26) (0) b (vp_nar .boolean (1 : Int32))) fun (t15 : Sto) =>
          some ((1 : Int32), t15)))))) = some (1, m') := fun z hz => by
      subst hz
      refine (congrArg (fun o => Option.bind o _) hact).trans ?_
      rw [Option.bind_some, show (50 : Int32) + nI b = nI (50 + b) from nI_add 50 b, hn2, Option.bind_some, show fX12_copy (0 : Int32) (nI (50 + b)) N = _ from hcopy, Option.bind_some, ck_t ib, show vp_nar .boolean (1 : Int32) = 1 from rfl, lt1_e, hm']
    rcases hv with hv | hv
    · rw [if_pos hv]; exact go 0 hv.symm
    · rw [if_neg (by rw [hv]; decide)]; exact go 1 hv.symm
  · have yI : ∀ f i j, ¬ (f = 30 ∧ i = b ∧ j = 5) → f ≠ 18 ∧ f ≠ 55 ∧ (f ≠ 0 ∨ j ≠ 19) → gI (sI (sI x1 30 b 5 1) 0 0 19 0) f i j = gI x f i j := fun f i j q1 q => by
      rw [gI_sI, if_neg (by omega), gI_sI, if_neg (by omega), x1I]; exact KI f i j ⟨q.1, q.2.1⟩
    have yK : ∀ f i j, f ≠ 0 → f ≠ 30 → gI (sI (sI x1 30 b 5 1) 0 0 19 0) f i j = gI K f i j := fun f i j q q2 => by rw [gI_sI, if_neg (by omega), gI_sI, if_neg (by omega), x1I]
    have y5 : gI (sI (sI x1 30 b 5 1) 0 0 19 0) 30 b 5 = 1 := by rw [gI_sI, if_neg (by omega), gI_sI, if_pos ⟨rfl, rfl, rfl⟩]
    have y19 : gI (sI (sI x1 30 b 5 1) 0 0 19 0) 0 0 19 = 0 := rfl
    have yF : ∀ f i j, ¬ (f = 33 ∧ i = b ∧ j < 16) → ¬ (f = 57 ∧ i = w ∧ j < 16) → gF (sI (sI x1 30 b 5 1) 0 0 19 0) f i j = gF x f i j := fun f i j q1 q2 => (x1F f i j q1).trans (KF f i j q2)
    have y57 : ∀ k, k < 16 → gF (sI (sI x1 30 b 5 1) 0 0 19 0) 57 w k = gF x 33 b k := fun k hk => (x1F 57 w k (by omega)).trans (KF57 k hk)
    have y33 : ∀ k, k < 16 → gF (sI (sI x1 30 b 5 1) 0 0 19 0) 33 b k = gF x 1 0 k := x133
    have yD : gD (sI (sI x1 30 b 5 1) 0 0 19 0) = gD x := x1D
    have yL : gL (sI (sI x1 30 b 5 1) 0 0 19 0) = gL x := x1L
    generalize sI (sI x1 30 b 5 1) 0 0 19 0 = y at yI yK y5 y19 yF y57 y33 yD yL ⊢
    have ec : ∀ k, k < 6 → gI y 3 0 k = gI x 3 0 k := fun k _ => yI 3 0 k (by omega) (by omega)
    have CXo : ∀ k, k < 6 → ∀ i, ¬ (k = 5 ∧ i = b) → eqX k x y i := fun k hk i q =>
      six (P := fun k => ¬ (k = 5 ∧ i = b) → eqX k x y i) (fun q k _ => ⟨yF _ _ _ (by omega) (by omega), yF _ _ _ (by omega) (by omega)⟩) (fun _ k _ => yF _ _ _ (by omega) (by omega)) (fun _ => ⟨fun j _ => yI _ _ _ (by omega) (by omega), fun s _ => ⟨yI _ _ _ (by omega) (by omega), fun _ _ => by rw [yD]⟩⟩) (fun _ => ⟨fun j _ => yI _ _ _ (by omega) (by omega), fun _ _ => by rw [yD]; exact ⟨rfl, rfl⟩⟩) (fun _ j _ => yI _ _ _ (by omega) (by omega)) (fun q => ⟨yI _ _ _ (by omega) (by omega), yI _ _ _ (by omega) (by omega), yI _ _ _ (by omega) (by omega), yI _ _ _ (by omega) (by omega), fun _ _ => ⟨yI _ _ _ (by omega) (by omega), yI _ _ _ (by omega) (by omega)⟩, fun _ _ _ => yF _ _ _ (by omega) (by omega)⟩) k hk q
    have CMo : ∀ k, k < 6 → ∀ i, i < cN x k → ¬ (k = 5 ∧ i = b) → CM k x m m' i := fun k hk i hi q => by
      refine six (P := fun k => i < cN x k → ¬ (k = 5 ∧ i = b) → CM k x m m' i) (fun _ q k _ => ⟨mF2 _ _ (by decide) (by omega), mF2 _ _ (by decide) (by omega)⟩) (fun _ _ k _ => mF2 _ _ (by decide) (by omega)) (fun hi _ => ?_) (fun _ _ => ⟨mI2 _ _ _ (by omega) (by decide) (by omega), mI2 _ _ _ (by omega) (by decide) (by omega), mI2 _ _ _ (by omega) (by decide) (by omega), fun _ _ => by rw [mD]; exact ⟨rfl, rfl⟩⟩) (fun _ _ => ⟨mI2 _ _ _ (by omega) (by decide) (by omega), mI2 _ _ _ (by omega) (by decide) (by omega), mI2 _ _ _ (by omega) (by decide) (by omega), mI2 _ _ _ (by omega) (by decide) (by omega), mI2 _ _ _ (by omega) (by decide) (by omega)⟩) (fun _ q => ⟨mI2 _ _ _ (by omega) (by decide) (by omega), mI2 _ _ _ (by omega) (by decide) (by omega), mI2 _ _ _ (by omega) (by decide) (by omega), mI2 _ _ _ (by omega) (by decide) (by omega), fun _ _ => ⟨mI2 _ _ _ (by omega) (by decide) (by omega), mI2 _ _ _ (by omega) (by decide) (by omega)⟩, fun _ _ _ => mF2 _ _ (by decide) (by omega)⟩) k hk hi q
      exact ⟨mI2 _ _ _ (by omega) (by decide) (by omega), mI2 _ _ _ (by omega) (by decide) (by omega), mI2 _ _ _ (by omega) (by decide) (by omega), fun s _ => ⟨mI2 _ _ _ (by omega) (by decide) (by omega), fun _ _ => mF2 _ _ (by decide) (by omega)⟩⟩
    have hA2 : ActM (iN x 18 0 3) m m' 9 (nI b) v 0 (fun k => gF m 1 0 (16 * (50 + b) + k)) (fun k => gF A 44 0 (16 * (s_ - 1) + k)) := by
      unfold ActM
      rw [hs, mI _ _ (by omega), mI _ _ (by omega), mI _ _ (by omega), mI _ _ (by omega), mI _ _ (by omega)]
      refine ⟨p1, p2, p3, p4, p5, fun k hk => ⟨(mF _ _ (by omega)).trans (N43 k hk), (mF _ _ (by omega)).trans (NF _ _ (by omega))⟩, fun j hj => ⟨fun f q1 q2 => (mI _ _ (by omega)).trans (((p7 j hj).1 f q1 q2).trans (by rw [gI_sI, if_neg (by omega)])), fun k hk => ⟨(mF _ _ (by omega)).trans ((NF _ _ (by omega)).trans ((p7 j hj).2 k hk).1), (mF _ _ (by omega)).trans ((NF _ _ (by omega)).trans ((p7 j hj).2 k hk).2)⟩⟩⟩
    have yB : ∀ j, j ≠ 5 → gI y 30 b j = gI x 30 b j := fun j q => yI _ _ _ (by omega) (by omega)
    have y31 : ∀ k, gI y 31 b k = gI x 31 b k := fun k => yI _ _ _ (by omega) (by omega)
    have y32 : ∀ k, gI y 32 b k = gI x 32 b k := fun k => yI _ _ _ (by omega) (by omega)
    have y29 : ∀ l j, gI y 29 l j = gI x 29 l j := fun l j => yI _ _ _ (by omega) (by omega)
    refine rel_mod h (by rw [hw, yK _ _ _ (by decide) (by decide)]; exact Kw.2.2.2.1) (by rw [hs, yK _ _ _ (by decide) (by decide)]; exact Kw.2.2.2.2) (fun u _ hu => ⟨fun k _ => (yK _ _ _ (by decide) (by decide)).trans (K55 u k (by omega)), fun k _ => yF _ _ _ (by omega) (by omega)⟩) ec (fun l _ => ?_) (fun i q1 q2 k hk => (yF _ _ _ (by omega) (by omega)).trans (hx.2.1.2 i q1 q2 k hk)) (fun k hk => ?_) (fun i hi => CMo 1 (by decide) i hi (by omega)) (fun k hk i hi => ?_) hA2 (fun hyc t ht hts => ?_) (fun hyc tm i h1 h2 h3 h4 h5 h6 h7 hLt => ?_) ⟨fun f i j q => yI _ _ _ (by omega) (by omega), fun f i j q => yF _ _ _ (by omega) (by omega), fun _ _ _ _ => by rw [yD], yL⟩ ⟨fun f i j q => mI2 _ _ _ (by omega) (by omega) (by omega), fun j q => mF2 _ _ (by decide) (by omega), by rw [mD], by rw [mL]⟩ (by rw [mI _ _ (by omega), A9]; exact y19.symm)
    · rw [iN_e (y29 l 3), iN_e (y29 l 4)]
      exact Nat.le_refl _
    · have ek := cM_v k hk
      exact mI2 _ _ _ (by omega) (by omega) (by omega)
    · by_cases e : k = 5 ∧ i = b
      · obtain ⟨rfl, rfl⟩ := e
        right
        have i2 := iN_e (yB 2 (by decide))
        refine ⟨⟨⟨isN_e (yB 0 (by decide)) o0.1, ?_⟩, ⟨isN_e (yB 1 (by decide)) o1.1, ?_⟩, isN_e (yB 2 (by decide)) o2, (isN_v (v := 1) y5 (by decide) (by decide)).2, fun k hk => ?_, fun j k hjk hk => ?_, fun _ k hk => ?_⟩, ?_, ?_, ?_, ?_, fun k hk => ?_, fun _ k hk => ?_⟩
        · rw [iN_e (yB 0 (by decide)), show cN y 1 = cN x 1 from iN_e (ec 1 (by decide))]; exact o0.2
        · rw [iN_e (yB 1 (by decide))]; exact o1.2
        · rw [i2] at hk
          obtain ⟨⟨c1, c2⟩, c3, c4, c5⟩ := o3 k hk
          refine ⟨⟨isN_e (y31 k) c1, ?_⟩, isN_e (y32 k) c3, ?_, ?_⟩
          · rw [iN_e (y31 k), show cN y 4 = cN x 4 from iN_e (ec 4 (by decide))]; exact c2
          · rw [iN_e (y32 k)]; exact c4
          · rw [iN_e (y32 k), iN_e (y31 k), iN_e (y29 _ 3), iN_e (y29 _ 4)]; exact c5
        · rw [i2] at hk
          rw [iN_e (y31 j), iN_e (y31 k)]; exact o4 j k hjk hk
        · rw [y33 k hk]; exact fr k hk
        · rw [mI2 _ _ _ (by omega) (by decide) (by omega), yB 0 (by decide)]; exact l0
        · rw [mI2 _ _ _ (by omega) (by decide) (by omega), yB 1 (by decide)]; exact l1
        · rw [mI2 _ _ _ (by omega) (by decide) (by omega), yB 2 (by decide)]; exact l2
        · rw [m26, y5]
        · rw [i2] at hk
          rw [mI2 _ _ _ (by omega) (by decide) (by omega), mI2 _ _ _ (by omega) (by decide) (by omega), y31, y32]; exact l3 k hk
        · rw [mR k hk, y33 k hk]
      · exact Or.inl ⟨CXo k hk i e, CMo k hk i hi e⟩
    · rw [hw] at hts ⊢
      have r0 : gI t 55 w 0 = 9 := (hts.1 0 (by decide)).trans ((yK _ _ _ (by decide) (by decide)).trans Kw.1)
      have r1 : gI t 55 w 1 = nI b := (hts.1 1 (by decide)).trans ((yK _ _ _ (by decide) (by decide)).trans Kw.2.1)
      have r2 : gI t 55 w 2 = v := (hts.1 2 (by decide)).trans ((yK _ _ _ (by decide) (by decide)).trans Kw.2.2.1)
      have t57 : ∀ k, k < 16 → gF t 57 w k = gF x 33 b k := fun k hk => (hts.2 k (by omega)).trans (y57 k hk)
      have ti := fun k hk i hi => LiveEq_X ht k hk i (by rw [show cN y k = cN x k from iN_e (ec k hk)]; exact hi)
      have uF : ∀ f i j, ¬ (f = 33 ∧ i = b ∧ j < 16) → gF (putF (sI t 30 b 5 v) 33 b 16 (fun k => gF (sI t 30 b 5 v) 57 w k)) f i j = gF t f i j := fun f i j q => by
        rw [putF_g q]; rfl
      have uI : ∀ f i j, ¬ (f = 30 ∧ i = b ∧ j = 5) → gI (putF (sI t 30 b 5 v) 33 b 16 (fun k => gF (sI t 30 b 5 v) 57 w k)) f i j = gI t f i j := fun f i j q => by
        show gI (sI t 30 b 5 v) f i j = _
        rw [gI_sI, if_neg q]
      have u5 : gI (putF (sI t 30 b 5 v) 33 b 16 (fun k => gF (sI t 30 b 5 v) 57 w k)) 30 b 5 = v := by
        show gI (sI t 30 b 5 v) 30 b 5 = _
        rw [gI_sI, if_pos ⟨rfl, rfl, rfl⟩]
      refine ⟨putF (sI t 30 b 5 v) 33 b 16 (fun k => gF (sI t 30 b 5 v) 57 w k), ?_, LiveEq_mk (fun k hk => ?_) (fun i q1 q2 k hk => ?_) (fun k hk i hi => ?_), rfl, rfl, fun f i j _ _ _ q _ => uI f i j (by omega), fun f i j _ _ q => uF f i j (by omega)⟩
      · have t1 : gI (sI t 30 b 5 v) 55 w 1 = nI b := r1
        have go : ∀ z : Int32, z = v → (ck (z = 0 ∨ z = 1) (
         lt1 (sI t 30 b 5 z) fun (t16 : Sto) =>
         ck (0 ≤ (1 : Int32).toInt ∧ (1 : Int32).toInt < (lIX 55 w : Int)) (
          ck (0 ≤ (gI t16 55 w (1)).toInt ∧ (gI t16 55 w (1)).toInt < (12 : Int)) (
           (fX11_copyRow 57 w (33) ((gI t16 55 w (1)).toNatClampNeg) t16).bind (fun (t18 : Sto) =>
            some t18))))) = some (putF (sI t 30 b 5 v) 33 b 16 (fun k => gF (sI t 30 b 5 v) 57 w k)) := fun z hz => by
          subst hz
          rw [ck_t hv, lt1_e, ck_t (r55_1 w60), t1, ck_t (by exact ib), nI_cl (by omega), xCopy (by rw [l57]; decide) (by rw [l33]; exact Nat.le_refl _), Option.bind_some]
        unfold undoAt
        rw [r0, if_pos (show (6 : Int32) ≤ 9 by decide)]
        unfold fX11_takeBack
        rw [ck_t (r55_0 w60), lt1_e, r0, if_neg (show ¬ (9 : Int32) = 6 by decide), if_neg (show ¬ (9 : Int32) = 7 by decide), if_neg (show ¬ (9 : Int32) = 8 by decide), if_pos rfl, ck_t (r55_1 w60), r1, ck_t (by exact ib), ck_t (r55_2 w60), nI_cl (by omega), r2, jn_e]
        rcases hv with hv | hv
        · rw [if_neg (by rw [hv]; decide)]; exact go 0 hv.symm
        · rw [if_pos hv]; exact go 1 hv.symm
      · exact (ht.1 k hk).trans (ec k hk)
      · rw [uF _ _ _ (by omega)]
        exact LiveEq_z ht i (by rw [show cN y 0 = cN x 0 from iN_e (ec 0 (by decide))]; exact q1) q2 k hk
      · by_cases e : k = 5 ∧ i = b
        · obtain ⟨rfl, rfl⟩ := e
          obtain ⟨c0, c1, c2, _, c3, _⟩ := ti 5 (by decide) i hi
          refine ⟨?_, ?_, ?_, ?_, fun k hk => ?_, fun _ k hk => ?_⟩
          · rw [uI _ _ _ (by omega), c0, yB 0 (by decide)]
          · rw [uI _ _ _ (by omega), c1, yB 1 (by decide)]
          · rw [uI _ _ _ (by omega), c2, yB 2 (by decide)]
          · rw [u5]; exact ev.symm
          · have := c3 k (by rw [iN_e (yB 2 (by decide))]; exact hk)
            rw [uI _ _ _ (by omega), uI _ _ _ (by omega), this.1, this.2, y31, y32]
            exact ⟨rfl, rfl⟩
          · rw [putF_h hk]
            exact t57 k hk
        · refine CX_t k hk (CXo k hk i e) (CX_t k hk (ti k hk i hi) ?_)
          exact six (P := fun k => ¬ (k = 5 ∧ i = b) → eqX k t (putF (sI t 30 b 5 v) 33 b 16 (fun k => gF (sI t 30 b 5 v) 57 w k)) i) (fun q k _ => ⟨uF _ _ _ (by omega), uF _ _ _ (by omega)⟩) (fun _ k _ => uF _ _ _ (by omega)) (fun _ => ⟨fun _ _ => uI _ _ _ (by omega), fun _ _ => ⟨uI _ _ _ (by omega), fun _ _ => rfl⟩⟩) (fun _ => ⟨fun _ _ => uI _ _ _ (by omega), fun _ _ => ⟨rfl, rfl⟩⟩) (fun _ _ _ => uI _ _ _ (by omega)) (fun q => ⟨uI _ _ _ (by omega), uI _ _ _ (by omega), uI _ _ _ (by omega), uI _ _ _ (by omega), fun _ _ => ⟨uI _ _ _ (by omega), uI _ _ _ (by omega)⟩, fun _ k _ => uF _ _ _ (by omega)⟩) k hk e
    · have eY := fun k hk => show cN y k = cN x k from iN_e (ec k hk)
      have uI : ∀ f i' j, ¬ (f = 26 ∧ j = b) → ¬ (f = 0 ∧ (j = 10 ∨ j = 44)) → gI (putO (sI (sI (sI tm 0 0 10 0) 0 0 44 (nI i)) 26 0 b v) 1 0 (16 * (50 + b)) 16 (fun k => gF tm 43 0 (16 * i + k))) f i' j = gI tm f i' j := fun f i' j q1 q2 => by
        show gI (sI (sI (sI tm 0 0 10 0) 0 0 44 (nI i)) 26 0 b v) f i' j = _
        rw [gI_sI, if_neg (by omega), gI_sI, if_neg (by omega), gI_sI, if_neg (by omega)]
      have u26 : gI (putO (sI (sI (sI tm 0 0 10 0) 0 0 44 (nI i)) 26 0 b v) 1 0 (16 * (50 + b)) 16 (fun k => gF tm 43 0 (16 * i + k))) 26 0 b = v := by
        show gI (sI (sI (sI tm 0 0 10 0) 0 0 44 (nI i)) 26 0 b v) 26 0 b = _
        rw [gI_sI, if_pos ⟨rfl, rfl, rfl⟩]
      have uF : ∀ f i' j, ¬ (f = 1 ∧ 16 * (50 + b) ≤ j ∧ j < 16 * (50 + b) + 16) → gF (putO (sI (sI (sI tm 0 0 10 0) 0 0 44 (nI i)) 26 0 b v) 1 0 (16 * (50 + b)) 16 (fun k => gF tm 43 0 (16 * i + k))) f i' j = gF tm f i' j := fun f i' j q1 => by
        rw [putO_g (by omega)]; rfl
      have u1 : ∀ k, k < 16 → gF (putO (sI (sI (sI tm 0 0 10 0) 0 0 44 (nI i)) 26 0 b v) 1 0 (16 * (50 + b)) 16 (fun k => gF tm 43 0 (16 * i + k))) 1 0 (16 * (50 + b) + k) = gF tm 43 0 (16 * i + k) := fun k hk => putO_h hk
      have uD : gD (putO (sI (sI (sI tm 0 0 10 0) 0 0 44 (nI i)) 26 0 b v) 1 0 (16 * (50 + b)) 16 (fun k => gF tm 43 0 (16 * i + k))) = gD tm := rfl
      refine ⟨_, mUndo_9 hv h2 h1 h3 h4 h5 b12, rfl, ?_, rfl, rfl, fun f i' j q _ _ _ _ _ q26 => uI f i' j (by omega) (by omega), fun f i' j q1 q2 => uF f i' j (by omega)⟩
      generalize putO (sI (sI (sI tm 0 0 10 0) 0 0 44 (nI i)) 26 0 b v) 1 0 (16 * (50 + b)) 16 (fun k => gF tm 43 0 (16 * i + k)) = um at uI u26 uF u1 uD ⊢
      have cmo : ∀ k, k < 6 → ∀ j, j < cN x k → ¬ (k = 5 ∧ j = b) → CM k y tm um j := fun k hk j hj q =>
          six (P := fun k => j < cN x k → ¬ (k = 5 ∧ j = b) → CM k y tm um j) (fun _ q k _ => ⟨uF _ _ _ (by omega), uF _ _ _ (by omega)⟩) (fun _ _ k _ => uF _ _ _ (by omega)) (fun _ _ => ⟨uI _ _ _ (by omega) (by omega), uI _ _ _ (by omega) (by omega), uI _ _ _ (by omega) (by omega), fun _ _ => ⟨uI _ _ _ (by omega) (by omega), fun _ _ => uF _ _ _ (by omega)⟩⟩) (fun _ _ => ⟨uI _ _ _ (by omega) (by omega), uI _ _ _ (by omega) (by omega), uI _ _ _ (by omega) (by omega), fun _ _ => by rw [uD]; exact ⟨rfl, rfl⟩⟩) (fun _ _ => ⟨uI _ _ _ (by omega) (by omega), uI _ _ _ (by omega) (by omega), uI _ _ _ (by omega) (by omega), uI _ _ _ (by omega) (by omega), uI _ _ _ (by omega) (by omega)⟩) (fun _ q => ⟨uI _ _ _ (by omega) (by omega), uI _ _ _ (by omega) (by omega), uI _ _ _ (by omega) (by omega), uI _ _ _ (by omega) (by omega), fun _ _ => ⟨uI _ _ _ (by omega) (by omega), uI _ _ _ (by omega) (by omega)⟩, fun _ _ _ => uF _ _ _ (by omega)⟩) k hk hj q
      refine live_up (x := y) (m := tm) hyc hLt (fun k hk => ?_) (fun j hj => cmo 1 (by decide) j (by rw [← eY 1 (by decide)]; exact hj) (by omega)) (fun k hk j hj => ?_)
      · have ek := cM_v k hk
        rw [uI _ _ _ (by omega) (by omega), hLt.1 k hk, ec k hk]
      · by_cases e : k = 5 ∧ j = b
        · obtain ⟨rfl, rfl⟩ := e
          right
          obtain ⟨c0, c1, c2, _, c3, _⟩ := LiveM_L hLt 5 (by decide) j (by rw [eY 5 (by decide)]; exact hj)
          refine ⟨?_, ?_, ?_, ?_, fun k hk => ?_, fun q k hk => ?_⟩
          · rw [uI _ _ _ (by omega) (by omega), c0, yB 0 (by decide)]
          · rw [uI _ _ _ (by omega) (by omega), c1, yB 1 (by decide)]
          · rw [uI _ _ _ (by omega) (by omega), c2, yB 2 (by decide)]
          · rw [u26]; exact ev.symm
          · have := c3 k (by rw [iN_e (yB 2 (by decide))]; exact hk)
            rw [uI _ _ _ (by omega) (by omega), uI _ _ _ (by omega) (by omega), this.1, this.2, y31, y32]
            exact ⟨rfl, rfl⟩
          · rw [u1 k hk, (h7 k hk).1]
            exact l6 q k hk
        · exact Or.inl ⟨by rw [eY k hk]; exact hj, CX_s k hk (CXo k hk j e), cmo k hk j hj e⟩
