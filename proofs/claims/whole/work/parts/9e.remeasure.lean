/-! ===== a chip remeasured ===== -/
theorem gF_cF (s : Sto) (f i sp g j dp n a b c : Nat) : gF (cF s f i sp g j dp n) a b c = if a = g ∧ b = j ∧ dp ≤ c ∧ c < dp + n then gF s f i (sp + (c - dp)) else gF s a b c := rfl
theorem mvd_n {z : UInt32} (h : mvd z) : vf_n32 z := by
  obtain ⟨_, v2, v3, v4, _⟩ := h
  have := (fbits (mg_mono v2 (by decide)) v3).2.1
  rw [v4] at this
  exact this
theorem xRemeasureAs {t : Sto} {c : Nat} (hc : c < 40) (f1 : ∀ k, k < 16 → fl2 (gF t 1 0 k)) (f2 : ∀ k, k < 16 → fl2 (gF t 20 c k)) : fX2_remeasureAs c 1 0 t = some (putF (putF t 21 c 16 (fun k => FP.fsub (gF t 1 0 k) (gF t 20 c k))) 20 c 16 (fun k => gF t 1 0 k)) := by
  unfold fX2_remeasureAs
  have l20 : lFX 20 c = 16 := if_pos hc
  have l21 : lFX 21 c = 16 := if_pos hc
  refine (congrArg (fun o => Option.bind o _) (lp_seq0 (fun k => (nI k, putF (putF t 21 c k (fun k => FP.fsub (gF t 1 0 k) (gF t 20 c k))) 20 c k (fun k => gF t 1 0 k))) (r := putF (putF t 21 c 16 (fun k => FP.fsub (gF t 1 0 k) (gF t 20 c k))) 20 c 16 (fun k => gF t 1 0 k)) 16 4000 (by rw [putF_00]; rfl) (fun k hk => by
    have g1 : gF (putF (putF t 21 c k (fun k => FP.fsub (gF t 1 0 k) (gF t 20 c k))) 20 c k (fun k => gF t 1 0 k)) 1 0 k = gF t 1 0 k := by rw [putF_g (by omega), putF_g (by omega)]
    have g2 : gF (putF (putF t 21 c k (fun k => FP.fsub (gF t 1 0 k) (gF t 20 c k))) 20 c k (fun k => gF t 1 0 k)) 20 c k = gF t 20 c k := by rw [putF_g (by omega), putF_g (by omega)]
    have g3 : ∀ v, gF (sF (putF (putF t 21 c k (fun k => FP.fsub (gF t 1 0 k) (gF t 20 c k))) 20 c k (fun k => gF t 1 0 k)) 21 c k v) 1 0 k = gF t 1 0 k := fun v => by rw [gF_sF, if_neg (by omega), g1]
    dsimp only [un2]
    rw [if_neg (g16 hk), show lFX 1 0 = 16 from rfl, l20, l21, ck_t (by exact ixc hk (by decide)), ck_t (by exact ixc hk (by decide)), nI_cl (by omega), g1, g2, nf_t (mvd_n (mvd_fsub (f1 k hk) (f2 k hk))), ck_t (by exact ixc hk (by decide)), lt1_e, ck_t (by exact ixc hk (by decide)), ck_t (by exact ixc hk (by decide)), g3, lt1_e, lt1_e, nI_s]
    exact congrArg (fun s => some (Sum.inl (nI (k + 1), s))) (putF_2 (t := t) (c := c) (k := k) (f := 21) (g := 20) (u := fun k => FP.fsub (gF t 1 0 k) (gF t 20 c k)) (v := fun k => gF t 1 0 k) (by decide))) (by dsimp only [un2]; exact if_pos (show nI 16 ≤ nI 16 by decide)) (by decide))).trans ?_
  rw [Option.bind_some]
theorem b_remeasure {x m : Sto} (h : Rel x m) (a : Int32) : ∃ r x' m', fX11_remeasure a x = some (r, x') ∧ fX12_remeasure a m = some (r, m') ∧ Rel x' m' := by
  have hx := h.1.2.1
  have hm := h.1.2.2.1
  have n1 : ¬ (1 : Int32) = 0 := by decide
  obtain ⟨a1, a2⟩ := rel_acts h
  have cap : cN x 0 ≤ 40 := (hx.1 0 (by decide)).2
  have q0 : gI (sI m 0 0 10 0) 0 0 2 = nI (cN x 0) := (rel_cnt h (k := 0) (by decide)).2.1
  rcases both_is hx (a := 0) (by decide) a with ⟨c, rfl, hc, e1, e2⟩ | ⟨_, e1, e2⟩
  rotate_left
  · refine ⟨0, _, _, ?_, ?_, rel_no (v := 2) h⟩
    · unfold fX11_remeasure
      rw [show fX11_isThere (0 : Int32) a x = some 0 from e1, Option.bind_some, if_pos rfl, xDenied, Option.bind_some]; exact un2_k0 _
    · unfold fX12_remeasure
      rw [lt1_e, q0, e2, Option.bind_some, if_pos rfl, mNot, Option.bind_some]; exact un2_k0 _
  have e1 : fX11_isThere (0 : Int32) (nI c) x = some 1 := e1
  have c40 : c < 40 := by omega
  have ic : 0 ≤ (nI c).toInt ∧ (nI c).toInt < ((40 : Nat) : Int) := ixl (by omega) (by omega)
  have fr : ∀ k, k < 16 → fl2 (gF x 1 0 k) := fun k hk => (h.2.2.1.1 k hk).1
  have fb : ∀ k, k < 16 → fl2 (gF x 20 c k) := fun k hk => (hx.2.1.1 c hc k hk).1
  have b1 : cN x 1 ≤ 8 := (hx.1 1 (by decide)).2
  have b2 : cN x 2 ≤ 12 := (hx.1 2 (by decide)).2
  have b5 : cN x 5 ≤ 12 := (hx.1 5 (by decide)).2
  generalize hw : (iN x 18 0 2 + 1) % 60 = w
  have w60 : w < 60 := by omega
  generalize hs : min (iN x 18 0 3 + 1) 60 = s_
  have s60 : 1 ≤ s_ ∧ s_ ≤ 60 := by omega
  have hnote := xNote h.1.1 (10 : Int32) (nI c) 0 0
  rw [hw, hs] at hnote
  have l57 : lFX 57 w = 32 := if_pos w60
  have l20 : lFX 20 c = 16 := if_pos c40
  have l21 : lFX 21 c = 16 := if_pos c40
  -- the class's store
  generalize hK : cF (cF (noteS x w s_ 10 (nI c) 0 0) 20 c 0 57 w 0 16) 21 c 0 57 w 16 16 = K
  have KI : ∀ f i j, f ≠ 18 ∧ f ≠ 55 → gI K f i j = gI x f i j := fun f i j q => by
    rw [← hK]
    show gI (noteS x w s_ 10 (nI c) 0 0) f i j = _
    exact noteS_I q
  have K55 : ∀ v j, v ≠ w → gI K 55 v j = gI x 55 v j := fun v j q => by
    rw [← hK]
    show gI (noteS x w s_ 10 (nI c) 0 0) 55 v j = _
    exact noteS_55 q
  have Kw : gI K 55 w 0 = 10 ∧ gI K 55 w 1 = nI c ∧ gI K 18 0 2 = nI w ∧ gI K 18 0 3 = nI s_ := by
    have := noteS_w (x := x) (w := w) (s := s_) (a := 10) (b := nI c) (c := 0) (d := 0)
    rw [← hK]
    exact ⟨this.1, this.2.1, this.2.2.2.2.1, this.2.2.2.2.2⟩
  have KF : ∀ f i j, ¬ (f = 57 ∧ i = w) → gF K f i j = gF x f i j := fun f i j q => by
    rw [← hK, gF_cF, if_neg (by omega), gF_cF, if_neg (by omega)]; rfl
  have KF57 : ∀ k, k < 16 → gF K 57 w k = gF x 20 c k ∧ gF K 57 w (16 + k) = gF x 21 c k := fun k hk => by
    rw [← hK]
    refine ⟨?_, ?_⟩
    · rw [gF_cF, if_neg (by omega), gF_cF, if_pos ⟨rfl, rfl, by omega, by omega⟩, show 0 + (k - 0) = k by omega]; rfl
    · rw [gF_cF, if_pos ⟨rfl, rfl, by omega, by omega⟩, show 0 + (16 + k - 16) = k by omega, gF_cF, if_neg (by omega)]; rfl
  have KD : gD K = gD x := by rw [← hK]; rfl
  have KL : gL K = gL x := by rw [← hK]; rfl
  have hrem := xRemeasureAs (t := K) c40 (fun k hk => by rw [KF _ _ _ (by omega)]; exact fr k hk) (fun k hk => by rw [KF _ _ _ (by omega)]; exact fb k hk)
  generalize hx1 : putF (putF K 21 c 16 (fun k => FP.fsub (gF K 1 0 k) (gF K 20 c k))) 20 c 16 (fun k => gF K 1 0 k) = x1 at hrem
  have x1I : gI x1 = gI K := by rw [← hx1]; rfl
  have x1F : ∀ f i j, ¬ ((f = 20 ∨ f = 21) ∧ i = c ∧ j < 16) → gF x1 f i j = gF K f i j := fun f i j q => by rw [← hx1, putF_g (by omega), putF_g (by omega)]
  have x120 : ∀ k, k < 16 → gF x1 20 c k = gF x 1 0 k := fun k hk => by rw [← hx1, putF_h hk, KF _ _ _ (by omega)]
  have x121 : ∀ k, k < 16 → gF x1 21 c k = FP.fsub (gF x 1 0 k) (gF x 20 c k) := fun k hk => by rw [← hx1, putF_g (by omega), putF_h hk, KF _ _ _ (by omega), KF _ _ _ (by omega)]
  have x1D : gD x1 = gD x := by rw [← hx1]; exact KD
  have x1L : gL x1 = gL x := by rw [← hx1]; exact KL
  -- the reference's
  have hact := mAct (m := sI m 0 0 10 0) a1 a2 10 (nI c) 0 0
  obtain ⟨B0, D0, p1, p2, p3, p4, p5, _, p7⟩ := actS_c (m := sI m 0 0 10 0) (s := iN x 18 0 3) (a := 10) (b := nI c) (c := 0) (d := 0) a2
  have A9 := actS_9 (m := sI m 0 0 10 0) (n := iN x 18 0 3) (a := 10) (b := nI c) (c := 0) (d := 0)
  have AI : ∀ f i j, f < 39 ∨ 42 < f → ¬ (f = 0 ∧ (j = 9 ∨ j = 10 ∨ j = 44)) → gI (actS (sI m 0 0 10 0) (iN x 18 0 3) 10 (nI c) 0 0) f i j = gI m f i j := fun f i j q1 q2 => by
    rw [actS_I q1 (by omega), gI_sI, if_neg (by omega)]
  have AF : ∀ f i j, f < 43 ∨ 44 < f → gF (actS (sI m 0 0 10 0) (iN x 18 0 3) 10 (nI c) 0 0) f i j = gF m f i j := fun f i j q => by rw [actS_F q]; rfl
  have AD : gD (actS (sI m 0 0 10 0) (iN x 18 0 3) 10 (nI c) 0 0) = gD m := actS_D.1
  have AL : gL (actS (sI m 0 0 10 0) (iN x 18 0 3) 10 (nI c) 0 0) = gL m := actS_D.2
  generalize actS (sI m 0 0 10 0) (iN x 18 0 3) 10 (nI c) 0 0 = A at hact p1 p2 p3 p4 p5 p7 A9 AI AF AD AL
  rw [hs] at p1 p2 p3 p4 p5 p7
  have hn2 := mNote2 (t := A) (p := 1 + c) (c := c) (by omega) c40 p1 s60.1 s60.2
  have A1 : ∀ k, k < 16 → gF A 1 0 (16 * (1 + c) + k) = gF x 20 c k := fun k hk => (AF _ _ _ (by decide)).trans (hm.2.1 c hc k hk).1
  have A2 : ∀ k, k < 16 → gF A 2 0 (16 * c + k) = gF x 21 c k := fun k hk => (AF _ _ _ (by decide)).trans (hm.2.1 c hc k hk).2
  have A0 : ∀ k, k < 16 → gF A 1 0 k = gF x 1 0 k := fun k hk => (AF _ _ _ (by decide)).trans (h.2.2.1.1 k hk).2
  generalize hN : putO (putO A 43 0 (16 * (s_ - 1)) 16 (fun k => gF A 1 0 (16 * (1 + c) + k))) 44 0 (16 * (s_ - 1)) 16 (fun k => gF A 2 0 (16 * c + k)) = N at hn2
  have NI : gI N = gI A := by rw [← hN]; rfl
  have ND : gD N = gD A := by rw [← hN]; rfl
  have NL : gL N = gL A := by rw [← hN]; rfl
  have NF : ∀ f j, ¬ ((f = 43 ∨ f = 44) ∧ 16 * (s_ - 1) ≤ j ∧ j < 16 * (s_ - 1) + 16) → gF N f 0 j = gF A f 0 j := fun f j q => by rw [← hN, putO_g (by omega), putO_g (by omega)]
  have N43 : ∀ k, k < 16 → gF N 43 0 (16 * (s_ - 1) + k) = gF x 20 c k ∧ gF N 44 0 (16 * (s_ - 1) + k) = gF x 21 c k := fun k hk => by
    rw [← hN]
    refine ⟨?_, ?_⟩
    · rw [putO_g (by omega), putO_h hk]; exact A1 k hk
    · rw [putO_h hk]; exact A2 k hk
  have hloop : lp (un2 fun (v12 : Int32) (t13 : Sto) =>
         if (16 : Int32) ≤ v12 then (
          (some (.inr t13) : Option ((Int32 × Sto) ⊕ Sto))) else (
          ck (0 ≤ v12.toInt ∧ v12.toInt < (lFM (1) (0) : Int)) (
           ck (0 ≤ (((16 : Int32) * nI (1 + c)) + v12).toInt ∧ (((16 : Int32) * nI (1 + c)) + v12).toInt < (lFM (1) (0) : Int)) (
            nf (FP.fsub (gF t13 (1) (0) (v12.toNatClampNeg)) (gF t13 (1) (0) ((((16 : Int32) * nI (1 + c)) + v12).toNatClampNeg))) fun (v18 : UInt32) =>
            ck (0 ≤ (((16 : Int32) * nI c) + v12).toInt ∧ (((16 : Int32) * nI c) + v12).toInt < (lFM (2) (0) : Int)) (lt1 (sF t13 (2) (0) ((((16 : Int32) * nI c) + v12).toNatClampNeg) v18) fun (t19 : Sto) =>
             lt1 (v12 + Int32.ofInt (1)) fun (v20 : Int32) =>
             some (.inl (v20, t19))))))) 4000 ((0 : Int32), N) = some (putO N 2 0 (16 * c) 16 (fun k => FP.fsub (gF x 1 0 k) (gF x 20 c k))) := loopO (f := 2) (i := 0) (o := 16 * c) (fun k => FP.fsub (gF x 1 0 k) (gF x 20 c k)) 16 (by decide) (fun k hk => by
      have g1 : gF (putO N 2 0 (16 * c) k (fun k => FP.fsub (gF x 1 0 k) (gF x 20 c k))) 1 0 k = gF x 1 0 k := by rw [putO_g (by omega), NF _ _ (by omega)]; exact A0 k hk
      have g2 : gF (putO N 2 0 (16 * c) k (fun k => FP.fsub (gF x 1 0 k) (gF x 20 c k))) 1 0 (16 * (1 + c) + k) = gF x 20 c k := by rw [putO_g (by omega), NF _ _ (by omega)]; exact A1 k hk
      have e3 : ((16 : Int32) * nI (1 + c)) + nI k = nI (16 * (1 + c) + k) := by
        show nI 16 * nI (1 + c) + nI k = _
        simp only [pk_mul, nI_add]
      have e4 : ((16 : Int32) * nI c) + nI k = nI (16 * c + k) := by
        show nI 16 * nI c + nI k = _
        simp only [pk_mul, nI_add]
      dsimp only [un2]
      rw [if_neg (g16 hk), e3, e4, show lFM 1 0 = 2176 from rfl, show lFM 2 0 = 640 from rfl, ck_t (by exact ixl (by omega) (by omega)), ck_t (by exact ixl (by omega) (by omega)), nI_cl (n := k) (by omega), nI_cl (n := 16 * (1 + c) + k) (by omega), g1, g2, nf_t (mvd_n (mvd_fsub (fr k hk) (fb k hk))), ck_t (by exact ixl (by omega) (by omega)), nI_cl (by omega), lt1_e, lt1_e, nI_s]) (by dsimp only [un2]; exact if_pos (show nI 16 ≤ nI 16 by decide))
  have hcopy := mCopy (m := putO N 2 0 (16 * c) 16 (fun k => FP.fsub (gF x 1 0 k) (gF x 20 c k))) (f := 0) (t := 1 + c) (by decide) (by omega) (by omega)
  generalize hm' : putO (putO N 2 0 (16 * c) 16 (fun k => FP.fsub (gF x 1 0 k) (gF x 20 c k))) 1 0 (16 * (1 + c)) 16 (fun k => gF (putO N 2 0 (16 * c) 16 (fun k => FP.fsub (gF x 1 0 k) (gF x 20 c k))) 1 0 (16 * 0 + k)) = m' at hcopy
  have mI : gI m' = gI A := by rw [← hm']; exact NI
  have mD : gD m' = gD m := by rw [← hm']; exact ND.trans AD
  have mL : gL m' = gL m := by rw [← hm']; exact NL.trans AL
  have mF : ∀ f j, ¬ (f = 1 ∧ 16 * (1 + c) ≤ j ∧ j < 16 * (1 + c) + 16) → ¬ (f = 2 ∧ 16 * c ≤ j ∧ j < 16 * c + 16) → gF m' f 0 j = gF N f 0 j := fun f j q1 q2 => by rw [← hm', putO_g (by omega), putO_g (by omega)]
  have mF2 : ∀ f j, f < 43 ∨ 44 < f → ¬ (f = 1 ∧ 16 * (1 + c) ≤ j ∧ j < 16 * (1 + c) + 16) → ¬ (f = 2 ∧ 16 * c ≤ j ∧ j < 16 * c + 16) → gF m' f 0 j = gF m f 0 j := fun f j q q1 q2 => (mF f j q1 q2).trans ((NF f j (by omega)).trans (AF f 0 j q))
  have mR : ∀ k, k < 16 → gF m' 1 0 (16 * (1 + c) + k) = gF x 1 0 k := fun k hk => by
    rw [← hm', putO_h hk, Nat.mul_zero, Nat.zero_add, putO_g (by omega), NF _ _ (by omega)]; exact A0 k hk
  have mDr : ∀ k, k < 16 → gF m' 2 0 (16 * c + k) = FP.fsub (gF x 1 0 k) (gF x 20 c k) := fun k hk => by
    rw [← hm', putO_g (by omega), putO_h hk]
  refine ⟨1, sI x1 0 0 19 0, m', ?_, ?_, ?_⟩
  · unfold fX11_remeasure
    rw [e1, Option.bind_some, if_neg n1, hnote, Option.bind_some]
    dsimp only [un2]
    unfold fX2_keepIn
    rw [ck_t (by exact ic), nI_cl (by omega), l20, l21, l57, ck_t (by decide), lt1_e, ck_t (by decide), lt1_e, hK, Option.bind_some, ck_t (by exact ic), hrem, Option.bind_some, xAccept, Option.bind_some]
    exact un2_k1 _
  · unfold fX12_remeasure
    rw [lt1_e, q0, e2, Option.bind_some, if_neg n1]
    refine (congrArg (fun o => Option.bind o _) hact).trans ?_
    rw [Option.bind_some, show (1 : Int32) + nI c = nI (1 + c) from nI_add 1 c, hn2, Option.bind_some]
    refine (congrArg (fun o => Option.bind o _) hloop).trans ?_
    rw [Option.bind_some, show fX12_copy (0 : Int32) (nI (1 + c)) (putO N 2 0 (16 * c) 16 (fun k => FP.fsub (gF x 1 0 k) (gF x 20 c k))) = some m' from hcopy, Option.bind_some]
  · have yI : ∀ f i j, f ≠ 18 ∧ f ≠ 55 ∧ (f ≠ 0 ∨ j ≠ 19) → gI (sI x1 0 0 19 0) f i j = gI x f i j := fun f i j q => by
      rw [gI_sI, if_neg (by omega), x1I]; exact KI f i j ⟨q.1, q.2.1⟩
    have yK : ∀ f i j, f ≠ 0 → gI (sI x1 0 0 19 0) f i j = gI K f i j := fun f i j q => by rw [gI_sI, if_neg (by omega), x1I]
    have y19 : gI (sI x1 0 0 19 0) 0 0 19 = 0 := rfl
    have yF : ∀ f i j, ¬ ((f = 20 ∨ f = 21) ∧ i = c ∧ j < 16) → ¬ (f = 57 ∧ i = w) → gF (sI x1 0 0 19 0) f i j = gF x f i j := fun f i j q1 q2 => (x1F f i j q1).trans (KF f i j q2)
    have y57 : ∀ k, k < 16 → gF (sI x1 0 0 19 0) 57 w k = gF x 20 c k ∧ gF (sI x1 0 0 19 0) 57 w (16 + k) = gF x 21 c k := fun k hk => ⟨(x1F 57 w k (by omega)).trans (KF57 k hk).1, (x1F 57 w (16 + k) (by omega)).trans (KF57 k hk).2⟩
    have y20 : ∀ k, k < 16 → gF (sI x1 0 0 19 0) 20 c k = gF x 1 0 k := x120
    have y21 : ∀ k, k < 16 → gF (sI x1 0 0 19 0) 21 c k = FP.fsub (gF x 1 0 k) (gF x 20 c k) := x121
    have yD : gD (sI x1 0 0 19 0) = gD x := x1D
    have yL : gL (sI x1 0 0 19 0) = gL x := x1L
    generalize sI x1 0 0 19 0 = y at yI yK y19 yF y57 y20 y21 yD yL ⊢
    have ec : ∀ k, k < 6 → gI y 3 0 k = gI x 3 0 k := fun k _ => yI 3 0 k (by omega)
    have CXo : ∀ k, k < 6 → ∀ i, ¬ (k = 0 ∧ i = c) → eqX k x y i := fun k hk i q =>
      six (P := fun k => ¬ (k = 0 ∧ i = c) → eqX k x y i) (fun q k _ => ⟨yF _ _ _ (by omega) (by omega), yF _ _ _ (by omega) (by omega)⟩) (fun _ k _ => yF _ _ _ (by omega) (by omega)) (fun _ => ⟨fun j _ => yI _ _ _ (by omega), fun s _ => ⟨yI _ _ _ (by omega), fun _ _ => by rw [yD]⟩⟩) (fun _ => ⟨fun j _ => yI _ _ _ (by omega), fun _ _ => by rw [yD]; exact ⟨rfl, rfl⟩⟩) (fun _ j _ => yI _ _ _ (by omega)) (fun _ => ⟨yI _ _ _ (by omega), yI _ _ _ (by omega), yI _ _ _ (by omega), yI _ _ _ (by omega), fun _ _ => ⟨yI _ _ _ (by omega), yI _ _ _ (by omega)⟩, fun _ _ _ => yF _ _ _ (by omega) (by omega)⟩) k hk q
    have mi : ∀ f i j, f < 39 ∨ 42 < f → ¬ (f = 0 ∧ (j = 9 ∨ j = 10 ∨ j = 44)) → gI m' f i j = gI m f i j := fun f i j q1 q2 => by rw [mI]; exact AI f i j q1 q2
    have CMo : ∀ k, k < 6 → ∀ i, i < cN x k → ¬ (k = 0 ∧ i = c) → CM k x m m' i := fun k hk i hi q => by
      refine six (P := fun k => i < cN x k → ¬ (k = 0 ∧ i = c) → CM k x m m' i) (fun _ q k _ => ⟨mF2 _ _ (by decide) (by omega) (by omega), mF2 _ _ (by decide) (by omega) (by omega)⟩) (fun _ _ k _ => mF2 _ _ (by decide) (by omega) (by omega)) (fun hi _ => ?_) (fun _ _ => ⟨mi _ _ _ (by decide) (by omega), mi _ _ _ (by decide) (by omega), mi _ _ _ (by decide) (by omega), fun _ _ => by rw [mD]; exact ⟨rfl, rfl⟩⟩) (fun _ _ => ⟨mi _ _ _ (by decide) (by omega), mi _ _ _ (by decide) (by omega), mi _ _ _ (by decide) (by omega), mi _ _ _ (by decide) (by omega), mi _ _ _ (by decide) (by omega)⟩) (fun _ _ => ⟨mi _ _ _ (by decide) (by omega), mi _ _ _ (by decide) (by omega), mi _ _ _ (by decide) (by omega), mi _ _ _ (by decide) (by omega), fun _ _ => ⟨mi _ _ _ (by decide) (by omega), mi _ _ _ (by decide) (by omega)⟩, fun _ _ _ => mF2 _ _ (by decide) (by omega) (by omega)⟩) k hk hi q
      exact ⟨mi _ _ _ (by decide) (by omega), mi _ _ _ (by decide) (by omega), mi _ _ _ (by decide) (by omega), fun s _ => ⟨mi _ _ _ (by decide) (by omega), fun _ _ => mF2 _ _ (by decide) (by omega) (by omega)⟩⟩
    have hA2 : ActM (iN x 18 0 3) m m' 10 (nI c) 0 0 (fun k => gF x 20 c k) (fun k => gF x 21 c k) := by
      unfold ActM
      rw [hs, mI]
      refine ⟨p1, p2, p3, p4, p5, fun k hk => ⟨(mF _ _ (by omega) (by omega)).trans (N43 k hk).1, (mF _ _ (by omega) (by omega)).trans (N43 k hk).2⟩, fun j hj => ⟨fun f q1 q2 => ((p7 j hj).1 f q1 q2).trans (by rw [gI_sI, if_neg (by omega)]), fun k hk => ⟨(mF _ _ (by omega) (by omega)).trans ((NF _ _ (by omega)).trans ((p7 j hj).2 k hk).1), (mF _ _ (by omega) (by omega)).trans ((NF _ _ (by omega)).trans ((p7 j hj).2 k hk).2)⟩⟩⟩
    refine rel_mod h (by rw [hw, yK _ _ _ (by decide)]; exact Kw.2.2.1) (by rw [hs, yK _ _ _ (by decide)]; exact Kw.2.2.2) (fun v _ hv => ⟨fun k _ => (yK _ _ _ (by decide)).trans (K55 v k (by omega)), fun k _ => yF _ _ _ (by omega) (by omega)⟩) ec (fun l _ => ?_) (fun i q1 q2 k hk => (yF _ _ _ (by omega) (by omega)).trans (hx.2.1.2 i q1 q2 k hk)) (fun k hk => ?_) (fun i hi => CMo 1 (by decide) i hi (by omega)) (fun k hk i hi => ?_) hA2 (fun hyc t ht hts => ?_) (fun hyc tm i h1 h2 h3 h4 h5 _ h7 hLt => ?_) ⟨fun f i j q => yI _ _ _ (by omega), fun f i j q => yF _ _ _ (by omega) (by omega), fun _ _ _ _ => by rw [yD], yL⟩ ⟨fun f i j q => mi _ _ _ (by omega) (by omega), fun j q => mF2 _ _ (by decide) (by omega) (by omega), by rw [mD], by rw [mL]⟩ (by rw [mI, A9]; exact y19.symm)
    · rw [iN_e (yI 29 l 3 (by omega)), iN_e (yI 29 l 4 (by omega))]
      exact Nat.le_refl _
    · have ek := cM_v k hk
      exact mi _ _ _ (by omega) (by omega)
    · by_cases e : k = 0 ∧ i = c
      · obtain ⟨rfl, rfl⟩ := e
        right
        refine ⟨fun k hk => ⟨?_, ?_⟩, fun k hk => ⟨?_, ?_⟩⟩
        · rw [y20 k hk]; exact fr k hk
        · rw [y21 k hk]; exact mvd_fsub (fr k hk) (fb k hk)
        · rw [mR k hk, y20 k hk]
        · rw [mDr k hk, y21 k hk]
      · exact Or.inl ⟨CXo k hk i e, CMo k hk i hi e⟩
    · rw [hw] at hts ⊢
      have r0 : gI t 55 w 0 = 10 := (hts.1 0 (by decide)).trans ((yK _ _ _ (by decide)).trans Kw.1)
      have r1 : gI t 55 w 1 = nI c := (hts.1 1 (by decide)).trans ((yK _ _ _ (by decide)).trans Kw.2.1)
      have t57 : ∀ k, k < 16 → gF t 57 w k = gF x 20 c k ∧ gF t 57 w (16 + k) = gF x 21 c k := fun k hk => ⟨(hts.2 k (by omega)).trans (y57 k hk).1, (hts.2 (16 + k) (by omega)).trans (y57 k hk).2⟩
      have ti := fun k hk i hi => LiveEq_X ht k hk i (by rw [show cN y k = cN x k from iN_e (ec k hk)]; exact hi)
      have uF : ∀ f i j, ¬ ((f = 20 ∨ f = 21) ∧ i = c ∧ j < 16) → gF (cF (cF t 57 w 0 20 c 0 16) 57 w 16 21 c 0 16) f i j = gF t f i j := fun f i j q => by
        rw [gF_cF, if_neg (by omega), gF_cF, if_neg (by omega)]
      refine ⟨cF (cF t 57 w 0 20 c 0 16) 57 w 16 21 c 0 16, ?_, LiveEq_mk (fun k hk => ?_) (fun i q1 q2 k hk => ?_) (fun k hk i hi => ?_), rfl, rfl, fun _ _ _ _ _ _ _ _ => rfl, fun f i j q1 q2 _ => uF f i j (by omega)⟩
      · unfold undoAt
        rw [r0, if_pos (show (6 : Int32) ≤ 10 by decide)]
        unfold fX11_takeBack fX2_restoreFrom
        rw [ck_t (r55_0 w60), lt1_e, r0, if_neg (show ¬ (10 : Int32) = 6 by decide), if_neg (show ¬ (10 : Int32) = 7 by decide), if_neg (show ¬ (10 : Int32) = 8 by decide), if_neg (show ¬ (10 : Int32) = 9 by decide), if_pos rfl, ck_t (r55_1 w60), r1, ck_t (by exact ic), nI_cl (by omega), l57, l20, l21, ck_t (by decide), lt1_e, ck_t (by decide), lt1_e, Option.bind_some]
      · exact (ht.1 k hk).trans (ec k hk)
      · rw [uF _ _ _ (by omega)]
        exact LiveEq_z ht i (by rw [show cN y 0 = cN x 0 from iN_e (ec 0 (by decide))]; exact q1) q2 k hk
      · by_cases e : k = 0 ∧ i = c
        · obtain ⟨rfl, rfl⟩ := e
          intro k hk
          refine ⟨?_, ?_⟩
          · rw [gF_cF, if_neg (by omega), gF_cF, if_pos ⟨rfl, rfl, by omega, by omega⟩, show 0 + (k - 0) = k by omega]
            exact (t57 k hk).1
          · rw [gF_cF, if_pos ⟨rfl, rfl, by omega, by omega⟩, show 16 + (k - 0) = 16 + k by omega, gF_cF, if_neg (by omega)]
            exact (t57 k hk).2
        · refine CX_t k hk (CXo k hk i e) (CX_t k hk (ti k hk i hi) ?_)
          exact six (P := fun k => ¬ (k = 0 ∧ i = c) → eqX k t (cF (cF t 57 w 0 20 c 0 16) 57 w 16 21 c 0 16) i) (fun q k _ => ⟨uF _ _ _ (by omega), uF _ _ _ (by omega)⟩) (fun _ k _ => uF _ _ _ (by omega)) (fun _ => CX_r t i 2 (by decide)) (fun _ => CX_r t i 3 (by decide)) (fun _ => CX_r t i 4 (by decide)) (fun _ => ⟨rfl, rfl, rfl, rfl, fun _ _ => ⟨rfl, rfl⟩, fun _ k _ => uF _ _ _ (by omega)⟩) k hk e
    · have eY := fun k hk => show cN y k = cN x k from iN_e (ec k hk)
      refine ⟨_, mUndo_10 h2 h1 h3 h4 c40, rfl, ?_, rfl, rfl, fun f i' j q _ _ _ _ _ _ => ?_, fun f i' j q1 q2 => ?_⟩
      · have uI : ∀ f j, f ≠ 0 → gI (putO (putO (sI (sI tm 0 0 10 0) 0 0 44 (nI i)) 1 0 (16 * (1 + c)) 16 (fun k => gF tm 43 0 (16 * i + k))) 2 0 (16 * c) 16 (fun k => gF tm 44 0 (16 * i + k))) f 0 j = gI tm f 0 j := fun f j q2 => by
          show gI (sI (sI tm 0 0 10 0) 0 0 44 (nI i)) f 0 j = _
          rw [gI_sI, if_neg (by omega), gI_sI, if_neg (by omega)]
        have uF : ∀ f j, ¬ (f = 1 ∧ 16 * (1 + c) ≤ j ∧ j < 16 * (1 + c) + 16) → ¬ (f = 2 ∧ 16 * c ≤ j ∧ j < 16 * c + 16) → gF (putO (putO (sI (sI tm 0 0 10 0) 0 0 44 (nI i)) 1 0 (16 * (1 + c)) 16 (fun k => gF tm 43 0 (16 * i + k))) 2 0 (16 * c) 16 (fun k => gF tm 44 0 (16 * i + k))) f 0 j = gF tm f 0 j := fun f j q1 q2 => by
          rw [putO_g (by omega), putO_g (by omega)]; rfl
        have cmo : ∀ k, k < 6 → ∀ j, j < cN x k → ¬ (k = 0 ∧ j = c) → CM k y tm (putO (putO (sI (sI tm 0 0 10 0) 0 0 44 (nI i)) 1 0 (16 * (1 + c)) 16 (fun k => gF tm 43 0 (16 * i + k))) 2 0 (16 * c) 16 (fun k => gF tm 44 0 (16 * i + k))) j := fun k hk j hj q =>
          six (P := fun k => j < cN x k → ¬ (k = 0 ∧ j = c) → CM k y tm (putO (putO (sI (sI tm 0 0 10 0) 0 0 44 (nI i)) 1 0 (16 * (1 + c)) 16 (fun k => gF tm 43 0 (16 * i + k))) 2 0 (16 * c) 16 (fun k => gF tm 44 0 (16 * i + k))) j) (fun _ q k _ => ⟨uF _ _ (by omega) (by omega), uF _ _ (by omega) (by omega)⟩) (fun _ _ k _ => uF _ _ (by omega) (by omega)) (fun _ _ => ⟨uI _ _ (by decide), uI _ _ (by decide), uI _ _ (by decide), fun _ _ => ⟨uI _ _ (by decide), fun _ _ => uF _ _ (by omega) (by omega)⟩⟩) (fun _ _ => ⟨uI _ _ (by decide), uI _ _ (by decide), uI _ _ (by decide), fun _ _ => ⟨rfl, rfl⟩⟩) (fun _ _ => ⟨uI _ _ (by decide), uI _ _ (by decide), uI _ _ (by decide), uI _ _ (by decide), uI _ _ (by decide)⟩) (fun _ _ => ⟨uI _ _ (by decide), uI _ _ (by decide), uI _ _ (by decide), uI _ _ (by decide), fun _ _ => ⟨uI _ _ (by decide), uI _ _ (by decide)⟩, fun _ _ _ => uF _ _ (by omega) (by omega)⟩) k hk hj q
        refine live_up (x := y) (m := tm) hyc hLt (fun k hk => ?_) (fun j hj => cmo 1 (by decide) j (by rw [← eY 1 (by decide)]; exact hj) (by omega)) (fun k hk j hj => ?_)
        · have ek := cM_v k hk
          show gI (sI (sI tm 0 0 10 0) 0 0 44 (nI i)) 0 0 (cM k) = _
          rw [gI_sI, if_neg (by omega), gI_sI, if_neg (by omega), hLt.1 k hk, ec k hk]
        · by_cases e : k = 0 ∧ j = c
          · obtain ⟨rfl, rfl⟩ := e
            right
            intro k hk
            refine ⟨?_, ?_⟩
            · rw [putO_g (by omega), putO_h hk]; exact (h7 k hk).1
            · rw [putO_h hk]; exact (h7 k hk).2
          · exact Or.inl ⟨by rw [eY k hk]; exact hj, CX_s k hk (CXo k hk j e), cmo k hk j hj e⟩
      · show gI (sI (sI tm 0 0 10 0) 0 0 44 (nI i)) f i' j = _
        rw [gI_sI, if_neg (by omega), gI_sI, if_neg (by omega)]
      · rw [putO_g (by omega), putO_g (by omega)]; rfl
