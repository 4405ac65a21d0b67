/-! ===== a correction, by both ===== -/
theorem b_correct {x m : Sto} (h : Rel x m) (a1 a2 a3 a4 a5 a6 : Int32) : ∃ r x' m', fX11_correct a1 a2 a3 a4 a5 a6 x = some (r, x') ∧ fX12_correct a1 a2 a3 a4 a5 a6 m = some (r, m') ∧ Rel x' m' := by
  have hx := h.1.2.1
  have hm := h.1.2.2.1
  have n1 : ¬ (1 : Int32) = 0 := by decide
  have q7 : gI (sI m 0 0 10 0) 0 0 7 = nI (cN x 5) := (rel_cnt h (k := 5) (by decide)).2.1
  have q2 : gI (sI m 0 0 10 0) 0 0 2 = nI (cN x 0) := (rel_cnt h (k := 0) (by decide)).2.1
  have x34 : gI x 3 0 4 = nI (cN x 4) := (rel_cnt h (k := 4) (by decide)).1
  have c40 : cN x 0 ≤ 40 := (hx.1 0 (by decide)).2
  have c20 : cN x 4 ≤ 20 := (hx.1 4 (by decide)).2
  have c12 : cN x 5 ≤ 12 := (hx.1 5 (by decide)).2
  rcases both_is hx (a := 5) (by decide) a1 with ⟨b, rfl, hb, e1, e2⟩ | ⟨_, e1, e2⟩
  rotate_left
  · refine ⟨-1, _, _, ?_, ?_, rel_no (v := 2) h⟩
    · unfold fX11_correct
      rw [show fX11_isThere (5 : Int32) a1 x = some 0 from e1, Option.bind_some, if_pos rfl, xRefused, Option.bind_some]; rfl
    · unfold fX12_correct
      rw [lt1_e, q7, e2, Option.bind_some, if_pos rfl, mNo, Option.bind_some]; rfl
  have e1 : fX11_isThere (5 : Int32) (nI b) x = some 1 := e1
  rcases both_is hx (a := 0) (by decide) a2 with ⟨ch, rfl, hch, e3, e4⟩ | ⟨_, e3, e4⟩
  rotate_left
  · refine ⟨-1, _, _, ?_, ?_, rel_no (v := 2) h⟩
    · unfold fX11_correct
      rw [e1, Option.bind_some, if_neg n1, show fX11_isThere (0 : Int32) a2 x = some 0 from e3, Option.bind_some, if_pos rfl, xRefused, Option.bind_some]; rfl
    · unfold fX12_correct
      rw [lt1_e, q7, e2, Option.bind_some, if_neg n1, q2, e4, Option.bind_some, if_pos rfl, mNo, Option.bind_some]; rfl
  have e3 : fX11_isThere (0 : Int32) (nI ch) x = some 1 := e3
  rcases both_one a3 a4 with ⟨l, e, rfl, rfl, hl, he, e5, e6, e7⟩ | ⟨e5, e6⟩
  rotate_left
  · refine ⟨-1, _, _, ?_, ?_, rel_no (v := 3) h⟩
    · unfold fX11_correct
      rw [e1, Option.bind_some, if_neg n1, e3, Option.bind_some, if_neg n1, e5, Option.bind_some, if_pos rfl, xRefused, Option.bind_some]; rfl
    · unfold fX12_correct
      rw [lt1_e, q7, e2, Option.bind_some, if_neg n1, q2, e4, Option.bind_some, if_neg n1]
      rcases e6 with e6 | ⟨e6, e7⟩
      · rw [e6, Option.bind_some, if_pos rfl, mNo, Option.bind_some]; rfl
      · rw [e6, Option.bind_some, if_neg n1, e7, Option.bind_some, if_pos rfl, mNo, Option.bind_some]; rfl
  rcases rng a5 1 10000 (by decide) (by decide) with ⟨st, rfl, u1, u2, u3, u4, _, u6⟩ | ⟨u, u6⟩
  rotate_left
  · refine ⟨-1, _, _, ?_, ?_, rel_no (v := 3) h⟩
    · unfold fX11_correct fX11_isGrid
      rw [e1, Option.bind_some, if_neg n1, e3, Option.bind_some, if_neg n1, e5, Option.bind_some, if_neg n1, show fX11_isWithin a5 (1 : Int32) (10000 : Int32) = some 0 from u6, Option.bind_some, if_pos rfl, Option.bind_some, if_pos rfl, xRefused, Option.bind_some]; rfl
    · unfold fX12_correct
      rw [lt1_e, q7, e2, Option.bind_some, if_neg n1, q2, e4, Option.bind_some, if_neg n1, e6, Option.bind_some, if_neg n1, e7, Option.bind_some, if_neg n1]
      rcases u with u | ⟨u, u', _⟩
      · rw [if_pos (show a5 < (1 : Int32) from u), mNo, Option.bind_some]; rfl
      · rw [if_neg (show ¬ a5 < (1 : Int32) from u), if_pos (show (10000 : Int32) < a5 from u'), mNo, Option.bind_some]; rfl
  have u6 : fX11_isWithin (nI st) (1 : Int32) (10000 : Int32) = some 1 := u6
  have u3 : ¬ nI st < (1 : Int32) := u3
  have u4 : ¬ (10000 : Int32) < nI st := u4
  rcases rng a6 1 12 (by decide) (by decide) with ⟨T, rfl, t1, t2, t3, _, t5, t6⟩ | ⟨u, t6⟩
  rotate_left
  · refine ⟨-1, _, _, ?_, ?_, rel_no (v := 3) h⟩
    · unfold fX11_correct fX11_isGrid
      rw [e1, Option.bind_some, if_neg n1, e3, Option.bind_some, if_neg n1, e5, Option.bind_some, if_neg n1, u6, Option.bind_some, if_neg n1, show fX11_isWithin a6 (1 : Int32) (12 : Int32) = some 0 from t6, Option.bind_some, if_pos rfl, Option.bind_some, if_pos rfl, xRefused, Option.bind_some]; rfl
    · unfold fX12_correct
      rw [lt1_e, q7, e2, Option.bind_some, if_neg n1, q2, e4, Option.bind_some, if_neg n1, e6, Option.bind_some, if_neg n1, e7, Option.bind_some, if_neg n1, if_neg u3, if_neg u4]
      rcases u with u | ⟨u, _, u'⟩
      · rw [if_pos (show a6 < (1 : Int32) from u), mNo, Option.bind_some]; rfl
      · rw [if_neg (show ¬ a6 < (1 : Int32) from u), if_neg (show ¬ a6 ≤ (12 : Int32) from u'), mNo, Option.bind_some]; rfl
  have t6 : fX11_isWithin (nI T) (1 : Int32) (12 : Int32) = some 1 := t6
  have t3 : ¬ nI T < (1 : Int32) := t3
  have t5 : nI T ≤ (12 : Int32) := t5
  have hgrid : fX11_isGrid (nI st) (nI T) = some 1 := by
    unfold fX11_isGrid
    rw [u6, Option.bind_some, if_neg n1, t6, Option.bind_some, if_neg n1]
  -- the batch and the lots
  obtain ⟨⟨o0, hc⟩, ⟨o1, kg1⟩, o2, o5, o6, o7, _⟩ := id (hx.2.2.2.2.2.2 b hb)
  have b12 : b < 12 := by omega
  have nb8 : iN x 30 b 2 ≤ 8 := o2.2
  have hEB : EB b (iN x 30 b 2) (cN x 4) (fun p => iN x 31 b p) (fun p => iN x 32 b p) (fun u => iN x 29 u 4) := ⟨b12, nb8, c20, fun p hp => by
    obtain ⟨⟨p1, p2⟩, p3, p4, p5⟩ := o6 p hp
    obtain ⟨_, _, _, r3, r4, r5⟩ := hx.2.2.2.2.2.1 _ p2
    have := r3.2
    exact ⟨p2, by dsimp only; omega⟩, o7, fun u hu => (hx.2.2.2.2.2.1 u hu).2.2.2.2.1.2⟩
  have hXE : XB x b (iN x 30 b 2) (cN x 4) (fun p => iN x 31 b p) (fun p => iN x 32 b p) (fun u => iN x 29 u 4) := ⟨⟨rfl, x34⟩, hb, o2.1, fun p hp => ⟨(o6 p hp).1.1.1, (o6 p hp).2.1.1⟩, fun u hu => (hx.2.2.2.2.2.1 u hu).2.2.2.2.1.1⟩
  have hH6 : ∀ p, p < iN x 30 b 2 → iN x 32 b p ≤ 1000000 := fun p hp => (o6 p hp).2.1.2
  have hx30 : gI x 30 b 2 = nI (iN x 30 b 2) := o2.1
  generalize iN x 30 b 2 = nb at nb8 hEB hXE hH6 hx30
  generalize hLg : (fun p => iN x 31 b p) = L at hEB hXE
  have hH6 : ∀ p, p < nb → (fun p => iN x 32 b p) p ≤ 1000000 := hH6
  generalize (fun p => iN x 32 b p) = H at hEB hXE hH6
  generalize (fun u => iN x 29 u 4) = lf at hEB hXE
  -- the class begins
  obtain ⟨B, hB, B3, B4, B5, B6, B9, B10, BI, kB⟩ : ∃ B, fX8_begin 1 (2 : Int32) (nI st) (nI (8 - nb)) x = some B ∧ gI B 16 1 3 = 0 ∧ gI B 16 1 4 = 2 ∧ gI B 16 1 5 = nI st ∧ gI B 16 1 6 = nI (8 - nb) ∧ gI B 16 1 9 = 0 ∧ gI B 16 1 10 = 0 ∧ (∀ f i j, f ≠ 16 → gI B f i j = gI x f i j) ∧ KF 1 x B := by
    refine ⟨_, rfl, rfl, rfl, rfl, rfl, rfl, rfl, fun f i j q => ?_, KF_t (KF_t (KF_t (KF_t (KF_t (KF_t (KF_I (by decide)) (KF_I (by decide))) (KF_I (by decide))) (KF_I (by decide))) (KF_I (by decide))) (KF_I (by decide))) (KF_I (by decide))⟩
    rw [gI_sI, if_neg (by omega), gI_sI, if_neg (by omega), gI_sI, if_neg (by omega), gI_sI, if_neg (by omega), gI_sI, if_neg (by omega), gI_sI, if_neg (by omega), gI_sI, if_neg (by omega)]
  obtain ⟨Z, z1, z2, z3, z5, z6, z7, z8⟩ := cOffers (sel := fun u => decide (1 ≤ lmt lf st T u)) hEB (XB_e hXE (fun f i j q => BI f i j (by omega))) B3 (fun _ => rfl) u1 u2 t1 t2
  generalize hsel : (fun u => decide (1 ≤ lmt lf st T u)) = sel at z2 z3
  have kZ : KF 1 x Z := KF_t kB ⟨fun f i j q => z5 f i j (by omega), fun f i j q => by rw [z6], fun f i j _ _ _ => by rw [z7], fun f i j _ => by rw [z8]⟩
  have RZ : RelS x 1 Z (sI m 0 0 10 0) := RelS_f (RelS_0 1 h) kZ (FM_I (by decide))
  obtain ⟨A, A1', A2, A3⟩ := xAimC (RelS_B RZ) hl he
  have hA20 : ∀ k, gF A 20 ch k = gF x 20 ch k := fun k => (A3.2.2.1 20 ch k (by decide)).symm.trans (kZ.2.1 20 ch k (by decide))
  have hgr : ∀ k, k < 16 → fl2 (gF A 20 ch k) := fun k hk => by rw [hA20]; exact (hx.2.1.1 ch hch k hk).1
  obtain ⟨G, G1, G2, G3, G4⟩ := xGoal (f := 20) (i := ch) A2 (show lFX 20 ch = 16 from if_pos (by omega)) hgr
  have gG : gI G = gI Z := G3.1.symm.trans A3.1.symm
  have kG : KF 1 x G := KF_t kZ (KF_t (KF_S A3) (KF_S G3))
  -- the reference begins
  generalize hW : Wt Z l e = W at A2 G2 G4
  have hWG : Wt G l e = W := (Wt_I (fun f i j _ => by rw [gG])).trans hW
  obtain ⟨m1, hm1, fm1, m59, m60, m1F, m1I⟩ : ∃ m1, m1 = sI (sI (sI m 0 0 10 0) 0 0 59 (nI l)) 0 0 60 (nI e) ∧ FM m m1 ∧ gI m1 0 0 59 = nI l ∧ gI m1 0 0 60 = nI e ∧ gF m1 = gF m ∧ ∀ f i j, f ≠ 0 → gI m1 f i j = gI m f i j :=
    ⟨_, rfl, FM_t (FM_t (FM_I (by decide)) (FM_I (by decide))) (FM_I (by decide)), rfl, rfl, rfl, fun f i j q => by rw [gI_sI, if_neg (by omega), gI_sI, if_neg (by omega), gI_sI, if_neg (by omega)]⟩
  have hgoal := mGoalR (x := Z) (m := sI m 0 0 10 0) (st := m1) (l := l) (e := e) (p := 1 + ch) (g := fun k => gF A 20 ch k) (RelS_B RZ) hl he (by omega) (fun f i j q _ => by rw [m1I _ _ _ (by omega), gI_sI, if_neg (by omega)]) (fun k hk => by rw [m1F, hA20]; exact (hm.2.1 ch hch k hk).1) hgr
  rw [hW] at hgoal
  obtain ⟨m3, hm3, fm3, M51, M56, M59, M60, M46⟩ : ∃ m3, m3 = sI (sI (putD m1 46 0 3 (colV (fun k => gF A 20 ch k) W)) 0 0 51 0) 0 0 56 0 ∧ FM m m3 ∧ gI m3 0 0 51 = nI 0 ∧ gI m3 0 0 56 = 0 ∧ gI m3 0 0 59 = nI l ∧ gI m3 0 0 60 = nI e ∧ (∀ k, k < 3 → gD m3 46 0 k = colV (fun k => gF A 20 ch k) W k) :=
    ⟨_, rfl, FM_t fm1 (FM_t (FM_t FM_pD (FM_I (by decide))) (FM_I (by decide))), rfl, rfl, m59, m60, fun k hk => putD_h hk⟩
  have RG3 : RelS x 1 G m3 := RelS_f (RelS_0 1 h) kG fm3
  have kGI : ∀ f i j, f = 3 ∨ (22 ≤ f ∧ f ≤ 33) → gI G f i j = gI x f i j := fun f i j q => kG.1 f i j (by omega)
  have hXG := XB_e hXE kGI
  have hGM := XB_GM hXG nb8 c20 RG3.1.2.2.1
  obtain ⟨w0, w1, w2, w3⟩ := mBathOf (t := G) b12 nb8 hGM.1 hGM.2.1
  have tb0 : TB m3 w0 := w3
  have RGw : RelS x 1 G w0 := RelS_f RG3 (KF_r _ _) (TB_FM tb0)
  -- the first gap
  have hCG : Cd 1 G 0 st (fun k => k) (fun k => k) (fun k => k) := ⟨by rw [gG, z5 _ _ _ (by omega)]; exact B9, by rw [gG, z5 _ _ _ (by omega)]; exact B5, fun k hk => absurd hk (Nat.not_lt_zero k)⟩
  have hbG : b < cN G 5 := hXG.2.1
  have hq4 : ∀ p, p < nb → L p < cN G 4 := fun p hp => by rw [hXG.1.1]; exact (hEB.2.2.2.1 p hp).1
  obtain ⟨Q, Q1, Q2, Q3, Q4⟩ := xBath (N := nb) (sel := fun _ => false) (q := L) (h := H) (pl := fun _ => 0) (RelS_B RGw) RGw.1.2.1 hl he hbG (by decide) hCG hXG.2.2.1 nb8 rfl (by omega) hq4 hH6 (fun p hp => ⟨(hXG.2.2.2.1 p hp).1, 0, H p, by
    have := xGramsOf (p := 0) (v := L p) (by decide) hCG (by decide) (by have := (hEB.2.2.2.1 p hp).1; omega) (fun k hk => absurd hk (Nat.not_lt_zero k)) (Nat.zero_le _) (fun k hk => absurd hk (Nat.not_lt_zero k)) (fun z => absurd z (Nat.not_lt_zero 0))
    rw [if_neg (Nat.not_lt_zero 0)] at this
    exact this, (hXG.2.2.2.1 p hp).2, rfl⟩) (fun k hk => absurd hk (Nat.not_lt_zero k)) (by rw [hWG]; exact G2) (by rw [hWG]; exact G4) hgr
  have hMB := mBathD (m := w0) (RelS_B RGw) RGw.1.2.1 RGw.1.2.2.1 hl he hbG (by omega) hq4 hH6 w2 ((tb0.1 0 0 59 (by omega)).trans M59) ((tb0.1 0 0 60 (by omega)).trans M60) (fun k hk => by rw [tb0.2.2.1, hWG]; exact M46 k hk) hgr
  rw [hWG] at Q3 Q4
  have hpcG : PcOk nb (fun p => partC G 4 (L p) (H p * 10 / iN G 30 b 1)) := fun k hk p hp => partC_b RGw.1.2.1 (share_e (hH6 p hp) (RGw.1.2.1.2.2.2.2.2.2 b hbG).2.1.2 (RGw.1.2.1.2.2.2.2.2.2 b hbG).2.1.1.2).2.2 hk
  have hV := (gapO_b (r := fun k => gF A 20 ch k) (s := mRow G (iN G 30 b 0) nb (fun p => partC G 4 (L p) (H p * 10 / iN G 30 b 1))) (RelS_B RGw) hl he hgr (fun k hk => (mRow_b RGw.1.2.1 (RGw.1.2.1.2.2.2.2.2.2 b hbG).1.2 (by omega) hpcG hk).1)).1
  generalize gapO G l e (fun k => gF A 20 ch k) (mRow G (iN G 30 b 0) nb (fun p => partC G 4 (L p) (H p * 10 / iN G 30 b 1))) = V at Q1 hMB hV
  generalize mRow G (iN G 30 b 0) nb (fun p => partC G 4 (L p) (H p * 10 / iN G 30 b 1)) = row at hMB
  -- the class keeps it
  have qI : gI Q = gI G := Q2.1.symm
  have hCQ : Cd 1 Q 0 st (fun k => k) (fun k => k) (fun k => k) := Cd_I hCG (fun f b j _ _ => by rw [qI])
  obtain ⟨X0, x1, xI, xF, xD, xL⟩ := xKeep (V := V) (K := 0) (by decide) hCQ (by decide)
  have xI' : ∀ f i j, ¬ (i = 1 ∧ f = 16 ∧ (j = 16 ∨ j = 13)) → gI X0 f i j = gI G f i j := fun f i j q => by
    rw [xI, if_neg (by omega), if_neg (by omega), if_neg (by omega), if_neg (by omega), qI]
  have kX0 : KF 1 x X0 := KF_t kG (KF_t (KF_S Q2) ⟨fun f i j q => by rw [xI, if_neg (by omega), if_neg (by omega), if_neg (by omega), if_neg (by omega)], fun f i j q => by rw [xF], fun f i j q1 _ _ => by rw [xD, if_neg (by omega)], fun f i j q => by rw [xL, if_neg (by omega)]⟩)
  -- the reference keeps it
  obtain ⟨r0, r0e, r0F⟩ := lp_inv (body := un2 fun (v51 : Int32) (t52 : Sto) =>
                    if (4 : Int32) ≤ v51 then (
                     some (.inr t52)) else (
                     ck (0 ≤ v51.toInt ∧ v51.toInt < (lIM (71) (0) : Int)) (lt1 (sI t52 (71) (0) (v51.toNatClampNeg) (-1 : Int32)) fun (t211 : Sto) =>
                      lt1 (v51 + Int32.ofInt (1)) fun (v212 : Int32) =>
                      some (.inl (v212, t211))))) (fun q (w : Int32 × Sto) => w.1 = nI q ∧ Fill 71 0 q (fun _ => -1) (sD (putO w0 1 0 2144 16 row) 0 0 72 V) w.2) (fun r => Fill 71 0 4 (fun _ => -1) (sD (putO w0 1 0 2144 16 row) 0 0 72 V) r) 4 (fun q w hk hI => by
      obtain ⟨v, w⟩ := w
      obtain ⟨hI1, hI2⟩ := hI
      have hI1 : v = nI q := hI1
      have hI2 : Fill 71 0 q (fun _ => -1) (sD (putO w0 1 0 2144 16 row) 0 0 72 V) w := hI2
      subst hI1
      dsimp only [un2]
      by_cases e : q = 4
      · subst e
        exact Or.inl ⟨w, if_pos (show nI 4 ≤ nI 4 by decide), hI2⟩
      · have hf := Fill_s hI2
        rw [Nat.zero_add] at hf
        refine Or.inr ⟨by omega, (nI (q + 1), sI w 71 0 q (-1)), ?_, rfl, hf⟩
        rw [if_neg (show ¬ (4 : Int32) ≤ nI q from nI_gt (N := 4) (by decide) (by omega)), show lIM 71 0 = 4 from rfl, ck_t (by exact ixl (by omega) (by omega)), nI_cl (n := q) (by omega), lt1_e, lt1_e, nI_s]) 4 4000 0 ((0 : Int32), sD (putO w0 1 0 2144 16 row) 0 0 72 V) rfl ⟨rfl, Fill_0 _ _ _ _⟩ (by decide)
  have fr0 : FM w0 r0 := FM_t (FM_t (FM_O (Nat.le_refl _)) (FM_D (f := 0) (i := 0) (j := 72) (v := V) (by decide))) ⟨fun f i j _ _ _ _ _ q => by rw [r0F.1, if_neg (by omega)], fun f i j _ => by rw [r0F.2.1], fun f i j _ _ => by rw [r0F.2.2.1], fun f i j _ => by rw [r0F.2.2.2]⟩
  have R0 : RelS x 1 X0 r0 := RelS_f (RelS_0 1 h) kX0 (FM_t fm3 (FM_t (TB_FM tb0) fr0))
  have r0I : ∀ f i j, f ≠ 71 → gI r0 f i j = gI w0 f i j := fun f i j q => by rw [r0F.1, if_neg (by omega)]; rfl
  have r0D : ∀ f i j, gD r0 f i j = if f = 0 ∧ i = 0 ∧ j = 72 then V else gD m3 f i j := fun f i j => by
    rw [r0F.2.2.1, gD_sD, show gD (putO w0 1 0 2144 16 row) f i j = gD m3 f i j from by rw [show gD (putO w0 1 0 2144 16 row) = gD w0 from rfl, tb0.2.2.1]]
  have hSe : SeC l e (rk sel (cN x 4)) 2 (8 - nb) st (fun q => iN Z 45 1 q) (fun q => lmt lf st T (iN Z 45 1 q)) (fun q => ndC L nb (iN Z 45 1 q)) W (fun k => gF A 20 ch k) X0 := by
    have zq : ∀ f j, ¬ (f = 16 ∧ (j = 16 ∨ j = 13)) → gI X0 f 1 j = gI Z f 1 j := fun f j q => by rw [xI' _ _ _ (by omega), gG]
    refine ⟨by rw [zq _ _ (by decide)]; exact z2, by rw [zq _ _ (by decide), z5 _ _ _ (by omega)]; exact B4, by rw [zq _ _ (by decide), z5 _ _ _ (by omega)]; exact B5, by rw [zq _ _ (by decide), z5 _ _ _ (by omega)]; exact B6, fun q hq => ?_, (Wt_I (fun f i j _ => by rw [xI' _ _ _ (by omega)])).trans hWG, Aim_e (s := Q) (fun f i j q => by rw [xD, if_neg (by omega)]) Q3, fun k hk => by rw [xD, if_neg (by omega)]; exact Q4 k hk⟩
    obtain ⟨u, v1, v2, v3⟩ := rk_sur sel hq
    obtain ⟨p1, p2, p3⟩ := z3 u v1 v2
    rw [v3] at p1 p2 p3
    have eD : iN Z 45 1 q = u := by unfold iN; rw [p1]; exact nI_cl (by omega)
    dsimp only
    rw [zq _ _ (by omega), zq _ _ (by omega), zq _ _ (by omega), eD]
    exact ⟨p1, p2, p3⟩
  have hE : EnC x l e (rk sel (cN x 4)) b nb (cN x 4) (8 - nb) st T L H lf (fun q => iN Z 45 1 q) (fun q => lmt lf st T (iN Z 45 1 q)) (fun q => ndC L nb (iN Z 45 1 q)) sel (fun k => gF A 20 ch k) := by
    have eD : ∀ u, u < cN x 4 → sel u = true → iN Z 45 1 (rk sel u) = u := fun u hu hs => by
      unfold iN
      rw [(z3 u hu hs).1]; exact nI_cl (by omega)
    refine ⟨⟨hl, he, hgr⟩, hEB, hXE, ⟨u1, u2⟩, ⟨t1, t2⟩, rfl, rfl, eD, fun q hq => ?_, fun v hv hs j j1 j2 y => ?_⟩
    · obtain ⟨u, v1, v2, v3⟩ := rk_sur sel hq
      have e := eD u v1 v2
      rw [v3] at e
      have v2' := v2
      rw [← hsel] at v2'
      have key : ∀ w, w = u → w < cN x 4 ∧ 1 ≤ lmt lf st T w ∧ lmt lf st T w ≤ T ∧ (∀ j, j ≤ T → (j ≤ lmt lf st T w ↔ j * st ≤ 100000 ∧ 1000 * (j * st) ≤ lf w)) ∧ ndC L nb w = if plc L nb w < nb then 0 else 1 := fun w hw => by
        subst hw
        exact ⟨v1, of_decide_eq_true v2', Nat.min_le_right _ _, fun j hj => lmt_e u1 hj, rfl⟩
      exact key _ e
    · have := (lmt_e (lf := lf) (u := v) u1 j2).mpr y
      apply hs
      rw [← hsel]
      exact decide_eq_true (show 1 ≤ lmt lf st T v by omega)
  have hCo : Co x l e (rk sel (cN x 4)) (8 - nb) st (fun q => iN Z 45 1 q) (fun q => lmt lf st T (iN Z 45 1 q)) (fun q => ndC L nb (iN Z 45 1 q)) W (fun k => gF A 20 ch k) b X0 0 X0 r0 := by
    refine ⟨XC_0 _ _, R0, hSe, ⟨by rw [r0I _ _ _ (by decide), tb0.1 _ _ _ (by omega)]; exact M59, by rw [r0I _ _ _ (by decide), tb0.1 _ _ _ (by omega)]; exact M60, fun k hk => by rw [r0D, if_neg (by omega)]; exact M46 k hk⟩, ⟨?_, ?_, ?_, ?_, ?_, ?_, 0, by decide, ?_, fun p hp => ?_, fun p hp => absurd hp (Nat.not_lt_zero p)⟩, fun f i j q => (xI' f i j (by omega)).trans (kGI f i j q)⟩
    · rw [xI' _ _ _ (by omega), gG, z5 _ _ _ (by omega)]; exact B10
    · rw [r0I _ _ _ (by decide), tb0.1 _ _ _ (by omega)]; exact M51
    · rw [xI, if_neg (by omega), if_neg (by omega), if_neg (by omega), if_pos ⟨rfl, rfl, rfl⟩]
    · rw [xD, if_pos ⟨rfl, rfl, rfl⟩]; exact hV
    · rw [r0D, if_pos ⟨rfl, rfl, rfl⟩, xD, if_pos ⟨rfl, rfl, rfl⟩]
    · rw [xL, if_pos ⟨rfl, rfl, rfl⟩]
    · rw [xI, if_neg (by omega), if_neg (by omega), if_pos ⟨rfl, rfl, rfl⟩]
    · rw [if_neg (Nat.not_lt_zero p), if_neg (Nat.not_lt_zero p), r0F.1, if_pos ⟨rfl, rfl, by omega, by omega⟩, r0F.1, if_pos ⟨rfl, rfl, by omega, by omega⟩]
      exact ⟨rfl, rfl⟩
  have r056 : gI r0 0 0 56 = 0 := by rw [r0I _ _ _ (by decide), tb0.1 _ _ _ (by omega)]; exact M56
  obtain ⟨r1, s1, s2⟩ := c_s1 rfl hE (ic_sc (g := fun k => k) (i := fun k => k) (s := 0) (R := 0) rfl hE ⟨0, X0, by decide, hCo, r056, ⟨(xI' _ _ _ (by omega)).trans hCG.1, (xI' _ _ _ (by omega)).trans hCG.2.1, fun k hk => absurd hk (Nat.not_lt_zero k)⟩⟩ (by decide) (fun k hk => absurd hk (Nat.not_lt_zero k)) (fun k hk => absurd hk (Nat.not_lt_zero k)))
  obtain ⟨r2, s3, s4⟩ := c_s2 rfl hE s2
  obtain ⟨k, Y, c, ⟨Z', y1, y2⟩, y3, y4, y5, y6⟩ := cEnds rfl hE s4
  obtain ⟨_, k2, _, _, _, _, sb, g1, g2, g3, g4⟩ := id y4
  have h71 : (sb = 0 ∧ gI r2 71 0 0 = -1) ∨ (sb = 1 ∧ gI r2 71 0 0 ≠ -1 ∧ gI r2 71 0 2 = -1) ∨ (sb = 2 ∧ gI r2 71 0 0 ≠ -1 ∧ gI r2 71 0 2 ≠ -1) := by
    have p0 := (g3 0 (by decide)).1
    have p1 := (g3 1 (by decide)).1
    obtain rfl | rfl | rfl : sb = 0 ∨ sb = 1 ∨ sb = 2 := by omega
    · exact Or.inl ⟨rfl, p0⟩
    · refine Or.inr (Or.inl ⟨rfl, ?_, p1⟩)
      obtain ⟨v, v1, v2⟩ := g4 0 (by decide)
      rw [show gI r2 71 0 0 = gI Y 50 1 0 from p0, v2]; exact nI_ne1 (by omega)
    · refine Or.inr (Or.inr ⟨rfl, ?_, ?_⟩)
      · obtain ⟨v, v1, v2⟩ := g4 0 (by decide)
        rw [show gI r2 71 0 0 = gI Y 50 1 0 from p0, v2]; exact nI_ne1 (by omega)
      · obtain ⟨v, v1, v2⟩ := g4 1 (by decide)
        rw [show gI r2 71 0 2 = gI Y 50 1 1 from p1, v2]; exact nI_ne1 (by omega)
  obtain ⟨u, v1, v2, v3, v4, v5⟩ := mEndC_e k2 y6 h71
  refine ⟨nI sb, sI (sI (sI Y 16 1 11 c) 16 1 12 1) 0 0 19 0, u, ?_, ?_, corFin y3 y4 g2 g1 (by rcases y6 with ⟨_, z⟩ | ⟨_, z⟩; exact Or.inr z; exact Or.inl z) v2 v3 v4 v5⟩
  · unfold fX11_correct
    rw [e1, Option.bind_some, if_neg n1, e3, Option.bind_some, if_neg n1, e5, Option.bind_some, if_neg n1, hgrid, Option.bind_some, if_neg n1, ck_t (by exact ixl (by omega) (by omega)), nI_cl (n := b) (by omega), hx30, show (8 : Int32) - nI nb = nI (8 - nb) from pk_sub (a := 8) nb8, hB, Option.bind_some]
    rw [nI_cl (n := b) (by omega)] at z1
    refine (congrArg (fun o => Option.bind o _) z1).trans ?_
    rw [Option.bind_some, A1', Option.bind_some, ck_t (by exact ixl (by omega) (by omega)), nI_cl (n := ch) (by omega), G1, Option.bind_some, Q1, Option.bind_some]
    dsimp only [un2]
    rw [show fX8_setBound 1 V Q = some X0 from by unfold fX8_setBound; rw [x1, Option.bind_some], Option.bind_some]
    have y1' := y1
    unfold cLB at y1'
    rw [nI_cl (n := b) (by omega)] at y1'
    refine (congrArg (fun o => Option.bind o _) y1').trans ?_
    rw [Option.bind_some, y2, Option.bind_some, xAccept, Option.bind_some]
    dsimp only [un2]
    rw [show gI (sI (sI (sI Y 16 1 11 c) 16 1 12 1) 0 0 19 0) 16 1 16 = nI sb from by rw [gI_sI, if_neg (by omega), gI_sI, if_neg (by omega), gI_sI, if_neg (by omega)]; exact g2]
  · unfold fX12_correct
    rw [lt1_e, q7, e2, Option.bind_some, if_neg n1, q2, e4, Option.bind_some, if_neg n1, e6, Option.bind_some, if_neg n1, e7, Option.bind_some, if_neg n1, if_neg u3, if_neg u4, if_neg t3, if_pos t5, lt1_e, lt1_e, ← hm1, show (1 : Int32) + nI ch = nI (1 + ch) from nI_add 1 ch, hgoal, Option.bind_some, lt1_e, lt1_e, ← hm3, w1, Option.bind_some, hMB, Option.bind_some]
    dsimp only [un2]
    rw [lt1_e]
    refine (congrArg (fun o => Option.bind o _) r0e).trans ?_
    rw [Option.bind_some]
    refine (congrArg (fun o => Option.bind o _) s1).trans ?_
    rw [Option.bind_some]
    refine (congrArg (fun o => Option.bind o _) s3).trans ?_
    rw [Option.bind_some]
    exact v1
