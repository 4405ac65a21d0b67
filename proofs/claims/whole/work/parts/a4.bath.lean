/-! ===== a bath's gap, by the reference ===== -/
/-- the reference's bath: N lots q with grams h -/
def Bt (m : Sto) (N : Nat) (q h : Nat → Nat) : Prop := gI m 0 0 68 = nI N ∧ ∀ p, p < N → gI m 67 0 p = nI (q p) ∧ gI m 68 0 p = nI (h p)
theorem share_e {h kg : Nat} (hh : h ≤ 1000000) (k1 : 1 ≤ kg) (k2 : kg ≤ 1000) : ((nI h).toInt64 * (10 : Int64)) / (nI kg).toInt64 = lN (h * 10 / kg) ∧ ¬ (nI kg).toInt64 = 0 ∧ h * 10 / kg ≤ 10000000 := by
  have e1 : (nI h).toInt64 * (10 : Int64) = lN (h * 10) := by
    rw [nI_64 (by omega)]
    show lN h * lN 10 = _
    rw [lN_mul]
  have hd : h * 10 / kg ≤ h * 10 := Nat.div_le_self _ _
  refine ⟨by rw [e1, nI_64 (by omega), pk_lDiv (by omega) (by omega) (by omega)], fun z => ?_, by omega⟩
  rw [nI_64 (by omega)] at z
  have := (lN_leI (a := kg) (b := 0) (by omega) (by decide)).mp (by rw [z]; exact Int64.le_refl _)
  omega
theorem mBathD {t m : Sto} {l e b N : Nat} {q h : Nat → Nat} {gr : Nat → UInt32} (hB : CurB t m) (hx : CoreOk t) (hm : LiveM t m) (hl : l < 6) (he : e < 2) (hb : b < cN t 5) (N10 : N ≤ 10) (hq : ∀ p, p < N → q p < cN t 4) (hh : ∀ p, p < N → h p ≤ 1000000) (hT : Bt m N q h) (h59 : gI m 0 0 59 = nI l) (h60 : gI m 0 0 60 = nI e) (hg : ∀ k, k < 3 → gD m 46 0 k = colV gr (Wt t l e) k) (hgr : ∀ k, k < 16 → fl2 (gr k)) : fX12_bathDistance (nI b) m = some (gapO t l e gr (mRow t (iN t 30 b 0) N (fun p => partC t 4 (q p) (h p * 10 / iN t 30 b 1))), putO m 1 0 2144 16 (mRow t (iN t 30 b 0) N (fun p => partC t 4 (q p) (h p * 10 / iN t 30 b 1)))) := by
  have c5 : cN t 5 ≤ 12 := (hx.1 5 (by decide)).2
  have c1 : cN t 1 ≤ 8 := (hx.1 1 (by decide)).2
  have c4 : cN t 4 ≤ 20 := (hx.1 4 (by decide)).2
  obtain ⟨⟨o0, hc⟩, ⟨o1, kg1⟩, _⟩ := hx.2.2.2.2.2.2 b hb
  obtain ⟨l0, l1, _⟩ := hm.2.2.2.2.2.2 b hb
  have kg2 := o1.2
  have m21 : gI m 21 0 b = nI (iN t 30 b 0) := l0.trans o0.1
  have m22 : gI m 22 0 b = nI (iN t 30 b 1) := l1.trans o1.1
  generalize iN t 30 b 0 = c at hc m21 ⊢
  generalize iN t 30 b 1 = kg at kg1 kg2 m22 ⊢
  have hG : ∀ p, p < N → h p * 10 / kg ≤ 10000000 := fun p hp => (share_e (hh p hp) kg1 kg2).2.2
  have hpc : PcOk N (fun p => partC t 4 (q p) (h p * 10 / kg)) := fun k hk p hp => partC_b hx (hG p hp) hk
  have hrow : ∀ k, k < 16 → fl2 (mRow t c N (fun p => partC t 4 (q p) (h p * 10 / kg)) k) := fun k hk => (mRow_b hx hc N10 hpc hk).1
  have hft : fX12_fromTo (134 : Int32) (nI l) (nI e) (putO m 1 0 2144 16 (mRow t c N (fun p => partC t 4 (q p) (h p * 10 / kg)))) = some (gapO t l e gr (mRow t c N (fun p => partC t 4 (q p) (h p * 10 / kg)))) := by
    rw [(gapO_b hB hl he hrow hgr).2]
    exact mFromR (p := 134) hB hl he (by decide) (fun f i j _ _ => rfl) (fun k hk => putO_h hk) hrow hg hgr
  unfold fX12_bathDistance
  have hloop := fun body (hb1 : ∀ k, k < 16 → body (nI k, putO m 1 0 2144 k (mRow t c N (fun p => partC t 4 (q p) (h p * 10 / kg)))) = some (.inl (nI (k + 1), sF (putO m 1 0 2144 k (mRow t c N (fun p => partC t 4 (q p) (h p * 10 / kg)))) 1 0 (2144 + k) (mRow t c N (fun p => partC t 4 (q p) (h p * 10 / kg)) k)))) hb2 => loopO (body := body) (s := m) (f := 1) (i := 0) (o := 2144) (mRow t c N (fun p => partC t 4 (q p) (h p * 10 / kg))) 16 (by decide) hb1 hb2
  refine (congrArg (fun o => Option.bind o _) (hloop _ (fun k hk => ?_) ?_)).trans ?_
  · have hS : SameM m (putO m 1 0 2144 k (mRow t c N (fun p => partC t 4 (q p) (h p * 10 / kg)))) := ⟨fun _ _ _ _ => rfl, fun f i j z => (putO_g (by omega)).symm, fun _ _ _ _ => rfl⟩
    have hL := LiveM_S hx hS hm
    have T1 : Bt (putO m 1 0 2144 k (mRow t c N (fun p => partC t 4 (q p) (h p * 10 / kg)))) N q h := hT
    have w21 : gI (putO m 1 0 2144 k (mRow t c N (fun p => partC t 4 (q p) (h p * 10 / kg)))) 21 0 b = nI c := m21
    have w22 : gI (putO m 1 0 2144 k (mRow t c N (fun p => partC t 4 (q p) (h p * 10 / kg)))) 22 0 b = nI kg := m22
    have ecl := hL.2.2.1 c hc k hk
    generalize putO m 1 0 2144 k (mRow t c N (fun p => partC t 4 (q p) (h p * 10 / kg))) = w at hL T1 w21 w22 ecl
    have e16 : ((16 : Int32) * ((41 : Int32) + nI c)) + nI k = nI (16 * (41 + c) + k) := by
      show nI 16 * (nI 41 + nI c) + nI k = _
      simp only [pk_mul, nI_add]
    have e21 : (2144 : Int32) + nI k = nI (2144 + k) := nI_add 2144 k
    dsimp only [un2]
    rw [if_neg (g16 hk), show lIM 21 0 = 12 from rfl, ck_t (by exact ixl (by omega) (by omega)), nI_cl (n := b) (by omega), w21, e16, show lFM 1 0 = 2176 from rfl, ck_t (by exact ixl (by omega) (by omega)), nI_cl (n := 16 * (41 + c) + k) (by omega), ecl, (qtn_b (hx.2.2.1 c hc k hk)).2.1, Option.bind_some]
    refine (congrArg (fun o => Option.bind o _) (lp_seq0 (fun p => (nI p, qSum (qtn (gF t 6 c k)) (fun p => partC t 4 (q p) (h p * 10 / kg) k) p)) (r := qSum (qtn (gF t 6 c k)) (fun p => partC t 4 (q p) (h p * 10 / kg) k) N) N 4000 rfl (fun p hp => ?_) ?_ (by omega))).trans ?_
    · obtain ⟨t1, t2⟩ := T1.2 p hp
      have qp := hq p hp
      obtain ⟨sh1, sh2, sh3⟩ := share_e (hh p hp) kg1 kg2
      have eC : partC t 4 (q p) (h p * 10 / kg) k = mixD t (iN t 29 (q p) 0) (wo (FP.l2d (lN (h p * 10 / kg))) (iN t 29 (q p) 1) (iN t 29 (q p) 2)) k := by
        unfold partC
        rw [if_pos rfl, if_pos qp]
      have hL2 := mMixL hx hL qp hk (ng := h p * 10 / kg) sh3
      have hadd : fnn (FP.dadd (qSum (qtn (gF t 6 c k)) (fun p => partC t 4 (q p) (h p * 10 / kg) k) p) (partC t 4 (q p) (h p * 10 / kg) k)) := (iv_add (mQ_b hx hc N10 hpc hk p (by omega)).1 (hpc k hk p hp).1 (by omega)).2
      dsimp only [un2]
      rw [T1.1, if_neg (nI_gt (by omega) hp), show lIM 67 0 = 10 from rfl, show lIM 68 0 = 10 from rfl, show lIM 22 0 = 12 from rfl, ck_t (by exact ixl (by omega) (by omega)), ck_t (by exact ixl (by omega) (by omega)), ck_t (by exact ixl (by omega) (by omega)), nI_cl (n := p) (by omega), w22, ck_t sh2, t1, t2, sh1, hL2, Option.bind_some, ← eC, nd_t (n64_of hadd), lt1_e, nI_s]
      rfl
    · dsimp only [un2]
      rw [T1.1, if_pos (Int32.le_refl _)]
    · rw [Option.bind_some, (mRow_b hx hc N10 hpc hk).2, Option.bind_some, e21, ck_t (by exact ixl (by omega) (by omega)), nI_cl (by omega), lt1_e, lt1_e, nI_s]
  · dsimp only [un2]; exact if_pos (show nI 16 ≤ nI 16 by decide)
  · rw [Option.bind_some, show gI (putO m 1 0 2144 16 (mRow t c N (fun p => partC t 4 (q p) (h p * 10 / kg)))) 0 0 59 = nI l from h59, show gI (putO m 1 0 2144 16 (mRow t c N (fun p => partC t 4 (q p) (h p * 10 / kg)))) 0 0 60 = nI e from h60, hft, Option.bind_some]
