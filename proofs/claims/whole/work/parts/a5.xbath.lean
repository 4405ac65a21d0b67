/-! ===== a bath's gap, by the class ===== -/
theorem xShare {t : Sto} {b h : Nat} {a : Int32} (k1 : 1 ≤ iN t 30 b 1) (k2 : isN t 30 b 1 1000) (ha : a = nI h) (hh : h ≤ 1000000) : fX1_share b a t = some (lN (h * 10 / iN t 30 b 1)) := by
  obtain ⟨s1, s2, _⟩ := share_e hh k1 k2.2
  unfold fX1_share
  rw [k2.1, ck_t s2, ha, s1]
theorem xBath {t m : Sto} {l e b s st nb N : Nat} {i d g q h pl : Nat → Nat} {sel : Nat → Bool} {gr : Nat → UInt32} (hB : CurB t m) (hx : CoreOk t) (hl : l < 6) (he : e < 2) (hb : b < cN t 5) (s3 : s ≤ 3) (hC : Cd 1 t s st i d g) (hnb : gI t 30 b 2 = nI nb) (nb8 : nb ≤ 8) (hN : N = nb + rk sel s) (N10 : N ≤ 10) (hq : ∀ p, p < N → q p < cN t 4) (hh : ∀ p, p < N → h p ≤ 1000000) (h1 : ∀ p, p < nb → gI t 31 b p = nI (q p) ∧ ∃ G H, fX8_gramsOf 1 (nI (q p)) t = some (nI G) ∧ gI t 32 b p = nI H ∧ h p = H + G) (h2 : ∀ k, k < s → fX1_placeOf b (nI (d k)) t = some (if sel k = true then (-1 : Int32) else nI (pl k)) ∧ pl k < 8 ∧ (sel k = true → q (nb + rk sel k) = d k ∧ h (nb + rk sel k) = g k * st)) (ha : Aim t (Wt t l e)) (hg : ∀ k, k < 3 → gD t 41 0 k = colV gr (Wt t l e) k) (hgr : ∀ k, k < 16 → fl2 (gr k)) : ∃ y, fX11_bathGap b t = some (gapO t l e gr (mRow t (iN t 30 b 0) N (fun p => partC t 4 (q p) (h p * 10 / iN t 30 b 1))), y) ∧ SameX t y ∧ Aim y (Wt t l e) ∧ ∀ k, k < 3 → gD y 41 0 k = colV gr (Wt t l e) k := by
  have c5 : cN t 5 ≤ 12 := (hx.1 5 (by decide)).2
  have c1 : cN t 1 ≤ 8 := (hx.1 1 (by decide)).2
  have c4 : cN t 4 ≤ 20 := (hx.1 4 (by decide)).2
  obtain ⟨⟨o0, hc⟩, ⟨o1, kg1⟩, _⟩ := hx.2.2.2.2.2.2 b hb
  have b12 : b < 12 := by omega
  have l31 : lIX 31 b = 8 := if_pos b12
  have l32 : lIX 32 b = 8 := if_pos b12
  have hG : ∀ p, p < N → h p * 10 / iN t 30 b 1 ≤ 10000000 := fun p hp => (share_e (hh p hp) kg1 o1.2).2.2
  have hpc : PcOk N (fun p => partC t 4 (q p) (h p * 10 / iN t 30 b 1)) := fun k hk p hp => partC_b hx (hG p hp) hk
  obtain ⟨y, y1, y2, y3, y4⟩ := xMade hB hx hl he hc N10 hpc ha hg hgr
  refine ⟨y, ?_, y2, y3, y4⟩
  have hSp : ∀ p, SameX t (putD t 43 0 16 (fun k => qSum (qtn (gF t 6 (iN t 30 b 0) k)) (fun p => partC t 4 (q p) (h p * 10 / iN t 30 b 1) k) p)) := fun p => SameX_pD (by decide)
  -- one part more
  have add : ∀ p, p < N → fX11_mixPart (4 : Int32) (nI (q p)) (lN (h p * 10 / iN t 30 b 1)) (putD t 43 0 16 (fun k => qSum (qtn (gF t 6 (iN t 30 b 0) k)) (fun p => partC t 4 (q p) (h p * 10 / iN t 30 b 1) k) p)) = some (putD t 43 0 16 (fun k => qSum (qtn (gF t 6 (iN t 30 b 0) k)) (fun p => partC t 4 (q p) (h p * 10 / iN t 30 b 1) k) (p + 1))) := fun p hp => by
    have qp := hq p hp
    have hm := xPart (CoreOk_S (hSp p) hx) (a := 4) (w := q p) (g := h p * 10 / iN t 30 b 1) (c := 1024 + 10 * 10240000000000) (Or.inl rfl) (by omega) (hG p hp) (fun k hk => by
      rw [putD_h hk]
      exact (mQ_b hx hc N10 hpc hk p (by omega)).1) (by decide)
    refine (show fX11_mixPart (4 : Int32) (nI (q p)) (lN (h p * 10 / iN t 30 b 1)) _ = _ from hm).trans ?_
    rw [putD_p]
    refine congrArg some (putD_e fun k hk => ?_)
    rw [putD_h hk, partC_S (hSp p)]
    rfl
  unfold fX11_bathGap
  rw [o0.1, ck_t (by exact ixl (by omega) (by omega)), nI_cl (n := iN t 30 b 0) (by omega), xBegin (show lFX 6 (iN t 30 b 0) = 16 from if_pos (by omega)) (fun k hk => hx.2.2.1 _ hc k hk), Option.bind_some]
  refine (congrArg (fun o => Option.bind o _) (lp_seq0 (fun p => (nI p, putD t 43 0 16 (fun k => qSum (qtn (gF t 6 (iN t 30 b 0) k)) (fun p => partC t 4 (q p) (h p * 10 / iN t 30 b 1) k) p))) (r := putD t 43 0 16 (fun k => qSum (qtn (gF t 6 (iN t 30 b 0) k)) (fun p => partC t 4 (q p) (h p * 10 / iN t 30 b 1) k) nb)) nb 4000 rfl (fun p hp => ?_) ?_ (by omega))).trans ?_
  · obtain ⟨p1, G, H, p2, p3, p4⟩ := h1 p hp
    have hp4 := hh p (by omega)
    have e2 : gI (putD t 43 0 16 (fun k => qSum (qtn (gF t 6 (iN t 30 b 0) k)) (fun p => partC t 4 (q p) (h p * 10 / iN t 30 b 1) k) p)) 30 b 2 = nI nb := hnb
    have e31 : gI (putD t 43 0 16 (fun k => qSum (qtn (gF t 6 (iN t 30 b 0) k)) (fun p => partC t 4 (q p) (h p * 10 / iN t 30 b 1) k) p)) 31 b p = nI (q p) := p1
    have e32 : gI (putD t 43 0 16 (fun k => qSum (qtn (gF t 6 (iN t 30 b 0) k)) (fun p => partC t 4 (q p) (h p * 10 / iN t 30 b 1) k) p)) 32 b p = nI H := p3
    have eg : fX8_gramsOf 1 (nI (q p)) (putD t 43 0 16 (fun k => qSum (qtn (gF t 6 (iN t 30 b 0) k)) (fun p => partC t 4 (q p) (h p * 10 / iN t 30 b 1) k) p)) = some (nI G) := p2
    have es : fX1_share b (nI H + nI G) (putD t 43 0 16 (fun k => qSum (qtn (gF t 6 (iN t 30 b 0) k)) (fun p => partC t 4 (q p) (h p * 10 / iN t 30 b 1) k) p)) = some (lN (h p * 10 / iN t 30 b 1)) := xShare (t := t) kg1 o1 (by rw [nI_add, ← p4]) hp4
    have am := add p (by omega)
    generalize putD t 43 0 16 (fun k => qSum (qtn (gF t 6 (iN t 30 b 0) k)) (fun p => partC t 4 (q p) (h p * 10 / iN t 30 b 1) k) p) = w at e2 e31 e32 eg es am
    dsimp only [un2]
    rw [e2, if_neg (nI_gt (by omega) hp), l31, l32, ck_t (by exact ixl (by omega) (by omega)), nI_cl (n := p) (by omega), e31, lt1_e, ck_t (by exact ixl (by omega) (by omega)), eg, Option.bind_some, e32, es, Option.bind_some, am, Option.bind_some, lt1_e, nI_s]
  · dsimp only [un2]
    rw [show gI (putD t 43 0 16 (fun k => qSum (qtn (gF t 6 (iN t 30 b 0) k)) (fun p => partC t 4 (q p) (h p * 10 / iN t 30 b 1) k) nb)) 30 b 2 = nI nb from hnb, if_pos (Int32.le_refl _)]
  · rw [Option.bind_some]
    refine (congrArg (fun o => Option.bind o _) (lp_seq0 (fun k => (nI k, putD t 43 0 16 (fun q' => qSum (qtn (gF t 6 (iN t 30 b 0) q')) (fun p => partC t 4 (q p) (h p * 10 / iN t 30 b 1) q') (nb + rk sel k)))) (r := putD t 43 0 16 (fun k => qSum (qtn (gF t 6 (iN t 30 b 0) k)) (fun p => partC t 4 (q p) (h p * 10 / iN t 30 b 1) k) N)) s 4000 rfl (fun k hk => ?_) ?_ (by omega))).trans ?_
    · obtain ⟨k1, k2, k3⟩ := h2 k hk
      have hr := rk_m sel (u := k + 1) (v := s) (by omega)
      have e9 : gI (putD t 43 0 16 (fun q' => qSum (qtn (gF t 6 (iN t 30 b 0) q')) (fun p => partC t 4 (q p) (h p * 10 / iN t 30 b 1) q') (nb + rk sel k))) 16 1 9 = nI s := hC.1
      have eC : Cd 1 (putD t 43 0 16 (fun q' => qSum (qtn (gF t 6 (iN t 30 b 0) q')) (fun p => partC t 4 (q p) (h p * 10 / iN t 30 b 1) q') (nb + rk sel k))) s st i d g := hC
      have ep : fX1_placeOf b (nI (d k)) (putD t 43 0 16 (fun q' => qSum (qtn (gF t 6 (iN t 30 b 0) q')) (fun p => partC t 4 (q p) (h p * 10 / iN t 30 b 1) q') (nb + rk sel k))) = some (if sel k = true then (-1 : Int32) else nI (pl k)) := k1
      have es : sel k = true → fX1_share b (nI (g k * st)) (putD t 43 0 16 (fun q' => qSum (qtn (gF t 6 (iN t 30 b 0) q')) (fun p => partC t 4 (q p) (h p * 10 / iN t 30 b 1) q') (nb + rk sel k))) = some (lN (h (nb + rk sel k) * 10 / iN t 30 b 1)) := fun hs => xShare (t := t) kg1 o1 (by rw [(k3 hs).2]) (hh _ (by rw [rk_t hs] at hr; omega))
      dsimp only [un2]
      by_cases hs : sel k = true
      · rw [rk_t hs] at hr
        have am := add (nb + rk sel k) (by omega)
        have es := es hs
        rw [(k3 hs).1] at am
        rw [rk_t hs, ← Nat.add_assoc]
        generalize putD t 43 0 16 (fun q' => qSum (qtn (gF t 6 (iN t 30 b 0) q')) (fun p => partC t 4 (q p) (h p * 10 / iN t 30 b 1) q') (nb + rk sel k)) = w at e9 eC ep es am
        rw [e9, if_neg (nI_gt (by omega) hk), xNameAt (by decide) eC s3 hk, Option.bind_some, ep, if_pos hs, Option.bind_some, if_pos rfl, xGramsAt (by decide) eC s3 hk, Option.bind_some, es, Option.bind_some, am, Option.bind_some, lt1_e, nI_s]
      · rw [rk_f hs]
        generalize putD t 43 0 16 (fun q' => qSum (qtn (gF t 6 (iN t 30 b 0) q')) (fun p => partC t 4 (q p) (h p * 10 / iN t 30 b 1) q') (nb + rk sel k)) = w at e9 eC ep es
        rw [e9, if_neg (nI_gt (by omega) hk), xNameAt (by decide) eC s3 hk, Option.bind_some, ep, if_neg hs, Option.bind_some, if_neg (nI_ne1 (by omega)), lt1_e, nI_s]
    · dsimp only [un2]
      rw [← hN, show gI (putD t 43 0 16 (fun k => qSum (qtn (gF t 6 (iN t 30 b 0) k)) (fun p => partC t 4 (q p) (h p * 10 / iN t 30 b 1) k) N)) 16 1 9 = nI s from hC.1, if_pos (Int32.le_refl _)]
    · rw [Option.bind_some]
      exact y1 (un2 fun (v80 : UInt64) (t81 : Sto) => some (v80, t81))
