/-! ===== a candidate's gap, by the reference ===== -/
/-- the reference holds a candidate to try: s dyes d with grams G -/
def Tr (m : Sto) (s : Nat) (d G : Nat → Nat) : Prop := gI m 0 0 49 = nI s ∧ ∀ p, p < s → gI m 48 0 (2 * p) = nI (d p) ∧ gI m 48 0 (2 * p + 1) = nI (G p)
def KeptM (z : Sto) (s : Nat) (V : UInt64) (K : Int64) (y : Sto) : Prop := (∀ f i j, gI y f i j = if f = 49 ∧ i = 0 ∧ j < 2 * s then gI z 48 0 j else if f = 0 ∧ i = 0 ∧ j = 50 then nI s else gI z f i j) ∧ gF y = gF z ∧ (∀ f i j, gD y f i j = if f = 0 ∧ i = 0 ∧ j = 53 then V else gD z f i j) ∧ (∀ f i j, gL y f i j = if f = 0 ∧ i = 0 ∧ j = 54 then K else gL z f i j)
theorem mKeepB {t : Sto} {s : Nat} {V : UInt64} {K : Int64} (h49 : gI t 0 0 49 = nI s) (s3 : s ≤ 3) : ∃ y, (lt1 (sD t 0 (0) 53 V) fun (t111 : Sto) =>
         lt1 (sL t111 0 (0) 54 K) fun (t112 : Sto) =>
         lt1 (sI t112 0 (0) 50 (gI t112 0 (0) 49)) fun (t113 : Sto) =>
         ((lp (σ := (Int32 × Sto)) (ρ := Sto) (un2 fun (v117 : Int32) (t118 : Sto) =>
            if (2 : Int32) * (gI t118 0 (0) 49) ≤ v117 then (
             some (.inr t118)) else (
             ck (0 ≤ v117.toInt ∧ v117.toInt < (lIM (48) (0) : Int)) (
              ck (0 ≤ v117.toInt ∧ v117.toInt < (lIM (49) (0) : Int)) (lt1 (sI t118 (49) (0) (v117.toNatClampNeg) (gI t118 (48) (0) (v117.toNatClampNeg))) fun (t121 : Sto) =>
               lt1 (v117 + Int32.ofInt (1)) fun (v122 : Int32) =>
               some (.inl (v122, t121)))))) 4000 ((0 : Int32), t113)).bind
          (fun (t119 : Sto) =>
           some t119))) = some y ∧ KeptM t s V K y := by
  rw [lt1_e, lt1_e, lt1_e, show gI (sL (sD t 0 0 53 V) 0 0 54 K) 0 0 49 = nI s from h49]
  refine ex_bind (lp_inv (fun k (z : Int32 × Sto) => z.1 = nI k ∧ Fill 49 0 k (fun j => gI t 48 0 j) (sI (sL (sD t 0 0 53 V) 0 0 54 K) 0 0 50 (nI s)) z.2) (fun r => Fill 49 0 (2 * s) (fun j => gI t 48 0 j) (sI (sL (sD t 0 0 53 V) 0 0 54 K) 0 0 50 (nI s)) r) (2 * s) (fun k z hk hI => ?_) (2 * s) 4000 0 _ (by omega) ⟨rfl, Fill_0 _ _ _ _⟩ (by omega)) (fun r hr => ⟨r, rfl, fun f i j => ?_, hr.2.1, fun f i j => ?_, fun f i j => ?_⟩)
  · obtain ⟨v, z⟩ := z
    obtain ⟨hI1, hI2⟩ := hI
    have hI1 : v = nI k := hI1
    have hI2 : Fill 49 0 k (fun j => gI t 48 0 j) (sI (sL (sD t 0 0 53 V) 0 0 54 K) 0 0 50 (nI s)) z := hI2
    subst hI1
    dsimp only [un2]
    have e49 : gI z 0 0 49 = nI s := by rw [hI2.1, if_neg (by omega), gI_sI, if_neg (by omega)]; exact h49
    have e2 : (2 : Int32) * nI s = nI (2 * s) := pk_mul 2 s
    by_cases q : k = 2 * s
    · subst q
      exact Or.inl ⟨z, by rw [e49, e2, if_pos (Int32.le_refl _)], hI2⟩
    · have hf := Fill_s hI2
      rw [Nat.zero_add] at hf
      have e48 : gI z 48 0 k = gI t 48 0 k := by rw [hI2.1, if_neg (by omega), gI_sI, if_neg (by omega)]; rfl
      refine Or.inr ⟨by omega, (nI (k + 1), sI z 49 0 k (gI t 48 0 k)), ?_, rfl, hf⟩
      rw [e49, e2, if_neg (nI_gt (by omega) (by omega)), show lIM 48 0 = 6 from rfl, show lIM 49 0 = 6 from rfl, ck_t (by exact ixl (by omega) (by omega)), ck_t (by exact ixl (by omega) (by omega)), nI_cl (by omega), e48, lt1_e, lt1_e, nI_s]
  · rw [hr.1, gI_sI, Nat.sub_zero]
    by_cases q : f = 49 ∧ i = 0 ∧ j < 2 * s
    · rw [if_pos q, if_pos (by omega)]
    · rw [if_neg q, if_neg (by omega)]; rfl
  · rw [hr.2.2.1]
    show gD (sD t 0 0 53 V) f i j = _
    rw [gD_sD]
  · rw [hr.2.2.2]
    show gL (sL t 0 0 54 K) f i j = _
    rw [gL_sL]
theorem mTry {t m : Sto} {l e c s k : Nat} {d G : Nat → Nat} {gr : Nat → UInt32} (hB : CurB t m) (hx : CoreOk t) (hm : LiveM t m) (hl : l < 6) (he : e < 2) (hc : c < cN t 1) (s3 : s ≤ 3) (hd : ∀ p, p < s → d p < cN t 2) (hG : ∀ p, p < s → G p ≤ 10000000) (hT : Tr m s d G) (h58 : gI m 0 0 58 = nI c) (h59 : gI m 0 0 59 = nI l) (h60 : gI m 0 0 60 = nI e) (hg : ∀ k, k < 3 → gD m 46 0 k = colV gr (Wt t l e) k) (hgr : ∀ k, k < 16 → fl2 (gr k)) (h51 : gI m 0 0 51 = nI k) (k9 : k < 1000) {V : UInt64} {K : Int64} {z : Sto} (hV : V = gapO t l e gr (mRow t c s (fun p => partC t 2 (d p) (G p)))) (hK : K = cstV t d G s) (hz : z = putO (sI m 0 0 51 (nI (k + 1))) 1 0 2144 16 (mRow t c s (fun p => partC t 2 (d p) (G p)))) : (k = 0 → ∃ y, fX12_tryRecipe m = some y ∧ KeptM z s V K y) ∧ (1 ≤ k → ∀ B, fnn V → fnn B → gD m 0 0 53 = B → (V.toNat < B.toNat → ∃ y, fX12_tryRecipe m = some y ∧ KeptM z s V K y) ∧ (V.toNat = B.toNat → (0 ≤ lg_cmp K (gL m 0 0 54) → fX12_tryRecipe m = some z) ∧ (¬ 0 ≤ lg_cmp K (gL m 0 0 54) → ∃ y, fX12_tryRecipe m = some y ∧ KeptM z s V K y)) ∧ (B.toNat < V.toNat → fX12_tryRecipe m = some z)) := by
  have c8 : c < 8 := Nat.lt_of_lt_of_le hc (hx.1 1 (by decide)).2
  have c12 : cN t 2 ≤ 12 := (hx.1 2 (by decide)).2
  have hpc : PcOk s (fun p => partC t 2 (d p) (G p)) := fun k hk p hp => partC_b hx (hG p hp) hk
  have hrow : ∀ k, k < 16 → fl2 (mRow t c s (fun p => partC t 2 (d p) (G p)) k) := fun k hk => (mRow_b hx hc (by omega) hpc hk).1
  have e2 : ∀ p, (2 : Int32) * nI p = nI (2 * p) := fun p => pk_mul 2 p
  obtain ⟨y, hy1, hy2⟩ := mKeepB (t := z) (s := s) (V := V) (K := K) (by rw [hz]; exact hT.1) s3
  have hft : fX12_fromTo (134 : Int32) (nI l) (nI e) z = some V := by
    rw [hV, (gapO_b hB hl he hrow hgr).2, hz]
    refine mFromR (p := 134) hB hl he (by decide) (fun f i j q1 q2 => ?_) (fun k hk => ?_) hrow hg hgr
    · show gI (sI m 0 0 51 (nI (k + 1))) f i j = _
      rw [gI_sI, if_neg (by omega)]
    · exact putO_h hk
  have hcost : lp (σ := (Int32 × Int64)) (ρ := Int64) (un2 fun (v6 : Int32) (v7 : Int64) =>
      if gI (sI m 0 0 51 (nI (k + 1))) 0 (0) 49 ≤ v6 then (
       some (.inr v7)) else (
       ck (0 ≤ (((2 : Int32) * v6) + (1 : Int32)).toInt ∧ (((2 : Int32) * v6) + (1 : Int32)).toInt < (lIM (48) (0) : Int)) (
        ck (0 ≤ ((2 : Int32) * v6).toInt ∧ ((2 : Int32) * v6).toInt < (lIM (48) (0) : Int)) (
         ck (0 ≤ (gI (sI m 0 0 51 (nI (k + 1))) (48) (0) (((2 : Int32) * v6).toNatClampNeg)).toInt ∧ (gI (sI m 0 0 51 (nI (k + 1))) (48) (0) (((2 : Int32) * v6).toNatClampNeg)).toInt < (lIM (15) (0) : Int)) (
          lt1 (v7 + (((gI (sI m 0 0 51 (nI (k + 1))) (48) (0) ((((2 : Int32) * v6) + (1 : Int32)).toNatClampNeg)).toInt64) * ((gI (sI m 0 0 51 (nI (k + 1))) (15) (0) ((gI (sI m 0 0 51 (nI (k + 1))) (48) (0) (((2 : Int32) * v6).toNatClampNeg)).toNatClampNeg)).toInt64))) fun (v80 : Int64) =>
          lt1 (v6 + Int32.ofInt (1)) fun (v81 : Int32) =>
          some (.inl (v81, v80))))))) 4000 ((0 : Int32), (0 : Int64)) = some K := by
    rw [hK]
    have T1 : Tr (sI m 0 0 51 (nI (k + 1))) s d G := hT
    have d15 : ∀ p, p < s → gI (sI m 0 0 51 (nI (k + 1))) 15 0 (d p) = gI t 22 (d p) 1 := fun p hp => (hm.2.2.2.1 (d p) (hd p hp)).2.2.1
    generalize sI m 0 0 51 (nI (k + 1)) = w at T1 d15
    refine lp_seq0 (fun p => (nI p, cstV t d G p)) s 4000 rfl (fun p hp => ?_) ?_ (by omega)
    · dsimp only [un2]
      obtain ⟨t1, t2⟩ := T1.2 p hp
      have dp := hd p hp
      rw [T1.1, if_neg (nI_gt (by omega) hp), e2, nI_1, show lIM 48 0 = 6 from rfl, show lIM 15 0 = 12 from rfl, ck_t (by exact ixl (by omega) (by omega)), ck_t (by exact ixl (by omega) (by omega)), nI_cl (n := 2 * p) (by omega), nI_cl (n := 2 * p + 1) (by omega), t1, ck_t (by exact ixl (by omega) (by omega)), nI_cl (n := d p) (by omega), t2, d15 p hp, lt1_e, lt1_e, nI_s]
      rfl
    · dsimp only [un2]
      rw [T1.1, if_pos (Int32.le_refl _)]
  have hz49 : gI z 0 0 49 = nI s := by rw [hz]; exact hT.1
  have hz51 : gI z 0 0 51 = nI (k + 1) := by rw [hz]; rfl
  have hz59 : gI z 0 0 59 = nI l := by rw [hz]; exact h59
  have hz60 : gI z 0 0 60 = nI e := by rw [hz]; exact h60
  have hz53 : gD z 0 0 53 = gD m 0 0 53 := by rw [hz]; rfl
  have hz54 : gL z 0 0 54 = gL m 0 0 54 := by rw [hz]; rfl
  have main : ∀ r, (jn (fun (_u : Unit) =>
         lt1 (sD z 0 (0) 53 V) fun (t111 : Sto) =>
         lt1 (sL t111 0 (0) 54 K) fun (t112 : Sto) =>
         lt1 (sI t112 0 (0) 50 (gI t112 0 (0) 49)) fun (t113 : Sto) =>
         ((lp (σ := (Int32 × Sto)) (ρ := Sto) (un2 fun (v117 : Int32) (t118 : Sto) =>
            if (2 : Int32) * (gI t118 0 (0) 49) ≤ v117 then (
             some (.inr t118)) else (
             ck (0 ≤ v117.toInt ∧ v117.toInt < (lIM (48) (0) : Int)) (
              ck (0 ≤ v117.toInt ∧ v117.toInt < (lIM (49) (0) : Int)) (lt1 (sI t118 (49) (0) (v117.toNatClampNeg) (gI t118 (48) (0) (v117.toNatClampNeg))) fun (t121 : Sto) =>
               lt1 (v117 + Int32.ofInt (1)) fun (v122 : Int32) =>
               some (.inl (v122, t121)))))) 4000 ((0 : Int32), t113)).bind
          (fun (t119 : Sto) =>
           some t119))) fun K108 =>
        if gI z 0 (0) 51 ≤ (1 : Int32) then (
         K108 ()) else (
         if 0 < Op.cmpValue (FP.dcmp V (gD z 0 (0) 53)) CmpOp.l then (
          some z) else (
          if Op.cmpValue (FP.dcmp V (gD z 0 (0) 53)) CmpOp.l = 0 then (
           if lg_cmp K (gL z 0 (0) 54) < 0 then (
            K108 ()) else (
            some z)) else (
           K108 ())))) = r → fX12_tryRecipe m = r := fun r hr => by
    unfold fX12_tryRecipe
    rw [h51, if_neg (show ¬ nI k = (1000 : Int32) from fun q => by have := (nI_inj (by omega) (by decide)).mp (show nI k = nI 1000 from q); omega), nI_1, lt1_e]
    refine (congrArg (fun o => Option.bind o _) hcost).trans ?_
    rw [Option.bind_some]
    have hloop := loopO (body := un2 fun (v85 : Int32) (t86 : Sto) =>
        if (16 : Int32) ≤ v85 then (
         some (.inr t86)) else (
         ck (0 ≤ (((16 : Int32) * ((41 : Int32) + (gI t86 0 (0) 58))) + v85).toInt ∧ (((16 : Int32) * ((41 : Int32) + (gI t86 0 (0) 58))) + v85).toInt < (lFM (1) (0) : Int)) (
          (fX12_quotient (gF t86 (1) (0) ((((16 : Int32) * ((41 : Int32) + (gI t86 0 (0) 58))) + v85).toNatClampNeg))).bind (fun (v89 : UInt64) =>
           ((lp (σ := (Int32 × UInt64)) (ρ := UInt64) (un2 fun (v94 : Int32) (v95 : UInt64) =>
              if gI t86 0 (0) 49 ≤ v94 then (
               some (.inr v95)) else (
               ck (0 ≤ ((2 : Int32) * v94).toInt ∧ ((2 : Int32) * v94).toInt < (lIM (48) (0) : Int)) (
                ck (0 ≤ (((2 : Int32) * v94) + (1 : Int32)).toInt ∧ (((2 : Int32) * v94) + (1 : Int32)).toInt < (lIM (48) (0) : Int)) (
                 (fX12_dyeAt (gI t86 (48) (0) (((2 : Int32) * v94).toNatClampNeg)) (FP.i2d (gI t86 (48) (0) ((((2 : Int32) * v94) + (1 : Int32)).toNatClampNeg))) v85 t86).bind (fun (v98 : UInt64) =>
                  nd (FP.dadd v95 v98) fun (v100 : UInt64) =>
                  lt1 (v94 + Int32.ofInt (1)) fun (v101 : Int32) =>
                  some (.inl (v101, v100))))))) 4000 ((0 : Int32), v89)).bind
            (fun (v96 : UInt64) =>
             (fX12_bandOf v96).bind (fun (v102 : UInt32) =>
              ck (0 ≤ ((2144 : Int32) + v85).toInt ∧ ((2144 : Int32) + v85).toInt < (lFM (1) (0) : Int)) (lt1 (sF t86 (1) (0) (((2144 : Int32) + v85).toNatClampNeg) v102) fun (t104 : Sto) =>
               lt1 (v85 + Int32.ofInt (1)) fun (v105 : Int32) =>
               some (.inl (v105, t104)))))))))) (s := sI m 0 0 51 (nI (k + 1))) (f := 1) (i := 0) (o := 2144) (mRow t c s (fun p => partC t 2 (d p) (G p))) 16 (by decide) (fun q hq => by
      have hS : SameM m (putO (sI m 0 0 51 (nI (k + 1))) 1 0 2144 q (mRow t c s (fun p => partC t 2 (d p) (G p)))) := ⟨fun f i j z => by
        show gI m f i j = gI (sI m 0 0 51 (nI (k + 1))) f i j
        rw [gI_sI, if_neg (by omega)], fun f i j z => (putO_g (by omega)).symm, fun _ _ _ _ => rfl⟩
      have hL := LiveM_S hx hS hm
      have T1 : Tr (putO (sI m 0 0 51 (nI (k + 1))) 1 0 2144 q (mRow t c s (fun p => partC t 2 (d p) (G p)))) s d G := hT
      have h58' : gI (putO (sI m 0 0 51 (nI (k + 1))) 1 0 2144 q (mRow t c s (fun p => partC t 2 (d p) (G p)))) 0 0 58 = nI c := h58
      have ecl := hL.2.2.1 c hc q hq
      generalize putO (sI m 0 0 51 (nI (k + 1))) 1 0 2144 q (mRow t c s (fun p => partC t 2 (d p) (G p))) = w at hL T1 h58' ecl
      have e16 : ((16 : Int32) * ((41 : Int32) + nI c)) + nI q = nI (16 * (41 + c) + q) := by
        show nI 16 * (nI 41 + nI c) + nI q = _
        simp only [pk_mul, nI_add]
      have e21 : (2144 : Int32) + nI q = nI (2144 + q) := nI_add 2144 q
      dsimp only [un2]
      rw [if_neg (g16 hq), h58', e16, show lFM 1 0 = 2176 from rfl, ck_t (by exact ixl (by omega) (by omega)), nI_cl (n := 16 * (41 + c) + q) (by omega), ecl, (qtn_b (hx.2.2.1 c hc q hq)).2.1, Option.bind_some]
      refine (congrArg (fun o => Option.bind o _) (lp_seq0 (fun p => (nI p, qSum (qtn (gF t 6 c q)) (fun p => partC t 2 (d p) (G p) q) p)) (r := qSum (qtn (gF t 6 c q)) (fun p => partC t 2 (d p) (G p) q) s) s 4000 rfl (fun p hp => ?_) ?_ (by omega))).trans ?_
      · obtain ⟨t1, t2⟩ := T1.2 p hp
        have dp := hd p hp
        have gp := hG p hp
        have eC : partC t 2 (d p) (G p) q = mixD t (d p) (FP.l2d (lN (G p))) q := by
          unfold partC
          rw [if_neg (by decide), if_pos dp]
        obtain ⟨g1, g2⟩ := am_b (n := G p) (c := 10000000) gp (Nat.le_refl _)
        have hL2 := mMixD hx hL dp hq (iv_mono g1 (show 10000000 ≤ 10000000000 by decide)) (lw_mono g2 (by decide)) (Nat.le_refl _)
        have hadd : fnn (FP.dadd (qSum (qtn (gF t 6 c q)) (fun p => partC t 2 (d p) (G p) q) p) (partC t 2 (d p) (G p) q)) := (iv_add (mQ_b hx hc (by omega) hpc hq p (by omega)).1 (hpc q hq p hp).1 (by omega)).2
        dsimp only [un2]
        rw [T1.1, if_neg (nI_gt (by omega) hp), e2, nI_1, show lIM 48 0 = 6 from rfl, ck_t (by exact ixl (by omega) (by omega)), ck_t (by exact ixl (by omega) (by omega)), nI_cl (n := 2 * p) (by omega), nI_cl (n := 2 * p + 1) (by omega), t1, t2, i2d_l2d_cell (by omega), hL2, Option.bind_some, ← eC, nd_t (n64_of hadd), lt1_e, nI_s]
        rfl
      · dsimp only [un2]
        rw [T1.1, if_pos (Int32.le_refl _)]
      · rw [Option.bind_some, (mRow_b hx hc (by omega) hpc hq).2, Option.bind_some, e21, ck_t (by exact ixl (by omega) (by omega)), nI_cl (by omega), lt1_e, lt1_e, nI_s]) (by dsimp only [un2]; exact if_pos (show nI 16 ≤ nI 16 by decide))
    refine (congrArg (fun o => Option.bind o _) hloop).trans ?_
    rw [Option.bind_some, ← hz, hz59, hz60, hft, Option.bind_some]
    exact hr
  refine ⟨fun k0 => ⟨y, main _ ?_, hy2⟩, fun k1 B fV fB hB53 => ⟨fun q => ⟨y, main _ ?_, hy2⟩, fun q => ⟨fun r => main _ ?_, fun r => ⟨y, main _ ?_, hy2⟩⟩, fun q => main _ ?_⟩⟩
  · rw [jn_e, hz51, k0, if_pos (show nI (0 + 1) ≤ (1 : Int32) by decide)]
    exact hy1
  all_goals
    have c1 := (cmp_n fV fB CmpOp.l).2.1
    have c2 := (cmp_n fV fB CmpOp.l).2.2.1
    have c3 : lg_cmp K (gL m 0 0 54) < 0 ↔ ¬ 0 ≤ lg_cmp K (gL m 0 0 54) := by rw [lg_cmp_lt, lg_cmp_ge, Int64.not_le]
    rw [jn_e, hz51, if_neg (show ¬ nI (k + 1) ≤ (1 : Int32) from nI_gt (n := 1) (by omega) (by omega)), hz53, hB53, hz54]
  · rw [if_neg (fun z => by have := c1.mp z; omega), if_neg (fun z => by have := c2.mp z; omega)]
    exact hy1
  · rw [if_neg (fun z => by have := c1.mp z; omega), if_pos (c2.mpr q), if_neg (fun w => c3.mp w r)]
  · rw [if_neg (fun z => by have := c1.mp z; omega), if_pos (c2.mpr q), if_pos (c3.mpr r)]
    exact hy1
  · rw [if_pos (c1.mpr q)]
