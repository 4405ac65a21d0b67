theorem i2d_l2d_cell {n : Nat} (h : n < 2 ^ 31) : FP.i2d (nI n) = FP.l2d (lN n) := (l2d_i2d h).symm
/-- the reference's loop of parts, a band -/
theorem mParts {x m : Sto} {k : Nat} {q : UInt64} (h : CoreOk x) (hm : LiveM x m) (hp : PartsOk x) (hl : LvParts x m) (hk : k < 16) (hq : iv 1024 q ∧ lw 625 q) : (lp (σ := (Int32 × UInt64)) (ρ := UInt64) (un2 fun (v20 : Int32) (v21 : UInt64) =>
             if gI m 0 (0) 8 ≤ v20 then (
              some (.inr v21)) else (
              ck (0 ≤ v20.toInt ∧ v20.toInt < (lZM (32) (0) : Int)) (
               if gI m (32) (0) (v20.toNatClampNeg) = 0 then (
                ck (0 ≤ v20.toInt ∧ v20.toInt < (lIM (30) (0) : Int)) (
                 if gI m 0 (0) 4 ≤ gI m (30) (0) (v20.toNatClampNeg) then (
                  lt1 (v20 + Int32.ofInt (1)) fun (v30 : Int32) =>
                  some (.inl (v30, v21))) else (
                  ck (0 ≤ v20.toInt ∧ v20.toInt < (lIM (30) (0) : Int)) (
                   ck (0 ≤ v20.toInt ∧ v20.toInt < (lIM (31) (0) : Int)) (
                    (fX12_dyeAt (gI m (30) (0) (v20.toNatClampNeg)) (FP.i2d (gI m (31) (0) (v20.toNatClampNeg))) (nI k) m).bind (fun (v31 : UInt64) =>
                     nd (FP.dadd v21 v31) fun (v33 : UInt64) =>
                     lt1 (v20 + Int32.ofInt (1)) fun (v34 : Int32) =>
                     some (.inl (v34, v33)))))))) else (
                ck (0 ≤ v20.toInt ∧ v20.toInt < (lIM (30) (0) : Int)) (
                 if gI m 0 (0) 6 ≤ gI m (30) (0) (v20.toNatClampNeg) then (
                  lt1 (v20 + Int32.ofInt (1)) fun (v36 : Int32) =>
                  some (.inl (v36, v21))) else (
                  ck (0 ≤ v20.toInt ∧ v20.toInt < (lIM (30) (0) : Int)) (
                   ck (0 ≤ v20.toInt ∧ v20.toInt < (lIM (31) (0) : Int)) (
                    (fX12_lotAt (gI m (30) (0) (v20.toNatClampNeg)) (FP.i2d (gI m (31) (0) (v20.toNatClampNeg))) (nI k) m).bind (fun (v37 : UInt64) =>
                     nd (FP.dadd v21 v37) fun (v39 : UInt64) =>
                     lt1 (v20 + Int32.ofInt (1)) fun (v40 : Int32) =>
                     some (.inl (v40, v39))))))))))) 4000 ((0 : Int32), q)) = some (qSum q (ptC x k) (iN x 0 0 11)) := by
  have n6 := hp.1.2
  have e8 : gI m 0 0 8 = nI (iN x 0 0 11) := hl.1.trans hp.1.1
  have c2 : gI m 0 0 4 = nI (cN x 2) := (hm.1 2 (by decide)).trans (h.1 2 (by decide)).1
  have c4 : gI m 0 0 6 = nI (cN x 4) := (hm.1 4 (by decide)).trans (h.1 4 (by decide)).1
  have b2 : cN x 2 ≤ 12 := (h.1 2 (by decide)).2
  have b4 : cN x 4 ≤ 20 := (h.1 4 (by decide)).2
  refine lp_seq (fun p => (nI p, qSum q (ptC x k) p)) (r := qSum q (ptC x k) (iN x 0 0 11)) (iN x 0 0 11) 4000 0 (fun p _ hpn => ?_) ?_ (by omega)
  · have hpn : p < iN x 0 0 11 := by omega
    obtain ⟨⟨a1, a2⟩, b1, d1⟩ := hp.2 p hpn
    obtain ⟨l1, l2, l3⟩ := hl.2 p hpn
    have w20 : iN x 12 p 1 ≤ 20 := b1.2
    have g6 : iN x 12 p 2 ≤ 1000000 := d1.2
    have hqb := qSum_b hq (N := iN x 0 0 11) (by omega) (ptC_b h hp hk) p (by omega)
    have hcb := ptC_b h hp hk p hpn
    have hadd : fnn (FP.dadd (qSum q (ptC x k) p) (ptC x k p)) := (iv_add hqb.1 hcb.1 (by omega)).2
    dsimp only [un2]
    rw [e8, if_neg (nI_gt (by omega) hpn), ck_t (by rw [show lZM 32 0 = 6 from rfl]; exact ixl (by omega) (by omega)), nI_cl (by omega), l1]
    have goal2 : ∀ w : UInt64, w = ptC x k p → (some (.inl (nI (p + 1), FP.dadd (qSum q (ptC x k) p) w)) : Option ((Int32 × UInt64) ⊕ UInt64)) = some (.inl (nI (p + 1), qSum q (ptC x k) (p + 1))) := fun w e => by rw [e]; rfl
    have goal0 : ptC x k p = FP.dconst0 → (some (.inl (nI (p + 1), qSum q (ptC x k) p)) : Option ((Int32 × UInt64) ⊕ UInt64)) = some (.inl (nI (p + 1), qSum q (ptC x k) (p + 1))) := fun e => by
      have : qSum q (ptC x k) (p + 1) = qSum q (ptC x k) p := by
        show FP.dadd _ (ptC x k p) = _
        rw [e, dadd_0 hqb.1.2]
      rw [this]
    by_cases ek : iN x 12 p 0 = 4
    · rw [if_pos ek, if_neg (show ¬ (1 : Int32) = 0 by decide), ck_t (by rw [show lIM 30 0 = 6 from rfl]; exact ixl (by omega) (by omega)), c4, l2, b1.1]
      by_cases hw : iN x 12 p 1 < cN x 4
      · have eC : ptC x k p = mixD x (iN x 29 (iN x 12 p 1) 0) (wo (FP.l2d (lN (iN x 12 p 2))) (iN x 29 (iN x 12 p 1) 1) (iN x 29 (iN x 12 p 1) 2)) k := by
          unfold ptC partC
          rw [if_pos ek, if_pos hw]
        have hL := mMixL h hm hw hk (ng := iN x 12 p 2) (by omega)
        rw [if_neg (nI_gt (by omega) hw), ck_t (by rw [show lIM 30 0 = 6 from rfl]; exact ixl (by omega) (by omega)), ck_t (by rw [show lIM 31 0 = 6 from rfl]; exact ixl (by omega) (by omega)), l3, d1.1, i2d_l2d_cell (by omega), hL, Option.bind_some, ← eC, nd_t (n64_of hadd), lt1_e, nI_s]
        rfl
      · rw [if_pos ((nI_leI (by omega) (by omega)).mpr (by omega)), lt1_e, nI_s]
        exact goal0 (by unfold ptC partC; rw [if_pos ek, if_neg hw])
    · rw [if_neg ek, if_pos (show (0 : Int32) = 0 from rfl), ck_t (by rw [show lIM 30 0 = 6 from rfl]; exact ixl (by omega) (by omega)), c2, l2, b1.1]
      by_cases hw : iN x 12 p 1 < cN x 2
      · have eC : ptC x k p = mixD x (iN x 12 p 1) (FP.l2d (lN (iN x 12 p 2))) k := by
          unfold ptC partC
          rw [if_neg ek, if_pos hw]
        obtain ⟨g1, g2⟩ := am_b (n := iN x 12 p 2) (c := 10000000) (by omega) (Nat.le_refl _)
        have hL := mMixD h hm hw hk (iv_mono g1 (show 10000000 ≤ 10000000000 by decide)) (lw_mono g2 (by decide)) (Nat.le_refl _)
        rw [if_neg (nI_gt (by omega) hw), ck_t (by rw [show lIM 30 0 = 6 from rfl]; exact ixl (by omega) (by omega)), ck_t (by rw [show lIM 31 0 = 6 from rfl]; exact ixl (by omega) (by omega)), l3, d1.1, i2d_l2d_cell (by omega), hL, Option.bind_some, ← eC, nd_t (n64_of hadd), lt1_e, nI_s]
        rfl
      · rw [if_pos ((nI_leI (by omega) (by omega)).mpr (by omega)), lt1_e, nI_s]
        exact goal0 (by unfold ptC partC; rw [if_neg ek, if_neg hw])
  · rw [Nat.zero_add]
    dsimp only [un2]
    rw [e8, if_pos ((nI_leI (by omega) (by omega)).mpr (Nat.le_refl _))]
