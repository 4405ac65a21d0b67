theorem dneg_lt0 {x : UInt64} (h : x.toNat < 2 ^ 63) (h0 : x.toNat ≠ 0) (hn : FP.Core.val64 (FP.dneg x) ≠ .nan) (op : CmpOp) : ¬ 0 ≤ Op.cmpValue (FP.dcmp (FP.dneg x) FP.dconst0) op := by
  have hk : FP.Core.dkey (FP.dneg x) < 0 := by
    have := dneg_up h
    unfold FP.Core.dkey
    rw [if_pos (by omega)]; omega
  rw [(cmp_k hn (fnn_nn zero_f) op).2.2.2.1, show FP.Core.dkey FP.dconst0 = 0 from rfl]
  omega
theorem bd_y {q : UInt64} {c : Nat} (hq : iv c q) (hc : c ≤ 2 ^ 50) (hl : lw 600 q) : ∃ y, fX7_rootOf (bdR q) = some y ∧ fX12_rootOf (bdR q) = some y ∧ pw 1300 y ∧ un q.toNat ≤ un y.toNat ∧ fnn (FP.dmul q q) ∧ fnn (FP.dmul (4611686018427387904 : UInt64) q) ∧ fnn (bdR q) := by
  rcases hl with h | h
  · have h1 : (FP.dmul q q).toNat = 0 := dmul_ex hq.2 hq.2 (Nat.zero_le _) (by rw [h, un_0, Nat.zero_mul, Nat.zero_mul])
    have h2 : (FP.dmul (4611686018427387904 : UInt64) q).toNat = 0 := dmul_ex two_f hq.2 (Nat.zero_le _) (by rw [h, un_0, Nat.mul_zero, Nat.zero_mul])
    have f1 : fnn (FP.dmul q q) := fnn_of h1 (by decide)
    have f2 : fnn (FP.dmul (4611686018427387904 : UInt64) q) := fnn_of h2 (by decide)
    have h3 : (bdR q).toNat = 0 := dadd_ex f1 f2 (Nat.zero_le _) (by rw [h1, h2, un_0])
    obtain ⟨r1, r2⟩ := root_zero h3
    exact ⟨FP.dconst0, r1, r2, show (FP.dconst0 : UInt64).toNat < 1300 * 2 ^ 52 by rw [zero_n]; decide, by rw [h, un_0]; exact Nat.zero_le _, f1, f2, fnn_of h3 (by decide)⟩
  · obtain ⟨f1, f2, h1, h2, h3⟩ := bd_sq hq hc h
    obtain ⟨y, r, a1, a2, a3, a4⟩ := x_root h1 (by omega)
    obtain ⟨z, b1, b2, b3⟩ := root_same h1 (by omega)
    rw [a1] at b1
    cases b1
    exact ⟨y, a1, b2, pw_mono b3 (by omega), bd_root hq.2 h1 h2 h3 a3 a4, f1, f2, pw_fnn (K := 1400) h2 (by decide)⟩
def bandV (q : UInt64) : UInt32 := if (FP.dadd FP.dconst1 q).toNat < ((fX12_rootOf (bdR q)).getD 0).toNat then FP.fconst0 else FP.d2f (FP.dsub (FP.dadd FP.dconst1 q) ((fX12_rootOf (bdR q)).getD 0))
theorem d2f_0 : FP.d2f FP.dconst0 = FP.fconst0 := by decide +kernel
theorem d2f_le2 {x : UInt64} (h : x.toNat ≤ 1024 * 2 ^ 52) : fl2 (FP.d2f x) := by
  have hf : fnn x := pw_fnn (K := 1025) (show x.toNat < 1025 * 2 ^ 52 by omega) (by decide)
  refine (d2f_b hf).2.1 1073741824 ?_
  have h1 := un_le.mpr h
  rw [un_pw (by decide)] at h1
  refine Nat.le_trans h1 ?_
  rw [show (1073741824 : Nat) = 128 * 2 ^ 23 from rfl, un32_pw (by decide), ← Nat.pow_add]
  exact Nat.le_refl _
theorem bandV_b {q : UInt64} {c : Nat} (hq : iv c q) (hc : c ≤ 2 ^ 50) (hl : lw 600 q) : fl2 (bandV q) ∧ fX12_bandOf q = some (bandV q) ∧ ∀ {β : Type} (K : UInt32 → Option β), (nd (FP.dadd FP.dconst1 q) fun (v9 : UInt64) =>
       nd (FP.dmul q q) fun (v10 : UInt64) =>
       nd (FP.dmul (4611686018427387904 : UInt64) q) fun (v11 : UInt64) =>
       nd (FP.dadd v10 v11) fun (v12 : UInt64) =>
       (fX7_rootOf v12).bind (fun (v13 : UInt64) =>
        nd (FP.dsub v9 v13) fun (v15 : UInt64) =>
        if 0 ≤ Op.cmpValue (FP.dcmp v15 FP.dconst0) CmpOp.g then (
         nf (FP.d2f v15) K) else (
         nf (FP.d2f FP.dconst0) K))) = K (bandV q) := by
  obtain ⟨y, y1, y2, y3, y4, g1, g2, g3⟩ := bd_y hq hc hl
  have hyf : fnn y := pw_fnn y3 (by decide)
  have i1 : iv 1 FP.dconst1 := ⟨by rw [one_n, un_pw (by decide), Nat.one_mul]; exact Nat.le_refl _, one_f⟩
  have hv := iv_add i1 hq (by omega)
  have hv2 : un (FP.dadd FP.dconst1 q).toNat ≤ un q.toNat + 2 ^ 1075 := by
    obtain ⟨t, ht⟩ : ∃ t, t = un q.toNat / 2 ^ 1074 := ⟨_, rfl⟩
    have t1 : t * 2 ^ 1074 ≤ un q.toNat := by rw [ht]; exact Nat.div_mul_le_self _ _
    have t2 : un q.toNat < (t + 1) * 2 ^ 1074 := by
      rw [ht, Nat.mul_comm]; exact Nat.lt_mul_div_succ _ p1074
    have t3 : t ≤ 2 ^ 50 := by
      refine Nat.le_of_mul_le_mul_right (Nat.le_trans t1 (Nat.le_trans hq.1 (Nat.mul_le_mul_right _ hc))) p1074
    obtain ⟨m, hm, um⟩ := un_rep 1074 (t + 2) (by omega) (by decide)
    have h1 := (dadd_b one_f hq.2).2.1 m (by
      rw [um, one_n, un_pw (by decide)]
      rw [Nat.add_mul] at t2 ⊢
      rw [Nat.one_mul] at t2
      rw [Nat.two_mul]
      show 2 ^ 1074 + un q.toNat ≤ _
      generalize 2 ^ 1074 = P at *
      omega)
    have h2 := un_le.mpr h1
    rw [um, Nat.add_mul, ← Nat.pow_succ'] at h2
    exact Nat.le_trans h2 (Nat.add_le_add_right t1 _)
  have hvp : pw 1300 (FP.dadd FP.dconst1 q) := pw_mono (iv_pw (j := 53) hv (by omega)) (by decide)
  have hsm : mg 1302 (FP.dsub (FP.dadd FP.dconst1 q) y) := mg_sub (pw_mg hvp (by decide)) (pw_mg y3 (by decide)) (by decide)
  have hz : ffn FP.fconst0 := by show (FP.fconst0 : UInt32).toNat < 2139095040; decide +kernel
  have e12 : FP.dadd (FP.dmul q q) (FP.dmul (4611686018427387904 : UInt64) q) = bdR q := rfl
  by_cases hlt : (FP.dadd FP.dconst1 q).toNat < y.toNat
  · have eb : bandV q = FP.fconst0 := by unfold bandV; rw [y2, Option.getD_some, if_pos hlt]
    have hneg := dsub_lt hyf hv.2 hlt
    have hd := dsub_b hyf hv.2 (Nat.le_of_lt hlt)
    have h1 : 1 ≤ (FP.dsub y (FP.dadd FP.dconst1 q)).toNat := hd.2.2 1 (by decide) (by
      have := un_lt.mpr hlt
      rw [un_lo (by decide)]; omega)
    have hc0 : ¬ 0 ≤ Op.cmpValue (FP.dcmp (FP.dsub (FP.dadd FP.dconst1 q) y) FP.dconst0) CmpOp.g := by
      rw [hneg]
      exact dneg_lt0 hd.1 (by omega) (by rw [← hneg]; exact mg_nn hsm (by decide)) _
    refine ⟨by rw [eb]; show (FP.fconst0 : UInt32).toNat ≤ 1073741824; decide +kernel, ?_, fun K => ?_⟩
    · unfold fX12_bandOf
      rw [nd_t (n64_of hv.2), nd_t (n64_of g1), nd_t (n64_of g2), e12, nd_t (n64_of g3), y2, Option.bind_some, nd_t (mg_n64 hsm (by decide)), if_neg hc0, eb]
    · rw [nd_t (n64_of hv.2), nd_t (n64_of g1), nd_t (n64_of g2), e12, nd_t (n64_of g3), y1, Option.bind_some, nd_t (mg_n64 hsm (by decide)), if_neg hc0, eb, d2f_0, nf_t (n32_of hz)]
  · have eb : bandV q = FP.d2f (FP.dsub (FP.dadd FP.dconst1 q) y) := by unfold bandV; rw [y2, Option.getD_some, if_neg hlt]
    have hd := dsub_b hv.2 hyf (Nat.le_of_not_lt hlt)
    have hle : (FP.dsub (FP.dadd FP.dconst1 q) y).toNat ≤ 1024 * 2 ^ 52 := hd.2.1 _ (by
      rw [un_pw (by decide)]
      exact Nat.le_trans hv2 (by rw [Nat.add_comm]; exact Nat.add_le_add_left y4 _))
    have hf2 := d2f_le2 hle
    have hdf : fnn (FP.dsub (FP.dadd FP.dconst1 q) y) := pw_fnn (K := 1025) (show _ < 1025 * 2 ^ 52 by omega) (by decide)
    have hc0 : 0 ≤ Op.cmpValue (FP.dcmp (FP.dsub (FP.dadd FP.dconst1 q) y) FP.dconst0) CmpOp.g := ((cmp_n hdf zero_f CmpOp.g).2.2.2.1).mpr (by rw [zero_n]; exact Nat.zero_le _)
    refine ⟨by rw [eb]; exact hf2, ?_, fun K => ?_⟩
    · unfold fX12_bandOf
      rw [nd_t (n64_of hv.2), nd_t (n64_of g1), nd_t (n64_of g2), e12, nd_t (n64_of g3), y2, Option.bind_some, nd_t (mg_n64 hsm (by decide)), if_pos hc0, nf_t (n32_of (fl2_ffn hf2)), eb]
    · rw [nd_t (n64_of hv.2), nd_t (n64_of g1), nd_t (n64_of g2), e12, nd_t (n64_of g3), y1, Option.bind_some, nd_t (mg_n64 hsm (by decide)), if_pos hc0, nf_t (n32_of (fl2_ffn hf2)), eb]
