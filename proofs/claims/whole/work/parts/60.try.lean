theorem nI_toInt32 (u : UInt32) : nI u.toNat = u.toInt32 := by
  refine Int32.toBitVec_inj.mp ?_
  show (nI u.toNat).toBitVec = u.toBitVec
  refine BitVec.eq_of_toNat_eq ?_
  rw [pk_tn u.toNat_lt]; rfl
theorem lN_toInt64 (u : UInt64) : lN u.toNat = u.toInt64 := by
  refine Int64.toBitVec_inj.mp ?_
  show (lN u.toNat).toBitVec = u.toBitVec
  refine BitVec.eq_of_toNat_eq ?_
  rw [wb_tn u.toNat_lt]; rfl
theorem floatBits_pos {x : UInt64} (hx : fnn x) (hu : ffn (FP.d2f x)) : fX7_floatBits x = some (FP.d2f x).toInt32 := by
  have hz : fnn FP.dconst0 := by unfold fnn; decide
  have hc : 0 ≤ Op.cmpValue (FP.dcmp x FP.dconst0) CmpOp.g := ((cmp_n hx hz CmpOp.g).2.2.2.1).mpr (Nat.zero_le _)
  have h := fb_core 0 x hx hu
  unfold fX7_floatBits
  rw [jn_e, if_pos hc]
  dsimp only
  rw [jn_e, if_pos hc]
  refine h.trans ?_
  rw [← nI_toInt32]
  exact congrArg some (Int32.zero_or)
theorem dneg_bits {x : UInt64} {n : Nat} (h : x.toNat = 2 ^ 63 + n) (hn : n < 2 ^ 63) : (FP.dneg x).toNat = n := by
  show (x ^^^ 0x8000000000000000).toNat = n
  rw [UInt64.toNat_xor, h]
  show (2 ^ 63 + n) ^^^ 2 ^ 63 = n
  rw [nat_xor (by omega)]
  omega
theorem d2f_neg {x y : UInt64} (hy : fnn y) (h : x.toNat = 2 ^ 63 + y.toNat) : (FP.d2f x).toNat = 2 ^ 31 + (FP.d2f y).toNat := by
  have hb := (d2f_b hy).1
  have hxn : FP.Core.val64 x = FP.Core.negate (FP.Core.val64 y) := FP.Core.val64_neg_bits (Or.inr (by omega))
  have hynn := fnn_nn hy
  have hxnn : FP.Core.val64 x ≠ .nan := by rw [hxn]; exact FP.Core.negate_ne_nan hynn
  have h1 : FP.Core.val32 (FP.d2f x) = FP.Core.negate (FP.Core.val32 (FP.d2f y)) := by
    rw [d2f_core hxnn, d2f_core hynn, FP.Core.val32_d2f, FP.Core.val32_d2f, hxn, FP.Core.negate_round]
  obtain ⟨u, hu⟩ : ∃ u : UInt32, u.toNat = 2 ^ 31 + (FP.d2f y).toNat := ⟨UInt32.ofNat (2 ^ 31 + (FP.d2f y).toNat), by rw [UInt32.toNat_ofNat']; omega⟩
  have h2 : FP.Core.val32 u = FP.Core.negate (FP.Core.val32 (FP.d2f y)) := FP.Core.val32_neg_bits (Or.inr (by omega))
  have h3 : FP.d2f x = u := FP.Core.val32_inj (by
    rw [h1]; exact FP.Core.negate_ne_nan (by rw [d2f_core hynn, FP.Core.val32_d2f]; exact fun q => hynn (FP.Core.round_nan.mp q))) (by rw [h1, h2])
  rw [h3, hu]
theorem neg_or {n : Nat} (h : n < 2 ^ 31) : (-2147483648 : Int32) ||| nI n = nI (2 ^ 31 + n) := by
  have e : (-2147483648 : Int32) = nI (2 ^ 31 * 1) := by decide +kernel
  rw [e, fa_or_sum 1 h, Nat.mul_one]
theorem floatBits_neg {x y : UInt64} (hy : fnn y) (h0 : y.toNat ≠ 0) (h : x.toNat = 2 ^ 63 + y.toNat) (hu : ffn (FP.d2f y)) : fX7_floatBits x = some (FP.d2f x).toInt32 := by
  have hz : FP.Core.val64 FP.dconst0 ≠ .nan := by decide +kernel
  have hyb : y.toNat < 9218868437227405312 := hy
  have hxn : FP.Core.val64 x = FP.Core.negate (FP.Core.val64 y) := FP.Core.val64_neg_bits (Or.inr (by omega))
  have hxnn : FP.Core.val64 x ≠ .nan := by rw [hxn]; exact FP.Core.negate_ne_nan (fnn_nn hy)
  have hk : FP.Core.dkey x = -(y.toNat : Int) := by
    unfold FP.Core.dkey
    rw [if_pos (by omega), h]; omega
  have hc : ¬ 0 ≤ Op.cmpValue (FP.dcmp x FP.dconst0) CmpOp.g := by
    rw [(cmp_k hxnn hz CmpOp.g).2.2.2.1, hk, show FP.Core.dkey FP.dconst0 = 0 by decide +kernel]; omega
  have hd : FP.dneg x = y := eq_of_toNat (dneg_bits h (by omega))
  have h2 := fb_core (-2147483648) y hy hu
  unfold fX7_floatBits
  rw [jn_e, if_neg hc]
  dsimp only
  rw [jn_e, if_neg hc, hd]
  refine h2.trans ?_
  rw [← nI_toInt32, d2f_neg hy h, neg_or (by have := (d2f_b hy).1; omega)]
