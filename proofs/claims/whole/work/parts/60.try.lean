theorem eq_of_toNat {x y : UInt64} (h : x.toNat = y.toNat) : x = y := UInt64.toNat_inj.mp h
theorem eq_of_toNat32 {x y : UInt32} (h : x.toNat = y.toNat) : x = y := UInt32.toNat_inj.mp h
theorem nI_u32 {n : Nat} (h : n < 2 ^ 32) : (nI n).toUInt32.toNat = n := by
  show (nI n).toBitVec.toNat = n
  exact pk_tn h
theorem hlv_ex {v : UInt64} {F k : Nat} (hF : F < 2 ^ 53) (hk : k + 1 ≤ 2045) (hv : fnn v) (h : un v.toNat = F * 2 ^ (k + 1)) : fnn (FP.dmul v (4602678819172646912 : UInt64)) ∧ un (FP.dmul v (4602678819172646912 : UInt64)).toNat = F * 2 ^ k := by
  obtain ⟨m, h1, h2⟩ := un_rep k F hF (by omega)
  have hc : (4602678819172646912 : UInt64).toNat = 1022 * 2 ^ 52 := by decide +kernel
  have e : (FP.dmul v (4602678819172646912 : UInt64)).toNat = m := dmul_ex hv (by unfold fnn; rw [hc]; decide +kernel) (Nat.le_of_lt h1) (by
    rw [hc, un_pw (by decide), h, h2, Nat.mul_assoc, Nat.mul_assoc, ← Nat.pow_add, ← Nat.pow_add])
  exact ⟨by unfold fnn; rw [e]; exact h1, by rw [e, h2]⟩
theorem pow_e {a b : Nat} (h : a = b) : 2 ^ a = 2 ^ b := by rw [h]
theorem lt1_e {α β : Type} {a : α} {k : α → β} : lt1 a k = k a := rfl
theorem jn_e {κ β : Type} {k : κ} {b : κ → β} : jn k b = b k := rfl
theorem i2d_nI {n : Nat} (h : n < 2 ^ 31) : fnn (FP.i2d (nI n)) ∧ un (FP.i2d (nI n)).toNat = n * 2 ^ 1074 := by
  have e := nI_toInt h
  have := i2d_un (x := nI n) (by rw [e]; omega)
  rw [e] at this
  exact this
theorem nI_max {a b : Nat} (ha : a < 2 ^ 31) (hb : b < 2 ^ 31) : (if nI a < nI b then nI b else nI a) = nI (max a b) := by
  by_cases h : a < b
  · rw [if_pos ((nI_ltI ha hb).mpr h), Nat.max_eq_right (Nat.le_of_lt h)]
  · rw [if_neg (fun q => h ((nI_ltI ha hb).mp q)), Nat.max_eq_left (Nat.not_lt.mp h)]
/-- the float of bits from 0 on to those of 2.0 is the one that the bits are -/
theorem floatOf_spec {B : Nat} (hB : B ≤ 1073741824) : fX7_floatOf (nI B) = some (nI B).toUInt32 := by
  have hE : B / 2 ^ 23 ≤ 128 := by omega
  have hE2 : B / 2 ^ 23 < 2 ^ 31 := by omega
  have e1 : ((nI B).toUInt32 >>> ((23 : Int32).toUInt32 &&& Int32.toUInt32 31)).toInt32 = nI (B / 2 ^ 23) := pk_ushrN (by omega) _ 23 (by decide)
  have e2 : nI B &&& (8388607 : Int32) = nI (B % 2 ^ 23) := pk_andN (by omega) 23 (by decide +kernel)
  unfold fX7_floatOf
  rw [e1, e2]
  have key : ∀ (v : UInt64) (F : Nat), F < 2 ^ 24 → fnn v → un v.toNat = F * 2 ^ 1074 → F * 2 ^ (max (B / 2 ^ 23) 1 + 924) = un32 B * 2 ^ 925 →
      ((lp (σ := (Int32 × UInt64)) (ρ := UInt64) (un2 fun (v11 : Int32) (v12 : UInt64) =>
      if nI (150 - max (B / 2 ^ 23) 1) ≤ v11 then (
       some (.inr v12)) else (
       nd (FP.dmul v12 (4602678819172646912 : UInt64)) fun (v16 : UInt64) =>
       lt1 (v11 + Int32.ofInt (1)) fun (v17 : Int32) =>
       some (.inl (v17, v16)))) 4000 ((0 : Int32), v)).bind
    (fun (v13 : UInt64) =>
     nf (FP.d2f v13) fun (v18 : UInt32) =>
     some v18)) = some (nI B).toUInt32 := by
    intro v F hF hv hu hx
    obtain ⟨r, h1, h2, h3⟩ := lp_inv (body := un2 fun (v11 : Int32) (v12 : UInt64) =>
      if nI (150 - max (B / 2 ^ 23) 1) ≤ v11 then (
       some (.inr v12)) else (
       nd (FP.dmul v12 (4602678819172646912 : UInt64)) fun (v16 : UInt64) =>
       lt1 (v11 + Int32.ofInt (1)) fun (v17 : Int32) =>
       some (.inl (v17, v16)))) (fun i s => s.1 = nI i ∧ fnn s.2 ∧ un s.2.toNat = F * 2 ^ (1074 - i)) (fun r => fnn r ∧ un r.toNat = F * 2 ^ (max (B / 2 ^ 23) 1 + 924)) (150 - max (B / 2 ^ 23) 1) (fun i s hi ⟨q1, q2, q3⟩ => by
        obtain ⟨k, w⟩ := s
        dsimp only at q1 q2 q3
        subst q1
        dsimp only [un2]
        by_cases hlt : i < 150 - max (B / 2 ^ 23) 1
        · right
          obtain ⟨z1, z2⟩ := hlv_ex (F := F) (k := 1074 - (i + 1)) (by omega) (by omega) q2 (by rw [q3, pow_e (show 1074 - i = 1074 - (i + 1) + 1 by omega)])
          refine ⟨hlt, (nI (i + 1), FP.dmul w (4602678819172646912 : UInt64)), ?_, rfl, z1, z2⟩
          rw [if_neg (fun h => by have := (nI_leI (by omega) (by omega)).mp h; omega), nd_t (n64_of z1), lt1_e, show nI i + Int32.ofInt 1 = nI (i + 1) from nI_1 i]
        · left
          refine ⟨w, if_pos ((nI_leI (by omega) (by omega)).mpr (by omega)), q2, ?_⟩
          rw [q3, pow_e (show 1074 - i = max (B / 2 ^ 23) 1 + 924 by omega)]) (150 - max (B / 2 ^ 23) 1) 4000 0 ((0 : Int32), v) (by omega) ⟨rfl, hv, hu⟩ (by omega)
    rw [h1]
    have hb := d2f_b h2
    have e : (FP.d2f r).toNat = B := Nat.le_antisymm (hb.2.1 B (by rw [h3, hx]; exact Nat.le_refl _)) (hb.2.2 B (by unfold fInf; omega) (by rw [h3, hx]; exact Nat.le_refl _))
    show nf (FP.d2f r) _ = _
    rw [nf_t (n32_of (by unfold ffn; rw [e]; unfold fInf; omega))]
    exact congrArg some (eq_of_toNat32 (by rw [e, nI_u32 (by omega)]))
  have e3 : (150 : Int32) - (if nI (B / 2 ^ 23) < (1 : Int32) then (1 : Int32) else nI (B / 2 ^ 23)) = nI (150 - max (B / 2 ^ 23) 1) := by
    rw [show (1 : Int32) = nI 1 from rfl, nI_max hE2 (by decide), show (150 : Int32) = nI 150 from rfl, pk_sub (by omega)]
  rw [lt1_e, lt1_e, jn_e, e3]
  by_cases h0 : B / 2 ^ 23 = 0
  · rw [if_pos (by rw [h0]; rfl)]
    obtain ⟨z1, z2⟩ := i2d_nI (n := B % 2 ^ 23) (by omega)
    refine key _ (B % 2 ^ 23) (by omega) z1 z2 ?_
    rw [h0, un32_lo (by omega), show B % 2 ^ 23 = B by omega]
    rfl
  · rw [if_neg (fun h => h0 (by have := (nI_eq hE2 (by decide)).mp (show nI (B / 2 ^ 23) = nI 0 from h); exact this))]
    rw [show (8388608 : Int32) = nI (2 ^ 23) from rfl, nI_add]
    obtain ⟨z1, z2⟩ := i2d_nI (n := B % 2 ^ 23 + 2 ^ 23) (by omega)
    refine key _ (B % 2 ^ 23 + 2 ^ 23) (by omega) z1 z2 ?_
    rw [un32_hi (by omega), Nat.mul_assoc, ← Nat.pow_add, Nat.add_comm (B % 2 ^ 23)]
    rw [pow_e (show max (B / 2 ^ 23) 1 + 924 = B / 2 ^ 23 - 1 + 925 by omega)]
