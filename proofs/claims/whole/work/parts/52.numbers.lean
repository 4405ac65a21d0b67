theorem eq_of_toNat {x y : UInt64} (h : x.toNat = y.toNat) : x = y := UInt64.toNat_inj.mp h
theorem eq_of_toNat32 {x y : UInt32} (h : x.toNat = y.toNat) : x = y := UInt32.toNat_inj.mp h
theorem nI_u32 {n : Nat} (h : n < 2 ^ 32) : (nI n).toUInt32.toNat = n := by
  show (nI n).toBitVec.toNat = n
  exact pk_tn h
theorem hlv_ex {v : UInt64} {F k : Nat} (hF : F < 2 ^ 53) (hk : k + 1 ≤ 2045) (hv : fnn v) (h : un v.toNat = F * 2 ^ (k + 1)) : fnn (FP.dmul v (4602678819172646912 : UInt64)) ∧ un (FP.dmul v (4602678819172646912 : UInt64)).toNat = F * 2 ^ k := by
  obtain ⟨m, h1, h2⟩ := un_rep k F hF (by omega)
  have hc : (4602678819172646912 : UInt64).toNat = 1022 * 2 ^ 52 := by decide +kernel
  have e : (FP.dmul v (4602678819172646912 : UInt64)).toNat = m := dmul_ex hv (by unfold fnn; rw [hc]; decide +kernel) (Nat.le_of_lt h1) (by
    rw [hc, un_pw (by decide), h, h2, Nat.mul_assoc, Nat.mul_assoc, ← Nat.pow_add, ← Nat.pow_add])
  exact ⟨by unfold fnn; rw [e]; exact h1, by rw [e, h2]⟩
theorem pow_e {a b : Nat} (h : a = b) : 2 ^ a = 2 ^ b := by rw [h]
theorem lt1_e {α β : Type} {a : α} {k : α → β} : lt1 a k = k a := rfl
theorem jn_e {κ β : Type} {k : κ} {b : κ → β} : jn k b = b k := rfl
theorem i2d_nI {n : Nat} (h : n < 2 ^ 31) : fnn (FP.i2d (nI n)) ∧ un (FP.i2d (nI n)).toNat = n * 2 ^ 1074 := by
  have e := nI_toInt h
  have := i2d_un (x := nI n) (by rw [e]; omega)
  rw [e] at this
  exact this
theorem nI_max {a b : Nat} (ha : a < 2 ^ 31) (hb : b < 2 ^ 31) : (if nI a < nI b then nI b else nI a) = nI (max a b) := by
  by_cases h : a < b
  · rw [if_pos ((nI_ltI ha hb).mpr h), Nat.max_eq_right (Nat.le_of_lt h)]
  · rw [if_neg (fun q => h ((nI_ltI ha hb).mp q)), Nat.max_eq_left (Nat.not_lt.mp h)]
/-- the float of bits from 0 on to those of 2.0 is the one that the bits are -/
theorem floatOf_spec {B : Nat} (hB : B ≤ 1073741824) : fX7_floatOf (nI B) = some (nI B).toUInt32 := by
  have hE : B / 2 ^ 23 ≤ 128 := by omega
  have hE2 : B / 2 ^ 23 < 2 ^ 31 := by omega
  have e1 : ((nI B).toUInt32 >>> ((23 : Int32).toUInt32 &&& Int32.toUInt32 31)).toInt32 = nI (B / 2 ^ 23) := pk_ushrN (by omega) _ 23 (by decide)
  have e2 : nI B &&& (8388607 : Int32) = nI (B % 2 ^ 23) := pk_andN (by omega) 23 (by decide +kernel)
  unfold fX7_floatOf
  rw [e1, e2]
  have key : ∀ (v : UInt64) (F : Nat), F < 2 ^ 24 → fnn v → un v.toNat = F * 2 ^ 1074 → F * 2 ^ (max (B / 2 ^ 23) 1 + 924) = un32 B * 2 ^ 925 →
      ((lp (σ := (Int32 × UInt64)) (ρ := UInt64) (un2 fun (v11 : Int32) (v12 : UInt64) =>
      if nI (150 - max (B / 2 ^ 23) 1) ≤ v11 then (
       some (.inr v12)) else (
       nd (FP.dmul v12 (4602678819172646912 : UInt64)) fun (v16 : UInt64) =>
       lt1 (v11 + Int32.ofInt (1)) fun (v17 : Int32) =>
       some (.inl (v17, v16)))) 4000 ((0 : Int32), v)).bind
    (fun (v13 : UInt64) =>
     nf (FP.d2f v13) fun (v18 : UInt32) =>
     some v18)) = some (nI B).toUInt32 := by
    intro v F hF hv hu hx
    obtain ⟨r, h1, h2, h3⟩ := lp_inv (body := un2 fun (v11 : Int32) (v12 : UInt64) =>
      if nI (150 - max (B / 2 ^ 23) 1) ≤ v11 then (
       some (.inr v12)) else (
       nd (FP.dmul v12 (4602678819172646912 : UInt64)) fun (v16 : UInt64) =>
       lt1 (v11 + Int32.ofInt (1)) fun (v17 : Int32) =>
       some (.inl (v17, v16)))) (fun i s => s.1 = nI i ∧ fnn s.2 ∧ un s.2.toNat = F * 2 ^ (1074 - i)) (fun r => fnn r ∧ un r.toNat = F * 2 ^ (max (B / 2 ^ 23) 1 + 924)) (150 - max (B / 2 ^ 23) 1) (fun i s hi ⟨q1, q2, q3⟩ => by
        obtain ⟨k, w⟩ := s
        dsimp only at q1 q2 q3
        subst q1
        dsimp only [un2]
        by_cases hlt : i < 150 - max (B / 2 ^ 23) 1
        · right
          obtain ⟨z1, z2⟩ := hlv_ex (F := F) (k := 1074 - (i + 1)) (by omega) (by omega) q2 (by rw [q3, pow_e (show 1074 - i = 1074 - (i + 1) + 1 by omega)])
          refine ⟨hlt, (nI (i + 1), FP.dmul w (4602678819172646912 : UInt64)), ?_, rfl, z1, z2⟩
          rw [if_neg (fun h => by have := (nI_leI (by omega) (by omega)).mp h; omega), nd_t (n64_of z1), lt1_e, show nI i + Int32.ofInt 1 = nI (i + 1) from nI_1 i]
        · left
          refine ⟨w, if_pos ((nI_leI (by omega) (by omega)).mpr (by omega)), q2, ?_⟩
          rw [q3, pow_e (show 1074 - i = max (B / 2 ^ 23) 1 + 924 by omega)]) (150 - max (B / 2 ^ 23) 1) 4000 0 ((0 : Int32), v) (by omega) ⟨rfl, hv, hu⟩ (by omega)
    rw [h1]
    have hb := d2f_b h2
    have e : (FP.d2f r).toNat = B := Nat.le_antisymm (hb.2.1 B (by rw [h3, hx]; exact Nat.le_refl _)) (hb.2.2 B (by unfold fInf; omega) (by rw [h3, hx]; exact Nat.le_refl _))
    show nf (FP.d2f r) _ = _
    rw [nf_t (n32_of (by unfold ffn; rw [e]; unfold fInf; omega))]
    exact congrArg some (eq_of_toNat32 (by rw [e, nI_u32 (by omega)]))
  have e3 : (150 : Int32) - (if nI (B / 2 ^ 23) < (1 : Int32) then (1 : Int32) else nI (B / 2 ^ 23)) = nI (150 - max (B / 2 ^ 23) 1) := by
    rw [show (1 : Int32) = nI 1 from rfl, nI_max hE2 (by decide), show (150 : Int32) = nI 150 from rfl, pk_sub (by omega)]
  rw [lt1_e, lt1_e, jn_e, e3]
  by_cases h0 : B / 2 ^ 23 = 0
  · rw [if_pos (by rw [h0]; rfl)]
    obtain ⟨z1, z2⟩ := i2d_nI (n := B % 2 ^ 23) (by omega)
    refine key _ (B % 2 ^ 23) (by omega) z1 z2 ?_
    rw [h0, un32_lo (by omega), show B % 2 ^ 23 = B by omega]
    rfl
  · rw [if_neg (fun h => h0 (by have := (nI_eq hE2 (by decide)).mp (show nI (B / 2 ^ 23) = nI 0 from h); exact this))]
    rw [show (8388608 : Int32) = nI (2 ^ 23) from rfl, nI_add]
    obtain ⟨z1, z2⟩ := i2d_nI (n := B % 2 ^ 23 + 2 ^ 23) (by omega)
    refine key _ (B % 2 ^ 23 + 2 ^ 23) (by omega) z1 z2 ?_
    rw [un32_hi (by omega), Nat.mul_assoc, ← Nat.pow_add, Nat.add_comm (B % 2 ^ 23)]
    rw [pow_e (show max (B / 2 ^ 23) 1 + 924 = B / 2 ^ 23 - 1 + 925 by omega)]
theorem fnn_eq {x y : UInt64} (h : un x.toNat = un y.toNat) : x = y := eq_of_toNat (un_inj h)
theorem d2i_F {w : UInt64} {F : Nat} (hF : F < 2 ^ 31) (h : un w.toNat = F * 2 ^ 1074) : FP.d2i w = nI F := by
  have := i2d_nI hF
  rw [fnn_eq (h.trans this.2.symm)]
  exact FP.Core.d2i_i2d _
theorem l2d_lN {n : Nat} (h : n ≤ 2 ^ 53) : fnn (FP.l2d (lN n)) ∧ un (FP.l2d (lN n)).toNat = n * 2 ^ 1074 := by
  have e : (lN n).toInt = (n : Int) := pk_lT (by omega)
  have := l2d_un (x := lN n) (by rw [e]; omega) (by rw [e]; omega)
  rw [e] at this
  exact this
theorem d2l_F {w : UInt64} {F : Nat} (hF : F ≤ 2 ^ 53) (h : un w.toNat = F * 2 ^ 1074) : FP.d2l w = lN F := by
  have := l2d_lN hF
  have e : (lN F).toInt = (F : Int) := pk_lT (by omega)
  rw [fnn_eq (h.trans this.2.symm)]
  exact FP.Core.d2l_l2d (by rw [e]; omega)
theorem nI_ltc {a b : Nat} (ha : a < 2 ^ 31) (hb : b < 2 ^ 31) : ¬ nI a ≤ nI b ↔ b < a := by
  rw [nI_leI ha hb]; omega
theorem pow_lt_iff {F k j : Nat} (h1 : 2 ^ j ≤ F) (h2 : F < 2 ^ (j + 1)) {n : Nat} : F * 2 ^ k < 2 ^ n ↔ j + k < n := by
  constructor
  · intro h
    refine Nat.lt_of_not_le (fun q => ?_)
    have e1 : 2 ^ n ≤ 2 ^ (j + k) := Nat.pow_le_pow_right (by decide) q
    have e2 : 2 ^ (j + k) ≤ F * 2 ^ k := by rw [Nat.pow_add]; exact Nat.mul_le_mul_right _ h1
    omega
  · intro h
    have e1 : 2 ^ (j + 1 + k) ≤ 2 ^ n := Nat.pow_le_pow_right (by decide) (by omega)
    have e2 : F * 2 ^ k < 2 ^ (j + 1 + k) := by rw [Nat.pow_add]; exact Nat.mul_lt_mul_of_pos_right h2 (Nat.two_pow_pos k)
    omega
theorem pow_lt_of {F k j n : Nat} (h2 : F < 2 ^ j) (h : j + k ≤ n) : F * 2 ^ k < 2 ^ n := by
  have e1 : 2 ^ (j + k) ≤ 2 ^ n := Nat.pow_le_pow_right (by decide) h
  have e2 : F * 2 ^ k < 2 ^ (j + k) := by rw [Nat.pow_add]; exact Nat.mul_lt_mul_of_pos_right h2 (Nat.two_pow_pos k)
  omega
theorem or_0 (v : Int32) : v ||| nI 0 = v := by
  show v ||| 0 = v
  exact Int32.or_zero
abbrev fb_rest (v4 : Int32) (v8 : UInt64) : Option Int32 :=
    nf (FP.d2f v8) fun (v9 : UInt32) =>
    if Op.cmpValue (FP.fcmp v9 FP.fconst0) CmpOp.l = 0 then (
     some v4) else (
     nd (FP.f2d v9) fun (v11 : UInt64) =>
     nd (FP.dmul v11 (4710765210229538816 : UInt64)) fun (v12 : UInt64) =>
     ((lp (σ := (Int32 × Int32 × UInt64)) (ρ := (UInt64 × Int32)) (un3 fun (v16 : Int32) (v17 : Int32) (v18 : UInt64) =>
        if (1100 : Int32) ≤ v16 then (
         some (.inr (v18, v17))) else (
         if Op.cmpValue (FP.dcmp v18 (4715268809856909312 : UInt64)) CmpOp.l < 0 then (
          some (.inr (v18, v17))) else (
          nd (FP.dmul v18 (4602678819172646912 : UInt64)) fun (v43 : UInt64) =>
          lt1 (v17 + Int32.ofInt (1)) fun (v44 : Int32) =>
          lt1 (v16 + Int32.ofInt (1)) fun (v45 : Int32) =>
          some (.inl (v45, v44, v43))))) 4000 ((0 : Int32), (127 : Int32), v12)).bind
      (un2 fun (v19 : UInt64) (v20 : Int32) =>
       ((lp (σ := (Int32 × UInt64 × Int32)) (ρ := (UInt64 × Int32)) (un3 fun (v27 : Int32) (v28 : UInt64) (v29 : Int32) =>
          if (1100 : Int32) ≤ v27 then (
           some (.inr (v28, v29))) else (
           if 0 ≤ Op.cmpValue (FP.dcmp v28 (4710765210229538816 : UInt64)) CmpOp.g then (
            some (.inr (v28, v29))) else (
            if v29 ≤ (1 : Int32) then (
             some (.inr (v28, v29))) else (
             nd (FP.dmul v28 (4611686018427387904 : UInt64)) fun (v38 : UInt64) =>
             lt1 (v29 + Int32.ofInt (-1)) fun (v39 : Int32) =>
             lt1 (v27 + Int32.ofInt (1)) fun (v40 : Int32) =>
             some (.inl (v40, v38, v39)))))) 4000 ((0 : Int32), v19, v20)).bind
        (un2 fun (v30 : UInt64) (v31 : Int32) =>
         some (v4 ||| (((v31 - (1 : Int32)) <<< ((23 : Int32) &&& 31)) + (FP.d2i v30))))))))
theorem fb_core (v4 : Int32) (y : UInt64) (hy : fnn y) (hu : ffn (FP.d2f y)) : fb_rest v4 y = some (v4 ||| nI (FP.d2f y).toNat) := by
  unfold fb_rest
  rw [nf_t (n32_of hu)]
  obtain ⟨u, eu⟩ : ∃ u, u = FP.d2f y := ⟨_, rfl⟩
  rw [← eu] at hu ⊢
  obtain ⟨B, eB⟩ : ∃ B, B = u.toNat := ⟨_, rfl⟩
  have hB : B < 2139095040 := by rw [eB]; exact hu
  rw [← eB]
  have hz := cmp_f hu (y := FP.fconst0) (by unfold ffn; decide) CmpOp.l
  rw [show (FP.fconst0 : UInt32).toNat = 0 from rfl, ← eB] at hz
  by_cases h0 : B = 0
  · rw [if_pos (hz.mpr h0), h0, or_0]
  rw [if_neg (fun h => h0 (hz.mp h))]
  obtain ⟨f1, f2⟩ := f2d_un hu
  rw [← eB] at f2
  -- the float is F * 2 ^ (E - 1) units
  obtain ⟨F, E, hF, hE1, hE2, hEF, hFB, hN⟩ : ∃ F E, F < 2 ^ 24 ∧ 1 ≤ E ∧ E ≤ 254 ∧ un32 B = F * 2 ^ (E - 1) ∧ (E - 1) * 2 ^ 23 + F = B ∧ (2 ^ 23 ≤ F ∨ E = 1) := by
    by_cases h : B < 2 ^ 23
    · exact ⟨B, 1, by omega, by omega, by omega, by rw [un32_lo h]; omega, by omega, Or.inr rfl⟩
    · exact ⟨2 ^ 23 + B % 2 ^ 23, B / 2 ^ 23, by omega, by omega, by omega, un32_hi (by omega), by omega, Or.inl (by omega)⟩
  have hF0 : 0 < F := by
    refine Nat.pos_of_ne_zero (fun h => ?_)
    rw [h, Nat.zero_mul] at hEF
    exact h0 (un32_z.mp hEF)
  rw [nd_t (n64_of f1)]
  obtain ⟨g1, g2⟩ := dmul_up (x := FP.f2d u) (P := (4710765210229538816 : UInt64)) (j := 23) f1 (by decide +kernel) (by decide) (by
    rw [f2, hEF, Nat.mul_assoc, ← Nat.pow_add]; exact pow_lt_of (j := 24) hF (by omega))
  rw [nd_t (n64_of g1)]
  rw [f2, hEF, Nat.mul_assoc, Nat.mul_assoc, ← Nat.pow_add, ← Nat.pow_add] at g2
  have c1 : (4715268809856909312 : UInt64).toNat = 1047 * 2 ^ 52 := by decide +kernel
  have c1f : fnn (4715268809856909312 : UInt64) := by unfold fnn; decide +kernel
  have c2 : (4710765210229538816 : UInt64).toNat = 1046 * 2 ^ 52 := by decide +kernel
  have c2f : fnn (4710765210229538816 : UInt64) := by unfold fnn; decide +kernel
  obtain ⟨q, h1, h2, h3, h4⟩ := lp_inv (body := un3 fun (v16 : Int32) (v17 : Int32) (v18 : UInt64) =>
        if (1100 : Int32) ≤ v16 then (
         some (.inr (v18, v17))) else (
         if Op.cmpValue (FP.dcmp v18 (4715268809856909312 : UInt64)) CmpOp.l < 0 then (
          some (.inr (v18, v17))) else (
          nd (FP.dmul v18 (4602678819172646912 : UInt64)) fun (v43 : UInt64) =>
          lt1 (v17 + Int32.ofInt (1)) fun (v44 : Int32) =>
          lt1 (v16 + Int32.ofInt (1)) fun (v45 : Int32) =>
          some (.inl (v45, v44, v43))))) (fun i s => s.1 = nI i ∧ s.2.1 = nI (127 + i) ∧ fnn s.2.2 ∧ un s.2.2.toNat = F * 2 ^ (E + 947 - i)) (fun r => r.2 = nI (127 + (E - 127)) ∧ fnn r.1 ∧ un r.1.toNat = F * 2 ^ (E + 947 - (E - 127))) (E - 127) (fun i s hi ⟨q1, q2, q3, q4⟩ => by
      obtain ⟨k, ex, w⟩ := s
      dsimp only at q1 q2 q3 q4
      subst q1; subst q2
      dsimp only [un3]
      have hc := (cmp_n q3 c1f CmpOp.l).1
      rw [← un_lt, c1, un_pw (by decide), q4] at hc
      rw [if_neg (fun h => by have := (nI_leI (by decide) (by omega)).mp (show nI 1100 ≤ nI i from h); omega)]
      by_cases hlt : i < E - 127
      · right
        have hF2 : 2 ^ 23 ≤ F := by omega
        obtain ⟨z1, z2⟩ := hlv_ex (v := w) (F := F) (k := E + 947 - (i + 1)) (by omega) (by omega) q3 (by rw [q4, pow_e (show E + 947 - i = E + 947 - (i + 1) + 1 by omega)])
        refine ⟨hlt, (nI (i + 1), nI (127 + (i + 1)), FP.dmul w (4602678819172646912 : UInt64)), ?_, rfl, rfl, z1, z2⟩
        rw [if_neg (fun h => by have := (pow_lt_iff (j := 23) hF2 hF).mp (hc.mp h); omega), nd_t (n64_of z1), lt1_e, lt1_e, show nI i + Int32.ofInt 1 = nI (i + 1) from nI_1 i, show nI (127 + i) + Int32.ofInt 1 = nI (127 + (i + 1)) from nI_1 _]
      · left
        refine ⟨(w, nI (127 + i)), ?_, by rw [show i = E - 127 by omega], q3, by rw [q4, pow_e (show E + 947 - i = E + 947 - (E - 127) by omega)]⟩
        rw [if_pos (hc.mpr (pow_lt_of (j := 24) hF (by omega)))]) (E - 127) 4000 0 ((0 : Int32), (127 : Int32), FP.dmul (FP.f2d u) (4710765210229538816 : UInt64)) (by omega) ⟨rfl, rfl, g1, by rw [g2, pow_e (show E - 1 + (925 + 23) = E + 947 - 0 by omega)]⟩ (by omega)
  rw [h1, Option.bind_some]
  obtain ⟨w1, ex1⟩ := q
  dsimp only at h2 h3 h4
  subst h2
  dsimp only [un2]
  obtain ⟨q, k1, k2, k3, k4⟩ := lp_inv (body := un3 fun (v27 : Int32) (v28 : UInt64) (v29 : Int32) =>
          if (1100 : Int32) ≤ v27 then (
           some (.inr (v28, v29))) else (
           if 0 ≤ Op.cmpValue (FP.dcmp v28 (4710765210229538816 : UInt64)) CmpOp.g then (
            some (.inr (v28, v29))) else (
            if v29 ≤ (1 : Int32) then (
             some (.inr (v28, v29))) else (
             nd (FP.dmul v28 (4611686018427387904 : UInt64)) fun (v38 : UInt64) =>
             lt1 (v29 + Int32.ofInt (-1)) fun (v39 : Int32) =>
             lt1 (v27 + Int32.ofInt (1)) fun (v40 : Int32) =>
             some (.inl (v40, v38, v39)))))) (fun i s => s.1 = nI i ∧ s.2.2 = nI (127 + (E - 127) - i) ∧ fnn s.2.1 ∧ un s.2.1.toNat = F * 2 ^ (E + 947 - (E - 127) + i)) (fun r => r.2 = nI E ∧ fnn r.1 ∧ un r.1.toNat = F * 2 ^ 1074) (127 - E) (fun i s hi ⟨q1, q2, q3, q4⟩ => by
      obtain ⟨k, w, ex⟩ := s
      dsimp only at q1 q2 q3 q4
      subst q1; subst q2
      dsimp only [un3]
      have hc := (cmp_n q3 c2f CmpOp.g).2.2.2.1
      rw [← un_le, c2, un_pw (by decide), q4] at hc
      rw [if_neg (fun h => by have := (nI_leI (by decide) (by omega)).mp (show nI 1100 ≤ nI i from h); omega)]
      by_cases hlt : i < 127 - E
      · right
        obtain ⟨z1, z2⟩ := dmul_up (x := w) (P := (4611686018427387904 : UInt64)) (j := 1) q3 (by decide +kernel) (by decide) (by
          rw [q4]; exact pow_lt_of (j := 24) hF (by omega))
        have e3 : E + 947 - (E - 127) + i + 1 = E + 947 - (E - 127) + (i + 1) := by omega
        refine ⟨hlt, (nI (i + 1), FP.dmul w (4611686018427387904 : UInt64), nI (127 + (E - 127) - (i + 1))), ?_, rfl, rfl, z1, by rw [z2, q4, Nat.mul_assoc, ← Nat.pow_add, pow_e e3]⟩
        rw [if_neg (fun h => by have := hc.mp h; have := pow_lt_of (F := F) (k := E + 947 - (E - 127) + i) (j := 24) (n := 1046 + 51) hF (by omega); omega),
          if_neg (fun h => by have := (nI_leI (by omega) (by decide)).mp (show nI (127 + (E - 127) - i) ≤ nI 1 from h); omega), nd_t (n64_of z1), lt1_e, lt1_e, show nI i + Int32.ofInt 1 = nI (i + 1) from nI_1 i]
        have e4 : nI (127 + (E - 127) - i) + Int32.ofInt (-1) = nI (127 + (E - 127) - (i + 1)) := by
          rw [show 127 + (E - 127) - i = 127 + (E - 127) - (i + 1) + 1 by omega]; exact pk_m1 _
        rw [e4]
      · left
        have e5 : un w.toNat = F * 2 ^ 1074 := by rw [q4, pow_e (show E + 947 - (E - 127) + i = 1074 by omega)]
        refine ⟨(w, nI (127 + (E - 127) - i)), ?_, by rw [show 127 + (E - 127) - i = E by omega], q3, e5⟩
        rcases hN with hN | hN
        · rw [if_pos (hc.mpr ?_)]
          rw [pow_e (show E + 947 - (E - 127) + i = 1074 by omega)]
          exact Nat.le_trans (Nat.le_of_eq (Nat.pow_add 2 23 1074)) (Nat.mul_le_mul_right _ hN)
        · rw [if_pos (show nI (127 + (E - 127) - i) ≤ 1 from (nI_leI (by omega) (by decide)).mpr (show 127 + (E - 127) - i ≤ 1 by omega)), ite_self]) (127 - E) 4000 0 ((0 : Int32), w1, nI (127 + (E - 127))) (by omega) ⟨rfl, congrArg nI (Nat.sub_zero _).symm, h3, h4.trans (congrArg (F * ·) (pow_e (show E + 947 - (E - 127) = E + 947 - (E - 127) + 0 by omega)))⟩ (by omega)
  rw [k1, Option.bind_some]
  obtain ⟨w2, ex2⟩ := q
  dsimp only at k2 k3 k4
  subst k2
  dsimp only [un2]
  rw [d2i_F (by omega) k4, show (1 : Int32) = nI 1 from rfl, pk_sub hE1, pk_shlN _ 23 (by decide) (by omega), nI_add, hFB]
theorem nI_toInt32 (u : UInt32) : nI u.toNat = u.toInt32 := by
  refine Int32.toBitVec_inj.mp ?_
  show (nI u.toNat).toBitVec = u.toBitVec
  refine BitVec.eq_of_toNat_eq ?_
  rw [pk_tn u.toNat_lt]; rfl
theorem lN_toInt64 (u : UInt64) : lN u.toNat = u.toInt64 := by
  refine Int64.toBitVec_inj.mp ?_
  show (lN u.toNat).toBitVec = u.toBitVec
  refine BitVec.eq_of_toNat_eq ?_
  rw [wb_tn u.toNat_lt]; rfl
theorem floatBits_pos {x : UInt64} (hx : fnn x) (hu : ffn (FP.d2f x)) : fX7_floatBits x = some (FP.d2f x).toInt32 := by
  have hz : fnn FP.dconst0 := by unfold fnn; decide
  have hc : 0 ≤ Op.cmpValue (FP.dcmp x FP.dconst0) CmpOp.g := ((cmp_n hx hz CmpOp.g).2.2.2.1).mpr (Nat.zero_le _)
  have h := fb_core 0 x hx hu
  unfold fX7_floatBits
  rw [jn_e, if_pos hc]
  dsimp only
  rw [jn_e, if_pos hc]
  refine h.trans ?_
  rw [← nI_toInt32]
  exact congrArg some (Int32.zero_or)
theorem dneg_bits {x : UInt64} {n : Nat} (h : x.toNat = 2 ^ 63 + n) (hn : n < 2 ^ 63) : (FP.dneg x).toNat = n := by
  show (x ^^^ 0x8000000000000000).toNat = n
  rw [UInt64.toNat_xor, h]
  show (2 ^ 63 + n) ^^^ 2 ^ 63 = n
  rw [nat_xor (by omega)]
  omega
theorem d2f_neg {x y : UInt64} (hy : fnn y) (h : x.toNat = 2 ^ 63 + y.toNat) : (FP.d2f x).toNat = 2 ^ 31 + (FP.d2f y).toNat := by
  have hb := (d2f_b hy).1
  have hxn : FP.Core.val64 x = FP.Core.negate (FP.Core.val64 y) := FP.Core.val64_neg_bits (Or.inr (by omega))
  have hynn := fnn_nn hy
  have hxnn : FP.Core.val64 x ≠ .nan := by rw [hxn]; exact FP.Core.negate_ne_nan hynn
  have h1 : FP.Core.val32 (FP.d2f x) = FP.Core.negate (FP.Core.val32 (FP.d2f y)) := by
    rw [d2f_core hxnn, d2f_core hynn, FP.Core.val32_d2f, FP.Core.val32_d2f, hxn, FP.Core.negate_round]
  obtain ⟨u, hu⟩ : ∃ u : UInt32, u.toNat = 2 ^ 31 + (FP.d2f y).toNat := ⟨UInt32.ofNat (2 ^ 31 + (FP.d2f y).toNat), by rw [UInt32.toNat_ofNat']; omega⟩
  have h2 : FP.Core.val32 u = FP.Core.negate (FP.Core.val32 (FP.d2f y)) := FP.Core.val32_neg_bits (Or.inr (by omega))
  have h3 : FP.d2f x = u := FP.Core.val32_inj (by
    rw [h1]; exact FP.Core.negate_ne_nan (by rw [d2f_core hynn, FP.Core.val32_d2f]; exact fun q => hynn (FP.Core.round_nan.mp q))) (by rw [h1, h2])
  rw [h3, hu]
theorem neg_or {n : Nat} (h : n < 2 ^ 31) : (-2147483648 : Int32) ||| nI n = nI (2 ^ 31 + n) := by
  have e : (-2147483648 : Int32) = nI (2 ^ 31 * 1) := by decide +kernel
  rw [e, fa_or_sum 1 h, Nat.mul_one]
theorem floatBits_neg {x y : UInt64} (hy : fnn y) (h0 : y.toNat ≠ 0) (h : x.toNat = 2 ^ 63 + y.toNat) (hu : ffn (FP.d2f y)) : fX7_floatBits x = some (FP.d2f x).toInt32 := by
  have hz : FP.Core.val64 FP.dconst0 ≠ .nan := by decide +kernel
  have hyb : y.toNat < 9218868437227405312 := hy
  have hxn : FP.Core.val64 x = FP.Core.negate (FP.Core.val64 y) := FP.Core.val64_neg_bits (Or.inr (by omega))
  have hxnn : FP.Core.val64 x ≠ .nan := by rw [hxn]; exact FP.Core.negate_ne_nan (fnn_nn hy)
  have hk : FP.Core.dkey x = -(y.toNat : Int) := by
    unfold FP.Core.dkey
    rw [if_pos (by omega), h]; omega
  have hc : ¬ 0 ≤ Op.cmpValue (FP.dcmp x FP.dconst0) CmpOp.g := by
    rw [(cmp_k hxnn hz CmpOp.g).2.2.2.1, hk, show FP.Core.dkey FP.dconst0 = 0 by decide +kernel]; omega
  have hd : FP.dneg x = y := eq_of_toNat (dneg_bits h (by omega))
  have h2 := fb_core (-2147483648) y hy hu
  unfold fX7_floatBits
  rw [jn_e, if_neg hc]
  dsimp only
  rw [jn_e, if_neg hc, hd]
  refine h2.trans ?_
  rw [← nI_toInt32, d2f_neg hy h, neg_or (by have := (d2f_b hy).1; omega)]
theorem or_0L (v : Int64) : v ||| lN 0 = v := by
  show v ||| 0 = v
  exact Int64.or_zero
theorem lN_leI {a b : Nat} (ha : a < 2 ^ 62) (hb : b < 2 ^ 62) : lN a ≤ lN b ↔ a ≤ b := pk_lLE (by omega) (by omega)
abbrev db_rest (v5 : Int64) (v9 : UInt64) : Option Int64 :=
     nd (FP.dmul v9 (4841369599423283200 : UInt64)) fun (v10 : UInt64) =>
     ((lp (σ := (Int32 × Int64 × UInt64)) (ρ := (UInt64 × Int64)) (un3 fun (v14 : Int32) (v15 : Int64) (v16 : UInt64) =>
        if (1100 : Int32) ≤ v14 then (
         some (.inr (v16, v15))) else (
         if Op.cmpValue (FP.dcmp v16 (4845873199050653696 : UInt64)) CmpOp.l < 0 then (
          some (.inr (v16, v15))) else (
          nd (FP.dmul v16 (4602678819172646912 : UInt64)) fun (v41 : UInt64) =>
          lt1 (v15 + (1 : Int64)) fun (v42 : Int64) =>
          lt1 (v14 + Int32.ofInt (1)) fun (v43 : Int32) =>
          some (.inl (v43, v42, v41))))) 4000 ((0 : Int32), (1023 : Int64), v10)).bind
      (un2 fun (v17 : UInt64) (v18 : Int64) =>
       ((lp (σ := (Int32 × UInt64 × Int64)) (ρ := (UInt64 × Int64)) (un3 fun (v25 : Int32) (v26 : UInt64) (v27 : Int64) =>
          if (1100 : Int32) ≤ v25 then (
           some (.inr (v26, v27))) else (
           if 0 ≤ Op.cmpValue (FP.dcmp v26 (4841369599423283200 : UInt64)) CmpOp.g then (
            some (.inr (v26, v27))) else (
            if lg_cmp v27 (1 : Int64) ≤ 0 then (
             some (.inr (v26, v27))) else (
             nd (FP.dmul v26 (4611686018427387904 : UInt64)) fun (v36 : UInt64) =>
             lt1 (v27 - (1 : Int64)) fun (v37 : Int64) =>
             lt1 (v25 + Int32.ofInt (1)) fun (v38 : Int32) =>
             some (.inl (v38, v36, v37)))))) 4000 ((0 : Int32), v17, v18)).bind
        (un2 fun (v28 : UInt64) (v29 : Int64) =>
         some (v5 ||| (((v29 - (1 : Int64)) <<< ((52 : Int32).toInt64 &&& 63)) + (FP.d2l v28)))))))
theorem db_core (v5 : Int64) (y : UInt64) (h0 : y.toNat ≠ 0) (hy : y.toNat < 1800 * 2 ^ 52) : db_rest v5 y = some (v5 ||| lN y.toNat) := by
  unfold db_rest
  have hyf : fnn y := pw_fnn hy (by decide)
  obtain ⟨F, E, hF, hE1, hE2, hEF, hFB, hN⟩ : ∃ F E, F < 2 ^ 53 ∧ 1 ≤ E ∧ E ≤ 1800 ∧ un y.toNat = F * 2 ^ (E - 1) ∧ (E - 1) * 2 ^ 52 + F = y.toNat ∧ (2 ^ 52 ≤ F ∨ E = 1) := by
    by_cases h : y.toNat < 2 ^ 52
    · exact ⟨y.toNat, 1, by omega, by omega, by omega, by rw [un_lo h]; omega, by omega, Or.inr rfl⟩
    · exact ⟨2 ^ 52 + y.toNat % 2 ^ 52, y.toNat / 2 ^ 52, by omega, by omega, by omega, un_hi (by omega), by omega, Or.inl (by omega)⟩
  have hF0 : 0 < F := by
    refine Nat.pos_of_ne_zero (fun h => ?_)
    rw [h, Nat.zero_mul] at hEF
    exact h0 (un_z.mp hEF)
  obtain ⟨g1, g2⟩ := dmul_up (x := y) (P := (4841369599423283200 : UInt64)) (j := 52) hyf (by decide +kernel) (by decide) (by
    rw [hEF]; exact pow_lt_of (j := 53) hF (by omega))
  rw [nd_t (n64_of g1)]
  rw [hEF, Nat.mul_assoc, ← Nat.pow_add] at g2
  have c1 : (4845873199050653696 : UInt64).toNat = 1076 * 2 ^ 52 := by decide +kernel
  have c1f : fnn (4845873199050653696 : UInt64) := by unfold fnn; decide +kernel
  have c2 : (4841369599423283200 : UInt64).toNat = 1075 * 2 ^ 52 := by decide +kernel
  have c2f : fnn (4841369599423283200 : UInt64) := by unfold fnn; decide +kernel
  obtain ⟨q, h1, h2, h3, h4⟩ := lp_inv (body := un3 fun (v14 : Int32) (v15 : Int64) (v16 : UInt64) =>
        if (1100 : Int32) ≤ v14 then (
         some (.inr (v16, v15))) else (
         if Op.cmpValue (FP.dcmp v16 (4845873199050653696 : UInt64)) CmpOp.l < 0 then (
          some (.inr (v16, v15))) else (
          nd (FP.dmul v16 (4602678819172646912 : UInt64)) fun (v41 : UInt64) =>
          lt1 (v15 + (1 : Int64)) fun (v42 : Int64) =>
          lt1 (v14 + Int32.ofInt (1)) fun (v43 : Int32) =>
          some (.inl (v43, v42, v41))))) (fun i s => s.1 = nI i ∧ s.2.1 = lN (1023 + i) ∧ fnn s.2.2 ∧ un s.2.2.toNat = F * 2 ^ (E + 51 - i)) (fun r => r.2 = lN (1023 + (E - 1023)) ∧ fnn r.1 ∧ un r.1.toNat = F * 2 ^ (E + 51 - (E - 1023))) (E - 1023) (fun i s hi ⟨q1, q2, q3, q4⟩ => by
      obtain ⟨k, ex, w⟩ := s
      dsimp only at q1 q2 q3 q4
      subst q1; subst q2
      dsimp only [un3]
      have hc := (cmp_n q3 c1f CmpOp.l).1
      rw [← un_lt, c1, un_pw (by decide), q4] at hc
      rw [if_neg (fun h => by have := (nI_leI (by decide) (by omega)).mp (show nI 1100 ≤ nI i from h); omega)]
      by_cases hlt : i < E - 1023
      · right
        have hF2 : 2 ^ 52 ≤ F := by omega
        obtain ⟨z1, z2⟩ := hlv_ex (v := w) (F := F) (k := E + 51 - (i + 1)) (by omega) (by omega) q3 (by rw [q4, pow_e (show E + 51 - i = E + 51 - (i + 1) + 1 by omega)])
        refine ⟨hlt, (nI (i + 1), lN (1023 + (i + 1)), FP.dmul w (4602678819172646912 : UInt64)), ?_, rfl, rfl, z1, z2⟩
        rw [if_neg (fun h => by have := (pow_lt_iff (j := 52) hF2 hF).mp (hc.mp h); omega), nd_t (n64_of z1), lt1_e, lt1_e, show nI i + Int32.ofInt 1 = nI (i + 1) from nI_1 i, show lN (1023 + i) + 1 = lN (1023 + (i + 1)) from lN_1 _]
      · left
        refine ⟨(w, lN (1023 + i)), ?_, by rw [show i = E - 1023 by omega], q3, by rw [q4, pow_e (show E + 51 - i = E + 51 - (E - 1023) by omega)]⟩
        rw [if_pos (hc.mpr (pow_lt_of (j := 53) hF (by omega)))]) (E - 1023) 4000 0 ((0 : Int32), (1023 : Int64), FP.dmul y (4841369599423283200 : UInt64)) (by omega) ⟨rfl, rfl, g1, by rw [g2, pow_e (show E - 1 + 52 = E + 51 - 0 by omega)]⟩ (by omega)
  rw [h1, Option.bind_some]
  obtain ⟨w1, ex1⟩ := q
  dsimp only at h2 h3 h4
  subst h2
  dsimp only [un2]
  obtain ⟨q, k1, k2, k3, k4⟩ := lp_inv (body := un3 fun (v25 : Int32) (v26 : UInt64) (v27 : Int64) =>
          if (1100 : Int32) ≤ v25 then (
           some (.inr (v26, v27))) else (
           if 0 ≤ Op.cmpValue (FP.dcmp v26 (4841369599423283200 : UInt64)) CmpOp.g then (
            some (.inr (v26, v27))) else (
            if lg_cmp v27 (1 : Int64) ≤ 0 then (
             some (.inr (v26, v27))) else (
             nd (FP.dmul v26 (4611686018427387904 : UInt64)) fun (v36 : UInt64) =>
             lt1 (v27 - (1 : Int64)) fun (v37 : Int64) =>
             lt1 (v25 + Int32.ofInt (1)) fun (v38 : Int32) =>
             some (.inl (v38, v36, v37)))))) (fun i s => s.1 = nI i ∧ s.2.2 = lN (1023 + (E - 1023) - i) ∧ fnn s.2.1 ∧ un s.2.1.toNat = F * 2 ^ (E + 51 - (E - 1023) + i)) (fun r => r.2 = lN E ∧ fnn r.1 ∧ un r.1.toNat = F * 2 ^ 1074) (1023 - E) (fun i s hi ⟨q1, q2, q3, q4⟩ => by
      obtain ⟨k, w, ex⟩ := s
      dsimp only at q1 q2 q3 q4
      subst q1; subst q2
      dsimp only [un3]
      have hc := (cmp_n q3 c2f CmpOp.g).2.2.2.1
      rw [← un_le, c2, un_pw (by decide), q4] at hc
      rw [if_neg (fun h => by have := (nI_leI (by decide) (by omega)).mp (show nI 1100 ≤ nI i from h); omega)]
      by_cases hlt : i < 1023 - E
      · right
        obtain ⟨z1, z2⟩ := dmul_up (x := w) (P := (4611686018427387904 : UInt64)) (j := 1) q3 (by decide +kernel) (by decide) (by
          rw [q4]; exact pow_lt_of (j := 53) hF (by omega))
        have e3 : E + 51 - (E - 1023) + i + 1 = E + 51 - (E - 1023) + (i + 1) := by omega
        refine ⟨hlt, (nI (i + 1), FP.dmul w (4611686018427387904 : UInt64), lN (1023 + (E - 1023) - (i + 1))), ?_, rfl, rfl, z1, by rw [z2, q4, Nat.mul_assoc, ← Nat.pow_add, pow_e e3]⟩
        rw [if_neg (fun h => by have := hc.mp h; have := pow_lt_of (F := F) (k := E + 51 - (E - 1023) + i) (j := 53) (n := 1075 + 51) hF (by omega); omega),
          if_neg (fun h => by have := (lN_leI (by omega) (by decide)).mp (show lN (1023 + (E - 1023) - i) ≤ lN 1 from (lg_cmp_le _ _).mp h); omega), nd_t (n64_of z1), lt1_e, lt1_e, show nI i + Int32.ofInt 1 = nI (i + 1) from nI_1 i]
        have e4 : lN (1023 + (E - 1023) - i) - (1 : Int64) = lN (1023 + (E - 1023) - (i + 1)) := by
          rw [show (1 : Int64) = lN 1 from rfl, lN_sub (by omega)]; exact congrArg lN (by omega)
        rw [e4]
      · left
        have e5 : un w.toNat = F * 2 ^ 1074 := by rw [q4, pow_e (show E + 51 - (E - 1023) + i = 1074 by omega)]
        refine ⟨(w, lN (1023 + (E - 1023) - i)), ?_, by rw [show 1023 + (E - 1023) - i = E by omega], q3, e5⟩
        rcases hN with hN | hN
        · rw [if_pos (hc.mpr ?_)]
          rw [pow_e (show E + 51 - (E - 1023) + i = 1074 by omega)]
          exact Nat.le_trans (Nat.le_of_eq (Nat.pow_add 2 52 1074)) (Nat.mul_le_mul_right _ hN)
        · rw [if_pos (show lg_cmp (lN (1023 + (E - 1023) - i)) 1 ≤ 0 from (lg_cmp_le _ _).mpr ((lN_leI (by omega) (by decide)).mpr (show 1023 + (E - 1023) - i ≤ 1 by omega))), ite_self]) (1023 - E) 4000 0 ((0 : Int32), w1, lN (1023 + (E - 1023))) (by omega) ⟨rfl, congrArg lN (Nat.sub_zero _).symm, h3, h4.trans (congrArg (F * ·) (pow_e (show E + 51 - (E - 1023) = E + 51 - (E - 1023) + 0 by omega)))⟩ (by omega)
  rw [k1, Option.bind_some]
  obtain ⟨w2, ex2⟩ := q
  dsimp only at k2 k3 k4
  subst k2
  dsimp only [un2]
  have e6 : lN E - (1 : Int64) = lN (E - 1) := by
    rw [show (1 : Int64) = lN 1 from rfl, lN_sub hE1]
  have e7 : lN (E - 1) <<< ((52 : Int32).toInt64 &&& 63) = lN ((E - 1) * 2 ^ 52) := wb_shl (E - 1) (k := 52) (by decide)
  rw [d2l_F (by omega) k4, e6, e7, lN_add, hFB]
theorem doubleBits_0 {x : UInt64} (h : x.toNat = 0) : fX7_doubleBits x = some x.toInt64 := by
  have hz : fnn FP.dconst0 := by unfold fnn; decide
  have hx : fnn x := by unfold fnn; rw [h]; decide
  unfold fX7_doubleBits
  rw [if_pos (((cmp_n hx hz CmpOp.l).2.2.1).mpr (by rw [h]; rfl)), ← lN_toInt64, h]
  rfl
theorem doubleBits_pos {x : UInt64} (h0 : x.toNat ≠ 0) (hx : x.toNat < 1800 * 2 ^ 52) : fX7_doubleBits x = some x.toInt64 := by
  have hz : fnn FP.dconst0 := by unfold fnn; decide
  have hxf : fnn x := pw_fnn hx (by decide)
  have hc := cmp_n hxf hz
  have hz0 : (FP.dconst0 : UInt64).toNat = 0 := rfl
  have h := db_core 0 x h0 hx
  unfold fX7_doubleBits
  rw [if_neg (fun q => h0 (((hc CmpOp.l).2.2.1).mp q)), jn_e, if_pos (((hc CmpOp.g).2.2.2.1).mpr (Nat.zero_le _))]
  dsimp only
  rw [jn_e, if_pos (((hc CmpOp.g).2.2.2.1).mpr (Nat.zero_le _))]
  refine h.trans ?_
  rw [← lN_toInt64]
  exact congrArg some (Int64.zero_or)
theorem neg_orL {n : Nat} (h : n < 2 ^ 63) : (-9223372036854775808 : Int64) ||| lN n = lN (2 ^ 63 + n) := by
  have e : (-9223372036854775808 : Int64) = lN (1 * 2 ^ 63) := by decide +kernel
  rw [e, g_or (k := 63) rfl h (by omega), Nat.one_mul]
theorem doubleBits_neg {x y : UInt64} (h0 : y.toNat ≠ 0) (hy : y.toNat < 1800 * 2 ^ 52) (h : x.toNat = 2 ^ 63 + y.toNat) : fX7_doubleBits x = some x.toInt64 := by
  have hz : FP.Core.val64 FP.dconst0 ≠ .nan := by decide +kernel
  have hyf : fnn y := pw_fnn hy (by decide)
  have hyb : y.toNat < 9218868437227405312 := hyf
  have hxn : FP.Core.val64 x = FP.Core.negate (FP.Core.val64 y) := FP.Core.val64_neg_bits (Or.inr (by omega))
  have hxnn : FP.Core.val64 x ≠ .nan := by rw [hxn]; exact FP.Core.negate_ne_nan (fnn_nn hyf)
  have hk : FP.Core.dkey x = -(y.toNat : Int) := by
    unfold FP.Core.dkey
    rw [if_pos (by omega), h]; omega
  have hk0 : FP.Core.dkey FP.dconst0 = 0 := by decide +kernel
  have hc : ¬ 0 ≤ Op.cmpValue (FP.dcmp x FP.dconst0) CmpOp.g := by
    rw [(cmp_k hxnn hz CmpOp.g).2.2.2.1, hk, hk0]; omega
  have hc0 : ¬ Op.cmpValue (FP.dcmp x FP.dconst0) CmpOp.l = 0 := by
    rw [(cmp_k hxnn hz CmpOp.l).2.2.1, hk, hk0]; omega
  have hd : FP.dneg x = y := eq_of_toNat (dneg_bits h (by omega))
  have h2 := db_core (-9223372036854775808) y h0 hy
  unfold fX7_doubleBits
  rw [if_neg hc0, jn_e, if_neg hc]
  dsimp only
  rw [jn_e, if_neg hc, hd]
  refine h2.trans ?_
  rw [← lN_toInt64, h, neg_orL (by omega)]
