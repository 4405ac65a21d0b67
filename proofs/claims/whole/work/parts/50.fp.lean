/-! Doubles that are not below 0, by their bits: where a result's bits lie. -/
abbrev dInf : Nat := 9218868437227405312
def fnn (x : UInt64) : Prop := x.toNat < dInf
def un (m : Nat) : Nat := FP.Core.unitsOf FP.Core.b64 m
theorem un_lt {m k : Nat} : un m < un k ↔ m < k := FP.Core.unitsOf_lt_iff
theorem un_le {m k : Nat} : un m ≤ un k ↔ m ≤ k := FP.Core.unitsOf_le_iff
theorem un_inj {m k : Nat} (h : un m = un k) : m = k := Nat.le_antisymm (un_le.mp (Nat.le_of_eq h)) (un_le.mp (Nat.le_of_eq h.symm))
theorem un_0 : un 0 = 0 := FP.Core.unitsOf_zero _
theorem un_z {m : Nat} : un m = 0 ↔ m = 0 := FP.Core.unitsOf_eq_zero
theorem un_lo {m : Nat} (h : m < 2 ^ 52) : un m = m := by
  unfold un FP.Core.unitsOf
  rw [FP.Core.tails_b64, if_pos h]
theorem un_hi {m : Nat} (h : 2 ^ 52 ≤ m) : un m = (2 ^ 52 + m % 2 ^ 52) * 2 ^ (m / 2 ^ 52 - 1) := by
  unfold un FP.Core.unitsOf
  rw [FP.Core.tails_b64, if_neg (by omega)]
theorem fnn_fin {x : UInt64} (h : fnn x) : ∃ c q, FP.Core.val64 x = .fin false c q ∧ FP.Core.fits FP.Core.b64 (.fin false c q) ∧ FP.Core.zmag FP.Core.b64 (.fin false c q) = un x.toNat := by
  have h : x.toNat < 9218868437227405312 := h
  have hm : FP.Core.mag FP.Core.b64 x.toNat = x.toNat := FP.Core.mag_of_lt (by rw [FP.Core.half_b64]; omega)
  obtain ⟨s, c, q, h1, h2, h3⟩ := FP.Core.fin_of_mag FP.Core.good_b64 (n := x.toNat) (by rw [hm, FP.Core.infBits_b64]; exact h)
  have hs : s = false := by
    have h4 := FP.Core.sgn_bits (a := x) (by show FP.Core.decode _ _ ≠ _; rw [h1]; exact FP.Core.Datum.noConfusion)
    have h5 : FP.Core.val64 x = .fin s c q := h1
    rw [h5] at h4
    have h6 : s = decide (2 ^ 63 ≤ x.toNat) := h4
    rw [h6, decide_eq_false]; omega
  subst hs
  rw [hm] at h3
  exact ⟨c, q, h1, h2, h3⟩
theorem fnn_nn {x : UInt64} (h : fnn x) : FP.Core.val64 x ≠ .nan := by
  obtain ⟨c, q, h1, -⟩ := fnn_fin h
  rw [h1]; exact FP.Core.Datum.noConfusion
/-- a rounded number, not below 0: its bits against m -/
theorem rr64 {a : UInt64} {A B : Nat} {e e0 : Int} (ha : FP.Core.val64 a = FP.Core.roundRatio FP.Core.b64 false A B e) (hB : 0 < B) (h0 : e0 ≤ -1074) (h0e : e0 ≤ e) :
    a.toNat < 2 ^ 63 ∧ (∀ m, FP.Core.inUnits A e e0 ≤ un m * 2 ^ (-1074 - e0).toNat * B → a.toNat ≤ m) ∧ (∀ m, m ≤ dInf → un m * 2 ^ (-1074 - e0).toNat * B ≤ FP.Core.inUnits A e e0 → m ≤ a.toNat) := by
  have hnn : FP.Core.val64 a ≠ .nan := by rw [ha]; exact FP.Core.roundRatio_ne_nan _ _ _ _ _
  have hs : a.toNat < 2 ^ 63 := by
    have h4 := FP.Core.sgn_bits hnn
    rw [ha, FP.Core.sgn_roundRatio] at h4
    have := decide_eq_false_iff_not.mp h4.symm
    omega
  have hm : FP.Core.mag FP.Core.b64 a.toNat = a.toNat := FP.Core.mag_of_lt (by rw [FP.Core.half_b64]; exact hs)
  refine ⟨hs, fun m h => ?_, fun m hm2 h => ?_⟩
  · have := FP.Core.mag_le FP.Core.good_b64 (n := a.toNat) (m := m) ha hB (by rw [FP.Core.qmin_b64]; exact h0) h0e (by rw [FP.Core.qmin_b64]; exact h)
    rwa [hm] at this
  · have := FP.Core.mag_ge FP.Core.good_b64 (n := a.toNat) (m := m) ha hB (by rw [FP.Core.qmin_b64]; exact h0) h0e (by rw [FP.Core.infBits_b64]; exact hm2) (by rw [FP.Core.qmin_b64]; exact h)
    rwa [hm] at this
theorem dmul_b {x y : UInt64} (hx : fnn x) (hy : fnn y) : (FP.dmul x y).toNat < 2 ^ 63 ∧ (∀ m, un x.toNat * un y.toNat ≤ un m * 2 ^ 1074 → (FP.dmul x y).toNat ≤ m) ∧ (∀ m, m ≤ dInf → un m * 2 ^ 1074 ≤ un x.toNat * un y.toNat → m ≤ (FP.dmul x y).toNat) := by
  obtain ⟨c, q, x1, x2, x3⟩ := fnn_fin hx
  obtain ⟨d, r, y1, y2, y3⟩ := fnn_fin hy
  obtain ⟨p1, p2, p3⟩ := FP.Core.product_units x2 y2
  rw [FP.Core.qmin_b64] at p2 p3
  have ha : FP.Core.val64 (FP.dmul x y) = FP.Core.roundRatio FP.Core.b64 false (c * d) 1 (q + r) := by
    show FP.Core.val64 (FP.Core.dmul x y) = _
    rw [FP.Core.val64_dmul, x1, y1, p1]; rfl
  have h := rr64 ha (by decide) (e0 := 2 * (-1074)) (by omega) p2
  rw [p3, x3, y3] at h
  simpa using h
theorem dadd_b {x y : UInt64} (hx : fnn x) (hy : fnn y) : (FP.dadd x y).toNat < 2 ^ 63 ∧ (∀ m, un x.toNat + un y.toNat ≤ un m → (FP.dadd x y).toNat ≤ m) ∧ (∀ m, m ≤ dInf → un m ≤ un x.toNat + un y.toNat → m ≤ (FP.dadd x y).toNat) := by
  obtain ⟨c, q, x1, x2, x3⟩ := fnn_fin hx
  obtain ⟨d, r, y1, y2, y3⟩ := fnn_fin hy
  obtain ⟨sg, n, e, p1, p2, p3⟩ := FP.Core.sum_units x2 y2
  have hz : FP.Core.zval FP.Core.b64 (.fin false c q) + FP.Core.zval FP.Core.b64 (.fin false d r) = ((un x.toNat + un y.toNat : Nat) : Int) := by
    rw [← x3, ← y3]; rfl
  have hsg : sg = false := by
    have h1 : FP.Core.sumSign false false (FP.Core.sumUnits false c q false d r (min q r)) = sg := by
      have := p1; unfold FP.Core.exactSum at this; cases this; rfl
    have h2 : 0 ≤ FP.Core.sumUnits false c q false d r (min q r) := by
      show (0 : Int) ≤ (FP.Core.inUnits c q (min q r) : Int) + (FP.Core.inUnits d r (min q r) : Int)
      omega
    rw [← h1]
    unfold FP.Core.sumSign
    split
    · rfl
    · exact decide_eq_false (by omega)
  subst hsg
  rw [hz] at p3
  have p4 : FP.Core.inUnits n e FP.Core.b64.qmin = un x.toNat + un y.toNat := by
    have : ((FP.Core.inUnits n e FP.Core.b64.qmin : Nat) : Int) = ((un x.toNat + un y.toNat : Nat) : Int) := p3
    exact_mod_cast this
  rw [FP.Core.qmin_b64] at p2 p4
  have ha : FP.Core.val64 (FP.dadd x y) = FP.Core.roundRatio FP.Core.b64 false n 1 e := by
    show FP.Core.val64 (FP.Core.dadd x y) = _
    rw [FP.Core.val64_dadd, x1, y1, p1]; rfl
  have h := rr64 ha (by decide) (e0 := -1074) (by omega) p2
  rw [p4] at h
  simpa using h
theorem dsub_b {x y : UInt64} (hx : fnn x) (hy : fnn y) (hxy : y.toNat ≤ x.toNat) : (FP.dsub x y).toNat < 2 ^ 63 ∧ (∀ m, un x.toNat ≤ un m + un y.toNat → (FP.dsub x y).toNat ≤ m) ∧ (∀ m, m ≤ dInf → un m + un y.toNat ≤ un x.toNat → m ≤ (FP.dsub x y).toNat) := by
  obtain ⟨c, q, x1, x2, x3⟩ := fnn_fin hx
  obtain ⟨d, r, y1, y2, y3⟩ := fnn_fin hy
  have y2' : FP.Core.fits FP.Core.b64 (.fin true d r) := y2
  obtain ⟨sg, n, e, p1, p2, p3⟩ := FP.Core.sum_units x2 y2'
  have hle := un_le.mpr hxy
  have hz : FP.Core.zval FP.Core.b64 (.fin false c q) + FP.Core.zval FP.Core.b64 (.fin true d r) = ((un x.toNat - un y.toNat : Nat) : Int) := by
    rw [Int.ofNat_sub hle, ← x3, ← y3]; rfl
  have hsg : sg = false := by
    have h1 : FP.Core.sumSign false true (FP.Core.sumUnits false c q true d r (min q r)) = sg := by
      have := p1; unfold FP.Core.exactSum at this; cases this; rfl
    have h3 : FP.Core.signed sg (FP.Core.inUnits n e FP.Core.b64.qmin) = ((un x.toNat - un y.toNat : Nat) : Int) := p3.trans hz
    rw [← h1]
    unfold FP.Core.sumSign
    split
    · rfl
    · rename_i hne
      refine decide_eq_false (fun hneg => ?_)
      have hst : sg = true := by rw [← h1]; unfold FP.Core.sumSign; rw [if_neg hne]; exact decide_eq_true hneg
      have hn : n = (FP.Core.sumUnits false c q true d r (min q r)).natAbs ∧ e = min q r := by
        have := p1; unfold FP.Core.exactSum at this; cases this; exact ⟨rfl, rfl⟩
      rw [hst] at h3
      have h4 : -((FP.Core.inUnits n e FP.Core.b64.qmin : Nat) : Int) = ((un x.toNat - un y.toNat : Nat) : Int) := h3
      have h5 : FP.Core.inUnits n e FP.Core.b64.qmin = 0 := by omega
      unfold FP.Core.inUnits at h5
      rcases Nat.mul_eq_zero.mp h5 with h6 | h6
      · rw [hn.1] at h6; exact hne (Int.natAbs_eq_zero.mp h6)
      · exact absurd h6 (Nat.pos_iff_ne_zero.mp (Nat.two_pow_pos _))
  subst hsg
  rw [hz] at p3
  have p4 : FP.Core.inUnits n e FP.Core.b64.qmin = un x.toNat - un y.toNat := by
    have : ((FP.Core.inUnits n e FP.Core.b64.qmin : Nat) : Int) = ((un x.toNat - un y.toNat : Nat) : Int) := p3
    exact_mod_cast this
  rw [FP.Core.qmin_b64] at p2 p4
  have ha : FP.Core.val64 (FP.dsub x y) = FP.Core.roundRatio FP.Core.b64 false n 1 e := by
    show FP.Core.val64 (FP.Core.dsub x y) = _
    rw [FP.Core.val64_dsub, x1, y1]
    show FP.Core.round _ (FP.Core.exactSum (.fin false c q) (.fin true d r)) = _
    rw [p1]; rfl
  have h := rr64 ha (by decide) (e0 := -1074) (by omega) p2
  rw [p4] at h
  refine ⟨h.1, fun m hm => h.2.1 m (by simp; omega), fun m h1 hm => h.2.2 m h1 (by simp; omega)⟩
theorem ddiv_b {x y : UInt64} (hx : fnn x) (hy : fnn y) (h0 : y.toNat ≠ 0) : (FP.ddiv x y).toNat < 2 ^ 63 ∧ (∀ m, un x.toNat * 2 ^ 1074 ≤ un m * un y.toNat → (FP.ddiv x y).toNat ≤ m) ∧ (∀ m, m ≤ dInf → un m * un y.toNat ≤ un x.toNat * 2 ^ 1074 → m ≤ (FP.ddiv x y).toNat) := by
  obtain ⟨c, q, x1, x2, x3⟩ := fnn_fin hx
  obtain ⟨d, r, y1, y2, y3⟩ := fnn_fin hy
  have hd0 : d ≠ 0 := by
    rintro rfl
    have h1 : FP.Core.zmag FP.Core.b64 (.fin false 0 r) = 0 := Nat.zero_mul _
    rw [h1] at y3
    exact h0 (un_z.mp y3.symm)
  have ha : FP.Core.val64 (FP.ddiv x y) = FP.Core.roundRatio FP.Core.b64 false c d (q - r) := by
    show FP.Core.val64 (FP.Core.ddiv x y) = _
    rw [FP.Core.val64_ddiv, x1, y1]
    simp only [FP.Core.quotient, if_neg hd0]; rfl
  have hx1 := x2.2.1
  have hy1 := y2.2.1
  rw [FP.Core.qmin_b64] at hx1 hy1
  have h := rr64 ha (by omega) (e0 := 2 * (-1074) - r) (by omega) (by omega)
  have e1 : FP.Core.inUnits c (q - r) (2 * (-1074) - r) = un x.toNat * 2 ^ 1074 := by
    rw [← x3]
    show c * _ = c * 2 ^ (q - FP.Core.b64.qmin).toNat * _
    rw [Nat.mul_assoc, ← Nat.pow_add, FP.Core.qmin_b64]; congr 2; omega
  have e2 : 2 ^ (-1074 - (2 * (-1074) - r)).toNat * d = un y.toNat := by
    rw [← y3]
    show _ = d * 2 ^ (r - FP.Core.b64.qmin).toNat
    rw [Nat.mul_comm, FP.Core.qmin_b64]; congr 2; omega
  rw [e1] at h
  refine ⟨h.1, fun m hm => h.2.1 m (by rw [Nat.mul_assoc, e2]; exact hm), fun m h1 hm => h.2.2 m h1 (by rw [Nat.mul_assoc, e2]; exact hm)⟩
theorem rr32 {a : UInt32} {A B : Nat} {e e0 : Int} (ha : FP.Core.val32 a = FP.Core.roundRatio FP.Core.b32 false A B e) (hB : 0 < B) (h0 : e0 ≤ -149) (h0e : e0 ≤ e) :
    a.toNat < 2 ^ 31 ∧ (∀ m, FP.Core.inUnits A e e0 ≤ FP.Core.unitsOf FP.Core.b32 m * 2 ^ (-149 - e0).toNat * B → a.toNat ≤ m) ∧ (∀ m, m ≤ 2139095040 → FP.Core.unitsOf FP.Core.b32 m * 2 ^ (-149 - e0).toNat * B ≤ FP.Core.inUnits A e e0 → m ≤ a.toNat) := by
  have hnn : FP.Core.val32 a ≠ .nan := by rw [ha]; exact FP.Core.roundRatio_ne_nan _ _ _ _ _
  have hs : a.toNat < 2 ^ 31 := by
    have h4 := FP.Core.sgn_bits32 hnn
    rw [ha, FP.Core.sgn_roundRatio] at h4
    have := decide_eq_false_iff_not.mp h4.symm
    omega
  have hm : FP.Core.mag FP.Core.b32 a.toNat = a.toNat := FP.Core.mag_of_lt (by rw [FP.Core.half_b32]; exact hs)
  refine ⟨hs, fun m h => ?_, fun m hm2 h => ?_⟩
  · have := FP.Core.mag_le FP.Core.good_b32 (n := a.toNat) (m := m) ha hB (by rw [FP.Core.qmin_b32]; exact h0) h0e (by rw [FP.Core.qmin_b32]; exact h)
    rwa [hm] at this
  · have := FP.Core.mag_ge FP.Core.good_b32 (n := a.toNat) (m := m) ha hB (by rw [FP.Core.qmin_b32]; exact h0) h0e (by rw [FP.Core.infBits_b32]; exact hm2) (by rw [FP.Core.qmin_b32]; exact h)
    rwa [hm] at this
def un32 (m : Nat) : Nat := FP.Core.unitsOf FP.Core.b32 m
theorem un32_lt {m k : Nat} : un32 m < un32 k ↔ m < k := FP.Core.unitsOf_lt_iff
theorem un32_le {m k : Nat} : un32 m ≤ un32 k ↔ m ≤ k := FP.Core.unitsOf_le_iff
theorem un32_0 : un32 0 = 0 := FP.Core.unitsOf_zero _
theorem un32_z {m : Nat} : un32 m = 0 ↔ m = 0 := FP.Core.unitsOf_eq_zero
theorem un32_lo {m : Nat} (h : m < 2 ^ 23) : un32 m = m := by
  unfold un32 FP.Core.unitsOf
  rw [FP.Core.tails_b32, if_pos h]
theorem un32_hi {m : Nat} (h : 2 ^ 23 ≤ m) : un32 m = (2 ^ 23 + m % 2 ^ 23) * 2 ^ (m / 2 ^ 23 - 1) := by
  unfold un32 FP.Core.unitsOf
  rw [FP.Core.tails_b32, if_neg (by omega)]
abbrev fInf : Nat := 2139095040
def ffn (x : UInt32) : Prop := x.toNat < fInf
theorem ffn_fin {x : UInt32} (h : ffn x) : ∃ c q, FP.Core.val32 x = .fin false c q ∧ FP.Core.fits FP.Core.b32 (.fin false c q) ∧ FP.Core.zmag FP.Core.b32 (.fin false c q) = un32 x.toNat := by
  have h : x.toNat < 2139095040 := h
  have hm : FP.Core.mag FP.Core.b32 x.toNat = x.toNat := FP.Core.mag_of_lt (by rw [FP.Core.half_b32]; omega)
  obtain ⟨s, c, q, h1, h2, h3⟩ := FP.Core.fin_of_mag FP.Core.good_b32 (n := x.toNat) (by rw [hm, FP.Core.infBits_b32]; exact h)
  have hs : s = false := by
    have h4 := FP.Core.sgn_bits32 (a := x) (by show FP.Core.decode _ _ ≠ _; rw [h1]; exact FP.Core.Datum.noConfusion)
    have h5 : FP.Core.val32 x = .fin s c q := h1
    rw [h5] at h4
    have h6 : s = decide (2 ^ 31 ≤ x.toNat) := h4
    rw [h6, decide_eq_false]; omega
  subst hs
  rw [hm] at h3
  exact ⟨c, q, h1, h2, h3⟩
theorem ffn_nn {x : UInt32} (h : ffn x) : FP.Core.val32 x ≠ .nan := by
  obtain ⟨c, q, h1, -⟩ := ffn_fin h
  rw [h1]; exact FP.Core.Datum.noConfusion
theorem f2d_core {x : UInt32} (h : FP.Core.val32 x ≠ .nan) : FP.f2d x = FP.Core.f2d x := by
  unfold FP.f2d
  rw [if_neg (by rw [(FP.Core.notNaN_iff32 x).mpr h]; decide)]
theorem d2f_core {x : UInt64} (h : FP.Core.val64 x ≠ .nan) : FP.d2f x = FP.Core.d2f x := by
  unfold FP.d2f
  rw [if_neg (by rw [(FP.Core.notNaN_iff x).mpr h]; decide)]
theorem f2d_b {x : UInt32} (hx : ffn x) : (FP.f2d x).toNat < 2 ^ 63 ∧ (∀ m, un32 x.toNat * 2 ^ 925 ≤ un m → (FP.f2d x).toNat ≤ m) ∧ (∀ m, m ≤ dInf → un m ≤ un32 x.toNat * 2 ^ 925 → m ≤ (FP.f2d x).toNat) := by
  obtain ⟨c, q, x1, x2, x3⟩ := ffn_fin hx
  have hq := x2.2.1
  rw [FP.Core.qmin_b32] at hq
  have ha : FP.Core.val64 (FP.f2d x) = FP.Core.roundRatio FP.Core.b64 false c 1 q := by
    rw [f2d_core (ffn_nn hx), FP.Core.val64_f2d, x1]; rfl
  have h := rr64 ha (by decide) (e0 := -1074) (by omega) (by omega)
  have e1 : FP.Core.inUnits c q (-1074) = un32 x.toNat * 2 ^ 925 := by
    rw [← x3]
    show c * _ = c * 2 ^ (q - FP.Core.b32.qmin).toNat * _
    rw [Nat.mul_assoc, ← Nat.pow_add, FP.Core.qmin_b32]; congr 2; omega
  rw [e1] at h
  refine ⟨h.1, fun m hm => h.2.1 m (by simpa using hm), fun m h1 hm => h.2.2 m h1 (by simpa using hm)⟩
theorem d2f_b {x : UInt64} (hx : fnn x) : (FP.d2f x).toNat < 2 ^ 31 ∧ (∀ m, un x.toNat ≤ un32 m * 2 ^ 925 → (FP.d2f x).toNat ≤ m) ∧ (∀ m, m ≤ fInf → un32 m * 2 ^ 925 ≤ un x.toNat → m ≤ (FP.d2f x).toNat) := by
  obtain ⟨c, q, x1, x2, x3⟩ := fnn_fin hx
  have hq := x2.2.1
  rw [FP.Core.qmin_b64] at hq
  have ha : FP.Core.val32 (FP.d2f x) = FP.Core.roundRatio FP.Core.b32 false c 1 q := by
    rw [d2f_core (fnn_nn hx), FP.Core.val32_d2f, x1]; rfl
  have h := rr32 ha (by decide) (e0 := -1074) (by omega) hq
  have e1 : FP.Core.inUnits c q (-1074) = un x.toNat := by
    rw [← x3]
    show c * _ = c * 2 ^ (q - FP.Core.b64.qmin).toNat
    rw [FP.Core.qmin_b64]
  rw [e1] at h
  refine ⟨h.1, fun m hm => h.2.1 m ?_, fun m h1 hm => h.2.2 m h1 ?_⟩
  · rw [Nat.mul_one]; exact hm
  · rw [Nat.mul_one]; exact hm
theorem i2d_b {x : Int32} (hx : 0 ≤ x.toInt) : (FP.i2d x).toNat < 2 ^ 63 ∧ (∀ m, x.toInt.toNat * 2 ^ 1074 ≤ un m → (FP.i2d x).toNat ≤ m) ∧ (∀ m, m ≤ dInf → un m ≤ x.toInt.toNat * 2 ^ 1074 → m ≤ (FP.i2d x).toNat) := by
  have ha : FP.Core.val64 (FP.i2d x) = FP.Core.roundRatio FP.Core.b64 false x.toInt.toNat 1 0 := by
    show FP.Core.val64 (FP.Core.i2d x) = _
    rw [FP.Core.val64_i2d]
    show FP.Core.roundRatio _ (decide (x.toInt < 0)) x.toInt.natAbs 1 0 = _
    rw [decide_eq_false (by omega), show x.toInt.natAbs = x.toInt.toNat by omega]
  have h := rr64 ha (by decide) (e0 := -1074) (by omega) (by omega)
  have e1 : FP.Core.inUnits x.toInt.toNat 0 (-1074) = x.toInt.toNat * 2 ^ 1074 := rfl
  rw [e1] at h
  refine ⟨h.1, fun m hm => h.2.1 m (by simpa using hm), fun m h1 hm => h.2.2 m h1 (by simpa using hm)⟩
theorem l2d_b {x : Int64} (hx : 0 ≤ x.toInt) : (FP.l2d x).toNat < 2 ^ 63 ∧ (∀ m, x.toInt.toNat * 2 ^ 1074 ≤ un m → (FP.l2d x).toNat ≤ m) ∧ (∀ m, m ≤ dInf → un m ≤ x.toInt.toNat * 2 ^ 1074 → m ≤ (FP.l2d x).toNat) := by
  have ha : FP.Core.val64 (FP.l2d x) = FP.Core.roundRatio FP.Core.b64 false x.toInt.toNat 1 0 := by
    show FP.Core.val64 (FP.Core.l2d x) = _
    rw [FP.Core.val64_l2d]
    show FP.Core.roundRatio _ (decide (x.toInt < 0)) x.toInt.natAbs 1 0 = _
    rw [decide_eq_false (by omega), show x.toInt.natAbs = x.toInt.toNat by omega]
  have h := rr64 ha (by decide) (e0 := -1074) (by omega) (by omega)
  have e1 : FP.Core.inUnits x.toInt.toNat 0 (-1074) = x.toInt.toNat * 2 ^ 1074 := rfl
  rw [e1] at h
  refine ⟨h.1, fun m hm => h.2.1 m (by simpa using hm), fun m h1 hm => h.2.2 m h1 (by simpa using hm)⟩
/-- every number of 53 digits is one of the format's -/
theorem un_rep : ∀ (k c : Nat), c < 2 ^ 53 → k ≤ 2045 → ∃ m, m < dInf ∧ un m = c * 2 ^ k
  | 0, c, hc, _ => by
    by_cases h : c < 2 ^ 52
    · exact ⟨c, by unfold dInf; omega, by rw [un_lo h]; omega⟩
    · refine ⟨2 ^ 52 + (c - 2 ^ 52), by unfold dInf; omega, ?_⟩
      rw [un_hi (by omega), show (2 ^ 52 + (c - 2 ^ 52)) % 2 ^ 52 = c - 2 ^ 52 by omega, show (2 ^ 52 + (c - 2 ^ 52)) / 2 ^ 52 = 1 by omega]
      omega
  | k + 1, c, hc, hk => by
    by_cases h : c < 2 ^ 52
    · obtain ⟨m, h1, h2⟩ := un_rep k (2 * c) (by omega) (by omega)
      exact ⟨m, h1, by rw [h2, Nat.pow_succ]; ac_rfl⟩
    · refine ⟨(k + 2) * 2 ^ 52 + (c - 2 ^ 52), by unfold dInf; omega, ?_⟩
      rw [un_hi (by omega), show ((k + 2) * 2 ^ 52 + (c - 2 ^ 52)) % 2 ^ 52 = c - 2 ^ 52 by omega, show ((k + 2) * 2 ^ 52 + (c - 2 ^ 52)) / 2 ^ 52 = k + 2 by omega]
      rw [show 2 ^ 52 + (c - 2 ^ 52) = c by omega]
      rfl
theorem dmul_ex {x y : UInt64} {m : Nat} (hx : fnn x) (hy : fnn y) (hm : m ≤ dInf) (h : un x.toNat * un y.toNat = un m * 2 ^ 1074) : (FP.dmul x y).toNat = m :=
  Nat.le_antisymm ((dmul_b hx hy).2.1 m (Nat.le_of_eq h)) ((dmul_b hx hy).2.2 m hm (Nat.le_of_eq h.symm))
theorem dadd_ex {x y : UInt64} {m : Nat} (hx : fnn x) (hy : fnn y) (hm : m ≤ dInf) (h : un x.toNat + un y.toNat = un m) : (FP.dadd x y).toNat = m :=
  Nat.le_antisymm ((dadd_b hx hy).2.1 m (Nat.le_of_eq h)) ((dadd_b hx hy).2.2 m hm (Nat.le_of_eq h.symm))
theorem ddiv_ex {x y : UInt64} {m : Nat} (hx : fnn x) (hy : fnn y) (h0 : y.toNat ≠ 0) (hm : m ≤ dInf) (h : un x.toNat * 2 ^ 1074 = un m * un y.toNat) : (FP.ddiv x y).toNat = m :=
  Nat.le_antisymm ((ddiv_b hx hy h0).2.1 m (Nat.le_of_eq h)) ((ddiv_b hx hy h0).2.2 m hm (Nat.le_of_eq h.symm))
theorem f2d_un {x : UInt32} (hx : ffn x) : fnn (FP.f2d x) ∧ un (FP.f2d x).toNat = un32 x.toNat * 2 ^ 925 := by
  have key : ∃ m, m < dInf ∧ un m = un32 x.toNat * 2 ^ 925 := by
    have hx : x.toNat < 2139095040 := hx
    by_cases h : x.toNat < 2 ^ 23
    · rw [un32_lo h]; exact un_rep 925 _ (by omega) (by decide)
    · rw [un32_hi (by omega), Nat.mul_assoc, ← Nat.pow_add]
      exact un_rep _ _ (by omega) (by omega)
  obtain ⟨m, h1, h2⟩ := key
  have e : (FP.f2d x).toNat = m := Nat.le_antisymm ((f2d_b hx).2.1 m (Nat.le_of_eq h2.symm)) ((f2d_b hx).2.2 m (Nat.le_of_lt h1) (Nat.le_of_eq h2))
  refine ⟨by unfold fnn; rw [e]; exact h1, by rw [e, h2]⟩
theorem int_rep {n : Nat} (h : n ≤ 2 ^ 53) : ∃ m, m < dInf ∧ un m = n * 2 ^ 1074 := by
  by_cases h2 : n < 2 ^ 53
  · exact un_rep 1074 n h2 (by decide)
  · obtain ⟨m, h3, h4⟩ := un_rep 1075 (2 ^ 52) (by decide) (by decide)
    exact ⟨m, h3, by rw [h4, show n = 2 ^ 53 by omega, ← Nat.pow_add, ← Nat.pow_add]⟩
theorem i2d_un {x : Int32} (hx : 0 ≤ x.toInt) : fnn (FP.i2d x) ∧ un (FP.i2d x).toNat = x.toInt.toNat * 2 ^ 1074 := by
  have hb := FP.Core.int32_abs x
  obtain ⟨m, h1, h2⟩ := int_rep (n := x.toInt.toNat) (by omega)
  have e : (FP.i2d x).toNat = m := Nat.le_antisymm ((i2d_b hx).2.1 m (Nat.le_of_eq h2.symm)) ((i2d_b hx).2.2 m (Nat.le_of_lt h1) (Nat.le_of_eq h2))
  exact ⟨by unfold fnn; rw [e]; exact h1, by rw [e, h2]⟩
theorem l2d_un {x : Int64} (hx : 0 ≤ x.toInt) (hb : x.toInt ≤ 2 ^ 53) : fnn (FP.l2d x) ∧ un (FP.l2d x).toNat = x.toInt.toNat * 2 ^ 1074 := by
  obtain ⟨m, h1, h2⟩ := int_rep (n := x.toInt.toNat) (by omega)
  have e : (FP.l2d x).toNat = m := Nat.le_antisymm ((l2d_b hx).2.1 m (Nat.le_of_eq h2.symm)) ((l2d_b hx).2.2 m (Nat.le_of_lt h1) (Nat.le_of_eq h2))
  exact ⟨by unfold fnn; rw [e]; exact h1, by rw [e, h2]⟩
theorem n64 {x : UInt64} : vf_n64 x ↔ x.toNat % 2 ^ 63 ≤ dInf := by
  unfold vf_n64
  rw [UInt64.le_iff_toNat_le, FP.Core.mask_toNat]
  rfl
theorem n64_of {x : UInt64} (h : fnn x) : vf_n64 x := by
  have h : x.toNat < 9218868437227405312 := h
  rw [n64]; unfold dInf; omega
theorem n32 {x : UInt32} : vf_n32 x ↔ x.toNat % 2 ^ 31 ≤ fInf := by
  unfold vf_n32
  rw [UInt32.le_iff_toNat_le, FP.Core.mask_toNat32]
  rfl
theorem n32_of {x : UInt32} (h : ffn x) : vf_n32 x := by
  have h : x.toNat < 2139095040 := h
  rw [n32]; unfold fInf; omega
theorem dkey_nn {x : UInt64} (h : x.toNat < 2 ^ 63) : FP.Core.dkey x = x.toNat := by
  unfold FP.Core.dkey
  rw [if_neg (by omega)]
theorem cmp_lt (op : CmpOp) : Op.cmpValue (some .lt) op = -1 := by cases op <;> rfl
theorem cmp_eq (op : CmpOp) : Op.cmpValue (some .eq) op = 0 := by cases op <;> rfl
theorem cmp_gt (op : CmpOp) : Op.cmpValue (some .gt) op = 1 := by cases op <;> rfl
theorem cmp_int {a b : Int} (op : CmpOp) : (Op.cmpValue (some (compare a b)) op < 0 ↔ a < b) ∧ (0 < Op.cmpValue (some (compare a b)) op ↔ b < a) ∧ (Op.cmpValue (some (compare a b)) op = 0 ↔ a = b) ∧ (0 ≤ Op.cmpValue (some (compare a b)) op ↔ b ≤ a) ∧ (Op.cmpValue (some (compare a b)) op ≤ 0 ↔ a ≤ b) := by
  have f1 : ¬ ((-1 : Int32) = 0) := by decide
  have f2 : ¬ ((1 : Int32) = 0) := by decide
  have f3 : (-1 : Int32) < 0 := by decide
  have f4 : ¬ (0 < (-1 : Int32)) := by decide
  have f5 : ¬ ((1 : Int32) < 0) := by decide
  have f6 : (0 : Int32) < 1 := by decide
  have f7 : ¬ ((0 : Int32) < 0) := by decide
  have f8 : ¬ (0 ≤ (-1 : Int32)) := by decide
  have f9 : (-1 : Int32) ≤ 0 := by decide
  have f10 : ¬ ((1 : Int32) ≤ 0) := by decide
  have f11 : (0 : Int32) ≤ 1 := by decide
  have f12 : (0 : Int32) ≤ 0 := by decide
  rcases Int.lt_trichotomy a b with q | q | q
  · rw [(FP.Core.compare_lt_iff _ _).mpr q, cmp_lt]
    simp only [f1, f3, f4, f8, f9, true_iff, false_iff]; omega
  · rw [(FP.Core.compare_eq_iff _ _).mpr q, cmp_eq]
    simp only [f7, f12, true_iff, false_iff]; omega
  · rw [(FP.Core.compare_gt_iff _ _).mpr q, cmp_gt]
    simp only [f2, f5, f6, f10, f11, true_iff, false_iff]; omega
/-- comparing doubles that are no NaN: by the key -/
theorem cmp_k {x y : UInt64} (hx : FP.Core.val64 x ≠ .nan) (hy : FP.Core.val64 y ≠ .nan) (op : CmpOp) : (Op.cmpValue (FP.dcmp x y) op < 0 ↔ FP.Core.dkey x < FP.Core.dkey y) ∧ (0 < Op.cmpValue (FP.dcmp x y) op ↔ FP.Core.dkey y < FP.Core.dkey x) ∧ (Op.cmpValue (FP.dcmp x y) op = 0 ↔ FP.Core.dkey x = FP.Core.dkey y) ∧ (0 ≤ Op.cmpValue (FP.dcmp x y) op ↔ FP.Core.dkey y ≤ FP.Core.dkey x) ∧ (Op.cmpValue (FP.dcmp x y) op ≤ 0 ↔ FP.Core.dkey x ≤ FP.Core.dkey y) := by
  rw [show FP.dcmp x y = some (compare (FP.Core.dkey x) (FP.Core.dkey y)) from FP.Core.dcmp_key hx hy]
  exact cmp_int op
/-- .. and of such as are not below 0: by the bits -/
theorem cmp_n {x y : UInt64} (hx : fnn x) (hy : fnn y) (op : CmpOp) : (Op.cmpValue (FP.dcmp x y) op < 0 ↔ x.toNat < y.toNat) ∧ (0 < Op.cmpValue (FP.dcmp x y) op ↔ y.toNat < x.toNat) ∧ (Op.cmpValue (FP.dcmp x y) op = 0 ↔ x.toNat = y.toNat) ∧ (0 ≤ Op.cmpValue (FP.dcmp x y) op ↔ y.toNat ≤ x.toNat) ∧ (Op.cmpValue (FP.dcmp x y) op ≤ 0 ↔ x.toNat ≤ y.toNat) := by
  have h := cmp_k (fnn_nn hx) (fnn_nn hy) op
  have hx : x.toNat < 9218868437227405312 := hx
  have hy : y.toNat < 9218868437227405312 := hy
  rw [dkey_nn (by omega), dkey_nn (by omega)] at h
  refine ⟨h.1.trans ?_, h.2.1.trans ?_, h.2.2.1.trans ?_, h.2.2.2.1.trans ?_, h.2.2.2.2.trans ?_⟩ <;> omega
theorem fkey_nn {x : UInt32} (h : x.toNat < 2 ^ 31) : FP.Core.fkey x = x.toNat := by
  unfold FP.Core.fkey
  rw [if_neg (by omega)]
theorem cmp_f {x y : UInt32} (hx : ffn x) (hy : ffn y) (op : CmpOp) : (Op.cmpValue (FP.fcmp x y) op = 0 ↔ x.toNat = y.toNat) := by
  have h := (cmp_int (a := FP.Core.fkey x) (b := FP.Core.fkey y) op).2.2.1
  rw [← show FP.fcmp x y = some (compare (FP.Core.fkey x) (FP.Core.fkey y)) from FP.Core.fcmp_key (ffn_nn hx) (ffn_nn hy)] at h
  have hx : x.toNat < 2139095040 := hx
  have hy : y.toNat < 2139095040 := hy
  rw [fkey_nn (by omega), fkey_nn (by omega)] at h
  exact h.trans (by omega)
/-! bounds by the power of two: pw K x: x is at least 0 and less than the number with the bits K * 2 ^ 52 -/
def pw (K : Nat) (x : UInt64) : Prop := x.toNat < K * 2 ^ 52
theorem pw_fnn {K : Nat} {x : UInt64} (h : pw K x) (hK : K ≤ 2047) : fnn x := by
  exact Nat.lt_of_lt_of_le h (Nat.le_trans (Nat.mul_le_mul_right (2 ^ 52) hK) (Nat.le_of_ble_eq_true rfl))
theorem pw_mono {K L : Nat} {x : UInt64} (h : pw K x) (hK : K ≤ L) : pw L x := by
  exact Nat.lt_of_lt_of_le h (Nat.mul_le_mul_right (2 ^ 52) hK)
theorem un_pw {K : Nat} (hK : 1 ≤ K) : un (K * 2 ^ 52) = 2 ^ (K + 51) := by
  have h := FP.Core.unitsOf_start (f := FP.Core.b64) hK
  rw [FP.Core.tails_b64] at h
  show FP.Core.unitsOf FP.Core.b64 (K * 2 ^ 52) = _
  rw [h, ← Nat.pow_add]
  congr 1; omega
theorem pw_un {K : Nat} {x : UInt64} (h : pw K x) (hK : 1 ≤ K) : un x.toNat < 2 ^ (K + 51) := by
  rw [← un_pw hK]; exact un_lt.mpr h
theorem pw_of_un {K : Nat} {x : UInt64} (h : un x.toNat < 2 ^ (K + 51)) (hK : 1 ≤ K) : pw K x := by
  rw [← un_pw hK] at h; exact un_lt.mp h
theorem dmul_pw {x y : UInt64} {K L : Nat} (hx : pw K x) (hy : pw L y) (hK : 1 ≤ K) (hL : 1 ≤ L) (hKL : 1024 ≤ K + L) (hK2 : K ≤ 2047) (hL2 : L ≤ 2047) (hs : K + L ≤ 3069) : pw (K + L - 1022) (FP.dmul x y) := by
  have hx1 := pw_fnn hx hK2
  have hy1 := pw_fnn hy hL2
  have h := (dmul_b hx1 hy1).2.1 ((K + L - 1023) * 2 ^ 52) (by
    rw [un_pw (by omega), ← Nat.pow_add]
    have h1 := pw_un hx hK
    have h2 := pw_un hy hL
    calc un x.toNat * un y.toNat ≤ 2 ^ (K + 51) * 2 ^ (L + 51) := Nat.mul_le_mul (Nat.le_of_lt h1) (Nat.le_of_lt h2)
      _ = 2 ^ (K + 51 + (L + 51)) := (Nat.pow_add ..).symm
      _ ≤ 2 ^ (K + L - 1023 + 51 + 1074) := Nat.pow_le_pow_right (by decide) (by omega))
  unfold pw
  omega
theorem dadd_pw {x y : UInt64} {K : Nat} (hx : pw K x) (hy : pw K y) (hK : 1 ≤ K) (hK2 : K ≤ 2045) : pw (K + 2) (FP.dadd x y) := by
  have h := (dadd_b (pw_fnn hx (by omega)) (pw_fnn hy (by omega))).2.1 ((K + 1) * 2 ^ 52) (by
    rw [un_pw (by omega), show K + 1 + 51 = K + 51 + 1 by omega, Nat.pow_succ]
    have h1 := pw_un hx hK
    have h2 := pw_un hy hK
    omega)
  unfold pw
  omega
theorem ddiv_pw {x y : UInt64} {K L : Nat} (hx : pw K x) (hy : fnn y) (hL : L * 2 ^ 52 ≤ y.toNat) (hK : 1 ≤ K) (hL1 : 1 ≤ L) (hK2 : K ≤ 2047) (hKL : L ≤ K + 1022) (hs : K ≤ L + 1022) : pw (K + 1024 - L) (FP.ddiv x y) := by
  have h := (ddiv_b (pw_fnn hx hK2) hy (by omega)).2.1 ((K + 1023 - L) * 2 ^ 52) (by
    rw [un_pw (by omega)]
    have h1 := pw_un hx hK
    have h2 : 2 ^ (L + 51) ≤ un y.toNat := by rw [← un_pw hL1]; exact un_le.mpr hL
    calc un x.toNat * 2 ^ 1074 ≤ 2 ^ (K + 51) * 2 ^ 1074 := Nat.mul_le_mul_right _ (Nat.le_of_lt h1)
      _ = 2 ^ (K + 1023 - L + 51) * 2 ^ (L + 51) := by rw [← Nat.pow_add, ← Nat.pow_add]; congr 1; omega
      _ ≤ _ := Nat.mul_le_mul_left _ h2)
  unfold pw
  omega
