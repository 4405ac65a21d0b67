/-! Doubles that are not below 0, by their bits: where a result's bits lie. -/
abbrev dInf : Nat := 9218868437227405312
def fnn (x : UInt64) : Prop := x.toNat < dInf
def un (m : Nat) : Nat := FP.Core.unitsOf FP.Core.b64 m
theorem un_lt {m k : Nat} : un m < un k ↔ m < k := FP.Core.unitsOf_lt_iff
theorem un_le {m k : Nat} : un m ≤ un k ↔ m ≤ k := FP.Core.unitsOf_le_iff
theorem un_inj {m k : Nat} (h : un m = un k) : m = k := Nat.le_antisymm (un_le.mp (Nat.le_of_eq h)) (un_le.mp (Nat.le_of_eq h.symm))
theorem un_0 : un 0 = 0 := FP.Core.unitsOf_zero _
theorem un_z {m : Nat} : un m = 0 ↔ m = 0 := FP.Core.unitsOf_eq_zero
theorem un_lo {m : Nat} (h : m < 2 ^ 52) : un m = m := by
  unfold un FP.Core.unitsOf
  rw [FP.Core.tails_b64, if_pos h]
theorem un_hi {m : Nat} (h : 2 ^ 52 ≤ m) : un m = (2 ^ 52 + m % 2 ^ 52) * 2 ^ (m / 2 ^ 52 - 1) := by
  unfold un FP.Core.unitsOf
  rw [FP.Core.tails_b64, if_neg (by omega)]
theorem fnn_fin {x : UInt64} (h : fnn x) : ∃ c q, FP.Core.val64 x = .fin false c q ∧ FP.Core.fits FP.Core.b64 (.fin false c q) ∧ FP.Core.zmag FP.Core.b64 (.fin false c q) = un x.toNat := by
  have h : x.toNat < 9218868437227405312 := h
  have hm : FP.Core.mag FP.Core.b64 x.toNat = x.toNat := FP.Core.mag_of_lt (by rw [FP.Core.half_b64]; omega)
  obtain ⟨s, c, q, h1, h2, h3⟩ := FP.Core.fin_of_mag FP.Core.good_b64 (n := x.toNat) (by rw [hm, FP.Core.infBits_b64]; exact h)
  have hs : s = false := by
    have h4 := FP.Core.sgn_bits (a := x) (by show FP.Core.decode _ _ ≠ _; rw [h1]; exact FP.Core.Datum.noConfusion)
    have h5 : FP.Core.val64 x = .fin s c q := h1
    rw [h5] at h4
    have h6 : s = decide (2 ^ 63 ≤ x.toNat) := h4
    rw [h6, decide_eq_false]; omega
  subst hs
  rw [hm] at h3
  exact ⟨c, q, h1, h2, h3⟩
theorem fnn_nn {x : UInt64} (h : fnn x) : FP.Core.val64 x ≠ .nan := by
  obtain ⟨c, q, h1, -⟩ := fnn_fin h
  rw [h1]; exact FP.Core.Datum.noConfusion
/-- a rounded number, not below 0: its bits against m -/
theorem rr64 {a : UInt64} {A B : Nat} {e e0 : Int} (ha : FP.Core.val64 a = FP.Core.roundRatio FP.Core.b64 false A B e) (hB : 0 < B) (h0 : e0 ≤ -1074) (h0e : e0 ≤ e) :
    a.toNat < 2 ^ 63 ∧ (∀ m, FP.Core.inUnits A e e0 ≤ un m * 2 ^ (-1074 - e0).toNat * B → a.toNat ≤ m) ∧ (∀ m, m ≤ dInf → un m * 2 ^ (-1074 - e0).toNat * B ≤ FP.Core.inUnits A e e0 → m ≤ a.toNat) := by
  have hnn : FP.Core.val64 a ≠ .nan := by rw [ha]; exact FP.Core.roundRatio_ne_nan _ _ _ _ _
  have hs : a.toNat < 2 ^ 63 := by
    have h4 := FP.Core.sgn_bits hnn
    rw [ha, FP.Core.sgn_roundRatio] at h4
    have := decide_eq_false_iff_not.mp h4.symm
    omega
  have hm : FP.Core.mag FP.Core.b64 a.toNat = a.toNat := FP.Core.mag_of_lt (by rw [FP.Core.half_b64]; exact hs)
  refine ⟨hs, fun m h => ?_, fun m hm2 h => ?_⟩
  · have := FP.Core.mag_le FP.Core.good_b64 (n := a.toNat) (m := m) ha hB (by rw [FP.Core.qmin_b64]; exact h0) h0e (by rw [FP.Core.qmin_b64]; exact h)
    rwa [hm] at this
  · have := FP.Core.mag_ge FP.Core.good_b64 (n := a.toNat) (m := m) ha hB (by rw [FP.Core.qmin_b64]; exact h0) h0e (by rw [FP.Core.infBits_b64]; exact hm2) (by rw [FP.Core.qmin_b64]; exact h)
    rwa [hm] at this
theorem dmul_b {x y : UInt64} (hx : fnn x) (hy : fnn y) : (FP.dmul x y).toNat < 2 ^ 63 ∧ (∀ m, un x.toNat * un y.toNat ≤ un m * 2 ^ 1074 → (FP.dmul x y).toNat ≤ m) ∧ (∀ m, m ≤ dInf → un m * 2 ^ 1074 ≤ un x.toNat * un y.toNat → m ≤ (FP.dmul x y).toNat) := by
  obtain ⟨c, q, x1, x2, x3⟩ := fnn_fin hx
  obtain ⟨d, r, y1, y2, y3⟩ := fnn_fin hy
  obtain ⟨p1, p2, p3⟩ := FP.Core.product_units x2 y2
  rw [FP.Core.qmin_b64] at p2 p3
  have ha : FP.Core.val64 (FP.dmul x y) = FP.Core.roundRatio FP.Core.b64 false (c * d) 1 (q + r) := by
    show FP.Core.val64 (FP.Core.dmul x y) = _
    rw [FP.Core.val64_dmul, x1, y1, p1]; rfl
  have h := rr64 ha (by decide) (e0 := 2 * (-1074)) (by omega) p2
  rw [p3, x3, y3] at h
  simpa using h
theorem dadd_b {x y : UInt64} (hx : fnn x) (hy : fnn y) : (FP.dadd x y).toNat < 2 ^ 63 ∧ (∀ m, un x.toNat + un y.toNat ≤ un m → (FP.dadd x y).toNat ≤ m) ∧ (∀ m, m ≤ dInf → un m ≤ un x.toNat + un y.toNat → m ≤ (FP.dadd x y).toNat) := by
  obtain ⟨c, q, x1, x2, x3⟩ := fnn_fin hx
  obtain ⟨d, r, y1, y2, y3⟩ := fnn_fin hy
  obtain ⟨sg, n, e, p1, p2, p3⟩ := FP.Core.sum_units x2 y2
  have hz : FP.Core.zval FP.Core.b64 (.fin false c q) + FP.Core.zval FP.Core.b64 (.fin false d r) = ((un x.toNat + un y.toNat : Nat) : Int) := by
    rw [← x3, ← y3]; rfl
  have hsg : sg = false := by
    have h1 : FP.Core.sumSign false false (FP.Core.sumUnits false c q false d r (min q r)) = sg := by
      have := p1; unfold FP.Core.exactSum at this; cases this; rfl
    have h2 : 0 ≤ FP.Core.sumUnits false c q false d r (min q r) := by
      show (0 : Int) ≤ (FP.Core.inUnits c q (min q r) : Int) + (FP.Core.inUnits d r (min q r) : Int)
      omega
    rw [← h1]
    unfold FP.Core.sumSign
    split
    · rfl
    · exact decide_eq_false (by omega)
  subst hsg
  rw [hz] at p3
  have p4 : FP.Core.inUnits n e FP.Core.b64.qmin = un x.toNat + un y.toNat := by
    have : ((FP.Core.inUnits n e FP.Core.b64.qmin : Nat) : Int) = ((un x.toNat + un y.toNat : Nat) : Int) := p3
    exact_mod_cast this
  rw [FP.Core.qmin_b64] at p2 p4
  have ha : FP.Core.val64 (FP.dadd x y) = FP.Core.roundRatio FP.Core.b64 false n 1 e := by
    show FP.Core.val64 (FP.Core.dadd x y) = _
    rw [FP.Core.val64_dadd, x1, y1, p1]; rfl
  have h := rr64 ha (by decide) (e0 := -1074) (by omega) p2
  rw [p4] at h
  simpa using h
theorem dsub_b {x y : UInt64} (hx : fnn x) (hy : fnn y) (hxy : y.toNat ≤ x.toNat) : (FP.dsub x y).toNat < 2 ^ 63 ∧ (∀ m, un x.toNat ≤ un m + un y.toNat → (FP.dsub x y).toNat ≤ m) ∧ (∀ m, m ≤ dInf → un m + un y.toNat ≤ un x.toNat → m ≤ (FP.dsub x y).toNat) := by
  obtain ⟨c, q, x1, x2, x3⟩ := fnn_fin hx
  obtain ⟨d, r, y1, y2, y3⟩ := fnn_fin hy
  have y2' : FP.Core.fits FP.Core.b64 (.fin true d r) := y2
  obtain ⟨sg, n, e, p1, p2, p3⟩ := FP.Core.sum_units x2 y2'
  have hle := un_le.mpr hxy
  have hz : FP.Core.zval FP.Core.b64 (.fin false c q) + FP.Core.zval FP.Core.b64 (.fin true d r) = ((un x.toNat - un y.toNat : Nat) : Int) := by
    rw [Int.ofNat_sub hle, ← x3, ← y3]; rfl
  have hsg : sg = false := by
    have h1 : FP.Core.sumSign false true (FP.Core.sumUnits false c q true d r (min q r)) = sg := by
      have := p1; unfold FP.Core.exactSum at this; cases this; rfl
    have h3 : FP.Core.signed sg (FP.Core.inUnits n e FP.Core.b64.qmin) = ((un x.toNat - un y.toNat : Nat) : Int) := p3.trans hz
    rw [← h1]
    unfold FP.Core.sumSign
    split
    · rfl
    · rename_i hne
      refine decide_eq_false (fun hneg => ?_)
      have hst : sg = true := by rw [← h1]; unfold FP.Core.sumSign; rw [if_neg hne]; exact decide_eq_true hneg
      have hn : n = (FP.Core.sumUnits false c q true d r (min q r)).natAbs ∧ e = min q r := by
        have := p1; unfold FP.Core.exactSum at this; cases this; exact ⟨rfl, rfl⟩
      rw [hst] at h3
      have h4 : -((FP.Core.inUnits n e FP.Core.b64.qmin : Nat) : Int) = ((un x.toNat - un y.toNat : Nat) : Int) := h3
      have h5 : FP.Core.inUnits n e FP.Core.b64.qmin = 0 := by omega
      unfold FP.Core.inUnits at h5
      rcases Nat.mul_eq_zero.mp h5 with h6 | h6
      · rw [hn.1] at h6; exact hne (Int.natAbs_eq_zero.mp h6)
      · exact absurd h6 (Nat.pos_iff_ne_zero.mp (Nat.two_pow_pos _))
  subst hsg
  rw [hz] at p3
  have p4 : FP.Core.inUnits n e FP.Core.b64.qmin = un x.toNat - un y.toNat := by
    have : ((FP.Core.inUnits n e FP.Core.b64.qmin : Nat) : Int) = ((un x.toNat - un y.toNat : Nat) : Int) := p3
    exact_mod_cast this
  rw [FP.Core.qmin_b64] at p2 p4
  have ha : FP.Core.val64 (FP.dsub x y) = FP.Core.roundRatio FP.Core.b64 false n 1 e := by
    show FP.Core.val64 (FP.Core.dsub x y) = _
    rw [FP.Core.val64_dsub, x1, y1]
    show FP.Core.round _ (FP.Core.exactSum (.fin false c q) (.fin true d r)) = _
    rw [p1]; rfl
  have h := rr64 ha (by decide) (e0 := -1074) (by omega) p2
  rw [p4] at h
  refine ⟨h.1, fun m hm => h.2.1 m (by simp; omega), fun m h1 hm => h.2.2 m h1 (by simp; omega)⟩
theorem ddiv_b {x y : UInt64} (hx : fnn x) (hy : fnn y) (h0 : y.toNat ≠ 0) : (FP.ddiv x y).toNat < 2 ^ 63 ∧ (∀ m, un x.toNat * 2 ^ 1074 ≤ un m * un y.toNat → (FP.ddiv x y).toNat ≤ m) ∧ (∀ m, m ≤ dInf → un m * un y.toNat ≤ un x.toNat * 2 ^ 1074 → m ≤ (FP.ddiv x y).toNat) := by
  obtain ⟨c, q, x1, x2, x3⟩ := fnn_fin hx
  obtain ⟨d, r, y1, y2, y3⟩ := fnn_fin hy
  have hd0 : d ≠ 0 := by
    rintro rfl
    have h1 : FP.Core.zmag FP.Core.b64 (.fin false 0 r) = 0 := Nat.zero_mul _
    rw [h1] at y3
    exact h0 (un_z.mp y3.symm)
  have ha : FP.Core.val64 (FP.ddiv x y) = FP.Core.roundRatio FP.Core.b64 false c d (q - r) := by
    show FP.Core.val64 (FP.Core.ddiv x y) = _
    rw [FP.Core.val64_ddiv, x1, y1]
    simp only [FP.Core.quotient, if_neg hd0]; rfl
  have hx1 := x2.2.1
  have hy1 := y2.2.1
  rw [FP.Core.qmin_b64] at hx1 hy1
  have h := rr64 ha (by omega) (e0 := 2 * (-1074) - r) (by omega) (by omega)
  have e1 : FP.Core.inUnits c (q - r) (2 * (-1074) - r) = un x.toNat * 2 ^ 1074 := by
    rw [← x3]
    show c * _ = c * 2 ^ (q - FP.Core.b64.qmin).toNat * _
    rw [Nat.mul_assoc, ← Nat.pow_add, FP.Core.qmin_b64]; congr 2; omega
  have e2 : 2 ^ (-1074 - (2 * (-1074) - r)).toNat * d = un y.toNat := by
    rw [← y3]
    show _ = d * 2 ^ (r - FP.Core.b64.qmin).toNat
    rw [Nat.mul_comm, FP.Core.qmin_b64]; congr 2; omega
  rw [e1] at h
  refine ⟨h.1, fun m hm => h.2.1 m (by rw [Nat.mul_assoc, e2]; exact hm), fun m h1 hm => h.2.2 m h1 (by rw [Nat.mul_assoc, e2]; exact hm)⟩
