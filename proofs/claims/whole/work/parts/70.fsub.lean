/-! ===== floats' differences ===== -/
theorem fsub_b {x y : UInt32} (hx : ffn x) (hy : ffn y) (hxy : y.toNat ≤ x.toNat) : (FP.fsub x y).toNat < 2 ^ 31 ∧ (∀ m, un32 x.toNat ≤ un32 m + un32 y.toNat → (FP.fsub x y).toNat ≤ m) ∧ (∀ m, m ≤ fInf → un32 m + un32 y.toNat ≤ un32 x.toNat → m ≤ (FP.fsub x y).toNat) := by
  obtain ⟨c, q, x1, x2, x3⟩ := ffn_fin hx
  obtain ⟨d, r, y1, y2, y3⟩ := ffn_fin hy
  have y2' : FP.Core.fits FP.Core.b32 (.fin true d r) := y2
  obtain ⟨sg, n, e, p1, p2, p3⟩ := FP.Core.sum_units x2 y2'
  have hle := un32_le.mpr hxy
  have hz : FP.Core.zval FP.Core.b32 (.fin false c q) + FP.Core.zval FP.Core.b32 (.fin true d r) = ((un32 x.toNat - un32 y.toNat : Nat) : Int) := by
    rw [Int.ofNat_sub hle, ← x3, ← y3]; rfl
  have hsg : sg = false := by
    have h1 : FP.Core.sumSign false true (FP.Core.sumUnits false c q true d r (min q r)) = sg := by
      have := p1; unfold FP.Core.exactSum at this; cases this; rfl
    have h3 : FP.Core.signed sg (FP.Core.inUnits n e FP.Core.b32.qmin) = ((un32 x.toNat - un32 y.toNat : Nat) : Int) := p3.trans hz
    rw [← h1]
    unfold FP.Core.sumSign
    split
    · rfl
    · rename_i hne
      refine decide_eq_false (fun hneg => ?_)
      have hst : sg = true := by rw [← h1]; unfold FP.Core.sumSign; rw [if_neg hne]; exact decide_eq_true hneg
      have hn : n = (FP.Core.sumUnits false c q true d r (min q r)).natAbs ∧ e = min q r := by
        have := p1; unfold FP.Core.exactSum at this; cases this; exact ⟨rfl, rfl⟩
      rw [hst] at h3
      have h4 : -((FP.Core.inUnits n e FP.Core.b32.qmin : Nat) : Int) = ((un32 x.toNat - un32 y.toNat : Nat) : Int) := h3
      have h5 : FP.Core.inUnits n e FP.Core.b32.qmin = 0 := by omega
      unfold FP.Core.inUnits at h5
      rcases Nat.mul_eq_zero.mp h5 with h6 | h6
      · rw [hn.1] at h6; exact hne (Int.natAbs_eq_zero.mp h6)
      · exact absurd h6 (Nat.pos_iff_ne_zero.mp (Nat.two_pow_pos _))
  subst hsg
  rw [hz] at p3
  have p4 : FP.Core.inUnits n e FP.Core.b32.qmin = un32 x.toNat - un32 y.toNat := by
    have : ((FP.Core.inUnits n e FP.Core.b32.qmin : Nat) : Int) = ((un32 x.toNat - un32 y.toNat : Nat) : Int) := p3
    exact_mod_cast this
  rw [FP.Core.qmin_b32] at p2 p4
  have ha : FP.Core.val32 (FP.fsub x y) = FP.Core.roundRatio FP.Core.b32 false n 1 e := by
    show FP.Core.val32 (FP.Core.fsub x y) = _
    rw [FP.Core.val32_fsub, x1, y1]
    show FP.Core.round _ (FP.Core.exactSum (.fin false c q) (.fin true d r)) = _
    rw [p1]; rfl
  have h := rr32 ha (by decide) (e0 := -149) (by omega) p2
  rw [p4] at h
  refine ⟨h.1, fun m hm => h.2.1 m (by
    have hq : FP.Core.unitsOf FP.Core.b32 m = un32 m := rfl
    simp
    omega), fun m h1 hm => h.2.2 m h1 (by
    have hq : FP.Core.unitsOf FP.Core.b32 m = un32 m := rfl
    simp
    omega)⟩
theorem val_fsub (x y : UInt32) : FP.Core.val32 (FP.fsub x y) = FP.Core.round FP.Core.b32 (FP.Core.exactSum (FP.Core.val32 x) (FP.Core.negate (FP.Core.val32 y))) := FP.Core.val32_fsub x y
theorem fsub_lt {x y : UInt32} (hx : ffn x) (hy : ffn y) (h : y.toNat < x.toNat) : FP.fsub y x = FP.fneg (FP.fsub x y) := by
  obtain ⟨c, q, x1, x2, x3⟩ := ffn_fin hx
  obtain ⟨d, r, y1, y2, y3⟩ := ffn_fin hy
  have hb := fsub_b hx hy (Nat.le_of_lt h)
  have h1 := val_fsub x y
  have h2 := val_fsub y x
  rw [x1, y1] at h1 h2
  simp only [FP.Core.negate, FP.Core.exactSum] at h1 h2
  rw [show (!false) = true from rfl] at h1
  rw [sU_neg, Int.min_comm r q, Int.natAbs_neg, show (!false) = true from rfl] at h2
  generalize hv : FP.Core.sumUnits false c q true d r (min q r) = v at h1 h2
  have hv0 : v ≠ 0 := fun e => by
    rw [e] at hv
    unfold FP.Core.sumUnits FP.Core.signed FP.Core.inUnits at hv
    have e2 : c * 2 ^ (q - min q r).toNat = d * 2 ^ (r - min q r).toNat := by
      simp only [Bool.false_eq_true, if_false, if_true] at hv
      omega
    have u1 : un32 x.toNat = c * 2 ^ (q - FP.Core.b32.qmin).toNat := x3.symm
    have u2 : un32 y.toNat = d * 2 ^ (r - FP.Core.b32.qmin).toNat := y3.symm
    have q1 : FP.Core.b32.qmin ≤ q := x2.2.1
    have q2 : FP.Core.b32.qmin ≤ r := y2.2.1
    have e3 := congrArg (· * 2 ^ (min q r - FP.Core.b32.qmin).toNat) e2
    rw [Nat.mul_assoc, Nat.mul_assoc, ← Nat.pow_add, ← Nat.pow_add, pow_e (show (q - min q r).toNat + (min q r - FP.Core.b32.qmin).toNat = (q - FP.Core.b32.qmin).toNat by omega), pow_e (show (r - min q r).toNat + (min q r - FP.Core.b32.qmin).toNat = (r - FP.Core.b32.qmin).toNat by omega), ← u1, ← u2] at e3
    have h4 := un32_lt.mpr h
    omega
  have hs : FP.Core.sumSign false true (-v) = !FP.Core.sumSign false true v := by
    unfold FP.Core.sumSign
    rw [if_neg hv0, if_neg (by omega)]
    by_cases g : v < 0
    · rw [decide_eq_true g, decide_eq_false (by omega)]; rfl
    · rw [decide_eq_false g, decide_eq_true (by omega)]; rfl
  have hn : FP.Core.val32 (FP.fsub x y) ≠ .nan := by
    have := (hb.2.1 x.toNat (Nat.le_add_right _ _))
    exact ffn_nn (Nat.lt_of_le_of_lt this hx)
  refine FP.Core.val32_inj ?_ ?_
  · have e : FP.Core.val32 (FP.fsub y x) = FP.Core.negate (FP.Core.val32 (FP.fsub x y)) := by
      rw [h1, h2, FP.Core.negate_round, hs]; rfl
    rw [e]
    exact FP.Core.negate_ne_nan hn
  · rw [FP.val32_fneg, h1, h2, FP.Core.negate_round, hs]; rfl
theorem f2d_fneg {y : UInt32} (hy : fl2 y) : FP.f2d (FP.fneg y) = FP.dneg (FP.f2d y) := by
  have hn := ffn_nn (fl2_ffn hy)
  have hn2 : FP.Core.val32 (FP.fneg y) ≠ .nan := by rw [FP.val32_fneg]; exact FP.Core.negate_ne_nan hn
  have h1 : FP.Core.val64 (FP.f2d (FP.fneg y)) = FP.Core.negate (FP.Core.val64 (FP.f2d y)) := by
    rw [f2d_core hn2, f2d_core hn, FP.Core.val64_f2d, FP.Core.val64_f2d, FP.val32_fneg, FP.Core.negate_round]
  have h3 := fnn_nn (f2d_fl2 hy).2.1
  exact FP.Core.val64_inj (by rw [h1]; exact FP.Core.negate_ne_nan h3) (by rw [h1, FP.val64_dneg])
theorem fneg_up {z : UInt32} (h : z.toNat < 2 ^ 31) : (FP.fneg z).toNat = 2 ^ 31 + z.toNat := by
  have h3 : (FP.fneg z).toNat = z.toNat ^^^ 2 ^ 31 := by
    show (z ^^^ 0x80000000).toNat = _
    rw [UInt32.toNat_xor]; rfl
  rw [h3, Nat.add_comm]
  exact (FP.xor_top (a := z.toNat) (k := 31) z.toNat_lt).1 h
/-- what a remeasured band drifts by -/
theorem mvd_fsub {r b : UInt32} (hr : fl2 r) (hb : fl2 b) : mvd (FP.fsub r b) := by
  have pos : ∀ {u v : UInt32}, fl2 u → fl2 v → v.toNat ≤ u.toNat → fl2 (FP.fsub u v) := fun {u v} hu hv h => by
    have := (fsub_b (fl2_ffn hu) (fl2_ffn hv) h).2.1 u.toNat (Nat.le_add_right _ _)
    unfold fl2 at hu ⊢
    omega
  rcases Nat.lt_or_ge r.toNat b.toNat with h | h
  · have e := fsub_lt (fl2_ffn hb) (fl2_ffn hr) h
    have hy := pos hb hr (Nat.le_of_lt h)
    have h1 : 1 ≤ (FP.fsub b r).toNat := (fsub_b (fl2_ffn hb) (fl2_ffn hr) (Nat.le_of_lt h)).2.2 1 (by decide) (by
      have := un32_lt.mpr h
      rw [un32_lo (by decide)]; omega)
    rw [e]
    generalize FP.fsub b r = y at hy h1
    obtain ⟨a1, a2, a3, a4⟩ := f2d_fl2 hy
    have hp : pw 1030 (FP.f2d y) := show _ < 1030 * 2 ^ 52 by omega
    have y0 : (FP.f2d y).toNat ≠ 0 := fun q => by
      have := (f2d_un (fl2_ffn hy)).2
      rw [q, un_0] at this
      rcases Nat.mul_eq_zero.mp this.symm with z | z
      · have := un32_z.mp z; omega
      · exact absurd z (Nat.pos_iff_ne_zero.mp (Nat.two_pow_pos _))
    have up := dneg_up (z := FP.f2d y) (by omega)
    have hyb : y.toNat < 2 ^ 31 := by unfold fl2 at hy; omega
    refine ⟨by rw [FP.val32_fneg]; exact FP.Core.negate_ne_nan (ffn_nn (fl2_ffn hy)), ?_, ?_, ?_, ⟨FP.f2d y, hp, a4, Or.inr ⟨f2d_fneg hy, y0⟩⟩⟩
    · rw [f2d_fneg hy]; exact dneg_mg (pw_mg hp (by decide)) (by decide)
    · rw [f2d_fneg hy]; unfold nm0; omega
    · rw [f2d_fneg hy]
      have := d2f_neg (x := FP.dneg (FP.f2d y)) (y := FP.f2d y) a2 (by omega)
      rw [d2f_f2d hy] at this
      exact eq_of_toNat32 (by rw [this, fneg_up hyb])
  · have hz := pos hr hb h
    obtain ⟨a1, a2, a3, a4⟩ := f2d_fl2 hz
    exact ⟨ffn_nn (fl2_ffn hz), pw_mg (show _ < 1030 * 2 ^ 52 by omega) (by decide), by unfold nm0; omega, d2f_f2d hz, ⟨_, show _ < 1030 * 2 ^ 52 by omega, a4, Or.inl rfl⟩⟩
