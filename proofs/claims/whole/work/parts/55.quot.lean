theorem dneg_up {z : UInt64} (h : z.toNat < 2 ^ 63) : (FP.dneg z).toNat = z.toNat + 2 ^ 63 := by
  have h3 : (FP.dneg z).toNat = z.toNat ^^^ 2 ^ 63 := by
    show (z ^^^ 0x8000000000000000).toNat = _
    rw [UInt64.toNat_xor]; rfl
  rw [h3]
  exact (FP.xor_top (a := z.toNat) (k := 63) z.toNat_lt).1 h
theorem dsub_lt {x y : UInt64} (hx : fnn x) (hy : fnn y) (h : y.toNat < x.toNat) : FP.dsub y x = FP.dneg (FP.dsub x y) := by
  obtain ⟨c, q, x1, x2, x3⟩ := fnn_fin hx
  obtain ⟨d, r, y1, y2, y3⟩ := fnn_fin hy
  have hm : ∀ {z : UInt64}, fnn z → mg 2047 z := fun {z} hz => pw_mg (show z.toNat < 2047 * 2 ^ 52 from hz) (by decide)
  have hb := dsub_b hx hy (Nat.le_of_lt h)
  have h1 := val_sub x y
  have h2 := val_sub y x
  rw [x1, y1] at h1 h2
  simp only [FP.Core.negate, FP.Core.exactSum] at h1 h2
  rw [show (!false) = true from rfl] at h1
  rw [sU_neg, Int.min_comm r q, Int.natAbs_neg, show (!false) = true from rfl] at h2
  generalize hv : FP.Core.sumUnits false c q true d r (min q r) = v at h1 h2
  have hv0 : v ≠ 0 := fun e => by
    rw [e] at hv
    unfold FP.Core.sumUnits FP.Core.signed FP.Core.inUnits at hv
    have e2 : c * 2 ^ (q - min q r).toNat = d * 2 ^ (r - min q r).toNat := by
      simp only [Bool.false_eq_true, if_false, if_true] at hv
      omega
    have u1 : un x.toNat = c * 2 ^ (q - FP.Core.b64.qmin).toNat := x3.symm
    have u2 : un y.toNat = d * 2 ^ (r - FP.Core.b64.qmin).toNat := y3.symm
    have q1 : FP.Core.b64.qmin ≤ q := x2.2.1
    have q2 : FP.Core.b64.qmin ≤ r := y2.2.1
    have e3 := congrArg (· * 2 ^ (min q r - FP.Core.b64.qmin).toNat) e2
    rw [Nat.mul_assoc, Nat.mul_assoc, ← Nat.pow_add, ← Nat.pow_add, pow_e (show (q - min q r).toNat + (min q r - FP.Core.b64.qmin).toNat = (q - FP.Core.b64.qmin).toNat by omega), pow_e (show (r - min q r).toNat + (min q r - FP.Core.b64.qmin).toNat = (r - FP.Core.b64.qmin).toNat by omega), ← u1, ← u2] at e3
    have := un_inj e3
    omega
  have hs : FP.Core.sumSign false true (-v) = !FP.Core.sumSign false true v := by
    unfold FP.Core.sumSign
    rw [if_neg hv0, if_neg (by omega)]
    by_cases g : v < 0
    · rw [decide_eq_true g, decide_eq_false (by omega)]; rfl
    · rw [decide_eq_false g, decide_eq_true (by omega)]; rfl
  have hn : FP.Core.val64 (FP.dsub x y) ≠ .nan := by
    have := (hb.2.1 x.toNat (Nat.le_add_right _ _))
    exact fnn_nn (Nat.lt_of_le_of_lt this hx)
  refine FP.Core.val64_inj ?_ ?_
  · have e : FP.Core.val64 (FP.dsub y x) = FP.Core.negate (FP.Core.val64 (FP.dsub x y)) := by
      rw [h1, h2, FP.Core.negate_round, hs]; rfl
    rw [e]
    exact FP.Core.negate_ne_nan hn
  · rw [FP.val64_dneg, h1, h2, FP.Core.negate_round, hs]; rfl
/-! ===== the quotient of a band, what a dye has of its own ===== -/
/-- a spectrum's float -/
def fl2 (r : UInt32) : Prop := r.toNat ≤ 1073741824
theorem fl2_ffn {r : UInt32} (h : fl2 r) : ffn r := by
  unfold fl2 at h
  show r.toNat < 2139095040
  omega
theorem un32_pw {K : Nat} (hK : 1 ≤ K) : un32 (K * 2 ^ 23) = 2 ^ (K + 22) := by
  rw [un32_hi (by omega), show K * 2 ^ 23 % 2 ^ 23 = 0 from Nat.mul_mod_left _ _, show K * 2 ^ 23 / 2 ^ 23 = K from Nat.mul_div_cancel _ (by decide), Nat.add_zero, ← Nat.pow_add, pow_e (show 23 + (K - 1) = K + 22 by omega)]
theorem f2d_fl2 {r : UInt32} (h : fl2 r) : (FP.f2d r).toNat ≤ 1024 * 2 ^ 52 ∧ fnn (FP.f2d r) ∧ iv 2 (FP.f2d r) ∧ lw 874 (FP.f2d r) := by
  obtain ⟨h1, h2⟩ := f2d_un (fl2_ffn h)
  have hu : un32 r.toNat ≤ 2 ^ 150 := by
    have := un32_le.mpr (show r.toNat ≤ 128 * 2 ^ 23 from h)
    rw [un32_pw (by decide)] at this
    exact this
  have h3 : un (FP.f2d r).toNat ≤ un (1024 * 2 ^ 52) := by
    rw [h2, un_pw (by decide), show 1024 + 51 = 150 + 925 from rfl, Nat.pow_add]
    exact Nat.mul_le_mul_right _ hu
  refine ⟨un_le.mp h3, h1, ⟨?_, h1⟩, ?_⟩
  · rw [un_pw (by decide)] at h3
    exact Nat.le_trans h3 (Nat.le_of_eq (by rw [show 1024 + 51 = 1074 + 1 from rfl, Nat.pow_succ, Nat.mul_comm]))
  · rcases Nat.eq_zero_or_pos (un32 r.toNat) with h0 | h0
    · left
      rw [h0, Nat.zero_mul] at h2
      exact un_z.mp h2
    · right
      refine un_le.mp ?_
      rw [un_pw (by decide), h2]
      exact Nat.le_mul_of_pos_left _ h0
abbrev cS : UInt64 := 4557750909289998844
theorem cS_n : (cS : UInt64).toNat = 1012 * 2 ^ 52 + (4557750909289998844 - 1012 * 2 ^ 52) := by decide +kernel
theorem cS_f : fnn cS := by unfold fnn; decide +kernel
theorem one_n : (FP.dconst1 : UInt64).toNat = 1023 * 2 ^ 52 := by decide +kernel
theorem one_f : fnn FP.dconst1 := by unfold fnn; decide +kernel
theorem zero_n : (FP.dconst0 : UInt64).toNat = 0 := rfl
theorem zero_f : fnn FP.dconst0 := by unfold fnn; decide
theorem two_n : (4611686018427387904 : UInt64).toNat = 1024 * 2 ^ 52 := by decide +kernel
theorem two_f : fnn (4611686018427387904 : UInt64) := by unfold fnn; decide +kernel
def qtS (r : UInt32) : UInt64 := if (FP.f2d r).toNat < (cS : UInt64).toNat then cS else FP.f2d r
def qtn (r : UInt32) : UInt64 := FP.ddiv (FP.dmul (FP.dsub FP.dconst1 (qtS r)) (FP.dsub FP.dconst1 (qtS r))) (FP.dmul (4611686018427387904 : UInt64) (qtS r))
theorem qtS_b {r : UInt32} (h : fl2 r) : fnn (qtS r) ∧ 1012 * 2 ^ 52 ≤ (qtS r).toNat ∧ (qtS r).toNat ≤ 1024 * 2 ^ 52 := by
  obtain ⟨h1, h2, _, _⟩ := f2d_fl2 h
  have := cS_n
  unfold qtS
  split
  · exact ⟨cS_f, by omega, by omega⟩
  · exact ⟨h2, by omega, h1⟩
/-- 1 - s is no more than 1 off 0, and 0 or at least 2^-64 -/
theorem one_sub {s : UInt64} (h : fnn s) (h1 : 1012 * 2 ^ 52 ≤ s.toNat) (h2 : s.toNat ≤ 1024 * 2 ^ 52) : ∃ d, (FP.dsub FP.dconst1 s = d ∨ FP.dsub FP.dconst1 s = FP.dneg d) ∧ d.toNat ≤ 1023 * 2 ^ 52 ∧ lw 960 d := by
  have ls : lw 1012 s := Or.inr h1
  have l1 : lw 1012 FP.dconst1 := Or.inr (by rw [one_n]; decide)
  have u1 : un (FP.dconst1 : UInt64).toNat = un (1023 * 2 ^ 52) := by rw [one_n]
  rcases Nat.le_total s.toNat (FP.dconst1 : UInt64).toNat with g | g
  · refine ⟨FP.dsub FP.dconst1 s, Or.inl rfl, ?_, lw_mono (lw_sub l1 ls one_f h g (by decide) (by decide)) (by decide)⟩
    refine (dsub_b one_f h g).2.1 _ ?_
    rw [u1]; exact Nat.le_add_right _ _
  · have hd : (FP.dsub s FP.dconst1).toNat ≤ 1023 * 2 ^ 52 := by
      refine (dsub_b h one_f g).2.1 _ ?_
      rw [u1, ← Nat.two_mul, un_pw (by decide), ← Nat.pow_succ', ← un_pw (K := 1024) (by decide)]
      exact un_le.mpr h2
    refine ⟨FP.dsub s FP.dconst1, ?_, hd, lw_mono (lw_sub ls l1 h one_f g (by decide) (by decide)) (by decide)⟩
    have m1 : mg 1025 s := pw_mg (show s.toNat < 1025 * 2 ^ 52 by omega) (by decide)
    have m2 : mg 1025 FP.dconst1 := pw_mg (show (FP.dconst1 : UInt64).toNat < 1025 * 2 ^ 52 by rw [one_n]; decide) (by decide)
    rcases dsub_swap m1 m2 (by decide) with e | e
    · exact Or.inr e
    · exact Or.inl e
theorem sq_neg {d e : UInt64} {L : Nat} (hd : mg L d) (hs : L ≤ 1400) (h : e = d ∨ e = FP.dneg d) : FP.dmul e e = FP.dmul d d := by
  rcases h with h | h
  · rw [h]
  · rw [h, dmul_neg hd (dneg_mg hd (by omega)) (by omega), dmul_cm, dmul_neg hd hd (by omega), dneg2]
theorem qtn_b {r : UInt32} (h : fl2 r) : fX6_quotientOf r = some (qtn r) ∧ fX12_quotient r = some (qtn r) ∧ iv 1024 (qtn r) ∧ lw 860 (qtn r) := by
  obtain ⟨g1, g2, _, _⟩ := f2d_fl2 h
  obtain ⟨s1, s2, s3⟩ := qtS_b h
  obtain ⟨d, d1, d2, d3⟩ := one_sub s1 s2 s3
  have hdp : pw 1024 d := show d.toNat < 1024 * 2 ^ 52 by omega
  have hdf : fnn d := pw_fnn hdp (by decide)
  have hdm : mg 1024 d := pw_mg hdp (by decide)
  have hem : mg 1024 (FP.dsub FP.dconst1 (qtS r)) := by
    rcases d1 with e | e
    · rw [e]; exact hdm
    · rw [e]; exact dneg_mg hdm (by decide)
  have esq := sq_neg hdm (by decide) d1
  have hsq : (FP.dmul d d).toNat ≤ 1023 * 2 ^ 52 := by
    refine (dmul_b hdf hdf).2.1 _ ?_
    rw [un_pw (by decide)]
    have := un_le.mpr d2
    rw [un_pw (by decide)] at this
    exact mulle this this
  have hsqf : fnn (FP.dmul d d) := pw_fnn (K := 1024) (show _ < 1024 * 2 ^ 52 by omega) (by decide)
  have lsq : lw 897 (FP.dmul d d) := lw_mono (lw_mul d3 d3 hdf hdf (by decide) (by decide) (by decide) (by decide)) (by decide)
  have h2s1 : 1013 * 2 ^ 52 ≤ (FP.dmul (4611686018427387904 : UInt64) (qtS r)).toNat := by
    refine (dmul_b two_f s1).2.2 (1013 * 2 ^ 52) (k52 (by decide)) ?_
    rw [two_n, un_pw (by decide), un_pw (by decide)]
    have := un_le.mpr s2
    rw [un_pw (by decide)] at this
    exact Nat.le_trans (Nat.le_of_eq (by rw [← Nat.pow_add, ← Nat.pow_add])) (Nat.mul_le_mul_left _ this)
  have h2s2 : (FP.dmul (4611686018427387904 : UInt64) (qtS r)).toNat ≤ 1025 * 2 ^ 52 := by
    refine (dmul_b two_f s1).2.1 (1025 * 2 ^ 52) ?_
    rw [two_n, un_pw (by decide), un_pw (by decide)]
    have := un_le.mpr s3
    rw [un_pw (by decide)] at this
    exact Nat.le_trans (Nat.mul_le_mul_left _ this) (Nat.le_of_eq (by rw [← Nat.pow_add, ← Nat.pow_add]))
  have h2sp : pw 1026 (FP.dmul (4611686018427387904 : UInt64) (qtS r)) := show _ < 1026 * 2 ^ 52 by omega
  have h2sf : fnn (FP.dmul (4611686018427387904 : UInt64) (qtS r)) := pw_fnn h2sp (by decide)
  have hq : (qtn r).toNat ≤ 1033 * 2 ^ 52 := by
    unfold qtn
    rw [esq]
    refine (ddiv_b hsqf h2sf (by omega)).2.1 _ ?_
    rw [un_pw (by decide)]
    have a1 := un_le.mpr hsq
    rw [un_pw (by decide)] at a1
    have a2 := un_le.mpr h2s1
    rw [un_pw (by decide)] at a2
    exact Nat.le_trans (Nat.mul_le_mul_right _ a1) (Nat.le_trans (Nat.le_of_eq (by rw [← Nat.pow_add, ← Nat.pow_add])) (Nat.mul_le_mul_left _ a2))
  have hqf : fnn (qtn r) := pw_fnn (K := 1034) (show _ < 1034 * 2 ^ 52 by omega) (by decide)
  have tail : ∀ k : UInt64 → Option UInt64, (nd (FP.dsub FP.dconst1 (qtS r)) fun (v6 : UInt64) => nd (FP.dsub FP.dconst1 (qtS r)) fun (v7 : UInt64) => nd (FP.dmul v6 v7) fun (v8 : UInt64) => nd (FP.dmul (4611686018427387904 : UInt64) (qtS r)) fun (v9 : UInt64) => nd (FP.ddiv v8 v9) k) = k (qtn r) := fun k => by
    rw [nd_t (mg_n64 hem (by decide)), nd_t (mg_n64 hem (by decide)), nd_t (n64_of (by rw [esq]; exact hsqf)), nd_t (n64_of h2sf)]
    exact nd_t (n64_of hqf)
  refine ⟨?_, ?_, ⟨?_, hqf⟩, ?_⟩
  · unfold fX6_quotientOf
    rw [nd_t (n64_of g2), jn_e]
    have hc := (cmp_n g2 cS_f CmpOp.l).2.2.2.2
    by_cases hh : (FP.f2d r).toNat ≤ (cS : UInt64).toNat
    · rw [if_pos (hc.mpr hh)]
      have e : qtS r = cS := by
        unfold qtS
        split
        · rfl
        · exact eq_of_toNat (by omega)
      have := tail some
      rw [e] at this
      exact this
    · rw [if_neg (fun q => hh (hc.mp q))]
      have e : qtS r = FP.f2d r := by unfold qtS; rw [if_neg (by omega)]
      have := tail some
      rw [e] at this
      exact this
  · unfold fX12_quotient
    rw [nd_t (n64_of g2), jn_e]
    have hc := (cmp_n g2 cS_f CmpOp.g).2.2.2.1
    by_cases hh : (cS : UInt64).toNat ≤ (FP.f2d r).toNat
    · rw [if_pos (hc.mpr hh)]
      have e : qtS r = FP.f2d r := by unfold qtS; rw [if_neg (by omega)]
      have := tail some
      rw [e] at this
      exact this
    · rw [if_neg (fun q => hh (hc.mp q))]
      have e : qtS r = cS := by unfold qtS; rw [if_pos (by omega)]
      have := tail some
      rw [e] at this
      exact this
  · have := un_le.mpr hq
    rw [un_pw (by decide)] at this
    exact Nat.le_trans this (Nat.le_of_eq (by rw [show (1024 : Nat) = 2 ^ 10 from rfl, ← Nat.pow_add]))
  · unfold qtn
    rw [esq]
    exact lw_mono (lw_div lsq hsqf h2sf h2sp (by omega) (by decide) (by decide) (by decide) (by decide)) (by decide)
/-- what a dye has of its own in a band: the dyed, the bare -/
def ownQ (d b : UInt32) : UInt64 := if (qtn d).toNat < (qtn b).toNat then FP.dconst0 else FP.dsub (qtn d) (qtn b)
theorem iv_zero {c : Nat} : iv c FP.dconst0 := ⟨by rw [zero_n, un_0]; exact Nat.zero_le _, zero_f⟩
theorem lw_zero {L : Nat} : lw L FP.dconst0 := Or.inl rfl
theorem ownQ_b {d b : UInt32} (hd : fl2 d) (hb : fl2 b) : iv 1024 (ownQ d b) ∧ lw 808 (ownQ d b) := by
  obtain ⟨_, _, d1, d2⟩ := qtn_b hd
  obtain ⟨_, _, b1, b2⟩ := qtn_b hb
  unfold ownQ
  split
  · exact ⟨iv_zero, lw_zero⟩
  · exact ⟨iv_sub d1 b1.2 (by omega), lw_mono (lw_sub d2 b2 d1.2 b1.2 (by omega) (by decide) (by decide)) (by decide)⟩
/-- as the code asks it: the difference where it is not below 0 -/
theorem ownQ_c {d b : UInt32} (hd : fl2 d) (hb : fl2 b) : vf_n64 (FP.dsub (qtn d) (qtn b)) ∧ (0 ≤ Op.cmpValue (FP.dcmp (FP.dsub (qtn d) (qtn b)) FP.dconst0) CmpOp.g ↔ ¬ (qtn d).toNat < (qtn b).toNat) := by
  obtain ⟨_, _, d1, d2⟩ := qtn_b hd
  obtain ⟨_, _, b1, b2⟩ := qtn_b hb
  have m1 : mg 1034 (qtn d) := pw_mg (iv_pw (j := 11) d1 (by decide)) (by decide)
  have m2 : mg 1034 (qtn b) := pw_mg (iv_pw (j := 11) b1 (by decide)) (by decide)
  have m3 := mg_sub m1 m2 (by decide)
  refine ⟨mg_n64 m3 (by decide), ?_⟩
  rw [(cmp_k (mg_nn m3 (by decide)) (fnn_nn zero_f) CmpOp.g).2.2.2.1, show FP.Core.dkey FP.dconst0 = 0 from rfl]
  by_cases h : (qtn d).toNat < (qtn b).toNat
  · have e := dsub_lt b1.2 d1.2 h
    obtain ⟨z1, z2, z3⟩ := dsub_b b1.2 d1.2 (Nat.le_of_lt h)
    have z4 : 1 ≤ (FP.dsub (qtn b) (qtn d)).toNat := z3 1 (by decide) (by
      have := un_lt.mpr h
      rw [un_lo (by decide)]; omega)
    constructor
    · intro q
      exfalso
      have hneg := dneg_up z1
      have hk : FP.Core.dkey (FP.dneg (FP.dsub (qtn b) (qtn d))) < 0 := by
        unfold FP.Core.dkey
        rw [if_pos (by omega)]; omega
      rw [e] at q
      omega
    · intro q; exact absurd h q
  · obtain ⟨z1, z2, z3⟩ := dsub_b d1.2 b1.2 (Nat.le_of_not_lt h)
    rw [dkey_nn z1]
    constructor
    · intro _; exact h
    · intro _; omega
/-! ===== the band of a quotient: never above 2 ===== -/
theorem rtS_un {n : Nat} (h1 : 500 * 2 ^ 52 ≤ n) (h2 : n < 1500 * 2 ^ 52) : (rtS n * 2 ^ 52) * 2 ^ (2 * ((n / 2 ^ 52 + 919) / 2 + 51)) = un n * 2 ^ 1074 := by
  obtain ⟨E, hE⟩ : ∃ E, E = n / 2 ^ 52 := ⟨_, rfl⟩
  obtain ⟨f, hf⟩ : ∃ f, f = n % 2 ^ 52 := ⟨_, rfl⟩
  have hE1 : 500 ≤ E := by omega
  rw [un_hi (by omega)]
  unfold rtS
  rw [← hE, ← hf]
  by_cases o : E % 2 = 1
  · rw [if_pos o, Nat.mul_assoc, Nat.mul_assoc, ← Nat.pow_add, ← Nat.pow_add, pow_e (show 52 + 2 * ((E + 919) / 2 + 51) = E - 1 + 1074 by omega)]
  · rw [if_neg o, Nat.mul_comm 2, Nat.mul_assoc, Nat.mul_assoc, Nat.mul_assoc, ← Nat.pow_add, ← Nat.pow_add, ← Nat.pow_succ', pow_e (show 52 + 2 * ((E + 919) / 2 + 51) + 1 = E - 1 + 1074 by omega)]
theorem un_succ {n : Nat} (h : 2 ^ 52 ≤ n) : un (n + 1) ≤ un n + un n / 2 ^ 52 := by
  obtain ⟨E, hE⟩ : ∃ E, E = n / 2 ^ 52 := ⟨_, rfl⟩
  obtain ⟨f, hf⟩ : ∃ f, f = n % 2 ^ 52 := ⟨_, rfl⟩
  have e1 : un n = (2 ^ 52 + f) * 2 ^ (E - 1) := by rw [un_hi h, ← hE, ← hf]
  have e2 : un (n + 1) = (2 ^ 52 + f) * 2 ^ (E - 1) + 2 ^ (E - 1) := by
    by_cases g : f + 1 = 2 ^ 52
    · rw [un_hi (by omega), show (n + 1) % 2 ^ 52 = 0 by omega, show (n + 1) / 2 ^ 52 = E + 1 by omega, show E + 1 - 1 = E - 1 + 1 by omega, Nat.pow_succ, show f = 4503599627370495 by omega]
      omega
    · rw [un_hi (by omega), show (n + 1) % 2 ^ 52 = f + 1 by omega, show (n + 1) / 2 ^ 52 = E by omega, ← Nat.succ_mul]
      rfl
  rw [e1, e2]
  refine Nat.add_le_add_left ?_ _
  refine (Nat.le_div_iff_mul_le (by decide)).mpr ?_
  rw [Nat.mul_comm]
  exact Nat.mul_le_mul_right _ (Nat.le_add_right _ _)
/-- the sum under the root -/
def bdR (q : UInt64) : UInt64 := FP.dadd (FP.dmul q q) (FP.dmul (4611686018427387904 : UInt64) q)
theorem bd_sq {q : UInt64} {c : Nat} (hq : iv c q) (hc : c ≤ 2 ^ 50) (hl : 600 * 2 ^ 52 ≤ q.toNat) : fnn (FP.dmul q q) ∧ fnn (FP.dmul (4611686018427387904 : UInt64) q) ∧ 500 * 2 ^ 52 ≤ (bdR q).toNat ∧ (bdR q).toNat < 1400 * 2 ^ 52 ∧ un q.toNat * un q.toNat ≤ un (bdR q).toNat * 2 ^ 1074 := by
  obtain ⟨h1, hf⟩ := hq
  have hp : pw 1074 q := iv_pw (j := 51) ⟨h1, hf⟩ (by omega)
  have p2 : pw 1126 (FP.dmul q q) := pw_mono (dmul_pw hp hp (by decide) (by decide) (by decide) (by decide) (by decide) (by decide)) (by decide)
  have f2 : fnn (FP.dmul q q) := pw_fnn p2 (by decide)
  have l2 : lw 177 (FP.dmul q q) := lw_mono (lw_mul (Or.inr hl) (Or.inr hl) hf hf (by decide) (by decide) (by decide) (by decide)) (by decide)
  obtain ⟨F, k, hF, hk, uF⟩ := un_ck hf
  have hq0 : 0 < un q.toNat := Nat.pos_of_ne_zero (fun h => by have := un_z.mp h; omega)
  obtain ⟨f3, u3⟩ := dmul_up (x := q) (P := (4611686018427387904 : UInt64)) (j := 1) hf (by decide +kernel) (by decide) (Nat.lt_of_le_of_lt h1 (pow_lt_of (j := 53) (by omega) (by decide)))
  rw [dmul_cm] at f3 u3
  have p3 : pw 1126 (FP.dmul (4611686018427387904 : UInt64) q) := by
    refine pw_of_un ?_ (by decide)
    rw [u3, Nat.pow_one, Nat.mul_comm]
    exact Nat.lt_of_lt_of_le ((Nat.mul_lt_mul_left (by decide)).mpr (pw_un hp (by decide))) (by rw [← Nat.pow_succ']; exact Nat.pow_le_pow_right (by decide) (by decide))
  have p4 : pw 1128 (bdR q) := pw_mono (dadd_pw p2 p3 (by decide) (by decide)) (by decide)
  have hb := dadd_b f2 f3
  refine ⟨f2, f3, ?_, Nat.lt_trans p4 (by decide), ?_⟩
  · refine hb.2.2 (500 * 2 ^ 52) (k52 (by decide)) ?_
    have : un (500 * 2 ^ 52) ≤ un q.toNat := un_le.mpr (by omega)
    rw [u3]; omega
  · -- the product's successor lies between
    have hm := dmul_b hf hf
    have hv : 2 ^ 52 ≤ (FP.dmul q q).toNat := by
      rcases l2 with h | h
      · exfalso
        have := hm.2.2 1 (by decide) (by
          rw [un_lo (by decide), Nat.one_mul]
          have := mulle (lw_un hl (by decide)) (lw_un hl (by decide))
          rw [← Nat.pow_add] at this
          exact Nat.le_trans (Nat.pow_le_pow_right (by decide) (by decide)) this)
        omega
      · omega
    have e1 : un q.toNat * un q.toNat ≤ un ((FP.dmul q q).toNat + 1) * 2 ^ 1074 := by
      refine Nat.le_of_not_lt (fun h => ?_)
      have : (FP.dmul q q).toNat + 1 ≤ dInf := f2
      have := hm.2.2 _ this (Nat.le_of_lt h)
      omega
    refine Nat.le_trans e1 (Nat.mul_le_mul_right _ (un_le.mpr ?_))
    refine hb.2.2 _ f2 ?_
    refine Nat.le_trans (un_succ hv) (Nat.add_le_add_left ?_ _)
    obtain ⟨m, hm1, um⟩ := un_rep (k + 50) F hF (by
      have : 2 ^ k ≤ un q.toNat := by
        rw [uF]
        exact Nat.le_mul_of_pos_left _ (Nat.pos_of_ne_zero (fun h => by rw [uF, h, Nat.zero_mul] at hq0; omega))
      have h2 : 2 ^ k < 2 ^ 1125 := Nat.lt_of_le_of_lt (Nat.le_trans this h1) (pow_lt_of (j := 51) (by omega) (by decide))
      have := (Nat.pow_lt_pow_iff_right (show 1 < 2 by decide)).mp h2
      omega)
    have e2 : (FP.dmul q q).toNat ≤ m := by
      refine hm.2.1 m ?_
      rw [um, Nat.pow_add, ← Nat.mul_assoc, ← uF, Nat.mul_assoc]
      exact Nat.mul_le_mul_left _ (Nat.le_trans h1 (Nat.mul_le_mul_right _ hc))
    have e3 := un_le.mpr e2
    rw [um, Nat.pow_add, ← Nat.mul_assoc, ← uF] at e3
    rw [u3]
    omega
/-- the root is not below the quotient -/
theorem bd_root {q y : UInt64} {r : Nat} (hf : fnn q) (h1 : 500 * 2 ^ 52 ≤ (bdR q).toNat) (h2 : (bdR q).toNat < 1400 * 2 ^ 52) (h3 : un q.toNat * un q.toNat ≤ un (bdR q).toNat * 2 ^ 1074) (hr : isRoot (rtS (bdR q).toNat * 2 ^ 52) r) (hy : un y.toNat = r * 2 ^ (((bdR q).toNat / 2 ^ 52 + 919) / 2 + 51)) : un q.toNat ≤ un y.toNat := by
  have hS := rtS_un h1 (by omega)
  rw [← hS] at h3
  obtain ⟨j, hj⟩ : ∃ j, j = ((bdR q).toNat / 2 ^ 52 + 919) / 2 + 51 := ⟨_, rfl⟩
  rw [← hj] at h3 hy
  clear hS
  rw [hy]
  refine Nat.le_of_not_lt (fun h => ?_)
  obtain ⟨F, k, hF, hk, uF⟩ := un_ck hf
  have hr52 : 2 ^ 52 ≤ r := by
    refine Nat.le_of_not_lt (fun g => ?_)
    have hb := (rtS_b (bdR q).toNat).1
    have := hr.2
    have a1 : r * r ≤ (2 ^ 52 - 1) * (2 ^ 52 - 1) := mulle (by omega) (by omega)
    have a2 : 2 ^ 52 * 2 ^ 52 ≤ rtS (bdR q).toNat * 2 ^ 52 := Nat.mul_le_mul_right _ hb
    omega
  have hjk : j ≤ k := by
    refine Nat.le_of_not_lt (fun g => ?_)
    have a1 : F * 2 ^ k ≤ (2 ^ 53 - 1) * 2 ^ (j - 1) := mulle (by omega) (Nat.pow_le_pow_right (by decide) (by omega))
    have a2 : 2 ^ 52 * 2 ^ j ≤ r * 2 ^ j := Nat.mul_le_mul_right _ hr52
    have a3 : 2 ^ j = 2 * 2 ^ (j - 1) := by rw [← Nat.pow_succ', pow_e (show j = j - 1 + 1 by omega)]
    have a4 : 0 < 2 ^ (j - 1) := Nat.two_pow_pos _
    rw [uF] at h
    omega
  obtain ⟨i, rfl⟩ : ∃ i, k = i + j := ⟨k - j, by omega⟩
  have uQ : un q.toNat = (F * 2 ^ i) * 2 ^ j := by rw [uF, Nat.pow_add, Nat.mul_assoc]
  rw [uQ] at h h3
  have h4 : r < F * 2 ^ i := Nat.lt_of_mul_lt_mul_right h
  have h5 : (F * 2 ^ i) * (F * 2 ^ i) ≤ rtS (bdR q).toNat * 2 ^ 52 := by
    refine Nat.le_of_mul_le_mul_right ?_ (Nat.two_pow_pos (2 * j))
    refine Nat.le_trans (Nat.le_of_eq ?_) h3
    rw [Nat.mul_mul_mul_comm (F * 2 ^ i), ← Nat.pow_add, pow_e (show 2 * j = j + j by omega)]
  have h6 : (r + 1) * (r + 1) ≤ (F * 2 ^ i) * (F * 2 ^ i) := mulle h4 h4
  have := hr.2
  rw [Nat.mul_add, Nat.add_mul] at h6
  omega
theorem dneg_lt0 {x : UInt64} (h : x.toNat < 2 ^ 63) (h0 : x.toNat ≠ 0) (hn : FP.Core.val64 (FP.dneg x) ≠ .nan) (op : CmpOp) : ¬ 0 ≤ Op.cmpValue (FP.dcmp (FP.dneg x) FP.dconst0) op := by
  have hk : FP.Core.dkey (FP.dneg x) < 0 := by
    have := dneg_up h
    unfold FP.Core.dkey
    rw [if_pos (by omega)]; omega
  rw [(cmp_k hn (fnn_nn zero_f) op).2.2.2.1, show FP.Core.dkey FP.dconst0 = 0 from rfl]
  omega
theorem bd_y {q : UInt64} {c : Nat} (hq : iv c q) (hc : c ≤ 2 ^ 50) (hl : lw 600 q) : ∃ y, fX7_rootOf (bdR q) = some y ∧ fX12_rootOf (bdR q) = some y ∧ pw 1300 y ∧ un q.toNat ≤ un y.toNat ∧ fnn (FP.dmul q q) ∧ fnn (FP.dmul (4611686018427387904 : UInt64) q) ∧ fnn (bdR q) := by
  rcases hl with h | h
  · have h1 : (FP.dmul q q).toNat = 0 := dmul_ex hq.2 hq.2 (Nat.zero_le _) (by rw [h, un_0, Nat.zero_mul, Nat.zero_mul])
    have h2 : (FP.dmul (4611686018427387904 : UInt64) q).toNat = 0 := dmul_ex two_f hq.2 (Nat.zero_le _) (by rw [h, un_0, Nat.mul_zero, Nat.zero_mul])
    have f1 : fnn (FP.dmul q q) := fnn_of h1 (by decide)
    have f2 : fnn (FP.dmul (4611686018427387904 : UInt64) q) := fnn_of h2 (by decide)
    have h3 : (bdR q).toNat = 0 := dadd_ex f1 f2 (Nat.zero_le _) (by rw [h1, h2, un_0])
    obtain ⟨r1, r2⟩ := root_zero h3
    exact ⟨FP.dconst0, r1, r2, show (FP.dconst0 : UInt64).toNat < 1300 * 2 ^ 52 by rw [zero_n]; decide, by rw [h, un_0]; exact Nat.zero_le _, f1, f2, fnn_of h3 (by decide)⟩
  · obtain ⟨f1, f2, h1, h2, h3⟩ := bd_sq hq hc h
    obtain ⟨y, r, a1, a2, a3, a4⟩ := x_root h1 (by omega)
    obtain ⟨z, b1, b2, b3⟩ := root_same h1 (by omega)
    rw [a1] at b1
    cases b1
    exact ⟨y, a1, b2, pw_mono b3 (by omega), bd_root hq.2 h1 h2 h3 a3 a4, f1, f2, pw_fnn (K := 1400) h2 (by decide)⟩
def bandV (q : UInt64) : UInt32 := if (FP.dadd FP.dconst1 q).toNat < ((fX12_rootOf (bdR q)).getD 0).toNat then FP.fconst0 else FP.d2f (FP.dsub (FP.dadd FP.dconst1 q) ((fX12_rootOf (bdR q)).getD 0))
theorem d2f_0 : FP.d2f FP.dconst0 = FP.fconst0 := by decide +kernel
theorem d2f_le2 {x : UInt64} (h : x.toNat ≤ 1024 * 2 ^ 52) : fl2 (FP.d2f x) := by
  have hf : fnn x := pw_fnn (K := 1025) (show x.toNat < 1025 * 2 ^ 52 by omega) (by decide)
  refine (d2f_b hf).2.1 1073741824 ?_
  have h1 := un_le.mpr h
  rw [un_pw (by decide)] at h1
  refine Nat.le_trans h1 ?_
  rw [show (1073741824 : Nat) = 128 * 2 ^ 23 from rfl, un32_pw (by decide), ← Nat.pow_add]
  exact Nat.le_refl _
theorem bandV_b {q : UInt64} {c : Nat} (hq : iv c q) (hc : c ≤ 2 ^ 50) (hl : lw 600 q) : fl2 (bandV q) ∧ fX12_bandOf q = some (bandV q) ∧ ∀ {β : Type} (K : UInt32 → Option β), (nd (FP.dadd FP.dconst1 q) fun (v9 : UInt64) =>
       nd (FP.dmul q q) fun (v10 : UInt64) =>
       nd (FP.dmul (4611686018427387904 : UInt64) q) fun (v11 : UInt64) =>
       nd (FP.dadd v10 v11) fun (v12 : UInt64) =>
       (fX7_rootOf v12).bind (fun (v13 : UInt64) =>
        nd (FP.dsub v9 v13) fun (v15 : UInt64) =>
        if 0 ≤ Op.cmpValue (FP.dcmp v15 FP.dconst0) CmpOp.g then (
         nf (FP.d2f v15) K) else (
         nf (FP.d2f FP.dconst0) K))) = K (bandV q) := by
  obtain ⟨y, y1, y2, y3, y4, g1, g2, g3⟩ := bd_y hq hc hl
  have hyf : fnn y := pw_fnn y3 (by decide)
  have i1 : iv 1 FP.dconst1 := ⟨by rw [one_n, un_pw (by decide), Nat.one_mul]; exact Nat.le_refl _, one_f⟩
  have hv := iv_add i1 hq (by omega)
  have hv2 : un (FP.dadd FP.dconst1 q).toNat ≤ un q.toNat + 2 ^ 1075 := by
    obtain ⟨t, ht⟩ : ∃ t, t = un q.toNat / 2 ^ 1074 := ⟨_, rfl⟩
    have t1 : t * 2 ^ 1074 ≤ un q.toNat := by rw [ht]; exact Nat.div_mul_le_self _ _
    have t2 : un q.toNat < (t + 1) * 2 ^ 1074 := by
      rw [ht, Nat.mul_comm]; exact Nat.lt_mul_div_succ _ p1074
    have t3 : t ≤ 2 ^ 50 := by
      refine Nat.le_of_mul_le_mul_right (Nat.le_trans t1 (Nat.le_trans hq.1 (Nat.mul_le_mul_right _ hc))) p1074
    obtain ⟨m, hm, um⟩ := un_rep 1074 (t + 2) (by omega) (by decide)
    have h1 := (dadd_b one_f hq.2).2.1 m (by
      rw [um, one_n, un_pw (by decide)]
      rw [Nat.add_mul] at t2 ⊢
      rw [Nat.one_mul] at t2
      rw [Nat.two_mul]
      show 2 ^ 1074 + un q.toNat ≤ _
      generalize 2 ^ 1074 = P at *
      omega)
    have h2 := un_le.mpr h1
    rw [um, Nat.add_mul, ← Nat.pow_succ'] at h2
    exact Nat.le_trans h2 (Nat.add_le_add_right t1 _)
  have hvp : pw 1300 (FP.dadd FP.dconst1 q) := pw_mono (iv_pw (j := 53) hv (by omega)) (by decide)
  have hsm : mg 1302 (FP.dsub (FP.dadd FP.dconst1 q) y) := mg_sub (pw_mg hvp (by decide)) (pw_mg y3 (by decide)) (by decide)
  have hz : ffn FP.fconst0 := by show (FP.fconst0 : UInt32).toNat < 2139095040; decide +kernel
  have e12 : FP.dadd (FP.dmul q q) (FP.dmul (4611686018427387904 : UInt64) q) = bdR q := rfl
  by_cases hlt : (FP.dadd FP.dconst1 q).toNat < y.toNat
  · have eb : bandV q = FP.fconst0 := by unfold bandV; rw [y2, Option.getD_some, if_pos hlt]
    have hneg := dsub_lt hyf hv.2 hlt
    have hd := dsub_b hyf hv.2 (Nat.le_of_lt hlt)
    have h1 : 1 ≤ (FP.dsub y (FP.dadd FP.dconst1 q)).toNat := hd.2.2 1 (by decide) (by
      have := un_lt.mpr hlt
      rw [un_lo (by decide)]; omega)
    have hc0 : ¬ 0 ≤ Op.cmpValue (FP.dcmp (FP.dsub (FP.dadd FP.dconst1 q) y) FP.dconst0) CmpOp.g := by
      rw [hneg]
      exact dneg_lt0 hd.1 (by omega) (by rw [← hneg]; exact mg_nn hsm (by decide)) _
    refine ⟨by rw [eb]; show (FP.fconst0 : UInt32).toNat ≤ 1073741824; decide +kernel, ?_, fun K => ?_⟩
    · unfold fX12_bandOf
      rw [nd_t (n64_of hv.2), nd_t (n64_of g1), nd_t (n64_of g2), e12, nd_t (n64_of g3), y2, Option.bind_some, nd_t (mg_n64 hsm (by decide)), if_neg hc0, eb]
    · rw [nd_t (n64_of hv.2), nd_t (n64_of g1), nd_t (n64_of g2), e12, nd_t (n64_of g3), y1, Option.bind_some, nd_t (mg_n64 hsm (by decide)), if_neg hc0, eb, d2f_0, nf_t (n32_of hz)]
  · have eb : bandV q = FP.d2f (FP.dsub (FP.dadd FP.dconst1 q) y) := by unfold bandV; rw [y2, Option.getD_some, if_neg hlt]
    have hd := dsub_b hv.2 hyf (Nat.le_of_not_lt hlt)
    have hle : (FP.dsub (FP.dadd FP.dconst1 q) y).toNat ≤ 1024 * 2 ^ 52 := hd.2.1 _ (by
      rw [un_pw (by decide)]
      exact Nat.le_trans hv2 (by rw [Nat.add_comm]; exact Nat.add_le_add_left y4 _))
    have hf2 := d2f_le2 hle
    have hdf : fnn (FP.dsub (FP.dadd FP.dconst1 q) y) := pw_fnn (K := 1025) (show _ < 1025 * 2 ^ 52 by omega) (by decide)
    have hc0 : 0 ≤ Op.cmpValue (FP.dcmp (FP.dsub (FP.dadd FP.dconst1 q) y) FP.dconst0) CmpOp.g := ((cmp_n hdf zero_f CmpOp.g).2.2.2.1).mpr (by rw [zero_n]; exact Nat.zero_le _)
    refine ⟨by rw [eb]; exact hf2, ?_, fun K => ?_⟩
    · unfold fX12_bandOf
      rw [nd_t (n64_of hv.2), nd_t (n64_of g1), nd_t (n64_of g2), e12, nd_t (n64_of g3), y2, Option.bind_some, nd_t (mg_n64 hsm (by decide)), if_pos hc0, nf_t (n32_of (fl2_ffn hf2)), eb]
    · rw [nd_t (n64_of hv.2), nd_t (n64_of g1), nd_t (n64_of g2), e12, nd_t (n64_of g3), y1, Option.bind_some, nd_t (mg_n64 hsm (by decide)), if_pos hc0, nf_t (n32_of (fl2_ffn hf2)), eb]
