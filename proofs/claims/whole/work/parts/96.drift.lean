/-! ===== drifts: sums of both signs ===== -/
theorem dadd_dneg {p q : UInt64} {K : Nat} (hp : pw K p) (hq : pw K q) (hK : K ≤ 2040) : FP.dadd p (FP.dneg q) = FP.dsub p q := by
  have hm := mg_sub (pw_mg hp (by omega)) (pw_mg hq (by omega)) (by omega)
  refine (FP.Core.val64_inj (mg_nn hm (by omega)) ?_).symm
  rw [val_sub]
  refine Eq.trans ?_ (FP.Core.val64_dadd p (FP.dneg q)).symm
  rw [FP.val64_dneg]
theorem dadd_neg2 {p q : UInt64} {K : Nat} (hp : pw K p) (hq : pw K q) (hK : K ≤ 2040) : FP.dadd (FP.dneg p) (FP.dneg q) = FP.dneg (FP.dadd p q) := by
  obtain ⟨c, u, x1, _, _⟩ := fnn_fin (pw_fnn hp (by omega))
  obtain ⟨d, r, y1, _, _⟩ := fnn_fin (pw_fnn hq (by omega))
  have hm := mg_add (dneg_mg (pw_mg hp (by omega)) (by omega)) (dneg_mg (pw_mg hq (by omega)) (by omega)) (by omega)
  refine FP.Core.val64_inj (mg_nn hm (by omega)) ?_
  rw [FP.val64_dneg]
  refine (FP.Core.val64_dadd (FP.dneg p) (FP.dneg q)).trans ?_
  refine Eq.trans ?_ (congrArg FP.Core.negate (FP.Core.val64_dadd p q)).symm
  rw [FP.val64_dneg, FP.val64_dneg, x1, y1, FP.Core.negate_round]
  congr 1
  simp only [FP.Core.negate, FP.Core.exactSum]
  rw [show (!false) = true from rfl]
  have hv : FP.Core.sumUnits true c u true d r (min u r) = -FP.Core.sumUnits false c u false d r (min u r) := by
    unfold FP.Core.sumUnits FP.Core.signed
    simp only [if_true, Bool.false_eq_true, if_false]
    omega
  have h0 : 0 ≤ FP.Core.sumUnits false c u false d r (min u r) := by
    unfold FP.Core.sumUnits FP.Core.signed
    simp only [Bool.false_eq_true, if_false]
    omega
  rw [hv, Int.natAbs_neg]
  generalize FP.Core.sumUnits false c u false d r (min u r) = v at h0
  have hs : FP.Core.sumSign true true (-v) = !FP.Core.sumSign false false v := by
    unfold FP.Core.sumSign
    by_cases g : v = 0
    · rw [if_pos (by omega), if_pos g]; rfl
    · rw [if_neg (by omega), if_neg g, decide_eq_true (by omega), decide_eq_false (by omega)]; rfl
  rw [hs]
theorem dadd_cm (x y : UInt64) : FP.dadd x y = FP.dadd y x := FP.Core.dadd_comm x y
theorem sg_mono {K L A B : Nat} {z : UInt64} (h : sg K L z) (hK : K ≤ A) (hL : B ≤ L) : sg A B z := by
  obtain ⟨p, h1, h2, h3⟩ := h
  exact ⟨p, pw_mono h1 hK, lw_mono h2 hL, h3⟩
theorem sg_0 {K L : Nat} (hK : 1 ≤ K) : sg K L FP.dconst0 := ⟨FP.dconst0, show 0 < K * 2 ^ 52 by omega, lw_zero, Or.inl rfl⟩
theorem sg_mg {K L : Nat} {z : UInt64} (h : sg K L z) (hK : K ≤ 2047) : mg K z ∧ nm0 z := by
  obtain ⟨p, h1, h2, h3⟩ := h
  have hp : p.toNat < K * 2 ^ 52 := h1
  rcases h3 with rfl | ⟨rfl, h0⟩
  · exact ⟨pw_mg h1 hK, by unfold nm0; omega⟩
  · refine ⟨dneg_mg (pw_mg h1 hK) hK, ?_⟩
    have := dneg_up (z := p) (by omega)
    unfold nm0; omega
/-- a difference of two that are not negative, and its sign -/
theorem sg_diff {p q : UInt64} {K L : Nat} (hp : pw K p) (hq : pw K q) (lp_ : lw L p) (lq : lw L q) (hK : 1 ≤ K) (hK2 : K ≤ 2040) (hL : 53 ≤ L) (hL2 : L ≤ 2046) : sg K (L - 52) (FP.dsub p q) := by
  have fp := pw_fnn hp (by omega)
  have fq := pw_fnn hq (by omega)
  have hp' : p.toNat < K * 2 ^ 52 := hp
  have hq' : q.toNat < K * 2 ^ 52 := hq
  rcases Nat.lt_or_ge p.toNat q.toNat with h | h
  · obtain ⟨z1, z2, z3⟩ := dsub_b fq fp (Nat.le_of_lt h)
    have z4 : 1 ≤ (FP.dsub q p).toNat := z3 1 (by decide) (by
      have := un_lt.mpr h
      rw [un_lo (by decide)]; omega)
    have z5 := z2 q.toNat (Nat.le_add_right _ _)
    exact ⟨FP.dsub q p, Nat.lt_of_le_of_lt z5 hq', lw_sub lq lp_ fq fp (Nat.le_of_lt h) hL hL2, Or.inr ⟨dsub_lt fq fp h, by omega⟩⟩
  · obtain ⟨z1, z2, z3⟩ := dsub_b fp fq h
    have z5 := z2 p.toNat (Nat.le_add_right _ _)
    exact ⟨FP.dsub p q, Nat.lt_of_le_of_lt z5 hp', lw_sub lp_ lq fp fq h hL hL2, Or.inl rfl⟩
theorem sg_add {x y : UInt64} {K L : Nat} (hx : sg K L x) (hy : sg K L y) (hK : 1 ≤ K) (hK2 : K ≤ 2030) (hL : 53 ≤ L) (hL2 : L ≤ 2046) : sg (K + 2) (L - 52) (FP.dadd x y) := by
  obtain ⟨p, p1, p2, p3⟩ := hx
  obtain ⟨q, q1, q2, q3⟩ := hy
  have fp := pw_fnn p1 (by omega)
  have fq := pw_fnn q1 (by omega)
  have hs := dadd_pw p1 q1 hK (by omega)
  have hl := lw_mono (lw_add p2 q2 fp fq hL2) (show L - 52 ≤ L by omega)
  rcases p3 with rfl | ⟨rfl, p0⟩
  · rcases q3 with rfl | ⟨rfl, q0⟩
    · exact ⟨_, hs, hl, Or.inl rfl⟩
    · rw [dadd_dneg p1 q1 (by omega)]
      exact sg_mono (sg_diff p1 q1 p2 q2 hK (by omega) hL hL2) (by omega) (Nat.le_refl _)
  · rcases q3 with rfl | ⟨rfl, q0⟩
    · rw [dadd_cm, dadd_dneg q1 p1 (by omega)]
      exact sg_mono (sg_diff q1 p1 q2 p2 hK (by omega) hL hL2) (by omega) (Nat.le_refl _)
    · rw [dadd_neg2 p1 q1 (by omega)]
      refine ⟨_, hs, hl, Or.inr ⟨rfl, ?_⟩⟩
      have := (dadd_b fp fq).2.2 p.toNat (Nat.le_of_lt fp) (Nat.le_add_right _ _)
      omega
abbrev c16 : UInt64 := 4625196817309499392
theorem c16_n : (c16 : UInt64).toNat = 1027 * 2 ^ 52 := by decide +kernel
theorem c16_f : fnn c16 := by unfold fnn; decide +kernel
theorem sg_div {x : UInt64} {K L : Nat} (hx : sg K L x) (hK : K ≤ 1090) (hL : 5 ≤ L) (hL2 : L ≤ 1000) : sg K 1 (FP.ddiv x c16) := by
  obtain ⟨p, p1, p2, p3⟩ := hx
  have fp := pw_fnn p1 (by omega)
  have hp' : p.toNat < K * 2 ^ 52 := p1
  have b := ddiv_b fp c16_f (by decide +kernel)
  have e16 : un (c16 : UInt64).toNat = 2 ^ 1078 := by rw [c16_n, un_pw (by decide)]
  have up : (FP.ddiv p c16).toNat ≤ p.toNat := b.2.1 p.toNat (by
    rw [e16]
    exact Nat.mul_le_mul_left _ (Nat.pow_le_pow_right (by decide) (by decide)))
  have lo : lw 1 (FP.ddiv p c16) ∧ (p.toNat ≠ 0 → (FP.ddiv p c16).toNat ≠ 0) := by
    rcases p2 with z | z
    · have z2 : (FP.ddiv p c16).toNat = 0 := by omega
      exact ⟨Or.inl z2, fun q => absurd z q⟩
    · have hu := lw_un z (by omega)
      have h1 : 1 * 2 ^ 52 ≤ (FP.ddiv p c16).toNat := b.2.2 (1 * 2 ^ 52) (by decide) (by
        rw [un_pw (by decide), e16]
        calc 2 ^ (1 + 51) * 2 ^ 1078 = 2 ^ (5 + 51) * 2 ^ 1074 := by rw [← Nat.pow_add, ← Nat.pow_add]
          _ ≤ un p.toNat * 2 ^ 1074 := Nat.mul_le_mul_right _ (Nat.le_trans (Nat.pow_le_pow_right (by decide) (by omega)) hu))
      exact ⟨Or.inr h1, fun _ => by omega⟩
  rcases p3 with rfl | ⟨rfl, p0⟩
  · exact ⟨_, Nat.lt_of_le_of_lt up hp', lo.1, Or.inl rfl⟩
  · refine ⟨FP.ddiv p c16, Nat.lt_of_le_of_lt up hp', lo.1, Or.inr ⟨?_, lo.2 p0⟩⟩
    have fd : fnn (FP.ddiv p c16) := pw_fnn (K := K) (Nat.lt_of_le_of_lt up hp') (by omega)
    have hn : FP.Core.val64 (FP.dneg (FP.ddiv p c16)) ≠ .nan := by
      rw [FP.val64_dneg]; exact FP.Core.negate_ne_nan (fnn_nn fd)
    refine (FP.Core.val64_inj hn ?_).symm
    rw [FP.val64_dneg]
    refine (congrArg FP.Core.negate (FP.Core.val64_ddiv p c16)).trans ?_
    refine Eq.trans ?_ (FP.Core.val64_ddiv (FP.dneg p) c16).symm
    rw [FP.val64_dneg, FP.Core.quotient_negate]
def drS (z : Nat → UInt32) : Nat → UInt64
  | 0 => FP.dconst0
  | n + 1 => FP.dadd (drS z n) (FP.f2d (z n))
theorem drS_b {z : Nat → UInt32} (h : ∀ k, k < 16 → mvd (z k)) : ∀ n, n ≤ 16 → sg (1030 + 2 * n) (874 - 52 * n) (drS z n)
  | 0, _ => sg_0 (by decide)
  | n + 1, hn => by
    have h1 := drS_b h n (by omega)
    have h2 := (h n (by omega)).2.2.2.2
    have := sg_add h1 (sg_mono h2 (show 1030 ≤ 1030 + 2 * n by omega) (show 874 - 52 * n ≤ 874 by omega)) (by omega) (by omega) (by omega) (by omega)
    rw [show 1030 + 2 * (n + 1) = 1030 + 2 * n + 2 by omega, show 874 - 52 * (n + 1) = 874 - 52 * n - 52 by omega]
    exact this
theorem b_drift {x m : Sto} (h : Rel x m) (a : Int32) : ∃ r m', fX11_drift a x = some r ∧ fX12_drift a m = some (r, m') ∧ Rel x m' := by
  have hx := h.1.2.1
  have hm := h.1.2.2.1
  have n1 : ¬ (1 : Int32) = 0 := by decide
  have b0 : cN x 0 ≤ 40 := (hx.1 0 (by decide)).2
  have q0 : gI (sI m 0 0 10 0) 0 0 2 = nI (cN x 0) := (rel_cnt h (k := 0) (by decide)).2.1
  have key : ∀ r : Int32, fX11_drift a x = some r → fX12_drift a m = some (r, sI m 0 0 10 0) → ∃ r m', fX11_drift a x = some r ∧ fX12_drift a m = some (r, m') ∧ Rel x m' := fun r p q => ⟨r, _, p, q, rel_th h⟩
  rcases both_is hx (a := 0) (by decide) a with ⟨c, rfl, hc, e1, e2⟩ | ⟨_, e1, e2⟩
  rotate_left
  · refine key 0 ?_ ?_
    · unfold fX11_drift fX11_driftOf
      rw [show fX11_isThere (0 : Int32) a x = some 0 from e1, Option.bind_some, if_pos rfl, Option.bind_some]; rfl
    · unfold fX12_drift
      rw [lt1_e, q0, e2, Option.bind_some, if_pos rfl]
  have hz : ∀ k, k < 16 → mvd (gF x 21 c k) := fun k hk => (hx.2.1.1 c hc k hk).2
  have hb := drS_b (z := fun k => gF x 21 c k) hz
  have hs := sg_div (hb 16 (Nat.le_refl _)) (by decide) (by decide) (by decide)
  obtain ⟨g1, g2⟩ := sg_mg hs (by decide)
  obtain ⟨f1, f2, f3⟩ := fbits (mg_mono g1 (by decide)) g2
  have nb : ∀ k, k < 16 → vf_n64 (FP.f2d (gF x 21 c k)) ∧ vf_n64 (FP.dadd (drS (fun k => gF x 21 c k) k) (FP.f2d (gF x 21 c k))) := fun k hk =>
    ⟨mg_n64 (hz k hk).2.1 (by decide), mg_n64 (sg_mg (hb (k + 1) hk) (by omega)).1 (by omega)⟩
  have l21 : lFX 21 c = 16 := if_pos (by omega)
  refine key (FP.d2f (FP.ddiv (drS (fun k => gF x 21 c k) 16) c16)).toInt32 ?_ ?_
  · unfold fX11_drift fX11_driftOf
    rw [show fX11_isThere (0 : Int32) (nI c) x = some 1 from e1, Option.bind_some, if_neg n1, ck_t (by exact ixl (by omega) (by omega)), Option.bind_some, nI_cl (by omega)]
    rw [oq_e1]
    refine (congrArg (fun o => Option.bind o _) (lp_seq (fun k => (nI k, drS (fun k => gF x 21 c k) k)) (r := drS (fun k => gF x 21 c k) 16) 16 4000 0 (fun k _ hk => ?_) ?_ (by decide))).trans ?_
    · have hk : k < 16 := by omega
      dsimp only [un2]
      rw [if_neg (g16 hk), l21, ck_t (by exact ixc hk (by decide)), nI_cl (by omega), nd_t (nb k hk).1, nd_t (nb k hk).2, lt1_e, nI_s]
      rfl
    · dsimp only [un2]
      exact if_pos (show nI 16 ≤ nI 16 by decide)
    · rw [Option.bind_some, show FP.ddiv (drS (fun k => gF x 21 c k) 16) (4625196817309499392 : UInt64) = FP.ddiv (drS (fun k => gF x 21 c k) 16) c16 from rfl, nd_t (mg_n64 g1 (by decide)), f1, Option.bind_some]
  · have ed : ∀ k, k < 16 → gF (sI m 0 0 10 0) 2 0 (16 * c + k) = gF x 21 c k := fun k hk => (hm.2.1 c hc k hk).2
    unfold fX12_drift
    rw [lt1_e, q0, e2, Option.bind_some, if_neg n1]
    refine (congrArg (fun o => Option.bind o _) (lp_seq (fun k => (nI k, drS (fun k => gF x 21 c k) k)) (r := drS (fun k => gF x 21 c k) 16) 16 4000 0 (fun k _ hk => ?_) ?_ (by decide))).trans ?_
    · have hk : k < 16 := by omega
      have e16 : ((16 : Int32) * nI c) + nI k = nI (16 * c + k) := by
        show nI 16 * nI c + nI k = _
        simp only [pk_mul, nI_add]
      dsimp only [un2]
      rw [if_neg (g16 hk), e16, show lFM 2 0 = 640 from rfl, ck_t (by exact ixl (by omega) (by omega)), nI_cl (by omega), ed k hk, nd_t (nb k hk).1, nd_t (nb k hk).2, lt1_e, nI_s]
      rfl
    · dsimp only [un2]
      exact if_pos (show nI 16 ≤ nI 16 by decide)
    · rw [Option.bind_some, show FP.ddiv (drS (fun k => gF x 21 c k) 16) (4625196817309499392 : UInt64) = FP.ddiv (drS (fun k => gF x 21 c k) 16) c16 from rfl, nd_t (mg_n64 g1 (by decide)), nf_t f2, f3, Option.bind_some]
