/-! ===== magnitudes, signs ===== -/
def mg (K : Nat) (x : UInt64) : Prop := x.toNat % 2 ^ 63 < K * 2 ^ 52
theorem mg_mono {K L : Nat} {x : UInt64} (h : mg K x) (hK : K ≤ L) : mg L x := Nat.lt_of_lt_of_le h (Nat.mul_le_mul_right _ hK)
theorem pw_mg {K : Nat} {x : UInt64} (h : pw K x) (hK : K ≤ 2047) : mg K x := by
  have := pw_fnn h hK
  unfold mg
  unfold pw at h
  rw [Nat.mod_eq_of_lt (Nat.lt_trans (show x.toNat < 9218868437227405312 from this) (by decide))]
  exact h
theorem mg_n64 {K : Nat} {x : UInt64} (h : mg K x) (hK : K ≤ 2047) : vf_n64 x := by
  refine n64.mpr ?_
  unfold mg at h
  have : K * 2 ^ 52 ≤ 2047 * 2 ^ 52 := Nat.mul_le_mul_right _ hK
  exact Nat.le_of_lt (Nat.lt_of_lt_of_le h this)
theorem mg_fin {K : Nat} {x : UInt64} (h : mg K x) (hK : K ≤ 2047) : ∃ s c q, FP.Core.val64 x = .fin s c q := FP.Core.fin_of_lt h hK
theorem mg_nn {K : Nat} {x : UInt64} (h : mg K x) (hK : K ≤ 2047) : FP.Core.val64 x ≠ .nan := by
  obtain ⟨s, c, q, e⟩ := mg_fin h hK
  rw [e]; exact FP.Core.Datum.noConfusion
theorem mg_mul {x y : UInt64} {K L : Nat} (hx : mg K x) (hy : mg L y) (hK : K ≤ 2047) (hL : L ≤ 2047) : mg (K + L - 1025 + 3) (FP.dmul x y) := FP.Core.dmul_mag hx hy hK hL
theorem mg_add {x y : UInt64} {K : Nat} (hx : mg K x) (hy : mg K y) (hK : K ≤ 2047) : mg (K + 2) (FP.dadd x y) := FP.Core.dadd_mag hx hy hK
theorem mg_sub {x y : UInt64} {K : Nat} (hx : mg K x) (hy : mg K y) (hK : K ≤ 2047) : mg (K + 2) (FP.dsub x y) := FP.Core.dsub_mag hx hy hK
theorem mg_pw {K : Nat} {x : UInt64} (h : mg K x) (h2 : x.toNat < 2 ^ 63) : pw K x := by
  unfold mg at h
  rw [Nat.mod_eq_of_lt h2] at h
  exact h
theorem dneg_mg {K : Nat} {x : UInt64} (h : mg K x) (hK : K ≤ 2047) : mg K (FP.dneg x) := by
  obtain ⟨s, c, q, e⟩ := mg_fin h hK
  have z1 := FP.Core.zmag_bits (a := x) (by rw [e]; exact FP.Core.Datum.noConfusion)
  have z2 := FP.Core.zmag_bits (a := FP.dneg x) (by rw [FP.val64_dneg, e]; exact FP.Core.Datum.noConfusion)
  have e2 : FP.Core.zmag FP.Core.b64 (FP.Core.val64 (FP.dneg x)) = FP.Core.zmag FP.Core.b64 (FP.Core.val64 x) := by
    rw [FP.val64_dneg, e]; rfl
  rw [z1, z2] at e2
  have e3 := un_inj e2
  unfold mg at h ⊢
  rw [e3]
  exact h
theorem sU_neg (s : Bool) (c : Nat) (q : Int) (t : Bool) (d : Nat) (r e : Int) : FP.Core.sumUnits t d r (!s) c q e = -FP.Core.sumUnits s c q (!t) d r e := by
  unfold FP.Core.sumUnits FP.Core.signed
  cases s <;> cases t <;> simp <;> omega
theorem val_sub (x y : UInt64) : FP.Core.val64 (FP.dsub x y) = FP.Core.round FP.Core.b64 (FP.Core.exactSum (FP.Core.val64 x) (FP.Core.negate (FP.Core.val64 y))) := FP.Core.val64_dsub x y
theorem dsub_swap {x y : UInt64} {K : Nat} (hx : mg K x) (hy : mg K y) (hK : K ≤ 2045) : FP.dsub y x = FP.dneg (FP.dsub x y) ∨ FP.dsub y x = FP.dsub x y := by
  obtain ⟨s, c, q, ex⟩ := mg_fin hx (by omega)
  obtain ⟨t, d, r, ey⟩ := mg_fin hy (by omega)
  have hn : FP.Core.val64 (FP.dsub y x) ≠ .nan := mg_nn (mg_sub hy hx (by omega)) (by omega)
  have h1 := val_sub x y
  have h2 := val_sub y x
  rw [ex, ey] at h1 h2
  simp only [FP.Core.negate, FP.Core.exactSum] at h1 h2
  rw [sU_neg, Int.min_comm r q, Int.natAbs_neg] at h2
  generalize FP.Core.sumSign s (!t) (FP.Core.sumUnits s c q (!t) d r (min q r)) = S at h1
  generalize FP.Core.sumSign t (!s) (-FP.Core.sumUnits s c q (!t) d r (min q r)) = T at h2
  by_cases hST : T = S
  · right
    exact FP.Core.val64_inj hn (by rw [h2, h1, hST])
  · left
    have : T = !S := by cases S <;> cases T <;> simp_all
    refine FP.Core.val64_inj hn ?_
    rw [FP.val64_dneg, h2, h1, FP.Core.negate_round, this]
    rfl
theorem dmul_neg {x y : UInt64} {K L : Nat} (hx : mg K x) (hy : mg L y) (hK : K + L ≤ 3060 ∧ K ≤ 2047 ∧ L ≤ 2047) : FP.dmul (FP.dneg x) y = FP.dneg (FP.dmul x y) := by
  have hm := mg_mul (dneg_mg hx (by omega)) hy (by omega) (by omega)
  refine FP.Core.val64_inj (mg_nn hm (by omega)) ?_
  rw [FP.val64_dneg]
  show FP.Core.val64 (FP.Core.dmul _ _) = FP.Core.negate (FP.Core.val64 (FP.Core.dmul _ _))
  rw [FP.Core.val64_dmul, FP.Core.val64_dmul, FP.val64_dneg, FP.Core.exactProduct_negate, FP.Core.negate_round]
theorem dmul_cm (x y : UInt64) : FP.dmul x y = FP.dmul y x := FP.Core.dmul_comm x y
theorem dneg2 (x : UInt64) : FP.dneg (FP.dneg x) = x := by
  show (x ^^^ 0x8000000000000000) ^^^ 0x8000000000000000 = x
  rw [UInt64.xor_assoc, UInt64.xor_self, UInt64.xor_zero]
/-- the sign of u is not seen in a u u -/
theorem sq_swap {a u v : UInt64} {K L : Nat} (ha : mg K a) (hu : mg L u) (hs : K + 2 * L ≤ 4000 ∧ K ≤ 1400 ∧ L ≤ 1400) (h : v = FP.dneg u ∨ v = u) : FP.dmul (FP.dmul a v) v = FP.dmul (FP.dmul a u) u := by
  rcases h with h | h
  · subst h
    have e1 : FP.dmul a (FP.dneg u) = FP.dneg (FP.dmul a u) := by
      rw [dmul_cm, dmul_neg hu ha (by omega), dmul_cm]
    rw [e1, dmul_neg (mg_mul ha hu (by omega) (by omega)) (dneg_mg hu (by omega)) (by omega), dmul_cm, dmul_neg hu (mg_mul ha hu (by omega) (by omega)) (by omega), dneg2, dmul_cm]
  · rw [h]
theorem dneg_bits2 {x : UInt64} (h : 2 ^ 63 ≤ x.toNat) : ∃ y, x = FP.dneg y ∧ y.toNat + 2 ^ 63 = x.toNat := by
  refine ⟨FP.dneg x, (dneg2 x).symm, ?_⟩
  have := x.toNat_lt
  rw [dneg_bits (n := x.toNat - 2 ^ 63) (by omega) (by omega)]; omega
/-- a u u is not below 0 where a is not -/
theorem sq_pos {a u : UInt64} {K L : Nat} (ha : pw K a) (hu : mg L u) (hs : K + 2 * L ≤ 4000 ∧ K ≤ 1400 ∧ L ≤ 1400) : (FP.dmul (FP.dmul a u) u).toNat < 2 ^ 63 := by
  have haf : fnn a := pw_fnn ha (by omega)
  have key : ∀ w : UInt64, mg L w → w.toNat < 2 ^ 63 → (FP.dmul (FP.dmul a w) w).toNat < 2 ^ 63 := fun w hw h => by
    have hwf : fnn w := pw_fnn (mg_pw hw h) (by omega)
    have h1 := (dmul_b haf hwf).1
    have h2 := mg_pw (mg_mul (pw_mg ha (by omega)) hw (by omega) (by omega)) h1
    exact (dmul_b (pw_fnn h2 (by omega)) hwf).1
  rcases Nat.lt_or_ge u.toNat (2 ^ 63) with h | h
  · exact key u hu h
  · obtain ⟨y, hy, hy2⟩ := dneg_bits2 h
    have hym : mg L y := by rw [← dneg2 y, ← hy]; exact dneg_mg hu (by omega)
    rw [sq_swap (u := y) (pw_mg ha (by omega)) hym hs (Or.inl hy)]
    exact key y hym (by have := u.toNat_lt; omega)
theorem sq_pos1 {u : UInt64} {L : Nat} (hu : mg L u) (hs : L ≤ 1400) : (FP.dmul u u).toNat < 2 ^ 63 := by
  rcases Nat.lt_or_ge u.toNat (2 ^ 63) with h | h
  · have hwf : fnn u := pw_fnn (mg_pw hu h) (by omega)
    exact (dmul_b hwf hwf).1
  · obtain ⟨y, hy, hy2⟩ := dneg_bits2 h
    have hym : mg L y := by rw [← dneg2 y, ← hy]; exact dneg_mg hu (by omega)
    have hyf : fnn y := pw_fnn (mg_pw hym (by have := u.toNat_lt; omega)) (by omega)
    rw [hy, dmul_neg hym (dneg_mg hym (by omega)) (by omega), dmul_cm, dmul_neg hym hym (by omega), dneg2]
    exact (dmul_b hyf hyf).1
/-! ===== whole bounds above (iv), powers below (lw) ===== -/
/-- not below 0, finite, at most c -/
def iv (c : Nat) (x : UInt64) : Prop := un x.toNat ≤ c * 2 ^ 1074 ∧ fnn x
def lw (L : Nat) (x : UInt64) : Prop := x.toNat = 0 ∨ L * 2 ^ 52 ≤ x.toNat
theorem k52 {K : Nat} (h : K ≤ 2046) : K * 2 ^ 52 ≤ dInf := Nat.le_trans (Nat.mul_le_mul_right _ h) (show 2046 * 2 ^ 52 ≤ 9218868437227405312 by decide)
theorem iv_mono {c d : Nat} {x : UInt64} (h : iv c x) (hc : c ≤ d) : iv d x := ⟨Nat.le_trans h.1 (Nat.mul_le_mul_right _ hc), h.2⟩
theorem lw_mono {L M : Nat} {x : UInt64} (h : lw L x) (hL : M ≤ L) : lw M x := h.imp id (fun h => Nat.le_trans (Nat.mul_le_mul_right _ hL) h)
theorem p1074 : 0 < 2 ^ 1074 := Nat.two_pow_pos _
theorem iv_mul {x y : UInt64} {c d : Nat} (hx : iv c x) (hy : iv d y) (h : c * d < 2 ^ 53) : iv (c * d) (FP.dmul x y) := by
  obtain ⟨m, hm, um⟩ := un_rep 1074 (c * d) h (by decide)
  have h1 := (dmul_b hx.2 hy.2).2.1 m (by
    rw [um]
    calc un x.toNat * un y.toNat ≤ (c * 2 ^ 1074) * (d * 2 ^ 1074) := mulle hx.1 hy.1
      _ = c * d * 2 ^ 1074 * 2 ^ 1074 := by rw [Nat.mul_mul_mul_comm, ← Nat.mul_assoc])
  exact ⟨by rw [← um]; exact un_le.mpr h1, Nat.lt_of_le_of_lt h1 hm⟩
theorem iv_add {x y : UInt64} {c d : Nat} (hx : iv c x) (hy : iv d y) (h : c + d < 2 ^ 53) : iv (c + d) (FP.dadd x y) := by
  obtain ⟨m, hm, um⟩ := un_rep 1074 (c + d) h (by decide)
  have h1 := (dadd_b hx.2 hy.2).2.1 m (by
    rw [um, Nat.add_mul]
    exact Nat.add_le_add hx.1 hy.1)
  exact ⟨by rw [← um]; exact un_le.mpr h1, Nat.lt_of_le_of_lt h1 hm⟩
theorem iv_sub {x y : UInt64} {c : Nat} (hx : iv c x) (hy : fnn y) (h : y.toNat ≤ x.toNat) : iv c (FP.dsub x y) := by
  have h1 := (dsub_b hx.2 hy h).2.1 x.toNat (Nat.le_add_right _ _)
  exact ⟨Nat.le_trans (un_le.mpr h1) hx.1, Nat.lt_of_le_of_lt h1 hx.2⟩
theorem iv_div {x y : UInt64} {c : Nat} (hx : iv c x) (hy : fnn y) (h : 1023 * 2 ^ 52 ≤ y.toNat) : iv c (FP.ddiv x y) := by
  have hu : 2 ^ 1074 ≤ un y.toNat := by
    have := un_le.mpr h
    rw [un_pw (by decide)] at this
    exact this
  have h1 := (ddiv_b hx.2 hy (by omega)).2.1 x.toNat (Nat.mul_le_mul_left _ hu)
  exact ⟨Nat.le_trans (un_le.mpr h1) hx.1, Nat.lt_of_le_of_lt h1 hx.2⟩
theorem iv_pw {x : UInt64} {c j : Nat} (h : iv c x) (hc : c < 2 ^ j) : pw (1023 + j) x := by
  refine pw_of_un ?_ (by omega)
  refine Nat.lt_of_le_of_lt h.1 (pow_lt_of hc (by omega))
theorem lw_un {L : Nat} {x : UInt64} (h : L * 2 ^ 52 ≤ x.toNat) (hL : 1 ≤ L) : 2 ^ (L + 51) ≤ un x.toNat := by
  rw [← un_pw hL]; exact un_le.mpr h
theorem lw_mul {x y : UInt64} {L M : Nat} (hx : lw L x) (hy : lw M y) (fx : fnn x) (fy : fnn y) (hL : 1 ≤ L) (hM : 1 ≤ M) (h : 1024 ≤ L + M) (hb : L + M ≤ 3000) : lw (L + M - 1023) (FP.dmul x y) := by
  rcases hx with hx | hx
  · left
    exact dmul_ex (m := 0) fx fy (Nat.zero_le _) (by rw [hx, un_0, Nat.zero_mul, Nat.zero_mul])
  rcases hy with hy | hy
  · left
    exact dmul_ex (m := 0) fx fy (Nat.zero_le _) (by rw [hy, un_0, Nat.mul_zero, Nat.zero_mul])
  right
  refine (dmul_b fx fy).2.2 ((L + M - 1023) * 2 ^ 52) (k52 (by omega)) ?_
  rw [un_pw (by omega)]
  have := mulle (lw_un hx hL) (lw_un hy hM)
  rw [← Nat.pow_add] at this ⊢
  exact Nat.le_trans (Nat.le_of_eq (pow_e (by omega))) this
theorem lw_div {x y : UInt64} {L J : Nat} (hx : lw L x) (fx : fnn x) (fy : fnn y) (hy : pw J y) (hy0 : y.toNat ≠ 0) (hL : 1 ≤ L) (hJ : J < L + 1023) (hJ1 : 1 ≤ J) (hb : L ≤ 1500 + J - 1023) : lw (L + 1023 - J) (FP.ddiv x y) := by
  rcases hx with hx | hx
  · left
    exact ddiv_ex (m := 0) fx fy hy0 (Nat.zero_le _) (by rw [hx, un_0, Nat.zero_mul, Nat.zero_mul])
  right
  refine (ddiv_b fx fy hy0).2.2 ((L + 1023 - J) * 2 ^ 52) (k52 (by omega)) ?_
  rw [un_pw (by omega)]
  have h1 := Nat.mul_le_mul_left (2 ^ (L + 1023 - J + 51)) (Nat.le_of_lt (pw_un hy hJ1))
  have h2 := Nat.mul_le_mul_right (2 ^ 1074) (lw_un hx hL)
  rw [← Nat.pow_add] at h1 h2
  exact Nat.le_trans h1 (Nat.le_trans (Nat.le_of_eq (pow_e (by omega))) h2)
theorem lw_add {x y : UInt64} {L : Nat} (hx : lw L x) (hy : lw L y) (fx : fnn x) (fy : fnn y) (hb : L ≤ 2046) : lw L (FP.dadd x y) := by
  have hLb : L * 2 ^ 52 ≤ 9218868437227405312 := by omega
  rcases hx with hx | hx
  · rcases hy with hy | hy
    · left
      exact dadd_ex (m := 0) fx fy (Nat.zero_le _) (by rw [hx, hy, un_0])
    · right
      refine (dadd_b fx fy).2.2 _ hLb ?_
      exact Nat.le_trans (un_le.mpr hy) (Nat.le_add_left _ _)
  · right
    refine (dadd_b fx fy).2.2 _ hLb ?_
    exact Nat.le_trans (un_le.mpr hx) (Nat.le_add_right _ _)
theorem lw_dvd {x : UInt64} {L : Nat} (hx : lw L x) (hL : 1 ≤ L) : 2 ^ (L - 1) ∣ un x.toNat := by
  rcases hx with hx | hx
  · rw [hx, un_0]; exact Nat.dvd_zero _
  · rw [un_hi (by omega)]
    exact Nat.dvd_mul_left_of_dvd (Nat.pow_dvd_pow 2 (by omega)) _
theorem lw_sub {x y : UInt64} {L : Nat} (hx : lw L x) (hy : lw L y) (fx : fnn x) (fy : fnn y) (h : y.toNat ≤ x.toNat) (hL : 53 ≤ L) (hb : L ≤ 2046) : lw (L - 52) (FP.dsub x y) := by
  rcases Nat.lt_or_eq_of_le h with h1 | h1
  · right
    refine (dsub_b fx fy h).2.2 ((L - 52) * 2 ^ 52) (k52 (by omega)) ?_
    rw [un_pw (by omega), show L - 52 + 51 = L - 1 by omega]
    obtain ⟨a, ea⟩ := lw_dvd hx (by omega)
    obtain ⟨b, eb⟩ := lw_dvd hy (by omega)
    have hlt := un_lt.mpr h1
    rw [ea, eb] at hlt ⊢
    have : b < a := Nat.lt_of_mul_lt_mul_left hlt
    calc 2 ^ (L - 1) + 2 ^ (L - 1) * b = 2 ^ (L - 1) * (b + 1) := by rw [Nat.mul_add, Nat.mul_one, Nat.add_comm]
      _ ≤ 2 ^ (L - 1) * a := Nat.mul_le_mul_left _ this
  · left
    have h2 := (dsub_b fx fy h).2.1 0 (by rw [h1, un_0, Nat.zero_add]; exact Nat.le_refl _)
    omega
