/-! ===== whole bounds above (iv), powers below (lw) ===== -/
/-- not below 0, finite, at most c -/
def iv (c : Nat) (x : UInt64) : Prop := un x.toNat ≤ c * 2 ^ 1074 ∧ fnn x
def lw (L : Nat) (x : UInt64) : Prop := x.toNat = 0 ∨ L * 2 ^ 52 ≤ x.toNat
theorem k52 {K : Nat} (h : K ≤ 2046) : K * 2 ^ 52 ≤ dInf := Nat.le_trans (Nat.mul_le_mul_right _ h) (show 2046 * 2 ^ 52 ≤ 9218868437227405312 by decide)
theorem iv_mono {c d : Nat} {x : UInt64} (h : iv c x) (hc : c ≤ d) : iv d x := ⟨Nat.le_trans h.1 (Nat.mul_le_mul_right _ hc), h.2⟩
theorem lw_mono {L M : Nat} {x : UInt64} (h : lw L x) (hL : M ≤ L) : lw M x := h.imp id (fun h => Nat.le_trans (Nat.mul_le_mul_right _ hL) h)
theorem p1074 : 0 < 2 ^ 1074 := Nat.two_pow_pos _
theorem iv_mul {x y : UInt64} {c d : Nat} (hx : iv c x) (hy : iv d y) (h : c * d < 2 ^ 53) : iv (c * d) (FP.dmul x y) := by
  obtain ⟨m, hm, um⟩ := un_rep 1074 (c * d) h (by decide)
  have h1 := (dmul_b hx.2 hy.2).2.1 m (by
    rw [um]
    calc un x.toNat * un y.toNat ≤ (c * 2 ^ 1074) * (d * 2 ^ 1074) := mulle hx.1 hy.1
      _ = c * d * 2 ^ 1074 * 2 ^ 1074 := by rw [Nat.mul_mul_mul_comm, ← Nat.mul_assoc])
  exact ⟨by rw [← um]; exact un_le.mpr h1, Nat.lt_of_le_of_lt h1 hm⟩
theorem iv_add {x y : UInt64} {c d : Nat} (hx : iv c x) (hy : iv d y) (h : c + d < 2 ^ 53) : iv (c + d) (FP.dadd x y) := by
  obtain ⟨m, hm, um⟩ := un_rep 1074 (c + d) h (by decide)
  have h1 := (dadd_b hx.2 hy.2).2.1 m (by
    rw [um, Nat.add_mul]
    exact Nat.add_le_add hx.1 hy.1)
  exact ⟨by rw [← um]; exact un_le.mpr h1, Nat.lt_of_le_of_lt h1 hm⟩
theorem iv_sub {x y : UInt64} {c : Nat} (hx : iv c x) (hy : fnn y) (h : y.toNat ≤ x.toNat) : iv c (FP.dsub x y) := by
  have h1 := (dsub_b hx.2 hy h).2.1 x.toNat (Nat.le_add_right _ _)
  exact ⟨Nat.le_trans (un_le.mpr h1) hx.1, Nat.lt_of_le_of_lt h1 hx.2⟩
theorem iv_div {x y : UInt64} {c : Nat} (hx : iv c x) (hy : fnn y) (h : 1023 * 2 ^ 52 ≤ y.toNat) : iv c (FP.ddiv x y) := by
  have hu : 2 ^ 1074 ≤ un y.toNat := by
    have := un_le.mpr h
    rw [un_pw (by decide)] at this
    exact this
  have h1 := (ddiv_b hx.2 hy (by omega)).2.1 x.toNat (Nat.mul_le_mul_left _ hu)
  exact ⟨Nat.le_trans (un_le.mpr h1) hx.1, Nat.lt_of_le_of_lt h1 hx.2⟩
theorem iv_pw {x : UInt64} {c j : Nat} (h : iv c x) (hc : c < 2 ^ j) : pw (1023 + j) x := by
  refine pw_of_un ?_ (by omega)
  refine Nat.lt_of_le_of_lt h.1 (pow_lt_of hc (by omega))
theorem lw_un {L : Nat} {x : UInt64} (h : L * 2 ^ 52 ≤ x.toNat) (hL : 1 ≤ L) : 2 ^ (L + 51) ≤ un x.toNat := by
  rw [← un_pw hL]; exact un_le.mpr h
theorem lw_mul {x y : UInt64} {L M : Nat} (hx : lw L x) (hy : lw M y) (fx : fnn x) (fy : fnn y) (hL : 1 ≤ L) (hM : 1 ≤ M) (h : 1024 ≤ L + M) (hb : L + M ≤ 3000) : lw (L + M - 1023) (FP.dmul x y) := by
  rcases hx with hx | hx
  · left
    exact dmul_ex (m := 0) fx fy (Nat.zero_le _) (by rw [hx, un_0, Nat.zero_mul, Nat.zero_mul])
  rcases hy with hy | hy
  · left
    exact dmul_ex (m := 0) fx fy (Nat.zero_le _) (by rw [hy, un_0, Nat.mul_zero, Nat.zero_mul])
  right
  refine (dmul_b fx fy).2.2 ((L + M - 1023) * 2 ^ 52) (k52 (by omega)) ?_
  rw [un_pw (by omega)]
  have := mulle (lw_un hx hL) (lw_un hy hM)
  rw [← Nat.pow_add] at this ⊢
  exact Nat.le_trans (Nat.le_of_eq (pow_e (by omega))) this
theorem lw_div {x y : UInt64} {L J : Nat} (hx : lw L x) (fx : fnn x) (fy : fnn y) (hy : pw J y) (hy0 : y.toNat ≠ 0) (hL : 1 ≤ L) (hJ : J < L + 1023) (hJ1 : 1 ≤ J) (hb : L ≤ 1500 + J - 1023) : lw (L + 1023 - J) (FP.ddiv x y) := by
  rcases hx with hx | hx
  · left
    exact ddiv_ex (m := 0) fx fy hy0 (Nat.zero_le _) (by rw [hx, un_0, Nat.zero_mul, Nat.zero_mul])
  right
  refine (ddiv_b fx fy hy0).2.2 ((L + 1023 - J) * 2 ^ 52) (k52 (by omega)) ?_
  rw [un_pw (by omega)]
  have h1 := Nat.mul_le_mul_left (2 ^ (L + 1023 - J + 51)) (Nat.le_of_lt (pw_un hy hJ1))
  have h2 := Nat.mul_le_mul_right (2 ^ 1074) (lw_un hx hL)
  rw [← Nat.pow_add] at h1 h2
  exact Nat.le_trans h1 (Nat.le_trans (Nat.le_of_eq (pow_e (by omega))) h2)
theorem lw_add {x y : UInt64} {L : Nat} (hx : lw L x) (hy : lw L y) (fx : fnn x) (fy : fnn y) (hb : L ≤ 2046) : lw L (FP.dadd x y) := by
  have hLb : L * 2 ^ 52 ≤ 9218868437227405312 := by omega
  rcases hx with hx | hx
  · rcases hy with hy | hy
    · left
      exact dadd_ex (m := 0) fx fy (Nat.zero_le _) (by rw [hx, hy, un_0])
    · right
      refine (dadd_b fx fy).2.2 _ hLb ?_
      exact Nat.le_trans (un_le.mpr hy) (Nat.le_add_left _ _)
  · right
    refine (dadd_b fx fy).2.2 _ hLb ?_
    exact Nat.le_trans (un_le.mpr hx) (Nat.le_add_right _ _)
theorem lw_dvd {x : UInt64} {L : Nat} (hx : lw L x) (hL : 1 ≤ L) : 2 ^ (L - 1) ∣ un x.toNat := by
  rcases hx with hx | hx
  · rw [hx, un_0]; exact Nat.dvd_zero _
  · rw [un_hi (by omega)]
    exact Nat.dvd_mul_left_of_dvd (Nat.pow_dvd_pow 2 (by omega)) _
theorem lw_sub {x y : UInt64} {L : Nat} (hx : lw L x) (hy : lw L y) (fx : fnn x) (fy : fnn y) (h : y.toNat ≤ x.toNat) (hL : 53 ≤ L) (hb : L ≤ 2046) : lw (L - 52) (FP.dsub x y) := by
  rcases Nat.lt_or_eq_of_le h with h1 | h1
  · right
    refine (dsub_b fx fy h).2.2 ((L - 52) * 2 ^ 52) (k52 (by omega)) ?_
    rw [un_pw (by omega), show L - 52 + 51 = L - 1 by omega]
    obtain ⟨a, ea⟩ := lw_dvd hx (by omega)
    obtain ⟨b, eb⟩ := lw_dvd hy (by omega)
    have hlt := un_lt.mpr h1
    rw [ea, eb] at hlt ⊢
    have : b < a := Nat.lt_of_mul_lt_mul_left hlt
    calc 2 ^ (L - 1) + 2 ^ (L - 1) * b = 2 ^ (L - 1) * (b + 1) := by rw [Nat.mul_add, Nat.mul_one, Nat.add_comm]
      _ ≤ 2 ^ (L - 1) * a := Nat.mul_le_mul_left _ this
  · left
    have h2 := (dsub_b fx fy h).2.1 0 (by rw [h1, un_0, Nat.zero_add]; exact Nat.le_refl _)
    omega
