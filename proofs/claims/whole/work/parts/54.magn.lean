/-! ===== magnitudes, signs ===== -/
def mg (K : Nat) (x : UInt64) : Prop := x.toNat % 2 ^ 63 < K * 2 ^ 52
theorem mg_mono {K L : Nat} {x : UInt64} (h : mg K x) (hK : K ≤ L) : mg L x := Nat.lt_of_lt_of_le h (Nat.mul_le_mul_right _ hK)
theorem pw_mg {K : Nat} {x : UInt64} (h : pw K x) (hK : K ≤ 2047) : mg K x := by
  have := pw_fnn h hK
  unfold mg
  unfold pw at h
  rw [Nat.mod_eq_of_lt (Nat.lt_trans (show x.toNat < 9218868437227405312 from this) (by decide))]
  exact h
theorem mg_n64 {K : Nat} {x : UInt64} (h : mg K x) (hK : K ≤ 2047) : vf_n64 x := by
  refine n64.mpr ?_
  unfold mg at h
  have : K * 2 ^ 52 ≤ 2047 * 2 ^ 52 := Nat.mul_le_mul_right _ hK
  exact Nat.le_of_lt (Nat.lt_of_lt_of_le h this)
theorem mg_fin {K : Nat} {x : UInt64} (h : mg K x) (hK : K ≤ 2047) : ∃ s c q, FP.Core.val64 x = .fin s c q := FP.Core.fin_of_lt h hK
theorem mg_nn {K : Nat} {x : UInt64} (h : mg K x) (hK : K ≤ 2047) : FP.Core.val64 x ≠ .nan := by
  obtain ⟨s, c, q, e⟩ := mg_fin h hK
  rw [e]; exact FP.Core.Datum.noConfusion
theorem mg_mul {x y : UInt64} {K L : Nat} (hx : mg K x) (hy : mg L y) (hK : K ≤ 2047) (hL : L ≤ 2047) : mg (K + L - 1025 + 3) (FP.dmul x y) := FP.Core.dmul_mag hx hy hK hL
theorem mg_add {x y : UInt64} {K : Nat} (hx : mg K x) (hy : mg K y) (hK : K ≤ 2047) : mg (K + 2) (FP.dadd x y) := FP.Core.dadd_mag hx hy hK
theorem mg_sub {x y : UInt64} {K : Nat} (hx : mg K x) (hy : mg K y) (hK : K ≤ 2047) : mg (K + 2) (FP.dsub x y) := FP.Core.dsub_mag hx hy hK
theorem mg_pw {K : Nat} {x : UInt64} (h : mg K x) (h2 : x.toNat < 2 ^ 63) : pw K x := by
  unfold mg at h
  rw [Nat.mod_eq_of_lt h2] at h
  exact h
theorem dneg_mg {K : Nat} {x : UInt64} (h : mg K x) (hK : K ≤ 2047) : mg K (FP.dneg x) := by
  obtain ⟨s, c, q, e⟩ := mg_fin h hK
  have z1 := FP.Core.zmag_bits (a := x) (by rw [e]; exact FP.Core.Datum.noConfusion)
  have z2 := FP.Core.zmag_bits (a := FP.dneg x) (by rw [FP.val64_dneg, e]; exact FP.Core.Datum.noConfusion)
  have e2 : FP.Core.zmag FP.Core.b64 (FP.Core.val64 (FP.dneg x)) = FP.Core.zmag FP.Core.b64 (FP.Core.val64 x) := by
    rw [FP.val64_dneg, e]; rfl
  rw [z1, z2] at e2
  have e3 := un_inj e2
  unfold mg at h ⊢
  rw [e3]
  exact h
theorem sU_neg (s : Bool) (c : Nat) (q : Int) (t : Bool) (d : Nat) (r e : Int) : FP.Core.sumUnits t d r (!s) c q e = -FP.Core.sumUnits s c q (!t) d r e := by
  unfold FP.Core.sumUnits FP.Core.signed
  cases s <;> cases t <;> simp <;> omega
theorem val_sub (x y : UInt64) : FP.Core.val64 (FP.dsub x y) = FP.Core.round FP.Core.b64 (FP.Core.exactSum (FP.Core.val64 x) (FP.Core.negate (FP.Core.val64 y))) := FP.Core.val64_dsub x y
theorem dsub_swap {x y : UInt64} {K : Nat} (hx : mg K x) (hy : mg K y) (hK : K ≤ 2045) : FP.dsub y x = FP.dneg (FP.dsub x y) ∨ FP.dsub y x = FP.dsub x y := by
  obtain ⟨s, c, q, ex⟩ := mg_fin hx (by omega)
  obtain ⟨t, d, r, ey⟩ := mg_fin hy (by omega)
  have hn : FP.Core.val64 (FP.dsub y x) ≠ .nan := mg_nn (mg_sub hy hx (by omega)) (by omega)
  have h1 := val_sub x y
  have h2 := val_sub y x
  rw [ex, ey] at h1 h2
  simp only [FP.Core.negate, FP.Core.exactSum] at h1 h2
  rw [sU_neg, Int.min_comm r q, Int.natAbs_neg] at h2
  generalize FP.Core.sumSign s (!t) (FP.Core.sumUnits s c q (!t) d r (min q r)) = S at h1
  generalize FP.Core.sumSign t (!s) (-FP.Core.sumUnits s c q (!t) d r (min q r)) = T at h2
  by_cases hST : T = S
  · right
    exact FP.Core.val64_inj hn (by rw [h2, h1, hST])
  · left
    have : T = !S := by cases S <;> cases T <;> simp_all
    refine FP.Core.val64_inj hn ?_
    rw [FP.val64_dneg, h2, h1, FP.Core.negate_round, this]
    rfl
theorem dmul_neg {x y : UInt64} {K L : Nat} (hx : mg K x) (hy : mg L y) (hK : K + L ≤ 2047) : FP.dmul (FP.dneg x) y = FP.dneg (FP.dmul x y) := by
  have hm := mg_mul (dneg_mg hx (by omega)) hy (by omega) (by omega)
  refine FP.Core.val64_inj (mg_nn hm (by omega)) ?_
  rw [FP.val64_dneg]
  show FP.Core.val64 (FP.Core.dmul _ _) = FP.Core.negate (FP.Core.val64 (FP.Core.dmul _ _))
  rw [FP.Core.val64_dmul, FP.Core.val64_dmul, FP.val64_dneg, FP.Core.exactProduct_negate, FP.Core.negate_round]
theorem dmul_cm (x y : UInt64) : FP.dmul x y = FP.dmul y x := FP.Core.dmul_comm x y
theorem dneg2 (x : UInt64) : FP.dneg (FP.dneg x) = x := by
  show (x ^^^ 0x8000000000000000) ^^^ 0x8000000000000000 = x
  rw [UInt64.xor_assoc, UInt64.xor_self, UInt64.xor_zero]
/-- the sign of u is not seen in a u u -/
theorem sq_swap {a u v : UInt64} {K L : Nat} (ha : mg K a) (hu : mg L u) (hs : 2 * K + 2 * L ≤ 2000) (h : v = FP.dneg u ∨ v = u) : FP.dmul (FP.dmul a v) v = FP.dmul (FP.dmul a u) u := by
  rcases h with h | h
  · subst h
    have e1 : FP.dmul a (FP.dneg u) = FP.dneg (FP.dmul a u) := by
      rw [dmul_cm, dmul_neg hu ha (by omega), dmul_cm]
    rw [e1, dmul_neg (mg_mul ha hu (by omega) (by omega)) (dneg_mg hu (by omega)) (by omega), dmul_cm, dmul_neg hu (mg_mul ha hu (by omega) (by omega)) (by omega), dneg2, dmul_cm]
  · rw [h]
theorem dneg_bits2 {x : UInt64} (h : 2 ^ 63 ≤ x.toNat) : ∃ y, x = FP.dneg y ∧ y.toNat + 2 ^ 63 = x.toNat := by
  refine ⟨FP.dneg x, (dneg2 x).symm, ?_⟩
  have := x.toNat_lt
  rw [dneg_bits (n := x.toNat - 2 ^ 63) (by omega) (by omega)]; omega
/-- a u u is not below 0 where a is not -/
theorem sq_pos {a u : UInt64} {K L : Nat} (ha : pw K a) (hu : mg L u) (hs : 2 * K + 2 * L ≤ 2000) : (FP.dmul (FP.dmul a u) u).toNat < 2 ^ 63 := by
  have haf : fnn a := pw_fnn ha (by omega)
  have key : ∀ w : UInt64, mg L w → w.toNat < 2 ^ 63 → (FP.dmul (FP.dmul a w) w).toNat < 2 ^ 63 := fun w hw h => by
    have hwf : fnn w := pw_fnn (mg_pw hw h) (by omega)
    have h1 := (dmul_b haf hwf).1
    have h2 := mg_pw (mg_mul (pw_mg ha (by omega)) hw (by omega) (by omega)) h1
    exact (dmul_b (pw_fnn h2 (by omega)) hwf).1
  rcases Nat.lt_or_ge u.toNat (2 ^ 63) with h | h
  · exact key u hu h
  · obtain ⟨y, hy, hy2⟩ := dneg_bits2 h
    have hym : mg L y := by rw [← dneg2 y, ← hy]; exact dneg_mg hu (by omega)
    rw [sq_swap (u := y) (pw_mg ha (by omega)) hym hs (Or.inl hy)]
    exact key y hym (by have := u.toNat_lt; omega)
theorem sq_pos1 {u : UInt64} {L : Nat} (hu : mg L u) (hs : 2 * L ≤ 2000) : (FP.dmul u u).toNat < 2 ^ 63 := by
  rcases Nat.lt_or_ge u.toNat (2 ^ 63) with h | h
  · have hwf : fnn u := pw_fnn (mg_pw hu h) (by omega)
    exact (dmul_b hwf hwf).1
  · obtain ⟨y, hy, hy2⟩ := dneg_bits2 h
    have hym : mg L y := by rw [← dneg2 y, ← hy]; exact dneg_mg hu (by omega)
    have hyf : fnn y := pw_fnn (mg_pw hym (by have := u.toNat_lt; omega)) (by omega)
    rw [hy, dmul_neg hym (dneg_mg hym (by omega)) (by omega), dmul_cm, dmul_neg hym hym (by omega), dneg2]
    exact (dmul_b hyf hyf).1
