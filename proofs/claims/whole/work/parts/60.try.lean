/-! ===== the band of a quotient: never above 2 ===== -/
theorem rtS_un {n : Nat} (h1 : 500 * 2 ^ 52 ≤ n) (h2 : n < 1500 * 2 ^ 52) : (rtS n * 2 ^ 52) * 2 ^ (2 * ((n / 2 ^ 52 + 919) / 2 + 51)) = un n * 2 ^ 1074 := by
  obtain ⟨E, hE⟩ : ∃ E, E = n / 2 ^ 52 := ⟨_, rfl⟩
  obtain ⟨f, hf⟩ : ∃ f, f = n % 2 ^ 52 := ⟨_, rfl⟩
  have hE1 : 500 ≤ E := by omega
  rw [un_hi (by omega)]
  unfold rtS
  rw [← hE, ← hf]
  by_cases o : E % 2 = 1
  · rw [if_pos o, Nat.mul_assoc, Nat.mul_assoc, ← Nat.pow_add, ← Nat.pow_add, pow_e (show 52 + 2 * ((E + 919) / 2 + 51) = E - 1 + 1074 by omega)]
  · rw [if_neg o, Nat.mul_comm 2, Nat.mul_assoc, Nat.mul_assoc, Nat.mul_assoc, ← Nat.pow_add, ← Nat.pow_add, ← Nat.pow_succ', pow_e (show 52 + 2 * ((E + 919) / 2 + 51) + 1 = E - 1 + 1074 by omega)]
theorem un_succ {n : Nat} (h : 2 ^ 52 ≤ n) : un (n + 1) ≤ un n + un n / 2 ^ 52 := by
  obtain ⟨E, hE⟩ : ∃ E, E = n / 2 ^ 52 := ⟨_, rfl⟩
  obtain ⟨f, hf⟩ : ∃ f, f = n % 2 ^ 52 := ⟨_, rfl⟩
  have e1 : un n = (2 ^ 52 + f) * 2 ^ (E - 1) := by rw [un_hi h, ← hE, ← hf]
  have e2 : un (n + 1) = (2 ^ 52 + f) * 2 ^ (E - 1) + 2 ^ (E - 1) := by
    by_cases g : f + 1 = 2 ^ 52
    · rw [un_hi (by omega), show (n + 1) % 2 ^ 52 = 0 by omega, show (n + 1) / 2 ^ 52 = E + 1 by omega, show E + 1 - 1 = E - 1 + 1 by omega, Nat.pow_succ, show f = 4503599627370495 by omega]
      omega
    · rw [un_hi (by omega), show (n + 1) % 2 ^ 52 = f + 1 by omega, show (n + 1) / 2 ^ 52 = E by omega, ← Nat.succ_mul]
      rfl
  rw [e1, e2]
  refine Nat.add_le_add_left ?_ _
  refine (Nat.le_div_iff_mul_le (by decide)).mpr ?_
  rw [Nat.mul_comm]
  exact Nat.mul_le_mul_right _ (Nat.le_add_right _ _)
/-- the sum under the root -/
def bdR (q : UInt64) : UInt64 := FP.dadd (FP.dmul q q) (FP.dmul (4611686018427387904 : UInt64) q)
theorem bd_sq {q : UInt64} {c : Nat} (hq : iv c q) (hc : c ≤ 2 ^ 50) (hl : 600 * 2 ^ 52 ≤ q.toNat) : fnn (FP.dmul q q) ∧ fnn (FP.dmul (4611686018427387904 : UInt64) q) ∧ 500 * 2 ^ 52 ≤ (bdR q).toNat ∧ (bdR q).toNat < 1400 * 2 ^ 52 ∧ un q.toNat * un q.toNat ≤ un (bdR q).toNat * 2 ^ 1074 := by
  obtain ⟨h1, hf⟩ := hq
  have hp : pw 1074 q := iv_pw (j := 51) ⟨h1, hf⟩ (by omega)
  have p2 : pw 1126 (FP.dmul q q) := pw_mono (dmul_pw hp hp (by decide) (by decide) (by decide) (by decide) (by decide) (by decide)) (by decide)
  have f2 : fnn (FP.dmul q q) := pw_fnn p2 (by decide)
  have l2 : lw 177 (FP.dmul q q) := lw_mono (lw_mul (Or.inr hl) (Or.inr hl) hf hf (by decide) (by decide) (by decide) (by decide)) (by decide)
  obtain ⟨F, k, hF, hk, uF⟩ := un_ck hf
  have hq0 : 0 < un q.toNat := Nat.pos_of_ne_zero (fun h => by have := un_z.mp h; omega)
  obtain ⟨f3, u3⟩ := dmul_up (x := q) (P := (4611686018427387904 : UInt64)) (j := 1) hf (by decide +kernel) (by decide) (Nat.lt_of_le_of_lt h1 (pow_lt_of (j := 53) (by omega) (by decide)))
  rw [dmul_cm] at f3 u3
  have p3 : pw 1126 (FP.dmul (4611686018427387904 : UInt64) q) := by
    refine pw_of_un ?_ (by decide)
    rw [u3, Nat.pow_one, Nat.mul_comm]
    exact Nat.lt_of_lt_of_le ((Nat.mul_lt_mul_left (by decide)).mpr (pw_un hp (by decide))) (by rw [← Nat.pow_succ']; exact Nat.pow_le_pow_right (by decide) (by decide))
  have p4 : pw 1128 (bdR q) := pw_mono (dadd_pw p2 p3 (by decide) (by decide)) (by decide)
  have hb := dadd_b f2 f3
  refine ⟨f2, f3, ?_, Nat.lt_trans p4 (by decide), ?_⟩
  · refine hb.2.2 (500 * 2 ^ 52) (k52 (by decide)) ?_
    have : un (500 * 2 ^ 52) ≤ un q.toNat := un_le.mpr (by omega)
    rw [u3]; omega
  · -- the product's successor lies between
    have hm := dmul_b hf hf
    have hv : 2 ^ 52 ≤ (FP.dmul q q).toNat := by
      rcases l2 with h | h
      · exfalso
        have := hm.2.2 1 (by decide) (by
          rw [un_lo (by decide), Nat.one_mul]
          have := mulle (lw_un hl (by decide)) (lw_un hl (by decide))
          rw [← Nat.pow_add] at this
          exact Nat.le_trans (Nat.pow_le_pow_right (by decide) (by decide)) this)
        omega
      · omega
    have e1 : un q.toNat * un q.toNat ≤ un ((FP.dmul q q).toNat + 1) * 2 ^ 1074 := by
      refine Nat.le_of_not_lt (fun h => ?_)
      have : (FP.dmul q q).toNat + 1 ≤ dInf := f2
      have := hm.2.2 _ this (Nat.le_of_lt h)
      omega
    refine Nat.le_trans e1 (Nat.mul_le_mul_right _ (un_le.mpr ?_))
    refine hb.2.2 _ f2 ?_
    refine Nat.le_trans (un_succ hv) (Nat.add_le_add_left ?_ _)
    obtain ⟨m, hm1, um⟩ := un_rep (k + 50) F hF (by
      have : 2 ^ k ≤ un q.toNat := by
        rw [uF]
        exact Nat.le_mul_of_pos_left _ (Nat.pos_of_ne_zero (fun h => by rw [uF, h, Nat.zero_mul] at hq0; omega))
      have h2 : 2 ^ k < 2 ^ 1125 := Nat.lt_of_le_of_lt (Nat.le_trans this h1) (pow_lt_of (j := 51) (by omega) (by decide))
      have := (Nat.pow_lt_pow_iff_right (show 1 < 2 by decide)).mp h2
      omega)
    have e2 : (FP.dmul q q).toNat ≤ m := by
      refine hm.2.1 m ?_
      rw [um, Nat.pow_add, ← Nat.mul_assoc, ← uF, Nat.mul_assoc]
      exact Nat.mul_le_mul_left _ (Nat.le_trans h1 (Nat.mul_le_mul_right _ hc))
    have e3 := un_le.mpr e2
    rw [um, Nat.pow_add, ← Nat.mul_assoc, ← uF] at e3
    rw [u3]
    omega
/-- the root is not below the quotient -/
theorem bd_root {q y : UInt64} {r : Nat} (hf : fnn q) (h1 : 500 * 2 ^ 52 ≤ (bdR q).toNat) (h2 : (bdR q).toNat < 1400 * 2 ^ 52) (h3 : un q.toNat * un q.toNat ≤ un (bdR q).toNat * 2 ^ 1074) (hr : isRoot (rtS (bdR q).toNat * 2 ^ 52) r) (hy : un y.toNat = r * 2 ^ (((bdR q).toNat / 2 ^ 52 + 919) / 2 + 51)) : un q.toNat ≤ un y.toNat := by
  have hS := rtS_un h1 (by omega)
  rw [← hS] at h3
  obtain ⟨j, hj⟩ : ∃ j, j = ((bdR q).toNat / 2 ^ 52 + 919) / 2 + 51 := ⟨_, rfl⟩
  rw [← hj] at h3 hy
  clear hS
  rw [hy]
  refine Nat.le_of_not_lt (fun h => ?_)
  obtain ⟨F, k, hF, hk, uF⟩ := un_ck hf
  have hr52 : 2 ^ 52 ≤ r := by
    refine Nat.le_of_not_lt (fun g => ?_)
    have hb := (rtS_b (bdR q).toNat).1
    have := hr.2
    have a1 : r * r ≤ (2 ^ 52 - 1) * (2 ^ 52 - 1) := mulle (by omega) (by omega)
    have a2 : 2 ^ 52 * 2 ^ 52 ≤ rtS (bdR q).toNat * 2 ^ 52 := Nat.mul_le_mul_right _ hb
    omega
  have hjk : j ≤ k := by
    refine Nat.le_of_not_lt (fun g => ?_)
    have a1 : F * 2 ^ k ≤ (2 ^ 53 - 1) * 2 ^ (j - 1) := mulle (by omega) (Nat.pow_le_pow_right (by decide) (by omega))
    have a2 : 2 ^ 52 * 2 ^ j ≤ r * 2 ^ j := Nat.mul_le_mul_right _ hr52
    have a3 : 2 ^ j = 2 * 2 ^ (j - 1) := by rw [← Nat.pow_succ', pow_e (show j = j - 1 + 1 by omega)]
    have a4 : 0 < 2 ^ (j - 1) := Nat.two_pow_pos _
    rw [uF] at h
    omega
  obtain ⟨i, rfl⟩ : ∃ i, k = i + j := ⟨k - j, by omega⟩
  have uQ : un q.toNat = (F * 2 ^ i) * 2 ^ j := by rw [uF, Nat.pow_add, Nat.mul_assoc]
  rw [uQ] at h h3
  have h4 : r < F * 2 ^ i := Nat.lt_of_mul_lt_mul_right h
  have h5 : (F * 2 ^ i) * (F * 2 ^ i) ≤ rtS (bdR q).toNat * 2 ^ 52 := by
    refine Nat.le_of_mul_le_mul_right ?_ (Nat.two_pow_pos (2 * j))
    refine Nat.le_trans (Nat.le_of_eq ?_) h3
    rw [Nat.mul_mul_mul_comm (F * 2 ^ i), ← Nat.pow_add, pow_e (show 2 * j = j + j by omega)]
  have h6 : (r + 1) * (r + 1) ≤ (F * 2 ^ i) * (F * 2 ^ i) := mulle h4 h4
  have := hr.2
  rw [Nat.mul_add, Nat.add_mul] at h6
  omega
