/-! loops of the functions -/
theorem lp_x {σ ρ : Type} {body : σ → Option (σ ⊕ ρ)} {s : σ} {r : ρ} {n : Nat} (h : body s = some (.inr r)) : lp body (n + 1) s = some r := by
  show (body s).bind _ = _
  rw [h]; rfl
theorem lp_s {σ ρ : Type} {body : σ → Option (σ ⊕ ρ)} {s s' : σ} {n : Nat} (h : body s = some (.inl s')) : lp body (n + 1) s = lp body n s' := by
  show (body s).bind _ = _
  rw [h]; rfl
/-- a loop whose states are known: N steps, then out -/
theorem lp_seq {σ ρ : Type} {body : σ → Option (σ ⊕ ρ)} (S : Nat → σ) {r : ρ} : ∀ (N n i : Nat), (∀ j, i ≤ j → j < i + N → body (S j) = some (.inl (S (j + 1)))) → body (S (i + N)) = some (.inr r) → N < n → lp body n (S i) = some r
  | 0, n, i, _, hx, hn => by
    obtain ⟨k, rfl⟩ : ∃ k, n = k + 1 := ⟨n - 1, by omega⟩
    exact lp_x hx
  | N + 1, n, i, hs, hx, hn => by
    obtain ⟨k, rfl⟩ : ∃ k, n = k + 1 := ⟨n - 1, by omega⟩
    rw [lp_s (hs i (Nat.le_refl i) (by omega))]
    exact lp_seq S N k (i + 1) (fun j h1 h2 => hs j (by omega) (by omega)) (by rw [show i + 1 + N = i + (N + 1) by omega]; exact hx) (by omega)
/-- a loop with an invariant over a counter, with an exit at any time -/
theorem lp_inv {σ ρ : Type} {body : σ → Option (σ ⊕ ρ)} (I : Nat → σ → Prop) (P : ρ → Prop) (N : Nat) (hs : ∀ i s, i ≤ N → I i s → (∃ r, body s = some (.inr r) ∧ P r) ∨ (i < N ∧ ∃ s', body s = some (.inl s') ∧ I (i + 1) s')) : ∀ (k n i : Nat) (s : σ), i + k = N → I i s → k < n → ∃ r, lp body n s = some r ∧ P r
  | 0, n, i, s, hi, h, hn => by
    obtain ⟨m, rfl⟩ : ∃ m, n = m + 1 := ⟨n - 1, by omega⟩
    rcases hs i s (by omega) h with ⟨r, h1, h2⟩ | ⟨h1, -⟩
    · exact ⟨r, lp_x h1, h2⟩
    · omega
  | k + 1, n, i, s, hi, h, hn => by
    obtain ⟨m, rfl⟩ : ∃ m, n = m + 1 := ⟨n - 1, by omega⟩
    rcases hs i s (by omega) h with ⟨r, h1, h2⟩ | ⟨h1, s', h2, h3⟩
    · exact ⟨r, lp_x h1, h2⟩
    · obtain ⟨r, h4, h5⟩ := lp_inv I P N hs k m (i + 1) s' (by omega) h3 (by omega)
      exact ⟨r, by rw [lp_s h2]; exact h4, h5⟩
theorem ck_t {β : Type} {c : Prop} [Decidable c] {x : Option β} (h : c) : ck c x = x := if_pos h
theorem nd_t {β : Type} {x : UInt64} {k : UInt64 → Option β} (h : vf_n64 x) : nd x k = k x := if_pos h
theorem nf_t {β : Type} {x : UInt32} {k : UInt32 → Option β} (h : vf_n32 x) : nf x k = k x := if_pos h
/-! numbers of the form 2 ^ j as doubles -/
theorem un_shift {m j : Nat} (h : 2 ^ 52 ≤ m) : un (m + j * 2 ^ 52) = un m * 2 ^ j := by
  rw [un_hi (by omega), un_hi h, Nat.add_mul_mod_self_right, Nat.mul_assoc, ← Nat.pow_add, Nat.add_mul_div_right _ _ (Nat.two_pow_pos 52)]
  congr 2
  have : 1 ≤ m / 2 ^ 52 := (Nat.le_div_iff_mul_le (Nat.two_pow_pos 52)).mpr (by omega)
  omega
theorem dmul_p2 {x P : UInt64} {p n : Nat} (hx : 2 ^ 52 ≤ x.toNat) (hP : P.toNat = p * 2 ^ 52) (hp : 1 ≤ p) (hp2 : p ≤ 2046) (hx2 : fnn x) (hn : x.toNat + p * 2 ^ 52 = n + 1023 * 2 ^ 52) (hn1 : 2 ^ 52 ≤ n) (hn2 : n < dInf) : (FP.dmul x P).toNat = n := by
  have hPf : fnn P := by
    unfold fnn; rw [hP]
    exact Nat.lt_of_le_of_lt (Nat.mul_le_mul_right _ hp2) (show 2046 * 2 ^ 52 < dInf by decide +kernel)
  refine dmul_ex hx2 hPf (Nat.le_of_lt hn2) ?_
  rw [hP, un_pw hp]
  have e1 := un_shift (m := x.toNat) (j := p) hx
  have e2 := un_shift (m := n) (j := 1023) hn1
  rw [hn, e2] at e1
  have e3 : 2 ^ (p + 51) = 2 ^ p * 2 ^ 51 := Nat.pow_add ..
  have e4 : (2 : Nat) ^ 1074 = 2 ^ 1023 * 2 ^ 51 := (Nat.pow_add 2 1023 51)
  rw [e3, e4, ← Nat.mul_assoc, ← Nat.mul_assoc, ← e1]
/-- doubling (and more) of what may be small -/
theorem un_ck {m : Nat} (h : m < dInf) : ∃ c k, c < 2 ^ 53 ∧ k ≤ 2045 ∧ un m = c * 2 ^ k := by
  by_cases h2 : m < 2 ^ 52
  · exact ⟨m, 0, by omega, by omega, by rw [un_lo h2]; omega⟩
  · refine ⟨2 ^ 52 + m % 2 ^ 52, m / 2 ^ 52 - 1, by omega, ?_, un_hi (by omega)⟩
    have : m < 9218868437227405312 := h
    omega
theorem dmul_up {x P : UInt64} {j : Nat} (hx : fnn x) (hP : P.toNat = (1023 + j) * 2 ^ 52) (hj : j ≤ 140) (hs : un x.toNat < 2 ^ 1900) : fnn (FP.dmul x P) ∧ un (FP.dmul x P).toNat = un x.toNat * 2 ^ j := by
  have hPf : fnn P := by
    unfold fnn; rw [hP]
    exact Nat.lt_of_le_of_lt (Nat.mul_le_mul_right (2 ^ 52) (show 1023 + j ≤ 2023 by omega)) (show 2023 * 2 ^ 52 < dInf by decide +kernel)
  have key : ∃ m, m < dInf ∧ un m = un x.toNat * 2 ^ j := by
    by_cases h2 : x.toNat < 2 ^ 52
    · rw [un_lo h2]; exact un_rep j _ (by omega) (by omega)
    · obtain ⟨c, k, h3, h4, h5⟩ := un_ck hx
      have hx' : 2 ^ 52 ≤ x.toNat := by omega
      have hk : x.toNat / 2 ^ 52 - 1 < 1900 := by
        refine Nat.lt_of_not_le (fun h => ?_)
        rw [un_hi hx'] at hs
        have h6 : 2 ^ 1900 ≤ 2 ^ (x.toNat / 2 ^ 52 - 1) := Nat.pow_le_pow_right (by decide) h
        have h7 : 1 * 2 ^ (x.toNat / 2 ^ 52 - 1) ≤ (2 ^ 52 + x.toNat % 2 ^ 52) * 2 ^ (x.toNat / 2 ^ 52 - 1) := Nat.mul_le_mul_right _ (by omega)
        omega
      rw [un_hi hx', Nat.mul_assoc, ← Nat.pow_add]
      by_cases h8 : x.toNat / 2 ^ 52 - 1 + j ≤ 2045
      · exact un_rep _ _ (by omega) h8
      · exfalso
        omega
  obtain ⟨m, h1, h2⟩ := key
  have e : (FP.dmul x P).toNat = m := dmul_ex hx hPf (Nat.le_of_lt h1) (by
    rw [h2, hP, un_pw (by omega), Nat.mul_assoc, ← Nat.pow_add]; congr 2; omega)
  exact ⟨by unfold fnn; rw [e]; exact h1, by rw [e, h2]⟩
