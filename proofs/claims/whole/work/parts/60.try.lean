/-- the error of a step -/
theorem nt_err {A B r N E L b : Nat} (h1 : 2 * (A * B) ≤ A * A + N + 16 * A) (h2 : A * A + N ≤ 2 * (A * B) + 16 * A) (hr1 : r * r ≤ N) (hr2 : N ≤ r * r + 2 * r) (e1 : A ≤ r + E) (e2 : r ≤ A + E) (hL : L ≤ A) (hr : r ≤ 2 * A) (hA : 0 < A) (hb : E * E ≤ 2 * L * b) : B ≤ r + (b + 10) ∧ r ≤ B + 8 := by
  have hd : (A : Int) * A + r * r ≤ 2 * (A * r) + E * E := by
    have : 0 ≤ ((E : Int) - (A - r)) * (E + (A - r)) := Int.mul_nonneg (by omega) (by omega)
    grind
  have hd0 : 2 * ((A : Int) * r) ≤ A * A + r * r := by
    have : 0 ≤ ((A : Int) - r) * (A - r) := by
      rcases Int.le_total (A : Int) r with h | h
      · have := Int.mul_nonneg (show (0 : Int) ≤ r - A by omega) (show (0 : Int) ≤ r - A by omega)
        grind
      · exact Int.mul_nonneg (by omega) (by omega)
    grind
  have hb2 : E * E ≤ 2 * A * b := Nat.le_trans hb (Nat.mul_le_mul_right _ (by omega))
  have a1 : 2 * ((A : Int) * B) ≤ A * A + N + 16 * A := by exact_mod_cast h1
  have a2 : (A : Int) * A + N ≤ 2 * (A * B) + 16 * A := by exact_mod_cast h2
  have a3 : (r : Int) * r ≤ N := by exact_mod_cast hr1
  have a4 : (N : Int) ≤ r * r + 2 * r := by exact_mod_cast hr2
  have a5 : (E : Int) * E ≤ 2 * A * b := by exact_mod_cast hb2
  have A0 : (0 : Int) < 2 * A := by omega
  constructor
  · have : 2 * (A : Int) * B ≤ 2 * A * (r + (b + 10)) := by
      have : (r : Int) ≤ 2 * A := by omega
      grind
    have := Int.le_of_mul_le_mul_left this A0
    omega
  · have : 2 * (A : Int) * r ≤ 2 * A * (B + 8) := by grind
    have := Int.le_of_mul_le_mul_left this A0
    omega
theorem sqrt_ex (N : Nat) : ∃ r, r * r ≤ N ∧ N ≤ r * r + 2 * r := by
  induction N with
  | zero => exact ⟨0, Nat.le_refl _, Nat.zero_le _⟩
  | succ n ih =>
    obtain ⟨r, h1, h2⟩ := ih
    by_cases h : n + 1 ≤ r * r + 2 * r
    · exact ⟨r, by omega, h⟩
    · have e : (r + 1) * (r + 1) = r * r + 2 * r + 1 := by rw [Nat.mul_add, Nat.add_mul]; omega
      exact ⟨r + 1, by omega, by omega⟩
/-- the first guess, in units of 2^-53: off by less than 7 in a hundred -/
theorem nt_start {S A r : Nat} (h1 : 33 * S + 69 * 2 ^ 53 ≤ 100 * A + 2500) (h2 : 100 * A ≤ 33 * S + 69 * 2 ^ 53 + 2500) (hr1 : r * r ≤ S * 2 ^ 53) (hr2 : S * 2 ^ 53 ≤ r * r + 2 * r) (hS : 2 ^ 53 ≤ S) (hS2 : S < 2 ^ 55) : 2 ^ 53 ≤ r ∧ r < 2 ^ 54 ∧ A ≤ r + 630503947831870 ∧ r ≤ A + 630503947831870 := by
  have g1 : 2 ^ 53 ≤ r := by
    refine Nat.le_of_not_lt (fun h => ?_)
    have : r * r ≤ (2 ^ 53 - 1) * (2 ^ 53 - 1) := mulle (by omega) (by omega)
    omega
  have g2 : r < 2 ^ 54 := by
    refine Nat.lt_of_not_le (fun h => ?_)
    have : 2 ^ 54 * 2 ^ 54 ≤ r * r := mulle h h
    omega
  have a3 : (r : Int) * r ≤ S * 2 ^ 53 := by exact_mod_cast hr1
  have a4 : (S : Int) * 2 ^ 53 ≤ r * r + 2 * r := by exact_mod_cast hr2
  refine ⟨g1, g2, ?_, ?_⟩
  · have p : 0 ≤ ((r : Int) - 2 ^ 53) * (2 ^ 54 - r) := Int.mul_nonneg (by omega) (by omega)
    have q : (r : Int) * r ≤ 3 * 2 ^ 53 * r - 2 * 2 ^ 106 := by grind
    omega
  · have p : 0 ≤ (66 * (r : Int) - 100 * 2 ^ 53) * (66 * (r : Int) - 100 * 2 ^ 53) := by
      rcases Int.le_total 0 (66 * (r : Int) - 100 * 2 ^ 53) with h | h
      · exact Int.mul_nonneg h h
      · have := Int.mul_nonneg (show (0 : Int) ≤ -(66 * (r : Int) - 100 * 2 ^ 53) by omega) (show (0 : Int) ≤ -(66 * (r : Int) - 100 * 2 ^ 53) by omega)
        grind
    have q : 4356 * ((r : Int) * r) ≥ 13200 * 2 ^ 53 * r - 10000 * 2 ^ 106 := by grind
    omega
