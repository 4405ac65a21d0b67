/-! ===== the layout of a new object of the class ===== -/
def fmH (k : Nat) : Nat := if k < 5 then k else if k < 6 then 5 else if k < 14 then 6 else if k < 18 then k - 7 else if k < 19 then 11 else if k < 25 then 12 else if k < 47 then fmX9 (k - 25) else if k < 48 then 14 else if k < 51 then fmX6 (k - 48) else if k < 59 then fmX8 (k - 51) else if k < 67 then fmX8 (k - 59) else if k < 70 then fmX5 (k - 67) else if k < 193 then fmX0 (k - 70) else if k < 313 then fmX2 ((k - 193) % 3) else if k < 421 then fmX3 ((k - 313) % 9) else if k < 457 then fmX10 ((k - 421) % 3) else if k < 477 then fmX4 0 else fmX1 ((k - 477) % 4)
def ixH (k : Nat) : Nat := if k < 6 then 0 else if k < 14 then k - 6 else if k < 19 then 0 else if k < 25 then k - 19 else if k < 47 then ixX9 0 (k - 25) else if k < 48 then 0 else if k < 51 then ixX6 0 (k - 48) else if k < 59 then ixX8 0 (k - 51) else if k < 67 then ixX8 1 (k - 59) else if k < 70 then ixX5 0 (k - 67) else if k < 193 then ixX0 0 (k - 70) else if k < 313 then ixX2 ((k - 193) / 3) ((k - 193) % 3) else if k < 421 then ixX3 ((k - 313) / 9) ((k - 313) % 9) else if k < 457 then ixX10 ((k - 421) / 3) ((k - 421) % 3) else if k < 477 then ixX4 (k - 457) 0 else ixX1 ((k - 477) / 4) ((k - 477) % 4)
def offH (f i : Nat) : Nat := match f with
  | 0 => 0
  | 1 => 1
  | 2 => 2
  | 3 => 3
  | 4 => 4
  | 5 => 5
  | 6 => 6 + i
  | 7 => 14
  | 8 => 15
  | 9 => 16
  | 10 => 17
  | 11 => 18
  | 12 => 19 + i
  | 13 => 25
  | 14 => 47
  | 15 => 48
  | 16 => 51 + 8 * i
  | 17 => 67
  | 18 => 70
  | 19 => 193 + 3 * i
  | 20 => 194 + 3 * i
  | 21 => 195 + 3 * i
  | 22 => 313 + 9 * i
  | 23 => 314 + 9 * i
  | 24 => 315 + 9 * i
  | 25 => 316 + 9 * (i / 6) + i % 6
  | 26 => 421 + 3 * i
  | 27 => 422 + 3 * i
  | 28 => 423 + 3 * i
  | 29 => 457 + i
  | 30 => 477 + 4 * i
  | 31 => 478 + 4 * i
  | 32 => 479 + 4 * i
  | 33 => 480 + 4 * i
  | 34 => 26
  | 35 => 27 + i
  | 36 => 33
  | 37 => 34 + i
  | 38 => 40
  | 39 => 41 + i
  | 40 => 44
  | 41 => 45
  | 42 => 46
  | 43 => 49
  | 44 => 50
  | 45 => 52 + 8 * i
  | 46 => 53 + 8 * i
  | 47 => 54 + 8 * i
  | 48 => 55 + 8 * i
  | 49 => 56 + 8 * i
  | 50 => 57 + 8 * i
  | 51 => 58 + 8 * i
  | 52 => 68
  | 53 => 69
  | 54 => 71
  | 55 => 72 + i
  | 56 => 132
  | 57 => 133 + i
  | _ => 0
theorem offH_ok : ∀ f, f < 58 → ∀ i, i < cntX f → (fmH (offH f i) = f ∧ ixH (offH f i) = i) ∧ offH f i < 525 := by decide +kernel
theorem layX9_25 : ∀ k, k < 22 → (fmH (25 + k) = fmX9 k ∧ ixH (25 + k) = ixX9 0 k) ∧ offH (fmX9 k) (ixX9 0 k) = 25 + k := by decide +kernel
theorem layX6_48 : ∀ k, k < 3 → (fmH (48 + k) = fmX6 k ∧ ixH (48 + k) = ixX6 0 k) ∧ offH (fmX6 k) (ixX6 0 k) = 48 + k := by decide +kernel
theorem layX8_51 : ∀ k, k < 8 → (fmH (51 + k) = fmX8 k ∧ ixH (51 + k) = ixX8 0 k) ∧ offH (fmX8 k) (ixX8 0 k) = 51 + k := by decide +kernel
theorem layX8_59 : ∀ k, k < 8 → (fmH (59 + k) = fmX8 k ∧ ixH (59 + k) = ixX8 1 k) ∧ offH (fmX8 k) (ixX8 1 k) = 59 + k := by decide +kernel
theorem layX5_67 : ∀ k, k < 3 → (fmH (67 + k) = fmX5 k ∧ ixH (67 + k) = ixX5 0 k) ∧ offH (fmX5 k) (ixX5 0 k) = 67 + k := by decide +kernel
theorem layX0_70 : ∀ k, k < 123 → (fmH (70 + k) = fmX0 k ∧ ixH (70 + k) = ixX0 0 k) ∧ offH (fmX0 k) (ixX0 0 k) = 70 + k := by decide +kernel
theorem layX2 : ∀ i, i < 40 → ∀ k, k < 3 → (fmH (193 + 3 * i + k) = fmX2 k ∧ ixH (193 + 3 * i + k) = ixX2 i k) ∧ offH (fmX2 k) (ixX2 i k) = 193 + 3 * i + k := by decide +kernel
theorem layX3 : ∀ i, i < 12 → ∀ k, k < 9 → (fmH (313 + 9 * i + k) = fmX3 k ∧ ixH (313 + 9 * i + k) = ixX3 i k) ∧ offH (fmX3 k) (ixX3 i k) = 313 + 9 * i + k := by decide +kernel
theorem layX10 : ∀ i, i < 12 → ∀ k, k < 3 → (fmH (421 + 3 * i + k) = fmX10 k ∧ ixH (421 + 3 * i + k) = ixX10 i k) ∧ offH (fmX10 k) (ixX10 i k) = 421 + 3 * i + k := by decide +kernel
theorem layX4 : ∀ i, i < 20 → ∀ k, k < 1 → (fmH (457 + 1 * i + k) = fmX4 k ∧ ixH (457 + 1 * i + k) = ixX4 i k) ∧ offH (fmX4 k) (ixX4 i k) = 457 + 1 * i + k := by decide +kernel
theorem layX1 : ∀ i, i < 12 → ∀ k, k < 4 → (fmH (477 + 4 * i + k) = fmX1 k ∧ ixH (477 + 4 * i + k) = ixX1 i k) ∧ offH (fmX1 k) (ixX1 i k) = 477 + 4 * i + k := by decide +kernel
def arR (E : XE) (t N F n : Nat) : va_E := .inl (E.2.1 t, N, .inr (.inr (.inr (.inr (fun j => if j < n then some (E.2.2.1 F j) else none)))))
theorem arR_0 (E : XE) (t N F : Nat) : arR E t N F 0 = .inl (E.2.1 t, N, .inr (.inr (.inr (.inr (fun _ => none))))) := by
  unfold arR
  congr 6
theorem arR_s (E : XE) (t N F n x : Nat) (hx : x = E.2.2.1 F n) : (.inl (E.2.1 t, N, .inr (.inr (.inr (.inr (va_up (fun j => if j < n then some (E.2.2.1 F j) else none) n (some x)))))) : va_E) = arR E t N F (n + 1) := by
  unfold arR
  have : va_up (fun j => if j < n then some (E.2.2.1 F j) else none) n (some x) = fun j => if j < n + 1 then some (E.2.2.1 F j) else none := by
    funext j
    by_cases q : j = n
    · subst q; rw [va_up_self, if_pos (Nat.lt_succ_self _), hx]
    · rw [va_up_ne _ _ q]
      by_cases r : j < n
      · rw [if_pos r, if_pos (by omega)]
      · rw [if_neg r, if_neg (by omega)]
  rw [this]
def GU (E : XE) (o a4 a7 a8 a9 a10 : va_E) (k : Nat) : va_E := if k = 0 then o else if k = 4 then a4 else if k = 14 then a7 else if k = 15 then a8 else if k = 16 then a9 else if k = 17 then a10 else cX0 E (fmH k) (ixH k)
theorem GU_0 {E : XE} {o a4 a7 a8 a9 a10 v : va_E} : va_up (GU E o a4 a7 a8 a9 a10) 0 v = GU E v a4 a7 a8 a9 a10 := by
  funext k
  by_cases q : k = 0
  · subst q; rw [va_up_self]; rfl
  · rw [va_up_ne _ _ q]; unfold GU
    repeat (first | rw [if_neg q] | (split <;> try rfl))
theorem GU_4 {E : XE} {o a4 a7 a8 a9 a10 v : va_E} : va_up (GU E o a4 a7 a8 a9 a10) 4 v = GU E o v a7 a8 a9 a10 := by
  funext k
  by_cases q : k = 4
  · subst q; rw [va_up_self]; rfl
  · rw [va_up_ne _ _ q]; unfold GU
    repeat (first | rw [if_neg q] | (split <;> try rfl))
theorem GU_14 {E : XE} {o a4 a7 a8 a9 a10 v : va_E} : va_up (GU E o a4 a7 a8 a9 a10) 14 v = GU E o a4 v a8 a9 a10 := by
  funext k
  by_cases q : k = 14
  · subst q; rw [va_up_self]; rfl
  · rw [va_up_ne _ _ q]; unfold GU
    repeat (first | rw [if_neg q] | (split <;> try rfl))
theorem GU_15 {E : XE} {o a4 a7 a8 a9 a10 v : va_E} : va_up (GU E o a4 a7 a8 a9 a10) 15 v = GU E o a4 a7 v a9 a10 := by
  funext k
  by_cases q : k = 15
  · subst q; rw [va_up_self]; rfl
  · rw [va_up_ne _ _ q]; unfold GU
    repeat (first | rw [if_neg q] | (split <;> try rfl))
theorem GU_16 {E : XE} {o a4 a7 a8 a9 a10 v : va_E} : va_up (GU E o a4 a7 a8 a9 a10) 16 v = GU E o a4 a7 a8 v a10 := by
  funext k
  by_cases q : k = 16
  · subst q; rw [va_up_self]; rfl
  · rw [va_up_ne _ _ q]; unfold GU
    repeat (first | rw [if_neg q] | (split <;> try rfl))
theorem GU_17 {E : XE} {o a4 a7 a8 a9 a10 v : va_E} : va_up (GU E o a4 a7 a8 a9 a10) 17 v = GU E o a4 a7 a8 a9 v := by
  funext k
  by_cases q : k = 17
  · subst q; rw [va_up_self]; rfl
  · rw [va_up_ne _ _ q]; unfold GU
    repeat (first | rw [if_neg q] | (split <;> try rfl))
theorem GU_g {E : XE} {o a4 a7 a8 a9 a10 : va_E} {k : Nat} (h : ¬ (k = 0 ∨ k = 4 ∨ (14 ≤ k ∧ k ≤ 17))) : GU E o a4 a7 a8 a9 a10 k = cX0 E (fmH k) (ixH k) := by
  unfold GU
  rw [if_neg (by omega), if_neg (by omega), if_neg (by omega), if_neg (by omega), if_neg (by omega), if_neg (by omega)]

