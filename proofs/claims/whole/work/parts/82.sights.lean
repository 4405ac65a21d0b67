/-! ===== sights of both ===== -/
/-- the weights of a light for an eye -/
def Wt (x : Sto) (l e : Nat) : Nat → Nat → Nat := fun a k => iN x 35 l k * iN x 37 (3 * e + a) k
theorem xAimC {x m : Sto} {l e : Nat} (hB : CurB x m) (hl : l < 6) (he : e < 2) : ∃ x', fX9_aim (nI l) (nI e) x = some x' ∧ Aim x' (Wt x l e) ∧ SameX x x' :=
  xAim (L := fun k => iN x 35 l k) (E := fun a k => iN x 37 (3 * e + a) k) hl he (fun k hk => (hB.1 l k hl hk).1) (fun a ha k hk => (hB.2.1 e a k he ha hk).1)
theorem mAimC {x m : Sto} {l e : Nat} (hB : CurB x m) (hl : l < 6) (he : e < 2) : MAim m l e (Wt x l e) :=
  ⟨fun k => iN x 35 l k, fun a k => iN x 37 (3 * e + a) k, fun k hk => ⟨(hB.1 l k hl hk).2.trans (hB.1 l k hl hk).1.1, (hB.1 l k hl hk).1.2⟩, fun a ha k hk => ⟨(hB.2.1 e a k he ha hk).2.trans (hB.2.1 e a k he ha hk).1.1, (hB.2.1 e a k he ha hk).1.2⟩, rfl⟩
theorem Wt_b {x m : Sto} {l e : Nat} (hB : CurB x m) (hl : l < 6) (he : e < 2) : ∀ a, a < 3 → ∀ k, k < 16 → Wt x l e a k ≤ 1000000000000 := fun a ha k hk => Nat.mul_le_mul (hB.1 l k hl hk).1.2 (hB.2.1 e a k he ha hk).1.2
theorem both_one (l e : Int32) : (∃ i j, l = nI i ∧ e = nI j ∧ i < 6 ∧ j < 2 ∧ fX9_isOne l e = some 1 ∧ fX12_is l 6 = some 1 ∧ fX12_is e 2 = some 1) ∨ (fX9_isOne l e = some 0 ∧ (fX12_is l 6 = some 0 ∨ (fX12_is l 6 = some 1 ∧ fX12_is e 2 = some 0))) := by
  rcases mIs (n := 6) (by decide) l with ⟨i, rfl, hi, e1⟩ | ⟨q, e1⟩
  · have a0 := nI_lt0 (a := i) (by omega)
    have a6 : ¬ (6 : Int32) ≤ nI i := nI_gt (N := 6) (by decide) hi
    rcases mIs (n := 2) (by decide) e with ⟨j, rfl, hj, e2⟩ | ⟨q, e2⟩
    · have b0 := nI_lt0 (a := j) (by omega)
      have b2 : ¬ (2 : Int32) ≤ nI j := nI_gt (N := 2) (by decide) hj
      refine Or.inl ⟨i, j, rfl, rfl, hi, hj, ?_, e1, e2⟩
      unfold fX9_isOne
      rw [if_neg a0, if_neg a6, if_neg b0, if_neg b2]
    · refine Or.inr ⟨?_, Or.inr ⟨e1, e2⟩⟩
      unfold fX9_isOne
      rw [if_neg a0, if_neg a6]
      rcases pk_ix e (n := 2) (by decide) with q' | q' | ⟨j, q1, q2⟩
      · exact if_pos q'
      · rw [if_pos (show (2 : Int32) ≤ e from q'), ite_self]
      · exact absurd q2 (q j q1)
  · refine Or.inr ⟨?_, Or.inl e1⟩
    unfold fX9_isOne
    rcases pk_ix l (n := 6) (by decide) with q' | q' | ⟨j, q1, q2⟩
    · exact if_pos q'
    · rw [if_pos (show (6 : Int32) ≤ l from q'), ite_self]
    · exact absurd q2 (q j q1)
abbrev tenD : UInt64 := 4621819117588971520
def szV (w : Nat) : UInt64 := FP.ddiv (FP.i2d (nI w)) tenD
theorem szV_b {w : Nat} (h1 : 1 ≤ w) (h2 : w ≤ 1000) : iv 1000 (szV w) ∧ vf_n64 (szV w) ∧ lw 1013 (szV w) ∧ (szV w).toNat ≠ 0 := by
  obtain ⟨f, u⟩ := i2d_nI (n := w) (by omega)
  have ft : fnn tenD := by unfold fnn; decide +kernel
  have h := iv_div (x := FP.i2d (nI w)) (y := tenD) (c := 1000) ⟨by rw [u]; exact Nat.mul_le_mul_right _ h2, f⟩ ft (by decide +kernel)
  have hl : lw 1023 (FP.i2d (nI w)) := by
    refine Or.inr ?_
    refine un_le.mp ?_
    rw [un_pw (by decide), u, show 1023 + 51 = 1074 from rfl]
    exact Nat.le_mul_of_pos_left _ h1
  have hl2 := lw_div (x := FP.i2d (nI w)) (y := tenD) (L := 1023) (J := 1027) hl f ft (show (tenD : UInt64).toNat < 1027 * 2 ^ 52 by decide +kernel) (by decide +kernel) (by decide) (by decide) (by decide) (by decide)
  have hl3 : lw 1019 (szV w) := hl2
  have h0 : (szV w).toNat ≠ 0 := by
    have := (ddiv_b f ft (by decide +kernel)).2.2 (1000 * 2 ^ 52) (by decide +kernel) (by
      rw [un_pw (by decide), u]
      have et : un (tenD : UInt64).toNat = 10 * 2 ^ 1074 := by
        rw [un_hi (by decide +kernel)]
        decide +kernel
      rw [et]
      generalize hP : (2 : Nat) ^ 1074 = P
      have e2 : (2 : Nat) ^ (1000 + 51) * 10 ≤ P := by
        rw [← hP]
        exact Nat.le_trans (Nat.mul_le_mul_left _ (show 10 ≤ 2 ^ 4 by decide)) (by rw [← Nat.pow_add]; exact Nat.pow_le_pow_right (by decide) (by decide))
      calc 2 ^ (1000 + 51) * (10 * P) = (2 ^ (1000 + 51) * 10) * P := by rw [Nat.mul_assoc]
        _ ≤ P * P := Nat.mul_le_mul_right _ e2
        _ ≤ w * P * P := by
          rw [Nat.mul_assoc]
          exact Nat.le_mul_of_pos_left _ h1)
    intro q
    have h3 : 1000 * 2 ^ 52 ≤ (szV w).toNat := this
    rw [q] at h3
    exact absurd h3 (by decide)
  exact ⟨h, n64_of h.2, lw_mono hl3 (by decide), h0⟩
theorem lp_3x {σ ρ : Type} {body : σ → Option (σ ⊕ ρ)} {s0 s1 s2 s3 : σ} {r : ρ} (h0 : body s0 = some (.inl s1)) (h1 : body s1 = some (.inl s2)) (h2 : body s2 = some (.inl s3)) (h3 : body s3 = some (.inr r)) : lp body 4000 s0 = some r :=
  (lp_s (n := 3999) h0).trans ((lp_s (n := 3998) h1).trans ((lp_s (n := 3997) h2).trans (lp_x (n := 3996) h3)))
/-- the three sizes by their places -/
def sz3 (a b c : Nat) (k : Nat) : Nat := if k = 0 then a else if k = 1 then b else c
/-- the class's new solid, but for the note -/
def solX (x1 : Sto) (n i l e u v w : Nat) (col : Nat → UInt64) : Sto := sD (sD (sD (cD (sI (sI (sI (putD x1 42 0 3 col) 26 n 0 (nI i)) 26 n 1 (nI l)) 26 n 2 (nI e)) 42 0 0 27 n 0 3) 28 n 0 (szV u)) 28 n 1 (szV v)) 28 n 2 (szV w)
theorem solX_27 {x1 : Sto} {n i l e u v w : Nat} {col : Nat → UInt64} {k : Nat} (hk : k < 3) : gD (solX x1 n i l e u v w col) 27 n k = col k ∧ gD (solX x1 n i l e u v w col) 28 n k = szV (sz3 u v w k) := by
  refine ⟨?_, ?_⟩
  · refine (if_pos ⟨rfl, rfl, Nat.zero_le _, by omega⟩).trans ?_
    rw [Nat.zero_add, Nat.sub_zero]
    exact if_pos ⟨rfl, rfl, hk⟩
  · unfold solX sz3
    obtain rfl | rfl | rfl : k = 0 ∨ k = 1 ∨ k = 2 := by omega
    · rw [gD_sD, if_neg (by omega), gD_sD, if_neg (by omega), gD_sD, if_pos ⟨rfl, rfl, rfl⟩]; rfl
    · rw [gD_sD, if_neg (by omega), gD_sD, if_pos ⟨rfl, rfl, rfl⟩]; rfl
    · rw [gD_sD, if_pos ⟨rfl, rfl, rfl⟩]; rfl
theorem solX_g {x1 : Sto} {n i l e u v w : Nat} {col : Nat → UInt64} {f b k : Nat} (h : f ≠ 42) (h2 : ¬ ((f = 27 ∨ f = 28) ∧ b = n)) : gD (solX x1 n i l e u v w col) f b k = gD x1 f b k := by
  unfold solX
  rw [gD_sD, if_neg (by omega), gD_sD, if_neg (by omega), gD_sD, if_neg (by omega)]
  refine (if_neg (by omega)).trans ?_
  exact putD_g (fun q => h q.1)
theorem solX_I {x1 : Sto} {n i l e u v w : Nat} {col : Nat → UInt64} {f b k : Nat} (h : ¬ (f = 26 ∧ b = n)) : gI (solX x1 n i l e u v w col) f b k = gI x1 f b k := by
  show gI (sI (sI (sI x1 26 n 0 (nI i)) 26 n 1 (nI l)) 26 n 2 (nI e)) f b k = _
  rw [gI_sI, if_neg (by omega), gI_sI, if_neg (by omega), gI_sI, if_neg (by omega)]
theorem solX_26 {x1 : Sto} {n i l e u v w : Nat} {col : Nat → UInt64} : gI (solX x1 n i l e u v w col) 26 n 0 = nI i ∧ gI (solX x1 n i l e u v w col) 26 n 1 = nI l ∧ gI (solX x1 n i l e u v w col) 26 n 2 = nI e := by
  refine ⟨?_, ?_, ?_⟩
  · show gI (sI (sI (sI x1 26 n 0 (nI i)) 26 n 1 (nI l)) 26 n 2 (nI e)) 26 n 0 = _
    simp [gI_sI]
  · show gI (sI (sI (sI x1 26 n 0 (nI i)) 26 n 1 (nI l)) 26 n 2 (nI e)) 26 n 1 = _
    simp [gI_sI]
  · show gI (sI (sI (sI x1 26 n 0 (nI i)) 26 n 1 (nI l)) 26 n 2 (nI e)) 26 n 2 = _
    simp [gI_sI]
/-- the reference's -/
def solM (m : Sto) (n : Nat) (u v w : Nat) (col : Nat → UInt64) : Nat → Sto
  | 0 => m
  | k + 1 => sD (sD (solM m n u v w col k) 37 0 (3 * n + k) (col k)) 38 0 (3 * n + k) (szV (sz3 u v w k))
theorem solM_I {m : Sto} {n u v w : Nat} {col : Nat → UInt64} : ∀ k, gI (solM m n u v w col k) = gI m ∧ gF (solM m n u v w col k) = gF m ∧ gL (solM m n u v w col k) = gL m
  | 0 => ⟨rfl, rfl, rfl⟩
  | k + 1 => solM_I k
theorem solM_g {m : Sto} {n u v w : Nat} {col : Nat → UInt64} {f i j : Nat} : ∀ k, ¬ ((f = 37 ∨ f = 38) ∧ 3 * n ≤ j ∧ j < 3 * n + k) → gD (solM m n u v w col k) f i j = gD m f i j
  | 0, _ => rfl
  | k + 1, h => by
    show gD (sD (sD (solM m n u v w col k) 37 0 (3 * n + k) (col k)) 38 0 (3 * n + k) (szV (sz3 u v w k))) f i j = _
    rw [gD_sD, if_neg (by omega), gD_sD, if_neg (by omega)]
    exact solM_g k (by omega)
theorem solM_h {m : Sto} {n u v w : Nat} {col : Nat → UInt64} {j : Nat} : ∀ k, j < k → gD (solM m n u v w col k) 37 0 (3 * n + j) = col j ∧ gD (solM m n u v w col k) 38 0 (3 * n + j) = szV (sz3 u v w j)
  | 0, h => absurd h (Nat.not_lt_zero j)
  | k + 1, h => by
    show gD (sD (sD (solM m n u v w col k) 37 0 (3 * n + k) (col k)) 38 0 (3 * n + k) (szV (sz3 u v w k))) 37 0 (3 * n + j) = col j ∧ gD (sD (sD (solM m n u v w col k) 37 0 (3 * n + k) (col k)) 38 0 (3 * n + k) (szV (sz3 u v w k))) 38 0 (3 * n + j) = szV (sz3 u v w j)
    by_cases e : j = k
    · subst e
      rw [gD_sD, if_neg (by omega), gD_sD, if_pos ⟨rfl, rfl, rfl⟩, gD_sD, if_pos ⟨rfl, rfl, rfl⟩]
      exact ⟨rfl, rfl⟩
    · rw [gD_sD, if_neg (by omega), gD_sD, if_neg (by omega), gD_sD, if_neg (by omega), gD_sD, if_neg (by omega)]
      exact solM_h k (by omega)
