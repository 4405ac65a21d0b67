/-! ===== the class's loop of a correction ===== -/
def cLB (b : Nat) : Int32 × Sto → Option ((Int32 × Sto) ⊕ Sto) := un2 fun (v88 : Int32) (t89 : Sto) =>
                      if (1000 : Int32) ≤ v88 then (
                       some (.inr t89)) else (
                       (fX8_advance (1) t89).bind (un2 fun (v100 : Int32) (t101 : Sto) =>
                        if v100 = 0 then (
                         some (.inr t101)) else (
                         (fX11_bathGap ((nI b).toNatClampNeg) t101).bind (un2 fun (v104 : UInt64) (t105 : Sto) =>
                          (fX8_judge (1) v104 (0 : Int64) t105).bind (fun (t107 : Sto) =>
                           lt1 (v88 + Int32.ofInt (1)) fun (v109 : Int32) =>
                           some (.inl (v109, t107)))))))
/-- X is the class's store after k tries of a correction, X0 before the first -/
def XC (b : Nat) (X0 : Sto) (k : Nat) (X : Sto) : Prop := ∀ f, lp (cLB b) (f + k) (nI 0, X0) = lp (cLB b) f (nI k, X)
theorem XC_0 (b : Nat) (X0 : Sto) : XC b X0 0 X0 := fun _ => rfl
theorem XC_s {b k : Nat} {X0 X Y X' : Sto} (h : XC b X0 k X) (k9 : k < 1000) (b12 : b < 12) (ha : fX8_advance 1 X = some (1, Y)) (ht : ((fX11_bathGap b Y).bind (un2 fun (v104 : UInt64) (t105 : Sto) => (fX8_judge 1 v104 (0 : Int64) t105).bind (fun (t107 : Sto) => some t107))) = some X') : XC b X0 (k + 1) X' := fun f => by
  have := h (f + 1)
  rw [show f + (k + 1) = f + 1 + k by omega, this]
  refine lp_s ?_
  unfold cLB
  dsimp only [un2]
  rw [if_neg (show ¬ (1000 : Int32) ≤ nI k from nI_gt (N := 1000) (by decide) k9), ha, Option.bind_some]
  dsimp only [un2]
  rw [if_neg (show ¬ (1 : Int32) = 0 by decide), nI_cl (by omega)]
  cases hb : fX11_bathGap b Y with
  | none => rw [hb] at ht; exact absurd ht (by intro q; cases q)
  | some p =>
    obtain ⟨v, t1⟩ := p
    rw [hb, Option.bind_some] at ht
    dsimp only [un2] at ht
    rw [Option.bind_some]
    dsimp only [un2]
    cases hj : fX8_judge 1 v 0 t1 with
    | none => rw [hj] at ht; exact absurd ht (by intro q; cases q)
    | some t2 =>
      rw [hj, Option.bind_some] at ht
      cases ht
      rw [Option.bind_some, lt1_e, nI_s]
