theorem gD_sD (s : Sto) (f i j : Nat) (v : UInt64) (a b c : Nat) : gD (sD s f i j v) a b c = if a = f ∧ b = i ∧ c = j then v else gD s a b c := rfl
theorem gI_sI (s : Sto) (f i j : Nat) (v : Int32) (a b c : Nat) : gI (sI s f i j v) a b c = if a = f ∧ b = i ∧ c = j then v else gI s a b c := rfl
theorem gF_sF (s : Sto) (f i j : Nat) (v : UInt32) (a b c : Nat) : gF (sF s f i j v) a b c = if a = f ∧ b = i ∧ c = j then v else gF s a b c := rfl
theorem gL_sL (s : Sto) (f i j : Nat) (v : Int64) (a b c : Nat) : gL (sL s f i j v) a b c = if a = f ∧ b = i ∧ c = j then v else gL s a b c := rfl
theorem g3 {k : Nat} (h : k < 3) : ¬ (3 : Int32) ≤ nI k := nI_gt (N := 3) (by decide) h
/-- the same but for what is reckoned with -/
def SameX (s t : Sto) : Prop := gI s = gI t ∧ gL s = gL t ∧ (∀ f i j, f ≠ 44 → gF s f i j = gF t f i j) ∧ (∀ f i j, f ≠ 14 → f ≠ 39 → f ≠ 40 → f ≠ 41 → f ≠ 42 → f ≠ 43 → gD s f i j = gD t f i j)
theorem SameX_r (s : Sto) : SameX s s := ⟨rfl, rfl, fun _ _ _ _ => rfl, fun _ _ _ _ _ _ _ _ _ => rfl⟩
theorem SameX_t {s t u : Sto} (h : SameX s t) (k : SameX t u) : SameX s u := ⟨h.1.trans k.1, h.2.1.trans k.2.1, fun f i j a => (h.2.2.1 f i j a).trans (k.2.2.1 f i j a), fun f i j a b c d e g => (h.2.2.2 f i j a b c d e g).trans (k.2.2.2 f i j a b c d e g)⟩
theorem SameX_D {s : Sto} {f i j : Nat} {v : UInt64} (hf : f = 14 ∨ f = 39 ∨ f = 40 ∨ f = 41 ∨ f = 42 ∨ f = 43) : SameX s (sD s f i j v) := by
  refine ⟨rfl, rfl, fun _ _ _ _ => rfl, fun a b c h1 h2 h3 h4 h5 h6 => ?_⟩
  exact (if_neg (fun (h : a = f ∧ b = i ∧ c = j) => by omega)).symm
theorem SameX_pD {s : Sto} {f i n : Nat} {v : Nat → UInt64} (hf : f = 14 ∨ f = 39 ∨ f = 40 ∨ f = 41 ∨ f = 42 ∨ f = 43) : SameX s (putD s f i n v) := by
  refine ⟨rfl, rfl, fun _ _ _ _ => rfl, fun a b c h1 h2 h3 h4 h5 h6 => ?_⟩
  exact (putD_g (fun h => by omega)).symm
theorem SameX_pF {s : Sto} {i n : Nat} {v : Nat → UInt32} : SameX s (putF s 44 i n v) := by
  refine ⟨rfl, rfl, fun a b c h => ?_, fun _ _ _ _ _ _ _ _ _ => rfl⟩
  exact (putF_g (fun q => h q.1)).symm
theorem xAim {l e : Nat} {st : Sto} {L : Nat → Nat} {E : Nat → Nat → Nat} (hl : l < 6) (he : e < 2) (h1 : ∀ k, k < 16 → gI st 35 l k = nI (L k) ∧ L k ≤ 1000000) (h2 : ∀ x, x < 3 → ∀ k, k < 16 → gI st 37 (3 * e + x) k = nI (E x k) ∧ E x k ≤ 1000000) : ∃ st', fX9_aim (nI l) (nI e) st = some st' ∧ Aim st' (fun x k => L k * E x k) ∧ SameX st st' := by
  have hW : ∀ x, x < 3 → ∀ k, k < 16 → L k * E x k ≤ 1000000000000 := fun x hx k hk => mulle (h1 k hk).2 (h2 x hx k hk).2
  obtain ⟨r, k1, k2, k3⟩ := lp_inv (body := un2 fun (v4 : Int32) (t5 : Sto) =>
     if (3 : Int32) ≤ v4 then (
      some (.inr t5)) else (
      ((lp (σ := (Int32 × Int64 × Sto)) (ρ := (Int64 × Sto)) (un3 fun (v11 : Int32) (v12 : Int64) (t13 : Sto) =>
         if (16 : Int32) ≤ v11 then (
          some (.inr (v12, t13))) else (
          ck (0 ≤ (nI l).toInt ∧ (nI l).toInt < (6 : Int)) (
           ck (0 ≤ v11.toInt ∧ v11.toInt < (lIX (35) ((nI l).toNatClampNeg) : Int)) (
            ck (0 ≤ ((nI e * (3 : Int32)) + v4).toInt ∧ ((nI e * (3 : Int32)) + v4).toInt < (6 : Int)) (
             ck (0 ≤ v11.toInt ∧ v11.toInt < (lIX (37) (((nI e * (3 : Int32)) + v4).toNatClampNeg) : Int)) (
              lt1 (((gI t13 (35) ((nI l).toNatClampNeg) (v11.toNatClampNeg)).toInt64) * ((gI t13 (37) (((nI e * (3 : Int32)) + v4).toNatClampNeg) (v11.toNatClampNeg)).toInt64)) fun (v21 : Int64) =>
              ck (0 ≤ v4.toInt ∧ v4.toInt < (3 : Int)) (
               ck (0 ≤ v11.toInt ∧ v11.toInt < (lDX (39) (v4.toNatClampNeg) : Int)) (lt1 (sD t13 (39) (v4.toNatClampNeg) (v11.toNatClampNeg) (FP.l2d v21)) fun (t23 : Sto) =>
                lt1 (v12 + v21) fun (v24 : Int64) =>
                lt1 (v11 + Int32.ofInt (1)) fun (v25 : Int32) =>
                some (.inl (v25, v24, t23)))))))))) 4000 ((0 : Int32), (0 : Int64), t5)).bind
       (un2 fun (v14 : Int64) (t15 : Sto) =>
        ck (0 ≤ v4.toInt ∧ v4.toInt < (lDX (40) (0) : Int)) (lt1 (sD t15 (40) (0) (v4.toNatClampNeg) (FP.l2d v14)) fun (t26 : Sto) =>
         lt1 (v4 + Int32.ofInt (1)) fun (v27 : Int32) =>
         some (.inl (v27, t26)))))) ) (fun i s => s.1 = nI i ∧ SameX st s.2 ∧ ∀ x, x < i → gD s.2 40 0 x = FP.l2d (lN (smW (fun k => L k * E x k) 16)) ∧ ∀ k, k < 16 → gD s.2 39 x k = FP.l2d (lN (L k * E x k))) (fun t => SameX st t ∧ ∀ x, x < 3 → gD t 40 0 x = FP.l2d (lN (smW (fun k => L k * E x k) 16)) ∧ ∀ k, k < 16 → gD t 39 x k = FP.l2d (lN (L k * E x k))) 3 (fun i s hi ⟨q1, q2, q3⟩ => by
      obtain ⟨v4, t⟩ := s
      dsimp only at q1 q2 q3
      subst q1
      dsimp only [un2]
      by_cases h : i < 3
      · right
        have ei : (nI e * (3 : Int32)) + nI i = nI (3 * e + i) := by
          show nI e * nI 3 + nI i = _
          rw [pk_mul, nI_add, Nat.mul_comm]
        have hI : gI t = gI st := q2.1.symm
        have hloop := lp_seq (body := un3 fun (v11 : Int32) (v12 : Int64) (t13 : Sto) =>
         if (16 : Int32) ≤ v11 then (
          some (.inr (v12, t13))) else (
          ck (0 ≤ (nI l).toInt ∧ (nI l).toInt < (6 : Int)) (
           ck (0 ≤ v11.toInt ∧ v11.toInt < (lIX (35) ((nI l).toNatClampNeg) : Int)) (
            ck (0 ≤ ((nI e * (3 : Int32)) + nI i).toInt ∧ ((nI e * (3 : Int32)) + nI i).toInt < (6 : Int)) (
             ck (0 ≤ v11.toInt ∧ v11.toInt < (lIX (37) (((nI e * (3 : Int32)) + nI i).toNatClampNeg) : Int)) (
              lt1 (((gI t13 (35) ((nI l).toNatClampNeg) (v11.toNatClampNeg)).toInt64) * ((gI t13 (37) (((nI e * (3 : Int32)) + nI i).toNatClampNeg) (v11.toNatClampNeg)).toInt64)) fun (v21 : Int64) =>
              ck (0 ≤ (nI i).toInt ∧ (nI i).toInt < (3 : Int)) (
               ck (0 ≤ v11.toInt ∧ v11.toInt < (lDX (39) ((nI i).toNatClampNeg) : Int)) (lt1 (sD t13 (39) ((nI i).toNatClampNeg) (v11.toNatClampNeg) (FP.l2d v21)) fun (t23 : Sto) =>
                lt1 (v12 + v21) fun (v24 : Int64) =>
                lt1 (v11 + Int32.ofInt (1)) fun (v25 : Int32) =>
                some (.inl (v25, v24, t23))))))))) ) (fun k => (nI k, lN (smW (fun k => L k * E i k) k), putD t 39 i k (fun k => FP.l2d (lN (L k * E i k))))) (r := (lN (smW (fun k => L k * E i k) 16), putD t 39 i 16 (fun k => FP.l2d (lN (L k * E i k))))) 16 4000 0 (fun j _ hj => by
          have hj : j < 16 := by omega
          dsimp only [un3]
          have a1 := h1 j hj
          have a2 := h2 i h j hj
          have g1 : gI (putD t 39 i j (fun k => FP.l2d (lN (L k * E i k)))) = gI st := hI
          rw [if_neg (g16 hj), ck_t (by exact ixl (by omega) (by omega)), nI_cl (n := l) (by omega), ck_t (by rw [show lIX 35 l = 16 from if_pos hl]; exact ixl (by omega) (by omega)), ei, ck_t (by exact ixl (by omega) (by omega)), nI_cl (n := 3 * e + i) (by omega), ck_t (by rw [show lIX 37 (3 * e + i) = 16 from if_pos (by omega)]; exact ixl (by omega) (by omega)), g1, nI_cl (n := j) (by omega), a1.1, a2.1, nI_64 (by omega), nI_64 (by omega), lN_mul, lt1_e, ck_t (by exact ixl (by omega) (by omega)), nI_cl (n := i) (by omega), ck_t (by rw [show lDX 39 i = 16 from if_pos h]; exact ixl (by omega) (by omega)), lt1_e, lt1_e, lt1_e, lN_add, nI_s, putD_s (v := fun k => FP.l2d (lN (L k * E i k)))]
          rfl) (by
          rw [Nat.zero_add]
          dsimp only [un3]
          exact if_pos (show nI 16 ≤ nI 16 by decide)) (by decide)
        have hloop0 := hloop
        rw [putD_0] at hloop0
        refine ⟨h, (nI (i + 1), sD (putD t 39 i 16 (fun k => FP.l2d (lN (L k * E i k)))) 40 0 i (FP.l2d (lN (smW (fun k => L k * E i k) 16)))), ?_, rfl, ?_, ?_⟩
        · rw [if_neg (g3 h)]
          refine (congrArg (fun o => Option.bind o _) (show _ = some _ from hloop0)).trans ?_
          rw [Option.bind_some]
          dsimp only [un2]
          rw [ck_t (by rw [show lDX 40 0 = 3 from rfl]; exact ixl (by omega) (by omega)), nI_cl (n := i) (by omega), lt1_e, lt1_e, nI_s]
        · exact SameX_t q2 (SameX_t (SameX_pD (by decide)) (SameX_D (by decide)))
        · intro x hx
          by_cases e : x = i
          · subst e
            refine ⟨if_pos ⟨rfl, rfl, rfl⟩, fun k hk => ?_⟩
            dsimp only
            rw [gD_sD, if_neg (by omega), putD_h hk]
          · obtain ⟨b1, b2⟩ := q3 x (by omega)
            refine ⟨?_, fun k hk => ?_⟩
            · dsimp only
              rw [gD_sD, if_neg (by omega), putD_g (by omega)]
              exact b1
            · dsimp only
              rw [gD_sD, if_neg (by omega), putD_g (by omega)]
              exact b2 k hk
      · left
        have e3 : i = 3 := by omega
        subst e3
        exact ⟨t, if_pos (show nI 3 ≤ nI 3 by decide), q2, q3⟩) 3 4000 0 ((0 : Int32), st) (by decide) ⟨rfl, SameX_r st, fun x hx => absurd hx (Nat.not_lt_zero x)⟩ (by decide)
  refine ⟨r, ?_, fun x hx => ⟨(k3 x hx).1, fun k hk => ⟨(k3 x hx).2 k hk, hW x hx k hk⟩⟩, k2⟩
  unfold fX9_aim
  refine (congrArg (fun o => Option.bind o _) (show _ = some r from k1)).trans ?_
  rfl
