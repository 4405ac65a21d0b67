/-! ===== all sizes, and the reference's result ===== -/
def mL0 (a5 a6 : Int32) : Int32 × Sto → Option ((Int32 × Sto) ⊕ Sto) := un2 fun (v63 : Int32) (t64 : Sto) =>
                      if a6 < v63 then (
                       some (.inr t64)) else (
                       (lp (mL1 a5 v63) 4000 ((0 : Int32), t64)).bind
                        (fun (t119 : Sto) =>
                         lt1 (v63 + Int32.ofInt (1)) fun (v123 : Int32) =>
                         some (.inl (v123, t119))))
def mEnd (t65 : Sto) : Option (Int32 × Sto) :=
                     lt1 (sI t65 0 (0) 52 (gI t65 0 (0) 51)) fun (t189 : Sto) =>
                     jn (fun (v193 : Int32) =>
                      ck (v193 = 0 ∨ v193 = 1) (
                       lt1 (sI t189 0 (0) 55 v193) fun (t194 : Sto) =>
                       lt1 ((2 : Int32) * (gI t194 0 (0) 50)) fun (v195 : Int32) =>
                       ((lp (σ := (Int32 × Sto)) (ρ := Sto) (un2 fun (v199 : Int32) (t200 : Sto) =>
                          if (6 : Int32) ≤ v199 then (
                           some (.inr t200)) else (
                           ck (0 ≤ v199.toInt ∧ v199.toInt < (lIM (49) (0) : Int)) (lt1 (sI t200 (49) (0) (v199.toNatClampNeg) (-1 : Int32)) fun (t203 : Sto) =>
                            lt1 (v199 + Int32.ofInt (1)) fun (v204 : Int32) =>
                            some (.inl (v204, t203))))) 4000 (v195, t194)).bind
                        (fun (t201 : Sto) =>
                         ((lp (σ := (Int32 × Sto)) (ρ := Sto) (un2 fun (v208 : Int32) (t209 : Sto) =>
                            if (6 : Int32) ≤ v208 then (
                             some (.inr t209)) else (
                             ck (0 ≤ v208.toInt ∧ v208.toInt < (lIM (49) (0) : Int)) (
                              ck (0 ≤ v208.toInt ∧ v208.toInt < (lIM (64) (0) : Int)) (lt1 (sI t209 (64) (0) (v208.toNatClampNeg) (gI t209 (49) (0) (v208.toNatClampNeg))) fun (t212 : Sto) =>
                               lt1 (v208 + Int32.ofInt (1)) fun (v213 : Int32) =>
                               some (.inl (v213, t212)))))) 4000 ((0 : Int32), t201)).bind
                          (fun (t210 : Sto) =>
                           lt1 (sI t210 0 (0) 57 (1 : Int32)) fun (t214 : Sto) =>
                           lt1 (sD t214 0 (0) 64 (gD t214 0 (0) 53)) fun (t215 : Sto) =>
                           lt1 (sL t215 0 (0) 65 (gL t215 0 (0) 54)) fun (t216 : Sto) =>
                           lt1 (sI t216 0 (0) 9 (0 : Int32)) fun (t217 : Sto) =>
                           some (gI t217 0 (0) 50, t217))))))) fun K190 =>
                     if gI t189 0 (0) 56 = 0 then (
                      K190 (1 : Int32)) else (
                      K190 (0 : Int32))
theorem mEnd_e {t : Sto} {sb k : Nat} {b : Int32} (h50 : gI t 0 0 50 = nI sb) (s3 : sb ≤ 3) (h51 : gI t 0 0 51 = nI k) (hb : (gI t 0 0 56 = 0 ∧ b = 1) ∨ (gI t 0 0 56 = 1 ∧ b = 0)) : ∃ u, mEnd t = some u ∧ (u.1 = nI sb ∧ (∀ f c j, gI u.2 f c j = if f = 0 ∧ c = 0 ∧ j = 9 then 0 else if f = 0 ∧ c = 0 ∧ j = 57 then 1 else if f = 64 ∧ c = 0 ∧ j < 6 then (if j < 2 * sb then gI t 49 0 j else -1) else if f = 49 ∧ c = 0 ∧ 2 * sb ≤ j ∧ j < 6 then -1 else if f = 0 ∧ c = 0 ∧ j = 55 then b else if f = 0 ∧ c = 0 ∧ j = 52 then nI k else gI t f c j) ∧ gF u.2 = gF t ∧ (∀ f c j, gD u.2 f c j = if f = 0 ∧ c = 0 ∧ j = 64 then gD t 0 0 53 else gD t f c j) ∧ ∀ f c j, gL u.2 f c j = if f = 0 ∧ c = 0 ∧ j = 65 then gL t 0 0 54 else gL t f c j) := by
  have b01 : b = 0 ∨ b = 1 := by rcases hb with ⟨_, h⟩ | ⟨_, h⟩ <;> simp [h]
  have go : ∀ z : Int32, z = b → ∃ u, (ck (z = 0 ∨ z = 1) (
                       lt1 (sI (sI t 0 0 52 (nI k)) 0 (0) 55 z) fun (t194 : Sto) =>
                       lt1 ((2 : Int32) * (gI t194 0 (0) 50)) fun (v195 : Int32) =>
                       ((lp (σ := (Int32 × Sto)) (ρ := Sto) (un2 fun (v199 : Int32) (t200 : Sto) =>
                          if (6 : Int32) ≤ v199 then (
                           some (.inr t200)) else (
                           ck (0 ≤ v199.toInt ∧ v199.toInt < (lIM (49) (0) : Int)) (lt1 (sI t200 (49) (0) (v199.toNatClampNeg) (-1 : Int32)) fun (t203 : Sto) =>
                            lt1 (v199 + Int32.ofInt (1)) fun (v204 : Int32) =>
                            some (.inl (v204, t203))))) 4000 (v195, t194)).bind
                        (fun (t201 : Sto) =>
                         ((lp (σ := (Int32 × Sto)) (ρ := Sto) (un2 fun (v208 : Int32) (t209 : Sto) =>
                            if (6 : Int32) ≤ v208 then (
                             some (.inr t209)) else (
                             ck (0 ≤ v208.toInt ∧ v208.toInt < (lIM (49) (0) : Int)) (
                              ck (0 ≤ v208.toInt ∧ v208.toInt < (lIM (64) (0) : Int)) (lt1 (sI t209 (64) (0) (v208.toNatClampNeg) (gI t209 (49) (0) (v208.toNatClampNeg))) fun (t212 : Sto) =>
                               lt1 (v208 + Int32.ofInt (1)) fun (v213 : Int32) =>
                               some (.inl (v213, t212)))))) 4000 ((0 : Int32), t201)).bind
                          (fun (t210 : Sto) =>
                           lt1 (sI t210 0 (0) 57 (1 : Int32)) fun (t214 : Sto) =>
                           lt1 (sD t214 0 (0) 64 (gD t214 0 (0) 53)) fun (t215 : Sto) =>
                           lt1 (sL t215 0 (0) 65 (gL t215 0 (0) 54)) fun (t216 : Sto) =>
                           lt1 (sI t216 0 (0) 9 (0 : Int32)) fun (t217 : Sto) =>
                           some (gI t217 0 (0) 50, t217))))))) = some u ∧ (u.1 = nI sb ∧ (∀ f c j, gI u.2 f c j = if f = 0 ∧ c = 0 ∧ j = 9 then 0 else if f = 0 ∧ c = 0 ∧ j = 57 then 1 else if f = 64 ∧ c = 0 ∧ j < 6 then (if j < 2 * sb then gI t 49 0 j else -1) else if f = 49 ∧ c = 0 ∧ 2 * sb ≤ j ∧ j < 6 then -1 else if f = 0 ∧ c = 0 ∧ j = 55 then b else if f = 0 ∧ c = 0 ∧ j = 52 then nI k else gI t f c j) ∧ gF u.2 = gF t ∧ (∀ f c j, gD u.2 f c j = if f = 0 ∧ c = 0 ∧ j = 64 then gD t 0 0 53 else gD t f c j) ∧ ∀ f c j, gL u.2 f c j = if f = 0 ∧ c = 0 ∧ j = 65 then gL t 0 0 54 else gL t f c j) := fun z hz => by
    subst hz
    have e2 : (2 : Int32) * nI sb = nI (2 * sb) := pk_mul 2 sb
    rw [ck_t b01, lt1_e, show gI (sI (sI t 0 0 52 (nI k)) 0 0 55 z) 0 0 50 = nI sb from h50, e2, lt1_e]
    refine ex_bind (lp_inv (fun q (w : Int32 × Sto) => w.1 = nI (2 * sb + q) ∧ Fill 49 (2 * sb) q (fun _ => -1) (sI (sI t 0 0 52 (nI k)) 0 0 55 z) w.2) (fun r => Fill 49 (2 * sb) (6 - 2 * sb) (fun _ => -1) (sI (sI t 0 0 52 (nI k)) 0 0 55 z) r) (6 - 2 * sb) (fun q w hk hI => ?_) (6 - 2 * sb) 4000 0 _ (by omega) ⟨rfl, Fill_0 _ _ _ _⟩ (by omega)) (fun w hw => ?_)
    · obtain ⟨v, w⟩ := w
      obtain ⟨hI1, hI2⟩ := hI
      have hI1 : v = nI (2 * sb + q) := hI1
      have hI2 : Fill 49 (2 * sb) q (fun _ => -1) (sI (sI t 0 0 52 (nI k)) 0 0 55 z) w := hI2
      subst hI1
      dsimp only [un2]
      by_cases e : q = 6 - 2 * sb
      · subst e
        exact Or.inl ⟨w, if_pos (by rw [show 2 * sb + (6 - 2 * sb) = 6 by omega]; exact Int32.le_refl _), hI2⟩
      · refine Or.inr ⟨by omega, (nI (2 * sb + (q + 1)), sI w 49 0 (2 * sb + q) (-1)), ?_, rfl, Fill_s hI2⟩
        rw [if_neg (show ¬ (6 : Int32) ≤ nI (2 * sb + q) from nI_gt (N := 6) (by decide) (by omega)), show lIM 49 0 = 6 from rfl, ck_t (by exact ixl (by omega) (by omega)), nI_cl (by omega), lt1_e, lt1_e, nI_s, Nat.add_assoc]
    · refine ex_bind (lp_inv (fun q (y : Int32 × Sto) => y.1 = nI q ∧ Fill 64 0 q (fun j => gI w 49 0 j) w y.2) (fun r => Fill 64 0 6 (fun j => gI w 49 0 j) w r) 6 (fun q y hk hI => ?_) 6 4000 0 _ rfl ⟨rfl, Fill_0 _ _ _ _⟩ (by decide)) (fun y hy => ?_)
      · obtain ⟨v, y⟩ := y
        obtain ⟨hI1, hI2⟩ := hI
        have hI1 : v = nI q := hI1
        have hI2 : Fill 64 0 q (fun j => gI w 49 0 j) w y := hI2
        subst hI1
        dsimp only [un2]
        by_cases e : q = 6
        · subst e
          exact Or.inl ⟨y, if_pos (show nI 6 ≤ nI 6 by decide), hI2⟩
        · have hf := Fill_s hI2
          rw [Nat.zero_add] at hf
          have e49 : gI y 49 0 q = gI w 49 0 q := by rw [hI2.1, if_neg (by omega)]
          refine Or.inr ⟨by omega, (nI (q + 1), sI y 64 0 q (gI w 49 0 q)), ?_, rfl, hf⟩
          rw [if_neg (show ¬ (6 : Int32) ≤ nI q from nI_gt (N := 6) (by decide) (by omega)), show lIM 49 0 = 6 from rfl, show lIM 64 0 = 6 from rfl, ck_t (by exact ixl (by omega) (by omega)), ck_t (by exact ixl (by omega) (by omega)), nI_cl (by omega), e49, lt1_e, lt1_e, nI_s]
      · rw [lt1_e, lt1_e, lt1_e, lt1_e]
        have yI : ∀ f c j, gI y f c j = if f = 64 ∧ c = 0 ∧ 0 ≤ j ∧ j < 0 + 6 then (if j < 2 * sb then gI t 49 0 j else -1) else if f = 49 ∧ c = 0 ∧ 2 * sb ≤ j ∧ j < 2 * sb + (6 - 2 * sb) then -1 else if f = 0 ∧ c = 0 ∧ j = 55 then z else if f = 0 ∧ c = 0 ∧ j = 52 then nI k else gI t f c j := fun f c j => by
          rw [hy.1]
          by_cases q : f = 64 ∧ c = 0 ∧ 0 ≤ j ∧ j < 0 + 6
          · rw [if_pos q, if_pos q]
            dsimp only
            rw [hw.1, Nat.sub_zero]
            by_cases r : j < 2 * sb
            · rw [if_neg (by omega), if_pos r, gI_sI, if_neg (by omega), gI_sI, if_neg (by omega)]
            · rw [if_pos (by omega), if_neg r]
          · rw [if_neg q, if_neg q, hw.1, gI_sI, gI_sI]
        refine ⟨_, rfl, ?_, fun f c j => ?_, hy.2.1.trans hw.2.1, fun f c j => ?_, fun f c j => ?_⟩
        · show gI (sI (sI y 0 0 57 1) 0 0 9 0) 0 0 50 = _
          rw [gI_sI, if_neg (by omega), gI_sI, if_neg (by omega), yI, if_neg (by omega), if_neg (by omega), if_neg (by omega), if_neg (by omega)]; exact h50
        · show gI (sI (sI y 0 0 57 1) 0 0 9 0) f c j = _
          rw [gI_sI, gI_sI, yI]
          have eB : (f = 64 ∧ c = 0 ∧ 0 ≤ j ∧ j < 0 + 6) ↔ (f = 64 ∧ c = 0 ∧ j < 6) := by omega
          have eC : (f = 49 ∧ c = 0 ∧ 2 * sb ≤ j ∧ j < 2 * sb + (6 - 2 * sb)) ↔ (f = 49 ∧ c = 0 ∧ 2 * sb ≤ j ∧ j < 6) := by omega
          simp only [eB, eC]
        · show gD (sD (sI y 0 0 57 1) 0 0 64 (gD (sI y 0 0 57 1) 0 0 53)) f c j = _
          rw [gD_sD, show gD (sI y 0 0 57 1) = gD t from hy.2.2.1.trans hw.2.2.1]
        · show gL (sL (sI y 0 0 57 1) 0 0 65 (gL (sI y 0 0 57 1) 0 0 54)) f c j = _
          rw [gL_sL, show gL (sI y 0 0 57 1) = gL t from hy.2.2.2.trans hw.2.2.2]
  unfold mEnd
  rw [h51, lt1_e, jn_e]
  rcases hb with ⟨h1, h2⟩ | ⟨h1, h2⟩
  · rw [show gI (sI t 0 0 52 (nI k)) 0 0 56 = 0 from h1, if_pos rfl]
    exact go 1 h2.symm
  · rw [show gI (sI t 0 0 52 (nI k)) 0 0 56 = 1 from h1, if_neg (show ¬ (1 : Int32) = 0 by decide)]
    exact go 0 h2.symm
theorem mSizes {x : Sto} {l e c n a st T : Nat} {D : Nat → Nat} {W : Nat → Nat → Nat} {gr : Nat → UInt32} {X1 m : Sto} {sel : Nat → Bool} {cnt : Nat} {a5 : Int32} (hE : Env x l e c n a st T D gr) (hS : Sel a5 sel cnt n D) (h0 : IV x l e c n a st T D W gr X1 0 (fun k => k) (fun _ => T) m) (h4 : gI m 0 0 4 = nI cnt) : ∃ r, lp (mL0 a5 (nI a)) 4000 (1, m) = some r ∧ (End x l e c n a st T D W gr X1 a r ∨ FL x l e c n a st T D W gr X1 r) := by
  have hE0 := hE
  obtain ⟨_, _, _, _, e5, e6, _, e8, _⟩ := hE0
  refine lp_inv (fun k (w : Int32 × Sto) => w.1 = nI (1 + k) ∧ (End x l e c n a st T D W gr X1 k w.2 ∨ FL x l e c n a st T D W gr X1 w.2) ∧ gI w.2 0 0 4 = nI cnt) _ a (fun k w hk hI => ?_) a 4000 0 _ (by omega) ⟨rfl, Or.inl ?_, h4⟩ (by omega)
  · obtain ⟨v, t⟩ := w
    obtain ⟨hI1, hI2, hI3⟩ := hI
    have hI1 : v = nI (1 + k) := hI1
    have hI2 : End x l e c n a st T D W gr X1 k t ∨ FL x l e c n a st T D W gr X1 t := hI2
    subst hI1
    unfold mL0
    dsimp only [un2]
    by_cases q : k = a
    · subst q
      exact Or.inl ⟨t, if_pos ((nI_ltJ (by omega) (by omega)).mpr (by omega)), hI2⟩
    · have hO : O1 x l e c n a st T D W gr X1 (k + 1) 0 t := by
        rcases hI2 with h | h
        · unfold End at h
          by_cases kn : k < n
          · rw [Nat.min_eq_left (by omega)] at h
            exact Or.inl ⟨by omega, Nx_i (i := fun j => j) ⟨k, _, _, h, fun X hX hC => advC hX hC (by omega) e6 (by omega) (fun q hq => by omega) (fun _ _ => rfl) (fun _ _ => Nat.le_refl _) (by omega) kn⟩ (fun p _ => (Nat.zero_add p).symm)⟩
          · refine Or.inr (Or.inl ⟨by omega, ?_⟩)
            unfold End
            rw [show min (k + 1) n = min k n by omega]
            exact h
        · exact Or.inr (Or.inr h)
      obtain ⟨r, r1, r2, r3⟩ := l1 (s := k + 1) (by omega) (by omega) hE hS hO hI3
      refine Or.inr ⟨by omega, (nI (1 + (k + 1)), r), ?_, rfl, r2, r3⟩
      rw [if_neg (fun z => by have := (nI_ltJ (by omega) (by omega)).mp z; omega), show 1 + k = k + 1 by omega]
      refine (congrArg (fun o => Option.bind o _) r1).trans ?_
      rw [Option.bind_some, lt1_e, nI_s, show 1 + (k + 1) = k + 1 + 1 by omega]
  · unfold End
    show IV x l e c n a st T D W gr X1 (min 0 n) _ _ m
    rw [Nat.zero_min]
    exact IV_i h0 (fun k hk => absurd hk (Nat.not_lt_zero k))
