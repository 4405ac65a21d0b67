/-! ===== the class's search: the next set ===== -/
theorem xNext {x : Sto} {o s n a p : Nat} {i : Nat → Nat} (ho : o < 2) (hs : gI x 16 o 9 = nI s) (hn : gI x 16 o 3 = nI n) (ha : gI x 16 o 4 = nI a) (s3 : s ≤ 3) (sn : s ≤ n) (n20 : n ≤ 20) (a3 : a ≤ 3) (hp : p ≤ s) (hi : ∀ k, k < s → gI x 48 o k = nI (i k) ∧ i k < 20) (hlt : ∀ q, q + 1 = p → i q < n - s + q) (hge : ∀ q, p ≤ q → q < s → n - s + q ≤ i q) : (∀ p', p = p' + 1 → ∃ y, fX8_nextSet o x = some (1, y) ∧ ∃ z, FillI 48 o p' (s - p') (fun j => nI (i p' + 1 + j - p')) x z ∧ FillI 49 o 0 s (fun _ => 1) z y) ∧ (p = 0 → (s < a → s < n → ∃ y, fX8_nextSet o x = some (1, y) ∧ ∃ z, FillI 48 o 0 (s + 1) (fun j => nI j) (sI x 16 o 9 (nI (s + 1))) z ∧ FillI 49 o 0 (s + 1) (fun _ => 1) z y) ∧ (a ≤ s ∨ n ≤ s → fX8_nextSet o x = some (0, x))) := by
  have body : ∀ k, k + p < s → (fun (v5 : Int32) =>
     if v5 < 0 then (
      (some (.inr (.inr ())) : Option (Int32 ⊕ ((Int32 × Sto) ⊕ Unit)))) else (
      ck (0 ≤ v5.toInt ∧ v5.toInt < (lIX (48) o : Int)) (
       if ((gI x 16 o 3) - (gI x 16 o 9)) + v5 ≤ gI x (48) o (v5.toNatClampNeg) then (
        lt1 (v5 + Int32.ofInt (-1)) fun (v13 : Int32) =>
        some (.inl v13)) else (
        ck (0 ≤ v5.toInt ∧ v5.toInt < (lIX (48) o : Int)) (
         (fX8_fillFrom o v5 ((gI x (48) o (v5.toNatClampNeg)) + (1 : Int32)) x).bind (fun (t14 : Sto) =>
          some (.inr (.inl ((1 : Int32), t14))))))))) (nI (s - k) - (1 : Int32)) = some (.inl (nI (s - (k + 1)) - (1 : Int32))) := fun k hk => by
    obtain ⟨j, hj⟩ : ∃ j, s - k = j + 1 := ⟨s - k - 1, by omega⟩
    obtain ⟨i1, i2⟩ := hi j (by omega)
    dsimp only
    rw [hj, nI_p, if_neg (nI_lt0 (by omega)), lI48 ho, ck_t (by exact ixl (by omega) (by omega)), nI_cl (by omega), hn, hs, pk_sub sn, nI_add, i1, if_pos (show nI (n - s + j) ≤ nI (i j) from by rw [Int32.le_iff_toInt_le, nI_toInt (by omega), nI_toInt (by omega)]; have := hge j (by omega) (by omega); omega), nI_d, lt1_e, show s - (k + 1) = j by omega]
  refine ⟨fun p' hp' => ?_, fun p0 => ⟨fun sa s_n => ?_, fun q => ?_⟩⟩
  · subst hp'
    obtain ⟨i1, i2⟩ := hi p' (by omega)
    obtain ⟨y, f1, f2⟩ := xFill (x := x) (o := o) (s := s) (a := p') (b := i p' + 1) ho hs s3 (by omega)
    refine ⟨y, ?_, f2⟩
    unfold fX8_nextSet
    rw [hs, lt1_e]
    rw [hs] at body
    refine (congrArg (fun o => Option.bind o _) (lp_seq0 (fun k => nI (s - k) - (1 : Int32)) (r := (.inl (1, y) : (Int32 × Sto) ⊕ Unit)) (s - (p' + 1)) 4000 rfl (fun k hk => body k (by omega)) ?_ (by omega))).trans ?_
    · rw [show s - (s - (p' + 1)) = p' + 1 by omega, nI_p, if_neg (nI_lt0 (by omega)), lI48 ho, ck_t (by exact ixl (by omega) (by omega)), nI_cl (by omega), hn, pk_sub sn, nI_add, i1, if_neg (nI_gt (by omega) (hlt p' rfl)), ck_t (by exact ixl (by omega) (by omega)), nI_1, f1, Option.bind_some]
    · rw [Option.bind_some]; rfl
  · subst p0
    obtain ⟨y, f1, z, f2, f3⟩ := xFill (x := sI x 16 o 9 (nI (s + 1))) (o := o) (s := s + 1) (a := 0) (b := 0) ho (by rw [gI_sI, if_pos ⟨rfl, rfl, rfl⟩]) (by omega) (by omega)
    refine ⟨y, ?_, z, ?_, f3⟩
    · unfold fX8_nextSet
      rw [hs] at body
      rw [hs, lt1_e]
      refine (congrArg (fun o => Option.bind o _) (lp_seq0 (fun k => nI (s - k) - (1 : Int32)) (r := (.inr () : (Int32 × Sto) ⊕ Unit)) s 4000 rfl (fun k hk => body k (by omega)) ?_ (by omega))).trans ?_
      · rw [Nat.sub_self, if_pos m1_lt0]
      · rw [Option.bind_some]
        dsimp only [sm]
        rw [ha, if_neg (nI_gt (by omega) sa), hn, if_pos ((nI_ltJ (by omega) (by omega)).mpr s_n), nI_1, lt1_e, show fX8_fillFrom o (0 : Int32) (0 : Int32) (sI x 16 o 9 (nI (s + 1))) = some y from f1, Option.bind_some]
    · exact FillI_c f2 (fun j _ _ => by rw [Nat.zero_add, Nat.sub_zero])
  · subst p0
    unfold fX8_nextSet
    rw [hs] at body
    rw [hs, lt1_e]
    refine (congrArg (fun o => Option.bind o _) (lp_seq0 (fun k => nI (s - k) - (1 : Int32)) (r := (.inr () : (Int32 × Sto) ⊕ Unit)) s 4000 rfl (fun k hk => body k (by omega)) ?_ (by omega))).trans ?_
    · rw [Nat.sub_self, if_pos m1_lt0]
    · rw [Option.bind_some]
      dsimp only [sm]
      rw [ha]
      by_cases z : a ≤ s
      · rw [if_pos (show nI a ≤ nI s from by rw [Int32.le_iff_toInt_le, nI_toInt (by omega), nI_toInt (by omega)]; omega)]
      · rw [if_neg (nI_gt (by omega) (by omega)), hn, if_neg (fun w => by have := (nI_ltJ (by omega) (by omega)).mp w; omega)]
def nsum (c : Nat → Nat) : Nat → Nat
  | 0 => 0
  | n + 1 => nsum c n + c n
theorem xRoom {x : Sto} {o s L : Nat} {i need : Nat → Nat} (ho : o < 2) (hs : gI x 16 o 9 = nI s) (s3 : s ≤ 3) (hi : ∀ k, k < s → gI x 48 o k = nI (i k) ∧ i k < 20) (hd : ∀ k, k < s → gI x 47 o (i k) = nI (need k)) (hL : gI x 16 o 6 = nI L) (L30 : L < 2 ^ 30) (h30 : nsum need s < 2 ^ 30) : fX8_hasRoom o x = some (if L < nsum need s then 0 else 1) := by
  unfold fX8_hasRoom
  refine (congrArg (fun o => Option.bind o _) (lp_seq0 (fun k => (nI k, nI (nsum need k))) (r := nI (nsum need s)) s 4000 rfl (fun k hk => ?_) ?_ (by omega))).trans ?_
  · obtain ⟨i1, i2⟩ := hi k hk
    dsimp only [un2]
    rw [hs, if_neg (nI_gt (by omega) hk), lI48 ho, lI47 ho, ck_t (by exact ixl (by omega) (by omega)), nI_cl (by omega), i1, ck_t (by exact ixl (by omega) (by omega)), nI_cl (n := i k) (by omega), hd k hk, nI_add, lt1_e, lt1_e, nI_s]
    rfl
  · dsimp only [un2]
    rw [hs, if_pos (Int32.le_refl _)]
  · rw [Option.bind_some, hL]
    by_cases q : L < nsum need s
    · rw [if_pos q, if_pos ((nI_ltJ (by omega) (by omega)).mpr q)]
    · rw [if_neg q, if_neg (fun w => q ((nI_ltJ (by omega) (by omega)).mp w))]
theorem advR_1 {o : Nat} {t y : Sto} (h : fX8_nextSet o t = some (1, y)) (k : fX8_hasRoom o y = some 1) : advR o t = some (1, y) := by
  unfold advR
  refine (congrArg (fun o => Option.bind o _) (lp_x (r := (.inl (1, y) : (Int32 × Sto) ⊕ Sto)) ?_)).trans rfl
  dsimp only [un2]
  rw [if_neg (show ¬ (1000 : Int32) ≤ 0 by decide), h, Option.bind_some]
  dsimp only [un2]
  rw [if_neg (show ¬ (1 : Int32) = 0 by decide), k, Option.bind_some, if_neg (show ¬ (1 : Int32) = 0 by decide)]
theorem advR_0 {o : Nat} {t y : Sto} (h : fX8_nextSet o t = some (0, y)) : advR o t = some (0, y) := by
  unfold advR
  refine (congrArg (fun o => Option.bind o _) (lp_x (r := (.inl (0, y) : (Int32 × Sto) ⊕ Sto)) ?_)).trans rfl
  dsimp only [un2]
  rw [if_neg (show ¬ (1000 : Int32) ≤ 0 by decide), h, Option.bind_some]
  dsimp only [un2]
  rw [if_pos rfl]
