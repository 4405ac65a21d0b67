/-! ===== the reference's odometer ===== -/
theorem lp_dec {σ ρ : Type} {body : σ → Option (σ ⊕ ρ)} (I : Nat → σ → Prop) (P : ρ → Prop) (hs : ∀ i s, I i s → (∃ r, body s = some (.inr r) ∧ P r) ∨ ∃ i' s', i' < i ∧ body s = some (.inl s') ∧ I i' s') : ∀ (n i : Nat) (s : σ), I i s → i < n → ∃ r, lp body n s = some r ∧ P r
  | 0, _, _, _, h => absurd h (Nat.not_lt_zero _)
  | n + 1, i, s, h, hi => by
    rcases hs i s h with ⟨r, h1, h2⟩ | ⟨i', s', h1, h2, h3⟩
    · exact ⟨r, lp_x h1, h2⟩
    · rw [lp_s h2]
      exact lp_dec I P hs n i' s' h3 (by omega)
theorem topOf (P : Nat → Prop) : ∀ s, ∃ p, p ≤ s ∧ (∀ q, p ≤ q → q < s → P q) ∧ ∀ p', p = p' + 1 → ¬ P p'
  | 0 => ⟨0, Nat.le_refl 0, fun q _ h => absurd h (Nat.not_lt_zero q), fun p' h => absurd h (by omega)⟩
  | s + 1 => by
    by_cases h : P s
    · obtain ⟨p, h1, h2, h3⟩ := topOf P s
      refine ⟨p, by omega, fun q q1 q2 => ?_, h3⟩
      by_cases e : q = s
      · rw [e]; exact h
      · exact h2 q q1 (by omega)
    · exact ⟨s + 1, Nat.le_refl _, fun q q1 q2 => absurd q1 (by omega), fun p' e => by rw [show p' = s by omega]; exact h⟩
theorem i21 (k : Nat) : ((2 : Int32) * nI k) + (1 : Int32) = nI (2 * k + 1) := by
  show nI 2 * nI k + nI 1 = _
  simp only [pk_mul, nI_add]
def mOB : Int32 × Sto → Option ((Int32 × Sto) ⊕ (Int32 × Sto)) := un2 fun (v62 : Int32) (t63 : Sto) =>
             if v62 < 0 then (
              some (.inr (v62, t63))) else (
              ck (0 ≤ (((2 : Int32) * v62) + (1 : Int32)).toInt ∧ (((2 : Int32) * v62) + (1 : Int32)).toInt < (lIM (48) (0) : Int)) (
               if gI t63 (48) (0) ((((2 : Int32) * v62) + (1 : Int32)).toNatClampNeg) = (gI t63 0 (0) 61) * (gI t63 0 (0) 62) then (
                ck (0 ≤ (((2 : Int32) * v62) + (1 : Int32)).toInt ∧ (((2 : Int32) * v62) + (1 : Int32)).toInt < (lIM (48) (0) : Int)) (lt1 (sI t63 (48) (0) ((((2 : Int32) * v62) + (1 : Int32)).toNatClampNeg) (gI t63 0 (0) 61)) fun (t78 : Sto) =>
                 lt1 (v62 + Int32.ofInt (-1)) fun (v79 : Int32) =>
                 some (.inl (v79, t78)))) else (
                some (.inr (v62, t63)))))
theorem mOdo {t : Sto} {s p st T : Nat} {g : Nat → Nat} {Q : Sto → Prop} (Qw : ∀ t j v, Q t → Q (sI t 48 0 j v)) (s3 : s ≤ 3) (hp : p ≤ s) (h61 : gI t 0 0 61 = nI st) (h62 : gI t 0 0 62 = nI T) (harr : ∀ k, k < s → gI t 48 0 (2 * k + 1) = nI (g k * st)) (gT : ∀ k, k < s → g k ≤ T) (T12 : T ≤ 12) (st1 : 1 ≤ st) (st2 : st ≤ 10000) (hT : ∀ q, p ≤ q → q < s → g q = T) (hlt : ∀ p', p = p' + 1 → g p' ≠ T) (hQ : Q t) : ∃ z, lp mOB 4000 (nI s - (1 : Int32), t) = some (nI p - (1 : Int32), z) ∧ Q z ∧ ∀ f b j, gI z f b j = if f = 48 ∧ b = 0 ∧ j % 2 = 1 ∧ 2 * p ≤ j ∧ j < 2 * s then nI st else gI t f b j := by
  have key := lp_inv (body := mOB) (fun k (w : Int32 × Sto) => w.1 = nI (s - k) - (1 : Int32) ∧ Q w.2 ∧ ∀ f b j, gI w.2 f b j = if f = 48 ∧ b = 0 ∧ j % 2 = 1 ∧ 2 * (s - k) ≤ j ∧ j < 2 * s then nI st else gI t f b j) (fun r => r.1 = nI p - (1 : Int32) ∧ Q r.2 ∧ ∀ f b j, gI r.2 f b j = if f = 48 ∧ b = 0 ∧ j % 2 = 1 ∧ 2 * p ≤ j ∧ j < 2 * s then nI st else gI t f b j) (s - p) (fun k w hk hI => ?_) (s - p) 4000 0 (nI s - (1 : Int32), t) (by omega) ⟨rfl, hQ, fun f b j => by rw [if_neg (by omega)]⟩ (by omega)
  · obtain ⟨⟨r1, r2⟩, h1, h2, h3, h4⟩ := key
    have h2 : r1 = nI p - (1 : Int32) := h2
    subst h2
    exact ⟨r2, h1, h3, h4⟩
  · obtain ⟨v, w⟩ := w
    obtain ⟨hI1, hI2, hI3⟩ := hI
    have hI1 : v = nI (s - k) - (1 : Int32) := hI1
    have hI3 : ∀ f b j, gI w f b j = if f = 48 ∧ b = 0 ∧ j % 2 = 1 ∧ 2 * (s - k) ≤ j ∧ j < 2 * s then nI st else gI t f b j := hI3
    subst hI1
    unfold mOB
    dsimp only [un2]
    have w61 : gI w 0 0 61 = nI st := by rw [hI3, if_neg (by omega)]; exact h61
    have w62 : gI w 0 0 62 = nI T := by rw [hI3, if_neg (by omega)]; exact h62
    have warr : ∀ j, j + 1 = s - k → gI w 48 0 (2 * j + 1) = nI (g j * st) := fun j hj => by rw [hI3, if_neg (by omega)]; exact harr j (by omega)
    have bT : st * T ≤ 120000 := Nat.mul_le_mul st2 T12
    by_cases q : k = s - p
    · have e : s - k = p := by omega
      rw [e] at hI3 warr ⊢
      left
      refine ⟨(nI p - (1 : Int32), w), ?_, rfl, hI2, hI3⟩
      by_cases p0 : p = 0
      · subst p0
        rw [if_pos m1_lt0]
      · obtain ⟨p', rfl⟩ : ∃ p', p = p' + 1 := ⟨p - 1, by omega⟩
        have ne := hlt p' rfl
        have le := gT p' (by omega)
        have b2 : g p' * st ≤ 120000 := Nat.mul_le_mul (Nat.le_trans le T12) st2
        rw [nI_p, if_neg (nI_lt0 (by omega)), i21, show lIM 48 0 = 6 from rfl, ck_t (by exact ixl (by omega) (by omega)), nI_cl (by omega), warr p' rfl, w61, w62, pk_mul, if_neg (fun z => ne (by
          have h := (nI_inj (by omega) (by omega)).mp z
          rw [Nat.mul_comm st T] at h
          exact Nat.eq_of_mul_eq_mul_right st1 h))]
    · obtain ⟨j, hj⟩ : ∃ j, s - k = j + 1 := ⟨s - k - 1, by omega⟩
      have gj := hT j (by omega) (by omega)
      have wj := warr j (by omega)
      rw [hj] at hI3 ⊢
      refine Or.inr ⟨by omega, (nI (s - (k + 1)) - (1 : Int32), sI w 48 0 (2 * j + 1) (nI st)), ?_, rfl, Qw _ _ _ hI2, fun f b j' => ?_⟩
      · rw [nI_p, if_neg (nI_lt0 (by omega)), i21, show lIM 48 0 = 6 from rfl, ck_t (by exact ixl (by omega) (by omega)), nI_cl (by omega), wj, w61, w62, pk_mul, gj, if_pos (by rw [Nat.mul_comm]), ck_t (by exact ixl (by omega) (by omega)), lt1_e, nI_d, lt1_e, show s - (k + 1) = j by omega]
      · rw [gI_sI, hI3, show s - (k + 1) = j by omega]
        by_cases z : f = 48 ∧ b = 0 ∧ j' = 2 * j + 1
        · rw [if_pos z, if_pos (by omega)]
        · rw [if_neg z]
          by_cases y : f = 48 ∧ b = 0 ∧ j' % 2 = 1 ∧ 2 * (j + 1) ≤ j' ∧ j' < 2 * s
          · rw [if_pos y, if_pos (by omega)]
          · rw [if_neg y, if_neg (by omega)]
