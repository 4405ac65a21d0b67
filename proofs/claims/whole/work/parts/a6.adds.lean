/-! ===== what the reference adds to its bath ===== -/
theorem mAdds {m : Sto} {N v g p left_ : Nat} {q h : Nat → Nat} (hT : Bt m N q h) (N8 : N ≤ 8) (v20 : v < 20) (hL : gI m 20 0 v = nI left_) (L9 : left_ ≤ 1000000000) (g6 : g ≤ 1000000) (hq : ∀ k, k < N → q k < 20) (hp : p ≤ N) (hno : ∀ k, k < p → q k ≠ v) (hy : p < N → q p = v) : (100000 < g ∨ left_ < 1000 * g ∨ p = 8 → fX12_adds (nI v) (nI g) m = some (0, m)) ∧ (g ≤ 100000 → 1000 * g ≤ left_ → p < 8 → ∃ m', fX12_adds (nI v) (nI g) m = some (1, m') ∧ Bt m' (if p < N then N else N + 1) (fun j => if j = p then v else q j) (fun j => if j = p then (if p < N then h p else 0) + g else h j) ∧ (∀ f b j, ¬ (b = 0 ∧ (f = 67 ∨ f = 68 ∨ (f = 0 ∧ j = 68))) → gI m' f b j = gI m f b j) ∧ gF m' = gF m ∧ gD m' = gD m ∧ gL m' = gL m) := by
  have egl : (nI g).toInt64 * (1000 : Int64) = lN (1000 * g) := by
    rw [nI_64 (by omega)]
    show lN g * lN 1000 = _
    rw [lN_mul, Nat.mul_comm]
  have eLl : (nI left_).toInt64 = lN left_ := nI_64 (by omega)
  have hslot : lp (σ := Int32) (ρ := Int32) (fun (v6 : Int32) =>
        if gI m 0 (0) 68 ≤ v6 then (
         some (.inr v6)) else (
         ck (0 ≤ v6.toInt ∧ v6.toInt < (lIM (67) (0) : Int)) (
          if gI m (67) (0) (v6.toNatClampNeg) = nI v then (
           some (.inr v6)) else (
           lt1 (v6 + Int32.ofInt (1)) fun (v20 : Int32) =>
           some (.inl v20))))) 4000 (0 : Int32) = some (nI p) := by
    refine lp_seq0 (fun k => nI k) p 4000 rfl (fun k hk => ?_) ?_ (by omega)
    · have := hq k (by omega)
      rw [hT.1, if_neg (nI_gt (by omega) (by omega)), show lIM 67 0 = 10 from rfl, ck_t (by exact ixl (by omega) (by omega)), nI_cl (by omega), (hT.2 k (by omega)).1, if_neg (fun z => hno k hk ((nI_inj (by omega) (by omega)).mp z)), lt1_e, nI_s]
    · rw [hT.1]
      by_cases z : p < N
      · rw [if_neg (nI_gt (by omega) z), show lIM 67 0 = 10 from rfl, ck_t (by exact ixl (by omega) (by omega)), nI_cl (by omega), (hT.2 p z).1, hy z, if_pos rfl]
      · rw [if_pos (show nI N ≤ nI p from by rw [show p = N by omega]; exact Int32.le_refl _)]
  have c1 : nI g > (100000 : Int32) ↔ 100000 < g := nI_ltJ (a := 100000) (b := g) (by decide) (by omega)
  have c2 : lg_cmp (lN (1000 * g)) (lN left_) ≤ 0 ↔ 1000 * g ≤ left_ := (lg_cmp_le _ _).trans (lN_leI (by omega) (by omega))
  refine ⟨fun z => ?_, fun g1 g2 p8 => ?_⟩
  · unfold fX12_adds
    by_cases y1 : 100000 < g
    · rw [if_pos (c1.mpr y1)]
    · rw [if_neg (fun w => y1 (c1.mp w)), show lIM 20 0 = 20 from rfl, ck_t (by exact ixl (by omega) (by omega)), nI_cl (by omega), hL, egl, eLl]
      by_cases y2 : 1000 * g ≤ left_
      · rw [if_pos (c2.mpr y2)]
        refine (congrArg (fun o => Option.bind o _) hslot).trans ?_
        rw [Option.bind_some, if_pos (show nI p = (8 : Int32) by rw [show p = 8 by omega]; rfl)]
      · rw [if_neg (fun w => y2 (c2.mp w))]
  · unfold fX12_adds
    rw [if_neg (fun w => by have := c1.mp w; omega), show lIM 20 0 = 20 from rfl, ck_t (by exact ixl (by omega) (by omega)), nI_cl (n := v) (by omega), hL, egl, eLl, if_pos (c2.mpr g2)]
    have n8 : ¬ nI p = (8 : Int32) := fun z => by have := (nI_inj (by omega) (by decide)).mp (show nI p = nI 8 from z); omega
    by_cases z : p < N
    · have hne : ¬ nI p = nI N := fun w => by have := (nI_inj (by omega) (by omega)).mp w; omega
      refine ⟨sI m 68 0 p (nI (h p + g)), ?_, ⟨?_, fun j hj => ⟨?_, ?_⟩⟩, fun f b j q => by rw [gI_sI, if_neg (by omega)], rfl, rfl, rfl⟩
      · refine (congrArg (fun o => Option.bind o _) hslot).trans ?_
        rw [Option.bind_some, if_neg n8, hT.1, if_neg hne, show lIM 68 0 = 10 from rfl, ck_t (by exact ixl (by omega) (by omega)), ck_t (by exact ixl (by omega) (by omega)), nI_cl (by omega), (hT.2 p z).2, nI_add, lt1_e]
      · rw [if_pos z]; exact hT.1
      · rw [if_pos z] at hj
        dsimp only
        rw [gI_sI, if_neg (by omega), (hT.2 j hj).1]
        by_cases e : j = p
        · rw [if_pos e, e, hy z]
        · rw [if_neg e]
      · rw [if_pos z] at hj
        dsimp only
        rw [gI_sI]
        by_cases e : j = p
        · rw [if_pos ⟨rfl, rfl, e⟩, if_pos e, if_pos z]
        · rw [if_neg (by omega), if_neg e, (hT.2 j hj).2]
    · have e : p = N := by omega
      subst e
      refine ⟨sI (sI (sI (sI m 67 0 p (nI v)) 68 0 p 0) 0 0 68 (nI (p + 1))) 68 0 p (nI g), ?_, ⟨?_, fun j hj => ⟨?_, ?_⟩⟩, fun f b j q => by rw [gI_sI, if_neg (by omega), gI_sI, if_neg (by omega), gI_sI, if_neg (by omega), gI_sI, if_neg (by omega)], rfl, rfl, rfl⟩
      · refine (congrArg (fun o => Option.bind o _) hslot).trans ?_
        rw [Option.bind_some, if_neg n8, hT.1, if_pos rfl, show lIM 67 0 = 10 from rfl, show lIM 68 0 = 10 from rfl, ck_t (by exact ixl (by omega) (by omega)), nI_cl (by omega), lt1_e, ck_t (by exact ixl (by omega) (by omega)), lt1_e, show gI (sI (sI m 67 0 p (nI v)) 68 0 p 0) 0 0 68 = nI p from hT.1, nI_1, lt1_e, ck_t (by exact ixl (by omega) (by omega)), ck_t (by exact ixl (by omega) (by omega)), show gI (sI (sI (sI m 67 0 p (nI v)) 68 0 p 0) 0 0 68 (nI (p + 1))) 68 0 p = 0 from by rw [gI_sI, if_neg (by omega), gI_sI, if_pos ⟨rfl, rfl, rfl⟩], show (0 : Int32) + nI g = nI g from by rw [show (0 : Int32) + nI g = nI (0 + g) from nI_add 0 g, Nat.zero_add], lt1_e]
      · rw [if_neg z]; rfl
      · rw [if_neg z] at hj
        dsimp only
        rw [gI_sI, if_neg (by omega), gI_sI, if_neg (by omega), gI_sI, if_neg (by omega), gI_sI]
        by_cases e : j = p
        · rw [if_pos ⟨rfl, rfl, e⟩, if_pos e]
        · rw [if_neg (by omega), if_neg e]; exact (hT.2 j (by omega)).1
      · rw [if_neg z] at hj
        dsimp only
        rw [gI_sI]
        by_cases e : j = p
        · rw [if_pos ⟨rfl, rfl, e⟩, if_pos e, if_neg z, Nat.zero_add]
        · rw [if_neg (by omega), if_neg e, gI_sI, if_neg (by omega), gI_sI, if_neg (by omega), gI_sI, if_neg (by omega)]; exact (hT.2 j (by omega)).2
/-- the reference's bath as the batch is -/
theorem mBathOf {t m : Sto} {b nb : Nat} {L H : Nat → Nat} (b12 : b < 12) (nb8 : nb ≤ 8) (h23 : gI m 23 0 b = nI nb) (hL : ∀ p, p < nb → gI m 24 0 (8 * b + p) = nI (L p) ∧ gI m 25 0 (8 * b + p) = nI (H p)) : ∃ m', fX12_bathOf (nI b) m = some m' ∧ (Bt m' nb L H ∧ (∀ f c j, ¬ (c = 0 ∧ (f = 67 ∨ f = 68 ∨ (f = 0 ∧ j = 68))) → gI m' f c j = gI m f c j) ∧ gF m' = gF m ∧ gD m' = gD m ∧ gL m' = gL m) := by
  unfold fX12_bathOf
  rw [show lIM 23 0 = 12 from rfl, ck_t (by exact ixl (by omega) (by omega)), nI_cl (n := b) (by omega), h23, lt1_e]
  refine ex_bind (lp_inv (fun k (w : Int32 × Sto) => w.1 = nI k ∧ (∀ p, p < k → gI w.2 67 0 p = nI (L p) ∧ gI w.2 68 0 p = nI (H p)) ∧ (∀ f c j, ¬ (c = 0 ∧ (f = 67 ∨ f = 68)) → gI w.2 f c j = gI (sI m 0 0 68 (nI nb)) f c j) ∧ gF w.2 = gF m ∧ gD w.2 = gD m ∧ gL w.2 = gL m) (fun r => (∀ p, p < nb → gI r 67 0 p = nI (L p) ∧ gI r 68 0 p = nI (H p)) ∧ (∀ f c j, ¬ (c = 0 ∧ (f = 67 ∨ f = 68)) → gI r f c j = gI (sI m 0 0 68 (nI nb)) f c j) ∧ gF r = gF m ∧ gD r = gD m ∧ gL r = gL m) nb (fun k w hk hI => ?_) nb 4000 0 _ (by omega) ⟨rfl, fun p hp => absurd hp (Nat.not_lt_zero p), fun _ _ _ _ => rfl, rfl, rfl, rfl⟩ (by omega)) (fun r hr => ⟨r, rfl, ⟨?_, hr.1⟩, fun f c j q => ?_, hr.2.2⟩)
  · obtain ⟨v, w⟩ := w
    obtain ⟨hI1, hI2, hI3, hI4⟩ := hI
    have hI1 : v = nI k := hI1
    have hI2 : ∀ p, p < k → gI w 67 0 p = nI (L p) ∧ gI w 68 0 p = nI (H p) := hI2
    have hI3 : ∀ f c j, ¬ (c = 0 ∧ (f = 67 ∨ f = 68)) → gI w f c j = gI (sI m 0 0 68 (nI nb)) f c j := hI3
    subst hI1
    dsimp only [un2]
    have w68 : gI w 0 0 68 = nI nb := hI3 _ _ _ (by omega)
    by_cases q : k = nb
    · subst q
      exact Or.inl ⟨w, by rw [w68, if_pos (Int32.le_refl _)], hI2, hI3, hI4⟩
    · obtain ⟨g1, g2⟩ := hL k (by omega)
      have e8 : ((8 : Int32) * nI b) + nI k = nI (8 * b + k) := by
        show nI 8 * nI b + nI k = _
        simp only [pk_mul, nI_add]
      have e24 : gI w 24 0 (8 * b + k) = nI (L k) := by rw [hI3 _ _ _ (by omega), gI_sI, if_neg (by omega)]; exact g1
      have e25 : gI (sI w 67 0 k (nI (L k))) 25 0 (8 * b + k) = nI (H k) := by rw [gI_sI, if_neg (by omega), hI3 _ _ _ (by omega), gI_sI, if_neg (by omega)]; exact g2
      refine Or.inr ⟨by omega, (nI (k + 1), sI (sI w 67 0 k (nI (L k))) 68 0 k (nI (H k))), ?_, rfl, fun p hp => ⟨?_, ?_⟩, fun f c j q => ?_, hI4⟩
      · rw [w68, if_neg (nI_gt (by omega) (by omega)), e8, show lIM 24 0 = 96 from rfl, show lIM 67 0 = 10 from rfl, show lIM 25 0 = 96 from rfl, show lIM 68 0 = 10 from rfl, ck_t (by exact ixl (by omega) (by omega)), ck_t (by exact ixl (by omega) (by omega)), nI_cl (n := k) (by omega), nI_cl (n := 8 * b + k) (by omega), e24, lt1_e, ck_t (by exact ixl (by omega) (by omega)), ck_t (by exact ixl (by omega) (by omega)), e25, lt1_e, lt1_e, nI_s]
      · show gI (sI (sI w 67 0 k (nI (L k))) 68 0 k (nI (H k))) 67 0 p = _
        rw [gI_sI, if_neg (by omega), gI_sI]
        by_cases e : p = k
        · rw [if_pos ⟨rfl, rfl, e⟩, e]
        · rw [if_neg (by omega)]; exact (hI2 p (by omega)).1
      · show gI (sI (sI w 67 0 k (nI (L k))) 68 0 k (nI (H k))) 68 0 p = _
        rw [gI_sI]
        by_cases e : p = k
        · rw [if_pos ⟨rfl, rfl, e⟩, e]
        · rw [if_neg (by omega), gI_sI, if_neg (by omega)]; exact (hI2 p (by omega)).2
      · show gI (sI (sI w 67 0 k (nI (L k))) 68 0 k (nI (H k))) f c j = _
        rw [gI_sI, if_neg (by omega), gI_sI, if_neg (by omega)]; exact hI3 f c j q
  · rw [hr.2.1 _ _ _ (by omega)]; rfl
  · rw [hr.2.1 _ _ _ (by omega), gI_sI, if_neg (by omega)]
