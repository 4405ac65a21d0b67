/-! ===== the outer loops ===== -/
section
variable {x : Sto} {l e c n a st T : Nat} {D : Nat → Nat} {W : Nat → Nat → Nat} {gr : Nat → UInt32} {X1 : Sto} {s : Nat} {m : Sto} {sel : Nat → Bool} {cnt : Nat} {a5 : Int32}
theorem l2 {j0 v0 : Nat} (hs : s = 2 ∨ s = 3) (hE : Env x l e c n a st T D gr) (hS : Sel a5 sel cnt n D) (hv : v0 < cnt) (hr : rk sel (v0 + 1) = j0 + 1) (hO : O2 x l e c n a st T D W gr X1 s j0 (j0 + 1) m) (h0 : gI m 48 0 0 = nI (D j0)) (h4 : gI m 0 0 4 = nI cnt) : ∃ r, lp (mL2 a5 (nI s)) 4000 (nI (v0 + 1), m) = some r ∧ (O1 x l e c n a st T D W gr X1 s (j0 + 1) r ∧ gI r 0 0 4 = nI cnt) := by
  have hS0 := hS
  obtain ⟨c12, nE, hD, hof⟩ := hS
  refine lp_inv (fun k (w : Int32 × Sto) => w.1 = nI (v0 + 1 + k) ∧ O2 x l e c n a st T D W gr X1 s j0 (rk sel (v0 + 1 + k)) w.2 ∧ gI w.2 48 0 0 = nI (D j0) ∧ gI w.2 0 0 4 = nI cnt) _ (cnt - (v0 + 1)) (fun k w hk hI => ?_) (cnt - (v0 + 1)) 4000 0 _ (by omega) ⟨rfl, by rw [Nat.add_zero, hr]; exact hO, h0, h4⟩ (by omega)
  obtain ⟨v, t⟩ := w
  obtain ⟨hI1, hI2, hI3, hI5⟩ := hI
  have hI1 : v = nI (v0 + 1 + k) := hI1
  have hI2 : O2 x l e c n a st T D W gr X1 s j0 (rk sel (v0 + 1 + k)) t := hI2
  have hI3 : gI t 48 0 0 = nI (D j0) := hI3
  have hI5 : gI t 0 0 4 = nI cnt := hI5
  subst hI1
  have e1s : ¬ nI s ≤ (1 : Int32) := nI_gt (n := 1) (by omega) (by omega)
  have hm := rk_m sel (u := v0 + 1) (v := v0 + 1 + k) (by omega)
  by_cases q : k = cnt - (v0 + 1)
  · have e : v0 + 1 + k = cnt := by omega
    rw [e] at hI2 ⊢
    rw [← nE] at hI2
    refine Or.inl ⟨t, ?_, ?_, hI5⟩
    · unfold mL2
      dsimp only [un2]
      rw [hI5, if_pos (Int32.le_refl _)]
    · rcases hI2 with ⟨z, _⟩ | ⟨_, z⟩ | z
      · omega
      · exact z
      · exact Or.inr (Or.inr z)
  · have hu : v0 + 1 + k < cnt := by omega
    have hof := hof t (v0 + 1 + k) hu hI5
    have hD := hD (v0 + 1 + k) hu
    have hm2 := rk_m sel (u := v0 + 1 + k + 1) (v := cnt) (by omega)
    have skip : ¬ sel (v0 + 1 + k) = true → gI t 0 0 56 = 0 → ∃ s', mL2 a5 (nI s) (nI (v0 + 1 + k), t) = some (.inl s') ∧ s'.1 = nI (v0 + 1 + (k + 1)) ∧ O2 x l e c n a st T D W gr X1 s j0 (rk sel (v0 + 1 + (k + 1))) s'.2 ∧ gI s'.2 48 0 0 = nI (D j0) ∧ gI s'.2 0 0 4 = nI cnt := fun hs h56 => by
      refine ⟨(nI (v0 + 1 + (k + 1)), t), ?_, rfl, ?_, hI3, hI5⟩
      · unfold mL2
        dsimp only [un2]
        rw [hI5, if_neg (nI_gt (by omega) hu), if_neg e1s, if_pos h56, hof, Option.bind_some, if_neg hs, if_pos rfl, lt1_e, nI_s]; rfl
      · show O2 x l e c n a st T D W gr X1 s j0 (rk sel (v0 + 1 + k + 1)) t
        rw [rk_f hs]; exact hI2
    -- the sets of three behind two
    have three : s = 3 → sel (v0 + 1 + k) = true → gI t 0 0 56 = 0 → O3 x l e c n a st T D W gr X1 j0 (rk sel (v0 + 1 + k)) (rk sel (v0 + 1 + k) + 1) (sI t 48 0 2 (nI (v0 + 1 + k))) → ∃ s', mL2 a5 (nI s) (nI (v0 + 1 + k), t) = some (.inl s') ∧ s'.1 = nI (v0 + 1 + (k + 1)) ∧ O2 x l e c n a st T D W gr X1 s j0 (rk sel (v0 + 1 + (k + 1))) s'.2 ∧ gI s'.2 48 0 0 = nI (D j0) ∧ gI s'.2 0 0 4 = nI cnt := fun s3 hsl h56 h3 => by
      subst s3
      obtain ⟨r, r1, r2, r3, r4⟩ := l3 (v1 := v0 + 1 + k) hE hS0 (show j0 < rk sel (v0 + 1 + k) by omega) hu (rk_t hsl) h3 hI3 (show gI (sI t 48 0 2 (nI (v0 + 1 + k))) 48 0 2 = _ by rw [hD hsl, gI_sI, if_pos ⟨rfl, rfl, rfl⟩]) hI5
      refine ⟨(nI (v0 + 1 + (k + 1)), r), ?_, rfl, ?_, r3, r4⟩
      · unfold mL2
        dsimp only [un2]
        rw [hI5, if_neg (nI_gt (by omega) hu), if_neg e1s, if_pos h56, hof, Option.bind_some, if_pos hsl, if_neg (show ¬ (1 : Int32) = 0 by decide), lt1_e, jn_e, if_neg (show ¬ nI 3 = (2 : Int32) by decide)]
        dsimp only
        rw [nI_1, lt1_e]
        refine (congrArg (fun o => Option.bind o _) r1).trans ?_
        rw [Option.bind_some, lt1_e, nI_s]; rfl
      · show O2 x l e c n a st T D W gr X1 3 j0 (rk sel (v0 + 1 + k + 1)) r
        rw [rk_t hsl]; exact r2
    rcases hI2 with ⟨z1, z2⟩ | ⟨z1, z2⟩ | z
    · right
      refine ⟨by omega, ?_⟩
      by_cases hsel : sel (v0 + 1 + k) = true
      · have ej := hD hsel
        rcases hs with s2 | s3
        · subst s2
          generalize hj : rk sel (v0 + 1 + k) = j at z1 z2 hm ej
          obtain ⟨m', m1, m2, m3⟩ := mGrams (m := sI (sI t 48 0 2 (nI (v0 + 1 + k))) 0 0 49 2) hE (by decide) (show 2 ≤ 3 by decide) (fun p hp => by unfold i2; split <;> omega) (Nx_w (Nx_w z2 (Or.inl rfl)) (Or.inr ⟨rfl, rfl⟩)) rfl (fun p hp => by
            obtain rfl | rfl : p = 0 ∨ p = 1 := by omega
            · exact hI3
            · show nI (v0 + 1 + k) = nI (D (i2 j0 j 1))
              rw [show i2 j0 j 1 = j from by unfold i2; rw [if_neg (by decide)]; omega, ej])
          have m4 : gI m' 0 0 4 = nI cnt := (m3 0 0 4 (by omega)).trans hI5
          refine ⟨(nI (v0 + 1 + (k + 1)), m'), ?_, rfl, ?_, (m3 48 0 0 (by omega)).trans hI3, m4⟩
          · unfold mL2
            dsimp only [un2]
            rw [hI5, if_neg (nI_gt (by omega) hu), if_neg e1s, if_pos (Nx_0 z2), hof, Option.bind_some, if_pos hsel, if_neg (show ¬ (1 : Int32) = 0 by decide), lt1_e, jn_e, if_pos (show nI 2 = (2 : Int32) from rfl), lt1_e, m1, Option.bind_some]
            dsimp only
            rw [nI_1, lt1_e]
            refine (congrArg (fun o => Option.bind o _) (l3x (a5 := a5) (u := v0 + 1 + k + 1) m4)).trans ?_
            rw [Option.bind_some, lt1_e, nI_s]; rfl
          · show O2 x l e c n a st T D W gr X1 2 j0 (rk sel (v0 + 1 + k + 1)) m'
            rw [rk_t hsel, hj]
            rcases m2 with m2 | m2
            · exact o2_2 hE (by omega) (by omega) m2
            · exact Or.inr (Or.inr m2)
        · subst s3
          refine three rfl hsel (Nx_0 z2) (Or.inl ⟨by omega, Nx_i (Nx_w z2 (Or.inl rfl)) (fun p hp => ?_)⟩)
          unfold i2 i3
          obtain rfl | rfl | rfl : p = 0 ∨ p = 1 ∨ p = 2 := by omega
          · rfl
          · rw [if_neg (by decide), if_neg (by decide), if_pos rfl]; omega
          · rw [if_neg (by decide), if_neg (by decide), if_neg (by decide)]; omega
      · exact skip hsel (Nx_0 z2)
    · by_cases h56 : gI t 0 0 56 = 0
      · right
        refine ⟨by omega, ?_⟩
        by_cases hsel : sel (v0 + 1 + k) = true
        · have hm3 := hm2
          rw [rk_t hsel] at hm3
          have s3 : s = 3 := by omega
          refine three s3 hsel h56 (Or.inr (Or.inl ⟨by omega, Or.inr (Or.inl ⟨by omega, ?_⟩)⟩))
          subst s3
          exact O1_w z2 (Or.inl rfl)
        · exact skip hsel h56
      · refine Or.inl ⟨t, ?_, z2, hI5⟩
        unfold mL2
        dsimp only [un2]
        rw [hI5, if_neg (nI_gt (by omega) hu), if_neg e1s, if_neg h56]
    · refine Or.inl ⟨t, ?_, Or.inr (Or.inr z), hI5⟩
      unfold mL2
      dsimp only [un2]
      rw [hI5, if_neg (nI_gt (by omega) hu), if_neg e1s, if_neg (by rw [(FL_M z).2]; decide)]
theorem l1 (s1 : 1 ≤ s) (s3 : s ≤ 3) (hE : Env x l e c n a st T D gr) (hS : Sel a5 sel cnt n D) (hO : O1 x l e c n a st T D W gr X1 s 0 m) (h4 : gI m 0 0 4 = nI cnt) : ∃ r, lp (mL1 a5 (nI s)) 4000 (0, m) = some r ∧ ((End x l e c n a st T D W gr X1 s r ∨ FL x l e c n a st T D W gr X1 r) ∧ gI r 0 0 4 = nI cnt) := by
  have hS0 := hS
  obtain ⟨c12, nE, hD, hof⟩ := hS
  refine lp_inv (fun k (w : Int32 × Sto) => w.1 = nI k ∧ O1 x l e c n a st T D W gr X1 s (rk sel k) w.2 ∧ gI w.2 0 0 4 = nI cnt) _ cnt (fun k w hk hI => ?_) cnt 4000 0 _ (by omega) ⟨rfl, hO, h4⟩ (by omega)
  obtain ⟨v, t⟩ := w
  obtain ⟨hI1, hI2, hI5⟩ := hI
  have hI1 : v = nI k := hI1
  have hI2 : O1 x l e c n a st T D W gr X1 s (rk sel k) t := hI2
  have hI5 : gI t 0 0 4 = nI cnt := hI5
  subst hI1
  by_cases q : k = cnt
  · rw [q] at hI2 ⊢
    rw [← nE] at hI2
    refine Or.inl ⟨t, ?_, ?_, hI5⟩
    · unfold mL1
      dsimp only [un2]
      rw [hI5, if_pos (Int32.le_refl _)]
    · rcases hI2 with ⟨z, _⟩ | ⟨_, z⟩ | z
      · omega
      · exact Or.inl z
      · exact Or.inr z
  · have hu : k < cnt := by omega
    have hof := hof t k hu hI5
    have hD := hD k hu
    have hm2 := rk_m sel (u := k + 1) (v := cnt) (by omega)
    have skip : ¬ sel k = true → gI t 0 0 56 = 0 → ∃ s', mL1 a5 (nI s) (nI k, t) = some (.inl s') ∧ s'.1 = nI (k + 1) ∧ O1 x l e c n a st T D W gr X1 s (rk sel (k + 1)) s'.2 ∧ gI s'.2 0 0 4 = nI cnt := fun hs h56 => by
      refine ⟨(nI (k + 1), t), ?_, rfl, ?_, hI5⟩
      · unfold mL1
        dsimp only [un2]
        rw [hI5, if_neg (nI_gt (by omega) hu), if_pos h56, hof, Option.bind_some, if_neg hs, if_pos rfl, lt1_e, nI_s]
      · rw [rk_f hs]; exact hI2
    have more : 2 ≤ s → sel k = true → gI t 0 0 56 = 0 → O2 x l e c n a st T D W gr X1 s (rk sel k) (rk sel k + 1) (sI t 48 0 0 (nI k)) → ∃ s', mL1 a5 (nI s) (nI k, t) = some (.inl s') ∧ s'.1 = nI (k + 1) ∧ O1 x l e c n a st T D W gr X1 s (rk sel (k + 1)) s'.2 ∧ gI s'.2 0 0 4 = nI cnt := fun s2 hs h56 h2 => by
      obtain ⟨r, r1, r2, r4⟩ := l2 (s := s) (v0 := k) (by omega) hE hS0 hu (rk_t hs) h2 (show gI (sI t 48 0 0 (nI k)) 48 0 0 = _ by rw [hD hs, gI_sI, if_pos ⟨rfl, rfl, rfl⟩]) hI5
      refine ⟨(nI (k + 1), r), ?_, rfl, ?_, r4⟩
      · unfold mL1
        dsimp only [un2]
        rw [hI5, if_neg (nI_gt (by omega) hu), if_pos h56, hof, Option.bind_some, if_pos hs, if_neg (show ¬ (1 : Int32) = 0 by decide), lt1_e, jn_e, if_neg (show ¬ nI s = (1 : Int32) from fun z => by have := (nI_inj (by omega) (by decide)).mp (show nI s = nI 1 from z); omega)]
        dsimp only
        rw [nI_1, lt1_e]
        refine (congrArg (fun o => Option.bind o _) r1).trans ?_
        rw [Option.bind_some, lt1_e, nI_s]
      · rw [rk_t hs]; exact r2
    rcases hI2 with ⟨z1, z2⟩ | ⟨z1, z2⟩ | z
    · right
      refine ⟨by omega, ?_⟩
      by_cases hsel : sel k = true
      · have ej := hD hsel
        by_cases s11 : s = 1
        · subst s11
          generalize hj : rk sel k = j at z1 z2 ej
          obtain ⟨m', m1, m2, m3⟩ := mGrams (m := sI (sI t 48 0 0 (nI k)) 0 0 49 1) hE (Nat.le_refl 1) (show 1 ≤ 3 by decide) (fun p hp => by omega) (Nx_w (Nx_w z2 (Or.inl rfl)) (Or.inr ⟨rfl, rfl⟩)) rfl (fun p hp => by
            obtain rfl : p = 0 := by omega
            show nI k = nI (D (j + 0))
            rw [Nat.add_zero, ej])
          have m4 : gI m' 0 0 4 = nI cnt := (m3 0 0 4 (by omega)).trans hI5
          refine ⟨(nI (k + 1), m'), ?_, rfl, ?_, m4⟩
          · unfold mL1
            dsimp only [un2]
            rw [hI5, if_neg (nI_gt (by omega) hu), if_pos (Nx_0 z2), hof, Option.bind_some, if_pos hsel, if_neg (show ¬ (1 : Int32) = 0 by decide), lt1_e, jn_e, if_pos (show nI 1 = (1 : Int32) from rfl), lt1_e, m1, Option.bind_some]
            dsimp only
            rw [nI_1, lt1_e]
            refine (congrArg (fun o => Option.bind o _) (l2x (a5 := a5) (u := k + 1) m4)).trans ?_
            rw [Option.bind_some, lt1_e, nI_s]
          · rw [rk_t hsel, hj]
            rcases m2 with m2 | m2
            · exact o1_1 hE (by omega) m2
            · exact Or.inr (Or.inr m2)
        · refine more (by omega) hsel (Nx_0 z2) (Or.inl ⟨by omega, Nx_i (Nx_w z2 (Or.inl rfl)) (fun p hp => ?_)⟩)
          unfold i2
          by_cases p0 : p = 0
          · rw [if_pos p0, p0, Nat.add_zero]
          · rw [if_neg p0]; omega
      · exact skip hsel (Nx_0 z2)
    · right
      refine ⟨by omega, ?_⟩
      by_cases hsel : sel k = true
      · have hm3 := hm2
        rw [rk_t hsel] at hm3
        exact more (by omega) hsel (IV_M z2).2 (Or.inr (Or.inl ⟨by omega, Or.inr (Or.inl ⟨by omega, IV_w z2 (Or.inl rfl)⟩)⟩))
      · exact skip hsel (IV_M z2).2
    · refine Or.inl ⟨t, ?_, Or.inr z, hI5⟩
      unfold mL1
      dsimp only [un2]
      rw [hI5, if_neg (nI_gt (by omega) hu), if_neg (by rw [(FL_M z).2]; decide)]
end
