/-! ===== the reference's loops go through the candidates ===== -/
/-- the set of dyes a5 as a list -/
def Sel (a5 : Int32) (sel : Nat → Bool) (cnt n : Nat) (D : Nat → Nat) : Prop := cnt ≤ 12 ∧ n = rk sel cnt ∧ (∀ v, v < cnt → sel v = true → D (rk sel v) = v) ∧ ∀ (m : Sto) v, v < cnt → gI m 0 0 4 = nI cnt → fX12_isOf a5 (nI v) m = some (if sel v = true then 1 else 0)
theorem rk_t {sel : Nat → Bool} {v : Nat} (h : sel v = true) : rk sel (v + 1) = rk sel v + 1 := by
  show rk sel v + (if sel v then 1 else 0) = _
  rw [if_pos h]
theorem rk_f {sel : Nat → Bool} {v : Nat} (h : ¬ sel v = true) : rk sel (v + 1) = rk sel v := by
  show rk sel v + (if sel v then 1 else 0) = _
  rw [if_neg h]; rfl
section
variable {x : Sto} {l e c n a st T : Nat} {D : Nat → Nat} {W : Nat → Nat → Nat} {gr : Nat → UInt32} {X1 : Sto} {s : Nat} {m : Sto} {sel : Nat → Bool} {cnt : Nat} {a5 : Int32}
theorem O1_w {f j k : Nat} {v : Int32} (h : O1 x l e c n a st T D W gr X1 s k m) (q : f = 48 ∨ (f = 0 ∧ j = 49)) : O1 x l e c n a st T D W gr X1 s k (sI m f 0 j v) := by
  rcases h with ⟨h1, h2⟩ | ⟨h1, h2⟩ | h1
  · exact Or.inl ⟨h1, Nx_w h2 q⟩
  · exact Or.inr (Or.inl ⟨h1, IV_w h2 q⟩)
  · exact Or.inr (Or.inr (FL_w h1 q))
theorem Nx_0 {i g : Nat → Nat} (h : Nx x l e c n a st T D W gr X1 s i g m) : gI m 0 0 56 = 0 := by
  obtain ⟨s0, i0, g0, h1, _⟩ := h
  exact (IV_M h1).2
theorem l3x {u : Nat} (h4 : gI m 0 0 4 = nI cnt) : lp (mL3 a5 2) 4000 (nI u, m) = some m := by
  refine lp_x ?_
  unfold mL3
  dsimp only [un2]
  rw [h4]
  by_cases q : nI cnt ≤ nI u
  · rw [if_pos q]
  · rw [if_neg q, if_pos (show (2 : Int32) ≤ 2 by decide)]
theorem l2x {u : Nat} (h4 : gI m 0 0 4 = nI cnt) : lp (mL2 a5 1) 4000 (nI u, m) = some m := by
  refine lp_x ?_
  unfold mL2
  dsimp only [un2]
  rw [h4]
  by_cases q : nI cnt ≤ nI u
  · rw [if_pos q]
  · rw [if_neg q, if_pos (show (1 : Int32) ≤ 1 by decide)]
theorem l3 {j0 j1 v1 : Nat} (hE : Env x l e c n a st T D gr) (hS : Sel a5 sel cnt n D) (h01 : j0 < j1) (hv : v1 < cnt) (hr : rk sel (v1 + 1) = j1 + 1) (hO : O3 x l e c n a st T D W gr X1 j0 j1 (j1 + 1) m) (h0 : gI m 48 0 0 = nI (D j0)) (h2 : gI m 48 0 2 = nI (D j1)) (h4 : gI m 0 0 4 = nI cnt) : ∃ r, lp (mL3 a5 3) 4000 (nI (v1 + 1), m) = some r ∧ (O2 x l e c n a st T D W gr X1 3 j0 (j1 + 1) r ∧ gI r 48 0 0 = nI (D j0) ∧ gI r 0 0 4 = nI cnt) := by
  obtain ⟨c12, nE, hD, hof⟩ := hS
  refine lp_inv (fun k (w : Int32 × Sto) => w.1 = nI (v1 + 1 + k) ∧ O3 x l e c n a st T D W gr X1 j0 j1 (rk sel (v1 + 1 + k)) w.2 ∧ gI w.2 48 0 0 = nI (D j0) ∧ gI w.2 48 0 2 = nI (D j1) ∧ gI w.2 0 0 4 = nI cnt) _ (cnt - (v1 + 1)) (fun k w hk hI => ?_) (cnt - (v1 + 1)) 4000 0 _ (by omega) ⟨rfl, by rw [Nat.add_zero, hr]; exact hO, h0, h2, h4⟩ (by omega)
  obtain ⟨v, t⟩ := w
  obtain ⟨hI1, hI2, hI3, hI4, hI5⟩ := hI
  have hI1 : v = nI (v1 + 1 + k) := hI1
  have hI2 : O3 x l e c n a st T D W gr X1 j0 j1 (rk sel (v1 + 1 + k)) t := hI2
  have hI3 : gI t 48 0 0 = nI (D j0) := hI3
  have hI4 : gI t 48 0 2 = nI (D j1) := hI4
  have hI5 : gI t 0 0 4 = nI cnt := hI5
  subst hI1
  have e33 : ¬ (3 : Int32) ≤ 2 := by decide
  unfold mL3
  dsimp only [un2]
  rw [hI5]
  have hm := rk_m sel (u := v1 + 1) (v := v1 + 1 + k) (by omega)
  by_cases q : k = cnt - (v1 + 1)
  · have e : v1 + 1 + k = cnt := by omega
    rw [e] at hI2 ⊢
    rw [← nE] at hI2
    refine Or.inl ⟨t, if_pos (Int32.le_refl _), ?_, hI3, hI5⟩
    rcases hI2 with ⟨z, _⟩ | ⟨_, z⟩ | z
    · omega
    · exact z
    · exact Or.inr (Or.inr z)
  · have hu : v1 + 1 + k < cnt := by omega
    have hof := hof t (v1 + 1 + k) hu hI5
    have hD := hD (v1 + 1 + k) hu
    have hm2 := rk_m sel (u := v1 + 1 + k + 1) (v := cnt) (by omega)
    have skip : ¬ sel (v1 + 1 + k) = true → gI t 0 0 56 = 0 → ∃ s', (if nI cnt ≤ nI (v1 + 1 + k) then (some (Sum.inr t) : Option ((Int32 × Sto) ⊕ Sto)) else if (3 : Int32) ≤ 2 then some (Sum.inr t) else if gI t 0 0 56 = 0 then (fX12_isOf a5 (nI (v1 + 1 + k)) t).bind (fun (v170 : Int32) =>
                                               if v170 = 0 then (
                                                lt1 (nI (v1 + 1 + k) + Int32.ofInt (1)) fun (v178 : Int32) =>
                                                some (.inl (v178, t))) else (
                                                lt1 (sI t (48) (0) (4) (nI (v1 + 1 + k))) fun (t173 : Sto) =>
                                                lt1 (sI t173 0 (0) 49 (3 : Int32)) fun (t174 : Sto) =>
                                                (fX12_tryGrams t174).bind (fun (t175 : Sto) =>
                                                 lt1 (nI (v1 + 1 + k) + Int32.ofInt (1)) fun (v177 : Int32) =>
                                                 some (.inl (v177, t175))))) else some (Sum.inr t)) = some (.inl s') ∧ s'.1 = nI (v1 + 1 + (k + 1)) ∧ O3 x l e c n a st T D W gr X1 j0 j1 (rk sel (v1 + 1 + (k + 1))) s'.2 ∧ gI s'.2 48 0 0 = nI (D j0) ∧ gI s'.2 48 0 2 = nI (D j1) ∧ gI s'.2 0 0 4 = nI cnt := fun hs h56 => by
      refine ⟨(nI (v1 + 1 + (k + 1)), t), ?_, rfl, ?_, hI3, hI4, hI5⟩
      · rw [if_neg (nI_gt (by omega) hu), if_neg e33, if_pos h56, hof, Option.bind_some, if_neg hs, if_pos rfl, lt1_e, nI_s]; rfl
      · show O3 x l e c n a st T D W gr X1 j0 j1 (rk sel (v1 + 1 + k + 1)) t
        rw [rk_f hs]; exact hI2
    rcases hI2 with ⟨z1, z2⟩ | ⟨z1, z2⟩ | z
    · right
      refine ⟨by omega, ?_⟩
      by_cases hs : sel (v1 + 1 + k) = true
      · have ej := hD hs
        generalize hj : rk sel (v1 + 1 + k) = j at z1 z2 hm ej
        obtain ⟨m', m1, m2, m3⟩ := mGrams (m := sI (sI t 48 0 4 (nI (v1 + 1 + k))) 0 0 49 3) hE (by decide) (Nat.le_refl 3) (fun p hp => by unfold i3; split <;> (try split) <;> omega) (Nx_w (Nx_w z2 (Or.inl rfl)) (Or.inr ⟨rfl, rfl⟩)) rfl (fun p hp => by
          obtain rfl | rfl | rfl : p = 0 ∨ p = 1 ∨ p = 2 := by omega
          · exact hI3
          · exact hI4
          · show nI (v1 + 1 + k) = nI (D j)
            rw [ej])
        refine ⟨(nI (v1 + 1 + (k + 1)), m'), ?_, rfl, ?_, (m3 48 0 0 (by omega)).trans hI3, (m3 48 0 2 (by omega)).trans hI4, (m3 0 0 4 (by omega)).trans hI5⟩
        · rw [if_neg (nI_gt (by omega) hu), if_neg e33, if_pos (Nx_0 z2), hof, Option.bind_some, if_pos hs, if_neg (show ¬ (1 : Int32) = 0 by decide), lt1_e, lt1_e, m1, Option.bind_some, lt1_e, nI_s]; rfl
        · show O3 x l e c n a st T D W gr X1 j0 j1 (rk sel (v1 + 1 + k + 1)) m'
          rw [rk_t hs, hj]
          rcases m2 with m2 | m2
          · exact o3_3 hE h01 (by omega) (by omega) m2
          · exact Or.inr (Or.inr m2)
      · exact skip hs (Nx_0 z2)
    · by_cases h56 : gI t 0 0 56 = 0
      · right
        refine ⟨by omega, skip (fun hs => ?_) h56⟩
        rw [rk_t hs] at hm2
        omega
      · exact Or.inl ⟨t, by rw [if_neg (nI_gt (by omega) hu), if_neg e33, if_neg h56], z2, hI3, hI5⟩
    · exact Or.inl ⟨t, by rw [if_neg (nI_gt (by omega) hu), if_neg e33, if_neg (by rw [(FL_M z).2]; decide)], Or.inr (Or.inr z), hI3, hI5⟩
end
