/-! ===== the lots that the class offers ===== -/
def lmt (lf : Nat → Nat) (st T u : Nat) : Nat := min (min (lf u / 1000) 100000 / st) T
theorem lmt_e {lf : Nat → Nat} {st T u j : Nat} (s1 : 1 ≤ st) (hj : j ≤ T) : j ≤ lmt lf st T u ↔ j * st ≤ 100000 ∧ 1000 * (j * st) ≤ lf u := by
  unfold lmt
  have e1 : j ≤ min (lf u / 1000) 100000 / st ↔ j * st ≤ min (lf u / 1000) 100000 := Nat.le_div_iff_mul_le s1
  have e2 : j * st ≤ lf u / 1000 ↔ j * st * 1000 ≤ lf u := Nat.le_div_iff_mul_le (by decide)
  omega
theorem xLim {lf : Nat → Nat} {st T u : Nat} (h : lf u ≤ 1000000000) (s1 : 1 ≤ st) (s2 : st ≤ 10000) (T12 : T ≤ 12) : (if ((if (nI (lf u) / (1000 : Int32)) < (100000 : Int32) then (nI (lf u) / (1000 : Int32)) else (100000 : Int32)) / nI st) < nI T then ((if (nI (lf u) / (1000 : Int32)) < (100000 : Int32) then (nI (lf u) / (1000 : Int32)) else (100000 : Int32)) / nI st) else nI T) = nI (lmt lf st T u) := by
  have d1 : nI (lf u) / (1000 : Int32) = nI (lf u / 1000) := pk_div (d := 1000) (by omega) (by decide) (by decide)
  have d0 : lf u / 1000 ≤ 1000000 := by omega
  have d2 : (if nI (lf u / 1000) < (100000 : Int32) then nI (lf u / 1000) else (100000 : Int32)) = nI (min (lf u / 1000) 100000) := by
    by_cases q : lf u / 1000 < 100000
    · rw [if_pos (show nI (lf u / 1000) < (100000 : Int32) from (nI_ltJ (b := 100000) (by omega) (by decide)).mpr q), Nat.min_eq_left (by omega)]
    · rw [if_neg (show ¬ nI (lf u / 1000) < (100000 : Int32) from fun z => q ((nI_ltJ (b := 100000) (by omega) (by decide)).mp z)), Nat.min_eq_right (by omega)]; rfl
  rw [d1, d2, pk_div (by omega) s1 (by omega)]
  unfold lmt
  have d3 : min (lf u / 1000) 100000 / st ≤ min (lf u / 1000) 100000 := Nat.div_le_self _ _
  generalize min (lf u / 1000) 100000 / st = q at d3
  by_cases z : q < T
  · rw [if_pos ((nI_ltJ (by omega) (by omega)).mpr z), Nat.min_eq_left (by omega)]
  · rw [if_neg (fun y => z ((nI_ltJ (by omega) (by omega)).mp y)), Nat.min_eq_right (by omega)]
def OfC (sel : Nat → Bool) (lm nd : Nat → Nat) (v : Nat) (t y : Sto) : Prop := gI y 16 1 3 = nI (rk sel v) ∧ (∀ u, u < v → sel u = true → gI y 45 1 (rk sel u) = nI u ∧ gI y 46 1 (rk sel u) = nI (lm u) ∧ gI y 47 1 (rk sel u) = nI (nd u)) ∧ (∀ f i j, ¬ (i = 1 ∧ ((f = 16 ∧ j = 3) ∨ (45 ≤ f ∧ f ≤ 47))) → gI y f i j = gI t f i j) ∧ gF y = gF t ∧ gD y = gD t ∧ gL y = gL t
theorem rk_sur (sel : Nat → Bool) {q : Nat} : ∀ {v : Nat}, q < rk sel v → ∃ u, u < v ∧ sel u = true ∧ rk sel u = q
  | 0, h => absurd h (Nat.not_lt_zero _)
  | v + 1, h => by
    by_cases z : q < rk sel v
    · obtain ⟨u, u1, u2⟩ := rk_sur sel z
      exact ⟨u, by omega, u2⟩
    · by_cases hs : sel v = true
      · rw [rk_t hs] at h
        exact ⟨v, by omega, hs, by omega⟩
      · rw [rk_f hs] at h
        exact absurd h z
noncomputable def ndC (L : Nat → Nat) (nb u : Nat) : Nat := if plc L nb u < nb then 0 else 1
theorem cOffers {b nb cnt st T : Nat} {L H lf : Nat → Nat} {t : Sto} {sel : Nat → Bool} (hE : EB b nb cnt L H lf) (hX : XB t b nb cnt L H lf) (h3 : gI t 16 1 3 = 0) (hsel : ∀ u, sel u = decide (1 ≤ lmt lf st T u)) (s1 : 1 ≤ st) (s2 : st ≤ 10000) (T1 : 1 ≤ T) (T12 : T ≤ 12) : ∃ y, lp (σ := (Int32 × Sto)) (ρ := Sto) (un2 fun (v25 : Int32) (t26 : Sto) =>
               if gI t26 (3) (0) (4) ≤ v25 then (
                some (.inr t26)) else (
                ck (0 ≤ v25.toInt ∧ v25.toInt < (20 : Int)) (
                 ck (¬ (1000 : Int32) = 0) (
                  ck (¬ nI st = 0) (
                   lt1 (if ((if ((gI t26 29 (v25.toNatClampNeg) 4) / (1000 : Int32)) < (100000 : Int32) then ((gI t26 29 (v25.toNatClampNeg) 4) / (1000 : Int32)) else (100000 : Int32)) / nI st) < nI T then ((if ((gI t26 29 (v25.toNatClampNeg) 4) / (1000 : Int32)) < (100000 : Int32) then ((gI t26 29 (v25.toNatClampNeg) 4) / (1000 : Int32)) else (100000 : Int32)) / nI st) else nI T) fun (v65 : Int32) =>
                   (fX1_placeOf ((nI b).toNatClampNeg) v25 t26).bind (fun (v66 : Int32) =>
                    if v66 = (-1 : Int32) then (
                     (fX8_offer (1) v25 v65 (1 : Int32) t26).bind (fun (t72 : Sto) =>
                      lt1 (v25 + Int32.ofInt (1)) fun (v74 : Int32) =>
                      some (.inl (v74, t72)))) else (
                     (fX8_offer (1) v25 v65 (0 : Int32) t26).bind (fun (t69 : Sto) =>
                      lt1 (v25 + Int32.ofInt (1)) fun (v71 : Int32) =>
                      some (.inl (v71, t69)))))))))) 4000 ((0 : Int32), t) = some y ∧ OfC sel (lmt lf st T) (ndC L nb) cnt t y := by
  have hE0 := hE
  have hX0 := hX
  obtain ⟨b12, nb8, c20, hL, hd, hf⟩ := hE
  obtain ⟨⟨hc4, hc⟩, e2, e3, e4, e5⟩ := hX
  refine lp_inv (fun k (w : Int32 × Sto) => w.1 = nI k ∧ OfC sel (lmt lf st T) (ndC L nb) k t w.2) _ cnt (fun k w hk hI => ?_) cnt 4000 0 _ (by omega) ⟨rfl, h3, fun u hu => absurd hu (Nat.not_lt_zero u), fun _ _ _ _ => rfl, rfl, rfl, rfl⟩ (by omega)
  obtain ⟨v, w⟩ := w
  obtain ⟨hI1, hI2⟩ := hI
  have hI1 : v = nI k := hI1
  have hI2 : OfC sel (lmt lf st T) (ndC L nb) k t w := hI2
  subst hI1
  have hO := hI2
  obtain ⟨o1, o2, o4, o5⟩ := hI2
  dsimp only [un2]
  have w34 : gI w 3 0 4 = nI cnt := (o4 _ _ _ (by omega)).trans hc
  have rk20 := rk_le sel k
  by_cases q : k = cnt
  · subst q
    exact Or.inl ⟨w, by rw [w34, if_pos (Int32.le_refl _)], hO⟩
  · right
    have kc : k < cnt := by omega
    refine ⟨kc, ?_⟩
    have hXw := XB_e hX0 (y := w) (fun f i j q => o4 f i j (by omega))
    have hpl := c_pl hE0 hXw kc
    have st0 : ¬ nI st = 0 := fun z => by have := (nI_z (by omega)).mp z; omega
    have lm12 : lmt lf st T k ≤ 12 := by unfold lmt; omega
    rw [w34, if_neg (nI_gt (by omega) kc), ck_t (by exact ixl (by omega) (by omega)), ck_t (show ¬ (1000 : Int32) = 0 by decide), ck_t st0, nI_cl (n := k) (by omega), nI_cl (n := b) (by omega), hXw.2.2.2.2 k kc, xLim (hf k kc) s1 s2 T12, lt1_e, hpl, Option.bind_some]
    -- both ways offer with the need that ndC names
    have both : ∀ nd : Nat, nd = ndC L nb k → ∃ y, fX8_offer 1 (nI k) (nI (lmt lf st T k)) (nI nd) w = some y ∧ OfC sel (lmt lf st T) (ndC L nb) (k + 1) t y := fun nd hnd => by
      unfold fX8_offer
      by_cases hs : sel k = true
      · have l1 : 1 ≤ lmt lf st T k := by have := hsel k; rw [hs] at this; exact of_decide_eq_true this.symm
        refine ⟨sI (sI (sI (sI w 45 1 (rk sel k) (nI k)) 46 1 (rk sel k) (nI (lmt lf st T k))) 47 1 (rk sel k) (nI nd)) 16 1 3 (nI (rk sel k + 1)), ?_, ?_⟩
        · rw [if_neg (show ¬ nI (lmt lf st T k) < (1 : Int32) from fun z => by have := (nI_ltJ (b := 1) (by omega) (by decide)).mp z; omega), o1, if_pos (show nI (rk sel k) < (20 : Int32) from (nI_ltJ (b := 20) (by omega) (by decide)).mpr (by omega)), show lIX 45 1 = 20 from rfl, ck_t (by exact ixl (by omega) (by omega)), nI_cl (n := rk sel k) (by omega), lt1_e, show gI (sI w 45 1 (rk sel k) (nI k)) 16 1 3 = nI (rk sel k) from o1, show lIX 46 1 = 20 from rfl, ck_t (by exact ixl (by omega) (by omega)), nI_cl (n := rk sel k) (by omega), lt1_e, show gI (sI (sI w 45 1 (rk sel k) (nI k)) 46 1 (rk sel k) (nI (lmt lf st T k))) 16 1 3 = nI (rk sel k) from o1, show lIX 47 1 = 20 from rfl, ck_t (by exact ixl (by omega) (by omega)), nI_cl (n := rk sel k) (by omega), lt1_e, show gI (sI (sI (sI w 45 1 (rk sel k) (nI k)) 46 1 (rk sel k) (nI (lmt lf st T k))) 47 1 (rk sel k) (nI nd)) 16 1 3 = nI (rk sel k) from o1, nI_1, lt1_e]
        · have yI : ∀ f c j, gI (sI (sI (sI (sI w 45 1 (rk sel k) (nI k)) 46 1 (rk sel k) (nI (lmt lf st T k))) 47 1 (rk sel k) (nI nd)) 16 1 3 (nI (rk sel k + 1))) f c j = if f = 16 ∧ c = 1 ∧ j = 3 then nI (rk sel k + 1) else if f = 47 ∧ c = 1 ∧ j = rk sel k then nI nd else if f = 46 ∧ c = 1 ∧ j = rk sel k then nI (lmt lf st T k) else if f = 45 ∧ c = 1 ∧ j = rk sel k then nI k else gI w f c j := fun f c j => by rw [gI_sI, gI_sI, gI_sI, gI_sI]
          refine ⟨?_, fun u hu hsu => ?_, fun f i j q => ?_, o5⟩
          · rw [yI, if_pos ⟨rfl, rfl, rfl⟩, rk_t hs]
          · by_cases e : u = k
            · subst e
              refine ⟨?_, ?_, ?_⟩
              · rw [yI, if_neg (by omega), if_neg (by omega), if_neg (by omega), if_pos ⟨rfl, rfl, rfl⟩]
              · rw [yI, if_neg (by omega), if_neg (by omega), if_pos ⟨rfl, rfl, rfl⟩]
              · rw [yI, if_neg (by omega), if_pos ⟨rfl, rfl, rfl⟩, hnd]
            · have hlt := rk_m sel (u := u + 1) (v := k) (by omega)
              rw [rk_t hsu] at hlt
              obtain ⟨p1, p2, p3⟩ := o2 u (by omega) hsu
              refine ⟨?_, ?_, ?_⟩
              · rw [yI, if_neg (by omega), if_neg (by omega), if_neg (by omega), if_neg (by omega)]; exact p1
              · rw [yI, if_neg (by omega), if_neg (by omega), if_neg (by omega), if_neg (by omega)]; exact p2
              · rw [yI, if_neg (by omega), if_neg (by omega), if_neg (by omega), if_neg (by omega)]; exact p3
          · rw [yI, if_neg (by omega), if_neg (by omega), if_neg (by omega), if_neg (by omega)]; exact o4 f i j q
      · have l1 : ¬ 1 ≤ lmt lf st T k := fun z => hs ((hsel k).trans (decide_eq_true z))
        refine ⟨w, ?_, ?_⟩
        · rw [if_pos (show nI (lmt lf st T k) < (1 : Int32) from (nI_ltJ (b := 1) (by omega) (by decide)).mpr (by omega))]
        · refine ⟨by rw [rk_f hs]; exact o1, fun u hu hsu => o2 u (by
            by_cases e : u = k
            · subst e; exact absurd hsu hs
            · omega) hsu, o4, o5⟩
    by_cases z : plc L nb k < nb
    · obtain ⟨y, y1, y2⟩ := both 0 (by unfold ndC; rw [if_pos z])
      refine ⟨(nI (k + 1), y), ?_, rfl, y2⟩
      rw [if_pos z, if_neg (nI_ne1 (by omega)), show (0 : Int32) = nI 0 from rfl, y1, Option.bind_some, lt1_e, nI_s]
    · obtain ⟨y, y1, y2⟩ := both 1 (by unfold ndC; rw [if_neg z])
      refine ⟨(nI (k + 1), y), ?_, rfl, y2⟩
      rw [if_neg z, if_pos rfl, show (1 : Int32) = nI 1 from rfl, y1, Option.bind_some, lt1_e, nI_s]
