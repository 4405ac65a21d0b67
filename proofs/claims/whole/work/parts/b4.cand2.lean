/-! ===== a candidate of two lots ===== -/
theorem c_2 {t : Sto} {b nb cnt st : Nat} {L H lf i d g : Nat → Nat} (hE : EB b nb cnt L H lf) (hX : XB t b nb cnt L H lf) (hC : Cd 1 t 2 st i d g) (hu : d 0 < cnt) (hv : d 1 < cnt) (uv : d 0 ≠ d 1) (w1 : g 0 * st ≤ 100000 ∧ 1000 * (g 0 * st) ≤ lf (d 0) ∧ plc L nb (d 0) < 8) (w2 : g 1 * st ≤ 100000 ∧ 1000 * (g 1 * st) ≤ lf (d 1) ∧ cp2 L nb (d 0) (d 1) < 8) {N : Nat} {q h : Nat → Nat} (hN : N = if cp2 L nb (d 0) (d 1) < cn1 L nb (d 0) then cn1 L nb (d 0) else cn1 L nb (d 0) + 1) (hq : ∀ j, q j = if j = cp2 L nb (d 0) (d 1) then d 1 else cq1 L nb (d 0) j) (hh : ∀ j, h j = if j = cp2 L nb (d 0) (d 1) then (if cp2 L nb (d 0) (d 1) < cn1 L nb (d 0) then ch1 L H nb (d 0) (g 0 * st) (cp2 L nb (d 0) (d 1)) else 0) + g 1 * st else ch1 L H nb (d 0) (g 0 * st) j) : (N = nb + rk (csel L nb d) 2 ∧ N ≤ 8) ∧ (∀ p, p < N → q p < cnt) ∧ (∀ p, p < N → h p ≤ 1000000) ∧ (∀ p, p < nb → gI t 31 b p = nI (q p) ∧ ∃ G H', fX8_gramsOf 1 (nI (q p)) t = some (nI G) ∧ gI t 32 b p = nI H' ∧ h p = H' + G) ∧ (∀ k, k < 2 → fX1_placeOf b (nI (d k)) t = some (if csel L nb d k = true then (-1 : Int32) else nI (if plc L nb (d k) < nb then plc L nb (d k) else 0)) ∧ (if plc L nb (d k) < nb then plc L nb (d k) else 0) < 8 ∧ (csel L nb d k = true → q (nb + rk (csel L nb d) k) = d k ∧ h (nb + rk (csel L nb d) k) = g k * st)) := by
  obtain ⟨b12, nb8, c20, hL, hd, hf⟩ := id hE
  obtain ⟨e1, e2, e3, e4, e5⟩ := id hX
  obtain ⟨u1, u2, u3⟩ := plc_e L nb (d 0)
  obtain ⟨v1, v2, v3⟩ := plc_e L nb (d 1)
  have iu := fun p hp => plc_i (L := L) (nb := nb) (p := p) (d 0) hd hp
  have iv := fun p hp => plc_i (L := L) (nb := nb) (p := p) (d 1) hd hp
  have plu := c_pl hE hX hu
  have plv := c_pl hE hX hv
  have d01 : ∀ k, k < 2 → k = 0 ∨ k = 1 := fun k hk => by omega
  have en : cn1 L nb (d 0) = if plc L nb (d 0) < nb then nb else nb + 1 := rfl
  have ep : cp2 L nb (d 0) (d 1) = if plc L nb (d 1) < nb then plc L nb (d 1) else cn1 L nb (d 0) := rfl
  have eq : ∀ p, cq1 L nb (d 0) p = if p = plc L nb (d 0) then d 0 else L p := fun _ => rfl
  have eh : ∀ p, ch1 L H nb (d 0) (g 0 * st) p = if p = plc L nb (d 0) then (if plc L nb (d 0) < nb then H (plc L nb (d 0)) else 0) + g 0 * st else H p := fun _ => rfl
  have st0 : ∀ k, csel L nb d k = true ↔ ¬ plc L nb (d k) < nb := fun k => csel_t
  have puv : plc L nb (d 0) < nb → plc L nb (d 0) ≠ plc L nb (d 1) := fun z y => uv ((u3 z).symm.trans ((congrArg L y).trans (v3 (by omega))))
  have fu := hf _ hu
  have fv := hf _ hv
  have r0 : rk (csel L nb d) 0 = 0 := rfl
  have r1 : rk (csel L nb d) 1 = if plc L nb (d 0) < nb then 0 else 1 := by
    by_cases z : plc L nb (d 0) < nb
    · rw [if_pos z, rk_f (fun w => ((st0 0).mp w) z), r0]
    · rw [if_neg z, rk_t ((st0 0).mpr z), r0]
  have r2 : rk (csel L nb d) 2 = rk (csel L nb d) 1 + if plc L nb (d 1) < nb then 0 else 1 := by
    by_cases z : plc L nb (d 1) < nb
    · rw [if_pos z, rk_f (v := 1) (fun w => ((st0 1).mp w) z), Nat.add_zero]
    · rw [if_neg z, rk_t (v := 1) ((st0 1).mpr z)]
  have en1 : cn1 L nb (d 0) = nb + rk (csel L nb d) 1 := by rw [en, r1]; split <;> omega
  generalize hg0 : g 0 * st = g0 at w1 eh hh ⊢
  generalize hg1 : g 1 * st = g1 at w2 hh ⊢
  generalize hpu : plc L nb (d 0) = pu at *
  generalize hpv : plc L nb (d 1) = pv at *
  generalize cn1 L nb (d 0) = n1 at *
  generalize cp2 L nb (d 0) (d 1) = p2 at *
  have p2c : (pv < nb ∧ p2 = pv) ∨ (pv = nb ∧ p2 = n1) := by
    by_cases z : pv < nb
    · rw [if_pos z] at ep; exact Or.inl ⟨z, ep⟩
    · rw [if_neg z] at ep; exact Or.inr ⟨by omega, ep⟩
  have n1c : (pu < nb ∧ n1 = nb) ∨ (pu = nb ∧ n1 = nb + 1) := by
    by_cases z : pu < nb
    · rw [if_pos z] at en; exact Or.inl ⟨z, en⟩
    · rw [if_neg z] at en; exact Or.inr ⟨by omega, en⟩
  have Nc : (pv < nb ∧ N = n1) ∨ (pv = nb ∧ N = n1 + 1) := by
    rw [hN]; split <;> omega
  -- the batch's own lots
  have qb : ∀ p, p < nb → q p = L p := fun p hp => by
    rw [hq]
    by_cases z : p = p2
    · rw [if_pos z]; exact ((iv p hp).mpr (by omega)).symm
    · rw [if_neg z, eq]
      by_cases y : p = pu
      · rw [if_pos y]; exact ((iu p hp).mpr y).symm
      · rw [if_neg y]
  have hb : ∀ p, p < nb → h p = H p + if p = pu then g0 else if p = pv then g1 else 0 := fun p hp => by
    rw [hh]
    by_cases z : p = p2
    · have e : p = pv := by omega
      have ne : ¬ p = pu := fun w => puv (by omega) (by omega)
      rw [if_pos z, if_pos (by omega), ← z, eh, if_neg ne, if_neg ne, if_pos e]
    · rw [if_neg z, eh]
      by_cases y : p = pu
      · subst y
        rw [if_pos rfl, if_pos rfl, if_pos hp]
      · rw [if_neg y, if_neg y, if_neg (by omega)]; rfl
  have new0 : pu = nb → q nb = d 0 ∧ h nb = g0 := fun z => by
    rw [hq, hh, if_neg (by omega), if_neg (by omega), eq, eh, if_pos z.symm, if_pos z.symm, if_neg (by omega)]
    exact ⟨rfl, Nat.zero_add _⟩
  have new1 : pv = nb → q n1 = d 1 ∧ h n1 = g1 := fun z => by
    rw [hq, hh, if_pos (by omega), if_pos (by omega), if_neg (by omega)]
    exact ⟨rfl, Nat.zero_add _⟩
  have cases4 : ∀ p, p < N → p < nb ∨ (p = nb ∧ pu = nb) ∨ (p = n1 ∧ pv = nb) := fun p hp => by omega
  refine ⟨⟨?_, by omega⟩, fun p hp => ?_, fun p hp => ?_, fun p hp => ⟨?_, ?_⟩, fun k hk => ⟨?_, ?_, fun hs => ?_⟩⟩
  · rw [r2, ← Nat.add_assoc, ← en1]
    rcases Nc with ⟨z, y⟩ | ⟨z, y⟩
    · rw [if_pos z]; exact y
    · rw [if_neg (by omega)]; exact y
  · rcases cases4 p hp with z | ⟨z, y⟩ | ⟨z, y⟩
    · rw [qb p z]; exact (hL p z).1
    · rw [z, (new0 y).1]; exact hu
    · rw [z, (new1 y).1]; exact hv
  · rcases cases4 p hp with z | ⟨z, y⟩ | ⟨z, y⟩
    · rw [hb p z]
      have := (hL p z).2
      by_cases a : p = pu
      · rw [if_pos a]
        rw [(iu p z).mpr a] at this
        omega
      · rw [if_neg a]
        by_cases c : p = pv
        · rw [if_pos c]
          rw [(iv p z).mpr c] at this
          omega
        · rw [if_neg c]; omega
    · rw [z, (new0 y).2]; omega
    · rw [z, (new1 y).2]; omega
  · rw [(e4 p hp).1, qb p hp]
  · rw [qb p hp]
    have hLp := (hL p hp).1
    refine ⟨if p = pu then g0 else if p = pv then g1 else 0, H p, ?_, (e4 p hp).2, hb p hp⟩
    rw [xGramsOf (p := if p = pu then 0 else if p = pv then 1 else 2) (by decide) hC (by decide) (by omega) (fun k hk => by rcases d01 k hk with rfl | rfl <;> omega) (by split <;> (try split) <;> omega) (fun k hk => by
        by_cases z : p = pu
        · rw [if_pos z] at hk; omega
        · rw [if_neg z] at hk
          have n0 : ¬ d 0 = L p := fun w => z ((iu p hp).mp w.symm)
          by_cases y : p = pv
          · rw [if_pos y] at hk
            rw [show k = 0 by omega]; exact n0
          · rw [if_neg y] at hk
            rcases d01 k hk with rfl | rfl
            · exact n0
            · exact fun w => y ((iv p hp).mp w.symm)) (fun hlt => by
        by_cases z : p = pu
        · rw [if_pos z]; exact ((iu p hp).mpr z).symm
        · rw [if_neg z] at hlt ⊢
          by_cases y : p = pv
          · rw [if_pos y]; exact ((iv p hp).mpr y).symm
          · rw [if_neg y] at hlt; omega)]
    by_cases z : p = pu
    · rw [if_pos z, if_pos z, if_pos (by decide), hg0]
    · rw [if_neg z, if_neg z]
      by_cases y : p = pv
      · rw [if_pos y, if_pos y, if_pos (by decide), hg1]
      · rw [if_neg y, if_neg y, if_neg (by decide)]
  · rcases d01 k hk with rfl | rfl
    · rw [plu, hpu]
      by_cases z : pu < nb
      · rw [if_pos z, if_neg (fun w => ((st0 0).mp w) (by omega)), if_pos z]
      · rw [if_neg z, if_pos ((st0 0).mpr (by omega))]
    · rw [plv, hpv]
      by_cases z : pv < nb
      · rw [if_pos z, if_neg (fun w => ((st0 1).mp w) (by omega)), if_pos z]
      · rw [if_neg z, if_pos ((st0 1).mpr (by omega))]
  · split <;> omega
  · rcases d01 k hk with rfl | rfl
    · have z := (st0 0).mp hs
      rw [hpu] at z
      rw [r0, Nat.add_zero, hg0]; exact new0 (by omega)
    · have z := (st0 1).mp hs
      rw [hpv] at z
      rw [← en1, hg1]; exact new1 (by omega)
