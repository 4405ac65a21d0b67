/-! ===== a candidate of a correction, as the reference's bath has it ===== -/
/-- what the batch is in the class's store -/
def XB (x : Sto) (b nb cnt : Nat) (L H lf : Nat → Nat) : Prop := (cN x 4 = cnt ∧ gI x 3 0 4 = nI cnt) ∧ b < cN x 5 ∧ gI x 30 b 2 = nI nb ∧ (∀ p, p < nb → gI x 31 b p = nI (L p) ∧ gI x 32 b p = nI (H p)) ∧ ∀ u, u < cnt → gI x 29 u 4 = nI (lf u)
theorem XB_e {x y : Sto} {b nb cnt : Nat} {L H lf : Nat → Nat} (h : XB x b nb cnt L H lf) (k : ∀ f i j, f = 3 ∨ (22 ≤ f ∧ f ≤ 33) → gI y f i j = gI x f i j) : XB y b nb cnt L H lf := ⟨⟨(iN_e (k 3 0 4 (by decide))).trans h.1.1, (k 3 0 4 (by decide)).trans h.1.2⟩, by rw [show cN y 5 = cN x 5 from iN_e (k 3 0 5 (by decide))]; exact h.2.1, (k _ _ _ (by omega)).trans h.2.2.1, fun p hp => ⟨(k _ _ _ (by omega)).trans (h.2.2.2.1 p hp).1, (k _ _ _ (by omega)).trans (h.2.2.2.1 p hp).2⟩, fun u hu => (k _ _ _ (by omega)).trans (h.2.2.2.2 u hu)⟩
theorem XB_GM {x m : Sto} {b nb cnt : Nat} {L H lf : Nat → Nat} (h : XB x b nb cnt L H lf) (nb8 : nb ≤ 8) (c20 : cnt ≤ 20) (hm : LiveM x m) : GM b nb cnt L H lf m := by
  obtain ⟨h1, h2, h3, h4, h5⟩ := h
  obtain ⟨_, _, l2, _, l4, _⟩ := hm.2.2.2.2.2.2 b h2
  have en : iN x 30 b 2 = nb := by unfold iN; rw [h3]; exact nI_cl (by omega)
  rw [en] at l4
  have l6 := hm.1 4 (by decide)
  refine ⟨l2.trans h3, fun p hp => ⟨(l4 p hp).1.trans (h4 p hp).1, (l4 p hp).2.trans (h4 p hp).2⟩, fun u hu => (hm.2.2.2.2.2.1 u (by omega)).2.2.2.2.trans (h5 u hu), l6.trans h1.2⟩
/-- the lots of the set that are not in the batch -/
noncomputable def csel (L : Nat → Nat) (nb : Nat) (d : Nat → Nat) : Nat → Bool := fun k => decide (¬ plc L nb (d k) < nb)
theorem csel_t {L : Nat → Nat} {nb : Nat} {d : Nat → Nat} {k : Nat} : csel L nb d k = true ↔ ¬ plc L nb (d k) < nb := decide_eq_true_iff
theorem c_pl {t : Sto} {b nb cnt v : Nat} {L H lf : Nat → Nat} (hE : EB b nb cnt L H lf) (hX : XB t b nb cnt L H lf) (hv : v < cnt) : fX1_placeOf b (nI v) t = some (if plc L nb v < nb then nI (plc L nb v) else (-1 : Int32)) := by
  obtain ⟨b12, nb8, c20, hL, hd, hf⟩ := hE
  obtain ⟨h1, h2, h3, h4, h5⟩ := hX
  obtain ⟨v1, v2, v3⟩ := plc_e L nb v
  exact xPlaceAt b12 h3 nb8 v1 (fun k hk => by
    rw [(h4 k (by omega)).1]
    intro z
    exact v2 k hk ((nI_inj (by have := (hL k (by omega)).1; omega) (by omega)).mp z)) (fun h => by rw [(h4 _ h).1, v3 h])
theorem c_1 {t : Sto} {b nb cnt st : Nat} {L H lf i d g : Nat → Nat} (hE : EB b nb cnt L H lf) (hX : XB t b nb cnt L H lf) (hC : Cd 1 t 1 st i d g) (hu : d 0 < cnt) (v1 : g 0 * st ≤ 100000 ∧ 1000 * (g 0 * st) ≤ lf (d 0) ∧ plc L nb (d 0) < 8) : (cn1 L nb (d 0) = nb + rk (csel L nb d) 1 ∧ cn1 L nb (d 0) ≤ 8) ∧ (∀ p, p < cn1 L nb (d 0) → cq1 L nb (d 0) p < cnt) ∧ (∀ p, p < cn1 L nb (d 0) → ch1 L H nb (d 0) (g 0 * st) p ≤ 1000000) ∧ (∀ p, p < nb → gI t 31 b p = nI (cq1 L nb (d 0) p) ∧ ∃ G H', fX8_gramsOf 1 (nI (cq1 L nb (d 0) p)) t = some (nI G) ∧ gI t 32 b p = nI H' ∧ ch1 L H nb (d 0) (g 0 * st) p = H' + G) ∧ (∀ k, k < 1 → fX1_placeOf b (nI (d k)) t = some (if csel L nb d k = true then (-1 : Int32) else nI (if plc L nb (d k) < nb then plc L nb (d k) else 0)) ∧ (if plc L nb (d k) < nb then plc L nb (d k) else 0) < 8 ∧ (csel L nb d k = true → cq1 L nb (d 0) (nb + rk (csel L nb d) k) = d k ∧ ch1 L H nb (d 0) (g 0 * st) (nb + rk (csel L nb d) k) = g k * st)) := by
  obtain ⟨b12, nb8, c20, hL, hd, hf⟩ := id hE
  obtain ⟨e1, e2, e3, e4, e5⟩ := id hX
  obtain ⟨u1, u2, u3⟩ := plc_e L nb (d 0)
  have iu := fun p hp => plc_i (L := L) (nb := nb) (p := p) (d 0) hd hp
  have pl := c_pl hE hX hu
  have d0 : ∀ k, k < 1 → k = 0 := fun k hk => by omega
  have en : cn1 L nb (d 0) = if plc L nb (d 0) < nb then nb else nb + 1 := rfl
  have eq : ∀ p, cq1 L nb (d 0) p = if p = plc L nb (d 0) then d 0 else L p := fun _ => rfl
  have eh : ∀ p, ch1 L H nb (d 0) (g 0 * st) p = if p = plc L nb (d 0) then (if plc L nb (d 0) < nb then H (plc L nb (d 0)) else 0) + g 0 * st else H p := fun _ => rfl
  have fu := hf _ hu
  generalize hg : g 0 * st = gg at v1 eh ⊢
  refine ⟨⟨?_, ?_⟩, fun p hp => ?_, fun p hp => ?_, fun p hp => ⟨?_, ?_⟩, fun k hk => ⟨?_, ?_, fun hs => ?_⟩⟩
  · show cn1 L nb (d 0) = nb + (0 + if csel L nb d 0 = true then 1 else 0)
    rw [en]
    by_cases z : plc L nb (d 0) < nb
    · rw [if_pos z, if_neg (fun w => (csel_t.mp w) z)]; rfl
    · rw [if_neg z, if_pos (csel_t.mpr z)]
  · rw [en]; split <;> omega
  · rw [eq]
    split
    · exact hu
    · rw [en] at hp
      exact (hL p (by split at hp <;> omega)).1
  · rw [eh]
    by_cases z : p = plc L nb (d 0)
    · rw [if_pos z]
      by_cases y : plc L nb (d 0) < nb
      · rw [if_pos y]
        have := (hL _ y).2
        rw [u3 y] at this
        omega
      · rw [if_neg y]; omega
    · rw [if_neg z]
      rw [en] at hp
      have := (hL p (by split at hp <;> omega)).2
      omega
  · rw [(e4 p hp).1, eq]
    by_cases z : p = plc L nb (d 0)
    · rw [if_pos z, (iu p hp).mpr z]
    · rw [if_neg z]
  · have eqp : cq1 L nb (d 0) p = L p := by
      rw [eq]
      by_cases z : p = plc L nb (d 0)
      · rw [if_pos z, (iu p hp).mpr z]
      · rw [if_neg z]
    rw [eqp]
    have hLp := (hL p hp).1
    refine ⟨if p = plc L nb (d 0) then gg else 0, H p, ?_, (e4 p hp).2, ?_⟩
    · rw [xGramsOf (p := if p = plc L nb (d 0) then 0 else 1) (by decide) hC (by decide) (by omega) (fun k hk => by rw [d0 k hk]; omega) (by split <;> omega) (fun k hk => by
        by_cases z : p = plc L nb (d 0)
        · rw [if_pos z] at hk; omega
        · rw [d0 k (by rw [if_neg z] at hk; exact hk)]
          exact fun w => z ((iu p hp).mp w.symm)) (fun h => by
        by_cases z : p = plc L nb (d 0)
        · rw [if_pos z]; exact ((iu p hp).mpr z).symm
        · rw [if_neg z] at h; omega)]
      by_cases z : p = plc L nb (d 0)
      · rw [if_pos z, if_pos z, if_pos (by decide), hg]
      · rw [if_neg z, if_neg z, if_neg (by decide)]
    · rw [eh]
      by_cases z : p = plc L nb (d 0)
      · subst z
        rw [if_pos rfl, if_pos rfl, if_pos hp]
      · rw [if_neg z, if_neg z]; rfl
  · rw [d0 k hk, pl]
    by_cases z : plc L nb (d 0) < nb
    · rw [if_pos z, if_neg (fun w => (csel_t.mp w) z), if_pos z]
    · rw [if_neg z, if_pos (csel_t.mpr z)]
  · split <;> omega
  · rw [d0 k hk] at hs ⊢
    have z := csel_t.mp hs
    have e : nb + rk (csel L nb d) 0 = plc L nb (d 0) := by
      show nb + 0 = _
      omega
    rw [e, eq, eh, if_pos rfl, if_pos rfl, if_neg z, hg]
    exact ⟨rfl, Nat.zero_add _⟩
