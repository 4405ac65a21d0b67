abbrev c100 : UInt64 := 4636737291354636288
abbrev c250 : UInt64 := 4643000109586448384
theorem c100_b : fnn c100 ∧ pw 1031 c100 ∧ 1023 * 2 ^ 52 ≤ (c100 : UInt64).toNat := by
  refine ⟨?_, ?_, ?_⟩
  · unfold fnn; decide +kernel
  · unfold pw; decide +kernel
  · decide +kernel
theorem c250_b : fnn c250 ∧ pw 1031 c250 ∧ 1023 * 2 ^ 52 ≤ (c250 : UInt64).toNat := by
  refine ⟨?_, ?_, ?_⟩
  · unfold fnn; decide +kernel
  · unfold pw; decide +kernel
  · decide +kernel
/-- not minus 0 -/
def nm0 (x : UInt64) : Prop := x.toNat ≠ 2 ^ 63
theorem mulsub {c a b : UInt64} (hc : fnn c ∧ pw 1031 c ∧ 1023 * 2 ^ 52 ≤ c.toNat) (ha : pw 1047 a) (hb : pw 1047 b) : vf_n64 (FP.dsub a b) ∧ mg 1060 (FP.dmul c (FP.dsub a b)) ∧ nm0 (FP.dmul c (FP.dsub a b)) := by
  have fa : fnn a := pw_fnn ha (by decide)
  have fb : fnn b := pw_fnn hb (by decide)
  have m1 := mg_sub (pw_mg ha (by decide)) (pw_mg hb (by decide)) (by decide)
  have mc := pw_mg hc.2.1 (by decide)
  have m2 := mg_mul mc m1 (by decide) (by decide)
  refine ⟨mg_n64 m1 (by decide), mg_mono m2 (by decide), ?_⟩
  rcases Nat.lt_or_ge a.toNat b.toNat with h | h
  · have e := dsub_lt fb fa h
    have d := dsub_b fb fa (Nat.le_of_lt h)
    have d1 : 1 ≤ (FP.dsub b a).toNat := d.2.2 1 (by decide) (by
      have := un_lt.mpr h
      rw [un_lo (by decide)]; omega)
    have mz : mg 1049 (FP.dsub b a) := mg_sub (pw_mg hb (by decide)) (pw_mg ha (by decide)) (by decide)
    have fz : fnn (FP.dsub b a) := pw_fnn (mg_pw mz d.1) (by decide)
    have dm := dmul_b hc.1 fz
    have d2 : 1 ≤ (FP.dmul c (FP.dsub b a)).toNat := dm.2.2 1 (by decide) (by
      have g1 := un_le.mpr hc.2.2
      rw [un_pw (by decide)] at g1
      have g2 : un 1 ≤ un (FP.dsub b a).toNat := un_le.mpr d1
      rw [un_lo (by decide)] at g2 ⊢
      rw [Nat.mul_comm]
      exact mulle g1 g2)
    unfold nm0
    rw [e, dmul_cm, dmul_neg mz mc (by decide), dmul_cm, dneg_up dm.1]
    omega
  · have d := dsub_b fa fb h
    have fz : fnn (FP.dsub a b) := pw_fnn (mg_pw m1 d.1) (by decide)
    have := (dmul_b hc.1 fz).1
    unfold nm0
    omega
def colV (r : Nat → UInt32) (W : Nat → Nat → Nat) (k : Nat) : UInt64 := if k = 0 then FP.dmul c100 (axV r (W 1)) else if k = 1 then FP.dmul c250 (FP.dsub (axV r (W 0)) (axV r (W 1))) else FP.dmul c100 (FP.dsub (axV r (W 1)) (axV r (W 2)))
theorem colV_b {r : Nat → UInt32} {W : Nat → Nat → Nat} (hr : ∀ k, k < 16 → fl2 (r k)) (h : ∀ x, x < 3 → ∀ k, k < 16 → W x k ≤ 1000000000000) (k : Nat) : mg 1060 (colV r W k) ∧ nm0 (colV r W k) := by
  have a0 := (axV_b hr (h 0 (by decide))).1
  have a1 := (axV_b hr (h 1 (by decide))).1
  have a2 := (axV_b hr (h 2 (by decide))).1
  unfold colV
  split
  · have f := pw_fnn a1 (by decide)
    have := (dmul_b c100_b.1 f).1
    exact ⟨mg_mono (mg_mul (pw_mg c100_b.2.1 (by decide)) (pw_mg a1 (by decide)) (by decide) (by decide)) (by decide), by unfold nm0; omega⟩
  split
  · exact (mulsub c250_b a0 a1).2
  · exact (mulsub c100_b a1 a2).2
theorem xCol {f i : Nat} {st : Sto} {W : Nat → Nat → Nat} (ha : Aim st W) (hl : lFX f i = 16) (hr : ∀ k, k < 16 → fl2 (gF st f i k)) : fX9_coloursOf f i st = some ((42, 0), putD st 42 0 3 (colV (fun k => gF st f i k) W)) := by
  have hW : ∀ x, x < 3 → ∀ k, k < 16 → W x k ≤ 1000000000000 := fun x hx k hk => ((ha x hx).2 k hk).2
  have a0 := (axV_b hr (hW 0 (by decide))).1
  have a1 := (axV_b hr (hW 1 (by decide))).1
  have a2 := (axV_b hr (hW 2 (by decide))).1
  have c0 := (colV_b hr hW 0).1
  have c1 := (colV_b hr hW 1).1
  have c2 := (colV_b hr hW 2).1
  unfold fX9_coloursOf
  rw [show fX9_rootOfRatio f i (0 : Int32) st = _ from xAxis (x := 0) ha (by decide) hl hr, Option.bind_some, show fX9_rootOfRatio f i (1 : Int32) st = _ from xAxis (x := 1) ha (by decide) hl hr, Option.bind_some, show fX9_rootOfRatio f i (2 : Int32) st = _ from xAxis (x := 2) ha (by decide) hl hr, Option.bind_some]
  rw [nd_t (mg_n64 (show mg 1060 (FP.dmul c100 (axV (fun k => gF st f i k) (W 1))) from c0) (by decide)), lt1_e, nd_t (mulsub c250_b a0 a1).1, nd_t (mg_n64 (show mg 1060 (FP.dmul c250 (FP.dsub (axV (fun k => gF st f i k) (W 0)) (axV (fun k => gF st f i k) (W 1)))) from c1) (by decide)), lt1_e, nd_t (mulsub c100_b a1 a2).1, nd_t (mg_n64 (show mg 1060 (FP.dmul c100 (FP.dsub (axV (fun k => gF st f i k) (W 1)) (axV (fun k => gF st f i k) (W 2)))) from c2) (by decide)), lt1_e]
  have e : putD st 42 0 3 (colV (fun k => gF st f i k) W) = sD (sD (sD st 42 0 0 (colV (fun k => gF st f i k) W 0)) 42 0 1 (colV (fun k => gF st f i k) W 1)) 42 0 2 (colV (fun k => gF st f i k) W 2) := by
    rw [← putD_s, ← putD_s, ← putD_s, putD_0]
  rw [e]
  rfl
theorem Aim_D {st : Sto} {W : Nat → Nat → Nat} {f i n : Nat} {v : Nat → UInt64} (h : Aim st W) (hf : f ≠ 39) (hf2 : f ≠ 40) : Aim (putD st f i n v) W := fun x hx => ⟨by rw [putD_g (fun q => hf2 q.1.symm)]; exact (h x hx).1, fun k hk => ⟨by rw [putD_g (fun q => hf q.1.symm)]; exact ((h x hx).2 k hk).1, ((h x hx).2 k hk).2⟩⟩
theorem Aim_F {st : Sto} {W : Nat → Nat → Nat} {f i n : Nat} {v : Nat → UInt32} (h : Aim st W) : Aim (putF st f i n v) W := h
theorem xGoal {f i : Nat} {st : Sto} {W : Nat → Nat → Nat} (ha : Aim st W) (hl : lFX f i = 16) (hr : ∀ k, k < 16 → fl2 (gF st f i k)) : ∃ st', fX9_setGoal f i st = some st' ∧ Aim st' W ∧ SameX st st' ∧ ∀ k, k < 3 → gD st' 41 0 k = colV (fun k => gF st f i k) W k := by
  have e : ∀ s : Sto, cD s 42 0 0 41 0 0 3 = putD s 41 0 3 (fun k => gD s 42 0 k) := fun s => by
    refine Prod.ext rfl (Prod.ext rfl (Prod.ext rfl ?_))
    funext a b c
    show (if a = 41 ∧ b = 0 ∧ 0 ≤ c ∧ c < 0 + 3 then s.2.2.2 42 0 (0 + (c - 0)) else s.2.2.2 a b c) = if a = 41 ∧ b = 0 ∧ c < 3 then s.2.2.2 42 0 c else s.2.2.2 a b c
    by_cases h : a = 41 ∧ b = 0 ∧ c < 3
    · rw [if_pos ⟨h.1, h.2.1, Nat.zero_le _, by omega⟩, if_pos h, Nat.zero_add, Nat.sub_zero]
    · rw [if_neg (fun q => h ⟨q.1, q.2.1, by omega⟩), if_neg h]
  refine ⟨putD (putD st 42 0 3 (colV (fun k => gF st f i k) W)) 41 0 3 (fun k => gD (putD st 42 0 3 (colV (fun k => gF st f i k) W)) 42 0 k), ?_, Aim_D (Aim_D ha (by decide) (by decide)) (by decide) (by decide), SameX_t (SameX_pD (by decide)) (SameX_pD (by decide)), fun k hk => ?_⟩
  · unfold fX9_setGoal
    rw [xCol ha hl hr, Option.bind_some]
    dsimp only [un2]
    rw [ck_t (by decide), lt1_e, e]
  · rw [putD_h hk, putD_h hk]
/-- the gap of two colours under a measure -/
def gapV (a b c : UInt64) (g s : Nat → UInt64) : UInt64 := FP.dadd (FP.dadd (FP.dmul (FP.dmul a (FP.dsub (g 0) (s 0))) (FP.dsub (g 0) (s 0))) (FP.dmul (FP.dmul b (FP.dsub (g 1) (s 1))) (FP.dsub (g 1) (s 1)))) (FP.dmul (FP.dmul c (FP.dsub (g 2) (s 2))) (FP.dsub (g 2) (s 2)))
theorem gap1 {a x y : UInt64} (ha : pw 1031 a) (hx : mg 1060 x) (hy : mg 1060 y) : vf_n64 (FP.dsub x y) ∧ vf_n64 (FP.dmul a (FP.dsub x y)) ∧ pw 1112 (FP.dmul (FP.dmul a (FP.dsub x y)) (FP.dsub x y)) ∧ FP.dmul (FP.dmul a (FP.dsub y x)) (FP.dsub y x) = FP.dmul (FP.dmul a (FP.dsub x y)) (FP.dsub x y) := by
  have m1 : mg 1062 (FP.dsub x y) := mg_sub hx hy (by decide)
  have m2 := mg_mul (pw_mg ha (by decide)) m1 (by decide) (by decide)
  have m3 : mg 1112 (FP.dmul (FP.dmul a (FP.dsub x y)) (FP.dsub x y)) := mg_mono (mg_mul m2 m1 (by decide) (by decide)) (by decide)
  exact ⟨mg_n64 m1 (by decide), mg_n64 m2 (by decide), mg_pw m3 (sq_pos ha m1 (by decide)), sq_swap (pw_mg ha (by decide)) m1 (by decide) (dsub_swap hx hy (by decide))⟩
theorem gapV_b {a b c : UInt64} {g s : Nat → UInt64} (ha : pw 1031 a) (hb : pw 1031 b) (hc : pw 1031 c) (hg : ∀ k, k < 3 → mg 1060 (g k)) (hs : ∀ k, k < 3 → mg 1060 (s k)) : gapV a b c s g = gapV a b c g s ∧ pw 1116 (gapV a b c g s) ∧ pw 1114 (FP.dadd (FP.dmul (FP.dmul a (FP.dsub (g 0) (s 0))) (FP.dsub (g 0) (s 0))) (FP.dmul (FP.dmul b (FP.dsub (g 1) (s 1))) (FP.dsub (g 1) (s 1)))) := by
  obtain ⟨_, _, p0, e0⟩ := gap1 ha (hg 0 (by decide)) (hs 0 (by decide))
  obtain ⟨_, _, p1, e1⟩ := gap1 hb (hg 1 (by decide)) (hs 1 (by decide))
  obtain ⟨_, _, p2, e2⟩ := gap1 hc (hg 2 (by decide)) (hs 2 (by decide))
  have p01 := dadd_pw p0 p1 (by decide) (by decide)
  refine ⟨?_, ?_, p01⟩
  · unfold gapV
    rw [e0, e1, e2]
  · exact dadd_pw p01 (pw_mono p2 (by decide)) (by decide) (by decide)
