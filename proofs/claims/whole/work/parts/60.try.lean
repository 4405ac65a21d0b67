/-! ===== amounts; floats of blends; bits of floats ===== -/
theorem l2d_i2d {n : Nat} (h : n < 2 ^ 31) : FP.l2d (lN n) = FP.i2d (nI n) := by
  obtain ⟨f1, u1⟩ := l2d_lN (n := n) (by omega)
  obtain ⟨f2, u2⟩ := i2d_nI h
  exact fnn_eq (u1.trans u2.symm)
theorem am_b {n c : Nat} (h : n ≤ c) (hc : c ≤ 10000000) : iv c (FP.l2d (lN n)) ∧ lw 1023 (FP.l2d (lN n)) := by
  obtain ⟨f, u⟩ := l2d_lN (n := n) (by omega)
  refine ⟨⟨by rw [u]; exact Nat.mul_le_mul_right _ h, f⟩, ?_⟩
  rcases Nat.eq_zero_or_pos n with e | e
  · left
    rw [e, Nat.zero_mul] at u
    rw [e]
    exact un_z.mp u
  · right
    refine un_le.mp ?_
    rw [u, un_pw (by decide)]
    exact Nat.le_mul_of_pos_left _ e
/-- grams of a lot, as grams of its dye -/
def wo (g : UInt64) (up down : Nat) : UInt64 := FP.ddiv (FP.dmul g (FP.i2d (nI up))) (FP.i2d (nI down))
theorem wo_b {n up down : Nat} (h : n ≤ 10000000) (hu : 1 ≤ up ∧ up ≤ 1000) (hd : 1 ≤ down ∧ down ≤ 1000) : fnn (FP.dmul (FP.l2d (lN n)) (FP.i2d (nI up))) ∧ iv 10000000000 (wo (FP.l2d (lN n)) up down) ∧ lw 1013 (wo (FP.l2d (lN n)) up down) := by
  obtain ⟨g1, g2⟩ := am_b h (Nat.le_refl _)
  obtain ⟨fu, lu, pu, uu⟩ := i2d_b2 (a := up) hu.1 (by omega)
  obtain ⟨fd, ld, pd, ud⟩ := i2d_b2 (a := down) hd.1 (by omega)
  have iu : iv 1000 (FP.i2d (nI up)) := ⟨by rw [uu]; exact Nat.mul_le_mul_right _ hu.2, fu⟩
  have m1 : iv 10000000000 (FP.dmul (FP.l2d (lN n)) (FP.i2d (nI up))) := iv_mono (iv_mul g1 iu (by decide)) (by decide)
  have m2 : lw 1023 (FP.dmul (FP.l2d (lN n)) (FP.i2d (nI up))) := lw_mono (lw_mul g2 (Or.inr lu) g1.2 fu (by decide) (by decide) (by decide) (by decide)) (by decide)
  have pd2 : pw 1033 (FP.i2d (nI down)) := pw_of_un (by rw [ud]; exact pow_lt_of (j := 10) (by omega) (by decide)) (by decide)
  exact ⟨m1.2, iv_div m1 fd ld, lw_mono (lw_div m2 m1.2 fd pd2 (by omega) (by decide) (by decide) (by decide) (by decide)) (by decide)⟩
theorem xWorth {l n up down : Nat} {st : Sto} (hu : gI st 29 l 1 = nI up ∧ 1 ≤ up ∧ up ≤ 1000) (hd : gI st 29 l 2 = nI down ∧ 1 ≤ down ∧ down ≤ 1000) (h : n ≤ 10000000) : fX4_worthOf l (lN n) st = some (wo (FP.l2d (lN n)) up down) := by
  obtain ⟨a, b, _⟩ := wo_b h hu.2 hd.2
  unfold fX4_worthOf
  rw [hu.1, hd.1, nd_t (n64_of a)]
  exact nd_t (k := fun v2 => some v2) (n64_of (show fnn (wo (FP.l2d (lN n)) up down) from b.2))
theorem mLotAt {st : Sto} {l d n cl k ng up down : Nat} {G : Nat → Nat} (hl : l < 20) (h16 : gI st 16 0 l = nI d) (h17 : gI st 17 0 l = nI up ∧ 1 ≤ up ∧ up ≤ 1000) (h18 : gI st 18 0 l = nI down ∧ 1 ≤ down ∧ down ≤ 1000) (hng : ng ≤ 10000000) (hd : d < 12) (hk : k < 16) (hcl : cl < 8) (hc : gI st 12 0 d = nI cl) (hn : gI st 13 0 d = nI n) (hG : ∀ s, s < n → gI st 14 0 (6 * d + s) = nI (G s)) (h : DyeOk n G (mO st d cl k)) (f1 : ∀ s, s < n → fl2 (gF st 1 0 (16 * (62 + 6 * d + s) + k))) (f2 : fl2 (gF st 1 0 (16 * (41 + cl) + k))) : fX12_lotAt (nI l) (FP.l2d (lN ng)) (nI k) st = some (dyeC n G (mO st d cl k) (wo (FP.l2d (lN ng)) up down)) := by
  obtain ⟨a, b, c⟩ := wo_b hng h17.2 h18.2
  unfold fX12_lotAt
  rw [ck_t (by rw [show lIM 16 0 = 20 from rfl]; exact ixl (by omega) (by omega)), ck_t (by rw [show lIM 17 0 = 20 from rfl]; exact ixl (by omega) (by omega)), nI_cl (by omega), h17.1, nd_t (n64_of a), ck_t (by rw [show lIM 18 0 = 20 from rfl]; exact ixl (by omega) (by omega)), h18.1, h16]
  refine (nd_t (n64_of (show fnn (wo (FP.l2d (lN ng)) up down) from b.2))).trans ?_
  rw [mDyeAt hd hk hcl hc hn hG h f1 f2 b c (Nat.le_refl _)]
  rfl
/-- a blended band -/
def blV (x y : UInt32) (up down : Nat) : UInt32 := FP.d2f (FP.ddiv (FP.dadd (FP.dmul (FP.f2d x) (FP.i2d (nI up))) (FP.dmul (FP.f2d y) (FP.i2d (nI (down - up))))) (FP.i2d (nI down)))
theorem blV_b {x y : UInt32} {up down : Nat} (hx : fl2 x) (hy : fl2 y) (hd : 1 ≤ down) (hd2 : down ≤ 1000) (hu : up ≤ down) : fnn (FP.dmul (FP.f2d x) (FP.i2d (nI up))) ∧ fnn (FP.dmul (FP.f2d y) (FP.i2d (nI (down - up)))) ∧ fnn (FP.dadd (FP.dmul (FP.f2d x) (FP.i2d (nI up))) (FP.dmul (FP.f2d y) (FP.i2d (nI (down - up))))) ∧ fnn (FP.ddiv (FP.dadd (FP.dmul (FP.f2d x) (FP.i2d (nI up))) (FP.dmul (FP.f2d y) (FP.i2d (nI (down - up))))) (FP.i2d (nI down))) ∧ fl2 (blV x y up down) := by
  have i : ∀ n, n ≤ 1000 → iv n (FP.i2d (nI n)) := fun n hn => by
    obtain ⟨f, u⟩ := i2d_nI (n := n) (by omega)
    exact ⟨by rw [u]; exact Nat.le_refl _, f⟩
  have m1 := iv_mul (f2d_fl2 hx).2.2.1 (i up (by omega)) (by omega)
  have m2 := iv_mul (f2d_fl2 hy).2.2.1 (i (down - up) (by omega)) (by omega)
  have m3 := iv_add m1 m2 (by omega)
  obtain ⟨fd, ld, pd, ud⟩ := i2d_b2 (a := down) hd (by omega)
  have q : (FP.ddiv (FP.dadd (FP.dmul (FP.f2d x) (FP.i2d (nI up))) (FP.dmul (FP.f2d y) (FP.i2d (nI (down - up))))) (FP.i2d (nI down))).toNat ≤ 1024 * 2 ^ 52 := by
    refine (ddiv_b m3.2 fd (by omega)).2.1 _ ?_
    rw [un_pw (by decide), ud]
    have h1 := Nat.mul_le_mul_right (2 ^ 1074) m3.1
    refine Nat.le_trans h1 (Nat.le_of_eq ?_)
    have e75 : (2 : Nat) ^ (1024 + 51) = 2 * 2 ^ 1074 := by rw [← Nat.pow_succ']
    rw [show 2 * up + 2 * (down - up) = 2 * down by omega, e75]
    generalize 2 ^ 1074 = P
    rw [Nat.mul_assoc 2 down P, Nat.mul_assoc 2, Nat.mul_assoc 2, Nat.mul_comm (down * P) P]
  exact ⟨m1.2, m2.2, m3.2, pw_fnn (K := 1025) (show _ < 1025 * 2 ^ 52 by omega) (by decide), d2f_le2 q⟩
theorem d2f_ffn {x : UInt64} (h : pw 1100 x) : ffn (FP.d2f x) := by
  have hf : fnn x := pw_fnn h (by decide)
  have h1 : (FP.d2f x).toNat ≤ 204 * 2 ^ 23 := by
    refine (d2f_b hf).2.1 _ ?_
    rw [un32_pw (by decide), ← Nat.pow_add]
    exact Nat.le_trans (Nat.le_of_lt (pw_un h (by decide))) (Nat.pow_le_pow_right (by decide) (by decide))
  show (FP.d2f x).toNat < 2139095040
  omega
/-- the bits of a double made a float, by both -/
theorem fbits {x : UInt64} (h : mg 1100 x) (h0 : nm0 x) : fX7_floatBits x = some (FP.d2f x).toInt32 ∧ vf_n32 (FP.d2f x) ∧ fmJxf58ca_floatToIntBits_5c35a (FP.d2f x) = some (FP.d2f x).toInt32 := by
  have hx := x.toNat_lt
  unfold nm0 at h0
  rcases Nat.lt_or_ge x.toNat (2 ^ 63) with g | g
  · have hp := mg_pw h g
    have hf := d2f_ffn hp
    exact ⟨floatBits_pos (pw_fnn hp (by decide)) hf, n32_of hf, isNaN_32 (ffn_nn hf)⟩
  · obtain ⟨y, hy, hy2⟩ := dneg_bits2 g
    have hym : mg 1100 y := by rw [← dneg2 y, ← hy]; exact dneg_mg h (by decide)
    have hp := mg_pw hym (by omega)
    have hf := d2f_ffn hp
    have e := d2f_neg (x := x) (y := y) (pw_fnn hp (by decide)) (by omega)
    have hfb : (FP.d2f y).toNat < 2139095040 := hf
    have hn : FP.Core.val32 (FP.d2f x) ≠ .nan := by
      have : FP.Core.val32 (FP.d2f x) = FP.Core.negate (FP.Core.val32 (FP.d2f y)) := FP.Core.val32_neg_bits (Or.inr (by omega))
      rw [this]
      exact FP.Core.negate_ne_nan (ffn_nn hf)
    exact ⟨floatBits_neg (pw_fnn hp (by decide)) (by omega) (by omega) hf, n32.mpr (by show _ ≤ 2139095040; omega), isNaN_32 hn⟩
theorem d2f_f2d {r : UInt32} (h : fl2 r) : FP.d2f (FP.f2d r) = r := by
  obtain ⟨h1, h2⟩ := f2d_un (fl2_ffn h)
  have hb := d2f_b h1
  have hr : r.toNat ≤ fInf := Nat.le_of_lt (fl2_ffn h)
  exact eq_of_toNat32 (Nat.le_antisymm (hb.2.1 r.toNat (by rw [h2]; exact Nat.le_refl _)) (hb.2.2 r.toNat hr (by rw [h2]; exact Nat.le_refl _)))
theorem fbits_fl2 {r : UInt32} (h : fl2 r) : vf_n64 (FP.f2d r) ∧ fX7_floatBits (FP.f2d r) = some r.toInt32 ∧ fmJxf58ca_floatToIntBits_5c35a r = some r.toInt32 := by
  obtain ⟨a, b, c, d⟩ := f2d_fl2 h
  have hp : pw 1100 (FP.f2d r) := show _ < 1100 * 2 ^ 52 by omega
  have hb := (fbits (pw_mg hp (by decide)) (by unfold nm0; omega)).1
  rw [d2f_f2d h] at hb
  exact ⟨n64_of b, hb, isNaN_32 (ffn_nn (fl2_ffn h))⟩
