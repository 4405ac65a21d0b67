theorem ix44 {k : Nat} (h : k < 16) : 0 ≤ (nI k).toInt ∧ (nI k).toInt < (lFX 44 0 : Int) := ixc (N := 16) h (by decide)
theorem g16 {k : Nat} (h : k < 16) : ¬ (16 : Int32) ≤ nI k := nI_gt (N := 16) (by decide) h
theorem ix43 {k : Nat} (h : k < 16) : 0 ≤ (nI k).toInt ∧ (nI k).toInt < (lDX 43 0 : Int) := ixc (N := 16) h (by decide)
theorem xBegin {f i : Nat} {st : Sto} (hl : lFX f i = 16) (h : ∀ k, k < 16 → fl2 (gF st f i k)) : fX6_begin f i st = some (putD st 43 0 16 fun k => qtn (gF st f i k)) := by
  unfold fX6_begin
  rw [loopD (f := 43) (i := 0) (fun k => qtn (gF st f i k)) 16 (by decide) (fun k hk => by
    dsimp only [un2]
    rw [if_neg (g16 hk), ck_t (by rw [hl]; exact ixc hk (by decide)), nI_cl (by omega)]
    have hq := (qtn_b (h k hk)).1
    have e : gF (putD st 43 0 k fun k => qtn (gF st f i k)) f i k = gF st f i k := rfl
    rw [e, hq, Option.bind_some, ck_t (ix43 hk), lt1_e, lt1_e, nI_s]) (by dsimp only [un2]; exact if_pos (show nI 16 ≤ nI 16 by decide))]
  rfl
theorem xAddIn {f i : Nat} {q : UInt64} {st : Sto} (hl : lDX f i = 16) (hf : f ≠ 43) (h1 : ∀ k, k < 16 → vf_n64 (FP.dmul (gD st f i k) q)) (h2 : ∀ k, k < 16 → vf_n64 (FP.dadd (gD st 43 0 k) (FP.dmul (gD st f i k) q))) : fX6_addInRatio f i q st = some (putD st 43 0 16 fun k => FP.dadd (gD st 43 0 k) (FP.dmul (gD st f i k) q)) := by
  unfold fX6_addInRatio
  rw [loopD (f := 43) (i := 0) (fun k => FP.dadd (gD st 43 0 k) (FP.dmul (gD st f i k) q)) 16 (by decide) (fun k hk => by
    dsimp only [un2]
    rw [if_neg (g16 hk), ck_t (ix43 hk), ck_t (by rw [hl]; exact ixc hk (by decide)), nI_cl (by omega)]
    rw [putD_g (fun w => hf w.1), putD_g (fun w => Nat.lt_irrefl _ w.2.2), nd_t (h1 k hk), nd_t (h2 k hk), ck_t (ix43 hk), lt1_e, lt1_e, nI_s]) (by dsimp only [un2]; exact if_pos (show nI 16 ≤ nI 16 by decide))]
  rfl
theorem xAddBt {f i f2 i2 : Nat} {q : UInt64} {st : Sto} (hl : lDX f i = 16) (hl2 : lDX f2 i2 = 16) (hf : f ≠ 43) (hf2 : f2 ≠ 43) (h1 : ∀ k, k < 16 → vf_n64 (FP.dsub (gD st f2 i2 k) (gD st f i k))) (h2 : ∀ k, k < 16 → vf_n64 (FP.dmul (FP.dsub (gD st f2 i2 k) (gD st f i k)) q)) (h3 : ∀ k, k < 16 → vf_n64 (FP.dadd (gD st f i k) (FP.dmul (FP.dsub (gD st f2 i2 k) (gD st f i k)) q))) (h4 : ∀ k, k < 16 → vf_n64 (FP.dadd (gD st 43 0 k) (FP.dadd (gD st f i k) (FP.dmul (FP.dsub (gD st f2 i2 k) (gD st f i k)) q)))) : fX6_addBetween f i f2 i2 q st = some (putD st 43 0 16 fun k => FP.dadd (gD st 43 0 k) (FP.dadd (gD st f i k) (FP.dmul (FP.dsub (gD st f2 i2 k) (gD st f i k)) q))) := by
  unfold fX6_addBetween
  rw [loopD (f := 43) (i := 0) (fun k => FP.dadd (gD st 43 0 k) (FP.dadd (gD st f i k) (FP.dmul (FP.dsub (gD st f2 i2 k) (gD st f i k)) q))) 16 (by decide) (fun k hk => by
    dsimp only [un2]
    rw [if_neg (g16 hk), ck_t (ix43 hk), ck_t (by rw [hl]; exact ixc hk (by decide)), ck_t (by rw [hl2]; exact ixc hk (by decide)), ck_t (by rw [hl]; exact ixc hk (by decide)), nI_cl (by omega)]
    rw [putD_g (fun w => hf w.1), putD_g (fun w => hf2 w.1), putD_g (fun w => Nat.lt_irrefl _ w.2.2), nd_t (h1 k hk), nd_t (h2 k hk), nd_t (h3 k hk), nd_t (h4 k hk), ck_t (ix43 hk), lt1_e, lt1_e, nI_s]) (by dsimp only [un2]; exact if_pos (show nI 16 ≤ nI 16 by decide))]
  rfl
theorem xResult {st : Sto} {c : Nat} (hc : c ≤ 2 ^ 50) (h : ∀ k, k < 16 → iv c (gD st 43 0 k) ∧ lw 600 (gD st 43 0 k)) : fX6_result st = some ((44, 0), putF st 44 0 16 fun k => bandV (gD st 43 0 k)) := by
  unfold fX6_result
  rw [loopF (f := 44) (i := 0) (fun k => bandV (gD st 43 0 k)) 16 (by decide) (fun k hk => by
    dsimp only [un2]
    rw [if_neg (g16 hk), ck_t (ix43 hk), nI_cl (by omega), lt1_e]
    have e : gD (putF st 44 0 k fun k => bandV (gD st 43 0 k)) 43 0 k = gD st 43 0 k := rfl
    rw [e]
    have hb := (bandV_b (h k hk).1 hc (h k hk).2).2.2 (fun (v17 : UInt32) => ck (0 ≤ (nI k).toInt ∧ (nI k).toInt < (lFX (44) (0) : Int)) (lt1 (sF (putF st 44 0 k fun k => bandV (gD st 43 0 k)) (44) (0) k v17) fun (t18 : Sto) =>
          lt1 (nI k + Int32.ofInt (1)) fun (v19 : Int32) =>
          (some (.inl (v19, t18)) : Option ((Int32 × Sto) ⊕ Sto))))
    refine hb.trans ?_
    rw [ck_t (ix44 hk), lt1_e, lt1_e, nI_s]) (by dsimp only [un2]; exact if_pos (show nI 16 ≤ nI 16 by decide))]
  rfl
theorem xFirst {d n : Nat} {g : UInt64} {st : Sto} {G : Nat → Nat} {O : Nat → UInt64} (hd : d < 12) (hn : gI st 22 d 2 = nI n) (hG : ∀ s, s < n → gI st 23 d s = nI (G s)) (h : DyeOk n G O) (hg : fnn g) : fX3_firstFrom d g st = some (nI (fstP G g n)) := by
  obtain ⟨h1, h2, h3⟩ := fstP_is G g n
  have hn6 := h.1
  have hl : lIX 23 d = 6 := if_pos hd
  unfold fX3_firstFrom
  generalize hp : fstP G g n = p at *
  have hbody : ∀ j, j < p → (if gI st 22 d 2 ≤ nI j then (some (.inr (.inr ()))) else (
      ck (0 ≤ (nI j).toInt ∧ (nI j).toInt < (lIX (23) d : Int)) (
       if Op.cmpValue (FP.dcmp (FP.i2d (gI st (23) d ((nI j).toNatClampNeg))) g) CmpOp.l < 0 then (
        lt1 (nI j + Int32.ofInt (1)) fun (v7 : Int32) =>
        some (.inl v7)) else (
        some (.inr (.inl (nI j))))) : Option (Int32 ⊕ (Int32 ⊕ Unit)))) = some (.inl (nI (j + 1))) := fun j hj => by
    have hg1 := h.2.1 j (by omega)
    rw [hn, if_neg (nI_gt (by omega) (by omega)), hl, ck_t (ixc (by omega) (by decide)), nI_cl (by omega), hG j (by omega), if_pos (((cmp_n (i2d_b2 hg1.1 hg1.2).1 hg CmpOp.l).1).mpr (h2 j hj)), lt1_e, nI_s]
  by_cases e : p < n
  · have hg1 := h.2.1 p e
    have := lp_seq (body := fun (v4 : Int32) =>
     if gI st 22 d 2 ≤ v4 then (
      some (.inr (.inr ()))) else (
      ck (0 ≤ v4.toInt ∧ v4.toInt < (lIX (23) d : Int)) (
       if Op.cmpValue (FP.dcmp (FP.i2d (gI st (23) d (v4.toNatClampNeg))) g) CmpOp.l < 0 then (
        lt1 (v4 + Int32.ofInt (1)) fun (v7 : Int32) =>
        some (.inl v7)) else (
        some (.inr (.inl v4)))))) nI (r := (.inl (nI p) : Int32 ⊕ Unit)) p 4000 0 (fun j _ hj => hbody j (by omega)) (by
        rw [Nat.zero_add]
        have e2 := h3 e
        rw [hn, if_neg (nI_gt (by omega) e), hl, ck_t (ixc (by omega) (by decide)), nI_cl (by omega), hG p e, if_neg (fun w => by have := ((cmp_n (i2d_b2 hg1.1 hg1.2).1 hg CmpOp.l).1).mp w; omega)]) (by omega)
    refine (congrArg (fun o => Option.bind o _) this).trans ?_
    rfl
  · have e2 : p = n := by omega
    have := lp_seq (body := fun (v4 : Int32) =>
     if gI st 22 d 2 ≤ v4 then (
      some (.inr (.inr ()))) else (
      ck (0 ≤ v4.toInt ∧ v4.toInt < (lIX (23) d : Int)) (
       if Op.cmpValue (FP.dcmp (FP.i2d (gI st (23) d (v4.toNatClampNeg))) g) CmpOp.l < 0 then (
        lt1 (v4 + Int32.ofInt (1)) fun (v7 : Int32) =>
        some (.inl v7)) else (
        some (.inr (.inl v4)))))) nI (r := (.inr () : Int32 ⊕ Unit)) p 4000 0 (fun j _ hj => hbody j (by omega)) (by
        rw [Nat.zero_add, hn, e2, if_pos ((nI_leI (by omega) (by omega)).mpr (Nat.le_refl n))]) (by omega)
    refine (congrArg (fun o => Option.bind o _) this).trans ?_
    rw [Option.bind_some, e2, ← hn]
    rfl
theorem ixl {n : Nat} {N : Int} (h : (n : Int) < N) (hn : n < 2 ^ 31) : 0 ≤ (nI n).toInt ∧ (nI n).toInt < N := by
  rw [nI_toInt hn]; omega
theorem d2n_0 (g : UInt64) (hg : fnn g) : 0 < Op.cmpValue (FP.dcmp g FP.dconst0) CmpOp.g ↔ g.toNat ≠ 0 := by
  rw [(cmp_n hg zero_f CmpOp.g).2.1, zero_n]; omega
theorem lD25 {d s : Nat} (hd : d < 12) (hs : s < 6) : lDX 25 (6 * d + s) = 16 := if_pos (by omega)
/-- the class's mix: one dye's amount put to all sixteen quotients -/
theorem xAdd {d n cg c : Nat} {g : UInt64} {st : Sto} {G : Nat → Nat} (hd : d < 12) (hn : gI st 22 d 2 = nI n) (hG : ∀ s, s < n → gI st 23 d s = nI (G s)) (h : ∀ k, k < 16 → DyeOk n G (fun s => gD st 25 (6 * d + s) k)) (hg : iv cg g) (lg : lw 1013 g) (hc : cg ≤ 10000000000) (hc2 : 2 ≤ cg) (hq : ∀ k, k < 16 → iv c (gD st 43 0 k)) (hcc : c + 1024 * cg ≤ 2 ^ 50) : fX6_add d g st = some (putD st 43 0 16 fun k => FP.dadd (gD st 43 0 k) (dyeC n G (fun s => gD st 25 (6 * d + s) k) g)) := by
  have h0 := h 0 (by decide)
  have hn6 := h0.1
  have hadd : ∀ k, k < 16 → ∀ w, iv (1024 * cg) w → vf_n64 (FP.dadd (gD st 43 0 k) w) := fun k hk w hw => n64_of (iv_add (hq k hk) hw (by omega)).2
  unfold fX6_add
  by_cases n0 : n = 0
  · rw [hn, n0, if_pos (show nI 0 = 0 from rfl), putD_self]
    intro k hk
    rw [show dyeC 0 G (fun s => gD st 25 (6 * d + s) k) g = FP.dconst0 from rfl, dadd_0 (hq k hk).2]
  · rw [hn, if_neg (fun e => n0 (by have := congrArg Int32.toNatClampNeg e; rw [nI_cl (by omega)] at this; exact this))]
    by_cases g0 : g.toNat = 0
    · rw [if_neg (fun w => (d2n_0 g hg.2).mp w g0), putD_self]
      intro k hk
      rw [show dyeC n G (fun s => gD st 25 (6 * d + s) k) g = FP.dconst0 by unfold dyeC; rw [if_neg n0, if_pos g0], dadd_0 (hq k hk).2]
    · rw [if_pos ((d2n_0 g hg.2).mpr g0), xFirst hd hn hG h0 hg.2, Option.bind_some]
      have hp := fstP_is G g n
      have ed : ∀ k, dyeC n G (fun s => gD st 25 (6 * d + s) k) g = dyeV n G (fun s => gD st 25 (6 * d + s) k) g (fstP G g n) := fun k => by unfold dyeC; rw [if_neg n0, if_neg g0]
      generalize fstP G g n = p at hp ed ⊢
      have hp1 := hp.1
      by_cases p0 : p = 0
      · subst p0
        have hg1 := h0.2.1 0 (by omega)
        obtain ⟨r1, r2⟩ := rt0_b hg lg hg1.1 hg1.2
        rw [if_pos (show nI 0 = 0 from rfl), ck_t (show 0 ≤ (0 : Int32).toInt ∧ (0 : Int32).toInt < (lIX 23 d : Int) by rw [show lIX 23 d = 6 from if_pos hd]; exact ixz (by decide)), hG 0 (by omega), nd_t (n64_of r1.2), xAddIn (lD25 hd (by decide)) (by decide) (fun k hk => n64_of (ctE_b ((h k hk).2.2.2 0 (by omega)).1 ((h k hk).2.2.2 0 (by omega)).2 r1 r2 hc).1.2) (fun k hk => hadd k hk _ (ctE_b ((h k hk).2.2.2 0 (by omega)).1 ((h k hk).2.2.2 0 (by omega)).2 r1 r2 hc).1), Option.bind_some]
        refine congrArg some (putD_e fun k hk => ?_)
        rw [ed k]
        rfl
      · rw [if_neg (fun e => p0 (by have := congrArg Int32.toNatClampNeg e; rw [nI_cl (by omega)] at this; exact this))]
        have es : nI p - (1 : Int32) = nI (p - 1) := pk_sub (b := 1) (by omega)
        by_cases pn : p = n
        · subst pn
          have hg1 := h0.2.1 (p - 1) (by omega)
          obtain ⟨r1, r2⟩ := rt0_b hg lg hg1.1 hg1.2
          rw [if_pos rfl, es, ck_t (by exact ixl (by omega) (by omega)), ck_t (by rw [show lIX 23 d = 6 from if_pos hd]; exact ixl (by omega) (by omega)), nI_cl (by omega), hG (p - 1) (by omega), nd_t (n64_of r1.2), xAddIn (lD25 hd (by omega)) (by decide) (fun k hk => n64_of (ctE_b ((h k hk).2.2.2 (p - 1) (by omega)).1 ((h k hk).2.2.2 (p - 1) (by omega)).2 r1 r2 hc).1.2) (fun k hk => hadd k hk _ (ctE_b ((h k hk).2.2.2 (p - 1) (by omega)).1 ((h k hk).2.2.2 (p - 1) (by omega)).2 r1 r2 hc).1), Option.bind_some]
          refine congrArg some (putD_e fun k hk => ?_)
          rw [ed k]
          unfold dyeV
          rw [if_neg p0, if_pos rfl]
        · have hg1 := h0.2.1 (p - 1) (by omega)
          have hg2 := h0.2.1 p (by omega)
          have hgi := h0.2.2.1 (p - 1) (by omega)
          rw [show p - 1 + 1 = p by omega] at hgi
          obtain ⟨t1, t2, r1, r2⟩ := rtm_b hg lg hg1.1 hg2.2 hgi (hp.2.1 (p - 1) (by omega)) (hp.2.2 (by omega))
          have hM := fun k (hk : k < 16) => ctM_b ((h k hk).2.2.2 (p - 1) (by omega)).1 ((h k hk).2.2.2 p (by omega)).1 ((h k hk).2.2.2 (p - 1) (by omega)).2 ((h k hk).2.2.2 p (by omega)).2 r1 r2
          have l6 : lIX 23 d = 6 := if_pos hd
          rw [if_neg (fun e => pn (by have := congrArg Int32.toNatClampNeg e; rw [nI_cl (by omega), nI_cl (by omega)] at this; exact this)), es, l6, ck_t (by exact ixl (by omega) (by omega)), lt1_e, ck_t (by exact ixl (by omega) (by omega)), lt1_e, ck_t (by exact ixl (by omega) (by omega)), ck_t (by exact ixl (by omega) (by omega)), nI_cl (by omega), nI_cl (by omega), hG (p - 1) (by omega), hG p (by omega), nd_t (n64_of t1), nd_t (n64_of t2), nd_t (n64_of r1.2), xAddBt (lD25 hd (by omega)) (lD25 hd (by omega)) (by decide) (by decide) (fun k hk => (hM k hk).1) (fun k hk => (hM k hk).2.1) (fun k hk => n64_of (hM k hk).2.2.1.2) (fun k hk => hadd k hk _ (iv_mono (hM k hk).2.2.1 (by omega))), Option.bind_some]
          refine congrArg some (putD_e fun k hk => ?_)
          rw [ed k]
          unfold dyeV
          rw [if_neg p0, if_neg pn]
/-! ===== the reference's mix ===== -/
theorem zero_g (g : UInt64) (hg : fnn g) : Op.cmpValue (FP.dcmp g FP.dconst0) CmpOp.l = 0 ↔ g.toNat = 0 := by
  rw [(cmp_n hg zero_f CmpOp.l).2.2.1, zero_n]
theorem nI_z {n : Nat} (h : n < 2 ^ 31) : nI n = 0 ↔ n = 0 := by
  constructor
  · intro e
    have := congrArg Int32.toNatClampNeg e
    rw [nI_cl h] at this
    exact this
  · intro e; subst e; rfl
theorem nI_inj {a b : Nat} (ha : a < 2 ^ 31) (hb : b < 2 ^ 31) : nI a = nI b ↔ a = b := by
  constructor
  · intro e
    have := congrArg Int32.toNatClampNeg e
    rw [nI_cl ha, nI_cl hb] at this
    exact this
  · intro e; subst e; rfl
/-- what the reference has of a dye's own in a band -/
def mO (st : Sto) (d cl k : Nat) (s : Nat) : UInt64 := ownQ (gF st 1 0 (16 * (62 + 6 * d + s) + k)) (gF st 1 0 (16 * (41 + cl) + k))
theorem mOwn {st : Sto} {d s k cl : Nat} (hd : d < 12) (hs : s < 6) (hk : k < 16) (hcl : cl < 8) (hc : gI st 12 0 d = nI cl) (f1 : fl2 (gF st 1 0 (16 * (62 + 6 * d + s) + k))) (f2 : fl2 (gF st 1 0 (16 * (41 + cl) + k))) : fX12_own (nI d) (nI s) (nI k) st = some (mO st d cl k s) := by
  have e1 : (((16 : Int32) * (((62 : Int32) + ((6 : Int32) * nI d)) + nI s)) + nI k) = nI (16 * (62 + 6 * d + s) + k) := by
    show nI 16 * ((nI 62 + nI 6 * nI d) + nI s) + nI k = _
    simp only [pk_mul, nI_add]
  have e2 : (((16 : Int32) * ((41 : Int32) + nI cl)) + nI k) = nI (16 * (41 + cl) + k) := by
    show nI 16 * (nI 41 + nI cl) + nI k = _
    simp only [pk_mul, nI_add]
  unfold fX12_own
  rw [e1, ck_t (by rw [show lFM 1 0 = 2176 from rfl]; exact ixl (by omega) (by omega)), nI_cl (by omega), (qtn_b f1).2.1, Option.bind_some, ck_t (by rw [show lIM 12 0 = 12 from rfl]; exact ixl (by omega) (by omega)), nI_cl (by omega), hc, e2, ck_t (by rw [show lFM 1 0 = 2176 from rfl]; exact ixl (by omega) (by omega)), nI_cl (by omega), (qtn_b f2).2.1, Option.bind_some]
  obtain ⟨c1, c2⟩ := ownQ_c f1 f2
  rw [nd_t c1]
  unfold mO ownQ
  by_cases h : (qtn (gF st 1 0 (16 * (62 + 6 * d + s) + k))).toNat < (qtn (gF st 1 0 (16 * (41 + cl) + k))).toNat
  · rw [if_neg (fun w => c2.mp w h), if_pos h]
  · rw [if_pos (c2.mpr h), if_neg h]
theorem mDyeAt {st : Sto} {d n cl k cg : Nat} {g : UInt64} {G : Nat → Nat} (hd : d < 12) (hk : k < 16) (hcl : cl < 8) (hc : gI st 12 0 d = nI cl) (hn : gI st 13 0 d = nI n) (hG : ∀ s, s < n → gI st 14 0 (6 * d + s) = nI (G s)) (h : DyeOk n G (mO st d cl k)) (f1 : ∀ s, s < n → fl2 (gF st 1 0 (16 * (62 + 6 * d + s) + k))) (f2 : fl2 (gF st 1 0 (16 * (41 + cl) + k))) (hg : iv cg g) (lg : lw 1013 g) (hcg : cg ≤ 10000000000) : fX12_dyeAt (nI d) g (nI k) st = some (dyeC n G (mO st d cl k) g) := by
  have hn6 := h.1
  have hO : ∀ s, s < n → fX12_own (nI d) (nI s) (nI k) st = some (mO st d cl k s) := fun s hs => mOwn hd (by omega) hk hcl hc (f1 s hs) f2
  have e6 : ∀ s, s < 6 → ((6 : Int32) * nI d) + nI s = nI (6 * d + s) := fun s _ => by
    show nI 6 * nI d + nI s = _
    simp only [pk_mul, nI_add]
  have e60 : (6 : Int32) * nI d = nI (6 * d) := pk_mul 6 d
  have e61 : ∀ s, 1 ≤ s → s ≤ 6 → (((6 : Int32) * nI d) + nI s) - (1 : Int32) = nI (6 * d + (s - 1)) := fun s h1 h2 => by
    show nI 6 * nI d + nI s - nI 1 = _
    rw [pk_mul, nI_add, pk_sub (by omega)]
    exact congrArg nI (by omega)
  unfold fX12_dyeAt
  rw [ck_t (by rw [show lIM 13 0 = 12 from rfl]; exact ixl (by omega) (by omega)), lt1_e, nI_cl (by omega), hn]
  by_cases n0 : n = 0
  · rw [if_pos ((nI_z (by omega)).mpr n0)]
    unfold dyeC
    rw [if_pos n0]
  rw [if_neg (fun e => n0 ((nI_z (by omega)).mp e))]
  by_cases g0 : g.toNat = 0
  · rw [if_pos ((zero_g g hg.2).mpr g0)]
    unfold dyeC
    rw [if_neg n0, if_pos g0]
  rw [if_neg (fun e => g0 ((zero_g g hg.2).mp e)), e60, ck_t (by rw [show lIM 14 0 = 72 from rfl]; exact ixl (by omega) (by omega)), lt1_e, nI_cl (by omega)]
  have hG0 := hG 0 (by omega)
  rw [Nat.add_zero] at hG0
  rw [hG0]
  have hp := fstP_is G g n
  have ed : dyeC n G (mO st d cl k) g = dyeV n G (mO st d cl k) g (fstP G g n) := by unfold dyeC; rw [if_neg n0, if_neg g0]
  rw [ed]
  generalize fstP G g n = p at hp ⊢
  have hp1 := hp.1
  have hg0 := h.2.1 0 (by omega)
  have hc1 := (cmp_n hg.2 (i2d_b2 hg0.1 hg0.2).1 CmpOp.g).2.1
  by_cases p0 : p = 0
  · subst p0
    have hle := hp.2.2 (by omega)
    obtain ⟨r1, r2⟩ := rt0_b hg lg hg0.1 hg0.2
    rw [if_neg (fun w => by have := hc1.mp w; omega), show (0 : Int32) = nI 0 from rfl, hO 0 (by omega), Option.bind_some, nd_t (n64_of r1.2), nd_t (n64_of (ctE_b (h.2.2.2 0 (by omega)).1 (h.2.2.2 0 (by omega)).2 r1 r2 hcg).1.2)]
    rfl
  · rw [if_pos (hc1.mpr (hp.2.1 0 (by omega)))]
    let body : Int32 → Option (Int32 ⊕ (UInt64 ⊕ Unit)) := fun (v9 : Int32) =>
          if nI n ≤ v9 then (
           some (.inr (.inr ()))) else (
           ck (0 ≤ ((nI (6 * d) + v9) - (1 : Int32)).toInt ∧ ((nI (6 * d) + v9) - (1 : Int32)).toInt < (lIM (14) (0) : Int)) (
            lt1 (FP.i2d (gI st (14) (0) (((nI (6 * d) + v9) - (1 : Int32)).toNatClampNeg))) fun (v15 : UInt64) =>
            ck (0 ≤ (nI (6 * d) + v9).toInt ∧ (nI (6 * d) + v9).toInt < (lIM (14) (0) : Int)) (
             lt1 (FP.i2d (gI st (14) (0) ((nI (6 * d) + v9).toNatClampNeg))) fun (v16 : UInt64) =>
             if Op.cmpValue (FP.dcmp g v16) CmpOp.l ≤ 0 then (
              (fX12_own (nI d) (v9 - (1 : Int32)) (nI k) st).bind (fun (v18 : UInt64) =>
               (fX12_own (nI d) v9 (nI k) st).bind (fun (v20 : UInt64) =>
                nd (FP.dsub v20 v18) fun (v22 : UInt64) =>
                nd (FP.dsub g v15) fun (v23 : UInt64) =>
                nd (FP.dsub v16 v15) fun (v24 : UInt64) =>
                nd (FP.ddiv v23 v24) fun (v25 : UInt64) =>
                nd (FP.dmul v22 v25) fun (v26 : UInt64) =>
                nd (FP.dadd v18 v26) fun (v27 : UInt64) =>
                some (.inr (.inl v27))))) else (
              lt1 (v9 + Int32.ofInt (1)) fun (v28 : Int32) =>
              some (.inl v28)))))
    have e6' : ∀ s, s < 6 → nI (6 * d) + nI s = nI (6 * d + s) := fun s _ => nI_add _ _
    have e61' : ∀ s, 1 ≤ s → s ≤ 6 → (nI (6 * d) + nI s) - (1 : Int32) = nI (6 * d + (s - 1)) := fun s h1 h2 => by
      show nI (6 * d) + nI s - nI 1 = _
      rw [nI_add, pk_sub (by omega)]
      exact congrArg nI (by omega)
    have es1 : ∀ s, 1 ≤ s → nI s - (1 : Int32) = nI (s - 1) := fun s h1 => pk_sub (b := 1) h1
    have hgo : ∀ j, 1 ≤ j → j < p → body (nI j) = some (.inl (nI (j + 1))) := fun j h1 hj => by
      have hgj := h.2.1 j (by omega)
      show (if nI n ≤ nI j then _ else _) = _
      rw [if_neg (nI_gt (by omega) (by omega)), e61' j h1 (by omega), e6' j (by omega), ck_t (by rw [show lIM 14 0 = 72 from rfl]; exact ixl (by omega) (by omega)), lt1_e, ck_t (by rw [show lIM 14 0 = 72 from rfl]; exact ixl (by omega) (by omega)), lt1_e, nI_cl (n := 6 * d + j) (by omega), hG j (by omega), if_neg (fun w => by
        have := ((cmp_n hg.2 (i2d_b2 hgj.1 hgj.2).1 CmpOp.l).2.2.2.2).mp w
        have := hp.2.1 j hj
        omega), lt1_e, nI_s]
    by_cases pn : p = n
    · subst pn
      have hl := lp_seq (body := body) nI (r := (.inr () : UInt64 ⊕ Unit)) (p - 1) 4000 1 (fun j h1 hj => hgo j h1 (by omega)) (by
        rw [show 1 + (p - 1) = p by omega]
        exact if_pos ((nI_leI (by omega) (by omega)).mpr (Nat.le_refl p))) (by omega)
      refine (congrArg (fun o => Option.bind o _) (show _ = some (.inr ()) from hl)).trans ?_
      rw [Option.bind_some]
      have hg1 := h.2.1 (p - 1) (by omega)
      obtain ⟨r1, r2⟩ := rt0_b hg lg hg1.1 hg1.2
      show (fX12_own (nI d) (nI p - (1 : Int32)) (nI k) st).bind _ = _
      rw [es1 p (by omega), hO (p - 1) (by omega), Option.bind_some, e61' p (by omega) (by omega), ck_t (by rw [show lIM 14 0 = 72 from rfl]; exact ixl (by omega) (by omega)), nI_cl (by omega), hG (p - 1) (by omega), nd_t (n64_of r1.2), nd_t (n64_of (ctE_b (h.2.2.2 (p - 1) (by omega)).1 (h.2.2.2 (p - 1) (by omega)).2 r1 r2 hcg).1.2)]
      unfold dyeV
      rw [if_neg p0, if_pos rfl]
    · have hg1 := h.2.1 (p - 1) (by omega)
      have hg2 := h.2.1 p (by omega)
      have hgi := h.2.2.1 (p - 1) (by omega)
      rw [show p - 1 + 1 = p by omega] at hgi
      have hle := hp.2.2 (by omega)
      obtain ⟨t1, t2, r1, r2⟩ := rtm_b hg lg hg1.1 hg2.2 hgi (hp.2.1 (p - 1) (by omega)) hle
      obtain ⟨m1, m2, m3, _⟩ := ctM_b (h.2.2.2 (p - 1) (by omega)).1 (h.2.2.2 p (by omega)).1 (h.2.2.2 (p - 1) (by omega)).2 (h.2.2.2 p (by omega)).2 r1 r2
      have hl := lp_seq (body := body) nI (r := (.inl (dyeV n G (mO st d cl k) g p) : UInt64 ⊕ Unit)) (p - 1) 4000 1 (fun j h1 hj => hgo j h1 (by omega)) (by
        rw [show 1 + (p - 1) = p by omega]
        show (if nI n ≤ nI p then _ else _) = _
        rw [if_neg (nI_gt (by omega) (by omega)), e61' p (by omega) (by omega), e6' p (by omega), ck_t (by rw [show lIM 14 0 = 72 from rfl]; exact ixl (by omega) (by omega)), lt1_e, ck_t (by rw [show lIM 14 0 = 72 from rfl]; exact ixl (by omega) (by omega)), lt1_e, nI_cl (n := 6 * d + p) (by omega), nI_cl (n := 6 * d + (p - 1)) (by omega), hG p (by omega), hG (p - 1) (by omega), if_pos (((cmp_n hg.2 (i2d_b2 hg2.1 hg2.2).1 CmpOp.l).2.2.2.2).mpr hle), es1 p (by omega), hO (p - 1) (by omega), Option.bind_some, hO p (by omega), Option.bind_some, nd_t m1, nd_t (n64_of t1), nd_t (n64_of t2), nd_t (n64_of r1.2), nd_t m2, nd_t (n64_of m3.2)]
        unfold dyeV
        rw [if_neg p0, if_neg pn]) (by omega)
      refine (congrArg (fun o => Option.bind o _) (show _ = some (.inl _) from hl)).trans ?_
      rfl
