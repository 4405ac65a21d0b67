/-! ===== the reference's mix ===== -/
theorem zero_g (g : UInt64) (hg : fnn g) : Op.cmpValue (FP.dcmp g FP.dconst0) CmpOp.l = 0 ↔ g.toNat = 0 := by
  rw [(cmp_n hg zero_f CmpOp.l).2.2.1, zero_n]
theorem nI_z {n : Nat} (h : n < 2 ^ 31) : nI n = 0 ↔ n = 0 := by
  constructor
  · intro e
    have := congrArg Int32.toNatClampNeg e
    rw [nI_cl h] at this
    exact this
  · intro e; subst e; rfl
theorem nI_inj {a b : Nat} (ha : a < 2 ^ 31) (hb : b < 2 ^ 31) : nI a = nI b ↔ a = b := by
  constructor
  · intro e
    have := congrArg Int32.toNatClampNeg e
    rw [nI_cl ha, nI_cl hb] at this
    exact this
  · intro e; subst e; rfl
/-- what the reference has of a dye's own in a band -/
def mO (st : Sto) (d cl k : Nat) (s : Nat) : UInt64 := ownQ (gF st 1 0 (16 * (62 + 6 * d + s) + k)) (gF st 1 0 (16 * (41 + cl) + k))
theorem mOwn {st : Sto} {d s k cl : Nat} (hd : d < 12) (hs : s < 6) (hk : k < 16) (hcl : cl < 8) (hc : gI st 12 0 d = nI cl) (f1 : fl2 (gF st 1 0 (16 * (62 + 6 * d + s) + k))) (f2 : fl2 (gF st 1 0 (16 * (41 + cl) + k))) : fX12_own (nI d) (nI s) (nI k) st = some (mO st d cl k s) := by
  have e1 : (((16 : Int32) * (((62 : Int32) + ((6 : Int32) * nI d)) + nI s)) + nI k) = nI (16 * (62 + 6 * d + s) + k) := by
    show nI 16 * ((nI 62 + nI 6 * nI d) + nI s) + nI k = _
    simp only [pk_mul, nI_add]
  have e2 : (((16 : Int32) * ((41 : Int32) + nI cl)) + nI k) = nI (16 * (41 + cl) + k) := by
    show nI 16 * (nI 41 + nI cl) + nI k = _
    simp only [pk_mul, nI_add]
  unfold fX12_own
  rw [e1, ck_t (by rw [show lFM 1 0 = 2176 from rfl]; exact ixl (by omega) (by omega)), nI_cl (by omega), (qtn_b f1).2.1, Option.bind_some, ck_t (by rw [show lIM 12 0 = 12 from rfl]; exact ixl (by omega) (by omega)), nI_cl (by omega), hc, e2, ck_t (by rw [show lFM 1 0 = 2176 from rfl]; exact ixl (by omega) (by omega)), nI_cl (by omega), (qtn_b f2).2.1, Option.bind_some]
  obtain ⟨c1, c2⟩ := ownQ_c f1 f2
  rw [nd_t c1]
  unfold mO ownQ
  by_cases h : (qtn (gF st 1 0 (16 * (62 + 6 * d + s) + k))).toNat < (qtn (gF st 1 0 (16 * (41 + cl) + k))).toNat
  · rw [if_neg (fun w => c2.mp w h), if_pos h]
  · rw [if_pos (c2.mpr h), if_neg h]
theorem mDyeAt {st : Sto} {d n cl k cg : Nat} {g : UInt64} {G : Nat → Nat} (hd : d < 12) (hk : k < 16) (hcl : cl < 8) (hc : gI st 12 0 d = nI cl) (hn : gI st 13 0 d = nI n) (hG : ∀ s, s < n → gI st 14 0 (6 * d + s) = nI (G s)) (h : DyeOk n G (mO st d cl k)) (f1 : ∀ s, s < n → fl2 (gF st 1 0 (16 * (62 + 6 * d + s) + k))) (f2 : fl2 (gF st 1 0 (16 * (41 + cl) + k))) (hg : iv cg g) (lg : lw 1013 g) (hcg : cg ≤ 10000000000) : fX12_dyeAt (nI d) g (nI k) st = some (dyeC n G (mO st d cl k) g) := by
  have hn6 := h.1
  have hO : ∀ s, s < n → fX12_own (nI d) (nI s) (nI k) st = some (mO st d cl k s) := fun s hs => mOwn hd (by omega) hk hcl hc (f1 s hs) f2
  have e6 : ∀ s, s < 6 → ((6 : Int32) * nI d) + nI s = nI (6 * d + s) := fun s _ => by
    show nI 6 * nI d + nI s = _
    simp only [pk_mul, nI_add]
  have e60 : (6 : Int32) * nI d = nI (6 * d) := pk_mul 6 d
  have e61 : ∀ s, 1 ≤ s → s ≤ 6 → (((6 : Int32) * nI d) + nI s) - (1 : Int32) = nI (6 * d + (s - 1)) := fun s h1 h2 => by
    show nI 6 * nI d + nI s - nI 1 = _
    rw [pk_mul, nI_add, pk_sub (by omega)]
    exact congrArg nI (by omega)
  unfold fX12_dyeAt
  rw [ck_t (by rw [show lIM 13 0 = 12 from rfl]; exact ixl (by omega) (by omega)), lt1_e, nI_cl (by omega), hn]
  by_cases n0 : n = 0
  · rw [if_pos ((nI_z (by omega)).mpr n0)]
    unfold dyeC
    rw [if_pos n0]
  rw [if_neg (fun e => n0 ((nI_z (by omega)).mp e))]
  by_cases g0 : g.toNat = 0
  · rw [if_pos ((zero_g g hg.2).mpr g0)]
    unfold dyeC
    rw [if_neg n0, if_pos g0]
  rw [if_neg (fun e => g0 ((zero_g g hg.2).mp e)), e60, ck_t (by rw [show lIM 14 0 = 72 from rfl]; exact ixl (by omega) (by omega)), lt1_e, nI_cl (by omega)]
  have hG0 := hG 0 (by omega)
  rw [Nat.add_zero] at hG0
  rw [hG0]
  have hp := fstP_is G g n
  have ed : dyeC n G (mO st d cl k) g = dyeV n G (mO st d cl k) g (fstP G g n) := by unfold dyeC; rw [if_neg n0, if_neg g0]
  rw [ed]
  generalize fstP G g n = p at hp ⊢
  have hp1 := hp.1
  have hg0 := h.2.1 0 (by omega)
  have hc1 := (cmp_n hg.2 (i2d_b2 hg0.1 hg0.2).1 CmpOp.g).2.1
  by_cases p0 : p = 0
  · subst p0
    have hle := hp.2.2 (by omega)
    obtain ⟨r1, r2⟩ := rt0_b hg lg hg0.1 hg0.2
    rw [if_neg (fun w => by have := hc1.mp w; omega), show (0 : Int32) = nI 0 from rfl, hO 0 (by omega), Option.bind_some, nd_t (n64_of r1.2), nd_t (n64_of (ctE_b (h.2.2.2 0 (by omega)).1 (h.2.2.2 0 (by omega)).2 r1 r2 hcg).1.2)]
    rfl
  · rw [if_pos (hc1.mpr (hp.2.1 0 (by omega)))]
    let body : Int32 → Option (Int32 ⊕ (UInt64 ⊕ Unit)) := fun (v9 : Int32) =>
          if nI n ≤ v9 then (
           some (.inr (.inr ()))) else (
           ck (0 ≤ ((nI (6 * d) + v9) - (1 : Int32)).toInt ∧ ((nI (6 * d) + v9) - (1 : Int32)).toInt < (lIM (14) (0) : Int)) (
            lt1 (FP.i2d (gI st (14) (0) (((nI (6 * d) + v9) - (1 : Int32)).toNatClampNeg))) fun (v15 : UInt64) =>
            ck (0 ≤ (nI (6 * d) + v9).toInt ∧ (nI (6 * d) + v9).toInt < (lIM (14) (0) : Int)) (
             lt1 (FP.i2d (gI st (14) (0) ((nI (6 * d) + v9).toNatClampNeg))) fun (v16 : UInt64) =>
             if Op.cmpValue (FP.dcmp g v16) CmpOp.l ≤ 0 then (
              (fX12_own (nI d) (v9 - (1 : Int32)) (nI k) st).bind (fun (v18 : UInt64) =>
               (fX12_own (nI d) v9 (nI k) st).bind (fun (v20 : UInt64) =>
                nd (FP.dsub v20 v18) fun (v22 : UInt64) =>
                nd (FP.dsub g v15) fun (v23 : UInt64) =>
                nd (FP.dsub v16 v15) fun (v24 : UInt64) =>
                nd (FP.ddiv v23 v24) fun (v25 : UInt64) =>
                nd (FP.dmul v22 v25) fun (v26 : UInt64) =>
                nd (FP.dadd v18 v26) fun (v27 : UInt64) =>
                some (.inr (.inl v27))))) else (
              lt1 (v9 + Int32.ofInt (1)) fun (v28 : Int32) =>
              some (.inl v28)))))
    have e6' : ∀ s, s < 6 → nI (6 * d) + nI s = nI (6 * d + s) := fun s _ => nI_add _ _
    have e61' : ∀ s, 1 ≤ s → s ≤ 6 → (nI (6 * d) + nI s) - (1 : Int32) = nI (6 * d + (s - 1)) := fun s h1 h2 => by
      show nI (6 * d) + nI s - nI 1 = _
      rw [nI_add, pk_sub (by omega)]
      exact congrArg nI (by omega)
    have es1 : ∀ s, 1 ≤ s → nI s - (1 : Int32) = nI (s - 1) := fun s h1 => pk_sub (b := 1) h1
    have hgo : ∀ j, 1 ≤ j → j < p → body (nI j) = some (.inl (nI (j + 1))) := fun j h1 hj => by
      have hgj := h.2.1 j (by omega)
      show (if nI n ≤ nI j then _ else _) = _
      rw [if_neg (nI_gt (by omega) (by omega)), e61' j h1 (by omega), e6' j (by omega), ck_t (by rw [show lIM 14 0 = 72 from rfl]; exact ixl (by omega) (by omega)), lt1_e, ck_t (by rw [show lIM 14 0 = 72 from rfl]; exact ixl (by omega) (by omega)), lt1_e, nI_cl (n := 6 * d + j) (by omega), hG j (by omega), if_neg (fun w => by
        have := ((cmp_n hg.2 (i2d_b2 hgj.1 hgj.2).1 CmpOp.l).2.2.2.2).mp w
        have := hp.2.1 j hj
        omega), lt1_e, nI_s]
    by_cases pn : p = n
    · subst pn
      have hl := lp_seq (body := body) nI (r := (.inr () : UInt64 ⊕ Unit)) (p - 1) 4000 1 (fun j h1 hj => hgo j h1 (by omega)) (by
        rw [show 1 + (p - 1) = p by omega]
        exact if_pos ((nI_leI (by omega) (by omega)).mpr (Nat.le_refl p))) (by omega)
      refine (congrArg (fun o => Option.bind o _) (show _ = some (.inr ()) from hl)).trans ?_
      rw [Option.bind_some]
      have hg1 := h.2.1 (p - 1) (by omega)
      obtain ⟨r1, r2⟩ := rt0_b hg lg hg1.1 hg1.2
      show (fX12_own (nI d) (nI p - (1 : Int32)) (nI k) st).bind _ = _
      rw [es1 p (by omega), hO (p - 1) (by omega), Option.bind_some, e61' p (by omega) (by omega), ck_t (by rw [show lIM 14 0 = 72 from rfl]; exact ixl (by omega) (by omega)), nI_cl (by omega), hG (p - 1) (by omega), nd_t (n64_of r1.2), nd_t (n64_of (ctE_b (h.2.2.2 (p - 1) (by omega)).1 (h.2.2.2 (p - 1) (by omega)).2 r1 r2 hcg).1.2)]
      unfold dyeV
      rw [if_neg p0, if_pos rfl]
    · have hg1 := h.2.1 (p - 1) (by omega)
      have hg2 := h.2.1 p (by omega)
      have hgi := h.2.2.1 (p - 1) (by omega)
      rw [show p - 1 + 1 = p by omega] at hgi
      have hle := hp.2.2 (by omega)
      obtain ⟨t1, t2, r1, r2⟩ := rtm_b hg lg hg1.1 hg2.2 hgi (hp.2.1 (p - 1) (by omega)) hle
      obtain ⟨m1, m2, m3, _⟩ := ctM_b (h.2.2.2 (p - 1) (by omega)).1 (h.2.2.2 p (by omega)).1 (h.2.2.2 (p - 1) (by omega)).2 (h.2.2.2 p (by omega)).2 r1 r2
      have hl := lp_seq (body := body) nI (r := (.inl (dyeV n G (mO st d cl k) g p) : UInt64 ⊕ Unit)) (p - 1) 4000 1 (fun j h1 hj => hgo j h1 (by omega)) (by
        rw [show 1 + (p - 1) = p by omega]
        show (if nI n ≤ nI p then _ else _) = _
        rw [if_neg (nI_gt (by omega) (by omega)), e61' p (by omega) (by omega), e6' p (by omega), ck_t (by rw [show lIM 14 0 = 72 from rfl]; exact ixl (by omega) (by omega)), lt1_e, ck_t (by rw [show lIM 14 0 = 72 from rfl]; exact ixl (by omega) (by omega)), lt1_e, nI_cl (n := 6 * d + p) (by omega), nI_cl (n := 6 * d + (p - 1)) (by omega), hG p (by omega), hG (p - 1) (by omega), if_pos (((cmp_n hg.2 (i2d_b2 hg2.1 hg2.2).1 CmpOp.l).2.2.2.2).mpr hle), es1 p (by omega), hO (p - 1) (by omega), Option.bind_some, hO p (by omega), Option.bind_some, nd_t m1, nd_t (n64_of t1), nd_t (n64_of t2), nd_t (n64_of r1.2), nd_t m2, nd_t (n64_of m3.2)]
        unfold dyeV
        rw [if_neg p0, if_neg pn]) (by omega)
      refine (congrArg (fun o => Option.bind o _) (show _ = some (.inl _) from hl)).trans ?_
      rfl
