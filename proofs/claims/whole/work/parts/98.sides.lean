/-! ===== solids: which side ===== -/
/-- outside in an axis; on the border in it -/
def oB (o s : UInt64) : Bool := decide (0 < Op.cmpValue (FP.dcmp o s) CmpOp.l) || !decide (0 ≤ Op.cmpValue (FP.dcmp o (FP.dneg s)) CmpOp.g)
def bB (o s : UInt64) : Bool := decide (Op.cmpValue (FP.dcmp o s) CmpOp.l = 0) || decide (Op.cmpValue (FP.dcmp o (FP.dneg s)) CmpOp.l = 0)
def tQ (o s : UInt64) : UInt64 := FP.ddiv (FP.dmul o o) (FP.dmul s s)
theorem lp_box {body : Int32 × Int32 → Option ((Int32 × Int32) ⊕ (Int32 ⊕ Int32))} {O B : Nat → Bool} (hs : ∀ k side, k < 3 → body (nI k, side) = some (if O k = true then .inr (.inl 0) else .inl (nI (k + 1), if B k = true then 2 else side))) (hx : ∀ side, body (nI 3, side) = some (.inr (.inr side))) (s0 : Int32) : lp body 4000 (nI 0, s0) = some (if O 0 = true then .inl 0 else if O 1 = true then .inl 0 else if O 2 = true then .inl 0 else .inr (if B 2 = true then 2 else if B 1 = true then 2 else if B 0 = true then 2 else s0)) := by
  by_cases o0 : O 0 = true
  · rw [if_pos o0]
    exact lp_x (n := 3999) ((hs 0 s0 (by decide)).trans (by rw [if_pos o0]))
  rw [if_neg o0]
  refine (lp_s (n := 3999) ((hs 0 s0 (by decide)).trans (by rw [if_neg o0]))).trans ?_
  by_cases o1 : O 1 = true
  · rw [if_pos o1]
    exact lp_x (n := 3998) ((hs 1 _ (by decide)).trans (by rw [if_pos o1]))
  rw [if_neg o1]
  refine (lp_s (n := 3998) ((hs 1 _ (by decide)).trans (by rw [if_neg o1]))).trans ?_
  by_cases o2 : O 2 = true
  · rw [if_pos o2]
    exact lp_x (n := 3997) ((hs 2 _ (by decide)).trans (by rw [if_pos o2]))
  rw [if_neg o2]
  refine (lp_s (n := 3997) ((hs 2 _ (by decide)).trans (by rw [if_neg o2]))).trans ?_
  exact lp_x (n := 3996) (hx _)
theorem lp_ins {body : Int32 × UInt64 × Int32 → Option ((Int32 × UInt64 × Int32) ⊕ (Int32 ⊕ (Int32 × UInt64)))} {O B : Nat → Bool} {T : Nat → UInt64 → UInt64} (G : Nat → UInt64 → Prop) (hG : ∀ k S, k < 3 → G k S → G (k + 1) (T k S)) (hs : ∀ k S b, k < 3 → (b = 0 ∨ b = 1) → G k S → body (nI k, S, b) = some (if O k = true then .inr (.inl 0) else .inl (nI (k + 1), T k S, if B k = true then 1 else b))) (hx : ∀ S b, body (nI 3, S, b) = some (.inr (.inr (b, S)))) (s0 : UInt64) (g0 : G 0 s0) : lp body 4000 (nI 0, s0, (0 : Int32)) = some (if O 0 = true then .inl 0 else if O 1 = true then .inl 0 else if O 2 = true then .inl 0 else .inr (if B 2 = true then 1 else if B 1 = true then 1 else if B 0 = true then 1 else 0, T 2 (T 1 (T 0 s0)))) := by
  have h01 : ∀ (c : Prop) [Decidable c] (b : Int32), (b = 0 ∨ b = 1) → ((if c then (1 : Int32) else b) = 0 ∨ (if c then (1 : Int32) else b) = 1) := fun c _ b hb => by
    split
    · exact Or.inr rfl
    · exact hb
  have z0 : (0 : Int32) = 0 ∨ (0 : Int32) = 1 := Or.inl rfl
  have g1 := hG 0 s0 (by decide) g0
  have g2 := hG 1 _ (by decide) g1
  by_cases o0 : O 0 = true
  · rw [if_pos o0]
    exact lp_x (n := 3999) ((hs 0 s0 0 (by decide) z0 g0).trans (by rw [if_pos o0]))
  rw [if_neg o0]
  refine (lp_s (n := 3999) ((hs 0 s0 0 (by decide) z0 g0).trans (by rw [if_neg o0]))).trans ?_
  by_cases o1 : O 1 = true
  · rw [if_pos o1]
    exact lp_x (n := 3998) ((hs 1 _ _ (by decide) (h01 _ _ z0) g1).trans (by rw [if_pos o1]))
  rw [if_neg o1]
  refine (lp_s (n := 3998) ((hs 1 _ _ (by decide) (h01 _ _ z0) g1).trans (by rw [if_neg o1]))).trans ?_
  by_cases o2 : O 2 = true
  · rw [if_pos o2]
    exact lp_x (n := 3997) ((hs 2 _ _ (by decide) (h01 _ _ (h01 _ _ z0)) g2).trans (by rw [if_pos o2]))
  rw [if_neg o2]
  refine (lp_s (n := 3997) ((hs 2 _ _ (by decide) (h01 _ _ (h01 _ _ z0)) g2).trans (by rw [if_neg o2]))).trans ?_
  exact lp_x (n := 3996) (hx _ _)
theorem tQ_b {o : UInt64} {w : Nat} (ho : mg 1062 o) (h1 : 1 ≤ w) (h2 : w ≤ 1000) : vf_n64 (FP.dmul o o) ∧ vf_n64 (FP.dmul (szV w) (szV w)) ∧ pw 1123 (tQ o (szV w)) := by
  obtain ⟨s1, _, s3, s4⟩ := szV_b h1 h2
  have oo := mg_mul ho ho (by decide) (by decide)
  have po := mg_pw oo (sq_pos1 ho (by decide))
  have ss := iv_mul s1 s1 (by decide)
  have ls := lw_mul s3 s3 s1.2 s1.2 (by decide) (by decide) (by decide) (by decide)
  have s0 : 1003 * 2 ^ 52 ≤ (FP.dmul (szV w) (szV w)).toNat := by
    rcases ls with z | z
    · exfalso
      have h5 : 1013 * 2 ^ 52 ≤ (szV w).toNat := by
        rcases s3 with q | q
        · exact absurd q s4
        · exact q
      have := (dmul_b s1.2 s1.2).2.2 (1 * 2 ^ 52) (by decide) (by
        have hu := lw_un h5 (by decide)
        rw [un_pw (by decide)]
        calc 2 ^ (1 + 51) * 2 ^ 1074 ≤ 2 ^ (1013 + 51) * 2 ^ (1013 + 51) := by
              rw [← Nat.pow_add, ← Nat.pow_add]; exact Nat.pow_le_pow_right (by decide) (by decide)
          _ ≤ _ := Nat.mul_le_mul hu hu)
      omega
    · exact z
  have po2 : pw 1102 (FP.dmul o o) := po
  have hq := ddiv_pw (K := 1102) (L := 1003) po2 ss.2 s0 (by omega) (by omega) (by omega) (by omega) (by omega)
  exact ⟨mg_n64 oo (by decide), n64_of ss.2, hq⟩
theorem ins_tail {k : Nat} {S o s : UInt64} {b : Int32} (hk : k < 3) (hb : b = 0 ∨ b = 1) (n1 : vf_n64 (FP.dmul o o)) (n2 : vf_n64 (FP.dmul s s)) (n3 : vf_n64 (tQ o s)) (n4 : vf_n64 (FP.dadd S (tQ o s))) : (jn (fun (_u : Unit) =>
              if nI k = 0 then (
               nd (FP.dmul o o) fun (v30 : UInt64) =>
               nd (FP.dmul s s) fun (v31 : UInt64) =>
               nd (FP.ddiv v30 v31) fun (v32 : UInt64) =>
               lt1 (nI k + Int32.ofInt (1)) fun (v33 : Int32) =>
               some (.inl (v33, v32, (1 : Int32)))) else (
               nd (FP.dmul o o) fun (v25 : UInt64) =>
               nd (FP.dmul s s) fun (v26 : UInt64) =>
               nd (FP.ddiv v25 v26) fun (v27 : UInt64) =>
               nd (FP.dadd S v27) fun (v28 : UInt64) =>
               lt1 (nI k + Int32.ofInt (1)) fun (v29 : Int32) =>
               some (.inl (v29, v28, (1 : Int32))))) fun K21 =>
             if b = 0 then (
              if Op.cmpValue (FP.dcmp o s) CmpOp.l = 0 then (
               K21 ()) else (
               if Op.cmpValue (FP.dcmp o (FP.dneg s)) CmpOp.l = 0 then (
                K21 ()) else (
                if nI k = 0 then (
                 nd (FP.dmul o o) fun (v43 : UInt64) =>
                 nd (FP.dmul s s) fun (v44 : UInt64) =>
                 nd (FP.ddiv v43 v44) fun (v45 : UInt64) =>
                 lt1 (nI k + Int32.ofInt (1)) fun (v46 : Int32) =>
                 some (.inl (v46, v45, (0 : Int32)))) else (
                 nd (FP.dmul o o) fun (v38 : UInt64) =>
                 nd (FP.dmul s s) fun (v39 : UInt64) =>
                 nd (FP.ddiv v38 v39) fun (v40 : UInt64) =>
                 nd (FP.dadd S v40) fun (v41 : UInt64) =>
                 lt1 (nI k + Int32.ofInt (1)) fun (v42 : Int32) =>
                 some (.inl (v42, v41, (0 : Int32))))))) else (
              K21 ())) = (some (.inl (nI (k + 1), (if k = 0 then tQ o s else FP.dadd S (tQ o s)), if bB o s = true then 1 else b)) : Option ((Int32 × UInt64 × Int32) ⊕ (Int32 ⊕ (Int32 × UInt64)))) := by
  have core : ∀ w : Int32, (if nI k = 0 then (
               nd (FP.dmul o o) fun (v30 : UInt64) =>
               nd (FP.dmul s s) fun (v31 : UInt64) =>
               nd (FP.ddiv v30 v31) fun (v32 : UInt64) =>
               lt1 (nI k + Int32.ofInt (1)) fun (v33 : Int32) =>
               some (.inl (v33, v32, w))) else (
               nd (FP.dmul o o) fun (v25 : UInt64) =>
               nd (FP.dmul s s) fun (v26 : UInt64) =>
               nd (FP.ddiv v25 v26) fun (v27 : UInt64) =>
               nd (FP.dadd S v27) fun (v28 : UInt64) =>
               lt1 (nI k + Int32.ofInt (1)) fun (v29 : Int32) =>
               some (.inl (v29, v28, w)))) = (some (.inl (nI (k + 1), (if k = 0 then tQ o s else FP.dadd S (tQ o s)), w)) : Option ((Int32 × UInt64 × Int32) ⊕ (Int32 ⊕ (Int32 × UInt64)))) := fun w => by
    by_cases e : k = 0
    · rw [if_pos ((nI_z (by omega)).mpr e), nd_t n1, nd_t n2, show FP.ddiv (FP.dmul o o) (FP.dmul s s) = tQ o s from rfl, nd_t n3, lt1_e, nI_s, if_pos e]
    · rw [if_neg (fun q => e ((nI_z (by omega)).mp q)), nd_t n1, nd_t n2, show FP.ddiv (FP.dmul o o) (FP.dmul s s) = tQ o s from rfl, nd_t n3, nd_t n4, lt1_e, nI_s, if_neg e]
  rw [jn_e]
  rcases hb with rfl | rfl
  · rw [if_pos rfl]
    unfold bB
    by_cases c1 : Op.cmpValue (FP.dcmp o s) CmpOp.l = 0
    · rw [if_pos c1, decide_eq_true c1, Bool.true_or, if_pos rfl]; exact core 1
    by_cases c2 : Op.cmpValue (FP.dcmp o (FP.dneg s)) CmpOp.l = 0
    · rw [if_neg c1, if_pos c2, decide_eq_true c2, Bool.or_true, if_pos rfl]; exact core 1
    · rw [if_neg c1, if_neg c2, decide_eq_false c1, decide_eq_false c2, Bool.or_false, if_neg Bool.false_ne_true]; exact core 0
  · rw [if_neg (show ¬ (1 : Int32) = 0 by decide), ite_self]; exact core 1
theorem dadd_0l {x : UInt64} (h : fnn x) : FP.dadd FP.dconst0 x = x := by rw [dadd_cm, dadd_0 h]
theorem side_both {x m : Sto} {s f j p : Nat} (h : Rel x m) (hs : s < cN x 3) (hl : lFX f j = 16) (hp : p < 135) (hf : f ≠ 44) (row : ∀ k, k < 16 → fl2 (gF x f j k) ∧ gF m 1 0 (16 * p + k) = gF x f j k) : ∃ r x', fX11_sideOf s f j x = some (r, x') ∧ SameX x x' ∧ fX12_insideOf (nI s) (nI p) (sI m 0 0 10 0) = some r := by
  have hx := h.1.2.1
  have hm := h.1.2.2.1
  have hB := h.2.2.2.1
  have s12 : s < 12 := Nat.lt_of_lt_of_le hs (hx.1 3 (by decide)).2
  obtain ⟨o0, o1, o2, o3⟩ := hx.2.2.2.2.1 s hs
  obtain ⟨w0, w1, w2, w3⟩ := hm.2.2.2.2.1 s hs
  have hl6 : iN x 26 s 1 < 6 := by have := o1.2; omega
  have he2 : iN x 26 s 2 < 2 := by have := o2.2; omega
  have fr : ∀ q, q < 16 → fl2 (gF x f j q) := fun q hq => (row q hq).1
  obtain ⟨x1, a1, a2, a3⟩ := xAimC hB hl6 he2
  have hcol := xColR (r := fun q => gF x f j q) a2 hl (fun q _ => (a3.2.2.1 f j q hf).symm) fr
  have hmc := fun k (hk : k < 3) => mColR (p := p) (st := sI m 0 0 10 0) (r := fun q => gF x f j q) (by omega) hl6 he2 hk (mAimC hB hl6 he2) (fun q hq => (row q hq).2) fr
  have hcb := fun k => (colV_b (W := Wt x (iN x 26 s 1) (iN x 26 s 2)) fr (Wt_b hB hl6 he2) k).1
  generalize colV (fun q => gF x f j q) (Wt x (iN x 26 s 1) (iN x 26 s 2)) = col at hcol hmc hcb
  have S1 : SameX x (putD x1 42 0 3 col) := SameX_t a3 (SameX_pD (by decide))
  obtain ⟨W, hW⟩ : ∃ W : Nat → Nat, ∀ k, k < 3 → 1 ≤ W k ∧ W k ≤ 1000 ∧ gD x 28 s k = szV (W k) := by
    obtain ⟨v0, p0⟩ := (o3 0 (by decide)).2
    obtain ⟨v1, p1⟩ := (o3 1 (by decide)).2
    obtain ⟨v2, p2⟩ := (o3 2 (by decide)).2
    refine ⟨fun k => if k = 0 then v0 else if k = 1 then v1 else v2, fun k hk => ?_⟩
    obtain rfl | rfl | rfl : k = 0 ∨ k = 1 ∨ k = 2 := by omega
    · exact p0
    · exact p1
    · exact p2
  have x27 : ∀ k, gD (putD x1 42 0 3 col) 27 s k = gD x 27 s k := fun k => (S1.2.2.2 27 s k (by decide) (by decide) (by decide) (by decide) (by decide) (by decide)).symm
  have x28 : ∀ k, k < 3 → gD (putD x1 42 0 3 col) 28 s k = szV (W k) := fun k hk => ((S1.2.2.2 28 s k (by decide) (by decide) (by decide) (by decide) (by decide) (by decide)).symm).trans (hW k hk).2.2
  have x42 : ∀ k, k < 3 → gD (putD x1 42 0 3 col) 42 0 k = col k := fun k hk => putD_h hk
  have m37 : ∀ k, k < 3 → gD (sI m 0 0 10 0) 37 0 (3 * s + k) = gD x 27 s k := fun k hk => (w3 k hk).1
  have m38 : ∀ k, k < 3 → gD (sI m 0 0 10 0) 38 0 (3 * s + k) = szV (W k) := fun k hk => (w3 k hk).2.trans (hW k hk).2.2
  have m35 : gI (sI m 0 0 10 0) 35 0 s = nI (iN x 26 s 1) := w1.trans o1.1
  have m36 : gI (sI m 0 0 10 0) 36 0 s = nI (iN x 26 s 2) := w2.trans o2.1
  have m34 : gI (sI m 0 0 10 0) 34 0 s = gI x 26 s 0 := w0
  have x26 : gI (putD x1 42 0 3 col) 26 s 0 = gI x 26 s 0 := by rw [← S1.1]
  have ofs : ∀ k, k < 3 → mg 1062 (FP.dsub (col k) (gD x 27 s k)) := fun k hk => mg_sub (hcb k) (o3 k hk).1 (by decide)
  generalize hO : (fun k => FP.dsub (col k) (gD x 27 s k)) = off
  have eO : ∀ k, FP.dsub (col k) (gD x 27 s k) = off k := fun k => by rw [← hO]
  have ofs2 : ∀ k, k < 3 → mg 1062 (off k) := fun k hk => by rw [← eO]; exact ofs k hk
  have tq := fun k (hk : k < 3) => tQ_b (ofs2 k hk) (hW k hk).1 (hW k hk).2.1
  have l27 : lDX 27 s = 3 := if_pos s12
  have l28 : lDX 28 s = 3 := if_pos s12
  have ik : ∀ k, k < 3 → 0 ≤ (nI k).toInt ∧ (nI k).toInt < ((3 : Nat) : Int) := fun k hk => ixc hk (by decide)
  have is12 : 0 ≤ (nI s).toInt ∧ (nI s).toInt < ((12 : Nat) : Int) := ixl (by omega) (by omega)
  have e3 : ∀ k, ((3 : Int32) * nI s) + nI k = nI (3 * s + k) := fun k => by
    show nI 3 * nI s + nI k = _
    simp only [pk_mul, nI_add]
  have i36 : ∀ k, k < 3 → 0 ≤ (nI (3 * s + k)).toInt ∧ (nI (3 * s + k)).toInt < ((36 : Nat) : Int) := fun k hk => ixl (by omega) (by omega)
  have p0 := (tq 0 (by decide)).2.2
  have p1 := (tq 1 (by decide)).2.2
  have p2 := (tq 2 (by decide)).2.2
  have p01 := dadd_pw p0 p1 (by decide) (by decide)
  have p02 := dadd_pw p01 (pw_mono p2 (show 1123 ≤ 1125 by decide)) (by decide) (by decide)
  -- the reference
  have hM : ∀ z : Bool, (gI x 26 s 0 = 0 ↔ z = true) → fX12_insideOf (nI s) (nI p) (sI m 0 0 10 0) = some (if z = true then (if oB (off 0) (szV (W 0)) = true then 0 else if oB (off 1) (szV (W 1)) = true then 0 else if oB (off 2) (szV (W 2)) = true then 0 else (if bB (off 2) (szV (W 2)) = true then 2 else if bB (off 1) (szV (W 1)) = true then 2 else if bB (off 0) (szV (W 0)) = true then 2 else 1)) else (if 0 ≤ Op.cmpValue (FP.dcmp (FP.dadd (FP.dadd (tQ (off 0) (szV (W 0))) (tQ (off 1) (szV (W 1)))) (tQ (off 2) (szV (W 2)))) FP.dconst1) CmpOp.g then (if Op.cmpValue (FP.dcmp (FP.dadd (FP.dadd (tQ (off 0) (szV (W 0))) (tQ (off 1) (szV (W 1)))) (tQ (off 2) (szV (W 2)))) FP.dconst1) CmpOp.l = 0 then 2 else 0) else 1)) := by
    intro z hz
    unfold fX12_insideOf
    refine (congrArg (fun o => Option.bind o _) (lp_ins (O := fun k => z && oB (off k) (szV (W k))) (B := fun k => bB (off k) (szV (W k))) (T := fun k S => if k = 0 then tQ (off k) (szV (W k)) else FP.dadd S (tQ (off k) (szV (W k)))) (fun k S => pw (1123 + 2 * k) S) (fun k S hk hS => ?_) (fun k S b hk hb hS => ?_) (fun S b => ?_) FP.dconst0 (show 0 < 1123 * 2 ^ 52 by decide))).trans ?_
    · by_cases e : k = 0
      · rw [if_pos e]; exact pw_mono (tq k hk).2.2 (by omega)
      · rw [if_neg e]; exact pw_mono (dadd_pw hS (pw_mono (tq k hk).2.2 (by omega)) (by omega) (by omega)) (by omega)
    · have n4 : vf_n64 (FP.dadd S (tQ (off k) (szV (W k)))) := n64_of (pw_fnn (dadd_pw hS (pw_mono (tq k hk).2.2 (show 1123 ≤ 1123 + 2 * k by omega)) (by omega) (by omega)) (by omega))
      have n3 : vf_n64 (tQ (off k) (szV (W k))) := n64_of (pw_fnn (tq k hk).2.2 (by decide))
      have T := ins_tail (S := S) (o := off k) (s := szV (W k)) hk hb (tq k hk).1 (tq k hk).2.1 n3 n4
      dsimp only [un3]
      rw [if_neg (g3 hk), show lIM 35 0 = 12 from rfl, show lIM 36 0 = 12 from rfl, ck_t is12, ck_t is12, nI_cl (n := s) (by omega), m35, m36, hmc k hk, Option.bind_some, e3 k, show lDM 37 0 = 36 from rfl, ck_t (i36 k hk), nI_cl (n := 3 * s + k) (by omega), m37 k hk, eO k, nd_t (mg_n64 (ofs2 k hk) (by decide)), show lDM 38 0 = 36 from rfl, ck_t (i36 k hk), m38 k hk, lt1_e, show lIM 34 0 = 12 from rfl, ck_t is12, m34, jn_e]
      cases z with
      | true =>
        rw [if_pos (hz.mpr rfl), Bool.true_and]
        unfold oB
        by_cases c1 : 0 < Op.cmpValue (FP.dcmp (off k) (szV (W k))) CmpOp.l
        · rw [if_pos c1, decide_eq_true c1, Bool.true_or, if_pos rfl]
        by_cases c2 : 0 ≤ Op.cmpValue (FP.dcmp (off k) (FP.dneg (szV (W k)))) CmpOp.g
        · rw [if_neg c1, if_pos c2, decide_eq_false c1, decide_eq_true c2, Bool.false_or, Bool.not_true, if_neg Bool.false_ne_true]
          exact T
        · rw [if_neg c1, if_neg c2, decide_eq_false c1, decide_eq_false c2, Bool.false_or, Bool.not_false, if_pos rfl]
      | false =>
        rw [if_neg (fun q => Bool.noConfusion (hz.mp q)), Bool.false_and, if_neg Bool.false_ne_true]
        exact T
    · dsimp only [un3]
      exact if_pos (show (3 : Int32) ≤ nI 3 by decide)
    · rw [Option.bind_some]
      cases z with
      | true =>
        have z0 : gI x 26 s 0 = 0 := hz.mpr rfl
        simp only [Bool.true_and, if_true]
        by_cases c0 : oB (off 0) (szV (W 0)) = true
        · rw [if_pos c0, if_pos c0]; rfl
        rw [if_neg c0, if_neg c0]
        by_cases c1 : oB (off 1) (szV (W 1)) = true
        · rw [if_pos c1, if_pos c1]; rfl
        rw [if_neg c1, if_neg c1]
        by_cases c2 : oB (off 2) (szV (W 2)) = true
        · rw [if_pos c2, if_pos c2]; rfl
        rw [if_neg c2, if_neg c2]
        dsimp only [sm, un2]
        rw [show lIM 34 0 = 12 from rfl, ck_t is12, nI_cl (by omega), m34, if_pos z0]
        by_cases d2 : bB (off 2) (szV (W 2)) = true
        · rw [if_pos d2, if_pos d2]; rfl
        rw [if_neg d2, if_neg d2]
        by_cases d1 : bB (off 1) (szV (W 1)) = true
        · rw [if_pos d1, if_pos d1]; rfl
        rw [if_neg d1, if_neg d1]
        by_cases d0 : bB (off 0) (szV (W 0)) = true
        · rw [if_pos d0, if_pos d0]; rfl
        rw [if_neg d0, if_neg d0]; rfl
      | false =>
        have z0 : ¬ gI x 26 s 0 = 0 := fun q => Bool.noConfusion (hz.mp q)
        simp only [Bool.false_and, Bool.false_eq_true, if_false]
        dsimp only [sm, un2]
        rw [show lIM 34 0 = 12 from rfl, ck_t is12, nI_cl (by omega), m34, if_neg z0]
        simp only [eq_false (show ¬ (1 : Nat) = 0 by decide), eq_false (show ¬ (2 : Nat) = 0 by decide), if_true, if_false]
        split
        · split <;> rfl
        · rfl
  obtain ⟨z, hz⟩ : ∃ z : Bool, (gI x 26 s 0 = 0 ↔ z = true) := ⟨decide (gI x 26 s 0 = 0), by simp⟩
  refine ⟨_, putD x1 42 0 3 col, ?_, S1, hM z hz⟩
  unfold fX11_sideOf
  rw [o1.1, o2.1, a1, Option.bind_some, hcol, Option.bind_some]
  dsimp only [un2]
  unfold fX10_sideOf
  rw [x26]
  have lb : lDX 42 0 = 3 := rfl
  cases z with
  | true =>
    rw [if_pos (hz.mpr rfl), if_pos rfl]
    unfold fX10_sideOfBox
    have hb := lp_box (body := un2 fun (v4 : Int32) (v5 : Int32) =>
     if (3 : Int32) ≤ v4 then (
      some (.inr (.inr v5))) else (
      ck (0 ≤ v4.toInt ∧ v4.toInt < (lDX 42 0 : Int)) (
       ck (0 ≤ v4.toInt ∧ v4.toInt < (lDX (27) s : Int)) (
        nd (FP.dsub (gD (putD x1 42 0 3 col) 42 0 (v4.toNatClampNeg)) (gD (putD x1 42 0 3 col) (27) s (v4.toNatClampNeg))) fun (v8 : UInt64) =>
        ck (0 ≤ v4.toInt ∧ v4.toInt < (lDX (28) s : Int)) (
         if 0 < Op.cmpValue (FP.dcmp v8 (gD (putD x1 42 0 3 col) (28) s (v4.toNatClampNeg))) CmpOp.l then (
          some (.inr (.inl (0 : Int32)))) else (
          ck (0 ≤ v4.toInt ∧ v4.toInt < (lDX (28) s : Int)) (
           if 0 ≤ Op.cmpValue (FP.dcmp v8 (FP.dneg (gD (putD x1 42 0 3 col) (28) s (v4.toNatClampNeg)))) CmpOp.g then (
            ck (0 ≤ v4.toInt ∧ v4.toInt < (lDX (28) s : Int)) (
             if Op.cmpValue (FP.dcmp v8 (gD (putD x1 42 0 3 col) (28) s (v4.toNatClampNeg))) CmpOp.l = 0 then (
              lt1 (v4 + Int32.ofInt (1)) fun (v12 : Int32) =>
              some (.inl (v12, (2 : Int32)))) else (
              ck (0 ≤ v4.toInt ∧ v4.toInt < (lDX (28) s : Int)) (
               if Op.cmpValue (FP.dcmp v8 (FP.dneg (gD (putD x1 42 0 3 col) (28) s (v4.toNatClampNeg)))) CmpOp.l = 0 then (
                lt1 (v4 + Int32.ofInt (1)) fun (v15 : Int32) =>
                some (.inl (v15, (2 : Int32)))) else (
                lt1 (v4 + Int32.ofInt (1)) fun (v14 : Int32) =>
                some (.inl (v14, v5))))))) else (
            some (.inr (.inl (0 : Int32)))))))))) ) (O := fun k => oB (off k) (szV (W k))) (B := fun k => bB (off k) (szV (W k))) (fun k side hk => by
      dsimp only [un2]
      rw [if_neg (g3 hk), lb, l27, l28, ck_t (ik k hk), ck_t (ik k hk), nI_cl (by omega), x42 k hk, x27 k, eO k, nd_t (mg_n64 (ofs2 k hk) (by decide)), ck_t (ik k hk), x28 k hk]
      unfold oB
      by_cases c1 : 0 < Op.cmpValue (FP.dcmp (off k) (szV (W k))) CmpOp.l
      · rw [if_pos c1, decide_eq_true c1, Bool.true_or, if_pos rfl]
      rw [if_neg c1, ck_t (ik k hk)]
      by_cases c2 : 0 ≤ Op.cmpValue (FP.dcmp (off k) (FP.dneg (szV (W k)))) CmpOp.g
      · rw [if_pos c2, decide_eq_false c1, decide_eq_true c2, Bool.false_or, Bool.not_true, if_neg Bool.false_ne_true, ck_t (ik k hk)]
        unfold bB
        by_cases d1 : Op.cmpValue (FP.dcmp (off k) (szV (W k))) CmpOp.l = 0
        · rw [if_pos d1, decide_eq_true d1, Bool.true_or, if_pos rfl, lt1_e, nI_s]
        rw [if_neg d1, ck_t (ik k hk)]
        by_cases d2 : Op.cmpValue (FP.dcmp (off k) (FP.dneg (szV (W k)))) CmpOp.l = 0
        · rw [if_pos d2, decide_eq_true d2, Bool.or_true, if_pos rfl, lt1_e, nI_s]
        · rw [if_neg d2, decide_eq_false d1, decide_eq_false d2, Bool.or_false, if_neg Bool.false_ne_true, lt1_e, nI_s]
      · rw [if_neg c2, decide_eq_false c1, decide_eq_false c2, Bool.false_or, Bool.not_false, if_pos rfl]) (fun side => by
      dsimp only [un2]
      exact if_pos (show (3 : Int32) ≤ nI 3 by decide)) 1
    refine (congrArg (fun o => Option.bind (Option.bind (Option.bind o _) _) _) hb).trans ?_
    rw [Option.bind_some]
    by_cases c0 : oB (off 0) (szV (W 0)) = true
    · rw [if_pos c0, if_pos c0]; rfl
    rw [if_neg c0, if_neg c0]
    by_cases c1 : oB (off 1) (szV (W 1)) = true
    · rw [if_pos c1, if_pos c1]; rfl
    rw [if_neg c1, if_neg c1]
    by_cases c2 : oB (off 2) (szV (W 2)) = true
    · rw [if_pos c2, if_pos c2]; rfl
    rw [if_neg c2, if_neg c2]
    rfl
  | false =>
    rw [if_neg (fun q => Bool.noConfusion (hz.mp q)), if_neg Bool.false_ne_true]
    unfold fX10_sideOfEllipsoid
    have nn : ∀ k, k < 3 → vf_n64 (tQ (off k) (szV (W k))) := fun k hk => n64_of (pw_fnn (tq k hk).2.2 (by decide))
    refine (congrArg (fun o => Option.bind (Option.bind (Option.bind o _) _) _) (lp_3x (s1 := (nI 1, tQ (off 0) (szV (W 0)))) (s2 := (nI 2, FP.dadd (tQ (off 0) (szV (W 0))) (tQ (off 1) (szV (W 1))))) (s3 := (nI 3, FP.dadd (FP.dadd (tQ (off 0) (szV (W 0))) (tQ (off 1) (szV (W 1)))) (tQ (off 2) (szV (W 2))))) (r := FP.dadd (FP.dadd (tQ (off 0) (szV (W 0))) (tQ (off 1) (szV (W 1)))) (tQ (off 2) (szV (W 2)))) ?_ ?_ ?_ ?_)).trans ?_
    · have hk : 0 < 3 := by decide
      have ik0 := ik 0 hk
      dsimp only [un2]
      rw [show (0 : Int32) = nI 0 from rfl, if_neg (g3 hk), lb, l27, l28, ck_t ik0, ck_t ik0, nI_cl (by decide), x42 0 hk, x27 0, eO 0, nd_t (mg_n64 (ofs2 0 hk) (by decide)), nd_t (tq 0 hk).1, ck_t ik0, ck_t ik0, x28 0 hk, nd_t (tq 0 hk).2.1, show FP.ddiv (FP.dmul (off 0) (off 0)) (FP.dmul (szV (W 0)) (szV (W 0))) = tQ (off 0) (szV (W 0)) from rfl, nd_t (nn 0 hk), dadd_0l (pw_fnn p0 (by decide)), nd_t (nn 0 hk), lt1_e, nI_s]
    · have hk : 1 < 3 := by decide
      dsimp only [un2]
      rw [if_neg (g3 hk), lb, l27, l28, ck_t (ik 1 hk), ck_t (ik 1 hk), nI_cl (by decide), x42 1 hk, x27 1, eO 1, nd_t (mg_n64 (ofs2 1 hk) (by decide)), nd_t (tq 1 hk).1, ck_t (ik 1 hk), ck_t (ik 1 hk), x28 1 hk, nd_t (tq 1 hk).2.1, show FP.ddiv (FP.dmul (off 1) (off 1)) (FP.dmul (szV (W 1)) (szV (W 1))) = tQ (off 1) (szV (W 1)) from rfl, nd_t (nn 1 hk), nd_t (n64_of (pw_fnn p01 (by decide))), lt1_e, nI_s]
    · have hk : 2 < 3 := by decide
      dsimp only [un2]
      rw [if_neg (g3 hk), lb, l27, l28, ck_t (ik 2 hk), ck_t (ik 2 hk), nI_cl (by decide), x42 2 hk, x27 2, eO 2, nd_t (mg_n64 (ofs2 2 hk) (by decide)), nd_t (tq 2 hk).1, ck_t (ik 2 hk), ck_t (ik 2 hk), x28 2 hk, nd_t (tq 2 hk).2.1, show FP.ddiv (FP.dmul (off 2) (off 2)) (FP.dmul (szV (W 2)) (szV (W 2))) = tQ (off 2) (szV (W 2)) from rfl, nd_t (nn 2 hk), nd_t (n64_of (pw_fnn p02 (by decide))), lt1_e, nI_s]
    · dsimp only [un2]
      exact if_pos (show (3 : Int32) ≤ nI 3 by decide)
    · rw [Option.bind_some]
      split
      · split <;> rfl
      · rfl
