/-! ===== colours ===== -/
theorem nI_64 {a : Nat} (h : a < 2 ^ 31) : (nI a).toInt64 = lN a := by
  apply Int64.toInt_inj.mp
  rw [Int32.toInt_toInt64, nI_toInt h, pk_lT (by omega)]
def smW (W : Nat → Nat) : Nat → Nat
  | 0 => 0
  | n + 1 => smW W n + W n
def smS (r : Nat → UInt32) (W : Nat → Nat) : Nat → UInt64
  | 0 => FP.dconst0
  | n + 1 => FP.dadd (smS r W n) (FP.dmul (FP.f2d (r n)) (FP.l2d (lN (W n))))
def axV (r : Nat → UInt32) (W : Nat → Nat) : UInt64 := if smW W 16 = 0 then FP.dconst0 else (fX12_rootOf (FP.ddiv (smS r W 16) (FP.l2d (lN (smW W 16))))).getD 0
theorem smW_b {W : Nat → Nat} (h : ∀ k, k < 16 → W k ≤ 1000000000000) : ∀ n, n ≤ 16 → smW W n ≤ n * 1000000000000
  | 0, _ => by unfold smW; omega
  | n + 1, hn => by
    have := smW_b h n (by omega)
    have := h n (by omega)
    unfold smW
    omega
theorem wt_b {w : Nat} (h : w ≤ 1000000000000) : iv 1000000000000 (FP.l2d (lN w)) ∧ lw 874 (FP.l2d (lN w)) ∧ lw 1023 (FP.l2d (lN w)) := by
  obtain ⟨f, u⟩ := l2d_lN (n := w) (by omega)
  have l : lw 1023 (FP.l2d (lN w)) := by
    rcases Nat.eq_zero_or_pos w with e | e
    · left
      rw [e, Nat.zero_mul] at u
      rw [e]
      exact un_z.mp u
    · right
      refine un_le.mp ?_
      rw [u, un_pw (by decide)]
      exact Nat.le_mul_of_pos_left _ e
  exact ⟨⟨by rw [u]; exact Nat.mul_le_mul_right _ h, f⟩, lw_mono l (by decide), l⟩
theorem pr_b {r : UInt32} {w : Nat} (hr : fl2 r) (h : w ≤ 1000000000000) : iv 2000000000000 (FP.dmul (FP.f2d r) (FP.l2d (lN w))) ∧ lw 874 (FP.dmul (FP.f2d r) (FP.l2d (lN w))) := by
  obtain ⟨_, f, i, l⟩ := f2d_fl2 hr
  obtain ⟨wi, _, wl⟩ := wt_b h
  exact ⟨iv_mono (iv_mul i wi (by decide)) (by decide), lw_mono (lw_mul l wl f wi.2 (by decide) (by decide) (by decide) (by decide)) (by decide)⟩
theorem smS_b {r : Nat → UInt32} {W : Nat → Nat} (hr : ∀ k, k < 16 → fl2 (r k)) (h : ∀ k, k < 16 → W k ≤ 1000000000000) : ∀ n, n ≤ 16 → iv (n * 2000000000000) (smS r W n) ∧ lw 874 (smS r W n)
  | 0, _ => ⟨iv_zero, lw_zero⟩
  | n + 1, hn => by
    obtain ⟨a1, a2⟩ := smS_b hr h n (by omega)
    obtain ⟨b1, b2⟩ := pr_b (hr n (by omega)) (h n (by omega))
    exact ⟨iv_mono (iv_add a1 b1 (by omega)) (by omega), lw_add a2 b2 a1.2 b1.2 (by decide)⟩
theorem axV_b {r : Nat → UInt32} {W : Nat → Nat} (hr : ∀ k, k < 16 → fl2 (r k)) (h : ∀ k, k < 16 → W k ≤ 1000000000000) : pw 1047 (axV r W) ∧ (smW W 16 ≠ 0 → fnn (FP.ddiv (smS r W 16) (FP.l2d (lN (smW W 16)))) ∧ fX7_rootOf (FP.ddiv (smS r W 16) (FP.l2d (lN (smW W 16)))) = some (axV r W) ∧ fX12_rootOf (FP.ddiv (smS r W 16) (FP.l2d (lN (smW W 16)))) = some (axV r W)) := by
  unfold axV
  by_cases h0 : smW W 16 = 0
  · rw [if_pos h0]
    exact ⟨show (FP.dconst0 : UInt64).toNat < _ by rw [zero_n]; decide, fun h => absurd h0 h⟩
  rw [if_neg h0]
  obtain ⟨s1, s2⟩ := smS_b hr h 16 (Nat.le_refl _)
  have hW := smW_b h 16 (Nat.le_refl _)
  obtain ⟨f, u⟩ := l2d_lN (n := smW W 16) (by omega)
  have g1 : 1023 * 2 ^ 52 ≤ (FP.l2d (lN (smW W 16))).toNat := by
    refine un_le.mp ?_
    rw [u, un_pw (by decide)]
    exact Nat.le_mul_of_pos_left _ (by omega)
  have g2 : pw 1067 (FP.l2d (lN (smW W 16))) := pw_of_un (by rw [u]; exact pow_lt_of (j := 44) (by omega) (by decide)) (by decide)
  have d1 := iv_div s1 f g1
  have d2 : lw 830 (FP.ddiv (smS r W 16) (FP.l2d (lN (smW W 16)))) := lw_mono (lw_div s2 s1.2 f g2 (by omega) (by decide) (by decide) (by decide) (by decide)) (by decide)
  have d3 : pw 1068 (FP.ddiv (smS r W 16) (FP.l2d (lN (smW W 16)))) := pw_mono (iv_pw (j := 45) d1 (by decide)) (by decide)
  generalize FP.ddiv (smS r W 16) (FP.l2d (lN (smW W 16))) = z at d1 d2 d3 ⊢
  rcases d2 with e | e
  · obtain ⟨r1, r2⟩ := root_zero e
    rw [r2]
    exact ⟨show (FP.dconst0 : UInt64).toNat < _ by rw [zero_n]; decide, fun _ => ⟨d1.2, r1, rfl⟩⟩
  · have hz : z.toNat < 1068 * 2 ^ 52 := d3
    obtain ⟨y, r1, r2, r3⟩ := root_same (x := z) (by omega) (by omega)
    rw [r2]
    exact ⟨pw_mono r3 (by omega), fun _ => ⟨d1.2, r1, rfl⟩⟩
/-- the sight is aimed: weights and their sums -/
def Aim (st : Sto) (W : Nat → Nat → Nat) : Prop := ∀ x, x < 3 → gD st 40 0 x = FP.l2d (lN (smW (W x) 16)) ∧ ∀ k, k < 16 → gD st 39 x k = FP.l2d (lN (W x k)) ∧ W x k ≤ 1000000000000
theorem xAxis {f i x : Nat} {st : Sto} {W : Nat → Nat → Nat} (ha : Aim st W) (hx : x < 3) (hl : lFX f i = 16) (hr : ∀ k, k < 16 → fl2 (gF st f i k)) : fX9_rootOfRatio f i (nI x) st = some (axV (fun k => gF st f i k) (W x)) := by
  obtain ⟨a1, a2⟩ := ha x hx
  have hW : ∀ k, k < 16 → W x k ≤ 1000000000000 := fun k hk => (a2 k hk).2
  obtain ⟨b1, b2⟩ := axV_b hr hW
  have hWs := smW_b hW 16 (Nat.le_refl _)
  obtain ⟨fW, uW⟩ := l2d_lN (n := smW (W x) 16) (by omega)
  unfold fX9_rootOfRatio
  rw [ck_t (by rw [show lDX 40 0 = 3 from rfl]; exact ixl (by omega) (by omega)), nI_cl (by omega), a1]
  have hc : Op.cmpValue (FP.dcmp (FP.l2d (lN (smW (W x) 16))) FP.dconst0) CmpOp.l = 0 ↔ smW (W x) 16 = 0 := by
    rw [zero_g _ fW, ← un_z, uW]
    constructor
    · intro h
      rcases Nat.mul_eq_zero.mp h with e | e
      · exact e
      · exact absurd e (Nat.pos_iff_ne_zero.mp p1074)
    · intro h; rw [h, Nat.zero_mul]
  by_cases h0 : smW (W x) 16 = 0
  · rw [if_pos (hc.mpr h0)]
    unfold axV
    rw [if_pos h0]
  rw [if_neg (fun e => h0 (hc.mp e))]
  obtain ⟨c1, c2, c3⟩ := b2 h0
  have hl := lp_seq (body := un2 fun (v5 : Int32) (v6 : UInt64) =>
       if (16 : Int32) ≤ v5 then (
        some (.inr v6)) else (
        ck (0 ≤ v5.toInt ∧ v5.toInt < (lFX f i : Int)) (
         nd (FP.f2d (gF st f i (v5.toNatClampNeg))) fun (v12 : UInt64) =>
         ck (0 ≤ (nI x).toInt ∧ (nI x).toInt < (3 : Int)) (
          ck (0 ≤ v5.toInt ∧ v5.toInt < (lDX (39) x : Int)) (
           nd (FP.dmul v12 (gD st (39) x (v5.toNatClampNeg))) fun (v14 : UInt64) =>
           nd (FP.dadd v6 v14) fun (v15 : UInt64) =>
           lt1 (v5 + Int32.ofInt (1)) fun (v16 : Int32) =>
           some (.inl (v16, v15))))))) (fun k => (nI k, smS (fun k => gF st f i k) (W x) k)) (r := smS (fun k => gF st f i k) (W x) 16) 16 4000 0 (fun j _ hj => by
      have hj : j < 16 := by omega
      dsimp only [un2]
      have p1 := (pr_b (hr j hj) (hW j hj)).1.2
      have p2 := (smS_b hr hW (j + 1) (by omega)).1.2
      rw [if_neg (g16 hj), ck_t (by rw [hl]; exact ixl (by omega) (by omega)), nI_cl (by omega), nd_t (n64_of (f2d_fl2 (hr j hj)).2.1), ck_t (by exact ixl (by omega) (by omega)), ck_t (by rw [show lDX 39 x = 16 from if_pos hx]; exact ixl (by omega) (by omega)), (a2 j hj).1, nd_t (n64_of p1), nd_t (n64_of (show fnn (FP.dadd (smS (fun k => gF st f i k) (W x) j) (FP.dmul (FP.f2d (gF st f i j)) (FP.l2d (lN (W x j))))) from p2)), lt1_e, nI_s]
      rfl) (by
      rw [Nat.zero_add]
      dsimp only [un2]
      exact if_pos (show nI 16 ≤ nI 16 by decide)) (by decide)
  refine (congrArg (fun o => Option.bind o _) (show _ = some _ from hl)).trans ?_
  rw [Option.bind_some, ck_t (by rw [show lDX 40 0 = 3 from rfl]; exact ixl (by omega) (by omega)), nd_t (n64_of c1), c2]
  rfl
theorem mAxis {p l e x : Nat} {st : Sto} {L E : Nat → Nat} (hp : p < 136) (hl : l < 6) (he : e < 2) (hx : x < 3) (h1 : ∀ k, k < 16 → gI st 27 0 (16 * l + k) = nI (L k) ∧ L k ≤ 1000000) (h2 : ∀ k, k < 16 → gI st 28 0 (48 * e + 16 * x + k) = nI (E k) ∧ E k ≤ 1000000) (hr : ∀ k, k < 16 → fl2 (gF st 1 0 (16 * p + k))) : fX12_axisOf (nI p) (nI l) (nI e) (nI x) st = some (axV (fun k => gF st 1 0 (16 * p + k)) (fun k => L k * E k)) := by
  have hW : ∀ k, k < 16 → L k * E k ≤ 1000000000000 := fun k hk => mulle (h1 k hk).2 (h2 k hk).2
  obtain ⟨b1, b2⟩ := axV_b hr hW
  have hWs := smW_b hW 16 (Nat.le_refl _)
  have hloop := lp_seq (body := un3 fun (v4 : Int32) (v5 : Int64) (v6 : UInt64) =>
     if (16 : Int32) ≤ v4 then (
      some (.inr (v6, v5))) else (
      ck (0 ≤ (((16 : Int32) * nI l) + v4).toInt ∧ (((16 : Int32) * nI l) + v4).toInt < (lIM (27) (0) : Int)) (
       ck (0 ≤ ((((48 : Int32) * nI e) + ((16 : Int32) * nI x)) + v4).toInt ∧ ((((48 : Int32) * nI e) + ((16 : Int32) * nI x)) + v4).toInt < (lIM (28) (0) : Int)) (
        lt1 (((gI st (27) (0) ((((16 : Int32) * nI l) + v4).toNatClampNeg)).toInt64) * ((gI st (28) (0) (((((48 : Int32) * nI e) + ((16 : Int32) * nI x)) + v4).toNatClampNeg)).toInt64)) fun (v16 : Int64) =>
        ck (0 ≤ (((16 : Int32) * nI p) + v4).toInt ∧ (((16 : Int32) * nI p) + v4).toInt < (lFM (1) (0) : Int)) (
         nd (FP.f2d (gF st (1) (0) ((((16 : Int32) * nI p) + v4).toNatClampNeg))) fun (v17 : UInt64) =>
         nd (FP.dmul v17 (FP.l2d v16)) fun (v18 : UInt64) =>
         nd (FP.dadd v6 v18) fun (v19 : UInt64) =>
         lt1 (v5 + v16) fun (v20 : Int64) =>
         lt1 (v4 + Int32.ofInt (1)) fun (v21 : Int32) =>
         some (.inl (v21, v20, v19))))))) (fun k => (nI k, lN (smW (fun k => L k * E k) k), smS (fun k => gF st 1 0 (16 * p + k)) (fun k => L k * E k) k)) (r := (smS (fun k => gF st 1 0 (16 * p + k)) (fun k => L k * E k) 16, lN (smW (fun k => L k * E k) 16))) 16 4000 0 (fun j _ hj => by
      have hj : j < 16 := by omega
      dsimp only [un3]
      have e1 : ((16 : Int32) * nI l) + nI j = nI (16 * l + j) := by
        show nI 16 * nI l + nI j = _
        simp only [pk_mul, nI_add]
      have e2 : (((48 : Int32) * nI e) + ((16 : Int32) * nI x)) + nI j = nI (48 * e + 16 * x + j) := by
        show (nI 48 * nI e + nI 16 * nI x) + nI j = _
        simp only [pk_mul, nI_add]
      have e3 : ((16 : Int32) * nI p) + nI j = nI (16 * p + j) := by
        show nI 16 * nI p + nI j = _
        simp only [pk_mul, nI_add]
      have p1 := (pr_b (hr j hj) (hW j hj)).1.2
      have p2 := (smS_b hr hW (j + 1) (by omega)).1.2
      have q1 := (h1 j hj).2
      have q2 := (h2 j hj).2
      rw [if_neg (g16 hj), e1, e2, e3, ck_t (by rw [show lIM 27 0 = 96 from rfl]; exact ixl (by omega) (by omega)), ck_t (by rw [show lIM 28 0 = 96 from rfl]; exact ixl (by omega) (by omega)), lt1_e, nI_cl (n := 16 * l + j) (by omega), nI_cl (n := 48 * e + 16 * x + j) (by omega), (h1 j hj).1, (h2 j hj).1, nI_64 (by omega), nI_64 (by omega), lN_mul, ck_t (by rw [show lFM 1 0 = 2176 from rfl]; exact ixl (by omega) (by omega)), nI_cl (by omega), nd_t (n64_of (f2d_fl2 (hr j hj)).2.1), nd_t (n64_of p1), nd_t (n64_of (show fnn (FP.dadd (smS (fun k => gF st 1 0 (16 * p + k)) (fun k => L k * E k) j) (FP.dmul (FP.f2d (gF st 1 0 (16 * p + j))) (FP.l2d (lN (L j * E j))))) from p2)), lt1_e, lt1_e, nI_s, lN_add]
      rfl) (by
      rw [Nat.zero_add]
      dsimp only [un3]
      exact if_pos (show nI 16 ≤ nI 16 by decide)) (by decide)
  unfold fX12_axisOf
  refine (congrArg (fun o => Option.bind o _) (show _ = some _ from hloop)).trans ?_
  rw [Option.bind_some]
  dsimp only [un2]
  by_cases h0 : smW (fun k => L k * E k) 16 = 0
  · rw [if_pos ((lg_cmp_eq _ _).mpr (by rw [h0]; rfl)), (root_zero rfl).2]
    unfold axV
    rw [if_pos h0]
    rfl
  · obtain ⟨c1, c2, c3⟩ := b2 h0
    rw [if_neg (c := lg_cmp (lN (smW (fun k => L k * E k) 16)) 0 = 0) (fun w => h0 ((pk_lEQ (by omega) (by decide)).mp (show lN (smW (fun k => L k * E k) 16) = lN 0 from (lg_cmp_eq _ _).mp (show lg_cmp _ 0 = 0 from w)))), nd_t (n64_of c1), c3]
    rfl
theorem gD_sD (s : Sto) (f i j : Nat) (v : UInt64) (a b c : Nat) : gD (sD s f i j v) a b c = if a = f ∧ b = i ∧ c = j then v else gD s a b c := rfl
theorem gI_sI (s : Sto) (f i j : Nat) (v : Int32) (a b c : Nat) : gI (sI s f i j v) a b c = if a = f ∧ b = i ∧ c = j then v else gI s a b c := rfl
theorem gF_sF (s : Sto) (f i j : Nat) (v : UInt32) (a b c : Nat) : gF (sF s f i j v) a b c = if a = f ∧ b = i ∧ c = j then v else gF s a b c := rfl
theorem gL_sL (s : Sto) (f i j : Nat) (v : Int64) (a b c : Nat) : gL (sL s f i j v) a b c = if a = f ∧ b = i ∧ c = j then v else gL s a b c := rfl
theorem g3 {k : Nat} (h : k < 3) : ¬ (3 : Int32) ≤ nI k := nI_gt (N := 3) (by decide) h
/-- the same but for what is reckoned with -/
def SameX (s t : Sto) : Prop := gI s = gI t ∧ gL s = gL t ∧ (∀ f i j, f ≠ 44 → gF s f i j = gF t f i j) ∧ (∀ f i j, f ≠ 14 → f ≠ 39 → f ≠ 40 → f ≠ 41 → f ≠ 42 → f ≠ 43 → gD s f i j = gD t f i j)
theorem SameX_r (s : Sto) : SameX s s := ⟨rfl, rfl, fun _ _ _ _ => rfl, fun _ _ _ _ _ _ _ _ _ => rfl⟩
theorem SameX_t {s t u : Sto} (h : SameX s t) (k : SameX t u) : SameX s u := ⟨h.1.trans k.1, h.2.1.trans k.2.1, fun f i j a => (h.2.2.1 f i j a).trans (k.2.2.1 f i j a), fun f i j a b c d e g => (h.2.2.2 f i j a b c d e g).trans (k.2.2.2 f i j a b c d e g)⟩
theorem SameX_D {s : Sto} {f i j : Nat} {v : UInt64} (hf : f = 14 ∨ f = 39 ∨ f = 40 ∨ f = 41 ∨ f = 42 ∨ f = 43) : SameX s (sD s f i j v) := by
  refine ⟨rfl, rfl, fun _ _ _ _ => rfl, fun a b c h1 h2 h3 h4 h5 h6 => ?_⟩
  exact (if_neg (fun (h : a = f ∧ b = i ∧ c = j) => by omega)).symm
theorem SameX_pD {s : Sto} {f i n : Nat} {v : Nat → UInt64} (hf : f = 14 ∨ f = 39 ∨ f = 40 ∨ f = 41 ∨ f = 42 ∨ f = 43) : SameX s (putD s f i n v) := by
  refine ⟨rfl, rfl, fun _ _ _ _ => rfl, fun a b c h1 h2 h3 h4 h5 h6 => ?_⟩
  exact (putD_g (fun h => by omega)).symm
theorem SameX_pF {s : Sto} {i n : Nat} {v : Nat → UInt32} : SameX s (putF s 44 i n v) := by
  refine ⟨rfl, rfl, fun a b c h => ?_, fun _ _ _ _ _ _ _ _ _ => rfl⟩
  exact (putF_g (fun q => h q.1)).symm
theorem xAim {l e : Nat} {st : Sto} {L : Nat → Nat} {E : Nat → Nat → Nat} (hl : l < 6) (he : e < 2) (h1 : ∀ k, k < 16 → gI st 35 l k = nI (L k) ∧ L k ≤ 1000000) (h2 : ∀ x, x < 3 → ∀ k, k < 16 → gI st 37 (3 * e + x) k = nI (E x k) ∧ E x k ≤ 1000000) : ∃ st', fX9_aim (nI l) (nI e) st = some st' ∧ Aim st' (fun x k => L k * E x k) ∧ SameX st st' := by
  have hW : ∀ x, x < 3 → ∀ k, k < 16 → L k * E x k ≤ 1000000000000 := fun x hx k hk => mulle (h1 k hk).2 (h2 x hx k hk).2
  obtain ⟨r, k1, k2, k3⟩ := lp_inv (body := un2 fun (v4 : Int32) (t5 : Sto) =>
     if (3 : Int32) ≤ v4 then (
      some (.inr t5)) else (
      ((lp (σ := (Int32 × Int64 × Sto)) (ρ := (Int64 × Sto)) (un3 fun (v11 : Int32) (v12 : Int64) (t13 : Sto) =>
         if (16 : Int32) ≤ v11 then (
          some (.inr (v12, t13))) else (
          ck (0 ≤ (nI l).toInt ∧ (nI l).toInt < (6 : Int)) (
           ck (0 ≤ v11.toInt ∧ v11.toInt < (lIX (35) ((nI l).toNatClampNeg) : Int)) (
            ck (0 ≤ ((nI e * (3 : Int32)) + v4).toInt ∧ ((nI e * (3 : Int32)) + v4).toInt < (6 : Int)) (
             ck (0 ≤ v11.toInt ∧ v11.toInt < (lIX (37) (((nI e * (3 : Int32)) + v4).toNatClampNeg) : Int)) (
              lt1 (((gI t13 (35) ((nI l).toNatClampNeg) (v11.toNatClampNeg)).toInt64) * ((gI t13 (37) (((nI e * (3 : Int32)) + v4).toNatClampNeg) (v11.toNatClampNeg)).toInt64)) fun (v21 : Int64) =>
              ck (0 ≤ v4.toInt ∧ v4.toInt < (3 : Int)) (
               ck (0 ≤ v11.toInt ∧ v11.toInt < (lDX (39) (v4.toNatClampNeg) : Int)) (lt1 (sD t13 (39) (v4.toNatClampNeg) (v11.toNatClampNeg) (FP.l2d v21)) fun (t23 : Sto) =>
                lt1 (v12 + v21) fun (v24 : Int64) =>
                lt1 (v11 + Int32.ofInt (1)) fun (v25 : Int32) =>
                some (.inl (v25, v24, t23)))))))))) 4000 ((0 : Int32), (0 : Int64), t5)).bind
       (un2 fun (v14 : Int64) (t15 : Sto) =>
        ck (0 ≤ v4.toInt ∧ v4.toInt < (lDX (40) (0) : Int)) (lt1 (sD t15 (40) (0) (v4.toNatClampNeg) (FP.l2d v14)) fun (t26 : Sto) =>
         lt1 (v4 + Int32.ofInt (1)) fun (v27 : Int32) =>
         some (.inl (v27, t26)))))) ) (fun i s => s.1 = nI i ∧ SameX st s.2 ∧ ∀ x, x < i → gD s.2 40 0 x = FP.l2d (lN (smW (fun k => L k * E x k) 16)) ∧ ∀ k, k < 16 → gD s.2 39 x k = FP.l2d (lN (L k * E x k))) (fun t => SameX st t ∧ ∀ x, x < 3 → gD t 40 0 x = FP.l2d (lN (smW (fun k => L k * E x k) 16)) ∧ ∀ k, k < 16 → gD t 39 x k = FP.l2d (lN (L k * E x k))) 3 (fun i s hi ⟨q1, q2, q3⟩ => by
      obtain ⟨v4, t⟩ := s
      dsimp only at q1 q2 q3
      subst q1
      dsimp only [un2]
      by_cases h : i < 3
      · right
        have ei : (nI e * (3 : Int32)) + nI i = nI (3 * e + i) := by
          show nI e * nI 3 + nI i = _
          rw [pk_mul, nI_add, Nat.mul_comm]
        have hI : gI t = gI st := q2.1.symm
        have hloop := lp_seq (body := un3 fun (v11 : Int32) (v12 : Int64) (t13 : Sto) =>
         if (16 : Int32) ≤ v11 then (
          some (.inr (v12, t13))) else (
          ck (0 ≤ (nI l).toInt ∧ (nI l).toInt < (6 : Int)) (
           ck (0 ≤ v11.toInt ∧ v11.toInt < (lIX (35) ((nI l).toNatClampNeg) : Int)) (
            ck (0 ≤ ((nI e * (3 : Int32)) + nI i).toInt ∧ ((nI e * (3 : Int32)) + nI i).toInt < (6 : Int)) (
             ck (0 ≤ v11.toInt ∧ v11.toInt < (lIX (37) (((nI e * (3 : Int32)) + nI i).toNatClampNeg) : Int)) (
              lt1 (((gI t13 (35) ((nI l).toNatClampNeg) (v11.toNatClampNeg)).toInt64) * ((gI t13 (37) (((nI e * (3 : Int32)) + nI i).toNatClampNeg) (v11.toNatClampNeg)).toInt64)) fun (v21 : Int64) =>
              ck (0 ≤ (nI i).toInt ∧ (nI i).toInt < (3 : Int)) (
               ck (0 ≤ v11.toInt ∧ v11.toInt < (lDX (39) ((nI i).toNatClampNeg) : Int)) (lt1 (sD t13 (39) ((nI i).toNatClampNeg) (v11.toNatClampNeg) (FP.l2d v21)) fun (t23 : Sto) =>
                lt1 (v12 + v21) fun (v24 : Int64) =>
                lt1 (v11 + Int32.ofInt (1)) fun (v25 : Int32) =>
                some (.inl (v25, v24, t23))))))))) ) (fun k => (nI k, lN (smW (fun k => L k * E i k) k), putD t 39 i k (fun k => FP.l2d (lN (L k * E i k))))) (r := (lN (smW (fun k => L k * E i k) 16), putD t 39 i 16 (fun k => FP.l2d (lN (L k * E i k))))) 16 4000 0 (fun j _ hj => by
          have hj : j < 16 := by omega
          dsimp only [un3]
          have a1 := h1 j hj
          have a2 := h2 i h j hj
          have g1 : gI (putD t 39 i j (fun k => FP.l2d (lN (L k * E i k)))) = gI st := hI
          rw [if_neg (g16 hj), ck_t (by exact ixl (by omega) (by omega)), nI_cl (n := l) (by omega), ck_t (by rw [show lIX 35 l = 16 from if_pos hl]; exact ixl (by omega) (by omega)), ei, ck_t (by exact ixl (by omega) (by omega)), nI_cl (n := 3 * e + i) (by omega), ck_t (by rw [show lIX 37 (3 * e + i) = 16 from if_pos (by omega)]; exact ixl (by omega) (by omega)), g1, nI_cl (n := j) (by omega), a1.1, a2.1, nI_64 (by omega), nI_64 (by omega), lN_mul, lt1_e, ck_t (by exact ixl (by omega) (by omega)), nI_cl (n := i) (by omega), ck_t (by rw [show lDX 39 i = 16 from if_pos h]; exact ixl (by omega) (by omega)), lt1_e, lt1_e, lt1_e, lN_add, nI_s, putD_s (v := fun k => FP.l2d (lN (L k * E i k)))]
          rfl) (by
          rw [Nat.zero_add]
          dsimp only [un3]
          exact if_pos (show nI 16 ≤ nI 16 by decide)) (by decide)
        have hloop0 := hloop
        rw [putD_0] at hloop0
        refine ⟨h, (nI (i + 1), sD (putD t 39 i 16 (fun k => FP.l2d (lN (L k * E i k)))) 40 0 i (FP.l2d (lN (smW (fun k => L k * E i k) 16)))), ?_, rfl, ?_, ?_⟩
        · rw [if_neg (g3 h)]
          refine (congrArg (fun o => Option.bind o _) (show _ = some _ from hloop0)).trans ?_
          rw [Option.bind_some]
          dsimp only [un2]
          rw [ck_t (by rw [show lDX 40 0 = 3 from rfl]; exact ixl (by omega) (by omega)), nI_cl (n := i) (by omega), lt1_e, lt1_e, nI_s]
        · exact SameX_t q2 (SameX_t (SameX_pD (by decide)) (SameX_D (by decide)))
        · intro x hx
          by_cases e : x = i
          · subst e
            refine ⟨if_pos ⟨rfl, rfl, rfl⟩, fun k hk => ?_⟩
            dsimp only
            rw [gD_sD, if_neg (by omega), putD_h hk]
          · obtain ⟨b1, b2⟩ := q3 x (by omega)
            refine ⟨?_, fun k hk => ?_⟩
            · dsimp only
              rw [gD_sD, if_neg (by omega), putD_g (by omega)]
              exact b1
            · dsimp only
              rw [gD_sD, if_neg (by omega), putD_g (by omega)]
              exact b2 k hk
      · left
        have e3 : i = 3 := by omega
        subst e3
        exact ⟨t, if_pos (show nI 3 ≤ nI 3 by decide), q2, q3⟩) 3 4000 0 ((0 : Int32), st) (by decide) ⟨rfl, SameX_r st, fun x hx => absurd hx (Nat.not_lt_zero x)⟩ (by decide)
  refine ⟨r, ?_, fun x hx => ⟨(k3 x hx).1, fun k hk => ⟨(k3 x hx).2 k hk, hW x hx k hk⟩⟩, k2⟩
  unfold fX9_aim
  refine (congrArg (fun o => Option.bind o _) (show _ = some r from k1)).trans ?_
  rfl
abbrev c100 : UInt64 := 4636737291354636288
abbrev c250 : UInt64 := 4643000109586448384
theorem c100_b : fnn c100 ∧ pw 1031 c100 ∧ 1023 * 2 ^ 52 ≤ (c100 : UInt64).toNat := by
  refine ⟨?_, ?_, ?_⟩
  · unfold fnn; decide +kernel
  · unfold pw; decide +kernel
  · decide +kernel
theorem c250_b : fnn c250 ∧ pw 1031 c250 ∧ 1023 * 2 ^ 52 ≤ (c250 : UInt64).toNat := by
  refine ⟨?_, ?_, ?_⟩
  · unfold fnn; decide +kernel
  · unfold pw; decide +kernel
  · decide +kernel
/-- not minus 0 -/
def nm0 (x : UInt64) : Prop := x.toNat ≠ 2 ^ 63
theorem mulsub {c a b : UInt64} (hc : fnn c ∧ pw 1031 c ∧ 1023 * 2 ^ 52 ≤ c.toNat) (ha : pw 1047 a) (hb : pw 1047 b) : vf_n64 (FP.dsub a b) ∧ mg 1060 (FP.dmul c (FP.dsub a b)) ∧ nm0 (FP.dmul c (FP.dsub a b)) := by
  have fa : fnn a := pw_fnn ha (by decide)
  have fb : fnn b := pw_fnn hb (by decide)
  have m1 := mg_sub (pw_mg ha (by decide)) (pw_mg hb (by decide)) (by decide)
  have mc := pw_mg hc.2.1 (by decide)
  have m2 := mg_mul mc m1 (by decide) (by decide)
  refine ⟨mg_n64 m1 (by decide), mg_mono m2 (by decide), ?_⟩
  rcases Nat.lt_or_ge a.toNat b.toNat with h | h
  · have e := dsub_lt fb fa h
    have d := dsub_b fb fa (Nat.le_of_lt h)
    have d1 : 1 ≤ (FP.dsub b a).toNat := d.2.2 1 (by decide) (by
      have := un_lt.mpr h
      rw [un_lo (by decide)]; omega)
    have mz : mg 1049 (FP.dsub b a) := mg_sub (pw_mg hb (by decide)) (pw_mg ha (by decide)) (by decide)
    have fz : fnn (FP.dsub b a) := pw_fnn (mg_pw mz d.1) (by decide)
    have dm := dmul_b hc.1 fz
    have d2 : 1 ≤ (FP.dmul c (FP.dsub b a)).toNat := dm.2.2 1 (by decide) (by
      have g1 := un_le.mpr hc.2.2
      rw [un_pw (by decide)] at g1
      have g2 : un 1 ≤ un (FP.dsub b a).toNat := un_le.mpr d1
      rw [un_lo (by decide)] at g2 ⊢
      rw [Nat.mul_comm]
      exact mulle g1 g2)
    unfold nm0
    rw [e, dmul_cm, dmul_neg mz mc (by decide), dmul_cm, dneg_up dm.1]
    omega
  · have d := dsub_b fa fb h
    have fz : fnn (FP.dsub a b) := pw_fnn (mg_pw m1 d.1) (by decide)
    have := (dmul_b hc.1 fz).1
    unfold nm0
    omega
def colV (r : Nat → UInt32) (W : Nat → Nat → Nat) (k : Nat) : UInt64 := if k = 0 then FP.dmul c100 (axV r (W 1)) else if k = 1 then FP.dmul c250 (FP.dsub (axV r (W 0)) (axV r (W 1))) else FP.dmul c100 (FP.dsub (axV r (W 1)) (axV r (W 2)))
theorem colV_b {r : Nat → UInt32} {W : Nat → Nat → Nat} (hr : ∀ k, k < 16 → fl2 (r k)) (h : ∀ x, x < 3 → ∀ k, k < 16 → W x k ≤ 1000000000000) (k : Nat) : mg 1060 (colV r W k) ∧ nm0 (colV r W k) := by
  have a0 := (axV_b hr (h 0 (by decide))).1
  have a1 := (axV_b hr (h 1 (by decide))).1
  have a2 := (axV_b hr (h 2 (by decide))).1
  unfold colV
  split
  · have f := pw_fnn a1 (by decide)
    have := (dmul_b c100_b.1 f).1
    exact ⟨mg_mono (mg_mul (pw_mg c100_b.2.1 (by decide)) (pw_mg a1 (by decide)) (by decide) (by decide)) (by decide), by unfold nm0; omega⟩
  split
  · exact (mulsub c250_b a0 a1).2
  · exact (mulsub c100_b a1 a2).2
theorem xCol {f i : Nat} {st : Sto} {W : Nat → Nat → Nat} (ha : Aim st W) (hl : lFX f i = 16) (hr : ∀ k, k < 16 → fl2 (gF st f i k)) : fX9_coloursOf f i st = some ((42, 0), putD st 42 0 3 (colV (fun k => gF st f i k) W)) := by
  have hW : ∀ x, x < 3 → ∀ k, k < 16 → W x k ≤ 1000000000000 := fun x hx k hk => ((ha x hx).2 k hk).2
  have a0 := (axV_b hr (hW 0 (by decide))).1
  have a1 := (axV_b hr (hW 1 (by decide))).1
  have a2 := (axV_b hr (hW 2 (by decide))).1
  have c0 := (colV_b hr hW 0).1
  have c1 := (colV_b hr hW 1).1
  have c2 := (colV_b hr hW 2).1
  unfold fX9_coloursOf
  rw [show fX9_rootOfRatio f i (0 : Int32) st = _ from xAxis (x := 0) ha (by decide) hl hr, Option.bind_some, show fX9_rootOfRatio f i (1 : Int32) st = _ from xAxis (x := 1) ha (by decide) hl hr, Option.bind_some, show fX9_rootOfRatio f i (2 : Int32) st = _ from xAxis (x := 2) ha (by decide) hl hr, Option.bind_some]
  rw [nd_t (mg_n64 (show mg 1060 (FP.dmul c100 (axV (fun k => gF st f i k) (W 1))) from c0) (by decide)), lt1_e, nd_t (mulsub c250_b a0 a1).1, nd_t (mg_n64 (show mg 1060 (FP.dmul c250 (FP.dsub (axV (fun k => gF st f i k) (W 0)) (axV (fun k => gF st f i k) (W 1)))) from c1) (by decide)), lt1_e, nd_t (mulsub c100_b a1 a2).1, nd_t (mg_n64 (show mg 1060 (FP.dmul c100 (FP.dsub (axV (fun k => gF st f i k) (W 1)) (axV (fun k => gF st f i k) (W 2)))) from c2) (by decide)), lt1_e]
  have e : putD st 42 0 3 (colV (fun k => gF st f i k) W) = sD (sD (sD st 42 0 0 (colV (fun k => gF st f i k) W 0)) 42 0 1 (colV (fun k => gF st f i k) W 1)) 42 0 2 (colV (fun k => gF st f i k) W 2) := by
    rw [← putD_s, ← putD_s, ← putD_s, putD_0]
  rw [e]
  rfl
theorem Aim_D {st : Sto} {W : Nat → Nat → Nat} {f i n : Nat} {v : Nat → UInt64} (h : Aim st W) (hf : f ≠ 39) (hf2 : f ≠ 40) : Aim (putD st f i n v) W := fun x hx => ⟨by rw [putD_g (fun q => hf2 q.1.symm)]; exact (h x hx).1, fun k hk => ⟨by rw [putD_g (fun q => hf q.1.symm)]; exact ((h x hx).2 k hk).1, ((h x hx).2 k hk).2⟩⟩
theorem Aim_F {st : Sto} {W : Nat → Nat → Nat} {f i n : Nat} {v : Nat → UInt32} (h : Aim st W) : Aim (putF st f i n v) W := h
theorem xGoal {f i : Nat} {st : Sto} {W : Nat → Nat → Nat} (ha : Aim st W) (hl : lFX f i = 16) (hr : ∀ k, k < 16 → fl2 (gF st f i k)) : ∃ st', fX9_setGoal f i st = some st' ∧ Aim st' W ∧ SameX st st' ∧ ∀ k, k < 3 → gD st' 41 0 k = colV (fun k => gF st f i k) W k := by
  have e : ∀ s : Sto, cD s 42 0 0 41 0 0 3 = putD s 41 0 3 (fun k => gD s 42 0 k) := fun s => by
    refine Prod.ext rfl (Prod.ext rfl (Prod.ext rfl ?_))
    funext a b c
    show (if a = 41 ∧ b = 0 ∧ 0 ≤ c ∧ c < 0 + 3 then s.2.2.2 42 0 (0 + (c - 0)) else s.2.2.2 a b c) = if a = 41 ∧ b = 0 ∧ c < 3 then s.2.2.2 42 0 c else s.2.2.2 a b c
    by_cases h : a = 41 ∧ b = 0 ∧ c < 3
    · rw [if_pos ⟨h.1, h.2.1, Nat.zero_le _, by omega⟩, if_pos h, Nat.zero_add, Nat.sub_zero]
    · rw [if_neg (fun q => h ⟨q.1, q.2.1, by omega⟩), if_neg h]
  refine ⟨putD (putD st 42 0 3 (colV (fun k => gF st f i k) W)) 41 0 3 (fun k => gD (putD st 42 0 3 (colV (fun k => gF st f i k) W)) 42 0 k), ?_, Aim_D (Aim_D ha (by decide) (by decide)) (by decide) (by decide), SameX_t (SameX_pD (by decide)) (SameX_pD (by decide)), fun k hk => ?_⟩
  · unfold fX9_setGoal
    rw [xCol ha hl hr, Option.bind_some]
    dsimp only [un2]
    rw [ck_t (by decide), lt1_e, e]
  · rw [putD_h hk, putD_h hk]
/-- the gap of two colours under a measure -/
def gapV (a b c : UInt64) (g s : Nat → UInt64) : UInt64 := FP.dadd (FP.dadd (FP.dmul (FP.dmul a (FP.dsub (g 0) (s 0))) (FP.dsub (g 0) (s 0))) (FP.dmul (FP.dmul b (FP.dsub (g 1) (s 1))) (FP.dsub (g 1) (s 1)))) (FP.dmul (FP.dmul c (FP.dsub (g 2) (s 2))) (FP.dsub (g 2) (s 2)))
theorem gap1 {a x y : UInt64} (ha : pw 1031 a) (hx : mg 1060 x) (hy : mg 1060 y) : vf_n64 (FP.dsub x y) ∧ vf_n64 (FP.dmul a (FP.dsub x y)) ∧ pw 1112 (FP.dmul (FP.dmul a (FP.dsub x y)) (FP.dsub x y)) ∧ FP.dmul (FP.dmul a (FP.dsub y x)) (FP.dsub y x) = FP.dmul (FP.dmul a (FP.dsub x y)) (FP.dsub x y) := by
  have m1 : mg 1062 (FP.dsub x y) := mg_sub hx hy (by decide)
  have m2 := mg_mul (pw_mg ha (by decide)) m1 (by decide) (by decide)
  have m3 : mg 1112 (FP.dmul (FP.dmul a (FP.dsub x y)) (FP.dsub x y)) := mg_mono (mg_mul m2 m1 (by decide) (by decide)) (by decide)
  exact ⟨mg_n64 m1 (by decide), mg_n64 m2 (by decide), mg_pw m3 (sq_pos ha m1 (by decide)), sq_swap (pw_mg ha (by decide)) m1 (by decide) (dsub_swap hx hy (by decide))⟩
theorem gapV_b {a b c : UInt64} {g s : Nat → UInt64} (ha : pw 1031 a) (hb : pw 1031 b) (hc : pw 1031 c) (hg : ∀ k, k < 3 → mg 1060 (g k)) (hs : ∀ k, k < 3 → mg 1060 (s k)) : gapV a b c s g = gapV a b c g s ∧ pw 1116 (gapV a b c g s) ∧ pw 1114 (FP.dadd (FP.dmul (FP.dmul a (FP.dsub (g 0) (s 0))) (FP.dsub (g 0) (s 0))) (FP.dmul (FP.dmul b (FP.dsub (g 1) (s 1))) (FP.dsub (g 1) (s 1)))) := by
  obtain ⟨_, _, p0, e0⟩ := gap1 ha (hg 0 (by decide)) (hs 0 (by decide))
  obtain ⟨_, _, p1, e1⟩ := gap1 hb (hg 1 (by decide)) (hs 1 (by decide))
  obtain ⟨_, _, p2, e2⟩ := gap1 hc (hg 2 (by decide)) (hs 2 (by decide))
  have p01 := dadd_pw p0 p1 (by decide) (by decide)
  refine ⟨?_, ?_, p01⟩
  · unfold gapV
    rw [e0, e1, e2]
  · exact dadd_pw p01 (pw_mono p2 (by decide)) (by decide) (by decide)
theorem xGap {f i : Nat} {st : Sto} {W : Nat → Nat → Nat} {g : Nat → UInt64} {a b c : UInt64} (ha : Aim st W) (hl : lFX f i = 16) (hr : ∀ k, k < 16 → fl2 (gF st f i k)) (hg : ∀ k, k < 3 → gD st 41 0 k = g k ∧ mg 1060 (g k)) (h2 : gD st 13 0 2 = a ∧ pw 1031 a) (h3 : gD st 13 0 3 = b ∧ pw 1031 b) (h4 : gD st 13 0 4 = c ∧ pw 1031 c) : fX9_gapTo f i st = some (gapV a b c g (colV (fun k => gF st f i k) W), putD st 42 0 3 (colV (fun k => gF st f i k) W)) := by
  have hW : ∀ x, x < 3 → ∀ k, k < 16 → W x k ≤ 1000000000000 := fun x hx k hk => ((ha x hx).2 k hk).2
  have hs : ∀ k, k < 3 → mg 1060 (colV (fun k => gF st f i k) W k) := fun k _ => (colV_b hr hW k).1
  unfold fX9_gapTo
  rw [xCol ha hl hr, Option.bind_some]
  dsimp only [un2]
  generalize colV (fun k => gF st f i k) W = s at hs ⊢
  obtain ⟨p1, p2, p3, _⟩ := gap1 h2.2 (hg 0 (by decide)).2 (hs 0 (by decide))
  obtain ⟨q1, q2, q3, _⟩ := gap1 h3.2 (hg 1 (by decide)).2 (hs 1 (by decide))
  obtain ⟨r1, r2, r3, _⟩ := gap1 h4.2 (hg 2 (by decide)).2 (hs 2 (by decide))
  obtain ⟨_, v1, v2⟩ := gapV_b h2.2 h3.2 h4.2 (fun k hk => (hg k hk).2) hs
  have e41 : ∀ k, gD (putD st 42 0 3 s) 41 0 k = gD st 41 0 k := fun k => putD_g (by omega)
  have e42 : ∀ k, k < 3 → gD (putD st 42 0 3 s) 42 0 k = s k := fun k hk => putD_h hk
  have e13 : ∀ k, gD (putD st 42 0 3 s) 13 0 k = gD st 13 0 k := fun k => putD_g (by omega)
  rw [e41, e41, e41, e42 0 (by decide), e42 1 (by decide), e42 2 (by decide), (hg 0 (by decide)).1, (hg 1 (by decide)).1, (hg 2 (by decide)).1, e13, e13, e13, h2.1, h3.1, h4.1]
  rw [nd_t p1, nd_t q1, nd_t r1, nd_t p2, nd_t (n64_of (pw_fnn p3 (by decide))), nd_t q2, nd_t (n64_of (pw_fnn q3 (by decide))), nd_t (n64_of (pw_fnn v2 (by decide))), nd_t r2, nd_t (n64_of (pw_fnn r3 (by decide)))]
  exact nd_t (k := fun v16 => some (v16, putD st 42 0 3 s)) (n64_of (show fnn (gapV a b c g s) from pw_fnn v1 (by decide)))
/-- the reference's lights and eyes -/
def MAim (st : Sto) (l e : Nat) (W : Nat → Nat → Nat) : Prop := ∃ (L : Nat → Nat) (E : Nat → Nat → Nat), (∀ k, k < 16 → gI st 27 0 (16 * l + k) = nI (L k) ∧ L k ≤ 1000000) ∧ (∀ x, x < 3 → ∀ k, k < 16 → gI st 28 0 (48 * e + 16 * x + k) = nI (E x k) ∧ E x k ≤ 1000000) ∧ W = fun x k => L k * E x k
theorem mCol {p l e k : Nat} {st : Sto} {W : Nat → Nat → Nat} (hp : p < 136) (hl : l < 6) (he : e < 2) (hk : k < 3) (ha : MAim st l e W) (hr : ∀ k, k < 16 → fl2 (gF st 1 0 (16 * p + k))) : fX12_colourOf (nI p) (nI l) (nI e) (nI k) st = some (colV (fun k => gF st 1 0 (16 * p + k)) W k) := by
  obtain ⟨L, E, h1, h2, rfl⟩ := ha
  have hW : ∀ x, x < 3 → ∀ k, k < 16 → (fun x k => L k * E x k) x k ≤ 1000000000000 := fun x hx k hk => mulle (h1 k hk).2 (h2 x hx k hk).2
  have a0 := (axV_b hr (hW 0 (by decide))).1
  have a1 := (axV_b hr (hW 1 (by decide))).1
  have a2 := (axV_b hr (hW 2 (by decide))).1
  have c0 := (colV_b (W := fun x k => L k * E x k) hr hW 0).1
  have c1 := (colV_b (W := fun x k => L k * E x k) hr hW 1).1
  have c2 := (colV_b (W := fun x k => L k * E x k) hr hW 2).1
  have x0 := mAxis (x := 0) hp hl he (by decide) h1 (h2 0 (by decide)) hr
  have x1 := mAxis (x := 1) hp hl he (by decide) h1 (h2 1 (by decide)) hr
  have x2 := mAxis (x := 2) hp hl he (by decide) h1 (h2 2 (by decide)) hr
  unfold fX12_colourOf
  have hk3 : k = 0 ∨ k = 1 ∨ k = 2 := by omega
  rcases hk3 with e | e | e
  · subst e
    rw [if_pos (show nI 0 = 0 from rfl), show fX12_axisOf (nI p) (nI l) (nI e) (1 : Int32) st = _ from x1, Option.bind_some, nd_t (mg_n64 (show mg 1060 (FP.dmul c100 _) from c0) (by decide))]
    rfl
  · subst e
    rw [if_neg (show ¬ nI 1 = 0 by decide), if_pos (show nI 1 = (1 : Int32) from rfl), show fX12_axisOf (nI p) (nI l) (nI e) (0 : Int32) st = _ from x0, Option.bind_some, show fX12_axisOf (nI p) (nI l) (nI e) (1 : Int32) st = _ from x1, Option.bind_some, nd_t (mulsub c250_b a0 a1).1, nd_t (mg_n64 (show mg 1060 (FP.dmul c250 _) from c1) (by decide))]
    rfl
  · subst e
    rw [if_neg (show ¬ nI 2 = 0 by decide), if_neg (show ¬ nI 2 = (1 : Int32) by decide), show fX12_axisOf (nI p) (nI l) (nI e) (1 : Int32) st = _ from x1, Option.bind_some, show fX12_axisOf (nI p) (nI l) (nI e) (2 : Int32) st = _ from x2, Option.bind_some, nd_t (mulsub c100_b a1 a2).1, nd_t (mg_n64 (show mg 1060 (FP.dmul c100 _) from c2) (by decide))]
    rfl
theorem mGoal {p l e : Nat} {st : Sto} {W : Nat → Nat → Nat} (hp : p < 136) (hl : l < 6) (he : e < 2) (ha : MAim st l e W) (hr : ∀ k, k < 16 → fl2 (gF st 1 0 (16 * p + k))) : fX12_goalIs (nI p) (nI l) (nI e) st = some (putD st 46 0 3 (colV (fun k => gF st 1 0 (16 * p + k)) W)) := by
  unfold fX12_goalIs
  rw [loopD (f := 46) (i := 0) (colV (fun k => gF st 1 0 (16 * p + k)) W) 3 (by decide) (fun k hk => by
    dsimp only [un2]
    have hc := mCol (st := putD st 46 0 k (colV (fun k => gF st 1 0 (16 * p + k)) W)) hp hl he hk ha hr
    rw [if_neg (g3 hk), hc, Option.bind_some, ck_t (by rw [show lDM 46 0 = 3 from rfl]; exact ixl (by omega) (by omega)), nI_cl (by omega), lt1_e, lt1_e, nI_s]
    rfl) (by dsimp only [un2]; exact if_pos (show nI 3 ≤ nI 3 by decide))]
  rfl
theorem mFromTo {p l e : Nat} {st : Sto} {W : Nat → Nat → Nat} {g : Nat → UInt64} {a b c : UInt64} (hp : p < 136) (hl : l < 6) (he : e < 2) (ha : MAim st l e W) (hr : ∀ k, k < 16 → fl2 (gF st 1 0 (16 * p + k))) (hg : ∀ k, k < 3 → gD st 46 0 k = g k ∧ mg 1060 (g k)) (h2 : FP.i2d (gI st 29 0 0) = a ∧ pw 1031 a) (h3 : FP.i2d (gI st 29 0 1) = b ∧ pw 1031 b) (h4 : FP.i2d (gI st 29 0 2) = c ∧ pw 1031 c) : fX12_fromTo (nI p) (nI l) (nI e) st = some (gapV a b c (colV (fun k => gF st 1 0 (16 * p + k)) W) g) := by
  have hs : ∀ k, k < 3 → mg 1060 (colV (fun k => gF st 1 0 (16 * p + k)) W k) := fun k _ => by
    obtain ⟨L, E, h1, h2, rfl⟩ := ha
    exact (colV_b (W := fun x k => L k * E x k) hr (fun x hx k hk => mulle (h1 k hk).2 (h2 x hx k hk).2) k).1
  have x0 := mCol (k := 0) hp hl he (by decide) ha hr
  have x1 := mCol (k := 1) hp hl he (by decide) ha hr
  have x2 := mCol (k := 2) hp hl he (by decide) ha hr
  unfold fX12_fromTo
  generalize colV (fun k => gF st 1 0 (16 * p + k)) W = s at hs x0 x1 x2 ⊢
  obtain ⟨p1, p2, p3, _⟩ := gap1 h2.2 (hs 0 (by decide)) (hg 0 (by decide)).2
  obtain ⟨q1, q2, q3, _⟩ := gap1 h3.2 (hs 1 (by decide)) (hg 1 (by decide)).2
  obtain ⟨r1, r2, r3, _⟩ := gap1 h4.2 (hs 2 (by decide)) (hg 2 (by decide)).2
  obtain ⟨_, v1, v2⟩ := gapV_b h2.2 h3.2 h4.2 hs (fun k hk => (hg k hk).2)
  rw [show fX12_colourOf (nI p) (nI l) (nI e) (0 : Int32) st = _ from x0, Option.bind_some, (hg 0 (by decide)).1, nd_t p1, show fX12_colourOf (nI p) (nI l) (nI e) (1 : Int32) st = _ from x1, Option.bind_some, (hg 1 (by decide)).1, nd_t q1, show fX12_colourOf (nI p) (nI l) (nI e) (2 : Int32) st = _ from x2, Option.bind_some, (hg 2 (by decide)).1, nd_t r1, h2.1, h3.1, h4.1]
  rw [nd_t p2, nd_t (n64_of (pw_fnn p3 (by decide))), nd_t q2, nd_t (n64_of (pw_fnn q3 (by decide))), nd_t (n64_of (pw_fnn v2 (by decide))), nd_t r2, nd_t (n64_of (pw_fnn r3 (by decide)))]
  exact nd_t (k := fun v17 => some v17) (n64_of (show fnn (gapV a b c s g) from pw_fnn v1 (by decide)))
/-- the bits of a double, by both -/
theorem dbits {x : UInt64} (h : mg 1700 x) (h0 : nm0 x) : fX7_doubleBits x = some x.toInt64 ∧ fmJxe99ae_doubleToLongBits_ccdee x = some x.toInt64 := by
  refine ⟨?_, isNaN_64 (mg_nn h (by decide))⟩
  have hx := x.toNat_lt
  unfold mg at h
  unfold nm0 at h0
  rcases Nat.lt_or_ge x.toNat (2 ^ 63) with g | g
  · rw [Nat.mod_eq_of_lt g] at h
    by_cases z : x.toNat = 0
    · exact doubleBits_0 z
    · exact doubleBits_pos z (Nat.lt_trans h (by decide))
  · have e : x.toNat % 2 ^ 63 = x.toNat - 2 ^ 63 := by omega
    rw [e] at h
    have hn : (UInt64.ofNat (x.toNat - 2 ^ 63)).toNat = x.toNat - 2 ^ 63 := by
      rw [UInt64.toNat_ofNat']; exact Nat.mod_eq_of_lt (by omega)
    exact doubleBits_neg (y := UInt64.ofNat (x.toNat - 2 ^ 63)) (by rw [hn]; omega) (by rw [hn]; omega) (by rw [hn]; omega)
