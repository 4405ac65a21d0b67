/-- the reference's store, the same in what LiveM reads -/
def SameM (s t : Sto) : Prop := (∀ f i j, (f = 0 ∧ j < 8) ∨ (12 ≤ f ∧ f ≤ 26) ∨ (34 ≤ f ∧ f ≤ 36) → gI s f i j = gI t f i j) ∧ (∀ f i j, f = 2 ∨ (f = 1 ∧ 16 ≤ j ∧ ¬ (784 ≤ j ∧ j < 800) ∧ j < 2144) → gF s f i j = gF t f i j) ∧ (∀ f i j, f = 37 ∨ f = 38 → gD s f i j = gD t f i j)
theorem SameM_r (s : Sto) : SameM s s := ⟨fun _ _ _ _ => rfl, fun _ _ _ _ => rfl, fun _ _ _ _ => rfl⟩
theorem SameM_t {s t u : Sto} (h : SameM s t) (k : SameM t u) : SameM s u := ⟨fun f i j a => (h.1 f i j a).trans (k.1 f i j a), fun f i j a => (h.2.1 f i j a).trans (k.2.1 f i j a), fun f i j a => (h.2.2 f i j a).trans (k.2.2 f i j a)⟩
theorem mO_S {s t : Sto} (h : SameM s t) {d cl k q : Nat} (hd : d < 12) (hcl : cl < 8) (hk : k < 16) (hq : q < 6) : mO t d cl k q = mO s d cl k q := by
  unfold mO
  rw [h.2.1 1 0 (16 * (62 + 6 * d + q) + k) (by omega), h.2.1 1 0 (16 * (41 + cl) + k) (by omega)]
theorem cM_lt (a : Nat) : cM a < 8 := by
  unfold cM
  by_cases h0 : a = 0
  · rw [if_pos h0]; decide
  rw [if_neg h0]
  by_cases h1 : a = 1
  · rw [if_pos h1]; decide
  rw [if_neg h1]
  by_cases h2 : a = 2
  · rw [if_pos h2]; decide
  rw [if_neg h2]
  by_cases h3 : a = 3
  · rw [if_pos h3]; decide
  rw [if_neg h3]
  by_cases h4 : a = 4
  · rw [if_pos h4]; decide
  rw [if_neg h4]; decide
theorem LiveM_S {x s t : Sto} (hx : CoreOk x) (h : SameM s t) (k : LiveM x s) : LiveM x t := by
  obtain ⟨c1, c2, c3, c4, c5, c6, c7⟩ := k
  have b0 : cN x 0 ≤ 40 := (hx.1 0 (by decide)).2
  have b1 : cN x 1 ≤ 8 := (hx.1 1 (by decide)).2
  have b2 : cN x 2 ≤ 12 := (hx.1 2 (by decide)).2
  have b5 : cN x 5 ≤ 12 := (hx.1 5 (by decide)).2
  refine ⟨?_, ?_, ?_, ?_, ?_, ?_, ?_⟩
  · intro a ha
    rw [← h.1 0 0 (cM a) (Or.inl ⟨rfl, cM_lt a⟩)]; exact c1 a ha
  · intro i hi a ha
    rw [← h.2.1 1 0 (16 * (1 + i) + a) (by omega), ← h.2.1 2 0 (16 * i + a) (by omega)]
    exact c2 i hi a ha
  · intro i hi a ha
    rw [← h.2.1 1 0 (16 * (41 + i) + a) (by omega)]
    exact c3 i hi a ha
  · intro d hd
    obtain ⟨e1, e2, e3, e4⟩ := c4 d hd
    obtain ⟨o1, _, o3, _⟩ := hx.2.2.2.1 d hd
    rw [← h.1 12 0 d (by omega), ← h.1 13 0 d (by omega), ← h.1 15 0 d (by omega)]
    refine ⟨e1, e2, e3, fun s hs => ⟨(h.1 14 0 _ (by omega)).symm.trans (e4 s hs).1, fun a ha => ?_⟩⟩
    have s6 : iN x 22 d 2 ≤ 6 := o3.2
    have cl8 := o1.2
    rw [← h.2.1 1 0 (16 * (62 + 6 * d + s) + a) (by omega), mO_S h (by omega) (by omega) ha (by omega)]
    exact (e4 s hs).2 a ha
  · intro i hi
    obtain ⟨e1, e2, e3, e4⟩ := c5 i hi
    rw [← h.1 34 0 i (by omega), ← h.1 35 0 i (by omega), ← h.1 36 0 i (by omega)]
    refine ⟨e1, e2, e3, fun a ha => ?_⟩
    rw [← h.2.2 37 0 _ (by decide), ← h.2.2 38 0 _ (by decide)]
    exact e4 a ha
  · intro l hl
    rw [← h.1 16 0 l (by omega), ← h.1 17 0 l (by omega), ← h.1 18 0 l (by omega), ← h.1 19 0 l (by omega), ← h.1 20 0 l (by omega)]
    exact c6 l hl
  · intro b hb
    obtain ⟨e1, e2, e3, e4, e5, e6⟩ := c7 b hb
    rw [← h.1 21 0 b (by omega), ← h.1 22 0 b (by omega), ← h.1 23 0 b (by omega), ← h.1 26 0 b (by omega)]
    refine ⟨e1, e2, e3, e4, fun a ha => ?_, fun hm a ha => ?_⟩
    · rw [← h.1 24 0 _ (by omega), ← h.1 25 0 _ (by omega)]
      exact e5 a ha
    · rw [← h.2.1 1 0 (16 * (50 + b) + a) (by omega)]
      exact e6 hm a ha
/-- the parts that wait, in both stores -/
def PartsOk (x : Sto) : Prop := isN x 0 0 11 6 ∧ ∀ p, p < iN x 0 0 11 → (isN x 12 p 0 4 ∧ (iN x 12 p 0 = 4 ∨ iN x 12 p 0 = 2)) ∧ isN x 12 p 1 20 ∧ isN x 12 p 2 1000000
def LvParts (x m : Sto) : Prop := gI m 0 0 8 = gI x 0 0 11 ∧ ∀ p, p < iN x 0 0 11 → gI m 32 0 p = (if iN x 12 p 0 = 4 then 1 else 0) ∧ gI m 30 0 p = gI x 12 p 1 ∧ gI m 31 0 p = gI x 12 p 2
/-- what the p-th part adds -/
def ptC (x : Sto) (k p : Nat) : UInt64 := partC x (iN x 12 p 0) (iN x 12 p 1) (iN x 12 p 2) k
theorem ptC_b {x : Sto} (h : CoreOk x) (hp : PartsOk x) {k : Nat} (hk : k < 16) : ∀ p, p < iN x 0 0 11 → iv 10240000000000 (ptC x k p) ∧ lw 625 (ptC x k p) := fun p q => partC_b h (Nat.le_trans (hp.2 p q).2.2.2 (by decide)) hk
theorem xParts {x : Sto} (h : CoreOk x) (hp : PartsOk x) (hq : ∀ k, k < 16 → iv 1024 (gD x 43 0 k) ∧ lw 625 (gD x 43 0 k)) : (lp (σ := (Int32 × Sto)) (ρ := Sto) (un2 fun (v10 : Int32) (t11 : Sto) =>
         if gI t11 0 (0) 11 ≤ v10 then (
          some (.inr t11)) else (
          ck (0 ≤ v10.toInt ∧ v10.toInt < (6 : Int)) (
           ck (0 ≤ (0 : Int32).toInt ∧ (0 : Int32).toInt < (lIX (12) (v10.toNatClampNeg) : Int)) (
            ck (0 ≤ v10.toInt ∧ v10.toInt < (6 : Int)) (
             ck (0 ≤ (1 : Int32).toInt ∧ (1 : Int32).toInt < (lIX (12) (v10.toNatClampNeg) : Int)) (
              ck (0 ≤ v10.toInt ∧ v10.toInt < (6 : Int)) (
               ck (0 ≤ (2 : Int32).toInt ∧ (2 : Int32).toInt < (lIX (12) (v10.toNatClampNeg) : Int)) (
                (fX11_mixPart (gI t11 (12) (v10.toNatClampNeg) (0)) (gI t11 (12) (v10.toNatClampNeg) (1)) ((gI t11 (12) (v10.toNatClampNeg) (2)).toInt64) t11).bind (fun (t29 : Sto) =>
                 lt1 (v10 + Int32.ofInt (1)) fun (v31 : Int32) =>
                 some (.inl (v31, t29))))))))))) 4000 ((0 : Int32), x)) = some (putD x 43 0 16 fun k => qSum (gD x 43 0 k) (ptC x k) (iN x 0 0 11)) := by
  have n6 := hp.1.2
  have hs := lp_seq (body := un2 fun (v10 : Int32) (t11 : Sto) =>
         if gI t11 0 (0) 11 ≤ v10 then (
          some (.inr t11)) else (
          ck (0 ≤ v10.toInt ∧ v10.toInt < (6 : Int)) (
           ck (0 ≤ (0 : Int32).toInt ∧ (0 : Int32).toInt < (lIX (12) (v10.toNatClampNeg) : Int)) (
            ck (0 ≤ v10.toInt ∧ v10.toInt < (6 : Int)) (
             ck (0 ≤ (1 : Int32).toInt ∧ (1 : Int32).toInt < (lIX (12) (v10.toNatClampNeg) : Int)) (
              ck (0 ≤ v10.toInt ∧ v10.toInt < (6 : Int)) (
               ck (0 ≤ (2 : Int32).toInt ∧ (2 : Int32).toInt < (lIX (12) (v10.toNatClampNeg) : Int)) (
                (fX11_mixPart (gI t11 (12) (v10.toNatClampNeg) (0)) (gI t11 (12) (v10.toNatClampNeg) (1)) ((gI t11 (12) (v10.toNatClampNeg) (2)).toInt64) t11).bind (fun (t29 : Sto) =>
                 lt1 (v10 + Int32.ofInt (1)) fun (v31 : Int32) =>
                 some (.inl (v31, t29)))))))))) ) (fun p => (nI p, putD x 43 0 16 fun k => qSum (gD x 43 0 k) (ptC x k) p)) (r := putD x 43 0 16 fun k => qSum (gD x 43 0 k) (ptC x k) (iN x 0 0 11)) (iN x 0 0 11) 4000 0 (fun p _ hpn => by
      have hpn : p < iN x 0 0 11 := by omega
      obtain ⟨⟨a1, a2⟩, b1, c1⟩ := hp.2 p hpn
      have hS : SameX x (putD x 43 0 16 fun k => qSum (gD x 43 0 k) (ptC x k) p) := SameX_pD (by decide)
      have hqb := fun k (hk : k < 16) => qSum_b (hq k hk) (N := iN x 0 0 11) (by omega) (ptC_b h hp hk) p (by omega)
      have w20 : iN x 12 p 1 < 2 ^ 31 := Nat.lt_of_le_of_lt b1.2 (by decide)
      have g6 : iN x 12 p 2 ≤ 10000000 := Nat.le_trans c1.2 (by decide)
      have hm := xPart (CoreOk_S hS h) (a := iN x 12 p 0) (w := iN x 12 p 1) (g := iN x 12 p 2) (c := 1024 + 6 * 10240000000000) a2 w20 g6 (fun k hk => by
        rw [putD_h hk]
        exact iv_mono (hqb k hk).1 (by omega)) (by decide)
      dsimp only [un2]
      have eI : ∀ i j, gI (putD x 43 0 16 fun k => qSum (gD x 43 0 k) (ptC x k) p) 12 i j = gI x 12 i j := fun _ _ => rfl
      have e11 : gI (putD x 43 0 16 fun k => qSum (gD x 43 0 k) (ptC x k) p) 0 0 11 = nI (iN x 0 0 11) := hp.1.1
      have l12 : lIX 12 p = 3 := if_pos (by omega)
      rw [e11, if_neg (nI_gt (by omega) hpn), ck_t (by exact ixl (by omega) (by omega)), nI_cl (by omega), l12, ck_t (by decide), ck_t (by exact ixl (by omega) (by omega)), ck_t (by decide), ck_t (by exact ixl (by omega) (by omega)), ck_t (by decide), eI, eI, eI, a1.1, b1.1, c1.1, nI_64 (by omega), hm, Option.bind_some, lt1_e, nI_s, putD_p]
      refine congrArg (fun s => some (Sum.inl (nI (p + 1), s))) (putD_e fun k hk => ?_)
      rw [putD_h hk, partC_S hS]
      rfl) (by
      rw [Nat.zero_add]
      dsimp only [un2]
      have e11 : gI (putD x 43 0 16 fun k => qSum (gD x 43 0 k) (ptC x k) (iN x 0 0 11)) 0 0 11 = nI (iN x 0 0 11) := hp.1.1
      rw [e11, if_pos ((nI_leI (by omega) (by omega)).mpr (Nat.le_refl _))]) (by omega)
  have e0 : (putD x 43 0 16 fun k => qSum (gD x 43 0 k) (ptC x k) 0) = x := putD_self fun k _ => rfl
  rw [e0] at hs
  exact hs
