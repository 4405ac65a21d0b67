/-! ===== what holds of the class's store (CoreOk), and what the reference's has of it (LiveM) ===== -/
def iN (x : Sto) (f i j : Nat) : Nat := (gI x f i j).toNatClampNeg
/-- a cell with a whole number, at most b -/
def isN (x : Sto) (f i j b : Nat) : Prop := gI x f i j = nI (iN x f i j) ∧ iN x f i j ≤ b
def capC (k : Nat) : Nat := if k = 0 then 40 else if k = 1 then 8 else if k = 4 then 20 else 12
/-- how many there are: 0 chips, 1 cloths, 2 dyes, 3 solids, 4 lots, 5 batches -/
abbrev cN (x : Sto) (k : Nat) : Nat := iN x 3 0 k
def CntOk (x : Sto) : Prop := ∀ k, k < 6 → isN x 3 0 k (capC k)
/-- a double of any sign, by its magnitude: not minus 0 -/
def sg (K L : Nat) (z : UInt64) : Prop := ∃ p : UInt64, pw K p ∧ lw L p ∧ (z = p ∨ (z = FP.dneg p ∧ p.toNat ≠ 0))
/-- a drift's float: a float's double of any sign, not minus 0 -/
def mvd (z : UInt32) : Prop := FP.Core.val32 z ≠ .nan ∧ mg 1030 (FP.f2d z) ∧ nm0 (FP.f2d z) ∧ FP.d2f (FP.f2d z) = z ∧ sg 1030 874 (FP.f2d z)
def ChipOk (x : Sto) : Prop := (∀ i, i < cN x 0 → ∀ k, k < 16 → fl2 (gF x 20 i k) ∧ mvd (gF x 21 i k)) ∧ ∀ i, cN x 0 ≤ i → i < 40 → ∀ k, k < 16 → gF x 21 i k = FP.fconst0
def ClothOk (x : Sto) : Prop := ∀ i, i < cN x 1 → ∀ k, k < 16 → fl2 (gF x 6 i k)
def DyesOk (x : Sto) : Prop := ∀ d, d < cN x 2 → (isN x 22 d 0 12 ∧ iN x 22 d 0 < cN x 1) ∧ isN x 22 d 1 100000 ∧ isN x 22 d 2 6 ∧ (∀ s, s < iN x 22 d 2 → isN x 23 d s 100000) ∧ ∀ k, k < 16 → DyeOk (iN x 22 d 2) (iN x 23 d) (fun s => gD x 25 (6 * d + s) k)
def SolidOk (x : Sto) : Prop := ∀ i, i < cN x 3 → isN x 26 i 0 1 ∧ isN x 26 i 1 5 ∧ isN x 26 i 2 1 ∧ ∀ k, k < 3 → mg 1060 (gD x 27 i k) ∧ ∃ w, 1 ≤ w ∧ w ≤ 1000 ∧ gD x 28 i k = FP.ddiv (FP.i2d (nI w)) (4621819117588971520 : UInt64)
def LotOk (x : Sto) : Prop := ∀ l, l < cN x 4 → (isN x 29 l 0 12 ∧ iN x 29 l 0 < cN x 2) ∧ (isN x 29 l 1 1000 ∧ 1 ≤ iN x 29 l 1) ∧ (isN x 29 l 2 1000 ∧ 1 ≤ iN x 29 l 2) ∧ isN x 29 l 3 1000000000 ∧ isN x 29 l 4 1000000000 ∧ iN x 29 l 4 ≤ iN x 29 l 3
def BatchOk (x : Sto) : Prop := ∀ b, b < cN x 5 → (isN x 30 b 0 12 ∧ iN x 30 b 0 < cN x 1) ∧ (isN x 30 b 1 1000 ∧ 1 ≤ iN x 30 b 1) ∧ isN x 30 b 2 8 ∧ isN x 30 b 5 1 ∧ (∀ k, k < iN x 30 b 2 → (isN x 31 b k 20 ∧ iN x 31 b k < cN x 4) ∧ isN x 32 b k 1000000 ∧ 1 ≤ iN x 32 b k ∧ 1000 * iN x 32 b k ≤ iN x 29 (iN x 31 b k) 3 - iN x 29 (iN x 31 b k) 4) ∧ (∀ j k, j < k → k < iN x 30 b 2 → iN x 31 b j ≠ iN x 31 b k) ∧ (iN x 30 b 5 = 1 → ∀ k, k < 16 → fl2 (gF x 33 b k))
def CoreOk (x : Sto) : Prop := CntOk x ∧ ChipOk x ∧ ClothOk x ∧ DyesOk x ∧ SolidOk x ∧ LotOk x ∧ BatchOk x
/-- the reference's number of a count: fields 2 to 7 -/
def cM (k : Nat) : Nat := if k = 0 then 2 else if k = 1 then 3 else if k = 2 then 4 else if k = 3 then 5 else if k = 4 then 6 else 7
def LvCnt (x m : Sto) : Prop := ∀ k, k < 6 → gI m 0 0 (cM k) = gI x 3 0 k
def LvChip (x m : Sto) : Prop := ∀ i, i < cN x 0 → ∀ k, k < 16 → gF m 1 0 (16 * (1 + i) + k) = gF x 20 i k ∧ gF m 2 0 (16 * i + k) = gF x 21 i k
def LvCloth (x m : Sto) : Prop := ∀ i, i < cN x 1 → ∀ k, k < 16 → gF m 1 0 (16 * (41 + i) + k) = gF x 6 i k
def LvDye (x m : Sto) : Prop := ∀ d, d < cN x 2 → gI m 12 0 d = gI x 22 d 0 ∧ gI m 13 0 d = gI x 22 d 2 ∧ gI m 15 0 d = gI x 22 d 1 ∧ ∀ s, s < iN x 22 d 2 → gI m 14 0 (6 * d + s) = gI x 23 d s ∧ ∀ k, k < 16 → fl2 (gF m 1 0 (16 * (62 + 6 * d + s) + k)) ∧ gD x 25 (6 * d + s) k = mO m d (iN x 22 d 0) k s
def LvSolid (x m : Sto) : Prop := ∀ i, i < cN x 3 → gI m 34 0 i = gI x 26 i 0 ∧ gI m 35 0 i = gI x 26 i 1 ∧ gI m 36 0 i = gI x 26 i 2 ∧ ∀ k, k < 3 → gD m 37 0 (3 * i + k) = gD x 27 i k ∧ gD m 38 0 (3 * i + k) = gD x 28 i k
def LvLot (x m : Sto) : Prop := ∀ l, l < cN x 4 → gI m 16 0 l = gI x 29 l 0 ∧ gI m 17 0 l = gI x 29 l 1 ∧ gI m 18 0 l = gI x 29 l 2 ∧ gI m 19 0 l = gI x 29 l 3 ∧ gI m 20 0 l = gI x 29 l 4
def LvBatch (x m : Sto) : Prop := ∀ b, b < cN x 5 → gI m 21 0 b = gI x 30 b 0 ∧ gI m 22 0 b = gI x 30 b 1 ∧ gI m 23 0 b = gI x 30 b 2 ∧ gI m 26 0 b = gI x 30 b 5 ∧ (∀ k, k < iN x 30 b 2 → gI m 24 0 (8 * b + k) = gI x 31 b k ∧ gI m 25 0 (8 * b + k) = gI x 32 b k) ∧ (iN x 30 b 5 = 1 → ∀ k, k < 16 → gF m 1 0 (16 * (50 + b) + k) = gF x 33 b k)
def LiveM (x m : Sto) : Prop := LvCnt x m ∧ LvChip x m ∧ LvCloth x m ∧ LvDye x m ∧ LvSolid x m ∧ LvLot x m ∧ LvBatch x m
theorem cap_b (k : Nat) : capC k ≤ 40 := by
  unfold capC; split <;> (try split) <;> (try split) <;> omega
theorem dyeC_e {n : Nat} {G H : Nat → Nat} {O P : Nat → UInt64} {g : UInt64} (hG : ∀ s, s < n → G s = H s) (hO : ∀ s, s < n → O s = P s) : dyeC n G O g = dyeC n H P g := by
  unfold dyeC
  by_cases n0 : n = 0
  · rw [if_pos n0, if_pos n0]
  rw [if_neg n0, if_neg n0]
  have hp : ∀ m, m ≤ n → fstP G g m = fstP H g m := by
    intro m
    induction m with
    | zero => intro _; rfl
    | succ m ih =>
      intro hm
      unfold fstP
      rw [ih (by omega), hG m (by omega)]
  rw [hp n (Nat.le_refl _)]
  by_cases g0 : g.toNat = 0
  · rw [if_pos g0, if_pos g0]
  rw [if_neg g0, if_neg g0]
  have h1 := (fstP_is H g n).1
  generalize fstP H g n = p at h1
  unfold dyeV
  by_cases p0 : p = 0
  · rw [if_pos p0, if_pos p0, hG 0 (by omega), hO 0 (by omega)]
  rw [if_neg p0, if_neg p0]
  by_cases pn : p = n
  · rw [if_pos pn, if_pos pn, hG (n - 1) (by omega), hO (n - 1) (by omega)]
  · rw [if_neg pn, if_neg pn, hG (p - 1) (by omega), hO (p - 1) (by omega), hG p (by omega), hO p (by omega)]
/-- what an amount of a dye adds to a band, read from the class's store -/
def mixD (x : Sto) (d : Nat) (g : UInt64) (k : Nat) : UInt64 := dyeC (iN x 22 d 2) (iN x 23 d) (fun s => gD x 25 (6 * d + s) k) g
theorem mixD_b {x : Sto} {d cg : Nat} {g : UInt64} (h : CoreOk x) (hd : d < cN x 2) (hg : iv cg g) (lg : lw 1013 g) (hc : cg ≤ 10000000000) (hc2 : 2 ≤ cg) {k : Nat} (hk : k < 16) : iv (1024 * cg) (mixD x d g k) ∧ lw 625 (mixD x d g k) :=
  dyeC_b ((h.2.2.2.1 d hd).2.2.2.2 k hk) hg lg hc hc2
theorem d12 {x : Sto} {d : Nat} (h : CoreOk x) (hd : d < cN x 2) : d < 12 := Nat.lt_of_lt_of_le hd (h.1 2 (by decide)).2
theorem l20 {x : Sto} {l : Nat} (h : CoreOk x) (hl : l < cN x 4) : l < 20 := Nat.lt_of_lt_of_le hl (h.1 4 (by decide)).2
theorem xMixD {x : Sto} {d cg c : Nat} {g : UInt64} (h : CoreOk x) (hd : d < cN x 2) (hg : iv cg g) (lg : lw 1013 g) (hc : cg ≤ 10000000000) (hc2 : 2 ≤ cg) (hq : ∀ k, k < 16 → iv c (gD x 43 0 k)) (hcc : c + 1024 * cg ≤ 2 ^ 50) : fX6_add d g x = some (putD x 43 0 16 fun k => FP.dadd (gD x 43 0 k) (mixD x d g k)) := by
  obtain ⟨_, _, h3, h4, h5⟩ := h.2.2.2.1 d hd
  exact xAdd (d12 h hd) h3.1 (fun s hs => (h4 s hs).1) h5 hg lg hc hc2 hq hcc
theorem mMixD {x m : Sto} {d cg k : Nat} {g : UInt64} (h : CoreOk x) (hm : LiveM x m) (hd : d < cN x 2) (hk : k < 16) (hg : iv cg g) (lg : lw 1013 g) (hc : cg ≤ 10000000000) : fX12_dyeAt (nI d) g (nI k) m = some (mixD x d g k) := by
  obtain ⟨h1, _, h3, h4, h5⟩ := h.2.2.2.1 d hd
  obtain ⟨e1, e2, _, e4⟩ := hm.2.2.2.1 d hd
  have hO : ∀ s, s < iN x 22 d 2 → mO m d (iN x 22 d 0) k s = gD x 25 (6 * d + s) k := fun s hs => ((e4 s hs).2 k hk).2.symm
  have hcl8 : iN x 22 d 0 < 8 := Nat.lt_of_lt_of_le h1.2 (h.1 1 (by decide)).2
  have hcl := hm.2.2.1 (iN x 22 d 0) h1.2 k hk
  have hfl := h.2.2.1 (iN x 22 d 0) h1.2 k hk
  have ok : DyeOk (iN x 22 d 2) (iN x 23 d) (mO m d (iN x 22 d 0) k) := by
    obtain ⟨o1, o2, o3, o4⟩ := h5 k hk
    exact ⟨o1, o2, o3, fun s hs => by rw [hO s hs]; exact o4 s hs⟩
  rw [mDyeAt (d12 h hd) hk hcl8 (e1.trans h1.1.1) (e2.trans h3.1) (fun s hs => (e4 s hs).1.trans (h4 s hs).1) ok (fun s hs => ((e4 s hs).2 k hk).1) (by rw [hcl]; exact hfl) hg lg hc]
  exact congrArg some (dyeC_e (fun _ _ => rfl) hO)
theorem mMixL {x m : Sto} {l ng k : Nat} (h : CoreOk x) (hm : LiveM x m) (hl : l < cN x 4) (hk : k < 16) (hng : ng ≤ 10000000) : fX12_lotAt (nI l) (FP.l2d (lN ng)) (nI k) m = some (mixD x (iN x 29 l 0) (wo (FP.l2d (lN ng)) (iN x 29 l 1) (iN x 29 l 2)) k) := by
  obtain ⟨a1, a2, a3, _⟩ := h.2.2.2.2.2.1 l hl
  obtain ⟨b1, b2, b3, _⟩ := hm.2.2.2.2.2.1 l hl
  obtain ⟨w1, w2, w3⟩ := wo_b (up := iN x 29 l 1) (down := iN x 29 l 2) hng ⟨a2.2, a2.1.2⟩ ⟨a3.2, a3.1.2⟩
  have hd := mMixD h hm a1.2 hk w2 w3 (Nat.le_refl _)
  unfold fX12_lotAt
  have l2 := l20 h hl
  rw [ck_t (by rw [show lIM 16 0 = 20 from rfl]; exact ixl (by omega) (by omega)), ck_t (by rw [show lIM 17 0 = 20 from rfl]; exact ixl (by omega) (by omega)), nI_cl (by omega), b2.trans a2.1.1, nd_t (n64_of w1), ck_t (by rw [show lIM 18 0 = 20 from rfl]; exact ixl (by omega) (by omega)), b3.trans a3.1.1, b1.trans a1.1.1]
  refine (nd_t (n64_of (show fnn (wo (FP.l2d (lN ng)) (iN x 29 l 1) (iN x 29 l 2)) from w2.2))).trans ?_
  refine (congrArg (fun o => Option.bind o _) hd).trans ?_
  rfl
