/-! ===== chips, cloths, dyes, lots, batches: new ones by both ===== -/
theorem nI_ltJ {a b : Nat} (ha : a < 2 ^ 31) (hb : b < 2 ^ 31) : nI a < nI b ↔ a < b := by
  rw [Int32.lt_iff_toInt_lt, nI_toInt ha, nI_toInt hb]; omega
theorem nI_lt0 {a : Nat} (ha : a < 2 ^ 31) : ¬ nI a < 0 := fun q => by
  have := (nI_ltJ (b := 0) ha (by decide)).mp q
  omega
/-- a number within bounds, as all of them ask -/
theorem rng (v : Int32) (a b : Nat) (hb : b < 2 ^ 31) (hab : a ≤ b) : (∃ j, v = nI j ∧ a ≤ j ∧ j ≤ b ∧ ¬ v < nI a ∧ ¬ nI b < v ∧ v ≤ nI b ∧ fX11_isWithin v (nI a) (nI b) = some 1) ∨ ((v < nI a ∨ (¬ v < nI a ∧ nI b < v ∧ ¬ v ≤ nI b)) ∧ fX11_isWithin v (nI a) (nI b) = some 0) := by
  unfold fX11_isWithin
  by_cases q : v < nI a
  · right
    exact ⟨Or.inl q, if_pos q⟩
  rw [if_neg q]
  by_cases q2 : nI b < v
  · right
    refine ⟨Or.inr ⟨q, q2, fun z => ?_⟩, if_pos q2⟩
    have h1 := Int32.lt_iff_toInt_lt.mp q2
    have h2 := Int32.le_iff_toInt_le.mp z
    omega
  left
  rw [if_neg q2]
  have h1 : ¬ v.toInt < (nI a).toInt := fun z => q (Int32.lt_iff_toInt_lt.mpr z)
  have h2 : ¬ (nI b).toInt < v.toInt := fun z => q2 (Int32.lt_iff_toInt_lt.mpr z)
  rw [nI_toInt (by omega)] at h1 h2
  have hv : v = nI v.toInt.toNat := by
    apply Int32.toInt_inj.mp
    rw [nI_toInt (by omega)]; omega
  exact ⟨v.toInt.toNat, hv, by omega, by omega, q, q2, Int32.le_iff_toInt_le.mpr (by rw [nI_toInt (by omega)]; omega), rfl⟩
theorem mvd_fl2 {z : UInt32} (hz : fl2 z) : mvd z := by
  obtain ⟨a1, a2, a3, a4⟩ := f2d_fl2 hz
  exact ⟨ffn_nn (fl2_ffn hz), pw_mg (show _ < 1030 * 2 ^ 52 by omega) (by decide), by unfold nm0; omega, d2f_f2d hz, ⟨_, show _ < 1030 * 2 ^ 52 by omega, a4, Or.inl rfl⟩⟩
theorem fl2_0 : fl2 FP.fconst0 := by unfold fl2; decide
theorem rel_no {x m : Sto} {v : Int32} (h : Rel x m) : Rel (sI x 0 0 19 v) (sI (sI m 0 0 10 0) 0 0 9 v) := ⟨RelC_keep (KX_I (by decide)) (KM_t (KM_I (by decide)) (KM_I (by decide))) h.1, rfl, Cur_f (SCX_I (by decide)) (SCM_t (SCM_I (by decide)) (SCM_I (by decide))) h.2.2⟩
theorem rel_th {x m : Sto} (h : Rel x m) : Rel x (sI m 0 0 10 0) := ⟨RelC_keep (KX_r x) (KM_I (by decide)) h.1, h.2.1, Cur_f (SCX_r x) (SCM_I (by decide)) h.2.2⟩
theorem rel_cnt {x m : Sto} (h : Rel x m) {k : Nat} (hk : k < 6) : gI x 3 0 k = nI (cN x k) ∧ gI m 0 0 (cM k) = nI (cN x k) ∧ cN x k ≤ capC k := ⟨(h.1.2.1.1 k hk).1, (h.1.2.2.1.1 k hk).trans (h.1.2.1.1 k hk).1, (h.1.2.1.1 k hk).2⟩
theorem rel_acts {x m : Sto} (h : Rel x m) : gI m 0 0 44 = nI (iN x 18 0 3) ∧ iN x 18 0 3 ≤ 60 := ⟨h.1.2.2.2.1.trans h.1.1.2.1, h.1.1.2.2⟩
theorem rel_chip {x m m0 : Sto} {n : Nat} {v v2 : Nat → UInt32} {b : Int32} (h : Rel x m) (hn : cN x 0 = n) (hlt : n < 40) (k1 : KM m m0) (k2 : SCM m m0) (hv : ∀ k, k < 16 → fl2 (v k) ∧ v2 k = v k) : Rel (newS (putF x 20 n 16 v) ((iN x 18 0 2 + 1) % 60) (min (iN x 18 0 3 + 1) 60) 0 n) (actS (sI (putO (putO m0 1 0 (16 * (1 + n)) 16 v2) 2 0 (16 * n) 16 (fun _ => FP.fconst0)) 0 0 2 (nI (n + 1))) (iN x 18 0 3) (kA 0) b 0 0) := by
  have hx := h.1.2.1
  have c1 : cN x 1 ≤ 8 := (hx.1 1 (by decide)).2
  have c2 : cN x 2 ≤ 12 := (hx.1 2 (by decide)).2
  have c5 : cN x 5 ≤ 12 := (hx.1 5 (by decide)).2
  generalize hm1 : sI (putO (putO m0 1 0 (16 * (1 + n)) 16 v2) 2 0 (16 * n) 16 (fun _ => FP.fconst0)) 0 0 2 (nI (n + 1)) = m1
  have gi : ∀ f i j, (f = 0 → j ≠ 2) → gI m1 f i j = gI m0 f i j := fun f i j q => by
    rw [← hm1, gI_sI, if_neg (by omega)]; rfl
  have g1 : ∀ j, 16 ≤ j → ¬ (16 * (1 + n) ≤ j ∧ j < 16 * (1 + n) + 16) → ¬ (784 ≤ j ∧ j < 800) → j < 2144 → gF m1 1 0 j = gF m 1 0 j := fun j q1 q2 q3 q4 => by
    rw [← hm1]
    show gF (putO (putO m0 1 0 (16 * (1 + n)) 16 v2) 2 0 (16 * n) 16 (fun _ => FP.fconst0)) 1 0 j = _
    rw [putO_g (by omega), putO_g (by omega)]
    exact k1.2.1 1 0 j (by omega)
  have g2 : ∀ j, ¬ (16 * n ≤ j ∧ j < 16 * n + 16) → gF m1 2 0 j = gF m 2 0 j := fun j q => by
    rw [← hm1]
    show gF (putO (putO m0 1 0 (16 * (1 + n)) 16 v2) 2 0 (16 * n) 16 (fun _ => FP.fconst0)) 2 0 j = _
    rw [putO_g (by omega), putO_g (by omega)]
    exact k1.2.1 2 0 j (by omega)
  have gd : gD m1 = gD m0 := by rw [← hm1]; rfl
  have gI0 : ∀ f j, 12 ≤ f ∧ f ≤ 26 ∨ 34 ≤ f ∧ f ≤ 36 → gI m1 f 0 j = gI m f 0 j := fun f j q => (gi f 0 j (by omega)).trans (k1.1 f 0 j (by omega))
  have gD0 : ∀ f j, f = 37 ∨ f = 38 → gD m1 f 0 j = gD m f 0 j := fun f j q => by rw [gd]; exact k1.2.2 f 0 j q
  have hz := hx.2.1.2
  refine rel_new (by decide) h hn hlt ?_ (fun i j => putF_g (by omega)) (fun _ => rfl) (fun _ _ => rfl) (fun _ _ => putF_g (by omega)) (SCX_pF (by decide)) ?_ ?_ ?_ ?_ ?_ ?_ ?_
  · exact six (P := fun k => ∀ i, i < cN x k → eqX k x (putF x 20 n 16 v) i) (fun i hi k _ => ⟨putF_g (by omega), putF_g (by omega)⟩) (fun i hi k _ => putF_g (by omega)) (fun i hi => CX_r x i 2 (by decide)) (fun i hi => CX_r x i 3 (by decide)) (fun i hi => CX_r x i 4 (by decide)) (fun i hi => ⟨rfl, rfl, rfl, rfl, fun _ _ => ⟨rfl, rfl⟩, fun _ _ _ => putF_g (by omega)⟩)
  · intro k hk
    refine ⟨?_, ?_⟩
    · rw [show gF (newS (putF x 20 n 16 v) ((iN x 18 0 2 + 1) % 60) (min (iN x 18 0 3 + 1) 60) 0 n) 20 n k = v k from putF_h hk]
      exact (hv k hk).1
    · rw [show gF (newS (putF x 20 n 16 v) ((iN x 18 0 2 + 1) % 60) (min (iN x 18 0 3 + 1) 60) 0 n) 21 n k = gF x 21 n k from putF_g (by omega), hz n (by omega) hlt k hk]
      exact mvd_fl2 fl2_0
  · refine six (P := fun k => ∀ i, i < cN x k → CM k x m m1 i) (fun i hi k hk => ⟨g1 _ (by omega) (by omega) (by omega) (by omega), g2 _ (by omega)⟩) (fun i hi k hk => g1 _ (by omega) (by omega) (by omega) (by omega)) (fun i hi => ⟨gI0 _ _ (by decide), gI0 _ _ (by decide), gI0 _ _ (by decide), fun s hs => ⟨gI0 _ _ (by decide), fun k hk => ?_⟩⟩) (fun i hi => ⟨gI0 _ _ (by decide), gI0 _ _ (by decide), gI0 _ _ (by decide), fun k hk => ⟨gD0 _ _ (by decide), gD0 _ _ (by decide)⟩⟩) (fun i hi => ⟨gI0 _ _ (by decide), gI0 _ _ (by decide), gI0 _ _ (by decide), gI0 _ _ (by decide), gI0 _ _ (by decide)⟩) (fun i hi => ⟨gI0 _ _ (by decide), gI0 _ _ (by decide), gI0 _ _ (by decide), gI0 _ _ (by decide), fun k hk => ⟨gI0 _ _ (by decide), gI0 _ _ (by decide)⟩, fun q k hk => g1 _ (by omega) (by omega) (by omega) (by omega)⟩)
    have s6 : iN x 22 i 2 ≤ 6 := (hx.2.2.2.1 i hi).2.2.1.2
    exact g1 _ (by omega) (by omega) (by omega) (by omega)
  · intro k hk
    have ek := cM_v k hk
    by_cases e : k = 0
    · subst e; rw [if_pos rfl, ← hm1]; rfl
    · rw [if_neg e, gi 0 0 _ (by omega)]
      exact k1.1 0 0 _ (by omega)
  · refine SCM_t k2 ?_
    rw [← hm1]
    exact SCM_t (SCM_t (SCM_O (by omega)) (SCM_O (by omega))) (SCM_I (by decide))
  · exact fun f i q1 q2 => (gi f 0 i (by omega)).trans (k1.1 f 0 i (by omega))
  · intro f i q
    refine Eq.trans ?_ (k1.2.1 f 0 i (by omega))
    rw [← hm1]
    show gF (putO (putO m0 1 0 (16 * (1 + n)) 16 v2) 2 0 (16 * n) 16 (fun _ => FP.fconst0)) f 0 i = _
    rw [putO_g (by omega), putO_g (by omega)]
  · intro k hk
    refine ⟨?_, ?_⟩
    · rw [show gF (newS (putF x 20 n 16 v) ((iN x 18 0 2 + 1) % 60) (min (iN x 18 0 3 + 1) 60) 0 n) 20 n k = v k from putF_h hk, actS_F (by decide), ← hm1]
      show gF (putO (putO m0 1 0 (16 * (1 + n)) 16 v2) 2 0 (16 * n) 16 (fun _ => FP.fconst0)) 1 0 (16 * (1 + n) + k) = _
      rw [putO_g (by omega), putO_h hk]
      exact (hv k hk).2
    · rw [show gF (newS (putF x 20 n 16 v) ((iN x 18 0 2 + 1) % 60) (min (iN x 18 0 3 + 1) 60) 0 n) 21 n k = gF x 21 n k from putF_g (by omega), hz n (by omega) hlt k hk, actS_F (by decide), ← hm1]
      show gF (putO (putO m0 1 0 (16 * (1 + n)) 16 v2) 2 0 (16 * n) 16 (fun _ => FP.fconst0)) 2 0 (16 * n + k) = _
      rw [putO_h hk]
theorem b_chip {x m : Sto} (h : Rel x m) : ∃ r x' m', fX11_chip x = some (r, x') ∧ fX12_chip m = some (r, m') ∧ Rel x' m' := by
  have hx := h.1.2.1
  obtain ⟨_, c2, cap⟩ := rel_cnt h (k := 0) (by decide)
  obtain ⟨a1, a2⟩ := rel_acts h
  have cap : cN x 0 ≤ 40 := cap
  by_cases e : cN x 0 = 40
  · rw [e] at c2
    exact ⟨_, _, _, xChip0 e hx.1, mChip0 c2, rel_no h⟩
  · have hlt : cN x 0 < 40 := by omega
    refine ⟨_, _, _, xChip1 hlt hx.1 h.1.1, mChip1 c2 hlt a1 a2, ?_⟩
    exact rel_chip h rfl hlt (KM_I (by decide)) (SCM_I (by decide)) (fun k hk => ⟨(h.2.2.1.1 k hk).1, by
      rw [Nat.mul_zero, Nat.zero_add]; exact (h.2.2.1.1 k hk).2⟩)
