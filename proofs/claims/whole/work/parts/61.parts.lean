theorem CoreOk_S {s t : Sto} (h : SameX s t) (k : CoreOk s) : CoreOk t := by
  obtain ⟨h1, _, h3, h4⟩ := h
  have hi : iN t = iN s := by
    funext a b c
    unfold iN
    rw [h1]
  have f20 : ∀ i k, gF t 20 i k = gF s 20 i k := fun i k => (h3 20 i k (by decide)).symm
  have f21 : ∀ i k, gF t 21 i k = gF s 21 i k := fun i k => (h3 21 i k (by decide)).symm
  have f6 : ∀ i k, gF t 6 i k = gF s 6 i k := fun i k => (h3 6 i k (by decide)).symm
  have f33 : ∀ i k, gF t 33 i k = gF s 33 i k := fun i k => (h3 33 i k (by decide)).symm
  have d25 : ∀ i k, gD t 25 i k = gD s 25 i k := fun i k => (h4 25 i k (by decide) (by decide) (by decide) (by decide) (by decide) (by decide)).symm
  have d27 : ∀ i k, gD t 27 i k = gD s 27 i k := fun i k => (h4 27 i k (by decide) (by decide) (by decide) (by decide) (by decide) (by decide)).symm
  have d28 : ∀ i k, gD t 28 i k = gD s 28 i k := fun i k => (h4 28 i k (by decide) (by decide) (by decide) (by decide) (by decide) (by decide)).symm
  unfold CoreOk CntOk ChipOk ClothOk DyesOk SolidOk LotOk BatchOk isN cN at *
  simp only [hi, ← h1, f20, f21, f6, f33, d25, d27, d28]
  exact k
theorem mixD_S {s t : Sto} (h : SameX s t) (d : Nat) (g : UInt64) (k : Nat) : mixD t d g k = mixD s d g k := by
  obtain ⟨h1, _, h3, h4⟩ := h
  have hi : iN t = iN s := by
    funext a b c
    unfold iN
    rw [h1]
  have d25 : ∀ i k, gD t 25 i k = gD s 25 i k := fun i k => (h4 25 i k (by decide) (by decide) (by decide) (by decide) (by decide) (by decide)).symm
  unfold mixD
  simp only [hi, d25]
def qSum (q : UInt64) (c : Nat → UInt64) : Nat → UInt64
  | 0 => q
  | n + 1 => FP.dadd (qSum q c n) (c n)
theorem qSum_b {q : UInt64} {c : Nat → UInt64} (hq : iv 1024 q ∧ lw 625 q) {N : Nat} (hN : N ≤ 20) (hc : ∀ i, i < N → iv 10240000000000 (c i) ∧ lw 625 (c i)) : ∀ n, n ≤ N → iv (1024 + n * 10240000000000) (qSum q c n) ∧ lw 625 (qSum q c n)
  | 0, _ => ⟨iv_mono hq.1 (by omega), hq.2⟩
  | n + 1, hn => by
    obtain ⟨a1, a2⟩ := qSum_b hq hN hc n (by omega)
    obtain ⟨b1, b2⟩ := hc n (by omega)
    exact ⟨iv_mono (iv_add a1 b1 (by omega)) (by omega), lw_add a2 b2 a1.2 b1.2 (by decide)⟩
/-- what a part adds: its kind (4 lots, else dyes), which, grams -/
def partC (x : Sto) (kind w g : Nat) (k : Nat) : UInt64 := if kind = 4 then (if w < cN x 4 then mixD x (iN x 29 w 0) (wo (FP.l2d (lN g)) (iN x 29 w 1) (iN x 29 w 2)) k else FP.dconst0) else (if w < cN x 2 then mixD x w (FP.l2d (lN g)) k else FP.dconst0)
theorem partC_S {s t : Sto} (h : SameX s t) (a w g k : Nat) : partC t a w g k = partC s a w g k := by
  have hi : iN t = iN s := by
    funext a b c
    unfold iN
    rw [h.1]
  unfold partC cN
  simp only [hi, mixD_S h]
theorem partC_b {x : Sto} (h : CoreOk x) {a w g k : Nat} (hg : g ≤ 10000000) (hk : k < 16) : iv 10240000000000 (partC x a w g k) ∧ lw 625 (partC x a w g k) := by
  unfold partC
  split
  · split
    · rename_i hl
      obtain ⟨a1, a2, a3, _⟩ := h.2.2.2.2.2.1 w hl
      obtain ⟨w1, w2, w3⟩ := wo_b (up := iN x 29 w 1) (down := iN x 29 w 2) hg ⟨a2.2, a2.1.2⟩ ⟨a3.2, a3.1.2⟩
      obtain ⟨c1, c2⟩ := mixD_b h a1.2 w2 w3 (Nat.le_refl _) (by decide) hk
      exact ⟨iv_mono c1 (by decide), c2⟩
    · exact ⟨iv_zero, lw_zero⟩
  · split
    · rename_i hl
      obtain ⟨g1, g2⟩ := am_b hg (Nat.le_refl _)
      obtain ⟨c1, c2⟩ := mixD_b h hl (iv_mono g1 (show 10000000 ≤ 10000000000 by decide)) (lw_mono g2 (by decide)) (Nat.le_refl _) (by decide) hk
      exact ⟨iv_mono c1 (by decide), c2⟩
    · exact ⟨iv_zero, lw_zero⟩
theorem xThere {x : Sto} (h : CoreOk x) {a : Nat} (ha : a < 6) (i : Int32) : (∃ j, i = nI j ∧ j < cN x a ∧ fX11_isThere (nI a) i x = some 1) ∨ ((∀ j, j < cN x a → i ≠ nI j) ∧ fX11_isThere (nI a) i x = some 0) := by
  have c1 : gI x 3 0 a = nI (cN x a) := (h.1 a ha).1
  have c2 : cN x a ≤ capC a := (h.1 a ha).2
  have hc := cap_b a
  unfold fX11_isThere
  rcases pk_ix i (n := cN x a) (by omega) with q | q | ⟨j, q1, q2⟩
  · right
    refine ⟨fun j hj e => ?_, if_pos q⟩
    rw [e] at q
    have := Int32.lt_iff_toInt_lt.mp q
    rw [nI_toInt (by omega)] at this
    rw [show (0 : Int32).toInt = 0 from rfl] at this
    omega
  · right
    have q0 : ¬ i < 0 := fun w => by
      have h1 := Int32.lt_iff_toInt_lt.mp w
      have h2 := Int32.le_iff_toInt_le.mp q
      rw [nI_toInt (by omega)] at h2
      rw [show (0 : Int32).toInt = 0 from rfl] at h1
      omega
    refine ⟨fun j hj e => ?_, ?_⟩
    · rw [e] at q
      have := (nI_leI (by omega) (by omega)).mp q
      omega
    · rw [if_neg q0, ck_t (by rw [show lIX 3 0 = 6 from rfl]; exact ixl (by omega) (by omega)), nI_cl (by omega), c1, if_pos q]
  · left
    have q0 : ¬ i < 0 := fun w => by
      have h1 := Int32.lt_iff_toInt_lt.mp w
      rw [q2, nI_toInt (by omega)] at h1
      rw [show (0 : Int32).toInt = 0 from rfl] at h1
      omega
    refine ⟨j, q2, q1, ?_⟩
    rw [if_neg q0, ck_t (by rw [show lIX 3 0 = 6 from rfl]; exact ixl (by omega) (by omega)), nI_cl (by omega), c1, q2, if_neg (nI_gt (by omega) q1)]
theorem xPart {x : Sto} (h : CoreOk x) {a w g c : Nat} (ha : a = 4 ∨ a = 2) (hw : w < 2 ^ 31) (hg : g ≤ 10000000) (hq : ∀ k, k < 16 → iv c (gD x 43 0 k)) (hcc : c + 10240000000000 ≤ 2 ^ 50) : fX11_mixPart (nI a) (nI w) (lN g) x = some (putD x 43 0 16 fun k => FP.dadd (gD x 43 0 k) (partC x a w g k)) := by
  unfold fX11_mixPart
  have ha6 : a < 6 := by omega
  rcases xThere h ha6 (nI w) with ⟨j, e1, e2, e3⟩ | ⟨e1, e2⟩
  · have hj : j < 2 ^ 31 := by
      have : cN x a ≤ capC a := (h.1 a ha6).2
      have := cap_b a
      omega
    have ej : w = j := (nI_inj hw hj).mp e1
    subst ej
    rw [e3, Option.bind_some, if_neg (by decide)]
    rcases ha with e | e
    · subst e
      have hl : w < cN x 4 := e2
      have l2 := l20 h hl
      obtain ⟨a1, a2, a3, _⟩ := h.2.2.2.2.2.1 w hl
      obtain ⟨w1, w2, w3⟩ := wo_b (up := iN x 29 w 1) (down := iN x 29 w 2) hg ⟨a2.2, a2.1.2⟩ ⟨a3.2, a3.1.2⟩
      have d2 := d12 h a1.2
      rw [if_pos (show nI 4 = (4 : Int32) from rfl), ck_t (by exact ixl (by omega) (by omega)), nI_cl hw, a1.1.1, ck_t (by exact ixl (by omega) (by omega)), ck_t (by exact ixl (by omega) (by omega)), xWorth (up := iN x 29 w 1) (down := iN x 29 w 2) ⟨a2.1.1, a2.2, a2.1.2⟩ ⟨a3.1.1, a3.2, a3.1.2⟩ hg, Option.bind_some, nI_cl (by omega), xMixD h a1.2 w2 w3 (Nat.le_refl _) (by decide) hq (by omega), Option.bind_some]
      refine congrArg some (putD_e fun k hk => ?_)
      unfold partC
      rw [if_pos rfl, if_pos hl]
    · subst e
      have hl : w < cN x 2 := e2
      have d2 := d12 h hl
      obtain ⟨g1, g2⟩ := am_b hg (Nat.le_refl _)
      rw [if_neg (show ¬ nI 2 = (4 : Int32) by decide), ck_t (by exact ixl (by omega) (by omega)), nI_cl hw, xMixD h hl (iv_mono g1 (show 10000000 ≤ 10000000000 by decide)) (lw_mono g2 (by decide)) (Nat.le_refl _) (by decide) hq (by omega), Option.bind_some]
      refine congrArg some (putD_e fun k hk => ?_)
      unfold partC
      rw [if_neg (by decide), if_pos hl]
  · rw [e2, Option.bind_some, if_pos rfl]
    have hn : ¬ w < cN x a := fun q => e1 w q rfl
    refine congrArg some (putD_self fun k hk => ?_).symm
    have : partC x a w g k = FP.dconst0 := by
      unfold partC
      rcases ha with e | e
      · subst e; rw [if_pos rfl, if_neg hn]
      · subst e; rw [if_neg (by decide), if_neg hn]
    rw [this, dadd_0 (hq k hk).2]
