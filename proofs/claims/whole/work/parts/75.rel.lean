/-! ===== what is current, and how both stores go together ===== -/
def CurA (x m : Sto) : Prop := (∀ k, k < 16 → fl2 (gF x 1 0 k) ∧ gF m 1 0 k = gF x 1 0 k) ∧ (isN x 0 0 2 1 ∧ gI m 0 0 32 = gI x 0 0 2 ∧ (iN x 0 0 2 = 1 → ∀ k, k < 16 → fl2 (gF x 2 0 k) ∧ gF m 1 0 (784 + k) = gF x 2 0 k)) ∧ PartsOk x ∧ LvParts x m
def CurB (x m : Sto) : Prop := (∀ l k, l < 6 → k < 16 → isN x 35 l k 1000000 ∧ gI m 27 0 (16 * l + k) = gI x 35 l k) ∧ (∀ e a k, e < 2 → a < 3 → k < 16 → isN x 37 (3 * e + a) k 1000000 ∧ gI m 28 0 (48 * e + 16 * a + k) = gI x 37 (3 * e + a) k) ∧ ∀ j, j < 3 → ∃ n, 1 ≤ n ∧ n ≤ 100 ∧ gI m 29 0 j = nI n ∧ gD x 13 0 (2 + j) = FP.i2d (nI n)
def CurC (x m : Sto) : Prop := isN x 16 0 12 1 ∧ gI m 0 0 57 = gI x 16 0 12 ∧ (iN x 16 0 12 = 1 → gI m 0 0 52 = gI x 16 0 10 ∧ isN x 16 0 11 1 ∧ gI m 0 0 55 = gI x 16 0 11 ∧ isN x 16 0 16 3 ∧ (∀ p, p < 3 → gI m 64 0 (2 * p) = (if p < iN x 16 0 16 then gI x 50 0 p else -1) ∧ gI m 64 0 (2 * p + 1) = (if p < iN x 16 0 16 then gI x 51 0 p else -1)) ∧ mg 1700 (gD x 16 0 17) ∧ nm0 (gD x 16 0 17) ∧ gD m 0 0 64 = gD x 16 0 17 ∧ gL m 0 0 65 = gL x 16 0 18)
def CurD (x m : Sto) : Prop := isN x 16 1 12 1 ∧ gI m 0 0 71 = gI x 16 1 12 ∧ (iN x 16 1 12 = 1 → gI m 70 0 0 = gI x 16 1 10 ∧ isN x 16 1 11 1 ∧ gI m 70 0 1 = gI x 16 1 11 ∧ isN x 16 1 16 2 ∧ ∀ p, p < 2 → gI m 70 0 (2 + 2 * p) = (if p < iN x 16 1 16 then gI x 50 1 p else -1) ∧ gI m 70 0 (3 + 2 * p) = (if p < iN x 16 1 16 then gI x 51 1 p else -1))
def CurE (x m : Sto) : Prop := (gI m 0 0 75 = gI x 17 0 1 ∧ (gI x 17 0 1 = nI 0 ∨ gI x 17 0 1 = nI 68)) ∧ ∀ q, q < 68 → (∃ b, b < 256 ∧ gI x 52 0 q = nI b ∧ gI m 74 0 q = (nI b).toInt8.toInt32) ∧ ∃ b, b < 256 ∧ gI x 53 0 q = nI b ∧ gI m 75 0 q = (nI b).toInt8.toInt32
def Cur (x m : Sto) : Prop := CurA x m ∧ CurB x m ∧ CurC x m ∧ CurD x m ∧ CurE x m
def RelC (x m : Sto) : Prop := RingOk x ∧ CoreOk x ∧ LiveM x m ∧ gI m 0 0 44 = gI x 18 0 3 ∧ ∃ c, ChainX x c ∧ ChainM (iN x 18 0 3) m c
def Rel (x m : Sto) : Prop := RelC x m ∧ gI m 0 0 9 = gI x 0 0 19 ∧ Cur x m
/-- the same in what Cur reads -/
def SCX (x y : Sto) : Prop := (∀ f i j, (f = 0 ∧ j < 19) ∨ f = 12 ∨ f = 16 ∨ f = 17 ∨ f = 35 ∨ f = 37 ∨ (50 ≤ f ∧ f ≤ 53) → gI y f i j = gI x f i j) ∧ (∀ f i j, f = 1 ∨ f = 2 → gF y f i j = gF x f i j) ∧ (∀ f i j, f = 13 ∨ f = 16 → gD y f i j = gD x f i j) ∧ gL y = gL x
def SCM (m n : Sto) : Prop := (∀ f i j, (f = 0 ∧ (j = 8 ∨ j = 32 ∨ j = 52 ∨ j = 55 ∨ j = 57 ∨ j = 71 ∨ j = 75)) ∨ (27 ≤ f ∧ f ≤ 32) ∨ f = 64 ∨ f = 70 ∨ f = 74 ∨ f = 75 → gI n f i j = gI m f i j) ∧ (∀ j, j < 16 ∨ (784 ≤ j ∧ j < 800) → gF n 1 0 j = gF m 1 0 j) ∧ gD n 0 0 64 = gD m 0 0 64 ∧ gL n 0 0 65 = gL m 0 0 65
theorem SCX_r (x : Sto) : SCX x x := ⟨fun _ _ _ _ => rfl, fun _ _ _ _ => rfl, fun _ _ _ _ => rfl, rfl⟩
theorem SCX_t {x y z : Sto} (h : SCX x y) (k : SCX y z) : SCX x z := ⟨fun f i j q => (k.1 f i j q).trans (h.1 f i j q), fun f i j q => (k.2.1 f i j q).trans (h.2.1 f i j q), fun f i j q => (k.2.2.1 f i j q).trans (h.2.2.1 f i j q), k.2.2.2.trans h.2.2.2⟩
theorem SCM_r (x : Sto) : SCM x x := ⟨fun _ _ _ _ => rfl, fun _ _ => rfl, rfl, rfl⟩
theorem SCM_t {x y z : Sto} (h : SCM x y) (k : SCM y z) : SCM x z := ⟨fun f i j q => (k.1 f i j q).trans (h.1 f i j q), fun j q => (k.2.1 j q).trans (h.2.1 j q), k.2.2.1.trans h.2.2.1, k.2.2.2.trans h.2.2.2⟩
theorem Cur_f {x y m n : Sto} (a : SCX x y) (b : SCM m n) (h : Cur x m) : Cur y n := by
  obtain ⟨a1, a2, a3, a4⟩ := a
  obtain ⟨b1, b2, b3, b4⟩ := b
  obtain ⟨⟨h1, ⟨h2, h3, h4⟩, ⟨h5, h6⟩, h7, h8⟩, ⟨k1, k2, k3⟩, ⟨l1, l2, l3⟩, ⟨o1, o2, o3⟩, ⟨⟨p1, p2⟩, p3⟩⟩ := h
  have x2 := a1 0 0 2 (by omega)
  have x11 := a1 0 0 11 (by omega)
  refine ⟨⟨fun k hk => ?_, ⟨isN_e x2 h2, ?_, fun q k hk => ?_⟩, ⟨isN_e x11 h5, fun p hp => ?_⟩, ?_, fun p hp => ?_⟩, ⟨fun l k hl hk => ?_, fun e c k he hc hk => ?_, fun j hj => ?_⟩, ⟨isN_e (a1 16 0 12 (by omega)) l1, ?_, fun q => ?_⟩, ⟨isN_e (a1 16 1 12 (by omega)) o1, ?_, fun q => ?_⟩, ⟨⟨?_, ?_⟩, fun q hq => ⟨?_, ?_⟩⟩⟩
  · rw [a2 1 0 k (Or.inl rfl), b2 k (Or.inl hk)]; exact h1 k hk
  · rw [b1 0 0 32 (by omega), x2]; exact h3
  · rw [iN_e x2] at q
    rw [a2 2 0 k (Or.inr rfl), b2 (784 + k) (by omega)]; exact h4 q k hk
  · rw [iN_e x11] at hp
    obtain ⟨⟨q1, q2⟩, q3, q4⟩ := h6 p hp
    have e0 := a1 12 p 0 (by omega)
    refine ⟨⟨isN_e e0 q1, ?_⟩, isN_e (a1 12 p 1 (by omega)) q3, isN_e (a1 12 p 2 (by omega)) q4⟩
    rw [iN_e e0]; exact q2
  · rw [b1 0 0 8 (by omega), x11]; exact h7
  · rw [iN_e x11] at hp
    rw [b1 32 0 p (by omega), b1 30 0 p (by omega), b1 31 0 p (by omega), iN_e (a1 12 p 0 (by omega)), a1 12 p 1 (by omega), a1 12 p 2 (by omega)]
    exact h8 p hp
  · rw [b1 27 0 _ (by omega), a1 35 l k (by omega)]
    exact ⟨isN_e (a1 35 l k (by omega)) (k1 l k hl hk).1, (k1 l k hl hk).2⟩
  · rw [b1 28 0 _ (by omega), a1 37 _ k (by omega)]
    exact ⟨isN_e (a1 37 _ k (by omega)) (k2 e c k he hc hk).1, (k2 e c k he hc hk).2⟩
  · rw [b1 29 0 j (by omega), a3 13 0 _ (by omega)]; exact k3 j hj
  · rw [b1 0 0 57 (by omega), a1 16 0 12 (by omega)]; exact l2
  · rw [iN_e (a1 16 0 12 (by omega))] at q
    obtain ⟨q1, q2, q3, q4, q5, q6, q7, q8, q9⟩ := l3 q
    refine ⟨?_, isN_e (a1 16 0 11 (by omega)) q2, ?_, isN_e (a1 16 0 16 (by omega)) q4, fun p hp => ?_, ?_, ?_, ?_, ?_⟩
    · rw [b1 0 0 52 (by omega), a1 16 0 10 (by omega)]; exact q1
    · rw [b1 0 0 55 (by omega), a1 16 0 11 (by omega)]; exact q3
    · rw [b1 64 0 _ (by omega), b1 64 0 _ (by omega), iN_e (a1 16 0 16 (by omega)), a1 50 0 p (by omega), a1 51 0 p (by omega)]
      exact q5 p hp
    · rw [a3 16 0 17 (by omega)]; exact q6
    · rw [a3 16 0 17 (by omega)]; exact q7
    · rw [a3 16 0 17 (by omega), b3]; exact q8
    · rw [a4, b4]; exact q9
  · rw [b1 0 0 71 (by omega), a1 16 1 12 (by omega)]; exact o2
  · rw [iN_e (a1 16 1 12 (by omega))] at q
    obtain ⟨q1, q2, q3, q4, q5⟩ := o3 q
    refine ⟨?_, isN_e (a1 16 1 11 (by omega)) q2, ?_, isN_e (a1 16 1 16 (by omega)) q4, fun p hp => ?_⟩
    · rw [b1 70 0 0 (by omega), a1 16 1 10 (by omega)]; exact q1
    · rw [b1 70 0 1 (by omega), a1 16 1 11 (by omega)]; exact q3
    · rw [b1 70 0 _ (by omega), b1 70 0 _ (by omega), iN_e (a1 16 1 16 (by omega)), a1 50 1 p (by omega), a1 51 1 p (by omega)]
      exact q5 p hp
  · rw [b1 0 0 75 (by omega), a1 17 0 1 (by omega)]; exact p1
  · rw [a1 17 0 1 (by omega)]; exact p2
  · rw [a1 52 0 q (by omega), b1 74 0 q (by omega)]; exact (p3 q hq).1
  · rw [a1 53 0 q (by omega), b1 75 0 q (by omega)]; exact (p3 q hq).2
/-- the same in what the rest reads -/
def KX (x y : Sto) : Prop := (∀ f i j, f = 3 ∨ f = 18 ∨ (22 ≤ f ∧ f ≤ 33) ∨ f = 55 → gI y f i j = gI x f i j) ∧ (∀ f i j, f = 6 ∨ f = 20 ∨ f = 21 ∨ f = 33 ∨ f = 57 → gF y f i j = gF x f i j) ∧ (∀ f i j, f = 25 ∨ f = 27 ∨ f = 28 → gD y f i j = gD x f i j)
def KM (m n : Sto) : Prop := (∀ f i j, (f = 0 ∧ (j < 8 ∨ j = 44)) ∨ (12 ≤ f ∧ f ≤ 26) ∨ (34 ≤ f ∧ f ≤ 36) ∨ (39 ≤ f ∧ f ≤ 42) → gI n f i j = gI m f i j) ∧ (∀ f i j, f = 2 ∨ f = 43 ∨ f = 44 ∨ (f = 1 ∧ 16 ≤ j ∧ ¬ (784 ≤ j ∧ j < 800) ∧ j < 2144) → gF n f i j = gF m f i j) ∧ (∀ f i j, f = 37 ∨ f = 38 → gD n f i j = gD m f i j)
theorem KX_r (x : Sto) : KX x x := ⟨fun _ _ _ _ => rfl, fun _ _ _ _ => rfl, fun _ _ _ _ => rfl⟩
theorem KX_t {x y z : Sto} (h : KX x y) (k : KX y z) : KX x z := ⟨fun f i j q => (k.1 f i j q).trans (h.1 f i j q), fun f i j q => (k.2.1 f i j q).trans (h.2.1 f i j q), fun f i j q => (k.2.2 f i j q).trans (h.2.2 f i j q)⟩
theorem KM_r (x : Sto) : KM x x := ⟨fun _ _ _ _ => rfl, fun _ _ _ _ => rfl, fun _ _ _ _ => rfl⟩
theorem KM_t {x y z : Sto} (h : KM x y) (k : KM y z) : KM x z := ⟨fun f i j q => (k.1 f i j q).trans (h.1 f i j q), fun f i j q => (k.2.1 f i j q).trans (h.2.1 f i j q), fun f i j q => (k.2.2 f i j q).trans (h.2.2 f i j q)⟩
theorem CX_f {t u : Sto} {i : Nat} (h1 : ∀ f i j, 22 ≤ f → f ≤ 33 → gI u f i j = gI t f i j) (h2 : ∀ f i j, f = 6 ∨ f = 20 ∨ f = 21 ∨ f = 33 → gF u f i j = gF t f i j) (h3 : ∀ f i j, f = 25 ∨ f = 27 ∨ f = 28 → gD u f i j = gD t f i j) : ∀ k, k < 6 → eqX k t u i := six (P := fun k => eqX k t u i)
  (fun k _ => ⟨h2 20 i k (by decide), h2 21 i k (by decide)⟩) (fun k _ => h2 6 i k (by decide)) ⟨fun j _ => h1 22 i j (by decide) (by decide), fun s _ => ⟨h1 23 i s (by decide) (by decide), fun k _ => h3 25 _ k (by decide)⟩⟩ ⟨fun j _ => h1 26 i j (by decide) (by decide), fun k _ => ⟨h3 27 i k (by decide), h3 28 i k (by decide)⟩⟩ (fun j _ => h1 29 i j (by decide) (by decide)) ⟨h1 30 i 0 (by decide) (by decide), h1 30 i 1 (by decide) (by decide), h1 30 i 2 (by decide) (by decide), h1 30 i 5 (by decide) (by decide), fun k _ => ⟨h1 31 i k (by decide) (by decide), h1 32 i k (by decide) (by decide)⟩, fun _ k _ => h2 33 i k (by decide)⟩
theorem CM_f {x t u : Sto} {i : Nat} (h1 : ∀ f i j, (12 ≤ f ∧ f ≤ 26) ∨ (34 ≤ f ∧ f ≤ 36) → gI u f i j = gI t f i j) (h2 : ∀ f i j, f = 1 ∨ f = 2 → gF u f i j = gF t f i j) (h3 : ∀ f i j, f = 37 ∨ f = 38 → gD u f i j = gD t f i j) : ∀ k, k < 6 → CM k x t u i := six (P := fun k => CM k x t u i)
  (fun k _ => ⟨h2 1 0 _ (by decide), h2 2 0 _ (by decide)⟩) (fun k _ => h2 1 0 _ (by decide)) ⟨h1 12 0 i (by decide), h1 13 0 i (by decide), h1 15 0 i (by decide), fun s _ => ⟨h1 14 0 _ (by decide), fun k _ => h2 1 0 _ (by decide)⟩⟩ ⟨h1 34 0 i (by decide), h1 35 0 i (by decide), h1 36 0 i (by decide), fun k _ => ⟨h3 37 0 _ (by decide), h3 38 0 _ (by decide)⟩⟩ ⟨h1 16 0 i (by decide), h1 17 0 i (by decide), h1 18 0 i (by decide), h1 19 0 i (by decide), h1 20 0 i (by decide)⟩ ⟨h1 21 0 i (by decide), h1 22 0 i (by decide), h1 23 0 i (by decide), h1 26 0 i (by decide), fun k _ => ⟨h1 24 0 _ (by decide), h1 25 0 _ (by decide)⟩, fun _ k _ => h2 1 0 _ (by decide)⟩
theorem LiveEq_K {x y : Sto} (hx : CoreOk x) (k : KX x y) : LiveEq x y := LiveEq_mk (fun a _ => k.1 3 0 a (Or.inl rfl)) (fun i h1 h2 q hq => (k.2.1 21 i q (by decide)).trans (hx.2.1.2 i h1 h2 q hq)) fun a ha i _ => CX_f (fun f i j h1 h2 => k.1 f i j (Or.inr (Or.inr (Or.inl ⟨h1, h2⟩)))) (fun f i j q => k.2.1 f i j (by omega)) k.2.2 a ha
theorem RelC_keep {x y m n : Sto} (a : KX x y) (b : KM m n) (h : RelC x m) : RelC y n := by
  obtain ⟨⟨r1, r2⟩, hx, hm, h44, c, hc, hM⟩ := h
  have hE := LiveEq_K hx a
  have e3 := a.1 18 0 3 (by decide)
  have e2 := a.1 18 0 2 (by decide)
  have e4 := b.1 0 0 44 (by decide)
  have hS : SameM m n := ⟨fun f i j q => (b.1 f i j (by omega)).symm, fun f i j q => (b.2.1 f i j (by omega)).symm, fun f i j q => (b.2.2 f i j q).symm⟩
  refine ⟨⟨isN_e e2 r1, isN_e e3 r2⟩, CoreOk_E hE hx, LiveM_E hE (LiveM_S hx hS hm), by rw [e4, e3]; exact h44, c, ⟨LiveEq_t hc.1 hE, ?_, ?_⟩, ?_⟩
  · rw [iN_e e3]; exact hc.2.1
  · rw [iN_e e3]
    intro j hj t ht hs
    have er : rw_ y j = rw_ x j := by unfold rw_; rw [iN_e e2]
    rw [er] at hs ⊢
    exact hc.2.2 j hj t ht ⟨fun k hk => (hs.1 k hk).trans (a.1 55 _ k (by decide)), fun k hk => (hs.2 k hk).trans (a.2.1 57 _ k (by decide))⟩
  · rw [iN_e e3]
    exact ChainM_e (fun i _ => ⟨fun f h1 h2 => b.1 f 0 i (by omega), fun q _ => ⟨b.2.1 43 0 _ (by omega), b.2.1 44 0 _ (by omega)⟩⟩) hM
/-- an act more, by both -/
theorem rel_act {x y m n : Sto} {a b e d : Int32} {B D : Nat → UInt32} (h : RelC x m) (e2 : gI y 18 0 2 = nI ((iN x 18 0 2 + 1) % 60)) (e3 : gI y 18 0 3 = nI (min (iN x 18 0 3 + 1) 60)) (hrow : ∀ w, w < 60 → w ≠ (iN x 18 0 2 + 1) % 60 → sameRow x y w) (hy : CoreOk y) (hm : LiveM y n) (hA : ActM (iN x 18 0 3) m n a b e d B D) (hX : ∀ t, LiveEq y t → sameRow y t ((iN x 18 0 2 + 1) % 60) → ∃ u, undoAt ((iN x 18 0 2 + 1) % 60) t = some u ∧ LiveEq x u ∧ KeepX t u) (hM : AMok y x a b e d B D) : RelC y n := by
  obtain ⟨hr, hx, _, h44, c, hc, hC⟩ := h
  have b1 := hr.1.2
  have b2 := hr.2.2
  have i2 : iN y 18 0 2 = (iN x 18 0 2 + 1) % 60 := by unfold iN; rw [e2]; exact nI_cl (by omega)
  have i3 : iN y 18 0 3 = min (iN x 18 0 3 + 1) 60 := by unfold iN; rw [e3]; exact nI_cl (by omega)
  refine ⟨⟨⟨by rw [i2]; exact e2, by omega⟩, ⟨by rw [i3]; exact e3, by omega⟩⟩, hy, hm, hA.1.trans e3.symm, consC y c, ?_, ?_⟩
  · refine ChainX_ps hr hc hy i2 i3 hrow (fun t ht hs => ?_)
    obtain ⟨u, u1, u2, u3⟩ := hX t ht hs
    exact ⟨u, u1, LiveEq_t hc.1 u2, u3⟩
  · rw [i3]
    refine ChainM_ps b2 hC hA (fun tm i h1 h2 h3 h4 h5 h6 h7 h8 => ?_)
    obtain ⟨um, u1, u2, u3, u4⟩ := hM tm i h1 h2 h3 h4 h5 h6 h7 h8
    exact ⟨um, u1, u2, LiveM_W hc.1 u3, u4⟩
