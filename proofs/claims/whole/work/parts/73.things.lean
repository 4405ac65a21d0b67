/-! ===== things by kind (0 chips, 1 cloths, 2 dyes, 3 solids, 4 lots, 5 batches) and number ===== -/
/-- thing i of kind a is the same in both of the class's stores -/
def eqX (a : Nat) (u t : Sto) (i : Nat) : Prop := match a with
  | 0 => ∀ k, k < 16 → gF t 20 i k = gF u 20 i k ∧ gF t 21 i k = gF u 21 i k
  | 1 => ∀ k, k < 16 → gF t 6 i k = gF u 6 i k
  | 2 => (∀ j, j < 3 → gI t 22 i j = gI u 22 i j) ∧ ∀ s, s < iN u 22 i 2 → gI t 23 i s = gI u 23 i s ∧ ∀ k, k < 16 → gD t 25 (6 * i + s) k = gD u 25 (6 * i + s) k
  | 3 => (∀ j, j < 3 → gI t 26 i j = gI u 26 i j) ∧ ∀ k, k < 3 → gD t 27 i k = gD u 27 i k ∧ gD t 28 i k = gD u 28 i k
  | 4 => ∀ j, j < 5 → gI t 29 i j = gI u 29 i j
  | _ => gI t 30 i 0 = gI u 30 i 0 ∧ gI t 30 i 1 = gI u 30 i 1 ∧ gI t 30 i 2 = gI u 30 i 2 ∧ gI t 30 i 5 = gI u 30 i 5 ∧ (∀ k, k < iN u 30 i 2 → gI t 31 i k = gI u 31 i k ∧ gI t 32 i k = gI u 32 i k) ∧ (iN u 30 i 5 = 1 → ∀ k, k < 16 → gF t 33 i k = gF u 33 i k)
/-- what holds of a thing -/
def PX (a : Nat) (x : Sto) (i : Nat) : Prop := match a with
  | 0 => ∀ k, k < 16 → fl2 (gF x 20 i k) ∧ mvd (gF x 21 i k)
  | 1 => ∀ k, k < 16 → fl2 (gF x 6 i k)
  | 2 => (isN x 22 i 0 12 ∧ iN x 22 i 0 < cN x 1) ∧ isN x 22 i 1 100000 ∧ isN x 22 i 2 6 ∧ (∀ s, s < iN x 22 i 2 → isN x 23 i s 100000) ∧ ∀ k, k < 16 → DyeOk (iN x 22 i 2) (iN x 23 i) (fun s => gD x 25 (6 * i + s) k)
  | 3 => isN x 26 i 0 1 ∧ isN x 26 i 1 5 ∧ isN x 26 i 2 1 ∧ ∀ k, k < 3 → mg 1060 (gD x 27 i k) ∧ ∃ w, 1 ≤ w ∧ w ≤ 1000 ∧ gD x 28 i k = FP.ddiv (FP.i2d (nI w)) (4621819117588971520 : UInt64)
  | 4 => (isN x 29 i 0 12 ∧ iN x 29 i 0 < cN x 2) ∧ (isN x 29 i 1 1000 ∧ 1 ≤ iN x 29 i 1) ∧ (isN x 29 i 2 1000 ∧ 1 ≤ iN x 29 i 2) ∧ isN x 29 i 3 1000000000 ∧ isN x 29 i 4 1000000000 ∧ iN x 29 i 4 ≤ iN x 29 i 3
  | _ => (isN x 30 i 0 12 ∧ iN x 30 i 0 < cN x 1) ∧ (isN x 30 i 1 1000 ∧ 1 ≤ iN x 30 i 1) ∧ isN x 30 i 2 8 ∧ isN x 30 i 5 1 ∧ (∀ k, k < iN x 30 i 2 → (isN x 31 i k 20 ∧ iN x 31 i k < cN x 4) ∧ isN x 32 i k 1000000 ∧ 1 ≤ iN x 32 i k ∧ 1000 * iN x 32 i k ≤ iN x 29 (iN x 31 i k) 3 - iN x 29 (iN x 31 i k) 4) ∧ (∀ j k, j < k → k < iN x 30 i 2 → iN x 31 i j ≠ iN x 31 i k) ∧ (iN x 30 i 5 = 1 → ∀ k, k < 16 → fl2 (gF x 33 i k))
/-- what the reference has of a thing -/
def LV (a : Nat) (x m : Sto) (i : Nat) : Prop := match a with
  | 0 => ∀ k, k < 16 → gF m 1 0 (16 * (1 + i) + k) = gF x 20 i k ∧ gF m 2 0 (16 * i + k) = gF x 21 i k
  | 1 => ∀ k, k < 16 → gF m 1 0 (16 * (41 + i) + k) = gF x 6 i k
  | 2 => gI m 12 0 i = gI x 22 i 0 ∧ gI m 13 0 i = gI x 22 i 2 ∧ gI m 15 0 i = gI x 22 i 1 ∧ ∀ s, s < iN x 22 i 2 → gI m 14 0 (6 * i + s) = gI x 23 i s ∧ ∀ k, k < 16 → fl2 (gF m 1 0 (16 * (62 + 6 * i + s) + k)) ∧ gD x 25 (6 * i + s) k = mO m i (iN x 22 i 0) k s
  | 3 => gI m 34 0 i = gI x 26 i 0 ∧ gI m 35 0 i = gI x 26 i 1 ∧ gI m 36 0 i = gI x 26 i 2 ∧ ∀ k, k < 3 → gD m 37 0 (3 * i + k) = gD x 27 i k ∧ gD m 38 0 (3 * i + k) = gD x 28 i k
  | 4 => gI m 16 0 i = gI x 29 i 0 ∧ gI m 17 0 i = gI x 29 i 1 ∧ gI m 18 0 i = gI x 29 i 2 ∧ gI m 19 0 i = gI x 29 i 3 ∧ gI m 20 0 i = gI x 29 i 4
  | _ => gI m 21 0 i = gI x 30 i 0 ∧ gI m 22 0 i = gI x 30 i 1 ∧ gI m 23 0 i = gI x 30 i 2 ∧ gI m 26 0 i = gI x 30 i 5 ∧ (∀ k, k < iN x 30 i 2 → gI m 24 0 (8 * i + k) = gI x 31 i k ∧ gI m 25 0 (8 * i + k) = gI x 32 i k) ∧ (iN x 30 i 5 = 1 → ∀ k, k < 16 → gF m 1 0 (16 * (50 + i) + k) = gF x 33 i k)
/-- thing i of kind a (of x) is the same in both of the reference's stores -/
def CM (a : Nat) (x m n : Sto) (i : Nat) : Prop := match a with
  | 0 => ∀ k, k < 16 → gF n 1 0 (16 * (1 + i) + k) = gF m 1 0 (16 * (1 + i) + k) ∧ gF n 2 0 (16 * i + k) = gF m 2 0 (16 * i + k)
  | 1 => ∀ k, k < 16 → gF n 1 0 (16 * (41 + i) + k) = gF m 1 0 (16 * (41 + i) + k)
  | 2 => gI n 12 0 i = gI m 12 0 i ∧ gI n 13 0 i = gI m 13 0 i ∧ gI n 15 0 i = gI m 15 0 i ∧ ∀ s, s < iN x 22 i 2 → gI n 14 0 (6 * i + s) = gI m 14 0 (6 * i + s) ∧ ∀ k, k < 16 → gF n 1 0 (16 * (62 + 6 * i + s) + k) = gF m 1 0 (16 * (62 + 6 * i + s) + k)
  | 3 => gI n 34 0 i = gI m 34 0 i ∧ gI n 35 0 i = gI m 35 0 i ∧ gI n 36 0 i = gI m 36 0 i ∧ ∀ k, k < 3 → gD n 37 0 (3 * i + k) = gD m 37 0 (3 * i + k) ∧ gD n 38 0 (3 * i + k) = gD m 38 0 (3 * i + k)
  | 4 => gI n 16 0 i = gI m 16 0 i ∧ gI n 17 0 i = gI m 17 0 i ∧ gI n 18 0 i = gI m 18 0 i ∧ gI n 19 0 i = gI m 19 0 i ∧ gI n 20 0 i = gI m 20 0 i
  | _ => gI n 21 0 i = gI m 21 0 i ∧ gI n 22 0 i = gI m 22 0 i ∧ gI n 23 0 i = gI m 23 0 i ∧ gI n 26 0 i = gI m 26 0 i ∧ (∀ k, k < iN x 30 i 2 → gI n 24 0 (8 * i + k) = gI m 24 0 (8 * i + k) ∧ gI n 25 0 (8 * i + k) = gI m 25 0 (8 * i + k)) ∧ (iN x 30 i 5 = 1 → ∀ k, k < 16 → gF n 1 0 (16 * (50 + i) + k) = gF m 1 0 (16 * (50 + i) + k))
theorem six {P : Nat → Prop} (h0 : P 0) (h1 : P 1) (h2 : P 2) (h3 : P 3) (h4 : P 4) (h5 : P 5) : ∀ k, k < 6 → P k := fun k hk => by
  obtain rfl | rfl | rfl | rfl | rfl | rfl : k = 0 ∨ k = 1 ∨ k = 2 ∨ k = 3 ∨ k = 4 ∨ k = 5 := by omega
  · exact h0
  · exact h1
  · exact h2
  · exact h3
  · exact h4
  · exact h5
theorem CX_r (u : Sto) (i : Nat) : ∀ a, a < 6 → eqX a u u i := six (fun _ _ => ⟨rfl, rfl⟩) (fun _ _ => rfl) ⟨fun _ _ => rfl, fun _ _ => ⟨rfl, fun _ _ => rfl⟩⟩ ⟨fun _ _ => rfl, fun _ _ => ⟨rfl, rfl⟩⟩ (fun _ _ => rfl) ⟨rfl, rfl, rfl, rfl, fun _ _ => ⟨rfl, rfl⟩, fun _ _ _ => rfl⟩
theorem CX_s {u t : Sto} {i : Nat} : ∀ a, a < 6 → eqX a u t i → eqX a t u i := six (P := fun a => eqX a u t i → eqX a t u i)
  (fun h k hk => ⟨(h k hk).1.symm, (h k hk).2.symm⟩)
  (fun h k hk => (h k hk).symm)
  (fun h => ⟨fun j hj => (h.1 j hj).symm, fun s hs => by
    have e := iN_e (h.1 2 (by decide))
    rw [e] at hs
    exact ⟨(h.2 s hs).1.symm, fun k hk => ((h.2 s hs).2 k hk).symm⟩⟩)
  (fun h => ⟨fun j hj => (h.1 j hj).symm, fun k hk => ⟨(h.2 k hk).1.symm, (h.2 k hk).2.symm⟩⟩)
  (fun h j hj => (h j hj).symm)
  (fun h => ⟨h.1.symm, h.2.1.symm, h.2.2.1.symm, h.2.2.2.1.symm, fun k hk => by
    rw [iN_e h.2.2.1] at hk
    exact ⟨(h.2.2.2.2.1 k hk).1.symm, (h.2.2.2.2.1 k hk).2.symm⟩, fun q k hk => by
    rw [iN_e h.2.2.2.1] at q
    exact (h.2.2.2.2.2 q k hk).symm⟩)
theorem CX_t {u t v : Sto} {i : Nat} : ∀ a, a < 6 → eqX a u t i → eqX a t v i → eqX a u v i := six (P := fun a => eqX a u t i → eqX a t v i → eqX a u v i)
  (fun h g k hk => ⟨(g k hk).1.trans (h k hk).1, (g k hk).2.trans (h k hk).2⟩)
  (fun h g k hk => (g k hk).trans (h k hk))
  (fun h g => ⟨fun j hj => (g.1 j hj).trans (h.1 j hj), fun s hs => by
    have hs2 := hs
    rw [← iN_e (h.1 2 (by decide))] at hs2
    exact ⟨(g.2 s hs2).1.trans (h.2 s hs).1, fun k hk => ((g.2 s hs2).2 k hk).trans ((h.2 s hs).2 k hk)⟩⟩)
  (fun h g => ⟨fun j hj => (g.1 j hj).trans (h.1 j hj), fun k hk => ⟨(g.2 k hk).1.trans (h.2 k hk).1, (g.2 k hk).2.trans (h.2 k hk).2⟩⟩)
  (fun h g j hj => (g j hj).trans (h j hj))
  (fun h g => ⟨g.1.trans h.1, g.2.1.trans h.2.1, g.2.2.1.trans h.2.2.1, g.2.2.2.1.trans h.2.2.2.1, fun k hk => by
    have hk2 := hk
    rw [← iN_e h.2.2.1] at hk2
    exact ⟨(g.2.2.2.2.1 k hk2).1.trans (h.2.2.2.2.1 k hk).1, (g.2.2.2.2.1 k hk2).2.trans (h.2.2.2.2.1 k hk).2⟩, fun q k hk => by
    have q2 := q
    rw [← iN_e h.2.2.2.1] at q2
    exact (g.2.2.2.2.2 q2 k hk).trans (h.2.2.2.2.2 q k hk)⟩)
def zero21 (t : Sto) (n : Nat) : Prop := ∀ i, n ≤ i → i < 40 → ∀ k, k < 16 → gF t 21 i k = FP.fconst0
theorem CoreOk_mk {x : Sto} (h1 : CntOk x) (h2 : zero21 x (cN x 0)) (h : ∀ a, a < 6 → ∀ i, i < cN x a → PX a x i) : CoreOk x := ⟨h1, ⟨h 0 (by decide), h2⟩, h 1 (by decide), h 2 (by decide), h 3 (by decide), h 4 (by decide), h 5 (by decide)⟩
theorem CoreOk_P {x : Sto} (h : CoreOk x) : ∀ a, a < 6 → ∀ i, i < cN x a → PX a x i := six (P := fun a => ∀ i, i < cN x a → PX a x i) h.2.1.1 h.2.2.1 h.2.2.2.1 h.2.2.2.2.1 h.2.2.2.2.2.1 h.2.2.2.2.2.2
theorem LiveM_mk {x m : Sto} (h1 : LvCnt x m) (h : ∀ a, a < 6 → ∀ i, i < cN x a → LV a x m i) : LiveM x m := ⟨h1, h 0 (by decide), h 1 (by decide), h 2 (by decide), h 3 (by decide), h 4 (by decide), h 5 (by decide)⟩
theorem LiveM_L {x m : Sto} (h : LiveM x m) : ∀ a, a < 6 → ∀ i, i < cN x a → LV a x m i := six (P := fun a => ∀ i, i < cN x a → LV a x m i) h.2.1 h.2.2.1 h.2.2.2.1 h.2.2.2.2.1 h.2.2.2.2.2.1 h.2.2.2.2.2.2
theorem LiveEq_mk {u t : Sto} (h1 : ∀ k, k < 6 → gI t 3 0 k = gI u 3 0 k) (h2 : zero21 t (cN u 0)) (h : ∀ a, a < 6 → ∀ i, i < cN u a → eqX a u t i) : LiveEq u t := ⟨h1, h 0 (by decide), h2, h 1 (by decide), h 2 (by decide), h 3 (by decide), h 4 (by decide), h 5 (by decide)⟩
theorem LiveEq_X {u t : Sto} (h : LiveEq u t) : ∀ a, a < 6 → ∀ i, i < cN u a → eqX a u t i := six (P := fun a => ∀ i, i < cN u a → eqX a u t i) h.2.1 h.2.2.2.1 h.2.2.2.2.1 h.2.2.2.2.2.1 h.2.2.2.2.2.2.1 h.2.2.2.2.2.2.2
theorem LiveEq_z {u t : Sto} (h : LiveEq u t) : zero21 t (cN u 0) := h.2.2.1
/-- what holds of a thing holds where it is the same -/
theorem PX_C {x y : Sto} {i : Nat} (hle : ∀ k, k < 6 → cN x k ≤ cN y k) (hl : ∀ l, l < cN x 4 → iN x 29 l 3 - iN x 29 l 4 ≤ iN y 29 l 3 - iN y 29 l 4) : ∀ a, a < 6 → eqX a x y i → PX a x i → PX a y i := six (P := fun a => eqX a x y i → PX a x i → PX a y i)
  (fun h g k hk => by rw [(h k hk).1, (h k hk).2]; exact g k hk)
  (fun h g k hk => by rw [h k hk]; exact g k hk)
  (fun h g => by
    obtain ⟨g1, g2⟩ := h
    obtain ⟨⟨e1, e1'⟩, e2, e3, e4, e5⟩ := g
    have i2 := iN_e (g1 2 (by decide))
    refine ⟨⟨isN_e (g1 0 (by decide)) e1, by rw [iN_e (g1 0 (by decide))]; exact Nat.lt_of_lt_of_le e1' (hle 1 (by decide))⟩, isN_e (g1 1 (by decide)) e2, isN_e (g1 2 (by decide)) e3, fun s hs => ?_, fun a ha => ?_⟩
    · rw [i2] at hs
      exact isN_e (g2 s hs).1 (e4 s hs)
    · obtain ⟨o1, o2, o3, o4⟩ := e5 a ha
      rw [i2]
      refine ⟨o1, fun s hs => ?_, fun s hs => ?_, fun s hs => ?_⟩
      · rw [iN_e (g2 s hs).1]; exact o2 s hs
      · rw [iN_e (g2 s (by omega)).1, iN_e (g2 (s + 1) hs).1]; exact o3 s hs
      · have := o4 s hs
        dsimp only at this ⊢
        rw [(g2 s hs).2 a ha]; exact this)
  (fun h g => by
    obtain ⟨g1, g2⟩ := h
    obtain ⟨e1, e2, e3, e4⟩ := g
    refine ⟨isN_e (g1 0 (by decide)) e1, isN_e (g1 1 (by decide)) e2, isN_e (g1 2 (by decide)) e3, fun a ha => ?_⟩
    rw [(g2 a ha).1, (g2 a ha).2]
    exact e4 a ha)
  (fun h k => by
    have g : ∀ j, j < 5 → gI y 29 i j = gI x 29 i j := h
    obtain ⟨⟨e1, e1'⟩, ⟨e2, e2'⟩, ⟨e3, e3'⟩, e4, e5, e6⟩ := k
    refine ⟨⟨isN_e (g 0 (by decide)) e1, ?_⟩, ⟨isN_e (g 1 (by decide)) e2, ?_⟩, ⟨isN_e (g 2 (by decide)) e3, ?_⟩, isN_e (g 3 (by decide)) e4, isN_e (g 4 (by decide)) e5, ?_⟩
    · rw [iN_e (g 0 (by decide))]; exact Nat.lt_of_lt_of_le e1' (hle 2 (by decide))
    · rw [iN_e (g 1 (by decide))]; exact e2'
    · rw [iN_e (g 2 (by decide))]; exact e3'
    · rw [iN_e (g 3 (by decide)), iN_e (g 4 (by decide))]; exact e6)
  (fun h k => by
    obtain ⟨⟨e1, e1'⟩, ⟨e2, e2'⟩, e3, e4, e5, e6, e7⟩ := k
    obtain ⟨g1, g2, g3, g4, g5, g6⟩ := h
    have i2 := iN_e g3
    refine ⟨⟨isN_e g1 e1, by rw [iN_e g1]; exact Nat.lt_of_lt_of_le e1' (hle 1 (by decide))⟩, ⟨isN_e g2 e2, by rw [iN_e g2]; exact e2'⟩, isN_e g3 e3, isN_e g4 e4, fun a ha => ?_, fun a c hac hc => ?_, fun hm a ha => ?_⟩
    · rw [i2] at ha
      obtain ⟨⟨p1, p1'⟩, p2, p3, p4⟩ := e5 a ha
      obtain ⟨w1, w2⟩ := g5 a ha
      refine ⟨⟨isN_e w1 p1, by rw [iN_e w1]; exact Nat.lt_of_lt_of_le p1' (hle 4 (by decide))⟩, isN_e w2 p2, by rw [iN_e w2]; exact p3, ?_⟩
      rw [iN_e w2, iN_e w1]
      exact Nat.le_trans p4 (hl _ p1')
    · rw [i2] at hc
      rw [iN_e (g5 a (by omega)).1, iN_e (g5 c hc).1]
      exact e6 a c hac hc
    · rw [iN_e g4] at hm
      rw [g6 hm a ha]
      exact e7 hm a ha)
theorem LV_X {x y m : Sto} {i : Nat} : ∀ a, a < 6 → eqX a x y i → LV a x m i → LV a y m i := six (P := fun a => eqX a x y i → LV a x m i → LV a y m i)
  (fun h g k hk => by rw [(h k hk).1, (h k hk).2]; exact g k hk)
  (fun h g k hk => by rw [h k hk]; exact g k hk)
  (fun h g => by
    obtain ⟨g1, g2⟩ := h
    obtain ⟨e1, e2, e3, e4⟩ := g
    refine ⟨e1.trans (g1 0 (by decide)).symm, e2.trans (g1 2 (by decide)).symm, e3.trans (g1 1 (by decide)).symm, fun s hs => ?_⟩
    rw [iN_e (g1 2 (by decide))] at hs
    rw [(g2 s hs).1, iN_e (g1 0 (by decide))]
    refine ⟨(e4 s hs).1, fun a ha => ?_⟩
    rw [(g2 s hs).2 a ha]
    exact (e4 s hs).2 a ha)
  (fun h g => by
    obtain ⟨g1, g2⟩ := h
    obtain ⟨e1, e2, e3, e4⟩ := g
    refine ⟨e1.trans (g1 0 (by decide)).symm, e2.trans (g1 1 (by decide)).symm, e3.trans (g1 2 (by decide)).symm, fun a ha => ?_⟩
    rw [(g2 a ha).1, (g2 a ha).2]
    exact e4 a ha)
  (fun g h => ⟨h.1.trans (g 0 (by decide)).symm, h.2.1.trans (g 1 (by decide)).symm, h.2.2.1.trans (g 2 (by decide)).symm, h.2.2.2.1.trans (g 3 (by decide)).symm, h.2.2.2.2.trans (g 4 (by decide)).symm⟩)
  (fun h k => by
    obtain ⟨e1, e2, e3, e4, e5, e6⟩ := k
    obtain ⟨g1, g2, g3, g4, g5, g6⟩ := h
    refine ⟨e1.trans g1.symm, e2.trans g2.symm, e3.trans g3.symm, e4.trans g4.symm, fun a ha => ?_, fun hm a ha => ?_⟩
    · rw [iN_e g3] at ha
      rw [(g5 a ha).1, (g5 a ha).2]; exact e5 a ha
    · rw [iN_e g4] at hm
      rw [g6 hm a ha]; exact e6 hm a ha)
theorem LV_M {x m n : Sto} {i : Nat} (hx : CoreOk x) (hcl : ∀ i, i < cN x 1 → CM 1 x m n i) : ∀ a, a < 6 → i < cN x a → CM a x m n i → LV a x m i → LV a x n i := six (P := fun a => i < cN x a → CM a x m n i → LV a x m i → LV a x n i)
  (fun _ h g k hk => by rw [(h k hk).1, (h k hk).2]; exact g k hk)
  (fun _ h g k hk => (h k hk).trans (g k hk))
  (fun hi h g => by
    obtain ⟨g1, g2, g3, g4⟩ := h
    obtain ⟨e1, e2, e3, e4⟩ := g
    refine ⟨g1.trans e1, g2.trans e2, g3.trans e3, fun s hs => ⟨(g4 s hs).1.trans (e4 s hs).1, fun a ha => ?_⟩⟩
    have hc := hcl _ (hx.2.2.2.1 i hi).1.2 a ha
    have hO : mO n i (iN x 22 i 0) a s = mO m i (iN x 22 i 0) a s := by
      unfold mO
      rw [(g4 s hs).2 a ha, hc]
    rw [hO, (g4 s hs).2 a ha]
    exact (e4 s hs).2 a ha)
  (fun _ h g => by
    obtain ⟨g1, g2, g3, g4⟩ := h
    obtain ⟨e1, e2, e3, e4⟩ := g
    exact ⟨g1.trans e1, g2.trans e2, g3.trans e3, fun a ha => ⟨(g4 a ha).1.trans (e4 a ha).1, (g4 a ha).2.trans (e4 a ha).2⟩⟩)
  (fun _ g h => ⟨g.1.trans h.1, g.2.1.trans h.2.1, g.2.2.1.trans h.2.2.1, g.2.2.2.1.trans h.2.2.2.1, g.2.2.2.2.trans h.2.2.2.2⟩)
  (fun _ h k => by
    obtain ⟨e1, e2, e3, e4, e5, e6⟩ := k
    obtain ⟨g1, g2, g3, g4, g5, g6⟩ := h
    exact ⟨g1.trans e1, g2.trans e2, g3.trans e3, g4.trans e4, fun a ha => ⟨(g5 a ha).1.trans (e5 a ha).1, (g5 a ha).2.trans (e5 a ha).2⟩, fun hm a ha => (g6 hm a ha).trans (e6 hm a ha)⟩)
/-- the class's store with some things new or changed -/
theorem core_up {x y : Sto} (hx : CoreOk x) (hc : CntOk y) (hle : ∀ k, k < 6 → cN x k ≤ cN y k) (hl : ∀ l, l < cN x 4 → iN x 29 l 3 - iN x 29 l 4 ≤ iN y 29 l 3 - iN y 29 l 4) (hz : zero21 y (cN y 0)) (h : ∀ a, a < 6 → ∀ i, i < cN y a → (i < cN x a ∧ eqX a x y i) ∨ PX a y i) : CoreOk y :=
  CoreOk_mk hc hz fun a ha i hi => (h a ha i hi).elim (fun q => PX_C hle hl a ha q.2 (CoreOk_P hx a ha i q.1)) id
theorem live_up {x y m n : Sto} (hx : CoreOk x) (hm : LiveM x m) (hc : LvCnt y n) (hcl : ∀ i, i < cN x 1 → CM 1 x m n i) (h : ∀ a, a < 6 → ∀ i, i < cN y a → (i < cN x a ∧ eqX a x y i ∧ CM a x m n i) ∨ LV a y n i) : LiveM y n :=
  LiveM_mk hc fun a ha i hi => (h a ha i hi).elim (fun q => LV_X a ha q.2.1 (LV_M hx hcl a ha q.1 q.2.2 (LiveM_L hm a ha i q.1))) id
