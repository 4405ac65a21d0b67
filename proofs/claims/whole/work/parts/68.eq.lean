/-! ===== two of the class's stores alike in what undo gives back ===== -/
def LiveEq (u t : Sto) : Prop := (∀ k, k < 6 → gI t 3 0 k = gI u 3 0 k) ∧ (∀ i, i < cN u 0 → ∀ k, k < 16 → gF t 20 i k = gF u 20 i k ∧ gF t 21 i k = gF u 21 i k) ∧ (∀ i, cN u 0 ≤ i → i < 40 → ∀ k, k < 16 → gF t 21 i k = FP.fconst0) ∧ (∀ i, i < cN u 1 → ∀ k, k < 16 → gF t 6 i k = gF u 6 i k) ∧ (∀ d, d < cN u 2 → (∀ j, j < 3 → gI t 22 d j = gI u 22 d j) ∧ ∀ s, s < iN u 22 d 2 → gI t 23 d s = gI u 23 d s ∧ ∀ k, k < 16 → gD t 25 (6 * d + s) k = gD u 25 (6 * d + s) k) ∧ (∀ i, i < cN u 3 → (∀ j, j < 3 → gI t 26 i j = gI u 26 i j) ∧ ∀ k, k < 3 → gD t 27 i k = gD u 27 i k ∧ gD t 28 i k = gD u 28 i k) ∧ (∀ l, l < cN u 4 → ∀ j, j < 5 → gI t 29 l j = gI u 29 l j) ∧ (∀ b, b < cN u 5 → gI t 30 b 0 = gI u 30 b 0 ∧ gI t 30 b 1 = gI u 30 b 1 ∧ gI t 30 b 2 = gI u 30 b 2 ∧ gI t 30 b 5 = gI u 30 b 5 ∧ (∀ k, k < iN u 30 b 2 → gI t 31 b k = gI u 31 b k ∧ gI t 32 b k = gI u 32 b k) ∧ (iN u 30 b 5 = 1 → ∀ k, k < 16 → gF t 33 b k = gF u 33 b k))
theorem iN_e {u t : Sto} {f i j : Nat} (h : gI t f i j = gI u f i j) : iN t f i j = iN u f i j := congrArg Int32.toNatClampNeg h
theorem LiveEq_c {u t : Sto} (h : LiveEq u t) {k : Nat} (hk : k < 6) : cN t k = cN u k := iN_e (h.1 k hk)
theorem LiveEq_r {u : Sto} (h : CoreOk u) : LiveEq u u := ⟨fun _ _ => rfl, fun _ _ _ _ => ⟨rfl, rfl⟩, h.2.1.2, fun _ _ _ _ => rfl, fun _ _ => ⟨fun _ _ => rfl, fun _ _ => ⟨rfl, fun _ _ => rfl⟩⟩, fun _ _ => ⟨fun _ _ => rfl, fun _ _ => ⟨rfl, rfl⟩⟩, fun _ _ _ _ => rfl, fun _ _ => ⟨rfl, rfl, rfl, rfl, fun _ _ => ⟨rfl, rfl⟩, fun _ _ _ => rfl⟩⟩
/-- what the reference's has of one, it has of the other -/
theorem LiveM_E {u t m : Sto} (h : LiveEq u t) (k : LiveM u m) : LiveM t m := by
  obtain ⟨h1, h2, h3, h4, h5, h6, h7, h8⟩ := h
  obtain ⟨c1, c2, c3, c4, c5, c6, c7⟩ := k
  have n0 : cN t 0 = cN u 0 := iN_e (h1 0 (by decide))
  have n1 : cN t 1 = cN u 1 := iN_e (h1 1 (by decide))
  have n2 : cN t 2 = cN u 2 := iN_e (h1 2 (by decide))
  have n3 : cN t 3 = cN u 3 := iN_e (h1 3 (by decide))
  have n4 : cN t 4 = cN u 4 := iN_e (h1 4 (by decide))
  have n5 : cN t 5 = cN u 5 := iN_e (h1 5 (by decide))
  refine ⟨?_, ?_, ?_, ?_, ?_, ?_, ?_⟩
  · intro a ha
    rw [h1 a ha]; exact c1 a ha
  · intro i hi a ha
    rw [n0] at hi
    rw [(h2 i hi a ha).1, (h2 i hi a ha).2]; exact c2 i hi a ha
  · intro i hi a ha
    rw [n1] at hi
    rw [h4 i hi a ha]; exact c3 i hi a ha
  · intro d hd
    rw [n2] at hd
    obtain ⟨e1, e2, e3, e4⟩ := c4 d hd
    obtain ⟨g1, g2⟩ := h5 d hd
    rw [g1 0 (by decide), g1 1 (by decide), g1 2 (by decide), iN_e (g1 2 (by decide)), iN_e (g1 0 (by decide))]
    refine ⟨e1, e2, e3, fun s hs => ?_⟩
    rw [(g2 s hs).1]
    refine ⟨(e4 s hs).1, fun a ha => ?_⟩
    rw [(g2 s hs).2 a ha]
    exact (e4 s hs).2 a ha
  · intro i hi
    rw [n3] at hi
    obtain ⟨e1, e2, e3, e4⟩ := c5 i hi
    obtain ⟨g1, g2⟩ := h6 i hi
    rw [g1 0 (by decide), g1 1 (by decide), g1 2 (by decide)]
    refine ⟨e1, e2, e3, fun a ha => ?_⟩
    rw [(g2 a ha).1, (g2 a ha).2]
    exact e4 a ha
  · intro l hl
    rw [n4] at hl
    have g := h7 l hl
    rw [g 0 (by decide), g 1 (by decide), g 2 (by decide), g 3 (by decide), g 4 (by decide)]
    exact c6 l hl
  · intro b hb
    rw [n5] at hb
    obtain ⟨e1, e2, e3, e4, e5, e6⟩ := c7 b hb
    obtain ⟨g1, g2, g3, g4, g5, g6⟩ := h8 b hb
    rw [g1, g2, g3, g4, iN_e g3, iN_e g4]
    refine ⟨e1, e2, e3, e4, fun a ha => ?_, fun hm a ha => ?_⟩
    · rw [(g5 a ha).1, (g5 a ha).2]; exact e5 a ha
    · rw [g6 hm a ha]; exact e6 hm a ha
theorem isN_e {u t : Sto} {f i j b : Nat} (h : gI t f i j = gI u f i j) (k : isN u f i j b) : isN t f i j b := by
  unfold isN at k ⊢
  rw [iN_e h, h]; exact k
theorem CoreOk_E {u t : Sto} (h : LiveEq u t) (k : CoreOk u) : CoreOk t := by
  obtain ⟨h1, h2, h3, h4, h5, h6, h7, h8⟩ := h
  obtain ⟨c1, c2, c3, c4, c5, c6, c7⟩ := k
  have n0 : cN t 0 = cN u 0 := iN_e (h1 0 (by decide))
  have n1 : cN t 1 = cN u 1 := iN_e (h1 1 (by decide))
  have n2 : cN t 2 = cN u 2 := iN_e (h1 2 (by decide))
  have n3 : cN t 3 = cN u 3 := iN_e (h1 3 (by decide))
  have n4 : cN t 4 = cN u 4 := iN_e (h1 4 (by decide))
  have n5 : cN t 5 = cN u 5 := iN_e (h1 5 (by decide))
  refine ⟨?_, ⟨?_, ?_⟩, ?_, ?_, ?_, ?_, ?_⟩
  · intro a ha
    exact isN_e (h1 a ha) (c1 a ha)
  · intro i hi a ha
    rw [n0] at hi
    rw [(h2 i hi a ha).1, (h2 i hi a ha).2]; exact c2.1 i hi a ha
  · intro i hi hi2 a ha
    rw [n0] at hi
    exact h3 i hi hi2 a ha
  · intro i hi a ha
    rw [n1] at hi
    rw [h4 i hi a ha]; exact c3 i hi a ha
  · intro d hd
    rw [n2] at hd
    obtain ⟨⟨e1, e1'⟩, e2, e3, e4, e5⟩ := c4 d hd
    obtain ⟨g1, g2⟩ := h5 d hd
    have i2 := iN_e (g1 2 (by decide))
    refine ⟨⟨isN_e (g1 0 (by decide)) e1, by rw [iN_e (g1 0 (by decide)), n1]; exact e1'⟩, isN_e (g1 1 (by decide)) e2, isN_e (g1 2 (by decide)) e3, fun s hs => ?_, fun a ha => ?_⟩
    · rw [i2] at hs
      exact isN_e (g2 s hs).1 (e4 s hs)
    · obtain ⟨o1, o2, o3, o4⟩ := e5 a ha
      rw [i2]
      refine ⟨o1, fun s hs => ?_, fun s hs => ?_, fun s hs => ?_⟩
      · rw [iN_e (g2 s hs).1]; exact o2 s hs
      · rw [iN_e (g2 s (by omega)).1, iN_e (g2 (s + 1) hs).1]; exact o3 s hs
      · have := o4 s hs
        dsimp only at this ⊢
        rw [(g2 s hs).2 a ha]; exact this
  · intro i hi
    rw [n3] at hi
    obtain ⟨e1, e2, e3, e4⟩ := c5 i hi
    obtain ⟨g1, g2⟩ := h6 i hi
    refine ⟨isN_e (g1 0 (by decide)) e1, isN_e (g1 1 (by decide)) e2, isN_e (g1 2 (by decide)) e3, fun a ha => ?_⟩
    rw [(g2 a ha).1, (g2 a ha).2]
    exact e4 a ha
  · intro l hl
    rw [n4] at hl
    have g := h7 l hl
    obtain ⟨⟨e1, e1'⟩, ⟨e2, e2'⟩, ⟨e3, e3'⟩, e4, e5, e6⟩ := c6 l hl
    refine ⟨⟨isN_e (g 0 (by decide)) e1, ?_⟩, ⟨isN_e (g 1 (by decide)) e2, ?_⟩, ⟨isN_e (g 2 (by decide)) e3, ?_⟩, isN_e (g 3 (by decide)) e4, isN_e (g 4 (by decide)) e5, ?_⟩
    · rw [iN_e (g 0 (by decide)), n2]; exact e1'
    · rw [iN_e (g 1 (by decide))]; exact e2'
    · rw [iN_e (g 2 (by decide))]; exact e3'
    · rw [iN_e (g 3 (by decide)), iN_e (g 4 (by decide))]; exact e6
  · intro b hb
    rw [n5] at hb
    obtain ⟨⟨e1, e1'⟩, ⟨e2, e2'⟩, e3, e4, e5, e6, e7⟩ := c7 b hb
    obtain ⟨g1, g2, g3, g4, g5, g6⟩ := h8 b hb
    have i2 := iN_e g3
    refine ⟨⟨isN_e g1 e1, by rw [iN_e g1, n1]; exact e1'⟩, ⟨isN_e g2 e2, by rw [iN_e g2]; exact e2'⟩, isN_e g3 e3, isN_e g4 e4, fun a ha => ?_, fun a c hac hc => ?_, fun hm a ha => ?_⟩
    · rw [i2] at ha
      obtain ⟨⟨p1, p1'⟩, p2, p3, p4⟩ := e5 a ha
      obtain ⟨w1, w2⟩ := g5 a ha
      refine ⟨⟨isN_e w1 p1, by rw [iN_e w1, n4]; exact p1'⟩, isN_e w2 p2, by rw [iN_e w2]; exact p3, ?_⟩
      have gl := h7 (iN u 31 b a) p1'
      rw [iN_e w2, iN_e w1, iN_e (gl 3 (by decide)), iN_e (gl 4 (by decide))]
      exact p4
    · rw [i2] at hc
      rw [iN_e (g5 a (by omega)).1, iN_e (g5 c hc).1]
      exact e6 a c hac hc
    · rw [iN_e g4] at hm
      rw [g6 hm a ha]
      exact e7 hm a ha
