/-! ===== the reference's chain ===== -/
/-- what undo leaves as it is, in the reference's store -/
def KeepM (t u : Sto) : Prop := gL u = gL t ∧ gD u = gD t ∧ (∀ f i j, ¬ (f = 0 ∧ ((2 ≤ j ∧ j < 8) ∨ j = 10 ∨ j = 44)) → f ≠ 13 → f ≠ 15 → f ≠ 20 → f ≠ 23 → f ≠ 25 → f ≠ 26 → gI u f i j = gI t f i j) ∧ (∀ f i j, f ≠ 2 → ¬ (f = 1 ∧ 16 ≤ j ∧ ¬ (784 ≤ j ∧ j < 800)) → gF u f i j = gF t f i j)
/-- an act with these words takes u back to v -/
def AMok (u v : Sto) (a b c d : Int32) (B D : Nat → UInt32) : Prop := ∀ tm i, i < 60 → gI tm 0 0 44 = nI (i + 1) → gI tm 39 0 i = a → gI tm 40 0 i = b → gI tm 41 0 i = c → gI tm 42 0 i = d → (∀ k, k < 16 → gF tm 43 0 (16 * i + k) = B k ∧ gF tm 44 0 (16 * i + k) = D k) → LiveM u tm → ∃ um, fX12_undo tm = some (1, um) ∧ gI um 0 0 44 = nI i ∧ LiveM v um ∧ KeepM tm um
def ChainM (s : Nat) (m : Sto) (c : Nat → Sto) : Prop := ∀ j, j < s → AMok (c j) (c (j + 1)) (gI m 39 0 (s - 1 - j)) (gI m 40 0 (s - 1 - j)) (gI m 41 0 (s - 1 - j)) (gI m 42 0 (s - 1 - j)) (fun k => gF m 43 0 (16 * (s - 1 - j) + k)) (fun k => gF m 44 0 (16 * (s - 1 - j) + k))
theorem AMok_e {u v : Sto} {a b c d : Int32} {B D B2 D2 : Nat → UInt32} (h : ∀ k, k < 16 → B2 k = B k ∧ D2 k = D k) (q : AMok u v a b c d B D) : AMok u v a b c d B2 D2 := fun tm i h1 h2 h3 h4 h5 h6 h7 h8 => q tm i h1 h2 h3 h4 h5 h6 (fun k hk => ⟨(h7 k hk).1.trans (h k hk).1, (h7 k hk).2.trans (h k hk).2⟩) h8
theorem LiveM_W {u t m : Sto} (h : LiveEq u t) (k : LiveM t m) : LiveM u m := LiveM_mk (fun a ha => (k.1 a ha).trans (h.1 a ha)) fun a ha i hi => LV_X a ha (CX_s a ha (LiveEq_X h a ha i hi)) (LiveM_L k a ha i (by rw [LiveEq_c h ha]; exact hi))
theorem LiveEq_t {u t v : Sto} (h : LiveEq u t) (g : LiveEq t v) : LiveEq u v := LiveEq_mk (fun k hk => (g.1 k hk).trans (h.1 k hk)) (by rw [← LiveEq_c h (by decide)]; exact LiveEq_z g) fun a ha i hi => CX_t a ha (LiveEq_X h a ha i hi) (LiveEq_X g a ha i (by rw [LiveEq_c h ha]; exact hi))
/-- the reference's undo takes the chain's head -/
theorem mUndoC {x m : Sto} {c : Nat → Sto} {s : Nat} (hs : s ≤ 60) (h0 : 1 ≤ s) (h44 : gI m 0 0 44 = nI s) (hm : LiveM x m) (hc : LiveEq (c 0) x) (hM : ChainM s m c) : ∃ um, fX12_undo m = some (1, um) ∧ gI um 0 0 44 = nI (s - 1) ∧ LiveM (c 1) um ∧ KeepM m um :=
  hM 0 (by omega) m (s - 1 - 0) (by omega) (by rw [h44]; exact congrArg nI (by omega)) rfl rfl rfl rfl (fun _ _ => ⟨rfl, rfl⟩) (LiveM_W hc hm)
theorem ChainM_e {s : Nat} {m n : Sto} {c : Nat → Sto} (h : ∀ i, i < s → (∀ f, 39 ≤ f → f ≤ 42 → gI n f 0 i = gI m f 0 i) ∧ ∀ k, k < 16 → gF n 43 0 (16 * i + k) = gF m 43 0 (16 * i + k) ∧ gF n 44 0 (16 * i + k) = gF m 44 0 (16 * i + k)) (hM : ChainM s m c) : ChainM s n c := fun j hj => by
  obtain ⟨q1, q2⟩ := h (s - 1 - j) (by omega)
  rw [q1 39 (by decide) (by decide), q1 40 (by decide) (by decide), q1 41 (by decide) (by decide), q1 42 (by decide) (by decide)]
  exact AMok_e q2 (hM j hj)
theorem ChainM_tl {s : Nat} {m um : Sto} {c : Nat → Sto} (hM : ChainM s m c) (k : KeepM m um) : ChainM (s - 1) um (fun j => c (j + 1)) := by
  refine ChainM_e (m := m) (fun i _ => ⟨fun f h1 h2 => k.2.2.1 f 0 i (by omega) (by omega) (by omega) (by omega) (by omega) (by omega) (by omega), fun q _ => ⟨k.2.2.2 43 0 _ (by decide) (by omega), k.2.2.2 44 0 _ (by decide) (by omega)⟩⟩) (fun j hj => ?_)
  have h := hM (j + 1) (by omega)
  rw [show s - 1 - 1 - j = s - 1 - (j + 1) by omega]
  exact h
/-- the reference's acts are one more: its words, and those ahead -/
def ActM (s : Nat) (m n : Sto) (a b c d : Int32) (B D : Nat → UInt32) : Prop := gI n 0 0 44 = nI (min (s + 1) 60) ∧ gI n 39 0 (min (s + 1) 60 - 1) = a ∧ gI n 40 0 (min (s + 1) 60 - 1) = b ∧ gI n 41 0 (min (s + 1) 60 - 1) = c ∧ gI n 42 0 (min (s + 1) 60 - 1) = d ∧ (∀ k, k < 16 → gF n 43 0 (16 * (min (s + 1) 60 - 1) + k) = B k ∧ gF n 44 0 (16 * (min (s + 1) 60 - 1) + k) = D k) ∧ ∀ j, j + 1 < min (s + 1) 60 → (∀ f, 39 ≤ f → f ≤ 42 → gI n f 0 (min (s + 1) 60 - 1 - (j + 1)) = gI m f 0 (s - 1 - j)) ∧ ∀ k, k < 16 → gF n 43 0 (16 * (min (s + 1) 60 - 1 - (j + 1)) + k) = gF m 43 0 (16 * (s - 1 - j) + k) ∧ gF n 44 0 (16 * (min (s + 1) 60 - 1 - (j + 1)) + k) = gF m 44 0 (16 * (s - 1 - j) + k)
theorem ChainM_ps {s : Nat} {m n y : Sto} {c : Nat → Sto} {a b e d : Int32} {B D : Nat → UInt32} (hs : s ≤ 60) (hM : ChainM s m c) (hA : ActM s m n a b e d B D) (hh : AMok y (c 0) a b e d B D) : ChainM (min (s + 1) 60) n (consC y c) := by
  obtain ⟨_, h1, h2, h3, h4, h5, h6⟩ := hA
  intro j hj
  cases j with
  | zero =>
    rw [Nat.sub_zero, h1, h2, h3, h4]
    exact AMok_e h5 hh
  | succ j =>
    obtain ⟨q1, q2⟩ := h6 j hj
    rw [q1 39 (by decide) (by decide), q1 40 (by decide) (by decide), q1 41 (by decide) (by decide), q1 42 (by decide) (by decide)]
    exact AMok_e q2 (hM j (by omega))
/-- the cells behind an act -/
theorem actS_I {m : Sto} {n : Nat} {a b c d : Int32} {f i j : Nat} (h : f < 39 ∨ 42 < f) (h0 : ¬ (f = 0 ∧ (j = 9 ∨ j = 44))) : gI (actS m n a b c d) f i j = gI m f i j := by
  unfold actS putA
  by_cases e : n = 60
  · rw [if_pos e]
    rw [gI_sI, if_neg (by omega), gI_sI, if_neg (by omega), gI_sI, if_neg (by omega), gI_sI, if_neg (by omega), gI_sI, if_neg (by omega), gI_sI, if_neg (by omega), gI_sI, if_neg (by omega)]
    exact if_neg (by omega)
  · rw [if_neg e]
    rw [gI_sI, if_neg (by omega), gI_sI, if_neg (by omega), gI_sI, if_neg (by omega), gI_sI, if_neg (by omega), gI_sI, if_neg (by omega), gI_sI, if_neg (by omega)]
theorem actS_F {m : Sto} {n : Nat} {a b c d : Int32} {f i j : Nat} (h : f < 43 ∨ 44 < f) : gF (actS m n a b c d) f i j = gF m f i j := by
  unfold actS
  by_cases e : n = 60
  · rw [if_pos e]
    exact if_neg (by omega)
  · rw [if_neg e]; rfl
theorem actS_D {m : Sto} {n : Nat} {a b c d : Int32} : gD (actS m n a b c d) = gD m ∧ gL (actS m n a b c d) = gL m := by
  unfold actS
  by_cases e : n = 60
  · rw [if_pos e]; exact ⟨rfl, rfl⟩
  · rw [if_neg e]; exact ⟨rfl, rfl⟩
theorem actS_9 {m : Sto} {n : Nat} {a b c d : Int32} : gI (actS m n a b c d) 0 0 9 = 0 := by
  unfold actS putA
  by_cases e : n = 60
  · rw [if_pos e, gI_sI, if_pos ⟨rfl, rfl, rfl⟩]
  · rw [if_neg e, gI_sI, if_pos ⟨rfl, rfl, rfl⟩]
theorem putA_c {m : Sto} {n : Nat} {a b c d : Int32} : gI (putA m n a b c d) 0 0 44 = nI (n + 1) ∧ gI (putA m n a b c d) 39 0 n = a ∧ gI (putA m n a b c d) 40 0 n = b ∧ gI (putA m n a b c d) 41 0 n = c ∧ gI (putA m n a b c d) 42 0 n = d ∧ ∀ f i, 39 ≤ f → f ≤ 42 → i < n → gI (putA m n a b c d) f 0 i = gI m f 0 i := by
  unfold putA
  refine ⟨rfl, ?_, ?_, ?_, ?_, fun f i h1 h2 h3 => ?_⟩
  · rw [gI_sI, if_neg (by omega), gI_sI, if_neg (by omega), gI_sI, if_neg (by omega), gI_sI, if_neg (by omega), gI_sI, if_neg (by omega), gI_sI, if_pos ⟨rfl, rfl, rfl⟩]
  · rw [gI_sI, if_neg (by omega), gI_sI, if_neg (by omega), gI_sI, if_neg (by omega), gI_sI, if_neg (by omega), gI_sI, if_pos ⟨rfl, rfl, rfl⟩]
  · rw [gI_sI, if_neg (by omega), gI_sI, if_neg (by omega), gI_sI, if_neg (by omega), gI_sI, if_pos ⟨rfl, rfl, rfl⟩]
  · rw [gI_sI, if_neg (by omega), gI_sI, if_neg (by omega), gI_sI, if_pos ⟨rfl, rfl, rfl⟩]
  · rw [gI_sI, if_neg (by omega), gI_sI, if_neg (by omega), gI_sI, if_neg (by omega), gI_sI, if_neg (by omega), gI_sI, if_neg (by omega), gI_sI, if_neg (by omega)]
theorem actS_c {m : Sto} {s : Nat} {a b c d : Int32} (h : s ≤ 60) : ∃ B D, ActM s m (actS m s a b c d) a b c d B D := by
  refine ⟨fun k => gF (actS m s a b c d) 43 0 (16 * (min (s + 1) 60 - 1) + k), fun k => gF (actS m s a b c d) 44 0 (16 * (min (s + 1) 60 - 1) + k), ?_⟩
  by_cases e : s = 60
  · subst e
    have ea : actS m 60 a b c d = putA (sI (shF (shI m 59) 944) 0 0 44 (nI 59)) 59 a b c d := by unfold actS; rw [if_pos rfl]
    rw [ea, show min (60 + 1) 60 = 60 from rfl]
    obtain ⟨p1, p2, p3, p4, p5, p6⟩ := putA_c (m := sI (shF (shI m 59) 944) 0 0 44 (nI 59)) (n := 59) (a := a) (b := b) (c := c) (d := d)
    refine ⟨p1, p2, p3, p4, p5, fun _ _ => ⟨rfl, rfl⟩, fun j hj => ⟨fun f h1 h2 => ?_, fun k hk => ⟨?_, ?_⟩⟩⟩
    · rw [show min (60 + 1) 60 = 60 from rfl, p6 f (60 - 1 - (j + 1)) h1 h2 (by omega), gI_sI, if_neg (by omega)]
      refine (if_pos ⟨⟨h1, h2⟩, rfl, by omega⟩).trans ?_
      rw [show 60 - 1 - (j + 1) + 1 = 60 - 1 - j by omega]; rfl
    · rw [show min (60 + 1) 60 = 60 from rfl]
      refine (show gF (putA (sI (shF (shI m 59) 944) 0 0 44 (nI 59)) 59 a b c d) 43 0 (16 * (60 - 1 - (j + 1)) + k) = gF (shF (shI m 59) 944) 43 0 (16 * (60 - 1 - (j + 1)) + k) from rfl).trans ?_
      refine (if_pos ⟨⟨by decide, by decide⟩, rfl, by omega⟩).trans ?_
      rw [show 16 * (60 - 1 - (j + 1)) + k + 16 = 16 * (60 - 1 - j) + k by omega]; rfl
    · rw [show min (60 + 1) 60 = 60 from rfl]
      refine (show gF (putA (sI (shF (shI m 59) 944) 0 0 44 (nI 59)) 59 a b c d) 44 0 (16 * (60 - 1 - (j + 1)) + k) = gF (shF (shI m 59) 944) 44 0 (16 * (60 - 1 - (j + 1)) + k) from rfl).trans ?_
      refine (if_pos ⟨⟨by decide, by decide⟩, rfl, by omega⟩).trans ?_
      rw [show 16 * (60 - 1 - (j + 1)) + k + 16 = 16 * (60 - 1 - j) + k by omega]; rfl
  · have ea : actS m s a b c d = putA m s a b c d := by unfold actS; rw [if_neg e]
    rw [ea, show min (s + 1) 60 = s + 1 by omega, Nat.add_sub_cancel]
    obtain ⟨p1, p2, p3, p4, p5, p6⟩ := putA_c (m := m) (n := s) (a := a) (b := b) (c := c) (d := d)
    refine ⟨by rw [show min (s + 1) 60 = s + 1 by omega]; exact p1, by rw [show min (s + 1) 60 - 1 = s by omega]; exact p2, by rw [show min (s + 1) 60 - 1 = s by omega]; exact p3, by rw [show min (s + 1) 60 - 1 = s by omega]; exact p4, by rw [show min (s + 1) 60 - 1 = s by omega]; exact p5, fun _ _ => by rw [show min (s + 1) 60 - 1 = s by omega]; exact ⟨rfl, rfl⟩, fun j hj => ⟨fun f h1 h2 => ?_, fun k hk => ⟨?_, ?_⟩⟩⟩
    · rw [show min (s + 1) 60 - 1 - (j + 1) = s - 1 - j by omega]
      exact p6 f (s - 1 - j) h1 h2 (by omega)
    · rw [show min (s + 1) 60 - 1 - (j + 1) = s - 1 - j by omega]; rfl
    · rw [show min (s + 1) 60 - 1 - (j + 1) = s - 1 - j by omega]; rfl
theorem CM_act {x m0 m : Sto} {n i : Nat} {a b c d : Int32} : ∀ k, k < 6 → CM k x m0 m i → CM k x m0 (actS m n a b c d) i := six (P := fun k => CM k x m0 m i → CM k x m0 (actS m n a b c d) i)
  (fun h k hk => by rw [actS_F (by decide), actS_F (by decide)]; exact h k hk)
  (fun h k hk => by rw [actS_F (by decide)]; exact h k hk)
  (fun h => by
    obtain ⟨h1, h2, h3, h4⟩ := h
    refine ⟨(actS_I (by decide) (by omega)).trans h1, (actS_I (by decide) (by omega)).trans h2, (actS_I (by decide) (by omega)).trans h3, fun s hs => ⟨(actS_I (by decide) (by omega)).trans (h4 s hs).1, fun k hk => ?_⟩⟩
    rw [actS_F (by decide)]; exact (h4 s hs).2 k hk)
  (fun h => by
    obtain ⟨h1, h2, h3, h4⟩ := h
    refine ⟨(actS_I (by decide) (by omega)).trans h1, (actS_I (by decide) (by omega)).trans h2, (actS_I (by decide) (by omega)).trans h3, fun k hk => ?_⟩
    rw [actS_D.1]; exact h4 k hk)
  (fun h => ⟨(actS_I (by decide) (by omega)).trans h.1, (actS_I (by decide) (by omega)).trans h.2.1, (actS_I (by decide) (by omega)).trans h.2.2.1, (actS_I (by decide) (by omega)).trans h.2.2.2.1, (actS_I (by decide) (by omega)).trans h.2.2.2.2⟩)
  (fun h => by
    obtain ⟨h1, h2, h3, h4, h5, h6⟩ := h
    refine ⟨(actS_I (by decide) (by omega)).trans h1, (actS_I (by decide) (by omega)).trans h2, (actS_I (by decide) (by omega)).trans h3, (actS_I (by decide) (by omega)).trans h4, fun k hk => ⟨(actS_I (by decide) (by omega)).trans (h5 k hk).1, (actS_I (by decide) (by omega)).trans (h5 k hk).2⟩, fun q k hk => ?_⟩
    rw [actS_F (by decide)]; exact h6 q k hk)
theorem CM_r (x m : Sto) (i : Nat) : ∀ k, k < 6 → CM k x m m i := six (P := fun k => CM k x m m i) (fun _ _ => ⟨rfl, rfl⟩) (fun _ _ => rfl) ⟨rfl, rfl, rfl, fun _ _ => ⟨rfl, fun _ _ => rfl⟩⟩ ⟨rfl, rfl, rfl, fun _ _ => ⟨rfl, rfl⟩⟩ ⟨rfl, rfl, rfl, rfl, rfl⟩ ⟨rfl, rfl, rfl, rfl, fun _ _ => ⟨rfl, rfl⟩, fun _ _ _ => rfl⟩
theorem CM_act0 {x m : Sto} {n i k : Nat} {a b c d : Int32} (hk : k < 6) : CM k x m (actS m n a b c d) i := CM_act k hk (CM_r x m i k hk)
