/-! ===== what a write leaves of things ===== -/
theorem CM_t {x m n p : Sto} {i : Nat} : ∀ k, k < 6 → CM k x m n i → CM k x n p i → CM k x m p i := six (P := fun k => CM k x m n i → CM k x n p i → CM k x m p i)
  (fun h g k hk => ⟨(g k hk).1.trans (h k hk).1, (g k hk).2.trans (h k hk).2⟩)
  (fun h g k hk => (g k hk).trans (h k hk))
  (fun h g => ⟨g.1.trans h.1, g.2.1.trans h.2.1, g.2.2.1.trans h.2.2.1, fun s hs => ⟨(g.2.2.2 s hs).1.trans (h.2.2.2 s hs).1, fun k hk => ((g.2.2.2 s hs).2 k hk).trans ((h.2.2.2 s hs).2 k hk)⟩⟩)
  (fun h g => ⟨g.1.trans h.1, g.2.1.trans h.2.1, g.2.2.1.trans h.2.2.1, fun k hk => ⟨(g.2.2.2 k hk).1.trans (h.2.2.2 k hk).1, (g.2.2.2 k hk).2.trans (h.2.2.2 k hk).2⟩⟩)
  (fun h g => ⟨g.1.trans h.1, g.2.1.trans h.2.1, g.2.2.1.trans h.2.2.1, g.2.2.2.1.trans h.2.2.2.1, g.2.2.2.2.trans h.2.2.2.2⟩)
  (fun h g => ⟨g.1.trans h.1, g.2.1.trans h.2.1, g.2.2.1.trans h.2.2.1, g.2.2.2.1.trans h.2.2.2.1, fun k hk => ⟨(g.2.2.2.2.1 k hk).1.trans (h.2.2.2.2.1 k hk).1, (g.2.2.2.2.1 k hk).2.trans (h.2.2.2.2.1 k hk).2⟩, fun q k hk => (g.2.2.2.2.2 q k hk).trans (h.2.2.2.2.2 q k hk)⟩)
theorem CM_I {x m : Sto} {f j i : Nat} {v : Int32} : ∀ k, k < 6 → (k = 2 → iN x 22 i 2 ≤ 6) → (k = 5 → iN x 30 i 2 ≤ 8) → ¬ (k = 2 ∧ (((f = 12 ∨ f = 13 ∨ f = 15) ∧ j = i) ∨ (f = 14 ∧ 6 * i ≤ j ∧ j < 6 * i + 6))) → ¬ (k = 3 ∧ (34 ≤ f ∧ f ≤ 36) ∧ j = i) → ¬ (k = 4 ∧ (16 ≤ f ∧ f ≤ 20) ∧ j = i) → ¬ (k = 5 ∧ (((f = 21 ∨ f = 22 ∨ f = 23 ∨ f = 26) ∧ j = i) ∨ ((f = 24 ∨ f = 25) ∧ 8 * i ≤ j ∧ j < 8 * i + 8))) → CM k x m (sI m f 0 j v) i := by
  have g : ∀ a b, ¬ (a = f ∧ b = j) → gI (sI m f 0 j v) a 0 b = gI m a 0 b := fun a b q => by rw [gI_sI, if_neg (by omega)]
  refine six (P := fun k => (k = 2 → iN x 22 i 2 ≤ 6) → (k = 5 → iN x 30 i 2 ≤ 8) → ¬ (k = 2 ∧ (((f = 12 ∨ f = 13 ∨ f = 15) ∧ j = i) ∨ (f = 14 ∧ 6 * i ≤ j ∧ j < 6 * i + 6))) → ¬ (k = 3 ∧ (34 ≤ f ∧ f ≤ 36) ∧ j = i) → ¬ (k = 4 ∧ (16 ≤ f ∧ f ≤ 20) ∧ j = i) → ¬ (k = 5 ∧ (((f = 21 ∨ f = 22 ∨ f = 23 ∨ f = 26) ∧ j = i) ∨ ((f = 24 ∨ f = 25) ∧ 8 * i ≤ j ∧ j < 8 * i + 8))) → CM k x m (sI m f 0 j v) i) (fun _ _ _ _ _ _ => CM_r x m i 0 (by decide)) (fun _ _ _ _ _ _ => CM_r x m i 1 (by decide)) (fun h6 _ q _ _ _ => ?_) (fun _ _ _ q _ _ => ?_) (fun _ _ _ _ q _ => ?_) (fun _ h8 _ _ _ q => ?_)
  · exact ⟨g 12 i (by omega), g 13 i (by omega), g 15 i (by omega), fun s hs => ⟨g 14 _ (by have := h6 rfl; omega), fun _ _ => rfl⟩⟩
  · exact ⟨g 34 i (by omega), g 35 i (by omega), g 36 i (by omega), fun _ _ => ⟨rfl, rfl⟩⟩
  · exact ⟨g 16 i (by omega), g 17 i (by omega), g 18 i (by omega), g 19 i (by omega), g 20 i (by omega)⟩
  · exact ⟨g 21 i (by omega), g 22 i (by omega), g 23 i (by omega), g 26 i (by omega), fun s hs => ⟨g 24 _ (by have := h8 rfl; omega), g 25 _ (by have := h8 rfl; omega)⟩, fun _ _ _ => rfl⟩
theorem CM_O {x m : Sto} {f o i : Nat} {v : Nat → UInt32} : ∀ k, k < 6 → (k = 2 → iN x 22 i 2 ≤ 6) → ¬ (k = 0 ∧ ((f = 1 ∧ 16 * (1 + i) < o + 16 ∧ o < 16 * (1 + i) + 16) ∨ (f = 2 ∧ 16 * i < o + 16 ∧ o < 16 * i + 16))) → ¬ (k = 1 ∧ f = 1 ∧ 16 * (41 + i) < o + 16 ∧ o < 16 * (41 + i) + 16) → ¬ (k = 2 ∧ f = 1 ∧ 16 * (62 + 6 * i) < o + 16 ∧ o < 16 * (62 + 6 * i) + 96) → ¬ (k = 5 ∧ f = 1 ∧ 16 * (50 + i) < o + 16 ∧ o < 16 * (50 + i) + 16) → CM k x m (putO m f 0 o 16 v) i := by
  have g : ∀ a b, ¬ (a = f ∧ o ≤ b ∧ b < o + 16) → gF (putO m f 0 o 16 v) a 0 b = gF m a 0 b := fun a b q => putO_g (by omega)
  refine six (P := fun k => (k = 2 → iN x 22 i 2 ≤ 6) → ¬ (k = 0 ∧ ((f = 1 ∧ 16 * (1 + i) < o + 16 ∧ o < 16 * (1 + i) + 16) ∨ (f = 2 ∧ 16 * i < o + 16 ∧ o < 16 * i + 16))) → ¬ (k = 1 ∧ f = 1 ∧ 16 * (41 + i) < o + 16 ∧ o < 16 * (41 + i) + 16) → ¬ (k = 2 ∧ f = 1 ∧ 16 * (62 + 6 * i) < o + 16 ∧ o < 16 * (62 + 6 * i) + 96) → ¬ (k = 5 ∧ f = 1 ∧ 16 * (50 + i) < o + 16 ∧ o < 16 * (50 + i) + 16) → CM k x m (putO m f 0 o 16 v) i) (fun _ q _ _ _ k hk => ⟨g 1 _ (by omega), g 2 _ (by omega)⟩) (fun _ _ q _ _ k hk => g 1 _ (by omega)) (fun h6 _ _ q _ => ?_) (fun _ _ _ _ _ => CM_r x m i 3 (by decide)) (fun _ _ _ _ _ => CM_r x m i 4 (by decide)) (fun _ _ _ _ q => ?_)
  · exact ⟨rfl, rfl, rfl, fun s hs => ⟨rfl, fun k hk => g 1 _ (by have := h6 rfl; omega)⟩⟩
  · exact ⟨rfl, rfl, rfl, rfl, fun _ _ => ⟨rfl, rfl⟩, fun _ k hk => g 1 _ (by omega)⟩
theorem CX_I {x : Sto} {f b j i : Nat} {v : Int32} : ∀ k, k < 6 → ¬ (k = 2 ∧ (f = 22 ∨ f = 23) ∧ b = i) → ¬ (k = 3 ∧ f = 26 ∧ b = i) → ¬ (k = 4 ∧ f = 29 ∧ b = i) → ¬ (k = 5 ∧ (30 ≤ f ∧ f ≤ 32) ∧ b = i) → eqX k x (sI x f b j v) i := by
  have g : ∀ a c d, ¬ (a = f ∧ c = b) → gI (sI x f b j v) a c d = gI x a c d := fun a c d q => by rw [gI_sI, if_neg (by omega)]
  refine six (P := fun k => ¬ (k = 2 ∧ (f = 22 ∨ f = 23) ∧ b = i) → ¬ (k = 3 ∧ f = 26 ∧ b = i) → ¬ (k = 4 ∧ f = 29 ∧ b = i) → ¬ (k = 5 ∧ (30 ≤ f ∧ f ≤ 32) ∧ b = i) → eqX k x (sI x f b j v) i) (fun _ _ _ _ => CX_r x i 0 (by decide)) (fun _ _ _ _ => CX_r x i 1 (by decide)) (fun q _ _ _ => ?_) (fun _ q _ _ => ?_) (fun _ _ q _ => ?_) (fun _ _ _ q => ?_)
  · exact ⟨fun a _ => g 22 i a (by omega), fun s _ => ⟨g 23 i s (by omega), fun _ _ => rfl⟩⟩
  · exact ⟨fun a _ => g 26 i a (by omega), fun _ _ => ⟨rfl, rfl⟩⟩
  · exact fun a _ => g 29 i a (by omega)
  · exact ⟨g 30 i 0 (by omega), g 30 i 1 (by omega), g 30 i 2 (by omega), g 30 i 5 (by omega), fun a _ => ⟨g 31 i a (by omega), g 32 i a (by omega)⟩, fun _ _ _ => rfl⟩
theorem CX_F {x : Sto} {f b n i : Nat} {v : Nat → UInt32} : ∀ k, k < 6 → ¬ (k = 0 ∧ (f = 20 ∨ f = 21) ∧ b = i) → ¬ (k = 1 ∧ f = 6 ∧ b = i) → ¬ (k = 5 ∧ f = 33 ∧ b = i) → eqX k x (putF x f b n v) i := by
  have g : ∀ a c d, ¬ (a = f ∧ c = b) → gF (putF x f b n v) a c d = gF x a c d := fun a c d q => putF_g (by omega)
  refine six (P := fun k => ¬ (k = 0 ∧ (f = 20 ∨ f = 21) ∧ b = i) → ¬ (k = 1 ∧ f = 6 ∧ b = i) → ¬ (k = 5 ∧ f = 33 ∧ b = i) → eqX k x (putF x f b n v) i) (fun q _ _ k _ => ⟨g 20 i k (by omega), g 21 i k (by omega)⟩) (fun _ q _ k _ => g 6 i k (by omega)) (fun _ _ _ => CX_r x i 2 (by decide)) (fun _ _ _ => CX_r x i 3 (by decide)) (fun _ _ _ => CX_r x i 4 (by decide)) (fun _ _ q => ?_)
  exact ⟨rfl, rfl, rfl, rfl, fun _ _ => ⟨rfl, rfl⟩, fun _ k _ => g 33 i k (by omega)⟩
theorem CX_D {x : Sto} {f b n i : Nat} {v : Nat → UInt64} : ∀ k, k < 6 → (k = 2 → iN x 22 i 2 ≤ 6) → ¬ (k = 2 ∧ f = 25 ∧ 6 * i ≤ b ∧ b < 6 * i + 6) → ¬ (k = 3 ∧ (f = 27 ∨ f = 28) ∧ b = i) → eqX k x (putD x f b n v) i := by
  have g : ∀ a c d, ¬ (a = f ∧ c = b) → gD (putD x f b n v) a c d = gD x a c d := fun a c d q => putD_g (by omega)
  refine six (P := fun k => (k = 2 → iN x 22 i 2 ≤ 6) → ¬ (k = 2 ∧ f = 25 ∧ 6 * i ≤ b ∧ b < 6 * i + 6) → ¬ (k = 3 ∧ (f = 27 ∨ f = 28) ∧ b = i) → eqX k x (putD x f b n v) i) (fun _ _ _ => CX_r x i 0 (by decide)) (fun _ _ _ => CX_r x i 1 (by decide)) (fun h6 q _ => ?_) (fun _ _ q => ?_) (fun _ _ _ => CX_r x i 4 (by decide)) (fun _ _ _ => CX_r x i 5 (by decide))
  · exact ⟨fun _ _ => rfl, fun s hs => ⟨rfl, fun k _ => g 25 _ k (by have := h6 rfl; omega)⟩⟩
  · exact ⟨fun _ _ => rfl, fun k _ => ⟨g 27 i k (by omega), g 28 i k (by omega)⟩⟩
/-- the class's store with an act noted and accepted -/
def modS (x1 : Sto) (w s : Nat) (a b c d : Int32) : Sto := sI (noteS x1 w s a b c d) 0 0 19 0
theorem modS_I {x1 : Sto} {w s : Nat} {a b c d : Int32} {f i j : Nat} (h : f ≠ 18 ∧ f ≠ 55 ∧ (f ≠ 0 ∨ j ≠ 19)) : gI (modS x1 w s a b c d) f i j = gI x1 f i j := by
  unfold modS
  rw [gI_sI, if_neg (by omega), noteS_I ⟨h.1, h.2.1⟩]
theorem modS_C {x1 : Sto} {w s : Nat} {a b c d : Int32} {i : Nat} : ∀ k, k < 6 → eqX k x1 (modS x1 w s a b c d) i := CX_f (fun f i j h1 h2 => modS_I (by omega)) (fun _ _ _ _ => rfl) (fun _ _ _ _ => rfl)
theorem modS_w {x1 : Sto} {w s : Nat} {a b c d : Int32} : gI (modS x1 w s a b c d) 55 w 0 = a ∧ gI (modS x1 w s a b c d) 55 w 1 = b ∧ gI (modS x1 w s a b c d) 55 w 2 = c ∧ gI (modS x1 w s a b c d) 55 w 3 = d ∧ gI (modS x1 w s a b c d) 18 0 2 = nI w ∧ gI (modS x1 w s a b c d) 18 0 3 = nI s := by
  have g : ∀ f i j, f ≠ 0 → gI (modS x1 w s a b c d) f i j = gI (noteS x1 w s a b c d) f i j := fun f i j q => by unfold modS; rw [gI_sI, if_neg (by omega)]
  rw [g _ _ _ (by decide), g _ _ _ (by decide), g _ _ _ (by decide), g _ _ _ (by decide), g _ _ _ (by decide), g _ _ _ (by decide)]
  exact noteS_w
theorem modS_55 {x1 : Sto} {w s : Nat} {a b c d : Int32} {v j : Nat} (h : v ≠ w) : gI (modS x1 w s a b c d) 55 v j = gI x1 55 v j := by
  unfold modS
  rw [gI_sI, if_neg (by omega), noteS_55 h]
/-- an act that changes what there is -/
theorem rel_mod {x y m n : Sto} {a b e d : Int32} {B D : Nat → UInt32} (h : Rel x m) (e2 : gI y 18 0 2 = nI ((iN x 18 0 2 + 1) % 60)) (e3 : gI y 18 0 3 = nI (min (iN x 18 0 3 + 1) 60)) (hrow : ∀ w, w < 60 → w ≠ (iN x 18 0 2 + 1) % 60 → sameRow x y w) (c3 : ∀ k, k < 6 → gI y 3 0 k = gI x 3 0 k) (hl : ∀ l, l < cN x 4 → iN x 29 l 3 - iN x 29 l 4 ≤ iN y 29 l 3 - iN y 29 l 4) (hz : zero21 y (cN x 0)) (mc : ∀ k, k < 6 → gI n 0 0 (cM k) = gI m 0 0 (cM k)) (hcl : ∀ i, i < cN x 1 → CM 1 x m n i) (hC : ∀ k, k < 6 → ∀ i, i < cN x k → (eqX k x y i ∧ CM k x m n i) ∨ (PX k y i ∧ LV k y n i)) (hA : ActM (iN x 18 0 3) m n a b e d B D) (hX : CoreOk y → ∀ t, LiveEq y t → sameRow y t ((iN x 18 0 2 + 1) % 60) → ∃ u, undoAt ((iN x 18 0 2 + 1) % 60) t = some u ∧ LiveEq x u ∧ KeepX t u) (hM : CoreOk y → AMok y x a b e d B D) (hS : SCX x y) (hSM : SCM m n) (h9 : gI n 0 0 9 = gI y 0 0 19) : Rel y n := by
  have hx := h.1.2.1
  have ec : ∀ k, k < 6 → cN y k = cN x k := fun k hk => iN_e (c3 k hk)
  have hy : CoreOk y := core_up hx (fun k hk => isN_e (c3 k hk) (hx.1 k hk)) (fun k hk => Nat.le_of_eq (ec k hk).symm) hl (by rw [ec 0 (by decide)]; exact hz) (fun k hk i hi => by
    rw [ec k hk] at hi
    exact (hC k hk i hi).imp (fun q => ⟨hi, q.1⟩) (fun q => q.1))
  refine ⟨rel_act h.1 e2 e3 hrow hy (live_up hx h.1.2.2.1 (fun k hk => ?_) hcl (fun k hk i hi => ?_)) hA (hX hy) (hM hy), h9, Cur_f hS hSM h.2.2⟩
  · rw [mc k hk, c3 k hk]; exact h.1.2.2.1.1 k hk
  · rw [ec k hk] at hi
    exact (hC k hk i hi).imp (fun q => ⟨hi, q.1, q.2⟩) (fun q => q.2)
