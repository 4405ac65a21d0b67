/-! ===== the correction's next candidate ===== -/
def AX1 (t y : Sto) : Prop := (∀ f i j, ¬ (i = 1 ∧ (f = 48 ∨ f = 49 ∨ (f = 16 ∧ j = 9))) → gI y f i j = gI t f i j) ∧ gF y = gF t ∧ gD y = gD t ∧ gL y = gL t
theorem AX1_t {a b c : Sto} (h : AX1 a b) (k : AX1 b c) : AX1 a c := ⟨fun f i j q => (k.1 f i j q).trans (h.1 f i j q), k.2.1.trans h.2.1, k.2.2.1.trans h.2.2.1, k.2.2.2.trans h.2.2.2⟩
theorem AX1_KF {t y : Sto} (h : AX1 t y) : KF 1 t y := ⟨fun f i j q => h.1 f i j (by omega), fun f i j _ => by rw [h.2.1], fun f i j _ _ _ => by rw [h.2.2.1], fun f i j _ => by rw [h.2.2.2]⟩
theorem AX1_X {l e n a room st : Nat} {D lim need : Nat → Nat} {W : Nat → Nat → Nat} {gr : Nat → UInt32} {t y : Sto} (h : SeC l e n a room st D lim need W gr t) (k : AX1 t y) : SeC l e n a room st D lim need W gr y := SeC_T h (fun f i j q => k.1 f i j (by omega)) (Aim_e (fun f i j _ => by rw [k.2.2.1]) h.2.2.2.2.2.2.1) (fun q hq => by rw [k.2.2.1]; exact h.2.2.2.2.2.2.2 q hq)
theorem AX1_B {t y m : Sto} {k : Nat} (h : BestC t m k) (a : AX1 t y) : BestC y m k := by
  obtain ⟨b1, b2, b3, b4, b5, b6, sb, c1, c2, c3, c4⟩ := h
  refine ⟨(a.1 _ _ _ (by decide)).trans b1, b2, (a.1 _ _ _ (by decide)).trans b3, by rw [a.2.2.1]; exact b4, by rw [a.2.2.1]; exact b5, by rw [a.2.2.2]; exact b6, sb, c1, (a.1 _ _ _ (by decide)).trans c2, fun p hp => ?_, fun p hp => ?_⟩
  · rw [a.1 50 1 p (by omega), a.1 51 1 p (by omega)]; exact c3 p hp
  · obtain ⟨v, v1, v2⟩ := c4 p hp
    exact ⟨v, v1, (a.1 50 1 p (by omega)).trans v2⟩
/-- the class looks for a set with room -/
def scB : Int32 × Sto → Option ((Int32 × Sto) ⊕ ((Int32 × Sto) ⊕ Sto)) := un2 fun (v31 : Int32) (t32 : Sto) =>
        if (1000 : Int32) ≤ v31 then (
         some (.inr (.inr t32))) else (
         (fX8_nextSet 1 t32).bind (un2 fun (v35 : Int32) (t36 : Sto) =>
          if v35 = 0 then (
           some (.inr (.inl ((0 : Int32), t36)))) else (
           (fX8_hasRoom 1 t36).bind (fun (v39 : Int32) =>
            if v39 = 0 then (
             lt1 (v31 + Int32.ofInt (1)) fun (v42 : Int32) =>
             some (.inl (v42, t36))) else (
             some (.inr (.inl ((1 : Int32), t36))))))))
def advL (f v : Nat) (t : Sto) : Option (Int32 × Sto) := (lp scB f (nI v, t)).bind (sm (fun (q : (Int32 × Sto)) => some q) (fun (t33 : Sto) => some ((0 : Int32), t33)))
theorem advR_L (t : Sto) : advR 1 t = advL 4000 0 t := rfl
theorem advL_s {f v : Nat} {t y : Sto} (hv : v < 1000) (h : fX8_nextSet 1 t = some (1, y)) (k : fX8_hasRoom 1 y = some 0) : advL (f + 1) v t = advL f (v + 1) y := by
  unfold advL
  rw [lp_s (s' := (nI (v + 1), y))]
  unfold scB
  dsimp only [un2]
  rw [if_neg (show ¬ (1000 : Int32) ≤ nI v from nI_gt (N := 1000) (by decide) hv), h, Option.bind_some]
  dsimp only [un2]
  rw [if_neg (show ¬ (1 : Int32) = 0 by decide), k, Option.bind_some, if_pos rfl, lt1_e, nI_s]
theorem advL_1 {f v : Nat} {t y : Sto} (hv : v < 1000) (h : fX8_nextSet 1 t = some (1, y)) (k : fX8_hasRoom 1 y = some 1) : advL (f + 1) v t = some (1, y) := by
  unfold advL
  rw [lp_x (r := .inl (1, y))]
  · rfl
  · unfold scB
    dsimp only [un2]
    rw [if_neg (show ¬ (1000 : Int32) ≤ nI v from nI_gt (N := 1000) (by decide) hv), h, Option.bind_some]
    dsimp only [un2]
    rw [if_neg (show ¬ (1 : Int32) = 0 by decide), k, Option.bind_some, if_neg (show ¬ (1 : Int32) = 0 by decide)]
theorem advL_0 {f v : Nat} {t y : Sto} (hv : v < 1000) (h : fX8_nextSet 1 t = some (0, y)) : advL (f + 1) v t = some (0, y) := by
  unfold advL
  rw [lp_x (r := .inl (0, y))]
  · rfl
  · unfold scB
    dsimp only [un2]
    rw [if_neg (show ¬ (1000 : Int32) ≤ nI v from nI_gt (N := 1000) (by decide) hv), h, Option.bind_some]
    dsimp only [un2]
    rw [if_pos rfl]
section
variable {l e n a room st s : Nat} {D lim need i g : Nat → Nat} {W : Nat → Nat → Nat} {gr : Nat → UInt32} {t : Sto}
theorem cA {p : Nat} (hX : SeC l e n a room st D lim need W gr t) (hC : Cd 1 t s st i (fun j => D (i j)) g) (s3 : s ≤ 3) (l30 : ∀ q, q < n → lim q < 2 ^ 30) (hin : ∀ k, k < s → i k < n) (hp : p < s) (hlt : g p < lim (i p)) (hgT : ∀ q, q < s → g q ≤ lim (i q)) (hge : ∀ q, p < q → q < s → lim (i q) ≤ g q) : ∃ y, fX8_advance 1 t = some (1, y) ∧ AX1 t y ∧ Cd 1 y s st i (fun j => D (i j)) (fun j => if j < p then g j else if j = p then g p + 1 else 1) := by
  obtain ⟨z, z1, z2⟩ := xOdo (x := t) (o := 1) (p := p + 1) (lim := fun k => lim (i k)) (by decide) hC.1 s3 (by omega) (fun k hk => ⟨(hC.2.2 k hk).1, (hC.2.2 k hk).2.1⟩) (fun k hk => ⟨(hC.2.2 k hk).2.2.2, by have := hgT k hk; have := l30 _ (hin k hk); omega⟩) (fun k hk => ⟨(hX.2.2.2.2.1 (i k) (hin k hk)).2.1, l30 _ (hin k hk)⟩) (fun q hq => by rw [show q = p by omega]; exact hlt) (fun q h1 h2 => hge q (by omega) h2)
  rw [if_neg (by omega), Nat.add_sub_cancel] at z2
  have yI : ∀ f b j, gI (sI z 49 1 p (nI (g p + 1))) f b j = if f = 49 ∧ b = 1 ∧ j = p then nI (g p + 1) else if f = 49 ∧ b = 1 ∧ p + 1 ≤ j ∧ j < p + 1 + (s - (p + 1)) then 1 else gI t f b j := fun f b j => by rw [gI_sI, z1.1]
  refine ⟨_, z2, ⟨fun f b j q => ?_, z1.2⟩, ?_, ?_, fun k hk => ?_⟩
  · rw [yI, if_neg (by omega), if_neg (by omega)]
  · rw [yI, if_neg (by omega), if_neg (by omega)]; exact hC.1
  · rw [yI, if_neg (by omega), if_neg (by omega)]; exact hC.2.1
  · obtain ⟨h1, h2, h3, h4⟩ := hC.2.2 k hk
    refine ⟨?_, h2, ?_, ?_⟩
    · rw [yI, if_neg (by omega), if_neg (by omega)]; exact h1
    · rw [yI, if_neg (by omega), if_neg (by omega)]; exact h3
    · rw [yI]
      dsimp only
      by_cases q : k = p
      · rw [if_pos ⟨rfl, rfl, q⟩, if_neg (by omega), if_pos q]
      · rw [if_neg (by omega)]
        by_cases r : k < p
        · rw [if_neg (by omega), if_pos r]; exact h4
        · rw [if_pos (by omega), if_neg r, if_neg q]; rfl
theorem cZ (hX : SeC l e n a room st D lim need W gr t) (hC : Cd 1 t s st i (fun j => D (i j)) g) (s3 : s ≤ 3) (l30 : ∀ q, q < n → lim q < 2 ^ 30) (hin : ∀ k, k < s → i k < n) (hgT : ∀ q, q < s → g q = lim (i q)) : ∃ z, FillI 49 1 0 s (fun _ => 1) t z ∧ fX8_advance 1 t = advL 4000 0 z := by
  obtain ⟨z, z1, z2⟩ := xOdo (x := t) (o := 1) (p := 0) (lim := fun k => lim (i k)) (by decide) hC.1 s3 (by omega) (fun k hk => ⟨(hC.2.2 k hk).1, (hC.2.2 k hk).2.1⟩) (fun k hk => ⟨(hC.2.2 k hk).2.2.2, by rw [hgT k hk]; exact l30 _ (hin k hk)⟩) (fun k hk => ⟨(hX.2.2.2.2.1 (i k) (hin k hk)).2.1, l30 _ (hin k hk)⟩) (fun q hq => by omega) (fun q _ h2 => by rw [hgT q h2]; exact Nat.le_refl _)
  rw [if_pos rfl, advR_L] at z2
  exact ⟨z, z1, z2⟩
end
