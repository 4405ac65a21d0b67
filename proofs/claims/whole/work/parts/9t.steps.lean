/-! ===== the recipe's next candidate ===== -/
/-- what advancing leaves of the class's store -/
def AX (t y : Sto) : Prop := (∀ f i j, ¬ (i = 0 ∧ (f = 48 ∨ f = 49 ∨ (f = 16 ∧ j = 9))) → gI y f i j = gI t f i j) ∧ gF y = gF t ∧ gD y = gD t ∧ gL y = gL t
theorem AX_KF {t y : Sto} (h : AX t y) : KF 0 t y := ⟨fun f i j q => h.1 f i j (by omega), fun f i j _ => by rw [h.2.1], fun f i j _ _ _ => by rw [h.2.2.1], fun f i j _ => by rw [h.2.2.2]⟩
theorem AX_X {l e n a st T : Nat} {D : Nat → Nat} {W : Nat → Nat → Nat} {gr : Nat → UInt32} {t y : Sto} (h : SeX l e n a st T D W gr t) (k : AX t y) : SeX l e n a st T D W gr y := SeX_T h (fun f i j q => k.1 f i j (by omega)) (Aim_e (fun f i j _ => by rw [k.2.2.1]) h.2.2.2.2.2.2.1) (fun q hq => by rw [k.2.2.1]; exact h.2.2.2.2.2.2.2 q hq)
theorem AX_B {t y m : Sto} {k : Nat} (h : BestR t m k) (a : AX t y) : BestR y m k := by
  obtain ⟨b1, b2, b3, b4⟩ := h
  refine ⟨(a.1 _ _ _ (by decide)).trans b1, b2, fun q => (a.1 _ _ _ (by decide)).trans (b3 q), fun q => ?_⟩
  obtain ⟨c1, c2, c3, c4, sb, c5, c6, c7, c8⟩ := b4 q
  rw [a.2.2.1, a.2.2.2]
  exact ⟨(a.1 _ _ _ (by decide)).trans c1, c2, c3, c4, sb, c5, (a.1 _ _ _ (by decide)).trans c6, c7, fun p hp => by rw [a.1 50 0 p (by omega), a.1 51 0 p (by omega)]; exact c8 p hp⟩
theorem nsum_0 : ∀ n, nsum (fun _ => 0) n = 0
  | 0 => rfl
  | n + 1 => by
    show nsum (fun _ => 0) n + 0 = 0
    rw [nsum_0 n]
section
variable {l e n a st T s : Nat} {D i g : Nat → Nat} {W : Nat → Nat → Nat} {gr : Nat → UInt32} {t : Sto}
/-- one time more of the last that may have more -/
theorem advA {p : Nat} (hX : SeX l e n a st T D W gr t) (hC : Cd 0 t s st i (fun j => D (i j)) g) (s3 : s ≤ 3) (n20 : n ≤ 20) (T30 : T < 2 ^ 30) (hin : ∀ k, k < s → i k < n) (hp : p < s) (hlt : g p < T) (hgT : ∀ q, q < s → g q ≤ T) (hge : ∀ q, p < q → q < s → T ≤ g q) : ∃ y, fX8_advance 0 t = some (1, y) ∧ AX t y ∧ Cd 0 y s st i (fun j => D (i j)) (fun j => if j < p then g j else if j = p then g p + 1 else 1) := by
  obtain ⟨z, z1, z2⟩ := xOdo (x := t) (o := 0) (p := p + 1) (lim := fun _ => T) (by decide) hC.1 s3 (by omega) (fun k hk => ⟨(hC.2.2 k hk).1, (hC.2.2 k hk).2.1⟩) (fun k hk => ⟨(hC.2.2 k hk).2.2.2, by have := hgT k hk; omega⟩) (fun k hk => ⟨(hX.2.2.2.2.1 (i k) (hin k hk)).2.1, T30⟩) (fun q hq => by rw [show q = p by omega]; exact hlt) (fun q h1 h2 => hge q (by omega) h2)
  rw [if_neg (by omega), Nat.add_sub_cancel] at z2
  have yI : ∀ f b j, gI (sI z 49 0 p (nI (g p + 1))) f b j = if f = 49 ∧ b = 0 ∧ j = p then nI (g p + 1) else if f = 49 ∧ b = 0 ∧ p + 1 ≤ j ∧ j < p + 1 + (s - (p + 1)) then 1 else gI t f b j := fun f b j => by rw [gI_sI, z1.1]
  refine ⟨_, z2, ⟨fun f b j q => ?_, z1.2⟩, ?_, ?_, fun k hk => ?_⟩
  · rw [yI, if_neg (by omega), if_neg (by omega)]
  · rw [yI, if_neg (by omega), if_neg (by omega)]; exact hC.1
  · rw [yI, if_neg (by omega), if_neg (by omega)]; exact hC.2.1
  · obtain ⟨h1, h2, h3, h4⟩ := hC.2.2 k hk
    refine ⟨?_, h2, ?_, ?_⟩
    · rw [yI, if_neg (by omega), if_neg (by omega)]; exact h1
    · rw [yI, if_neg (by omega), if_neg (by omega)]; exact h3
    · rw [yI]
      dsimp only
      by_cases q : k = p
      · rw [if_pos ⟨rfl, rfl, q⟩, if_neg (by omega), if_pos q]
      · rw [if_neg (by omega)]
        by_cases r : k < p
        · rw [if_neg (by omega), if_pos r]; exact h4
        · rw [if_pos (by omega), if_neg r, if_neg q]; rfl
theorem advZ (hX : SeX l e n a st T D W gr t) (hC : Cd 0 t s st i (fun j => D (i j)) g) (s3 : s ≤ 3) (T30 : T < 2 ^ 30) (hin : ∀ k, k < s → i k < n) (hgT : ∀ q, q < s → g q = T) : ∃ z, FillI 49 0 0 s (fun _ => 1) t z ∧ fX8_advance 0 t = advR 0 z := by
  obtain ⟨z, z1, z2⟩ := xOdo (x := t) (o := 0) (p := 0) (lim := fun _ => T) (by decide) hC.1 s3 (by omega) (fun k hk => ⟨(hC.2.2 k hk).1, (hC.2.2 k hk).2.1⟩) (fun k hk => ⟨(hC.2.2 k hk).2.2.2, by rw [hgT k hk]; exact T30⟩) (fun k hk => ⟨(hX.2.2.2.2.1 (i k) (hin k hk)).2.1, T30⟩) (fun q hq => by omega) (fun q _ h2 => by rw [hgT q h2]; exact Nat.le_refl _)
  rw [if_pos rfl] at z2
  exact ⟨z, z1, z2⟩
/-- the next set of as many -/
theorem advB {p : Nat} (hX : SeX l e n a st T D W gr t) (hC : Cd 0 t s st i (fun j => D (i j)) g) (s3 : s ≤ 3) (n20 : n ≤ 20) (a3 : a ≤ 3) (sn : s ≤ n) (T30 : T < 2 ^ 30) (hin : ∀ k, k < s → i k < n) (hgT : ∀ q, q < s → g q = T) (hp : p < s) (hlt : i p < n - s + p) (hge : ∀ q, p < q → q < s → n - s + q ≤ i q) : ∃ y, fX8_advance 0 t = some (1, y) ∧ AX t y ∧ Cd 0 y s st (fun j => if j < p then i j else i p + 1 + j - p) (fun j => D (if j < p then i j else i p + 1 + j - p)) (fun _ => 1) := by
  obtain ⟨z, z1, z2⟩ := advZ hX hC s3 T30 hin hgT
  have zI : ∀ f b j, f ≠ 49 → gI z f b j = gI t f b j := fun f b j q => by rw [z1.1, if_neg (by omega)]
  obtain ⟨y, y1, w, w1, w2⟩ := (xNext (x := z) (o := 0) (s := s) (n := n) (a := a) (p := p + 1) (i := i) (by decide) ((zI _ _ _ (by decide)).trans hC.1) ((zI _ _ _ (by decide)).trans hX.1) ((zI _ _ _ (by decide)).trans hX.2.1) s3 sn n20 a3 (by omega) (fun k hk => ⟨(zI _ _ _ (by decide)).trans (hC.2.2 k hk).1, (hC.2.2 k hk).2.1⟩) (fun q hq => by rw [show q = p by omega]; exact hlt) (fun q h1 h2 => hge q (by omega) h2)).1 p rfl
  have yI : ∀ f b j, gI y f b j = if f = 49 ∧ b = 0 ∧ 0 ≤ j ∧ j < 0 + s then 1 else if f = 48 ∧ b = 0 ∧ p ≤ j ∧ j < p + (s - p) then nI (i p + 1 + j - p) else if f = 49 ∧ b = 0 ∧ 0 ≤ j ∧ j < 0 + s then 1 else gI t f b j := fun f b j => by rw [w2.1, w1.1, z1.1]
  have yo : ∀ f b j, ¬ (b = 0 ∧ (f = 48 ∨ f = 49)) → gI y f b j = gI t f b j := fun f b j q => by rw [yI, if_neg (by omega), if_neg (by omega), if_neg (by omega)]
  have inw : ∀ k, k < s → (if k < p then i k else i p + 1 + k - p) < n := fun k hk => by
    by_cases q : k < p
    · rw [if_pos q]; exact hin k hk
    · rw [if_neg q]; omega
  have y48 : ∀ k, k < s → gI y 48 0 k = nI (if k < p then i k else i p + 1 + k - p) := fun k hk => by
    rw [yI, if_neg (by omega)]
    by_cases q : k < p
    · rw [if_neg (by omega), if_neg (by omega), if_pos q]; exact (hC.2.2 k hk).1
    · rw [if_pos (by omega), if_neg q]
  have hroom := xRoom (x := y) (o := 0) (s := s) (L := 0) (i := fun k => if k < p then i k else i p + 1 + k - p) (need := fun _ => 0) (by decide) ((yo _ _ _ (by omega)).trans hC.1) s3 (fun k hk => ⟨y48 k hk, by have := inw k hk; omega⟩) (fun k hk => (yo _ _ _ (by omega)).trans (hX.2.2.2.2.1 _ (inw k hk)).2.2) ((yo _ _ _ (by omega)).trans hX.2.2.2.1) (by decide) (by rw [nsum_0]; decide)
  rw [nsum_0, if_neg (by decide)] at hroom
  refine ⟨y, z2.trans (advR_1 y1 hroom), ⟨fun f b j q => yo f b j (by omega), w2.2.1.trans (w1.2.1.trans z1.2.1), w2.2.2.1.trans (w1.2.2.1.trans z1.2.2.1), w2.2.2.2.trans (w1.2.2.2.trans z1.2.2.2)⟩, (yo _ _ _ (by omega)).trans hC.1, (yo _ _ _ (by omega)).trans hC.2.1, fun k hk => ⟨y48 k hk, by have := inw k hk; dsimp only; omega, (yo _ _ _ (by omega)).trans (hX.2.2.2.2.1 _ (inw k hk)).1, ?_⟩⟩
  rw [yI, if_pos (by omega)]; rfl
/-- the first set of one more -/
theorem advC (hX : SeX l e n a st T D W gr t) (hC : Cd 0 t s st i (fun j => D (i j)) g) (n20 : n ≤ 20) (a3 : a ≤ 3) (T30 : T < 2 ^ 30) (hin : ∀ k, k < s → i k < n) (hgT : ∀ q, q < s → g q = T) (hge : ∀ q, q < s → n - s + q ≤ i q) (sa : s < a) (sn : s < n) : ∃ y, fX8_advance 0 t = some (1, y) ∧ AX t y ∧ Cd 0 y (s + 1) st (fun j => j) (fun j => D j) (fun _ => 1) := by
  have s3 : s ≤ 3 := by omega
  obtain ⟨z, z1, z2⟩ := advZ hX hC s3 T30 hin hgT
  have zI : ∀ f b j, f ≠ 49 → gI z f b j = gI t f b j := fun f b j q => by rw [z1.1, if_neg (by omega)]
  obtain ⟨y, y1, w, w1, w2⟩ := ((xNext (x := z) (o := 0) (s := s) (n := n) (a := a) (p := 0) (i := i) (by decide) ((zI _ _ _ (by decide)).trans hC.1) ((zI _ _ _ (by decide)).trans hX.1) ((zI _ _ _ (by decide)).trans hX.2.1) s3 (by omega) n20 a3 (by omega) (fun k hk => ⟨(zI _ _ _ (by decide)).trans (hC.2.2 k hk).1, (hC.2.2 k hk).2.1⟩) (fun q hq => by omega) (fun q _ h2 => hge q h2)).2 rfl).1 sa sn
  have yI : ∀ f b j, gI y f b j = if f = 49 ∧ b = 0 ∧ 0 ≤ j ∧ j < 0 + (s + 1) then 1 else if f = 48 ∧ b = 0 ∧ 0 ≤ j ∧ j < 0 + (s + 1) then nI j else if f = 16 ∧ b = 0 ∧ j = 9 then nI (s + 1) else if f = 49 ∧ b = 0 ∧ 0 ≤ j ∧ j < 0 + s then 1 else gI t f b j := fun f b j => by rw [w2.1, w1.1, gI_sI, z1.1]
  have yo : ∀ f b j, ¬ (b = 0 ∧ (f = 48 ∨ f = 49 ∨ (f = 16 ∧ j = 9))) → gI y f b j = gI t f b j := fun f b j q => by rw [yI, if_neg (by omega), if_neg (by omega), if_neg (by omega), if_neg (by omega)]
  have y9 : gI y 16 0 9 = nI (s + 1) := by rw [yI, if_neg (by omega), if_neg (by omega), if_pos ⟨rfl, rfl, rfl⟩]
  have y48 : ∀ k, k < s + 1 → gI y 48 0 k = nI k := fun k hk => by rw [yI, if_neg (by omega), if_pos (by omega)]
  have hroom := xRoom (x := y) (o := 0) (s := s + 1) (L := 0) (i := fun k => k) (need := fun _ => 0) (by decide) y9 (by omega) (fun k hk => ⟨y48 k hk, by omega⟩) (fun k hk => (yo _ _ _ (by omega)).trans (hX.2.2.2.2.1 k (by omega)).2.2) ((yo _ _ _ (by omega)).trans hX.2.2.2.1) (by decide) (by rw [nsum_0]; decide)
  rw [nsum_0, if_neg (by decide)] at hroom
  refine ⟨y, z2.trans (advR_1 y1 hroom), ⟨yo, w2.2.1.trans (w1.2.1.trans z1.2.1), w2.2.2.1.trans (w1.2.2.1.trans z1.2.2.1), w2.2.2.2.trans (w1.2.2.2.trans z1.2.2.2)⟩, y9, (yo _ _ _ (by omega)).trans hC.2.1, fun k hk => ⟨y48 k hk, by dsimp only; omega, (yo _ _ _ (by omega)).trans (hX.2.2.2.2.1 k (by omega)).1, ?_⟩⟩
  rw [yI, if_pos (by omega)]; rfl
/-- no candidate more -/
theorem advD (hX : SeX l e n a st T D W gr t) (hC : Cd 0 t s st i (fun j => D (i j)) g) (s3 : s ≤ 3) (n20 : n ≤ 20) (a3 : a ≤ 3) (snn : s ≤ n) (T30 : T < 2 ^ 30) (hin : ∀ k, k < s → i k < n) (hgT : ∀ q, q < s → g q = T) (hge : ∀ q, q < s → n - s + q ≤ i q) (q : a ≤ s ∨ n ≤ s) : ∃ y, fX8_advance 0 t = some (0, y) ∧ AX t y := by
  obtain ⟨z, z1, z2⟩ := advZ hX hC s3 T30 hin hgT
  have zI : ∀ f b j, f ≠ 49 → gI z f b j = gI t f b j := fun f b j q => by rw [z1.1, if_neg (by omega)]
  have y1 := ((xNext (x := z) (o := 0) (s := s) (n := n) (a := a) (p := 0) (i := i) (by decide) ((zI _ _ _ (by decide)).trans hC.1) ((zI _ _ _ (by decide)).trans hX.1) ((zI _ _ _ (by decide)).trans hX.2.1) s3 snn n20 a3 (by omega) (fun k hk => ⟨(zI _ _ _ (by decide)).trans (hC.2.2 k hk).1, (hC.2.2 k hk).2.1⟩) (fun q hq => by omega) (fun q _ h2 => hge q h2)).2 rfl).2 q
  exact ⟨z, z2.trans (advR_0 y1), ⟨fun f b j q => by rw [z1.1, if_neg (by omega)], z1.2⟩⟩
end
