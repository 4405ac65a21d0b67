/-! ===== the correction's next set ===== -/
section
variable {l e n a room st s : Nat} {D lim need i g : Nat → Nat} {W : Nat → Nat → Nat} {gr : Nat → UInt32} {z : Sto}
/-- z holds the set i of s lots -/
def Hs (z : Sto) (s n : Nat) (i : Nat → Nat) : Prop := gI z 16 1 9 = nI s ∧ ∀ k, k < s → gI z 48 1 k = nI (i k) ∧ i k < n
theorem cNextB {p : Nat} (hX : SeC l e n a room st D lim need W gr z) (hC : Hs z s n i) (s3 : s ≤ 3) (n20 : n ≤ 20) (a3 : a ≤ 3) (sn : s ≤ n) (hp : p < s) (hlt : i p < n - s + p) (hge : ∀ q, p < q → q < s → n - s + q ≤ i q) : ∃ y, fX8_nextSet 1 z = some (1, y) ∧ AX1 z y ∧ Cd 1 y s st (fun j => if j < p then i j else i p + 1 + j - p) (fun j => D (if j < p then i j else i p + 1 + j - p)) (fun _ => 1) := by
  obtain ⟨y, y1, w, w1, w2⟩ := (xNext (x := z) (o := 1) (s := s) (n := n) (a := a) (p := p + 1) (i := i) (by decide) hC.1 hX.1 hX.2.1 s3 sn n20 a3 (by omega) (fun k hk => ⟨(hC.2 k hk).1, by have := (hC.2 k hk).2; omega⟩) (fun q hq => by rw [show q = p by omega]; exact hlt) (fun q h1 h2 => hge q (by omega) h2)).1 p rfl
  have yI : ∀ f b j, gI y f b j = if f = 49 ∧ b = 1 ∧ 0 ≤ j ∧ j < 0 + s then 1 else if f = 48 ∧ b = 1 ∧ p ≤ j ∧ j < p + (s - p) then nI (i p + 1 + j - p) else gI z f b j := fun f b j => by rw [w2.1, w1.1]
  have yo : ∀ f b j, ¬ (b = 1 ∧ (f = 48 ∨ f = 49)) → gI y f b j = gI z f b j := fun f b j q => by rw [yI, if_neg (by omega), if_neg (by omega)]
  have inw : ∀ k, k < s → (if k < p then i k else i p + 1 + k - p) < n := fun k hk => by
    by_cases q : k < p
    · rw [if_pos q]; exact (hC.2 k hk).2
    · rw [if_neg q]; omega
  refine ⟨y, y1, ⟨fun f b j q => yo f b j (by omega), w2.2.1.trans w1.2.1, w2.2.2.1.trans w1.2.2.1, w2.2.2.2.trans w1.2.2.2⟩, (yo _ _ _ (by omega)).trans hC.1, (yo _ _ _ (by omega)).trans hX.2.2.1, fun k hk => ⟨?_, by have := inw k hk; dsimp only; omega, (yo _ _ _ (by omega)).trans (hX.2.2.2.2.1 _ (inw k hk)).1, ?_⟩⟩
  · rw [yI, if_neg (by omega)]
    dsimp only
    by_cases q : k < p
    · rw [if_neg (by omega), if_pos q]; exact (hC.2 k hk).1
    · rw [if_pos (by omega), if_neg q]
  · rw [yI, if_pos (by omega)]; rfl
theorem cNextC (hX : SeC l e n a room st D lim need W gr z) (hC : Hs z s n i) (n20 : n ≤ 20) (a3 : a ≤ 3) (hge : ∀ q, q < s → n - s + q ≤ i q) (sa : s < a) (sn : s < n) : ∃ y, fX8_nextSet 1 z = some (1, y) ∧ AX1 z y ∧ Cd 1 y (s + 1) st (fun j => j) (fun j => D j) (fun _ => 1) := by
  have s3 : s ≤ 3 := by omega
  obtain ⟨y, y1, w, w1, w2⟩ := ((xNext (x := z) (o := 1) (s := s) (n := n) (a := a) (p := 0) (i := i) (by decide) hC.1 hX.1 hX.2.1 s3 (by omega) n20 a3 (by omega) (fun k hk => ⟨(hC.2 k hk).1, by have := (hC.2 k hk).2; omega⟩) (fun q hq => by omega) (fun q _ h2 => hge q h2)).2 rfl).1 sa sn
  have yI : ∀ f b j, gI y f b j = if f = 49 ∧ b = 1 ∧ 0 ≤ j ∧ j < 0 + (s + 1) then 1 else if f = 48 ∧ b = 1 ∧ 0 ≤ j ∧ j < 0 + (s + 1) then nI j else if f = 16 ∧ b = 1 ∧ j = 9 then nI (s + 1) else gI z f b j := fun f b j => by rw [w2.1, w1.1, gI_sI]
  have yo : ∀ f b j, ¬ (b = 1 ∧ (f = 48 ∨ f = 49 ∨ (f = 16 ∧ j = 9))) → gI y f b j = gI z f b j := fun f b j q => by rw [yI, if_neg (by omega), if_neg (by omega), if_neg (by omega)]
  refine ⟨y, y1, ⟨yo, w2.2.1.trans w1.2.1, w2.2.2.1.trans w1.2.2.1, w2.2.2.2.trans w1.2.2.2⟩, ?_, (yo _ _ _ (by omega)).trans hX.2.2.1, fun k hk => ⟨?_, ?_, (yo _ _ _ (by omega)).trans (hX.2.2.2.2.1 k (by omega)).1, ?_⟩⟩
  · rw [yI, if_neg (by omega), if_neg (by omega), if_pos ⟨rfl, rfl, rfl⟩]
  · rw [yI, if_neg (by omega), if_pos (by omega)]
  · show k < 20
    omega
  · rw [yI, if_pos (by omega)]; rfl
theorem cNextD (hX : SeC l e n a room st D lim need W gr z) (hC : Hs z s n i) (s3 : s ≤ 3) (n20 : n ≤ 20) (a3 : a ≤ 3) (sn : s ≤ n) (hge : ∀ q, q < s → n - s + q ≤ i q) (q : a ≤ s ∨ n ≤ s) : fX8_nextSet 1 z = some (0, z) := ((xNext (x := z) (o := 1) (s := s) (n := n) (a := a) (p := 0) (i := i) (by decide) hC.1 hX.1 hX.2.1 s3 sn n20 a3 (by omega) (fun k hk => ⟨(hC.2 k hk).1, by have := (hC.2 k hk).2; omega⟩) (fun q hq => by omega) (fun q _ h2 => hge q h2)).2 rfl).2 q
theorem cRoom (hX : SeC l e n a room st D lim need W gr z) (hC : Hs z s n i) (s3 : s ≤ 3) (n20 : n ≤ 20) (r30 : room < 2 ^ 30) (h30 : nsum (fun k => need (i k)) s < 2 ^ 30) : fX8_hasRoom 1 z = some (if room < nsum (fun k => need (i k)) s then 0 else 1) := xRoom (x := z) (o := 1) (s := s) (L := room) (i := i) (need := fun k => need (i k)) (by decide) hC.1 s3 (fun k hk => ⟨(hC.2 k hk).1, by have := (hC.2 k hk).2; omega⟩) (fun k hk => (hX.2.2.2.2.1 (i k) (hC.2 k hk).2).2.2) hX.2.2.2.1 r30 h30
end
