/-! ===== both searches of a correction side by side ===== -/
/-- both after k tries -/
def Co (x : Sto) (l e n room st : Nat) (D lim need : Nat → Nat) (W : Nat → Nat → Nat) (gr : Nat → UInt32) (b : Nat) (X0 : Sto) (k : Nat) (X m : Sto) : Prop := XC b X0 k X ∧ RelS x 1 X m ∧ SeC l e n 2 room st D lim need W gr X ∧ MeC l e W gr m ∧ BestC X m k ∧ ∀ f i j, f = 3 ∨ (22 ≤ f ∧ f ≤ 33) → gI X f i j = gI x f i j
theorem Co_f {x : Sto} {l e n room st : Nat} {D lim need : Nat → Nat} {W : Nat → Nat → Nat} {gr : Nat → UInt32} {b : Nat} {X0 : Sto} {k : Nat} {X m w : Sto} (h : Co x l e n room st D lim need W gr b X0 k X m) (h1 : ∀ f j, f = 71 ∨ (f = 0 ∧ (j = 51 ∨ j = 59 ∨ j = 60)) → gI w f 0 j = gI m f 0 j) (h2 : gD w = gD m) (h3 : FM m w) : Co x l e n room st D lim need W gr b X0 k X w := by
  obtain ⟨c1, c2, c3, ⟨d1, d2, d3⟩, ⟨b1, b2, b3, b4, b5, b6, sb, e1, e2, e3, e4⟩, c6⟩ := h
  refine ⟨c1, RelS_f c2 (KF_r _ _) h3, c3, ⟨(h1 _ _ (by omega)).trans d1, (h1 _ _ (by omega)).trans d2, fun q hq => by rw [h2]; exact d3 q hq⟩, ⟨b1, (h1 _ _ (by omega)).trans b2, b3, b4, by rw [h2]; exact b5, b6, sb, e1, e2, fun p hp => ?_, e4⟩, c6⟩
  rw [h1 71 _ (by omega), h1 71 _ (by omega)]; exact e3 p hp
/-- k tries are made, the last of the candidate (s, i, g) -/
def IC (C : Nat → Sto → Sto → Prop) (st : Nat) (D : Nat → Nat) (s : Nat) (i g : Nat → Nat) (m : Sto) : Prop := ∃ k X, k ≤ 1000 ∧ C k X m ∧ gI m 0 0 56 = 0 ∧ Cd 1 X s st i (fun j => D (i j)) g
/-- the candidate (s, i, g) comes next -/
def NC (C : Nat → Sto → Sto → Prop) (st : Nat) (D : Nat → Nat) (s : Nat) (i g : Nat → Nat) (m : Sto) : Prop := ∃ k X Y, k ≤ 1000 ∧ C k X m ∧ gI m 0 0 56 = 0 ∧ fX8_advance 1 X = some (1, Y) ∧ AX1 X Y ∧ Cd 1 Y s st i (fun j => D (i j)) g
/-- the set (s, i) is done -/
def SC (C : Nat → Sto → Sto → Prop) (n R s : Nat) (i : Nat → Nat) (m : Sto) : Prop := ∃ k X Z v f, k ≤ 1000 ∧ C k X m ∧ gI m 0 0 56 = 0 ∧ fX8_advance 1 X = advL (f + 1) v Z ∧ f + v = 3999 ∧ v ≤ R ∧ AX1 X Z ∧ Hs Z s n i
/-- 1000 tries are made, and one more was asked for -/
def FC (C : Nat → Sto → Sto → Prop) (m : Sto) : Prop := ∃ X Y, C 1000 X m ∧ gI m 0 0 56 = 1 ∧ fX8_advance 1 X = some (1, Y) ∧ AX1 X Y
/-- stable under writings to the reference's bath -/
def Stb (C : Nat → Sto → Sto → Prop) (P : Sto → Prop) : Prop := (∀ m w, TB m w → P m → P w) ∧ ∀ m, P m → (∃ k X, C k X m) ∧ (gI m 0 0 56 = 0 ∨ gI m 0 0 56 = 1)
def EnC (x : Sto) (l e n b nb cnt room st T : Nat) (L H lf D lim need : Nat → Nat) (sel : Nat → Bool) (gr : Nat → UInt32) : Prop := (l < 6 ∧ e < 2 ∧ ∀ k, k < 16 → fl2 (gr k)) ∧ EB b nb cnt L H lf ∧ XB x b nb cnt L H lf ∧ (1 ≤ st ∧ st ≤ 10000) ∧ (1 ≤ T ∧ T ≤ 12) ∧ room = 8 - nb ∧ n = rk sel cnt ∧ (∀ v, v < cnt → sel v = true → D (rk sel v) = v) ∧ (∀ q, q < n → D q < cnt ∧ 1 ≤ lim q ∧ lim q ≤ T ∧ (∀ j, j ≤ T → (j ≤ lim q ↔ j * st ≤ 100000 ∧ 1000 * (j * st) ≤ lf (D q))) ∧ need q = if plc L nb (D q) < nb then 0 else 1) ∧ ∀ v, v < cnt → ¬ sel v = true → ∀ j, 1 ≤ j → j ≤ T → ¬ (j * st ≤ 100000 ∧ 1000 * (j * st) ≤ lf v)
section
variable {x : Sto} {l e n b nb cnt room st T : Nat} {L H lf D lim need : Nat → Nat} {sel : Nat → Bool} {W : Nat → Nat → Nat} {gr : Nat → UInt32} {X0 m : Sto} {C : Nat → Sto → Sto → Prop} {s : Nat} {i g : Nat → Nat}
theorem C_TB (hC : C = Co x l e n room st D lim need W gr b X0) {k : Nat} {X w : Sto} (h : C k X m) (t : TB m w) : C k X w := by
  subst hC
  exact Co_f h (fun f j q => t.1 f 0 j (by omega)) t.2.2.1 (TB_FM t)
theorem S_IC (hC : C = Co x l e n room st D lim need W gr b X0) : Stb C (IC C st D s i g) := by
  refine ⟨fun m w t h => ?_, fun m h => ?_⟩
  · obtain ⟨k, X, h1, h2, h3, h4⟩ := h
    exact ⟨k, X, h1, C_TB hC h2 t, (t.1 0 0 56 (by omega)).trans h3, h4⟩
  · obtain ⟨k, X, h1, h2, h3, h4⟩ := h
    exact ⟨⟨k, X, h2⟩, Or.inl h3⟩
theorem S_NC (hC : C = Co x l e n room st D lim need W gr b X0) : Stb C (NC C st D s i g) := by
  refine ⟨fun m w t h => ?_, fun m h => ?_⟩
  · obtain ⟨k, X, Y, h1, h2, h3, h4⟩ := h
    exact ⟨k, X, Y, h1, C_TB hC h2 t, (t.1 0 0 56 (by omega)).trans h3, h4⟩
  · obtain ⟨k, X, Y, h1, h2, h3, h4⟩ := h
    exact ⟨⟨k, X, h2⟩, Or.inl h3⟩
theorem S_SC {R : Nat} (hC : C = Co x l e n room st D lim need W gr b X0) : Stb C (SC C n R s i) := by
  refine ⟨fun m w t h => ?_, fun m h => ?_⟩
  · obtain ⟨k, X, Z, v, f, h1, h2, h3, h4⟩ := h
    exact ⟨k, X, Z, v, f, h1, C_TB hC h2 t, (t.1 0 0 56 (by omega)).trans h3, h4⟩
  · obtain ⟨k, X, Z, v, f, h1, h2, h3, h4⟩ := h
    exact ⟨⟨k, X, h2⟩, Or.inl h3⟩
theorem S_FC (hC : C = Co x l e n room st D lim need W gr b X0) : Stb C (FC C) := by
  refine ⟨fun m w t h => ?_, fun m h => ?_⟩
  · obtain ⟨X, Y, h2, h3, h4⟩ := h
    exact ⟨X, Y, C_TB hC h2 t, (t.1 0 0 56 (by omega)).trans h3, h4⟩
  · obtain ⟨X, Y, h2, h3, h4⟩ := h
    exact ⟨⟨1000, X, h2⟩, Or.inr h3⟩
theorem S_or {P Q : Sto → Prop} (h : Stb C P) (k : Stb C Q) : Stb C (fun m => P m ∨ Q m) := ⟨fun m w t q => q.elim (fun q => Or.inl (h.1 m w t q)) (fun q => Or.inr (k.1 m w t q)), fun m q => q.elim (h.2 m) (k.2 m)⟩
theorem S_and {A : Prop} {P : Sto → Prop} (h : Stb C P) : Stb C (fun m => A ∧ P m) := ⟨fun m w t q => ⟨q.1, h.1 m w t q.2⟩, fun m q => h.2 m q.2⟩
theorem C_GM (hC : C = Co x l e n room st D lim need W gr b X0) (hE : EnC x l e n b nb cnt room st T L H lf D lim need sel gr) {k : Nat} {X : Sto} (h : C k X m) : GM b nb cnt L H lf m := by
  subst hC
  obtain ⟨_, hb, hx, _⟩ := hE
  obtain ⟨_, c2, _, _, _, c6⟩ := h
  exact XB_GM (XB_e hx c6) hb.2.1 hb.2.2.1 c2.1.2.2.1
/-- what the reference refuses changes nothing -/
theorem no_1 (hC : C = Co x l e n room st D lim need W gr b X0) (hE : EnC x l e n b nb cnt room st T L H lf D lim need sel gr) {P : Sto → Prop} (hP : Stb C P) (h : P m) {u j : Nat} (hu : u < cnt) (hj : j ≤ T) (no : ¬ (j * st ≤ 100000 ∧ 1000 * (j * st) ≤ lf u ∧ plc L nb u < 8)) (a4 a5 : Int32) : ∃ w, fX12_tryAddition (nI b) (nI u) (nI (j * st)) a4 a5 m = some w ∧ P w := by
  obtain ⟨⟨k, X, h1⟩, h2⟩ := hP.2 m h
  have hG := C_GM hC hE h1
  obtain ⟨_, hb, hx, s1, t1, _⟩ := hE
  have g6 : j * st ≤ 120000 := Nat.mul_le_mul (Nat.le_trans hj t1.2) s1.2
  rcases h2 with h2 | h2
  · obtain ⟨w, w1, w2⟩ := (tr_a hb hG h2 hu (by omega)).1 no a4 a5
    exact ⟨w, w1, hP.1 m w w2 h⟩
  · refine ⟨m, ?_, h⟩
    unfold fX12_tryAddition
    rw [h2, if_neg (show ¬ (1 : Int32) = 0 by decide)]
theorem no_2 (hC : C = Co x l e n room st D lim need W gr b X0) (hE : EnC x l e n b nb cnt room st T L H lf D lim need sel gr) {P : Sto → Prop} (hP : Stb C P) (h : P m) {u v j j' : Nat} (hu : u < cnt) (hv : v < cnt) (uv : u ≠ v) (hj : j ≤ T) (hj' : j' ≤ T) (no : ¬ ((j * st ≤ 100000 ∧ 1000 * (j * st) ≤ lf u ∧ plc L nb u < 8) ∧ (j' * st ≤ 100000 ∧ 1000 * (j' * st) ≤ lf v ∧ cp2 L nb u v < 8))) : ∃ w, fX12_tryAddition (nI b) (nI u) (nI (j * st)) (nI v) (nI (j' * st)) m = some w ∧ P w := by
  by_cases y : j * st ≤ 100000 ∧ 1000 * (j * st) ≤ lf u ∧ plc L nb u < 8
  · obtain ⟨⟨k, X, h1⟩, h2⟩ := hP.2 m h
    have hG := C_GM hC hE h1
    obtain ⟨_, hb, hx, s1, t1, _⟩ := hE
    have g6 : j * st ≤ 120000 := Nat.mul_le_mul (Nat.le_trans hj t1.2) s1.2
    have g6' : j' * st ≤ 120000 := Nat.mul_le_mul (Nat.le_trans hj' t1.2) s1.2
    have c20 := hb.2.2.1
    rcases h2 with h2 | h2
    · obtain ⟨w, w1, w2, _, w4⟩ := (tr_a hb hG h2 hu (by omega)).2 y
      have w5 := w4 (nI v) (nI (j' * st)) (nI_lt0 (by omega))
      rw [(tr_b hb hG uv hu hv (by omega) w1 y.2.2 w2).1 (fun z => no ⟨y, z⟩), Option.bind_some] at w5
      dsimp only [un2] at w5
      rw [if_pos rfl] at w5
      exact ⟨w, w5, hP.1 m w w1 h⟩
    · refine ⟨m, ?_, h⟩
      unfold fX12_tryAddition
      rw [h2, if_neg (show ¬ (1 : Int32) = 0 by decide)]
  · exact no_1 hC hE hP h hu hj y _ _
end
