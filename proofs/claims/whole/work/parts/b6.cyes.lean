/-! ===== a try that both make ===== -/
section
variable {x : Sto} {l e n b nb cnt room st T : Nat} {L H lf D lim need : Nat → Nat} {sel : Nat → Bool} {W : Nat → Nat → Nat} {gr : Nat → UInt32} {X0 m : Sto} {C : Nat → Sto → Sto → Prop} {s : Nat} {i g : Nat → Nat}
/-- the reference's bath holds the candidate: the try -/
theorem yes_0 (hC : C = Co x l e n room st D lim need W gr b X0) (hE : EnC x l e n b nb cnt room st T L H lf D lim need sel gr) {k : Nat} {X Y w : Sto} (k9 : k ≤ 1000) (hc : C k X m) (h0 : gI m 0 0 56 = 0) (hA : fX8_advance 1 X = some (1, Y)) (hAX : AX1 X Y) (hCd : Cd 1 Y s st i (fun j => D (i j)) g) (s1 : 1 ≤ s) (s2 : s ≤ 2) (hi : ∀ k, k < s → i k < n) (hd30 : ∀ k, k < s → D (i k) < 2 ^ 30) (tb : TB m w) {N : Nat} {q h : Nat → Nat} {a4 a5 : Int32} (hB : Bt w N q h) (hcond : XB Y b nb cnt L H lf → (N = nb + rk (csel L nb (fun j => D (i j))) s ∧ N ≤ 8) ∧ (∀ p, p < N → q p < cnt) ∧ (∀ p, p < N → h p ≤ 1000000) ∧ (∀ p, p < nb → gI Y 31 b p = nI (q p) ∧ ∃ G H', fX8_gramsOf 1 (nI (q p)) Y = some (nI G) ∧ gI Y 32 b p = nI H' ∧ h p = H' + G) ∧ (∀ k, k < s → fX1_placeOf b (nI (D (i k))) Y = some (if csel L nb (fun j => D (i j)) k = true then (-1 : Int32) else nI (if plc L nb (D (i k)) < nb then plc L nb (D (i k)) else 0)) ∧ (if plc L nb (D (i k)) < nb then plc L nb (D (i k)) else 0) < 8 ∧ (csel L nb (fun j => D (i j)) k = true → q (nb + rk (csel L nb (fun j => D (i j))) k) = D (i k) ∧ h (nb + rk (csel L nb (fun j => D (i j))) k) = g k * st))) (ha4 : (s = 1 ∧ a4 = -1) ∨ (s = 2 ∧ a4 = nI (D (i 1)) ∧ a5 = nI (g 1 * st) ∧ D (i 1) < 2 ^ 30)) : ∃ m', mK8 (nI b) (nI (D (i 0))) (nI (g 0 * st)) a4 a5 w = some m' ∧ (IC C st D s i g m' ∨ FC C m') := by
  have hcw := C_TB hC hc tb
  have w0 : gI w 0 0 56 = 0 := (tb.1 0 0 56 (by omega)).trans h0
  obtain ⟨⟨e1, e2, e3⟩, hb, hx, es, et, er, _⟩ := hE
  subst hC
  by_cases kk : k = 1000
  · subst kk
    obtain ⟨c1, c2, c3, c4, c5, c6⟩ := id hcw
    refine ⟨sI w 0 0 56 1, ?_, Or.inr ⟨X, Y, Co_f hcw (fun f j q => by rw [gI_sI, if_neg (by omega)]) rfl (FM_I (by decide)), rfl, hA, hAX⟩⟩
    unfold mK8
    rw [c5.2.1, if_pos (show nI 1000 = (1000 : Int32) from rfl), lt1_e]
  · obtain ⟨c1, c2, c3, c4, c5, c6⟩ := hcw
    have yK : ∀ f i j, f = 3 ∨ (22 ≤ f ∧ f ≤ 33) → gI Y f i j = gI x f i j := fun f i j q => (hAX.1 f i j (by omega)).trans (c6 f i j q)
    have hXY := XB_e hx yK
    obtain ⟨⟨d1, d2⟩, d3, d4, d5, d6⟩ := hcond hXY
    obtain ⟨t', m', t1, t2, t3, t4, t5, t6, t7, t8, t9⟩ := c_try (pl := fun k => if plc L nb (D (i k)) < nb then plc L nb (D (i k)) else 0) (b := b) (nb := nb) (a4 := a4) (a5 := a5) (RelS_f c2 (AX1_KF hAX) (FM_r w)) (AX1_X c3 hAX) c4 (AX1_B c5 hAX) (by omega) e1 e2 hXY.2.1 e3 s1 s2 hd30 hCd hXY.2.2.1 hb.2.1 d1 (by omega) (fun p hp => by rw [hXY.1.1]; exact d3 p hp) d4 d5 d6 hB ha4
    have c12 : b < 12 := hb.1
    refine ⟨m', t2, Or.inl ⟨k + 1, t', by omega, ⟨XC_s c1 (by omega) c12 hA t1, t3, t4, t5, t6, fun f i j q => (t8.1 f i j (by omega)).trans (yK f i j q)⟩, (t9.1 0 0 56 (by omega)).trans w0, t7⟩⟩
theorem yes_1 (hC : C = Co x l e n room st D lim need W gr b X0) (hE : EnC x l e n b nb cnt room st T L H lf D lim need sel gr) {r j : Nat} (hN : NC C st D 1 i g m) (hi : i 0 = r) (hg : g 0 = j) (hr : r < n) (hj : j ≤ lim r) (hp : plc L nb (D r) < 8) (a5 : Int32) : ∃ m', fX12_tryAddition (nI b) (nI (D r)) (nI (j * st)) (-1) a5 m = some m' ∧ (IC C st D 1 i g m' ∨ FC C m') := by
  subst hi
  subst hg
  obtain ⟨k, X, Y, k9, hc, h0, hA, hAX, hCd⟩ := hN
  have hG := C_GM hC hE hc
  obtain ⟨_, hb, hx, es, et, er, en, _, eq, _⟩ := id hE
  obtain ⟨q1, q2, q3, q4, q5⟩ := eq _ hr
  have v := (q4 (g 0) (by omega)).mp hj
  have g6 : g 0 * st ≤ 120000 := Nat.mul_le_mul (show g 0 ≤ 12 by omega) es.2
  obtain ⟨w, w1, w2, w3, _⟩ := (tr_a hb hG h0 q1 (by omega)).2 ⟨v.1, v.2, hp⟩
  rw [w3 (-1) a5 (by decide)]
  exact yes_0 hC hE k9 hc h0 hA hAX hCd (Nat.le_refl 1) (by decide) (fun k hk => by rw [show k = 0 by omega]; exact hr) (fun k hk => by rw [show k = 0 by omega]; have := hb.2.2.1; omega) w1 w2 (fun hXY => c_1 (d := fun j => D (i j)) hb hXY hCd q1 ⟨v.1, v.2, hp⟩) (Or.inl ⟨rfl, rfl⟩)
theorem yes_2 (hC : C = Co x l e n room st D lim need W gr b X0) (hE : EnC x l e n b nb cnt room st T L H lf D lim need sel gr) {r q j j' : Nat} (hN : NC C st D 2 i g m) (hi : i 0 = r) (hi' : i 1 = q) (hg : g 0 = j) (hg' : g 1 = j') (hr : r < n) (hq : q < n) (uv : D r ≠ D q) (hj : j ≤ lim r) (hj' : j' ≤ lim q) (hp : plc L nb (D r) < 8) (hp' : cp2 L nb (D r) (D q) < 8) : ∃ m', fX12_tryAddition (nI b) (nI (D r)) (nI (j * st)) (nI (D q)) (nI (j' * st)) m = some m' ∧ (IC C st D 2 i g m' ∨ FC C m') := by
  subst hi
  subst hg
  subst hi'
  subst hg'
  obtain ⟨k, X, Y, k9, hc, h0, hA, hAX, hCd⟩ := hN
  have hG := C_GM hC hE hc
  obtain ⟨_, hb, hx, es, et, er, en, _, eq, _⟩ := id hE
  obtain ⟨q1, q2, q3, q4, q5⟩ := eq _ hr
  obtain ⟨r1, r2, r3, r4, r5⟩ := eq _ hq
  have v := (q4 (g 0) (by omega)).mp hj
  have v' := (r4 (g 1) (by omega)).mp hj'
  have g6 : g 0 * st ≤ 120000 := Nat.mul_le_mul (show g 0 ≤ 12 by omega) es.2
  have g6' : g 1 * st ≤ 120000 := Nat.mul_le_mul (show g 1 ≤ 12 by omega) es.2
  have c20 := hb.2.2.1
  obtain ⟨w, w1, w2, _, w3⟩ := (tr_a hb hG h0 q1 (by omega)).2 ⟨v.1, v.2, hp⟩
  obtain ⟨z, z1, z2, z3⟩ := (tr_b hb hG uv q1 r1 (show g 1 * st ≤ 1000000 by omega) w1 hp w2).2 ⟨v'.1, v'.2, hp'⟩
  rw [w3 (nI (D (i 1))) (nI (g 1 * st)) (nI_lt0 (by omega)), z1, Option.bind_some]
  dsimp only [un2]
  rw [if_neg (show ¬ (1 : Int32) = 0 by decide)]
  exact yes_0 hC hE k9 hc h0 hA hAX hCd (by decide) (Nat.le_refl 2) (fun k hk => by
    obtain rfl | rfl : k = 0 ∨ k = 1 := by omega
    · exact hr
    · exact hq) (fun k hk => by
    obtain rfl | rfl : k = 0 ∨ k = 1 := by omega
    · omega
    · omega) (TB_t w1 z2) z3 (fun hXY => c_2 (d := fun j => D (i j)) hb hXY hCd q1 r1 uv ⟨v.1, v.2, hp⟩ ⟨v'.1, v'.2, hp'⟩ rfl (fun _ => rfl) (fun _ => rfl)) (Or.inr ⟨rfl, rfl, rfl, by omega⟩)
end
