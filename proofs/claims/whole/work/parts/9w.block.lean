/-! ===== all times of one set ===== -/
/-- (s, i, g) is the candidate that comes next -/
def Nx (x : Sto) (l e c n a st T : Nat) (D : Nat → Nat) (W : Nat → Nat → Nat) (gr : Nat → UInt32) (X1 : Sto) (s : Nat) (i g : Nat → Nat) (m : Sto) : Prop := ∃ s0 i0 g0, IV x l e c n a st T D W gr X1 s0 i0 g0 m ∧ ∀ X, SeX l e n a st T D W gr X → Cd 0 X s0 st i0 (fun j => D (i0 j)) g0 → ∃ Y, fX8_advance 0 X = some (1, Y) ∧ AX X Y ∧ Cd 0 Y s st i (fun j => D (i j)) g
def TG (m n : Sto) : Prop := ∀ f b j, ¬ (b = 0 ∧ (f = 49 ∨ (f = 48 ∧ j % 2 = 1) ∨ (f = 0 ∧ (j = 50 ∨ j = 51 ∨ j = 56)))) → gI n f b j = gI m f b j
section
variable {x : Sto} {l e c n a st T : Nat} {D : Nat → Nat} {W : Nat → Nat → Nat} {gr : Nat → UInt32} {X1 : Sto} {s : Nat} {i g : Nat → Nat} {m : Sto}
theorem Nx_w {f j : Nat} {v : Int32} (h : Nx x l e c n a st T D W gr X1 s i g m) (q : f = 48 ∨ (f = 0 ∧ j = 49)) : Nx x l e c n a st T D W gr X1 s i g (sI m f 0 j v) := by
  obtain ⟨s0, i0, g0, h1, h2⟩ := h
  exact ⟨s0, i0, g0, IV_w h1 q, h2⟩
theorem IV_M (h : IV x l e c n a st T D W gr X1 s i g m) : SeM l e c st T W gr m ∧ gI m 0 0 56 = 0 := by
  obtain ⟨k, X, k1, k9, hX, hR, hs, hM, hb, hC, h0, hc⟩ := h
  exact ⟨hM, h0⟩
theorem FL_M (h : FL x l e c n a st T D W gr X1 m) : SeM l e c st T W gr m ∧ gI m 0 0 56 = 1 := by
  obtain ⟨X, Y, hX, hA, hAX, hR, hs, hM, hb, h0, hc⟩ := h
  exact ⟨hM, h0⟩
theorem IV_g {g' : Nat → Nat} (h : IV x l e c n a st T D W gr X1 s i g m) (e1 : ∀ k, k < s → g k = g' k) : IV x l e c n a st T D W gr X1 s i g' m := by
  obtain ⟨k, X, k1, k9, hX, hR, hs, hM, hb, hC, h0, hc⟩ := h
  refine ⟨k, X, k1, k9, hX, hR, hs, hM, hb, ⟨hC.1, hC.2.1, fun q hq => ?_⟩, h0, hc⟩
  obtain ⟨c1, c2, c3, c4⟩ := hC.2.2 q hq
  exact ⟨c1, c2, c3, by rw [← e1 q hq]; exact c4⟩
def mu (T : Nat) (g : Nat → Nat) : Nat := (T - g 0) * 169 + (T - g 1) * 13 + (T - g 2)
theorem mu_lt {p : Nat} (T12 : T ≤ 12) (hg : ∀ k, 1 ≤ g k ∧ g k ≤ T) (hp : p < 3) (hlt : g p < T) : mu T (fun j => if j < p then g j else if j = p then g p + 1 else 1) < mu T g := by
  have g0 := hg 0
  have g1 := hg 1
  have g2 := hg 2
  obtain rfl | rfl | rfl : p = 0 ∨ p = 1 ∨ p = 2 := by omega
  · show (T - (g 0 + 1)) * 169 + (T - 1) * 13 + (T - 1) < (T - g 0) * 169 + (T - g 1) * 13 + (T - g 2)
    omega
  · show (T - g 0) * 169 + (T - (g 1 + 1)) * 13 + (T - 1) < (T - g 0) * 169 + (T - g 1) * 13 + (T - g 2)
    omega
  · show (T - g 0) * 169 + (T - g 1) * 13 + (T - (g 2 + 1)) < (T - g 0) * 169 + (T - g 1) * 13 + (T - g 2)
    omega
theorem mGrams (hE : Env x l e c n a st T D gr) (s1 : 1 ≤ s) (s3 : s ≤ 3) (hi : ∀ p, p < s → i p < n) (hN : Nx x l e c n a st T D W gr X1 s i (fun _ => 1) m) (h49 : gI m 0 0 49 = nI s) (hd : ∀ p, p < s → gI m 48 0 (2 * p) = nI (D (i p))) : ∃ m', fX12_tryGrams m = some m' ∧ ((IV x l e c n a st T D W gr X1 s i (fun _ => T) m' ∨ FL x l e c n a st T D W gr X1 m') ∧ TG m m') := by
  have hE0 := hE
  obtain ⟨e1, e2, e3, e4, e5, e6, e7, e8, e9⟩ := hE
  have m61 : gI m 0 0 61 = nI st := by
    obtain ⟨s0, i0, g0, h1, _⟩ := hN
    exact (IV_M h1).1.2.2.2.1
  unfold fX12_tryGrams
  refine ex_bind (lp_inv (fun k (w : Int32 × Sto) => w.1 = nI k ∧ Nx x l e c n a st T D W gr X1 s i (fun _ => 1) w.2 ∧ ∀ f b j, gI w.2 f b j = if f = 48 ∧ b = 0 ∧ j % 2 = 1 ∧ j < 2 * k then nI st else gI m f b j) (fun r => Nx x l e c n a st T D W gr X1 s i (fun _ => 1) r ∧ ∀ f b j, gI r f b j = if f = 48 ∧ b = 0 ∧ j % 2 = 1 ∧ j < 2 * s then nI st else gI m f b j) s (fun k w hk hI => ?_) s 4000 0 _ (by omega) ⟨rfl, hN, fun f b j => by rw [if_neg (by omega)]⟩ (by omega)) (fun r hr => ?_)
  · obtain ⟨v, w⟩ := w
    obtain ⟨hI1, hI2, hI3⟩ := hI
    have hI1 : v = nI k := hI1
    have hI2 : Nx x l e c n a st T D W gr X1 s i (fun _ => 1) w := hI2
    have hI3 : ∀ f b j, gI w f b j = if f = 48 ∧ b = 0 ∧ j % 2 = 1 ∧ j < 2 * k then nI st else gI m f b j := hI3
    subst hI1
    dsimp only [un2]
    have w49 : gI w 0 0 49 = nI s := by rw [hI3, if_neg (by omega)]; exact h49
    have w61 : gI w 0 0 61 = nI st := by rw [hI3, if_neg (by omega)]; exact m61
    by_cases q : k = s
    · subst q
      exact Or.inl ⟨w, by rw [w49, if_pos (Int32.le_refl _)], hI2, hI3⟩
    · refine Or.inr ⟨by omega, (nI (k + 1), sI w 48 0 (2 * k + 1) (nI st)), ?_, rfl, Nx_w hI2 (Or.inl rfl), fun f b j => ?_⟩
      · rw [w49, if_neg (nI_gt (by omega) (by omega)), i21, show lIM 48 0 = 6 from rfl, ck_t (by exact ixl (by omega) (by omega)), nI_cl (by omega), w61, lt1_e, lt1_e, nI_s]
      · rw [gI_sI, hI3]
        by_cases z : f = 48 ∧ b = 0 ∧ j = 2 * k + 1
        · rw [if_pos z, if_pos (by omega)]
        · rw [if_neg z]
          by_cases y : f = 48 ∧ b = 0 ∧ j % 2 = 1 ∧ j < 2 * k
          · rw [if_pos y, if_pos (by omega)]
          · rw [if_neg y, if_neg (by omega)]
  · obtain ⟨hr1, hr2⟩ := hr
    refine ex_bind (lp_dec (fun r (w : Int32 × Sto) => TG m w.2 ∧ ((w.1 = 1 ∧ ∃ g, (∀ k, 1 ≤ g k ∧ g k ≤ T) ∧ Nx x l e c n a st T D W gr X1 s i g w.2 ∧ Tr w.2 s (fun j => D (i j)) (fun p => g p * st) ∧ r = mu T g + 1) ∨ (w.1 = 0 ∧ (IV x l e c n a st T D W gr X1 s i (fun _ => T) w.2 ∨ FL x l e c n a st T D W gr X1 w.2)) ∨ (w.1 = 1 ∧ FL x l e c n a st T D W gr X1 w.2))) (fun z => (IV x l e c n a st T D W gr X1 s i (fun _ => T) z ∨ FL x l e c n a st T D W gr X1 z) ∧ TG m z) (fun r w hI => ?_) 4000 (mu T (fun _ => 1) + 1) _ ⟨fun f b j q => ?_, Or.inl ⟨rfl, fun _ => 1, fun _ => ⟨Nat.le_refl 1, e8.1⟩, hr1, ⟨?_, fun p hp => ⟨?_, ?_⟩⟩, rfl⟩⟩ ?_) (fun z hz => ⟨z, rfl, hz⟩)
    · obtain ⟨v, t⟩ := w
      obtain ⟨hG, hI⟩ := hI
      have hG : TG m t := hG
      rcases hI with ⟨hv, g, hg, hNx, hT, hr⟩ | ⟨hv, hq⟩ | ⟨hv, hq⟩
      · have hv : v = 1 := hv
        have hNx : Nx x l e c n a st T D W gr X1 s i g t := hNx
        have hT : Tr t s (fun j => D (i j)) (fun p => g p * st) := hT
        subst hv
        right
        obtain ⟨s0, i0, g0, h1, h2⟩ := hNx
        obtain ⟨u, u1, u2, u3⟩ := iv_step hE0 h1 s3 hi (fun p _ => (hg p).2) h2 hT
        have u48 : ∀ j, gI u 48 0 j = gI t 48 0 j := fun j => u3 48 0 j (by omega)
        have u49 : gI u 0 0 49 = nI s := (u3 0 0 49 (by omega)).trans hT.1
        have uM : SeM l e c st T W gr u := u2.elim (fun q => (IV_M q).1) (fun q => (FL_M q).1)
        obtain ⟨p, hp, hpT, hpn⟩ := topOf (fun q => g q = T) s
        obtain ⟨z, z1, z2, z3⟩ := mOdo (t := u) (s := s) (p := p) (st := st) (T := T) (g := g) (Q := fun w => IV x l e c n a st T D W gr X1 s i g w ∨ FL x l e c n a st T D W gr X1 w) (fun w j v q => q.imp (fun q => IV_w q (Or.inl rfl)) (fun q => FL_w q (Or.inl rfl))) s3 hp uM.2.2.2.1 uM.2.2.2.2.1 (fun k hk => (u48 _).trans (hT.2 k hk).2) (fun k _ => (hg k).2) e8.2 e7.1 e7.2 hpT hpn u2
        have zG : TG m z := fun f b j q => by rw [z3, if_neg (by omega), u3 f b j (by omega)]; exact hG f b j q
        have z61 : gI z 0 0 61 = nI st := by rw [z3, if_neg (by omega)]; exact uM.2.2.2.1
        by_cases p0 : p = 0
        · subst p0
          refine ⟨0, (0, z), by omega, ?_, zG, Or.inr (Or.inl ⟨rfl, z2.imp (fun q => IV_g q (fun k hk => hpT k (by omega) hk)) id⟩)⟩
          dsimp only [un2]
          rw [if_neg (show ¬ (1 : Int32) = 0 by decide), (IV_M h1).2, if_pos rfl, u1, Option.bind_some, u49, lt1_e]
          refine (congrArg (fun o => Option.bind o _) z1).trans ?_
          rw [Option.bind_some]
          dsimp only [un2]
          rw [jn_e, if_pos m1_lt0]
          dsimp only
          rw [if_pos rfl]
        · obtain ⟨p', rfl⟩ : ∃ p', p = p' + 1 := ⟨p - 1, by omega⟩
          have ne := hpn p' rfl
          have le := (hg p').2
          have hlt : g p' < T := by omega
          have bb : (g p' + 1) * st ≤ 120000 := Nat.mul_le_mul (show g p' + 1 ≤ 12 by omega) e7.2
          have eadd : nI (g p' * st) + nI st = nI ((g p' + 1) * st) := by rw [nI_add, Nat.succ_mul]
          have zp : gI z 48 0 (2 * p' + 1) = nI (g p' * st) := by rw [z3, if_neg (by omega), u48]; exact (hT.2 p' (by omega)).2
          refine ⟨mu T (fun j => if j < p' then g j else if j = p' then g p' + 1 else 1) + 1, (1, sI z 48 0 (2 * p' + 1) (nI ((g p' + 1) * st))), ?_, ?_, fun f b j q => ?_, ?_⟩
          · have := mu_lt (T := T) (g := g) (p := p') e8.2 hg (by omega) hlt
            omega
          · dsimp only [un2]
            rw [if_neg (show ¬ (1 : Int32) = 0 by decide), (IV_M h1).2, if_pos rfl, u1, Option.bind_some, u49, lt1_e]
            refine (congrArg (fun o => Option.bind o _) z1).trans ?_
            rw [Option.bind_some, nI_p]
            dsimp only [un2]
            rw [jn_e, if_neg (nI_lt0 (by omega))]
            dsimp only
            rw [if_neg (show ¬ (1 : Int32) = 0 by decide), i21, show lIM 48 0 = 6 from rfl, ck_t (by exact ixl (by omega) (by omega)), ck_t (by exact ixl (by omega) (by omega)), nI_cl (by omega), zp, z61, eadd, lt1_e]
          · show gI (sI z 48 0 (2 * p' + 1) (nI ((g p' + 1) * st))) f b j = _
            rw [gI_sI, if_neg (by omega)]; exact zG f b j q
          · rcases z2 with q | q
            · refine Or.inl ⟨rfl, fun j => if j < p' then g j else if j = p' then g p' + 1 else 1, fun k => ?_, ⟨s, i, g, IV_w q (Or.inl rfl), fun X hX hC => advA hX hC s3 (by omega) (by omega) hi (by omega) hlt (fun q _ => (hg q).2) (fun q q1 q2 => by rw [hpT q (by omega) q2]; exact Nat.le_refl _)⟩, ⟨?_, fun q hq => ⟨?_, ?_⟩⟩, rfl⟩
              · dsimp only
                have := hg k
                split
                · exact this
                · split
                  · exact ⟨by omega, by omega⟩
                  · exact ⟨Nat.le_refl 1, e8.1⟩
              · show gI (sI z 48 0 (2 * p' + 1) (nI ((g p' + 1) * st))) 0 0 49 = _
                rw [gI_sI, if_neg (by omega), z3, if_neg (by omega)]; exact u49
              · show gI (sI z 48 0 (2 * p' + 1) (nI ((g p' + 1) * st))) 48 0 (2 * q) = _
                rw [gI_sI, if_neg (by omega), z3, if_neg (by omega), u48]; exact (hT.2 q hq).1
              · show gI (sI z 48 0 (2 * p' + 1) (nI ((g p' + 1) * st))) 48 0 (2 * q + 1) = _
                dsimp only
                rw [gI_sI]
                by_cases r1 : q = p'
                · rw [if_pos ⟨rfl, rfl, by omega⟩, if_neg (by omega), if_pos r1]
                · rw [if_neg (by omega), z3]
                  by_cases r2 : q < p'
                  · rw [if_neg (by omega), u48, if_pos r2]; exact (hT.2 q hq).2
                  · rw [if_pos (by omega), if_neg r2, if_neg r1, Nat.one_mul]
            · exact Or.inr (Or.inr ⟨rfl, FL_w q (Or.inl rfl)⟩)
      · have hv : v = 0 := hv
        subst hv
        exact Or.inl ⟨t, by dsimp only [un2]; rw [if_pos rfl], hq, hG⟩
      · have hv : v = 1 := hv
        subst hv
        refine Or.inl ⟨t, ?_, Or.inr hq, hG⟩
        dsimp only [un2]
        rw [if_neg (show ¬ (1 : Int32) = 0 by decide), (FL_M hq).2, if_neg (show ¬ (1 : Int32) = 0 by decide)]
    · show gI r f b j = _
      rw [hr2, if_neg (by omega)]
    · show gI r 0 0 49 = _
      rw [hr2, if_neg (by omega)]; exact h49
    · show gI r 48 0 (2 * p) = _
      rw [hr2, if_neg (by omega)]; exact hd p hp
    · show gI r 48 0 (2 * p + 1) = _
      rw [hr2, if_pos (by omega)]
      dsimp only
      rw [Nat.one_mul]
    · unfold mu; omega
end
