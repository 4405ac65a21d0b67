/-! ===== one try, by both ===== -/
/-- what the class's search holds while it runs: n offered things D, at most a at once, T times at most, steps of st grams, its aim and goal -/
def SeX (l e n a st T : Nat) (D : Nat → Nat) (W : Nat → Nat → Nat) (gr : Nat → UInt32) (t : Sto) : Prop := gI t 16 0 3 = nI n ∧ gI t 16 0 4 = nI a ∧ gI t 16 0 5 = nI st ∧ gI t 16 0 6 = 0 ∧ (∀ q, q < n → gI t 45 0 q = nI (D q) ∧ gI t 46 0 q = nI T ∧ gI t 47 0 q = 0) ∧ Wt t l e = W ∧ Aim t W ∧ ∀ k, k < 3 → gD t 41 0 k = colV gr W k
def SeM (l e c st T : Nat) (W : Nat → Nat → Nat) (gr : Nat → UInt32) (m : Sto) : Prop := gI m 0 0 58 = nI c ∧ gI m 0 0 59 = nI l ∧ gI m 0 0 60 = nI e ∧ gI m 0 0 61 = nI st ∧ gI m 0 0 62 = nI T ∧ ∀ k, k < 3 → gD m 46 0 k = colV gr W k
/-- the best of k tries, in both -/
def BestR (t m : Sto) (k : Nat) : Prop := gI t 16 0 10 = nI k ∧ gI m 0 0 51 = nI k ∧ (k = 0 → gI t 16 0 13 = 0) ∧ (1 ≤ k → gI t 16 0 13 = 1 ∧ pw 1116 (gD t 16 0 17) ∧ gD m 0 0 53 = gD t 16 0 17 ∧ gL m 0 0 54 = gL t 16 0 18 ∧ ∃ sb, sb ≤ 3 ∧ gI t 16 0 16 = nI sb ∧ gI m 0 0 50 = nI sb ∧ ∀ p, p < sb → gI m 49 0 (2 * p) = gI t 50 0 p ∧ gI m 49 0 (2 * p + 1) = gI t 51 0 p)
theorem Wt_I {s t : Sto} {l e : Nat} (h : ∀ f i j, f = 35 ∨ f = 37 → gI t f i j = gI s f i j) : Wt t l e = Wt s l e := by
  funext a k
  unfold Wt
  rw [iN_e (h 35 l k (by decide)), iN_e (h 37 _ k (by decide))]
theorem Aim_e {s t : Sto} {W : Nat → Nat → Nat} (h : ∀ f i j, f = 39 ∨ f = 40 → gD t f i j = gD s f i j) (k : Aim s W) : Aim t W := fun x hx => ⟨by rw [h _ _ _ (Or.inr rfl)]; exact (k x hx).1, fun q hq => ⟨by rw [h _ _ _ (Or.inl rfl)]; exact ((k x hx).2 q hq).1, ((k x hx).2 q hq).2⟩⟩
/-- what one try leaves of the class's store -/
def TX (t y : Sto) : Prop := (∀ f i j, ¬ (i = 0 ∧ (f = 50 ∨ f = 51 ∨ (f = 16 ∧ (j = 10 ∨ j = 13 ∨ j = 16)))) → gI y f i j = gI t f i j) ∧ KF 0 t y
def TM (m n : Sto) : Prop := (∀ f i j, ¬ (i = 0 ∧ (f = 49 ∨ (f = 0 ∧ (j = 50 ∨ j = 51)))) → gI n f i j = gI m f i j) ∧ FM m n ∧ ∀ k, gD n 46 0 k = gD m 46 0 k
theorem SeX_T {l e n a st T : Nat} {D : Nat → Nat} {W : Nat → Nat → Nat} {gr : Nat → UInt32} {t y : Sto} (h : SeX l e n a st T D W gr t) (k : ∀ f i j, f = 35 ∨ f = 37 ∨ (f = 16 ∧ 3 ≤ j ∧ j ≤ 6) ∨ (45 ≤ f ∧ f ≤ 47) → gI y f i j = gI t f i j) (k2 : Aim y W) (k3 : ∀ k, k < 3 → gD y 41 0 k = colV gr W k) : SeX l e n a st T D W gr y := ⟨(k _ _ _ (by decide)).trans h.1, (k _ _ _ (by decide)).trans h.2.1, (k _ _ _ (by decide)).trans h.2.2.1, (k _ _ _ (by decide)).trans h.2.2.2.1, fun q hq => by
  obtain ⟨h1, h2, h3⟩ := h.2.2.2.2.1 q hq
  exact ⟨(k _ _ _ (by omega)).trans h1, (k _ _ _ (by omega)).trans h2, (k _ _ _ (by omega)).trans h3⟩, (Wt_I (fun f i j q => k f i j (by omega))).trans h.2.2.2.2.2.1, k2, k3⟩
theorem SeM_T {l e c st T : Nat} {W : Nat → Nat → Nat} {gr : Nat → UInt32} {m n : Sto} (h : SeM l e c st T W gr m) (k : ∀ j, 58 ≤ j → j ≤ 62 → gI n 0 0 j = gI m 0 0 j) (k2 : ∀ k, gD n 46 0 k = gD m 46 0 k) : SeM l e c st T W gr n := ⟨(k _ (by decide) (by decide)).trans h.1, (k _ (by decide) (by decide)).trans h.2.1, (k _ (by decide) (by decide)).trans h.2.2.1, (k _ (by decide) (by decide)).trans h.2.2.2.1, (k _ (by decide) (by decide)).trans h.2.2.2.2.1, fun q hq => (k2 q).trans (h.2.2.2.2.2 q hq)⟩
theorem s_try {x t m : Sto} {l e c n a st T s k : Nat} {D : Nat → Nat} {W : Nat → Nat → Nat} {gr : Nat → UInt32} {i d g : Nat → Nat} (hR : RelS x 0 t m) (hX : SeX l e n a st T D W gr t) (hM : SeM l e c st T W gr m) (hb : BestR t m k) (k9 : k < 1000) (hl : l < 6) (he : e < 2) (hc : c < cN t 1) (hgr : ∀ k, k < 16 → fl2 (gr k)) (s3 : s ≤ 3) (hd : ∀ p, p < s → d p < cN t 2) (hg : ∀ p, p < s → g p * st ≤ 10000000) (hC : Cd 0 t s st i d g) (hT : Tr m s d (fun p => g p * st)) : ∃ t' m', fX11_tryRecipe 6 c t = some t' ∧ fX12_tryRecipe m = some m' ∧ RelS x 0 t' m' ∧ SeX l e n a st T D W gr t' ∧ SeM l e c st T W gr m' ∧ BestR t' m' (k + 1) ∧ Cd 0 t' s st i d g ∧ TX t t' ∧ TM m m' := by
  obtain ⟨b1, b2, b3, b4⟩ := hb
  obtain ⟨_, _, _, _, _, xW, xA, xG⟩ := id hX
  have hB := RelS_B hR
  have hx := hR.1.2.1
  have hm := hR.1.2.2.1
  obtain ⟨y, y1, y2, y3, y4⟩ := xTry hB hx hl he hc s3 hd hg hC (by rw [xW]; exact xA) (by rw [xW]; exact xG) hgr
  rw [xW] at y3 y4
  have hpc : PcOk s (fun p => partC t 2 (d p) (g p * st)) := fun k hk p hp => partC_b hx (hg p hp) hk
  have hV := (gapO_b (r := gr) (s := mRow t c s (fun p => partC t 2 (d p) (g p * st))) hB hl he hgr (fun k hk => (mRow_b hx hc (by omega) hpc hk).1)).1
  have hmt := mTry (z := putO (sI m 0 0 51 (nI (k + 1))) 1 0 2144 16 (mRow t c s (fun p => partC t 2 (d p) (g p * st)))) hB hx hm hl he hc s3 hd hg hT hM.1 hM.2.1 hM.2.2.1 (by rw [xW]; exact hM.2.2.2.2.2) hgr b2 k9 rfl rfl rfl
  generalize gapO t l e gr (mRow t c s (fun p => partC t 2 (d p) (g p * st))) = V at y1 hV hmt
  generalize cstV t d (fun p => g p * st) s = K at y1 hmt
  have zI : ∀ f i j, gI (putO (sI m 0 0 51 (nI (k + 1))) 1 0 2144 16 (mRow t c s (fun p => partC t 2 (d p) (g p * st)))) f i j = if f = 0 ∧ i = 0 ∧ j = 51 then nI (k + 1) else gI m f i j := fun f i j => gI_sI _ _ _ _ _ _ _ _
  have zD : gD (putO (sI m 0 0 51 (nI (k + 1))) 1 0 2144 16 (mRow t c s (fun p => partC t 2 (d p) (g p * st)))) = gD m := rfl
  have zL : gL (putO (sI m 0 0 51 (nI (k + 1))) 1 0 2144 16 (mRow t c s (fun p => partC t 2 (d p) (g p * st)))) = gL m := rfl
  have zF : FM m (putO (sI m 0 0 51 (nI (k + 1))) 1 0 2144 16 (mRow t c s (fun p => partC t 2 (d p) (g p * st)))) := FM_t (FM_I (by decide)) (FM_O (Nat.le_refl _))
  generalize putO (sI m 0 0 51 (nI (k + 1))) 1 0 2144 16 (mRow t c s (fun p => partC t 2 (d p) (g p * st))) = z at hmt zI zD zL zF
  have yI := y2.1
  have yC : Cd 0 y s st i d g := Cd_I hC (fun f b j _ _ => by rw [← yI])
  have y10 : gI y 16 0 10 = nI k := by rw [← yI]; exact b1
  have yK : KF 0 t y := KF_S y2
  have yK2 : KF 0 t (sI y 16 0 10 (nI (k + 1))) := KF_t yK (KF_I (by decide))
  have yC2 : Cd 0 (sI y 16 0 10 (nI (k + 1))) s st i d g := Cd_I yC (fun f b j q1 q2 => by rw [gI_sI, if_neg (by omega)])
  -- both keep it
  have kept : (∃ v, fX12_tryRecipe m = some v ∧ KeptM z s V K v) → fX8_judge 0 V K y = (fX8_keep 0 V K (sI y 16 0 10 (nI (k + 1)))).bind some → ∃ t' m', fX11_tryRecipe 6 c t = some t' ∧ fX12_tryRecipe m = some m' ∧ RelS x 0 t' m' ∧ SeX l e n a st T D W gr t' ∧ SeM l e c st T W gr m' ∧ BestR t' m' (k + 1) ∧ Cd 0 t' s st i d g ∧ TX t t' ∧ TM m m' := fun ⟨v, v1, v2⟩ hj => by
    obtain ⟨u, u1, uI, uF, uD, uL⟩ := xKeep (V := V) (K := K) (by decide) yC2 s3
    have uo : ∀ f i j, ¬ (i = 0 ∧ (f = 50 ∨ f = 51 ∨ (f = 16 ∧ (j = 10 ∨ j = 13 ∨ j = 16)))) → gI u f i j = gI t f i j := fun f i j q => by
      rw [uI, if_neg (by omega), if_neg (by omega), if_neg (by omega), if_neg (by omega), gI_sI, if_neg (by omega), ← yI]
    have kU : KF 0 t u := KF_t yK2 ⟨fun f i j q => by rw [uI, if_neg (by omega), if_neg (by omega), if_neg (by omega), if_neg (by omega)], fun f i j q => by rw [uF], fun f i j q1 _ _ => by rw [uD, if_neg (by omega)], fun f i j q => by rw [uL, if_neg (by omega)]⟩
    have fV : FM m v := FM_t zF ⟨fun f i j q _ q3 _ _ _ => by rw [v2.1, if_neg (by omega), if_neg (by omega)], fun f i j _ => by rw [v2.2.1], fun f i j q _ => by rw [v2.2.2.1, if_neg (by omega)], fun f i j q => by rw [v2.2.2.2, if_neg (by omega)]⟩
    have v46 : ∀ k, gD v 46 0 k = gD m 46 0 k := fun q => by rw [v2.2.2.1, if_neg (by omega), zD]
    have vo : ∀ f i j, ¬ (i = 0 ∧ (f = 49 ∨ (f = 0 ∧ (j = 50 ∨ j = 51)))) → gI v f i j = gI m f i j := fun f i j q => by rw [v2.1, if_neg (by omega), if_neg (by omega), zI, if_neg (by omega)]
    refine ⟨u, v, by rw [y1, hj, u1]; rfl, v1, RelS_f hR kU fV, SeX_T hX (fun f i j q => uo f i j (by omega)) (Aim_e (s := y) (fun f i j q => by rw [uD, if_neg (by omega)]; rfl) y3) (fun q hq => by rw [uD, if_neg (by omega)]; exact y4 q hq), SeM_T hM (fun j q1 q2 => vo _ _ _ (by omega)) v46, ⟨?_, ?_, fun q => absurd q (by omega), fun _ => ⟨?_, ?_, ?_, ?_, s, s3, ?_, ?_, fun p hp => ⟨?_, ?_⟩⟩⟩, Cd_I hC (fun f b j q1 q2 => uo f b j (by omega)), ⟨uo, kU⟩, ⟨vo, fV, v46⟩⟩
    · rw [uI, if_neg (by omega), if_neg (by omega), if_neg (by omega), if_neg (by omega), gI_sI, if_pos ⟨rfl, rfl, rfl⟩]
    · rw [v2.1, if_neg (by omega), if_neg (by omega), zI, if_pos ⟨rfl, rfl, rfl⟩]
    · rw [uI, if_neg (by omega), if_neg (by omega), if_neg (by omega), if_pos ⟨rfl, rfl, rfl⟩]
    · rw [uD, if_pos ⟨rfl, rfl, rfl⟩]; exact hV
    · rw [v2.2.2.1, if_pos ⟨rfl, rfl, rfl⟩, uD, if_pos ⟨rfl, rfl, rfl⟩]
    · rw [v2.2.2.2, if_pos ⟨rfl, rfl, rfl⟩, uL, if_pos ⟨rfl, rfl, rfl⟩]
    · rw [uI, if_neg (by omega), if_neg (by omega), if_pos ⟨rfl, rfl, rfl⟩]
    · rw [v2.1, if_neg (by omega), if_pos ⟨rfl, rfl, rfl⟩]
    · rw [v2.1, if_pos ⟨rfl, rfl, by omega⟩, zI, if_neg (by omega), (hT.2 p hp).1, uI, if_pos ⟨rfl, rfl, hp⟩]
    · rw [v2.1, if_pos ⟨rfl, rfl, by omega⟩, zI, if_neg (by omega), (hT.2 p hp).2, uI, if_neg (by omega), if_pos ⟨rfl, rfl, hp⟩]
  have left_ : 1 ≤ k → fX12_tryRecipe m = some z → fX8_judge 0 V K y = some (sI y 16 0 10 (nI (k + 1))) → ∃ t' m', fX11_tryRecipe 6 c t = some t' ∧ fX12_tryRecipe m = some m' ∧ RelS x 0 t' m' ∧ SeX l e n a st T D W gr t' ∧ SeM l e c st T W gr m' ∧ BestR t' m' (k + 1) ∧ Cd 0 t' s st i d g ∧ TX t t' ∧ TM m m' := fun k1 v1 hj => by
    obtain ⟨c1, c2, c3, c4, sb, c5, c6, c7, c8⟩ := b4 k1
    have uo : ∀ f i j, ¬ (i = 0 ∧ (f = 50 ∨ f = 51 ∨ (f = 16 ∧ (j = 10 ∨ j = 13 ∨ j = 16)))) → gI (sI y 16 0 10 (nI (k + 1))) f i j = gI t f i j := fun f i j q => by
      rw [gI_sI, if_neg (by omega), ← yI]
    have ux : ∀ f i j, ¬ (f = 16 ∧ j = 10) → gI (sI y 16 0 10 (nI (k + 1))) f i j = gI t f i j := fun f i j q => by
      rw [gI_sI, if_neg (by omega), ← yI]
    have vo : ∀ f i j, ¬ (i = 0 ∧ (f = 49 ∨ (f = 0 ∧ (j = 50 ∨ j = 51)))) → gI z f i j = gI m f i j := fun f i j q => by rw [zI, if_neg (by omega)]
    have v46 : ∀ k, gD z 46 0 k = gD m 46 0 k := fun q => by rw [zD]
    have y17 : gD (sI y 16 0 10 (nI (k + 1))) 16 0 17 = gD t 16 0 17 := (y2.2.2.2 16 0 17 (by decide) (by decide) (by decide) (by decide) (by decide) (by decide)).symm
    have y18 : gL (sI y 16 0 10 (nI (k + 1))) 16 0 18 = gL t 16 0 18 := by
      show gL y 16 0 18 = _
      rw [← y2.2.1]
    refine ⟨sI y 16 0 10 (nI (k + 1)), z, by rw [y1, hj]; rfl, v1, RelS_f hR yK2 zF, SeX_T hX (fun f i j q => uo f i j (by omega)) y3 y4, SeM_T hM (fun j q1 q2 => vo _ _ _ (by omega)) v46, ⟨rfl, ?_, fun q => absurd q (by omega), fun _ => ⟨?_, ?_, ?_, ?_, sb, c5, ?_, ?_, fun p hp => ⟨?_, ?_⟩⟩⟩, Cd_I hC (fun f b j q1 q2 => uo f b j (by omega)), ⟨uo, yK2⟩, ⟨vo, zF, v46⟩⟩
    · rw [zI, if_pos ⟨rfl, rfl, rfl⟩]
    · rw [ux _ _ _ (by omega)]; exact c1
    · rw [y17]; exact c2
    · rw [zD, y17]; exact c3
    · rw [zL, y18]; exact c4
    · rw [ux _ _ _ (by omega)]; exact c6
    · rw [zI, if_neg (by omega)]; exact c7
    · rw [zI, if_neg (by omega), ux _ _ _ (by omega)]; exact (c8 p hp).1
    · rw [zI, if_neg (by omega), ux _ _ _ (by omega)]; exact (c8 p hp).2
  by_cases k0 : k = 0
  · exact kept (hmt.1 k0) (xJudge0 y10 (by rw [← yI]; exact b3 k0))
  · obtain ⟨c1, c2, c3, c4, _⟩ := b4 (by omega)
    have y17 : gD y 16 0 17 = gD t 16 0 17 := (y2.2.2.2 16 0 17 (by decide) (by decide) (by decide) (by decide) (by decide) (by decide)).symm
    have y18 : gL y 16 0 18 = gL t 16 0 18 := by rw [← y2.2.1]
    have fV := pw_fnn hV (by decide)
    have fB := pw_fnn c2 (by decide)
    obtain ⟨m1, m2, m3⟩ := hmt.2 (by omega) _ fV fB c3
    have hj := xJudge1 (K := K) y10 (by rw [← yI]; exact c1) fV fB y17
    rw [y18] at hj
    rw [c4] at m2
    by_cases q : V.toNat < (gD t 16 0 17).toNat
    · rw [if_pos q] at hj
      exact kept (m1 q) hj
    · rw [if_neg q] at hj
      by_cases r : V.toNat = (gD t 16 0 17).toNat
      · rw [if_pos r] at hj
        by_cases w : 0 ≤ lg_cmp K (gL t 16 0 18)
        · rw [if_pos w] at hj
          exact left_ (by omega) ((m2 r).1 w) hj
        · rw [if_neg w] at hj
          exact kept ((m2 r).2 w) hj
      · rw [if_neg r] at hj
        exact left_ (by omega) (m3 (by omega)) hj
