/-! ===== one try of a correction, by both ===== -/
def SeC (l e n a room st : Nat) (D lim need : Nat → Nat) (W : Nat → Nat → Nat) (gr : Nat → UInt32) (t : Sto) : Prop := gI t 16 1 3 = nI n ∧ gI t 16 1 4 = nI a ∧ gI t 16 1 5 = nI st ∧ gI t 16 1 6 = nI room ∧ (∀ q, q < n → gI t 45 1 q = nI (D q) ∧ gI t 46 1 q = nI (lim q) ∧ gI t 47 1 q = nI (need q)) ∧ Wt t l e = W ∧ Aim t W ∧ ∀ k, k < 3 → gD t 41 0 k = colV gr W k
def MeC (l e : Nat) (W : Nat → Nat → Nat) (gr : Nat → UInt32) (m : Sto) : Prop := gI m 0 0 59 = nI l ∧ gI m 0 0 60 = nI e ∧ ∀ k, k < 3 → gD m 46 0 k = colV gr W k
def BestC (t m : Sto) (k : Nat) : Prop := gI t 16 1 10 = nI k ∧ gI m 0 0 51 = nI k ∧ gI t 16 1 13 = 1 ∧ pw 1116 (gD t 16 1 17) ∧ gD m 0 0 72 = gD t 16 1 17 ∧ gL t 16 1 18 = 0 ∧ ∃ sb, sb ≤ 2 ∧ gI t 16 1 16 = nI sb ∧ (∀ p, p < 2 → gI m 71 0 (2 * p) = (if p < sb then gI t 50 1 p else -1) ∧ gI m 71 0 (2 * p + 1) = (if p < sb then gI t 51 1 p else -1)) ∧ ∀ p, p < sb → ∃ v, v < 2 ^ 30 ∧ gI t 50 1 p = nI v
theorem SeC_T {l e n a room st : Nat} {D lim need : Nat → Nat} {W : Nat → Nat → Nat} {gr : Nat → UInt32} {t y : Sto} (h : SeC l e n a room st D lim need W gr t) (k : ∀ f i j, f = 35 ∨ f = 37 ∨ (f = 16 ∧ 3 ≤ j ∧ j ≤ 6) ∨ (45 ≤ f ∧ f ≤ 47) → gI y f i j = gI t f i j) (k2 : Aim y W) (k3 : ∀ k, k < 3 → gD y 41 0 k = colV gr W k) : SeC l e n a room st D lim need W gr y := ⟨(k _ _ _ (by decide)).trans h.1, (k _ _ _ (by decide)).trans h.2.1, (k _ _ _ (by decide)).trans h.2.2.1, (k _ _ _ (by decide)).trans h.2.2.2.1, fun q hq => by
  obtain ⟨h1, h2, h3⟩ := h.2.2.2.2.1 q hq
  exact ⟨(k _ _ _ (by omega)).trans h1, (k _ _ _ (by omega)).trans h2, (k _ _ _ (by omega)).trans h3⟩, (Wt_I (fun f i j q => k f i j (by omega))).trans h.2.2.2.2.2.1, k2, k3⟩
def CX1 (t y : Sto) : Prop := (∀ f i j, ¬ (i = 1 ∧ (f = 50 ∨ f = 51 ∨ (f = 16 ∧ (j = 10 ∨ j = 13 ∨ j = 16)))) → gI y f i j = gI t f i j) ∧ KF 1 t y
def CM1 (m n : Sto) : Prop := (∀ f i j, ¬ (i = 0 ∧ (f = 71 ∨ (f = 0 ∧ j = 51))) → gI n f i j = gI m f i j) ∧ FM m n
theorem c_try {x t w : Sto} {l e b n a room st s nb N k : Nat} {D lim need : Nat → Nat} {W : Nat → Nat → Nat} {gr : Nat → UInt32} {i d g q h pl : Nat → Nat} {sel : Nat → Bool} {a4 a5 : Int32} (hR : RelS x 1 t w) (hX : SeC l e n a room st D lim need W gr t) (hM : MeC l e W gr w) (hb : BestC t w k) (k9 : k < 1000) (hl : l < 6) (he : e < 2) (hbt : b < cN t 5) (hgr : ∀ k, k < 16 → fl2 (gr k)) (s1 : 1 ≤ s) (s2 : s ≤ 2) (hd30 : ∀ k, k < s → d k < 2 ^ 30) (hC : Cd 1 t s st i d g) (hnb : gI t 30 b 2 = nI nb) (nb8 : nb ≤ 8) (hN : N = nb + rk sel s) (N10 : N ≤ 10) (hq : ∀ p, p < N → q p < cN t 4) (hh : ∀ p, p < N → h p ≤ 1000000) (h1 : ∀ p, p < nb → gI t 31 b p = nI (q p) ∧ ∃ G H, fX8_gramsOf 1 (nI (q p)) t = some (nI G) ∧ gI t 32 b p = nI H ∧ h p = H + G) (h2 : ∀ k, k < s → fX1_placeOf b (nI (d k)) t = some (if sel k = true then (-1 : Int32) else nI (pl k)) ∧ pl k < 8 ∧ (sel k = true → q (nb + rk sel k) = d k ∧ h (nb + rk sel k) = g k * st)) (hT : Bt w N q h) (ha4 : (s = 1 ∧ a4 = -1) ∨ (s = 2 ∧ a4 = nI (d 1) ∧ a5 = nI (g 1 * st) ∧ d 1 < 2 ^ 30)) : ∃ t' m', ((fX11_bathGap b t).bind (un2 fun (v104 : UInt64) (t105 : Sto) => (fX8_judge 1 v104 (0 : Int64) t105).bind (fun (t107 : Sto) => some t107))) = some t' ∧ mK8 (nI b) (nI (d 0)) (nI (g 0 * st)) a4 a5 w = some m' ∧ RelS x 1 t' m' ∧ SeC l e n a room st D lim need W gr t' ∧ MeC l e W gr m' ∧ BestC t' m' (k + 1) ∧ Cd 1 t' s st i d g ∧ CX1 t t' ∧ CM1 w m' := by
  obtain ⟨b1, b2, b3, b4, b5, b6, sb, c1, c2, c3, c4⟩ := hb
  obtain ⟨_, _, _, _, _, xW, xA, xG⟩ := id hX
  have hB := RelS_B hR
  have hx := hR.1.2.1
  have hm := hR.1.2.2.1
  obtain ⟨y, y1, y2, y3, y4⟩ := xBath hB hx hl he hbt (by omega) hC hnb nb8 hN N10 hq hh h1 h2 (by rw [xW]; exact xA) (by rw [xW]; exact xG) hgr
  rw [xW] at y3 y4
  obtain ⟨⟨o0, hc⟩, ⟨o1, kg1⟩, _⟩ := hx.2.2.2.2.2.2 b hbt
  have hpc : PcOk N (fun p => partC t 4 (q p) (h p * 10 / iN t 30 b 1)) := fun k hk p hp => partC_b hx (share_e (hh p hp) kg1 o1.2).2.2 hk
  have hV := (gapO_b (r := gr) (s := mRow t (iN t 30 b 0) N (fun p => partC t 4 (q p) (h p * 10 / iN t 30 b 1))) hB hl he hgr (fun k hk => (mRow_b hx hc N10 hpc hk).1)).1
  have fV := pw_fnn hV (by decide)
  have fB := pw_fnn b4 (by decide)
  have hk8 := mK8_e (z := putO (sI w 0 0 51 (nI (k + 1))) 1 0 2144 16 (mRow t (iN t 30 b 0) N (fun p => partC t 4 (q p) (h p * 10 / iN t 30 b 1)))) (a2 := nI (d 0)) (a3 := nI (g 0 * st)) (a4 := a4) (a5 := a5) hB hx hm hl he hbt N10 hq hh hT hM.1 hM.2.1 (by rw [xW]; exact hM.2.2) hgr b2 k9 rfl rfl fV fB b5
  generalize gapO t l e gr (mRow t (iN t 30 b 0) N (fun p => partC t 4 (q p) (h p * 10 / iN t 30 b 1))) = V at y1 hV fV hk8
  have zI : ∀ f i j, gI (putO (sI w 0 0 51 (nI (k + 1))) 1 0 2144 16 (mRow t (iN t 30 b 0) N (fun p => partC t 4 (q p) (h p * 10 / iN t 30 b 1)))) f i j = if f = 0 ∧ i = 0 ∧ j = 51 then nI (k + 1) else gI w f i j := fun f i j => gI_sI _ _ _ _ _ _ _ _
  have zD : gD (putO (sI w 0 0 51 (nI (k + 1))) 1 0 2144 16 (mRow t (iN t 30 b 0) N (fun p => partC t 4 (q p) (h p * 10 / iN t 30 b 1)))) = gD w := rfl
  have zF : FM w (putO (sI w 0 0 51 (nI (k + 1))) 1 0 2144 16 (mRow t (iN t 30 b 0) N (fun p => partC t 4 (q p) (h p * 10 / iN t 30 b 1)))) := FM_t (FM_I (by decide)) (FM_O (Nat.le_refl _))
  generalize putO (sI w 0 0 51 (nI (k + 1))) 1 0 2144 16 (mRow t (iN t 30 b 0) N (fun p => partC t 4 (q p) (h p * 10 / iN t 30 b 1))) = z at hk8 zI zD zF
  have yI := y2.1
  have yC : Cd 1 y s st i d g := Cd_I hC (fun f b j _ _ => by rw [← yI])
  have y17 : gD y 16 1 17 = gD t 16 1 17 := (y2.2.2.2 16 1 17 (by decide) (by decide) (by decide) (by decide) (by decide) (by decide)).symm
  have y18 : gL y 16 1 18 = 0 := by rw [← y2.2.1]; exact b6
  have yK2 : KF 1 t (sI y 16 1 10 (nI (k + 1))) := KF_t (KF_S y2) (KF_I (by decide))
  have yC2 : Cd 1 (sI y 16 1 10 (nI (k + 1))) s st i d g := Cd_I yC (fun f b j q1 q2 => by rw [gI_sI, if_neg (by omega)])
  have hj := xJudgeC (V := V) (by rw [← yI]; exact b1) (by rw [← yI]; exact b3) fV fB y17 y18
  by_cases r : V.toNat < (gD t 16 1 17).toNat
  · rw [if_pos r] at hj
    obtain ⟨v, v1, vI, vF, vD, vL⟩ := hk8.2 r
    obtain ⟨u, u1, uI, uF, uD, uL⟩ := xKeep (V := V) (K := 0) (by decide) yC2 (show s ≤ 3 by omega)
    have uo : ∀ f i j, ¬ (i = 1 ∧ (f = 50 ∨ f = 51 ∨ (f = 16 ∧ (j = 10 ∨ j = 13 ∨ j = 16)))) → gI u f i j = gI t f i j := fun f i j q => by
      rw [uI, if_neg (by omega), if_neg (by omega), if_neg (by omega), if_neg (by omega), gI_sI, if_neg (by omega), ← yI]
    have kU : KF 1 t u := KF_t yK2 ⟨fun f i j q => by rw [uI, if_neg (by omega), if_neg (by omega), if_neg (by omega), if_neg (by omega)], fun f i j q => by rw [uF], fun f i j q1 _ _ => by rw [uD, if_neg (by omega)], fun f i j q => by rw [uL, if_neg (by omega)]⟩
    have fW : FM w v := FM_t zF ⟨fun f i j _ _ _ _ _ q5 => by rw [vI, if_neg (by omega), if_neg (by omega), if_neg (by omega), if_neg (by omega)], fun f i j _ => by rw [vF], fun f i j q _ => by rw [vD, if_neg (by omega)], fun f i j _ => by rw [vL]⟩
    have vo : ∀ f i j, ¬ (i = 0 ∧ (f = 71 ∨ (f = 0 ∧ j = 51))) → gI v f i j = gI w f i j := fun f i j q => by rw [vI, if_neg (by omega), if_neg (by omega), if_neg (by omega), if_neg (by omega), zI, if_neg (by omega)]
    have u50 : ∀ p, p < s → gI u 50 1 p = nI (d p) := fun p hp => by rw [uI, if_pos ⟨rfl, rfl, hp⟩]
    have u51 : ∀ p, p < s → gI u 51 1 p = nI (g p * st) := fun p hp => by rw [uI, if_neg (by omega), if_pos ⟨rfl, rfl, hp⟩]
    have v0 : gI v 71 0 0 = nI (d 0) := by rw [vI, if_neg (by omega), if_neg (by omega), if_neg (by omega), if_pos ⟨rfl, rfl, rfl⟩]
    have v1' : gI v 71 0 1 = nI (g 0 * st) := by rw [vI, if_neg (by omega), if_neg (by omega), if_pos ⟨rfl, rfl, rfl⟩]
    have v2 : gI v 71 0 2 = a4 := by rw [vI, if_neg (by omega), if_pos ⟨rfl, rfl, rfl⟩]
    have v3 : gI v 71 0 3 = if a4 < 0 then -1 else a5 := by rw [vI, if_pos ⟨rfl, rfl, rfl⟩]
    refine ⟨u, v, ?_, v1, RelS_f hR kU fW, SeC_T hX (fun f i j q => uo f i j (by omega)) (Aim_e (s := y) (fun f i j q => by rw [uD, if_neg (by omega)]; rfl) y3) (fun q hq => by rw [uD, if_neg (by omega)]; exact y4 q hq), ⟨(vo _ _ _ (by omega)).trans hM.1, (vo _ _ _ (by omega)).trans hM.2.1, fun q hq => by rw [vD, if_neg (by omega), zD]; exact hM.2.2 q hq⟩, ⟨?_, ?_, ?_, ?_, ?_, ?_, s, s2, ?_, fun p hp => ?_, fun p hp => ⟨d p, hd30 p hp, u50 p hp⟩⟩, Cd_I hC (fun f b j q1 q2 => uo f b j (by omega)), ⟨uo, kU⟩, ⟨vo, fW⟩⟩
    · rw [y1, Option.bind_some]
      dsimp only [un2]
      rw [hj, u1]; rfl
    · rw [uI, if_neg (by omega), if_neg (by omega), if_neg (by omega), if_neg (by omega), gI_sI, if_pos ⟨rfl, rfl, rfl⟩]
    · rw [vI, if_neg (by omega), if_neg (by omega), if_neg (by omega), if_neg (by omega), zI, if_pos ⟨rfl, rfl, rfl⟩]
    · rw [uI, if_neg (by omega), if_neg (by omega), if_neg (by omega), if_pos ⟨rfl, rfl, rfl⟩]
    · rw [uD, if_pos ⟨rfl, rfl, rfl⟩]; exact hV
    · rw [vD, if_pos ⟨rfl, rfl, rfl⟩, uD, if_pos ⟨rfl, rfl, rfl⟩]
    · rw [uL, if_pos ⟨rfl, rfl, rfl⟩]
    · rw [uI, if_neg (by omega), if_neg (by omega), if_pos ⟨rfl, rfl, rfl⟩]
    · obtain rfl | rfl : p = 0 ∨ p = 1 := by omega
      · rw [if_pos (show 0 < s from s1), if_pos (show 0 < s from s1), u50 0 s1, u51 0 s1]
        exact ⟨v0, v1'⟩
      · rcases ha4 with ⟨e1, e2⟩ | ⟨e1, e2, e3, e4⟩
        · rw [if_neg (by omega), if_neg (by omega)]
          refine ⟨v2.trans e2, v3.trans ?_⟩
          rw [e2, if_pos (by decide)]
        · rw [if_pos (by omega), if_pos (by omega), u50 1 (by omega), u51 1 (by omega)]
          refine ⟨v2.trans e2, v3.trans ?_⟩
          rw [e2, if_neg (nI_lt0 (by omega)), e3]
  · rw [if_neg r] at hj
    have uo : ∀ f i j, ¬ (i = 1 ∧ (f = 50 ∨ f = 51 ∨ (f = 16 ∧ (j = 10 ∨ j = 13 ∨ j = 16)))) → gI (sI y 16 1 10 (nI (k + 1))) f i j = gI t f i j := fun f i j q => by
      rw [gI_sI, if_neg (by omega), ← yI]
    have ux : ∀ f i j, ¬ (f = 16 ∧ j = 10) → gI (sI y 16 1 10 (nI (k + 1))) f i j = gI t f i j := fun f i j q => by
      rw [gI_sI, if_neg (by omega), ← yI]
    have vo : ∀ f i j, ¬ (i = 0 ∧ (f = 71 ∨ (f = 0 ∧ j = 51))) → gI z f i j = gI w f i j := fun f i j q => by rw [zI, if_neg (by omega)]
    refine ⟨sI y 16 1 10 (nI (k + 1)), z, ?_, hk8.1 r, RelS_f hR yK2 zF, SeC_T hX (fun f i j q => uo f i j (by omega)) y3 y4, ⟨(vo _ _ _ (by omega)).trans hM.1, (vo _ _ _ (by omega)).trans hM.2.1, fun q hq => by rw [zD]; exact hM.2.2 q hq⟩, ⟨rfl, ?_, ?_, ?_, ?_, y18, sb, c1, ?_, fun p hp => ?_, fun p hp => ?_⟩, Cd_I hC (fun f b j q1 q2 => uo f b j (by omega)), ⟨uo, yK2⟩, ⟨vo, zF⟩⟩
    · rw [y1, Option.bind_some]
      dsimp only [un2]
      rw [hj]; rfl
    · rw [zI, if_pos ⟨rfl, rfl, rfl⟩]
    · rw [ux _ _ _ (by omega)]; exact b3
    · show pw 1116 (gD y 16 1 17)
      rw [y17]; exact b4
    · show gD z 0 0 72 = gD y 16 1 17
      rw [zD, y17]; exact b5
    · rw [ux _ _ _ (by omega)]; exact c2
    · have zz : ∀ j, gI z 71 0 j = gI w 71 0 j := fun j => by rw [zI, if_neg (by omega)]
      rw [ux 50 1 p (by omega), ux 51 1 p (by omega), zz, zz]; exact c3 p hp
    · obtain ⟨v, v1, v2⟩ := c4 p hp
      exact ⟨v, v1, (ux 50 1 p (by omega)).trans v2⟩
