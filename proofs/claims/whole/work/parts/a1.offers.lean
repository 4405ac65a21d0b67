/-! ===== the list of a set, by the class ===== -/
theorem b_one : ∀ i, i < 32 → bt 1 i = decide (i = 0) := by decide +kernel
theorem and1 (y : Int32) : y &&& 1 = if bt y 0 = true then 1 else 0 := by
  by_cases h : bt y 0 = true
  · rw [if_pos h]
    refine b_ext fun i hi => ?_
    rw [b_and, b_one i hi]
    by_cases e : i = 0
    · subst e; rw [h]; rfl
    · rw [decide_eq_false e, Bool.and_false]
  · rw [if_neg h]
    refine b_ext fun i hi => ?_
    rw [b_and, b_one i hi, b_0]
    by_cases e : i = 0
    · subst e; rw [Bool.not_eq_true] at h; rw [h]; rfl
    · rw [decide_eq_false e, Bool.and_false]
theorem xBit (a5 : Int32) {v : Nat} (hv : v < 32) : ((a5.toUInt32 >>> ((nI v).toUInt32 &&& Int32.toUInt32 31)).toInt32) &&& (1 : Int32) = if bt a5 v = true then 1 else 0 := by
  rw [and1, b_ushr v hv a5 0, Nat.add_zero]
theorem mBit (a5 : Int32) {v : Nat} (hv : v < 32) : (a5 >>> (nI v &&& 31)) &&& (1 : Int32) = if bt a5 v = true then 1 else 0 := by
  rw [and1, b_sshr v hv a5 (show 0 < 32 by decide), Nat.add_zero, if_pos hv]
theorem mIsOf {a5 : Int32} {cnt v : Nat} {m : Sto} (hv : v < cnt) (c12 : cnt ≤ 12) (h4 : gI m 0 0 4 = nI cnt) : fX12_isOf a5 (nI v) m = some (if bt a5 v = true then 1 else 0) := by
  unfold fX12_isOf
  rw [h4, if_neg (nI_gt (by omega) hv), mBit a5 (by omega)]
  by_cases h : bt a5 v = true
  · rw [if_pos h, if_pos rfl]
  · rw [if_neg h, if_neg (show ¬ (0 : Int32) = 1 by decide)]
theorem rk_le (sel : Nat → Bool) : ∀ v, rk sel v ≤ v
  | 0 => Nat.le_refl 0
  | v + 1 => by
    have := rk_le sel v
    show rk sel v + (if sel v then 1 else 0) ≤ v + 1
    split <;> omega
/-- what the list holds of the first v dyes -/
def Off (sel : Nat → Bool) (T v : Nat) (t y : Sto) : Prop := gI y 16 0 3 = nI (rk sel v) ∧ (∀ u, u < v → sel u = true → gI y 45 0 (rk sel u) = nI u) ∧ (∀ q, q < rk sel v → (∃ u, u < v ∧ gI y 45 0 q = nI u) ∧ gI y 46 0 q = nI T ∧ gI y 47 0 q = 0) ∧ (∀ f i j, ¬ (i = 0 ∧ ((f = 16 ∧ j = 3) ∨ (45 ≤ f ∧ f ≤ 47))) → gI y f i j = gI t f i j) ∧ gF y = gF t ∧ gD y = gD t ∧ gL y = gL t
theorem xOffers {a5 : Int32} {T cnt : Nat} {t : Sto} (h3 : gI t 16 0 3 = 0) (hc : gI t 3 0 2 = nI cnt) (c12 : cnt ≤ 12) (T1 : 1 ≤ T) (T12 : T ≤ 12) : ∃ y, lp (σ := (Int32 × Sto)) (ρ := Sto) (un2 fun (v34 : Int32) (t35 : Sto) =>
                 if gI t35 (3) (0) (2) ≤ v34 then (
                  some (.inr t35)) else (
                  if ((a5.toUInt32 >>> (v34.toUInt32 &&& Int32.toUInt32 31)).toInt32) &&& (1 : Int32) = 0 then (
                   lt1 (v34 + Int32.ofInt (1)) fun (v70 : Int32) =>
                   some (.inl (v70, t35))) else (
                   (fX8_offer (0) v34 (nI T) (0 : Int32) t35).bind (fun (t71 : Sto) =>
                    lt1 (v34 + Int32.ofInt (1)) fun (v73 : Int32) =>
                    some (.inl (v73, t71)))))) 4000 ((0 : Int32), t) = some y ∧ Off (bt a5) T cnt t y := by
  refine lp_inv (fun k (w : Int32 × Sto) => w.1 = nI k ∧ Off (bt a5) T k t w.2) _ cnt (fun k w hk hI => ?_) cnt 4000 0 _ (by omega) ⟨rfl, h3, fun u hu => absurd hu (Nat.not_lt_zero u), fun q hq => absurd hq (Nat.not_lt_zero q), fun _ _ _ _ => rfl, rfl, rfl, rfl⟩ (by omega)
  obtain ⟨v, w⟩ := w
  obtain ⟨hI1, hI2⟩ := hI
  have hI1 : v = nI k := hI1
  have hI2 : Off (bt a5) T k t w := hI2
  subst hI1
  have hO := hI2
  obtain ⟨o1, o2, o3, o4, o5⟩ := hI2
  dsimp only [un2]
  have w32 : gI w 3 0 2 = nI cnt := (o4 _ _ _ (by omega)).trans hc
  have rk12 := rk_le (bt a5) k
  by_cases q : k = cnt
  · subst q
    exact Or.inl ⟨w, by rw [w32, if_pos (Int32.le_refl _)], hO⟩
  · right
    refine ⟨by omega, ?_⟩
    rw [w32, if_neg (nI_gt (by omega) (by omega)), xBit a5 (show k < 32 by omega)]
    by_cases hs : bt a5 k = true
    · refine ⟨(nI (k + 1), sI (sI (sI (sI w 45 0 (rk (bt a5) k) (nI k)) 46 0 (rk (bt a5) k) (nI T)) 47 0 (rk (bt a5) k) 0) 16 0 3 (nI (rk (bt a5) k + 1))), ?_, rfl, ?_⟩
      · have g3 : ∀ f j v, f ≠ 16 → gI (sI w f 0 j v) 16 0 3 = nI (rk (bt a5) k) := fun f j v hf => by rw [gI_sI, if_neg (by omega)]; exact o1
        rw [if_pos hs, if_neg (show ¬ (1 : Int32) = 0 by decide)]
        unfold fX8_offer
        rw [if_neg (show ¬ nI T < (1 : Int32) from fun z => by have := (nI_ltJ (b := 1) (by omega) (by decide)).mp z; omega), o1, if_pos (show nI (rk (bt a5) k) < (20 : Int32) from (nI_ltJ (b := 20) (by omega) (by decide)).mpr (by omega)), show lIX 45 0 = 20 from rfl, ck_t (by exact ixl (by omega) (by omega)), nI_cl (by omega), lt1_e, show gI (sI w 45 0 (rk (bt a5) k) (nI k)) 16 0 3 = nI (rk (bt a5) k) from o1, show lIX 46 0 = 20 from rfl, ck_t (by exact ixl (by omega) (by omega)), nI_cl (by omega), lt1_e, show gI (sI (sI w 45 0 (rk (bt a5) k) (nI k)) 46 0 (rk (bt a5) k) (nI T)) 16 0 3 = nI (rk (bt a5) k) from o1, show lIX 47 0 = 20 from rfl, ck_t (by exact ixl (by omega) (by omega)), nI_cl (by omega), lt1_e, show gI (sI (sI (sI w 45 0 (rk (bt a5) k) (nI k)) 46 0 (rk (bt a5) k) (nI T)) 47 0 (rk (bt a5) k) 0) 16 0 3 = nI (rk (bt a5) k) from o1, nI_1, lt1_e, Option.bind_some, lt1_e, nI_s]
      · have yI : ∀ f c j, gI (sI (sI (sI (sI w 45 0 (rk (bt a5) k) (nI k)) 46 0 (rk (bt a5) k) (nI T)) 47 0 (rk (bt a5) k) 0) 16 0 3 (nI (rk (bt a5) k + 1))) f c j = if f = 16 ∧ c = 0 ∧ j = 3 then nI (rk (bt a5) k + 1) else if f = 47 ∧ c = 0 ∧ j = rk (bt a5) k then 0 else if f = 46 ∧ c = 0 ∧ j = rk (bt a5) k then nI T else if f = 45 ∧ c = 0 ∧ j = rk (bt a5) k then nI k else gI w f c j := fun f c j => by rw [gI_sI, gI_sI, gI_sI, gI_sI]
        show Off (bt a5) T (k + 1) t (sI (sI (sI (sI w 45 0 (rk (bt a5) k) (nI k)) 46 0 (rk (bt a5) k) (nI T)) 47 0 (rk (bt a5) k) 0) 16 0 3 (nI (rk (bt a5) k + 1)))
        refine ⟨?_, fun u hu hsu => ?_, fun q hq => ?_, fun f i j q => ?_, o5⟩
        · rw [yI, if_pos ⟨rfl, rfl, rfl⟩, rk_t hs]
        · rw [yI, if_neg (by omega), if_neg (by omega), if_neg (by omega)]
          by_cases e : u = k
          · subst e; rw [if_pos ⟨rfl, rfl, rfl⟩]
          · have hlt := rk_m (bt a5) (u := u + 1) (v := k) (by omega)
            rw [rk_t hsu] at hlt
            rw [if_neg (by omega)]; exact o2 u (by omega) hsu
        · rw [rk_t hs] at hq
          by_cases e : q = rk (bt a5) k
          · subst e
            refine ⟨⟨k, by omega, ?_⟩, ?_, ?_⟩
            · rw [yI, if_neg (by omega), if_neg (by omega), if_neg (by omega), if_pos ⟨rfl, rfl, rfl⟩]
            · rw [yI, if_neg (by omega), if_neg (by omega), if_pos ⟨rfl, rfl, rfl⟩]
            · rw [yI, if_neg (by omega), if_pos ⟨rfl, rfl, rfl⟩]
          · obtain ⟨⟨u, u1, u2⟩, u3, u4⟩ := o3 q (by omega)
            refine ⟨⟨u, by omega, ?_⟩, ?_, ?_⟩
            · rw [yI, if_neg (by omega), if_neg (by omega), if_neg (by omega), if_neg (by omega)]; exact u2
            · rw [yI, if_neg (by omega), if_neg (by omega), if_neg (by omega), if_neg (by omega)]; exact u3
            · rw [yI, if_neg (by omega), if_neg (by omega), if_neg (by omega), if_neg (by omega)]; exact u4
        · rw [yI, if_neg (by omega), if_neg (by omega), if_neg (by omega), if_neg (by omega)]; exact o4 f i j q
    · refine ⟨(nI (k + 1), w), ?_, rfl, ?_⟩
      · rw [if_neg hs, if_pos rfl, lt1_e, nI_s]
      · show Off (bt a5) T (k + 1) t w
        refine ⟨by rw [rk_f hs]; exact o1, fun u hu hsu => o2 u (by
          by_cases e : u = k
          · subst e; exact absurd hsu hs
          · omega) hsu, fun q hq => ?_, o4, o5⟩
        rw [rk_f hs] at hq
        obtain ⟨⟨u, u1, u2⟩, u3⟩ := o3 q hq
        exact ⟨⟨u, by omega, u2⟩, u3⟩
/-- the class's search ends -/
theorem xEnds {x : Sto} {l e c n a st T : Nat} {D : Nat → Nat} {W : Nat → Nat → Nat} {gr : Nat → UInt32} {X1 r : Sto} (hE : Env x l e c n a st T D gr) (h : End x l e c n a st T D W gr X1 a r ∨ FL x l e c n a st T D W gr X1 r) : ∃ k Y b, (∃ Z, lp (xLB c) 4000 (1, X1) = some Z ∧ fX8_end 0 Z = some (sI (sI Y 16 0 11 b) 16 0 12 1)) ∧ RelS x 0 Y r ∧ BestR Y r k ∧ 1 ≤ k ∧ ((gI r 0 0 56 = 0 ∧ b = 1) ∨ (gI r 0 0 56 = 1 ∧ b = 0)) := by
  obtain ⟨_, _, _, _, e5, e6, _, e8, _⟩ := hE
  have fuel : ∀ {k X} , 1 ≤ k → k ≤ 1000 → XR c X1 k X → ∃ f, lp (xLB c) 4000 (1, X1) = lp (xLB c) (f + 1) (nI k, X) := fun {k X} k1 k9 hX => by
    refine ⟨3999 - (k - 1), ?_⟩
    have := hX (3999 - (k - 1) + 1)
    rw [show 3999 - (k - 1) + 1 + (k - 1) = 4000 by omega] at this
    exact this
  have exit1000 : ∀ X, xLB c (nI 1000, X) = some (.inr X) := fun X => by
    unfold xLB
    dsimp only [un2]
    rw [if_pos (show (1000 : Int32) ≤ nI 1000 by decide)]
  rcases h with h | h
  · unfold End at h
    obtain ⟨k, X, k1, k9, hX, hR, hs, hM, hb, hC, h0, hc⟩ := h
    obtain ⟨f, hf⟩ := fuel k1 k9 hX
    obtain ⟨Y, y1, y2⟩ := advD hs hC (by omega) (by omega) e6 (by omega) (by omega) (fun q hq => by omega) (fun _ _ => rfl) (fun _ _ => Nat.le_refl _) (by omega)
    have hend : ∀ Z, (k < 1000 → Z = Y) → (k = 1000 → Z = X) → fX8_end 0 Z = some (sI (sI Y 16 0 11 1) 16 0 12 1) := fun Z z1 z2 => by
      unfold fX8_end
      by_cases q : k = 1000
      · rw [z2 q, hb.1, if_neg (by rw [q]; decide), y1, Option.bind_some]
        dsimp only [un2]
        rw [if_pos rfl, lt1_e, lt1_e]
      · rw [z1 (by omega), (AX_B hb y2).1, if_pos (show nI k < (1000 : Int32) from (nI_ltJ (a := k) (b := 1000) (by omega) (by decide)).mpr (by omega)), lt1_e, lt1_e]
    refine ⟨k, Y, 1, ?_, RelS_f hR (AX_KF y2) (FM_r r), AX_B hb y2, k1, Or.inl ⟨h0, rfl⟩⟩
    by_cases q : k = 1000
    · refine ⟨X, ?_, hend X (fun z => absurd z (by omega)) (fun _ => rfl)⟩
      rw [hf]
      refine lp_x ?_
      rw [q]; exact exit1000 X
    · refine ⟨Y, ?_, hend Y (fun _ => rfl) (fun z => absurd z q)⟩
      rw [hf]
      refine lp_x ?_
      unfold xLB
      dsimp only [un2]
      rw [if_neg (show ¬ (1000 : Int32) ≤ nI k from nI_gt (N := 1000) (by decide) (by omega)), y1, Option.bind_some]
      dsimp only [un2]
      rw [if_pos rfl]
  · obtain ⟨X, Y, hX, hA, hAX, hR, hs, hM, hb, h0, hc⟩ := h
    obtain ⟨f, hf⟩ := fuel (by decide) (Nat.le_refl 1000) hX
    refine ⟨1000, Y, 0, ⟨X, ?_, ?_⟩, RelS_f hR (AX_KF hAX) (FM_r r), AX_B hb hAX, by decide, Or.inr ⟨h0, rfl⟩⟩
    · rw [hf]; exact lp_x (exit1000 X)
    · unfold fX8_end
      rw [hb.1, if_neg (show ¬ nI 1000 < (1000 : Int32) by decide), hA, Option.bind_some]
      dsimp only [un2]
      rw [if_neg (show ¬ (1 : Int32) = 0 by decide), lt1_e, lt1_e]
