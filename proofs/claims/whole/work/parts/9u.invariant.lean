/-! ===== both searches side by side ===== -/
def xLB (c : Nat) : Int32 × Sto → Option ((Int32 × Sto) ⊕ Sto) := un2 fun (v85 : Int32) (t86 : Sto) =>
                        if (1000 : Int32) ≤ v85 then (
                         some (.inr t86)) else (
                         (fX8_advance (0) t86).bind (un2 fun (v97 : Int32) (t98 : Sto) =>
                          if v97 = 0 then (
                           some (.inr t98)) else (
                           ck (0 ≤ (nI c).toInt ∧ (nI c).toInt < (8 : Int)) (
                            (fX11_tryRecipe (6) ((nI c).toNatClampNeg) t98).bind (fun (t102 : Sto) =>
                             lt1 (v85 + Int32.ofInt (1)) fun (v104 : Int32) =>
                             some (.inl (v104, t102)))))))
/-- X is the class's store after k tries, X1 after the first -/
def XR (c : Nat) (X1 : Sto) (k : Nat) (X : Sto) : Prop := ∀ f, lp (xLB c) (f + (k - 1)) (nI 1, X1) = lp (xLB c) f (nI k, X)
theorem XR_1 (c : Nat) (X1 : Sto) : XR c X1 1 X1 := fun _ => rfl
theorem XR_s {c k : Nat} {X1 X Y X' : Sto} (h : XR c X1 k X) (k1 : 1 ≤ k) (k9 : k < 1000) (c8 : c < 8) (ha : fX8_advance 0 X = some (1, Y)) (ht : fX11_tryRecipe 6 c Y = some X') : XR c X1 (k + 1) X' := fun f => by
  have := h (f + 1)
  rw [show f + (k + 1 - 1) = f + 1 + (k - 1) by omega, this]
  refine lp_s ?_
  unfold xLB
  dsimp only [un2]
  rw [if_neg (show ¬ (1000 : Int32) ≤ nI k from nI_gt (N := 1000) (by decide) k9), ha, Option.bind_some]
  dsimp only [un2]
  rw [if_neg (show ¬ (1 : Int32) = 0 by decide), ck_t (by exact ixl (by omega) (by omega)), nI_cl (by omega), ht, Option.bind_some, lt1_e, nI_s]
def Env (x : Sto) (l e c n a st T : Nat) (D : Nat → Nat) (gr : Nat → UInt32) : Prop := l < 6 ∧ e < 2 ∧ c < cN x 1 ∧ (∀ k, k < 16 → fl2 (gr k)) ∧ n ≤ 12 ∧ a ≤ 3 ∧ (1 ≤ st ∧ st ≤ 10000) ∧ (1 ≤ T ∧ T ≤ 12) ∧ ∀ q, q < n → D q < cN x 2
/-- k tries are made, the last of the candidate (s, i, g), and both agree -/
def IV (x : Sto) (l e c n a st T : Nat) (D : Nat → Nat) (W : Nat → Nat → Nat) (gr : Nat → UInt32) (X1 : Sto) (s : Nat) (i g : Nat → Nat) (m : Sto) : Prop := ∃ k X, 1 ≤ k ∧ k ≤ 1000 ∧ XR c X1 k X ∧ RelS x 0 X m ∧ SeX l e n a st T D W gr X ∧ SeM l e c st T W gr m ∧ BestR X m k ∧ Cd 0 X s st i (fun j => D (i j)) g ∧ gI m 0 0 56 = 0 ∧ ∀ q, q < 6 → cN X q = cN x q
/-- 1000 tries are made, and one more was asked for -/
def FL (x : Sto) (l e c n a st T : Nat) (D : Nat → Nat) (W : Nat → Nat → Nat) (gr : Nat → UInt32) (X1 : Sto) (m : Sto) : Prop := ∃ X Y, XR c X1 1000 X ∧ fX8_advance 0 X = some (1, Y) ∧ AX X Y ∧ RelS x 0 X m ∧ SeX l e n a st T D W gr X ∧ SeM l e c st T W gr m ∧ BestR X m 1000 ∧ gI m 0 0 56 = 1 ∧ ∀ q, q < 6 → cN X q = cN x q
theorem BestR_M {t m n : Sto} {k : Nat} (h : BestR t m k) (h1 : ∀ f j, (f = 0 ∧ (j = 50 ∨ j = 51)) ∨ f = 49 → gI n f 0 j = gI m f 0 j) (h2 : gD n 0 0 53 = gD m 0 0 53) (h3 : gL n 0 0 54 = gL m 0 0 54) : BestR t n k := by
  obtain ⟨b1, b2, b3, b4⟩ := h
  refine ⟨b1, (h1 _ _ (by decide)).trans b2, b3, fun q => ?_⟩
  obtain ⟨c1, c2, c3, c4, sb, c5, c6, c7, c8⟩ := b4 q
  exact ⟨c1, c2, h2.trans c3, h3.trans c4, sb, c5, c6, (h1 _ _ (by decide)).trans c7, fun p hp => by rw [h1 49 _ (by omega), h1 49 _ (by omega)]; exact c8 p hp⟩
section
variable {x : Sto} {l e c n a st T : Nat} {D : Nat → Nat} {W : Nat → Nat → Nat} {gr : Nat → UInt32} {X1 : Sto} {s : Nat} {i g : Nat → Nat} {m : Sto}
theorem IV_w {f j : Nat} {v : Int32} (h : IV x l e c n a st T D W gr X1 s i g m) (q : f = 48 ∨ (f = 0 ∧ j = 49)) : IV x l e c n a st T D W gr X1 s i g (sI m f 0 j v) := by
  obtain ⟨k, X, k1, k9, hX, hR, hs, hM, hb, hC, h0, hc⟩ := h
  refine ⟨k, X, k1, k9, hX, RelS_f hR (KF_r _ _) (FM_I (by omega)), hs, SeM_T hM (fun b h1 h2 => by rw [gI_sI, if_neg (by omega)]) (fun _ => rfl), BestR_M hb (fun f' b z => by rw [gI_sI, if_neg (by omega)]) rfl rfl, hC, ?_, hc⟩
  rw [gI_sI, if_neg (by omega)]; exact h0
theorem FL_w {f j : Nat} {v : Int32} (h : FL x l e c n a st T D W gr X1 m) (q : f = 48 ∨ (f = 0 ∧ j = 49)) : FL x l e c n a st T D W gr X1 (sI m f 0 j v) := by
  obtain ⟨X, Y, hX, hA, hAX, hR, hs, hM, hb, h0, hc⟩ := h
  refine ⟨X, Y, hX, hA, hAX, RelS_f hR (KF_r _ _) (FM_I (by omega)), hs, SeM_T hM (fun b h1 h2 => by rw [gI_sI, if_neg (by omega)]) (fun _ => rfl), BestR_M hb (fun f' b z => by rw [gI_sI, if_neg (by omega)]) rfl rfl, ?_, hc⟩
  rw [gI_sI, if_neg (by omega)]; exact h0
/-- what a try leaves of the reference's store -/
def TMs (m n : Sto) : Prop := ∀ f b j, ¬ (b = 0 ∧ (f = 49 ∨ (f = 0 ∧ (j = 50 ∨ j = 51 ∨ j = 56)))) → gI n f b j = gI m f b j
theorem iv_step {s' : Nat} {i' g' : Nat → Nat} (hE : Env x l e c n a st T D gr) (h : IV x l e c n a st T D W gr X1 s i g m) (s3 : s' ≤ 3) (hi : ∀ p, p < s' → i' p < n) (hg : ∀ p, p < s' → g' p ≤ T) (hadv : ∀ X, SeX l e n a st T D W gr X → Cd 0 X s st i (fun j => D (i j)) g → ∃ Y, fX8_advance 0 X = some (1, Y) ∧ AX X Y ∧ Cd 0 Y s' st i' (fun j => D (i' j)) g') (hT : Tr m s' (fun j => D (i' j)) (fun p => g' p * st)) : ∃ m', fX12_tryRecipe m = some m' ∧ (IV x l e c n a st T D W gr X1 s' i' g' m' ∨ FL x l e c n a st T D W gr X1 m') ∧ TMs m m' := by
  obtain ⟨e1, e2, e3, e4, e5, e6, e7, e8, e9⟩ := hE
  obtain ⟨k, X, k1, k9, hX, hR, hs, hM, hb, hC, h0, hc⟩ := h
  obtain ⟨Y, y1, y2, y3⟩ := hadv X hs hC
  have hR2 : RelS x 0 Y m := RelS_f hR (AX_KF y2) (FM_r m)
  have cY : ∀ q, q < 6 → cN Y q = cN x q := fun q hq => (iN_e (y2.1 3 0 q (by omega))).trans (hc q hq)
  have c8 : c < 8 := Nat.lt_of_lt_of_le (show c < cN Y 1 by rw [cY 1 (by decide)]; exact e3) (hR2.1.2.1.1 1 (by decide)).2
  by_cases kk : k = 1000
  · subst kk
    refine ⟨sI m 0 0 56 1, ?_, Or.inr ⟨X, Y, hX, y1, y2, RelS_f hR (KF_r _ _) (FM_I (by decide)), hs, SeM_T hM (fun b h1 h2 => by rw [gI_sI, if_neg (by omega)]) (fun _ => rfl), BestR_M hb (fun f' b z => by rw [gI_sI, if_neg (by omega)]) rfl rfl, rfl, hc⟩, fun f b j q => by rw [gI_sI, if_neg (by omega)]⟩
    unfold fX12_tryRecipe
    rw [hb.2.1, if_pos (show nI 1000 = (1000 : Int32) from rfl), lt1_e]
  · obtain ⟨t', m', t1, t2, t3, t4, t5, t6, t7, t8, t9⟩ := s_try hR2 (AX_X hs y2) hM (AX_B hb y2) (by omega) e1 e2 (by rw [cY 1 (by decide)]; exact e3) e4 s3 (fun p hp => by rw [cY 2 (by decide)]; exact e9 _ (hi p hp)) (fun p hp => Nat.le_trans (Nat.mul_le_mul (hg p hp) e7.2) (by have := e8.2; omega)) y3 hT
    refine ⟨m', t2, Or.inl ⟨k + 1, t', by omega, by omega, XR_s hX k1 (by omega) c8 y1 t1, t3, t4, t5, t6, t7, ?_, fun q hq => (iN_e (t8.1 3 0 q (by omega))).trans (cY q hq)⟩, fun f b j q => t9.1 f b j (by omega)⟩
    rw [t9.1 0 0 56 (by omega)]; exact h0
end
