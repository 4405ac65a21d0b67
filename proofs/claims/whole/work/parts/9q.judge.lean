/-! ===== what a search keeps ===== -/
theorem xKeep {o s st : Nat} {t : Sto} {i d g : Nat → Nat} {V : UInt64} {K : Int64} (ho : o < 2) (hC : Cd o t s st i d g) (s3 : s ≤ 3) : ∃ y, fX8_keep o V K t = some y ∧ (∀ f b j, gI y f b j = if f = 50 ∧ b = o ∧ j < s then nI (d j) else if f = 51 ∧ b = o ∧ j < s then nI (g j * st) else if f = 16 ∧ b = o ∧ j = 16 then nI s else if f = 16 ∧ b = o ∧ j = 13 then 1 else gI t f b j) ∧ gF y = gF t ∧ (∀ f b j, gD y f b j = if f = 16 ∧ b = o ∧ j = 17 then V else gD t f b j) ∧ (∀ f b j, gL y f b j = if f = 16 ∧ b = o ∧ j = 18 then K else gL t f b j) := by
  unfold fX8_keep
  rw [lt1_e, lt1_e, lt1_e, lt1_e]
  have e9 : gI (sL (sD (sI t 16 o 13 1) 16 o 17 V) 16 o 18 K) 16 o 9 = nI s := by
    show gI (sI t 16 o 13 1) 16 o 9 = _
    rw [gI_sI, if_neg (by omega)]; exact hC.1
  rw [e9]
  refine ex_bind (lp_inv (fun k (z : Int32 × Sto) => z.1 = nI k ∧ (∀ f b j, gI z.2 f b j = if f = 50 ∧ b = o ∧ j < k then nI (d j) else if f = 51 ∧ b = o ∧ j < k then nI (g j * st) else if f = 16 ∧ b = o ∧ j = 16 then nI s else if f = 16 ∧ b = o ∧ j = 13 then 1 else gI t f b j) ∧ gF z.2 = gF t ∧ (∀ f b j, gD z.2 f b j = if f = 16 ∧ b = o ∧ j = 17 then V else gD t f b j) ∧ (∀ f b j, gL z.2 f b j = if f = 16 ∧ b = o ∧ j = 18 then K else gL t f b j)) (fun r => (∀ f b j, gI r f b j = if f = 50 ∧ b = o ∧ j < s then nI (d j) else if f = 51 ∧ b = o ∧ j < s then nI (g j * st) else if f = 16 ∧ b = o ∧ j = 16 then nI s else if f = 16 ∧ b = o ∧ j = 13 then 1 else gI t f b j) ∧ gF r = gF t ∧ (∀ f b j, gD r f b j = if f = 16 ∧ b = o ∧ j = 17 then V else gD t f b j) ∧ (∀ f b j, gL r f b j = if f = 16 ∧ b = o ∧ j = 18 then K else gL t f b j)) s (fun k z hk hI => ?_) s 4000 0 _ (by omega) ⟨rfl, fun f b j => ?_, rfl, fun f b j => ?_, fun f b j => ?_⟩ (by omega)) (fun r hr => ⟨r, rfl, hr⟩)
  · obtain ⟨v, z⟩ := z
    obtain ⟨hI1, hI2, hI3, hI4, hI5⟩ := hI
    have hI1 : v = nI k := hI1
    have hI2 : ∀ f b j, gI z f b j = if f = 50 ∧ b = o ∧ j < k then nI (d j) else if f = 51 ∧ b = o ∧ j < k then nI (g j * st) else if f = 16 ∧ b = o ∧ j = 16 then nI s else if f = 16 ∧ b = o ∧ j = 13 then 1 else gI t f b j := hI2
    subst hI1
    dsimp only [un2]
    have Cz : Cd o z s st i d g := Cd_I hC (fun f b j q1 q2 => by rw [hI2, if_neg (by omega), if_neg (by omega), if_neg (by omega), if_neg (by omega)])
    by_cases q : k = s
    · subst q
      exact Or.inl ⟨z, by rw [Cz.1, if_pos (Int32.le_refl _)], hI2, hI3, hI4, hI5⟩
    · have Cz2 : Cd o (sI z 50 o k (nI (d k))) s st i d g := Cd_I Cz (fun f b j q1 q2 => by rw [gI_sI, if_neg (by omega)])
      refine Or.inr ⟨by omega, (nI (k + 1), sI (sI z 50 o k (nI (d k))) 51 o k (nI (g k * st))), ?_, rfl, fun f b j => ?_, hI3, hI4, hI5⟩
      · rw [Cz.1, if_neg (nI_gt (by omega) (by omega)), xNameAt ho Cz s3 (by omega), Option.bind_some, lI50 ho, lI51 ho, ck_t (by exact ixl (by omega) (by omega)), nI_cl (n := k) (by omega), lt1_e, xGramsAt ho Cz2 s3 (by omega), Option.bind_some, ck_t (by exact ixl (by omega) (by omega)), lt1_e, lt1_e, nI_s]
      · rw [gI_sI, gI_sI, hI2]
        by_cases a1 : f = 50 ∧ b = o ∧ j < k + 1
        · rw [if_pos a1, if_neg (by omega)]
          by_cases a2 : j = k
          · rw [if_pos ⟨a1.1, a1.2.1, a2⟩, a2]
          · rw [if_neg (by omega), if_pos (by omega)]
        · rw [if_neg a1]
          by_cases a2 : f = 51 ∧ b = o ∧ j < k + 1
          · rw [if_pos a2]
            by_cases a3 : j = k
            · rw [if_pos ⟨a2.1, a2.2.1, a3⟩, a3]
            · rw [if_neg (by omega), if_neg (by omega), if_neg (by omega), if_pos (by omega)]
          · rw [if_neg a2, if_neg (by omega), if_neg (by omega), if_neg (by omega), if_neg (by omega)]
  · show gI (sI (sI t 16 o 13 1) 16 o 16 (nI s)) f b j = _
    rw [if_neg (by omega), if_neg (by omega), gI_sI, gI_sI]
  · show gD (sD t 16 o 17 V) f b j = _
    rw [gD_sD]
  · show gL (sL t 16 o 18 K) f b j = _
    rw [gL_sL]
theorem xJudge0 {o k : Nat} {t : Sto} {V : UInt64} {K : Int64} (h10 : gI t 16 o 10 = nI k) (h13 : gI t 16 o 13 = 0) : fX8_judge o V K t = (fX8_keep o V K (sI t 16 o 10 (nI (k + 1)))).bind some := by
  unfold fX8_judge
  rw [h10, nI_1, lt1_e, show gI (sI t 16 o 10 (nI (k + 1))) 16 o 13 = 0 from by rw [gI_sI, if_neg (by omega)]; exact h13, if_pos rfl]
theorem xJudge1 {o k : Nat} {t : Sto} {V B : UInt64} {K : Int64} (h10 : gI t 16 o 10 = nI k) (h13 : gI t 16 o 13 = 1) (hV : fnn V) (hB : fnn B) (h17 : gD t 16 o 17 = B) : fX8_judge o V K t = if V.toNat < B.toNat then (fX8_keep o V K (sI t 16 o 10 (nI (k + 1)))).bind some else if V.toNat = B.toNat then (if 0 ≤ lg_cmp K (gL t 16 o 18) then some (sI t 16 o 10 (nI (k + 1))) else (fX8_keep o V K (sI t 16 o 10 (nI (k + 1)))).bind some) else some (sI t 16 o 10 (nI (k + 1))) := by
  unfold fX8_judge
  rw [h10, nI_1, lt1_e, show gI (sI t 16 o 10 (nI (k + 1))) 16 o 13 = 1 from by rw [gI_sI, if_neg (by omega)]; exact h13, if_neg (show ¬ (1 : Int32) = 0 by decide), show gD (sI t 16 o 10 (nI (k + 1))) 16 o 17 = B from h17, show gL (sI t 16 o 10 (nI (k + 1))) 16 o 18 = gL t 16 o 18 from rfl]
  have c1 := (cmp_n hV hB CmpOp.g).1
  have c2 := (cmp_n hV hB CmpOp.l).2.2.1
  by_cases q : V.toNat < B.toNat
  · rw [if_pos (c1.mpr q), if_pos q]
  · rw [if_neg (fun z => q (c1.mp z)), if_neg q]
    by_cases r : V.toNat = B.toNat
    · rw [if_pos (c2.mpr r), if_pos r]
    · rw [if_neg (fun z => r (c2.mp z)), if_neg r]
