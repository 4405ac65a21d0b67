/-! ===== a lot's place in a batch ===== -/
theorem firstOf (P : Nat → Prop) : ∀ n, ∃ p, p ≤ n ∧ (∀ k, k < p → ¬ P k) ∧ (p < n → P p)
  | 0 => ⟨0, Nat.le_refl 0, fun k hk => absurd hk (Nat.not_lt_zero k), fun h => absurd h (Nat.not_lt_zero 0)⟩
  | n + 1 => by
    obtain ⟨p, h1, h2, h3⟩ := firstOf P n
    by_cases q : p < n
    · exact ⟨p, by omega, h2, fun _ => h3 q⟩
    · have e : p = n := by omega
      subst e
      by_cases r : P p
      · exact ⟨p, by omega, h2, fun _ => r⟩
      · refine ⟨p + 1, by omega, fun k hk => ?_, fun h => absurd h (Nat.lt_irrefl _)⟩
        by_cases e : k = p
        · rw [e]; exact r
        · exact h2 k (by omega)
theorem xPlaceAt {x : Sto} {b n p : Nat} {l : Int32} (hb : b < 12) (hn : gI x 30 b 2 = nI n) (n8 : n ≤ 8) (hp : p ≤ n) (hno : ∀ k, k < p → gI x 31 b k ≠ l) (hy : p < n → gI x 31 b p = l) : fX1_placeOf b l x = some (if p < n then nI p else (-1 : Int32)) := by
  have l31 : lIX 31 b = 8 := if_pos hb
  unfold fX1_placeOf
  refine (congrArg (fun o => Option.bind o _) (lp_seq0 (fun k => nI k) (r := if p < n then (Sum.inl (nI p) : Int32 ⊕ Unit) else Sum.inr ()) p 4000 rfl (fun k hk => ?_) ?_ (by omega))).trans ?_
  · rw [hn, if_neg (nI_gt (by omega) (by omega)), l31, ck_t (by exact ixl (by omega) (by omega)), nI_cl (by omega), if_neg (hno k hk), lt1_e, nI_s]
  · by_cases q : p < n
    · rw [if_pos q, hn, if_neg (nI_gt (by omega) (by omega)), l31, ck_t (by exact ixl (by omega) (by omega)), nI_cl (by omega), if_pos (hy q)]
    · rw [if_neg q, hn, if_pos (show nI n ≤ nI p from by rw [show p = n by omega]; exact Int32.le_refl _)]
  · by_cases q : p < n
    · rw [if_pos q, if_pos q, Option.bind_some]; rfl
    · rw [if_neg q, if_neg q, Option.bind_some]; rfl
theorem mSlotAt {m : Sto} {b n p : Nat} {l : Int32} (hb : b < 12) (hn : gI m 23 0 b = nI n) (n8 : n ≤ 8) (hp : p ≤ n) (hno : ∀ k, k < p → gI m 24 0 (8 * b + k) ≠ l) (hy : p < n → gI m 24 0 (8 * b + p) = l) : fX12_slotOf (nI b) l m = some (nI p) := by
  have e8 : ∀ k, ((8 : Int32) * nI b) + nI k = nI (8 * b + k) := fun k => by
    show nI 8 * nI b + nI k = _
    simp only [pk_mul, nI_add]
  unfold fX12_slotOf
  refine (congrArg (fun o => Option.bind o _) (lp_seq0 (fun k => nI k) (r := nI p) p 4000 rfl (fun k hk => ?_) ?_ (by omega))).trans ?_
  · rw [show lIM 23 0 = 12 from rfl, ck_t (by exact ixl (by omega) (by omega)), nI_cl (n := b) (by omega), hn, if_neg (nI_gt (by omega) (by omega)), e8, show lIM 24 0 = 96 from rfl, ck_t (by exact ixl (by omega) (by omega)), nI_cl (n := 8 * b + k) (by omega), if_neg (hno k hk), lt1_e, nI_s]
  · rw [show lIM 23 0 = 12 from rfl, ck_t (by exact ixl (by omega) (by omega)), nI_cl (n := b) (by omega), hn]
    by_cases q : p < n
    · rw [if_neg (nI_gt (by omega) (by omega)), e8, show lIM 24 0 = 96 from rfl, ck_t (by exact ixl (by omega) (by omega)), nI_cl (n := 8 * b + p) (by omega), if_pos (hy q)]
    · rw [if_pos (show nI n ≤ nI p from by rw [show p = n by omega]; exact Int32.le_refl _)]
  · rw [Option.bind_some]
/-- the class takes a weighing back -/
theorem xTake8 {t : Sto} {b l g n p c L w : Nat} (w60 : w < 60) (hb : b < 12) (hl : l < 20) (r0 : gI t 55 w 0 = 8) (r1 : gI t 55 w 1 = nI b) (r2 : gI t 55 w 2 = nI l) (r3 : gI t 55 w 3 = nI g) (hn : gI t 30 b 2 = nI n) (n8 : n ≤ 8) (hp : p < n) (hno : ∀ k, k < p → gI t 31 b k ≠ nI l) (hy : gI t 31 b p = nI l) (hc : gI t 32 b p = nI (c + g)) (hcg : c + g < 2 ^ 31) (hL : gI t 29 l 4 = nI L) : ∃ u, undoAt w t = some u ∧ (∀ f i j, gI u f i j = if f = 29 ∧ i = l ∧ j = 4 then nI (L + 1000 * g) else if f = 32 ∧ i = b ∧ j = p then nI c else if f = 30 ∧ i = b ∧ j = 2 then nI (if c = 0 then n - 1 else n) else gI t f i j) ∧ gF u = gF t ∧ gD u = gD t ∧ gL u = gL t := by
  have l32 : lIX 32 b = 8 := if_pos hb
  have eg : nI (c + g) - nI g = nI c := by rw [pk_sub (by omega), Nat.add_sub_cancel]
  have em : nI g * (1000 : Int32) = nI (1000 * g) := by
    show nI g * nI 1000 = _
    rw [pk_mul, Nat.mul_comm]
  have hpl := xPlaceAt (x := t) (l := nI l) hb hn n8 (by omega) hno (fun _ => hy)
  rw [if_pos hp] at hpl
  have pp : ¬ nI p = (-1 : Int32) := fun e => by
    have := congrArg Int32.toInt e
    rw [nI_toInt (by omega)] at this
    have : (p : Int) = -1 := this
    omega
  have ht : fX1_takeGrams b (nI l) (nI g) t = some (if c = 0 then sI (sI t 32 b p (nI c)) 30 b 2 (nI (n - 1)) else sI t 32 b p (nI c)) := by
    unfold fX1_takeGrams
    have q : gI (sI t 32 b p (nI c)) 32 b p = nI c := by rw [gI_sI, if_pos ⟨rfl, rfl, rfl⟩]
    have q2 : gI (sI t 32 b p (nI c)) 30 b 2 = nI n := by rw [gI_sI, if_neg (by omega)]; exact hn
    rw [hpl, Option.bind_some, if_neg pp, l32, ck_t (by exact ixl (by omega) (by omega)), ck_t (by exact ixl (by omega) (by omega)), nI_cl (by omega), hc, eg, lt1_e, ck_t (by exact ixl (by omega) (by omega)), q]
    by_cases e : c = 0
    · rw [if_pos ((nI_z (by omega)).mpr e), if_pos e, q2, show nI n - (1 : Int32) = nI (n - 1) from pk_sub (b := 1) (by omega), lt1_e]
    · rw [if_neg (fun z => e ((nI_z (by omega)).mp z)), if_neg e]
  generalize hu : (if c = 0 then sI (sI t 32 b p (nI c)) 30 b 2 (nI (n - 1)) else sI t 32 b p (nI c)) = u at ht
  have uI : ∀ f i j, gI u f i j = if f = 32 ∧ i = b ∧ j = p then nI c else if f = 30 ∧ i = b ∧ j = 2 then nI (if c = 0 then n - 1 else n) else gI t f i j := fun f i j => by
    rw [← hu]
    by_cases e : c = 0
    · rw [if_pos e, if_pos e, gI_sI]
      by_cases z : f = 30 ∧ i = b ∧ j = 2
      · rw [if_pos z, if_neg (by omega), if_pos z]
      · rw [if_neg z, if_neg z, gI_sI]
    · rw [if_neg e, if_neg e, gI_sI]
      by_cases z : f = 32 ∧ i = b ∧ j = p
      · rw [if_pos z, if_pos z]
      · rw [if_neg z, if_neg z]
        by_cases y : f = 30 ∧ i = b ∧ j = 2
        · obtain ⟨rfl, rfl, rfl⟩ := y
          rw [if_pos ⟨rfl, rfl, rfl⟩]; exact hn
        · rw [if_neg y]
  have uR : gF u = gF t ∧ gD u = gD t ∧ gL u = gL t := by
    rw [← hu]
    by_cases e : c = 0
    · rw [if_pos e]; exact ⟨rfl, rfl, rfl⟩
    · rw [if_neg e]; exact ⟨rfl, rfl, rfl⟩
  refine ⟨sI u 29 l 4 (nI (L + 1000 * g)), ?_, fun f i j => ?_, uR⟩
  · unfold undoAt
    rw [r0, if_pos (show (6 : Int32) ≤ 8 by decide)]
    unfold fX11_takeBack
    have u2 : gI u 55 w 2 = nI l := by rw [uI, if_neg (by omega), if_neg (by omega)]; exact r2
    have u3 : gI u 55 w 3 = nI g := by rw [uI, if_neg (by omega), if_neg (by omega)]; exact r3
    have uL : gI u 29 l 4 = nI L := by rw [uI, if_neg (by omega), if_neg (by omega)]; exact hL
    rw [ck_t (r55_0 w60), lt1_e, r0, if_neg (show ¬ (8 : Int32) = 6 by decide), if_neg (show ¬ (8 : Int32) = 7 by decide), if_pos rfl, ck_t (r55_1 w60), r1, ck_t (by exact ixl (by omega) (by omega)), ck_t (r55_2 w60), ck_t (r55_3 w60), nI_cl (n := b) (by omega), r2, r3, ht, Option.bind_some, ck_t (r55_2 w60), u2, ck_t (by exact ixl (by omega) (by omega)), ck_t (r55_3 w60), nI_cl (n := l) (by omega), uL, u3, em, nI_add, lt1_e]
  · rw [gI_sI, uI]
/-- the reference takes a weighing back -/
theorem mUndo_8 {tm : Sto} {i b l g n p c L : Nat} (h44 : gI tm 0 0 44 = nI (i + 1)) (hi : i < 60) (hk : gI tm 39 0 i = 8) (h40 : gI tm 40 0 i = nI b) (h41 : gI tm 41 0 i = nI l) (h42 : gI tm 42 0 i = nI g) (hb : b < 12) (hl : l < 20) (hn : gI tm 23 0 b = nI n) (n8 : n ≤ 8) (hp : p < n) (hno : ∀ k, k < p → gI tm 24 0 (8 * b + k) ≠ nI l) (hy : gI tm 24 0 (8 * b + p) = nI l) (hc : gI tm 25 0 (8 * b + p) = nI (c + g)) (hcg : c + g < 2 ^ 31) (hL : gI tm 20 0 l = nI L) : ∃ u, fX12_undo tm = some (1, u) ∧ (∀ f k j, gI u f k j = if f = 23 ∧ k = 0 ∧ j = b then nI (if c = 0 then n - 1 else n) else if f = 25 ∧ k = 0 ∧ j = 8 * b + p then nI c else if f = 20 ∧ k = 0 ∧ j = l then nI (L + 1000 * g) else if f = 0 ∧ k = 0 ∧ j = 44 then nI i else if f = 0 ∧ k = 0 ∧ j = 10 then 0 else gI tm f k j) ∧ gF u = gF tm ∧ gD u = gD tm ∧ gL u = gL tm := by
  unfold fX12_undo
  have q44 : gI (sI tm 0 0 10 0) 0 0 44 = nI (i + 1) := h44
  have q3 : gI (sI (sI tm 0 0 10 0) 0 0 44 (nI i)) 0 0 44 = nI i := rfl
  have qk : gI (sI (sI tm 0 0 10 0) 0 0 44 (nI i)) 39 0 i = 8 := hk
  have i39 : 0 ≤ (nI i).toInt ∧ (nI i).toInt < (lIM 39 0 : Int) := by rw [show lIM 39 0 = 60 from rfl]; exact ixl (by omega) (by omega)
  have i40 : 0 ≤ (nI i).toInt ∧ (nI i).toInt < (lIM 40 0 : Int) := by rw [show lIM 40 0 = 60 from rfl]; exact ixl (by omega) (by omega)
  have i41 : 0 ≤ (nI i).toInt ∧ (nI i).toInt < (lIM 41 0 : Int) := by rw [show lIM 41 0 = 60 from rfl]; exact ixl (by omega) (by omega)
  have i42 : 0 ≤ (nI i).toInt ∧ (nI i).toInt < (lIM 42 0 : Int) := by rw [show lIM 42 0 = 60 from rfl]; exact ixl (by omega) (by omega)
  rw [lt1_e, q44, if_neg (show ¬ nI (i + 1) = 0 from fun e => by have := (nI_z (by omega)).mp e; omega), show nI (i + 1) - (1 : Int32) = nI i from pk_sub (b := 1) (by omega), lt1_e, q3, ck_t i40, lt1_e, ck_t i41, lt1_e, ck_t i42, lt1_e, ck_t i39, nI_cl (by omega), qk, lt1_e]
  have q40 : gI (sI (sI tm 0 0 10 0) 0 0 44 (nI i)) 40 0 i = nI b := h40
  have q41 : gI (sI (sI tm 0 0 10 0) 0 0 44 (nI i)) 41 0 i = nI l := h41
  have q42 : gI (sI (sI tm 0 0 10 0) 0 0 44 (nI i)) 42 0 i = nI g := h42
  rw [if_neg (show ¬ (8 : Int32) = 0 by decide), if_neg (show ¬ (8 : Int32) = 1 by decide), if_neg (show ¬ (8 : Int32) = 2 by decide), if_neg (show ¬ (8 : Int32) = 3 by decide), if_neg (show ¬ (8 : Int32) = 4 by decide), if_neg (show ¬ (8 : Int32) = 5 by decide), if_neg (show ¬ (8 : Int32) = 6 by decide), if_neg (show ¬ (8 : Int32) = 7 by decide), if_pos rfl, q40, q41, q42]
  have TI : ∀ f k j, gI (sI (sI tm 0 0 10 0) 0 0 44 (nI i)) f k j = if f = 0 ∧ k = 0 ∧ j = 44 then nI i else if f = 0 ∧ k = 0 ∧ j = 10 then 0 else gI tm f k j := fun f k j => by rw [gI_sI, gI_sI]
  have TR : gF (sI (sI tm 0 0 10 0) 0 0 44 (nI i)) = gF tm ∧ gD (sI (sI tm 0 0 10 0) 0 0 44 (nI i)) = gD tm ∧ gL (sI (sI tm 0 0 10 0) 0 0 44 (nI i)) = gL tm := ⟨rfl, rfl, rfl⟩
  generalize sI (sI tm 0 0 10 0) 0 0 44 (nI i) = T at TI TR
  have e8 : ((8 : Int32) * nI b) + nI p = nI (8 * b + p) := by
    show nI 8 * nI b + nI p = _
    simp only [pk_mul, nI_add]
  have eg : nI (c + g) - nI g = nI c := by rw [pk_sub (by omega), Nat.add_sub_cancel]
  have em : (1000 : Int32) * nI g = nI (1000 * g) := pk_mul 1000 g
  have T20 : gI T 20 0 l = nI L := by rw [TI, if_neg (by omega), if_neg (by omega)]; exact hL
  have VI : ∀ f k j, gI (sI T 20 0 l (nI (L + 1000 * g))) f k j = if f = 20 ∧ k = 0 ∧ j = l then nI (L + 1000 * g) else gI T f k j := fun f k j => gI_sI _ _ _ _ _ _ _ _
  have V : ∀ f k j, ¬ (f = 20 ∧ k = 0 ∧ j = l) → f ≠ 0 → gI (sI T 20 0 l (nI (L + 1000 * g))) f k j = gI tm f k j := fun f k j q q2 => by
    rw [VI, if_neg q, TI, if_neg (by omega), if_neg (by omega)]
  have VR : gF (sI T 20 0 l (nI (L + 1000 * g))) = gF tm ∧ gD (sI T 20 0 l (nI (L + 1000 * g))) = gD tm ∧ gL (sI T 20 0 l (nI (L + 1000 * g))) = gL tm := TR
  have hsl := mSlotAt (m := sI T 20 0 l (nI (L + 1000 * g))) (l := nI l) hb ((V 23 0 b (by omega) (by omega)).trans hn) n8 (Nat.le_of_lt hp) (fun k hk => by rw [V _ _ _ (by omega) (by omega)]; exact hno k hk) (fun _ => (V _ _ _ (by omega) (by omega)).trans hy)
  have v25 := (V 25 0 (8 * b + p) (by omega) (by omega)).trans hc
  have v23 := (V 23 0 b (by omega) (by omega)).trans hn
  have key : fX12_unweigh (nI b) (nI l) (nI g) T = some (if c = 0 then sI (sI (sI T 20 0 l (nI (L + 1000 * g))) 25 0 (8 * b + p) (nI c)) 23 0 b (nI (n - 1)) else sI (sI T 20 0 l (nI (L + 1000 * g))) 25 0 (8 * b + p) (nI c)) := by
    unfold fX12_unweigh
    rw [show lIM 20 0 = 20 from rfl, ck_t (by exact ixl (by omega) (by omega)), ck_t (by exact ixl (by omega) (by omega)), nI_cl (n := l) (by omega), T20, em, nI_add, lt1_e]
    generalize sI T 20 0 l (nI (L + 1000 * g)) = W at VI V VR hsl v25 v23 ⊢
    have w25 : gI (sI W 25 0 (8 * b + p) (nI c)) 25 0 (8 * b + p) = nI c := by rw [gI_sI, if_pos ⟨rfl, rfl, rfl⟩]
    have w23 : gI (sI W 25 0 (8 * b + p) (nI c)) 23 0 b = nI n := by rw [gI_sI, if_neg (by omega)]; exact v23
    rw [hsl, Option.bind_some, e8, show lIM 25 0 = 96 from rfl, ck_t (by exact ixl (by omega) (by omega)), ck_t (by exact ixl (by omega) (by omega)), nI_cl (n := 8 * b + p) (by omega), v25, eg, lt1_e, ck_t (by exact ixl (by omega) (by omega)), w25]
    by_cases e : c = 0
    · rw [if_pos ((nI_z (by omega)).mpr e), if_pos e, show lIM 23 0 = 12 from rfl, ck_t (by exact ixl (by omega) (by omega)), ck_t (by exact ixl (by omega) (by omega)), nI_cl (n := b) (by omega), w23, show nI n - (1 : Int32) = nI (n - 1) from pk_sub (b := 1) (by omega), lt1_e]
    · rw [if_neg (fun z => e ((nI_z (by omega)).mp z)), if_neg e]
  refine ⟨_, by rw [key, Option.bind_some], fun f k j => ?_, ?_⟩
  · by_cases e : c = 0
    · rw [if_pos e, if_pos e, gI_sI, gI_sI, VI, TI]
    · rw [if_neg e, if_neg e, gI_sI, VI, TI]
      by_cases z : f = 23 ∧ k = 0 ∧ j = b
      · obtain ⟨rfl, rfl, rfl⟩ := z
        rw [if_neg (by omega), if_neg (by omega), if_neg (by omega), if_neg (by omega), if_pos ⟨rfl, rfl, rfl⟩]; exact hn
      · rw [if_neg z]
  · by_cases e : c = 0
    · rw [if_pos e]; exact VR
    · rw [if_neg e]; exact VR
