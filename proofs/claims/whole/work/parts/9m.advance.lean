/-! ===== the class's search: the next candidate ===== -/
/-- t is s with row i of family f from a on, n cells, as c gives them -/
def FillI (f i a n : Nat) (c : Nat → Int32) (s t : Sto) : Prop := (∀ g b j, gI t g b j = if g = f ∧ b = i ∧ a ≤ j ∧ j < a + n then c j else gI s g b j) ∧ gF t = gF s ∧ gD t = gD s ∧ gL t = gL s
theorem FillI_0 (f i a : Nat) (c : Nat → Int32) (s : Sto) : FillI f i a 0 c s s := ⟨fun g b j => by rw [if_neg (by omega)], rfl, rfl, rfl⟩
theorem FillI_s {f i a n : Nat} {c : Nat → Int32} {s t : Sto} (h : FillI f i a n c s t) : FillI f i a (n + 1) c s (sI t f i (a + n) (c (a + n))) := ⟨fun g b j => by
  rw [gI_sI, h.1]
  by_cases q : g = f ∧ b = i ∧ j = a + n
  · rw [if_pos q, if_pos (by omega), q.2.2]
  · rw [if_neg q]
    by_cases r : g = f ∧ b = i ∧ a ≤ j ∧ j < a + n
    · rw [if_pos r, if_pos (by omega)]
    · rw [if_neg r, if_neg (by omega)], h.2⟩
theorem FillI_d {f i a n : Nat} {c : Nat → Int32} {s t : Sto} (h : FillI f i (a + 1) n c s t) : FillI f i a (n + 1) c s (sI t f i a (c a)) := ⟨fun g b j => by
  rw [gI_sI, h.1]
  by_cases q : g = f ∧ b = i ∧ j = a
  · rw [if_pos q, if_pos (by omega), q.2.2]
  · rw [if_neg q]
    by_cases r : g = f ∧ b = i ∧ a + 1 ≤ j ∧ j < a + 1 + n
    · rw [if_pos r, if_pos (by omega)]
    · rw [if_neg r, if_neg (by omega)], h.2⟩
theorem FillI_c {f i a n : Nat} {c d : Nat → Int32} {s t : Sto} (h : FillI f i a n c s t) (e : ∀ j, a ≤ j → j < a + n → c j = d j) : FillI f i a n d s t := ⟨fun g b j => by
  rw [h.1]
  by_cases q : g = f ∧ b = i ∧ a ≤ j ∧ j < a + n
  · rw [if_pos q, if_pos q]; exact e _ q.2.2.1 q.2.2.2
  · rw [if_neg q, if_neg q], h.2⟩
theorem lI45 {o : Nat} (h : o < 2) : lIX 45 o = 20 := if_pos h
theorem lI46 {o : Nat} (h : o < 2) : lIX 46 o = 20 := if_pos h
theorem lI47 {o : Nat} (h : o < 2) : lIX 47 o = 20 := if_pos h
theorem lI48 {o : Nat} (h : o < 2) : lIX 48 o = 3 := if_pos h
theorem lI49 {o : Nat} (h : o < 2) : lIX 49 o = 3 := if_pos h
theorem lI50 {o : Nat} (h : o < 2) : lIX 50 o = 3 := if_pos h
theorem lI51 {o : Nat} (h : o < 2) : lIX 51 o = 3 := if_pos h
theorem xFill {x : Sto} {o s a b : Nat} (ho : o < 2) (hs : gI x 16 o 9 = nI s) (s3 : s ≤ 3) (ha : a ≤ s) : ∃ y, fX8_fillFrom o (nI a) (nI b) x = some y ∧ ∃ z, FillI 48 o a (s - a) (fun j => nI (b + j - a)) x z ∧ FillI 49 o 0 s (fun _ => 1) z y := by
  unfold fX8_fillFrom
  refine ex_bind (lp_inv (fun k (st : Int32 × Sto) => st.1 = nI (a + k) ∧ FillI 48 o a k (fun j => nI (b + j - a)) x st.2) (fun r => FillI 48 o a (s - a) (fun j => nI (b + j - a)) x r) (s - a) (fun k st hk hI => ?_) (s - a) 4000 0 _ (by omega) ⟨rfl, FillI_0 _ _ _ _ _⟩ (by omega)) (fun z hz => ?_)
  · obtain ⟨v, t⟩ := st
    obtain ⟨hI1, hI2⟩ := hI
    have hI1 : v = nI (a + k) := hI1
    have hI2 : FillI 48 o a k (fun j => nI (b + j - a)) x t := hI2
    subst hI1
    have e9 : gI t 16 o 9 = nI s := by rw [hI2.1, if_neg (by omega)]; exact hs
    dsimp only [un2]
    by_cases q : k = s - a
    · subst q
      refine Or.inl ⟨t, ?_, hI2⟩
      rw [e9, if_pos (show nI s ≤ nI (a + (s - a)) from by rw [show a + (s - a) = s by omega]; exact Int32.le_refl _)]
    · refine Or.inr ⟨by omega, (nI (a + (k + 1)), sI t 48 o (a + k) (nI (b + (a + k) - a))), ?_, rfl, FillI_s hI2⟩
      rw [e9, if_neg (nI_gt (by omega) (by omega)), lI48 ho, ck_t (by exact ixl (by omega) (by omega)), nI_cl (by omega), nI_add, pk_sub (by omega), lt1_e, lt1_e, nI_s, Nat.add_assoc]
  · refine ex_bind (lp_inv (fun k (st : Int32 × Sto) => st.1 = nI k ∧ FillI 49 o 0 k (fun _ => 1) z st.2) (fun r => FillI 49 o 0 s (fun _ => 1) z r) s (fun k st hk hI => ?_) s 4000 0 _ (by omega) ⟨rfl, FillI_0 _ _ _ _ _⟩ (by omega)) (fun y hy => ⟨y, rfl, z, hz, hy⟩)
    obtain ⟨v, t⟩ := st
    obtain ⟨hI1, hI2⟩ := hI
    have hI1 : v = nI k := hI1
    have hI2 : FillI 49 o 0 k (fun _ => 1) z t := hI2
    subst hI1
    have e9 : gI t 16 o 9 = nI s := by rw [hI2.1, if_neg (by omega), hz.1, if_neg (by omega)]; exact hs
    dsimp only [un2]
    by_cases q : k = s
    · subst q
      refine Or.inl ⟨t, ?_, hI2⟩
      rw [e9, if_pos (Int32.le_refl _)]
    · have hf := FillI_s hI2
      rw [Nat.zero_add] at hf
      refine Or.inr ⟨by omega, (nI (k + 1), sI t 49 o k 1), ?_, rfl, hf⟩
      rw [e9, if_neg (nI_gt (by omega) (by omega)), lI49 ho, ck_t (by exact ixl (by omega) (by omega)), nI_cl (by omega), lt1_e, lt1_e, nI_s]
theorem nI_p (k : Nat) : nI (k + 1) - (1 : Int32) = nI k := pk_sub (b := 1) (by omega)
theorem nI_d (k : Nat) : nI k + Int32.ofInt (-1) = nI k - (1 : Int32) := by rw [Int32.sub_eq_add_neg]; rfl
theorem m1_lt0 : nI 0 - (1 : Int32) < 0 := by decide
/-- what is behind the odometer -/
def advR (o : Nat) (t : Sto) : Option (Int32 × Sto) :=
  ((lp (σ := (Int32 × Sto)) (ρ := ((Int32 × Sto) ⊕ Sto)) (un2 fun (v31 : Int32) (t32 : Sto) =>
        if (1000 : Int32) ≤ v31 then (
         some (.inr (.inr t32))) else (
         (fX8_nextSet o t32).bind (un2 fun (v35 : Int32) (t36 : Sto) =>
          if v35 = 0 then (
           some (.inr (.inl ((0 : Int32), t36)))) else (
           (fX8_hasRoom o t36).bind (fun (v39 : Int32) =>
            if v39 = 0 then (
             lt1 (v31 + Int32.ofInt (1)) fun (v42 : Int32) =>
             some (.inl (v42, t36))) else (
             some (.inr (.inl ((1 : Int32), t36))))))))) 4000 ((0 : Int32), t)).bind
      (sm (fun (q : (Int32 × Sto)) => some q) (fun (t33 : Sto) =>
        some ((0 : Int32), t33))))
theorem xOdo {x : Sto} {o s p : Nat} {i g lim : Nat → Nat} (ho : o < 2) (hs : gI x 16 o 9 = nI s) (s3 : s ≤ 3) (hp : p ≤ s) (hi : ∀ k, k < s → gI x 48 o k = nI (i k) ∧ i k < 20) (hg : ∀ k, k < s → gI x 49 o k = nI (g k) ∧ g k < 2 ^ 30) (hl : ∀ k, k < s → gI x 46 o (i k) = nI (lim k) ∧ lim k < 2 ^ 30) (hlt : ∀ q, q + 1 = p → g q < lim q) (hge : ∀ q, p ≤ q → q < s → lim q ≤ g q) : ∃ z, FillI 49 o p (s - p) (fun _ => 1) x z ∧ fX8_advance o x = if p = 0 then advR o z else some (1, sI z 49 o (p - 1) (nI (g (p - 1) + 1))) := by
  have key : ∃ r, lp (σ := (Int32 × Sto)) (ρ := ((Int32 × Sto) ⊕ Sto)) (un2 fun (v5 : Int32) (t6 : Sto) =>
     if v5 < 0 then (
      some (.inr (.inr t6))) else (
      ck (0 ≤ v5.toInt ∧ v5.toInt < (lIX (49) o : Int)) (
       ck (0 ≤ v5.toInt ∧ v5.toInt < (lIX (48) o : Int)) (
        ck (0 ≤ (gI t6 (48) o (v5.toNatClampNeg)).toInt ∧ (gI t6 (48) o (v5.toNatClampNeg)).toInt < (lIX (46) o : Int)) (
         if gI t6 (46) o ((gI t6 (48) o (v5.toNatClampNeg)).toNatClampNeg) ≤ gI t6 (49) o (v5.toNatClampNeg) then (
          ck (0 ≤ v5.toInt ∧ v5.toInt < (lIX (49) o : Int)) (lt1 (sI t6 (49) o (v5.toNatClampNeg) (1 : Int32)) fun (t25 : Sto) =>
           lt1 (v5 + Int32.ofInt (-1)) fun (v26 : Int32) =>
           some (.inl (v26, t25)))) else (
          ck (0 ≤ v5.toInt ∧ v5.toInt < (lIX (49) o : Int)) (
           ck (0 ≤ v5.toInt ∧ v5.toInt < (lIX (49) o : Int)) (lt1 (sI t6 (49) o (v5.toNatClampNeg) ((gI t6 (49) o (v5.toNatClampNeg)) + (1 : Int32))) fun (t27 : Sto) =>
            some (.inr (.inl ((1 : Int32), t27))))))))))) 4000 (nI s - (1 : Int32), x) = some r ∧ ∃ z, FillI 49 o p (s - p) (fun _ => 1) x z ∧ r = if p = 0 then .inr z else .inl (1, sI z 49 o (p - 1) (nI (g (p - 1) + 1))) := by
    refine lp_inv (fun k (st : Int32 × Sto) => st.1 = nI (s - k) - (1 : Int32) ∧ FillI 49 o (s - k) k (fun _ => 1) x st.2) _ (s - p) (fun k st hk hI => ?_) (s - p) 4000 0 _ (by omega) ⟨rfl, FillI_0 _ _ _ _ _⟩ (by omega)
    obtain ⟨v, t⟩ := st
    obtain ⟨hI1, hI2⟩ := hI
    have hI1 : v = nI (s - k) - (1 : Int32) := hI1
    have hI2 : FillI 49 o (s - k) k (fun _ => 1) x t := hI2
    subst hI1
    dsimp only [un2]
    have step : ∀ q, q + 1 = s - k → gI t 48 o q = nI (i q) ∧ gI t 46 o (i q) = nI (lim q) ∧ gI t 49 o q = nI (g q) := fun q hq => ⟨by rw [hI2.1, if_neg (by omega)]; exact (hi q (by omega)).1, by rw [hI2.1, if_neg (by omega)]; exact (hl q (by omega)).1, by rw [hI2.1, if_neg (by omega)]; exact (hg q (by omega)).1⟩
    by_cases q : k = s - p
    · have e : s - k = p := by omega
      rw [e] at hI2 step ⊢
      subst q
      left
      by_cases p0 : p = 0
      · subst p0
        refine ⟨.inr t, ?_, t, hI2, (if_pos rfl).symm⟩
        rw [if_pos m1_lt0]
      · obtain ⟨p', rfl⟩ : ∃ p', p = p' + 1 := ⟨p - 1, by omega⟩
        obtain ⟨s1, s2, s4⟩ := step p' rfl
        have b1 := (hi p' (by omega)).2
        have b2 := (hg p' (by omega)).2
        have b3 := (hl p' (by omega)).2
        refine ⟨.inl (1, sI t 49 o p' (nI (g p' + 1))), ?_, t, hI2, (if_neg p0).symm⟩
        rw [nI_p, if_neg (nI_lt0 (by omega)), lI49 ho, lI48 ho, lI46 ho, ck_t (by exact ixl (by omega) (by omega)), ck_t (by exact ixl (by omega) (by omega)), nI_cl (n := p') (by omega), s1, ck_t (by exact ixl (by omega) (by omega)), nI_cl (n := i p') (by omega), s2, s4, if_neg (nI_gt (by omega) (hlt p' rfl)), ck_t (by exact ixl (by omega) (by omega)), ck_t (by exact ixl (by omega) (by omega)), nI_1, lt1_e]
    · obtain ⟨j, hj⟩ : ∃ j, s - k = j + 1 := ⟨s - k - 1, by omega⟩
      obtain ⟨s1, s2, s4⟩ := step j hj.symm
      have b1 := (hi j (by omega)).2
      have b2 := (hg j (by omega)).2
      have b3 := (hl j (by omega)).2
      rw [hj] at hI2 ⊢
      refine Or.inr ⟨by omega, (nI (s - (k + 1)) - (1 : Int32), sI t 49 o j 1), ?_, rfl, ?_⟩
      · rw [nI_p, if_neg (nI_lt0 (by omega)), lI49 ho, lI48 ho, lI46 ho, ck_t (by exact ixl (by omega) (by omega)), ck_t (by exact ixl (by omega) (by omega)), nI_cl (n := j) (by omega), s1, ck_t (by exact ixl (by omega) (by omega)), nI_cl (n := i j) (by omega), s2, s4, if_pos (show nI (lim j) ≤ nI (g j) from by rw [Int32.le_iff_toInt_le, nI_toInt (by omega), nI_toInt (by omega)]; have := hge j (by omega) (by omega); omega), ck_t (by exact ixl (by omega) (by omega)), lt1_e, nI_d, lt1_e, show s - (k + 1) = j by omega]
      · rw [show s - (k + 1) = j by omega]
        exact FillI_d hI2
  obtain ⟨r, h1, z, h2, h3⟩ := key
  refine ⟨z, h2, ?_⟩
  unfold fX8_advance
  rw [hs, lt1_e]
  refine (congrArg (fun o => Option.bind o _) h1).trans ?_
  rw [Option.bind_some, h3]
  by_cases p0 : p = 0
  · rw [if_pos p0, if_pos p0]; rfl
  · rw [if_neg p0, if_neg p0]; rfl
