/-! ===== the end of a correction ===== -/
def mEndC (t236 : Sto) : Option (Int32 × Sto) :=
                       lt1 (sI t236 (70) (0) (0) (gI t236 0 (0) 51)) fun (t266 : Sto) =>
                       jn (fun (v270 : Int32) =>
                        lt1 (sI t266 (70) (0) (1) v270) fun (t271 : Sto) =>
                        ((lp (σ := (Int32 × Sto)) (ρ := Sto) (un2 fun (v275 : Int32) (t276 : Sto) =>
                           if (4 : Int32) ≤ v275 then (
                            some (.inr t276)) else (
                            ck (0 ≤ v275.toInt ∧ v275.toInt < (lIM (71) (0) : Int)) (
                             ck (0 ≤ ((2 : Int32) + v275).toInt ∧ ((2 : Int32) + v275).toInt < (lIM (70) (0) : Int)) (lt1 (sI t276 (70) (0) (((2 : Int32) + v275).toNatClampNeg) (gI t276 (71) (0) (v275.toNatClampNeg))) fun (t279 : Sto) =>
                              lt1 (v275 + Int32.ofInt (1)) fun (v280 : Int32) =>
                              some (.inl (v280, t279)))))) 4000 ((0 : Int32), t271)).bind
                         (fun (t277 : Sto) =>
                          lt1 (sI t277 0 (0) 71 (1 : Int32)) fun (t281 : Sto) =>
                          lt1 (sI t281 0 (0) 9 (0 : Int32)) fun (t282 : Sto) =>
                          if gI t282 (71) (0) (0) = (-1 : Int32) then (
                           some ((0 : Int32), t282)) else (
                           if gI t282 (71) (0) (2) = (-1 : Int32) then (
                            some ((1 : Int32), t282)) else (
                            some ((2 : Int32), t282)))))) fun K267 =>
                       if gI t266 0 (0) 56 = 0 then (
                        K267 (1 : Int32)) else (
                        K267 (0 : Int32))
theorem mEndC_e {t : Sto} {sb k : Nat} {c : Int32} (h51 : gI t 0 0 51 = nI k) (hb : (gI t 0 0 56 = 0 ∧ c = 1) ∨ (gI t 0 0 56 = 1 ∧ c = 0)) (h71 : (sb = 0 ∧ gI t 71 0 0 = -1) ∨ (sb = 1 ∧ gI t 71 0 0 ≠ -1 ∧ gI t 71 0 2 = -1) ∨ (sb = 2 ∧ gI t 71 0 0 ≠ -1 ∧ gI t 71 0 2 ≠ -1)) : ∃ u, mEndC t = some (nI sb, u) ∧ ((∀ f b j, gI u f b j = if f = 0 ∧ b = 0 ∧ j = 9 then 0 else if f = 0 ∧ b = 0 ∧ j = 71 then 1 else if f = 70 ∧ b = 0 ∧ 2 ≤ j ∧ j < 2 + 4 then gI t 71 0 (j - 2) else if f = 70 ∧ b = 0 ∧ j = 1 then c else if f = 70 ∧ b = 0 ∧ j = 0 then nI k else gI t f b j) ∧ gF u = gF t ∧ gD u = gD t ∧ gL u = gL t) := by
  have go : ∀ z : Int32, z = c → ∃ u, (lt1 (sI (sI t 70 0 0 (nI k)) (70) (0) (1) z) fun (t271 : Sto) =>
                        ((lp (σ := (Int32 × Sto)) (ρ := Sto) (un2 fun (v275 : Int32) (t276 : Sto) =>
                           if (4 : Int32) ≤ v275 then (
                            some (.inr t276)) else (
                            ck (0 ≤ v275.toInt ∧ v275.toInt < (lIM (71) (0) : Int)) (
                             ck (0 ≤ ((2 : Int32) + v275).toInt ∧ ((2 : Int32) + v275).toInt < (lIM (70) (0) : Int)) (lt1 (sI t276 (70) (0) (((2 : Int32) + v275).toNatClampNeg) (gI t276 (71) (0) (v275.toNatClampNeg))) fun (t279 : Sto) =>
                              lt1 (v275 + Int32.ofInt (1)) fun (v280 : Int32) =>
                              some (.inl (v280, t279)))))) 4000 ((0 : Int32), t271)).bind
                         (fun (t277 : Sto) =>
                          lt1 (sI t277 0 (0) 71 (1 : Int32)) fun (t281 : Sto) =>
                          lt1 (sI t281 0 (0) 9 (0 : Int32)) fun (t282 : Sto) =>
                          if gI t282 (71) (0) (0) = (-1 : Int32) then (
                           some ((0 : Int32), t282)) else (
                           if gI t282 (71) (0) (2) = (-1 : Int32) then (
                            some ((1 : Int32), t282)) else (
                            some ((2 : Int32), t282)))))) = some (nI sb, u) ∧ ((∀ f b j, gI u f b j = if f = 0 ∧ b = 0 ∧ j = 9 then 0 else if f = 0 ∧ b = 0 ∧ j = 71 then 1 else if f = 70 ∧ b = 0 ∧ 2 ≤ j ∧ j < 2 + 4 then gI t 71 0 (j - 2) else if f = 70 ∧ b = 0 ∧ j = 1 then c else if f = 70 ∧ b = 0 ∧ j = 0 then nI k else gI t f b j) ∧ gF u = gF t ∧ gD u = gD t ∧ gL u = gL t) := fun z hz => by
    subst hz
    rw [lt1_e]
    obtain ⟨r, r1, r2⟩ := lp_inv (body := un2 fun (v275 : Int32) (t276 : Sto) =>
                           if (4 : Int32) ≤ v275 then (
                            some (.inr t276)) else (
                            ck (0 ≤ v275.toInt ∧ v275.toInt < (lIM (71) (0) : Int)) (
                             ck (0 ≤ ((2 : Int32) + v275).toInt ∧ ((2 : Int32) + v275).toInt < (lIM (70) (0) : Int)) (lt1 (sI t276 (70) (0) (((2 : Int32) + v275).toNatClampNeg) (gI t276 (71) (0) (v275.toNatClampNeg))) fun (t279 : Sto) =>
                              lt1 (v275 + Int32.ofInt (1)) fun (v280 : Int32) =>
                              some (.inl (v280, t279)))))) (fun q (w : Int32 × Sto) => w.1 = nI q ∧ Fill 70 2 q (fun j => gI t 71 0 j) (sI (sI t 70 0 0 (nI k)) 70 0 1 z) w.2) (fun r => Fill 70 2 4 (fun j => gI t 71 0 j) (sI (sI t 70 0 0 (nI k)) 70 0 1 z) r) 4 (fun q w hk hI => by
      obtain ⟨v, w⟩ := w
      obtain ⟨hI1, hI2⟩ := hI
      have hI1 : v = nI q := hI1
      have hI2 : Fill 70 2 q (fun j => gI t 71 0 j) (sI (sI t 70 0 0 (nI k)) 70 0 1 z) w := hI2
      subst hI1
      dsimp only [un2]
      by_cases e : q = 4
      · subst e
        exact Or.inl ⟨w, if_pos (show nI 4 ≤ nI 4 by decide), hI2⟩
      · have e2 : (2 : Int32) + nI q = nI (2 + q) := nI_add 2 q
        have e71 : gI w 71 0 q = gI t 71 0 q := by rw [hI2.1, if_neg (by omega), gI_sI, if_neg (by omega), gI_sI, if_neg (by omega)]
        refine Or.inr ⟨by omega, (nI (q + 1), sI w 70 0 (2 + q) (gI t 71 0 q)), ?_, rfl, Fill_s hI2⟩
        rw [if_neg (show ¬ (4 : Int32) ≤ nI q from nI_gt (N := 4) (by decide) (by omega)), show lIM 71 0 = 4 from rfl, show lIM 70 0 = 6 from rfl, ck_t (by exact ixl (by omega) (by omega)), e2, ck_t (by exact ixl (by omega) (by omega)), nI_cl (n := 2 + q) (by omega), nI_cl (n := q) (by omega), e71, lt1_e, lt1_e, nI_s]) 4 4000 0 ((0 : Int32), sI (sI t 70 0 0 (nI k)) 70 0 1 z) rfl ⟨rfl, Fill_0 _ _ _ _⟩ (by decide)
    have rI : ∀ f b j, gI (sI (sI r 0 0 71 1) 0 0 9 0) f b j = if f = 0 ∧ b = 0 ∧ j = 9 then 0 else if f = 0 ∧ b = 0 ∧ j = 71 then 1 else if f = 70 ∧ b = 0 ∧ 2 ≤ j ∧ j < 2 + 4 then gI t 71 0 (j - 2) else if f = 70 ∧ b = 0 ∧ j = 1 then z else if f = 70 ∧ b = 0 ∧ j = 0 then nI k else gI t f b j := fun f b j => by rw [gI_sI, gI_sI, r2.1, gI_sI, gI_sI]
    refine ⟨sI (sI r 0 0 71 1) 0 0 9 0, ?_, rI, r2.2⟩
    refine (congrArg (fun o => Option.bind o _) r1).trans ?_
    have ra : ∀ j, gI (sI (sI r 0 0 71 1) 0 0 9 0) 71 0 j = gI t 71 0 j := fun j => by rw [rI, if_neg (by omega), if_neg (by omega), if_neg (by omega), if_neg (by omega), if_neg (by omega)]
    rw [Option.bind_some, lt1_e, lt1_e, ra, ra]
    rcases h71 with ⟨e, h1⟩ | ⟨e, h1, h2⟩ | ⟨e, h1, h2⟩
    · rw [if_pos h1, e]; rfl
    · rw [if_neg h1, if_pos h2, e]; rfl
    · rw [if_neg h1, if_neg h2, e]; rfl
  unfold mEndC
  rw [h51, lt1_e, jn_e]
  rcases hb with ⟨h1, h2⟩ | ⟨h1, h2⟩
  · rw [show gI (sI t 70 0 0 (nI k)) 0 0 56 = 0 from h1, if_pos rfl]
    exact go 1 h2.symm
  · rw [show gI (sI t 70 0 0 (nI k)) 0 0 56 = 1 from h1, if_neg (show ¬ (1 : Int32) = 0 by decide)]
    exact go 0 h2.symm
theorem corFin {x Y r u : Sto} {sb k : Nat} {c : Int32} (hR : RelS x 1 Y r) (hb : BestC Y r k) (h16 : gI Y 16 1 16 = nI sb) (s2 : sb ≤ 2) (b01 : c = 0 ∨ c = 1) (uI : ∀ f b j, gI u f b j = if f = 0 ∧ b = 0 ∧ j = 9 then 0 else if f = 0 ∧ b = 0 ∧ j = 71 then 1 else if f = 70 ∧ b = 0 ∧ 2 ≤ j ∧ j < 2 + 4 then gI r 71 0 (j - 2) else if f = 70 ∧ b = 0 ∧ j = 1 then c else if f = 70 ∧ b = 0 ∧ j = 0 then nI k else gI r f b j) (uF : gF u = gF r) (uD : gD u = gD r) (uL : gL u = gL r) : Rel (sI (sI (sI Y 16 1 11 c) 16 1 12 1) 0 0 19 0) u := by
  obtain ⟨b1, b2, b3, b4, b5, b6, sb', c1, c2, c3, _⟩ := hb
  have es : sb' = sb := (nI_inj (by omega) (by omega)).mp (c2.symm.trans h16)
  subst es
  have yI : ∀ f b j, gI (sI (sI (sI Y 16 1 11 c) 16 1 12 1) 0 0 19 0) f b j = if f = 0 ∧ b = 0 ∧ j = 19 then 0 else if f = 16 ∧ b = 1 ∧ j = 12 then 1 else if f = 16 ∧ b = 1 ∧ j = 11 then c else gI Y f b j := fun f b j => by rw [gI_sI, gI_sI, gI_sI]
  have yF : gF (sI (sI (sI Y 16 1 11 c) 16 1 12 1) 0 0 19 0) = gF Y := rfl
  have yD : gD (sI (sI (sI Y 16 1 11 c) 16 1 12 1) 0 0 19 0) = gD Y := rfl
  have yL : gL (sI (sI (sI Y 16 1 11 c) 16 1 12 1) 0 0 19 0) = gL Y := rfl
  generalize sI (sI (sI Y 16 1 11 c) 16 1 12 1) 0 0 19 0 = y at yI yF yD yL ⊢
  have bI : ∃ v, c = nI v ∧ v ≤ 1 := by
    rcases b01 with h | h
    · exact ⟨0, h, by decide⟩
    · exact ⟨1, h, by decide⟩
  obtain ⟨bv, eb, bv1⟩ := bI
  have y12 : gI y 16 1 12 = nI 1 := by rw [yI, if_neg (by omega), if_pos ⟨rfl, rfl, rfl⟩]; rfl
  have y11 : gI y 16 1 11 = nI bv := by rw [yI, if_neg (by omega), if_neg (by omega), if_pos ⟨rfl, rfl, rfl⟩]; exact eb
  have y16 : gI y 16 1 16 = nI sb' := by rw [yI, if_neg (by omega), if_neg (by omega), if_neg (by omega)]; exact h16
  have h0 := Cur_f (x := pat 1 x Y) (y := pat 1 x y) (m := r) (n := (fun a b d => if (a = 0 ∧ d = 71) ∨ a = 70 then gI r a b d else gI u a b d, u.2.1, u.2.2.1, u.2.2.2)) ⟨fun f i j q => ?_, fun f i j q => ?_, fun f i j q => ?_, ?_⟩ ⟨fun f i j q => ?_, fun j q => ?_, ?_, ?_⟩ hR.2
  · obtain ⟨hA, hB, hC, _, hE⟩ := h0
    refine ⟨RelC_keep ⟨fun f i j q => ?_, fun f i j q => by rw [yF], fun f i j q => by rw [yD]⟩ ⟨fun f i j q => ?_, fun f i j q => by rw [uF], fun f i j q => by rw [uD]⟩ hR.1, ?_, hA, hB, hC, ⟨(isN_v y12 (Nat.le_refl 1) (by decide)).2, ?_, fun _ => ⟨?_, (isN_v y11 bv1 (by decide)).2, ?_, (isN_v y16 s2 (by decide)).2, fun p hp => ?_⟩⟩, hE⟩
    · rw [yI, if_neg (by omega), if_neg (by omega), if_neg (by omega)]
    · rw [uI, if_neg (by omega), if_neg (by omega), if_neg (by omega), if_neg (by omega), if_neg (by omega)]
    · rw [uI, if_pos ⟨rfl, rfl, rfl⟩, yI, if_pos ⟨rfl, rfl, rfl⟩]
    · rw [uI, if_neg (by omega), if_pos ⟨rfl, rfl, rfl⟩, y12]; rfl
    · rw [uI, if_neg (by omega), if_neg (by omega), if_neg (by omega), if_neg (by omega), if_pos ⟨rfl, rfl, rfl⟩, yI, if_neg (by omega), if_neg (by omega), if_neg (by omega)]; exact b1.symm
    · rw [uI, if_neg (by omega), if_neg (by omega), if_neg (by omega), if_pos ⟨rfl, rfl, rfl⟩, y11]; exact eb
    · have a1 : gI u 70 0 (2 + 2 * p) = gI r 71 0 (2 * p) := by rw [uI, if_neg (by omega), if_neg (by omega), if_pos ⟨rfl, rfl, by omega, by omega⟩, show 2 + 2 * p - 2 = 2 * p by omega]
      have a2 : gI u 70 0 (3 + 2 * p) = gI r 71 0 (2 * p + 1) := by rw [uI, if_neg (by omega), if_neg (by omega), if_pos ⟨rfl, rfl, by omega, by omega⟩, show 3 + 2 * p - 2 = 2 * p + 1 by omega]
      have y50 : gI y 50 1 p = gI Y 50 1 p := by rw [yI, if_neg (by omega), if_neg (by omega), if_neg (by omega)]
      have y51 : gI y 51 1 p = gI Y 51 1 p := by rw [yI, if_neg (by omega), if_neg (by omega), if_neg (by omega)]
      rw [(isN_v (b := 2) y16 s2 (by decide)).1, a1, a2, y50, y51]
      exact c3 p hp
  · show (if (f = 16 ∨ f = 50 ∨ f = 51) ∧ i = 1 then gI x f i j else gI y f i j) = (if (f = 16 ∨ f = 50 ∨ f = 51) ∧ i = 1 then gI x f i j else gI Y f i j)
    by_cases z : (f = 16 ∨ f = 50 ∨ f = 51) ∧ i = 1
    · rw [if_pos z, if_pos z]
    · rw [if_neg z, if_neg z, yI, if_neg (by omega), if_neg (by omega), if_neg (by omega)]
  · show gF y f i j = gF Y f i j
    rw [yF]
  · show (if f = 16 ∧ i = 1 then gD x f i j else gD y f i j) = (if f = 16 ∧ i = 1 then gD x f i j else gD Y f i j)
    rw [yD]
  · funext f i j
    show (if f = 16 ∧ i = 1 then gL x f i j else gL y f i j) = (if f = 16 ∧ i = 1 then gL x f i j else gL Y f i j)
    rw [yL]
  · show (if (f = 0 ∧ j = 71) ∨ f = 70 then gI r f i j else gI u f i j) = gI r f i j
    by_cases z : (f = 0 ∧ j = 71) ∨ f = 70
    · rw [if_pos z]
    · rw [if_neg z, uI, if_neg (by omega), if_neg (by omega), if_neg (by omega), if_neg (by omega), if_neg (by omega)]
  · show gF u 1 0 j = _
    rw [uF]
  · show gD u 0 0 64 = gD r 0 0 64
    rw [uD]
  · show gL u 0 0 65 = gL r 0 0 65
    rw [uL]
