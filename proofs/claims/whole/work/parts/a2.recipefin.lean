/-! ===== behind a recipe's search ===== -/
theorem recFin {x Y r u : Sto} {sb k : Nat} {b : Int32} (hR : RelS x 0 Y r) (hb : BestR Y r k) (k1 : 1 ≤ k) (hsb : gI r 0 0 50 = nI sb) (s3 : sb ≤ 3) (b01 : b = 0 ∨ b = 1) (uI : ∀ f c j, gI u f c j = if f = 0 ∧ c = 0 ∧ j = 9 then 0 else if f = 0 ∧ c = 0 ∧ j = 57 then 1 else if f = 64 ∧ c = 0 ∧ j < 6 then (if j < 2 * sb then gI r 49 0 j else -1) else if f = 49 ∧ c = 0 ∧ 2 * sb ≤ j ∧ j < 6 then -1 else if f = 0 ∧ c = 0 ∧ j = 55 then b else if f = 0 ∧ c = 0 ∧ j = 52 then nI k else gI r f c j) (uF : gF u = gF r) (uD : ∀ f c j, gD u f c j = if f = 0 ∧ c = 0 ∧ j = 64 then gD r 0 0 53 else gD r f c j) (uL : ∀ f c j, gL u f c j = if f = 0 ∧ c = 0 ∧ j = 65 then gL r 0 0 54 else gL r f c j) : Rel (sI (sI (sI Y 16 0 11 b) 16 0 12 1) 0 0 19 0) u := by
  obtain ⟨b1, _, _, b4⟩ := hb
  obtain ⟨c1, c2, c3, c4, sb', c5, c6, c7, c8⟩ := b4 k1
  have es : sb' = sb := (nI_inj (by omega) (by omega)).mp (c7.symm.trans hsb)
  subst es
  have yI : ∀ f c j, gI (sI (sI (sI Y 16 0 11 b) 16 0 12 1) 0 0 19 0) f c j = if f = 0 ∧ c = 0 ∧ j = 19 then 0 else if f = 16 ∧ c = 0 ∧ j = 12 then 1 else if f = 16 ∧ c = 0 ∧ j = 11 then b else gI Y f c j := fun f c j => by rw [gI_sI, gI_sI, gI_sI]
  have yF : gF (sI (sI (sI Y 16 0 11 b) 16 0 12 1) 0 0 19 0) = gF Y := rfl
  have yD : gD (sI (sI (sI Y 16 0 11 b) 16 0 12 1) 0 0 19 0) = gD Y := rfl
  have yL : gL (sI (sI (sI Y 16 0 11 b) 16 0 12 1) 0 0 19 0) = gL Y := rfl
  generalize sI (sI (sI Y 16 0 11 b) 16 0 12 1) 0 0 19 0 = y at yI yF yD yL ⊢
  have bI : ∃ v, b = nI v ∧ v ≤ 1 := by
    rcases b01 with h | h
    · exact ⟨0, h, by decide⟩
    · exact ⟨1, h, by decide⟩
  obtain ⟨bv, eb, bv1⟩ := bI
  have y12 : gI y 16 0 12 = nI 1 := by rw [yI, if_neg (by omega), if_pos ⟨rfl, rfl, rfl⟩]; rfl
  have y11 : gI y 16 0 11 = nI bv := by rw [yI, if_neg (by omega), if_neg (by omega), if_pos ⟨rfl, rfl, rfl⟩]; exact eb
  have y16 : gI y 16 0 16 = nI sb' := by rw [yI, if_neg (by omega), if_neg (by omega), if_neg (by omega)]; exact c6
  have h0 := Cur_f (x := pat 0 x Y) (y := pat 0 x y) (m := r) (n := (fun a b c => if (a = 0 ∧ (c = 52 ∨ c = 55 ∨ c = 57)) ∨ a = 64 then gI r a b c else gI u a b c, u.2.1, fun a b c => if a = 0 ∧ b = 0 ∧ c = 65 then gL r a b c else gL u a b c, fun a b c => if a = 0 ∧ b = 0 ∧ c = 64 then gD r a b c else gD u a b c)) ⟨fun f i j q => ?_, fun f i j q => ?_, fun f i j q => ?_, ?_⟩ ⟨fun f i j q => ?_, fun j q => ?_, ?_, ?_⟩ hR.2
  · obtain ⟨hA, hB, _, hD, hE⟩ := h0
    refine ⟨RelC_keep ⟨fun f i j q => ?_, fun f i j q => by rw [yF], fun f i j q => by rw [yD]⟩ ⟨fun f i j q => ?_, fun f i j q => by rw [uF], fun f i j q => ?_⟩ hR.1, ?_, hA, hB, ⟨(isN_v y12 (Nat.le_refl 1) (by decide)).2, ?_, fun _ => ⟨?_, (isN_v y11 bv1 (by decide)).2, ?_, (isN_v y16 s3 (by decide)).2, fun p hp => ?_, ?_, ?_, ?_, ?_⟩⟩, hD, hE⟩
    · rw [yI, if_neg (by omega), if_neg (by omega), if_neg (by omega)]
    · rw [uI, if_neg (by omega), if_neg (by omega), if_neg (by omega), if_neg (by omega), if_neg (by omega), if_neg (by omega)]
    · rw [uD, if_neg (by omega)]
    · rw [uI, if_pos ⟨rfl, rfl, rfl⟩, yI, if_pos ⟨rfl, rfl, rfl⟩]
    · rw [uI, if_neg (by omega), if_pos ⟨rfl, rfl, rfl⟩, y12]; rfl
    · rw [uI, if_neg (by omega), if_neg (by omega), if_neg (by omega), if_neg (by omega), if_neg (by omega), if_pos ⟨rfl, rfl, rfl⟩, yI, if_neg (by omega), if_neg (by omega), if_neg (by omega)]; exact b1.symm
    · rw [uI, if_neg (by omega), if_neg (by omega), if_neg (by omega), if_neg (by omega), if_pos ⟨rfl, rfl, rfl⟩, y11]; exact eb
    · have a1 : gI u 64 0 (2 * p) = if 2 * p < 2 * sb' then gI r 49 0 (2 * p) else -1 := by rw [uI, if_neg (by omega), if_neg (by omega), if_pos ⟨rfl, rfl, by omega⟩]
      have a2 : gI u 64 0 (2 * p + 1) = if 2 * p + 1 < 2 * sb' then gI r 49 0 (2 * p + 1) else -1 := by rw [uI, if_neg (by omega), if_neg (by omega), if_pos ⟨rfl, rfl, by omega⟩]
      rw [(isN_v (b := 3) y16 s3 (by decide)).1, a1, a2]
      by_cases q : p < sb'
      · rw [if_pos (show 2 * p < 2 * sb' by omega), if_pos (show 2 * p + 1 < 2 * sb' by omega), if_pos q, if_pos q, yI, if_neg (by omega), if_neg (by omega), if_neg (by omega), yI, if_neg (by omega), if_neg (by omega), if_neg (by omega)]
        exact c8 p q
      · rw [if_neg (show ¬ 2 * p < 2 * sb' by omega), if_neg (show ¬ 2 * p + 1 < 2 * sb' by omega), if_neg q, if_neg q]; exact ⟨rfl, rfl⟩
    · rw [yD]; exact pw_mg (pw_mono c2 (by decide)) (by decide)
    · rw [yD]
      have hv : (gD Y 16 0 17).toNat < 1116 * 2 ^ 52 := c2
      unfold nm0; omega
    · rw [uD, if_pos ⟨rfl, rfl, rfl⟩, yD]; exact c3
    · rw [uL, if_pos ⟨rfl, rfl, rfl⟩, yL]; exact c4
  · show (if (f = 16 ∨ f = 50 ∨ f = 51) ∧ i = 0 then gI x f i j else gI y f i j) = (if (f = 16 ∨ f = 50 ∨ f = 51) ∧ i = 0 then gI x f i j else gI Y f i j)
    by_cases z : (f = 16 ∨ f = 50 ∨ f = 51) ∧ i = 0
    · rw [if_pos z, if_pos z]
    · rw [if_neg z, if_neg z, yI, if_neg (by omega), if_neg (by omega), if_neg (by omega)]
  · show gF y f i j = gF Y f i j
    rw [yF]
  · show (if f = 16 ∧ i = 0 then gD x f i j else gD y f i j) = (if f = 16 ∧ i = 0 then gD x f i j else gD Y f i j)
    rw [yD]
  · funext f i j
    show (if f = 16 ∧ i = 0 then gL x f i j else gL y f i j) = (if f = 16 ∧ i = 0 then gL x f i j else gL Y f i j)
    rw [yL]
  · show (if (f = 0 ∧ (j = 52 ∨ j = 55 ∨ j = 57)) ∨ f = 64 then gI r f i j else gI u f i j) = gI r f i j
    by_cases z : (f = 0 ∧ (j = 52 ∨ j = 55 ∨ j = 57)) ∨ f = 64
    · rw [if_pos z]
    · rw [if_neg z, uI, if_neg (by omega), if_neg (by omega), if_neg (by omega), if_neg (by omega), if_neg (by omega), if_neg (by omega)]
  · show gF u 1 0 j = _
    rw [uF]
  · show (if (0 : Nat) = 0 ∧ (0 : Nat) = 0 ∧ (64 : Nat) = 64 then gD r 0 0 64 else gD u 0 0 64) = _
    rw [if_pos ⟨rfl, rfl, rfl⟩]
  · show (if (0 : Nat) = 0 ∧ (0 : Nat) = 0 ∧ (65 : Nat) = 65 then gL r 0 0 65 else gL u 0 0 65) = _
    rw [if_pos ⟨rfl, rfl, rfl⟩]
