/-! ===== acts ===== -/
def noteS (x : Sto) (w s : Nat) (a b c d : Int32) : Sto := sI (sI (sI (sI (sI (sI x 18 0 2 (nI w)) 18 0 3 (nI s)) 55 w 0 a) 55 w 1 b) 55 w 2 c) 55 w 3 d
/-- the ring's pointer and its fill -/
def RingOk (x : Sto) : Prop := isN x 18 0 2 59 ∧ isN x 18 0 3 60
theorem xNote {x : Sto} (h : RingOk x) (a b c d : Int32) : fX0_note a b c d x = some ((57, (iN x 18 0 2 + 1) % 60), noteS x ((iN x 18 0 2 + 1) % 60) (min (iN x 18 0 3 + 1) 60) a b c d) := by
  obtain ⟨⟨h1, h2⟩, h3, h4⟩ := h
  have hw : (iN x 18 0 2 + 1) % 60 < 60 := Nat.mod_lt _ (by decide)
  have e1 : (gI x 18 0 2 + (1 : Int32)) - (gI x 18 0 2 + (1 : Int32)) / (60 : Int32) * (60 : Int32) = nI ((iN x 18 0 2 + 1) % 60) := by
    rw [h1]
    show (nI (iN x 18 0 2) + nI 1) - (nI (iN x 18 0 2) + nI 1) / nI 60 * nI 60 = _
    rw [nI_add, pk_rem (by omega) (by decide) (by decide)]
  have e2 : (if (60 : Int32) < gI x 18 0 3 + (1 : Int32) then (60 : Int32) else gI x 18 0 3 + (1 : Int32)) = nI (min (iN x 18 0 3 + 1) 60) := by
    rw [h3]
    show (if nI 60 < nI (iN x 18 0 3) + nI 1 then nI 60 else nI (iN x 18 0 3) + nI 1) = _
    rw [nI_add]
    by_cases g : 60 < iN x 18 0 3 + 1
    · rw [if_pos (by
        rw [Int32.lt_iff_toInt_lt, nI_toInt (by decide), nI_toInt (by omega)]; omega)]
      exact congrArg nI (by omega)
    · rw [if_neg (by
        rw [Int32.lt_iff_toInt_lt, nI_toInt (by decide), nI_toInt (by omega)]; omega)]
      exact congrArg nI (by omega)
  generalize (iN x 18 0 2 + 1) % 60 = w at hw e1 ⊢
  generalize min (iN x 18 0 3 + 1) 60 = s at e2 ⊢
  unfold fX0_note
  rw [ck_t (by decide), e1, lt1_e]
  have g3 : gI (sI x 18 0 2 (nI w)) 18 0 3 = gI x 18 0 3 := rfl
  rw [g3, e2, lt1_e]
  have l55 : lIX 55 w = 4 := if_pos hw
  have q1 : gI (sI (sI x 18 0 2 (nI w)) 18 0 3 (nI s)) 18 0 2 = nI w := rfl
  have q2 : ∀ v, gI (sI (sI (sI x 18 0 2 (nI w)) 18 0 3 (nI s)) 55 w 0 v) 18 0 2 = nI w := fun _ => rfl
  have q3 : ∀ v u, gI (sI (sI (sI (sI x 18 0 2 (nI w)) 18 0 3 (nI s)) 55 w 0 v) 55 w 1 u) 18 0 2 = nI w := fun _ _ => rfl
  have q4 : ∀ v u t, gI (sI (sI (sI (sI (sI x 18 0 2 (nI w)) 18 0 3 (nI s)) 55 w 0 v) 55 w 1 u) 55 w 2 t) 18 0 2 = nI w := fun _ _ _ => rfl
  have q5 : ∀ v u t r, gI (sI (sI (sI (sI (sI (sI x 18 0 2 (nI w)) 18 0 3 (nI s)) 55 w 0 v) 55 w 1 u) 55 w 2 t) 55 w 3 r) 18 0 2 = nI w := fun _ _ _ _ => rfl
  have iw : 0 ≤ (nI w).toInt ∧ (nI w).toInt < (60 : Int) := ixl (by omega) (by omega)
  rw [q1, ck_t iw, nI_cl (by omega), l55, ck_t (by decide), lt1_e, q2, ck_t iw, nI_cl (by omega), l55, ck_t (by decide), lt1_e, q3, ck_t iw, nI_cl (by omega), l55, ck_t (by decide), lt1_e, q4, ck_t iw, nI_cl (by omega), l55, ck_t (by decide), lt1_e, q5, ck_t iw, nI_cl (by omega)]
  rfl
theorem xDrop {x : Sto} (h : RingOk x) (h0 : 1 ≤ iN x 18 0 3) : fX0_drop x = some (sI (sI x 18 0 2 (nI ((iN x 18 0 2 + 59) % 60))) 18 0 3 (nI (iN x 18 0 3 - 1))) := by
  obtain ⟨⟨h1, h2⟩, h3, h4⟩ := h
  have e1 : ((gI x 18 0 2 + (60 : Int32)) - (1 : Int32)) - ((gI x 18 0 2 + (60 : Int32)) - (1 : Int32)) / (60 : Int32) * (60 : Int32) = nI ((iN x 18 0 2 + 59) % 60) := by
    rw [h1]
    have e : (nI (iN x 18 0 2) + (60 : Int32)) - (1 : Int32) = nI (iN x 18 0 2 + 59) := by
      show (nI (iN x 18 0 2) + nI 60) - nI 1 = _
      rw [nI_add, pk_sub (by omega)]
      exact congrArg nI (by omega)
    rw [e]
    exact pk_rem (by omega) (by decide) (by decide)
  unfold fX0_drop
  rw [ck_t (by decide), e1, lt1_e]
  have g3 : ∀ v, gI (sI x 18 0 2 v) 18 0 3 = gI x 18 0 3 := fun _ => rfl
  rw [g3, h3, show nI (iN x 18 0 3) - (1 : Int32) = nI (iN x 18 0 3 - 1) from pk_sub (b := 1) h0, lt1_e]
/-- the reference's acts, the oldest left out: n of them moved down (and c floats) -/
def shI (m : Sto) (n : Nat) : Sto := (fun a b c => if (39 ≤ a ∧ a ≤ 42) ∧ b = 0 ∧ c < n then m.1 a 0 (c + 1) else m.1 a b c, m.2.1, m.2.2.1, m.2.2.2)
def shF (m : Sto) (n : Nat) : Sto := (m.1, fun a b c => if (43 ≤ a ∧ a ≤ 44) ∧ b = 0 ∧ c < n then m.2.1 a 0 (c + 16) else m.2.1 a b c, m.2.2.1, m.2.2.2)
theorem shI_0 (m : Sto) : shI m 0 = m := by
  obtain ⟨a, b, c, d⟩ := m
  refine Prod.ext ?_ rfl
  funext x y z
  exact if_neg (fun h => Nat.not_lt_zero z h.2.2)
theorem shF_0 (m : Sto) : shF m 0 = m := by
  obtain ⟨a, b, c, d⟩ := m
  refine Prod.ext rfl (Prod.ext ?_ rfl)
  funext x y z
  exact if_neg (fun h => Nat.not_lt_zero z h.2.2)
theorem shI_s (m : Sto) (n : Nat) : sI (sI (sI (sI (shI m n) 39 0 n (gI m 39 0 (n + 1))) 40 0 n (gI m 40 0 (n + 1))) 41 0 n (gI m 41 0 (n + 1))) 42 0 n (gI m 42 0 (n + 1)) = shI m (n + 1) := by
  refine Prod.ext ?_ rfl
  funext x y z
  show (if x = 42 ∧ y = 0 ∧ z = n then gI m 42 0 (n + 1) else if x = 41 ∧ y = 0 ∧ z = n then gI m 41 0 (n + 1) else if x = 40 ∧ y = 0 ∧ z = n then gI m 40 0 (n + 1) else if x = 39 ∧ y = 0 ∧ z = n then gI m 39 0 (n + 1) else if (39 ≤ x ∧ x ≤ 42) ∧ y = 0 ∧ z < n then m.1 x 0 (z + 1) else m.1 x y z) = if (39 ≤ x ∧ x ≤ 42) ∧ y = 0 ∧ z < n + 1 then m.1 x 0 (z + 1) else m.1 x y z
  by_cases h : (39 ≤ x ∧ x ≤ 42) ∧ y = 0
  · by_cases hz : z = n
    · subst hz
      rw [if_pos (c := (39 ≤ x ∧ x ≤ 42) ∧ y = 0 ∧ z < z + 1) ⟨h.1, h.2, by omega⟩]
      have hx : x = 39 ∨ x = 40 ∨ x = 41 ∨ x = 42 := by omega
      rcases hx with e | e | e | e
      · subst e
        rw [if_neg (by omega), if_neg (by omega), if_neg (by omega), if_pos ⟨rfl, h.2, rfl⟩]; rfl
      · subst e
        rw [if_neg (by omega), if_neg (by omega), if_pos ⟨rfl, h.2, rfl⟩]; rfl
      · subst e
        rw [if_neg (by omega), if_pos ⟨rfl, h.2, rfl⟩]; rfl
      · subst e
        rw [if_pos ⟨rfl, h.2, rfl⟩]; rfl
    · rw [if_neg (by omega), if_neg (by omega), if_neg (by omega), if_neg (by omega)]
      by_cases hl : z < n
      · rw [if_pos ⟨h.1, h.2, hl⟩, if_pos ⟨h.1, h.2, by omega⟩]
      · rw [if_neg (by omega), if_neg (by omega)]
  · rw [if_neg (by omega), if_neg (by omega), if_neg (by omega), if_neg (by omega), if_neg (by omega), if_neg (by omega)]
theorem shF_s (m : Sto) (n : Nat) : sF (sF (shF m n) 43 0 n (gF m 43 0 (n + 16))) 44 0 n (gF m 44 0 (n + 16)) = shF m (n + 1) := by
  refine Prod.ext rfl (Prod.ext ?_ rfl)
  funext x y z
  show (if x = 44 ∧ y = 0 ∧ z = n then gF m 44 0 (n + 16) else if x = 43 ∧ y = 0 ∧ z = n then gF m 43 0 (n + 16) else if (43 ≤ x ∧ x ≤ 44) ∧ y = 0 ∧ z < n then m.2.1 x 0 (z + 16) else m.2.1 x y z) = if (43 ≤ x ∧ x ≤ 44) ∧ y = 0 ∧ z < n + 1 then m.2.1 x 0 (z + 16) else m.2.1 x y z
  by_cases h : (43 ≤ x ∧ x ≤ 44) ∧ y = 0
  · by_cases hz : z = n
    · subst hz
      rw [if_pos (c := (43 ≤ x ∧ x ≤ 44) ∧ y = 0 ∧ z < z + 1) ⟨h.1, h.2, by omega⟩]
      have hx : x = 43 ∨ x = 44 := by omega
      rcases hx with e | e
      · subst e
        rw [if_neg (by omega), if_pos ⟨rfl, h.2, rfl⟩]; rfl
      · subst e
        rw [if_pos ⟨rfl, h.2, rfl⟩]; rfl
    · rw [if_neg (by omega), if_neg (by omega)]
      by_cases hl : z < n
      · rw [if_pos ⟨h.1, h.2, hl⟩, if_pos ⟨h.1, h.2, by omega⟩]
      · rw [if_neg (by omega), if_neg (by omega)]
  · rw [if_neg (by omega), if_neg (by omega), if_neg (by omega), if_neg (by omega)]
/-- an act put behind n others -/
def putA (m : Sto) (n : Nat) (a b c d : Int32) : Sto := sI (sI (sI (sI (sI (sI m 39 0 n a) 40 0 n b) 41 0 n c) 42 0 n d) 0 0 44 (nI (n + 1))) 0 0 9 0
theorem putA_go {m : Sto} {n : Nat} (hn : gI m 0 0 44 = nI n) (h : n < 60) (a1 a2 a3 a4 : Int32) : (ck (0 ≤ (gI m 0 (0) 44).toInt ∧ (gI m 0 (0) 44).toInt < (lIM (39) (0) : Int)) (lt1 (sI m (39) (0) ((gI m 0 (0) 44).toNatClampNeg) a1) fun (t5 : Sto) =>
    ck (0 ≤ (gI t5 0 (0) 44).toInt ∧ (gI t5 0 (0) 44).toInt < (lIM (40) (0) : Int)) (lt1 (sI t5 (40) (0) ((gI t5 0 (0) 44).toNatClampNeg) a2) fun (t6 : Sto) =>
     ck (0 ≤ (gI t6 0 (0) 44).toInt ∧ (gI t6 0 (0) 44).toInt < (lIM (41) (0) : Int)) (lt1 (sI t6 (41) (0) ((gI t6 0 (0) 44).toNatClampNeg) a3) fun (t7 : Sto) =>
      ck (0 ≤ (gI t7 0 (0) 44).toInt ∧ (gI t7 0 (0) 44).toInt < (lIM (42) (0) : Int)) (lt1 (sI t7 (42) (0) ((gI t7 0 (0) 44).toNatClampNeg) a4) fun (t8 : Sto) =>
       lt1 (sI t8 0 (0) 44 ((gI t8 0 (0) 44) + (1 : Int32))) fun (t9 : Sto) =>
       lt1 (sI t9 0 (0) 9 (0 : Int32)) fun (t10 : Sto) =>
       some t10))))) = some (putA m n a1 a2 a3 a4) := by
  have i39 : 0 ≤ (nI n).toInt ∧ (nI n).toInt < (lIM 39 0 : Int) := by rw [show lIM 39 0 = 60 from rfl]; exact ixl (by omega) (by omega)
  have i40 : 0 ≤ (nI n).toInt ∧ (nI n).toInt < (lIM 40 0 : Int) := by rw [show lIM 40 0 = 60 from rfl]; exact ixl (by omega) (by omega)
  have i41 : 0 ≤ (nI n).toInt ∧ (nI n).toInt < (lIM 41 0 : Int) := by rw [show lIM 41 0 = 60 from rfl]; exact ixl (by omega) (by omega)
  have i42 : 0 ≤ (nI n).toInt ∧ (nI n).toInt < (lIM 42 0 : Int) := by rw [show lIM 42 0 = 60 from rfl]; exact ixl (by omega) (by omega)
  have q1 : ∀ j v, gI (sI m 39 0 j v) 0 0 44 = nI n := fun _ _ => hn
  have q2 : ∀ j v i u, gI (sI (sI m 39 0 j v) 40 0 i u) 0 0 44 = nI n := fun _ _ _ _ => hn
  have q3 : ∀ j v i u k t, gI (sI (sI (sI m 39 0 j v) 40 0 i u) 41 0 k t) 0 0 44 = nI n := fun _ _ _ _ _ _ => hn
  have q4 : ∀ j v i u k t l r, gI (sI (sI (sI (sI m 39 0 j v) 40 0 i u) 41 0 k t) 42 0 l r) 0 0 44 = nI n := fun _ _ _ _ _ _ _ _ => hn
  rw [hn, ck_t i39, lt1_e, q1, ck_t i40, lt1_e, q2, ck_t i41, lt1_e, q3, ck_t i42, lt1_e, q4, lt1_e, lt1_e, nI_cl (by omega), show nI n + (1 : Int32) = nI (n + 1) from nI_1 n]
  rfl
theorem shI_loop {m : Sto} : lp (σ := (Int32 × Sto)) (ρ := Sto) (un2 fun (v15 : Int32) (t16 : Sto) =>
      if (60 : Int32) ≤ v15 then (
       some (.inr t16)) else (
       ck (0 ≤ v15.toInt ∧ v15.toInt < (lIM (39) (0) : Int)) (
        ck (0 ≤ (v15 - (1 : Int32)).toInt ∧ (v15 - (1 : Int32)).toInt < (lIM (39) (0) : Int)) (lt1 (sI t16 (39) (0) ((v15 - (1 : Int32)).toNatClampNeg) (gI t16 (39) (0) (v15.toNatClampNeg))) fun (t31 : Sto) =>
         ck (0 ≤ v15.toInt ∧ v15.toInt < (lIM (40) (0) : Int)) (
          ck (0 ≤ (v15 - (1 : Int32)).toInt ∧ (v15 - (1 : Int32)).toInt < (lIM (40) (0) : Int)) (lt1 (sI t31 (40) (0) ((v15 - (1 : Int32)).toNatClampNeg) (gI t31 (40) (0) (v15.toNatClampNeg))) fun (t32 : Sto) =>
           ck (0 ≤ v15.toInt ∧ v15.toInt < (lIM (41) (0) : Int)) (
            ck (0 ≤ (v15 - (1 : Int32)).toInt ∧ (v15 - (1 : Int32)).toInt < (lIM (41) (0) : Int)) (lt1 (sI t32 (41) (0) ((v15 - (1 : Int32)).toNatClampNeg) (gI t32 (41) (0) (v15.toNatClampNeg))) fun (t33 : Sto) =>
             ck (0 ≤ v15.toInt ∧ v15.toInt < (lIM (42) (0) : Int)) (
              ck (0 ≤ (v15 - (1 : Int32)).toInt ∧ (v15 - (1 : Int32)).toInt < (lIM (42) (0) : Int)) (lt1 (sI t33 (42) (0) ((v15 - (1 : Int32)).toNatClampNeg) (gI t33 (42) (0) (v15.toNatClampNeg))) fun (t34 : Sto) =>
               lt1 (v15 + Int32.ofInt (1)) fun (v35 : Int32) =>
               some (.inl (v35, t34)))))))))))) 4000 ((1 : Int32), m) = some (shI m 59) := by
  have hs := lp_seq (body := un2 fun (v15 : Int32) (t16 : Sto) =>
      if (60 : Int32) ≤ v15 then (
       some (.inr t16)) else (
       ck (0 ≤ v15.toInt ∧ v15.toInt < (lIM (39) (0) : Int)) (
        ck (0 ≤ (v15 - (1 : Int32)).toInt ∧ (v15 - (1 : Int32)).toInt < (lIM (39) (0) : Int)) (lt1 (sI t16 (39) (0) ((v15 - (1 : Int32)).toNatClampNeg) (gI t16 (39) (0) (v15.toNatClampNeg))) fun (t31 : Sto) =>
         ck (0 ≤ v15.toInt ∧ v15.toInt < (lIM (40) (0) : Int)) (
          ck (0 ≤ (v15 - (1 : Int32)).toInt ∧ (v15 - (1 : Int32)).toInt < (lIM (40) (0) : Int)) (lt1 (sI t31 (40) (0) ((v15 - (1 : Int32)).toNatClampNeg) (gI t31 (40) (0) (v15.toNatClampNeg))) fun (t32 : Sto) =>
           ck (0 ≤ v15.toInt ∧ v15.toInt < (lIM (41) (0) : Int)) (
            ck (0 ≤ (v15 - (1 : Int32)).toInt ∧ (v15 - (1 : Int32)).toInt < (lIM (41) (0) : Int)) (lt1 (sI t32 (41) (0) ((v15 - (1 : Int32)).toNatClampNeg) (gI t32 (41) (0) (v15.toNatClampNeg))) fun (t33 : Sto) =>
             ck (0 ≤ v15.toInt ∧ v15.toInt < (lIM (42) (0) : Int)) (
              ck (0 ≤ (v15 - (1 : Int32)).toInt ∧ (v15 - (1 : Int32)).toInt < (lIM (42) (0) : Int)) (lt1 (sI t33 (42) (0) ((v15 - (1 : Int32)).toNatClampNeg) (gI t33 (42) (0) (v15.toNatClampNeg))) fun (t34 : Sto) =>
               lt1 (v15 + Int32.ofInt (1)) fun (v35 : Int32) =>
               some (.inl (v35, t34)))))))))))) (fun n => (nI (n + 1), shI m n)) (r := shI m 59) 59 4000 0 (fun n _ hn => by
      have hn : n < 59 := by omega
      dsimp only [un2]
      have es : nI (n + 1) - (1 : Int32) = nI n := pk_sub (b := 1) (by omega)
      have g : ∀ f, 39 ≤ f → f ≤ 42 → gI (shI m n) f 0 (n + 1) = gI m f 0 (n + 1) := fun f _ _ => if_neg (by omega)
      have ia : 0 ≤ (nI (n + 1)).toInt ∧ (nI (n + 1)).toInt < ((60 : Nat) : Int) := ixl (by omega) (by omega)
      have ib : 0 ≤ (nI n).toInt ∧ (nI n).toInt < ((60 : Nat) : Int) := ixl (by omega) (by omega)
      have q1 : ∀ v, gI (sI (shI m n) 39 0 n v) 40 0 (n + 1) = gI m 40 0 (n + 1) := fun v => by rw [gI_sI, if_neg (by omega), g 40 (by decide) (by decide)]
      have q2 : ∀ v u, gI (sI (sI (shI m n) 39 0 n v) 40 0 n u) 41 0 (n + 1) = gI m 41 0 (n + 1) := fun v u => by rw [gI_sI, if_neg (by omega), gI_sI, if_neg (by omega), g 41 (by decide) (by decide)]
      have q3 : ∀ v u t, gI (sI (sI (sI (shI m n) 39 0 n v) 40 0 n u) 41 0 n t) 42 0 (n + 1) = gI m 42 0 (n + 1) := fun v u t => by rw [gI_sI, if_neg (by omega), gI_sI, if_neg (by omega), gI_sI, if_neg (by omega), g 42 (by decide) (by decide)]
      rw [if_neg (show ¬ (60 : Int32) ≤ nI (n + 1) from nI_gt (N := 60) (by decide) (by omega)), es, show lIM 39 0 = 60 from rfl, show lIM 40 0 = 60 from rfl, show lIM 41 0 = 60 from rfl, show lIM 42 0 = 60 from rfl, ck_t ia, ck_t ib, nI_cl (n := n) (by omega), nI_cl (n := n + 1) (by omega), g 39 (by decide) (by decide), lt1_e, ck_t ia, ck_t ib, q1, lt1_e, ck_t ia, ck_t ib, q2, lt1_e, ck_t ia, ck_t ib, q3, lt1_e, lt1_e, nI_s, shI_s]) (by
      rw [Nat.zero_add]
      dsimp only [un2]
      exact if_pos (show nI 60 ≤ nI 60 by decide)) (by decide)
  rw [shI_0] at hs
  exact hs
theorem shF_loop {m : Sto} : lp (σ := (Int32 × Sto)) (ρ := Sto) (un2 fun (v39 : Int32) (t40 : Sto) =>
        if (960 : Int32) ≤ v39 then (
         some (.inr t40)) else (
         ck (0 ≤ v39.toInt ∧ v39.toInt < (lFM (43) (0) : Int)) (
          ck (0 ≤ (v39 - (16 : Int32)).toInt ∧ (v39 - (16 : Int32)).toInt < (lFM (43) (0) : Int)) (lt1 (sF t40 (43) (0) ((v39 - (16 : Int32)).toNatClampNeg) (gF t40 (43) (0) (v39.toNatClampNeg))) fun (t43 : Sto) =>
           ck (0 ≤ v39.toInt ∧ v39.toInt < (lFM (44) (0) : Int)) (
            ck (0 ≤ (v39 - (16 : Int32)).toInt ∧ (v39 - (16 : Int32)).toInt < (lFM (44) (0) : Int)) (lt1 (sF t43 (44) (0) ((v39 - (16 : Int32)).toNatClampNeg) (gF t43 (44) (0) (v39.toNatClampNeg))) fun (t44 : Sto) =>
             lt1 (v39 + Int32.ofInt (1)) fun (v45 : Int32) =>
             some (.inl (v45, t44)))))))) 4000 ((16 : Int32), m) = some (shF m 944) := by
  have hs := lp_seq (body := un2 fun (v39 : Int32) (t40 : Sto) =>
        if (960 : Int32) ≤ v39 then (
         some (.inr t40)) else (
         ck (0 ≤ v39.toInt ∧ v39.toInt < (lFM (43) (0) : Int)) (
          ck (0 ≤ (v39 - (16 : Int32)).toInt ∧ (v39 - (16 : Int32)).toInt < (lFM (43) (0) : Int)) (lt1 (sF t40 (43) (0) ((v39 - (16 : Int32)).toNatClampNeg) (gF t40 (43) (0) (v39.toNatClampNeg))) fun (t43 : Sto) =>
           ck (0 ≤ v39.toInt ∧ v39.toInt < (lFM (44) (0) : Int)) (
            ck (0 ≤ (v39 - (16 : Int32)).toInt ∧ (v39 - (16 : Int32)).toInt < (lFM (44) (0) : Int)) (lt1 (sF t43 (44) (0) ((v39 - (16 : Int32)).toNatClampNeg) (gF t43 (44) (0) (v39.toNatClampNeg))) fun (t44 : Sto) =>
             lt1 (v39 + Int32.ofInt (1)) fun (v45 : Int32) =>
             some (.inl (v45, t44)))))))) (fun n => (nI (n + 16), shF m n)) (r := shF m 944) 944 4000 0 (fun n _ hn => by
      have hn : n < 944 := by omega
      dsimp only [un2]
      have es : nI (n + 16) - (16 : Int32) = nI n := by
        show nI (n + 16) - nI 16 = _
        rw [pk_sub (by omega)]
        exact congrArg nI (by omega)
      have g : ∀ f, 43 ≤ f → f ≤ 44 → gF (shF m n) f 0 (n + 16) = gF m f 0 (n + 16) := fun f _ _ => if_neg (by omega)
      have ia : 0 ≤ (nI (n + 16)).toInt ∧ (nI (n + 16)).toInt < ((960 : Nat) : Int) := ixl (by omega) (by omega)
      have ib : 0 ≤ (nI n).toInt ∧ (nI n).toInt < ((960 : Nat) : Int) := ixl (by omega) (by omega)
      have q1 : ∀ v, gF (sF (shF m n) 43 0 n v) 44 0 (n + 16) = gF m 44 0 (n + 16) := fun v => by rw [gF_sF, if_neg (by omega), g 44 (by decide) (by decide)]
      rw [if_neg (show ¬ (960 : Int32) ≤ nI (n + 16) from nI_gt (N := 960) (by decide) (by omega)), es, show lFM 43 0 = 960 from rfl, show lFM 44 0 = 960 from rfl, ck_t ia, ck_t ib, nI_cl (n := n) (by omega), nI_cl (n := n + 16) (by omega), g 43 (by decide) (by decide), lt1_e, ck_t ia, ck_t ib, q1, lt1_e, lt1_e, nI_s, shF_s, Nat.add_right_comm n 16 1]) (by
      rw [Nat.zero_add]
      dsimp only [un2]
      exact if_pos (show nI 960 ≤ nI 960 by decide)) (by decide)
  rw [shF_0] at hs
  exact hs
/-- the reference's store with an act more -/
def actS (m : Sto) (n : Nat) (a b c d : Int32) : Sto := if n = 60 then putA (sI (shF (shI m 59) 944) 0 0 44 (nI 59)) 59 a b c d else putA m n a b c d
theorem mAct {m : Sto} {n : Nat} (hn : gI m 0 0 44 = nI n) (h : n ≤ 60) (a b c d : Int32) : fX12_act a b c d m = some (actS m n a b c d) := by
  unfold fX12_act actS
  rw [jn_e, hn]
  by_cases e : n = 60
  · subst e
    rw [if_pos (show nI 60 = (60 : Int32) from rfl), if_pos rfl]
    refine (congrArg (fun o => Option.bind o _) (shI_loop (m := m))).trans ?_
    rw [Option.bind_some]
    refine (congrArg (fun o => Option.bind o _) (shF_loop (m := shI m 59))).trans ?_
    rw [Option.bind_some]
    have e44 : gI (shF (shI m 59) 944) 0 0 44 = nI 60 := hn
    rw [e44, show nI 60 - (1 : Int32) = nI 59 from pk_sub (b := 1) (by decide), lt1_e]
    exact putA_go (n := 59) rfl (by decide) a b c d
  · rw [if_neg (show ¬ nI n = (60 : Int32) from fun q => e ((nI_inj (by omega) (by decide)).mp (show nI n = nI 60 from q))), if_neg e]
    exact putA_go hn (by omega) a b c d
