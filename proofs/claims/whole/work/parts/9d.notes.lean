/-! ===== a chip remeasured, by both ===== -/
theorem putF_2 {t : Sto} {c k f g : Nat} {u v : Nat → UInt32} (h : f ≠ g) : sF (sF (putF (putF t f c k u) g c k v) f c k (u k)) g c k (v k) = putF (putF t f c (k + 1) u) g c (k + 1) v := by
  refine Prod.ext rfl (Prod.ext ?_ rfl)
  funext a b d
  show (if a = g ∧ b = c ∧ d = k then v k else if a = f ∧ b = c ∧ d = k then u k else if a = g ∧ b = c ∧ d < k then v d else if a = f ∧ b = c ∧ d < k then u d else t.2.1 a b d) = if a = g ∧ b = c ∧ d < k + 1 then v d else if a = f ∧ b = c ∧ d < k + 1 then u d else t.2.1 a b d
  by_cases hb : b = c
  · by_cases ha : a = g
    · by_cases hd : d = k
      · rw [if_pos ⟨ha, hb, hd⟩, if_pos ⟨ha, hb, by omega⟩, hd]
      · rw [if_neg (by omega), if_neg (by omega)]
        by_cases hl : d < k
        · rw [if_pos ⟨ha, hb, hl⟩, if_pos ⟨ha, hb, by omega⟩]
        · rw [if_neg (by omega), if_neg (by omega), if_neg (by omega), if_neg (by omega)]
    · by_cases hf : a = f
      · rw [if_neg (by omega)]
        by_cases hd : d = k
        · rw [if_pos ⟨hf, hb, hd⟩, if_neg (by omega), if_pos ⟨hf, hb, by omega⟩, hd]
        · rw [if_neg (by omega), if_neg (by omega)]
          by_cases hl : d < k
          · rw [if_pos ⟨hf, hb, hl⟩, if_neg (by omega), if_pos ⟨hf, hb, by omega⟩]
          · rw [if_neg (by omega), if_neg (by omega), if_neg (by omega)]
      · rw [if_neg (by omega), if_neg (by omega), if_neg (by omega), if_neg (by omega), if_neg (by omega), if_neg (by omega)]
  · rw [if_neg (by omega), if_neg (by omega), if_neg (by omega), if_neg (by omega), if_neg (by omega), if_neg (by omega)]
theorem putO_2 {t : Sto} {o p k f g : Nat} {u v : Nat → UInt32} (h : f ≠ g) : sF (sF (putO (putO t f 0 o k u) g 0 p k v) f 0 (o + k) (u k)) g 0 (p + k) (v k) = putO (putO t f 0 o (k + 1) u) g 0 p (k + 1) v := by
  refine Prod.ext rfl (Prod.ext ?_ rfl)
  funext a b d
  show (if a = g ∧ b = 0 ∧ d = p + k then v k else if a = f ∧ b = 0 ∧ d = o + k then u k else if a = g ∧ b = 0 ∧ p ≤ d ∧ d < p + k then v (d - p) else if a = f ∧ b = 0 ∧ o ≤ d ∧ d < o + k then u (d - o) else t.2.1 a b d) = if a = g ∧ b = 0 ∧ p ≤ d ∧ d < p + (k + 1) then v (d - p) else if a = f ∧ b = 0 ∧ o ≤ d ∧ d < o + (k + 1) then u (d - o) else t.2.1 a b d
  by_cases hb : b = 0
  · by_cases ha : a = g
    · by_cases hd : d = p + k
      · rw [if_pos ⟨ha, hb, hd⟩, if_pos ⟨ha, hb, by omega, by omega⟩, hd, Nat.add_sub_cancel_left]
      · rw [if_neg (by omega), if_neg (by omega)]
        by_cases hl : p ≤ d ∧ d < p + k
        · rw [if_pos ⟨ha, hb, hl⟩, if_pos ⟨ha, hb, by omega, by omega⟩]
        · rw [if_neg (by omega), if_neg (by omega), if_neg (by omega), if_neg (by omega)]
    · by_cases hf : a = f
      · rw [if_neg (by omega)]
        by_cases hd : d = o + k
        · rw [if_pos ⟨hf, hb, hd⟩, if_neg (by omega), if_pos ⟨hf, hb, by omega, by omega⟩, hd, Nat.add_sub_cancel_left]
        · rw [if_neg (by omega), if_neg (by omega)]
          by_cases hl : o ≤ d ∧ d < o + k
          · rw [if_pos ⟨hf, hb, hl⟩, if_neg (by omega), if_pos ⟨hf, hb, by omega, by omega⟩]
          · rw [if_neg (by omega), if_neg (by omega), if_neg (by omega)]
      · rw [if_neg (by omega), if_neg (by omega), if_neg (by omega), if_neg (by omega), if_neg (by omega), if_neg (by omega)]
  · rw [if_neg (by omega), if_neg (by omega), if_neg (by omega), if_neg (by omega), if_neg (by omega), if_neg (by omega)]
theorem putF_00 (s : Sto) (f g i j : Nat) (u v : Nat → UInt32) : putF (putF s f i 0 u) g j 0 v = s := by
  obtain ⟨a, b, c, d⟩ := s
  refine Prod.ext rfl (Prod.ext ?_ rfl)
  funext x y z
  show (if x = g ∧ y = j ∧ z < 0 then v z else if x = f ∧ y = i ∧ z < 0 then u z else b x y z) = b x y z
  rw [if_neg (by omega), if_neg (by omega)]
theorem lp_seq0 {σ ρ : Type} {body : σ → Option (σ ⊕ ρ)} {s0 : σ} (S : Nat → σ) {r : ρ} (N n : Nat) (h0 : S 0 = s0) (hs : ∀ j, j < N → body (S j) = some (.inl (S (j + 1)))) (hx : body (S N) = some (.inr r)) (hN : N < n) : lp body n s0 = some r := by
  subst h0
  exact lp_seq S N n 0 (fun j _ hj => hs j (by omega)) (by rw [Nat.zero_add]; exact hx) hN
/-- the reference's note of a place (and a chip's drift, where there is one) -/
theorem mNote2 {t : Sto} {p c n : Nat} (hp : p < 136) (hc : c < 40) (hn : gI t 0 0 44 = nI n) (h0 : 1 ≤ n) (h60 : n ≤ 60) : fX12_note (nI p) (nI c) t = some (putO (putO t 43 0 (16 * (n - 1)) 16 (fun k => gF t 1 0 (16 * p + k))) 44 0 (16 * (n - 1)) 16 (fun k => gF t 2 0 (16 * c + k))) := by
  unfold fX12_note
  refine (congrArg (fun o => Option.bind o _) (lp_seq0 (fun k => (nI k, putO (putO t 43 0 (16 * (n - 1)) k (fun k => gF t 1 0 (16 * p + k))) 44 0 (16 * (n - 1)) k (fun k => gF t 2 0 (16 * c + k)))) (r := putO (putO t 43 0 (16 * (n - 1)) 16 (fun k => gF t 1 0 (16 * p + k))) 44 0 (16 * (n - 1)) 16 (fun k => gF t 2 0 (16 * c + k))) 16 4000 (by rw [putO_0, putO_0]; rfl) (fun k hk => by
      dsimp only [un2]
      have e1 : ((16 : Int32) * nI p) + nI k = nI (16 * p + k) := by
        show nI 16 * nI p + nI k = _
        simp only [pk_mul, nI_add]
      have e2 : ((16 : Int32) * nI c) + nI k = nI (16 * c + k) := by
        show nI 16 * nI c + nI k = _
        simp only [pk_mul, nI_add]
      have e3 : ((16 : Int32) * nI (n - 1)) + nI k = nI (16 * (n - 1) + k) := by
        show nI 16 * nI (n - 1) + nI k = _
        simp only [pk_mul, nI_add]
      have q1 : gI (putO (putO t 43 0 (16 * (n - 1)) k (fun k => gF t 1 0 (16 * p + k))) 44 0 (16 * (n - 1)) k (fun k => gF t 2 0 (16 * c + k))) 0 0 44 = nI n := hn
      have q2 : ∀ j v, gI (sF (putO (putO t 43 0 (16 * (n - 1)) k (fun k => gF t 1 0 (16 * p + k))) 44 0 (16 * (n - 1)) k (fun k => gF t 2 0 (16 * c + k))) 43 0 j v) 0 0 44 = nI n := fun _ _ => hn
      have g1 : gF (putO (putO t 43 0 (16 * (n - 1)) k (fun k => gF t 1 0 (16 * p + k))) 44 0 (16 * (n - 1)) k (fun k => gF t 2 0 (16 * c + k))) 1 0 (16 * p + k) = gF t 1 0 (16 * p + k) := by rw [putO_g (by omega), putO_g (by omega)]
      have g2 : ∀ j v, gF (sF (putO (putO t 43 0 (16 * (n - 1)) k (fun k => gF t 1 0 (16 * p + k))) 44 0 (16 * (n - 1)) k (fun k => gF t 2 0 (16 * c + k))) 43 0 j v) 2 0 (16 * c + k) = gF t 2 0 (16 * c + k) := fun j v => by rw [gF_sF, if_neg (by omega), putO_g (by omega), putO_g (by omega)]
      rw [if_neg (g16 hk), e1, q1, show nI n - (1 : Int32) = nI (n - 1) from pk_sub (b := 1) h0, e3, show lFM 1 0 = 2176 from rfl, show lFM 43 0 = 960 from rfl, ck_t (by exact ixl (by omega) (by omega)), ck_t (by exact ixl (by omega) (by omega)), nI_cl (n := 16 * p + k) (by omega), nI_cl (n := 16 * (n - 1) + k) (by omega), g1, lt1_e, if_neg (nI_lt0 (by omega)), e2, show lFM 2 0 = 640 from rfl, ck_t (by exact ixl (by omega) (by omega)), q2, show nI n - (1 : Int32) = nI (n - 1) from pk_sub (b := 1) h0, e3, show lFM 44 0 = 960 from rfl, ck_t (by exact ixl (by omega) (by omega)), nI_cl (n := 16 * c + k) (by omega), nI_cl (n := 16 * (n - 1) + k) (by omega), g2, lt1_e, lt1_e, nI_s]
      exact congrArg (fun s => some (Sum.inl (nI (k + 1), s))) (putO_2 (t := t) (o := 16 * (n - 1)) (p := 16 * (n - 1)) (k := k) (f := 43) (g := 44) (u := fun k => gF t 1 0 (16 * p + k)) (v := fun k => gF t 2 0 (16 * c + k)) (by decide))) (by dsimp only [un2]; exact if_pos (show nI 16 ≤ nI 16 by decide)) (by decide))).trans ?_
  rw [Option.bind_some]
theorem mNote1 {t : Sto} {p n : Nat} (hp : p < 136) (hn : gI t 0 0 44 = nI n) (h0 : 1 ≤ n) (h60 : n ≤ 60) : fX12_note (nI p) (-1) t = some (putO t 43 0 (16 * (n - 1)) 16 (fun k => gF t 1 0 (16 * p + k))) := by
  unfold fX12_note
  rw [loopO (f := 43) (i := 0) (o := 16 * (n - 1)) (fun k => gF t 1 0 (16 * p + k)) 16 (by decide) (fun k hk => by
      dsimp only [un2]
      have e1 : ((16 : Int32) * nI p) + nI k = nI (16 * p + k) := by
        show nI 16 * nI p + nI k = _
        simp only [pk_mul, nI_add]
      have e3 : ((16 : Int32) * nI (n - 1)) + nI k = nI (16 * (n - 1) + k) := by
        show nI 16 * nI (n - 1) + nI k = _
        simp only [pk_mul, nI_add]
      have q1 : gI (putO t 43 0 (16 * (n - 1)) k (fun k => gF t 1 0 (16 * p + k))) 0 0 44 = nI n := hn
      have g1 : gF (putO t 43 0 (16 * (n - 1)) k (fun k => gF t 1 0 (16 * p + k))) 1 0 (16 * p + k) = gF t 1 0 (16 * p + k) := by rw [putO_g (by omega)]
      rw [if_neg (g16 hk), e1, q1, show nI n - (1 : Int32) = nI (n - 1) from pk_sub (b := 1) h0, e3, show lFM 1 0 = 2176 from rfl, show lFM 43 0 = 960 from rfl, ck_t (by exact ixl (by omega) (by omega)), ck_t (by exact ixl (by omega) (by omega)), nI_cl (n := 16 * p + k) (by omega), nI_cl (n := 16 * (n - 1) + k) (by omega), g1, lt1_e, if_pos (show (-1 : Int32) < 0 by decide), lt1_e, nI_s]) (by dsimp only [un2]; exact if_pos (show nI 16 ≤ nI 16 by decide)), Option.bind_some]
theorem mUndo_10 {tm : Sto} {i c : Nat} (h44 : gI tm 0 0 44 = nI (i + 1)) (hi : i < 60) (hk : gI tm 39 0 i = 10) (h40 : gI tm 40 0 i = nI c) (hc : c < 40) : fX12_undo tm = some (1, putO (putO (sI (sI tm 0 0 10 0) 0 0 44 (nI i)) 1 0 (16 * (1 + c)) 16 (fun k => gF tm 43 0 (16 * i + k))) 2 0 (16 * c) 16 (fun k => gF tm 44 0 (16 * i + k))) := by
  unfold fX12_undo
  have q44 : gI (sI tm 0 0 10 0) 0 0 44 = nI (i + 1) := h44
  have q3 : gI (sI (sI tm 0 0 10 0) 0 0 44 (nI i)) 0 0 44 = nI i := rfl
  have qk : gI (sI (sI tm 0 0 10 0) 0 0 44 (nI i)) 39 0 i = 10 := hk
  have i39 : 0 ≤ (nI i).toInt ∧ (nI i).toInt < (lIM 39 0 : Int) := by rw [show lIM 39 0 = 60 from rfl]; exact ixl (by omega) (by omega)
  have i40 : 0 ≤ (nI i).toInt ∧ (nI i).toInt < (lIM 40 0 : Int) := by rw [show lIM 40 0 = 60 from rfl]; exact ixl (by omega) (by omega)
  have i41 : 0 ≤ (nI i).toInt ∧ (nI i).toInt < (lIM 41 0 : Int) := by rw [show lIM 41 0 = 60 from rfl]; exact ixl (by omega) (by omega)
  have i42 : 0 ≤ (nI i).toInt ∧ (nI i).toInt < (lIM 42 0 : Int) := by rw [show lIM 42 0 = 60 from rfl]; exact ixl (by omega) (by omega)
  rw [lt1_e, q44, if_neg (show ¬ nI (i + 1) = 0 from fun e => by have := (nI_z (by omega)).mp e; omega), show nI (i + 1) - (1 : Int32) = nI i from pk_sub (b := 1) (by omega), lt1_e, q3, ck_t i40, lt1_e, ck_t i41, lt1_e, ck_t i42, lt1_e, ck_t i39, nI_cl (by omega), qk, lt1_e]
  have q40 : gI (sI (sI tm 0 0 10 0) 0 0 44 (nI i)) 40 0 i = nI c := h40
  rw [if_neg (show ¬ (10 : Int32) = 0 by decide), if_neg (show ¬ (10 : Int32) = 1 by decide), if_neg (show ¬ (10 : Int32) = 2 by decide), if_neg (show ¬ (10 : Int32) = 3 by decide), if_neg (show ¬ (10 : Int32) = 4 by decide), if_neg (show ¬ (10 : Int32) = 5 by decide), if_neg (show ¬ (10 : Int32) = 6 by decide), if_neg (show ¬ (10 : Int32) = 7 by decide), if_neg (show ¬ (10 : Int32) = 8 by decide), if_neg (show ¬ (10 : Int32) = 9 by decide), q40]
  generalize hT : sI (sI tm 0 0 10 0) 0 0 44 (nI i) = T at q3
  have TF : gF T = gF tm := by rw [← hT]; rfl
  refine (congrArg (fun o => Option.bind o _) (lp_seq0 (fun k => (nI k, putO (putO T 1 0 (16 * (1 + c)) k (fun k => gF tm 43 0 (16 * i + k))) 2 0 (16 * c) k (fun k => gF tm 44 0 (16 * i + k)))) (r := putO (putO T 1 0 (16 * (1 + c)) 16 (fun k => gF tm 43 0 (16 * i + k))) 2 0 (16 * c) 16 (fun k => gF tm 44 0 (16 * i + k))) 16 4000 (by rw [putO_0, putO_0]; rfl) (fun k hk => by
        dsimp only [un2]
        have e1 : ((16 : Int32) * ((1 : Int32) + nI c)) + nI k = nI (16 * (1 + c) + k) := by
          show nI 16 * (nI 1 + nI c) + nI k = _
          simp only [pk_mul, nI_add]
        have e2 : ((16 : Int32) * nI c) + nI k = nI (16 * c + k) := by
          show nI 16 * nI c + nI k = _
          simp only [pk_mul, nI_add]
        have e3 : ((16 : Int32) * nI i) + nI k = nI (16 * i + k) := by
          show nI 16 * nI i + nI k = _
          simp only [pk_mul, nI_add]
        have q1 : gI (putO (putO T 1 0 (16 * (1 + c)) k (fun k => gF tm 43 0 (16 * i + k))) 2 0 (16 * c) k (fun k => gF tm 44 0 (16 * i + k))) 0 0 44 = nI i := q3
        have q2 : ∀ j v, gI (sF (putO (putO T 1 0 (16 * (1 + c)) k (fun k => gF tm 43 0 (16 * i + k))) 2 0 (16 * c) k (fun k => gF tm 44 0 (16 * i + k))) 1 0 j v) 0 0 44 = nI i := fun _ _ => q3
        have g1 : gF (putO (putO T 1 0 (16 * (1 + c)) k (fun k => gF tm 43 0 (16 * i + k))) 2 0 (16 * c) k (fun k => gF tm 44 0 (16 * i + k))) 43 0 (16 * i + k) = gF tm 43 0 (16 * i + k) := by rw [putO_g (by omega), putO_g (by omega), TF]
        have g2 : ∀ j v, gF (sF (putO (putO T 1 0 (16 * (1 + c)) k (fun k => gF tm 43 0 (16 * i + k))) 2 0 (16 * c) k (fun k => gF tm 44 0 (16 * i + k))) 1 0 j v) 44 0 (16 * i + k) = gF tm 44 0 (16 * i + k) := fun j v => by rw [gF_sF, if_neg (by omega), putO_g (by omega), putO_g (by omega), TF]
        rw [if_neg (g16 hk), q1, e3, e1, show lFM 43 0 = 960 from rfl, show lFM 1 0 = 2176 from rfl, ck_t (by exact ixl (by omega) (by omega)), ck_t (by exact ixl (by omega) (by omega)), nI_cl (n := 16 * i + k) (by omega), nI_cl (n := 16 * (1 + c) + k) (by omega), g1, lt1_e, q2, e3, e2, show lFM 44 0 = 960 from rfl, show lFM 2 0 = 640 from rfl, ck_t (by exact ixl (by omega) (by omega)), ck_t (by exact ixl (by omega) (by omega)), nI_cl (n := 16 * i + k) (by omega), nI_cl (n := 16 * c + k) (by omega), g2, lt1_e, lt1_e, nI_s]
        exact congrArg (fun s => some (Sum.inl (nI (k + 1), s))) (putO_2 (t := T) (o := 16 * (1 + c)) (p := 16 * c) (k := k) (f := 1) (g := 2) (u := fun k => gF tm 43 0 (16 * i + k)) (v := fun k => gF tm 44 0 (16 * i + k)) (by decide))) (by dsimp only [un2]; exact if_pos (show nI 16 ≤ nI 16 by decide)) (by decide))).trans ?_
  rw [Option.bind_some]
theorem mUndo_9 {tm : Sto} {i b : Nat} {v : Int32} (hv : v = 0 ∨ v = 1) (h44 : gI tm 0 0 44 = nI (i + 1)) (hi : i < 60) (hk : gI tm 39 0 i = 9) (h40 : gI tm 40 0 i = nI b) (h41 : gI tm 41 0 i = v) (hb : b < 12) : fX12_undo tm = some (1, putO (sI (sI (sI tm 0 0 10 0) 0 0 44 (nI i)) 26 0 b v) 1 0 (16 * (50 + b)) 16 (fun k => gF tm 43 0 (16 * i + k))) := by
  unfold fX12_undo
  have q44 : gI (sI tm 0 0 10 0) 0 0 44 = nI (i + 1) := h44
  have q3 : gI (sI (sI tm 0 0 10 0) 0 0 44 (nI i)) 0 0 44 = nI i := rfl
  have qk : gI (sI (sI tm 0 0 10 0) 0 0 44 (nI i)) 39 0 i = 9 := hk
  have i39 : 0 ≤ (nI i).toInt ∧ (nI i).toInt < (lIM 39 0 : Int) := by rw [show lIM 39 0 = 60 from rfl]; exact ixl (by omega) (by omega)
  have i40 : 0 ≤ (nI i).toInt ∧ (nI i).toInt < (lIM 40 0 : Int) := by rw [show lIM 40 0 = 60 from rfl]; exact ixl (by omega) (by omega)
  have i41 : 0 ≤ (nI i).toInt ∧ (nI i).toInt < (lIM 41 0 : Int) := by rw [show lIM 41 0 = 60 from rfl]; exact ixl (by omega) (by omega)
  have i42 : 0 ≤ (nI i).toInt ∧ (nI i).toInt < (lIM 42 0 : Int) := by rw [show lIM 42 0 = 60 from rfl]; exact ixl (by omega) (by omega)
  rw [lt1_e, q44, if_neg (show ¬ nI (i + 1) = 0 from fun e => by have := (nI_z (by omega)).mp e; omega), show nI (i + 1) - (1 : Int32) = nI i from pk_sub (b := 1) (by omega), lt1_e, q3, ck_t i40, lt1_e, ck_t i41, lt1_e, ck_t i42, lt1_e, ck_t i39, nI_cl (by omega), qk, lt1_e]
  have q40 : gI (sI (sI tm 0 0 10 0) 0 0 44 (nI i)) 40 0 i = nI b := h40
  have q41 : gI (sI (sI tm 0 0 10 0) 0 0 44 (nI i)) 41 0 i = v := h41
  have ib : 0 ≤ (nI b).toInt ∧ (nI b).toInt < (lZM 26 0 : Int) := by rw [show lZM 26 0 = 12 from rfl]; exact ixl (by omega) (by omega)
  rw [if_neg (show ¬ (9 : Int32) = 0 by decide), if_neg (show ¬ (9 : Int32) = 1 by decide), if_neg (show ¬ (9 : Int32) = 2 by decide), if_neg (show ¬ (9 : Int32) = 3 by decide), if_neg (show ¬ (9 : Int32) = 4 by decide), if_neg (show ¬ (9 : Int32) = 5 by decide), if_neg (show ¬ (9 : Int32) = 6 by decide), if_neg (show ¬ (9 : Int32) = 7 by decide), if_neg (show ¬ (9 : Int32) = 8 by decide), if_pos rfl, q40, q41]
  generalize hT : sI (sI tm 0 0 10 0) 0 0 44 (nI i) = T at q3
  have TF : gF T = gF tm := by rw [← hT]; rfl
  have go : ∀ z : Int32, vp_nar .boolean z = v → (ck (0 ≤ (nI b).toInt ∧ (nI b).toInt < (lZM (26) (0) : Int)) (lt1 (sI T (26) (0) ((nI b).toNatClampNeg) (vp_nar .boolean z)) fun (t22 : Sto) =>
          ((lp (σ := (Int32 × Sto)) (ρ := Sto) (un2 fun (v26 : Int32) (t27 : Sto) =>
             if (16 : Int32) ≤ v26 then (
              some (.inr t27)) else (
              ck (0 ≤ (((16 : Int32) * (gI t27 0 (0) 44)) + v26).toInt ∧ (((16 : Int32) * (gI t27 0 (0) 44)) + v26).toInt < (lFM (43) (0) : Int)) (
               ck (0 ≤ (((16 : Int32) * ((50 : Int32) + nI b)) + v26).toInt ∧ (((16 : Int32) * ((50 : Int32) + nI b)) + v26).toInt < (lFM (1) (0) : Int)) (lt1 (sF t27 (1) (0) ((((16 : Int32) * ((50 : Int32) + nI b)) + v26).toNatClampNeg) (gF t27 (43) (0) ((((16 : Int32) * (gI t27 0 (0) 44)) + v26).toNatClampNeg))) fun (t30 : Sto) =>
                lt1 (v26 + Int32.ofInt (1)) fun (v31 : Int32) =>
                some (.inl (v31, t30)))))) 4000 ((0 : Int32), t22)).bind
           (fun (t28 : Sto) =>
            some ((1 : Int32), t28))))) = some (1, putO (sI T 26 0 b v) 1 0 (16 * (50 + b)) 16 (fun k => gF tm 43 0 (16 * i + k))) := fun z hz => by
    rw [ck_t ib, nI_cl (by omega), hz, lt1_e, loopO (f := 1) (i := 0) (o := 16 * (50 + b)) (fun k => gF tm 43 0 (16 * i + k)) 16 (by decide) (fun k hk => by
        dsimp only [un2]
        have e1 : ((16 : Int32) * ((50 : Int32) + nI b)) + nI k = nI (16 * (50 + b) + k) := by
          show nI 16 * (nI 50 + nI b) + nI k = _
          simp only [pk_mul, nI_add]
        have e3 : ((16 : Int32) * nI i) + nI k = nI (16 * i + k) := by
          show nI 16 * nI i + nI k = _
          simp only [pk_mul, nI_add]
        have q1 : gI (putO (sI T 26 0 b v) 1 0 (16 * (50 + b)) k (fun k => gF tm 43 0 (16 * i + k))) 0 0 44 = nI i := q3
        have g1 : gF (putO (sI T 26 0 b v) 1 0 (16 * (50 + b)) k (fun k => gF tm 43 0 (16 * i + k))) 43 0 (16 * i + k) = gF tm 43 0 (16 * i + k) := by rw [putO_g (by omega), gF_I, TF]
        rw [if_neg (g16 hk), q1, e3, e1, show lFM 43 0 = 960 from rfl, show lFM 1 0 = 2176 from rfl, ck_t (by exact ixl (by omega) (by omega)), ck_t (by exact ixl (by omega) (by omega)), nI_cl (n := 16 * i + k) (by omega), nI_cl (n := 16 * (50 + b) + k) (by omega), g1, lt1_e, lt1_e, nI_s]) (by dsimp only [un2]; exact if_pos (show nI 16 ≤ nI 16 by decide)), Option.bind_some]
  rw [jn_e]
  rcases hv with rfl | rfl
  · rw [if_neg (show ¬ (0 : Int32) = 1 by decide)]
    exact go 0 rfl
  · rw [if_pos rfl]
    exact go 1 rfl
