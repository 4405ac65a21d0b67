/-! ===== what a write leaves ===== -/
theorem KX_I {s : Sto} {f i j : Nat} {v : Int32} (h : ¬ (f = 3 ∨ f = 18 ∨ (22 ≤ f ∧ f ≤ 33) ∨ f = 55)) : KX s (sI s f i j v) := ⟨fun a b c q => by rw [gI_sI, if_neg (by omega)], fun _ _ _ _ => rfl, fun _ _ _ _ => rfl⟩
theorem KX_F {s : Sto} {f i j : Nat} {v : UInt32} (h : ¬ (f = 6 ∨ f = 20 ∨ f = 21 ∨ f = 33 ∨ f = 57)) : KX s (sF s f i j v) := ⟨fun _ _ _ _ => rfl, fun a b c q => by rw [gF_sF, if_neg (by omega)], fun _ _ _ _ => rfl⟩
theorem KX_D {s : Sto} {f i j : Nat} {v : UInt64} (h : ¬ (f = 25 ∨ f = 27 ∨ f = 28)) : KX s (sD s f i j v) := ⟨fun _ _ _ _ => rfl, fun _ _ _ _ => rfl, fun a b c q => by rw [gD_sD, if_neg (by omega)]⟩
theorem KX_L {s : Sto} {f i j : Nat} {v : Int64} : KX s (sL s f i j v) := ⟨fun _ _ _ _ => rfl, fun _ _ _ _ => rfl, fun _ _ _ _ => rfl⟩
theorem KX_pF {s : Sto} {f i n : Nat} {v : Nat → UInt32} (h : ¬ (f = 6 ∨ f = 20 ∨ f = 21 ∨ f = 33 ∨ f = 57)) : KX s (putF s f i n v) := ⟨fun _ _ _ _ => rfl, fun a b c q => putF_g (by omega), fun _ _ _ _ => rfl⟩
theorem KX_S {s t : Sto} (h : SameX s t) : KX s t := ⟨fun a b c _ => by rw [h.1], fun a b c q => (h.2.2.1 a b c (by omega)).symm, fun a b c q => (h.2.2.2 a b c (by omega) (by omega) (by omega) (by omega) (by omega) (by omega)).symm⟩
theorem SCX_I {s : Sto} {f i j : Nat} {v : Int32} (h : ¬ ((f = 0 ∧ j < 19) ∨ f = 12 ∨ f = 16 ∨ f = 17 ∨ f = 35 ∨ f = 37 ∨ (50 ≤ f ∧ f ≤ 53))) : SCX s (sI s f i j v) := ⟨fun a b c q => by rw [gI_sI, if_neg (by omega)], fun _ _ _ _ => rfl, fun _ _ _ _ => rfl, rfl⟩
theorem SCX_D {s : Sto} {f i j : Nat} {v : UInt64} (h : ¬ (f = 13 ∨ f = 16)) : SCX s (sD s f i j v) := ⟨fun _ _ _ _ => rfl, fun _ _ _ _ => rfl, fun a b c q => by rw [gD_sD, if_neg (by omega)], rfl⟩
theorem SCX_pF {s : Sto} {f i n : Nat} {v : Nat → UInt32} (h : ¬ (f = 1 ∨ f = 2)) : SCX s (putF s f i n v) := ⟨fun _ _ _ _ => rfl, fun a b c q => putF_g (by omega), fun _ _ _ _ => rfl, rfl⟩
theorem SCX_pD {s : Sto} {f i n : Nat} {v : Nat → UInt64} (h : ¬ (f = 13 ∨ f = 16)) : SCX s (putD s f i n v) := ⟨fun _ _ _ _ => rfl, fun _ _ _ _ => rfl, fun a b c q => putD_g (by omega), rfl⟩
theorem SCX_S {s t : Sto} (h : SameX s t) : SCX s t := ⟨fun a b c _ => by rw [h.1], fun a b c q => (h.2.2.1 a b c (by omega)).symm, fun a b c q => (h.2.2.2 a b c (by omega) (by omega) (by omega) (by omega) (by omega) (by omega)).symm, h.2.1.symm⟩
theorem KM_I {s : Sto} {f i j : Nat} {v : Int32} (h : ¬ ((f = 0 ∧ (j < 8 ∨ j = 44)) ∨ (12 ≤ f ∧ f ≤ 26) ∨ (34 ≤ f ∧ f ≤ 36) ∨ (39 ≤ f ∧ f ≤ 42))) : KM s (sI s f i j v) := ⟨fun a b c q => by rw [gI_sI, if_neg (by omega)], fun _ _ _ _ => rfl, fun _ _ _ _ => rfl⟩
theorem KM_D {s : Sto} {f i j : Nat} {v : UInt64} (h : ¬ (f = 37 ∨ f = 38)) : KM s (sD s f i j v) := ⟨fun _ _ _ _ => rfl, fun _ _ _ _ => rfl, fun a b c q => by rw [gD_sD, if_neg (by omega)]⟩
theorem KM_L {s : Sto} {f i j : Nat} {v : Int64} : KM s (sL s f i j v) := ⟨fun _ _ _ _ => rfl, fun _ _ _ _ => rfl, fun _ _ _ _ => rfl⟩
theorem KM_pD {s : Sto} {f i n : Nat} {v : Nat → UInt64} (h : ¬ (f = 37 ∨ f = 38)) : KM s (putD s f i n v) := ⟨fun _ _ _ _ => rfl, fun _ _ _ _ => rfl, fun a b c q => putD_g (by omega)⟩
theorem KM_F {s : Sto} {i j : Nat} {v : UInt32} (h : j < 16 ∨ (784 ≤ j ∧ j < 800) ∨ 2144 ≤ j) : KM s (sF s 1 i j v) := ⟨fun _ _ _ _ => rfl, fun a b c q => by rw [gF_sF, if_neg (by omega)], fun _ _ _ _ => rfl⟩
theorem KM_O {s : Sto} {i o n : Nat} {v : Nat → UInt32} (h : o + n ≤ 16 ∨ (784 ≤ o ∧ o + n ≤ 800) ∨ 2144 ≤ o) : KM s (putO s 1 i o n v) := ⟨fun _ _ _ _ => rfl, fun a b c q => putO_g (by omega), fun _ _ _ _ => rfl⟩
theorem SCM_I {s : Sto} {f i j : Nat} {v : Int32} (h : ¬ ((f = 0 ∧ (j = 8 ∨ j = 32 ∨ j = 52 ∨ j = 55 ∨ j = 57 ∨ j = 71 ∨ j = 75)) ∨ (27 ≤ f ∧ f ≤ 32) ∨ f = 64 ∨ f = 70 ∨ f = 74 ∨ f = 75)) : SCM s (sI s f i j v) := ⟨fun a b c q => by rw [gI_sI, if_neg (by omega)], fun _ _ => rfl, rfl, rfl⟩
theorem SCM_D {s : Sto} {f i j : Nat} {v : UInt64} (h : f ≠ 0 ∨ j ≠ 64) : SCM s (sD s f i j v) := ⟨fun _ _ _ _ => rfl, fun _ _ => rfl, by rw [gD_sD, if_neg (by omega)], rfl⟩
theorem SCM_pD {s : Sto} {f i n : Nat} {v : Nat → UInt64} (h : f ≠ 0) : SCM s (putD s f i n v) := ⟨fun _ _ _ _ => rfl, fun _ _ => rfl, putD_g (fun q => h q.1.symm), rfl⟩
theorem SCM_O {s : Sto} {f i o n : Nat} {v : Nat → UInt32} (h : f ≠ 1 ∨ (16 ≤ o ∧ o + n ≤ 784) ∨ 800 ≤ o) : SCM s (putO s f i o n v) := ⟨fun _ _ _ _ => rfl, fun c q => putO_g (by omega), rfl, rfl⟩
theorem SCM_F {s : Sto} {f i j : Nat} {v : UInt32} (h : f ≠ 1 ∨ (16 ≤ j ∧ j < 784) ∨ 800 ≤ j) : SCM s (sF s f i j v) := ⟨fun _ _ _ _ => rfl, fun c q => by rw [gF_sF, if_neg (by omega)], rfl, rfl⟩
theorem SCM_act {m : Sto} {n : Nat} {a b c d : Int32} : SCM m (actS m n a b c d) := ⟨fun f i j q => actS_I (by omega) (by omega), fun j _ => actS_F (by decide), by rw [actS_D.1], by rw [actS_D.2]⟩
theorem SCM_K {m u : Sto} (h : KeepM m u) : SCM m u := ⟨fun f i j q => h.2.2.1 f i j (by omega) (by omega) (by omega) (by omega) (by omega) (by omega) (by omega), fun j q => h.2.2.2 1 0 j (by decide) (by omega), by rw [h.2.1], by rw [h.1]⟩
theorem SCX_K {x u : Sto} (h : KeepX x u) : SCX x u := ⟨fun f i j q => h.2.2.1 f i j (by omega) (by omega) (by omega) (by omega) (by omega), fun f i j q => h.2.2.2 f i j (by omega) (by omega) (by omega), fun f i j _ => by rw [h.2.1], h.1⟩
/-! ===== new things are taken back ===== -/
theorem cnt_b {x : Sto} (hx : CoreOk x) {k : Nat} (hk : k < 6) : cN x k ≤ 40 := Nat.le_trans (hx.1 k hk).2 (cap_b k)
theorem cnt_le {x y : Sto} {a n : Nat} (hx : CoreOk x) (hn : cN x a = n) (hcnt : ∀ k, k < 6 → gI y 3 0 k = if k = a then nI (n + 1) else gI x 3 0 k) : ∀ k, k < 6 → cN y k = if k = a then n + 1 else cN x k := fun k hk => by
  have hb := cnt_b hx hk
  by_cases e : k = a
  · subst e
    have := hcnt k hk
    rw [if_pos rfl] at this
    rw [if_pos rfl]
    unfold cN iN
    rw [this]
    exact nI_cl (by omega)
  · have := hcnt k hk
    rw [if_neg e] at this
    rw [if_neg e]
    exact iN_e this
theorem headX_new {x y : Sto} {a n w : Nat} (ha : a < 6) (hx : CoreOk x) (hn : cN x a = n) (hcnt : ∀ k, k < 6 → gI y 3 0 k = if k = a then nI (n + 1) else gI x 3 0 k) (hC : ∀ k, k < 6 → ∀ i, i < cN x k → eqX k x y i) (hz : zero21 y (cN x 0)) (h0 : gI y 55 w 0 = nI a) : ∀ t, LiveEq y t → sameRow y t w → ∃ u, undoAt w t = some u ∧ LiveEq x u ∧ KeepX t u := by
  intro t ht hs
  have hb := cnt_b hx ha
  have hle := cnt_le hx hn hcnt
  have r0 : gI t 55 w 0 = nI a := (hs.1 0 (by decide)).trans h0
  have g3 : gI t 3 0 a = nI (n + 1) := by rw [ht.1 a ha, hcnt a ha, if_pos rfl]
  have hC2 : ∀ k, k < 6 → ∀ i, i < cN x k → eqX k x t i := fun k hk i hi => CX_t k hk (hC k hk i hi) (LiveEq_X ht k hk i (by rw [hle k hk]; split <;> (try subst_vars) <;> omega))
  refine ⟨sI t 3 0 a (nI n), ?_, LiveEq_mk (fun k hk => ?_) (fun i h1 h2 q hq => ?_) (fun k hk i hi => CX_t k hk (hC2 k hk i hi) (CX_f (fun f i j h1 h2 => by rw [gI_sI, if_neg (by omega)]) (fun _ _ _ _ => rfl) (fun _ _ _ _ => rfl) k hk)), rfl, rfl, fun f i j h3 _ _ _ _ => by rw [gI_sI, if_neg (fun q => h3 q.1)], fun _ _ _ _ _ _ => rfl⟩
  · unfold undoAt
    rw [r0, if_neg (show ¬ (6 : Int32) ≤ nI a from nI_gt (N := 6) (by decide) ha), ck_t (by rw [show lIX 3 0 = 6 from rfl]; exact ixl (by omega) (by omega)), nI_cl (by omega), g3, show nI (n + 1) - (1 : Int32) = nI n from pk_sub (b := 1) (by omega)]
  · rw [gI_sI]
    by_cases e : k = a
    · subst e
      rw [if_pos ⟨rfl, rfl, rfl⟩, (hx.1 k hk).1]
      exact congrArg nI hn.symm
    · rw [if_neg (fun q => e q.2.2), ht.1 k hk, hcnt k hk, if_neg e]
  · show gF t 21 i q = _
    by_cases e : i < cN y 0
    · rw [(LiveEq_X ht 0 (by decide) i e q hq).2]; exact hz i h1 h2 q hq
    · exact LiveEq_z ht i (by omega) h2 q hq

theorem mUndo_0 {tm : Sto} {i n : Nat} (h44 : gI tm 0 0 44 = nI (i + 1)) (hi : i < 60) (hk : gI tm 39 0 i = 0) (hn : n < 1000) (hg : gI tm 0 0 2 = nI (n + 1)) : fX12_undo tm = some (1, sI (sI (sI tm 0 0 10 0) 0 0 44 (nI i)) 0 0 2 (nI n)) := by
  unfold fX12_undo
  have q44 : gI (sI tm 0 0 10 0) 0 0 44 = nI (i + 1) := h44
  have q3 : gI (sI (sI tm 0 0 10 0) 0 0 44 (nI i)) 0 0 44 = nI i := rfl
  have qk : gI (sI (sI tm 0 0 10 0) 0 0 44 (nI i)) 39 0 i = 0 := hk
  have i39 : 0 ≤ (nI i).toInt ∧ (nI i).toInt < (lIM 39 0 : Int) := by rw [show lIM 39 0 = 60 from rfl]; exact ixl (by omega) (by omega)
  have i40 : 0 ≤ (nI i).toInt ∧ (nI i).toInt < (lIM 40 0 : Int) := by rw [show lIM 40 0 = 60 from rfl]; exact ixl (by omega) (by omega)
  have i41 : 0 ≤ (nI i).toInt ∧ (nI i).toInt < (lIM 41 0 : Int) := by rw [show lIM 41 0 = 60 from rfl]; exact ixl (by omega) (by omega)
  have i42 : 0 ≤ (nI i).toInt ∧ (nI i).toInt < (lIM 42 0 : Int) := by rw [show lIM 42 0 = 60 from rfl]; exact ixl (by omega) (by omega)
  rw [lt1_e, q44, if_neg (show ¬ nI (i + 1) = 0 from fun e => by have := (nI_z (by omega)).mp e; omega), show nI (i + 1) - (1 : Int32) = nI i from pk_sub (b := 1) (by omega), lt1_e, q3, ck_t i40, lt1_e, ck_t i41, lt1_e, ck_t i42, lt1_e, ck_t i39, nI_cl (by omega), qk, lt1_e]
  have qc : gI (sI (sI tm 0 0 10 0) 0 0 44 (nI i)) 0 0 2 = nI (n + 1) := hg
  rw [if_pos rfl, qc, show nI (n + 1) - (1 : Int32) = nI n from pk_sub (b := 1) (by omega), lt1_e]
theorem mUndo_1 {tm : Sto} {i n : Nat} (h44 : gI tm 0 0 44 = nI (i + 1)) (hi : i < 60) (hk : gI tm 39 0 i = 1) (hn : n < 1000) (hg : gI tm 0 0 3 = nI (n + 1)) : fX12_undo tm = some (1, sI (sI (sI tm 0 0 10 0) 0 0 44 (nI i)) 0 0 3 (nI n)) := by
  unfold fX12_undo
  have q44 : gI (sI tm 0 0 10 0) 0 0 44 = nI (i + 1) := h44
  have q3 : gI (sI (sI tm 0 0 10 0) 0 0 44 (nI i)) 0 0 44 = nI i := rfl
  have qk : gI (sI (sI tm 0 0 10 0) 0 0 44 (nI i)) 39 0 i = 1 := hk
  have i39 : 0 ≤ (nI i).toInt ∧ (nI i).toInt < (lIM 39 0 : Int) := by rw [show lIM 39 0 = 60 from rfl]; exact ixl (by omega) (by omega)
  have i40 : 0 ≤ (nI i).toInt ∧ (nI i).toInt < (lIM 40 0 : Int) := by rw [show lIM 40 0 = 60 from rfl]; exact ixl (by omega) (by omega)
  have i41 : 0 ≤ (nI i).toInt ∧ (nI i).toInt < (lIM 41 0 : Int) := by rw [show lIM 41 0 = 60 from rfl]; exact ixl (by omega) (by omega)
  have i42 : 0 ≤ (nI i).toInt ∧ (nI i).toInt < (lIM 42 0 : Int) := by rw [show lIM 42 0 = 60 from rfl]; exact ixl (by omega) (by omega)
  rw [lt1_e, q44, if_neg (show ¬ nI (i + 1) = 0 from fun e => by have := (nI_z (by omega)).mp e; omega), show nI (i + 1) - (1 : Int32) = nI i from pk_sub (b := 1) (by omega), lt1_e, q3, ck_t i40, lt1_e, ck_t i41, lt1_e, ck_t i42, lt1_e, ck_t i39, nI_cl (by omega), qk, lt1_e]
  have qc : gI (sI (sI tm 0 0 10 0) 0 0 44 (nI i)) 0 0 3 = nI (n + 1) := hg
  rw [if_neg (show ¬ (1 : Int32) = 0 by decide), if_pos rfl, qc, show nI (n + 1) - (1 : Int32) = nI n from pk_sub (b := 1) (by omega), lt1_e]
theorem mUndo_2 {tm : Sto} {i n : Nat} (h44 : gI tm 0 0 44 = nI (i + 1)) (hi : i < 60) (hk : gI tm 39 0 i = 2) (hn : n < 1000) (hg : gI tm 0 0 4 = nI (n + 1)) : fX12_undo tm = some (1, sI (sI (sI tm 0 0 10 0) 0 0 44 (nI i)) 0 0 4 (nI n)) := by
  unfold fX12_undo
  have q44 : gI (sI tm 0 0 10 0) 0 0 44 = nI (i + 1) := h44
  have q3 : gI (sI (sI tm 0 0 10 0) 0 0 44 (nI i)) 0 0 44 = nI i := rfl
  have qk : gI (sI (sI tm 0 0 10 0) 0 0 44 (nI i)) 39 0 i = 2 := hk
  have i39 : 0 ≤ (nI i).toInt ∧ (nI i).toInt < (lIM 39 0 : Int) := by rw [show lIM 39 0 = 60 from rfl]; exact ixl (by omega) (by omega)
  have i40 : 0 ≤ (nI i).toInt ∧ (nI i).toInt < (lIM 40 0 : Int) := by rw [show lIM 40 0 = 60 from rfl]; exact ixl (by omega) (by omega)
  have i41 : 0 ≤ (nI i).toInt ∧ (nI i).toInt < (lIM 41 0 : Int) := by rw [show lIM 41 0 = 60 from rfl]; exact ixl (by omega) (by omega)
  have i42 : 0 ≤ (nI i).toInt ∧ (nI i).toInt < (lIM 42 0 : Int) := by rw [show lIM 42 0 = 60 from rfl]; exact ixl (by omega) (by omega)
  rw [lt1_e, q44, if_neg (show ¬ nI (i + 1) = 0 from fun e => by have := (nI_z (by omega)).mp e; omega), show nI (i + 1) - (1 : Int32) = nI i from pk_sub (b := 1) (by omega), lt1_e, q3, ck_t i40, lt1_e, ck_t i41, lt1_e, ck_t i42, lt1_e, ck_t i39, nI_cl (by omega), qk, lt1_e]
  have qc : gI (sI (sI tm 0 0 10 0) 0 0 44 (nI i)) 0 0 4 = nI (n + 1) := hg
  rw [if_neg (show ¬ (2 : Int32) = 0 by decide), if_neg (show ¬ (2 : Int32) = 1 by decide), if_pos rfl, qc, show nI (n + 1) - (1 : Int32) = nI n from pk_sub (b := 1) (by omega), lt1_e]
theorem mUndo_5 {tm : Sto} {i n : Nat} (h44 : gI tm 0 0 44 = nI (i + 1)) (hi : i < 60) (hk : gI tm 39 0 i = 5) (hn : n < 1000) (hg : gI tm 0 0 5 = nI (n + 1)) : fX12_undo tm = some (1, sI (sI (sI tm 0 0 10 0) 0 0 44 (nI i)) 0 0 5 (nI n)) := by
  unfold fX12_undo
  have q44 : gI (sI tm 0 0 10 0) 0 0 44 = nI (i + 1) := h44
  have q3 : gI (sI (sI tm 0 0 10 0) 0 0 44 (nI i)) 0 0 44 = nI i := rfl
  have qk : gI (sI (sI tm 0 0 10 0) 0 0 44 (nI i)) 39 0 i = 5 := hk
  have i39 : 0 ≤ (nI i).toInt ∧ (nI i).toInt < (lIM 39 0 : Int) := by rw [show lIM 39 0 = 60 from rfl]; exact ixl (by omega) (by omega)
  have i40 : 0 ≤ (nI i).toInt ∧ (nI i).toInt < (lIM 40 0 : Int) := by rw [show lIM 40 0 = 60 from rfl]; exact ixl (by omega) (by omega)
  have i41 : 0 ≤ (nI i).toInt ∧ (nI i).toInt < (lIM 41 0 : Int) := by rw [show lIM 41 0 = 60 from rfl]; exact ixl (by omega) (by omega)
  have i42 : 0 ≤ (nI i).toInt ∧ (nI i).toInt < (lIM 42 0 : Int) := by rw [show lIM 42 0 = 60 from rfl]; exact ixl (by omega) (by omega)
  rw [lt1_e, q44, if_neg (show ¬ nI (i + 1) = 0 from fun e => by have := (nI_z (by omega)).mp e; omega), show nI (i + 1) - (1 : Int32) = nI i from pk_sub (b := 1) (by omega), lt1_e, q3, ck_t i40, lt1_e, ck_t i41, lt1_e, ck_t i42, lt1_e, ck_t i39, nI_cl (by omega), qk, lt1_e]
  have qc : gI (sI (sI tm 0 0 10 0) 0 0 44 (nI i)) 0 0 5 = nI (n + 1) := hg
  rw [if_neg (show ¬ (5 : Int32) = 0 by decide), if_neg (show ¬ (5 : Int32) = 1 by decide), if_neg (show ¬ (5 : Int32) = 2 by decide), if_neg (show ¬ (5 : Int32) = 3 by decide), if_neg (show ¬ (5 : Int32) = 4 by decide), if_pos rfl, qc, show nI (n + 1) - (1 : Int32) = nI n from pk_sub (b := 1) (by omega), lt1_e]
theorem mUndo_6 {tm : Sto} {i n : Nat} (h44 : gI tm 0 0 44 = nI (i + 1)) (hi : i < 60) (hk : gI tm 39 0 i = 6) (hn : n < 1000) (hg : gI tm 0 0 6 = nI (n + 1)) : fX12_undo tm = some (1, sI (sI (sI tm 0 0 10 0) 0 0 44 (nI i)) 0 0 6 (nI n)) := by
  unfold fX12_undo
  have q44 : gI (sI tm 0 0 10 0) 0 0 44 = nI (i + 1) := h44
  have q3 : gI (sI (sI tm 0 0 10 0) 0 0 44 (nI i)) 0 0 44 = nI i := rfl
  have qk : gI (sI (sI tm 0 0 10 0) 0 0 44 (nI i)) 39 0 i = 6 := hk
  have i39 : 0 ≤ (nI i).toInt ∧ (nI i).toInt < (lIM 39 0 : Int) := by rw [show lIM 39 0 = 60 from rfl]; exact ixl (by omega) (by omega)
  have i40 : 0 ≤ (nI i).toInt ∧ (nI i).toInt < (lIM 40 0 : Int) := by rw [show lIM 40 0 = 60 from rfl]; exact ixl (by omega) (by omega)
  have i41 : 0 ≤ (nI i).toInt ∧ (nI i).toInt < (lIM 41 0 : Int) := by rw [show lIM 41 0 = 60 from rfl]; exact ixl (by omega) (by omega)
  have i42 : 0 ≤ (nI i).toInt ∧ (nI i).toInt < (lIM 42 0 : Int) := by rw [show lIM 42 0 = 60 from rfl]; exact ixl (by omega) (by omega)
  rw [lt1_e, q44, if_neg (show ¬ nI (i + 1) = 0 from fun e => by have := (nI_z (by omega)).mp e; omega), show nI (i + 1) - (1 : Int32) = nI i from pk_sub (b := 1) (by omega), lt1_e, q3, ck_t i40, lt1_e, ck_t i41, lt1_e, ck_t i42, lt1_e, ck_t i39, nI_cl (by omega), qk, lt1_e]
  have qc : gI (sI (sI tm 0 0 10 0) 0 0 44 (nI i)) 0 0 6 = nI (n + 1) := hg
  rw [if_neg (show ¬ (6 : Int32) = 0 by decide), if_neg (show ¬ (6 : Int32) = 1 by decide), if_neg (show ¬ (6 : Int32) = 2 by decide), if_neg (show ¬ (6 : Int32) = 3 by decide), if_neg (show ¬ (6 : Int32) = 4 by decide), if_neg (show ¬ (6 : Int32) = 5 by decide), if_pos rfl, qc, show nI (n + 1) - (1 : Int32) = nI n from pk_sub (b := 1) (by omega), lt1_e]
theorem mUndo_7 {tm : Sto} {i n : Nat} (h44 : gI tm 0 0 44 = nI (i + 1)) (hi : i < 60) (hk : gI tm 39 0 i = 7) (hn : n < 1000) (hg : gI tm 0 0 7 = nI (n + 1)) : fX12_undo tm = some (1, sI (sI (sI tm 0 0 10 0) 0 0 44 (nI i)) 0 0 7 (nI n)) := by
  unfold fX12_undo
  have q44 : gI (sI tm 0 0 10 0) 0 0 44 = nI (i + 1) := h44
  have q3 : gI (sI (sI tm 0 0 10 0) 0 0 44 (nI i)) 0 0 44 = nI i := rfl
  have qk : gI (sI (sI tm 0 0 10 0) 0 0 44 (nI i)) 39 0 i = 7 := hk
  have i39 : 0 ≤ (nI i).toInt ∧ (nI i).toInt < (lIM 39 0 : Int) := by rw [show lIM 39 0 = 60 from rfl]; exact ixl (by omega) (by omega)
  have i40 : 0 ≤ (nI i).toInt ∧ (nI i).toInt < (lIM 40 0 : Int) := by rw [show lIM 40 0 = 60 from rfl]; exact ixl (by omega) (by omega)
  have i41 : 0 ≤ (nI i).toInt ∧ (nI i).toInt < (lIM 41 0 : Int) := by rw [show lIM 41 0 = 60 from rfl]; exact ixl (by omega) (by omega)
  have i42 : 0 ≤ (nI i).toInt ∧ (nI i).toInt < (lIM 42 0 : Int) := by rw [show lIM 42 0 = 60 from rfl]; exact ixl (by omega) (by omega)
  rw [lt1_e, q44, if_neg (show ¬ nI (i + 1) = 0 from fun e => by have := (nI_z (by omega)).mp e; omega), show nI (i + 1) - (1 : Int32) = nI i from pk_sub (b := 1) (by omega), lt1_e, q3, ck_t i40, lt1_e, ck_t i41, lt1_e, ck_t i42, lt1_e, ck_t i39, nI_cl (by omega), qk, lt1_e]
  have qc : gI (sI (sI tm 0 0 10 0) 0 0 44 (nI i)) 0 0 7 = nI (n + 1) := hg
  rw [if_neg (show ¬ (7 : Int32) = 0 by decide), if_neg (show ¬ (7 : Int32) = 1 by decide), if_neg (show ¬ (7 : Int32) = 2 by decide), if_neg (show ¬ (7 : Int32) = 3 by decide), if_neg (show ¬ (7 : Int32) = 4 by decide), if_neg (show ¬ (7 : Int32) = 5 by decide), if_neg (show ¬ (7 : Int32) = 6 by decide), if_pos rfl, qc, show nI (n + 1) - (1 : Int32) = nI n from pk_sub (b := 1) (by omega), lt1_e]
def kA (a : Nat) : Int32 := if a = 0 then 0 else if a = 1 then 1 else if a = 2 then 2 else if a = 3 then 5 else if a = 4 then 6 else 7
theorem mUndo_new {tm : Sto} {i n : Nat} (h44 : gI tm 0 0 44 = nI (i + 1)) (hi : i < 60) (hn : n < 1000) : ∀ a, a < 6 → gI tm 39 0 i = kA a → gI tm 0 0 (cM a) = nI (n + 1) → fX12_undo tm = some (1, sI (sI (sI tm 0 0 10 0) 0 0 44 (nI i)) 0 0 (cM a) (nI n)) := six (P := fun a => gI tm 39 0 i = kA a → gI tm 0 0 (cM a) = nI (n + 1) → fX12_undo tm = some (1, sI (sI (sI tm 0 0 10 0) 0 0 44 (nI i)) 0 0 (cM a) (nI n))) (fun a b => mUndo_0 h44 hi a hn b) (fun a b => mUndo_1 h44 hi a hn b) (fun a b => mUndo_2 h44 hi a hn b) (fun a b => mUndo_5 h44 hi a hn b) (fun a b => mUndo_6 h44 hi a hn b) (fun a b => mUndo_7 h44 hi a hn b)
theorem cM_ge : ∀ a, a < 6 → 2 ≤ cM a ∧ cM a < 8 := six (P := fun a => 2 ≤ cM a ∧ cM a < 8) (by decide) (by decide) (by decide) (by decide) (by decide) (by decide)
theorem cM_v : ∀ a, a < 6 → cM a = a + 2 := six (P := fun a => cM a = a + 2) rfl rfl rfl rfl rfl rfl
theorem headM_new {x y : Sto} {a n : Nat} {b c d : Int32} {B D : Nat → UInt32} (ha : a < 6) (hx : CoreOk x) (hy : CoreOk y) (hn : cN x a = n) (hcnt : ∀ k, k < 6 → gI y 3 0 k = if k = a then nI (n + 1) else gI x 3 0 k) (hC : ∀ k, k < 6 → ∀ i, i < cN x k → eqX k x y i) : AMok y x (kA a) b c d B D := by
  intro tm i h1 h2 h3 _ _ _ _ hL
  have hb := cnt_b hx ha
  have hle := cnt_le hx hn hcnt
  have hg : gI tm 0 0 (cM a) = nI (n + 1) := by rw [hL.1 a ha, hcnt a ha, if_pos rfl]
  have ea := cM_v a ha
  refine ⟨_, mUndo_new h2 h1 (by omega) a ha h3 hg, ?_, ?_, rfl, rfl, fun f i j q _ _ _ _ _ _ => ?_, fun _ _ _ _ _ => rfl⟩
  · rw [gI_sI, if_neg (by omega)]; rfl
  · have cmo : ∀ k, k < 6 → ∀ j, CM k y tm (sI (sI (sI tm 0 0 10 0) 0 0 44 (nI i)) 0 0 (cM a) (nI n)) j := fun k hk j => CM_f (x := y) (t := tm) (u := sI (sI (sI tm 0 0 10 0) 0 0 44 (nI i)) 0 0 (cM a) (nI n)) (fun f i j q => by rw [gI_sI, if_neg (by omega), gI_sI, if_neg (by omega), gI_sI, if_neg (by omega)]) (fun _ _ _ _ => rfl) (fun _ _ _ _ => rfl) k hk
    refine live_up (x := y) (m := tm) hy hL (fun k hk => ?_) (fun i hi => cmo 1 (by decide) i) (fun k hk i hi => Or.inl ⟨by rw [hle k hk]; split <;> (try subst_vars) <;> omega, CX_s k hk (hC k hk i hi), cmo k hk i⟩)
    · have ek := cM_v k hk
      rw [gI_sI]
      by_cases e : k = a
      · subst e
        rw [if_pos ⟨rfl, rfl, rfl⟩, (hx.1 k hk).1]
        exact congrArg nI hn.symm
      · rw [if_neg (by omega), gI_sI, if_neg (by omega), gI_sI, if_neg (by omega), hL.1 k hk, hcnt k hk, if_neg e]
  · rw [gI_sI, if_neg (by omega), gI_sI, if_neg (by omega), gI_sI, if_neg (by omega)]
/-- the class's store with a new one of a kind -/
def newS (x1 : Sto) (w s a n : Nat) : Sto := sI (sI (noteS x1 w s (nI a) 0 0 0) 0 0 19 0) 3 0 a (nI (n + 1))
theorem noteS_I {x : Sto} {w s : Nat} {a b c d : Int32} {f i j : Nat} (h : f ≠ 18 ∧ f ≠ 55) : gI (noteS x w s a b c d) f i j = gI x f i j := by
  unfold noteS
  rw [gI_sI, if_neg (fun q => h.2 q.1), gI_sI, if_neg (fun q => h.2 q.1), gI_sI, if_neg (fun q => h.2 q.1), gI_sI, if_neg (fun q => h.2 q.1), gI_sI, if_neg (fun q => h.1 q.1), gI_sI, if_neg (fun q => h.1 q.1)]
theorem noteS_55 {x : Sto} {w s : Nat} {a b c d : Int32} {v j : Nat} (h : v ≠ w) : gI (noteS x w s a b c d) 55 v j = gI x 55 v j := by
  unfold noteS
  rw [gI_sI, if_neg (fun q => h q.2.1), gI_sI, if_neg (fun q => h q.2.1), gI_sI, if_neg (fun q => h q.2.1), gI_sI, if_neg (fun q => h q.2.1)]; rfl
theorem noteS_w {x : Sto} {w s : Nat} {a b c d : Int32} : gI (noteS x w s a b c d) 55 w 0 = a ∧ gI (noteS x w s a b c d) 55 w 1 = b ∧ gI (noteS x w s a b c d) 55 w 2 = c ∧ gI (noteS x w s a b c d) 55 w 3 = d ∧ gI (noteS x w s a b c d) 18 0 2 = nI w ∧ gI (noteS x w s a b c d) 18 0 3 = nI s := by
  unfold noteS
  refine ⟨?_, ?_, ?_, ?_, rfl, rfl⟩
  · rw [gI_sI, if_neg (by omega), gI_sI, if_neg (by omega), gI_sI, if_neg (by omega), gI_sI, if_pos ⟨rfl, rfl, rfl⟩]
  · rw [gI_sI, if_neg (by omega), gI_sI, if_neg (by omega), gI_sI, if_pos ⟨rfl, rfl, rfl⟩]
  · rw [gI_sI, if_neg (by omega), gI_sI, if_pos ⟨rfl, rfl, rfl⟩]
  · rw [gI_sI, if_pos ⟨rfl, rfl, rfl⟩]
theorem newS_I {x1 : Sto} {w s a n f i j : Nat} (h : f ≠ 18 ∧ f ≠ 55 ∧ f ≠ 3 ∧ (f ≠ 0 ∨ j ≠ 19)) : gI (newS x1 w s a n) f i j = gI x1 f i j := by
  unfold newS
  rw [gI_sI, if_neg (by omega), gI_sI, if_neg (by omega), noteS_I ⟨h.1, h.2.1⟩]
theorem newS_3 {x1 : Sto} {w s a n k : Nat} : gI (newS x1 w s a n) 3 0 k = if k = a then nI (n + 1) else gI x1 3 0 k := by
  unfold newS
  rw [gI_sI]
  by_cases e : k = a
  · rw [if_pos e, if_pos ⟨rfl, rfl, e⟩]
  · rw [if_neg e, if_neg (fun q => e q.2.2), gI_sI, if_neg (by omega), noteS_I (by decide)]
/-- a new thing of kind a, made by both -/
theorem rel_new {x x1 m m1 : Sto} {a n : Nat} {b : Int32} (ha : a < 6) (h : Rel x m) (hn : cN x a = n) (hcap : n < capC a) (hX : ∀ k, k < 6 → ∀ i, i < cN x k → eqX k x x1 i) (h21 : ∀ i j, gF x1 21 i j = gF x 21 i j) (h3 : ∀ k, gI x1 3 0 k = gI x 3 0 k) (h55 : ∀ v k, gI x1 55 v k = gI x 55 v k) (h57 : ∀ v k, gF x1 57 v k = gF x 57 v k) (hS : SCX x x1) (hP : PX a (newS x1 ((iN x 18 0 2 + 1) % 60) (min (iN x 18 0 3 + 1) 60) a n) n) (hCM : ∀ k, k < 6 → ∀ i, i < cN x k → CM k x m m1 i) (hcM : ∀ k, k < 6 → gI m1 0 0 (cM k) = if k = a then nI (n + 1) else gI m 0 0 (cM k)) (hSM : SCM m m1) (h39 : ∀ f i, 39 ≤ f → f ≤ 42 → gI m1 f 0 i = gI m f 0 i) (h43 : ∀ f i, f = 43 ∨ f = 44 → gF m1 f 0 i = gF m f 0 i) (hV : LV a (newS x1 ((iN x 18 0 2 + 1) % 60) (min (iN x 18 0 3 + 1) 60) a n) (actS m1 (iN x 18 0 3) (kA a) b 0 0) n) : Rel (newS x1 ((iN x 18 0 2 + 1) % 60) (min (iN x 18 0 3 + 1) 60) a n) (actS m1 (iN x 18 0 3) (kA a) b 0 0) := by
  obtain ⟨hC, ht, hcur⟩ := h
  have hC' := hC
  obtain ⟨hr, hx, hm, h44, _⟩ := hC'
  have hb := cnt_b hx ha
  have b2 := hr.2.2
  have hcap' := cap_b a
  generalize hy : newS x1 ((iN x 18 0 2 + 1) % 60) (min (iN x 18 0 3 + 1) 60) a n = y at hP hV ⊢
  have yI : ∀ f i j, f ≠ 18 ∧ f ≠ 55 ∧ f ≠ 3 ∧ (f ≠ 0 ∨ j ≠ 19) → gI y f i j = gI x1 f i j := fun f i j q => by rw [← hy]; exact newS_I q
  have yF : gF y = gF x1 := by rw [← hy]; rfl
  have yD : gD y = gD x1 := by rw [← hy]; rfl
  have yL : gL y = gL x1 := by rw [← hy]; rfl
  have hcnt : ∀ k, k < 6 → gI y 3 0 k = if k = a then nI (n + 1) else gI x 3 0 k := fun k _ => by rw [← hy, newS_3, h3]
  have hle := cnt_le hx hn hcnt
  have hCX : ∀ k, k < 6 → ∀ i, i < cN x k → eqX k x y i := fun k hk i hi => CX_t k hk (hX k hk i hi) (CX_f (fun f i j h1 h2 => yI f i j (by omega)) (fun f i j _ => by rw [yF]) (fun f i j _ => by rw [yD]) k hk)
  have hz : zero21 y (cN x 0) := fun i h1 h2 q hq => by rw [yF, h21]; exact hx.2.1.2 i h1 h2 q hq
  have hyc : CoreOk y := by
    refine core_up hx (fun k hk => ?_) (fun k hk => by rw [hle k hk]; split <;> (try subst_vars) <;> omega) (fun l hl => ?_) (fun i h1 h2 => hz i (by
      have := hle 0 (by decide)
      by_cases e : 0 = a
      · subst e; rw [if_pos rfl] at this; omega
      · rw [if_neg e] at this; omega) h2) (fun k hk i hi => ?_)
    · have hk' := hx.1 k hk
      by_cases e : k = a
      · subst e
        refine ⟨?_, ?_⟩
        · rw [show iN y 3 0 k = n + 1 from by have := hle k hk; rw [if_pos rfl] at this; exact this, hcnt k hk, if_pos rfl]
        · rw [show iN y 3 0 k = n + 1 from by have := hle k hk; rw [if_pos rfl] at this; exact this]; exact hcap
      · exact isN_e (by rw [hcnt k hk, if_neg e]) hk'
    · have q := hCX 4 (by decide) l hl
      rw [iN_e (q 3 (by decide)), iN_e (q 4 (by decide))]
      exact Nat.le_refl _
    · rw [hle k hk] at hi
      by_cases e : k = a
      · subst e
        rw [if_pos rfl] at hi
        by_cases e2 : i = n
        · subst e2; exact Or.inr hP
        · exact Or.inl ⟨by omega, hCX k hk i (by omega)⟩
      · rw [if_neg e] at hi
        exact Or.inl ⟨hi, hCX k hk i hi⟩
  obtain ⟨B, D, hA⟩ := actS_c (m := m1) (s := iN x 18 0 3) (a := kA a) (b := b) (c := 0) (d := 0) b2
  have hA2 : ActM (iN x 18 0 3) m (actS m1 (iN x 18 0 3) (kA a) b 0 0) (kA a) b 0 0 B D := by
    obtain ⟨p1, p2, p3, p4, p5, p6, p7⟩ := hA
    refine ⟨p1, p2, p3, p4, p5, p6, fun j hj => ⟨fun f q1 q2 => ((p7 j hj).1 f q1 q2).trans (h39 f _ q1 q2), fun k hk => ⟨((p7 j hj).2 k hk).1.trans (h43 43 _ (Or.inl rfl)), ((p7 j hj).2 k hk).2.trans (h43 44 _ (Or.inr rfl))⟩⟩⟩
  have e9 := actS_9 (m := m1) (n := iN x 18 0 3) (a := kA a) (b := b) (c := 0) (d := 0)
  have hCM2 : ∀ k, k < 6 → ∀ i, i < cN x k → CM k x m (actS m1 (iN x 18 0 3) (kA a) b 0 0) i := fun k hk i hi => CM_act k hk (hCM k hk i hi)
  have hcM2 : ∀ k, k < 6 → gI (actS m1 (iN x 18 0 3) (kA a) b 0 0) 0 0 (cM k) = if k = a then nI (n + 1) else gI m 0 0 (cM k) := fun k hk => by
    have := cM_ge k hk
    rw [actS_I (by decide) (by omega)]; exact hcM k hk
  have hSM2 : SCM m (actS m1 (iN x 18 0 3) (kA a) b 0 0) := SCM_t hSM SCM_act
  generalize actS m1 (iN x 18 0 3) (kA a) b 0 0 = m2 at hV hA2 e9 hCM2 hcM2 hSM2 ⊢
  have w0 : gI y 55 ((iN x 18 0 2 + 1) % 60) 0 = nI a := by
    rw [← hy]; unfold newS
    rw [gI_sI, if_neg (by omega), gI_sI, if_neg (by omega)]; exact noteS_w.1
  refine ⟨rel_act (a := kA a) (b := b) (e := 0) (d := 0) (B := B) (D := D) hC ?_ ?_ (fun v _ hv => ⟨fun k _ => ?_, fun k _ => ?_⟩) hyc ?_ hA2 (headX_new ha hx hn hcnt hCX hz w0) (headM_new ha hx hyc hn hcnt hCX), ?_, Cur_f (SCX_t hS ⟨fun f i j q => yI f i j (by omega), fun f i j _ => by rw [yF], fun f i j _ => by rw [yD], yL⟩) hSM2 hcur⟩
  · rw [← hy]; rfl
  · rw [← hy]; rfl
  · rw [← hy]; unfold newS
    rw [gI_sI, if_neg (by omega), gI_sI, if_neg (by omega), noteS_55 hv, h55]
  · rw [yF, h57]
  · refine live_up hx hm (fun k hk => ?_) (fun i hi => hCM2 1 (by decide) i hi) (fun k hk i hi => ?_)
    · rw [hcM2 k hk, hcnt k hk, hm.1 k hk]
    · rw [hle k hk] at hi
      by_cases e : k = a
      · subst e
        rw [if_pos rfl] at hi
        by_cases e2 : i = n
        · subst e2; exact Or.inr hV
        · exact Or.inl ⟨by omega, hCX k hk i (by omega), hCM2 k hk i (by omega)⟩
      · rw [if_neg e] at hi
        exact Or.inl ⟨hi, hCX k hk i hi, hCM2 k hk i hi⟩
  · rw [e9, ← hy]; rfl
