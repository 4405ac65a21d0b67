/-! ===== the nearest ===== -/
def fdR {ρ : Type} (hit : Nat → Bool) (yes : Nat → ρ) (no : ρ) : Nat → Nat → ρ
  | 0, _ => no
  | k + 1, c => if hit c = true then yes c else fdR hit yes no k (c + 1)
theorem lp_find {ρ : Type} {body : Int32 → Option (Int32 ⊕ ρ)} {hit : Nat → Bool} {yes : Nat → ρ} {no : ρ} {n : Nat} (hs : ∀ c, c < n → body (nI c) = some (if hit c = true then .inr (yes c) else .inl (nI (c + 1)))) (hx : body (nI n) = some (.inr no)) : ∀ k c fuel, c + k = n → k < fuel → lp body fuel (nI c) = some (fdR hit yes no k c)
  | 0, c, 0, _, h => absurd h (Nat.not_lt_zero _)
  | 0, c, f + 1, e, _ => lp_x (by rw [show c = n by omega]; exact hx)
  | k + 1, c, 0, _, h => absurd h (Nat.not_lt_zero _)
  | k + 1, c, f + 1, e, h => by
    have hb := hs c (by omega)
    unfold fdR
    by_cases z : hit c = true
    · rw [if_pos z] at hb ⊢
      exact lp_x hb
    · rw [if_neg z] at hb ⊢
      exact (lp_s hb).trans (lp_find hs hx k (c + 1) f (by omega) (by omega))
theorem fdR_sm {t : Sto} {hit : Nat → Bool} : ∀ k c, sm (fun (q : Int32 × Sto) => some q) (fun (_ : Unit) => some ((-1 : Int32), t)) (fdR hit (fun c => Sum.inl (nI c, t)) (Sum.inr ()) k c) = some (fdR hit (fun c => nI c) (-1) k c, t)
  | 0, _ => rfl
  | k + 1, c => by
    unfold fdR
    by_cases z : hit c = true
    · rw [if_pos z, if_pos z]; rfl
    · rw [if_neg z, if_neg z]; exact fdR_sm k (c + 1)
theorem fdR_no {ρ : Type} {hit : Nat → Bool} {yes : Nat → ρ} {no : ρ} : ∀ k c, (∀ d, c ≤ d → d < c + k → hit d = false) → fdR hit yes no k c = no
  | 0, _, _ => rfl
  | k + 1, c, h => by
    unfold fdR
    rw [h c (Nat.le_refl _) (by omega), if_neg Bool.false_ne_true]
    exact fdR_no k (c + 1) (fun d h1 h2 => h d (by omega) (by omega))
/-- how many of the first d lie ahead of c -/
def ctN (g : Nat → UInt64) (c : Nat) : Nat → Nat
  | 0 => 0
  | d + 1 => if (g d).toNat < (g c).toNat ∨ ((g d).toNat = (g c).toNat ∧ d < c) then ctN g c d + 1 else ctN g c d
theorem ctN_s (g : Nat → UInt64) (c d : Nat) : ctN g c (d + 1) = if (g d).toNat < (g c).toNat ∨ ((g d).toNat = (g c).toNat ∧ d < c) then ctN g c d + 1 else ctN g c d := rfl
theorem ctN_le (g : Nat → UInt64) (c : Nat) : ∀ d, ctN g c d ≤ d ∧ (c < d → ctN g c d < d)
  | 0 => ⟨Nat.le_refl _, fun h => absurd h (Nat.not_lt_zero _)⟩
  | d + 1 => by
    have ih := ctN_le g c d
    unfold ctN
    split
    · rename_i h
      refine ⟨by omega, fun q => ?_⟩
      have : c ≠ d := fun e => by subst e; omega
      have := ih.2 (by omega)
      omega
    · exact ⟨by omega, fun _ => by omega⟩
theorem Aim_sD {st : Sto} {W : Nat → Nat → Nat} {f i j : Nat} {v : UInt64} (h : Aim st W) (hf : f ≠ 39) (hf2 : f ≠ 40) : Aim (sD st f i j v) W := fun x hx => ⟨by rw [gD_sD, if_neg (fun q => hf2 q.1.symm)]; exact (h x hx).1, fun k hk => ⟨by rw [gD_sD, if_neg (fun q => hf q.1.symm)]; exact ((h x hx).2 k hk).1, ((h x hx).2 k hk).2⟩⟩
theorem xNearer {t : Sto} {g : Nat → UInt64} {n c : Nat} (hn : gI t 3 0 0 = nI n) (n40 : n ≤ 40) (hc : c < n) (hg : ∀ d, d < n → gD t 14 0 d = g d) (hf : ∀ d, fnn (g d)) : fX11_nearerThan (nI c) t = some (nI (ctN g c n)) := by
  unfold fX11_nearerThan
  refine (congrArg (fun o => Option.bind o _) (lp_seq (fun d => (nI d, nI (ctN g c d))) (r := nI (ctN g c n)) n 4000 0 (fun d _ hd => ?_) ?_ (by omega))).trans ?_
  · have hd : d < n := by omega
    have id : 0 ≤ (nI d).toInt ∧ (nI d).toInt < (lDX 14 0 : Int) := by rw [show lDX 14 0 = 40 from rfl]; exact ixl (by omega) (by omega)
    have ic : 0 ≤ (nI c).toInt ∧ (nI c).toInt < (lDX 14 0 : Int) := by rw [show lDX 14 0 = 40 from rfl]; exact ixl (by omega) (by omega)
    have c1 := (cmp_n (hf d) (hf c) CmpOp.g).1
    have c2 := (cmp_n (hf d) (hf c) CmpOp.l).2.2.1
    dsimp only [un2]
    rw [hn, if_neg (nI_gt (by omega) hd), ck_t id, ck_t ic, nI_cl (n := d) (by omega), nI_cl (n := c) (by omega), hg d hd, hg c hc]
    rw [ctN_s]
    by_cases h1 : (g d).toNat < (g c).toNat
    · rw [if_pos (c1.mpr h1), lt1_e, lt1_e, nI_s, nI_s, if_pos (Or.inl h1)]
    · rw [if_neg (fun q => h1 (c1.mp q)), ck_t id, ck_t ic]
      by_cases h2 : (g d).toNat = (g c).toNat
      · rw [if_pos (c2.mpr h2)]
        by_cases h3 : d < c
        · rw [if_neg (nI_gt (by omega) h3), lt1_e, lt1_e, nI_s, nI_s, if_pos (Or.inr ⟨h2, h3⟩)]
        · rw [if_pos ((nI_leI (by omega) (by omega)).mpr (by omega)), lt1_e, nI_s, if_neg (by omega)]
      · rw [if_neg (fun q => h2 (c2.mp q)), lt1_e, nI_s, if_neg (by omega)]
  · rw [Nat.zero_add]
    dsimp only [un2]
    rw [hn, if_pos ((nI_leI (by omega) (by omega)).mpr (Nat.le_refl _))]
  · rw [Option.bind_some]
theorem b_nearest {x m : Sto} (h : Rel x m) (l e k : Int32) : ∃ r x' m', fX11_nearest l e k x = some (r, x') ∧ fX12_nearest l e k m = some (r, m') ∧ Rel x' m' := by
  have hx := h.1.2.1
  have hm := h.1.2.2.1
  have hB := h.2.2.2.1
  have n1 : ¬ (1 : Int32) = 0 := by decide
  have b0 : cN x 0 ≤ 40 := (hx.1 0 (by decide)).2
  have q0 : gI (sI m 0 0 10 0) 0 0 2 = nI (cN x 0) := (rel_cnt h (k := 0) (by decide)).2.1
  have c0 : gI x 3 0 0 = nI (cN x 0) := (rel_cnt h (k := 0) (by decide)).1
  obtain ⟨_, ⟨r2, r3, r4⟩, _⟩ := h.2.2.1
  have q32 : gI (sI m 0 0 10 0) 0 0 32 = nI (iN x 0 0 2) := r3.trans r2.1
  have no : fX11_nearest l e k x = some (-1, x) → fX12_nearest l e k m = some (-1, sI m 0 0 10 0) → ∃ r x' m', fX11_nearest l e k x = some (r, x') ∧ fX12_nearest l e k m = some (r, m') ∧ Rel x' m' := fun p q => ⟨-1, _, _, p, q, rel_th h⟩
  by_cases z : iN x 0 0 2 = 0
  · refine no ?_ ?_
    · unfold fX11_nearest
      rw [r2.1, z, if_pos (show nI 0 = 0 from rfl)]
    · unfold fX12_nearest
      rw [lt1_e, q32, z, if_pos (show nI 0 = 0 from rfl)]
  have z1 : iN x 0 0 2 = 1 := by have := r2.2; omega
  have x2 : gI x 0 0 2 = nI 1 := by rw [r2.1, z1]
  rw [z1] at q32
  have m1 : ¬ nI 1 = 0 := by decide
  rcases both_one l e with ⟨l, e, rfl, rfl, l1, l2, l3, l4, l5⟩ | ⟨q1, q2⟩
  rotate_left
  · refine no ?_ ?_
    · unfold fX11_nearest
      rw [x2, if_neg m1, q1, Option.bind_some, if_pos rfl]
    · unfold fX12_nearest
      rw [lt1_e, q32, if_neg m1]
      rcases q2 with q2 | ⟨q2, q3⟩
      · rw [q2, Option.bind_some, if_pos rfl]
      · rw [q2, Option.bind_some, if_neg n1, q3, Option.bind_some, if_pos rfl]
  have fp : ∀ q, q < 16 → fl2 (gF x 2 0 q) := fun q hq => (r4 z1 q hq).1
  have fr : ∀ c, c < cN x 0 → ∀ k, k < 16 → fl2 (gF x 20 c k) := fun c hc k hk => (hx.2.1.1 c hc k hk).1
  obtain ⟨g, hg⟩ : ∃ g : Nat → UInt64, ∀ c, g c = if c < cN x 0 then gapO x l e (fun q => gF x 2 0 q) (fun q => gF x 20 c q) else FP.dconst0 := ⟨_, fun _ => rfl⟩
  have gv : ∀ c, c < cN x 0 → gapO x l e (fun q => gF x 2 0 q) (fun q => gF x 20 c q) = g c := fun c hc => by rw [hg, if_pos hc]
  have gf : ∀ c, fnn (g c) := fun c => by
    rw [hg]
    by_cases hc : c < cN x 0
    · rw [if_pos hc]; exact pw_fnn (gapO_b hB l1 l2 fp (fr c hc)).1 (by decide)
    · rw [if_neg hc]; exact zero_f
  generalize hn : cN x 0 = n at *
  -- the class
  have hX : ∃ x', fX11_nearest (nI l) (nI e) k x = some (fdR (fun c => decide (nI (ctN g c n) = k)) (fun c => nI c) (-1) n 0, x') ∧ SameX x x' := by
    obtain ⟨xa, a1, a2, a3⟩ := xAimC hB l1 l2
    obtain ⟨xg, g1, g2, g3, g4⟩ := xGoal (f := 2) (i := 0) a2 rfl (fun q hq => by rw [← a3.2.2.1 2 0 q (by decide)]; exact fp q hq)
    have S0 := SameX_t a3 g3
    have g5 : ∀ q, q < 3 → gD xg 41 0 q = colV (fun q => gF x 2 0 q) (Wt x l e) q := fun q hq => (g4 q hq).trans (colV_e (fun w _ => (a3.2.2.1 2 0 w (by decide)).symm) q)
    obtain ⟨t, t1, t2, t3⟩ := lp_inv (body := un2 fun (v12 : Int32) (t13 : Sto) =>
          if gI t13 (3) (0) (0) ≤ v12 then (
           (some (.inr t13) : Option ((Int32 × Sto) ⊕ Sto))) else (
           ck (0 ≤ v12.toInt ∧ v12.toInt < (40 : Int)) (
            (fX9_gapTo (20) (v12.toNatClampNeg) t13).bind (un2 fun (v26 : UInt64) (t27 : Sto) =>
             ck (0 ≤ v12.toInt ∧ v12.toInt < (lDX (14) (0) : Int)) (lt1 (sD t27 (14) (0) (v12.toNatClampNeg) v26) fun (t29 : Sto) =>
              lt1 (v12 + Int32.ofInt (1)) fun (v30 : Int32) =>
              some (.inl (v30, t29))))))) (fun c s => s.1 = nI c ∧ SameX x s.2 ∧ Aim s.2 (Wt x l e) ∧ (∀ q, q < 3 → gD s.2 41 0 q = colV (fun q => gF x 2 0 q) (Wt x l e) q) ∧ ∀ d, d < c → gD s.2 14 0 d = g d) (fun r => SameX x r ∧ ∀ d, d < n → gD r 14 0 d = g d) n (fun c s hc hs => by
        obtain ⟨v, t⟩ := s
        obtain ⟨s1, s2, s3, s4, s5⟩ := hs
        dsimp only at s1 s2 s3 s4 s5
        subst s1
        have tc : gI t 3 0 0 = nI n := by rw [← s2.1]; exact c0
        by_cases e1 : c = n
        · left
          subst e1
          refine ⟨t, ?_, s2, s5⟩
          dsimp only [un2]
          rw [tc, if_pos ((nI_leI (by omega) (by omega)).mpr (Nat.le_refl _))]
        · right
          have hc : c < n := by omega
          refine ⟨hc, ?_⟩
          have hgap := xGapR (g := fun q => gF x 2 0 q) (r := fun q => gF x 20 c q) (f := 20) (i := c) hB l1 l2 s2 s3 (if_pos (by omega)) (fun q _ => (s2.2.2.1 20 c q (by decide)).symm) (fr c hc) s4 fp
          rw [gv c hc] at hgap
          refine ⟨(nI (c + 1), sD (putD t 42 0 3 (colV (fun q => gF x 20 c q) (Wt x l e))) 14 0 c (g c)), ?_, rfl, SameX_t (SameX_t s2 (SameX_pD (by decide))) (SameX_D (by decide)), Aim_sD (Aim_D s3 (by decide) (by decide)) (by decide) (by decide), fun q hq => ?_, fun d hd => ?_⟩
          · dsimp only [un2]
            rw [tc, if_neg (nI_gt (by omega) hc), ck_t (by exact ixl (by omega) (by omega)), nI_cl (by omega), hgap, Option.bind_some]
            dsimp only [un2]
            rw [show lDX 14 0 = 40 from rfl, ck_t (by exact ixl (by omega) (by omega)), lt1_e, lt1_e, nI_s]
          · dsimp only
            rw [gD_sD, if_neg (by omega), putD_g (by omega)]
            exact s4 q hq
          · dsimp only
            rw [gD_sD]
            by_cases ed : d = c
            · rw [if_pos ⟨rfl, rfl, ed⟩, ed]
            · rw [if_neg (by omega), putD_g (by omega)]
              exact s5 d (by omega)) n 4000 0 ((0 : Int32), xg) (Nat.zero_add n) ⟨rfl, S0, g2, g5, fun d hd => absurd hd (Nat.not_lt_zero d)⟩ (by omega)
    have tc : gI t 3 0 0 = nI n := by rw [← t2.1]; exact c0
    have hfind := lp_find (body := fun (v34 : Int32) =>
            if gI t (3) (0) (0) ≤ v34 then (
             some (.inr (.inr ()))) else (
             (fX11_nearerThan v34 t).bind (fun (v36 : Int32) =>
              if v36 = k then (
               some (.inr (.inl (v34, t)))) else (
               lt1 (v34 + Int32.ofInt (1)) fun (v39 : Int32) =>
               some (.inl v39))))) (hit := fun c => decide (nI (ctN g c n) = k)) (yes := fun c => (Sum.inl (nI c, t) : (Int32 × Sto) ⊕ Unit)) (no := Sum.inr ()) (n := n) (fun c hc => by
        rw [tc, if_neg (nI_gt (by omega) hc), xNearer tc (by omega) hc t3 gf, Option.bind_some]
        by_cases ek : nI (ctN g c n) = k
        · rw [if_pos ek, if_pos (decide_eq_true ek)]
        · rw [if_neg ek, if_neg (by rw [decide_eq_false ek]; exact Bool.false_ne_true), lt1_e, nI_s]) (by
        rw [tc, if_pos ((nI_leI (by omega) (by omega)).mpr (Nat.le_refl _))]) n 0 4000 (Nat.zero_add n) (by omega)
    refine ⟨t, ?_, t2⟩
    unfold fX11_nearest
    rw [x2, if_neg m1, l3, Option.bind_some, if_neg n1, a1, Option.bind_some, g1, Option.bind_some]
    refine (congrArg (fun o => Option.bind o _) t1).trans ?_
    rw [Option.bind_some]
    refine (congrArg (fun o => Option.bind o _) hfind).trans ?_
    rw [Option.bind_some]
    exact fdR_sm n 0
  obtain ⟨x', w1, w2⟩ := hX
  rcases mIs (n := n) (by omega) k with ⟨j, rfl, hj, ek⟩ | ⟨q, ek⟩
  rotate_left
  · refine ⟨_, x', sI m 0 0 10 0, w1, ?_, rel_th (rel_S h w2)⟩
    rw [fdR_no n 0 (fun d _ hd => decide_eq_false (fun e => q (ctN g d n) ((ctN_le g d n).2 (by omega)) e.symm))]
    unfold fX12_nearest
    rw [lt1_e, q32, if_neg m1, l4, Option.bind_some, if_neg n1, l5, Option.bind_some, if_neg n1, q0, ek, Option.bind_some, if_pos rfl]
  have hgm : ∀ t, MSame (sI m 0 0 10 0) t → fX12_goalIs (49 : Int32) (nI l) (nI e) t = some (putD t 46 0 3 (colV (fun q => gF x 2 0 q) (Wt x l e))) := fun t ht => mGoalR (st := t) (p := 49) (g := fun q => gF x 2 0 q) hB l1 l2 (by decide) (fun f i' j' z1 z2 => by rw [ht.1, gI_sI, if_neg (by omega)]) (fun q hq => by rw [ht.2.1]; exact (r4 z1 q hq).2) fp
  generalize hT : putD (sI m 0 0 10 0) 46 0 3 (colV (fun q => gF x 2 0 q) (Wt x l e)) = T
  have hTs : MSame (sI m 0 0 10 0) T := by rw [← hT]; exact MSame_D (Or.inl rfl)
  have T46 : ∀ q, q < 3 → gD T 46 0 q = colV (fun q => gF x 2 0 q) (Wt x l e) q := fun q hq => by rw [← hT]; exact putD_h hq
  have TI : ∀ f i j, f ≠ 0 → gI T f i j = gI m f i j := fun f i j hf => by rw [hTs.1, gI_sI, if_neg (by omega)]
  have TF : gF T = gF m := by rw [hTs.2.1]; rfl
  have Tn : gI T 0 0 2 = nI n := by rw [hTs.1]; exact q0
  have hloop : lp (un2 fun (v17 : Int32) (t18 : Sto) =>
             if gI t18 0 (0) 2 ≤ v17 then (
              (some (.inr t18) : Option ((Int32 × Sto) ⊕ Sto))) else (
              (fX12_fromTo ((1 : Int32) + v17) (nI l) (nI e) t18).bind (fun (v48 : UInt64) =>
               ck (0 ≤ v17.toInt ∧ v17.toInt < (lDM (47) (0) : Int)) (lt1 (sD t18 (47) (0) (v17.toNatClampNeg) v48) fun (t50 : Sto) =>
                lt1 (v17 + Int32.ofInt (1)) fun (v51 : Int32) =>
                some (.inl (v51, t50)))))) 4000 ((0 : Int32), T) = some (putD T 47 0 n g) := loopD (f := 47) (i := 0) g n (by omega) (fun c hc => by
      have Tn2 : gI (putD T 47 0 c g) 0 0 2 = nI n := Tn
      have m2 := mFromR (st := putD T 47 0 c g) (p := 1 + c) (g := fun q => gF x 2 0 q) (r := fun q => gF x 20 c q) hB l1 l2 (by omega) (fun f i' j' z1 z2 => TI f i' j' (by omega)) (fun q hq => by
        show gF T 1 0 (16 * (1 + c) + q) = _
        rw [TF]; exact (hm.2.1 c (by rw [hn]; exact hc) q hq).1) (fr c hc) (fun q hq => by rw [putD_g (by omega)]; exact T46 q hq) fp
      rw [(gapO_b hB l1 l2 fp (fr c hc)).2, gv c hc] at m2
      dsimp only [un2]
      rw [Tn2, if_neg (nI_gt (by omega) hc), show (1 : Int32) + nI c = nI (1 + c) from nI_add 1 c, m2, Option.bind_some, show lDM 47 0 = 40 from rfl, ck_t (by exact ixl (by omega) (by omega)), nI_cl (by omega), lt1_e, lt1_e, nI_s]) (by
      have Tn2 : gI (putD T 47 0 n g) 0 0 2 = nI n := Tn
      dsimp only [un2]
      rw [Tn2, if_pos ((nI_leI (by omega) (by omega)).mpr (Nat.le_refl _))])
  have U47 : ∀ d, d < n → gD (putD T 47 0 n g) 47 0 d = g d := fun d hd => putD_h hd
  have Un : gI (putD T 47 0 n g) 0 0 2 = nI n := Tn
  have hU : MSame (sI m 0 0 10 0) (putD T 47 0 n g) := MSame_t hTs (MSame_D (Or.inr rfl))
  generalize putD T 47 0 n g = U at hloop U47 Un hU
  refine ⟨_, x', U, w1, ?_, rel_M (rel_th (rel_S h w2)) hU⟩
  have hgT := hgm _ (MSame_r _)
  rw [hT] at hgT
  unfold fX12_nearest
  rw [lt1_e, q32, if_neg m1, l4, Option.bind_some, if_neg n1, l5, Option.bind_some, if_neg n1, q0, ek, Option.bind_some, if_neg n1, hgT, Option.bind_some]
  refine (congrArg (fun o => Option.bind o _) hloop).trans ?_
  rw [Option.bind_some]
  refine (congrArg (fun o => Option.bind o _) (lp_find (hit := fun c => decide (nI (ctN g c n) = nI j)) (yes := fun c => (Sum.inl (nI c, U) : (Int32 × Sto) ⊕ Unit)) (no := Sum.inr ()) (n := n) (fun c hc => ?_) ?_ n 0 4000 (Nat.zero_add n) (by omega))).trans ?_
  · rw [Un, if_neg (nI_gt (by omega) hc)]
    refine (congrArg (fun o => Option.bind o _) (lp_seq (fun d => (nI d, nI (ctN g c d))) (r := nI (ctN g c n)) n 4000 0 (fun d _ hd => ?_) ?_ (by omega))).trans ?_
    · have hd : d < n := by omega
      have id : 0 ≤ (nI d).toInt ∧ (nI d).toInt < (lDM 47 0 : Int) := by rw [show lDM 47 0 = 40 from rfl]; exact ixl (by omega) (by omega)
      have ic : 0 ≤ (nI c).toInt ∧ (nI c).toInt < (lDM 47 0 : Int) := by rw [show lDM 47 0 = 40 from rfl]; exact ixl (by omega) (by omega)
      have c1 := (cmp_n (gf d) (gf c) CmpOp.g).1
      have c2 := (cmp_n (gf d) (gf c) CmpOp.l).2.2.1
      have p1 : ∀ v, nI v + (1 : Int32) = nI (v + 1) := fun v => nI_1 v
      have p0 : ∀ v, nI v + (0 : Int32) = nI v := fun v => nI_add v 0
      dsimp only [un2]
      rw [if_neg (nI_gt (by omega) hd), ck_t id, ck_t ic, nI_cl (n := d) (by omega), nI_cl (n := c) (by omega), U47 d hd, U47 c hc]
      rw [ctN_s]
      by_cases h1 : (g d).toNat < (g c).toNat
      · rw [if_pos (c1.mpr h1), lt1_e, lt1_e, nI_s, p1, if_pos (Or.inl h1)]
      · rw [if_neg (fun q => h1 (c1.mp q)), ck_t id, ck_t ic]
        by_cases h2 : (g d).toNat = (g c).toNat
        · rw [if_pos (c2.mpr h2)]
          by_cases h3 : d < c
          · rw [if_neg (nI_gt (by omega) h3), lt1_e, lt1_e, nI_s, p1, if_pos (Or.inr ⟨h2, h3⟩)]
          · rw [if_pos ((nI_leI (by omega) (by omega)).mpr (by omega)), lt1_e, lt1_e, nI_s, p0, if_neg (by omega)]
        · rw [if_neg (fun q => h2 (c2.mp q)), lt1_e, lt1_e, nI_s, p0, if_neg (by omega)]
    · rw [Nat.zero_add]
      dsimp only [un2]
      rw [if_pos ((nI_leI (by omega) (by omega)).mpr (Nat.le_refl _))]
    · rw [Option.bind_some]
      by_cases ek : nI (ctN g c n) = nI j
      · rw [if_pos ek, if_pos (decide_eq_true ek)]
      · rw [if_neg ek, if_neg (by rw [decide_eq_false ek]; exact Bool.false_ne_true), lt1_e, nI_s]
  · rw [Un, if_pos ((nI_leI (by omega) (by omega)).mpr (Nat.le_refl _))]
  · rw [Option.bind_some]
    exact fdR_sm n 0
