/-! ===== parting, nearest ===== -/
/-- the reference's store, the same but for goals and gaps -/
def MSame (s t : Sto) : Prop := gI t = gI s ∧ gF t = gF s ∧ gL t = gL s ∧ ∀ f i j, f ≠ 46 → f ≠ 47 → gD t f i j = gD s f i j
theorem MSame_r (s : Sto) : MSame s s := ⟨rfl, rfl, rfl, fun _ _ _ _ _ => rfl⟩
theorem MSame_t {s t u : Sto} (h : MSame s t) (k : MSame t u) : MSame s u := ⟨k.1.trans h.1, k.2.1.trans h.2.1, k.2.2.1.trans h.2.2.1, fun f i j a b => (k.2.2.2 f i j a b).trans (h.2.2.2 f i j a b)⟩
theorem MSame_D {s : Sto} {f i n : Nat} {v : Nat → UInt64} (h : f = 46 ∨ f = 47) : MSame s (putD s f i n v) := ⟨rfl, rfl, rfl, fun a b c q1 q2 => putD_g (by omega)⟩
theorem MSame_KM {s t : Sto} (h : MSame s t) : KM s t ∧ SCM s t := ⟨⟨fun _ _ _ _ => by rw [h.1], fun _ _ _ _ => by rw [h.2.1], fun f i j q => h.2.2.2 f i j (by omega) (by omega)⟩, ⟨fun _ _ _ _ => by rw [h.1], fun _ _ => by rw [h.2.1], h.2.2.2 0 0 64 (by decide) (by decide), by rw [h.2.2.1]⟩⟩
theorem rel_M {x m n : Sto} (h : Rel x m) (k : MSame m n) : Rel x n := ⟨RelC_keep (KX_r x) (MSame_KM k).1 h.1, by rw [k.1]; exact h.2.1, Cur_f (SCX_r x) (MSame_KM k).2 h.2.2⟩
/-- the light of the greatest so far, and that gap -/
def ptL (g : Nat → UInt64) : Nat → Nat × UInt64
  | 0 => (0, g 0)
  | n + 1 => if (ptL g n).2.toNat < (g (n + 1)).toNat then (n + 1, g (n + 1)) else ptL g n
theorem ptL_b {g : Nat → UInt64} (h : ∀ k, fnn (g k)) : ∀ n, fnn (ptL g n).2
  | 0 => h 0
  | n + 1 => by
    unfold ptL
    split
    · exact h _
    · exact ptL_b h n
theorem ptL_n (g : Nat → UInt64) : ∀ n, (ptL g n).1 ≤ n
  | 0 => Nat.le_refl 0
  | n + 1 => by
    unfold ptL
    split
    · exact Nat.le_refl _
    · exact Nat.le_succ_of_le (ptL_n g n)
theorem b_parting {x m : Sto} (h : Rel x m) (a b e : Int32) : ∃ r x' m', fX11_parting a b e x = some (r, x') ∧ fX12_parting a b e m = some (r, m') ∧ Rel x' m' := by
  have hx := h.1.2.1
  have hm := h.1.2.2.1
  have hB := h.2.2.2.1
  have n1 : ¬ (1 : Int32) = 0 := by decide
  have b0 : cN x 0 ≤ 40 := (hx.1 0 (by decide)).2
  have q0 : gI (sI m 0 0 10 0) 0 0 2 = nI (cN x 0) := (rel_cnt h (k := 0) (by decide)).2.1
  have no : fX11_parting a b e x = some (-1, x) → fX12_parting a b e m = some (-1, sI m 0 0 10 0) → ∃ r x' m', fX11_parting a b e x = some (r, x') ∧ fX12_parting a b e m = some (r, m') ∧ Rel x' m' := fun p q => ⟨-1, _, _, p, q, rel_th h⟩
  rcases both_is hx (a := 0) (by decide) a with ⟨i, rfl, hi, e1, e2⟩ | ⟨_, e1, e2⟩
  rotate_left
  · refine no ?_ ?_
    · unfold fX11_parting
      rw [show fX11_isThere (0 : Int32) a x = some 0 from e1, Option.bind_some, if_pos rfl]
    · unfold fX12_parting
      rw [lt1_e, q0, e2, Option.bind_some, if_pos rfl]
  have e1 : fX11_isThere (0 : Int32) (nI i) x = some 1 := e1
  rcases both_is hx (a := 0) (by decide) b with ⟨j, rfl, hj, f1, f2⟩ | ⟨_, f1, f2⟩
  rotate_left
  · refine no ?_ ?_
    · unfold fX11_parting
      rw [e1, Option.bind_some, if_neg n1, show fX11_isThere (0 : Int32) b x = some 0 from f1, Option.bind_some, if_pos rfl]
    · unfold fX12_parting
      rw [lt1_e, q0, e2, Option.bind_some, if_neg n1, f2, Option.bind_some, if_pos rfl]
  have f1 : fX11_isThere (0 : Int32) (nI j) x = some 1 := f1
  rcases mIs (n := 2) (by decide) e with ⟨e, rfl, he, g1⟩ | ⟨q, g1⟩
  rotate_left
  · refine no ?_ ?_
    · unfold fX11_parting
      rw [e1, Option.bind_some, if_neg n1, f1, Option.bind_some, if_neg n1]
      rcases not_ix (by decide) q with z | ⟨z, _, z'⟩
      · rw [if_pos z]
      · rw [if_neg z, if_neg (show ¬ e < (2 : Int32) from z')]
    · unfold fX12_parting
      rw [lt1_e, q0, e2, Option.bind_some, if_neg n1, f2, Option.bind_some, if_neg n1, show fX12_is e (2 : Int32) = some 0 from g1, Option.bind_some, if_pos rfl]
  have fr : ∀ c, c < cN x 0 → ∀ k, k < 16 → fl2 (gF x 20 c k) := fun c hc k hk => (hx.2.1.1 c hc k hk).1
  obtain ⟨g, hg⟩ : ∃ g : Nat → UInt64, ∀ l, g l = if l < 6 then gapO x l e (fun k => gF x 20 i k) (fun k => gF x 20 j k) else FP.dconst0 := ⟨_, fun _ => rfl⟩
  have gv : ∀ l, l < 6 → gapO x l e (fun k => gF x 20 i k) (fun k => gF x 20 j k) = g l := fun l hl => by rw [hg, if_pos hl]
  have gf : ∀ l, fnn (g l) := fun l => by
    rw [hg]
    by_cases hl : l < 6
    · rw [if_pos hl]; exact pw_fnn (gapO_b hB hl he (fr i hi) (fr j hj)).1 (by decide)
    · rw [if_neg hl]; exact zero_f
  have gap : ∀ l, l < 6 → ∀ t, SameX x t → ∃ t', fX11_chipGap (nI i) (nI j) (nI l) (nI e) t = some (g l, t') ∧ SameX x t' := fun l hl t ht => by
    obtain ⟨t', p1, p2⟩ := xChipGap hB hx ht hi hj hl he
    exact ⟨t', by rw [← gv l hl]; exact p1, p2⟩
  have P0 := ptL_b gf
  -- the class
  have hX : ∃ x', fX11_parting (nI i) (nI j) (nI e) x = some (nI (ptL g 5).1, x') ∧ SameX x x' := by
    obtain ⟨t0, p1, p2⟩ := gap 0 (by decide) x (SameX_r x)
    unfold fX11_parting
    rw [e1, Option.bind_some, if_neg n1, f1, Option.bind_some, if_neg n1, if_neg (nI_lt0 (by omega)), if_pos (show nI e < (2 : Int32) from (nI_ltJ (b := 2) (by omega) (by decide)).mpr he), show fX11_chipGap (nI i) (nI j) (0 : Int32) (nI e) x = _ from p1, Option.bind_some]
    dsimp only [un2]
    obtain ⟨r, r1, r2⟩ := lp_inv (body := un4 fun (v15 : Int32) (v16 : UInt64) (v17 : Int32) (t18 : Sto) =>
            if (6 : Int32) ≤ v15 then (
             (some (.inr (v17, t18)) : Option ((Int32 × UInt64 × Int32 × Sto) ⊕ (Int32 × Sto)))) else (
             (fX11_chipGap (nI i) (nI j) v15 (nI e) t18).bind (un2 fun (v22 : UInt64) (t23 : Sto) =>
              if Op.cmpValue (FP.dcmp v22 v16) CmpOp.l ≤ 0 then (
               lt1 (v15 + Int32.ofInt (1)) fun (v26 : Int32) =>
               some (.inl (v26, v16, v17, t23))) else (
               lt1 (v15 + Int32.ofInt (1)) fun (v27 : Int32) =>
               some (.inl (v27, v22, v15, t23)))))) (fun k s => s.1 = nI (1 + k) ∧ s.2.1 = (ptL g k).2 ∧ s.2.2.1 = nI (ptL g k).1 ∧ SameX x s.2.2.2) (fun r => r.1 = nI (ptL g 5).1 ∧ SameX x r.2) 5 (fun k s hk hs => by
        obtain ⟨v, w, u, t⟩ := s
        obtain ⟨s1, s2, s3, s4⟩ := hs
        dsimp only at s1 s2 s3 s4
        subst s1 s2 s3
        by_cases k5 : k = 5
        · left
          subst k5
          refine ⟨(nI (ptL g 5).1, t), ?_, rfl, s4⟩
          dsimp only [un4]
          exact if_pos (show (6 : Int32) ≤ nI (1 + 5) by decide)
        · right
          have k6 : 1 + k < 6 := by omega
          obtain ⟨t', p1, p2⟩ := gap (1 + k) k6 t s4
          refine ⟨by omega, ?_⟩
          have hc := (cmp_n (gf (1 + k)) (P0 k) CmpOp.l).2.2.2.2
          by_cases c : (ptL g k).2.toNat < (g (k + 1)).toNat
          · refine ⟨(nI (1 + (k + 1)), g (1 + k), nI (1 + k), t'), ?_, rfl, ?_, ?_, p2⟩
            · dsimp only [un4]
              rw [if_neg (show ¬ (6 : Int32) ≤ nI (1 + k) from nI_gt (N := 6) (by decide) k6), p1, Option.bind_some]
              dsimp only [un2]
              rw [if_neg (fun q => by have := hc.mp q; rw [Nat.add_comm 1 k] at this; omega), lt1_e, nI_s, Nat.add_assoc]
            · dsimp only
              unfold ptL
              rw [if_pos c, Nat.add_comm 1 k]
            · dsimp only
              unfold ptL
              rw [if_pos c, Nat.add_comm 1 k]
          · refine ⟨(nI (1 + (k + 1)), (ptL g k).2, nI (ptL g k).1, t'), ?_, rfl, ?_, ?_, p2⟩
            · dsimp only [un4]
              rw [if_neg (show ¬ (6 : Int32) ≤ nI (1 + k) from nI_gt (N := 6) (by decide) k6), p1, Option.bind_some]
              dsimp only [un2]
              rw [if_pos (hc.mpr (by rw [Nat.add_comm 1 k]; omega)), lt1_e, nI_s, Nat.add_assoc]
            · dsimp only
              rw [show ptL g (k + 1) = ptL g k from if_neg c]
            · dsimp only
              rw [show ptL g (k + 1) = ptL g k from if_neg c]) 5 4000 0 ((1 : Int32), g 0, (0 : Int32), t0) rfl ⟨rfl, rfl, rfl, p2⟩ (by decide)
    refine ⟨r.2, ?_, r2.2⟩
    refine (congrArg (fun o => Option.bind o _) r1).trans ?_
    rw [Option.bind_some]
    dsimp only [un2]
    rw [r2.1]
  have hM : ∃ m', fX12_parting (nI i) (nI j) (nI e) m = some (nI (ptL g 5).1, m') ∧ MSame (sI m 0 0 10 0) m' := by
    unfold fX12_parting
    rw [lt1_e, q0, e2, Option.bind_some, if_neg n1, f2, Option.bind_some, if_neg n1, show fX12_is (nI e) (2 : Int32) = some 1 from g1, Option.bind_some, if_neg n1]
    have gapM : ∀ l, l < 6 → ∀ t, MSame (sI m 0 0 10 0) t → fX12_goalIs ((1 : Int32) + nI j) (nI l) (nI e) t = some (putD t 46 0 3 (colV (fun k => gF x 20 j k) (Wt x l e))) ∧ fX12_fromTo ((1 : Int32) + nI i) (nI l) (nI e) (putD t 46 0 3 (colV (fun k => gF x 20 j k) (Wt x l e))) = some (g l) := fun l hl t ht => by
      have hI : ∀ f i' j', 27 ≤ f → f ≤ 29 → gI t f i' j' = gI m f i' j' := fun f i' j' z1 z2 => by rw [ht.1, gI_sI, if_neg (by omega)]
      have hF : ∀ c k, gF t 1 c k = gF m 1 c k := fun c k => by rw [ht.2.1]; rfl
      have m1 := mGoalR (st := t) (p := 1 + j) (g := fun k => gF x 20 j k) hB hl he (by omega) (fun f i' j' z1 z2 => hI f i' j' z1 (by omega)) (fun k hk => by rw [hF]; exact (hm.2.1 j hj k hk).1) (fr j hj)
      have m2 := mFromR (st := putD t 46 0 3 (colV (fun k => gF x 20 j k) (Wt x l e))) (p := 1 + i) (g := fun k => gF x 20 j k) (r := fun k => gF x 20 i k) hB hl he (by omega) (fun f i' j' z1 z2 => hI f i' j' z1 z2) (fun k hk => by
        show gF t 1 0 (16 * (1 + i) + k) = _
        rw [hF]; exact (hm.2.1 i hi k hk).1) (fr i hi) (fun k hk => putD_h hk) (fr j hj)
      refine ⟨?_, ?_⟩
      · rw [show (1 : Int32) + nI j = nI (1 + j) from nI_add 1 j, m1]
      · rw [show (1 : Int32) + nI i = nI (1 + i) from nI_add 1 i, m2, gv l hl]
    obtain ⟨r, r1, r2⟩ := lp_inv (body := un4 fun (v14 : Int32) (v15 : UInt64) (v16 : Int32) (t17 : Sto) =>
           if (6 : Int32) ≤ v14 then (
            (some (.inr (v16, t17)) : Option ((Int32 × UInt64 × Int32 × Sto) ⊕ (Int32 × Sto)))) else (
            (fX12_goalIs ((1 : Int32) + nI j) v14 (nI e) t17).bind (fun (t21 : Sto) =>
             (fX12_fromTo ((1 : Int32) + nI i) v14 (nI e) t21).bind (fun (v23 : UInt64) =>
              if 0 < Op.cmpValue (FP.dcmp v23 v15) CmpOp.g then (
               lt1 (v14 + Int32.ofInt (1)) fun (v26 : Int32) =>
               some (.inl (v26, v23, v14, t21))) else (
               lt1 (v14 + Int32.ofInt (1)) fun (v27 : Int32) =>
               some (.inl (v27, v15, v16, t21))))))) (fun k s => s.1 = nI k ∧ (k = 0 → s.2.1 = 13830554455654793216) ∧ (∀ k', k = k' + 1 → s.2.1 = (ptL g k').2 ∧ s.2.2.1 = nI (ptL g k').1) ∧ MSame (sI m 0 0 10 0) s.2.2.2) (fun r => r.1 = nI (ptL g 5).1 ∧ MSame (sI m 0 0 10 0) r.2) 6 (fun k s hk hs => by
        obtain ⟨v, w, u, t⟩ := s
        obtain ⟨s1, s2, s3, s4⟩ := hs
        dsimp only at s1 s2 s3 s4
        subst s1
        by_cases k6 : k = 6
        · left
          subst k6
          obtain ⟨z1, z2⟩ := s3 5 rfl
          refine ⟨(u, t), ?_, z2, s4⟩
          dsimp only [un4]
          exact if_pos (show (6 : Int32) ≤ nI 6 by decide)
        · right
          have k6 : k < 6 := by omega
          obtain ⟨p1, p2⟩ := gapM k k6 t s4
          have s5 := MSame_t s4 (MSame_D (s := t) (f := 46) (i := 0) (n := 3) (v := colV (fun k => gF x 20 j k) (Wt x k e)) (Or.inl rfl))
          refine ⟨k6, ?_⟩
          cases k with
          | zero =>
            have s2 := s2 rfl
            subst s2
            refine ⟨(nI 1, g 0, nI 0, putD t 46 0 3 (colV (fun k => gF x 20 j k) (Wt x 0 e))), ?_, rfl, fun q => absurd q (by decide), fun k' q => ?_, s5⟩
            · dsimp only [un4]
              rw [if_neg (show ¬ (6 : Int32) ≤ nI 0 by decide), p1, Option.bind_some, p2, Option.bind_some]
              have hc := (cmp_k (fnn_nn (gf 0)) (show FP.Core.val64 (13830554455654793216 : UInt64) ≠ .nan from mg_nn (K := 1024) (by unfold mg; decide +kernel) (by decide)) CmpOp.g).2.1
              have hk0 : FP.Core.dkey (13830554455654793216 : UInt64) < 0 := by decide +kernel
              have hk1 : 0 ≤ FP.Core.dkey (g 0) := by
                have f0 : (g 0).toNat < 9218868437227405312 := gf 0
                rw [dkey_nn (by omega)]; omega
              rw [if_pos (hc.mpr (by omega)), lt1_e, nI_s]
            · cases k' with
              | zero => exact ⟨rfl, rfl⟩
              | succ n => omega
          | succ k =>
            obtain ⟨z1, z2⟩ := s3 k rfl
            subst z1 z2
            have hc := (cmp_n (gf (k + 1)) (P0 k) CmpOp.g).2.1
            by_cases c : (ptL g k).2.toNat < (g (k + 1)).toNat
            · refine ⟨(nI (k + 1 + 1), g (k + 1), nI (k + 1), putD t 46 0 3 (colV (fun k => gF x 20 j k) (Wt x (k + 1) e))), ?_, rfl, fun q => absurd q (by omega), fun k' q => ?_, s5⟩
              · dsimp only [un4]
                rw [if_neg (show ¬ (6 : Int32) ≤ nI (k + 1) from nI_gt (N := 6) (by decide) k6), p1, Option.bind_some, p2, Option.bind_some, if_pos (hc.mpr c), lt1_e, nI_s]
              · obtain rfl : k' = k + 1 := by omega
                dsimp only
                rw [show ptL g (k + 1) = (k + 1, g (k + 1)) from if_pos c]
                exact ⟨rfl, rfl⟩
            · refine ⟨(nI (k + 1 + 1), (ptL g k).2, nI (ptL g k).1, putD t 46 0 3 (colV (fun k => gF x 20 j k) (Wt x (k + 1) e))), ?_, rfl, fun q => absurd q (by omega), fun k' q => ?_, s5⟩
              · dsimp only [un4]
                rw [if_neg (show ¬ (6 : Int32) ≤ nI (k + 1) from nI_gt (N := 6) (by decide) k6), p1, Option.bind_some, p2, Option.bind_some, if_neg (fun q => c (hc.mp q)), lt1_e, nI_s]
              · obtain rfl : k' = k + 1 := by omega
                dsimp only
                rw [show ptL g (k + 1) = ptL g k from if_neg c]
                exact ⟨rfl, rfl⟩) 6 4000 0 ((0 : Int32), (13830554455654793216 : UInt64), (0 : Int32), sI m 0 0 10 0) rfl ⟨rfl, fun _ => rfl, fun k' q => absurd q (by omega), MSame_r _⟩ (by decide)
    refine ⟨r.2, ?_, r2.2⟩
    refine (congrArg (fun o => Option.bind o _) r1).trans ?_
    rw [Option.bind_some]
    dsimp only [un2]
    rw [r2.1]
  obtain ⟨x', w1, w2⟩ := hX
  obtain ⟨m', w3, w4⟩ := hM
  exact ⟨_, x', m', w1, w3, rel_M (rel_th (rel_S h w2)) w4⟩
