/-! ===== cloths, dyes, lots, batches: new ones by both ===== -/
theorem act_end {m1 : Sto} {s n q : Nat} {a b c d : Int32} (hq : q ≠ 9 ∧ q ≠ 44) (hn : n < 1000) (hg : gI m1 0 0 q = nI (n + 1)) : gI (actS m1 s a b c d) 0 0 q - (1 : Int32) = nI n := by
  rw [actS_I (by decide) (by omega), hg]
  exact pk_sub (b := 1) (by omega)
theorem b_cloth {x m : Sto} (h : Rel x m) : ∃ r x' m', fX11_cloth x = some (r, x') ∧ fX12_cloth m = some (r, m') ∧ Rel x' m' := by
  have hx := h.1.2.1
  obtain ⟨c1, c2, cap⟩ := rel_cnt h (k := 1) (by decide)
  obtain ⟨a1, a2⟩ := rel_acts h
  have cap : cN x 1 ≤ 8 := cap
  have k2 : cN x 2 ≤ 12 := (hx.1 2 (by decide)).2
  have k0 : cN x 0 ≤ 40 := (hx.1 0 (by decide)).2
  have k5 : cN x 5 ≤ 12 := (hx.1 5 (by decide)).2
  have c2 : gI m 0 0 3 = nI (cN x 1) := c2
  generalize hn : cN x 1 = n at c1 c2 cap
  have q3 : gI (sI m 0 0 10 0) 0 0 3 = nI n := c2
  by_cases e : n = 8
  · subst e
    refine ⟨-1, _, _, ?_, ?_, rel_no (v := 1) h⟩
    · unfold fX11_cloth
      rw [c1, if_neg (show ¬ nI 8 < (8 : Int32) by decide), xRefused, Option.bind_some]; rfl
    · unfold fX12_cloth
      rw [lt1_e, q3, if_pos (show nI 8 = (8 : Int32) from rfl), mNo, Option.bind_some]; rfl
  · have hlt : n < 8 := by omega
    have hnew := xNewOne (x := putF x 6 n 16 (fun k => gF x 1 0 k)) (a := 1) (n := n) (by decide) h.1.1 c1 (by omega)
    refine ⟨nI n, newS (putF x 6 n 16 (fun k => gF x 1 0 k)) ((iN x 18 0 2 + 1) % 60) (min (iN x 18 0 3 + 1) 60) 1 n, actS (sI (putO (sI m 0 0 10 0) 1 0 (16 * (41 + n)) 16 (fun k => gF m 1 0 (16 * 0 + k))) 0 0 3 (nI (n + 1))) (iN x 18 0 3) (kA 1) 0 0 0, ?_, ?_, ?_⟩
    · unfold fX11_cloth
      rw [c1, if_pos (show nI n < (8 : Int32) from (nI_ltJ (b := 8) (by omega) (by decide)).mpr hlt), ck_t (by exact ixl (by omega) (by omega)), nI_cl (by omega), xCopy (by decide) (Nat.le_of_eq (show lFX 6 n = 16 from if_pos hlt).symm), Option.bind_some, show fX11_newOne (1 : Int32) (putF x 6 n 16 fun k => gF x 1 0 k) = _ from hnew, Option.bind_some]
      rfl
    · have q4 : ∀ v, gI (putO (sI m 0 0 10 0) 1 0 (16 * (41 + n)) 16 v) 0 0 3 = nI n := fun _ => c2
      have hc := mCopy (m := sI m 0 0 10 0) (f := 0) (t := 41 + n) (by decide) (by omega) (by omega)
      have q44 : gI (sI (putO (sI m 0 0 10 0) 1 0 (16 * (41 + n)) 16 (fun k => gF m 1 0 (16 * 0 + k))) 0 0 3 (nI (n + 1))) 0 0 44 = nI (iN x 18 0 3) := a1
      unfold fX12_cloth
      rw [lt1_e, q3, if_neg (show ¬ nI n = (8 : Int32) from fun q => e ((nI_inj (by omega) (by decide)).mp (show nI n = nI 8 from q))), show (41 : Int32) + nI n = nI (41 + n) from nI_add 41 n, show fX12_copy (0 : Int32) (nI (41 + n)) (sI m 0 0 10 0) = _ from hc, Option.bind_some, q4, show nI n + (1 : Int32) = nI (n + 1) from nI_1 n, lt1_e]
      have ha := mAct (m := sI (putO (sI m 0 0 10 0) 1 0 (16 * (41 + n)) 16 (fun k => gF m 1 0 (16 * 0 + k))) 0 0 3 (nI (n + 1))) q44 a2 1 0 0 0
      refine (congrArg (fun o => Option.bind o _) ha).trans ?_
      rw [Option.bind_some, act_end (by decide) (by omega) rfl]
      rfl
    · generalize hm1 : sI (putO (sI m 0 0 10 0) 1 0 (16 * (41 + n)) 16 (fun k => gF m 1 0 (16 * 0 + k))) 0 0 3 (nI (n + 1)) = m1
      have gi : ∀ f i j, (f = 0 → j ≠ 3 ∧ j ≠ 10) → gI m1 f i j = gI m f i j := fun f i j q => by
        rw [← hm1, gI_sI, if_neg (by omega)]
        show gI (sI m 0 0 10 0) f i j = _
        rw [gI_sI, if_neg (by omega)]
      have g1 : ∀ f j, ¬ (f = 1 ∧ 16 * (41 + n) ≤ j ∧ j < 16 * (41 + n) + 16) → gF m1 f 0 j = gF m f 0 j := fun f j q => by
        rw [← hm1]
        show gF (putO (sI m 0 0 10 0) 1 0 (16 * (41 + n)) 16 (fun k => gF m 1 0 (16 * 0 + k))) f 0 j = _
        rw [putO_g (by omega)]; rfl
      have gd : gD m1 = gD m := by rw [← hm1]; rfl
      refine rel_new (by decide) h hn hlt ?_ (fun i j => putF_g (by omega)) (fun _ => rfl) (fun _ _ => rfl) (fun _ _ => putF_g (by omega)) (SCX_pF (by decide)) ?_ ?_ ?_ ?_ (fun f i q1 q2 => gi f 0 i (by omega)) (fun f i q => g1 f i (by omega)) ?_
      · exact six (P := fun k => ∀ i, i < cN x k → eqX k x (putF x 6 n 16 (fun k => gF x 1 0 k)) i) (fun i hi k _ => ⟨putF_g (by omega), putF_g (by omega)⟩) (fun i hi k _ => putF_g (by omega)) (fun i hi => CX_r x i 2 (by decide)) (fun i hi => CX_r x i 3 (by decide)) (fun i hi => CX_r x i 4 (by decide)) (fun i hi => ⟨rfl, rfl, rfl, rfl, fun _ _ => ⟨rfl, rfl⟩, fun _ _ _ => putF_g (by omega)⟩)
      · intro k hk
        rw [show gF (newS (putF x 6 n 16 (fun k => gF x 1 0 k)) ((iN x 18 0 2 + 1) % 60) (min (iN x 18 0 3 + 1) 60) 1 n) 6 n k = gF x 1 0 k from putF_h hk]
        exact (h.2.2.1.1 k hk).1
      · refine six (P := fun k => ∀ i, i < cN x k → CM k x m m1 i) (fun i hi k hk => ⟨g1 1 _ (by omega), g1 2 _ (by omega)⟩) (fun i hi k hk => g1 1 _ (by omega)) (fun i hi => ⟨gi _ _ _ (by omega), gi _ _ _ (by omega), gi _ _ _ (by omega), fun s hs => ⟨gi _ _ _ (by omega), fun k hk => ?_⟩⟩) (fun i hi => ⟨gi _ _ _ (by omega), gi _ _ _ (by omega), gi _ _ _ (by omega), fun k hk => by rw [gd]; exact ⟨rfl, rfl⟩⟩) (fun i hi => ⟨gi _ _ _ (by omega), gi _ _ _ (by omega), gi _ _ _ (by omega), gi _ _ _ (by omega), gi _ _ _ (by omega)⟩) (fun i hi => ⟨gi _ _ _ (by omega), gi _ _ _ (by omega), gi _ _ _ (by omega), gi _ _ _ (by omega), fun k hk => ⟨gi _ _ _ (by omega), gi _ _ _ (by omega)⟩, fun q k hk => g1 1 _ (by omega)⟩)
        exact g1 1 _ (by omega)
      · intro k hk
        have ek := cM_v k hk
        by_cases e : k = 1
        · subst e; rw [if_pos rfl, ← hm1]; rfl
        · rw [if_neg e, gi 0 0 _ (by omega)]
      · rw [← hm1]
        exact SCM_t (SCM_t (SCM_I (by decide)) (SCM_O (by omega))) (SCM_I (by decide))
      · intro k hk
        rw [show gF (newS (putF x 6 n 16 (fun k => gF x 1 0 k)) ((iN x 18 0 2 + 1) % 60) (min (iN x 18 0 3 + 1) 60) 1 n) 6 n k = gF x 1 0 k from putF_h hk, actS_F (by decide), ← hm1]
        show gF (putO (sI m 0 0 10 0) 1 0 (16 * (41 + n)) 16 (fun k => gF m 1 0 (16 * 0 + k))) 1 0 (16 * (41 + n) + k) = _
        rw [putO_h hk, Nat.mul_zero, Nat.zero_add]
        exact (h.2.2.1.1 k hk).2
