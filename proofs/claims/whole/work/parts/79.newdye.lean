/-! ===== dyes, lots, batches: new ones by both ===== -/
theorem both_is {x : Sto} (h : CoreOk x) {a : Nat} (ha : a < 6) (i : Int32) : (∃ j, i = nI j ∧ j < cN x a ∧ fX11_isThere (nI a) i x = some 1 ∧ fX12_is i (nI (cN x a)) = some 1) ∨ ((∀ j, j < cN x a → i ≠ nI j) ∧ fX11_isThere (nI a) i x = some 0 ∧ fX12_is i (nI (cN x a)) = some 0) := by
  have hb := cnt_b h ha
  rcases xThere h ha i with ⟨j, e1, e2, e3⟩ | ⟨e1, e2⟩
  · exact Or.inl ⟨j, e1, e2, e3, by rw [e1]; exact mIs1 (by omega) e2⟩
  · rcases mIs (n := cN x a) (by omega) i with ⟨j, f1, f2, _⟩ | ⟨_, f2⟩
    · exact absurd f1 (e1 j f2)
    · exact Or.inr ⟨e1, e2, f2⟩
theorem isN_v {x : Sto} {f i j v b : Nat} (e : gI x f i j = nI v) (hv : v ≤ b) (hb : b < 2 ^ 31) : iN x f i j = v ∧ isN x f i j b := by
  have q : iN x f i j = v := by unfold iN; rw [e]; exact nI_cl (by omega)
  exact ⟨q, by rw [q]; exact e, by rw [q]; exact hv⟩
/-- a new thing of whole numbers alone -/
theorem rel_newI {x x1 m m1 : Sto} {a n fx : Nat} {b : Int32} (h : Rel x m) (hn : cN x a = n) (hcap : n < capC a) (hfx : (fx = 22 ∧ a = 2) ∨ (fx = 29 ∧ a = 4) ∨ (fx = 30 ∧ a = 5)) (xi : ∀ f i j, ¬ (f = fx ∧ i = n) → gI x1 f i j = gI x f i j) (xr : x1.2 = x.2) (mi : ∀ f i j, ¬ (f = 0 ∧ (j = 10 ∨ j = a + 2)) → ¬ (((a = 2 ∧ (f = 12 ∨ f = 13 ∨ f = 15)) ∨ (a = 4 ∧ 16 ≤ f ∧ f ≤ 20) ∨ (a = 5 ∧ ((21 ≤ f ∧ f ≤ 23) ∨ f = 26))) ∧ j = n) → gI m1 f i j = gI m f i j) (mc : gI m1 0 0 (a + 2) = nI (n + 1)) (mr : m1.2 = m.2) (hP : PX a (newS x1 ((iN x 18 0 2 + 1) % 60) (min (iN x 18 0 3 + 1) 60) a n) n) (hV : LV a (newS x1 ((iN x 18 0 2 + 1) % 60) (min (iN x 18 0 3 + 1) 60) a n) (actS m1 (iN x 18 0 3) (kA a) b 0 0) n) : Rel (newS x1 ((iN x 18 0 2 + 1) % 60) (min (iN x 18 0 3 + 1) 60) a n) (actS m1 (iN x 18 0 3) (kA a) b 0 0) := by
  have ha : a < 6 := by omega
  have xF : gF x1 = gF x := congrArg (fun q => q.1) xr
  have xL : gL x1 = gL x := congrArg (fun q => q.2.1) xr
  have xD : gD x1 = gD x := congrArg (fun q => q.2.2) xr
  have mF : gF m1 = gF m := congrArg (fun q => q.1) mr
  have mL : gL m1 = gL m := congrArg (fun q => q.2.1) mr
  have mD : gD m1 = gD m := congrArg (fun q => q.2.2) mr
  have hd : ∀ k i, i < cN x k → k = a → i ≠ n := fun k i hi e => by subst e; omega
  refine rel_new ha h hn hcap ?_ (fun _ _ => by rw [xF]) (fun k => xi 3 0 k (by omega)) (fun v k => xi 55 v k (by omega)) (fun _ _ => by rw [xF]) ⟨fun f i j q => xi f i j (by omega), fun _ _ _ _ => by rw [xF], fun _ _ _ _ => by rw [xD], xL⟩ hP ?_ ?_ ⟨fun f i j q => mi f i j (by omega) (by omega), fun _ _ => by rw [mF], by rw [mD], by rw [mL]⟩ (fun f i q1 q2 => mi f 0 i (by omega) (by omega)) (fun _ _ _ => by rw [mF]) hV
  · refine six (P := fun k => ∀ i, i < cN x k → eqX k x x1 i) (fun i hi k _ => by rw [xF]; exact ⟨rfl, rfl⟩) (fun i hi k _ => by rw [xF]) (fun i hi => ?_) (fun i hi => ?_) (fun i hi => ?_) (fun i hi => ?_)
    · have d := hd 2 i hi
      exact ⟨fun j _ => xi _ _ _ (by omega), fun s _ => ⟨xi _ _ _ (by omega), fun _ _ => by rw [xD]⟩⟩
    · exact ⟨fun j _ => xi _ _ _ (by omega), fun _ _ => by rw [xD]; exact ⟨rfl, rfl⟩⟩
    · have d := hd 4 i hi
      exact fun j _ => xi _ _ _ (by omega)
    · have d := hd 5 i hi
      exact ⟨xi _ _ _ (by omega), xi _ _ _ (by omega), xi _ _ _ (by omega), xi _ _ _ (by omega), fun k _ => ⟨xi _ _ _ (by omega), xi _ _ _ (by omega)⟩, fun _ _ _ => by rw [xF]⟩
  · refine six (P := fun k => ∀ i, i < cN x k → CM k x m m1 i) (fun i hi k _ => by rw [mF]; exact ⟨rfl, rfl⟩) (fun i hi k _ => by rw [mF]) (fun i hi => ?_) (fun i hi => ?_) (fun i hi => ?_) (fun i hi => ?_)
    · have d := hd 2 i hi
      exact ⟨mi _ _ _ (by omega) (by omega), mi _ _ _ (by omega) (by omega), mi _ _ _ (by omega) (by omega), fun s _ => ⟨mi _ _ _ (by omega) (by omega), fun _ _ => by rw [mF]⟩⟩
    · exact ⟨mi _ _ _ (by omega) (by omega), mi _ _ _ (by omega) (by omega), mi _ _ _ (by omega) (by omega), fun _ _ => by rw [mD]; exact ⟨rfl, rfl⟩⟩
    · have d := hd 4 i hi
      exact ⟨mi _ _ _ (by omega) (by omega), mi _ _ _ (by omega) (by omega), mi _ _ _ (by omega) (by omega), mi _ _ _ (by omega) (by omega), mi _ _ _ (by omega) (by omega)⟩
    · have d := hd 5 i hi
      exact ⟨mi _ _ _ (by omega) (by omega), mi _ _ _ (by omega) (by omega), mi _ _ _ (by omega) (by omega), mi _ _ _ (by omega) (by omega), fun _ _ => ⟨mi _ _ _ (by omega) (by omega), mi _ _ _ (by omega) (by omega)⟩, fun _ _ _ => by rw [mF]⟩
  · intro k hk
    have ek := cM_v k hk
    by_cases e : k = a
    · subst e; rw [if_pos rfl, ek]; exact mc
    · rw [if_neg e]
      exact mi 0 0 _ (by omega) (by omega)
theorem b_dye {x m : Sto} (h : Rel x m) (a : Int32) : ∃ r x' m', fX11_dye a x = some (r, x') ∧ fX12_dye a m = some (r, m') ∧ Rel x' m' := by
  have hx := h.1.2.1
  obtain ⟨c1, c2, cap⟩ := rel_cnt h (k := 2) (by decide)
  obtain ⟨_, d2, _⟩ := rel_cnt h (k := 1) (by decide)
  obtain ⟨a1, a2⟩ := rel_acts h
  have cap : cN x 2 ≤ 12 := cap
  have cap1 : cN x 1 ≤ 8 := (hx.1 1 (by decide)).2
  have qd : gI (sI m 0 0 10 0) 0 0 3 = nI (cN x 1) := d2
  rcases both_is hx (a := 1) (by decide) a with ⟨cl, rfl, hcl, e1, e2⟩ | ⟨_, e1, e2⟩
  · generalize hn : cN x 2 = n at c1 c2 cap
    have c2 : gI m 0 0 4 = nI n := c2
    have q3 : gI (sI m 0 0 10 0) 0 0 4 = nI n := c2
    by_cases e : n = 12
    · subst e
      refine ⟨-1, _, _, ?_, ?_, rel_no (v := 1) h⟩
      · unfold fX11_dye
        rw [show fX11_isThere (1 : Int32) (nI cl) x = some 1 from e1, Option.bind_some, if_neg (show ¬ (1 : Int32) = 0 by decide), c1, if_neg (show ¬ nI 12 < (12 : Int32) by decide), xRefused, Option.bind_some]; rfl
      · unfold fX12_dye
        rw [lt1_e, qd, e2, Option.bind_some, if_neg (show ¬ (1 : Int32) = 0 by decide), q3, if_pos (show nI 12 = (12 : Int32) from rfl), mNo, Option.bind_some]; rfl
    · have hlt : n < 12 := by omega
      have hnew := xNewOne (x := sI (sI (sI x 22 n 0 (nI cl)) 22 n 1 0) 22 n 2 0) (a := 2) (n := n) (by decide) h.1.1 c1 (by omega)
      have i12 : 0 ≤ (nI n).toInt ∧ (nI n).toInt < (lIM 12 0 : Int) := by rw [show lIM 12 0 = 12 from rfl]; exact ixl (by omega) (by omega)
      have i13 : 0 ≤ (nI n).toInt ∧ (nI n).toInt < (lIM 13 0 : Int) := by rw [show lIM 13 0 = 12 from rfl]; exact ixl (by omega) (by omega)
      have i15 : 0 ≤ (nI n).toInt ∧ (nI n).toInt < (lIM 15 0 : Int) := by rw [show lIM 15 0 = 12 from rfl]; exact ixl (by omega) (by omega)
      refine ⟨nI n, newS (sI (sI (sI x 22 n 0 (nI cl)) 22 n 1 0) 22 n 2 0) ((iN x 18 0 2 + 1) % 60) (min (iN x 18 0 3 + 1) 60) 2 n, actS (sI (sI (sI (sI (sI m 0 0 10 0) 12 0 n (nI cl)) 13 0 n 0) 15 0 n 0) 0 0 4 (nI (n + 1))) (iN x 18 0 3) (kA 2) 0 0 0, ?_, ?_, ?_⟩
      · unfold fX11_dye
        rw [show fX11_isThere (1 : Int32) (nI cl) x = some 1 from e1, Option.bind_some, if_neg (show ¬ (1 : Int32) = 0 by decide), c1, if_pos (show nI n < (12 : Int32) from (nI_ltJ (b := 12) (by omega) (by decide)).mpr hlt), ck_t (by exact ixl (by omega) (by omega)), nI_cl (by omega)]
        unfold fX3_begin
        rw [lt1_e, lt1_e, lt1_e, Option.bind_some, show fX11_newOne (2 : Int32) (sI (sI (sI x 22 n 0 (nI cl)) 22 n 1 0) 22 n 2 0) = _ from hnew, Option.bind_some]
        rfl
      · have q6 : gI (sI (sI m 0 0 10 0) 12 0 n (nI cl)) 0 0 4 = nI n := c2
        have q7 : gI (sI (sI (sI m 0 0 10 0) 12 0 n (nI cl)) 13 0 n 0) 0 0 4 = nI n := c2
        have q8 : gI (sI (sI (sI (sI m 0 0 10 0) 12 0 n (nI cl)) 13 0 n 0) 15 0 n 0) 0 0 4 = nI n := c2
        have q44 : gI (sI (sI (sI (sI (sI m 0 0 10 0) 12 0 n (nI cl)) 13 0 n 0) 15 0 n 0) 0 0 4 (nI (n + 1))) 0 0 44 = nI (iN x 18 0 3) := a1
        unfold fX12_dye
        rw [lt1_e, qd, e2, Option.bind_some, if_neg (show ¬ (1 : Int32) = 0 by decide), q3, if_neg (show ¬ nI n = (12 : Int32) from fun q => e ((nI_inj (by omega) (by decide)).mp (show nI n = nI 12 from q))), ck_t i12, nI_cl (by omega), lt1_e, q6, ck_t i13, nI_cl (by omega), lt1_e, q7, ck_t i15, nI_cl (by omega), lt1_e, q8, show nI n + (1 : Int32) = nI (n + 1) from nI_1 n, lt1_e]
        refine (congrArg (fun o => Option.bind o _) (mAct q44 a2 2 0 0 0)).trans ?_
        rw [Option.bind_some, act_end (by decide) (by omega) rfl]
        rfl
      · have y0 : gI (newS (sI (sI (sI x 22 n 0 (nI cl)) 22 n 1 0) 22 n 2 0) ((iN x 18 0 2 + 1) % 60) (min (iN x 18 0 3 + 1) 60) 2 n) 22 n 0 = nI cl := (newS_I (by omega)).trans (by simp [gI_sI])
        have y1 : gI (newS (sI (sI (sI x 22 n 0 (nI cl)) 22 n 1 0) 22 n 2 0) ((iN x 18 0 2 + 1) % 60) (min (iN x 18 0 3 + 1) 60) 2 n) 22 n 1 = nI 0 := (newS_I (by omega)).trans (by simp [gI_sI]; rfl)
        have y2 : gI (newS (sI (sI (sI x 22 n 0 (nI cl)) 22 n 1 0) 22 n 2 0) ((iN x 18 0 2 + 1) % 60) (min (iN x 18 0 3 + 1) 60) 2 n) 22 n 2 = nI 0 := (newS_I (by omega)).trans (by simp [gI_sI]; rfl)
        have yc : cN (newS (sI (sI (sI x 22 n 0 (nI cl)) 22 n 1 0) 22 n 2 0) ((iN x 18 0 2 + 1) % 60) (min (iN x 18 0 3 + 1) 60) 2 n) 1 = cN x 1 := iN_e rfl
        have s2 := (isN_v (b := 6) y2 (by decide) (by decide))
        refine rel_newI (fx := 22) h hn hlt (Or.inl ⟨rfl, rfl⟩) (fun f i j q => ?_) rfl (fun f i j q1 q2 => ?_) rfl rfl ?_ ?_
        · rw [gI_sI, if_neg (by omega), gI_sI, if_neg (by omega), gI_sI, if_neg (by omega)]
        · rw [gI_sI, if_neg (by omega), gI_sI, if_neg (by omega), gI_sI, if_neg (by omega), gI_sI, if_neg (by omega), gI_sI, if_neg (by omega)]
        · refine ⟨⟨(isN_v y0 (by omega) (by decide)).2, ?_⟩, (isN_v y1 (by decide) (by decide)).2, s2.2, fun s hs => ?_, fun k hk => ?_⟩
          · rw [(isN_v (b := 12) y0 (by omega) (by decide)).1, yc]; exact hcl
          · rw [s2.1] at hs; omega
          · rw [s2.1]
            exact ⟨by decide, fun j hj => absurd hj (Nat.not_lt_zero j), fun j hj => absurd hj (Nat.not_lt_zero _), fun j hj => absurd hj (Nat.not_lt_zero j)⟩
        · refine ⟨?_, ?_, ?_, fun s hs => ?_⟩
          · rw [actS_I (by decide) (by omega), y0]; simp [gI_sI]
          · rw [actS_I (by decide) (by omega), y2]; simp [gI_sI]; rfl
          · rw [actS_I (by decide) (by omega), y1]; simp [gI_sI]; rfl
          · rw [s2.1] at hs; omega
  · refine ⟨-1, _, _, ?_, ?_, rel_no (v := 2) h⟩
    · unfold fX11_dye
      rw [show fX11_isThere (1 : Int32) a x = some 0 from e1, Option.bind_some, if_pos rfl, xRefused, Option.bind_some]; rfl
    · unfold fX12_dye
      rw [lt1_e, qd, e2, Option.bind_some, if_pos rfl, mNo, Option.bind_some]; rfl
