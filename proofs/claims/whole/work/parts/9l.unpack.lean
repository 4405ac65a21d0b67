/-! ===== unpack, by both ===== -/
theorem bt_small {b i : Nat} (hb : b < 256) (hi : 8 ≤ i) : bt (nI b) i = false := by
  rw [← byte_and hb, b_and, b_255, decide_eq_false (by omega), Bool.and_false]
theorem bt_m {b i : Nat} (hb : b < 256) (hi : i < 8) : bt (nI b).toInt8.toInt32 i = bt (nI b) i := by
  have h : bt ((nI b).toInt8.toInt32 &&& 255) i = bt (nI b) i := congrArg (fun v => bt v i) (byte_mand hb)
  rw [b_and, b_255, decide_eq_true hi, Bool.and_true] at h
  exact h
theorem word_e {b0 b1 b2 b3 : Nat} (h0 : b0 < 256) (h1 : b1 < 256) (h2 : b2 < 256) (h3 : b3 < 256) : ((((((((0 : Int32) <<< ((8 : Int32) &&& 31)) ||| nI b0) <<< ((8 : Int32) &&& 31)) ||| nI b1) <<< ((8 : Int32) &&& 31)) ||| nI b2) <<< ((8 : Int32) &&& 31)) ||| nI b3 = ((((nI b0).toInt8.toInt32 <<< ((24 : Int32) &&& 31)) ||| (nI b1 <<< ((16 : Int32) &&& 31))) ||| (nI b2 <<< ((8 : Int32) &&& 31))) ||| nI b3 := b_ext fun i hi => by
  rw [b_or, b_shl8 _ hi, b_or, b_shl8 _ (show i - 8 < 32 by omega), b_or, b_shl8 _ (show i - 8 - 8 < 32 by omega), b_or, b_shl8 _ (show i - 8 - 8 - 8 < 32 by omega), b_0, b_or, b_or, b_or, b_shl24 _ hi, b_shl16 _ hi, b_shl8 _ hi, Bool.and_false, Bool.false_or]
  by_cases q8 : i < 8
  · rw [decide_eq_false (show ¬ 8 ≤ i by omega), decide_eq_false (show ¬ 16 ≤ i by omega), decide_eq_false (show ¬ 24 ≤ i by omega)]
    simp only [Bool.false_and, Bool.false_or]
  · by_cases q16 : i < 16
    · rw [decide_eq_true (show 8 ≤ i by omega), decide_eq_false (show ¬ 8 ≤ i - 8 by omega), decide_eq_false (show ¬ 16 ≤ i by omega), decide_eq_false (show ¬ 24 ≤ i by omega)]
      simp only [Bool.false_and, Bool.false_or, Bool.true_and]
    · by_cases q24 : i < 24
      · rw [decide_eq_true (show 8 ≤ i by omega), decide_eq_true (show 8 ≤ i - 8 by omega), decide_eq_false (show ¬ 8 ≤ i - 8 - 8 by omega), decide_eq_true (show 16 ≤ i by omega), decide_eq_false (show ¬ 24 ≤ i by omega), show i - 8 - 8 = i - 16 by omega]
        simp only [Bool.false_and, Bool.false_or, Bool.true_and]
      · rw [decide_eq_true (show 8 ≤ i by omega), decide_eq_true (show 8 ≤ i - 8 by omega), decide_eq_true (show 8 ≤ i - 8 - 8 by omega), decide_eq_true (show 16 ≤ i by omega), decide_eq_true (show 24 ≤ i by omega), bt_m h0 (show i - 24 < 8 by omega), show i - 8 - 8 - 8 = i - 24 by omega, show i - 8 - 8 = i - 16 by omega]
        simp only [Bool.true_and]
def wv (c : Nat → Int32) : Nat → Int32
  | 0 => 0
  | n + 1 => (wv c n <<< ((8 : Int32) &&& 31)) ||| c n
theorem xWord {x : Sto} {o : Nat} (ho : o + 4 ≤ 68) : fX5_wordAt (nI o) x = some (wv (fun k => gI x 53 0 (o + k)) 4) := by
  unfold fX5_wordAt
  refine (congrArg (fun o => Option.bind o _) (lp_seq0 (fun k => (nI k, wv (fun k => gI x 53 0 (o + k)) k)) (r := wv (fun k => gI x 53 0 (o + k)) 4) 4 4000 rfl (fun k hk => ?_) ?_ (by decide))).trans ?_
  · dsimp only [un2]
    rw [if_neg (show ¬ (4 : Int32) ≤ nI k from nI_gt (N := 4) (by decide) hk), nI_add, show lIX 53 0 = 68 from rfl, ck_t (by exact ixl (by omega) (by omega)), nI_cl (by omega), lt1_e, lt1_e, nI_s]
    rfl
  · dsimp only [un2]
    exact if_pos (show nI 4 ≤ nI 4 by decide)
  · rw [Option.bind_some]
theorem both_word {x t : Sto} {o : Nat} (ho : o + 4 ≤ 68) (hb : ∀ k, k < 4 → ∃ b, b < 256 ∧ gI x 53 0 (o + k) = nI b ∧ gI t 75 0 (o + k) = (nI b).toInt8.toInt32) : fX12_fourOf (nI o) t = fX5_wordAt (nI o) x := by
  obtain ⟨b0, p0, q0, r0⟩ := hb 0 (by decide)
  obtain ⟨b1, p1, q1, r1⟩ := hb 1 (by decide)
  obtain ⟨b2, p2, q2, r2⟩ := hb 2 (by decide)
  obtain ⟨b3, p3, q3, r3⟩ := hb 3 (by decide)
  rw [xWord ho]
  unfold fX12_fourOf
  rw [show nI o + (1 : Int32) = nI (o + 1) from nI_add o 1, show nI o + (2 : Int32) = nI (o + 2) from nI_add o 2, show nI o + (3 : Int32) = nI (o + 3) from nI_add o 3, show lBM 75 0 = 68 from rfl, ck_t (by exact ixl (by omega) (by omega)), ck_t (by exact ixl (by omega) (by omega)), ck_t (by exact ixl (by omega) (by omega)), ck_t (by exact ixl (by omega) (by omega)), nI_cl (n := o) (by omega), nI_cl (n := o + 1) (by omega), nI_cl (n := o + 2) (by omega), nI_cl (n := o + 3) (by omega), show gI t 75 0 o = _ from r0, r1, r2, r3, byte_mand p1, byte_mand p2, byte_mand p3, ← word_e p0 p1 p2 p3]
  show _ = some (((((((((0 : Int32) <<< ((8 : Int32) &&& 31)) ||| gI x 53 0 (o + 0)) <<< ((8 : Int32) &&& 31)) ||| gI x 53 0 (o + 1)) <<< ((8 : Int32) &&& 31)) ||| gI x 53 0 (o + 2)) <<< ((8 : Int32) &&& 31)) ||| gI x 53 0 (o + 3))
  rw [q0, q1, q2, q3]
theorem b_unpack {x m : Sto} (h : Rel x m) : ∃ r x' m', fX11_unpack x = some (r, x') ∧ fX12_unpack m = some (r, m') ∧ Rel x' m' := by
  have n1 : ¬ (1 : Int32) = 0 := by decide
  have c3 : ∀ q, q < 68 → ∃ b, b < 256 ∧ gI x 53 0 q = nI b ∧ gI (sI m 0 0 10 0) 75 0 q = (nI b).toInt8.toInt32 := fun q hq => (h.2.2.2.2.2.2.2 q hq).2
  have hsx : fX5_sumOf 53 0 x = some (hsum (fun q => gI x 53 0 q) 64) := xSum rfl
  have hsm : fX12_sumOf 75 0 (sI m 0 0 10 0) = some (hsum (fun q => gI x 53 0 q) 64) := mSum rfl (fun q hq => by
    obtain ⟨b, b1, b2, b3⟩ := c3 q (by omega)
    rw [b3, b2, byte_mand b1])
  obtain ⟨w, W⟩ : ∃ w : Nat → Int32, ∀ k, k < 17 → fX5_wordAt (nI (4 * k)) x = some (w k) := ⟨fun k => wv (fun j => gI x 53 0 (4 * k + j)) 4, fun k hk => xWord (by omega)⟩
  have V : ∀ k, k < 17 → fX12_fourOf (nI (4 * k)) (sI m 0 0 10 0) = some (w k) := fun k hk => (both_word (by omega) (fun j hj => c3 _ (by omega))).trans (W k hk)
  by_cases hS : hsum (fun q => gI x 53 0 q) 64 = w 16
  rotate_left
  · refine ⟨0, _, _, ?_, ?_, rel_no (v := 5) h⟩
    · unfold fX11_unpack fX5_hasRightSum
      rw [show fX5_wordAt (64 : Int32) x = some (w 16) from W 16 (by decide), Option.bind_some, hsx, Option.bind_some, if_neg (fun e => hS e.symm), Option.bind_some, if_pos rfl, xDenied, Option.bind_some]; exact un2_k0 _
    · unfold fX12_unpack
      rw [lt1_e, hsm, Option.bind_some, show fX12_fourOf (64 : Int32) (sI m 0 0 10 0) = some (w 16) from V 16 (by decide), Option.bind_some, if_neg hS, mNot, Option.bind_some]; exact un2_k0 _
  have hr : fX5_hasRightSum x = some 1 := by
    unfold fX5_hasRightSum
    rw [show fX5_wordAt (64 : Int32) x = some (w 16) from W 16 (by decide), Option.bind_some, hsx, Option.bind_some, if_pos hS.symm]
  obtain ⟨p, hp, pno, pyes⟩ := firstOf (fun k => fX7_isTaken (w k) = some 0) 16
  have ok : ∀ k, k < p → ∃ B, w k = nI B ∧ B ≤ 1073741824 ∧ fX7_isTaken (w k) = some 1 ∧ fX12_isFloat (w k) = some 1 := fun k hk => by
    rcases both_taken (w k) with q | ⟨q, _⟩
    · exact q
    · exact absurd q (pno k hk)
  by_cases p16 : p < 16
  · have z1 := pyes p16
    have z2 : fX12_isFloat (w p) = some 0 := by
      rcases both_taken (w p) with ⟨_, _, _, q, _⟩ | ⟨_, q⟩
      · rw [q] at z1; exact absurd z1 (by decide)
      · exact q
    refine ⟨0, _, _, ?_, ?_, rel_no (v := 3) h⟩
    · have ht : fX5_isTakenAll x = some 0 := by
        unfold fX5_isTakenAll
        refine (congrArg (fun o => Option.bind o _) (lp_seq0 (fun k => nI k) (r := (Sum.inl 0 : Int32 ⊕ Unit)) p 4000 rfl (fun k hk => ?_) ?_ (by omega))).trans ?_
        · obtain ⟨B, _, _, t1, _⟩ := ok k hk
          rw [if_neg (g16 (by omega)), four_e, W k (by omega), Option.bind_some, t1, Option.bind_some, if_neg n1, lt1_e, nI_s]
        · rw [if_neg (g16 p16), four_e, W p (by omega), Option.bind_some, z1, Option.bind_some, if_pos rfl]
        · rw [Option.bind_some]; rfl
      unfold fX11_unpack
      rw [hr, Option.bind_some, if_neg n1, ht, Option.bind_some, if_pos rfl, xDenied, Option.bind_some]; exact un2_k0 _
    · unfold fX12_unpack
      rw [lt1_e, hsm, Option.bind_some, show fX12_fourOf (64 : Int32) (sI m 0 0 10 0) = some (w 16) from V 16 (by decide), Option.bind_some, if_pos hS]
      refine (congrArg (fun o => Option.bind o _) (lp_seq0 (fun k => nI k) (r := (Sum.inl (0, sI (sI m 0 0 10 0) 0 0 9 3) : (Int32 × Sto) ⊕ Unit)) p 4000 rfl (fun k hk => ?_) ?_ (by omega))).trans ?_
      · obtain ⟨B, _, _, _, t1⟩ := ok k hk
        rw [if_neg (g16 (by omega)), four_e, V k (by omega), Option.bind_some, t1, Option.bind_some, if_neg n1, lt1_e, nI_s]
      · rw [if_neg (g16 p16), four_e, V p (by omega), Option.bind_some, z2, Option.bind_some, if_pos rfl, mNot, Option.bind_some]
        dsimp only [un2]
        rw [ck_t (by decide)]
      · rw [Option.bind_some]; rfl
  have p16 : p = 16 := by omega
  subst p16
  have ht : fX5_isTakenAll x = some 1 := by
    unfold fX5_isTakenAll
    refine (congrArg (fun o => Option.bind o _) (lp_seq0 (fun k => nI k) (r := (Sum.inr () : Int32 ⊕ Unit)) 16 4000 rfl (fun k hk => ?_) ?_ (by omega))).trans ?_
    · obtain ⟨B, _, _, t1, _⟩ := ok k hk
      rw [if_neg (g16 (by omega)), four_e, W k (by omega), Option.bind_some, t1, Option.bind_some, if_neg n1, lt1_e, nI_s]
    · exact if_pos (show nI 16 ≤ nI 16 by decide)
    · rw [Option.bind_some]; rfl
  have hread : fX5_read 1 0 x = some (putF x 1 0 16 (fun k => (w k).toUInt32)) := by
    unfold fX5_read
    rw [loopF (f := 1) (i := 0) (fun k => (w k).toUInt32) 16 (by decide) (fun k hk => by
      obtain ⟨B, t1, t2, _, _⟩ := ok k hk
      dsimp only [un2]
      rw [if_neg (g16 hk), four_e, show fX5_wordAt (nI (4 * k)) (putF x 1 0 k (fun k => (w k).toUInt32)) = some (w k) from W k (by omega), Option.bind_some, show fX7_floatOf (w k) = some (w k).toUInt32 from by rw [t1]; exact floatOf_spec t2, Option.bind_some, show lFX 1 0 = 16 from rfl, ck_t (by exact ixl (by omega) (by omega)), nI_cl (by omega), lt1_e, lt1_e, nI_s]) (by dsimp only [un2]; exact if_pos (show nI 16 ≤ nI 16 by decide)), Option.bind_some]
  refine ⟨1, sI (putF x 1 0 16 (fun k => (w k).toUInt32)) 0 0 19 0, sI (putO (sI m 0 0 10 0) 1 0 0 16 (fun k => (w k).toUInt32)) 0 0 9 0, ?_, ?_, ?_, rfl, ?_⟩
  · unfold fX11_unpack
    rw [hr, Option.bind_some, if_neg n1, ht, Option.bind_some, if_neg n1, hread, Option.bind_some, xAccept, Option.bind_some]; exact un2_k1 _
  · unfold fX12_unpack
    rw [lt1_e, hsm, Option.bind_some, show fX12_fourOf (64 : Int32) (sI m 0 0 10 0) = some (w 16) from V 16 (by decide), Option.bind_some, if_pos hS]
    refine (congrArg (fun o => Option.bind o _) (lp_seq0 (fun k => nI k) (r := (Sum.inr () : (Int32 × Sto) ⊕ Unit)) 16 4000 rfl (fun k hk => ?_) ?_ (by omega))).trans ?_
    · obtain ⟨B, _, _, _, t1⟩ := ok k hk
      rw [if_neg (g16 (by omega)), four_e, V k (by omega), Option.bind_some, t1, Option.bind_some, if_neg n1, lt1_e, nI_s]
    · exact if_pos (show nI 16 ≤ nI 16 by decide)
    · rw [Option.bind_some]
      dsimp only [sm]
      rw [loopO (f := 1) (i := 0) (o := 0) (fun k => (w k).toUInt32) 16 (by decide) (fun k hk => by
        obtain ⟨B, t1, t2, _, _⟩ := ok k hk
        dsimp only [un2]
        rw [if_neg (g16 hk), four_e, show fX12_fourOf (nI (4 * k)) (putO (sI m 0 0 10 0) 1 0 0 k (fun k => (w k).toUInt32)) = some (w k) from V k (by omega), Option.bind_some, ck_t (show vn_sni2f (w k) = false by rw [t1]; exact sni_nI t2), show lFM 1 0 = 2176 from rfl, ck_t (by exact ixl (by omega) (by omega)), nI_cl (by omega), lt1_e, lt1_e, nI_s, Nat.zero_add]) (by dsimp only [un2]; exact if_pos (show nI 16 ≤ nI 16 by decide)), Option.bind_some, lt1_e]
  · exact RelC_keep (KX_t (KX_pF (by decide)) (KX_I (by decide))) (KM_t (KM_t (KM_I (by decide)) (KM_O (by omega))) (KM_I (by decide))) h.1
  · refine Cur_row (x := x) (m := m) (fun f i j q => ?_) (fun _ _ => putF_g (by omega)) (fun _ _ _ _ => rfl) rfl (fun f i j q => ?_) (fun j _ _ => ?_) rfl rfl (fun k hk => ?_) h.2.2
    · rw [gI_sI, if_neg (by omega)]; rfl
    · rw [gI_sI, if_neg (by omega)]
      show gI (sI m 0 0 10 0) f i j = _
      rw [gI_sI, if_neg (by omega)]
    · show gF (putO (sI m 0 0 10 0) 1 0 0 16 (fun k => (w k).toUInt32)) 1 0 j = _
      rw [putO_g (by omega)]; rfl
    · obtain ⟨B, t1, t2, _, _⟩ := ok k hk
      have q1 : gF (sI (putF x 1 0 16 (fun k => (w k).toUInt32)) 0 0 19 0) 1 0 k = (w k).toUInt32 := putF_h hk
      have q2 : gF (sI (putO (sI m 0 0 10 0) 1 0 0 16 (fun k => (w k).toUInt32)) 0 0 9 0) 1 0 k = (w k).toUInt32 := by
        have := putO_h (s := sI m 0 0 10 0) (f := 1) (i := 0) (o := 0) (v := fun k => (w k).toUInt32) hk
        rw [Nat.zero_add] at this
        exact this
      rw [q1, q2, t1]
      exact ⟨fl2_nI t2, rfl⟩
