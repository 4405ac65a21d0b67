/-! ===== pack, letter, post, by both ===== -/
theorem gI_cI (s : Sto) (f i sp g j dp n a b c : Nat) : gI (cI s f i sp g j dp n) a b c = if a = g ∧ b = j ∧ dp ≤ c ∧ c < dp + n then gI s f i (sp + (c - dp)) else gI s a b c := rfl
theorem Fill_c {f o n : Nat} {c d : Nat → Int32} {s t : Sto} (h : Fill f o n c s t) (e : ∀ j, j < n → c j = d j) : Fill f o n d s t := ⟨fun g i j => by
  rw [h.1]
  by_cases q : g = f ∧ i = 0 ∧ o ≤ j ∧ j < o + n
  · rw [if_pos q, if_pos q]; exact e _ (by omega)
  · rw [if_neg q, if_neg q], h.2⟩
theorem four_e (k : Nat) : (4 : Int32) * nI k = nI (4 * k) := pk_mul 4 k
/-- the class writes a row -/
theorem xWrite {x : Sto} {f j : Nat} (hl : lFX f j = 16) (hf : ∀ k, k < 16 → fl2 (gF x f j k)) : ∃ u, fX5_write f j x = some u ∧ (u.1 = 68 ∧ ∃ v, u.2 = sI v 17 0 1 68 ∧ Fill 52 0 68 (fun q => if q < 64 then xB (gF x f j (q / 4)).toInt32 (q % 4) else xB (hsum (fun q => xB (gF x f j (q / 4)).toInt32 (q % 4)) 64) (q - 64)) x v) := by
  unfold fX5_write
  refine ex_bind (lp_inv (fun k (s : Int32 × Sto) => s.1 = nI k ∧ Fill 52 0 (4 * k) (fun q => xB (gF x f j (q / 4)).toInt32 (q % 4)) x s.2) (fun r => Fill 52 0 64 (fun q => xB (gF x f j (q / 4)).toInt32 (q % 4)) x r) 16 (fun k s hk hI => ?_) 16 4000 0 _ rfl ⟨rfl, Fill_0 _ _ _ _⟩ (by decide)) (fun r hr => ?_)
  · obtain ⟨s1, s2⟩ := s
    obtain ⟨hI1, hI2⟩ := hI
    have hI1 : s1 = nI k := hI1
    have hI2 : Fill 52 0 (4 * k) (fun q => xB (gF x f j (q / 4)).toInt32 (q % 4)) x s2 := hI2
    subst hI1
    dsimp only [un2]
    by_cases q : k = 16
    · subst q
      exact Or.inl ⟨s2, if_pos (show nI 16 ≤ nI 16 by decide), hI2⟩
    · obtain ⟨u, h1, h2⟩ := xPut (gF x f j k).toInt32 (t := s2) (o := 4 * k) (by omega)
      obtain ⟨n1, n2, _⟩ := fbits_fl2 (hf k (by omega))
      refine Or.inr ⟨by omega, (nI (k + 1), u), ?_, rfl, ?_⟩
      · rw [if_neg (g16 (by omega)), hl, ck_t (by exact ixl (by omega) (by omega)), nI_cl (by omega), hI2.2.1, nd_t n1, n2, Option.bind_some, four_e, h1, Option.bind_some, lt1_e, nI_s]
      · refine Fill_a (n := 4 * k) (k := 4) (d := xB (gF x f j k).toInt32) hI2 (by rw [Nat.zero_add]; exact h2) (fun i hi => ?_)
        rw [show (4 * k + i) / 4 = k by omega, show (4 * k + i) % 4 = i by omega]
  · have hS : hsum (fun q => gI r 52 0 q) 64 = hsum (fun q => xB (gF x f j (q / 4)).toInt32 (q % 4)) 64 := hsum_c 64 (fun k hk => by rw [hr.1, if_pos (by omega)]; rfl)
    rw [xSum (t := r) (f := 52) (i := 0) rfl, Option.bind_some, hS]
    obtain ⟨u, h1, h2⟩ := xPut (hsum (fun q => xB (gF x f j (q / 4)).toInt32 (q % 4)) 64) (t := r) (o := 64) (by decide)
    rw [show fX5_put (64 : Int32) (hsum (fun q => xB (gF x f j (q / 4)).toInt32 (q % 4)) 64) r = some u from h1, Option.bind_some, lt1_e]
    refine ⟨_, rfl, rfl, u, rfl, ?_⟩
    exact Fill_a (n := 64) (k := 4) (Fill_c hr (fun i hi => (if_pos hi).symm)) (by rw [Nat.zero_add]; exact h2) (fun i hi => by rw [if_neg (by omega), Nat.add_sub_cancel_left])
/-- the reference writes a row -/
theorem mWrite {x t : Sto} {f j p : Nat} (hp : p < 135) (hf : ∀ k, k < 16 → fl2 (gF x f j k) ∧ gF t 1 0 (16 * p + k) = gF x f j k) : ∃ u, ((lp (σ := (Int32 × Sto)) (ρ := Sto) (un2 fun (v8 : Int32) (t9 : Sto) =>
       if (16 : Int32) ≤ v8 then (
        some (.inr t9)) else (
        ck (0 ≤ (((16 : Int32) * nI p) + v8).toInt ∧ (((16 : Int32) * nI p) + v8).toInt < (lFM (1) (0) : Int)) (
         (fmJxf58ca_floatToIntBits_5c35a (gF t9 (1) (0) ((((16 : Int32) * nI p) + v8).toNatClampNeg))).bind (fun (v17 : Int32) =>
          (fX12_four ((4 : Int32) * v8) v17 t9).bind (fun (t19 : Sto) =>
           lt1 (v8 + Int32.ofInt (1)) fun (v21 : Int32) =>
           some (.inl (v21, t19))))))) 4000 ((0 : Int32), t)).bind
     (fun (t10 : Sto) =>
      (fX12_sumOf (74) (0) t10).bind (fun (v22 : Int32) =>
       (fX12_four (64 : Int32) v22 t10).bind (fun (t24 : Sto) =>
        lt1 (sI t24 0 (0) 75 (68 : Int32)) fun (t26 : Sto) =>
        some ((68 : Int32), t26))))) = some u ∧ (u.1 = 68 ∧ ∃ v, u.2 = sI v 0 0 75 68 ∧ Fill 74 0 68 (fun q => if q < 64 then mB (gF x f j (q / 4)).toInt32 (q % 4) else mB (hsum (fun q => xB (gF x f j (q / 4)).toInt32 (q % 4)) 64) (q - 64)) t v) := by
  refine ex_bind (lp_inv (fun k (s : Int32 × Sto) => s.1 = nI k ∧ Fill 74 0 (4 * k) (fun q => mB (gF x f j (q / 4)).toInt32 (q % 4)) t s.2) (fun r => Fill 74 0 64 (fun q => mB (gF x f j (q / 4)).toInt32 (q % 4)) t r) 16 (fun k s hk hI => ?_) 16 4000 0 _ rfl ⟨rfl, Fill_0 _ _ _ _⟩ (by decide)) (fun r hr => ?_)
  · obtain ⟨s1, s2⟩ := s
    obtain ⟨hI1, hI2⟩ := hI
    have hI1 : s1 = nI k := hI1
    have hI2 : Fill 74 0 (4 * k) (fun q => mB (gF x f j (q / 4)).toInt32 (q % 4)) t s2 := hI2
    subst hI1
    dsimp only [un2]
    by_cases q : k = 16
    · subst q
      exact Or.inl ⟨s2, if_pos (show nI 16 ≤ nI 16 by decide), hI2⟩
    · obtain ⟨u, h1, h2⟩ := mFour (gF x f j k).toInt32 (t := s2) (o := 4 * k) (by omega)
      obtain ⟨_, _, n3⟩ := fbits_fl2 (hf k (by omega)).1
      have e16 : ((16 : Int32) * nI p) + nI k = nI (16 * p + k) := by
        show nI 16 * nI p + nI k = _
        simp only [pk_mul, nI_add]
      refine Or.inr ⟨by omega, (nI (k + 1), u), ?_, rfl, ?_⟩
      · rw [if_neg (g16 (by omega)), e16, show lFM 1 0 = 2176 from rfl, ck_t (by exact ixl (by omega) (by omega)), nI_cl (by omega), hI2.2.1, (hf k (by omega)).2, n3, Option.bind_some, four_e, h1, Option.bind_some, lt1_e, nI_s]
      · refine Fill_a (n := 4 * k) (k := 4) (d := mB (gF x f j k).toInt32) hI2 (by rw [Nat.zero_add]; exact h2) (fun i hi => ?_)
        rw [show (4 * k + i) / 4 = k by omega, show (4 * k + i) % 4 = i by omega]
  · rw [mSum (t := r) (f := 74) (i := 0) (c := fun q => xB (gF x f j (q / 4)).toInt32 (q % 4)) rfl (fun q hq => by
      obtain ⟨b, b1, b2, b3⟩ := byte_both (gF x f j (q / 4)).toInt32 (k := q % 4) (by omega)
      rw [hr.1, if_pos (by omega), show q - 0 = q from rfl]
      dsimp only
      rw [b3, b2, byte_mand b1]), Option.bind_some]
    obtain ⟨u, h1, h2⟩ := mFour (hsum (fun q => xB (gF x f j (q / 4)).toInt32 (q % 4)) 64) (t := r) (o := 64) (by decide)
    rw [show fX12_four (64 : Int32) (hsum (fun q => xB (gF x f j (q / 4)).toInt32 (q % 4)) 64) r = some u from h1, Option.bind_some, lt1_e]
    refine ⟨_, rfl, rfl, u, rfl, ?_⟩
    exact Fill_a (n := 64) (k := 4) (Fill_c hr (fun i hi => (if_pos hi).symm)) (by rw [Nat.zero_add]; exact h2) (fun i hi => by rw [if_neg (by omega), Nat.add_sub_cancel_left])
theorem b_pack {x m : Sto} (h : Rel x m) (s i : Int32) : ∃ r x' m', fX11_pack s i x = some (r, x') ∧ fX12_pack s i m = some (r, m') ∧ Rel x' m' := by
  rcases both_spec h s i with ⟨f, j, p, e1, e2, hp, hl, hs, hf, _⟩ | ⟨e1, e2, _⟩
  · obtain ⟨⟨_, x'⟩, u1, rfl, v, rfl, u4⟩ := xWrite hl (fun k hk => (hs k hk).1)
    obtain ⟨⟨_, m'⟩, w1, rfl, z, rfl, w4⟩ := mWrite (t := sI m 0 0 10 0) hp hs
    refine ⟨68, sI v 17 0 1 68, sI z 0 0 75 68, ?_, ?_, ?_, ?_, ?_⟩
    · unfold fX11_pack
      rw [e1, Option.bind_some]
      show (fX5_write f j x).bind _ = _
      rw [u1, Option.bind_some]; rfl
    · unfold fX12_pack
      rw [lt1_e, e2, Option.bind_some, if_neg (nI_ne1 (by omega))]
      exact w1
    · refine RelC_keep ⟨fun a b c q => ?_, fun a b c q => ?_, fun a b c q => ?_⟩ ⟨fun a b c q => ?_, fun a b c q => ?_, fun a b c q => ?_⟩ h.1
      · rw [gI_sI, if_neg (by omega), u4.1, if_neg (by omega)]
      · show gF v a b c = _
        rw [u4.2.1]
      · show gD v a b c = _
        rw [u4.2.2.1]
      · rw [gI_sI, if_neg (by omega), w4.1, if_neg (by omega), gI_sI, if_neg (by omega)]
      · show gF z a b c = _
        rw [w4.2.1]; rfl
      · show gD z a b c = _
        rw [w4.2.2.1]; rfl
    · rw [gI_sI, if_neg (by omega), w4.1, if_neg (by omega), gI_sI, if_neg (by omega), gI_sI, if_neg (by omega), u4.1, if_neg (by omega)]
      exact h.2.1
    · refine Cur_mail (fun a b c q => ?_) (fun a b c q => ?_) (fun a b c q => ?_) ?_ (fun a b c q => ?_) (fun c q => ?_) ?_ ?_ ⟨⟨?_, Or.inr ?_⟩, fun q hq => ⟨?_, ?_⟩⟩ h.2.2
      · rw [gI_sI, if_neg (by omega), u4.1, if_neg (by omega)]
      · show gF v a b c = _
        rw [u4.2.1]
      · show gD v a b c = _
        rw [u4.2.2.1]
      · exact u4.2.2.2
      · rw [gI_sI, if_neg (by omega), w4.1, if_neg (by omega), gI_sI, if_neg (by omega)]
      · show gF z 1 0 c = _
        rw [w4.2.1]; rfl
      · show gD z 0 0 64 = _
        rw [w4.2.2.1]; rfl
      · show gL z 0 0 65 = _
        rw [w4.2.2.2]; rfl
      · rfl
      · rfl
      · rw [gI_sI, if_neg (by omega), u4.1, if_pos (by omega), gI_sI, if_neg (by omega), w4.1, if_pos (by omega), show q - 0 = q from rfl]
        dsimp only
        by_cases e : q < 64
        · rw [if_pos e, if_pos e]; exact byte_both _ (by omega)
        · rw [if_neg e, if_neg e]; exact byte_both _ (by omega)
      · rw [gI_sI, if_neg (by omega), u4.1, if_neg (by omega), gI_sI, if_neg (by omega), w4.1, if_neg (by omega), gI_sI, if_neg (by omega)]
        exact (h.2.2.2.2.2.2.2 q hq).2
  · refine ⟨-1, x, sI m 0 0 10 0, ?_, ?_, rel_th h⟩
    · unfold fX11_pack
      rw [e1, Option.bind_some]; rfl
    · unfold fX12_pack
      rw [lt1_e, e2, Option.bind_some, if_pos rfl]
theorem b_letter {x m : Sto} (h : Rel x m) (p v : Int32) : ∃ r x' m', fX11_letter p v x = some (r, x') ∧ fX12_letter p v m = some (r, m') ∧ Rel x' m' := by
  have n1 : ¬ (1 : Int32) = 0 := by decide
  rcases mIs (n := 68) (by decide) p with ⟨q, rfl, hq, e1⟩ | ⟨q, e1⟩
  rotate_left
  · refine ⟨0, x, sI m 0 0 10 0, ?_, ?_, rel_th h⟩
    · unfold fX11_letter
      rcases not_ix (by decide) q with z | ⟨z1, z2, _⟩
      · rw [if_pos z]
      · rw [if_neg z1, if_pos (show (68 : Int32) ≤ p from z2)]
    · unfold fX12_letter
      rw [lt1_e, show fX12_is p (68 : Int32) = some 0 from e1, Option.bind_some, if_pos rfl]
  have e1 : fX12_is (nI q) (68 : Int32) = some 1 := e1
  have e3 : ¬ (68 : Int32) ≤ nI q := nI_gt (N := 68) (by decide) hq
  rcases mIs (n := 256) (by decide) v with ⟨b, rfl, hb, e2⟩ | ⟨q2, e2⟩
  rotate_left
  · refine ⟨0, x, sI m 0 0 10 0, ?_, ?_, rel_th h⟩
    · unfold fX11_letter
      rw [if_neg (nI_lt0 (by omega)), if_neg e3]
      rcases not_ix (by decide) q2 with z | ⟨z1, z2, _⟩
      · rw [if_pos z]
      · rw [if_neg z1, if_neg (show ¬ v ≤ (255 : Int32) from fun z => by
          have h1 := Int32.le_iff_toInt_le.mp z2
          have h2 := Int32.le_iff_toInt_le.mp z
          rw [nI_toInt (by decide)] at h1
          rw [show (255 : Int32).toInt = 255 from rfl] at h2
          omega)]
    · unfold fX12_letter
      rw [lt1_e, e1, Option.bind_some, if_neg n1, show fX12_is v (256 : Int32) = some 0 from e2, Option.bind_some, if_pos rfl]
  have e2 : fX12_is (nI b) (256 : Int32) = some 1 := e2
  have e4 : nI b ≤ (255 : Int32) := by
    rw [Int32.le_iff_toInt_le, nI_toInt (by omega), show (255 : Int32).toInt = 255 from rfl]; omega
  refine ⟨1, sI x 53 0 q (nI b), sI (sI m 0 0 10 0) 75 0 q (nI b).toInt8.toInt32, ?_, ?_, RelC_keep (KX_I (by omega)) (KM_t (KM_I (by decide)) (KM_I (by omega))) h.1, ?_, ?_⟩
  · unfold fX11_letter
    rw [if_neg (nI_lt0 (by omega)), if_neg e3, if_neg (nI_lt0 (by omega)), if_pos e4, show lIX 53 0 = 68 from rfl, ck_t (by exact ixl (by omega) (by omega)), nI_cl (by omega), lt1_e]
  · unfold fX12_letter
    rw [lt1_e, e1, Option.bind_some, if_neg n1, e2, Option.bind_some, if_neg n1, show lBM 75 0 = 68 from rfl, ck_t (by exact ixl (by omega) (by omega)), nI_cl (by omega), vp_nar_byte, byte_8, lt1_e]
  · exact h.2.1
  · refine Cur_mail (x := x) (m := m) (fun a b c q => ?_) (fun _ _ _ _ => rfl) (fun _ _ _ _ => rfl) rfl (fun a b c q => ?_) (fun _ _ => rfl) rfl rfl ⟨⟨?_, ?_⟩, fun k hk => ⟨?_, ?_⟩⟩ h.2.2
    · rw [gI_sI, if_neg (by omega)]
    · rw [gI_sI, if_neg (by omega), gI_sI, if_neg (by omega)]
    · exact h.2.2.2.2.2.2.1.1
    · exact h.2.2.2.2.2.2.1.2
    · exact (h.2.2.2.2.2.2.2 k hk).1
    · rw [gI_sI, gI_sI]
      by_cases e : k = q
      · rw [if_pos ⟨rfl, rfl, e⟩, if_pos ⟨rfl, rfl, e⟩]; exact ⟨b, hb, rfl, rfl⟩
      · rw [if_neg (by omega), if_neg (by omega), gI_sI, if_neg (by omega)]; exact (h.2.2.2.2.2.2.2 k hk).2
theorem b_post {x m : Sto} (h : Rel x m) : ∃ r x' m', fX11_post x = some (r, x') ∧ fX12_post m = some (r, m') ∧ Rel x' m' := by
  obtain ⟨⟨c1, c2⟩, c3⟩ := h.2.2.2.2.2.2
  have q75 : gI (sI m 0 0 10 0) 0 0 75 = gI x 17 0 1 := c1
  rcases c2 with z | z
  · refine ⟨0, x, sI m 0 0 10 0, ?_, ?_, rel_th h⟩
    · unfold fX11_post
      rw [z, if_neg (show ¬ nI 0 = (68 : Int32) by decide)]
    · unfold fX12_post
      rw [lt1_e, q75, z, if_neg (show ¬ nI 0 = (68 : Int32) by decide)]
  · have hM : ∃ r, fX12_post m = some r ∧ (r.1 = 1 ∧ Fill 75 0 68 (fun q => gI m 74 0 q) (sI m 0 0 10 0) r.2) := by
      unfold fX12_post
      rw [lt1_e, q75, z, if_pos (show nI 68 = (68 : Int32) from rfl)]
      refine ex_bind (lp_inv (fun k (s : Int32 × Sto) => s.1 = nI k ∧ Fill 75 0 k (fun q => gI m 74 0 q) (sI m 0 0 10 0) s.2) (fun r => Fill 75 0 68 (fun q => gI m 74 0 q) (sI m 0 0 10 0) r) 68 (fun k s hk hI => ?_) 68 4000 0 _ rfl ⟨rfl, Fill_0 _ _ _ _⟩ (by decide)) (fun r hr => ⟨_, rfl, rfl, hr⟩)
      obtain ⟨s1, s2⟩ := s
      obtain ⟨hI1, hI2⟩ := hI
      have hI1 : s1 = nI k := hI1
      have hI2 : Fill 75 0 k (fun q => gI m 74 0 q) (sI m 0 0 10 0) s2 := hI2
      subst hI1
      dsimp only [un2]
      by_cases q : k = 68
      · subst q
        exact Or.inl ⟨s2, if_pos (show nI 68 ≤ nI 68 by decide), hI2⟩
      · obtain ⟨b, b1, b2, b3⟩ := (c3 k (by omega)).1
        have e74 : gI s2 74 0 k = gI m 74 0 k := by rw [hI2.1, if_neg (by omega), gI_sI, if_neg (by omega)]
        refine Or.inr ⟨by omega, (nI (k + 1), sI s2 75 0 (0 + k) (gI m 74 0 k)), ?_, rfl, Fill_s hI2⟩
        rw [if_neg (show ¬ (68 : Int32) ≤ nI k from nI_gt (N := 68) (by decide) (by omega)), show lBM 74 0 = 68 from rfl, show lBM 75 0 = 68 from rfl, ck_t (by exact ixl (by omega) (by omega)), ck_t (by exact ixl (by omega) (by omega)), nI_cl (by omega), e74, b3, vp_nar_byte, byte_8, lt1_e, lt1_e, nI_s, Nat.zero_add]
    obtain ⟨⟨_, m'⟩, u1, rfl, u2⟩ := hM
    have u2 : Fill 75 0 68 (fun q => gI m 74 0 q) (sI m 0 0 10 0) m' := u2
    refine ⟨1, cI x 52 0 0 53 0 0 68, m', ?_, u1, RelC_keep ⟨fun a b c q => ?_, fun a b c q => rfl, fun a b c q => rfl⟩ ⟨fun a b c q => ?_, fun a b c q => ?_, fun a b c q => ?_⟩ h.1, ?_, ?_⟩
    · unfold fX11_post
      rw [z, if_pos (show nI 68 = (68 : Int32) from rfl), ck_t (by decide), lt1_e]
    · rw [gI_cI, if_neg (by omega)]
    · rw [u2.1, if_neg (by omega), gI_sI, if_neg (by omega)]
    · rw [u2.2.1]; rfl
    · rw [u2.2.2.1]; rfl
    · rw [u2.1, if_neg (by omega), gI_sI, if_neg (by omega), gI_cI, if_neg (by omega)]; exact h.2.1
    · refine Cur_mail (x := x) (m := m) (fun a b c q => ?_) (fun _ _ _ _ => rfl) (fun _ _ _ _ => rfl) rfl (fun a b c q => ?_) (fun c q => ?_) ?_ ?_ ⟨⟨?_, ?_⟩, fun k hk => ⟨?_, ?_⟩⟩ h.2.2
      · rw [gI_cI, if_neg (by omega)]
      · rw [u2.1, if_neg (by omega), gI_sI, if_neg (by omega)]
      · rw [u2.2.1]; rfl
      · rw [u2.2.2.1]; rfl
      · rw [u2.2.2.2]; rfl
      · rw [u2.1, if_neg (by omega), q75, gI_cI, if_neg (by omega)]
      · rw [gI_cI, if_neg (by omega)]; exact Or.inr z
      · rw [u2.1, if_neg (by omega), gI_sI, if_neg (by omega), gI_cI, if_neg (by omega)]; exact (c3 k hk).1
      · rw [u2.1, if_pos (by omega), gI_cI, if_pos (by omega), show 0 + (k - 0) = k by omega, show k - 0 = k from rfl]; exact (c3 k hk).1
