/-! ===== the row ===== -/
theorem oq_e0 {γ : Type} {a : γ} {b : Nat → Nat → γ} : oq none a b = a := rfl
theorem oq_e1 {γ : Type} {a : γ} {b : Nat → Nat → γ} {f i : Nat} : oq (some (f, i)) a b = b f i := rfl
theorem Cur_row {x y m n : Sto} (a1 : ∀ f i j, (f = 0 ∧ j < 19) ∨ f = 12 ∨ f = 16 ∨ f = 17 ∨ f = 35 ∨ f = 37 ∨ (50 ≤ f ∧ f ≤ 53) → gI y f i j = gI x f i j) (a2 : ∀ i j, gF y 2 i j = gF x 2 i j) (a3 : ∀ f i j, f = 13 ∨ f = 16 → gD y f i j = gD x f i j) (a4 : gL y = gL x) (b1 : ∀ f i j, (f = 0 ∧ (j = 8 ∨ j = 32 ∨ j = 52 ∨ j = 55 ∨ j = 57 ∨ j = 71 ∨ j = 75)) ∨ (27 ≤ f ∧ f ≤ 32) ∨ f = 64 ∨ f = 70 ∨ f = 74 ∨ f = 75 → gI n f i j = gI m f i j) (b2 : ∀ j, 784 ≤ j → j < 800 → gF n 1 0 j = gF m 1 0 j) (b3 : gD n 0 0 64 = gD m 0 0 64) (b4 : gL n 0 0 65 = gL m 0 0 65) (row : ∀ k, k < 16 → fl2 (gF y 1 0 k) ∧ gF n 1 0 k = gF y 1 0 k) (h : Cur x m) : Cur y n := by
  have h0 := Cur_f (x := x) (y := (y.1, fun a b c => if a = 1 then gF x a b c else gF y a b c, y.2.2)) (m := m) (n := (n.1, fun a b c => if a = 1 ∧ c < 16 then gF m a b c else gF n a b c, n.2.2)) ⟨a1, fun f i j q => ?_, a3, a4⟩ ⟨b1, fun j q => ?_, b3, b4⟩ h
  · obtain ⟨⟨_, ⟨p1, p2, p3⟩, q1, q2⟩, w1, w2, w3, w4⟩ := h0
    refine ⟨⟨row, ⟨p1, p2, fun z k hk => ?_⟩, q1, q2⟩, w1, w2, w3, w4⟩
    obtain ⟨z1, z2⟩ := p3 z k hk
    have e1 : gF (y.1, fun a b c => if a = 1 then gF x a b c else gF y a b c, y.2.2) 2 0 k = gF y 2 0 k := rfl
    have e2 : gF (n.1, fun a b c => if a = 1 ∧ c < 16 then gF m a b c else gF n a b c, n.2.2) 1 0 (784 + k) = gF n 1 0 (784 + k) := if_neg (by omega)
    rw [e1] at z1 z2
    rw [e2] at z2
    exact ⟨z1, z2⟩
  · rcases q with rfl | rfl
    · rfl
    · exact a2 i j
  · rcases q with q | ⟨q1, q2⟩
    · exact if_pos ⟨rfl, q⟩
    · exact (if_neg (by omega)).trans (b2 j q1 q2)
theorem row_set {x m : Sto} {i : Nat} {v : UInt32} (hv : fl2 v) (h : ∀ k, k < 16 → fl2 (gF x 1 0 k) ∧ gF m 1 0 k = gF x 1 0 k) : ∀ k, k < 16 → fl2 (gF (sF x 1 0 i v) 1 0 k) ∧ gF (sF m 1 0 i v) 1 0 k = gF (sF x 1 0 i v) 1 0 k := fun k hk => by
  rw [gF_sF, gF_sF]
  by_cases e : k = i
  · rw [if_pos ⟨rfl, rfl, e⟩, if_pos ⟨rfl, rfl, e⟩]; exact ⟨hv, rfl⟩
  · rw [if_neg (by omega), if_neg (by omega)]; exact h k hk
theorem both_taken (v : Int32) : (∃ B, v = nI B ∧ B ≤ 1073741824 ∧ fX7_isTaken v = some 1 ∧ fX12_isFloat v = some 1) ∨ (fX7_isTaken v = some 0 ∧ fX12_isFloat v = some 0) := by
  rcases rng v 0 1073741824 (by decide) (by decide) with ⟨j, e1, e2, e3, e4, e5, _, _⟩ | ⟨e, _⟩
  · refine Or.inl ⟨j, e1, e3, ?_, ?_⟩
    · unfold fX7_isTaken
      rw [if_neg (show ¬ v < 0 from e4), if_neg (show ¬ (1073741824 : Int32) < v from e5)]
    · unfold fX12_isFloat
      rw [if_neg (show ¬ v < 0 from e4), if_neg (show ¬ (1073741824 : Int32) < v from e5)]
  · refine Or.inr ⟨?_, ?_⟩
    · unfold fX7_isTaken
      rcases e with e | ⟨e, e', _⟩
      · exact if_pos e
      · exact (if_neg e).trans (if_pos e')
    · unfold fX12_isFloat
      rcases e with e | ⟨e, e', _⟩
      · exact if_pos e
      · exact (if_neg e).trans (if_pos e')
theorem fl2_nI {B : Nat} (h : B ≤ 1073741824) : fl2 (nI B).toUInt32 := by
  unfold fl2
  rw [nI_u32 (by omega)]; exact h
theorem sni_nI {B : Nat} (h : B ≤ 1073741824) : vn_sni2f (nI B) = false := by
  have hv : vf_n32 (nI B).toUInt32 := n32_of (fl2_ffn (fl2_nI h))
  have h2 : ¬ ((nI B).toUInt32 &&& 0x7fffffff > 0x7f800000) := UInt32.not_lt.mpr hv
  unfold vn_sni2f
  rw [decide_eq_false h2]; rfl
theorem b_bands {x m : Sto} (h : Rel x m) (k a b c d : Int32) : ∃ r x' m', fX11_bands k a b c d x = some (r, x') ∧ fX12_bands k a b c d m = some (r, m') ∧ Rel x' m' := by
  have n1 : ¬ (1 : Int32) = 0 := by decide
  have no : fX11_bands k a b c d x = some (0, x) → fX12_bands k a b c d m = some (0, sI m 0 0 10 0) → ∃ r x' m', fX11_bands k a b c d x = some (r, x') ∧ fX12_bands k a b c d m = some (r, m') ∧ Rel x' m' := fun p q => ⟨0, _, _, p, q, rel_th h⟩
  rcases mIs (n := 4) (by decide) k with ⟨k, rfl, hk, e⟩ | ⟨q, e⟩
  rotate_left
  · refine no ?_ ?_
    · unfold fX11_bands
      rcases pk_ix k (n := 4) (by decide) with z | z | ⟨j, z1, z2⟩
      · exact if_pos z
      · have z0 : ¬ k < 0 := fun w => by
          have h1 := Int32.le_iff_toInt_le.mp z
          have h2 := Int32.lt_iff_toInt_lt.mp w
          rw [nI_toInt (by decide)] at h1
          rw [show (0 : Int32).toInt = 0 from rfl] at h2
          omega
        have z3 : ¬ k ≤ (3 : Int32) := fun w => by
          have h1 := Int32.le_iff_toInt_le.mp z
          have h2 := Int32.le_iff_toInt_le.mp w
          rw [nI_toInt (by decide)] at h1
          rw [show (3 : Int32).toInt = 3 from rfl] at h2
          omega
        rw [if_neg z0, if_neg z3]
      · exact absurd z2 (q j z1)
    · unfold fX12_bands
      rw [lt1_e, show fX12_is k (4 : Int32) = some 0 from e, Option.bind_some, if_pos rfl]
  have k0 := nI_lt0 (a := k) (by omega)
  have k3 : nI k ≤ (3 : Int32) := (nI_leI (b := 3) (by omega) (by decide)).mpr (by omega)
  have e : fX12_is (nI k) (4 : Int32) = some 1 := e
  rcases both_taken a with ⟨A, rfl, a1, a2, a3⟩ | ⟨a2, a3⟩
  rotate_left
  · refine no ?_ ?_
    · unfold fX11_bands
      rw [if_neg k0, if_pos k3, a2, Option.bind_some, if_pos rfl]
    · unfold fX12_bands
      rw [lt1_e, e, Option.bind_some, if_neg n1, a3, Option.bind_some, if_pos rfl]
  rcases both_taken b with ⟨B, rfl, b1, b2, b3⟩ | ⟨b2, b3⟩
  rotate_left
  · refine no ?_ ?_
    · unfold fX11_bands
      rw [if_neg k0, if_pos k3, a2, Option.bind_some, if_neg n1, b2, Option.bind_some, if_pos rfl]
    · unfold fX12_bands
      rw [lt1_e, e, Option.bind_some, if_neg n1, a3, Option.bind_some, if_neg n1, b3, Option.bind_some, if_pos rfl]
  rcases both_taken c with ⟨C, rfl, c1, c2, c3⟩ | ⟨c2, c3⟩
  rotate_left
  · refine no ?_ ?_
    · unfold fX11_bands
      rw [if_neg k0, if_pos k3, a2, Option.bind_some, if_neg n1, b2, Option.bind_some, if_neg n1, c2, Option.bind_some, if_pos rfl]
    · unfold fX12_bands
      rw [lt1_e, e, Option.bind_some, if_neg n1, a3, Option.bind_some, if_neg n1, b3, Option.bind_some, if_neg n1, c3, Option.bind_some, if_pos rfl]
  rcases both_taken d with ⟨D, rfl, d1, d2, d3⟩ | ⟨d2, d3⟩
  rotate_left
  · refine no ?_ ?_
    · unfold fX11_bands
      rw [if_neg k0, if_pos k3, a2, Option.bind_some, if_neg n1, b2, Option.bind_some, if_neg n1, c2, Option.bind_some, if_neg n1, d2, Option.bind_some, if_pos rfl]
    · unfold fX12_bands
      rw [lt1_e, e, Option.bind_some, if_neg n1, a3, Option.bind_some, if_neg n1, b3, Option.bind_some, if_neg n1, c3, Option.bind_some, if_neg n1, d3, Option.bind_some, if_pos rfl]
  have i0 : (4 : Int32) * nI k = nI (4 * k) := pk_mul 4 k
  have i1 : nI (4 * k) + (1 : Int32) = nI (4 * k + 1) := nI_add (4 * k) 1
  have i2 : nI (4 * k) + (2 : Int32) = nI (4 * k + 2) := nI_add (4 * k) 2
  have i3 : nI (4 * k) + (3 : Int32) = nI (4 * k + 3) := nI_add (4 * k) 3
  have ix : ∀ j, j < 16 → 0 ≤ (nI j).toInt ∧ (nI j).toInt < (lFX 1 0 : Int) := fun j hj => by rw [show lFX 1 0 = 16 from rfl]; exact ixc hj (by decide)
  have im : ∀ j, j < 16 → 0 ≤ (nI j).toInt ∧ (nI j).toInt < (lFM 1 0 : Int) := fun j hj => by rw [show lFM 1 0 = 2176 from rfl]; exact ixl (by omega) (by omega)
  refine ⟨1, sF (sF (sF (sF x 1 0 (4 * k) (nI A).toUInt32) 1 0 (4 * k + 1) (nI B).toUInt32) 1 0 (4 * k + 2) (nI C).toUInt32) 1 0 (4 * k + 3) (nI D).toUInt32, sF (sF (sF (sF (sI m 0 0 10 0) 1 0 (4 * k) (nI A).toUInt32) 1 0 (4 * k + 1) (nI B).toUInt32) 1 0 (4 * k + 2) (nI C).toUInt32) 1 0 (4 * k + 3) (nI D).toUInt32, ?_, ?_, ?_, ?_, ?_⟩
  · unfold fX11_bands
    rw [if_neg k0, if_pos k3, a2, Option.bind_some, if_neg n1, b2, Option.bind_some, if_neg n1, c2, Option.bind_some, if_neg n1, d2, Option.bind_some, if_neg n1, floatOf_spec a1, Option.bind_some, i0, i1, i2, i3, ck_t (ix _ (by omega)), nI_cl (n := 4 * k) (by omega), lt1_e, floatOf_spec b1, Option.bind_some, ck_t (ix _ (by omega)), nI_cl (n := 4 * k + 1) (by omega), lt1_e, floatOf_spec c1, Option.bind_some, ck_t (ix _ (by omega)), nI_cl (n := 4 * k + 2) (by omega), lt1_e, floatOf_spec d1, Option.bind_some, ck_t (ix _ (by omega)), nI_cl (n := 4 * k + 3) (by omega), lt1_e]
  · unfold fX12_bands
    rw [lt1_e, e, Option.bind_some, if_neg n1, a3, Option.bind_some, if_neg n1, b3, Option.bind_some, if_neg n1, c3, Option.bind_some, if_neg n1, d3, Option.bind_some, if_neg n1, ck_t (sni_nI a1), i0, i1, i2, i3, ck_t (im _ (by omega)), nI_cl (n := 4 * k) (by omega), lt1_e, ck_t (sni_nI b1), ck_t (im _ (by omega)), nI_cl (n := 4 * k + 1) (by omega), lt1_e, ck_t (sni_nI c1), ck_t (im _ (by omega)), nI_cl (n := 4 * k + 2) (by omega), lt1_e, ck_t (sni_nI d1), ck_t (im _ (by omega)), nI_cl (n := 4 * k + 3) (by omega), lt1_e]
  · exact RelC_keep (KX_t (KX_t (KX_t (KX_F (by decide)) (KX_F (by decide))) (KX_F (by decide))) (KX_F (by decide))) (KM_t (KM_t (KM_t (KM_t (KM_I (by decide)) (KM_F (by omega))) (KM_F (by omega))) (KM_F (by omega))) (KM_F (by omega))) h.1
  · exact h.2.1
  · refine Cur_row (x := x) (m := m) (fun _ _ _ _ => rfl) (fun _ _ => rfl) (fun _ _ _ _ => rfl) rfl (fun f i j q => ?_) (fun j _ _ => ?_) rfl rfl (row_set (fl2_nI d1) (row_set (fl2_nI c1) (row_set (fl2_nI b1) (row_set (fl2_nI a1) h.2.2.1.1)))) h.2.2
    · show gI (sI m 0 0 10 0) f i j = _
      rw [gI_sI, if_neg (by omega)]
    · rw [gF_sF, if_neg (by omega), gF_sF, if_neg (by omega), gF_sF, if_neg (by omega), gF_sF, if_neg (by omega)]; rfl
theorem b_pick {x m : Sto} (h : Rel x m) (s i : Int32) : ∃ r x' m', fX11_pick s i x = some (r, x') ∧ fX12_pick s i m = some (r, m') ∧ Rel x' m' := by
  have no : fX11_pick s i x = some (0, sI x 0 0 19 2) → fX12_pick s i m = some (0, sI (sI m 0 0 10 0) 0 0 9 2) → ∃ r x' m', fX11_pick s i x = some (r, x') ∧ fX12_pick s i m = some (r, m') ∧ Rel x' m' := fun p q => ⟨0, _, _, p, q, rel_no h⟩
  rcases both_spec h s i with ⟨f, j, p, e1, e2, hp, hl, hs, hf, e3⟩ | ⟨e1, e2, s0⟩
  · rcases e3 with ⟨s0, _⟩ | ⟨s0, f1, p0⟩
    · refine no ?_ ?_
      · unfold fX11_pick
        rw [e1, Option.bind_some]
        show (if s = 0 then _ else _) = _
        rw [if_pos s0, xDenied, Option.bind_some]; exact un2_k0 _
      · unfold fX12_pick
        rw [lt1_e, jn_e, if_pos s0]
        dsimp only
        rw [if_pos rfl, mNot, Option.bind_some]; exact un2_k0 _
    · have hc := mCopy (m := sI m 0 0 10 0) (f := p) (t := 0) (by omega) (by decide) p0
      refine ⟨1, sI (putF x 1 0 16 (fun k => gF x f j k)) 0 0 19 0, sI (putO (sI m 0 0 10 0) 1 0 (16 * 0) 16 (fun k => gF (sI m 0 0 10 0) 1 0 (16 * p + k))) 0 0 9 0, ?_, ?_, ?_, rfl, ?_⟩
      · unfold fX11_pick
        rw [e1, Option.bind_some]
        show (if s = 0 then _ else _) = _
        rw [if_neg s0, xCopy (by rw [hl]; exact Nat.le_refl _) (by decide), Option.bind_some, xAccept, Option.bind_some]; exact un2_k1 _
      · unfold fX12_pick
        rw [lt1_e, jn_e, if_neg s0, e2, Option.bind_some]
        dsimp only
        rw [if_neg (show ¬ nI p = (-1 : Int32) from fun z => by
          have := congrArg Int32.toInt z
          rw [nI_toInt (by omega), show (-1 : Int32).toInt = -1 from rfl] at this
          omega), show fX12_copy (nI p) (0 : Int32) (sI m 0 0 10 0) = _ from hc, Option.bind_some, lt1_e]
      · exact RelC_keep (KX_t (KX_pF (by decide)) (KX_I (by decide))) (KM_t (KM_t (KM_I (by decide)) (KM_O (by omega))) (KM_I (by decide))) h.1
      · refine Cur_row (x := x) (m := m) (fun f i j q => ?_) (fun _ _ => putF_g (by omega)) (fun _ _ _ _ => rfl) rfl (fun f i j q => ?_) (fun j _ _ => ?_) rfl rfl (fun k hk => ?_) h.2.2
        · rw [gI_sI, if_neg (by omega)]; rfl
        · rw [gI_sI, if_neg (by omega)]
          show gI (sI m 0 0 10 0) f i j = _
          rw [gI_sI, if_neg (by omega)]
        · show gF (putO (sI m 0 0 10 0) 1 0 (16 * 0) 16 (fun k => gF (sI m 0 0 10 0) 1 0 (16 * p + k))) 1 0 j = _
          rw [putO_g (by omega)]; rfl
        · have q1 : gF (sI (putF x 1 0 16 (fun k => gF x f j k)) 0 0 19 0) 1 0 k = gF x f j k := putF_h hk
          have q2 : gF (sI (putO (sI m 0 0 10 0) 1 0 (16 * 0) 16 (fun k => gF (sI m 0 0 10 0) 1 0 (16 * p + k))) 0 0 9 0) 1 0 k = gF m 1 0 (16 * p + k) := by
            have := putO_h (s := sI m 0 0 10 0) (f := 1) (i := 0) (o := 16 * 0) (v := fun k => gF (sI m 0 0 10 0) 1 0 (16 * p + k)) hk
            rw [Nat.mul_zero, Nat.zero_add] at this
            exact this
          rw [q1, q2]
          exact hs k hk
  · refine no ?_ ?_
    · unfold fX11_pick
      rw [e1, Option.bind_some]
      rw [oq_e0]
      rw [xDenied, Option.bind_some]; exact un2_k0 _
    · unfold fX12_pick
      rw [lt1_e, jn_e, if_neg s0, e2, Option.bind_some]
      dsimp only
      rw [if_pos rfl, mNot, Option.bind_some]; exact un2_k0 _
