def fX9_coloursOf (a1f : Nat) (a1i : Nat) (st : Sto) : Option ((Nat × Nat) × Sto) :=
  (fX9_rootOfRatio a1f a1i (0 : Int32) st).bind (fun (v1 : UInt64) =>
   (fX9_rootOfRatio a1f a1i (1 : Int32) st).bind (fun (v3 : UInt64) =>
    (fX9_rootOfRatio a1f a1i (2 : Int32) st).bind (fun (v5 : UInt64) =>
     nd (FP.dmul (4636737291354636288 : UInt64) v3) fun (v7 : UInt64) =>
     lt1 (sD st (42) (0) (0) v7) fun (t8 : Sto) =>
     nd (FP.dsub v1 v3) fun (v9 : UInt64) =>
     nd (FP.dmul (4643000109586448384 : UInt64) v9) fun (v10 : UInt64) =>
     lt1 (sD t8 (42) (0) (1) v10) fun (t11 : Sto) =>
     nd (FP.dsub v3 v5) fun (v12 : UInt64) =>
     nd (FP.dmul (4636737291354636288 : UInt64) v12) fun (v13 : UInt64) =>
     lt1 (sD t11 (42) (0) (2) v13) fun (t14 : Sto) =>
     some ((42, 0), t14))))
set_option maxHeartbeats 4000000 in
set_option maxRecDepth 100000 in
theorem mX9_coloursOf (l : Launch) (E : XE) (hL : LX E) (st : Sto) {a1f : Nat} {a1i : Nat} {r : (Nat × Nat)} {st1 : Sto} (h : fX9_coloursOf a1f a1i st = some (r, st1)) : Met l yX9_coloursOf wsX9_coloursOf ({ frames := 3, cells := 0, slots := 0, locals := 82 }) (va_Pc [.ref (E.2.2.1 13 (0)), .ref (E.2.2.1 a1f a1i)] (RX E st)) (QX E (some (.ref (E.2.2.1 r.1 r.2))) st1) 0 0 E.2.2.2 := by
  refine Met.ofW (cc := cX9_coloursOf) (maxL := 8) (ret := (some (.array .double))) (by decide) rfl ?_
  intro p e s m args below meth c s₁ B hml hv
  obtain ⟨rfl, hP, hK⟩ := hv
  have hown : s.vm.findClass RX9 = some m.cls := findClass_of_methodNamed B.named
  have C0 : CX p m c cX9_coloursOf 8 s _ wsX9_coloursOf RX9 E := ⟨⟨B.exec, B.bytes, hml, hown, atoms_spec (ws := wsX9_coloursOf) B.pre⟩, hK⟩
  have hx := B.exec
  have hb := B.bytes
  have hr := B.returns
  have hlocks := B.notSynchronized
  have hw : SX E s st s.heap [] := ⟨hP, va_S.rf⟩
  have hl := lv_entry ([.ref (E.2.2.1 13 (0)), .ref (E.2.2.1 a1f a1i)]) (n := 8) (Nat.le_of_ble_eq_true rfl)
  rw [lg_entry_eq]
  generalize (lg_sl ([.ref (E.2.2.1 13 (0)), .ref (E.2.2.1 a1f a1i)]) ++ List.replicate (8 - (lg_sl ([.ref (E.2.2.1 13 (0)), .ref (E.2.2.1 a1f a1i)])).length) Slot.unset).toArray = ls at hl ⊢
  have hl : lv_has ls 8 [(0, .ref (E.2.2.1 13 (0))), (1, .ref (E.2.2.1 a1f a1i))] := hl
  unfold fX9_coloursOf at h
  refine lv_aload_n hx hb dX9_coloursOf_0 rfl (lv_at hl 0 rfl) ?_
  refine lv_aload_n hx hb dX9_coloursOf_1 rfl (lv_at hl 1 rfl) ?_
  refine lv_iconst (v := 0) hx hb dX9_coloursOf_2 (by decide) ?_
  obtain ⟨v1, hf2, h⟩ := bn_c h
  refine X_callV C0 hw (As := [.ref (E.2.2.1 a1f a1i), .int (0 : Int32)]) (rest := []) (mX9_rootOfRatio l E hL st hf2) (cwV 2 C0.1.2.2.2.2 gX9_coloursOf_X9_rootOfRatio rfl rfl rfl (by decide +kernel) ⟨Nat.le_of_ble_eq_true rfl, Nat.le_of_ble_eq_true rfl⟩) (X_recv_13 C0 hw (by decide)) rfl hl.1 rfl (Nat.le_of_ble_eq_true rfl) dX9_coloursOf_3 ⟨Nat.zero_le _, Nat.zero_le _⟩ (fun H locs hw => ?_)
  refine W.eq (g2 := F0 m 6 ls [.double v1]) rfl ?_
  refine lv_dstore_n (lv' := [(2, .double v1), (0, .ref (E.2.2.1 13 (0))), (1, .ref (E.2.2.1 a1f a1i))]) hx hb dX9_coloursOf_6 rfl hl (by decide) rfl (fun ls hl => ?_)
  refine lv_aload_n hx hb dX9_coloursOf_7 rfl (lv_at hl 1 rfl) ?_
  refine lv_aload_n hx hb dX9_coloursOf_8 rfl (lv_at hl 2 rfl) ?_
  refine lv_iconst (v := 1) hx hb dX9_coloursOf_9 (by decide) ?_
  obtain ⟨v3, hf4, h⟩ := bn_c h
  refine X_callV C0 hw (As := [.ref (E.2.2.1 a1f a1i), .int (1 : Int32)]) (rest := []) (mX9_rootOfRatio l E hL st hf4) (cwV 2 C0.1.2.2.2.2 gX9_coloursOf_X9_rootOfRatio rfl rfl rfl (by decide +kernel) ⟨Nat.le_of_ble_eq_true rfl, Nat.le_of_ble_eq_true rfl⟩) (X_recv_13 C0 hw (by decide)) rfl hl.1 rfl (Nat.le_of_ble_eq_true rfl) dX9_coloursOf_10 ⟨Nat.zero_le _, Nat.zero_le _⟩ (fun H locs hw => ?_)
  refine W.eq (g2 := F0 m 13 ls [.double v3]) rfl ?_
  refine lv_dstore (lv' := [(4, .double v3), (2, .double v1), (0, .ref (E.2.2.1 13 (0))), (1, .ref (E.2.2.1 a1f a1i))]) hx hb dX9_coloursOf_13 hl (by decide) rfl (fun ls hl => ?_)
  refine lv_aload_n hx hb dX9_coloursOf_15 rfl (lv_at hl 2 rfl) ?_
  refine lv_aload_n hx hb dX9_coloursOf_16 rfl (lv_at hl 3 rfl) ?_
  refine lv_iconst (v := 2) hx hb dX9_coloursOf_17 (by decide) ?_
  obtain ⟨v5, hf6, h⟩ := bn_c h
  refine X_callV C0 hw (As := [.ref (E.2.2.1 a1f a1i), .int (2 : Int32)]) (rest := []) (mX9_rootOfRatio l E hL st hf6) (cwV 2 C0.1.2.2.2.2 gX9_coloursOf_X9_rootOfRatio rfl rfl rfl (by decide +kernel) ⟨Nat.le_of_ble_eq_true rfl, Nat.le_of_ble_eq_true rfl⟩) (X_recv_13 C0 hw (by decide)) rfl hl.1 rfl (Nat.le_of_ble_eq_true rfl) dX9_coloursOf_18 ⟨Nat.zero_le _, Nat.zero_le _⟩ (fun H locs hw => ?_)
  refine W.eq (g2 := F0 m 21 ls [.double v5]) rfl ?_
  refine lv_dstore (lv' := [(6, .double v5), (4, .double v3), (2, .double v1), (0, .ref (E.2.2.1 13 (0))), (1, .ref (E.2.2.1 a1f a1i))]) hx hb dX9_coloursOf_21 hl (by decide) rfl (fun ls hl => ?_)
  refine lv_aload_n hx hb dX9_coloursOf_23 rfl (lv_at hl 3 rfl) ?_
  refine X_g13_8 C0 hw (fun w h => (List.mem_cons_of_mem _ (List.mem_append_right _ h))) (by decide) ((List.mem_cons_of_mem _ (List.mem_append_left _ (List.mem_of_getElem? (i := 0) rfl)))) dX9_coloursOf_24 ?_
  refine lv_iconst (v := 0) hx hb dX9_coloursOf_27 (by decide) ?_
  refine lv_ldc2d hx hb hown (C0.1.2.2.2.2 _ (List.mem_cons_of_mem _ (List.mem_append_left _ (List.mem_of_getElem? (i := 1) rfl)))) dX9_coloursOf_28 ?_
  refine lv_dload hx hb dX9_coloursOf_31 (lv_at hl 1 rfl) ?_
  refine x_dmul hx hb h dX9_coloursOf_33 (fun v7 h => ?_)
  refine X_dastL hL C0 hw h (vp_in_iff.mpr (by decide +kernel)) (k := 0) rfl dX9_coloursOf_34 (fun t8 H locs hw h => ?_)
  refine lv_aload_n hx hb dX9_coloursOf_35 rfl (lv_at hl 3 rfl) ?_
  refine X_g13_8 C0 hw (fun w h => (List.mem_cons_of_mem _ (List.mem_append_right _ h))) (by decide) ((List.mem_cons_of_mem _ (List.mem_append_left _ (List.mem_of_getElem? (i := 0) rfl)))) dX9_coloursOf_36 ?_
  refine lv_iconst (v := 1) hx hb dX9_coloursOf_39 (by decide) ?_
  refine lv_ldc2d hx hb hown (C0.1.2.2.2.2 _ (List.mem_cons_of_mem _ (List.mem_append_left _ (List.mem_of_getElem? (i := 2) rfl)))) dX9_coloursOf_40 ?_
  refine lv_dload_n hx hb dX9_coloursOf_43 rfl (lv_at hl 2 rfl) ?_
  refine lv_dload hx hb dX9_coloursOf_44 (lv_at hl 1 rfl) ?_
  refine x_dsub hx hb h dX9_coloursOf_46 (fun v9 h => ?_)
  refine x_dmul hx hb h dX9_coloursOf_47 (fun v10 h => ?_)
  refine X_dastL hL C0 hw h (vp_in_iff.mpr (by decide +kernel)) (k := 1) rfl dX9_coloursOf_48 (fun t11 H locs hw h => ?_)
  refine lv_aload_n hx hb dX9_coloursOf_49 rfl (lv_at hl 3 rfl) ?_
  refine X_g13_8 C0 hw (fun w h => (List.mem_cons_of_mem _ (List.mem_append_right _ h))) (by decide) ((List.mem_cons_of_mem _ (List.mem_append_left _ (List.mem_of_getElem? (i := 0) rfl)))) dX9_coloursOf_50 ?_
  refine lv_iconst (v := 2) hx hb dX9_coloursOf_53 (by decide) ?_
  refine lv_ldc2d hx hb hown (C0.1.2.2.2.2 _ (List.mem_cons_of_mem _ (List.mem_append_left _ (List.mem_of_getElem? (i := 1) rfl)))) dX9_coloursOf_54 ?_
  refine lv_dload hx hb dX9_coloursOf_57 (lv_at hl 1 rfl) ?_
  refine lv_dload hx hb dX9_coloursOf_59 (lv_at hl 0 rfl) ?_
  refine x_dsub hx hb h dX9_coloursOf_61 (fun v12 h => ?_)
  refine x_dmul hx hb h dX9_coloursOf_62 (fun v13 h => ?_)
  refine X_dastL hL C0 hw h (vp_in_iff.mpr (by decide +kernel)) (k := 2) rfl dX9_coloursOf_63 (fun t14 H locs hw h => ?_)
  refine lv_aload_n hx hb dX9_coloursOf_64 rfl (lv_at hl 3 rfl) ?_
  refine X_g13_8 C0 hw (fun w h => (List.mem_cons_of_mem _ (List.mem_append_right _ h))) (by decide) ((List.mem_cons_of_mem _ (List.mem_append_left _ (List.mem_of_getElem? (i := 0) rfl)))) dX9_coloursOf_65 ?_
  cases h
  exact W.aret hx hb hr (Or.inr ⟨_, rfl⟩) (Or.inr ⟨_, rfl⟩) (X_fin C0 hw) hw.2.2.2 dX9_coloursOf_68 hlocks

def fX9_setGoal (a1f : Nat) (a1i : Nat) (st : Sto) : Option Sto :=
  (fX9_coloursOf a1f a1i st).bind (un2 fun (v1 : (Nat × Nat)) (t2 : Sto) => un2 (fun (qf4 qi5 : Nat) =>
    ck (3 ≤ lDX qf4 qi5 ∧ 3 ≤ lDX (41) (0) ) (lt1 (cD t2 qf4 qi5 0 (41) (0) 0 3) fun (t6 : Sto) =>
     some t6)) v1)
set_option maxHeartbeats 4000000 in
set_option maxRecDepth 100000 in
theorem mX9_setGoal (l : Launch) (E : XE) (hL : LX E) (st : Sto) {a1f : Nat} {a1i : Nat} {st1 : Sto} (h : fX9_setGoal a1f a1i st = some st1) : Met l yX9_setGoal wsX9_setGoal ({ frames := 4, cells := 0, slots := 0, locals := 109 }) (va_Pc [.ref (E.2.2.1 13 (0)), .ref (E.2.2.1 a1f a1i)] (RX E st)) (QX E none st1) 0 0 E.2.2.2 := by
  refine Met.ofW (cc := cX9_setGoal) (maxL := 2) (ret := none) (by decide) rfl ?_
  intro p e s m args below meth c s₁ B hml hv
  obtain ⟨rfl, hP, hK⟩ := hv
  have hown : s.vm.findClass RX9 = some m.cls := findClass_of_methodNamed B.named
  have C0 : CX p m c cX9_setGoal 2 s _ wsX9_setGoal RX9 E := ⟨⟨B.exec, B.bytes, hml, hown, atoms_spec (ws := wsX9_setGoal) B.pre⟩, hK⟩
  have hx := B.exec
  have hb := B.bytes
  have hr := B.returns
  have hlocks := B.notSynchronized
  have hw : SX E s st s.heap [] := ⟨hP, va_S.rf⟩
  have hl := lv_entry ([.ref (E.2.2.1 13 (0)), .ref (E.2.2.1 a1f a1i)]) (n := 2) (Nat.le_of_ble_eq_true rfl)
  rw [lg_entry_eq]
  generalize (lg_sl ([.ref (E.2.2.1 13 (0)), .ref (E.2.2.1 a1f a1i)]) ++ List.replicate (2 - (lg_sl ([.ref (E.2.2.1 13 (0)), .ref (E.2.2.1 a1f a1i)])).length) Slot.unset).toArray = ls at hl ⊢
  have hl : lv_has ls 2 [(0, .ref (E.2.2.1 13 (0))), (1, .ref (E.2.2.1 a1f a1i))] := hl
  unfold fX9_setGoal at h
  refine lv_aload_n hx hb dX9_setGoal_0 rfl (lv_at hl 0 rfl) ?_
  refine lv_aload_n hx hb dX9_setGoal_1 rfl (lv_at hl 1 rfl) ?_
  obtain ⟨⟨v1, t2⟩, hf3, h⟩ := bn_c h
  have h := un2_d h
  refine X_callV C0 hw (As := [.ref (E.2.2.1 a1f a1i)]) (rest := []) (mX9_coloursOf l E hL st hf3) (cwV 1 C0.1.2.2.2.2 gX9_setGoal_X9_coloursOf rfl rfl rfl (by decide +kernel) ⟨Nat.le_of_ble_eq_true rfl, Nat.le_of_ble_eq_true rfl⟩) (X_recv_13 C0 hw (by decide)) rfl hl.1 rfl (Nat.le_of_ble_eq_true rfl) dX9_setGoal_2 ⟨Nat.zero_le _, Nat.zero_le _⟩ (fun H locs hw => ?_)
  obtain ⟨qf4, qi5⟩ := v1
  have h := un2_d h
  refine W.eq (g2 := F0 m 5 ls (.ref (E.2.2.1 qf4 qi5) :: [])) rfl ?_
  refine lv_iconst (v := 0) hx hb dX9_setGoal_5 (by decide) ?_
  refine lv_aload_n hx hb dX9_setGoal_6 rfl (lv_at hl 0 rfl) ?_
  refine X_g13_7 C0 hw (fun w h => (List.mem_cons_of_mem _ (List.mem_append_right _ h))) (by decide) ((List.mem_cons_of_mem _ (List.mem_append_left _ (List.mem_append_left _ (List.mem_of_getElem? (i := 0) rfl))))) dX9_setGoal_7 ?_
  refine lv_iconst (v := 0) hx hb dX9_setGoal_10 (by decide) ?_
  refine lv_iconst (v := 3) hx hb dX9_setGoal_11 (by decide) ?_
  refine X_cpd hL C0 hw h (sp := 0) (dp := 0) (n := 3) rfl rfl rfl (by decide) (by decide) ⟨by decide, by decide⟩ (hml.trans hl.1.symm) hown (C0.1.2.2.2.2 _ (List.mem_cons_of_mem _ (List.mem_append_left _ (List.mem_append_left _ (List.mem_of_getElem? (i := 1) rfl))))) (C0.1.2.2.2.2 _ (List.mem_cons_of_mem _ (List.mem_append_left _ (List.mem_append_left _ (List.mem_of_getElem? (i := 2) rfl))))) (C0.1.2.2.2.2 _ (List.mem_cons_of_mem _ (List.mem_append_left _ (List.mem_append_left _ (List.mem_of_getElem? (i := 3) rfl))))) (C0.1.2.2.2.2 _ (List.mem_cons_of_mem _ (List.mem_append_left _ (List.mem_append_left _ (List.mem_of_getElem? (i := 4) rfl))))) (Nat.le_of_ble_eq_true rfl) (Nat.le_of_ble_eq_true rfl) dX9_setGoal_12 (fun t6 H locs hw h => ?_)
  cases h
  exact W.vret hx hb hr (X_fin C0 hw) hw.2.2.2 dX9_setGoal_15 hlocks

def fX9_gapTo (a1f : Nat) (a1i : Nat) (st : Sto) : Option (UInt64 × Sto) :=
  (fX9_coloursOf a1f a1i st).bind (un2 fun (v1 : (Nat × Nat)) (t2 : Sto) => un2 (fun (qf4 qi5 : Nat) =>
    nd (FP.dsub (gD t2 (41) (0) (0)) (gD t2 (42) (0) (0))) fun (v6 : UInt64) =>
    nd (FP.dsub (gD t2 (41) (0) (1)) (gD t2 (42) (0) (1))) fun (v7 : UInt64) =>
    nd (FP.dsub (gD t2 (41) (0) (2)) (gD t2 (42) (0) (2))) fun (v8 : UInt64) =>
    nd (FP.dmul (gD t2 13 (0) 2) v6) fun (v9 : UInt64) =>
    nd (FP.dmul v9 v6) fun (v10 : UInt64) =>
    nd (FP.dmul (gD t2 13 (0) 3) v7) fun (v11 : UInt64) =>
    nd (FP.dmul v11 v7) fun (v12 : UInt64) =>
    nd (FP.dadd v10 v12) fun (v13 : UInt64) =>
    nd (FP.dmul (gD t2 13 (0) 4) v8) fun (v14 : UInt64) =>
    nd (FP.dmul v14 v8) fun (v15 : UInt64) =>
    nd (FP.dadd v13 v15) fun (v16 : UInt64) =>
    some (v16, t2)) v1)
set_option maxHeartbeats 4000000 in
set_option maxRecDepth 100000 in
theorem mX9_gapTo (l : Launch) (E : XE) (hL : LX E) (st : Sto) {a1f : Nat} {a1i : Nat} {r : UInt64} {st1 : Sto} (h : fX9_gapTo a1f a1i st = some (r, st1)) : Met l yX9_gapTo wsX9_gapTo ({ frames := 4, cells := 0, slots := 0, locals := 109 }) (va_Pc [.ref (E.2.2.1 13 (0)), .ref (E.2.2.1 a1f a1i)] (RX E st)) (QX E (some (.double r)) st1) 0 0 E.2.2.2 := by
  refine Met.ofW (cc := cX9_gapTo) (maxL := 8) (ret := (some .double)) (by decide) rfl ?_
  intro p e s m args below meth c s₁ B hml hv
  obtain ⟨rfl, hP, hK⟩ := hv
  have hown : s.vm.findClass RX9 = some m.cls := findClass_of_methodNamed B.named
  have C0 : CX p m c cX9_gapTo 8 s _ wsX9_gapTo RX9 E := ⟨⟨B.exec, B.bytes, hml, hown, atoms_spec (ws := wsX9_gapTo) B.pre⟩, hK⟩
  have hx := B.exec
  have hb := B.bytes
  have hr := B.returns
  have hlocks := B.notSynchronized
  have hw : SX E s st s.heap [] := ⟨hP, va_S.rf⟩
  have hl := lv_entry ([.ref (E.2.2.1 13 (0)), .ref (E.2.2.1 a1f a1i)]) (n := 8) (Nat.le_of_ble_eq_true rfl)
  rw [lg_entry_eq]
  generalize (lg_sl ([.ref (E.2.2.1 13 (0)), .ref (E.2.2.1 a1f a1i)]) ++ List.replicate (8 - (lg_sl ([.ref (E.2.2.1 13 (0)), .ref (E.2.2.1 a1f a1i)])).length) Slot.unset).toArray = ls at hl ⊢
  have hl : lv_has ls 8 [(0, .ref (E.2.2.1 13 (0))), (1, .ref (E.2.2.1 a1f a1i))] := hl
  unfold fX9_gapTo at h
  refine lv_aload_n hx hb dX9_gapTo_0 rfl (lv_at hl 0 rfl) ?_
  refine lv_aload_n hx hb dX9_gapTo_1 rfl (lv_at hl 1 rfl) ?_
  obtain ⟨⟨v1, t2⟩, hf3, h⟩ := bn_c h
  have h := un2_d h
  refine X_callV C0 hw (As := [.ref (E.2.2.1 a1f a1i)]) (rest := []) (mX9_coloursOf l E hL st hf3) (cwV 1 C0.1.2.2.2.2 gX9_gapTo_X9_coloursOf rfl rfl rfl (by decide +kernel) ⟨Nat.le_of_ble_eq_true rfl, Nat.le_of_ble_eq_true rfl⟩) (X_recv_13 C0 hw (by decide)) rfl hl.1 rfl (Nat.le_of_ble_eq_true rfl) dX9_gapTo_2 ⟨Nat.zero_le _, Nat.zero_le _⟩ (fun H locs hw => ?_)
  obtain ⟨qf4, qi5⟩ := v1
  have h := un2_d h
  refine W.eq (g2 := F0 m 5 ls (.ref (E.2.2.1 qf4 qi5) :: [])) rfl ?_
  refine lv_pop hx hb dX9_gapTo_5 rfl ?_
  refine lv_aload_n hx hb dX9_gapTo_6 rfl (lv_at hl 0 rfl) ?_
  refine X_g13_7 C0 hw (fun w h => (List.mem_cons_of_mem _ (List.mem_append_right _ h))) (by decide) ((List.mem_cons_of_mem _ (List.mem_append_left _ (List.mem_append_left _ (List.mem_of_getElem? (i := 0) rfl))))) dX9_gapTo_7 ?_
  refine lv_iconst (v := 0) hx hb dX9_gapTo_10 (by decide) ?_
  refine X_daldL C0 hw (vp_in_iff.mpr (by decide +kernel)) (k := 0) rfl dX9_gapTo_11 ?_
  refine lv_aload_n hx hb dX9_gapTo_12 rfl (lv_at hl 0 rfl) ?_
  refine X_g13_8 C0 hw (fun w h => (List.mem_cons_of_mem _ (List.mem_append_right _ h))) (by decide) ((List.mem_cons_of_mem _ (List.mem_append_left _ (List.mem_append_left _ (List.mem_of_getElem? (i := 1) rfl))))) dX9_gapTo_13 ?_
  refine lv_iconst (v := 0) hx hb dX9_gapTo_16 (by decide) ?_
  refine X_daldL C0 hw (vp_in_iff.mpr (by decide +kernel)) (k := 0) rfl dX9_gapTo_17 ?_
  refine x_dsub hx hb h dX9_gapTo_18 (fun v6 h => ?_)
  refine lv_dstore_n (lv' := [(2, .double v6), (0, .ref (E.2.2.1 13 (0))), (1, .ref (E.2.2.1 a1f a1i))]) hx hb dX9_gapTo_19 rfl hl (by decide) rfl (fun ls hl => ?_)
  refine lv_aload_n hx hb dX9_gapTo_20 rfl (lv_at hl 1 rfl) ?_
  refine X_g13_7 C0 hw (fun w h => (List.mem_cons_of_mem _ (List.mem_append_right _ h))) (by decide) ((List.mem_cons_of_mem _ (List.mem_append_left _ (List.mem_append_left _ (List.mem_of_getElem? (i := 0) rfl))))) dX9_gapTo_21 ?_
  refine lv_iconst (v := 1) hx hb dX9_gapTo_24 (by decide) ?_
  refine X_daldL C0 hw (vp_in_iff.mpr (by decide +kernel)) (k := 1) rfl dX9_gapTo_25 ?_
  refine lv_aload_n hx hb dX9_gapTo_26 rfl (lv_at hl 1 rfl) ?_
  refine X_g13_8 C0 hw (fun w h => (List.mem_cons_of_mem _ (List.mem_append_right _ h))) (by decide) ((List.mem_cons_of_mem _ (List.mem_append_left _ (List.mem_append_left _ (List.mem_of_getElem? (i := 1) rfl))))) dX9_gapTo_27 ?_
  refine lv_iconst (v := 1) hx hb dX9_gapTo_30 (by decide) ?_
  refine X_daldL C0 hw (vp_in_iff.mpr (by decide +kernel)) (k := 1) rfl dX9_gapTo_31 ?_
  refine x_dsub hx hb h dX9_gapTo_32 (fun v7 h => ?_)
  refine lv_dstore (lv' := [(4, .double v7), (2, .double v6), (0, .ref (E.2.2.1 13 (0))), (1, .ref (E.2.2.1 a1f a1i))]) hx hb dX9_gapTo_33 hl (by decide) rfl (fun ls hl => ?_)
  refine lv_aload_n hx hb dX9_gapTo_35 rfl (lv_at hl 2 rfl) ?_
  refine X_g13_7 C0 hw (fun w h => (List.mem_cons_of_mem _ (List.mem_append_right _ h))) (by decide) ((List.mem_cons_of_mem _ (List.mem_append_left _ (List.mem_append_left _ (List.mem_of_getElem? (i := 0) rfl))))) dX9_gapTo_36 ?_
  refine lv_iconst (v := 2) hx hb dX9_gapTo_39 (by decide) ?_
  refine X_daldL C0 hw (vp_in_iff.mpr (by decide +kernel)) (k := 2) rfl dX9_gapTo_40 ?_
  refine lv_aload_n hx hb dX9_gapTo_41 rfl (lv_at hl 2 rfl) ?_
  refine X_g13_8 C0 hw (fun w h => (List.mem_cons_of_mem _ (List.mem_append_right _ h))) (by decide) ((List.mem_cons_of_mem _ (List.mem_append_left _ (List.mem_append_left _ (List.mem_of_getElem? (i := 1) rfl))))) dX9_gapTo_42 ?_
  refine lv_iconst (v := 2) hx hb dX9_gapTo_45 (by decide) ?_
  refine X_daldL C0 hw (vp_in_iff.mpr (by decide +kernel)) (k := 2) rfl dX9_gapTo_46 ?_
  refine x_dsub hx hb h dX9_gapTo_47 (fun v8 h => ?_)
  refine lv_dstore (lv' := [(6, .double v8), (4, .double v7), (2, .double v6), (0, .ref (E.2.2.1 13 (0))), (1, .ref (E.2.2.1 a1f a1i))]) hx hb dX9_gapTo_48 hl (by decide) rfl (fun ls hl => ?_)
  refine lv_aload_n hx hb dX9_gapTo_50 rfl (lv_at hl 3 rfl) ?_
  refine X_g13_2 C0 hw (fun w h => (List.mem_cons_of_mem _ (List.mem_append_right _ h))) (by decide) ((List.mem_cons_of_mem _ (List.mem_append_left _ (List.mem_append_left _ (List.mem_of_getElem? (i := 2) rfl))))) dX9_gapTo_51 ?_
  refine lv_dload_n hx hb dX9_gapTo_54 rfl (lv_at hl 2 rfl) ?_
  refine x_dmul hx hb h dX9_gapTo_55 (fun v9 h => ?_)
  refine lv_dload_n hx hb dX9_gapTo_56 rfl (lv_at hl 2 rfl) ?_
  refine x_dmul hx hb h dX9_gapTo_57 (fun v10 h => ?_)
  refine lv_aload_n hx hb dX9_gapTo_58 rfl (lv_at hl 3 rfl) ?_
  refine X_g13_3 C0 hw (fun w h => (List.mem_cons_of_mem _ (List.mem_append_right _ h))) (by decide) ((List.mem_cons_of_mem _ (List.mem_append_left _ (List.mem_append_left _ (List.mem_of_getElem? (i := 3) rfl))))) dX9_gapTo_59 ?_
  refine lv_dload hx hb dX9_gapTo_62 (lv_at hl 1 rfl) ?_
  refine x_dmul hx hb h dX9_gapTo_64 (fun v11 h => ?_)
  refine lv_dload hx hb dX9_gapTo_65 (lv_at hl 1 rfl) ?_
  refine x_dmul hx hb h dX9_gapTo_67 (fun v12 h => ?_)
  refine x_dadd hx hb h dX9_gapTo_68 (fun v13 h => ?_)
  refine lv_aload_n hx hb dX9_gapTo_69 rfl (lv_at hl 3 rfl) ?_
  refine X_g13_4 C0 hw (fun w h => (List.mem_cons_of_mem _ (List.mem_append_right _ h))) (by decide) ((List.mem_cons_of_mem _ (List.mem_append_left _ (List.mem_append_left _ (List.mem_of_getElem? (i := 4) rfl))))) dX9_gapTo_70 ?_
  refine lv_dload hx hb dX9_gapTo_73 (lv_at hl 0 rfl) ?_
  refine x_dmul hx hb h dX9_gapTo_75 (fun v14 h => ?_)
  refine lv_dload hx hb dX9_gapTo_76 (lv_at hl 0 rfl) ?_
  refine x_dmul hx hb h dX9_gapTo_78 (fun v15 h => ?_)
  refine x_dadd hx hb h dX9_gapTo_79 (fun v16 h => ?_)
  cases h
  exact W.dret hx hb hr (X_fin C0 hw) hw.2.2.2 dX9_gapTo_80 hlocks

def fX10_begin (oi : Nat) (a1 : Int32) (a2 : Int32) (a3 : Int32) (a4f : Nat) (a4i : Nat) (st : Sto) : Option Sto :=
  lt1 (sI st 26 oi 0 a1) fun (t1 : Sto) =>
  lt1 (sI t1 26 oi 1 a2) fun (t2 : Sto) =>
  lt1 (sI t2 26 oi 2 a3) fun (t3 : Sto) =>
  ck (3 ≤ lDX a4f a4i ∧ 3 ≤ lDX (27) oi ) (lt1 (cD t3 a4f a4i 0 (27) oi 0 3) fun (t4 : Sto) =>
   some t4)
set_option maxHeartbeats 4000000 in
set_option maxRecDepth 100000 in
theorem mX10_begin (l : Launch) (E : XE) (hL : LX E) (st : Sto) {oi : Nat} {a1 : Int32} {a2 : Int32} {a3 : Int32} {a4f : Nat} {a4i : Nat} (ho : oi < cntX 26) {st1 : Sto} (h : fX10_begin oi a1 a2 a3 a4f a4i st = some st1) : Met l yX10_begin wsX10_begin ({ frames := 1, cells := 0, slots := 0, locals := 48 }) (va_Pc [.ref (E.2.2.1 26 oi), .int a1, .int a2, .int a3, .ref (E.2.2.1 a4f a4i)] (RX E st)) (QX E none st1) 0 0 E.2.2.2 := by
  refine Met.ofW (cc := cX10_begin) (maxL := 5) (ret := none) (by decide) rfl ?_
  intro p e s m args below meth c s₁ B hml hv
  obtain ⟨rfl, hP, hK⟩ := hv
  have hown : s.vm.findClass RX10 = some m.cls := findClass_of_methodNamed B.named
  have C0 : CX p m c cX10_begin 5 s _ wsX10_begin RX10 E := ⟨⟨B.exec, B.bytes, hml, hown, atoms_spec (ws := wsX10_begin) B.pre⟩, hK⟩
  have hx := B.exec
  have hb := B.bytes
  have hr := B.returns
  have hlocks := B.notSynchronized
  have hw : SX E s st s.heap [] := ⟨hP, va_S.rf⟩
  have hl := lv_entry ([.ref (E.2.2.1 26 oi), .int a1, .int a2, .int a3, .ref (E.2.2.1 a4f a4i)]) (n := 5) (Nat.le_of_ble_eq_true rfl)
  rw [lg_entry_eq]
  generalize (lg_sl ([.ref (E.2.2.1 26 oi), .int a1, .int a2, .int a3, .ref (E.2.2.1 a4f a4i)]) ++ List.replicate (5 - (lg_sl ([.ref (E.2.2.1 26 oi), .int a1, .int a2, .int a3, .ref (E.2.2.1 a4f a4i)])).length) Slot.unset).toArray = ls at hl ⊢
  have hl : lv_has ls 5 [(0, .ref (E.2.2.1 26 oi)), (1, .int a1), (2, .int a2), (3, .int a3), (4, .ref (E.2.2.1 a4f a4i))] := hl
  unfold fX10_begin at h
  refine lv_aload_n hx hb dX10_begin_0 rfl (lv_at hl 0 rfl) ?_
  refine lv_iload_n hx hb dX10_begin_1 rfl (lv_at hl 1 rfl) ?_
  refine X_p26_0 hL C0 hw (fun w h => (List.mem_cons_of_mem _ (List.mem_append_right _ h))) ho h ((List.mem_cons_of_mem _ (List.mem_append_left _ (List.mem_of_getElem? (i := 0) rfl)))) dX10_begin_2 (fun t1 H locs hw h => ?_)
  refine lv_aload_n hx hb dX10_begin_5 rfl (lv_at hl 0 rfl) ?_
  refine lv_iload_n hx hb dX10_begin_6 rfl (lv_at hl 2 rfl) ?_
  refine X_p26_1 hL C0 hw (fun w h => (List.mem_cons_of_mem _ (List.mem_append_right _ h))) ho h ((List.mem_cons_of_mem _ (List.mem_append_left _ (List.mem_of_getElem? (i := 1) rfl)))) dX10_begin_7 (fun t2 H locs hw h => ?_)
  refine lv_aload_n hx hb dX10_begin_10 rfl (lv_at hl 0 rfl) ?_
  refine lv_iload_n hx hb dX10_begin_11 rfl (lv_at hl 3 rfl) ?_
  refine X_p26_2 hL C0 hw (fun w h => (List.mem_cons_of_mem _ (List.mem_append_right _ h))) ho h ((List.mem_cons_of_mem _ (List.mem_append_left _ (List.mem_of_getElem? (i := 2) rfl)))) dX10_begin_12 (fun t3 H locs hw h => ?_)
  refine lv_aload hx hb dX10_begin_15 (lv_at hl 4 rfl) ?_
  refine lv_iconst (v := 0) hx hb dX10_begin_17 (by decide) ?_
  refine lv_aload_n hx hb dX10_begin_18 rfl (lv_at hl 0 rfl) ?_
  refine X_g26_3 C0 hw (fun w h => (List.mem_cons_of_mem _ (List.mem_append_right _ h))) ho ((List.mem_cons_of_mem _ (List.mem_append_left _ (List.mem_of_getElem? (i := 3) rfl)))) dX10_begin_19 ?_
  refine lv_iconst (v := 0) hx hb dX10_begin_22 (by decide) ?_
  refine lv_iconst (v := 3) hx hb dX10_begin_23 (by decide) ?_
  refine X_cpd hL C0 hw h (sp := 0) (dp := 0) (n := 3) rfl rfl rfl (by decide) (by decide) ⟨by decide, by decide⟩ (hml.trans hl.1.symm) hown (C0.1.2.2.2.2 _ (List.mem_cons_of_mem _ (List.mem_append_left _ (List.mem_of_getElem? (i := 4) rfl)))) (C0.1.2.2.2.2 _ (List.mem_cons_of_mem _ (List.mem_append_left _ (List.mem_of_getElem? (i := 5) rfl)))) (C0.1.2.2.2.2 _ (List.mem_cons_of_mem _ (List.mem_append_left _ (List.mem_of_getElem? (i := 6) rfl)))) (C0.1.2.2.2.2 _ (List.mem_cons_of_mem _ (List.mem_append_left _ (List.mem_of_getElem? (i := 7) rfl)))) (Nat.le_of_ble_eq_true rfl) (Nat.le_of_ble_eq_true rfl) dX10_begin_24 (fun t4 H locs hw h => ?_)
  cases h
  exact W.vret hx hb hr (X_fin C0 hw) hw.2.2.2 dX10_begin_27 hlocks

def fX10_setSizes (oi : Nat) (a1 : Int32) (a2 : Int32) (a3 : Int32) (st : Sto) : Option Sto :=
  nd (FP.ddiv (FP.i2d a1) (4621819117588971520 : UInt64)) fun (v1 : UInt64) =>
  ck (0 ≤ (0 : Int32).toInt ∧ (0 : Int32).toInt < (lDX (28) oi : Int)) (lt1 (sD st (28) oi (0) v1) fun (t2 : Sto) =>
   nd (FP.ddiv (FP.i2d a2) (4621819117588971520 : UInt64)) fun (v3 : UInt64) =>
   ck (0 ≤ (1 : Int32).toInt ∧ (1 : Int32).toInt < (lDX (28) oi : Int)) (lt1 (sD t2 (28) oi (1) v3) fun (t4 : Sto) =>
    nd (FP.ddiv (FP.i2d a3) (4621819117588971520 : UInt64)) fun (v5 : UInt64) =>
    ck (0 ≤ (2 : Int32).toInt ∧ (2 : Int32).toInt < (lDX (28) oi : Int)) (lt1 (sD t4 (28) oi (2) v5) fun (t6 : Sto) =>
     some t6)))
set_option maxHeartbeats 4000000 in
set_option maxRecDepth 100000 in
theorem mX10_setSizes (l : Launch) (E : XE) (hL : LX E) (st : Sto) {oi : Nat} {a1 : Int32} {a2 : Int32} {a3 : Int32} (ho : oi < cntX 26) {st1 : Sto} (h : fX10_setSizes oi a1 a2 a3 st = some st1) : Met l yX10_setSizes wsX10_setSizes ({ frames := 0, cells := 0, slots := 0, locals := 0 }) (va_Pc [.ref (E.2.2.1 26 oi), .int a1, .int a2, .int a3] (RX E st)) (QX E none st1) 0 0 E.2.2.2 := by
  refine Met.ofW (cc := cX10_setSizes) (maxL := 4) (ret := none) (by decide) rfl ?_
  intro p e s m args below meth c s₁ B hml hv
  obtain ⟨rfl, hP, hK⟩ := hv
  have hown : s.vm.findClass RX10 = some m.cls := findClass_of_methodNamed B.named
  have C0 : CX p m c cX10_setSizes 4 s _ wsX10_setSizes RX10 E := ⟨⟨B.exec, B.bytes, hml, hown, atoms_spec (ws := wsX10_setSizes) B.pre⟩, hK⟩
  have hx := B.exec
  have hb := B.bytes
  have hr := B.returns
  have hlocks := B.notSynchronized
  have hw : SX E s st s.heap [] := ⟨hP, va_S.rf⟩
  have hl := lv_entry ([.ref (E.2.2.1 26 oi), .int a1, .int a2, .int a3]) (n := 4) (Nat.le_of_ble_eq_true rfl)
  rw [lg_entry_eq]
  generalize (lg_sl ([.ref (E.2.2.1 26 oi), .int a1, .int a2, .int a3]) ++ List.replicate (4 - (lg_sl ([.ref (E.2.2.1 26 oi), .int a1, .int a2, .int a3])).length) Slot.unset).toArray = ls at hl ⊢
  have hl : lv_has ls 4 [(0, .ref (E.2.2.1 26 oi)), (1, .int a1), (2, .int a2), (3, .int a3)] := hl
  unfold fX10_setSizes at h
  refine lv_aload_n hx hb dX10_setSizes_0 rfl (lv_at hl 0 rfl) ?_
  refine X_g26_4 C0 hw (fun w h => (List.mem_cons_of_mem _ (List.mem_append_right _ h))) ho ((List.mem_cons_of_mem _ (List.mem_append_left _ (List.mem_of_getElem? (i := 0) rfl)))) dX10_setSizes_1 ?_
  refine lv_iconst (v := 0) hx hb dX10_setSizes_4 (by decide) ?_
  refine lv_iload_n hx hb dX10_setSizes_5 rfl (lv_at hl 1 rfl) ?_
  refine lv_i2d hx hb dX10_setSizes_6 ?_
  refine lv_ldc2d hx hb hown (C0.1.2.2.2.2 _ (List.mem_cons_of_mem _ (List.mem_append_left _ (List.mem_of_getElem? (i := 1) rfl)))) dX10_setSizes_7 ?_
  refine x_ddiv hx hb h dX10_setSizes_10 (fun v1 h => ?_)
  refine X_dast hL C0 hw h (k := 0) rfl dX10_setSizes_11 (fun t2 H locs hw h => ?_)
  refine lv_aload_n hx hb dX10_setSizes_12 rfl (lv_at hl 0 rfl) ?_
  refine X_g26_4 C0 hw (fun w h => (List.mem_cons_of_mem _ (List.mem_append_right _ h))) ho ((List.mem_cons_of_mem _ (List.mem_append_left _ (List.mem_of_getElem? (i := 0) rfl)))) dX10_setSizes_13 ?_
  refine lv_iconst (v := 1) hx hb dX10_setSizes_16 (by decide) ?_
  refine lv_iload_n hx hb dX10_setSizes_17 rfl (lv_at hl 2 rfl) ?_
  refine lv_i2d hx hb dX10_setSizes_18 ?_
  refine lv_ldc2d hx hb hown (C0.1.2.2.2.2 _ (List.mem_cons_of_mem _ (List.mem_append_left _ (List.mem_of_getElem? (i := 1) rfl)))) dX10_setSizes_19 ?_
  refine x_ddiv hx hb h dX10_setSizes_22 (fun v3 h => ?_)
  refine X_dast hL C0 hw h (k := 1) rfl dX10_setSizes_23 (fun t4 H locs hw h => ?_)
  refine lv_aload_n hx hb dX10_setSizes_24 rfl (lv_at hl 0 rfl) ?_
  refine X_g26_4 C0 hw (fun w h => (List.mem_cons_of_mem _ (List.mem_append_right _ h))) ho ((List.mem_cons_of_mem _ (List.mem_append_left _ (List.mem_of_getElem? (i := 0) rfl)))) dX10_setSizes_25 ?_
  refine lv_iconst (v := 2) hx hb dX10_setSizes_28 (by decide) ?_
  refine lv_iload_n hx hb dX10_setSizes_29 rfl (lv_at hl 3 rfl) ?_
  refine lv_i2d hx hb dX10_setSizes_30 ?_
  refine lv_ldc2d hx hb hown (C0.1.2.2.2.2 _ (List.mem_cons_of_mem _ (List.mem_append_left _ (List.mem_of_getElem? (i := 1) rfl)))) dX10_setSizes_31 ?_
  refine x_ddiv hx hb h dX10_setSizes_34 (fun v5 h => ?_)
  refine X_dast hL C0 hw h (k := 2) rfl dX10_setSizes_35 (fun t6 H locs hw h => ?_)
  cases h
  exact W.vret hx hb hr (X_fin C0 hw) hw.2.2.2 dX10_setSizes_36 hlocks

def fX10_sideOfBox (oi : Nat) (a1f : Nat) (a1i : Nat) (st : Sto) : Option Int32 :=
  ((lp (σ := (Int32 × Int32)) (ρ := (Int32 ⊕ Int32)) (un2 fun (v4 : Int32) (v5 : Int32) =>
     if (3 : Int32) ≤ v4 then (
      some (.inr (.inr v5))) else (
      ck (0 ≤ v4.toInt ∧ v4.toInt < (lDX a1f a1i : Int)) (
       ck (0 ≤ v4.toInt ∧ v4.toInt < (lDX (27) oi : Int)) (
        nd (FP.dsub (gD st a1f a1i (v4.toNatClampNeg)) (gD st (27) oi (v4.toNatClampNeg))) fun (v8 : UInt64) =>
        ck (0 ≤ v4.toInt ∧ v4.toInt < (lDX (28) oi : Int)) (
         if 0 < Op.cmpValue (FP.dcmp v8 (gD st (28) oi (v4.toNatClampNeg))) CmpOp.l then (
          some (.inr (.inl (0 : Int32)))) else (
          ck (0 ≤ v4.toInt ∧ v4.toInt < (lDX (28) oi : Int)) (
           if 0 ≤ Op.cmpValue (FP.dcmp v8 (FP.dneg (gD st (28) oi (v4.toNatClampNeg)))) CmpOp.g then (
            ck (0 ≤ v4.toInt ∧ v4.toInt < (lDX (28) oi : Int)) (
             if Op.cmpValue (FP.dcmp v8 (gD st (28) oi (v4.toNatClampNeg))) CmpOp.l = 0 then (
              lt1 (v4 + Int32.ofInt (1)) fun (v12 : Int32) =>
              some (.inl (v12, (2 : Int32)))) else (
              ck (0 ≤ v4.toInt ∧ v4.toInt < (lDX (28) oi : Int)) (
               if Op.cmpValue (FP.dcmp v8 (FP.dneg (gD st (28) oi (v4.toNatClampNeg)))) CmpOp.l = 0 then (
                lt1 (v4 + Int32.ofInt (1)) fun (v15 : Int32) =>
                some (.inl (v15, (2 : Int32)))) else (
                lt1 (v4 + Int32.ofInt (1)) fun (v14 : Int32) =>
                some (.inl (v14, v5))))))) else (
            some (.inr (.inl (0 : Int32))))))))))) 4000 ((0 : Int32), (1 : Int32))).bind
   (sm (fun (q : Int32) => some q) (fun (v6 : Int32) =>
     some v6)))
set_option maxHeartbeats 4000000 in
set_option maxRecDepth 100000 in
theorem mX10_sideOfBox (l : Launch) (E : XE) (hL : LX E) (st : Sto) {oi : Nat} {a1f : Nat} {a1i : Nat} (ho : oi < cntX 26) {r : Int32} (h : fX10_sideOfBox oi a1f a1i st = some r) : Met l yX10_sideOfBox wsX10_sideOfBox ({ frames := 0, cells := 0, slots := 0, locals := 0 }) (va_Pc [.ref (E.2.2.1 26 oi), .ref (E.2.2.1 a1f a1i)] (RX E st)) (QX E (some (.int r)) st) 0 0 E.2.2.2 := by
  refine Met.ofW (cc := cX10_sideOfBox) (maxL := 6) (ret := (some .int)) (by decide) rfl ?_
  intro p e s m args below meth c s₁ B hml hv
  obtain ⟨rfl, hP, hK⟩ := hv
  have hown : s.vm.findClass RX10 = some m.cls := findClass_of_methodNamed B.named
  have C0 : CX p m c cX10_sideOfBox 6 s _ wsX10_sideOfBox RX10 E := ⟨⟨B.exec, B.bytes, hml, hown, atoms_spec (ws := wsX10_sideOfBox) B.pre⟩, hK⟩
  have hx := B.exec
  have hb := B.bytes
  have hr := B.returns
  have hlocks := B.notSynchronized
  have hw : SX E s st s.heap [] := ⟨hP, va_S.rf⟩
  have hl := lv_entry ([.ref (E.2.2.1 26 oi), .ref (E.2.2.1 a1f a1i)]) (n := 6) (Nat.le_of_ble_eq_true rfl)
  rw [lg_entry_eq]
  generalize (lg_sl ([.ref (E.2.2.1 26 oi), .ref (E.2.2.1 a1f a1i)]) ++ List.replicate (6 - (lg_sl ([.ref (E.2.2.1 26 oi), .ref (E.2.2.1 a1f a1i)])).length) Slot.unset).toArray = ls at hl ⊢
  have hl : lv_has ls 6 [(0, .ref (E.2.2.1 26 oi)), (1, .ref (E.2.2.1 a1f a1i))] := hl
  unfold fX10_sideOfBox at h
  refine lv_iconst (v := 1) hx hb dX10_sideOfBox_0 (by decide) ?_
  refine lv_istore_n (lv' := [(2, .int (1 : Int32)), (0, .ref (E.2.2.1 26 oi)), (1, .ref (E.2.2.1 a1f a1i))]) hx hb dX10_sideOfBox_1 rfl hl (by decide) rfl (fun ls hl => ?_)
  refine lv_iconst (v := 0) hx hb dX10_sideOfBox_2 (by decide) ?_
  refine lv_istore_n (lv' := [(3, .int (0 : Int32)), (2, .int (1 : Int32)), (0, .ref (E.2.2.1 26 oi)), (1, .ref (E.2.2.1 a1f a1i))]) hx hb dX10_sideOfBox_3 rfl hl (by decide) rfl (fun ls hl => ?_)
  refine lp_ind (fun q : (Int32 × Int32) => ∀ (H : Heap) (locs : List Loc), SX E s st H locs → ∀ ls : Array Slot, lv_has ls 6 [(3, .int (q.1)), (2, .int (q.2)), (0, .ref (E.2.2.1 26 oi)), (1, .ref (E.2.2.1 a1f a1i))] → W p l e (headSpec wsX10_sideOfBox ({ frames := 0, cells := 0, slots := 0, locals := 0 })).room s m ([.ref (E.2.2.1 26 oi), .ref (E.2.2.1 a1f a1i)] : List Value).toArray below meth c H locs 0 0 (MQ below (QX E (some (.int r)) st) ([.ref (E.2.2.1 26 oi), .ref (E.2.2.1 a1f a1i)] : List Value).toArray s 0 0 E.2.2.2) (F0 m 4 ls [])) (fun q o3 h hB2 hX1 => ?_) _ _ h _ _ hw _ (lv_sub hl [0, 1, 2, 3] rfl)
  intro H locs hw ls hl
  obtain ⟨v4, v5⟩ := q
  have h := un2_d h
  have hl : lv_has ls 6 [(3, .int v4), (2, .int v5), (0, .ref (E.2.2.1 26 oi)), (1, .ref (E.2.2.1 a1f a1i))] := hl
  refine lv_iload_n hx hb dX10_sideOfBox_4 rfl (lv_at hl 0 rfl) ?_
  refine lv_iconst (v := 3) hx hb dX10_sideOfBox_5 (by decide) ?_
  refine lv_icmp_ge (tgt := 81) hx hb dX10_sideOfBox_6 (by decide) (fun hc7 => ?_) (fun hc7 => ?_)
  · have h := ifp h hc7
    have h := hX1 _ (Option.some.inj h).symm
    have h := sm_r h
    have hl := lv_sub hl (l' := [(2, .int v5)]) [1] rfl
    refine lv_iload_n hx hb dX10_sideOfBox_81 rfl (lv_at hl 0 rfl) ?_
    cases h
    exact W.iret hx hb hr (X_fin C0 hw) hw.2.2.2 dX10_sideOfBox_82 hlocks
  · have h := ifn h hc7
    refine lv_aload_n hx hb dX10_sideOfBox_9 rfl (lv_at hl 3 rfl) ?_
    refine lv_iload_n hx hb dX10_sideOfBox_10 rfl (lv_at hl 0 rfl) ?_
    refine X_dald C0 hw h (k := v4.toNatClampNeg) rfl dX10_sideOfBox_11 (fun h => ?_)
    refine lv_aload_n hx hb dX10_sideOfBox_12 rfl (lv_at hl 2 rfl) ?_
    refine X_g26_3 C0 hw (fun w h => (List.mem_cons_of_mem _ (List.mem_append_right _ h))) ho ((List.mem_cons_of_mem _ (List.mem_append_left _ (List.mem_of_getElem? (i := 0) rfl)))) dX10_sideOfBox_13 ?_
    refine lv_iload_n hx hb dX10_sideOfBox_16 rfl (lv_at hl 0 rfl) ?_
    refine X_dald C0 hw h (k := v4.toNatClampNeg) rfl dX10_sideOfBox_17 (fun h => ?_)
    refine x_dsub hx hb h dX10_sideOfBox_18 (fun v8 h => ?_)
    refine lv_dstore (lv' := [(4, .double v8), (3, .int v4), (2, .int v5), (0, .ref (E.2.2.1 26 oi)), (1, .ref (E.2.2.1 a1f a1i))]) hx hb dX10_sideOfBox_19 hl (by decide) rfl (fun ls hl => ?_)
    refine lv_dload hx hb dX10_sideOfBox_21 (lv_at hl 0 rfl) ?_
    refine lv_aload_n hx hb dX10_sideOfBox_23 rfl (lv_at hl 3 rfl) ?_
    refine X_g26_4 C0 hw (fun w h => (List.mem_cons_of_mem _ (List.mem_append_right _ h))) ho ((List.mem_cons_of_mem _ (List.mem_append_left _ (List.mem_of_getElem? (i := 1) rfl)))) dX10_sideOfBox_24 ?_
    refine lv_iload_n hx hb dX10_sideOfBox_27 rfl (lv_at hl 1 rfl) ?_
    refine X_dald C0 hw h (k := v4.toNatClampNeg) rfl dX10_sideOfBox_28 (fun h => ?_)
    refine lv_dcmp hx hb dX10_sideOfBox_29 ?_
    refine lv_if_gt (tgt := 46) hx hb dX10_sideOfBox_30 (by decide) (fun hc9 => ?_) (fun hc9 => ?_)
    · have h := ifp h hc9
      refine lv_iconst (v := 0) hx hb dX10_sideOfBox_46 (by decide) ?_
      have h := hX1 _ (Option.some.inj h).symm
      have h := sm_l h
      cases h
      exact W.iret hx hb hr (X_fin C0 hw) hw.2.2.2 dX10_sideOfBox_47 hlocks
    · have h := ifn h hc9
      refine lv_dload hx hb dX10_sideOfBox_33 (lv_at hl 0 rfl) ?_
      refine lv_aload_n hx hb dX10_sideOfBox_35 rfl (lv_at hl 3 rfl) ?_
      refine X_g26_4 C0 hw (fun w h => (List.mem_cons_of_mem _ (List.mem_append_right _ h))) ho ((List.mem_cons_of_mem _ (List.mem_append_left _ (List.mem_of_getElem? (i := 1) rfl)))) dX10_sideOfBox_36 ?_
      refine lv_iload_n hx hb dX10_sideOfBox_39 rfl (lv_at hl 1 rfl) ?_
      refine X_dald C0 hw h (k := v4.toNatClampNeg) rfl dX10_sideOfBox_40 (fun h => ?_)
      refine lv_dneg hx hb dX10_sideOfBox_41 ?_
      refine lv_dcmp hx hb dX10_sideOfBox_42 ?_
      refine lv_if_ge (tgt := 48) hx hb dX10_sideOfBox_43 (by decide) (fun hc10 => ?_) (fun hc10 => ?_)
      · have h := ifp h hc10
        refine lv_dload hx hb dX10_sideOfBox_48 (lv_at hl 0 rfl) ?_
        refine lv_aload_n hx hb dX10_sideOfBox_50 rfl (lv_at hl 3 rfl) ?_
        refine X_g26_4 C0 hw (fun w h => (List.mem_cons_of_mem _ (List.mem_append_right _ h))) ho ((List.mem_cons_of_mem _ (List.mem_append_left _ (List.mem_of_getElem? (i := 1) rfl)))) dX10_sideOfBox_51 ?_
        refine lv_iload_n hx hb dX10_sideOfBox_54 rfl (lv_at hl 1 rfl) ?_
        refine X_dald C0 hw h (k := v4.toNatClampNeg) rfl dX10_sideOfBox_55 (fun h => ?_)
        refine lv_dcmp hx hb dX10_sideOfBox_56 ?_
        refine lv_if_eq (tgt := 73) hx hb dX10_sideOfBox_57 (by decide) (fun hc11 => ?_) (fun hc11 => ?_)
        · have h := ifp h hc11
          refine lv_iconst (v := 2) hx hb dX10_sideOfBox_73 (by decide) ?_
          refine lv_istore_n (lv' := [(2, .int (2 : Int32)), (4, .double v8), (3, .int v4), (0, .ref (E.2.2.1 26 oi)), (1, .ref (E.2.2.1 a1f a1i))]) hx hb dX10_sideOfBox_74 rfl hl (by decide) rfl (fun ls hl => ?_)
          refine x_iinc hx hb h dX10_sideOfBox_75 hl (q := 2) rfl (fun v12 => [(3, .int v12), (2, .int (2 : Int32)), (4, .double v8), (0, .ref (E.2.2.1 26 oi)), (1, .ref (E.2.2.1 a1f a1i))]) (by decide) (fun _ => rfl) (fun v12 ls hl h => ?_)
          refine lv_goto (tgt := 4) hx hb dX10_sideOfBox_78 (by decide) ?_
          exact hB2 _ (Option.some.inj h).symm _ _ hw _ (lv_sub hl [0, 1, 3, 4] rfl)
        · have h := ifn h hc11
          refine lv_dload hx hb dX10_sideOfBox_60 (lv_at hl 0 rfl) ?_
          refine lv_aload_n hx hb dX10_sideOfBox_62 rfl (lv_at hl 3 rfl) ?_
          refine X_g26_4 C0 hw (fun w h => (List.mem_cons_of_mem _ (List.mem_append_right _ h))) ho ((List.mem_cons_of_mem _ (List.mem_append_left _ (List.mem_of_getElem? (i := 1) rfl)))) dX10_sideOfBox_63 ?_
          refine lv_iload_n hx hb dX10_sideOfBox_66 rfl (lv_at hl 1 rfl) ?_
          refine X_dald C0 hw h (k := v4.toNatClampNeg) rfl dX10_sideOfBox_67 (fun h => ?_)
          refine lv_dneg hx hb dX10_sideOfBox_68 ?_
          refine lv_dcmp hx hb dX10_sideOfBox_69 ?_
          refine lv_if_ne (tgt := 75) hx hb dX10_sideOfBox_70 (by decide) (fun hc13 => ?_) (fun hc13 => ?_)
          · have h := ifn h hc13
            refine x_iinc hx hb h dX10_sideOfBox_75 hl (q := 1) rfl (fun v14 => [(3, .int v14), (4, .double v8), (2, .int v5), (0, .ref (E.2.2.1 26 oi)), (1, .ref (E.2.2.1 a1f a1i))]) (by decide) (fun _ => rfl) (fun v14 ls hl h => ?_)
            refine lv_goto (tgt := 4) hx hb dX10_sideOfBox_78 (by decide) ?_
            exact hB2 _ (Option.some.inj h).symm _ _ hw _ (lv_sub hl [0, 2, 3, 4] rfl)
          · have h := ifp h hc13
            refine lv_iconst (v := 2) hx hb dX10_sideOfBox_73 (by decide) ?_
            refine lv_istore_n (lv' := [(2, .int (2 : Int32)), (4, .double v8), (3, .int v4), (0, .ref (E.2.2.1 26 oi)), (1, .ref (E.2.2.1 a1f a1i))]) hx hb dX10_sideOfBox_74 rfl hl (by decide) rfl (fun ls hl => ?_)
            refine x_iinc hx hb h dX10_sideOfBox_75 hl (q := 2) rfl (fun v15 => [(3, .int v15), (2, .int (2 : Int32)), (4, .double v8), (0, .ref (E.2.2.1 26 oi)), (1, .ref (E.2.2.1 a1f a1i))]) (by decide) (fun _ => rfl) (fun v15 ls hl h => ?_)
            refine lv_goto (tgt := 4) hx hb dX10_sideOfBox_78 (by decide) ?_
            exact hB2 _ (Option.some.inj h).symm _ _ hw _ (lv_sub hl [0, 1, 3, 4] rfl)
      · have h := ifn h hc10
        refine lv_iconst (v := 0) hx hb dX10_sideOfBox_46 (by decide) ?_
        have h := hX1 _ (Option.some.inj h).symm
        have h := sm_l h
        cases h
        exact W.iret hx hb hr (X_fin C0 hw) hw.2.2.2 dX10_sideOfBox_47 hlocks

def fX10_sideOfEllipsoid (oi : Nat) (a1f : Nat) (a1i : Nat) (st : Sto) : Option Int32 :=
  ((lp (σ := (Int32 × UInt64)) (ρ := UInt64) (un2 fun (v4 : Int32) (v5 : UInt64) =>
     if (3 : Int32) ≤ v4 then (
      some (.inr v5)) else (
      ck (0 ≤ v4.toInt ∧ v4.toInt < (lDX a1f a1i : Int)) (
       ck (0 ≤ v4.toInt ∧ v4.toInt < (lDX (27) oi : Int)) (
        nd (FP.dsub (gD st a1f a1i (v4.toNatClampNeg)) (gD st (27) oi (v4.toNatClampNeg))) fun (v10 : UInt64) =>
        nd (FP.dmul v10 v10) fun (v11 : UInt64) =>
        ck (0 ≤ v4.toInt ∧ v4.toInt < (lDX (28) oi : Int)) (
         ck (0 ≤ v4.toInt ∧ v4.toInt < (lDX (28) oi : Int)) (
          nd (FP.dmul (gD st (28) oi (v4.toNatClampNeg)) (gD st (28) oi (v4.toNatClampNeg))) fun (v12 : UInt64) =>
          nd (FP.ddiv v11 v12) fun (v13 : UInt64) =>
          nd (FP.dadd v5 v13) fun (v14 : UInt64) =>
          lt1 (v4 + Int32.ofInt (1)) fun (v15 : Int32) =>
          some (.inl (v15, v14)))))))) 4000 ((0 : Int32), FP.dconst0)).bind
   (fun (v6 : UInt64) =>
    if 0 ≤ Op.cmpValue (FP.dcmp v6 FP.dconst1) CmpOp.g then (
     if Op.cmpValue (FP.dcmp v6 FP.dconst1) CmpOp.l = 0 then (
      some (2 : Int32)) else (
      some (0 : Int32))) else (
     some (1 : Int32))))
set_option maxHeartbeats 4000000 in
set_option maxRecDepth 100000 in
theorem mX10_sideOfEllipsoid (l : Launch) (E : XE) (hL : LX E) (st : Sto) {oi : Nat} {a1f : Nat} {a1i : Nat} (ho : oi < cntX 26) {r : Int32} (h : fX10_sideOfEllipsoid oi a1f a1i st = some r) : Met l yX10_sideOfEllipsoid wsX10_sideOfEllipsoid ({ frames := 0, cells := 0, slots := 0, locals := 0 }) (va_Pc [.ref (E.2.2.1 26 oi), .ref (E.2.2.1 a1f a1i)] (RX E st)) (QX E (some (.int r)) st) 0 0 E.2.2.2 := by
  refine Met.ofW (cc := cX10_sideOfEllipsoid) (maxL := 7) (ret := (some .int)) (by decide) rfl ?_
  intro p e s m args below meth c s₁ B hml hv
  obtain ⟨rfl, hP, hK⟩ := hv
  have hown : s.vm.findClass RX10 = some m.cls := findClass_of_methodNamed B.named
  have C0 : CX p m c cX10_sideOfEllipsoid 7 s _ wsX10_sideOfEllipsoid RX10 E := ⟨⟨B.exec, B.bytes, hml, hown, atoms_spec (ws := wsX10_sideOfEllipsoid) B.pre⟩, hK⟩
  have hx := B.exec
  have hb := B.bytes
  have hr := B.returns
  have hlocks := B.notSynchronized
  have hw : SX E s st s.heap [] := ⟨hP, va_S.rf⟩
  have hl := lv_entry ([.ref (E.2.2.1 26 oi), .ref (E.2.2.1 a1f a1i)]) (n := 7) (Nat.le_of_ble_eq_true rfl)
  rw [lg_entry_eq]
  generalize (lg_sl ([.ref (E.2.2.1 26 oi), .ref (E.2.2.1 a1f a1i)]) ++ List.replicate (7 - (lg_sl ([.ref (E.2.2.1 26 oi), .ref (E.2.2.1 a1f a1i)])).length) Slot.unset).toArray = ls at hl ⊢
  have hl : lv_has ls 7 [(0, .ref (E.2.2.1 26 oi)), (1, .ref (E.2.2.1 a1f a1i))] := hl
  unfold fX10_sideOfEllipsoid at h
  refine lv_dconst0 hx hb dX10_sideOfEllipsoid_0 ?_
  refine lv_dstore_n (lv' := [(2, .double FP.dconst0), (0, .ref (E.2.2.1 26 oi)), (1, .ref (E.2.2.1 a1f a1i))]) hx hb dX10_sideOfEllipsoid_1 rfl hl (by decide) rfl (fun ls hl => ?_)
  refine lv_iconst (v := 0) hx hb dX10_sideOfEllipsoid_2 (by decide) ?_
  refine lv_istore (lv' := [(4, .int (0 : Int32)), (2, .double FP.dconst0), (0, .ref (E.2.2.1 26 oi)), (1, .ref (E.2.2.1 a1f a1i))]) hx hb dX10_sideOfEllipsoid_3 hl (by decide) rfl (fun ls hl => ?_)
  refine lp_ind (fun q : (Int32 × UInt64) => ∀ (H : Heap) (locs : List Loc), SX E s st H locs → ∀ ls : Array Slot, lv_has ls 7 [(4, .int (q.1)), (2, .double (q.2)), (0, .ref (E.2.2.1 26 oi)), (1, .ref (E.2.2.1 a1f a1i))] → W p l e (headSpec wsX10_sideOfEllipsoid ({ frames := 0, cells := 0, slots := 0, locals := 0 })).room s m ([.ref (E.2.2.1 26 oi), .ref (E.2.2.1 a1f a1i)] : List Value).toArray below meth c H locs 0 0 (MQ below (QX E (some (.int r)) st) ([.ref (E.2.2.1 26 oi), .ref (E.2.2.1 a1f a1i)] : List Value).toArray s 0 0 E.2.2.2) (F0 m 5 ls [])) (fun q o3 h hB2 hX1 => ?_) _ _ h _ _ hw _ (lv_sub hl [0, 1, 2, 3] rfl)
  intro H locs hw ls hl
  obtain ⟨v4, v5⟩ := q
  have h := un2_d h
  have hl : lv_has ls 7 [(4, .int v4), (2, .double v5), (0, .ref (E.2.2.1 26 oi)), (1, .ref (E.2.2.1 a1f a1i))] := hl
  refine lv_iload hx hb dX10_sideOfEllipsoid_5 (lv_at hl 0 rfl) ?_
  refine lv_iconst (v := 3) hx hb dX10_sideOfEllipsoid_7 (by decide) ?_
  refine lv_icmp_ge (tgt := 55) hx hb dX10_sideOfEllipsoid_8 (by decide) (fun hc7 => ?_) (fun hc7 => ?_)
  · have h := ifp h hc7
    have h := hX1 _ (Option.some.inj h).symm
    have hl := lv_sub hl (l' := [(2, .double v5)]) [1] rfl
    refine lv_dload_n hx hb dX10_sideOfEllipsoid_55 rfl (lv_at hl 0 rfl) ?_
    refine lv_dconst1 hx hb dX10_sideOfEllipsoid_56 ?_
    refine lv_dcmp hx hb dX10_sideOfEllipsoid_57 ?_
    refine lv_if_ge (tgt := 65) hx hb dX10_sideOfEllipsoid_58 (by decide) (fun hc8 => ?_) (fun hc8 => ?_)
    · have h := ifp h hc8
      refine lv_dload_n hx hb dX10_sideOfEllipsoid_65 rfl (lv_at hl 0 rfl) ?_
      refine lv_dconst1 hx hb dX10_sideOfEllipsoid_66 ?_
      refine lv_dcmp hx hb dX10_sideOfEllipsoid_67 ?_
      refine lv_if_ne (tgt := 75) hx hb dX10_sideOfEllipsoid_68 (by decide) (fun hc9 => ?_) (fun hc9 => ?_)
      · have h := ifn h hc9
        refine lv_iconst (v := 0) hx hb dX10_sideOfEllipsoid_75 (by decide) ?_
        cases h
        exact W.iret hx hb hr (X_fin C0 hw) hw.2.2.2 dX10_sideOfEllipsoid_76 hlocks
      · have h := ifp h hc9
        refine lv_iconst (v := 2) hx hb dX10_sideOfEllipsoid_71 (by decide) ?_
        refine lv_goto (tgt := 76) hx hb dX10_sideOfEllipsoid_72 (by decide) ?_
        cases h
        exact W.iret hx hb hr (X_fin C0 hw) hw.2.2.2 dX10_sideOfEllipsoid_76 hlocks
    · have h := ifn h hc8
      refine lv_iconst (v := 1) hx hb dX10_sideOfEllipsoid_61 (by decide) ?_
      refine lv_goto (tgt := 76) hx hb dX10_sideOfEllipsoid_62 (by decide) ?_
      cases h
      exact W.iret hx hb hr (X_fin C0 hw) hw.2.2.2 dX10_sideOfEllipsoid_76 hlocks
  · have h := ifn h hc7
    refine lv_aload_n hx hb dX10_sideOfEllipsoid_11 rfl (lv_at hl 3 rfl) ?_
    refine lv_iload hx hb dX10_sideOfEllipsoid_12 (lv_at hl 0 rfl) ?_
    refine X_dald C0 hw h (k := v4.toNatClampNeg) rfl dX10_sideOfEllipsoid_14 (fun h => ?_)
    refine lv_aload_n hx hb dX10_sideOfEllipsoid_15 rfl (lv_at hl 2 rfl) ?_
    refine X_g26_3 C0 hw (fun w h => (List.mem_cons_of_mem _ (List.mem_append_right _ h))) ho ((List.mem_cons_of_mem _ (List.mem_append_left _ (List.mem_of_getElem? (i := 0) rfl)))) dX10_sideOfEllipsoid_16 ?_
    refine lv_iload hx hb dX10_sideOfEllipsoid_19 (lv_at hl 0 rfl) ?_
    refine X_dald C0 hw h (k := v4.toNatClampNeg) rfl dX10_sideOfEllipsoid_21 (fun h => ?_)
    refine x_dsub hx hb h dX10_sideOfEllipsoid_22 (fun v10 h => ?_)
    refine lv_dstore (lv' := [(5, .double v10), (4, .int v4), (2, .double v5), (0, .ref (E.2.2.1 26 oi)), (1, .ref (E.2.2.1 a1f a1i))]) hx hb dX10_sideOfEllipsoid_23 hl (by decide) rfl (fun ls hl => ?_)
    refine lv_dload_n hx hb dX10_sideOfEllipsoid_25 rfl (lv_at hl 2 rfl) ?_
    refine lv_dload hx hb dX10_sideOfEllipsoid_26 (lv_at hl 0 rfl) ?_
    refine lv_dload hx hb dX10_sideOfEllipsoid_28 (lv_at hl 0 rfl) ?_
    refine x_dmul hx hb h dX10_sideOfEllipsoid_30 (fun v11 h => ?_)
    refine lv_aload_n hx hb dX10_sideOfEllipsoid_31 rfl (lv_at hl 3 rfl) ?_
    refine X_g26_4 C0 hw (fun w h => (List.mem_cons_of_mem _ (List.mem_append_right _ h))) ho ((List.mem_cons_of_mem _ (List.mem_append_left _ (List.mem_of_getElem? (i := 1) rfl)))) dX10_sideOfEllipsoid_32 ?_
    refine lv_iload hx hb dX10_sideOfEllipsoid_35 (lv_at hl 1 rfl) ?_
    refine X_dald C0 hw h (k := v4.toNatClampNeg) rfl dX10_sideOfEllipsoid_37 (fun h => ?_)
    refine lv_aload_n hx hb dX10_sideOfEllipsoid_38 rfl (lv_at hl 3 rfl) ?_
    refine X_g26_4 C0 hw (fun w h => (List.mem_cons_of_mem _ (List.mem_append_right _ h))) ho ((List.mem_cons_of_mem _ (List.mem_append_left _ (List.mem_of_getElem? (i := 1) rfl)))) dX10_sideOfEllipsoid_39 ?_
    refine lv_iload hx hb dX10_sideOfEllipsoid_42 (lv_at hl 1 rfl) ?_
    refine X_dald C0 hw h (k := v4.toNatClampNeg) rfl dX10_sideOfEllipsoid_44 (fun h => ?_)
    refine x_dmul hx hb h dX10_sideOfEllipsoid_45 (fun v12 h => ?_)
    refine x_ddiv hx hb h dX10_sideOfEllipsoid_46 (fun v13 h => ?_)
    refine x_dadd hx hb h dX10_sideOfEllipsoid_47 (fun v14 h => ?_)
    refine lv_dstore_n (lv' := [(2, .double v14), (5, .double v10), (4, .int v4), (0, .ref (E.2.2.1 26 oi)), (1, .ref (E.2.2.1 a1f a1i))]) hx hb dX10_sideOfEllipsoid_48 rfl hl (by decide) rfl (fun ls hl => ?_)
    refine x_iinc hx hb h dX10_sideOfEllipsoid_49 hl (q := 2) rfl (fun v15 => [(4, .int v15), (2, .double v14), (5, .double v10), (0, .ref (E.2.2.1 26 oi)), (1, .ref (E.2.2.1 a1f a1i))]) (by decide) (fun _ => rfl) (fun v15 ls hl h => ?_)
    refine lv_goto (tgt := 5) hx hb dX10_sideOfEllipsoid_52 (by decide) ?_
    exact hB2 _ (Option.some.inj h).symm _ _ hw _ (lv_sub hl [0, 1, 3, 4] rfl)

def fX10_sideOf (oi : Nat) (a1f : Nat) (a1i : Nat) (st : Sto) : Option Int32 :=
  if gI st 26 oi 0 = 0 then (
   (fX10_sideOfBox oi a1f a1i st).bind (fun (v4 : Int32) =>
    some v4)) else (
   (fX10_sideOfEllipsoid oi a1f a1i st).bind (fun (v2 : Int32) =>
    some v2))
set_option maxHeartbeats 4000000 in
set_option maxRecDepth 100000 in
theorem mX10_sideOf (l : Launch) (E : XE) (hL : LX E) (st : Sto) {oi : Nat} {a1f : Nat} {a1i : Nat} (ho : oi < cntX 26) {r : Int32} (h : fX10_sideOf oi a1f a1i st = some r) : Met l yX10_sideOf wsX10_sideOf ({ frames := 1, cells := 0, slots := 0, locals := 26 }) (va_Pc [.ref (E.2.2.1 26 oi), .ref (E.2.2.1 a1f a1i)] (RX E st)) (QX E (some (.int r)) st) 0 0 E.2.2.2 := by
  refine Met.ofW (cc := cX10_sideOf) (maxL := 2) (ret := (some .int)) (by decide) rfl ?_
  intro p e s m args below meth c s₁ B hml hv
  obtain ⟨rfl, hP, hK⟩ := hv
  have hown : s.vm.findClass RX10 = some m.cls := findClass_of_methodNamed B.named
  have C0 : CX p m c cX10_sideOf 2 s _ wsX10_sideOf RX10 E := ⟨⟨B.exec, B.bytes, hml, hown, atoms_spec (ws := wsX10_sideOf) B.pre⟩, hK⟩
  have hx := B.exec
  have hb := B.bytes
  have hr := B.returns
  have hlocks := B.notSynchronized
  have hw : SX E s st s.heap [] := ⟨hP, va_S.rf⟩
  have hl := lv_entry ([.ref (E.2.2.1 26 oi), .ref (E.2.2.1 a1f a1i)]) (n := 2) (Nat.le_of_ble_eq_true rfl)
  rw [lg_entry_eq]
  generalize (lg_sl ([.ref (E.2.2.1 26 oi), .ref (E.2.2.1 a1f a1i)]) ++ List.replicate (2 - (lg_sl ([.ref (E.2.2.1 26 oi), .ref (E.2.2.1 a1f a1i)])).length) Slot.unset).toArray = ls at hl ⊢
  have hl : lv_has ls 2 [(0, .ref (E.2.2.1 26 oi)), (1, .ref (E.2.2.1 a1f a1i))] := hl
  unfold fX10_sideOf at h
  refine lv_aload_n hx hb dX10_sideOf_0 rfl (lv_at hl 0 rfl) ?_
  refine X_g26_0 C0 hw (fun w h => (List.mem_cons_of_mem _ (List.mem_append_right _ h))) ho ((List.mem_cons_of_mem _ (List.mem_append_left _ (List.mem_of_getElem? (i := 0) rfl)))) dX10_sideOf_1 ?_
  refine lv_if_ne (tgt := 15) hx hb dX10_sideOf_4 (by decide) (fun hc1 => ?_) (fun hc1 => ?_)
  · have h := ifn h hc1
    refine lv_aload_n hx hb dX10_sideOf_15 rfl (lv_at hl 0 rfl) ?_
    refine lv_aload_n hx hb dX10_sideOf_16 rfl (lv_at hl 1 rfl) ?_
    obtain ⟨v2, hf3, h⟩ := bn_c h
    refine X_callV C0 hw (As := [.ref (E.2.2.1 a1f a1i)]) (rest := []) (mX10_sideOfEllipsoid l E hL st ho hf3) (cwV 1 C0.1.2.2.2.2 gX10_sideOf_X10_sideOfEllipsoid rfl rfl rfl (by decide +kernel) ⟨Nat.le_of_ble_eq_true rfl, Nat.le_of_ble_eq_true rfl⟩) (X_recv_26 C0 hw ho) rfl hl.1 rfl (Nat.le_of_ble_eq_true rfl) dX10_sideOf_17 ⟨Nat.zero_le _, Nat.zero_le _⟩ (fun H locs hw => ?_)
    refine W.eq (g2 := F0 m 20 ls [.int v2]) rfl ?_
    cases h
    exact W.iret hx hb hr (X_fin C0 hw) hw.2.2.2 dX10_sideOf_20 hlocks
  · have h := ifp h hc1
    refine lv_aload_n hx hb dX10_sideOf_7 rfl (lv_at hl 0 rfl) ?_
    refine lv_aload_n hx hb dX10_sideOf_8 rfl (lv_at hl 1 rfl) ?_
    obtain ⟨v4, hf5, h⟩ := bn_c h
    refine X_callV C0 hw (As := [.ref (E.2.2.1 a1f a1i)]) (rest := []) (mX10_sideOfBox l E hL st ho hf5) (cwV 1 C0.1.2.2.2.2 gX10_sideOf_X10_sideOfBox rfl rfl rfl (by decide +kernel) ⟨Nat.le_of_ble_eq_true rfl, Nat.le_of_ble_eq_true rfl⟩) (X_recv_26 C0 hw ho) rfl hl.1 rfl (Nat.le_of_ble_eq_true rfl) dX10_sideOf_9 ⟨Nat.zero_le _, Nat.zero_le _⟩ (fun H locs hw => ?_)
    refine W.eq (g2 := F0 m 12 ls [.int v4]) rfl ?_
    refine lv_goto (tgt := 20) hx hb dX10_sideOf_12 (by decide) ?_
    cases h
    exact W.iret hx hb hr (X_fin C0 hw) hw.2.2.2 dX10_sideOf_20 hlocks

def fX11_bands (a1 : Int32) (a2 : Int32) (a3 : Int32) (a4 : Int32) (a5 : Int32) (st : Sto) : Option (Int32 × Sto) :=
  if a1 < 0 then (
   some ((0 : Int32), st)) else (
   if a1 ≤ (3 : Int32) then (
    (fX7_isTaken a2).bind (fun (v3 : Int32) =>
     if v3 = 0 then (
      some ((0 : Int32), st)) else (
      (fX7_isTaken a3).bind (fun (v6 : Int32) =>
       if v6 = 0 then (
        some ((0 : Int32), st)) else (
        (fX7_isTaken a4).bind (fun (v9 : Int32) =>
         if v9 = 0 then (
          some ((0 : Int32), st)) else (
          (fX7_isTaken a5).bind (fun (v12 : Int32) =>
           if v12 = 0 then (
            some ((0 : Int32), st)) else (
            (fX7_floatOf a2).bind (fun (v15 : UInt32) =>
             ck (0 ≤ ((4 : Int32) * a1).toInt ∧ ((4 : Int32) * a1).toInt < (lFX (1) (0) : Int)) (lt1 (sF st (1) (0) (((4 : Int32) * a1).toNatClampNeg) v15) fun (t17 : Sto) =>
              (fX7_floatOf a3).bind (fun (v18 : UInt32) =>
               ck (0 ≤ (((4 : Int32) * a1) + (1 : Int32)).toInt ∧ (((4 : Int32) * a1) + (1 : Int32)).toInt < (lFX (1) (0) : Int)) (lt1 (sF t17 (1) (0) ((((4 : Int32) * a1) + (1 : Int32)).toNatClampNeg) v18) fun (t20 : Sto) =>
                (fX7_floatOf a4).bind (fun (v21 : UInt32) =>
                 ck (0 ≤ (((4 : Int32) * a1) + (2 : Int32)).toInt ∧ (((4 : Int32) * a1) + (2 : Int32)).toInt < (lFX (1) (0) : Int)) (lt1 (sF t20 (1) (0) ((((4 : Int32) * a1) + (2 : Int32)).toNatClampNeg) v21) fun (t23 : Sto) =>
                  (fX7_floatOf a5).bind (fun (v24 : UInt32) =>
                   ck (0 ≤ (((4 : Int32) * a1) + (3 : Int32)).toInt ∧ (((4 : Int32) * a1) + (3 : Int32)).toInt < (lFX (1) (0) : Int)) (lt1 (sF t23 (1) (0) ((((4 : Int32) * a1) + (3 : Int32)).toNatClampNeg) v24) fun (t26 : Sto) =>
                    some ((1 : Int32), t26)))))))))))))))))) else (
    some ((0 : Int32), st)))
set_option maxHeartbeats 4000000 in
set_option maxRecDepth 100000 in
theorem mX11_bands (l : Launch) (E : XE) (hL : LX E) (st : Sto) {a1 : Int32} {a2 : Int32} {a3 : Int32} {a4 : Int32} {a5 : Int32} {r : Int32} {st1 : Sto} (h : fX11_bands a1 a2 a3 a4 a5 st = some (r, st1)) : Met l yX11_bands wsX11_bands ({ frames := 2, cells := 0, slots := 0, locals := 49 }) (va_Pc [.ref (E.2.2.1 0 (0)), .int a1, .int a2, .int a3, .int a4, .int a5] (RX E st)) (QX E (some (.int r)) st1) 0 0 E.2.2.2 := by
  refine Met.ofW (cc := cX11_bands) (maxL := 6) (ret := (some .boolean)) (by decide) rfl ?_
  intro p e s m args below meth c s₁ B hml hv
  obtain ⟨rfl, hP, hK⟩ := hv
  have hown : s.vm.findClass RX11 = some m.cls := findClass_of_methodNamed B.named
  have C0 : CX p m c cX11_bands 6 s _ wsX11_bands RX11 E := ⟨⟨B.exec, B.bytes, hml, hown, atoms_spec (ws := wsX11_bands) B.pre⟩, hK⟩
  have hx := B.exec
  have hb := B.bytes
  have hr := B.returns
  have hlocks := B.notSynchronized
  have hw : SX E s st s.heap [] := ⟨hP, va_S.rf⟩
  have hl := lv_entry ([.ref (E.2.2.1 0 (0)), .int a1, .int a2, .int a3, .int a4, .int a5]) (n := 6) (Nat.le_of_ble_eq_true rfl)
  rw [lg_entry_eq]
  generalize (lg_sl ([.ref (E.2.2.1 0 (0)), .int a1, .int a2, .int a3, .int a4, .int a5]) ++ List.replicate (6 - (lg_sl ([.ref (E.2.2.1 0 (0)), .int a1, .int a2, .int a3, .int a4, .int a5])).length) Slot.unset).toArray = ls at hl ⊢
  have hl : lv_has ls 6 [(0, .ref (E.2.2.1 0 (0))), (1, .int a1), (2, .int a2), (3, .int a3), (4, .int a4), (5, .int a5)] := hl
  unfold fX11_bands at h
  refine lv_iload_n hx hb dX11_bands_0 rfl (lv_at hl 1 rfl) ?_
  refine lv_if_lt (tgt := 9) hx hb dX11_bands_1 (by decide) (fun hc1 => ?_) (fun hc1 => ?_)
  · have h := ifp h hc1
    refine lv_iconst (v := 0) hx hb dX11_bands_9 (by decide) ?_
    cases h
    exact W.zret hx hb hr rfl (X_fin C0 hw) hw.2.2.2 dX11_bands_10 hlocks
  · have h := ifn h hc1
    refine lv_iload_n hx hb dX11_bands_4 rfl (lv_at hl 1 rfl) ?_
    refine lv_iconst (v := 3) hx hb dX11_bands_5 (by decide) ?_
    refine lv_icmp_le (tgt := 11) hx hb dX11_bands_6 (by decide) (fun hc2 => ?_) (fun hc2 => ?_)
    · have h := ifp h hc2
      refine lv_iload_n hx hb dX11_bands_11 rfl (lv_at hl 2 rfl) ?_
      obtain ⟨v3, hf4, h⟩ := bn_c h
      refine X_callS C0 hw (As := [.int a2]) (rest := []) (mX7_isTaken l E hL st hf4) (va_cwS 1 C0.1.2.2.2.2 gX11_bands_X7_isTaken rfl rfl rfl (by decide +kernel) ⟨Nat.le_of_ble_eq_true rfl, Nat.le_of_ble_eq_true rfl⟩) rfl hl.1 rfl (Nat.le_of_ble_eq_true rfl) dX11_bands_12 ⟨Nat.zero_le _, Nat.zero_le _⟩ (fun H locs hw => ?_)
      refine W.eq (g2 := F0 m 15 ls [.int v3]) rfl ?_
      refine lv_if_eq (tgt := 41) hx hb dX11_bands_15 (by decide) (fun hc5 => ?_) (fun hc5 => ?_)
      · have h := ifp h hc5
        refine lv_iconst (v := 0) hx hb dX11_bands_41 (by decide) ?_
        cases h
        exact W.zret hx hb hr rfl (X_fin C0 hw) hw.2.2.2 dX11_bands_42 hlocks
      · have h := ifn h hc5
        refine lv_iload_n hx hb dX11_bands_18 rfl (lv_at hl 3 rfl) ?_
        obtain ⟨v6, hf7, h⟩ := bn_c h
        refine X_callS C0 hw (As := [.int a3]) (rest := []) (mX7_isTaken l E hL st hf7) (va_cwS 1 C0.1.2.2.2.2 gX11_bands_X7_isTaken rfl rfl rfl (by decide +kernel) ⟨Nat.le_of_ble_eq_true rfl, Nat.le_of_ble_eq_true rfl⟩) rfl hl.1 rfl (Nat.le_of_ble_eq_true rfl) dX11_bands_19 ⟨Nat.zero_le _, Nat.zero_le _⟩ (fun H locs hw => ?_)
        refine W.eq (g2 := F0 m 22 ls [.int v6]) rfl ?_
        refine lv_if_eq (tgt := 41) hx hb dX11_bands_22 (by decide) (fun hc8 => ?_) (fun hc8 => ?_)
        · have h := ifp h hc8
          refine lv_iconst (v := 0) hx hb dX11_bands_41 (by decide) ?_
          cases h
          exact W.zret hx hb hr rfl (X_fin C0 hw) hw.2.2.2 dX11_bands_42 hlocks
        · have h := ifn h hc8
          refine lv_iload hx hb dX11_bands_25 (lv_at hl 4 rfl) ?_
          obtain ⟨v9, hf10, h⟩ := bn_c h
          refine X_callS C0 hw (As := [.int a4]) (rest := []) (mX7_isTaken l E hL st hf10) (va_cwS 1 C0.1.2.2.2.2 gX11_bands_X7_isTaken rfl rfl rfl (by decide +kernel) ⟨Nat.le_of_ble_eq_true rfl, Nat.le_of_ble_eq_true rfl⟩) rfl hl.1 rfl (Nat.le_of_ble_eq_true rfl) dX11_bands_27 ⟨Nat.zero_le _, Nat.zero_le _⟩ (fun H locs hw => ?_)
          refine W.eq (g2 := F0 m 30 ls [.int v9]) rfl ?_
          refine lv_if_eq (tgt := 41) hx hb dX11_bands_30 (by decide) (fun hc11 => ?_) (fun hc11 => ?_)
          · have h := ifp h hc11
            refine lv_iconst (v := 0) hx hb dX11_bands_41 (by decide) ?_
            cases h
            exact W.zret hx hb hr rfl (X_fin C0 hw) hw.2.2.2 dX11_bands_42 hlocks
          · have h := ifn h hc11
            refine lv_iload hx hb dX11_bands_33 (lv_at hl 5 rfl) ?_
            obtain ⟨v12, hf13, h⟩ := bn_c h
            refine X_callS C0 hw (As := [.int a5]) (rest := []) (mX7_isTaken l E hL st hf13) (va_cwS 1 C0.1.2.2.2.2 gX11_bands_X7_isTaken rfl rfl rfl (by decide +kernel) ⟨Nat.le_of_ble_eq_true rfl, Nat.le_of_ble_eq_true rfl⟩) rfl hl.1 rfl (Nat.le_of_ble_eq_true rfl) dX11_bands_35 ⟨Nat.zero_le _, Nat.zero_le _⟩ (fun H locs hw => ?_)
            refine W.eq (g2 := F0 m 38 ls [.int v12]) rfl ?_
            refine lv_if_ne (tgt := 43) hx hb dX11_bands_38 (by decide) (fun hc14 => ?_) (fun hc14 => ?_)
            · have h := ifn h hc14
              refine lv_aload_n hx hb dX11_bands_43 rfl (lv_at hl 0 rfl) ?_
              refine X_g0_0 C0 hw (fun w h => (List.mem_cons_of_mem _ (List.mem_append_right _ h))) (by decide) ((List.mem_cons_of_mem _ (List.mem_append_left _ (List.mem_of_getElem? (i := 0) rfl)))) dX11_bands_44 ?_
              refine lv_iconst (v := 4) hx hb dX11_bands_47 (by decide) ?_
              refine lv_iload_n hx hb dX11_bands_48 rfl (lv_at hl 1 rfl) ?_
              refine lv_imul hx hb dX11_bands_49 ?_
              refine lv_iload_n hx hb dX11_bands_50 rfl (lv_at hl 2 rfl) ?_
              obtain ⟨v15, hf16, h⟩ := bn_c h
              refine X_callS C0 hw (As := [.int a2]) (rest := [.int ((4 : Int32) * a1), .ref (E.2.2.1 (1) (0))]) (mX7_floatOf l E hL st hf16) (va_cwS 1 C0.1.2.2.2.2 gX11_bands_X7_floatOf rfl rfl rfl (by decide +kernel) ⟨Nat.le_of_ble_eq_true rfl, Nat.le_of_ble_eq_true rfl⟩) rfl hl.1 rfl (Nat.le_of_ble_eq_true rfl) dX11_bands_51 ⟨Nat.zero_le _, Nat.zero_le _⟩ (fun H locs hw => ?_)
              refine W.eq (g2 := F0 m 54 ls [.float v15, .int ((4 : Int32) * a1), .ref (E.2.2.1 (1) (0))]) rfl ?_
              refine X_fast hL C0 hw h (k := ((4 : Int32) * a1).toNatClampNeg) rfl dX11_bands_54 (fun t17 H locs hw h => ?_)
              refine lv_aload_n hx hb dX11_bands_55 rfl (lv_at hl 0 rfl) ?_
              refine X_g0_0 C0 hw (fun w h => (List.mem_cons_of_mem _ (List.mem_append_right _ h))) (by decide) ((List.mem_cons_of_mem _ (List.mem_append_left _ (List.mem_of_getElem? (i := 0) rfl)))) dX11_bands_56 ?_
              refine lv_iconst (v := 4) hx hb dX11_bands_59 (by decide) ?_
              refine lv_iload_n hx hb dX11_bands_60 rfl (lv_at hl 1 rfl) ?_
              refine lv_imul hx hb dX11_bands_61 ?_
              refine lv_iconst (v := 1) hx hb dX11_bands_62 (by decide) ?_
              refine lv_iadd hx hb dX11_bands_63 ?_
              refine lv_iload_n hx hb dX11_bands_64 rfl (lv_at hl 3 rfl) ?_
              obtain ⟨v18, hf19, h⟩ := bn_c h
              refine X_callS C0 hw (As := [.int a3]) (rest := [.int (((4 : Int32) * a1) + (1 : Int32)), .ref (E.2.2.1 (1) (0))]) (mX7_floatOf l E hL t17 hf19) (va_cwS 1 C0.1.2.2.2.2 gX11_bands_X7_floatOf rfl rfl rfl (by decide +kernel) ⟨Nat.le_of_ble_eq_true rfl, Nat.le_of_ble_eq_true rfl⟩) rfl hl.1 rfl (Nat.le_of_ble_eq_true rfl) dX11_bands_65 ⟨Nat.zero_le _, Nat.zero_le _⟩ (fun H locs hw => ?_)
              refine W.eq (g2 := F0 m 68 ls [.float v18, .int (((4 : Int32) * a1) + (1 : Int32)), .ref (E.2.2.1 (1) (0))]) rfl ?_
              refine X_fast hL C0 hw h (k := (((4 : Int32) * a1) + (1 : Int32)).toNatClampNeg) rfl dX11_bands_68 (fun t20 H locs hw h => ?_)
              refine lv_aload_n hx hb dX11_bands_69 rfl (lv_at hl 0 rfl) ?_
              refine X_g0_0 C0 hw (fun w h => (List.mem_cons_of_mem _ (List.mem_append_right _ h))) (by decide) ((List.mem_cons_of_mem _ (List.mem_append_left _ (List.mem_of_getElem? (i := 0) rfl)))) dX11_bands_70 ?_
              refine lv_iconst (v := 4) hx hb dX11_bands_73 (by decide) ?_
              refine lv_iload_n hx hb dX11_bands_74 rfl (lv_at hl 1 rfl) ?_
              refine lv_imul hx hb dX11_bands_75 ?_
              refine lv_iconst (v := 2) hx hb dX11_bands_76 (by decide) ?_
              refine lv_iadd hx hb dX11_bands_77 ?_
              refine lv_iload hx hb dX11_bands_78 (lv_at hl 4 rfl) ?_
              obtain ⟨v21, hf22, h⟩ := bn_c h
              refine X_callS C0 hw (As := [.int a4]) (rest := [.int (((4 : Int32) * a1) + (2 : Int32)), .ref (E.2.2.1 (1) (0))]) (mX7_floatOf l E hL t20 hf22) (va_cwS 1 C0.1.2.2.2.2 gX11_bands_X7_floatOf rfl rfl rfl (by decide +kernel) ⟨Nat.le_of_ble_eq_true rfl, Nat.le_of_ble_eq_true rfl⟩) rfl hl.1 rfl (Nat.le_of_ble_eq_true rfl) dX11_bands_80 ⟨Nat.zero_le _, Nat.zero_le _⟩ (fun H locs hw => ?_)
              refine W.eq (g2 := F0 m 83 ls [.float v21, .int (((4 : Int32) * a1) + (2 : Int32)), .ref (E.2.2.1 (1) (0))]) rfl ?_
              refine X_fast hL C0 hw h (k := (((4 : Int32) * a1) + (2 : Int32)).toNatClampNeg) rfl dX11_bands_83 (fun t23 H locs hw h => ?_)
              refine lv_aload_n hx hb dX11_bands_84 rfl (lv_at hl 0 rfl) ?_
              refine X_g0_0 C0 hw (fun w h => (List.mem_cons_of_mem _ (List.mem_append_right _ h))) (by decide) ((List.mem_cons_of_mem _ (List.mem_append_left _ (List.mem_of_getElem? (i := 0) rfl)))) dX11_bands_85 ?_
              refine lv_iconst (v := 4) hx hb dX11_bands_88 (by decide) ?_
              refine lv_iload_n hx hb dX11_bands_89 rfl (lv_at hl 1 rfl) ?_
              refine lv_imul hx hb dX11_bands_90 ?_
              refine lv_iconst (v := 3) hx hb dX11_bands_91 (by decide) ?_
              refine lv_iadd hx hb dX11_bands_92 ?_
              refine lv_iload hx hb dX11_bands_93 (lv_at hl 5 rfl) ?_
              obtain ⟨v24, hf25, h⟩ := bn_c h
              refine X_callS C0 hw (As := [.int a5]) (rest := [.int (((4 : Int32) * a1) + (3 : Int32)), .ref (E.2.2.1 (1) (0))]) (mX7_floatOf l E hL t23 hf25) (va_cwS 1 C0.1.2.2.2.2 gX11_bands_X7_floatOf rfl rfl rfl (by decide +kernel) ⟨Nat.le_of_ble_eq_true rfl, Nat.le_of_ble_eq_true rfl⟩) rfl hl.1 rfl (Nat.le_of_ble_eq_true rfl) dX11_bands_95 ⟨Nat.zero_le _, Nat.zero_le _⟩ (fun H locs hw => ?_)
              refine W.eq (g2 := F0 m 98 ls [.float v24, .int (((4 : Int32) * a1) + (3 : Int32)), .ref (E.2.2.1 (1) (0))]) rfl ?_
              refine X_fast hL C0 hw h (k := (((4 : Int32) * a1) + (3 : Int32)).toNatClampNeg) rfl dX11_bands_98 (fun t26 H locs hw h => ?_)
              refine lv_iconst (v := 1) hx hb dX11_bands_99 (by decide) ?_
              cases h
              exact W.zret hx hb hr rfl (X_fin C0 hw) hw.2.2.2 dX11_bands_100 hlocks
            · have h := ifp h hc14
              refine lv_iconst (v := 0) hx hb dX11_bands_41 (by decide) ?_
              cases h
              exact W.zret hx hb hr rfl (X_fin C0 hw) hw.2.2.2 dX11_bands_42 hlocks
    · have h := ifn h hc2
      refine lv_iconst (v := 0) hx hb dX11_bands_9 (by decide) ?_
      cases h
      exact W.zret hx hb hr rfl (X_fin C0 hw) hw.2.2.2 dX11_bands_10 hlocks

def fX11_refused (a1 : Int32) (st : Sto) : Option (Int32 × Sto) :=
  lt1 (sI st 0 (0) 19 a1) fun (t1 : Sto) =>
  some ((-1 : Int32), t1)
set_option maxHeartbeats 4000000 in
set_option maxRecDepth 100000 in
theorem mX11_refused (l : Launch) (E : XE) (hL : LX E) (st : Sto) {a1 : Int32} {r : Int32} {st1 : Sto} (h : fX11_refused a1 st = some (r, st1)) : Met l yX11_refused wsX11_refused ({ frames := 0, cells := 0, slots := 0, locals := 0 }) (va_Pc [.ref (E.2.2.1 0 (0)), .int a1] (RX E st)) (QX E (some (.int r)) st1) 0 0 E.2.2.2 := by
  refine Met.ofW (cc := cX11_refused) (maxL := 2) (ret := (some .int)) (by decide) rfl ?_
  intro p e s m args below meth c s₁ B hml hv
  obtain ⟨rfl, hP, hK⟩ := hv
  have hown : s.vm.findClass RX11 = some m.cls := findClass_of_methodNamed B.named
  have C0 : CX p m c cX11_refused 2 s _ wsX11_refused RX11 E := ⟨⟨B.exec, B.bytes, hml, hown, atoms_spec (ws := wsX11_refused) B.pre⟩, hK⟩
  have hx := B.exec
  have hb := B.bytes
  have hr := B.returns
  have hlocks := B.notSynchronized
  have hw : SX E s st s.heap [] := ⟨hP, va_S.rf⟩
  have hl := lv_entry ([.ref (E.2.2.1 0 (0)), .int a1]) (n := 2) (Nat.le_of_ble_eq_true rfl)
  rw [lg_entry_eq]
  generalize (lg_sl ([.ref (E.2.2.1 0 (0)), .int a1]) ++ List.replicate (2 - (lg_sl ([.ref (E.2.2.1 0 (0)), .int a1])).length) Slot.unset).toArray = ls at hl ⊢
  have hl : lv_has ls 2 [(0, .ref (E.2.2.1 0 (0))), (1, .int a1)] := hl
  unfold fX11_refused at h
  refine lv_aload_n hx hb dX11_refused_0 rfl (lv_at hl 0 rfl) ?_
  refine lv_iload_n hx hb dX11_refused_1 rfl (lv_at hl 1 rfl) ?_
  refine X_p0_19 hL C0 hw (fun w h => (List.mem_cons_of_mem _ (List.mem_append_right _ h))) (by decide) h ((List.mem_cons_of_mem _ (List.mem_append_left _ (List.mem_of_getElem? (i := 0) rfl)))) dX11_refused_2 (fun t1 H locs hw h => ?_)
  refine lv_iconst (v := -1) hx hb dX11_refused_5 (by decide) ?_
  cases h
  exact W.iret hx hb hr (X_fin C0 hw) hw.2.2.2 dX11_refused_6 hlocks

def fX11_copyRow (a1f : Nat) (a1i : Nat) (a2f : Nat) (a2i : Nat) (st : Sto) : Option Sto :=
  ck (16 ≤ lFX a1f a1i ∧ 16 ≤ lFX a2f a2i ) (lt1 (cF st a1f a1i 0 a2f a2i 0 16) fun (t1 : Sto) =>
   some t1)
set_option maxHeartbeats 4000000 in
set_option maxRecDepth 100000 in
theorem mX11_copyRow (l : Launch) (E : XE) (hL : LX E) (st : Sto) {a1f : Nat} {a1i : Nat} {a2f : Nat} {a2i : Nat} {st1 : Sto} (h : fX11_copyRow a1f a1i a2f a2i st = some st1) : Met l yX11_copyRow wsX11_copyRow ({ frames := 1, cells := 0, slots := 0, locals := 48 }) (va_Pc [.ref (E.2.2.1 a1f a1i), .ref (E.2.2.1 a2f a2i)] (RX E st)) (QX E none st1) 0 0 E.2.2.2 := by
  refine Met.ofW (cc := cX11_copyRow) (maxL := 2) (ret := none) (by decide) rfl ?_
  intro p e s m args below meth c s₁ B hml hv
  obtain ⟨rfl, hP, hK⟩ := hv
  have hown : s.vm.findClass RX11 = some m.cls := findClass_of_methodNamed B.named
  have C0 : CX p m c cX11_copyRow 2 s _ wsX11_copyRow RX11 E := ⟨⟨B.exec, B.bytes, hml, hown, atoms_spec (ws := wsX11_copyRow) B.pre⟩, hK⟩
  have hx := B.exec
  have hb := B.bytes
  have hr := B.returns
  have hlocks := B.notSynchronized
  have hw : SX E s st s.heap [] := ⟨hP, va_S.rf⟩
  have hl := lv_entry ([.ref (E.2.2.1 a1f a1i), .ref (E.2.2.1 a2f a2i)]) (n := 2) (Nat.le_of_ble_eq_true rfl)
  rw [lg_entry_eq]
  generalize (lg_sl ([.ref (E.2.2.1 a1f a1i), .ref (E.2.2.1 a2f a2i)]) ++ List.replicate (2 - (lg_sl ([.ref (E.2.2.1 a1f a1i), .ref (E.2.2.1 a2f a2i)])).length) Slot.unset).toArray = ls at hl ⊢
  have hl : lv_has ls 2 [(0, .ref (E.2.2.1 a1f a1i)), (1, .ref (E.2.2.1 a2f a2i))] := hl
  unfold fX11_copyRow at h
  refine lv_aload_n hx hb dX11_copyRow_0 rfl (lv_at hl 0 rfl) ?_
  refine lv_iconst (v := 0) hx hb dX11_copyRow_1 (by decide) ?_
  refine lv_aload_n hx hb dX11_copyRow_2 rfl (lv_at hl 1 rfl) ?_
  refine lv_iconst (v := 0) hx hb dX11_copyRow_3 (by decide) ?_
  refine lv_bipush (v := 16) hx hb dX11_copyRow_4 (by decide) ?_
  refine X_cpf hL C0 hw h (sp := 0) (dp := 0) (n := 16) rfl rfl rfl (by decide) (by decide) ⟨by decide, by decide⟩ (hml.trans hl.1.symm) hown (C0.1.2.2.2.2 _ (List.mem_cons_of_mem _ (List.mem_of_getElem? (i := 0) rfl))) (C0.1.2.2.2.2 _ (List.mem_cons_of_mem _ (List.mem_of_getElem? (i := 1) rfl))) (C0.1.2.2.2.2 _ (List.mem_cons_of_mem _ (List.mem_of_getElem? (i := 2) rfl))) (C0.1.2.2.2.2 _ (List.mem_cons_of_mem _ (List.mem_of_getElem? (i := 3) rfl))) (Nat.le_of_ble_eq_true rfl) (Nat.le_of_ble_eq_true rfl) dX11_copyRow_6 (fun t1 H locs hw h => ?_)
  cases h
  exact W.vret hx hb hr (X_fin C0 hw) hw.2.2.2 dX11_copyRow_9 hlocks

def fX11_accept (st : Sto) : Option (Int32 × Sto) :=
  lt1 (sI st 0 (0) 19 (0 : Int32)) fun (t1 : Sto) =>
  some ((1 : Int32), t1)
set_option maxHeartbeats 4000000 in
set_option maxRecDepth 100000 in
theorem mX11_accept (l : Launch) (E : XE) (hL : LX E) (st : Sto) {r : Int32} {st1 : Sto} (h : fX11_accept st = some (r, st1)) : Met l yX11_accept wsX11_accept ({ frames := 0, cells := 0, slots := 0, locals := 0 }) (va_Pc [.ref (E.2.2.1 0 (0))] (RX E st)) (QX E (some (.int r)) st1) 0 0 E.2.2.2 := by
  refine Met.ofW (cc := cX11_accept) (maxL := 1) (ret := (some .boolean)) (by decide) rfl ?_
  intro p e s m args below meth c s₁ B hml hv
  obtain ⟨rfl, hP, hK⟩ := hv
  have hown : s.vm.findClass RX11 = some m.cls := findClass_of_methodNamed B.named
  have C0 : CX p m c cX11_accept 1 s _ wsX11_accept RX11 E := ⟨⟨B.exec, B.bytes, hml, hown, atoms_spec (ws := wsX11_accept) B.pre⟩, hK⟩
  have hx := B.exec
  have hb := B.bytes
  have hr := B.returns
  have hlocks := B.notSynchronized
  have hw : SX E s st s.heap [] := ⟨hP, va_S.rf⟩
  have hl := lv_entry ([.ref (E.2.2.1 0 (0))]) (n := 1) (Nat.le_of_ble_eq_true rfl)
  rw [lg_entry_eq]
  generalize (lg_sl ([.ref (E.2.2.1 0 (0))]) ++ List.replicate (1 - (lg_sl ([.ref (E.2.2.1 0 (0))])).length) Slot.unset).toArray = ls at hl ⊢
  have hl : lv_has ls 1 [(0, .ref (E.2.2.1 0 (0)))] := hl
  unfold fX11_accept at h
  refine lv_aload_n hx hb dX11_accept_0 rfl (lv_at hl 0 rfl) ?_
  refine lv_iconst (v := 0) hx hb dX11_accept_1 (by decide) ?_
  refine X_p0_19 hL C0 hw (fun w h => (List.mem_cons_of_mem _ (List.mem_append_right _ h))) (by decide) h ((List.mem_cons_of_mem _ (List.mem_append_left _ (List.mem_of_getElem? (i := 0) rfl)))) dX11_accept_2 (fun t1 H locs hw h => ?_)
  refine lv_iconst (v := 1) hx hb dX11_accept_5 (by decide) ?_
  cases h
  exact W.zret hx hb hr rfl (X_fin C0 hw) hw.2.2.2 dX11_accept_6 hlocks

def fX11_newOne (a1 : Int32) (st : Sto) : Option (Int32 × Sto) :=
  (fX0_note a1 (0 : Int32) (0 : Int32) (0 : Int32) st).bind (un2 fun (v1 : (Nat × Nat)) (t2 : Sto) => un2 (fun (qf4 qi5 : Nat) =>
    (fX11_accept t2).bind (un2 fun (v6 : Int32) (t7 : Sto) =>
     ck (0 ≤ a1.toInt ∧ a1.toInt < (lIX (3) (0) : Int)) (
      ck (0 ≤ a1.toInt ∧ a1.toInt < (lIX (3) (0) : Int)) (lt1 (sI t7 (3) (0) (a1.toNatClampNeg) ((gI t7 (3) (0) (a1.toNatClampNeg)) + (1 : Int32))) fun (t9 : Sto) =>
       ck (0 ≤ a1.toInt ∧ a1.toInt < (lIX (3) (0) : Int)) (
        some ((gI t9 (3) (0) (a1.toNatClampNeg)) - (1 : Int32), t9)))))) v1)
set_option maxHeartbeats 4000000 in
set_option maxRecDepth 100000 in
theorem mX11_newOne (l : Launch) (E : XE) (hL : LX E) (st : Sto) {a1 : Int32} {r : Int32} {st1 : Sto} (h : fX11_newOne a1 st = some (r, st1)) : Met l yX11_newOne wsX11_newOne ({ frames := 2, cells := 0, slots := 0, locals := 47 }) (va_Pc [.ref (E.2.2.1 0 (0)), .int a1] (RX E st)) (QX E (some (.int r)) st1) 0 0 E.2.2.2 := by
  refine Met.ofW (cc := cX11_newOne) (maxL := 2) (ret := (some .int)) (by decide) rfl ?_
  intro p e s m args below meth c s₁ B hml hv
  obtain ⟨rfl, hP, hK⟩ := hv
  have hown : s.vm.findClass RX11 = some m.cls := findClass_of_methodNamed B.named
  have C0 : CX p m c cX11_newOne 2 s _ wsX11_newOne RX11 E := ⟨⟨B.exec, B.bytes, hml, hown, atoms_spec (ws := wsX11_newOne) B.pre⟩, hK⟩
  have hx := B.exec
  have hb := B.bytes
  have hr := B.returns
  have hlocks := B.notSynchronized
  have hw : SX E s st s.heap [] := ⟨hP, va_S.rf⟩
  have hl := lv_entry ([.ref (E.2.2.1 0 (0)), .int a1]) (n := 2) (Nat.le_of_ble_eq_true rfl)
  rw [lg_entry_eq]
  generalize (lg_sl ([.ref (E.2.2.1 0 (0)), .int a1]) ++ List.replicate (2 - (lg_sl ([.ref (E.2.2.1 0 (0)), .int a1])).length) Slot.unset).toArray = ls at hl ⊢
  have hl : lv_has ls 2 [(0, .ref (E.2.2.1 0 (0))), (1, .int a1)] := hl
  unfold fX11_newOne at h
  refine lv_aload_n hx hb dX11_newOne_0 rfl (lv_at hl 0 rfl) ?_
  refine X_g0_18 C0 hw (fun w h => (List.mem_cons_of_mem _ (List.mem_append_left _ (List.mem_append_right _ h)))) (by decide) ((List.mem_cons_of_mem _ (List.mem_append_left _ (List.mem_append_left _ (List.mem_of_getElem? (i := 0) rfl))))) dX11_newOne_1 ?_
  refine lv_iload_n hx hb dX11_newOne_4 rfl (lv_at hl 1 rfl) ?_
  refine lv_iconst (v := 0) hx hb dX11_newOne_5 (by decide) ?_
  refine lv_iconst (v := 0) hx hb dX11_newOne_6 (by decide) ?_
  refine lv_iconst (v := 0) hx hb dX11_newOne_7 (by decide) ?_
  obtain ⟨⟨v1, t2⟩, hf3, h⟩ := bn_c h
  have h := un2_d h
  refine X_callV C0 hw (As := [.int a1, .int (0 : Int32), .int (0 : Int32), .int (0 : Int32)]) (rest := []) (mX0_note l E hL st hf3) (cwV 4 C0.1.2.2.2.2 gX11_newOne_X0_note rfl rfl rfl (by decide +kernel) ⟨Nat.le_of_ble_eq_true rfl, Nat.le_of_ble_eq_true rfl⟩) (X_recv_18 C0 hw (by decide)) rfl hl.1 rfl (Nat.le_of_ble_eq_true rfl) dX11_newOne_8 ⟨Nat.zero_le _, Nat.zero_le _⟩ (fun H locs hw => ?_)
  obtain ⟨qf4, qi5⟩ := v1
  have h := un2_d h
  refine W.eq (g2 := F0 m 11 ls (.ref (E.2.2.1 qf4 qi5) :: [])) rfl ?_
  refine lv_pop hx hb dX11_newOne_11 rfl ?_
  refine lv_aload_n hx hb dX11_newOne_12 rfl (lv_at hl 0 rfl) ?_
  obtain ⟨⟨v6, t7⟩, hf8, h⟩ := bn_c h
  have h := un2_d h
  refine X_callV C0 hw (As := []) (rest := []) (mX11_accept l E hL t2 hf8) (cwV 0 C0.1.2.2.2.2 gX11_newOne_X11_accept rfl rfl rfl (by decide +kernel) ⟨Nat.le_of_ble_eq_true rfl, Nat.le_of_ble_eq_true rfl⟩) (X_recv_0 C0 hw (by decide)) rfl hl.1 rfl (Nat.le_of_ble_eq_true rfl) dX11_newOne_13 ⟨Nat.zero_le _, Nat.zero_le _⟩ (fun H locs hw => ?_)
  refine W.eq (g2 := F0 m 16 ls [.int v6]) rfl ?_
  refine lv_pop hx hb dX11_newOne_16 rfl ?_
  refine lv_aload_n hx hb dX11_newOne_17 rfl (lv_at hl 0 rfl) ?_
  refine X_g0_3 C0 hw (fun w h => (List.mem_cons_of_mem _ (List.mem_append_left _ (List.mem_append_right _ h)))) (by decide) ((List.mem_cons_of_mem _ (List.mem_append_left _ (List.mem_append_left _ (List.mem_of_getElem? (i := 1) rfl))))) dX11_newOne_18 ?_
  refine lv_iload_n hx hb dX11_newOne_21 rfl (lv_at hl 1 rfl) ?_
  refine lv_dup2_11 hx hb dX11_newOne_22 rfl rfl ?_
  refine X_iald C0 hw h (k := a1.toNatClampNeg) rfl dX11_newOne_23 (fun h => ?_)
  refine lv_iconst (v := 1) hx hb dX11_newOne_24 (by decide) ?_
  refine lv_iadd hx hb dX11_newOne_25 ?_
  refine X_iast hL C0 hw h (k := a1.toNatClampNeg) rfl dX11_newOne_26 (fun t9 H locs hw h => ?_)
  refine lv_aload_n hx hb dX11_newOne_27 rfl (lv_at hl 0 rfl) ?_
  refine X_g0_3 C0 hw (fun w h => (List.mem_cons_of_mem _ (List.mem_append_left _ (List.mem_append_right _ h)))) (by decide) ((List.mem_cons_of_mem _ (List.mem_append_left _ (List.mem_append_left _ (List.mem_of_getElem? (i := 1) rfl))))) dX11_newOne_28 ?_
  refine lv_iload_n hx hb dX11_newOne_31 rfl (lv_at hl 1 rfl) ?_
  refine X_iald C0 hw h (k := a1.toNatClampNeg) rfl dX11_newOne_32 (fun h => ?_)
  refine lv_iconst (v := 1) hx hb dX11_newOne_33 (by decide) ?_
  refine lv_isub hx hb dX11_newOne_34 ?_
  cases h
  exact W.iret hx hb hr (X_fin C0 hw) hw.2.2.2 dX11_newOne_35 hlocks

def fX11_chip (st : Sto) : Option (Int32 × Sto) :=
  if gI st (3) (0) (0) < (40 : Int32) then (
   ck (0 ≤ (gI st (3) (0) (0)).toInt ∧ (gI st (3) (0) (0)).toInt < (40 : Int)) (
    (fX11_copyRow (1) (0) (20) ((gI st (3) (0) (0)).toNatClampNeg) st).bind (fun (t3 : Sto) =>
     (fX11_newOne (0 : Int32) t3).bind (un2 fun (v5 : Int32) (t6 : Sto) =>
      some (v5, t6))))) else (
   (fX11_refused (1 : Int32) st).bind (un2 fun (v8 : Int32) (t9 : Sto) =>
    some (v8, t9)))
set_option maxHeartbeats 4000000 in
set_option maxRecDepth 100000 in
theorem mX11_chip (l : Launch) (E : XE) (hL : LX E) (st : Sto) {r : Int32} {st1 : Sto} (h : fX11_chip st = some (r, st1)) : Met l yX11_chip wsX11_chip ({ frames := 3, cells := 0, slots := 0, locals := 69 }) (va_Pc [.ref (E.2.2.1 0 (0))] (RX E st)) (QX E (some (.int r)) st1) 0 0 E.2.2.2 := by
  refine Met.ofW (cc := cX11_chip) (maxL := 1) (ret := (some .int)) (by decide) rfl ?_
  intro p e s m args below meth c s₁ B hml hv
  obtain ⟨rfl, hP, hK⟩ := hv
  have hown : s.vm.findClass RX11 = some m.cls := findClass_of_methodNamed B.named
  have C0 : CX p m c cX11_chip 1 s _ wsX11_chip RX11 E := ⟨⟨B.exec, B.bytes, hml, hown, atoms_spec (ws := wsX11_chip) B.pre⟩, hK⟩
  have hx := B.exec
  have hb := B.bytes
  have hr := B.returns
  have hlocks := B.notSynchronized
  have hw : SX E s st s.heap [] := ⟨hP, va_S.rf⟩
  have hl := lv_entry ([.ref (E.2.2.1 0 (0))]) (n := 1) (Nat.le_of_ble_eq_true rfl)
  rw [lg_entry_eq]
  generalize (lg_sl ([.ref (E.2.2.1 0 (0))]) ++ List.replicate (1 - (lg_sl ([.ref (E.2.2.1 0 (0))])).length) Slot.unset).toArray = ls at hl ⊢
  have hl : lv_has ls 1 [(0, .ref (E.2.2.1 0 (0)))] := hl
  unfold fX11_chip at h
  refine lv_aload_n hx hb dX11_chip_0 rfl (lv_at hl 0 rfl) ?_
  refine X_g0_3 C0 hw (fun w h => (List.mem_cons_of_mem _ (List.mem_append_left _ (List.mem_append_left _ (List.mem_append_right _ h))))) (by decide) ((List.mem_cons_of_mem _ (List.mem_append_left _ (List.mem_append_left _ (List.mem_append_left _ (List.mem_append_left _ (List.mem_of_getElem? (i := 0) rfl))))))) dX11_chip_1 ?_
  refine lv_iconst (v := 0) hx hb dX11_chip_4 (by decide) ?_
  refine X_ialdL C0 hw (vp_in_iff.mpr (by decide +kernel)) (k := 0) rfl dX11_chip_5 ?_
  refine lv_bipush (v := 40) hx hb dX11_chip_6 (by decide) ?_
  refine lv_icmp_lt (tgt := 17) hx hb dX11_chip_8 (by decide) (fun hc1 => ?_) (fun hc1 => ?_)
  · have h := ifp h hc1
    refine lv_aload_n hx hb dX11_chip_17 rfl (lv_at hl 0 rfl) ?_
    refine X_g0_0 C0 hw (fun w h => (List.mem_cons_of_mem _ (List.mem_append_left _ (List.mem_append_left _ (List.mem_append_right _ h))))) (by decide) ((List.mem_cons_of_mem _ (List.mem_append_left _ (List.mem_append_left _ (List.mem_append_left _ (List.mem_append_left _ (List.mem_of_getElem? (i := 1) rfl))))))) dX11_chip_18 ?_
    refine lv_aload_n hx hb dX11_chip_21 rfl (lv_at hl 0 rfl) ?_
    refine X_g0_4 C0 hw (fun w h => (List.mem_cons_of_mem _ (List.mem_append_left _ (List.mem_append_left _ (List.mem_append_right _ h))))) (by decide) ((List.mem_cons_of_mem _ (List.mem_append_left _ (List.mem_append_left _ (List.mem_append_left _ (List.mem_append_left _ (List.mem_of_getElem? (i := 2) rfl))))))) dX11_chip_22 ?_
    refine lv_aload_n hx hb dX11_chip_25 rfl (lv_at hl 0 rfl) ?_
    refine X_g0_3 C0 hw (fun w h => (List.mem_cons_of_mem _ (List.mem_append_left _ (List.mem_append_left _ (List.mem_append_right _ h))))) (by decide) ((List.mem_cons_of_mem _ (List.mem_append_left _ (List.mem_append_left _ (List.mem_append_left _ (List.mem_append_left _ (List.mem_of_getElem? (i := 0) rfl))))))) dX11_chip_26 ?_
    refine lv_iconst (v := 0) hx hb dX11_chip_29 (by decide) ?_
    refine X_ialdL C0 hw (vp_in_iff.mpr (by decide +kernel)) (k := 0) rfl dX11_chip_30 ?_
    refine X_ald_4 C0 hw (by decide) h (k := (gI st (3) (0) (0)).toNatClampNeg) rfl dX11_chip_31 (fun hk2 h => ?_)
    refine X_g19_0 C0 hw (fun w h => (List.mem_cons_of_mem _ (List.mem_append_left _ (List.mem_append_right _ h)))) hk2 ((List.mem_cons_of_mem _ (List.mem_append_left _ (List.mem_append_left _ (List.mem_append_left _ (List.mem_append_left _ (List.mem_of_getElem? (i := 3) rfl))))))) dX11_chip_32 ?_
    obtain ⟨t3, hf4, h⟩ := bn_c h
    refine X_callS C0 hw (As := [.ref (E.2.2.1 (1) (0)), .ref (E.2.2.1 (20) ((gI st (3) (0) (0)).toNatClampNeg))]) (rest := []) (mX11_copyRow l E hL st hf4) (va_cwS 2 C0.1.2.2.2.2 gX11_chip_X11_copyRow rfl rfl rfl (by decide +kernel) ⟨Nat.le_of_ble_eq_true rfl, Nat.le_of_ble_eq_true rfl⟩) rfl hl.1 rfl (Nat.le_of_ble_eq_true rfl) dX11_chip_35 ⟨Nat.zero_le _, Nat.zero_le _⟩ (fun H locs hw => ?_)
    refine W.eq (g2 := F0 m 38 ls []) rfl ?_
    refine lv_aload_n hx hb dX11_chip_38 rfl (lv_at hl 0 rfl) ?_
    refine lv_iconst (v := 0) hx hb dX11_chip_39 (by decide) ?_
    obtain ⟨⟨v5, t6⟩, hf7, h⟩ := bn_c h
    have h := un2_d h
    refine X_callV C0 hw (As := [.int (0 : Int32)]) (rest := []) (mX11_newOne l E hL t3 hf7) (cwV 1 C0.1.2.2.2.2 gX11_chip_X11_newOne rfl rfl rfl (by decide +kernel) ⟨Nat.le_of_ble_eq_true rfl, Nat.le_of_ble_eq_true rfl⟩) (X_recv_0 C0 hw (by decide)) rfl hl.1 rfl (Nat.le_of_ble_eq_true rfl) dX11_chip_40 ⟨Nat.zero_le _, Nat.zero_le _⟩ (fun H locs hw => ?_)
    refine W.eq (g2 := F0 m 43 ls [.int v5]) rfl ?_
    cases h
    exact W.iret hx hb hr (X_fin C0 hw) hw.2.2.2 dX11_chip_43 hlocks
  · have h := ifn h hc1
    refine lv_aload_n hx hb dX11_chip_11 rfl (lv_at hl 0 rfl) ?_
    refine lv_iconst (v := 1) hx hb dX11_chip_12 (by decide) ?_
    obtain ⟨⟨v8, t9⟩, hf10, h⟩ := bn_c h
    have h := un2_d h
    refine X_callV C0 hw (As := [.int (1 : Int32)]) (rest := []) (mX11_refused l E hL st hf10) (cwV 1 C0.1.2.2.2.2 gX11_chip_X11_refused rfl rfl rfl (by decide +kernel) ⟨Nat.le_of_ble_eq_true rfl, Nat.le_of_ble_eq_true rfl⟩) (X_recv_0 C0 hw (by decide)) rfl hl.1 rfl (Nat.le_of_ble_eq_true rfl) dX11_chip_13 ⟨Nat.zero_le _, Nat.zero_le _⟩ (fun H locs hw => ?_)
    refine W.eq (g2 := F0 m 16 ls [.int v8]) rfl ?_
    cases h
    exact W.iret hx hb hr (X_fin C0 hw) hw.2.2.2 dX11_chip_16 hlocks

def fX11_cloth (st : Sto) : Option (Int32 × Sto) :=
  if gI st (3) (0) (1) < (8 : Int32) then (
   ck (0 ≤ (gI st (3) (0) (1)).toInt ∧ (gI st (3) (0) (1)).toInt < (8 : Int)) (
    (fX11_copyRow (1) (0) (6) ((gI st (3) (0) (1)).toNatClampNeg) st).bind (fun (t3 : Sto) =>
     (fX11_newOne (1 : Int32) t3).bind (un2 fun (v5 : Int32) (t6 : Sto) =>
      some (v5, t6))))) else (
   (fX11_refused (1 : Int32) st).bind (un2 fun (v8 : Int32) (t9 : Sto) =>
    some (v8, t9)))
set_option maxHeartbeats 4000000 in
set_option maxRecDepth 100000 in
theorem mX11_cloth (l : Launch) (E : XE) (hL : LX E) (st : Sto) {r : Int32} {st1 : Sto} (h : fX11_cloth st = some (r, st1)) : Met l yX11_cloth wsX11_cloth ({ frames := 3, cells := 0, slots := 0, locals := 69 }) (va_Pc [.ref (E.2.2.1 0 (0))] (RX E st)) (QX E (some (.int r)) st1) 0 0 E.2.2.2 := by
  refine Met.ofW (cc := cX11_cloth) (maxL := 1) (ret := (some .int)) (by decide) rfl ?_
  intro p e s m args below meth c s₁ B hml hv
  obtain ⟨rfl, hP, hK⟩ := hv
  have hown : s.vm.findClass RX11 = some m.cls := findClass_of_methodNamed B.named
  have C0 : CX p m c cX11_cloth 1 s _ wsX11_cloth RX11 E := ⟨⟨B.exec, B.bytes, hml, hown, atoms_spec (ws := wsX11_cloth) B.pre⟩, hK⟩
  have hx := B.exec
  have hb := B.bytes
  have hr := B.returns
  have hlocks := B.notSynchronized
  have hw : SX E s st s.heap [] := ⟨hP, va_S.rf⟩
  have hl := lv_entry ([.ref (E.2.2.1 0 (0))]) (n := 1) (Nat.le_of_ble_eq_true rfl)
  rw [lg_entry_eq]
  generalize (lg_sl ([.ref (E.2.2.1 0 (0))]) ++ List.replicate (1 - (lg_sl ([.ref (E.2.2.1 0 (0))])).length) Slot.unset).toArray = ls at hl ⊢
  have hl : lv_has ls 1 [(0, .ref (E.2.2.1 0 (0)))] := hl
  unfold fX11_cloth at h
  refine lv_aload_n hx hb dX11_cloth_0 rfl (lv_at hl 0 rfl) ?_
  refine X_g0_3 C0 hw (fun w h => (List.mem_cons_of_mem _ (List.mem_append_left _ (List.mem_append_right _ h)))) (by decide) ((List.mem_cons_of_mem _ (List.mem_append_left _ (List.mem_append_left _ (List.mem_append_left _ (List.mem_of_getElem? (i := 0) rfl)))))) dX11_cloth_1 ?_
  refine lv_iconst (v := 1) hx hb dX11_cloth_4 (by decide) ?_
  refine X_ialdL C0 hw (vp_in_iff.mpr (by decide +kernel)) (k := 1) rfl dX11_cloth_5 ?_
  refine lv_bipush (v := 8) hx hb dX11_cloth_6 (by decide) ?_
  refine lv_icmp_lt (tgt := 17) hx hb dX11_cloth_8 (by decide) (fun hc1 => ?_) (fun hc1 => ?_)
  · have h := ifp h hc1
    refine lv_aload_n hx hb dX11_cloth_17 rfl (lv_at hl 0 rfl) ?_
    refine X_g0_0 C0 hw (fun w h => (List.mem_cons_of_mem _ (List.mem_append_left _ (List.mem_append_right _ h)))) (by decide) ((List.mem_cons_of_mem _ (List.mem_append_left _ (List.mem_append_left _ (List.mem_append_left _ (List.mem_of_getElem? (i := 1) rfl)))))) dX11_cloth_18 ?_
    refine lv_aload_n hx hb dX11_cloth_21 rfl (lv_at hl 0 rfl) ?_
    refine X_g0_5 C0 hw (fun w h => (List.mem_cons_of_mem _ (List.mem_append_left _ (List.mem_append_right _ h)))) (by decide) ((List.mem_cons_of_mem _ (List.mem_append_left _ (List.mem_append_left _ (List.mem_append_left _ (List.mem_of_getElem? (i := 2) rfl)))))) dX11_cloth_22 ?_
    refine lv_aload_n hx hb dX11_cloth_25 rfl (lv_at hl 0 rfl) ?_
    refine X_g0_3 C0 hw (fun w h => (List.mem_cons_of_mem _ (List.mem_append_left _ (List.mem_append_right _ h)))) (by decide) ((List.mem_cons_of_mem _ (List.mem_append_left _ (List.mem_append_left _ (List.mem_append_left _ (List.mem_of_getElem? (i := 0) rfl)))))) dX11_cloth_26 ?_
    refine lv_iconst (v := 1) hx hb dX11_cloth_29 (by decide) ?_
    refine X_ialdL C0 hw (vp_in_iff.mpr (by decide +kernel)) (k := 1) rfl dX11_cloth_30 ?_
    refine X_ald_5 C0 hw (by decide) h (k := (gI st (3) (0) (1)).toNatClampNeg) rfl dX11_cloth_31 (fun hk2 h => ?_)
    obtain ⟨t3, hf4, h⟩ := bn_c h
    refine X_callS C0 hw (As := [.ref (E.2.2.1 (1) (0)), .ref (E.2.2.1 (6) ((gI st (3) (0) (1)).toNatClampNeg))]) (rest := []) (mX11_copyRow l E hL st hf4) (va_cwS 2 C0.1.2.2.2.2 gX11_cloth_X11_copyRow rfl rfl rfl (by decide +kernel) ⟨Nat.le_of_ble_eq_true rfl, Nat.le_of_ble_eq_true rfl⟩) rfl hl.1 rfl (Nat.le_of_ble_eq_true rfl) dX11_cloth_32 ⟨Nat.zero_le _, Nat.zero_le _⟩ (fun H locs hw => ?_)
    refine W.eq (g2 := F0 m 35 ls []) rfl ?_
    refine lv_aload_n hx hb dX11_cloth_35 rfl (lv_at hl 0 rfl) ?_
    refine lv_iconst (v := 1) hx hb dX11_cloth_36 (by decide) ?_
    obtain ⟨⟨v5, t6⟩, hf7, h⟩ := bn_c h
    have h := un2_d h
    refine X_callV C0 hw (As := [.int (1 : Int32)]) (rest := []) (mX11_newOne l E hL t3 hf7) (cwV 1 C0.1.2.2.2.2 gX11_cloth_X11_newOne rfl rfl rfl (by decide +kernel) ⟨Nat.le_of_ble_eq_true rfl, Nat.le_of_ble_eq_true rfl⟩) (X_recv_0 C0 hw (by decide)) rfl hl.1 rfl (Nat.le_of_ble_eq_true rfl) dX11_cloth_37 ⟨Nat.zero_le _, Nat.zero_le _⟩ (fun H locs hw => ?_)
    refine W.eq (g2 := F0 m 40 ls [.int v5]) rfl ?_
    cases h
    exact W.iret hx hb hr (X_fin C0 hw) hw.2.2.2 dX11_cloth_40 hlocks
  · have h := ifn h hc1
    refine lv_aload_n hx hb dX11_cloth_11 rfl (lv_at hl 0 rfl) ?_
    refine lv_iconst (v := 1) hx hb dX11_cloth_12 (by decide) ?_
    obtain ⟨⟨v8, t9⟩, hf10, h⟩ := bn_c h
    have h := un2_d h
    refine X_callV C0 hw (As := [.int (1 : Int32)]) (rest := []) (mX11_refused l E hL st hf10) (cwV 1 C0.1.2.2.2.2 gX11_cloth_X11_refused rfl rfl rfl (by decide +kernel) ⟨Nat.le_of_ble_eq_true rfl, Nat.le_of_ble_eq_true rfl⟩) (X_recv_0 C0 hw (by decide)) rfl hl.1 rfl (Nat.le_of_ble_eq_true rfl) dX11_cloth_13 ⟨Nat.zero_le _, Nat.zero_le _⟩ (fun H locs hw => ?_)
    refine W.eq (g2 := F0 m 16 ls [.int v8]) rfl ?_
    cases h
    exact W.iret hx hb hr (X_fin C0 hw) hw.2.2.2 dX11_cloth_16 hlocks

def fX11_isThere (a1 : Int32) (a2 : Int32) (st : Sto) : Option Int32 :=
  if a2 < 0 then (
   some (0 : Int32)) else (
   ck (0 ≤ a1.toInt ∧ a1.toInt < (lIX (3) (0) : Int)) (
    if gI st (3) (0) (a1.toNatClampNeg) ≤ a2 then (
     some (0 : Int32)) else (
     some (1 : Int32))))
set_option maxHeartbeats 4000000 in
set_option maxRecDepth 100000 in
theorem mX11_isThere (l : Launch) (E : XE) (hL : LX E) (st : Sto) {a1 : Int32} {a2 : Int32} {r : Int32} (h : fX11_isThere a1 a2 st = some r) : Met l yX11_isThere wsX11_isThere ({ frames := 0, cells := 0, slots := 0, locals := 0 }) (va_Pc [.ref (E.2.2.1 0 (0)), .int a1, .int a2] (RX E st)) (QX E (some (.int r)) st) 0 0 E.2.2.2 := by
  refine Met.ofW (cc := cX11_isThere) (maxL := 3) (ret := (some .boolean)) (by decide) rfl ?_
  intro p e s m args below meth c s₁ B hml hv
  obtain ⟨rfl, hP, hK⟩ := hv
  have hown : s.vm.findClass RX11 = some m.cls := findClass_of_methodNamed B.named
  have C0 : CX p m c cX11_isThere 3 s _ wsX11_isThere RX11 E := ⟨⟨B.exec, B.bytes, hml, hown, atoms_spec (ws := wsX11_isThere) B.pre⟩, hK⟩
  have hx := B.exec
  have hb := B.bytes
  have hr := B.returns
  have hlocks := B.notSynchronized
  have hw : SX E s st s.heap [] := ⟨hP, va_S.rf⟩
  have hl := lv_entry ([.ref (E.2.2.1 0 (0)), .int a1, .int a2]) (n := 3) (Nat.le_of_ble_eq_true rfl)
  rw [lg_entry_eq]
  generalize (lg_sl ([.ref (E.2.2.1 0 (0)), .int a1, .int a2]) ++ List.replicate (3 - (lg_sl ([.ref (E.2.2.1 0 (0)), .int a1, .int a2])).length) Slot.unset).toArray = ls at hl ⊢
  have hl : lv_has ls 3 [(0, .ref (E.2.2.1 0 (0))), (1, .int a1), (2, .int a2)] := hl
  unfold fX11_isThere at h
  refine lv_iload_n hx hb dX11_isThere_0 rfl (lv_at hl 2 rfl) ?_
  refine lv_if_lt (tgt := 18) hx hb dX11_isThere_1 (by decide) (fun hc1 => ?_) (fun hc1 => ?_)
  · have h := ifp h hc1
    refine lv_iconst (v := 0) hx hb dX11_isThere_18 (by decide) ?_
    cases h
    exact W.zret hx hb hr rfl (X_fin C0 hw) hw.2.2.2 dX11_isThere_19 hlocks
  · have h := ifn h hc1
    refine lv_iload_n hx hb dX11_isThere_4 rfl (lv_at hl 2 rfl) ?_
    refine lv_aload_n hx hb dX11_isThere_5 rfl (lv_at hl 0 rfl) ?_
    refine X_g0_3 C0 hw (fun w h => (List.mem_cons_of_mem _ (List.mem_append_right _ h))) (by decide) ((List.mem_cons_of_mem _ (List.mem_append_left _ (List.mem_of_getElem? (i := 0) rfl)))) dX11_isThere_6 ?_
    refine lv_iload_n hx hb dX11_isThere_9 rfl (lv_at hl 1 rfl) ?_
    refine X_iald C0 hw h (k := a1.toNatClampNeg) rfl dX11_isThere_10 (fun h => ?_)
    refine lv_icmp_ge (tgt := 18) hx hb dX11_isThere_11 (by decide) (fun hc2 => ?_) (fun hc2 => ?_)
    · have h := ifp h hc2
      refine lv_iconst (v := 0) hx hb dX11_isThere_18 (by decide) ?_
      cases h
      exact W.zret hx hb hr rfl (X_fin C0 hw) hw.2.2.2 dX11_isThere_19 hlocks
    · have h := ifn h hc2
      refine lv_iconst (v := 1) hx hb dX11_isThere_14 (by decide) ?_
      refine lv_goto (tgt := 19) hx hb dX11_isThere_15 (by decide) ?_
      cases h
      exact W.zret hx hb hr rfl (X_fin C0 hw) hw.2.2.2 dX11_isThere_19 hlocks

def fX11_dye (a1 : Int32) (st : Sto) : Option (Int32 × Sto) :=
  (fX11_isThere (1 : Int32) a1 st).bind (fun (v1 : Int32) =>
   if v1 = 0 then (
    (fX11_refused (2 : Int32) st).bind (un2 fun (v14 : Int32) (t15 : Sto) =>
     some (v14, t15))) else (
    if gI st (3) (0) (2) < (12 : Int32) then (
     ck (0 ≤ (gI st (3) (0) (2)).toInt ∧ (gI st (3) (0) (2)).toInt < (12 : Int)) (
      (fX3_begin ((gI st (3) (0) (2)).toNatClampNeg) a1 st).bind (fun (t6 : Sto) =>
       (fX11_newOne (2 : Int32) t6).bind (un2 fun (v8 : Int32) (t9 : Sto) =>
        some (v8, t9))))) else (
     (fX11_refused (1 : Int32) st).bind (un2 fun (v11 : Int32) (t12 : Sto) =>
      some (v11, t12)))))
set_option maxHeartbeats 4000000 in
set_option maxRecDepth 100000 in
theorem mX11_dye (l : Launch) (E : XE) (hL : LX E) (st : Sto) {a1 : Int32} {r : Int32} {st1 : Sto} (h : fX11_dye a1 st = some (r, st1)) : Met l yX11_dye wsX11_dye ({ frames := 3, cells := 0, slots := 0, locals := 68 }) (va_Pc [.ref (E.2.2.1 0 (0)), .int a1] (RX E st)) (QX E (some (.int r)) st1) 0 0 E.2.2.2 := by
  refine Met.ofW (cc := cX11_dye) (maxL := 2) (ret := (some .int)) (by decide) rfl ?_
  intro p e s m args below meth c s₁ B hml hv
  obtain ⟨rfl, hP, hK⟩ := hv
  have hown : s.vm.findClass RX11 = some m.cls := findClass_of_methodNamed B.named
  have C0 : CX p m c cX11_dye 2 s _ wsX11_dye RX11 E := ⟨⟨B.exec, B.bytes, hml, hown, atoms_spec (ws := wsX11_dye) B.pre⟩, hK⟩
  have hx := B.exec
  have hb := B.bytes
  have hr := B.returns
  have hlocks := B.notSynchronized
  have hw : SX E s st s.heap [] := ⟨hP, va_S.rf⟩
  have hl := lv_entry ([.ref (E.2.2.1 0 (0)), .int a1]) (n := 2) (Nat.le_of_ble_eq_true rfl)
  rw [lg_entry_eq]
  generalize (lg_sl ([.ref (E.2.2.1 0 (0)), .int a1]) ++ List.replicate (2 - (lg_sl ([.ref (E.2.2.1 0 (0)), .int a1])).length) Slot.unset).toArray = ls at hl ⊢
  have hl : lv_has ls 2 [(0, .ref (E.2.2.1 0 (0))), (1, .int a1)] := hl
  unfold fX11_dye at h
  refine lv_aload_n hx hb dX11_dye_0 rfl (lv_at hl 0 rfl) ?_
  refine lv_iconst (v := 1) hx hb dX11_dye_1 (by decide) ?_
  refine lv_iload_n hx hb dX11_dye_2 rfl (lv_at hl 1 rfl) ?_
  obtain ⟨v1, hf2, h⟩ := bn_c h
  refine X_callV C0 hw (As := [.int (1 : Int32), .int a1]) (rest := []) (mX11_isThere l E hL st hf2) (cwV 2 C0.1.2.2.2.2 gX11_dye_X11_isThere rfl rfl rfl (by decide +kernel) ⟨Nat.le_of_ble_eq_true rfl, Nat.le_of_ble_eq_true rfl⟩) (X_recv_0 C0 hw (by decide)) rfl hl.1 rfl (Nat.le_of_ble_eq_true rfl) dX11_dye_3 ⟨Nat.zero_le _, Nat.zero_le _⟩ (fun H locs hw => ?_)
  refine W.eq (g2 := F0 m 6 ls [.int v1]) rfl ?_
  refine lv_if_ne (tgt := 15) hx hb dX11_dye_6 (by decide) (fun hc3 => ?_) (fun hc3 => ?_)
  · have h := ifn h hc3
    refine lv_aload_n hx hb dX11_dye_15 rfl (lv_at hl 0 rfl) ?_
    refine X_g0_3 C0 hw (fun w h => (List.mem_cons_of_mem _ (List.mem_append_left _ (List.mem_append_left _ (List.mem_append_right _ h))))) (by decide) ((List.mem_cons_of_mem _ (List.mem_append_left _ (List.mem_append_left _ (List.mem_append_left _ (List.mem_append_left _ (List.mem_of_getElem? (i := 0) rfl))))))) dX11_dye_16 ?_
    refine lv_iconst (v := 2) hx hb dX11_dye_19 (by decide) ?_
    refine X_ialdL C0 hw (vp_in_iff.mpr (by decide +kernel)) (k := 2) rfl dX11_dye_20 ?_
    refine lv_bipush (v := 12) hx hb dX11_dye_21 (by decide) ?_
    refine lv_icmp_lt (tgt := 32) hx hb dX11_dye_23 (by decide) (fun hc4 => ?_) (fun hc4 => ?_)
    · have h := ifp h hc4
      refine lv_aload_n hx hb dX11_dye_32 rfl (lv_at hl 0 rfl) ?_
      refine X_g0_6 C0 hw (fun w h => (List.mem_cons_of_mem _ (List.mem_append_left _ (List.mem_append_left _ (List.mem_append_right _ h))))) (by decide) ((List.mem_cons_of_mem _ (List.mem_append_left _ (List.mem_append_left _ (List.mem_append_left _ (List.mem_append_left _ (List.mem_of_getElem? (i := 1) rfl))))))) dX11_dye_33 ?_
      refine lv_aload_n hx hb dX11_dye_36 rfl (lv_at hl 0 rfl) ?_
      refine X_g0_3 C0 hw (fun w h => (List.mem_cons_of_mem _ (List.mem_append_left _ (List.mem_append_left _ (List.mem_append_right _ h))))) (by decide) ((List.mem_cons_of_mem _ (List.mem_append_left _ (List.mem_append_left _ (List.mem_append_left _ (List.mem_append_left _ (List.mem_of_getElem? (i := 0) rfl))))))) dX11_dye_37 ?_
      refine lv_iconst (v := 2) hx hb dX11_dye_40 (by decide) ?_
      refine X_ialdL C0 hw (vp_in_iff.mpr (by decide +kernel)) (k := 2) rfl dX11_dye_41 ?_
      refine X_ald_7 C0 hw (by decide) h (k := (gI st (3) (0) (2)).toNatClampNeg) rfl dX11_dye_42 (fun hk5 h => ?_)
      refine lv_iload_n hx hb dX11_dye_43 rfl (lv_at hl 1 rfl) ?_
      obtain ⟨t6, hf7, h⟩ := bn_c h
      refine X_callV C0 hw (As := [.int a1]) (rest := []) (mX3_begin l E hL st hk5 hf7) (cwV 1 C0.1.2.2.2.2 gX11_dye_X3_begin rfl rfl rfl (by decide +kernel) ⟨Nat.le_of_ble_eq_true rfl, Nat.le_of_ble_eq_true rfl⟩) (X_recv_22 C0 hw hk5) rfl hl.1 rfl (Nat.le_of_ble_eq_true rfl) dX11_dye_44 ⟨Nat.zero_le _, Nat.zero_le _⟩ (fun H locs hw => ?_)
      refine W.eq (g2 := F0 m 47 ls []) rfl ?_
      refine lv_aload_n hx hb dX11_dye_47 rfl (lv_at hl 0 rfl) ?_
      refine lv_iconst (v := 2) hx hb dX11_dye_48 (by decide) ?_
      obtain ⟨⟨v8, t9⟩, hf10, h⟩ := bn_c h
      have h := un2_d h
      refine X_callV C0 hw (As := [.int (2 : Int32)]) (rest := []) (mX11_newOne l E hL t6 hf10) (cwV 1 C0.1.2.2.2.2 gX11_dye_X11_newOne rfl rfl rfl (by decide +kernel) ⟨Nat.le_of_ble_eq_true rfl, Nat.le_of_ble_eq_true rfl⟩) (X_recv_0 C0 hw (by decide)) rfl hl.1 rfl (Nat.le_of_ble_eq_true rfl) dX11_dye_49 ⟨Nat.zero_le _, Nat.zero_le _⟩ (fun H locs hw => ?_)
      refine W.eq (g2 := F0 m 52 ls [.int v8]) rfl ?_
      cases h
      exact W.iret hx hb hr (X_fin C0 hw) hw.2.2.2 dX11_dye_52 hlocks
    · have h := ifn h hc4
      refine lv_aload_n hx hb dX11_dye_26 rfl (lv_at hl 0 rfl) ?_
      refine lv_iconst (v := 1) hx hb dX11_dye_27 (by decide) ?_
      obtain ⟨⟨v11, t12⟩, hf13, h⟩ := bn_c h
      have h := un2_d h
      refine X_callV C0 hw (As := [.int (1 : Int32)]) (rest := []) (mX11_refused l E hL st hf13) (cwV 1 C0.1.2.2.2.2 gX11_dye_X11_refused rfl rfl rfl (by decide +kernel) ⟨Nat.le_of_ble_eq_true rfl, Nat.le_of_ble_eq_true rfl⟩) (X_recv_0 C0 hw (by decide)) rfl hl.1 rfl (Nat.le_of_ble_eq_true rfl) dX11_dye_28 ⟨Nat.zero_le _, Nat.zero_le _⟩ (fun H locs hw => ?_)
      refine W.eq (g2 := F0 m 31 ls [.int v11]) rfl ?_
      cases h
      exact W.iret hx hb hr (X_fin C0 hw) hw.2.2.2 dX11_dye_31 hlocks
  · have h := ifp h hc3
    refine lv_aload_n hx hb dX11_dye_9 rfl (lv_at hl 0 rfl) ?_
    refine lv_iconst (v := 2) hx hb dX11_dye_10 (by decide) ?_
    obtain ⟨⟨v14, t15⟩, hf16, h⟩ := bn_c h
    have h := un2_d h
    refine X_callV C0 hw (As := [.int (2 : Int32)]) (rest := []) (mX11_refused l E hL st hf16) (cwV 1 C0.1.2.2.2.2 gX11_dye_X11_refused rfl rfl rfl (by decide +kernel) ⟨Nat.le_of_ble_eq_true rfl, Nat.le_of_ble_eq_true rfl⟩) (X_recv_0 C0 hw (by decide)) rfl hl.1 rfl (Nat.le_of_ble_eq_true rfl) dX11_dye_11 ⟨Nat.zero_le _, Nat.zero_le _⟩ (fun H locs hw => ?_)
    refine W.eq (g2 := F0 m 14 ls [.int v14]) rfl ?_
    cases h
    exact W.iret hx hb hr (X_fin C0 hw) hw.2.2.2 dX11_dye_14 hlocks

def fX11_isWithin (a1 : Int32) (a2 : Int32) (a3 : Int32) : Option Int32 :=
  if a1 < a2 then (
   some (0 : Int32)) else (
   if a3 < a1 then (
    some (0 : Int32)) else (
    some (1 : Int32)))
set_option maxHeartbeats 4000000 in
set_option maxRecDepth 100000 in
theorem mX11_isWithin (l : Launch) (E : XE) (hL : LX E) (st : Sto) {a1 : Int32} {a2 : Int32} {a3 : Int32} {r : Int32} (h : fX11_isWithin a1 a2 a3 = some r) : Met l yX11_isWithin wsX11_isWithin ({ frames := 0, cells := 0, slots := 0, locals := 0 }) (va_Pc [.int a1, .int a2, .int a3] (RX E st)) (QX E (some (.int r)) st) 0 0 E.2.2.2 := by
  refine Met.ofW (cc := cX11_isWithin) (maxL := 3) (ret := (some .boolean)) (by decide) rfl ?_
  intro p e s m args below meth c s₁ B hml hv
  obtain ⟨rfl, hP, hK⟩ := hv
  have hown : s.vm.findClass RX11 = some m.cls := findClass_of_methodNamed B.named
  have C0 : CX p m c cX11_isWithin 3 s _ wsX11_isWithin RX11 E := ⟨⟨B.exec, B.bytes, hml, hown, atoms_spec (ws := wsX11_isWithin) B.pre⟩, hK⟩
  have hx := B.exec
  have hb := B.bytes
  have hr := B.returns
  have hlocks := B.notSynchronized
  have hw : SX E s st s.heap [] := ⟨hP, va_S.rf⟩
  have hl := lv_entry ([.int a1, .int a2, .int a3]) (n := 3) (Nat.le_of_ble_eq_true rfl)
  rw [lg_entry_eq]
  generalize (lg_sl ([.int a1, .int a2, .int a3]) ++ List.replicate (3 - (lg_sl ([.int a1, .int a2, .int a3])).length) Slot.unset).toArray = ls at hl ⊢
  have hl : lv_has ls 3 [(0, .int a1), (1, .int a2), (2, .int a3)] := hl
  unfold fX11_isWithin at h
  refine lv_iload_n hx hb dX11_isWithin_0 rfl (lv_at hl 0 rfl) ?_
  refine lv_iload_n hx hb dX11_isWithin_1 rfl (lv_at hl 1 rfl) ?_
  refine lv_icmp_lt (tgt := 14) hx hb dX11_isWithin_2 (by decide) (fun hc1 => ?_) (fun hc1 => ?_)
  · have h := ifp h hc1
    refine lv_iconst (v := 0) hx hb dX11_isWithin_14 (by decide) ?_
    cases h
    exact W.zret hx hb hr rfl (X_fin C0 hw) hw.2.2.2 dX11_isWithin_15 hlocks
  · have h := ifn h hc1
    refine lv_iload_n hx hb dX11_isWithin_5 rfl (lv_at hl 0 rfl) ?_
    refine lv_iload_n hx hb dX11_isWithin_6 rfl (lv_at hl 2 rfl) ?_
    refine lv_icmp_gt (tgt := 14) hx hb dX11_isWithin_7 (by decide) (fun hc2 => ?_) (fun hc2 => ?_)
    · have h := ifp h hc2
      refine lv_iconst (v := 0) hx hb dX11_isWithin_14 (by decide) ?_
      cases h
      exact W.zret hx hb hr rfl (X_fin C0 hw) hw.2.2.2 dX11_isWithin_15 hlocks
    · have h := ifn h hc2
      refine lv_iconst (v := 1) hx hb dX11_isWithin_10 (by decide) ?_
      refine lv_goto (tgt := 15) hx hb dX11_isWithin_11 (by decide) ?_
      cases h
      exact W.zret hx hb hr rfl (X_fin C0 hw) hw.2.2.2 dX11_isWithin_15 hlocks

def fX11_strength (a1 : Int32) (a2 : Int32) (st : Sto) : Option (Int32 × Sto) :=
  (fX11_isThere (2 : Int32) a1 st).bind (fun (v1 : Int32) =>
   if v1 = 0 then (
    (fX11_refused (2 : Int32) st).bind (un2 fun (v32 : Int32) (t33 : Sto) =>
     some (v32, t33))) else (
    ck (0 ≤ a1.toInt ∧ a1.toInt < (12 : Int)) (
     (fX11_isWithin a2 (1 : Int32) (100000 : Int32)).bind (fun (v5 : Int32) =>
      if v5 = 0 then (
       (fX11_refused (3 : Int32) st).bind (un2 fun (v8 : Int32) (t9 : Sto) =>
        some (v8, t9))) else (
       (fX3_lastGrams (a1.toNatClampNeg) st).bind (fun (v11 : Int32) =>
        if v11 < a2 then (
         if gI st 22 (a1.toNatClampNeg) 2 < (6 : Int32) then (
          ck (0 ≤ (gI st 22 (a1.toNatClampNeg) 0).toInt ∧ (gI st 22 (a1.toNatClampNeg) 0).toInt < (8 : Int)) (
           (fX3_strengthen (a1.toNatClampNeg) a2 (1) (0) (6) ((gI st 22 (a1.toNatClampNeg) 0).toNatClampNeg) st).bind (fun (t16 : Sto) =>
            (fX0_note (6 : Int32) a1 (0 : Int32) (0 : Int32) t16).bind (un2 fun (v18 : (Nat × Nat)) (t19 : Sto) => un2 (fun (qf21 qi22 : Nat) =>
              (fX11_accept t19).bind (un2 fun (v23 : Int32) (t24 : Sto) =>
               some (gI t24 22 (a1.toNatClampNeg) 2, t24))) v18)))) else (
          (fX11_refused (1 : Int32) st).bind (un2 fun (v26 : Int32) (t27 : Sto) =>
           some (v26, t27)))) else (
         (fX11_refused (3 : Int32) st).bind (un2 fun (v29 : Int32) (t30 : Sto) =>
          some (v29, t30)))))))))
set_option maxHeartbeats 4000000 in
set_option maxRecDepth 100000 in
theorem mX11_strength (l : Launch) (E : XE) (hL : LX E) (st : Sto) {a1 : Int32} {a2 : Int32} {r : Int32} {st1 : Sto} (h : fX11_strength a1 a2 st = some (r, st1)) : Met l yX11_strength wsX11_strength ({ frames := 2, cells := 0, slots := 0, locals := 50 }) (va_Pc [.ref (E.2.2.1 0 (0)), .int a1, .int a2] (RX E st)) (QX E (some (.int r)) st1) 0 0 E.2.2.2 := by
  refine Met.ofW (cc := cX11_strength) (maxL := 4) (ret := (some .int)) (by decide) rfl ?_
  intro p e s m args below meth c s₁ B hml hv
  obtain ⟨rfl, hP, hK⟩ := hv
  have hown : s.vm.findClass RX11 = some m.cls := findClass_of_methodNamed B.named
  have C0 : CX p m c cX11_strength 4 s _ wsX11_strength RX11 E := ⟨⟨B.exec, B.bytes, hml, hown, atoms_spec (ws := wsX11_strength) B.pre⟩, hK⟩
  have hx := B.exec
  have hb := B.bytes
  have hr := B.returns
  have hlocks := B.notSynchronized
  have hw : SX E s st s.heap [] := ⟨hP, va_S.rf⟩
  have hl := lv_entry ([.ref (E.2.2.1 0 (0)), .int a1, .int a2]) (n := 4) (Nat.le_of_ble_eq_true rfl)
  rw [lg_entry_eq]
  generalize (lg_sl ([.ref (E.2.2.1 0 (0)), .int a1, .int a2]) ++ List.replicate (4 - (lg_sl ([.ref (E.2.2.1 0 (0)), .int a1, .int a2])).length) Slot.unset).toArray = ls at hl ⊢
  have hl : lv_has ls 4 [(0, .ref (E.2.2.1 0 (0))), (1, .int a1), (2, .int a2)] := hl
  unfold fX11_strength at h
  refine lv_aload_n hx hb dX11_strength_0 rfl (lv_at hl 0 rfl) ?_
  refine lv_iconst (v := 2) hx hb dX11_strength_1 (by decide) ?_
  refine lv_iload_n hx hb dX11_strength_2 rfl (lv_at hl 1 rfl) ?_
  obtain ⟨v1, hf2, h⟩ := bn_c h
  refine X_callV C0 hw (As := [.int (2 : Int32), .int a1]) (rest := []) (mX11_isThere l E hL st hf2) (cwV 2 C0.1.2.2.2.2 gX11_strength_X11_isThere rfl rfl rfl (by decide +kernel) ⟨Nat.le_of_ble_eq_true rfl, Nat.le_of_ble_eq_true rfl⟩) (X_recv_0 C0 hw (by decide)) rfl hl.1 rfl (Nat.le_of_ble_eq_true rfl) dX11_strength_3 ⟨Nat.zero_le _, Nat.zero_le _⟩ (fun H locs hw => ?_)
  refine W.eq (g2 := F0 m 6 ls [.int v1]) rfl ?_
  refine lv_if_ne (tgt := 15) hx hb dX11_strength_6 (by decide) (fun hc3 => ?_) (fun hc3 => ?_)
  · have h := ifn h hc3
    refine lv_aload_n hx hb dX11_strength_15 rfl (lv_at hl 0 rfl) ?_
    refine X_g0_6 C0 hw (fun w h => (List.mem_cons_of_mem _ (List.mem_append_left _ (List.mem_append_left _ (List.mem_append_right _ h))))) (by decide) ((List.mem_cons_of_mem _ (List.mem_append_left _ (List.mem_append_left _ (List.mem_append_left _ (List.mem_append_left _ (List.mem_of_getElem? (i := 0) rfl))))))) dX11_strength_16 ?_
    refine lv_iload_n hx hb dX11_strength_19 rfl (lv_at hl 1 rfl) ?_
    refine X_ald_7 C0 hw (by decide) h (k := a1.toNatClampNeg) rfl dX11_strength_20 (fun hk4 h => ?_)
    refine lv_astore_n (lv' := [(3, .ref (E.2.2.1 22 (a1.toNatClampNeg))), (0, .ref (E.2.2.1 0 (0))), (1, .int a1), (2, .int a2)]) hx hb dX11_strength_21 rfl hl (by decide) rfl (fun ls hl => ?_)
    refine lv_iload_n hx hb dX11_strength_22 rfl (lv_at hl 3 rfl) ?_
    refine lv_iconst (v := 1) hx hb dX11_strength_23 (by decide) ?_
    refine lv_ldc hx hb hown (C0.1.2.2.2.2 _ (List.mem_cons_of_mem _ (List.mem_append_left _ (List.mem_append_left _ (List.mem_append_left _ (List.mem_append_left _ (List.mem_of_getElem? (i := 1) rfl))))))) dX11_strength_24 ?_
    obtain ⟨v5, hf6, h⟩ := bn_c h
    refine X_callS C0 hw (As := [.int a2, .int (1 : Int32), .int (100000 : Int32)]) (rest := []) (mX11_isWithin l E hL st hf6) (va_cwS 3 C0.1.2.2.2.2 gX11_strength_X11_isWithin rfl rfl rfl (by decide +kernel) ⟨Nat.le_of_ble_eq_true rfl, Nat.le_of_ble_eq_true rfl⟩) rfl hl.1 rfl (Nat.le_of_ble_eq_true rfl) dX11_strength_26 ⟨Nat.zero_le _, Nat.zero_le _⟩ (fun H locs hw => ?_)
    refine W.eq (g2 := F0 m 29 ls [.int v5]) rfl ?_
    refine lv_if_eq (tgt := 40) hx hb dX11_strength_29 (by decide) (fun hc7 => ?_) (fun hc7 => ?_)
    · have h := ifp h hc7
      refine lv_aload_n hx hb dX11_strength_40 rfl (lv_at hl 1 rfl) ?_
      refine lv_iconst (v := 3) hx hb dX11_strength_41 (by decide) ?_
      obtain ⟨⟨v8, t9⟩, hf10, h⟩ := bn_c h
      have h := un2_d h
      refine X_callV C0 hw (As := [.int (3 : Int32)]) (rest := []) (mX11_refused l E hL st hf10) (cwV 1 C0.1.2.2.2.2 gX11_strength_X11_refused rfl rfl rfl (by decide +kernel) ⟨Nat.le_of_ble_eq_true rfl, Nat.le_of_ble_eq_true rfl⟩) (X_recv_0 C0 hw (by decide)) rfl hl.1 rfl (Nat.le_of_ble_eq_true rfl) dX11_strength_42 ⟨Nat.zero_le _, Nat.zero_le _⟩ (fun H locs hw => ?_)
      refine W.eq (g2 := F0 m 45 ls [.int v8]) rfl ?_
      cases h
      exact W.iret hx hb hr (X_fin C0 hw) hw.2.2.2 dX11_strength_45 hlocks
    · have h := ifn h hc7
      refine lv_iload_n hx hb dX11_strength_32 rfl (lv_at hl 3 rfl) ?_
      refine lv_aload_n hx hb dX11_strength_33 rfl (lv_at hl 0 rfl) ?_
      obtain ⟨v11, hf12, h⟩ := bn_c h
      refine X_callV C0 hw (As := []) (rest := [.int a2]) (mX3_lastGrams l E hL st hk4 hf12) (cwV 0 C0.1.2.2.2.2 gX11_strength_X3_lastGrams rfl rfl rfl (by decide +kernel) ⟨Nat.le_of_ble_eq_true rfl, Nat.le_of_ble_eq_true rfl⟩) (X_recv_22 C0 hw hk4) rfl hl.1 rfl (Nat.le_of_ble_eq_true rfl) dX11_strength_34 ⟨Nat.zero_le _, Nat.zero_le _⟩ (fun H locs hw => ?_)
      refine W.eq (g2 := F0 m 37 ls [.int v11, .int a2]) rfl ?_
      refine lv_icmp_gt (tgt := 46) hx hb dX11_strength_37 (by decide) (fun hc13 => ?_) (fun hc13 => ?_)
      · have h := ifp h hc13
        refine lv_aload_n hx hb dX11_strength_46 rfl (lv_at hl 0 rfl) ?_
        refine X_g22_2 C0 hw (fun w h => (List.mem_cons_of_mem _ (List.mem_append_left _ (List.mem_append_right _ h)))) hk4 ((List.mem_cons_of_mem _ (List.mem_append_left _ (List.mem_append_left _ (List.mem_append_left _ (List.mem_append_left _ (List.mem_of_getElem? (i := 2) rfl))))))) dX11_strength_47 ?_
        refine lv_bipush (v := 6) hx hb dX11_strength_50 (by decide) ?_
        refine lv_icmp_lt (tgt := 61) hx hb dX11_strength_52 (by decide) (fun hc14 => ?_) (fun hc14 => ?_)
        · have h := ifp h hc14
          refine lv_aload_n hx hb dX11_strength_61 rfl (lv_at hl 0 rfl) ?_
          refine lv_iload_n hx hb dX11_strength_62 rfl (lv_at hl 3 rfl) ?_
          refine lv_aload_n hx hb dX11_strength_63 rfl (lv_at hl 1 rfl) ?_
          refine X_g0_0 C0 hw (fun w h => (List.mem_cons_of_mem _ (List.mem_append_left _ (List.mem_append_left _ (List.mem_append_right _ h))))) (by decide) ((List.mem_cons_of_mem _ (List.mem_append_left _ (List.mem_append_left _ (List.mem_append_left _ (List.mem_append_left _ (List.mem_of_getElem? (i := 3) rfl))))))) dX11_strength_64 ?_
          refine lv_aload_n hx hb dX11_strength_67 rfl (lv_at hl 1 rfl) ?_
          refine X_g0_5 C0 hw (fun w h => (List.mem_cons_of_mem _ (List.mem_append_left _ (List.mem_append_left _ (List.mem_append_right _ h))))) (by decide) ((List.mem_cons_of_mem _ (List.mem_append_left _ (List.mem_append_left _ (List.mem_append_left _ (List.mem_append_left _ (List.mem_of_getElem? (i := 4) rfl))))))) dX11_strength_68 ?_
          refine lv_aload_n hx hb dX11_strength_71 rfl (lv_at hl 0 rfl) ?_
          refine X_g22_0 C0 hw (fun w h => (List.mem_cons_of_mem _ (List.mem_append_left _ (List.mem_append_right _ h)))) hk4 ((List.mem_cons_of_mem _ (List.mem_append_left _ (List.mem_append_left _ (List.mem_append_left _ (List.mem_append_left _ (List.mem_of_getElem? (i := 5) rfl))))))) dX11_strength_72 ?_
          refine X_ald_5 C0 hw (by decide) h (k := (gI st 22 (a1.toNatClampNeg) 0).toNatClampNeg) rfl dX11_strength_75 (fun hk15 h => ?_)
          obtain ⟨t16, hf17, h⟩ := bn_c h
          refine X_callV C0 hw (As := [.int a2, .ref (E.2.2.1 (1) (0)), .ref (E.2.2.1 (6) ((gI st 22 (a1.toNatClampNeg) 0).toNatClampNeg))]) (rest := []) (mX3_strengthen l E hL st hk4 hf17) (cwV 3 C0.1.2.2.2.2 gX11_strength_X3_strengthen rfl rfl rfl (by decide +kernel) ⟨Nat.le_of_ble_eq_true rfl, Nat.le_of_ble_eq_true rfl⟩) (X_recv_22 C0 hw hk4) rfl hl.1 rfl (Nat.le_of_ble_eq_true rfl) dX11_strength_76 ⟨Nat.zero_le _, Nat.zero_le _⟩ (fun H locs hw => ?_)
          refine W.eq (g2 := F0 m 79 ls []) rfl ?_
          refine lv_aload_n hx hb dX11_strength_79 rfl (lv_at hl 1 rfl) ?_
          refine X_g0_18 C0 hw (fun w h => (List.mem_cons_of_mem _ (List.mem_append_left _ (List.mem_append_left _ (List.mem_append_right _ h))))) (by decide) ((List.mem_cons_of_mem _ (List.mem_append_left _ (List.mem_append_left _ (List.mem_append_left _ (List.mem_append_left _ (List.mem_of_getElem? (i := 6) rfl))))))) dX11_strength_80 ?_
          refine lv_bipush (v := 6) hx hb dX11_strength_83 (by decide) ?_
          refine lv_iload_n hx hb dX11_strength_85 rfl (lv_at hl 2 rfl) ?_
          refine lv_iconst (v := 0) hx hb dX11_strength_86 (by decide) ?_
          refine lv_iconst (v := 0) hx hb dX11_strength_87 (by decide) ?_
          obtain ⟨⟨v18, t19⟩, hf20, h⟩ := bn_c h
          have h := un2_d h
          refine X_callV C0 hw (As := [.int (6 : Int32), .int a1, .int (0 : Int32), .int (0 : Int32)]) (rest := []) (mX0_note l E hL t16 hf20) (cwV 4 C0.1.2.2.2.2 gX11_strength_X0_note rfl rfl rfl (by decide +kernel) ⟨Nat.le_of_ble_eq_true rfl, Nat.le_of_ble_eq_true rfl⟩) (X_recv_18 C0 hw (by decide)) rfl hl.1 rfl (Nat.le_of_ble_eq_true rfl) dX11_strength_88 ⟨Nat.zero_le _, Nat.zero_le _⟩ (fun H locs hw => ?_)
          obtain ⟨qf21, qi22⟩ := v18
          have h := un2_d h
          refine W.eq (g2 := F0 m 91 ls (.ref (E.2.2.1 qf21 qi22) :: [])) rfl ?_
          refine lv_pop hx hb dX11_strength_91 rfl ?_
          refine lv_aload_n hx hb dX11_strength_92 rfl (lv_at hl 1 rfl) ?_
          obtain ⟨⟨v23, t24⟩, hf25, h⟩ := bn_c h
          have h := un2_d h
          refine X_callV C0 hw (As := []) (rest := []) (mX11_accept l E hL t19 hf25) (cwV 0 C0.1.2.2.2.2 gX11_strength_X11_accept rfl rfl rfl (by decide +kernel) ⟨Nat.le_of_ble_eq_true rfl, Nat.le_of_ble_eq_true rfl⟩) (X_recv_0 C0 hw (by decide)) rfl hl.1 rfl (Nat.le_of_ble_eq_true rfl) dX11_strength_93 ⟨Nat.zero_le _, Nat.zero_le _⟩ (fun H locs hw => ?_)
          refine W.eq (g2 := F0 m 96 ls [.int v23]) rfl ?_
          refine lv_pop hx hb dX11_strength_96 rfl ?_
          refine lv_aload_n hx hb dX11_strength_97 rfl (lv_at hl 0 rfl) ?_
          refine X_g22_2 C0 hw (fun w h => (List.mem_cons_of_mem _ (List.mem_append_left _ (List.mem_append_right _ h)))) hk4 ((List.mem_cons_of_mem _ (List.mem_append_left _ (List.mem_append_left _ (List.mem_append_left _ (List.mem_append_left _ (List.mem_of_getElem? (i := 2) rfl))))))) dX11_strength_98 ?_
          cases h
          exact W.iret hx hb hr (X_fin C0 hw) hw.2.2.2 dX11_strength_101 hlocks
        · have h := ifn h hc14
          refine lv_aload_n hx hb dX11_strength_55 rfl (lv_at hl 1 rfl) ?_
          refine lv_iconst (v := 1) hx hb dX11_strength_56 (by decide) ?_
          obtain ⟨⟨v26, t27⟩, hf28, h⟩ := bn_c h
          have h := un2_d h
          refine X_callV C0 hw (As := [.int (1 : Int32)]) (rest := []) (mX11_refused l E hL st hf28) (cwV 1 C0.1.2.2.2.2 gX11_strength_X11_refused rfl rfl rfl (by decide +kernel) ⟨Nat.le_of_ble_eq_true rfl, Nat.le_of_ble_eq_true rfl⟩) (X_recv_0 C0 hw (by decide)) rfl hl.1 rfl (Nat.le_of_ble_eq_true rfl) dX11_strength_57 ⟨Nat.zero_le _, Nat.zero_le _⟩ (fun H locs hw => ?_)
          refine W.eq (g2 := F0 m 60 ls [.int v26]) rfl ?_
          cases h
          exact W.iret hx hb hr (X_fin C0 hw) hw.2.2.2 dX11_strength_60 hlocks
      · have h := ifn h hc13
        refine lv_aload_n hx hb dX11_strength_40 rfl (lv_at hl 1 rfl) ?_
        refine lv_iconst (v := 3) hx hb dX11_strength_41 (by decide) ?_
        obtain ⟨⟨v29, t30⟩, hf31, h⟩ := bn_c h
        have h := un2_d h
        refine X_callV C0 hw (As := [.int (3 : Int32)]) (rest := []) (mX11_refused l E hL st hf31) (cwV 1 C0.1.2.2.2.2 gX11_strength_X11_refused rfl rfl rfl (by decide +kernel) ⟨Nat.le_of_ble_eq_true rfl, Nat.le_of_ble_eq_true rfl⟩) (X_recv_0 C0 hw (by decide)) rfl hl.1 rfl (Nat.le_of_ble_eq_true rfl) dX11_strength_42 ⟨Nat.zero_le _, Nat.zero_le _⟩ (fun H locs hw => ?_)
        refine W.eq (g2 := F0 m 45 ls [.int v29]) rfl ?_
        cases h
        exact W.iret hx hb hr (X_fin C0 hw) hw.2.2.2 dX11_strength_45 hlocks
  · have h := ifp h hc3
    refine lv_aload_n hx hb dX11_strength_9 rfl (lv_at hl 0 rfl) ?_
    refine lv_iconst (v := 2) hx hb dX11_strength_10 (by decide) ?_
    obtain ⟨⟨v32, t33⟩, hf34, h⟩ := bn_c h
    have h := un2_d h
    refine X_callV C0 hw (As := [.int (2 : Int32)]) (rest := []) (mX11_refused l E hL st hf34) (cwV 1 C0.1.2.2.2.2 gX11_strength_X11_refused rfl rfl rfl (by decide +kernel) ⟨Nat.le_of_ble_eq_true rfl, Nat.le_of_ble_eq_true rfl⟩) (X_recv_0 C0 hw (by decide)) rfl hl.1 rfl (Nat.le_of_ble_eq_true rfl) dX11_strength_11 ⟨Nat.zero_le _, Nat.zero_le _⟩ (fun H locs hw => ?_)
    refine W.eq (g2 := F0 m 14 ls [.int v32]) rfl ?_
    cases h
    exact W.iret hx hb hr (X_fin C0 hw) hw.2.2.2 dX11_strength_14 hlocks

def fX11_denied (a1 : Int32) (st : Sto) : Option (Int32 × Sto) :=
  lt1 (sI st 0 (0) 19 a1) fun (t1 : Sto) =>
  some ((0 : Int32), t1)
set_option maxHeartbeats 4000000 in
set_option maxRecDepth 100000 in
theorem mX11_denied (l : Launch) (E : XE) (hL : LX E) (st : Sto) {a1 : Int32} {r : Int32} {st1 : Sto} (h : fX11_denied a1 st = some (r, st1)) : Met l yX11_denied wsX11_denied ({ frames := 0, cells := 0, slots := 0, locals := 0 }) (va_Pc [.ref (E.2.2.1 0 (0)), .int a1] (RX E st)) (QX E (some (.int r)) st1) 0 0 E.2.2.2 := by
  refine Met.ofW (cc := cX11_denied) (maxL := 2) (ret := (some .boolean)) (by decide) rfl ?_
  intro p e s m args below meth c s₁ B hml hv
  obtain ⟨rfl, hP, hK⟩ := hv
  have hown : s.vm.findClass RX11 = some m.cls := findClass_of_methodNamed B.named
  have C0 : CX p m c cX11_denied 2 s _ wsX11_denied RX11 E := ⟨⟨B.exec, B.bytes, hml, hown, atoms_spec (ws := wsX11_denied) B.pre⟩, hK⟩
  have hx := B.exec
  have hb := B.bytes
  have hr := B.returns
  have hlocks := B.notSynchronized
  have hw : SX E s st s.heap [] := ⟨hP, va_S.rf⟩
  have hl := lv_entry ([.ref (E.2.2.1 0 (0)), .int a1]) (n := 2) (Nat.le_of_ble_eq_true rfl)
  rw [lg_entry_eq]
  generalize (lg_sl ([.ref (E.2.2.1 0 (0)), .int a1]) ++ List.replicate (2 - (lg_sl ([.ref (E.2.2.1 0 (0)), .int a1])).length) Slot.unset).toArray = ls at hl ⊢
  have hl : lv_has ls 2 [(0, .ref (E.2.2.1 0 (0))), (1, .int a1)] := hl
  unfold fX11_denied at h
  refine lv_aload_n hx hb dX11_denied_0 rfl (lv_at hl 0 rfl) ?_
  refine lv_iload_n hx hb dX11_denied_1 rfl (lv_at hl 1 rfl) ?_
  refine X_p0_19 hL C0 hw (fun w h => (List.mem_cons_of_mem _ (List.mem_append_right _ h))) (by decide) h ((List.mem_cons_of_mem _ (List.mem_append_left _ (List.mem_of_getElem? (i := 0) rfl)))) dX11_denied_2 (fun t1 H locs hw h => ?_)
  refine lv_iconst (v := 0) hx hb dX11_denied_5 (by decide) ?_
  cases h
  exact W.zret hx hb hr rfl (X_fin C0 hw) hw.2.2.2 dX11_denied_6 hlocks

def fX11_cents (a1 : Int32) (a2 : Int32) (st : Sto) : Option (Int32 × Sto) :=
  (fX11_isThere (2 : Int32) a1 st).bind (fun (v1 : Int32) =>
   if v1 = 0 then (
    (fX11_denied (2 : Int32) st).bind (un2 fun (v21 : Int32) (t22 : Sto) =>
     ck (v21 &&& 1 = v21) (
      some (v21, t22)))) else (
    (fX11_isWithin a2 (0 : Int32) (100000 : Int32)).bind (fun (v4 : Int32) =>
     if v4 = 0 then (
      (fX11_denied (3 : Int32) st).bind (un2 fun (v18 : Int32) (t19 : Sto) =>
       ck (v18 &&& 1 = v18) (
        some (v18, t19)))) else (
      ck (0 ≤ a1.toInt ∧ a1.toInt < (12 : Int)) (
       (fX0_note (7 : Int32) a1 (gI st 22 (a1.toNatClampNeg) 1) (0 : Int32) st).bind (un2 fun (v8 : (Nat × Nat)) (t9 : Sto) => un2 (fun (qf11 qi12 : Nat) =>
         ck (0 ≤ a1.toInt ∧ a1.toInt < (12 : Int)) (
          lt1 (sI t9 22 (a1.toNatClampNeg) 1 a2) fun (t14 : Sto) =>
          (fX11_accept t14).bind (un2 fun (v15 : Int32) (t16 : Sto) =>
           ck (v15 &&& 1 = v15) (
            some (v15, t16))))) v8))))))
set_option maxHeartbeats 4000000 in
set_option maxRecDepth 100000 in
theorem mX11_cents (l : Launch) (E : XE) (hL : LX E) (st : Sto) {a1 : Int32} {a2 : Int32} {r : Int32} {st1 : Sto} (h : fX11_cents a1 a2 st = some (r, st1)) : Met l yX11_cents wsX11_cents ({ frames := 2, cells := 0, slots := 0, locals := 47 }) (va_Pc [.ref (E.2.2.1 0 (0)), .int a1, .int a2] (RX E st)) (QX E (some (.int r)) st1) 0 0 E.2.2.2 := by
  refine Met.ofW (cc := cX11_cents) (maxL := 3) (ret := (some .boolean)) (by decide) rfl ?_
  intro p e s m args below meth c s₁ B hml hv
  obtain ⟨rfl, hP, hK⟩ := hv
  have hown : s.vm.findClass RX11 = some m.cls := findClass_of_methodNamed B.named
  have C0 : CX p m c cX11_cents 3 s _ wsX11_cents RX11 E := ⟨⟨B.exec, B.bytes, hml, hown, atoms_spec (ws := wsX11_cents) B.pre⟩, hK⟩
  have hx := B.exec
  have hb := B.bytes
  have hr := B.returns
  have hlocks := B.notSynchronized
  have hw : SX E s st s.heap [] := ⟨hP, va_S.rf⟩
  have hl := lv_entry ([.ref (E.2.2.1 0 (0)), .int a1, .int a2]) (n := 3) (Nat.le_of_ble_eq_true rfl)
  rw [lg_entry_eq]
  generalize (lg_sl ([.ref (E.2.2.1 0 (0)), .int a1, .int a2]) ++ List.replicate (3 - (lg_sl ([.ref (E.2.2.1 0 (0)), .int a1, .int a2])).length) Slot.unset).toArray = ls at hl ⊢
  have hl : lv_has ls 3 [(0, .ref (E.2.2.1 0 (0))), (1, .int a1), (2, .int a2)] := hl
  unfold fX11_cents at h
  refine lv_aload_n hx hb dX11_cents_0 rfl (lv_at hl 0 rfl) ?_
  refine lv_iconst (v := 2) hx hb dX11_cents_1 (by decide) ?_
  refine lv_iload_n hx hb dX11_cents_2 rfl (lv_at hl 1 rfl) ?_
  obtain ⟨v1, hf2, h⟩ := bn_c h
  refine X_callV C0 hw (As := [.int (2 : Int32), .int a1]) (rest := []) (mX11_isThere l E hL st hf2) (cwV 2 C0.1.2.2.2.2 gX11_cents_X11_isThere rfl rfl rfl (by decide +kernel) ⟨Nat.le_of_ble_eq_true rfl, Nat.le_of_ble_eq_true rfl⟩) (X_recv_0 C0 hw (by decide)) rfl hl.1 rfl (Nat.le_of_ble_eq_true rfl) dX11_cents_3 ⟨Nat.zero_le _, Nat.zero_le _⟩ (fun H locs hw => ?_)
  refine W.eq (g2 := F0 m 6 ls [.int v1]) rfl ?_
  refine lv_if_ne (tgt := 15) hx hb dX11_cents_6 (by decide) (fun hc3 => ?_) (fun hc3 => ?_)
  · have h := ifn h hc3
    refine lv_iload_n hx hb dX11_cents_15 rfl (lv_at hl 2 rfl) ?_
    refine lv_iconst (v := 0) hx hb dX11_cents_16 (by decide) ?_
    refine lv_ldc hx hb hown (C0.1.2.2.2.2 _ (List.mem_cons_of_mem _ (List.mem_append_left _ (List.mem_append_left _ (List.mem_append_left _ (List.mem_append_left _ (List.mem_of_getElem? (i := 0) rfl))))))) dX11_cents_17 ?_
    obtain ⟨v4, hf5, h⟩ := bn_c h
    refine X_callS C0 hw (As := [.int a2, .int (0 : Int32), .int (100000 : Int32)]) (rest := []) (mX11_isWithin l E hL st hf5) (va_cwS 3 C0.1.2.2.2.2 gX11_cents_X11_isWithin rfl rfl rfl (by decide +kernel) ⟨Nat.le_of_ble_eq_true rfl, Nat.le_of_ble_eq_true rfl⟩) rfl hl.1 rfl (Nat.le_of_ble_eq_true rfl) dX11_cents_19 ⟨Nat.zero_le _, Nat.zero_le _⟩ (fun H locs hw => ?_)
    refine W.eq (g2 := F0 m 22 ls [.int v4]) rfl ?_
    refine lv_if_ne (tgt := 31) hx hb dX11_cents_22 (by decide) (fun hc6 => ?_) (fun hc6 => ?_)
    · have h := ifn h hc6
      refine lv_aload_n hx hb dX11_cents_31 rfl (lv_at hl 0 rfl) ?_
      refine X_g0_18 C0 hw (fun w h => (List.mem_cons_of_mem _ (List.mem_append_left _ (List.mem_append_left _ (List.mem_append_right _ h))))) (by decide) ((List.mem_cons_of_mem _ (List.mem_append_left _ (List.mem_append_left _ (List.mem_append_left _ (List.mem_append_left _ (List.mem_of_getElem? (i := 1) rfl))))))) dX11_cents_32 ?_
      refine lv_bipush (v := 7) hx hb dX11_cents_35 (by decide) ?_
      refine lv_iload_n hx hb dX11_cents_37 rfl (lv_at hl 1 rfl) ?_
      refine lv_aload_n hx hb dX11_cents_38 rfl (lv_at hl 0 rfl) ?_
      refine X_g0_6 C0 hw (fun w h => (List.mem_cons_of_mem _ (List.mem_append_left _ (List.mem_append_left _ (List.mem_append_right _ h))))) (by decide) ((List.mem_cons_of_mem _ (List.mem_append_left _ (List.mem_append_left _ (List.mem_append_left _ (List.mem_append_left _ (List.mem_of_getElem? (i := 2) rfl))))))) dX11_cents_39 ?_
      refine lv_iload_n hx hb dX11_cents_42 rfl (lv_at hl 1 rfl) ?_
      refine X_ald_7 C0 hw (by decide) h (k := a1.toNatClampNeg) rfl dX11_cents_43 (fun hk7 h => ?_)
      refine X_g22_1 C0 hw (fun w h => (List.mem_cons_of_mem _ (List.mem_append_left _ (List.mem_append_right _ h)))) hk7 ((List.mem_cons_of_mem _ (List.mem_append_left _ (List.mem_append_left _ (List.mem_append_left _ (List.mem_append_left _ (List.mem_of_getElem? (i := 3) rfl))))))) dX11_cents_44 ?_
      refine lv_iconst (v := 0) hx hb dX11_cents_47 (by decide) ?_
      obtain ⟨⟨v8, t9⟩, hf10, h⟩ := bn_c h
      have h := un2_d h
      refine X_callV C0 hw (As := [.int (7 : Int32), .int a1, .int (gI st 22 (a1.toNatClampNeg) 1), .int (0 : Int32)]) (rest := []) (mX0_note l E hL st hf10) (cwV 4 C0.1.2.2.2.2 gX11_cents_X0_note rfl rfl rfl (by decide +kernel) ⟨Nat.le_of_ble_eq_true rfl, Nat.le_of_ble_eq_true rfl⟩) (X_recv_18 C0 hw (by decide)) rfl hl.1 rfl (Nat.le_of_ble_eq_true rfl) dX11_cents_48 ⟨Nat.zero_le _, Nat.zero_le _⟩ (fun H locs hw => ?_)
      obtain ⟨qf11, qi12⟩ := v8
      have h := un2_d h
      refine W.eq (g2 := F0 m 51 ls (.ref (E.2.2.1 qf11 qi12) :: [])) rfl ?_
      refine lv_pop hx hb dX11_cents_51 rfl ?_
      refine lv_aload_n hx hb dX11_cents_52 rfl (lv_at hl 0 rfl) ?_
      refine X_g0_6 C0 hw (fun w h => (List.mem_cons_of_mem _ (List.mem_append_left _ (List.mem_append_left _ (List.mem_append_right _ h))))) (by decide) ((List.mem_cons_of_mem _ (List.mem_append_left _ (List.mem_append_left _ (List.mem_append_left _ (List.mem_append_left _ (List.mem_of_getElem? (i := 2) rfl))))))) dX11_cents_53 ?_
      refine lv_iload_n hx hb dX11_cents_56 rfl (lv_at hl 1 rfl) ?_
      refine X_ald_7 C0 hw (by decide) h (k := a1.toNatClampNeg) rfl dX11_cents_57 (fun hk13 h => ?_)
      refine lv_iload_n hx hb dX11_cents_58 rfl (lv_at hl 2 rfl) ?_
      refine X_p22_1 hL C0 hw (fun w h => (List.mem_cons_of_mem _ (List.mem_append_left _ (List.mem_append_right _ h)))) hk13 h ((List.mem_cons_of_mem _ (List.mem_append_left _ (List.mem_append_left _ (List.mem_append_left _ (List.mem_append_left _ (List.mem_of_getElem? (i := 3) rfl))))))) dX11_cents_59 (fun t14 H locs hw h => ?_)
      refine lv_aload_n hx hb dX11_cents_62 rfl (lv_at hl 0 rfl) ?_
      obtain ⟨⟨v15, t16⟩, hf17, h⟩ := bn_c h
      have h := un2_d h
      refine X_callV C0 hw (As := []) (rest := []) (mX11_accept l E hL t14 hf17) (cwV 0 C0.1.2.2.2.2 gX11_cents_X11_accept rfl rfl rfl (by decide +kernel) ⟨Nat.le_of_ble_eq_true rfl, Nat.le_of_ble_eq_true rfl⟩) (X_recv_0 C0 hw (by decide)) rfl hl.1 rfl (Nat.le_of_ble_eq_true rfl) dX11_cents_63 ⟨Nat.zero_le _, Nat.zero_le _⟩ (fun H locs hw => ?_)
      refine W.eq (g2 := F0 m 66 ls [.int v15]) rfl ?_
      obtain ⟨hz, h⟩ := ck_c h
      cases h
      exact W.zret hx hb hr (zz hz) (X_fin C0 hw) hw.2.2.2 dX11_cents_66 hlocks
    · have h := ifp h hc6
      refine lv_aload_n hx hb dX11_cents_25 rfl (lv_at hl 0 rfl) ?_
      refine lv_iconst (v := 3) hx hb dX11_cents_26 (by decide) ?_
      obtain ⟨⟨v18, t19⟩, hf20, h⟩ := bn_c h
      have h := un2_d h
      refine X_callV C0 hw (As := [.int (3 : Int32)]) (rest := []) (mX11_denied l E hL st hf20) (cwV 1 C0.1.2.2.2.2 gX11_cents_X11_denied rfl rfl rfl (by decide +kernel) ⟨Nat.le_of_ble_eq_true rfl, Nat.le_of_ble_eq_true rfl⟩) (X_recv_0 C0 hw (by decide)) rfl hl.1 rfl (Nat.le_of_ble_eq_true rfl) dX11_cents_27 ⟨Nat.zero_le _, Nat.zero_le _⟩ (fun H locs hw => ?_)
      refine W.eq (g2 := F0 m 30 ls [.int v18]) rfl ?_
      obtain ⟨hz, h⟩ := ck_c h
      cases h
      exact W.zret hx hb hr (zz hz) (X_fin C0 hw) hw.2.2.2 dX11_cents_30 hlocks
  · have h := ifp h hc3
    refine lv_aload_n hx hb dX11_cents_9 rfl (lv_at hl 0 rfl) ?_
    refine lv_iconst (v := 2) hx hb dX11_cents_10 (by decide) ?_
    obtain ⟨⟨v21, t22⟩, hf23, h⟩ := bn_c h
    have h := un2_d h
    refine X_callV C0 hw (As := [.int (2 : Int32)]) (rest := []) (mX11_denied l E hL st hf23) (cwV 1 C0.1.2.2.2.2 gX11_cents_X11_denied rfl rfl rfl (by decide +kernel) ⟨Nat.le_of_ble_eq_true rfl, Nat.le_of_ble_eq_true rfl⟩) (X_recv_0 C0 hw (by decide)) rfl hl.1 rfl (Nat.le_of_ble_eq_true rfl) dX11_cents_11 ⟨Nat.zero_le _, Nat.zero_le _⟩ (fun H locs hw => ?_)
    refine W.eq (g2 := F0 m 14 ls [.int v21]) rfl ?_
    obtain ⟨hz, h⟩ := ck_c h
    cases h
    exact W.zret hx hb hr (zz hz) (X_fin C0 hw) hw.2.2.2 dX11_cents_14 hlocks

def fX11_driftOf (a1 : Int32) (st : Sto) : Option (Option (Nat × Nat)) :=
  (fX11_isThere (0 : Int32) a1 st).bind (fun (v1 : Int32) =>
   if v1 = 0 then (
    some none) else (
    ck (0 ≤ a1.toInt ∧ a1.toInt < (40 : Int)) (
     some (some (21, a1.toNatClampNeg)))))
set_option maxHeartbeats 4000000 in
set_option maxRecDepth 100000 in
theorem mX11_driftOf (l : Launch) (E : XE) (hL : LX E) (st : Sto) {a1 : Int32} {r : (Option (Nat × Nat))} (h : fX11_driftOf a1 st = some r) : Met l yX11_driftOf wsX11_driftOf ({ frames := 1, cells := 0, slots := 0, locals := 22 }) (va_Pc [.ref (E.2.2.1 0 (0)), .int a1] (RX E st)) (QX E (some (rfv E r)) st) 0 0 E.2.2.2 := by
  refine Met.ofW (cc := cX11_driftOf) (maxL := 2) (ret := (some (.array .float))) (by decide) rfl ?_
  intro p e s m args below meth c s₁ B hml hv
  obtain ⟨rfl, hP, hK⟩ := hv
  have hown : s.vm.findClass RX11 = some m.cls := findClass_of_methodNamed B.named
  have C0 : CX p m c cX11_driftOf 2 s _ wsX11_driftOf RX11 E := ⟨⟨B.exec, B.bytes, hml, hown, atoms_spec (ws := wsX11_driftOf) B.pre⟩, hK⟩
  have hx := B.exec
  have hb := B.bytes
  have hr := B.returns
  have hlocks := B.notSynchronized
  have hw : SX E s st s.heap [] := ⟨hP, va_S.rf⟩
  have hl := lv_entry ([.ref (E.2.2.1 0 (0)), .int a1]) (n := 2) (Nat.le_of_ble_eq_true rfl)
  rw [lg_entry_eq]
  generalize (lg_sl ([.ref (E.2.2.1 0 (0)), .int a1]) ++ List.replicate (2 - (lg_sl ([.ref (E.2.2.1 0 (0)), .int a1])).length) Slot.unset).toArray = ls at hl ⊢
  have hl : lv_has ls 2 [(0, .ref (E.2.2.1 0 (0))), (1, .int a1)] := hl
  unfold fX11_driftOf at h
  refine lv_aload_n hx hb dX11_driftOf_0 rfl (lv_at hl 0 rfl) ?_
  refine lv_iconst (v := 0) hx hb dX11_driftOf_1 (by decide) ?_
  refine lv_iload_n hx hb dX11_driftOf_2 rfl (lv_at hl 1 rfl) ?_
  obtain ⟨v1, hf2, h⟩ := bn_c h
  refine X_callV C0 hw (As := [.int (0 : Int32), .int a1]) (rest := []) (mX11_isThere l E hL st hf2) (cwV 2 C0.1.2.2.2.2 gX11_driftOf_X11_isThere rfl rfl rfl (by decide +kernel) ⟨Nat.le_of_ble_eq_true rfl, Nat.le_of_ble_eq_true rfl⟩) (X_recv_0 C0 hw (by decide)) rfl hl.1 rfl (Nat.le_of_ble_eq_true rfl) dX11_driftOf_3 ⟨Nat.zero_le _, Nat.zero_le _⟩ (fun H locs hw => ?_)
  refine W.eq (g2 := F0 m 6 ls [.int v1]) rfl ?_
  refine lv_if_eq (tgt := 21) hx hb dX11_driftOf_6 (by decide) (fun hc3 => ?_) (fun hc3 => ?_)
  · have h := ifp h hc3
    refine lv_null hx hb dX11_driftOf_21 ?_
    cases h
    exact W.aret hx hb hr (Or.inr ⟨_, rfl⟩) (Or.inl rfl) (X_fin C0 hw) hw.2.2.2 dX11_driftOf_22 hlocks
  · have h := ifn h hc3
    refine lv_aload_n hx hb dX11_driftOf_9 rfl (lv_at hl 0 rfl) ?_
    refine X_g0_4 C0 hw (fun w h => (List.mem_cons_of_mem _ (List.mem_append_left _ (List.mem_append_right _ h)))) (by decide) ((List.mem_cons_of_mem _ (List.mem_append_left _ (List.mem_append_left _ (List.mem_of_getElem? (i := 0) rfl))))) dX11_driftOf_10 ?_
    refine lv_iload_n hx hb dX11_driftOf_13 rfl (lv_at hl 1 rfl) ?_
    refine X_ald_4 C0 hw (by decide) h (k := a1.toNatClampNeg) rfl dX11_driftOf_14 (fun hk4 h => ?_)
    refine X_g19_1 C0 hw (fun w h => (List.mem_cons_of_mem _ (List.mem_append_right _ h))) hk4 ((List.mem_cons_of_mem _ (List.mem_append_left _ (List.mem_append_left _ (List.mem_of_getElem? (i := 1) rfl))))) dX11_driftOf_15 ?_
    refine lv_goto (tgt := 22) hx hb dX11_driftOf_18 (by decide) ?_
    cases h
    exact W.aret hx hb hr (Or.inr ⟨_, rfl⟩) (Or.inr ⟨_, rfl⟩) (X_fin C0 hw) hw.2.2.2 dX11_driftOf_22 hlocks

def fX11_spectrumOf (a1 : Int32) (a2 : Int32) (st : Sto) : Option (Option (Nat × Nat)) :=
  if a1 = 0 then (
   some (some (1, 0))) else if a1 = 1 then (
   (fX11_isThere (0 : Int32) a2 st).bind (fun (v1 : Int32) =>
    if v1 = 0 then (
     some none) else (
     ck (0 ≤ a2.toInt ∧ a2.toInt < (40 : Int)) (
      some (some (20, a2.toNatClampNeg)))))) else if a1 = 2 then (
   (fX11_isThere (1 : Int32) a2 st).bind (fun (v5 : Int32) =>
    if v5 = 0 then (
     some none) else (
     ck (0 ≤ a2.toInt ∧ a2.toInt < (8 : Int)) (
      some (some (6, a2.toNatClampNeg)))))) else if a1 = 3 then (
   if gI st 0 (0) 2 = 0 then (
    some none) else (
    some (some (2, 0)))) else if a1 = 4 then (
   some none) else if a1 = 5 then (
   (fX11_isThere (5 : Int32) a2 st).bind (fun (v10 : Int32) =>
    if v10 = 0 then (
     some none) else (
     ck (0 ≤ a2.toInt ∧ a2.toInt < (12 : Int)) (
      if gI st 30 (a2.toNatClampNeg) 5 = 0 then (
       some none) else (
       ck (0 ≤ a2.toInt ∧ a2.toInt < (12 : Int)) (
        some (some (33, a2.toNatClampNeg)))))))) else (
   some none)
set_option maxHeartbeats 4000000 in
set_option maxRecDepth 100000 in
theorem mX11_spectrumOf (l : Launch) (E : XE) (hL : LX E) (st : Sto) {a1 : Int32} {a2 : Int32} {r : (Option (Nat × Nat))} (h : fX11_spectrumOf a1 a2 st = some r) : Met l yX11_spectrumOf wsX11_spectrumOf ({ frames := 1, cells := 0, slots := 0, locals := 22 }) (va_Pc [.ref (E.2.2.1 0 (0)), .int a1, .int a2] (RX E st)) (QX E (some (rfv E r)) st) 0 0 E.2.2.2 := by
  refine Met.ofW (cc := cX11_spectrumOf) (maxL := 3) (ret := (some (.array .float))) (by decide) rfl ?_
  intro p e s m args below meth c s₁ B hml hv
  obtain ⟨rfl, hP, hK⟩ := hv
  have hown : s.vm.findClass RX11 = some m.cls := findClass_of_methodNamed B.named
  have C0 : CX p m c cX11_spectrumOf 3 s _ wsX11_spectrumOf RX11 E := ⟨⟨B.exec, B.bytes, hml, hown, atoms_spec (ws := wsX11_spectrumOf) B.pre⟩, hK⟩
  have hx := B.exec
  have hb := B.bytes
  have hr := B.returns
  have hlocks := B.notSynchronized
  have hw : SX E s st s.heap [] := ⟨hP, va_S.rf⟩
  have hl := lv_entry ([.ref (E.2.2.1 0 (0)), .int a1, .int a2]) (n := 3) (Nat.le_of_ble_eq_true rfl)
  rw [lg_entry_eq]
  generalize (lg_sl ([.ref (E.2.2.1 0 (0)), .int a1, .int a2]) ++ List.replicate (3 - (lg_sl ([.ref (E.2.2.1 0 (0)), .int a1, .int a2])).length) Slot.unset).toArray = ls at hl ⊢
  have hl : lv_has ls 3 [(0, .ref (E.2.2.1 0 (0))), (1, .int a1), (2, .int a2)] := hl
  unfold fX11_spectrumOf at h
  refine lv_iload_n hx hb dX11_spectrumOf_0 rfl (lv_at hl 1 rfl) ?_
  by_cases hc0 : a1 = 0
  · have h := ifp h hc0
    refine lv_tableIn (tgt := 40) hx hb dX11_spectrumOf_1 (by rw [hc0]; decide) (by rw [hc0]; decide) (by rw [hc0]; rfl) (by decide) ?_
    refine lv_aload_n hx hb dX11_spectrumOf_40 rfl (lv_at hl 0 rfl) ?_
    refine X_g0_0 C0 hw (fun w h => (List.mem_cons_of_mem _ (List.mem_append_left _ (List.mem_append_left _ (List.mem_append_right _ h))))) (by decide) ((List.mem_cons_of_mem _ (List.mem_append_left _ (List.mem_append_left _ (List.mem_append_left _ (List.mem_of_getElem? (i := 0) rfl)))))) dX11_spectrumOf_41 ?_
    cases h
    exact W.aret hx hb hr (Or.inr ⟨_, rfl⟩) (Or.inr ⟨_, rfl⟩) (X_fin C0 hw) hw.2.2.2 dX11_spectrumOf_44 hlocks
  have h := ifn h hc0
  by_cases hc1 : a1 = 1
  · have h := ifp h hc1
    refine lv_tableIn (tgt := 45) hx hb dX11_spectrumOf_1 (by rw [hc1]; decide) (by rw [hc1]; decide) (by rw [hc1]; rfl) (by decide) ?_
    refine lv_aload_n hx hb dX11_spectrumOf_45 rfl (lv_at hl 0 rfl) ?_
    refine lv_iconst (v := 0) hx hb dX11_spectrumOf_46 (by decide) ?_
    refine lv_iload_n hx hb dX11_spectrumOf_47 rfl (lv_at hl 2 rfl) ?_
    obtain ⟨v1, hf2, h⟩ := bn_c h
    refine X_callV C0 hw (As := [.int (0 : Int32), .int a2]) (rest := []) (mX11_isThere l E hL st hf2) (cwV 2 C0.1.2.2.2.2 gX11_spectrumOf_X11_isThere rfl rfl rfl (by decide +kernel) ⟨Nat.le_of_ble_eq_true rfl, Nat.le_of_ble_eq_true rfl⟩) (X_recv_0 C0 hw (by decide)) rfl hl.1 rfl (Nat.le_of_ble_eq_true rfl) dX11_spectrumOf_48 ⟨Nat.zero_le _, Nat.zero_le _⟩ (fun H locs hw => ?_)
    refine W.eq (g2 := F0 m 51 ls [.int v1]) rfl ?_
    refine lv_if_eq (tgt := 66) hx hb dX11_spectrumOf_51 (by decide) (fun hc3 => ?_) (fun hc3 => ?_)
    · have h := ifp h hc3
      refine lv_null hx hb dX11_spectrumOf_66 ?_
      cases h
      exact W.aret hx hb hr (Or.inr ⟨_, rfl⟩) (Or.inl rfl) (X_fin C0 hw) hw.2.2.2 dX11_spectrumOf_67 hlocks
    · have h := ifn h hc3
      refine lv_aload_n hx hb dX11_spectrumOf_54 rfl (lv_at hl 0 rfl) ?_
      refine X_g0_4 C0 hw (fun w h => (List.mem_cons_of_mem _ (List.mem_append_left _ (List.mem_append_left _ (List.mem_append_right _ h))))) (by decide) ((List.mem_cons_of_mem _ (List.mem_append_left _ (List.mem_append_left _ (List.mem_append_left _ (List.mem_of_getElem? (i := 1) rfl)))))) dX11_spectrumOf_55 ?_
      refine lv_iload_n hx hb dX11_spectrumOf_58 rfl (lv_at hl 2 rfl) ?_
      refine X_ald_4 C0 hw (by decide) h (k := a2.toNatClampNeg) rfl dX11_spectrumOf_59 (fun hk4 h => ?_)
      refine X_g19_0 C0 hw (fun w h => (List.mem_cons_of_mem _ (List.mem_append_left _ (List.mem_append_right _ h)))) hk4 ((List.mem_cons_of_mem _ (List.mem_append_left _ (List.mem_append_left _ (List.mem_append_left _ (List.mem_of_getElem? (i := 2) rfl)))))) dX11_spectrumOf_60 ?_
      refine lv_goto (tgt := 67) hx hb dX11_spectrumOf_63 (by decide) ?_
      cases h
      exact W.aret hx hb hr (Or.inr ⟨_, rfl⟩) (Or.inr ⟨_, rfl⟩) (X_fin C0 hw) hw.2.2.2 dX11_spectrumOf_67 hlocks
  have h := ifn h hc1
  by_cases hc2 : a1 = 2
  · have h := ifp h hc2
    refine lv_tableIn (tgt := 68) hx hb dX11_spectrumOf_1 (by rw [hc2]; decide) (by rw [hc2]; decide) (by rw [hc2]; rfl) (by decide) ?_
    refine lv_aload_n hx hb dX11_spectrumOf_68 rfl (lv_at hl 0 rfl) ?_
    refine lv_iconst (v := 1) hx hb dX11_spectrumOf_69 (by decide) ?_
    refine lv_iload_n hx hb dX11_spectrumOf_70 rfl (lv_at hl 2 rfl) ?_
    obtain ⟨v5, hf6, h⟩ := bn_c h
    refine X_callV C0 hw (As := [.int (1 : Int32), .int a2]) (rest := []) (mX11_isThere l E hL st hf6) (cwV 2 C0.1.2.2.2.2 gX11_spectrumOf_X11_isThere rfl rfl rfl (by decide +kernel) ⟨Nat.le_of_ble_eq_true rfl, Nat.le_of_ble_eq_true rfl⟩) (X_recv_0 C0 hw (by decide)) rfl hl.1 rfl (Nat.le_of_ble_eq_true rfl) dX11_spectrumOf_71 ⟨Nat.zero_le _, Nat.zero_le _⟩ (fun H locs hw => ?_)
    refine W.eq (g2 := F0 m 74 ls [.int v5]) rfl ?_
    refine lv_if_eq (tgt := 86) hx hb dX11_spectrumOf_74 (by decide) (fun hc7 => ?_) (fun hc7 => ?_)
    · have h := ifp h hc7
      refine lv_null hx hb dX11_spectrumOf_86 ?_
      cases h
      exact W.aret hx hb hr (Or.inr ⟨_, rfl⟩) (Or.inl rfl) (X_fin C0 hw) hw.2.2.2 dX11_spectrumOf_87 hlocks
    · have h := ifn h hc7
      refine lv_aload_n hx hb dX11_spectrumOf_77 rfl (lv_at hl 0 rfl) ?_
      refine X_g0_5 C0 hw (fun w h => (List.mem_cons_of_mem _ (List.mem_append_left _ (List.mem_append_left _ (List.mem_append_right _ h))))) (by decide) ((List.mem_cons_of_mem _ (List.mem_append_left _ (List.mem_append_left _ (List.mem_append_left _ (List.mem_of_getElem? (i := 3) rfl)))))) dX11_spectrumOf_78 ?_
      refine lv_iload_n hx hb dX11_spectrumOf_81 rfl (lv_at hl 2 rfl) ?_
      refine X_ald_5 C0 hw (by decide) h (k := a2.toNatClampNeg) rfl dX11_spectrumOf_82 (fun hk8 h => ?_)
      refine lv_goto (tgt := 87) hx hb dX11_spectrumOf_83 (by decide) ?_
      cases h
      exact W.aret hx hb hr (Or.inr ⟨_, rfl⟩) (Or.inr ⟨_, rfl⟩) (X_fin C0 hw) hw.2.2.2 dX11_spectrumOf_87 hlocks
  have h := ifn h hc2
  by_cases hc3 : a1 = 3
  · have h := ifp h hc3
    refine lv_tableIn (tgt := 88) hx hb dX11_spectrumOf_1 (by rw [hc3]; decide) (by rw [hc3]; decide) (by rw [hc3]; rfl) (by decide) ?_
    refine lv_aload_n hx hb dX11_spectrumOf_88 rfl (lv_at hl 0 rfl) ?_
    refine X_g0_2 C0 hw (fun w h => (List.mem_cons_of_mem _ (List.mem_append_left _ (List.mem_append_left _ (List.mem_append_right _ h))))) (by decide) ((List.mem_cons_of_mem _ (List.mem_append_left _ (List.mem_append_left _ (List.mem_append_left _ (List.mem_of_getElem? (i := 4) rfl)))))) dX11_spectrumOf_89 ?_
    refine lv_if_eq (tgt := 102) hx hb dX11_spectrumOf_92 (by decide) (fun hc9 => ?_) (fun hc9 => ?_)
    · have h := ifp h hc9
      refine lv_null hx hb dX11_spectrumOf_102 ?_
      cases h
      exact W.aret hx hb hr (Or.inr ⟨_, rfl⟩) (Or.inl rfl) (X_fin C0 hw) hw.2.2.2 dX11_spectrumOf_103 hlocks
    · have h := ifn h hc9
      refine lv_aload_n hx hb dX11_spectrumOf_95 rfl (lv_at hl 0 rfl) ?_
      refine X_g0_1 C0 hw (fun w h => (List.mem_cons_of_mem _ (List.mem_append_left _ (List.mem_append_left _ (List.mem_append_right _ h))))) (by decide) ((List.mem_cons_of_mem _ (List.mem_append_left _ (List.mem_append_left _ (List.mem_append_left _ (List.mem_of_getElem? (i := 5) rfl)))))) dX11_spectrumOf_96 ?_
      refine lv_goto (tgt := 103) hx hb dX11_spectrumOf_99 (by decide) ?_
      cases h
      exact W.aret hx hb hr (Or.inr ⟨_, rfl⟩) (Or.inr ⟨_, rfl⟩) (X_fin C0 hw) hw.2.2.2 dX11_spectrumOf_103 hlocks
  have h := ifn h hc3
  by_cases hc4 : a1 = 4
  · have h := ifp h hc4
    refine lv_tableIn (tgt := 139) hx hb dX11_spectrumOf_1 (by rw [hc4]; decide) (by rw [hc4]; decide) (by rw [hc4]; rfl) (by decide) ?_
    refine lv_null hx hb dX11_spectrumOf_139 ?_
    cases h
    exact W.aret hx hb hr (Or.inr ⟨_, rfl⟩) (Or.inl rfl) (X_fin C0 hw) hw.2.2.2 dX11_spectrumOf_140 hlocks
  have h := ifn h hc4
  by_cases hc5 : a1 = 5
  · have h := ifp h hc5
    refine lv_tableIn (tgt := 104) hx hb dX11_spectrumOf_1 (by rw [hc5]; decide) (by rw [hc5]; decide) (by rw [hc5]; rfl) (by decide) ?_
    refine lv_aload_n hx hb dX11_spectrumOf_104 rfl (lv_at hl 0 rfl) ?_
    refine lv_iconst (v := 5) hx hb dX11_spectrumOf_105 (by decide) ?_
    refine lv_iload_n hx hb dX11_spectrumOf_106 rfl (lv_at hl 2 rfl) ?_
    obtain ⟨v10, hf11, h⟩ := bn_c h
    refine X_callV C0 hw (As := [.int (5 : Int32), .int a2]) (rest := []) (mX11_isThere l E hL st hf11) (cwV 2 C0.1.2.2.2.2 gX11_spectrumOf_X11_isThere rfl rfl rfl (by decide +kernel) ⟨Nat.le_of_ble_eq_true rfl, Nat.le_of_ble_eq_true rfl⟩) (X_recv_0 C0 hw (by decide)) rfl hl.1 rfl (Nat.le_of_ble_eq_true rfl) dX11_spectrumOf_107 ⟨Nat.zero_le _, Nat.zero_le _⟩ (fun H locs hw => ?_)
    refine W.eq (g2 := F0 m 110 ls [.int v10]) rfl ?_
    refine lv_if_eq (tgt := 137) hx hb dX11_spectrumOf_110 (by decide) (fun hc12 => ?_) (fun hc12 => ?_)
    · have h := ifp h hc12
      refine lv_null hx hb dX11_spectrumOf_137 ?_
      cases h
      exact W.aret hx hb hr (Or.inr ⟨_, rfl⟩) (Or.inl rfl) (X_fin C0 hw) hw.2.2.2 dX11_spectrumOf_138 hlocks
    · have h := ifn h hc12
      refine lv_aload_n hx hb dX11_spectrumOf_113 rfl (lv_at hl 0 rfl) ?_
      refine X_g0_9 C0 hw (fun w h => (List.mem_cons_of_mem _ (List.mem_append_left _ (List.mem_append_left _ (List.mem_append_right _ h))))) (by decide) ((List.mem_cons_of_mem _ (List.mem_append_left _ (List.mem_append_left _ (List.mem_append_left _ (List.mem_of_getElem? (i := 6) rfl)))))) dX11_spectrumOf_114 ?_
      refine lv_iload_n hx hb dX11_spectrumOf_117 rfl (lv_at hl 2 rfl) ?_
      refine X_ald_10 C0 hw (by decide) h (k := a2.toNatClampNeg) rfl dX11_spectrumOf_118 (fun hk13 h => ?_)
      refine X_g30_5 C0 hw (fun w h => (List.mem_cons_of_mem _ (List.mem_append_right _ h))) hk13 ((List.mem_cons_of_mem _ (List.mem_append_left _ (List.mem_append_left _ (List.mem_append_left _ (List.mem_of_getElem? (i := 7) rfl)))))) dX11_spectrumOf_119 ?_
      refine lv_if_eq (tgt := 137) hx hb dX11_spectrumOf_122 (by decide) (fun hc14 => ?_) (fun hc14 => ?_)
      · have h := ifp h hc14
        refine lv_null hx hb dX11_spectrumOf_137 ?_
        cases h
        exact W.aret hx hb hr (Or.inr ⟨_, rfl⟩) (Or.inl rfl) (X_fin C0 hw) hw.2.2.2 dX11_spectrumOf_138 hlocks
      · have h := ifn h hc14
        refine lv_aload_n hx hb dX11_spectrumOf_125 rfl (lv_at hl 0 rfl) ?_
        refine X_g0_9 C0 hw (fun w h => (List.mem_cons_of_mem _ (List.mem_append_left _ (List.mem_append_left _ (List.mem_append_right _ h))))) (by decide) ((List.mem_cons_of_mem _ (List.mem_append_left _ (List.mem_append_left _ (List.mem_append_left _ (List.mem_of_getElem? (i := 6) rfl)))))) dX11_spectrumOf_126 ?_
        refine lv_iload_n hx hb dX11_spectrumOf_129 rfl (lv_at hl 2 rfl) ?_
        refine X_ald_10 C0 hw (by decide) h (k := a2.toNatClampNeg) rfl dX11_spectrumOf_130 (fun hk15 h => ?_)
        refine X_g30_6 C0 hw (fun w h => (List.mem_cons_of_mem _ (List.mem_append_right _ h))) hk15 ((List.mem_cons_of_mem _ (List.mem_append_left _ (List.mem_append_left _ (List.mem_append_left _ (List.mem_of_getElem? (i := 8) rfl)))))) dX11_spectrumOf_131 ?_
        refine lv_goto (tgt := 138) hx hb dX11_spectrumOf_134 (by decide) ?_
        cases h
        exact W.aret hx hb hr (Or.inr ⟨_, rfl⟩) (Or.inr ⟨_, rfl⟩) (X_fin C0 hw) hw.2.2.2 dX11_spectrumOf_138 hlocks
  have h := ifn h hc5
  refine lv_tableOut (tgt := 139) hx hb dX11_spectrumOf_1 (by have := sw_ne (n := 0) hc0 (by decide); have := sw_ne (n := 1) hc1 (by decide); have := sw_ne (n := 2) hc2 (by decide); have := sw_ne (n := 3) hc3 (by decide); have := sw_ne (n := 4) hc4 (by decide); have := sw_ne (n := 5) hc5 (by decide); omega) (by decide) ?_
  refine lv_null hx hb dX11_spectrumOf_139 ?_
  cases h
  exact W.aret hx hb hr (Or.inr ⟨_, rfl⟩) (Or.inl rfl) (X_fin C0 hw) hw.2.2.2 dX11_spectrumOf_140 hlocks
