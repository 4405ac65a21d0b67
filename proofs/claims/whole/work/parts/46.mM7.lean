def fX12_addition (a1 : Int32) (st : Sto) : Option (Int32 × Sto) :=
  lt1 (sI st 0 (0) 10 (0 : Int32)) fun (t1 : Sto) =>
  if gI t1 0 (0) 71 = 0 then (
   some ((-1 : Int32), t1)) else (
   (fX12_is a1 (6 : Int32)).bind (fun (v3 : Int32) =>
    if v3 = 0 then (
     some ((-1 : Int32), t1)) else (
     ck (0 ≤ a1.toInt ∧ a1.toInt < (lIM (70) (0) : Int)) (
      some (gI t1 (70) (0) (a1.toNatClampNeg), t1)))))
set_option maxHeartbeats 4000000 in
set_option maxRecDepth 100000 in
theorem mX12_addition (l : Launch) (E : XE) (hL : LM E) (st : Sto) {a1 : Int32} {r : Int32} {st1 : Sto} (h : fX12_addition a1 st = some (r, st1)) : Met l yX12_addition wsX12_addition ({ frames := 1, cells := 0, slots := 0, locals := 22 }) (va_Pc [.ref (E.2.2.1 0 (0)), .int a1] (RM E st)) (QM E (some (.int r)) st1) 0 0 E.2.2.2 := by
  refine Met.ofW (cc := cX12_addition) (maxL := 2) (ret := (some .int)) (by decide) rfl ?_
  intro p e s m args below meth c s₁ B hml hv
  obtain ⟨rfl, hP, hK⟩ := hv
  have hown : s.vm.findClass RX12 = some m.cls := findClass_of_methodNamed B.named
  have C0 : CX p m c cX12_addition 2 s _ wsX12_addition RX12 E := ⟨⟨B.exec, B.bytes, hml, hown, atoms_spec (ws := wsX12_addition) B.pre⟩, hK⟩
  have hx := B.exec
  have hb := B.bytes
  have hr := B.returns
  have hlocks := B.notSynchronized
  have hw : SM E s st s.heap [] := ⟨hP, va_S.rf⟩
  have hl := lv_entry ([.ref (E.2.2.1 0 (0)), .int a1]) (n := 2) (Nat.le_of_ble_eq_true rfl)
  rw [lg_entry_eq]
  generalize (lg_sl ([.ref (E.2.2.1 0 (0)), .int a1]) ++ List.replicate (2 - (lg_sl ([.ref (E.2.2.1 0 (0)), .int a1])).length) Slot.unset).toArray = ls at hl ⊢
  have hl : lv_has ls 2 [(0, .ref (E.2.2.1 0 (0))), (1, .int a1)] := hl
  unfold fX12_addition at h
  refine lv_aload_n hx hb dX12_addition_0 rfl (lv_at hl 0 rfl) ?_
  refine lv_iconst (v := 0) hx hb dX12_addition_1 (by decide) ?_
  refine M_p0_10 hL C0 hw (fun w h => (List.mem_cons_of_mem _ (List.mem_append_right _ h))) (by decide) h ((List.mem_cons_of_mem _ (List.mem_append_left _ (List.mem_of_getElem? (i := 0) rfl)))) dX12_addition_2 (fun t1 H locs hw h => ?_)
  refine lv_aload_n hx hb dX12_addition_5 rfl (lv_at hl 0 rfl) ?_
  refine M_g0_71 C0 hw (fun w h => (List.mem_cons_of_mem _ (List.mem_append_right _ h))) (by decide) ((List.mem_cons_of_mem _ (List.mem_append_left _ (List.mem_of_getElem? (i := 1) rfl)))) dX12_addition_6 ?_
  refine lv_if_eq (tgt := 31) hx hb dX12_addition_9 (by decide) (fun hc2 => ?_) (fun hc2 => ?_)
  · have h := ifp h hc2
    refine lv_iconst (v := -1) hx hb dX12_addition_31 (by decide) ?_
    cases h
    exact W.iret hx hb hr (M_fin C0 hw) hw.2.2.2 dX12_addition_32 hlocks
  · have h := ifn h hc2
    refine lv_aload_n hx hb dX12_addition_12 rfl (lv_at hl 0 rfl) ?_
    refine lv_iload_n hx hb dX12_addition_13 rfl (lv_at hl 1 rfl) ?_
    refine lv_bipush (v := 6) hx hb dX12_addition_14 (by decide) ?_
    obtain ⟨v3, hf4, h⟩ := bn_c h
    refine M_callV C0 hw (As := [.int a1, .int (6 : Int32)]) (rest := []) (mX12_is l E hL t1 hf4) (cwV 2 C0.1.2.2.2.2 gX12_addition_X12_is rfl rfl rfl (by decide +kernel) ⟨Nat.le_of_ble_eq_true rfl, Nat.le_of_ble_eq_true rfl⟩) (M_recv_0 C0 hw (by decide)) rfl hl.1 rfl (Nat.le_of_ble_eq_true rfl) dX12_addition_16 ⟨Nat.zero_le _, Nat.zero_le _⟩ (fun H locs hw => ?_)
    refine W.eq (g2 := F0 m 19 ls [.int v3]) rfl ?_
    refine lv_if_eq (tgt := 31) hx hb dX12_addition_19 (by decide) (fun hc5 => ?_) (fun hc5 => ?_)
    · have h := ifp h hc5
      refine lv_iconst (v := -1) hx hb dX12_addition_31 (by decide) ?_
      cases h
      exact W.iret hx hb hr (M_fin C0 hw) hw.2.2.2 dX12_addition_32 hlocks
    · have h := ifn h hc5
      refine lv_aload_n hx hb dX12_addition_22 rfl (lv_at hl 0 rfl) ?_
      refine M_g0_69 C0 hw (fun w h => (List.mem_cons_of_mem _ (List.mem_append_right _ h))) (by decide) ((List.mem_cons_of_mem _ (List.mem_append_left _ (List.mem_of_getElem? (i := 2) rfl)))) dX12_addition_23 ?_
      refine lv_iload_n hx hb dX12_addition_26 rfl (lv_at hl 1 rfl) ?_
      refine M_iald C0 hw h (k := a1.toNatClampNeg) rfl dX12_addition_27 (fun h => ?_)
      refine lv_goto (tgt := 32) hx hb dX12_addition_28 (by decide) ?_
      cases h
      exact W.iret hx hb hr (M_fin C0 hw) hw.2.2.2 dX12_addition_32 hlocks

def fX12_measured (a1 : Int32) (st : Sto) : Option (Int32 × Sto) :=
  lt1 (sI st 0 (0) 10 (0 : Int32)) fun (t1 : Sto) =>
  (fX12_is a1 (gI t1 0 (0) 7)).bind (fun (v2 : Int32) =>
   if v2 = 0 then (
    (fX12_not (2 : Int32) t1).bind (un2 fun (v17 : Int32) (t18 : Sto) =>
     ck (v17 &&& 1 = v17) (
      some (v17, t18)))) else (
    ck (0 ≤ a1.toInt ∧ a1.toInt < (lZM (26) (0) : Int)) (
     jn (fun (v8 : Int32) =>
      (fX12_act (9 : Int32) a1 v8 (0 : Int32) t1).bind (fun (t9 : Sto) =>
       (fX12_note ((50 : Int32) + a1) (-1 : Int32) t9).bind (fun (t11 : Sto) =>
        (fX12_copy (0 : Int32) ((50 : Int32) + a1) t11).bind (fun (t13 : Sto) =>
         ck (0 ≤ a1.toInt ∧ a1.toInt < (lZM (26) (0) : Int)) (lt1 (sI t13 (26) (0) (a1.toNatClampNeg) (vp_nar .boolean (1 : Int32))) fun (t15 : Sto) =>
          some ((1 : Int32), t15)))))) fun K5 =>
     if gI t1 (26) (0) (a1.toNatClampNeg) = 0 then (
      K5 (0 : Int32)) else (
      K5 (1 : Int32)))))
set_option maxHeartbeats 4000000 in
set_option maxRecDepth 100000 in
theorem mX12_measured (l : Launch) (E : XE) (hL : LM E) (st : Sto) {a1 : Int32} {r : Int32} {st1 : Sto} (h : fX12_measured a1 st = some (r, st1)) : Met l yX12_measured wsX12_measured ({ frames := 1, cells := 0, slots := 0, locals := 25 }) (va_Pc [.ref (E.2.2.1 0 (0)), .int a1] (RM E st)) (QM E (some (.int r)) st1) 0 0 E.2.2.2 := by
  refine Met.ofW (cc := cX12_measured) (maxL := 2) (ret := (some .boolean)) (by decide) rfl ?_
  intro p e s m args below meth c s₁ B hml hv
  obtain ⟨rfl, hP, hK⟩ := hv
  have hown : s.vm.findClass RX12 = some m.cls := findClass_of_methodNamed B.named
  have C0 : CX p m c cX12_measured 2 s _ wsX12_measured RX12 E := ⟨⟨B.exec, B.bytes, hml, hown, atoms_spec (ws := wsX12_measured) B.pre⟩, hK⟩
  have hx := B.exec
  have hb := B.bytes
  have hr := B.returns
  have hlocks := B.notSynchronized
  have hw : SM E s st s.heap [] := ⟨hP, va_S.rf⟩
  have hl := lv_entry ([.ref (E.2.2.1 0 (0)), .int a1]) (n := 2) (Nat.le_of_ble_eq_true rfl)
  rw [lg_entry_eq]
  generalize (lg_sl ([.ref (E.2.2.1 0 (0)), .int a1]) ++ List.replicate (2 - (lg_sl ([.ref (E.2.2.1 0 (0)), .int a1])).length) Slot.unset).toArray = ls at hl ⊢
  have hl : lv_has ls 2 [(0, .ref (E.2.2.1 0 (0))), (1, .int a1)] := hl
  unfold fX12_measured at h
  refine lv_aload_n hx hb dX12_measured_0 rfl (lv_at hl 0 rfl) ?_
  refine lv_iconst (v := 0) hx hb dX12_measured_1 (by decide) ?_
  refine M_p0_10 hL C0 hw (fun w h => (List.mem_cons_of_mem _ (List.mem_append_right _ h))) (by decide) h ((List.mem_cons_of_mem _ (List.mem_append_left _ (List.mem_append_left _ (List.mem_of_getElem? (i := 0) rfl))))) dX12_measured_2 (fun t1 H locs hw h => ?_)
  refine lv_aload_n hx hb dX12_measured_5 rfl (lv_at hl 0 rfl) ?_
  refine lv_iload_n hx hb dX12_measured_6 rfl (lv_at hl 1 rfl) ?_
  refine lv_aload_n hx hb dX12_measured_7 rfl (lv_at hl 0 rfl) ?_
  refine M_g0_7 C0 hw (fun w h => (List.mem_cons_of_mem _ (List.mem_append_right _ h))) (by decide) ((List.mem_cons_of_mem _ (List.mem_append_left _ (List.mem_append_left _ (List.mem_of_getElem? (i := 1) rfl))))) dX12_measured_8 ?_
  obtain ⟨v2, hf3, h⟩ := bn_c h
  refine M_callV C0 hw (As := [.int a1, .int (gI t1 0 (0) 7)]) (rest := []) (mX12_is l E hL t1 hf3) (cwV 2 C0.1.2.2.2.2 gX12_measured_X12_is rfl rfl rfl (by decide +kernel) ⟨Nat.le_of_ble_eq_true rfl, Nat.le_of_ble_eq_true rfl⟩) (M_recv_0 C0 hw (by decide)) rfl hl.1 rfl (Nat.le_of_ble_eq_true rfl) dX12_measured_11 ⟨Nat.zero_le _, Nat.zero_le _⟩ (fun H locs hw => ?_)
  refine W.eq (g2 := F0 m 14 ls [.int v2]) rfl ?_
  refine lv_if_ne (tgt := 23) hx hb dX12_measured_14 (by decide) (fun hc4 => ?_) (fun hc4 => ?_)
  · have h := ifn h hc4
    refine lv_aload_n hx hb dX12_measured_23 rfl (lv_at hl 0 rfl) ?_
    refine lv_bipush (v := 9) hx hb dX12_measured_24 (by decide) ?_
    refine lv_iload_n hx hb dX12_measured_26 rfl (lv_at hl 1 rfl) ?_
    refine lv_aload_n hx hb dX12_measured_27 rfl (lv_at hl 0 rfl) ?_
    refine M_g0_25 C0 hw (fun w h => (List.mem_cons_of_mem _ (List.mem_append_right _ h))) (by decide) ((List.mem_cons_of_mem _ (List.mem_append_left _ (List.mem_append_left _ (List.mem_of_getElem? (i := 2) rfl))))) dX12_measured_28 ?_
    refine lv_iload_n hx hb dX12_measured_31 rfl (lv_at hl 1 rfl) ?_
    refine M_zald C0 hw h (k := a1.toNatClampNeg) rfl dX12_measured_32 (fun h => ?_)
    refine jn_c h (fun K5 hK7 h => ?_)
    have HJ6 : ∀ (v8 : Int32), K5 v8 = some (r, st1) → ∀ (H : Heap) (locs : List Loc), SM E s t1 H locs → ∀ ls : Array Slot, lv_has ls 2 [(0, .ref (E.2.2.1 0 (0))), (1, .int a1)] → W p l e (headSpec wsX12_measured ({ frames := 1, cells := 0, slots := 0, locals := 25 })).room s m ([.ref (E.2.2.1 0 (0)), .int a1] : List Value).toArray below meth c H locs 0 0 (MQ below (QM E (some (.int r)) st1) ([.ref (E.2.2.1 0 (0)), .int a1] : List Value).toArray s 0 0 E.2.2.2) (F0 m 41 ls [.int v8, .int a1, .int (9 : Int32), .ref (E.2.2.1 0 (0))]) := by
      intro v8 h H locs hw ls hl
      have h := kk1 h hK7
      refine lv_iconst (v := 0) hx hb dX12_measured_41 (by decide) ?_
      obtain ⟨t9, hf10, h⟩ := bn_c h
      refine M_callV C0 hw (As := [.int (9 : Int32), .int a1, .int v8, .int (0 : Int32)]) (rest := []) (mX12_act l E hL t1 hf10) (cwV 4 C0.1.2.2.2.2 gX12_measured_X12_act rfl rfl rfl (by decide +kernel) ⟨Nat.le_of_ble_eq_true rfl, Nat.le_of_ble_eq_true rfl⟩) (M_recv_0 C0 hw (by decide)) rfl hl.1 rfl (Nat.le_of_ble_eq_true rfl) dX12_measured_42 ⟨Nat.zero_le _, Nat.zero_le _⟩ (fun H locs hw => ?_)
      refine W.eq (g2 := F0 m 45 ls []) rfl ?_
      refine lv_aload_n hx hb dX12_measured_45 rfl (lv_at hl 0 rfl) ?_
      refine lv_bipush (v := 50) hx hb dX12_measured_46 (by decide) ?_
      refine lv_iload_n hx hb dX12_measured_48 rfl (lv_at hl 1 rfl) ?_
      refine lv_iadd hx hb dX12_measured_49 ?_
      refine lv_iconst (v := -1) hx hb dX12_measured_50 (by decide) ?_
      obtain ⟨t11, hf12, h⟩ := bn_c h
      refine M_callV C0 hw (As := [.int ((50 : Int32) + a1), .int (-1 : Int32)]) (rest := []) (mX12_note l E hL t9 hf12) (cwV 2 C0.1.2.2.2.2 gX12_measured_X12_note rfl rfl rfl (by decide +kernel) ⟨Nat.le_of_ble_eq_true rfl, Nat.le_of_ble_eq_true rfl⟩) (M_recv_0 C0 hw (by decide)) rfl hl.1 rfl (Nat.le_of_ble_eq_true rfl) dX12_measured_51 ⟨Nat.zero_le _, Nat.zero_le _⟩ (fun H locs hw => ?_)
      refine W.eq (g2 := F0 m 54 ls []) rfl ?_
      refine lv_aload_n hx hb dX12_measured_54 rfl (lv_at hl 0 rfl) ?_
      refine lv_iconst (v := 0) hx hb dX12_measured_55 (by decide) ?_
      refine lv_bipush (v := 50) hx hb dX12_measured_56 (by decide) ?_
      refine lv_iload_n hx hb dX12_measured_58 rfl (lv_at hl 1 rfl) ?_
      refine lv_iadd hx hb dX12_measured_59 ?_
      obtain ⟨t13, hf14, h⟩ := bn_c h
      refine M_callV C0 hw (As := [.int (0 : Int32), .int ((50 : Int32) + a1)]) (rest := []) (mX12_copy l E hL t11 hf14) (cwV 2 C0.1.2.2.2.2 gX12_measured_X12_copy rfl rfl rfl (by decide +kernel) ⟨Nat.le_of_ble_eq_true rfl, Nat.le_of_ble_eq_true rfl⟩) (M_recv_0 C0 hw (by decide)) rfl hl.1 rfl (Nat.le_of_ble_eq_true rfl) dX12_measured_60 ⟨Nat.zero_le _, Nat.zero_le _⟩ (fun H locs hw => ?_)
      refine W.eq (g2 := F0 m 63 ls []) rfl ?_
      refine lv_aload_n hx hb dX12_measured_63 rfl (lv_at hl 0 rfl) ?_
      refine M_g0_25 C0 hw (fun w h => (List.mem_cons_of_mem _ (List.mem_append_right _ h))) (by decide) ((List.mem_cons_of_mem _ (List.mem_append_left _ (List.mem_append_left _ (List.mem_of_getElem? (i := 2) rfl))))) dX12_measured_64 ?_
      refine lv_iload_n hx hb dX12_measured_67 rfl (lv_at hl 1 rfl) ?_
      refine lv_iconst (v := 1) hx hb dX12_measured_68 (by decide) ?_
      refine M_zast hL C0 hw h (k := a1.toNatClampNeg) rfl dX12_measured_69 (fun t15 H locs hw h => ?_)
      refine lv_iconst (v := 1) hx hb dX12_measured_70 (by decide) ?_
      cases h
      exact W.zret hx hb hr rfl (M_fin C0 hw) hw.2.2.2 dX12_measured_71 hlocks
    refine lv_if_eq (tgt := 40) hx hb dX12_measured_33 (by decide) (fun hc16 => ?_) (fun hc16 => ?_)
    · have h := ifp h hc16
      refine lv_iconst (v := 0) hx hb dX12_measured_40 (by decide) ?_
      exact HJ6 _ h _ _ hw _ (lv_sub hl [0, 1] rfl)
    · have h := ifn h hc16
      refine lv_iconst (v := 1) hx hb dX12_measured_36 (by decide) ?_
      refine lv_goto (tgt := 41) hx hb dX12_measured_37 (by decide) ?_
      exact HJ6 _ h _ _ hw _ (lv_sub hl [0, 1] rfl)
  · have h := ifp h hc4
    refine lv_aload_n hx hb dX12_measured_17 rfl (lv_at hl 0 rfl) ?_
    refine lv_iconst (v := 2) hx hb dX12_measured_18 (by decide) ?_
    obtain ⟨⟨v17, t18⟩, hf19, h⟩ := bn_c h
    have h := un2_d h
    refine M_callV C0 hw (As := [.int (2 : Int32)]) (rest := []) (mX12_not l E hL t1 hf19) (cwV 1 C0.1.2.2.2.2 gX12_measured_X12_not rfl rfl rfl (by decide +kernel) ⟨Nat.le_of_ble_eq_true rfl, Nat.le_of_ble_eq_true rfl⟩) (M_recv_0 C0 hw (by decide)) rfl hl.1 rfl (Nat.le_of_ble_eq_true rfl) dX12_measured_19 ⟨Nat.zero_le _, Nat.zero_le _⟩ (fun H locs hw => ?_)
    refine W.eq (g2 := F0 m 22 ls [.int v17]) rfl ?_
    obtain ⟨hz, h⟩ := ck_c h
    cases h
    exact W.zret hx hb hr (zz hz) (M_fin C0 hw) hw.2.2.2 dX12_measured_22 hlocks

def fX12_passes (a1 : Int32) (a2 : Int32) (st : Sto) : Option (Int32 × Sto) :=
  lt1 (sI st 0 (0) 10 (0 : Int32)) fun (t1 : Sto) =>
  (fX12_is a1 (gI t1 0 (0) 7)).bind (fun (v2 : Int32) =>
   if v2 = 0 then (
    some ((-1 : Int32), t1)) else (
    (fX12_is a2 (gI t1 0 (0) 5)).bind (fun (v5 : Int32) =>
     if v5 = 0 then (
      some ((-1 : Int32), t1)) else (
      ck (0 ≤ a1.toInt ∧ a1.toInt < (lZM (26) (0) : Int)) (
       if gI t1 (26) (0) (a1.toNatClampNeg) = 0 then (
        some ((-1 : Int32), t1)) else (
        (fX12_insideOf a2 ((50 : Int32) + a1) t1).bind (fun (v9 : Int32) =>
         if v9 = 0 then (
          some ((0 : Int32), t1)) else (
          some ((1 : Int32), t1)))))))))
set_option maxHeartbeats 4000000 in
set_option maxRecDepth 100000 in
theorem mX12_passes (l : Launch) (E : XE) (hL : LM E) (st : Sto) {a1 : Int32} {a2 : Int32} {r : Int32} {st1 : Sto} (h : fX12_passes a1 a2 st = some (r, st1)) : Met l yX12_passes wsX12_passes ({ frames := 6, cells := 0, slots := 0, locals := 165 }) (va_Pc [.ref (E.2.2.1 0 (0)), .int a1, .int a2] (RM E st)) (QM E (some (.int r)) st1) 0 0 E.2.2.2 := by
  refine Met.ofW (cc := cX12_passes) (maxL := 3) (ret := (some .int)) (by decide) rfl ?_
  intro p e s m args below meth c s₁ B hml hv
  obtain ⟨rfl, hP, hK⟩ := hv
  have hown : s.vm.findClass RX12 = some m.cls := findClass_of_methodNamed B.named
  have C0 : CX p m c cX12_passes 3 s _ wsX12_passes RX12 E := ⟨⟨B.exec, B.bytes, hml, hown, atoms_spec (ws := wsX12_passes) B.pre⟩, hK⟩
  have hx := B.exec
  have hb := B.bytes
  have hr := B.returns
  have hlocks := B.notSynchronized
  have hw : SM E s st s.heap [] := ⟨hP, va_S.rf⟩
  have hl := lv_entry ([.ref (E.2.2.1 0 (0)), .int a1, .int a2]) (n := 3) (Nat.le_of_ble_eq_true rfl)
  rw [lg_entry_eq]
  generalize (lg_sl ([.ref (E.2.2.1 0 (0)), .int a1, .int a2]) ++ List.replicate (3 - (lg_sl ([.ref (E.2.2.1 0 (0)), .int a1, .int a2])).length) Slot.unset).toArray = ls at hl ⊢
  have hl : lv_has ls 3 [(0, .ref (E.2.2.1 0 (0))), (1, .int a1), (2, .int a2)] := hl
  unfold fX12_passes at h
  refine lv_aload_n hx hb dX12_passes_0 rfl (lv_at hl 0 rfl) ?_
  refine lv_iconst (v := 0) hx hb dX12_passes_1 (by decide) ?_
  refine M_p0_10 hL C0 hw (fun w h => (List.mem_cons_of_mem _ (List.mem_append_right _ h))) (by decide) h ((List.mem_cons_of_mem _ (List.mem_append_left _ (List.mem_append_left _ (List.mem_of_getElem? (i := 0) rfl))))) dX12_passes_2 (fun t1 H locs hw h => ?_)
  refine lv_aload_n hx hb dX12_passes_5 rfl (lv_at hl 0 rfl) ?_
  refine lv_iload_n hx hb dX12_passes_6 rfl (lv_at hl 1 rfl) ?_
  refine lv_aload_n hx hb dX12_passes_7 rfl (lv_at hl 0 rfl) ?_
  refine M_g0_7 C0 hw (fun w h => (List.mem_cons_of_mem _ (List.mem_append_right _ h))) (by decide) ((List.mem_cons_of_mem _ (List.mem_append_left _ (List.mem_append_left _ (List.mem_of_getElem? (i := 1) rfl))))) dX12_passes_8 ?_
  obtain ⟨v2, hf3, h⟩ := bn_c h
  refine M_callV C0 hw (As := [.int a1, .int (gI t1 0 (0) 7)]) (rest := []) (mX12_is l E hL t1 hf3) (cwV 2 C0.1.2.2.2.2 gX12_passes_X12_is rfl rfl rfl (by decide +kernel) ⟨Nat.le_of_ble_eq_true rfl, Nat.le_of_ble_eq_true rfl⟩) (M_recv_0 C0 hw (by decide)) rfl hl.1 rfl (Nat.le_of_ble_eq_true rfl) dX12_passes_11 ⟨Nat.zero_le _, Nat.zero_le _⟩ (fun H locs hw => ?_)
  refine W.eq (g2 := F0 m 14 ls [.int v2]) rfl ?_
  refine lv_if_eq (tgt := 38) hx hb dX12_passes_14 (by decide) (fun hc4 => ?_) (fun hc4 => ?_)
  · have h := ifp h hc4
    refine lv_iconst (v := -1) hx hb dX12_passes_38 (by decide) ?_
    cases h
    exact W.iret hx hb hr (M_fin C0 hw) hw.2.2.2 dX12_passes_39 hlocks
  · have h := ifn h hc4
    refine lv_aload_n hx hb dX12_passes_17 rfl (lv_at hl 0 rfl) ?_
    refine lv_iload_n hx hb dX12_passes_18 rfl (lv_at hl 2 rfl) ?_
    refine lv_aload_n hx hb dX12_passes_19 rfl (lv_at hl 0 rfl) ?_
    refine M_g0_5 C0 hw (fun w h => (List.mem_cons_of_mem _ (List.mem_append_right _ h))) (by decide) ((List.mem_cons_of_mem _ (List.mem_append_left _ (List.mem_append_left _ (List.mem_of_getElem? (i := 2) rfl))))) dX12_passes_20 ?_
    obtain ⟨v5, hf6, h⟩ := bn_c h
    refine M_callV C0 hw (As := [.int a2, .int (gI t1 0 (0) 5)]) (rest := []) (mX12_is l E hL t1 hf6) (cwV 2 C0.1.2.2.2.2 gX12_passes_X12_is rfl rfl rfl (by decide +kernel) ⟨Nat.le_of_ble_eq_true rfl, Nat.le_of_ble_eq_true rfl⟩) (M_recv_0 C0 hw (by decide)) rfl hl.1 rfl (Nat.le_of_ble_eq_true rfl) dX12_passes_23 ⟨Nat.zero_le _, Nat.zero_le _⟩ (fun H locs hw => ?_)
    refine W.eq (g2 := F0 m 26 ls [.int v5]) rfl ?_
    refine lv_if_eq (tgt := 38) hx hb dX12_passes_26 (by decide) (fun hc7 => ?_) (fun hc7 => ?_)
    · have h := ifp h hc7
      refine lv_iconst (v := -1) hx hb dX12_passes_38 (by decide) ?_
      cases h
      exact W.iret hx hb hr (M_fin C0 hw) hw.2.2.2 dX12_passes_39 hlocks
    · have h := ifn h hc7
      refine lv_aload_n hx hb dX12_passes_29 rfl (lv_at hl 0 rfl) ?_
      refine M_g0_25 C0 hw (fun w h => (List.mem_cons_of_mem _ (List.mem_append_right _ h))) (by decide) ((List.mem_cons_of_mem _ (List.mem_append_left _ (List.mem_append_left _ (List.mem_of_getElem? (i := 3) rfl))))) dX12_passes_30 ?_
      refine lv_iload_n hx hb dX12_passes_33 rfl (lv_at hl 1 rfl) ?_
      refine M_zald C0 hw h (k := a1.toNatClampNeg) rfl dX12_passes_34 (fun h => ?_)
      refine lv_if_ne (tgt := 40) hx hb dX12_passes_35 (by decide) (fun hc8 => ?_) (fun hc8 => ?_)
      · have h := ifn h hc8
        refine lv_aload_n hx hb dX12_passes_40 rfl (lv_at hl 0 rfl) ?_
        refine lv_iload_n hx hb dX12_passes_41 rfl (lv_at hl 2 rfl) ?_
        refine lv_bipush (v := 50) hx hb dX12_passes_42 (by decide) ?_
        refine lv_iload_n hx hb dX12_passes_44 rfl (lv_at hl 1 rfl) ?_
        refine lv_iadd hx hb dX12_passes_45 ?_
        obtain ⟨v9, hf10, h⟩ := bn_c h
        refine M_callV C0 hw (As := [.int a2, .int ((50 : Int32) + a1)]) (rest := []) (mX12_insideOf l E hL t1 hf10) (cwV 2 C0.1.2.2.2.2 gX12_passes_X12_insideOf rfl rfl rfl (by decide +kernel) ⟨Nat.le_of_ble_eq_true rfl, Nat.le_of_ble_eq_true rfl⟩) (M_recv_0 C0 hw (by decide)) rfl hl.1 rfl (Nat.le_of_ble_eq_true rfl) dX12_passes_46 ⟨Nat.zero_le _, Nat.zero_le _⟩ (fun H locs hw => ?_)
        refine W.eq (g2 := F0 m 49 ls [.int v9]) rfl ?_
        refine lv_if_ne (tgt := 56) hx hb dX12_passes_49 (by decide) (fun hc11 => ?_) (fun hc11 => ?_)
        · have h := ifn h hc11
          refine lv_iconst (v := 1) hx hb dX12_passes_56 (by decide) ?_
          cases h
          exact W.iret hx hb hr (M_fin C0 hw) hw.2.2.2 dX12_passes_57 hlocks
        · have h := ifp h hc11
          refine lv_iconst (v := 0) hx hb dX12_passes_52 (by decide) ?_
          refine lv_goto (tgt := 57) hx hb dX12_passes_53 (by decide) ?_
          cases h
          exact W.iret hx hb hr (M_fin C0 hw) hw.2.2.2 dX12_passes_57 hlocks
      · have h := ifp h hc8
        refine lv_iconst (v := -1) hx hb dX12_passes_38 (by decide) ?_
        cases h
        exact W.iret hx hb hr (M_fin C0 hw) hw.2.2.2 dX12_passes_39 hlocks

def fX12_toldOfLot (a1 : Int32) (a2 : Int32) (st : Sto) : Option Int32 :=
  if a2 = 0 then (
   ck (0 ≤ a1.toInt ∧ a1.toInt < (lIM (16) (0) : Int)) (
    some (gI st (16) (0) (a1.toNatClampNeg)))) else if a2 = 1 then (
   ck (0 ≤ a1.toInt ∧ a1.toInt < (lIM (20) (0) : Int)) (
    some (gI st (20) (0) (a1.toNatClampNeg)))) else if a2 = 2 then (
   ck (0 ≤ a1.toInt ∧ a1.toInt < (lIM (19) (0) : Int)) (
    ck (0 ≤ a1.toInt ∧ a1.toInt < (lIM (20) (0) : Int)) (
     some ((gI st (19) (0) (a1.toNatClampNeg)) - (gI st (20) (0) (a1.toNatClampNeg)))))) else if a2 = 3 then (
   ck (0 ≤ a1.toInt ∧ a1.toInt < (lIM (19) (0) : Int)) (
    some (gI st (19) (0) (a1.toNatClampNeg)))) else (
   some (-1 : Int32))
set_option maxHeartbeats 4000000 in
set_option maxRecDepth 100000 in
theorem mX12_toldOfLot (l : Launch) (E : XE) (hL : LM E) (st : Sto) {a1 : Int32} {a2 : Int32} {r : Int32} (h : fX12_toldOfLot a1 a2 st = some r) : Met l yX12_toldOfLot wsX12_toldOfLot ({ frames := 0, cells := 0, slots := 0, locals := 0 }) (va_Pc [.ref (E.2.2.1 0 (0)), .int a1, .int a2] (RM E st)) (QM E (some (.int r)) st) 0 0 E.2.2.2 := by
  refine Met.ofW (cc := cX12_toldOfLot) (maxL := 3) (ret := (some .int)) (by decide) rfl ?_
  intro p e s m args below meth c s₁ B hml hv
  obtain ⟨rfl, hP, hK⟩ := hv
  have hown : s.vm.findClass RX12 = some m.cls := findClass_of_methodNamed B.named
  have C0 : CX p m c cX12_toldOfLot 3 s _ wsX12_toldOfLot RX12 E := ⟨⟨B.exec, B.bytes, hml, hown, atoms_spec (ws := wsX12_toldOfLot) B.pre⟩, hK⟩
  have hx := B.exec
  have hb := B.bytes
  have hr := B.returns
  have hlocks := B.notSynchronized
  have hw : SM E s st s.heap [] := ⟨hP, va_S.rf⟩
  have hl := lv_entry ([.ref (E.2.2.1 0 (0)), .int a1, .int a2]) (n := 3) (Nat.le_of_ble_eq_true rfl)
  rw [lg_entry_eq]
  generalize (lg_sl ([.ref (E.2.2.1 0 (0)), .int a1, .int a2]) ++ List.replicate (3 - (lg_sl ([.ref (E.2.2.1 0 (0)), .int a1, .int a2])).length) Slot.unset).toArray = ls at hl ⊢
  have hl : lv_has ls 3 [(0, .ref (E.2.2.1 0 (0))), (1, .int a1), (2, .int a2)] := hl
  unfold fX12_toldOfLot at h
  refine lv_iload_n hx hb dX12_toldOfLot_0 rfl (lv_at hl 2 rfl) ?_
  by_cases hc0 : a2 = 0
  · have h := ifp h hc0
    refine lv_tableIn (tgt := 32) hx hb dX12_toldOfLot_1 (by rw [hc0]; decide) (by rw [hc0]; decide) (by rw [hc0]; rfl) (by decide) ?_
    refine lv_aload_n hx hb dX12_toldOfLot_32 rfl (lv_at hl 0 rfl) ?_
    refine M_g0_15 C0 hw (fun w h => (List.mem_cons_of_mem _ (List.mem_append_right _ h))) (by decide) ((List.mem_cons_of_mem _ (List.mem_append_left _ (List.mem_of_getElem? (i := 0) rfl)))) dX12_toldOfLot_33 ?_
    refine lv_iload_n hx hb dX12_toldOfLot_36 rfl (lv_at hl 1 rfl) ?_
    refine M_iald C0 hw h (k := a1.toNatClampNeg) rfl dX12_toldOfLot_37 (fun h => ?_)
    cases h
    exact W.iret hx hb hr (M_fin C0 hw) hw.2.2.2 dX12_toldOfLot_38 hlocks
  have h := ifn h hc0
  by_cases hc1 : a2 = 1
  · have h := ifp h hc1
    refine lv_tableIn (tgt := 39) hx hb dX12_toldOfLot_1 (by rw [hc1]; decide) (by rw [hc1]; decide) (by rw [hc1]; rfl) (by decide) ?_
    refine lv_aload_n hx hb dX12_toldOfLot_39 rfl (lv_at hl 0 rfl) ?_
    refine M_g0_19 C0 hw (fun w h => (List.mem_cons_of_mem _ (List.mem_append_right _ h))) (by decide) ((List.mem_cons_of_mem _ (List.mem_append_left _ (List.mem_of_getElem? (i := 1) rfl)))) dX12_toldOfLot_40 ?_
    refine lv_iload_n hx hb dX12_toldOfLot_43 rfl (lv_at hl 1 rfl) ?_
    refine M_iald C0 hw h (k := a1.toNatClampNeg) rfl dX12_toldOfLot_44 (fun h => ?_)
    cases h
    exact W.iret hx hb hr (M_fin C0 hw) hw.2.2.2 dX12_toldOfLot_45 hlocks
  have h := ifn h hc1
  by_cases hc2 : a2 = 2
  · have h := ifp h hc2
    refine lv_tableIn (tgt := 46) hx hb dX12_toldOfLot_1 (by rw [hc2]; decide) (by rw [hc2]; decide) (by rw [hc2]; rfl) (by decide) ?_
    refine lv_aload_n hx hb dX12_toldOfLot_46 rfl (lv_at hl 0 rfl) ?_
    refine M_g0_18 C0 hw (fun w h => (List.mem_cons_of_mem _ (List.mem_append_right _ h))) (by decide) ((List.mem_cons_of_mem _ (List.mem_append_left _ (List.mem_of_getElem? (i := 2) rfl)))) dX12_toldOfLot_47 ?_
    refine lv_iload_n hx hb dX12_toldOfLot_50 rfl (lv_at hl 1 rfl) ?_
    refine M_iald C0 hw h (k := a1.toNatClampNeg) rfl dX12_toldOfLot_51 (fun h => ?_)
    refine lv_aload_n hx hb dX12_toldOfLot_52 rfl (lv_at hl 0 rfl) ?_
    refine M_g0_19 C0 hw (fun w h => (List.mem_cons_of_mem _ (List.mem_append_right _ h))) (by decide) ((List.mem_cons_of_mem _ (List.mem_append_left _ (List.mem_of_getElem? (i := 1) rfl)))) dX12_toldOfLot_53 ?_
    refine lv_iload_n hx hb dX12_toldOfLot_56 rfl (lv_at hl 1 rfl) ?_
    refine M_iald C0 hw h (k := a1.toNatClampNeg) rfl dX12_toldOfLot_57 (fun h => ?_)
    refine lv_isub hx hb dX12_toldOfLot_58 ?_
    cases h
    exact W.iret hx hb hr (M_fin C0 hw) hw.2.2.2 dX12_toldOfLot_59 hlocks
  have h := ifn h hc2
  by_cases hc3 : a2 = 3
  · have h := ifp h hc3
    refine lv_tableIn (tgt := 60) hx hb dX12_toldOfLot_1 (by rw [hc3]; decide) (by rw [hc3]; decide) (by rw [hc3]; rfl) (by decide) ?_
    refine lv_aload_n hx hb dX12_toldOfLot_60 rfl (lv_at hl 0 rfl) ?_
    refine M_g0_18 C0 hw (fun w h => (List.mem_cons_of_mem _ (List.mem_append_right _ h))) (by decide) ((List.mem_cons_of_mem _ (List.mem_append_left _ (List.mem_of_getElem? (i := 2) rfl)))) dX12_toldOfLot_61 ?_
    refine lv_iload_n hx hb dX12_toldOfLot_64 rfl (lv_at hl 1 rfl) ?_
    refine M_iald C0 hw h (k := a1.toNatClampNeg) rfl dX12_toldOfLot_65 (fun h => ?_)
    cases h
    exact W.iret hx hb hr (M_fin C0 hw) hw.2.2.2 dX12_toldOfLot_66 hlocks
  have h := ifn h hc3
  refine lv_tableOut (tgt := 67) hx hb dX12_toldOfLot_1 (by have := sw_ne (n := 0) hc0 (by decide); have := sw_ne (n := 1) hc1 (by decide); have := sw_ne (n := 2) hc2 (by decide); have := sw_ne (n := 3) hc3 (by decide); omega) (by decide) ?_
  refine lv_iconst (v := -1) hx hb dX12_toldOfLot_67 (by decide) ?_
  cases h
  exact W.iret hx hb hr (M_fin C0 hw) hw.2.2.2 dX12_toldOfLot_68 hlocks

def fX12_toldOfBatch (a1 : Int32) (a2 : Int32) (st : Sto) : Option Int32 :=
  if a2 = 4 then (
   ck (0 ≤ a1.toInt ∧ a1.toInt < (lIM (21) (0) : Int)) (
    some (gI st (21) (0) (a1.toNatClampNeg)))) else if a2 = 5 then (
   ck (0 ≤ a1.toInt ∧ a1.toInt < (lIM (22) (0) : Int)) (
    some (gI st (22) (0) (a1.toNatClampNeg)))) else if a2 = 6 then (
   ck (0 ≤ a1.toInt ∧ a1.toInt < (lIM (23) (0) : Int)) (
    some (gI st (23) (0) (a1.toNatClampNeg)))) else if a2 = 7 then (
   ((lp (σ := (Int32 × Int32)) (ρ := Int32) (un2 fun (v4 : Int32) (v5 : Int32) =>
      ck (0 ≤ a1.toInt ∧ a1.toInt < (lIM (23) (0) : Int)) (
       if gI st (23) (0) (a1.toNatClampNeg) ≤ v4 then (
        some (.inr v5)) else (
        ck (0 ≤ (((8 : Int32) * a1) + v4).toInt ∧ (((8 : Int32) * a1) + v4).toInt < (lIM (25) (0) : Int)) (
         lt1 (v5 + (gI st (25) (0) ((((8 : Int32) * a1) + v4).toNatClampNeg))) fun (v8 : Int32) =>
         lt1 (v4 + Int32.ofInt (1)) fun (v9 : Int32) =>
         some (.inl (v9, v8)))))) 4000 ((0 : Int32), (0 : Int32))).bind
    (fun (v6 : Int32) =>
     some v6))) else (
   ck (0 ≤ a1.toInt ∧ a1.toInt < (lZM (26) (0) : Int)) (
    if gI st (26) (0) (a1.toNatClampNeg) = 0 then (
     some (0 : Int32)) else (
     some (1 : Int32))))
set_option maxHeartbeats 4000000 in
set_option maxRecDepth 100000 in
theorem mX12_toldOfBatch (l : Launch) (E : XE) (hL : LM E) (st : Sto) {a1 : Int32} {a2 : Int32} {r : Int32} (h : fX12_toldOfBatch a1 a2 st = some r) : Met l yX12_toldOfBatch wsX12_toldOfBatch ({ frames := 0, cells := 0, slots := 0, locals := 0 }) (va_Pc [.ref (E.2.2.1 0 (0)), .int a1, .int a2] (RM E st)) (QM E (some (.int r)) st) 0 0 E.2.2.2 := by
  refine Met.ofW (cc := cX12_toldOfBatch) (maxL := 5) (ret := (some .int)) (by decide) rfl ?_
  intro p e s m args below meth c s₁ B hml hv
  obtain ⟨rfl, hP, hK⟩ := hv
  have hown : s.vm.findClass RX12 = some m.cls := findClass_of_methodNamed B.named
  have C0 : CX p m c cX12_toldOfBatch 5 s _ wsX12_toldOfBatch RX12 E := ⟨⟨B.exec, B.bytes, hml, hown, atoms_spec (ws := wsX12_toldOfBatch) B.pre⟩, hK⟩
  have hx := B.exec
  have hb := B.bytes
  have hr := B.returns
  have hlocks := B.notSynchronized
  have hw : SM E s st s.heap [] := ⟨hP, va_S.rf⟩
  have hl := lv_entry ([.ref (E.2.2.1 0 (0)), .int a1, .int a2]) (n := 5) (Nat.le_of_ble_eq_true rfl)
  rw [lg_entry_eq]
  generalize (lg_sl ([.ref (E.2.2.1 0 (0)), .int a1, .int a2]) ++ List.replicate (5 - (lg_sl ([.ref (E.2.2.1 0 (0)), .int a1, .int a2])).length) Slot.unset).toArray = ls at hl ⊢
  have hl : lv_has ls 5 [(0, .ref (E.2.2.1 0 (0))), (1, .int a1), (2, .int a2)] := hl
  unfold fX12_toldOfBatch at h
  refine lv_iconst (v := 0) hx hb dX12_toldOfBatch_0 (by decide) ?_
  refine lv_istore_n (lv' := [(3, .int (0 : Int32)), (0, .ref (E.2.2.1 0 (0))), (1, .int a1), (2, .int a2)]) hx hb dX12_toldOfBatch_1 rfl hl (by decide) rfl (fun ls hl => ?_)
  refine lv_iload_n hx hb dX12_toldOfBatch_2 rfl (lv_at hl 3 rfl) ?_
  by_cases hc4 : a2 = 4
  · have h := ifp h hc4
    refine lv_tableIn (tgt := 32) hx hb dX12_toldOfBatch_3 (by rw [hc4]; decide) (by rw [hc4]; decide) (by rw [hc4]; rfl) (by decide) ?_
    refine lv_aload_n hx hb dX12_toldOfBatch_32 rfl (lv_at hl 1 rfl) ?_
    refine M_g0_20 C0 hw (fun w h => (List.mem_cons_of_mem _ (List.mem_append_right _ h))) (by decide) ((List.mem_cons_of_mem _ (List.mem_append_left _ (List.mem_of_getElem? (i := 0) rfl)))) dX12_toldOfBatch_33 ?_
    refine lv_iload_n hx hb dX12_toldOfBatch_36 rfl (lv_at hl 2 rfl) ?_
    refine M_iald C0 hw h (k := a1.toNatClampNeg) rfl dX12_toldOfBatch_37 (fun h => ?_)
    cases h
    exact W.iret hx hb hr (M_fin C0 hw) hw.2.2.2 dX12_toldOfBatch_38 hlocks
  have h := ifn h hc4
  by_cases hc5 : a2 = 5
  · have h := ifp h hc5
    refine lv_tableIn (tgt := 39) hx hb dX12_toldOfBatch_3 (by rw [hc5]; decide) (by rw [hc5]; decide) (by rw [hc5]; rfl) (by decide) ?_
    refine lv_aload_n hx hb dX12_toldOfBatch_39 rfl (lv_at hl 1 rfl) ?_
    refine M_g0_21 C0 hw (fun w h => (List.mem_cons_of_mem _ (List.mem_append_right _ h))) (by decide) ((List.mem_cons_of_mem _ (List.mem_append_left _ (List.mem_of_getElem? (i := 1) rfl)))) dX12_toldOfBatch_40 ?_
    refine lv_iload_n hx hb dX12_toldOfBatch_43 rfl (lv_at hl 2 rfl) ?_
    refine M_iald C0 hw h (k := a1.toNatClampNeg) rfl dX12_toldOfBatch_44 (fun h => ?_)
    cases h
    exact W.iret hx hb hr (M_fin C0 hw) hw.2.2.2 dX12_toldOfBatch_45 hlocks
  have h := ifn h hc5
  by_cases hc6 : a2 = 6
  · have h := ifp h hc6
    refine lv_tableIn (tgt := 46) hx hb dX12_toldOfBatch_3 (by rw [hc6]; decide) (by rw [hc6]; decide) (by rw [hc6]; rfl) (by decide) ?_
    refine lv_aload_n hx hb dX12_toldOfBatch_46 rfl (lv_at hl 1 rfl) ?_
    refine M_g0_22 C0 hw (fun w h => (List.mem_cons_of_mem _ (List.mem_append_right _ h))) (by decide) ((List.mem_cons_of_mem _ (List.mem_append_left _ (List.mem_of_getElem? (i := 2) rfl)))) dX12_toldOfBatch_47 ?_
    refine lv_iload_n hx hb dX12_toldOfBatch_50 rfl (lv_at hl 2 rfl) ?_
    refine M_iald C0 hw h (k := a1.toNatClampNeg) rfl dX12_toldOfBatch_51 (fun h => ?_)
    cases h
    exact W.iret hx hb hr (M_fin C0 hw) hw.2.2.2 dX12_toldOfBatch_52 hlocks
  have h := ifn h hc6
  by_cases hc7 : a2 = 7
  · have h := ifp h hc7
    refine lv_tableIn (tgt := 53) hx hb dX12_toldOfBatch_3 (by rw [hc7]; decide) (by rw [hc7]; decide) (by rw [hc7]; rfl) (by decide) ?_
    refine lv_iconst (v := 0) hx hb dX12_toldOfBatch_53 (by decide) ?_
    refine lv_istore (lv' := [(4, .int (0 : Int32)), (3, .int (0 : Int32)), (0, .ref (E.2.2.1 0 (0))), (1, .int a1), (2, .int a2)]) hx hb dX12_toldOfBatch_54 hl (by decide) rfl (fun ls hl => ?_)
    refine lp_ind (fun q : (Int32 × Int32) => ∀ (H : Heap) (locs : List Loc), SM E s st H locs → ∀ ls : Array Slot, lv_has ls 5 [(4, .int (q.1)), (3, .int (q.2)), (0, .ref (E.2.2.1 0 (0))), (1, .int a1)] → W p l e (headSpec wsX12_toldOfBatch ({ frames := 0, cells := 0, slots := 0, locals := 0 })).room s m ([.ref (E.2.2.1 0 (0)), .int a1, .int a2] : List Value).toArray below meth c H locs 0 0 (MQ below (QM E (some (.int r)) st) ([.ref (E.2.2.1 0 (0)), .int a1, .int a2] : List Value).toArray s 0 0 E.2.2.2) (F0 m 56 ls [])) (fun q o3 h hB2 hX1 => ?_) _ _ h _ _ hw _ (lv_sub hl [0, 1, 2, 3] rfl)
    intro H locs hw ls hl
    obtain ⟨v4, v5⟩ := q
    have h := un2_d h
    have hl : lv_has ls 5 [(4, .int v4), (3, .int v5), (0, .ref (E.2.2.1 0 (0))), (1, .int a1)] := hl
    refine lv_iload hx hb dX12_toldOfBatch_56 (lv_at hl 0 rfl) ?_
    refine lv_aload_n hx hb dX12_toldOfBatch_58 rfl (lv_at hl 2 rfl) ?_
    refine M_g0_22 C0 hw (fun w h => (List.mem_cons_of_mem _ (List.mem_append_right _ h))) (by decide) ((List.mem_cons_of_mem _ (List.mem_append_left _ (List.mem_of_getElem? (i := 2) rfl)))) dX12_toldOfBatch_59 ?_
    refine lv_iload_n hx hb dX12_toldOfBatch_62 rfl (lv_at hl 3 rfl) ?_
    refine M_iald C0 hw h (k := a1.toNatClampNeg) rfl dX12_toldOfBatch_63 (fun h => ?_)
    refine lv_icmp_ge (tgt := 88) hx hb dX12_toldOfBatch_64 (by decide) (fun hc7 => ?_) (fun hc7 => ?_)
    · have h := ifp h hc7
      have h := hX1 _ (Option.some.inj h).symm
      have hl := lv_sub hl (l' := [(3, .int v5)]) [1] rfl
      refine lv_iload_n hx hb dX12_toldOfBatch_88 rfl (lv_at hl 0 rfl) ?_
      cases h
      exact W.iret hx hb hr (M_fin C0 hw) hw.2.2.2 dX12_toldOfBatch_89 hlocks
    · have h := ifn h hc7
      refine lv_iload_n hx hb dX12_toldOfBatch_67 rfl (lv_at hl 1 rfl) ?_
      refine lv_aload_n hx hb dX12_toldOfBatch_68 rfl (lv_at hl 2 rfl) ?_
      refine M_g0_24 C0 hw (fun w h => (List.mem_cons_of_mem _ (List.mem_append_right _ h))) (by decide) ((List.mem_cons_of_mem _ (List.mem_append_left _ (List.mem_of_getElem? (i := 3) rfl)))) dX12_toldOfBatch_69 ?_
      refine lv_bipush (v := 8) hx hb dX12_toldOfBatch_72 (by decide) ?_
      refine lv_iload_n hx hb dX12_toldOfBatch_74 rfl (lv_at hl 3 rfl) ?_
      refine lv_imul hx hb dX12_toldOfBatch_75 ?_
      refine lv_iload hx hb dX12_toldOfBatch_76 (lv_at hl 0 rfl) ?_
      refine lv_iadd hx hb dX12_toldOfBatch_78 ?_
      refine M_iald C0 hw h (k := (((8 : Int32) * a1) + v4).toNatClampNeg) rfl dX12_toldOfBatch_79 (fun h => ?_)
      refine lv_iadd hx hb dX12_toldOfBatch_80 ?_
      refine x_topi h (fun v8 h => ?_)
      refine lv_istore_n (lv' := [(3, .int v8), (4, .int v4), (0, .ref (E.2.2.1 0 (0))), (1, .int a1)]) hx hb dX12_toldOfBatch_81 rfl hl (by decide) rfl (fun ls hl => ?_)
      refine x_iinc hx hb h dX12_toldOfBatch_82 hl (q := 1) rfl (fun v9 => [(4, .int v9), (3, .int v8), (0, .ref (E.2.2.1 0 (0))), (1, .int a1)]) (by decide) (fun _ => rfl) (fun v9 ls hl h => ?_)
      refine lv_goto (tgt := 56) hx hb dX12_toldOfBatch_85 (by decide) ?_
      exact hB2 _ (Option.some.inj h).symm _ _ hw _ (lv_sub hl [0, 1, 2, 3] rfl)
  have h := ifn h hc7
  refine lv_tableOut (tgt := 90) hx hb dX12_toldOfBatch_3 (by have := sw_ne (n := 4) hc4 (by decide); have := sw_ne (n := 5) hc5 (by decide); have := sw_ne (n := 6) hc6 (by decide); have := sw_ne (n := 7) hc7 (by decide); omega) (by decide) ?_
  refine lv_aload_n hx hb dX12_toldOfBatch_90 rfl (lv_at hl 1 rfl) ?_
  refine M_g0_25 C0 hw (fun w h => (List.mem_cons_of_mem _ (List.mem_append_right _ h))) (by decide) ((List.mem_cons_of_mem _ (List.mem_append_left _ (List.mem_of_getElem? (i := 4) rfl)))) dX12_toldOfBatch_91 ?_
  refine lv_iload_n hx hb dX12_toldOfBatch_94 rfl (lv_at hl 2 rfl) ?_
  refine M_zald C0 hw h (k := a1.toNatClampNeg) rfl dX12_toldOfBatch_95 (fun h => ?_)
  refine lv_if_eq (tgt := 103) hx hb dX12_toldOfBatch_96 (by decide) (fun hc10 => ?_) (fun hc10 => ?_)
  · have h := ifp h hc10
    refine lv_iconst (v := 0) hx hb dX12_toldOfBatch_103 (by decide) ?_
    cases h
    exact W.iret hx hb hr (M_fin C0 hw) hw.2.2.2 dX12_toldOfBatch_104 hlocks
  · have h := ifn h hc10
    refine lv_iconst (v := 1) hx hb dX12_toldOfBatch_99 (by decide) ?_
    refine lv_goto (tgt := 104) hx hb dX12_toldOfBatch_100 (by decide) ?_
    cases h
    exact W.iret hx hb hr (M_fin C0 hw) hw.2.2.2 dX12_toldOfBatch_104 hlocks

def fX12_told (a1 : Int32) (a2 : Int32) (st : Sto) : Option (Int32 × Sto) :=
  lt1 (sI st 0 (0) 10 (0 : Int32)) fun (t1 : Sto) =>
  if (4 : Int32) ≤ a2 then (
   if (9 : Int32) ≤ a2 then (
    (fX12_is a1 (gI t1 0 (0) 4)).bind (fun (v4 : Int32) =>
     if v4 = 0 then (
      some ((-1 : Int32), t1)) else (
      if a2 = 9 then (
       ck (0 ≤ a1.toInt ∧ a1.toInt < (lIM (12) (0) : Int)) (
        some (gI t1 (12) (0) (a1.toNatClampNeg), t1))) else if a2 = 10 then (
       ck (0 ≤ a1.toInt ∧ a1.toInt < (lIM (13) (0) : Int)) (
        some (gI t1 (13) (0) (a1.toNatClampNeg), t1))) else if a2 = 11 then (
       ck (0 ≤ a1.toInt ∧ a1.toInt < (lIM (15) (0) : Int)) (
        some (gI t1 (15) (0) (a1.toNatClampNeg), t1))) else (
       some ((-1 : Int32), t1))))) else (
    (fX12_is a1 (gI t1 0 (0) 7)).bind (fun (v7 : Int32) =>
     if v7 = 0 then (
      some ((-1 : Int32), t1)) else (
      (fX12_toldOfBatch a1 a2 t1).bind (fun (v10 : Int32) =>
       some (v10, t1)))))) else (
   (fX12_is a1 (gI t1 0 (0) 6)).bind (fun (v12 : Int32) =>
    if v12 = 0 then (
     some ((-1 : Int32), t1)) else (
     (fX12_toldOfLot a1 a2 t1).bind (fun (v15 : Int32) =>
      some (v15, t1)))))
set_option maxHeartbeats 4000000 in
set_option maxRecDepth 100000 in
theorem mX12_told (l : Launch) (E : XE) (hL : LM E) (st : Sto) {a1 : Int32} {a2 : Int32} {r : Int32} {st1 : Sto} (h : fX12_told a1 a2 st = some (r, st1)) : Met l yX12_told wsX12_told ({ frames := 1, cells := 0, slots := 0, locals := 24 }) (va_Pc [.ref (E.2.2.1 0 (0)), .int a1, .int a2] (RM E st)) (QM E (some (.int r)) st1) 0 0 E.2.2.2 := by
  refine Met.ofW (cc := cX12_told) (maxL := 3) (ret := (some .int)) (by decide) rfl ?_
  intro p e s m args below meth c s₁ B hml hv
  obtain ⟨rfl, hP, hK⟩ := hv
  have hown : s.vm.findClass RX12 = some m.cls := findClass_of_methodNamed B.named
  have C0 : CX p m c cX12_told 3 s _ wsX12_told RX12 E := ⟨⟨B.exec, B.bytes, hml, hown, atoms_spec (ws := wsX12_told) B.pre⟩, hK⟩
  have hx := B.exec
  have hb := B.bytes
  have hr := B.returns
  have hlocks := B.notSynchronized
  have hw : SM E s st s.heap [] := ⟨hP, va_S.rf⟩
  have hl := lv_entry ([.ref (E.2.2.1 0 (0)), .int a1, .int a2]) (n := 3) (Nat.le_of_ble_eq_true rfl)
  rw [lg_entry_eq]
  generalize (lg_sl ([.ref (E.2.2.1 0 (0)), .int a1, .int a2]) ++ List.replicate (3 - (lg_sl ([.ref (E.2.2.1 0 (0)), .int a1, .int a2])).length) Slot.unset).toArray = ls at hl ⊢
  have hl : lv_has ls 3 [(0, .ref (E.2.2.1 0 (0))), (1, .int a1), (2, .int a2)] := hl
  unfold fX12_told at h
  refine lv_aload_n hx hb dX12_told_0 rfl (lv_at hl 0 rfl) ?_
  refine lv_iconst (v := 0) hx hb dX12_told_1 (by decide) ?_
  refine M_p0_10 hL C0 hw (fun w h => (List.mem_cons_of_mem _ (List.mem_append_right _ h))) (by decide) h ((List.mem_cons_of_mem _ (List.mem_append_left _ (List.mem_append_left _ (List.mem_of_getElem? (i := 0) rfl))))) dX12_told_2 (fun t1 H locs hw h => ?_)
  refine lv_iload_n hx hb dX12_told_5 rfl (lv_at hl 2 rfl) ?_
  refine lv_iconst (v := 4) hx hb dX12_told_6 (by decide) ?_
  refine lv_icmp_ge (tgt := 33) hx hb dX12_told_7 (by decide) (fun hc2 => ?_) (fun hc2 => ?_)
  · have h := ifp h hc2
    refine lv_iload_n hx hb dX12_told_33 rfl (lv_at hl 2 rfl) ?_
    refine lv_bipush (v := 9) hx hb dX12_told_34 (by decide) ?_
    refine lv_icmp_ge (tgt := 62) hx hb dX12_told_36 (by decide) (fun hc3 => ?_) (fun hc3 => ?_)
    · have h := ifp h hc3
      refine lv_aload_n hx hb dX12_told_62 rfl (lv_at hl 0 rfl) ?_
      refine lv_iload_n hx hb dX12_told_63 rfl (lv_at hl 1 rfl) ?_
      refine lv_aload_n hx hb dX12_told_64 rfl (lv_at hl 0 rfl) ?_
      refine M_g0_4 C0 hw (fun w h => (List.mem_cons_of_mem _ (List.mem_append_right _ h))) (by decide) ((List.mem_cons_of_mem _ (List.mem_append_left _ (List.mem_append_left _ (List.mem_of_getElem? (i := 3) rfl))))) dX12_told_65 ?_
      obtain ⟨v4, hf5, h⟩ := bn_c h
      refine M_callV C0 hw (As := [.int a1, .int (gI t1 0 (0) 4)]) (rest := []) (mX12_is l E hL t1 hf5) (cwV 2 C0.1.2.2.2.2 gX12_told_X12_is rfl rfl rfl (by decide +kernel) ⟨Nat.le_of_ble_eq_true rfl, Nat.le_of_ble_eq_true rfl⟩) (M_recv_0 C0 hw (by decide)) rfl hl.1 rfl (Nat.le_of_ble_eq_true rfl) dX12_told_68 ⟨Nat.zero_le _, Nat.zero_le _⟩ (fun H locs hw => ?_)
      refine W.eq (g2 := F0 m 71 ls [.int v4]) rfl ?_
      refine lv_if_ne (tgt := 76) hx hb dX12_told_71 (by decide) (fun hc6 => ?_) (fun hc6 => ?_)
      · have h := ifn h hc6
        refine lv_iload_n hx hb dX12_told_76 rfl (lv_at hl 2 rfl) ?_
        by_cases hc9 : a2 = 9
        · have h := ifp h hc9
          refine lv_tableIn (tgt := 104) hx hb dX12_told_77 (by rw [hc9]; decide) (by rw [hc9]; decide) (by rw [hc9]; rfl) (by decide) ?_
          refine lv_aload_n hx hb dX12_told_104 rfl (lv_at hl 0 rfl) ?_
          refine M_g0_11 C0 hw (fun w h => (List.mem_cons_of_mem _ (List.mem_append_right _ h))) (by decide) ((List.mem_cons_of_mem _ (List.mem_append_left _ (List.mem_append_left _ (List.mem_of_getElem? (i := 4) rfl))))) dX12_told_105 ?_
          refine lv_iload_n hx hb dX12_told_108 rfl (lv_at hl 1 rfl) ?_
          refine M_iald C0 hw h (k := a1.toNatClampNeg) rfl dX12_told_109 (fun h => ?_)
          cases h
          exact W.iret hx hb hr (M_fin C0 hw) hw.2.2.2 dX12_told_110 hlocks
        have h := ifn h hc9
        by_cases hc10 : a2 = 10
        · have h := ifp h hc10
          refine lv_tableIn (tgt := 111) hx hb dX12_told_77 (by rw [hc10]; decide) (by rw [hc10]; decide) (by rw [hc10]; rfl) (by decide) ?_
          refine lv_aload_n hx hb dX12_told_111 rfl (lv_at hl 0 rfl) ?_
          refine M_g0_12 C0 hw (fun w h => (List.mem_cons_of_mem _ (List.mem_append_right _ h))) (by decide) ((List.mem_cons_of_mem _ (List.mem_append_left _ (List.mem_append_left _ (List.mem_of_getElem? (i := 5) rfl))))) dX12_told_112 ?_
          refine lv_iload_n hx hb dX12_told_115 rfl (lv_at hl 1 rfl) ?_
          refine M_iald C0 hw h (k := a1.toNatClampNeg) rfl dX12_told_116 (fun h => ?_)
          cases h
          exact W.iret hx hb hr (M_fin C0 hw) hw.2.2.2 dX12_told_117 hlocks
        have h := ifn h hc10
        by_cases hc11 : a2 = 11
        · have h := ifp h hc11
          refine lv_tableIn (tgt := 118) hx hb dX12_told_77 (by rw [hc11]; decide) (by rw [hc11]; decide) (by rw [hc11]; rfl) (by decide) ?_
          refine lv_aload_n hx hb dX12_told_118 rfl (lv_at hl 0 rfl) ?_
          refine M_g0_14 C0 hw (fun w h => (List.mem_cons_of_mem _ (List.mem_append_right _ h))) (by decide) ((List.mem_cons_of_mem _ (List.mem_append_left _ (List.mem_append_left _ (List.mem_of_getElem? (i := 6) rfl))))) dX12_told_119 ?_
          refine lv_iload_n hx hb dX12_told_122 rfl (lv_at hl 1 rfl) ?_
          refine M_iald C0 hw h (k := a1.toNatClampNeg) rfl dX12_told_123 (fun h => ?_)
          cases h
          exact W.iret hx hb hr (M_fin C0 hw) hw.2.2.2 dX12_told_124 hlocks
        have h := ifn h hc11
        refine lv_tableOut (tgt := 125) hx hb dX12_told_77 (by have := sw_ne (n := 9) hc9 (by decide); have := sw_ne (n := 10) hc10 (by decide); have := sw_ne (n := 11) hc11 (by decide); omega) (by decide) ?_
        refine lv_iconst (v := -1) hx hb dX12_told_125 (by decide) ?_
        cases h
        exact W.iret hx hb hr (M_fin C0 hw) hw.2.2.2 dX12_told_126 hlocks
      · have h := ifp h hc6
        refine lv_iconst (v := -1) hx hb dX12_told_74 (by decide) ?_
        cases h
        exact W.iret hx hb hr (M_fin C0 hw) hw.2.2.2 dX12_told_75 hlocks
    · have h := ifn h hc3
      refine lv_aload_n hx hb dX12_told_39 rfl (lv_at hl 0 rfl) ?_
      refine lv_iload_n hx hb dX12_told_40 rfl (lv_at hl 1 rfl) ?_
      refine lv_aload_n hx hb dX12_told_41 rfl (lv_at hl 0 rfl) ?_
      refine M_g0_7 C0 hw (fun w h => (List.mem_cons_of_mem _ (List.mem_append_right _ h))) (by decide) ((List.mem_cons_of_mem _ (List.mem_append_left _ (List.mem_append_left _ (List.mem_of_getElem? (i := 2) rfl))))) dX12_told_42 ?_
      obtain ⟨v7, hf8, h⟩ := bn_c h
      refine M_callV C0 hw (As := [.int a1, .int (gI t1 0 (0) 7)]) (rest := []) (mX12_is l E hL t1 hf8) (cwV 2 C0.1.2.2.2.2 gX12_told_X12_is rfl rfl rfl (by decide +kernel) ⟨Nat.le_of_ble_eq_true rfl, Nat.le_of_ble_eq_true rfl⟩) (M_recv_0 C0 hw (by decide)) rfl hl.1 rfl (Nat.le_of_ble_eq_true rfl) dX12_told_45 ⟨Nat.zero_le _, Nat.zero_le _⟩ (fun H locs hw => ?_)
      refine W.eq (g2 := F0 m 48 ls [.int v7]) rfl ?_
      refine lv_if_eq (tgt := 60) hx hb dX12_told_48 (by decide) (fun hc9 => ?_) (fun hc9 => ?_)
      · have h := ifp h hc9
        refine lv_iconst (v := -1) hx hb dX12_told_60 (by decide) ?_
        cases h
        exact W.iret hx hb hr (M_fin C0 hw) hw.2.2.2 dX12_told_61 hlocks
      · have h := ifn h hc9
        refine lv_aload_n hx hb dX12_told_51 rfl (lv_at hl 0 rfl) ?_
        refine lv_iload_n hx hb dX12_told_52 rfl (lv_at hl 1 rfl) ?_
        refine lv_iload_n hx hb dX12_told_53 rfl (lv_at hl 2 rfl) ?_
        obtain ⟨v10, hf11, h⟩ := bn_c h
        refine M_callV C0 hw (As := [.int a1, .int a2]) (rest := []) (mX12_toldOfBatch l E hL t1 hf11) (cwV 2 C0.1.2.2.2.2 gX12_told_X12_toldOfBatch rfl rfl rfl (by decide +kernel) ⟨Nat.le_of_ble_eq_true rfl, Nat.le_of_ble_eq_true rfl⟩) (M_recv_0 C0 hw (by decide)) rfl hl.1 rfl (Nat.le_of_ble_eq_true rfl) dX12_told_54 ⟨Nat.zero_le _, Nat.zero_le _⟩ (fun H locs hw => ?_)
        refine W.eq (g2 := F0 m 57 ls [.int v10]) rfl ?_
        refine lv_goto (tgt := 61) hx hb dX12_told_57 (by decide) ?_
        cases h
        exact W.iret hx hb hr (M_fin C0 hw) hw.2.2.2 dX12_told_61 hlocks
  · have h := ifn h hc2
    refine lv_aload_n hx hb dX12_told_10 rfl (lv_at hl 0 rfl) ?_
    refine lv_iload_n hx hb dX12_told_11 rfl (lv_at hl 1 rfl) ?_
    refine lv_aload_n hx hb dX12_told_12 rfl (lv_at hl 0 rfl) ?_
    refine M_g0_6 C0 hw (fun w h => (List.mem_cons_of_mem _ (List.mem_append_right _ h))) (by decide) ((List.mem_cons_of_mem _ (List.mem_append_left _ (List.mem_append_left _ (List.mem_of_getElem? (i := 1) rfl))))) dX12_told_13 ?_
    obtain ⟨v12, hf13, h⟩ := bn_c h
    refine M_callV C0 hw (As := [.int a1, .int (gI t1 0 (0) 6)]) (rest := []) (mX12_is l E hL t1 hf13) (cwV 2 C0.1.2.2.2.2 gX12_told_X12_is rfl rfl rfl (by decide +kernel) ⟨Nat.le_of_ble_eq_true rfl, Nat.le_of_ble_eq_true rfl⟩) (M_recv_0 C0 hw (by decide)) rfl hl.1 rfl (Nat.le_of_ble_eq_true rfl) dX12_told_16 ⟨Nat.zero_le _, Nat.zero_le _⟩ (fun H locs hw => ?_)
    refine W.eq (g2 := F0 m 19 ls [.int v12]) rfl ?_
    refine lv_if_eq (tgt := 31) hx hb dX12_told_19 (by decide) (fun hc14 => ?_) (fun hc14 => ?_)
    · have h := ifp h hc14
      refine lv_iconst (v := -1) hx hb dX12_told_31 (by decide) ?_
      cases h
      exact W.iret hx hb hr (M_fin C0 hw) hw.2.2.2 dX12_told_32 hlocks
    · have h := ifn h hc14
      refine lv_aload_n hx hb dX12_told_22 rfl (lv_at hl 0 rfl) ?_
      refine lv_iload_n hx hb dX12_told_23 rfl (lv_at hl 1 rfl) ?_
      refine lv_iload_n hx hb dX12_told_24 rfl (lv_at hl 2 rfl) ?_
      obtain ⟨v15, hf16, h⟩ := bn_c h
      refine M_callV C0 hw (As := [.int a1, .int a2]) (rest := []) (mX12_toldOfLot l E hL t1 hf16) (cwV 2 C0.1.2.2.2.2 gX12_told_X12_toldOfLot rfl rfl rfl (by decide +kernel) ⟨Nat.le_of_ble_eq_true rfl, Nat.le_of_ble_eq_true rfl⟩) (M_recv_0 C0 hw (by decide)) rfl hl.1 rfl (Nat.le_of_ble_eq_true rfl) dX12_told_25 ⟨Nat.zero_le _, Nat.zero_le _⟩ (fun H locs hw => ?_)
      refine W.eq (g2 := F0 m 28 ls [.int v15]) rfl ?_
      refine lv_goto (tgt := 32) hx hb dX12_told_28 (by decide) ?_
      cases h
      exact W.iret hx hb hr (M_fin C0 hw) hw.2.2.2 dX12_told_32 hlocks

def fX12_weighed (a1 : Int32) (a2 : Int32) (a3 : Int32) (st : Sto) : Option (Int32 × Sto) :=
  lt1 (sI st 0 (0) 10 (0 : Int32)) fun (t1 : Sto) =>
  (fX12_is a1 (gI t1 0 (0) 7)).bind (fun (v2 : Int32) =>
   if v2 = 0 then (
    some ((-1 : Int32), t1)) else (
    ck (0 ≤ a1.toInt ∧ a1.toInt < (lIM (23) (0) : Int)) (
     (fX12_is a2 (gI t1 (23) (0) (a1.toNatClampNeg))).bind (fun (v5 : Int32) =>
      if v5 = 0 then (
       some ((-1 : Int32), t1)) else (
       if a3 = 0 then (
        ck (0 ≤ (((8 : Int32) * a1) + a2).toInt ∧ (((8 : Int32) * a1) + a2).toInt < (lIM (24) (0) : Int)) (
         some (gI t1 (24) (0) ((((8 : Int32) * a1) + a2).toNatClampNeg), t1))) else (
        ck (0 ≤ (((8 : Int32) * a1) + a2).toInt ∧ (((8 : Int32) * a1) + a2).toInt < (lIM (25) (0) : Int)) (
         some (gI t1 (25) (0) ((((8 : Int32) * a1) + a2).toNatClampNeg), t1))))))))
set_option maxHeartbeats 4000000 in
set_option maxRecDepth 100000 in
theorem mX12_weighed (l : Launch) (E : XE) (hL : LM E) (st : Sto) {a1 : Int32} {a2 : Int32} {a3 : Int32} {r : Int32} {st1 : Sto} (h : fX12_weighed a1 a2 a3 st = some (r, st1)) : Met l yX12_weighed wsX12_weighed ({ frames := 1, cells := 0, slots := 0, locals := 22 }) (va_Pc [.ref (E.2.2.1 0 (0)), .int a1, .int a2, .int a3] (RM E st)) (QM E (some (.int r)) st1) 0 0 E.2.2.2 := by
  refine Met.ofW (cc := cX12_weighed) (maxL := 4) (ret := (some .int)) (by decide) rfl ?_
  intro p e s m args below meth c s₁ B hml hv
  obtain ⟨rfl, hP, hK⟩ := hv
  have hown : s.vm.findClass RX12 = some m.cls := findClass_of_methodNamed B.named
  have C0 : CX p m c cX12_weighed 4 s _ wsX12_weighed RX12 E := ⟨⟨B.exec, B.bytes, hml, hown, atoms_spec (ws := wsX12_weighed) B.pre⟩, hK⟩
  have hx := B.exec
  have hb := B.bytes
  have hr := B.returns
  have hlocks := B.notSynchronized
  have hw : SM E s st s.heap [] := ⟨hP, va_S.rf⟩
  have hl := lv_entry ([.ref (E.2.2.1 0 (0)), .int a1, .int a2, .int a3]) (n := 4) (Nat.le_of_ble_eq_true rfl)
  rw [lg_entry_eq]
  generalize (lg_sl ([.ref (E.2.2.1 0 (0)), .int a1, .int a2, .int a3]) ++ List.replicate (4 - (lg_sl ([.ref (E.2.2.1 0 (0)), .int a1, .int a2, .int a3])).length) Slot.unset).toArray = ls at hl ⊢
  have hl : lv_has ls 4 [(0, .ref (E.2.2.1 0 (0))), (1, .int a1), (2, .int a2), (3, .int a3)] := hl
  unfold fX12_weighed at h
  refine lv_aload_n hx hb dX12_weighed_0 rfl (lv_at hl 0 rfl) ?_
  refine lv_iconst (v := 0) hx hb dX12_weighed_1 (by decide) ?_
  refine M_p0_10 hL C0 hw (fun w h => (List.mem_cons_of_mem _ (List.mem_append_right _ h))) (by decide) h ((List.mem_cons_of_mem _ (List.mem_append_left _ (List.mem_of_getElem? (i := 0) rfl)))) dX12_weighed_2 (fun t1 H locs hw h => ?_)
  refine lv_aload_n hx hb dX12_weighed_5 rfl (lv_at hl 0 rfl) ?_
  refine lv_iload_n hx hb dX12_weighed_6 rfl (lv_at hl 1 rfl) ?_
  refine lv_aload_n hx hb dX12_weighed_7 rfl (lv_at hl 0 rfl) ?_
  refine M_g0_7 C0 hw (fun w h => (List.mem_cons_of_mem _ (List.mem_append_right _ h))) (by decide) ((List.mem_cons_of_mem _ (List.mem_append_left _ (List.mem_of_getElem? (i := 1) rfl)))) dX12_weighed_8 ?_
  obtain ⟨v2, hf3, h⟩ := bn_c h
  refine M_callV C0 hw (As := [.int a1, .int (gI t1 0 (0) 7)]) (rest := []) (mX12_is l E hL t1 hf3) (cwV 2 C0.1.2.2.2.2 gX12_weighed_X12_is rfl rfl rfl (by decide +kernel) ⟨Nat.le_of_ble_eq_true rfl, Nat.le_of_ble_eq_true rfl⟩) (M_recv_0 C0 hw (by decide)) rfl hl.1 rfl (Nat.le_of_ble_eq_true rfl) dX12_weighed_11 ⟨Nat.zero_le _, Nat.zero_le _⟩ (fun H locs hw => ?_)
  refine W.eq (g2 := F0 m 14 ls [.int v2]) rfl ?_
  refine lv_if_eq (tgt := 31) hx hb dX12_weighed_14 (by decide) (fun hc4 => ?_) (fun hc4 => ?_)
  · have h := ifp h hc4
    refine lv_iconst (v := -1) hx hb dX12_weighed_31 (by decide) ?_
    cases h
    exact W.iret hx hb hr (M_fin C0 hw) hw.2.2.2 dX12_weighed_32 hlocks
  · have h := ifn h hc4
    refine lv_aload_n hx hb dX12_weighed_17 rfl (lv_at hl 0 rfl) ?_
    refine lv_iload_n hx hb dX12_weighed_18 rfl (lv_at hl 2 rfl) ?_
    refine lv_aload_n hx hb dX12_weighed_19 rfl (lv_at hl 0 rfl) ?_
    refine M_g0_22 C0 hw (fun w h => (List.mem_cons_of_mem _ (List.mem_append_right _ h))) (by decide) ((List.mem_cons_of_mem _ (List.mem_append_left _ (List.mem_of_getElem? (i := 2) rfl)))) dX12_weighed_20 ?_
    refine lv_iload_n hx hb dX12_weighed_23 rfl (lv_at hl 1 rfl) ?_
    refine M_iald C0 hw h (k := a1.toNatClampNeg) rfl dX12_weighed_24 (fun h => ?_)
    obtain ⟨v5, hf6, h⟩ := bn_c h
    refine M_callV C0 hw (As := [.int a2, .int (gI t1 (23) (0) (a1.toNatClampNeg))]) (rest := []) (mX12_is l E hL t1 hf6) (cwV 2 C0.1.2.2.2.2 gX12_weighed_X12_is rfl rfl rfl (by decide +kernel) ⟨Nat.le_of_ble_eq_true rfl, Nat.le_of_ble_eq_true rfl⟩) (M_recv_0 C0 hw (by decide)) rfl hl.1 rfl (Nat.le_of_ble_eq_true rfl) dX12_weighed_25 ⟨Nat.zero_le _, Nat.zero_le _⟩ (fun H locs hw => ?_)
    refine W.eq (g2 := F0 m 28 ls [.int v5]) rfl ?_
    refine lv_if_ne (tgt := 33) hx hb dX12_weighed_28 (by decide) (fun hc7 => ?_) (fun hc7 => ?_)
    · have h := ifn h hc7
      refine lv_iload_n hx hb dX12_weighed_33 rfl (lv_at hl 3 rfl) ?_
      refine lv_if_eq (tgt := 51) hx hb dX12_weighed_34 (by decide) (fun hc8 => ?_) (fun hc8 => ?_)
      · have h := ifp h hc8
        refine lv_aload_n hx hb dX12_weighed_51 rfl (lv_at hl 0 rfl) ?_
        refine M_g0_23 C0 hw (fun w h => (List.mem_cons_of_mem _ (List.mem_append_right _ h))) (by decide) ((List.mem_cons_of_mem _ (List.mem_append_left _ (List.mem_of_getElem? (i := 4) rfl)))) dX12_weighed_52 ?_
        refine lv_bipush (v := 8) hx hb dX12_weighed_55 (by decide) ?_
        refine lv_iload_n hx hb dX12_weighed_57 rfl (lv_at hl 1 rfl) ?_
        refine lv_imul hx hb dX12_weighed_58 ?_
        refine lv_iload_n hx hb dX12_weighed_59 rfl (lv_at hl 2 rfl) ?_
        refine lv_iadd hx hb dX12_weighed_60 ?_
        refine M_iald C0 hw h (k := (((8 : Int32) * a1) + a2).toNatClampNeg) rfl dX12_weighed_61 (fun h => ?_)
        cases h
        exact W.iret hx hb hr (M_fin C0 hw) hw.2.2.2 dX12_weighed_62 hlocks
      · have h := ifn h hc8
        refine lv_aload_n hx hb dX12_weighed_37 rfl (lv_at hl 0 rfl) ?_
        refine M_g0_24 C0 hw (fun w h => (List.mem_cons_of_mem _ (List.mem_append_right _ h))) (by decide) ((List.mem_cons_of_mem _ (List.mem_append_left _ (List.mem_of_getElem? (i := 3) rfl)))) dX12_weighed_38 ?_
        refine lv_bipush (v := 8) hx hb dX12_weighed_41 (by decide) ?_
        refine lv_iload_n hx hb dX12_weighed_43 rfl (lv_at hl 1 rfl) ?_
        refine lv_imul hx hb dX12_weighed_44 ?_
        refine lv_iload_n hx hb dX12_weighed_45 rfl (lv_at hl 2 rfl) ?_
        refine lv_iadd hx hb dX12_weighed_46 ?_
        refine M_iald C0 hw h (k := (((8 : Int32) * a1) + a2).toNatClampNeg) rfl dX12_weighed_47 (fun h => ?_)
        refine lv_goto (tgt := 62) hx hb dX12_weighed_48 (by decide) ?_
        cases h
        exact W.iret hx hb hr (M_fin C0 hw) hw.2.2.2 dX12_weighed_62 hlocks
    · have h := ifp h hc7
      refine lv_iconst (v := -1) hx hb dX12_weighed_31 (by decide) ?_
      cases h
      exact W.iret hx hb hr (M_fin C0 hw) hw.2.2.2 dX12_weighed_32 hlocks

def fX12_remeasure (a1 : Int32) (st : Sto) : Option (Int32 × Sto) :=
  lt1 (sI st 0 (0) 10 (0 : Int32)) fun (t1 : Sto) =>
  (fX12_is a1 (gI t1 0 (0) 2)).bind (fun (v2 : Int32) =>
   if v2 = 0 then (
    (fX12_not (2 : Int32) t1).bind (un2 fun (v23 : Int32) (t24 : Sto) =>
     ck (v23 &&& 1 = v23) (
      some (v23, t24)))) else (
    (fX12_act (10 : Int32) a1 (0 : Int32) (0 : Int32) t1).bind (fun (t5 : Sto) =>
     (fX12_note ((1 : Int32) + a1) a1 t5).bind (fun (t7 : Sto) =>
      ((lp (σ := (Int32 × Sto)) (ρ := Sto) (un2 fun (v12 : Int32) (t13 : Sto) =>
         if (16 : Int32) ≤ v12 then (
          some (.inr t13)) else (
          ck (0 ≤ v12.toInt ∧ v12.toInt < (lFM (1) (0) : Int)) (
           ck (0 ≤ (((16 : Int32) * ((1 : Int32) + a1)) + v12).toInt ∧ (((16 : Int32) * ((1 : Int32) + a1)) + v12).toInt < (lFM (1) (0) : Int)) (
            nf (FP.fsub (gF t13 (1) (0) (v12.toNatClampNeg)) (gF t13 (1) (0) ((((16 : Int32) * ((1 : Int32) + a1)) + v12).toNatClampNeg))) fun (v18 : UInt32) =>
            ck (0 ≤ (((16 : Int32) * a1) + v12).toInt ∧ (((16 : Int32) * a1) + v12).toInt < (lFM (2) (0) : Int)) (lt1 (sF t13 (2) (0) ((((16 : Int32) * a1) + v12).toNatClampNeg) v18) fun (t19 : Sto) =>
             lt1 (v12 + Int32.ofInt (1)) fun (v20 : Int32) =>
             some (.inl (v20, t19))))))) 4000 ((0 : Int32), t7)).bind
       (fun (t14 : Sto) =>
        (fX12_copy (0 : Int32) ((1 : Int32) + a1) t14).bind (fun (t21 : Sto) =>
         some ((1 : Int32), t21))))))))
set_option maxHeartbeats 4000000 in
set_option maxRecDepth 100000 in
theorem mX12_remeasure (l : Launch) (E : XE) (hL : LM E) (st : Sto) {a1 : Int32} {r : Int32} {st1 : Sto} (h : fX12_remeasure a1 st = some (r, st1)) : Met l yX12_remeasure wsX12_remeasure ({ frames := 1, cells := 0, slots := 0, locals := 25 }) (va_Pc [.ref (E.2.2.1 0 (0)), .int a1] (RM E st)) (QM E (some (.int r)) st1) 0 0 E.2.2.2 := by
  refine Met.ofW (cc := cX12_remeasure) (maxL := 3) (ret := (some .boolean)) (by decide) rfl ?_
  intro p e s m args below meth c s₁ B hml hv
  obtain ⟨rfl, hP, hK⟩ := hv
  have hown : s.vm.findClass RX12 = some m.cls := findClass_of_methodNamed B.named
  have C0 : CX p m c cX12_remeasure 3 s _ wsX12_remeasure RX12 E := ⟨⟨B.exec, B.bytes, hml, hown, atoms_spec (ws := wsX12_remeasure) B.pre⟩, hK⟩
  have hx := B.exec
  have hb := B.bytes
  have hr := B.returns
  have hlocks := B.notSynchronized
  have hw : SM E s st s.heap [] := ⟨hP, va_S.rf⟩
  have hl := lv_entry ([.ref (E.2.2.1 0 (0)), .int a1]) (n := 3) (Nat.le_of_ble_eq_true rfl)
  rw [lg_entry_eq]
  generalize (lg_sl ([.ref (E.2.2.1 0 (0)), .int a1]) ++ List.replicate (3 - (lg_sl ([.ref (E.2.2.1 0 (0)), .int a1])).length) Slot.unset).toArray = ls at hl ⊢
  have hl : lv_has ls 3 [(0, .ref (E.2.2.1 0 (0))), (1, .int a1)] := hl
  unfold fX12_remeasure at h
  refine lv_aload_n hx hb dX12_remeasure_0 rfl (lv_at hl 0 rfl) ?_
  refine lv_iconst (v := 0) hx hb dX12_remeasure_1 (by decide) ?_
  refine M_p0_10 hL C0 hw (fun w h => (List.mem_cons_of_mem _ (List.mem_append_right _ h))) (by decide) h ((List.mem_cons_of_mem _ (List.mem_append_left _ (List.mem_append_left _ (List.mem_of_getElem? (i := 0) rfl))))) dX12_remeasure_2 (fun t1 H locs hw h => ?_)
  refine lv_aload_n hx hb dX12_remeasure_5 rfl (lv_at hl 0 rfl) ?_
  refine lv_iload_n hx hb dX12_remeasure_6 rfl (lv_at hl 1 rfl) ?_
  refine lv_aload_n hx hb dX12_remeasure_7 rfl (lv_at hl 0 rfl) ?_
  refine M_g0_2 C0 hw (fun w h => (List.mem_cons_of_mem _ (List.mem_append_right _ h))) (by decide) ((List.mem_cons_of_mem _ (List.mem_append_left _ (List.mem_append_left _ (List.mem_of_getElem? (i := 1) rfl))))) dX12_remeasure_8 ?_
  obtain ⟨v2, hf3, h⟩ := bn_c h
  refine M_callV C0 hw (As := [.int a1, .int (gI t1 0 (0) 2)]) (rest := []) (mX12_is l E hL t1 hf3) (cwV 2 C0.1.2.2.2.2 gX12_remeasure_X12_is rfl rfl rfl (by decide +kernel) ⟨Nat.le_of_ble_eq_true rfl, Nat.le_of_ble_eq_true rfl⟩) (M_recv_0 C0 hw (by decide)) rfl hl.1 rfl (Nat.le_of_ble_eq_true rfl) dX12_remeasure_11 ⟨Nat.zero_le _, Nat.zero_le _⟩ (fun H locs hw => ?_)
  refine W.eq (g2 := F0 m 14 ls [.int v2]) rfl ?_
  refine lv_if_ne (tgt := 23) hx hb dX12_remeasure_14 (by decide) (fun hc4 => ?_) (fun hc4 => ?_)
  · have h := ifn h hc4
    refine lv_aload_n hx hb dX12_remeasure_23 rfl (lv_at hl 0 rfl) ?_
    refine lv_bipush (v := 10) hx hb dX12_remeasure_24 (by decide) ?_
    refine lv_iload_n hx hb dX12_remeasure_26 rfl (lv_at hl 1 rfl) ?_
    refine lv_iconst (v := 0) hx hb dX12_remeasure_27 (by decide) ?_
    refine lv_iconst (v := 0) hx hb dX12_remeasure_28 (by decide) ?_
    obtain ⟨t5, hf6, h⟩ := bn_c h
    refine M_callV C0 hw (As := [.int (10 : Int32), .int a1, .int (0 : Int32), .int (0 : Int32)]) (rest := []) (mX12_act l E hL t1 hf6) (cwV 4 C0.1.2.2.2.2 gX12_remeasure_X12_act rfl rfl rfl (by decide +kernel) ⟨Nat.le_of_ble_eq_true rfl, Nat.le_of_ble_eq_true rfl⟩) (M_recv_0 C0 hw (by decide)) rfl hl.1 rfl (Nat.le_of_ble_eq_true rfl) dX12_remeasure_29 ⟨Nat.zero_le _, Nat.zero_le _⟩ (fun H locs hw => ?_)
    refine W.eq (g2 := F0 m 32 ls []) rfl ?_
    refine lv_aload_n hx hb dX12_remeasure_32 rfl (lv_at hl 0 rfl) ?_
    refine lv_iconst (v := 1) hx hb dX12_remeasure_33 (by decide) ?_
    refine lv_iload_n hx hb dX12_remeasure_34 rfl (lv_at hl 1 rfl) ?_
    refine lv_iadd hx hb dX12_remeasure_35 ?_
    refine lv_iload_n hx hb dX12_remeasure_36 rfl (lv_at hl 1 rfl) ?_
    obtain ⟨t7, hf8, h⟩ := bn_c h
    refine M_callV C0 hw (As := [.int ((1 : Int32) + a1), .int a1]) (rest := []) (mX12_note l E hL t5 hf8) (cwV 2 C0.1.2.2.2.2 gX12_remeasure_X12_note rfl rfl rfl (by decide +kernel) ⟨Nat.le_of_ble_eq_true rfl, Nat.le_of_ble_eq_true rfl⟩) (M_recv_0 C0 hw (by decide)) rfl hl.1 rfl (Nat.le_of_ble_eq_true rfl) dX12_remeasure_37 ⟨Nat.zero_le _, Nat.zero_le _⟩ (fun H locs hw => ?_)
    refine W.eq (g2 := F0 m 40 ls []) rfl ?_
    refine lv_iconst (v := 0) hx hb dX12_remeasure_40 (by decide) ?_
    refine lv_istore_n (lv' := [(2, .int (0 : Int32)), (0, .ref (E.2.2.1 0 (0))), (1, .int a1)]) hx hb dX12_remeasure_41 rfl hl (by decide) rfl (fun ls hl => ?_)
    refine lp_ind (fun q : (Int32 × Sto) => ∀ (H : Heap) (locs : List Loc), SM E s (q.2) H locs → ∀ ls : Array Slot, lv_has ls 3 [(2, .int (q.1)), (0, .ref (E.2.2.1 0 (0))), (1, .int a1)] → W p l e (headSpec wsX12_remeasure ({ frames := 1, cells := 0, slots := 0, locals := 25 })).room s m ([.ref (E.2.2.1 0 (0)), .int a1] : List Value).toArray below meth c H locs 0 0 (MQ below (QM E (some (.int r)) st1) ([.ref (E.2.2.1 0 (0)), .int a1] : List Value).toArray s 0 0 E.2.2.2) (F0 m 42 ls [])) (fun q o11 h hB10 hX9 => ?_) _ _ h _ _ hw _ (lv_sub hl [0, 1, 2] rfl)
    intro H locs hw ls hl
    obtain ⟨v12, t13⟩ := q
    have h := un2_d h
    have hw : SM E s t13 H locs := hw
    have hl : lv_has ls 3 [(2, .int v12), (0, .ref (E.2.2.1 0 (0))), (1, .int a1)] := hl
    refine lv_iload_n hx hb dX12_remeasure_42 rfl (lv_at hl 0 rfl) ?_
    refine lv_bipush (v := 16) hx hb dX12_remeasure_43 (by decide) ?_
    refine lv_icmp_ge (tgt := 85) hx hb dX12_remeasure_45 (by decide) (fun hc15 => ?_) (fun hc15 => ?_)
    · have h := ifp h hc15
      have h := hX9 _ (Option.some.inj h).symm
      have hl := lv_sub hl (l' := [(0, .ref (E.2.2.1 0 (0))), (1, .int a1)]) [1, 2] rfl
      refine lv_aload_n hx hb dX12_remeasure_85 rfl (lv_at hl 0 rfl) ?_
      refine lv_iconst (v := 0) hx hb dX12_remeasure_86 (by decide) ?_
      refine lv_iconst (v := 1) hx hb dX12_remeasure_87 (by decide) ?_
      refine lv_iload_n hx hb dX12_remeasure_88 rfl (lv_at hl 1 rfl) ?_
      refine lv_iadd hx hb dX12_remeasure_89 ?_
      obtain ⟨t16, hf17, h⟩ := bn_c h
      refine M_callV C0 hw (As := [.int (0 : Int32), .int ((1 : Int32) + a1)]) (rest := []) (mX12_copy l E hL t13 hf17) (cwV 2 C0.1.2.2.2.2 gX12_remeasure_X12_copy rfl rfl rfl (by decide +kernel) ⟨Nat.le_of_ble_eq_true rfl, Nat.le_of_ble_eq_true rfl⟩) (M_recv_0 C0 hw (by decide)) rfl hl.1 rfl (Nat.le_of_ble_eq_true rfl) dX12_remeasure_90 ⟨Nat.zero_le _, Nat.zero_le _⟩ (fun H locs hw => ?_)
      refine W.eq (g2 := F0 m 93 ls []) rfl ?_
      refine lv_iconst (v := 1) hx hb dX12_remeasure_93 (by decide) ?_
      cases h
      exact W.zret hx hb hr rfl (M_fin C0 hw) hw.2.2.2 dX12_remeasure_94 hlocks
    · have h := ifn h hc15
      refine lv_aload_n hx hb dX12_remeasure_48 rfl (lv_at hl 1 rfl) ?_
      refine M_g0_1 C0 hw (fun w h => (List.mem_cons_of_mem _ (List.mem_append_right _ h))) (by decide) ((List.mem_cons_of_mem _ (List.mem_append_left _ (List.mem_append_left _ (List.mem_of_getElem? (i := 2) rfl))))) dX12_remeasure_49 ?_
      refine lv_bipush (v := 16) hx hb dX12_remeasure_52 (by decide) ?_
      refine lv_iload_n hx hb dX12_remeasure_54 rfl (lv_at hl 2 rfl) ?_
      refine lv_imul hx hb dX12_remeasure_55 ?_
      refine lv_iload_n hx hb dX12_remeasure_56 rfl (lv_at hl 0 rfl) ?_
      refine lv_iadd hx hb dX12_remeasure_57 ?_
      refine lv_aload_n hx hb dX12_remeasure_58 rfl (lv_at hl 1 rfl) ?_
      refine M_g0_0 C0 hw (fun w h => (List.mem_cons_of_mem _ (List.mem_append_right _ h))) (by decide) ((List.mem_cons_of_mem _ (List.mem_append_left _ (List.mem_append_left _ (List.mem_of_getElem? (i := 3) rfl))))) dX12_remeasure_59 ?_
      refine lv_iload_n hx hb dX12_remeasure_62 rfl (lv_at hl 0 rfl) ?_
      refine M_fald C0 hw h (k := v12.toNatClampNeg) rfl dX12_remeasure_63 (fun h => ?_)
      refine lv_aload_n hx hb dX12_remeasure_64 rfl (lv_at hl 1 rfl) ?_
      refine M_g0_0 C0 hw (fun w h => (List.mem_cons_of_mem _ (List.mem_append_right _ h))) (by decide) ((List.mem_cons_of_mem _ (List.mem_append_left _ (List.mem_append_left _ (List.mem_of_getElem? (i := 3) rfl))))) dX12_remeasure_65 ?_
      refine lv_bipush (v := 16) hx hb dX12_remeasure_68 (by decide) ?_
      refine lv_iconst (v := 1) hx hb dX12_remeasure_70 (by decide) ?_
      refine lv_iload_n hx hb dX12_remeasure_71 rfl (lv_at hl 2 rfl) ?_
      refine lv_iadd hx hb dX12_remeasure_72 ?_
      refine lv_imul hx hb dX12_remeasure_73 ?_
      refine lv_iload_n hx hb dX12_remeasure_74 rfl (lv_at hl 0 rfl) ?_
      refine lv_iadd hx hb dX12_remeasure_75 ?_
      refine M_fald C0 hw h (k := (((16 : Int32) * ((1 : Int32) + a1)) + v12).toNatClampNeg) rfl dX12_remeasure_76 (fun h => ?_)
      refine x_fsub hx hb h dX12_remeasure_77 (fun v18 h => ?_)
      refine M_fast hL C0 hw h (k := (((16 : Int32) * a1) + v12).toNatClampNeg) rfl dX12_remeasure_78 (fun t19 H locs hw h => ?_)
      refine x_iinc hx hb h dX12_remeasure_79 hl (q := 0) rfl (fun v20 => [(2, .int v20), (0, .ref (E.2.2.1 0 (0))), (1, .int a1)]) (by decide) (fun _ => rfl) (fun v20 ls hl h => ?_)
      refine lv_goto (tgt := 42) hx hb dX12_remeasure_82 (by decide) ?_
      exact hB10 _ (Option.some.inj h).symm _ _ hw _ (lv_sub hl [0, 1, 2] rfl)
  · have h := ifp h hc4
    refine lv_aload_n hx hb dX12_remeasure_17 rfl (lv_at hl 0 rfl) ?_
    refine lv_iconst (v := 2) hx hb dX12_remeasure_18 (by decide) ?_
    obtain ⟨⟨v23, t24⟩, hf25, h⟩ := bn_c h
    have h := un2_d h
    refine M_callV C0 hw (As := [.int (2 : Int32)]) (rest := []) (mX12_not l E hL t1 hf25) (cwV 1 C0.1.2.2.2.2 gX12_remeasure_X12_not rfl rfl rfl (by decide +kernel) ⟨Nat.le_of_ble_eq_true rfl, Nat.le_of_ble_eq_true rfl⟩) (M_recv_0 C0 hw (by decide)) rfl hl.1 rfl (Nat.le_of_ble_eq_true rfl) dX12_remeasure_19 ⟨Nat.zero_le _, Nat.zero_le _⟩ (fun H locs hw => ?_)
    refine W.eq (g2 := F0 m 22 ls [.int v23]) rfl ?_
    obtain ⟨hz, h⟩ := ck_c h
    cases h
    exact W.zret hx hb hr (zz hz) (M_fin C0 hw) hw.2.2.2 dX12_remeasure_22 hlocks

def fX12_drift (a1 : Int32) (st : Sto) : Option (Int32 × Sto) :=
  lt1 (sI st 0 (0) 10 (0 : Int32)) fun (t1 : Sto) =>
  (fX12_is a1 (gI t1 0 (0) 2)).bind (fun (v2 : Int32) =>
   if v2 = 0 then (
    some ((0 : Int32), t1)) else (
    ((lp (σ := (Int32 × UInt64)) (ρ := UInt64) (un2 fun (v8 : Int32) (v9 : UInt64) =>
       if (16 : Int32) ≤ v8 then (
        some (.inr v9)) else (
        ck (0 ≤ (((16 : Int32) * a1) + v8).toInt ∧ (((16 : Int32) * a1) + v8).toInt < (lFM (2) (0) : Int)) (
         nd (FP.f2d (gF t1 (2) (0) ((((16 : Int32) * a1) + v8).toNatClampNeg))) fun (v16 : UInt64) =>
         nd (FP.dadd v9 v16) fun (v17 : UInt64) =>
         lt1 (v8 + Int32.ofInt (1)) fun (v18 : Int32) =>
         some (.inl (v18, v17))))) 4000 ((0 : Int32), FP.dconst0)).bind
     (fun (v10 : UInt64) =>
      nd (FP.ddiv v10 (4625196817309499392 : UInt64)) fun (v19 : UInt64) =>
      nf (FP.d2f v19) fun (v20 : UInt32) =>
      (fmJxf58ca_floatToIntBits_5c35a v20).bind (fun (v21 : Int32) =>
       some (v21, t1))))))
set_option maxHeartbeats 4000000 in
set_option maxRecDepth 100000 in
theorem mX12_drift (l : Launch) (E : XE) (hL : LM E) (st : Sto) {a1 : Int32} {r : Int32} {st1 : Sto} (h : fX12_drift a1 st = some (r, st1)) : Met l yX12_drift wsX12_drift ({ frames := 2, cells := 0, slots := 0, locals := 43 }) (va_Pc [.ref (E.2.2.1 0 (0)), .int a1] (RM E st)) (QM E (some (.int r)) st1) 0 0 E.2.2.2 := by
  refine Met.ofW (cc := cX12_drift) (maxL := 5) (ret := (some .int)) (by decide) rfl ?_
  intro p e s m args below meth c s₁ B hml hv
  obtain ⟨rfl, hP, hK⟩ := hv
  have hown : s.vm.findClass RX12 = some m.cls := findClass_of_methodNamed B.named
  have C0 : CX p m c cX12_drift 5 s _ wsX12_drift RX12 E := ⟨⟨B.exec, B.bytes, hml, hown, atoms_spec (ws := wsX12_drift) B.pre⟩, hK⟩
  have hx := B.exec
  have hb := B.bytes
  have hr := B.returns
  have hlocks := B.notSynchronized
  have hw : SM E s st s.heap [] := ⟨hP, va_S.rf⟩
  have hl := lv_entry ([.ref (E.2.2.1 0 (0)), .int a1]) (n := 5) (Nat.le_of_ble_eq_true rfl)
  rw [lg_entry_eq]
  generalize (lg_sl ([.ref (E.2.2.1 0 (0)), .int a1]) ++ List.replicate (5 - (lg_sl ([.ref (E.2.2.1 0 (0)), .int a1])).length) Slot.unset).toArray = ls at hl ⊢
  have hl : lv_has ls 5 [(0, .ref (E.2.2.1 0 (0))), (1, .int a1)] := hl
  unfold fX12_drift at h
  refine lv_aload_n hx hb dX12_drift_0 rfl (lv_at hl 0 rfl) ?_
  refine lv_iconst (v := 0) hx hb dX12_drift_1 (by decide) ?_
  refine M_p0_10 hL C0 hw (fun w h => (List.mem_cons_of_mem _ (List.mem_append_right _ h))) (by decide) h ((List.mem_cons_of_mem _ (List.mem_append_left _ (List.mem_of_getElem? (i := 0) rfl)))) dX12_drift_2 (fun t1 H locs hw h => ?_)
  refine lv_aload_n hx hb dX12_drift_5 rfl (lv_at hl 0 rfl) ?_
  refine lv_iload_n hx hb dX12_drift_6 rfl (lv_at hl 1 rfl) ?_
  refine lv_aload_n hx hb dX12_drift_7 rfl (lv_at hl 0 rfl) ?_
  refine M_g0_2 C0 hw (fun w h => (List.mem_cons_of_mem _ (List.mem_append_right _ h))) (by decide) ((List.mem_cons_of_mem _ (List.mem_append_left _ (List.mem_of_getElem? (i := 1) rfl)))) dX12_drift_8 ?_
  obtain ⟨v2, hf3, h⟩ := bn_c h
  refine M_callV C0 hw (As := [.int a1, .int (gI t1 0 (0) 2)]) (rest := []) (mX12_is l E hL t1 hf3) (cwV 2 C0.1.2.2.2.2 gX12_drift_X12_is rfl rfl rfl (by decide +kernel) ⟨Nat.le_of_ble_eq_true rfl, Nat.le_of_ble_eq_true rfl⟩) (M_recv_0 C0 hw (by decide)) rfl hl.1 rfl (Nat.le_of_ble_eq_true rfl) dX12_drift_11 ⟨Nat.zero_le _, Nat.zero_le _⟩ (fun H locs hw => ?_)
  refine W.eq (g2 := F0 m 14 ls [.int v2]) rfl ?_
  refine lv_if_ne (tgt := 19) hx hb dX12_drift_14 (by decide) (fun hc4 => ?_) (fun hc4 => ?_)
  · have h := ifn h hc4
    refine lv_dconst0 hx hb dX12_drift_19 ?_
    refine lv_dstore_n (lv' := [(2, .double FP.dconst0), (0, .ref (E.2.2.1 0 (0))), (1, .int a1)]) hx hb dX12_drift_20 rfl hl (by decide) rfl (fun ls hl => ?_)
    refine lv_iconst (v := 0) hx hb dX12_drift_21 (by decide) ?_
    refine lv_istore (lv' := [(4, .int (0 : Int32)), (2, .double FP.dconst0), (0, .ref (E.2.2.1 0 (0))), (1, .int a1)]) hx hb dX12_drift_22 hl (by decide) rfl (fun ls hl => ?_)
    refine lp_ind (fun q : (Int32 × UInt64) => ∀ (H : Heap) (locs : List Loc), SM E s t1 H locs → ∀ ls : Array Slot, lv_has ls 5 [(4, .int (q.1)), (2, .double (q.2)), (0, .ref (E.2.2.1 0 (0))), (1, .int a1)] → W p l e (headSpec wsX12_drift ({ frames := 2, cells := 0, slots := 0, locals := 43 })).room s m ([.ref (E.2.2.1 0 (0)), .int a1] : List Value).toArray below meth c H locs 0 0 (MQ below (QM E (some (.int r)) st1) ([.ref (E.2.2.1 0 (0)), .int a1] : List Value).toArray s 0 0 E.2.2.2) (F0 m 24 ls [])) (fun q o7 h hB6 hX5 => ?_) _ _ h _ _ hw _ (lv_sub hl [0, 1, 2, 3] rfl)
    intro H locs hw ls hl
    obtain ⟨v8, v9⟩ := q
    have h := un2_d h
    have hl : lv_has ls 5 [(4, .int v8), (2, .double v9), (0, .ref (E.2.2.1 0 (0))), (1, .int a1)] := hl
    refine lv_iload hx hb dX12_drift_24 (lv_at hl 0 rfl) ?_
    refine lv_bipush (v := 16) hx hb dX12_drift_26 (by decide) ?_
    refine lv_icmp_ge (tgt := 53) hx hb dX12_drift_28 (by decide) (fun hc11 => ?_) (fun hc11 => ?_)
    · have h := ifp h hc11
      have h := hX5 _ (Option.some.inj h).symm
      have hl := lv_sub hl (l' := [(2, .double v9)]) [1] rfl
      refine lv_dload_n hx hb dX12_drift_53 rfl (lv_at hl 0 rfl) ?_
      refine lv_ldc2d hx hb hown (C0.1.2.2.2.2 _ (List.mem_cons_of_mem _ (List.mem_append_left _ (List.mem_of_getElem? (i := 3) rfl)))) dX12_drift_54 ?_
      refine x_ddiv hx hb h dX12_drift_57 (fun v12 h => ?_)
      refine x_d2f hx hb h dX12_drift_58 (fun v13 h => ?_)
      obtain ⟨v14, hf15, h⟩ := bn_c h
      refine M_callS C0 hw (As := [.float v13]) (rest := []) (mmJxf58ca_floatToIntBits_5c35a l E hL t1 hf15) (va_cwS 1 C0.1.2.2.2.2 gX12_drift_Jxf58ca_floatToIntBits_5c35a rfl rfl rfl (by decide +kernel) ⟨Nat.le_of_ble_eq_true rfl, Nat.le_of_ble_eq_true rfl⟩) rfl hl.1 rfl (Nat.le_of_ble_eq_true rfl) dX12_drift_59 ⟨Nat.zero_le _, Nat.zero_le _⟩ (fun H locs hw => ?_)
      refine W.eq (g2 := F0 m 62 ls [.int v14]) rfl ?_
      cases h
      exact W.iret hx hb hr (M_fin C0 hw) hw.2.2.2 dX12_drift_62 hlocks
    · have h := ifn h hc11
      refine lv_dload_n hx hb dX12_drift_31 rfl (lv_at hl 1 rfl) ?_
      refine lv_aload_n hx hb dX12_drift_32 rfl (lv_at hl 2 rfl) ?_
      refine M_g0_1 C0 hw (fun w h => (List.mem_cons_of_mem _ (List.mem_append_right _ h))) (by decide) ((List.mem_cons_of_mem _ (List.mem_append_left _ (List.mem_of_getElem? (i := 2) rfl)))) dX12_drift_33 ?_
      refine lv_bipush (v := 16) hx hb dX12_drift_36 (by decide) ?_
      refine lv_iload_n hx hb dX12_drift_38 rfl (lv_at hl 3 rfl) ?_
      refine lv_imul hx hb dX12_drift_39 ?_
      refine lv_iload hx hb dX12_drift_40 (lv_at hl 0 rfl) ?_
      refine lv_iadd hx hb dX12_drift_42 ?_
      refine M_fald C0 hw h (k := (((16 : Int32) * a1) + v8).toNatClampNeg) rfl dX12_drift_43 (fun h => ?_)
      refine x_f2d hx hb h dX12_drift_44 (fun v16 h => ?_)
      refine x_dadd hx hb h dX12_drift_45 (fun v17 h => ?_)
      refine lv_dstore_n (lv' := [(2, .double v17), (4, .int v8), (0, .ref (E.2.2.1 0 (0))), (1, .int a1)]) hx hb dX12_drift_46 rfl hl (by decide) rfl (fun ls hl => ?_)
      refine x_iinc hx hb h dX12_drift_47 hl (q := 1) rfl (fun v18 => [(4, .int v18), (2, .double v17), (0, .ref (E.2.2.1 0 (0))), (1, .int a1)]) (by decide) (fun _ => rfl) (fun v18 ls hl h => ?_)
      refine lv_goto (tgt := 24) hx hb dX12_drift_50 (by decide) ?_
      exact hB6 _ (Option.some.inj h).symm _ _ hw _ (lv_sub hl [0, 1, 2, 3] rfl)
  · have h := ifp h hc4
    refine lv_iconst (v := 0) hx hb dX12_drift_17 (by decide) ?_
    cases h
    exact W.iret hx hb hr (M_fin C0 hw) hw.2.2.2 dX12_drift_18 hlocks

def fX12_four (a1 : Int32) (a2 : Int32) (st : Sto) : Option Sto :=
  ((lp (σ := (Int32 × Sto)) (ρ := Sto) (un2 fun (v4 : Int32) (t5 : Sto) =>
     if (4 : Int32) ≤ v4 then (
      some (.inr t5)) else (
      ck (0 ≤ (a1 + v4).toInt ∧ (a1 + v4).toInt < (lBM (74) (0) : Int)) (lt1 (sI t5 (74) (0) ((a1 + v4).toNatClampNeg) (vp_nar .byte ((a2 >>> (((24 : Int32) - ((8 : Int32) * v4)) &&& 31)).toInt8.toInt32))) fun (t8 : Sto) =>
       lt1 (v4 + Int32.ofInt (1)) fun (v9 : Int32) =>
       some (.inl (v9, t8))))) 4000 ((0 : Int32), st)).bind
   (fun (t6 : Sto) =>
    some t6))
set_option maxHeartbeats 4000000 in
set_option maxRecDepth 100000 in
theorem mX12_four (l : Launch) (E : XE) (hL : LM E) (st : Sto) {a1 : Int32} {a2 : Int32} {st1 : Sto} (h : fX12_four a1 a2 st = some st1) : Met l yX12_four wsX12_four ({ frames := 0, cells := 0, slots := 0, locals := 0 }) (va_Pc [.ref (E.2.2.1 0 (0)), .int a1, .int a2] (RM E st)) (QM E none st1) 0 0 E.2.2.2 := by
  refine Met.ofW (cc := cX12_four) (maxL := 4) (ret := none) (by decide) rfl ?_
  intro p e s m args below meth c s₁ B hml hv
  obtain ⟨rfl, hP, hK⟩ := hv
  have hown : s.vm.findClass RX12 = some m.cls := findClass_of_methodNamed B.named
  have C0 : CX p m c cX12_four 4 s _ wsX12_four RX12 E := ⟨⟨B.exec, B.bytes, hml, hown, atoms_spec (ws := wsX12_four) B.pre⟩, hK⟩
  have hx := B.exec
  have hb := B.bytes
  have hr := B.returns
  have hlocks := B.notSynchronized
  have hw : SM E s st s.heap [] := ⟨hP, va_S.rf⟩
  have hl := lv_entry ([.ref (E.2.2.1 0 (0)), .int a1, .int a2]) (n := 4) (Nat.le_of_ble_eq_true rfl)
  rw [lg_entry_eq]
  generalize (lg_sl ([.ref (E.2.2.1 0 (0)), .int a1, .int a2]) ++ List.replicate (4 - (lg_sl ([.ref (E.2.2.1 0 (0)), .int a1, .int a2])).length) Slot.unset).toArray = ls at hl ⊢
  have hl : lv_has ls 4 [(0, .ref (E.2.2.1 0 (0))), (1, .int a1), (2, .int a2)] := hl
  unfold fX12_four at h
  refine lv_iconst (v := 0) hx hb dX12_four_0 (by decide) ?_
  refine lv_istore_n (lv' := [(3, .int (0 : Int32)), (0, .ref (E.2.2.1 0 (0))), (1, .int a1), (2, .int a2)]) hx hb dX12_four_1 rfl hl (by decide) rfl (fun ls hl => ?_)
  refine lp_ind (fun q : (Int32 × Sto) => ∀ (H : Heap) (locs : List Loc), SM E s (q.2) H locs → ∀ ls : Array Slot, lv_has ls 4 [(3, .int (q.1)), (0, .ref (E.2.2.1 0 (0))), (1, .int a1), (2, .int a2)] → W p l e (headSpec wsX12_four ({ frames := 0, cells := 0, slots := 0, locals := 0 })).room s m ([.ref (E.2.2.1 0 (0)), .int a1, .int a2] : List Value).toArray below meth c H locs 0 0 (MQ below (QM E none st1) ([.ref (E.2.2.1 0 (0)), .int a1, .int a2] : List Value).toArray s 0 0 E.2.2.2) (F0 m 2 ls [])) (fun q o3 h hB2 hX1 => ?_) _ _ h _ _ hw _ (lv_sub hl [0, 1, 2, 3] rfl)
  intro H locs hw ls hl
  obtain ⟨v4, t5⟩ := q
  have h := un2_d h
  have hw : SM E s t5 H locs := hw
  have hl : lv_has ls 4 [(3, .int v4), (0, .ref (E.2.2.1 0 (0))), (1, .int a1), (2, .int a2)] := hl
  refine lv_iload_n hx hb dX12_four_2 rfl (lv_at hl 0 rfl) ?_
  refine lv_iconst (v := 4) hx hb dX12_four_3 (by decide) ?_
  refine lv_icmp_ge (tgt := 31) hx hb dX12_four_4 (by decide) (fun hc7 => ?_) (fun hc7 => ?_)
  · have h := ifp h hc7
    have h := hX1 _ (Option.some.inj h).symm
    have hl := lv_sub hl (l' := []) [] rfl
    cases h
    exact W.vret hx hb hr (M_fin C0 hw) hw.2.2.2 dX12_four_31 hlocks
  · have h := ifn h hc7
    refine lv_aload_n hx hb dX12_four_7 rfl (lv_at hl 1 rfl) ?_
    refine M_g0_73 C0 hw (fun w h => (List.mem_cons_of_mem _ (List.mem_append_right _ h))) (by decide) ((List.mem_cons_of_mem _ (List.mem_append_left _ (List.mem_of_getElem? (i := 0) rfl)))) dX12_four_8 ?_
    refine lv_iload_n hx hb dX12_four_11 rfl (lv_at hl 2 rfl) ?_
    refine lv_iload_n hx hb dX12_four_12 rfl (lv_at hl 0 rfl) ?_
    refine lv_iadd hx hb dX12_four_13 ?_
    refine lv_iload_n hx hb dX12_four_14 rfl (lv_at hl 3 rfl) ?_
    refine lv_bipush (v := 24) hx hb dX12_four_15 (by decide) ?_
    refine lv_bipush (v := 8) hx hb dX12_four_17 (by decide) ?_
    refine lv_iload_n hx hb dX12_four_19 rfl (lv_at hl 0 rfl) ?_
    refine lv_imul hx hb dX12_four_20 ?_
    refine lv_isub hx hb dX12_four_21 ?_
    refine lv_ishr hx hb dX12_four_22 ?_
    refine lv_i2b hx hb dX12_four_23 rfl ?_
    refine M_bast hL C0 hw h (k := (a1 + v4).toNatClampNeg) rfl dX12_four_24 (fun t8 H locs hw h => ?_)
    refine x_iinc hx hb h dX12_four_25 hl (q := 0) rfl (fun v9 => [(3, .int v9), (0, .ref (E.2.2.1 0 (0))), (1, .int a1), (2, .int a2)]) (by decide) (fun _ => rfl) (fun v9 ls hl h => ?_)
    refine lv_goto (tgt := 2) hx hb dX12_four_28 (by decide) ?_
    exact hB2 _ (Option.some.inj h).symm _ _ hw _ (lv_sub hl [0, 1, 2, 3] rfl)

def fX12_sumOf (a1f : Nat) (a1i : Nat) (st : Sto) : Option Int32 :=
  ((lp (σ := (Int32 × Int32)) (ρ := Int32) (un2 fun (v4 : Int32) (v5 : Int32) =>
     if (64 : Int32) ≤ v4 then (
      some (.inr v5)) else (
      ck (0 ≤ v4.toInt ∧ v4.toInt < (lBM a1f a1i : Int)) (
       lt1 (((31 : Int32) * v5) + ((gI st a1f a1i (v4.toNatClampNeg)) &&& (255 : Int32))) fun (v8 : Int32) =>
       lt1 (v4 + Int32.ofInt (1)) fun (v9 : Int32) =>
       some (.inl (v9, v8))))) 4000 ((0 : Int32), (17 : Int32))).bind
   (fun (v6 : Int32) =>
    some v6))
set_option maxHeartbeats 4000000 in
set_option maxRecDepth 100000 in
theorem mX12_sumOf (l : Launch) (E : XE) (hL : LM E) (st : Sto) {a1f : Nat} {a1i : Nat} {r : Int32} (h : fX12_sumOf a1f a1i st = some r) : Met l yX12_sumOf wsX12_sumOf ({ frames := 0, cells := 0, slots := 0, locals := 0 }) (va_Pc [.ref (E.2.2.1 0 (0)), .ref (E.2.2.1 a1f a1i)] (RM E st)) (QM E (some (.int r)) st) 0 0 E.2.2.2 := by
  refine Met.ofW (cc := cX12_sumOf) (maxL := 4) (ret := (some .int)) (by decide) rfl ?_
  intro p e s m args below meth c s₁ B hml hv
  obtain ⟨rfl, hP, hK⟩ := hv
  have hown : s.vm.findClass RX12 = some m.cls := findClass_of_methodNamed B.named
  have C0 : CX p m c cX12_sumOf 4 s _ wsX12_sumOf RX12 E := ⟨⟨B.exec, B.bytes, hml, hown, atoms_spec (ws := wsX12_sumOf) B.pre⟩, hK⟩
  have hx := B.exec
  have hb := B.bytes
  have hr := B.returns
  have hlocks := B.notSynchronized
  have hw : SM E s st s.heap [] := ⟨hP, va_S.rf⟩
  have hl := lv_entry ([.ref (E.2.2.1 0 (0)), .ref (E.2.2.1 a1f a1i)]) (n := 4) (Nat.le_of_ble_eq_true rfl)
  rw [lg_entry_eq]
  generalize (lg_sl ([.ref (E.2.2.1 0 (0)), .ref (E.2.2.1 a1f a1i)]) ++ List.replicate (4 - (lg_sl ([.ref (E.2.2.1 0 (0)), .ref (E.2.2.1 a1f a1i)])).length) Slot.unset).toArray = ls at hl ⊢
  have hl : lv_has ls 4 [(0, .ref (E.2.2.1 0 (0))), (1, .ref (E.2.2.1 a1f a1i))] := hl
  unfold fX12_sumOf at h
  refine lv_bipush (v := 17) hx hb dX12_sumOf_0 (by decide) ?_
  refine lv_istore_n (lv' := [(2, .int (17 : Int32)), (0, .ref (E.2.2.1 0 (0))), (1, .ref (E.2.2.1 a1f a1i))]) hx hb dX12_sumOf_2 rfl hl (by decide) rfl (fun ls hl => ?_)
  refine lv_iconst (v := 0) hx hb dX12_sumOf_3 (by decide) ?_
  refine lv_istore_n (lv' := [(3, .int (0 : Int32)), (2, .int (17 : Int32)), (0, .ref (E.2.2.1 0 (0))), (1, .ref (E.2.2.1 a1f a1i))]) hx hb dX12_sumOf_4 rfl hl (by decide) rfl (fun ls hl => ?_)
  refine lp_ind (fun q : (Int32 × Int32) => ∀ (H : Heap) (locs : List Loc), SM E s st H locs → ∀ ls : Array Slot, lv_has ls 4 [(3, .int (q.1)), (2, .int (q.2)), (1, .ref (E.2.2.1 a1f a1i))] → W p l e (headSpec wsX12_sumOf ({ frames := 0, cells := 0, slots := 0, locals := 0 })).room s m ([.ref (E.2.2.1 0 (0)), .ref (E.2.2.1 a1f a1i)] : List Value).toArray below meth c H locs 0 0 (MQ below (QM E (some (.int r)) st) ([.ref (E.2.2.1 0 (0)), .ref (E.2.2.1 a1f a1i)] : List Value).toArray s 0 0 E.2.2.2) (F0 m 5 ls [])) (fun q o3 h hB2 hX1 => ?_) _ _ h _ _ hw _ (lv_sub hl [0, 1, 3] rfl)
  intro H locs hw ls hl
  obtain ⟨v4, v5⟩ := q
  have h := un2_d h
  have hl : lv_has ls 4 [(3, .int v4), (2, .int v5), (1, .ref (E.2.2.1 a1f a1i))] := hl
  refine lv_iload_n hx hb dX12_sumOf_5 rfl (lv_at hl 0 rfl) ?_
  refine lv_bipush (v := 64) hx hb dX12_sumOf_6 (by decide) ?_
  refine lv_icmp_ge (tgt := 30) hx hb dX12_sumOf_8 (by decide) (fun hc7 => ?_) (fun hc7 => ?_)
  · have h := ifp h hc7
    have h := hX1 _ (Option.some.inj h).symm
    have hl := lv_sub hl (l' := [(2, .int v5)]) [1] rfl
    refine lv_iload_n hx hb dX12_sumOf_30 rfl (lv_at hl 0 rfl) ?_
    cases h
    exact W.iret hx hb hr (M_fin C0 hw) hw.2.2.2 dX12_sumOf_31 hlocks
  · have h := ifn h hc7
    refine lv_bipush (v := 31) hx hb dX12_sumOf_11 (by decide) ?_
    refine lv_iload_n hx hb dX12_sumOf_13 rfl (lv_at hl 1 rfl) ?_
    refine lv_imul hx hb dX12_sumOf_14 ?_
    refine lv_aload_n hx hb dX12_sumOf_15 rfl (lv_at hl 2 rfl) ?_
    refine lv_iload_n hx hb dX12_sumOf_16 rfl (lv_at hl 0 rfl) ?_
    refine M_bald C0 hw h (k := v4.toNatClampNeg) rfl dX12_sumOf_17 (fun h => ?_)
    refine lv_sipush (v := 255) hx hb dX12_sumOf_18 (by decide) ?_
    refine lv_iand hx hb dX12_sumOf_21 ?_
    refine lv_iadd hx hb dX12_sumOf_22 ?_
    refine x_topi h (fun v8 h => ?_)
    refine lv_istore_n (lv' := [(2, .int v8), (3, .int v4), (1, .ref (E.2.2.1 a1f a1i))]) hx hb dX12_sumOf_23 rfl hl (by decide) rfl (fun ls hl => ?_)
    refine x_iinc hx hb h dX12_sumOf_24 hl (q := 1) rfl (fun v9 => [(3, .int v9), (2, .int v8), (1, .ref (E.2.2.1 a1f a1i))]) (by decide) (fun _ => rfl) (fun v9 ls hl h => ?_)
    refine lv_goto (tgt := 5) hx hb dX12_sumOf_27 (by decide) ?_
    exact hB2 _ (Option.some.inj h).symm _ _ hw _ (lv_sub hl [0, 1, 2] rfl)

def fX12_pack (a1 : Int32) (a2 : Int32) (st : Sto) : Option (Int32 × Sto) :=
  lt1 (sI st 0 (0) 10 (0 : Int32)) fun (t1 : Sto) =>
  (fX12_placeOf a1 a2 t1).bind (fun (v2 : Int32) =>
   if v2 = (-1 : Int32) then (
    some ((-1 : Int32), t1)) else (
    ((lp (σ := (Int32 × Sto)) (ρ := Sto) (un2 fun (v8 : Int32) (t9 : Sto) =>
       if (16 : Int32) ≤ v8 then (
        some (.inr t9)) else (
        ck (0 ≤ (((16 : Int32) * v2) + v8).toInt ∧ (((16 : Int32) * v2) + v8).toInt < (lFM (1) (0) : Int)) (
         (fmJxf58ca_floatToIntBits_5c35a (gF t9 (1) (0) ((((16 : Int32) * v2) + v8).toNatClampNeg))).bind (fun (v17 : Int32) =>
          (fX12_four ((4 : Int32) * v8) v17 t9).bind (fun (t19 : Sto) =>
           lt1 (v8 + Int32.ofInt (1)) fun (v21 : Int32) =>
           some (.inl (v21, t19))))))) 4000 ((0 : Int32), t1)).bind
     (fun (t10 : Sto) =>
      (fX12_sumOf (74) (0) t10).bind (fun (v22 : Int32) =>
       (fX12_four (64 : Int32) v22 t10).bind (fun (t24 : Sto) =>
        lt1 (sI t24 0 (0) 75 (68 : Int32)) fun (t26 : Sto) =>
        some ((68 : Int32), t26)))))))
set_option maxHeartbeats 4000000 in
set_option maxRecDepth 100000 in
theorem mX12_pack (l : Launch) (E : XE) (hL : LM E) (st : Sto) {a1 : Int32} {a2 : Int32} {r : Int32} {st1 : Sto} (h : fX12_pack a1 a2 st = some (r, st1)) : Met l yX12_pack wsX12_pack ({ frames := 2, cells := 0, slots := 0, locals := 44 }) (va_Pc [.ref (E.2.2.1 0 (0)), .int a1, .int a2] (RM E st)) (QM E (some (.int r)) st1) 0 0 E.2.2.2 := by
  refine Met.ofW (cc := cX12_pack) (maxL := 5) (ret := (some .int)) (by decide) rfl ?_
  intro p e s m args below meth c s₁ B hml hv
  obtain ⟨rfl, hP, hK⟩ := hv
  have hown : s.vm.findClass RX12 = some m.cls := findClass_of_methodNamed B.named
  have C0 : CX p m c cX12_pack 5 s _ wsX12_pack RX12 E := ⟨⟨B.exec, B.bytes, hml, hown, atoms_spec (ws := wsX12_pack) B.pre⟩, hK⟩
  have hx := B.exec
  have hb := B.bytes
  have hr := B.returns
  have hlocks := B.notSynchronized
  have hw : SM E s st s.heap [] := ⟨hP, va_S.rf⟩
  have hl := lv_entry ([.ref (E.2.2.1 0 (0)), .int a1, .int a2]) (n := 5) (Nat.le_of_ble_eq_true rfl)
  rw [lg_entry_eq]
  generalize (lg_sl ([.ref (E.2.2.1 0 (0)), .int a1, .int a2]) ++ List.replicate (5 - (lg_sl ([.ref (E.2.2.1 0 (0)), .int a1, .int a2])).length) Slot.unset).toArray = ls at hl ⊢
  have hl : lv_has ls 5 [(0, .ref (E.2.2.1 0 (0))), (1, .int a1), (2, .int a2)] := hl
  unfold fX12_pack at h
  refine lv_aload_n hx hb dX12_pack_0 rfl (lv_at hl 0 rfl) ?_
  refine lv_iconst (v := 0) hx hb dX12_pack_1 (by decide) ?_
  refine M_p0_10 hL C0 hw (fun w h => (List.mem_cons_of_mem _ (List.mem_append_right _ h))) (by decide) h ((List.mem_cons_of_mem _ (List.mem_append_left _ (List.mem_append_left _ (List.mem_of_getElem? (i := 0) rfl))))) dX12_pack_2 (fun t1 H locs hw h => ?_)
  refine lv_aload_n hx hb dX12_pack_5 rfl (lv_at hl 0 rfl) ?_
  refine lv_iload_n hx hb dX12_pack_6 rfl (lv_at hl 1 rfl) ?_
  refine lv_iload_n hx hb dX12_pack_7 rfl (lv_at hl 2 rfl) ?_
  obtain ⟨v2, hf3, h⟩ := bn_c h
  refine M_callV C0 hw (As := [.int a1, .int a2]) (rest := []) (mX12_placeOf l E hL t1 hf3) (cwV 2 C0.1.2.2.2.2 gX12_pack_X12_placeOf rfl rfl rfl (by decide +kernel) ⟨Nat.le_of_ble_eq_true rfl, Nat.le_of_ble_eq_true rfl⟩) (M_recv_0 C0 hw (by decide)) rfl hl.1 rfl (Nat.le_of_ble_eq_true rfl) dX12_pack_8 ⟨Nat.zero_le _, Nat.zero_le _⟩ (fun H locs hw => ?_)
  refine W.eq (g2 := F0 m 11 ls [.int v2]) rfl ?_
  refine lv_istore_n (lv' := [(3, .int v2), (0, .ref (E.2.2.1 0 (0))), (1, .int a1), (2, .int a2)]) hx hb dX12_pack_11 rfl hl (by decide) rfl (fun ls hl => ?_)
  refine lv_iload_n hx hb dX12_pack_12 rfl (lv_at hl 0 rfl) ?_
  refine lv_iconst (v := -1) hx hb dX12_pack_13 (by decide) ?_
  refine lv_icmp_ne (tgt := 19) hx hb dX12_pack_14 (by decide) (fun hc4 => ?_) (fun hc4 => ?_)
  · have h := ifn h hc4
    refine lv_iconst (v := 0) hx hb dX12_pack_19 (by decide) ?_
    refine lv_istore (lv' := [(4, .int (0 : Int32)), (3, .int v2), (0, .ref (E.2.2.1 0 (0))), (1, .int a1), (2, .int a2)]) hx hb dX12_pack_20 hl (by decide) rfl (fun ls hl => ?_)
    refine lp_ind (fun q : (Int32 × Sto) => ∀ (H : Heap) (locs : List Loc), SM E s (q.2) H locs → ∀ ls : Array Slot, lv_has ls 5 [(4, .int (q.1)), (3, .int v2), (0, .ref (E.2.2.1 0 (0)))] → W p l e (headSpec wsX12_pack ({ frames := 2, cells := 0, slots := 0, locals := 44 })).room s m ([.ref (E.2.2.1 0 (0)), .int a1, .int a2] : List Value).toArray below meth c H locs 0 0 (MQ below (QM E (some (.int r)) st1) ([.ref (E.2.2.1 0 (0)), .int a1, .int a2] : List Value).toArray s 0 0 E.2.2.2) (F0 m 22 ls [])) (fun q o7 h hB6 hX5 => ?_) _ _ h _ _ hw _ (lv_sub hl [0, 1, 2] rfl)
    intro H locs hw ls hl
    obtain ⟨v8, t9⟩ := q
    have h := un2_d h
    have hw : SM E s t9 H locs := hw
    have hl : lv_has ls 5 [(4, .int v8), (3, .int v2), (0, .ref (E.2.2.1 0 (0)))] := hl
    refine lv_iload hx hb dX12_pack_22 (lv_at hl 0 rfl) ?_
    refine lv_bipush (v := 16) hx hb dX12_pack_24 (by decide) ?_
    refine lv_icmp_ge (tgt := 58) hx hb dX12_pack_26 (by decide) (fun hc11 => ?_) (fun hc11 => ?_)
    · have h := ifp h hc11
      have h := hX5 _ (Option.some.inj h).symm
      have hl := lv_sub hl (l' := [(0, .ref (E.2.2.1 0 (0)))]) [2] rfl
      refine lv_aload_n hx hb dX12_pack_58 rfl (lv_at hl 0 rfl) ?_
      refine lv_bipush (v := 64) hx hb dX12_pack_59 (by decide) ?_
      refine lv_aload_n hx hb dX12_pack_61 rfl (lv_at hl 0 rfl) ?_
      refine lv_aload_n hx hb dX12_pack_62 rfl (lv_at hl 0 rfl) ?_
      refine M_g0_73 C0 hw (fun w h => (List.mem_cons_of_mem _ (List.mem_append_right _ h))) (by decide) ((List.mem_cons_of_mem _ (List.mem_append_left _ (List.mem_append_left _ (List.mem_of_getElem? (i := 2) rfl))))) dX12_pack_63 ?_
      obtain ⟨v12, hf13, h⟩ := bn_c h
      refine M_callV C0 hw (As := [.ref (E.2.2.1 (74) (0))]) (rest := [.int (64 : Int32), .ref (E.2.2.1 0 (0))]) (mX12_sumOf l E hL t9 hf13) (cwV 1 C0.1.2.2.2.2 gX12_pack_X12_sumOf rfl rfl rfl (by decide +kernel) ⟨Nat.le_of_ble_eq_true rfl, Nat.le_of_ble_eq_true rfl⟩) (M_recv_0 C0 hw (by decide)) rfl hl.1 rfl (Nat.le_of_ble_eq_true rfl) dX12_pack_66 ⟨Nat.zero_le _, Nat.zero_le _⟩ (fun H locs hw => ?_)
      refine W.eq (g2 := F0 m 69 ls [.int v12, .int (64 : Int32), .ref (E.2.2.1 0 (0))]) rfl ?_
      obtain ⟨t14, hf15, h⟩ := bn_c h
      refine M_callV C0 hw (As := [.int (64 : Int32), .int v12]) (rest := []) (mX12_four l E hL t9 hf15) (cwV 2 C0.1.2.2.2.2 gX12_pack_X12_four rfl rfl rfl (by decide +kernel) ⟨Nat.le_of_ble_eq_true rfl, Nat.le_of_ble_eq_true rfl⟩) (M_recv_0 C0 hw (by decide)) rfl hl.1 rfl (Nat.le_of_ble_eq_true rfl) dX12_pack_69 ⟨Nat.zero_le _, Nat.zero_le _⟩ (fun H locs hw => ?_)
      refine W.eq (g2 := F0 m 72 ls []) rfl ?_
      refine lv_aload_n hx hb dX12_pack_72 rfl (lv_at hl 0 rfl) ?_
      refine lv_bipush (v := 68) hx hb dX12_pack_73 (by decide) ?_
      refine M_p0_75 hL C0 hw (fun w h => (List.mem_cons_of_mem _ (List.mem_append_right _ h))) (by decide) h ((List.mem_cons_of_mem _ (List.mem_append_left _ (List.mem_append_left _ (List.mem_of_getElem? (i := 3) rfl))))) dX12_pack_75 (fun t16 H locs hw h => ?_)
      refine lv_bipush (v := 68) hx hb dX12_pack_78 (by decide) ?_
      cases h
      exact W.iret hx hb hr (M_fin C0 hw) hw.2.2.2 dX12_pack_80 hlocks
    · have h := ifn h hc11
      refine lv_aload_n hx hb dX12_pack_29 rfl (lv_at hl 2 rfl) ?_
      refine lv_iconst (v := 4) hx hb dX12_pack_30 (by decide) ?_
      refine lv_iload hx hb dX12_pack_31 (lv_at hl 0 rfl) ?_
      refine lv_imul hx hb dX12_pack_33 ?_
      refine lv_aload_n hx hb dX12_pack_34 rfl (lv_at hl 2 rfl) ?_
      refine M_g0_0 C0 hw (fun w h => (List.mem_cons_of_mem _ (List.mem_append_right _ h))) (by decide) ((List.mem_cons_of_mem _ (List.mem_append_left _ (List.mem_append_left _ (List.mem_of_getElem? (i := 1) rfl))))) dX12_pack_35 ?_
      refine lv_bipush (v := 16) hx hb dX12_pack_38 (by decide) ?_
      refine lv_iload_n hx hb dX12_pack_40 rfl (lv_at hl 1 rfl) ?_
      refine lv_imul hx hb dX12_pack_41 ?_
      refine lv_iload hx hb dX12_pack_42 (lv_at hl 0 rfl) ?_
      refine lv_iadd hx hb dX12_pack_44 ?_
      refine M_fald C0 hw h (k := (((16 : Int32) * v2) + v8).toNatClampNeg) rfl dX12_pack_45 (fun h => ?_)
      obtain ⟨v17, hf18, h⟩ := bn_c h
      refine M_callS C0 hw (As := [.float (gF t9 (1) (0) ((((16 : Int32) * v2) + v8).toNatClampNeg))]) (rest := [.int ((4 : Int32) * v8), .ref (E.2.2.1 0 (0))]) (mmJxf58ca_floatToIntBits_5c35a l E hL t9 hf18) (va_cwS 1 C0.1.2.2.2.2 gX12_pack_Jxf58ca_floatToIntBits_5c35a rfl rfl rfl (by decide +kernel) ⟨Nat.le_of_ble_eq_true rfl, Nat.le_of_ble_eq_true rfl⟩) rfl hl.1 rfl (Nat.le_of_ble_eq_true rfl) dX12_pack_46 ⟨Nat.zero_le _, Nat.zero_le _⟩ (fun H locs hw => ?_)
      refine W.eq (g2 := F0 m 49 ls [.int v17, .int ((4 : Int32) * v8), .ref (E.2.2.1 0 (0))]) rfl ?_
      obtain ⟨t19, hf20, h⟩ := bn_c h
      refine M_callV C0 hw (As := [.int ((4 : Int32) * v8), .int v17]) (rest := []) (mX12_four l E hL t9 hf20) (cwV 2 C0.1.2.2.2.2 gX12_pack_X12_four rfl rfl rfl (by decide +kernel) ⟨Nat.le_of_ble_eq_true rfl, Nat.le_of_ble_eq_true rfl⟩) (M_recv_0 C0 hw (by decide)) rfl hl.1 rfl (Nat.le_of_ble_eq_true rfl) dX12_pack_49 ⟨Nat.zero_le _, Nat.zero_le _⟩ (fun H locs hw => ?_)
      refine W.eq (g2 := F0 m 52 ls []) rfl ?_
      refine x_iinc hx hb h dX12_pack_52 hl (q := 0) rfl (fun v21 => [(4, .int v21), (3, .int v2), (0, .ref (E.2.2.1 0 (0)))]) (by decide) (fun _ => rfl) (fun v21 ls hl h => ?_)
      refine lv_goto (tgt := 22) hx hb dX12_pack_55 (by decide) ?_
      exact hB6 _ (Option.some.inj h).symm _ _ hw _ (lv_sub hl [0, 1, 2] rfl)
  · have h := ifp h hc4
    refine lv_iconst (v := -1) hx hb dX12_pack_17 (by decide) ?_
    cases h
    exact W.iret hx hb hr (M_fin C0 hw) hw.2.2.2 dX12_pack_18 hlocks

def fX12_out (a1 : Int32) (st : Sto) : Option (Int32 × Sto) :=
  (fX12_is a1 (gI st 0 (0) 75)).bind (fun (v1 : Int32) =>
   jn (fun (v6 : Int32) =>
    lt1 (sI st 0 (0) 10 v6) fun (t7 : Sto) =>
    if gI t7 0 (0) 10 = 0 then (
     ck (0 ≤ a1.toInt ∧ a1.toInt < (lBM (74) (0) : Int)) (
      some ((gI t7 (74) (0) (a1.toNatClampNeg)) &&& (255 : Int32), t7))) else (
     some ((0 : Int32), t7))) fun K3 =>
   if v1 = 0 then (
    K3 (1 : Int32)) else (
    K3 (0 : Int32)))
set_option maxHeartbeats 4000000 in
set_option maxRecDepth 100000 in
theorem mX12_out (l : Launch) (E : XE) (hL : LM E) (st : Sto) {a1 : Int32} {r : Int32} {st1 : Sto} (h : fX12_out a1 st = some (r, st1)) : Met l yX12_out wsX12_out ({ frames := 1, cells := 0, slots := 0, locals := 22 }) (va_Pc [.ref (E.2.2.1 0 (0)), .int a1] (RM E st)) (QM E (some (.int r)) st1) 0 0 E.2.2.2 := by
  refine Met.ofW (cc := cX12_out) (maxL := 2) (ret := (some .int)) (by decide) rfl ?_
  intro p e s m args below meth c s₁ B hml hv
  obtain ⟨rfl, hP, hK⟩ := hv
  have hown : s.vm.findClass RX12 = some m.cls := findClass_of_methodNamed B.named
  have C0 : CX p m c cX12_out 2 s _ wsX12_out RX12 E := ⟨⟨B.exec, B.bytes, hml, hown, atoms_spec (ws := wsX12_out) B.pre⟩, hK⟩
  have hx := B.exec
  have hb := B.bytes
  have hr := B.returns
  have hlocks := B.notSynchronized
  have hw : SM E s st s.heap [] := ⟨hP, va_S.rf⟩
  have hl := lv_entry ([.ref (E.2.2.1 0 (0)), .int a1]) (n := 2) (Nat.le_of_ble_eq_true rfl)
  rw [lg_entry_eq]
  generalize (lg_sl ([.ref (E.2.2.1 0 (0)), .int a1]) ++ List.replicate (2 - (lg_sl ([.ref (E.2.2.1 0 (0)), .int a1])).length) Slot.unset).toArray = ls at hl ⊢
  have hl : lv_has ls 2 [(0, .ref (E.2.2.1 0 (0))), (1, .int a1)] := hl
  unfold fX12_out at h
  refine lv_aload_n hx hb dX12_out_0 rfl (lv_at hl 0 rfl) ?_
  refine lv_aload_n hx hb dX12_out_1 rfl (lv_at hl 0 rfl) ?_
  refine lv_iload_n hx hb dX12_out_2 rfl (lv_at hl 1 rfl) ?_
  refine lv_aload_n hx hb dX12_out_3 rfl (lv_at hl 0 rfl) ?_
  refine M_g0_75 C0 hw (fun w h => (List.mem_cons_of_mem _ (List.mem_append_right _ h))) (by decide) ((List.mem_cons_of_mem _ (List.mem_append_left _ (List.mem_of_getElem? (i := 0) rfl)))) dX12_out_4 ?_
  obtain ⟨v1, hf2, h⟩ := bn_c h
  refine M_callV C0 hw (As := [.int a1, .int (gI st 0 (0) 75)]) (rest := [.ref (E.2.2.1 0 (0))]) (mX12_is l E hL st hf2) (cwV 2 C0.1.2.2.2.2 gX12_out_X12_is rfl rfl rfl (by decide +kernel) ⟨Nat.le_of_ble_eq_true rfl, Nat.le_of_ble_eq_true rfl⟩) (M_recv_0 C0 hw (by decide)) rfl hl.1 rfl (Nat.le_of_ble_eq_true rfl) dX12_out_7 ⟨Nat.zero_le _, Nat.zero_le _⟩ (fun H locs hw => ?_)
  refine W.eq (g2 := F0 m 10 ls [.int v1, .ref (E.2.2.1 0 (0))]) rfl ?_
  refine jn_c h (fun K3 hK5 h => ?_)
  have HJ4 : ∀ (v6 : Int32), K3 v6 = some (r, st1) → ∀ (H : Heap) (locs : List Loc), SM E s st H locs → ∀ ls : Array Slot, lv_has ls 2 [(0, .ref (E.2.2.1 0 (0))), (1, .int a1)] → W p l e (headSpec wsX12_out ({ frames := 1, cells := 0, slots := 0, locals := 22 })).room s m ([.ref (E.2.2.1 0 (0)), .int a1] : List Value).toArray below meth c H locs 0 0 (MQ below (QM E (some (.int r)) st1) ([.ref (E.2.2.1 0 (0)), .int a1] : List Value).toArray s 0 0 E.2.2.2) (F0 m 18 ls [.int v6, .ref (E.2.2.1 0 (0))]) := by
    intro v6 h H locs hw ls hl
    have h := kk1 h hK5
    refine M_p0_10 hL C0 hw (fun w h => (List.mem_cons_of_mem _ (List.mem_append_right _ h))) (by decide) h ((List.mem_cons_of_mem _ (List.mem_append_left _ (List.mem_of_getElem? (i := 1) rfl)))) dX12_out_18 (fun t7 H locs hw h => ?_)
    refine lv_aload_n hx hb dX12_out_21 rfl (lv_at hl 0 rfl) ?_
    refine M_g0_10 C0 hw (fun w h => (List.mem_cons_of_mem _ (List.mem_append_right _ h))) (by decide) ((List.mem_cons_of_mem _ (List.mem_append_left _ (List.mem_of_getElem? (i := 1) rfl)))) dX12_out_22 ?_
    refine lv_if_ne (tgt := 41) hx hb dX12_out_25 (by decide) (fun hc8 => ?_) (fun hc8 => ?_)
    · have h := ifn h hc8
      refine lv_iconst (v := 0) hx hb dX12_out_41 (by decide) ?_
      cases h
      exact W.iret hx hb hr (M_fin C0 hw) hw.2.2.2 dX12_out_42 hlocks
    · have h := ifp h hc8
      refine lv_aload_n hx hb dX12_out_28 rfl (lv_at hl 0 rfl) ?_
      refine M_g0_73 C0 hw (fun w h => (List.mem_cons_of_mem _ (List.mem_append_right _ h))) (by decide) ((List.mem_cons_of_mem _ (List.mem_append_left _ (List.mem_of_getElem? (i := 2) rfl)))) dX12_out_29 ?_
      refine lv_iload_n hx hb dX12_out_32 rfl (lv_at hl 1 rfl) ?_
      refine M_bald C0 hw h (k := a1.toNatClampNeg) rfl dX12_out_33 (fun h => ?_)
      refine lv_sipush (v := 255) hx hb dX12_out_34 (by decide) ?_
      refine lv_iand hx hb dX12_out_37 ?_
      refine lv_goto (tgt := 42) hx hb dX12_out_38 (by decide) ?_
      cases h
      exact W.iret hx hb hr (M_fin C0 hw) hw.2.2.2 dX12_out_42 hlocks
  refine lv_if_eq (tgt := 17) hx hb dX12_out_10 (by decide) (fun hc9 => ?_) (fun hc9 => ?_)
  · have h := ifp h hc9
    refine lv_iconst (v := 1) hx hb dX12_out_17 (by decide) ?_
    exact HJ4 _ h _ _ hw _ (lv_sub hl [0, 1] rfl)
  · have h := ifn h hc9
    refine lv_iconst (v := 0) hx hb dX12_out_13 (by decide) ?_
    refine lv_goto (tgt := 18) hx hb dX12_out_14 (by decide) ?_
    exact HJ4 _ h _ _ hw _ (lv_sub hl [0, 1] rfl)

def fX12_letter (a1 : Int32) (a2 : Int32) (st : Sto) : Option (Int32 × Sto) :=
  lt1 (sI st 0 (0) 10 (0 : Int32)) fun (t1 : Sto) =>
  (fX12_is a1 (68 : Int32)).bind (fun (v2 : Int32) =>
   if v2 = 0 then (
    some ((0 : Int32), t1)) else (
    (fX12_is a2 (256 : Int32)).bind (fun (v5 : Int32) =>
     if v5 = 0 then (
      some ((0 : Int32), t1)) else (
      ck (0 ≤ a1.toInt ∧ a1.toInt < (lBM (75) (0) : Int)) (lt1 (sI t1 (75) (0) (a1.toNatClampNeg) (vp_nar .byte (a2.toInt8.toInt32))) fun (t8 : Sto) =>
       some ((1 : Int32), t8))))))
set_option maxHeartbeats 4000000 in
set_option maxRecDepth 100000 in
theorem mX12_letter (l : Launch) (E : XE) (hL : LM E) (st : Sto) {a1 : Int32} {a2 : Int32} {r : Int32} {st1 : Sto} (h : fX12_letter a1 a2 st = some (r, st1)) : Met l yX12_letter wsX12_letter ({ frames := 1, cells := 0, slots := 0, locals := 22 }) (va_Pc [.ref (E.2.2.1 0 (0)), .int a1, .int a2] (RM E st)) (QM E (some (.int r)) st1) 0 0 E.2.2.2 := by
  refine Met.ofW (cc := cX12_letter) (maxL := 3) (ret := (some .boolean)) (by decide) rfl ?_
  intro p e s m args below meth c s₁ B hml hv
  obtain ⟨rfl, hP, hK⟩ := hv
  have hown : s.vm.findClass RX12 = some m.cls := findClass_of_methodNamed B.named
  have C0 : CX p m c cX12_letter 3 s _ wsX12_letter RX12 E := ⟨⟨B.exec, B.bytes, hml, hown, atoms_spec (ws := wsX12_letter) B.pre⟩, hK⟩
  have hx := B.exec
  have hb := B.bytes
  have hr := B.returns
  have hlocks := B.notSynchronized
  have hw : SM E s st s.heap [] := ⟨hP, va_S.rf⟩
  have hl := lv_entry ([.ref (E.2.2.1 0 (0)), .int a1, .int a2]) (n := 3) (Nat.le_of_ble_eq_true rfl)
  rw [lg_entry_eq]
  generalize (lg_sl ([.ref (E.2.2.1 0 (0)), .int a1, .int a2]) ++ List.replicate (3 - (lg_sl ([.ref (E.2.2.1 0 (0)), .int a1, .int a2])).length) Slot.unset).toArray = ls at hl ⊢
  have hl : lv_has ls 3 [(0, .ref (E.2.2.1 0 (0))), (1, .int a1), (2, .int a2)] := hl
  unfold fX12_letter at h
  refine lv_aload_n hx hb dX12_letter_0 rfl (lv_at hl 0 rfl) ?_
  refine lv_iconst (v := 0) hx hb dX12_letter_1 (by decide) ?_
  refine M_p0_10 hL C0 hw (fun w h => (List.mem_cons_of_mem _ (List.mem_append_right _ h))) (by decide) h ((List.mem_cons_of_mem _ (List.mem_append_left _ (List.mem_of_getElem? (i := 0) rfl)))) dX12_letter_2 (fun t1 H locs hw h => ?_)
  refine lv_aload_n hx hb dX12_letter_5 rfl (lv_at hl 0 rfl) ?_
  refine lv_iload_n hx hb dX12_letter_6 rfl (lv_at hl 1 rfl) ?_
  refine lv_bipush (v := 68) hx hb dX12_letter_7 (by decide) ?_
  obtain ⟨v2, hf3, h⟩ := bn_c h
  refine M_callV C0 hw (As := [.int a1, .int (68 : Int32)]) (rest := []) (mX12_is l E hL t1 hf3) (cwV 2 C0.1.2.2.2.2 gX12_letter_X12_is rfl rfl rfl (by decide +kernel) ⟨Nat.le_of_ble_eq_true rfl, Nat.le_of_ble_eq_true rfl⟩) (M_recv_0 C0 hw (by decide)) rfl hl.1 rfl (Nat.le_of_ble_eq_true rfl) dX12_letter_9 ⟨Nat.zero_le _, Nat.zero_le _⟩ (fun H locs hw => ?_)
  refine W.eq (g2 := F0 m 12 ls [.int v2]) rfl ?_
  refine lv_if_eq (tgt := 26) hx hb dX12_letter_12 (by decide) (fun hc4 => ?_) (fun hc4 => ?_)
  · have h := ifp h hc4
    refine lv_iconst (v := 0) hx hb dX12_letter_26 (by decide) ?_
    cases h
    exact W.zret hx hb hr rfl (M_fin C0 hw) hw.2.2.2 dX12_letter_27 hlocks
  · have h := ifn h hc4
    refine lv_aload_n hx hb dX12_letter_15 rfl (lv_at hl 0 rfl) ?_
    refine lv_iload_n hx hb dX12_letter_16 rfl (lv_at hl 2 rfl) ?_
    refine lv_sipush (v := 256) hx hb dX12_letter_17 (by decide) ?_
    obtain ⟨v5, hf6, h⟩ := bn_c h
    refine M_callV C0 hw (As := [.int a2, .int (256 : Int32)]) (rest := []) (mX12_is l E hL t1 hf6) (cwV 2 C0.1.2.2.2.2 gX12_letter_X12_is rfl rfl rfl (by decide +kernel) ⟨Nat.le_of_ble_eq_true rfl, Nat.le_of_ble_eq_true rfl⟩) (M_recv_0 C0 hw (by decide)) rfl hl.1 rfl (Nat.le_of_ble_eq_true rfl) dX12_letter_20 ⟨Nat.zero_le _, Nat.zero_le _⟩ (fun H locs hw => ?_)
    refine W.eq (g2 := F0 m 23 ls [.int v5]) rfl ?_
    refine lv_if_ne (tgt := 28) hx hb dX12_letter_23 (by decide) (fun hc7 => ?_) (fun hc7 => ?_)
    · have h := ifn h hc7
      refine lv_aload_n hx hb dX12_letter_28 rfl (lv_at hl 0 rfl) ?_
      refine M_g0_74 C0 hw (fun w h => (List.mem_cons_of_mem _ (List.mem_append_right _ h))) (by decide) ((List.mem_cons_of_mem _ (List.mem_append_left _ (List.mem_of_getElem? (i := 1) rfl)))) dX12_letter_29 ?_
      refine lv_iload_n hx hb dX12_letter_32 rfl (lv_at hl 1 rfl) ?_
      refine lv_iload_n hx hb dX12_letter_33 rfl (lv_at hl 2 rfl) ?_
      refine lv_i2b hx hb dX12_letter_34 rfl ?_
      refine M_bast hL C0 hw h (k := a1.toNatClampNeg) rfl dX12_letter_35 (fun t8 H locs hw h => ?_)
      refine lv_iconst (v := 1) hx hb dX12_letter_36 (by decide) ?_
      cases h
      exact W.zret hx hb hr rfl (M_fin C0 hw) hw.2.2.2 dX12_letter_37 hlocks
    · have h := ifp h hc7
      refine lv_iconst (v := 0) hx hb dX12_letter_26 (by decide) ?_
      cases h
      exact W.zret hx hb hr rfl (M_fin C0 hw) hw.2.2.2 dX12_letter_27 hlocks

def fX12_post (st : Sto) : Option (Int32 × Sto) :=
  lt1 (sI st 0 (0) 10 (0 : Int32)) fun (t1 : Sto) =>
  if gI t1 0 (0) 75 = (68 : Int32) then (
   ((lp (σ := (Int32 × Sto)) (ρ := Sto) (un2 fun (v6 : Int32) (t7 : Sto) =>
      if (68 : Int32) ≤ v6 then (
       some (.inr t7)) else (
       ck (0 ≤ v6.toInt ∧ v6.toInt < (lBM (74) (0) : Int)) (
        ck (0 ≤ v6.toInt ∧ v6.toInt < (lBM (75) (0) : Int)) (lt1 (sI t7 (75) (0) (v6.toNatClampNeg) (vp_nar .byte (gI t7 (74) (0) (v6.toNatClampNeg)))) fun (t10 : Sto) =>
         lt1 (v6 + Int32.ofInt (1)) fun (v11 : Int32) =>
         some (.inl (v11, t10)))))) 4000 ((0 : Int32), t1)).bind
    (fun (t8 : Sto) =>
     some ((1 : Int32), t8)))) else (
   some ((0 : Int32), t1))
set_option maxHeartbeats 4000000 in
set_option maxRecDepth 100000 in
theorem mX12_post (l : Launch) (E : XE) (hL : LM E) (st : Sto) {r : Int32} {st1 : Sto} (h : fX12_post st = some (r, st1)) : Met l yX12_post wsX12_post ({ frames := 0, cells := 0, slots := 0, locals := 0 }) (va_Pc [.ref (E.2.2.1 0 (0))] (RM E st)) (QM E (some (.int r)) st1) 0 0 E.2.2.2 := by
  refine Met.ofW (cc := cX12_post) (maxL := 2) (ret := (some .boolean)) (by decide) rfl ?_
  intro p e s m args below meth c s₁ B hml hv
  obtain ⟨rfl, hP, hK⟩ := hv
  have hown : s.vm.findClass RX12 = some m.cls := findClass_of_methodNamed B.named
  have C0 : CX p m c cX12_post 2 s _ wsX12_post RX12 E := ⟨⟨B.exec, B.bytes, hml, hown, atoms_spec (ws := wsX12_post) B.pre⟩, hK⟩
  have hx := B.exec
  have hb := B.bytes
  have hr := B.returns
  have hlocks := B.notSynchronized
  have hw : SM E s st s.heap [] := ⟨hP, va_S.rf⟩
  have hl := lv_entry ([.ref (E.2.2.1 0 (0))]) (n := 2) (Nat.le_of_ble_eq_true rfl)
  rw [lg_entry_eq]
  generalize (lg_sl ([.ref (E.2.2.1 0 (0))]) ++ List.replicate (2 - (lg_sl ([.ref (E.2.2.1 0 (0))])).length) Slot.unset).toArray = ls at hl ⊢
  have hl : lv_has ls 2 [(0, .ref (E.2.2.1 0 (0)))] := hl
  unfold fX12_post at h
  refine lv_aload_n hx hb dX12_post_0 rfl (lv_at hl 0 rfl) ?_
  refine lv_iconst (v := 0) hx hb dX12_post_1 (by decide) ?_
  refine M_p0_10 hL C0 hw (fun w h => (List.mem_cons_of_mem _ (List.mem_append_right _ h))) (by decide) h ((List.mem_cons_of_mem _ (List.mem_append_left _ (List.mem_of_getElem? (i := 0) rfl)))) dX12_post_2 (fun t1 H locs hw h => ?_)
  refine lv_aload_n hx hb dX12_post_5 rfl (lv_at hl 0 rfl) ?_
  refine M_g0_75 C0 hw (fun w h => (List.mem_cons_of_mem _ (List.mem_append_right _ h))) (by decide) ((List.mem_cons_of_mem _ (List.mem_append_left _ (List.mem_of_getElem? (i := 1) rfl)))) dX12_post_6 ?_
  refine lv_bipush (v := 68) hx hb dX12_post_9 (by decide) ?_
  refine lv_icmp_eq (tgt := 16) hx hb dX12_post_11 (by decide) (fun hc2 => ?_) (fun hc2 => ?_)
  · have h := ifp h hc2
    refine lv_iconst (v := 0) hx hb dX12_post_16 (by decide) ?_
    refine lv_istore_n (lv' := [(1, .int (0 : Int32)), (0, .ref (E.2.2.1 0 (0)))]) hx hb dX12_post_17 rfl hl (by decide) rfl (fun ls hl => ?_)
    refine lp_ind (fun q : (Int32 × Sto) => ∀ (H : Heap) (locs : List Loc), SM E s (q.2) H locs → ∀ ls : Array Slot, lv_has ls 2 [(1, .int (q.1)), (0, .ref (E.2.2.1 0 (0)))] → W p l e (headSpec wsX12_post ({ frames := 0, cells := 0, slots := 0, locals := 0 })).room s m ([.ref (E.2.2.1 0 (0))] : List Value).toArray below meth c H locs 0 0 (MQ below (QM E (some (.int r)) st1) ([.ref (E.2.2.1 0 (0))] : List Value).toArray s 0 0 E.2.2.2) (F0 m 18 ls [])) (fun q o5 h hB4 hX3 => ?_) _ _ h _ _ hw _ (lv_sub hl [0, 1] rfl)
    intro H locs hw ls hl
    obtain ⟨v6, t7⟩ := q
    have h := un2_d h
    have hw : SM E s t7 H locs := hw
    have hl : lv_has ls 2 [(1, .int v6), (0, .ref (E.2.2.1 0 (0)))] := hl
    refine lv_iload_n hx hb dX12_post_18 rfl (lv_at hl 0 rfl) ?_
    refine lv_bipush (v := 68) hx hb dX12_post_19 (by decide) ?_
    refine lv_icmp_ge (tgt := 42) hx hb dX12_post_21 (by decide) (fun hc9 => ?_) (fun hc9 => ?_)
    · have h := ifp h hc9
      have h := hX3 _ (Option.some.inj h).symm
      have hl := lv_sub hl (l' := []) [] rfl
      refine lv_iconst (v := 1) hx hb dX12_post_42 (by decide) ?_
      cases h
      exact W.zret hx hb hr rfl (M_fin C0 hw) hw.2.2.2 dX12_post_43 hlocks
    · have h := ifn h hc9
      refine lv_aload_n hx hb dX12_post_24 rfl (lv_at hl 1 rfl) ?_
      refine M_g0_74 C0 hw (fun w h => (List.mem_cons_of_mem _ (List.mem_append_right _ h))) (by decide) ((List.mem_cons_of_mem _ (List.mem_append_left _ (List.mem_of_getElem? (i := 2) rfl)))) dX12_post_25 ?_
      refine lv_iload_n hx hb dX12_post_28 rfl (lv_at hl 0 rfl) ?_
      refine lv_aload_n hx hb dX12_post_29 rfl (lv_at hl 1 rfl) ?_
      refine M_g0_73 C0 hw (fun w h => (List.mem_cons_of_mem _ (List.mem_append_right _ h))) (by decide) ((List.mem_cons_of_mem _ (List.mem_append_left _ (List.mem_of_getElem? (i := 3) rfl)))) dX12_post_30 ?_
      refine lv_iload_n hx hb dX12_post_33 rfl (lv_at hl 0 rfl) ?_
      refine M_bald C0 hw h (k := v6.toNatClampNeg) rfl dX12_post_34 (fun h => ?_)
      refine M_bast hL C0 hw h (k := v6.toNatClampNeg) rfl dX12_post_35 (fun t10 H locs hw h => ?_)
      refine x_iinc hx hb h dX12_post_36 hl (q := 0) rfl (fun v11 => [(1, .int v11), (0, .ref (E.2.2.1 0 (0)))]) (by decide) (fun _ => rfl) (fun v11 ls hl h => ?_)
      refine lv_goto (tgt := 18) hx hb dX12_post_39 (by decide) ?_
      exact hB4 _ (Option.some.inj h).symm _ _ hw _ (lv_sub hl [0, 1] rfl)
  · have h := ifn h hc2
    refine lv_iconst (v := 0) hx hb dX12_post_14 (by decide) ?_
    cases h
    exact W.zret hx hb hr rfl (M_fin C0 hw) hw.2.2.2 dX12_post_15 hlocks

def fX12_fourOf (a1 : Int32) (st : Sto) : Option Int32 :=
  ck (0 ≤ a1.toInt ∧ a1.toInt < (lBM (75) (0) : Int)) (
   ck (0 ≤ (a1 + (1 : Int32)).toInt ∧ (a1 + (1 : Int32)).toInt < (lBM (75) (0) : Int)) (
    ck (0 ≤ (a1 + (2 : Int32)).toInt ∧ (a1 + (2 : Int32)).toInt < (lBM (75) (0) : Int)) (
     ck (0 ≤ (a1 + (3 : Int32)).toInt ∧ (a1 + (3 : Int32)).toInt < (lBM (75) (0) : Int)) (
      some (((((gI st (75) (0) (a1.toNatClampNeg)) <<< ((24 : Int32) &&& 31)) ||| (((gI st (75) (0) ((a1 + (1 : Int32)).toNatClampNeg)) &&& (255 : Int32)) <<< ((16 : Int32) &&& 31))) ||| (((gI st (75) (0) ((a1 + (2 : Int32)).toNatClampNeg)) &&& (255 : Int32)) <<< ((8 : Int32) &&& 31))) ||| ((gI st (75) (0) ((a1 + (3 : Int32)).toNatClampNeg)) &&& (255 : Int32)))))))
set_option maxHeartbeats 4000000 in
set_option maxRecDepth 100000 in
theorem mX12_fourOf (l : Launch) (E : XE) (hL : LM E) (st : Sto) {a1 : Int32} {r : Int32} (h : fX12_fourOf a1 st = some r) : Met l yX12_fourOf wsX12_fourOf ({ frames := 0, cells := 0, slots := 0, locals := 0 }) (va_Pc [.ref (E.2.2.1 0 (0)), .int a1] (RM E st)) (QM E (some (.int r)) st) 0 0 E.2.2.2 := by
  refine Met.ofW (cc := cX12_fourOf) (maxL := 2) (ret := (some .int)) (by decide) rfl ?_
  intro p e s m args below meth c s₁ B hml hv
  obtain ⟨rfl, hP, hK⟩ := hv
  have hown : s.vm.findClass RX12 = some m.cls := findClass_of_methodNamed B.named
  have C0 : CX p m c cX12_fourOf 2 s _ wsX12_fourOf RX12 E := ⟨⟨B.exec, B.bytes, hml, hown, atoms_spec (ws := wsX12_fourOf) B.pre⟩, hK⟩
  have hx := B.exec
  have hb := B.bytes
  have hr := B.returns
  have hlocks := B.notSynchronized
  have hw : SM E s st s.heap [] := ⟨hP, va_S.rf⟩
  have hl := lv_entry ([.ref (E.2.2.1 0 (0)), .int a1]) (n := 2) (Nat.le_of_ble_eq_true rfl)
  rw [lg_entry_eq]
  generalize (lg_sl ([.ref (E.2.2.1 0 (0)), .int a1]) ++ List.replicate (2 - (lg_sl ([.ref (E.2.2.1 0 (0)), .int a1])).length) Slot.unset).toArray = ls at hl ⊢
  have hl : lv_has ls 2 [(0, .ref (E.2.2.1 0 (0))), (1, .int a1)] := hl
  unfold fX12_fourOf at h
  refine lv_aload_n hx hb dX12_fourOf_0 rfl (lv_at hl 0 rfl) ?_
  refine M_g0_74 C0 hw (fun w h => (List.mem_cons_of_mem _ (List.mem_append_right _ h))) (by decide) ((List.mem_cons_of_mem _ (List.mem_append_left _ (List.mem_of_getElem? (i := 0) rfl)))) dX12_fourOf_1 ?_
  refine lv_iload_n hx hb dX12_fourOf_4 rfl (lv_at hl 1 rfl) ?_
  refine M_bald C0 hw h (k := a1.toNatClampNeg) rfl dX12_fourOf_5 (fun h => ?_)
  refine lv_bipush (v := 24) hx hb dX12_fourOf_6 (by decide) ?_
  refine lv_ishl hx hb dX12_fourOf_8 ?_
  refine lv_aload_n hx hb dX12_fourOf_9 rfl (lv_at hl 0 rfl) ?_
  refine M_g0_74 C0 hw (fun w h => (List.mem_cons_of_mem _ (List.mem_append_right _ h))) (by decide) ((List.mem_cons_of_mem _ (List.mem_append_left _ (List.mem_of_getElem? (i := 0) rfl)))) dX12_fourOf_10 ?_
  refine lv_iload_n hx hb dX12_fourOf_13 rfl (lv_at hl 1 rfl) ?_
  refine lv_iconst (v := 1) hx hb dX12_fourOf_14 (by decide) ?_
  refine lv_iadd hx hb dX12_fourOf_15 ?_
  refine M_bald C0 hw h (k := (a1 + (1 : Int32)).toNatClampNeg) rfl dX12_fourOf_16 (fun h => ?_)
  refine lv_sipush (v := 255) hx hb dX12_fourOf_17 (by decide) ?_
  refine lv_iand hx hb dX12_fourOf_20 ?_
  refine lv_bipush (v := 16) hx hb dX12_fourOf_21 (by decide) ?_
  refine lv_ishl hx hb dX12_fourOf_23 ?_
  refine lv_ior hx hb dX12_fourOf_24 ?_
  refine lv_aload_n hx hb dX12_fourOf_25 rfl (lv_at hl 0 rfl) ?_
  refine M_g0_74 C0 hw (fun w h => (List.mem_cons_of_mem _ (List.mem_append_right _ h))) (by decide) ((List.mem_cons_of_mem _ (List.mem_append_left _ (List.mem_of_getElem? (i := 0) rfl)))) dX12_fourOf_26 ?_
  refine lv_iload_n hx hb dX12_fourOf_29 rfl (lv_at hl 1 rfl) ?_
  refine lv_iconst (v := 2) hx hb dX12_fourOf_30 (by decide) ?_
  refine lv_iadd hx hb dX12_fourOf_31 ?_
  refine M_bald C0 hw h (k := (a1 + (2 : Int32)).toNatClampNeg) rfl dX12_fourOf_32 (fun h => ?_)
  refine lv_sipush (v := 255) hx hb dX12_fourOf_33 (by decide) ?_
  refine lv_iand hx hb dX12_fourOf_36 ?_
  refine lv_bipush (v := 8) hx hb dX12_fourOf_37 (by decide) ?_
  refine lv_ishl hx hb dX12_fourOf_39 ?_
  refine lv_ior hx hb dX12_fourOf_40 ?_
  refine lv_aload_n hx hb dX12_fourOf_41 rfl (lv_at hl 0 rfl) ?_
  refine M_g0_74 C0 hw (fun w h => (List.mem_cons_of_mem _ (List.mem_append_right _ h))) (by decide) ((List.mem_cons_of_mem _ (List.mem_append_left _ (List.mem_of_getElem? (i := 0) rfl)))) dX12_fourOf_42 ?_
  refine lv_iload_n hx hb dX12_fourOf_45 rfl (lv_at hl 1 rfl) ?_
  refine lv_iconst (v := 3) hx hb dX12_fourOf_46 (by decide) ?_
  refine lv_iadd hx hb dX12_fourOf_47 ?_
  refine M_bald C0 hw h (k := (a1 + (3 : Int32)).toNatClampNeg) rfl dX12_fourOf_48 (fun h => ?_)
  refine lv_sipush (v := 255) hx hb dX12_fourOf_49 (by decide) ?_
  refine lv_iand hx hb dX12_fourOf_52 ?_
  refine lv_ior hx hb dX12_fourOf_53 ?_
  cases h
  exact W.iret hx hb hr (M_fin C0 hw) hw.2.2.2 dX12_fourOf_54 hlocks

def fX12_unpack (st : Sto) : Option (Int32 × Sto) :=
  lt1 (sI st 0 (0) 10 (0 : Int32)) fun (t1 : Sto) =>
  (fX12_sumOf (75) (0) t1).bind (fun (v2 : Int32) =>
   (fX12_fourOf (64 : Int32) t1).bind (fun (v4 : Int32) =>
    if v2 = v4 then (
     ((lp (σ := Int32) (ρ := ((Int32 × Sto) ⊕ Unit)) (fun (v10 : Int32) =>
        if (16 : Int32) ≤ v10 then (
         some (.inr (.inr ()))) else (
         (fX12_fourOf ((4 : Int32) * v10) t1).bind (fun (v25 : Int32) =>
          (fX12_isFloat v25).bind (fun (v27 : Int32) =>
           if v27 = 0 then (
            (fX12_not (3 : Int32) t1).bind (un2 fun (v31 : Int32) (t32 : Sto) =>
             ck (v31 &&& 1 = v31) (
              some (.inr (.inl (v31, t32)))))) else (
            lt1 (v10 + Int32.ofInt (1)) fun (v30 : Int32) =>
            some (.inl v30)))))) 4000 (0 : Int32)).bind
      (sm (fun (q : (Int32 × Sto)) => some q) (fun (_ : Unit) =>
        ((lp (σ := (Int32 × Sto)) (ρ := Sto) (un2 fun (v37 : Int32) (t38 : Sto) =>
           if (16 : Int32) ≤ v37 then (
            some (.inr t38)) else (
            (fX12_fourOf ((4 : Int32) * v37) t38).bind (fun (v41 : Int32) =>
             ck (vn_sni2f v41 = false) (
              ck (0 ≤ v37.toInt ∧ v37.toInt < (lFM (1) (0) : Int)) (lt1 (sF t38 (1) (0) (v37.toNatClampNeg) (v41.toUInt32)) fun (t43 : Sto) =>
               lt1 (v37 + Int32.ofInt (1)) fun (v44 : Int32) =>
               some (.inl (v44, t43))))))) 4000 ((0 : Int32), t1)).bind
         (fun (t39 : Sto) =>
          lt1 (sI t39 0 (0) 9 (0 : Int32)) fun (t45 : Sto) =>
          some ((1 : Int32), t45))))))) else (
     (fX12_not (5 : Int32) t1).bind (un2 fun (v46 : Int32) (t47 : Sto) =>
      ck (v46 &&& 1 = v46) (
       some (v46, t47))))))
set_option maxHeartbeats 4000000 in
set_option maxRecDepth 100000 in
theorem mX12_unpack (l : Launch) (E : XE) (hL : LM E) (st : Sto) {r : Int32} {st1 : Sto} (h : fX12_unpack st = some (r, st1)) : Met l yX12_unpack wsX12_unpack ({ frames := 1, cells := 0, slots := 0, locals := 23 }) (va_Pc [.ref (E.2.2.1 0 (0))] (RM E st)) (QM E (some (.int r)) st1) 0 0 E.2.2.2 := by
  refine Met.ofW (cc := cX12_unpack) (maxL := 2) (ret := (some .boolean)) (by decide) rfl ?_
  intro p e s m args below meth c s₁ B hml hv
  obtain ⟨rfl, hP, hK⟩ := hv
  have hown : s.vm.findClass RX12 = some m.cls := findClass_of_methodNamed B.named
  have C0 : CX p m c cX12_unpack 2 s _ wsX12_unpack RX12 E := ⟨⟨B.exec, B.bytes, hml, hown, atoms_spec (ws := wsX12_unpack) B.pre⟩, hK⟩
  have hx := B.exec
  have hb := B.bytes
  have hr := B.returns
  have hlocks := B.notSynchronized
  have hw : SM E s st s.heap [] := ⟨hP, va_S.rf⟩
  have hl := lv_entry ([.ref (E.2.2.1 0 (0))]) (n := 2) (Nat.le_of_ble_eq_true rfl)
  rw [lg_entry_eq]
  generalize (lg_sl ([.ref (E.2.2.1 0 (0))]) ++ List.replicate (2 - (lg_sl ([.ref (E.2.2.1 0 (0))])).length) Slot.unset).toArray = ls at hl ⊢
  have hl : lv_has ls 2 [(0, .ref (E.2.2.1 0 (0)))] := hl
  unfold fX12_unpack at h
  refine lv_aload_n hx hb dX12_unpack_0 rfl (lv_at hl 0 rfl) ?_
  refine lv_iconst (v := 0) hx hb dX12_unpack_1 (by decide) ?_
  refine M_p0_10 hL C0 hw (fun w h => (List.mem_cons_of_mem _ (List.mem_append_right _ h))) (by decide) h ((List.mem_cons_of_mem _ (List.mem_append_left _ (List.mem_append_left _ (List.mem_of_getElem? (i := 0) rfl))))) dX12_unpack_2 (fun t1 H locs hw h => ?_)
  refine lv_aload_n hx hb dX12_unpack_5 rfl (lv_at hl 0 rfl) ?_
  refine lv_aload_n hx hb dX12_unpack_6 rfl (lv_at hl 0 rfl) ?_
  refine M_g0_74 C0 hw (fun w h => (List.mem_cons_of_mem _ (List.mem_append_right _ h))) (by decide) ((List.mem_cons_of_mem _ (List.mem_append_left _ (List.mem_append_left _ (List.mem_of_getElem? (i := 1) rfl))))) dX12_unpack_7 ?_
  obtain ⟨v2, hf3, h⟩ := bn_c h
  refine M_callV C0 hw (As := [.ref (E.2.2.1 (75) (0))]) (rest := []) (mX12_sumOf l E hL t1 hf3) (cwV 1 C0.1.2.2.2.2 gX12_unpack_X12_sumOf rfl rfl rfl (by decide +kernel) ⟨Nat.le_of_ble_eq_true rfl, Nat.le_of_ble_eq_true rfl⟩) (M_recv_0 C0 hw (by decide)) rfl hl.1 rfl (Nat.le_of_ble_eq_true rfl) dX12_unpack_10 ⟨Nat.zero_le _, Nat.zero_le _⟩ (fun H locs hw => ?_)
  refine W.eq (g2 := F0 m 13 ls [.int v2]) rfl ?_
  refine lv_aload_n hx hb dX12_unpack_13 rfl (lv_at hl 0 rfl) ?_
  refine lv_bipush (v := 64) hx hb dX12_unpack_14 (by decide) ?_
  obtain ⟨v4, hf5, h⟩ := bn_c h
  refine M_callV C0 hw (As := [.int (64 : Int32)]) (rest := [.int v2]) (mX12_fourOf l E hL t1 hf5) (cwV 1 C0.1.2.2.2.2 gX12_unpack_X12_fourOf rfl rfl rfl (by decide +kernel) ⟨Nat.le_of_ble_eq_true rfl, Nat.le_of_ble_eq_true rfl⟩) (M_recv_0 C0 hw (by decide)) rfl hl.1 rfl (Nat.le_of_ble_eq_true rfl) dX12_unpack_16 ⟨Nat.zero_le _, Nat.zero_le _⟩ (fun H locs hw => ?_)
  refine W.eq (g2 := F0 m 19 ls [.int v4, .int v2]) rfl ?_
  refine lv_icmp_eq (tgt := 28) hx hb dX12_unpack_19 (by decide) (fun hc6 => ?_) (fun hc6 => ?_)
  · have h := ifp h hc6
    refine lv_iconst (v := 0) hx hb dX12_unpack_28 (by decide) ?_
    refine lv_istore_n (lv' := [(1, .int (0 : Int32)), (0, .ref (E.2.2.1 0 (0)))]) hx hb dX12_unpack_29 rfl hl (by decide) rfl (fun ls hl => ?_)
    refine lp_ind (fun q : Int32 => ∀ (H : Heap) (locs : List Loc), SM E s t1 H locs → ∀ ls : Array Slot, lv_has ls 2 [(1, .int q), (0, .ref (E.2.2.1 0 (0)))] → W p l e (headSpec wsX12_unpack ({ frames := 1, cells := 0, slots := 0, locals := 23 })).room s m ([.ref (E.2.2.1 0 (0))] : List Value).toArray below meth c H locs 0 0 (MQ below (QM E (some (.int r)) st1) ([.ref (E.2.2.1 0 (0))] : List Value).toArray s 0 0 E.2.2.2) (F0 m 30 ls [])) (fun q o9 h hB8 hX7 => ?_) _ _ h _ _ hw _ (lv_sub hl [0, 1] rfl)
    intro H locs hw ls hl
    obtain ⟨v10, rfl⟩ : ∃ z, z = q := ⟨_, rfl⟩
    have hl : lv_has ls 2 [(1, .int v10), (0, .ref (E.2.2.1 0 (0)))] := hl
    refine lv_iload_n hx hb dX12_unpack_30 rfl (lv_at hl 0 rfl) ?_
    refine lv_bipush (v := 16) hx hb dX12_unpack_31 (by decide) ?_
    refine lv_icmp_ge (tgt := 62) hx hb dX12_unpack_33 (by decide) (fun hc11 => ?_) (fun hc11 => ?_)
    · have h := ifp h hc11
      have h := hX7 _ (Option.some.inj h).symm
      have h := sm_r h
      have hl := lv_sub hl (l' := [(0, .ref (E.2.2.1 0 (0)))]) [1] rfl
      refine lv_iconst (v := 0) hx hb dX12_unpack_62 (by decide) ?_
      refine lv_istore_n (lv' := [(1, .int (0 : Int32)), (0, .ref (E.2.2.1 0 (0)))]) hx hb dX12_unpack_63 rfl hl (by decide) rfl (fun ls hl => ?_)
      refine lp_ind (fun q : (Int32 × Sto) => ∀ (H : Heap) (locs : List Loc), SM E s (q.2) H locs → ∀ ls : Array Slot, lv_has ls 2 [(1, .int (q.1)), (0, .ref (E.2.2.1 0 (0)))] → W p l e (headSpec wsX12_unpack ({ frames := 1, cells := 0, slots := 0, locals := 23 })).room s m ([.ref (E.2.2.1 0 (0))] : List Value).toArray below meth c H locs 0 0 (MQ below (QM E (some (.int r)) st1) ([.ref (E.2.2.1 0 (0))] : List Value).toArray s 0 0 E.2.2.2) (F0 m 64 ls [])) (fun q o14 h hB13 hX12 => ?_) _ _ h _ _ hw _ (lv_sub hl [0, 1] rfl)
      intro H locs hw ls hl
      obtain ⟨v15, t16⟩ := q
      have h := un2_d h
      have hw : SM E s t16 H locs := hw
      have hl : lv_has ls 2 [(1, .int v15), (0, .ref (E.2.2.1 0 (0)))] := hl
      refine lv_iload_n hx hb dX12_unpack_64 rfl (lv_at hl 0 rfl) ?_
      refine lv_bipush (v := 16) hx hb dX12_unpack_65 (by decide) ?_
      refine lv_icmp_ge (tgt := 92) hx hb dX12_unpack_67 (by decide) (fun hc18 => ?_) (fun hc18 => ?_)
      · have h := ifp h hc18
        have h := hX12 _ (Option.some.inj h).symm
        have hl := lv_sub hl (l' := [(0, .ref (E.2.2.1 0 (0)))]) [1] rfl
        refine lv_aload_n hx hb dX12_unpack_92 rfl (lv_at hl 0 rfl) ?_
        refine lv_iconst (v := 0) hx hb dX12_unpack_93 (by decide) ?_
        refine M_p0_9 hL C0 hw (fun w h => (List.mem_cons_of_mem _ (List.mem_append_right _ h))) (by decide) h ((List.mem_cons_of_mem _ (List.mem_append_left _ (List.mem_append_left _ (List.mem_of_getElem? (i := 7) rfl))))) dX12_unpack_94 (fun t19 H locs hw h => ?_)
        refine lv_iconst (v := 1) hx hb dX12_unpack_97 (by decide) ?_
        cases h
        exact W.zret hx hb hr rfl (M_fin C0 hw) hw.2.2.2 dX12_unpack_98 hlocks
      · have h := ifn h hc18
        refine lv_aload_n hx hb dX12_unpack_70 rfl (lv_at hl 1 rfl) ?_
        refine M_g0_0 C0 hw (fun w h => (List.mem_cons_of_mem _ (List.mem_append_right _ h))) (by decide) ((List.mem_cons_of_mem _ (List.mem_append_left _ (List.mem_append_left _ (List.mem_of_getElem? (i := 2) rfl))))) dX12_unpack_71 ?_
        refine lv_iload_n hx hb dX12_unpack_74 rfl (lv_at hl 0 rfl) ?_
        refine lv_aload_n hx hb dX12_unpack_75 rfl (lv_at hl 1 rfl) ?_
        refine lv_iconst (v := 4) hx hb dX12_unpack_76 (by decide) ?_
        refine lv_iload_n hx hb dX12_unpack_77 rfl (lv_at hl 0 rfl) ?_
        refine lv_imul hx hb dX12_unpack_78 ?_
        obtain ⟨v20, hf21, h⟩ := bn_c h
        refine M_callV C0 hw (As := [.int ((4 : Int32) * v15)]) (rest := [.int v15, .ref (E.2.2.1 (1) (0))]) (mX12_fourOf l E hL t16 hf21) (cwV 1 C0.1.2.2.2.2 gX12_unpack_X12_fourOf rfl rfl rfl (by decide +kernel) ⟨Nat.le_of_ble_eq_true rfl, Nat.le_of_ble_eq_true rfl⟩) (M_recv_0 C0 hw (by decide)) rfl hl.1 rfl (Nat.le_of_ble_eq_true rfl) dX12_unpack_79 ⟨Nat.zero_le _, Nat.zero_le _⟩ (fun H locs hw => ?_)
        refine W.eq (g2 := F0 m 82 ls [.int v20, .int v15, .ref (E.2.2.1 (1) (0))]) rfl ?_
        obtain ⟨hg, h⟩ := ck_c h
        refine vn_i2f hx hb (hml.trans hl.1.symm) hown (C0.1.2.2.2.2 _ (List.mem_cons_of_mem _ (List.mem_append_left _ (List.mem_append_left _ (List.mem_of_getElem? (i := 3) rfl))))) (C0.1.2.2.2.2 _ (List.mem_cons_of_mem _ (List.mem_append_left _ (List.mem_append_left _ (List.mem_of_getElem? (i := 4) rfl))))) (C0.1.2.2.2.2 _ (List.mem_cons_of_mem _ (List.mem_append_left _ (List.mem_append_left _ (List.mem_of_getElem? (i := 5) rfl))))) (C0.1.2.2.2.2 _ (List.mem_cons_of_mem _ (List.mem_append_left _ (List.mem_append_left _ (List.mem_of_getElem? (i := 6) rfl))))) hg (Nat.le_of_ble_eq_true rfl) (Nat.le_of_ble_eq_true rfl) dX12_unpack_82 ?_
        refine M_fast hL C0 hw h (k := v15.toNatClampNeg) rfl dX12_unpack_85 (fun t22 H locs hw h => ?_)
        refine x_iinc hx hb h dX12_unpack_86 hl (q := 0) rfl (fun v23 => [(1, .int v23), (0, .ref (E.2.2.1 0 (0)))]) (by decide) (fun _ => rfl) (fun v23 ls hl h => ?_)
        refine lv_goto (tgt := 64) hx hb dX12_unpack_89 (by decide) ?_
        exact hB13 _ (Option.some.inj h).symm _ _ hw _ (lv_sub hl [0, 1] rfl)
    · have h := ifn h hc11
      refine lv_aload_n hx hb dX12_unpack_36 rfl (lv_at hl 1 rfl) ?_
      refine lv_aload_n hx hb dX12_unpack_37 rfl (lv_at hl 1 rfl) ?_
      refine lv_iconst (v := 4) hx hb dX12_unpack_38 (by decide) ?_
      refine lv_iload_n hx hb dX12_unpack_39 rfl (lv_at hl 0 rfl) ?_
      refine lv_imul hx hb dX12_unpack_40 ?_
      obtain ⟨v25, hf26, h⟩ := bn_c h
      refine M_callV C0 hw (As := [.int ((4 : Int32) * v10)]) (rest := [.ref (E.2.2.1 0 (0))]) (mX12_fourOf l E hL t1 hf26) (cwV 1 C0.1.2.2.2.2 gX12_unpack_X12_fourOf rfl rfl rfl (by decide +kernel) ⟨Nat.le_of_ble_eq_true rfl, Nat.le_of_ble_eq_true rfl⟩) (M_recv_0 C0 hw (by decide)) rfl hl.1 rfl (Nat.le_of_ble_eq_true rfl) dX12_unpack_41 ⟨Nat.zero_le _, Nat.zero_le _⟩ (fun H locs hw => ?_)
      refine W.eq (g2 := F0 m 44 ls [.int v25, .ref (E.2.2.1 0 (0))]) rfl ?_
      obtain ⟨v27, hf28, h⟩ := bn_c h
      refine M_callV C0 hw (As := [.int v25]) (rest := []) (mX12_isFloat l E hL t1 hf28) (cwV 1 C0.1.2.2.2.2 gX12_unpack_X12_isFloat rfl rfl rfl (by decide +kernel) ⟨Nat.le_of_ble_eq_true rfl, Nat.le_of_ble_eq_true rfl⟩) (M_recv_0 C0 hw (by decide)) rfl hl.1 rfl (Nat.le_of_ble_eq_true rfl) dX12_unpack_44 ⟨Nat.zero_le _, Nat.zero_le _⟩ (fun H locs hw => ?_)
      refine W.eq (g2 := F0 m 47 ls [.int v27]) rfl ?_
      refine lv_if_ne (tgt := 56) hx hb dX12_unpack_47 (by decide) (fun hc29 => ?_) (fun hc29 => ?_)
      · have h := ifn h hc29
        refine x_iinc hx hb h dX12_unpack_56 hl (q := 0) rfl (fun v30 => [(1, .int v30), (0, .ref (E.2.2.1 0 (0)))]) (by decide) (fun _ => rfl) (fun v30 ls hl h => ?_)
        refine lv_goto (tgt := 30) hx hb dX12_unpack_59 (by decide) ?_
        exact hB8 _ (Option.some.inj h).symm _ _ hw _ (lv_sub hl [0, 1] rfl)
      · have h := ifp h hc29
        refine lv_aload_n hx hb dX12_unpack_50 rfl (lv_at hl 1 rfl) ?_
        refine lv_iconst (v := 3) hx hb dX12_unpack_51 (by decide) ?_
        obtain ⟨⟨v31, t32⟩, hf33, h⟩ := bn_c h
        have h := un2_d h
        refine M_callV C0 hw (As := [.int (3 : Int32)]) (rest := []) (mX12_not l E hL t1 hf33) (cwV 1 C0.1.2.2.2.2 gX12_unpack_X12_not rfl rfl rfl (by decide +kernel) ⟨Nat.le_of_ble_eq_true rfl, Nat.le_of_ble_eq_true rfl⟩) (M_recv_0 C0 hw (by decide)) rfl hl.1 rfl (Nat.le_of_ble_eq_true rfl) dX12_unpack_52 ⟨Nat.zero_le _, Nat.zero_le _⟩ (fun H locs hw => ?_)
        refine W.eq (g2 := F0 m 55 ls [.int v31]) rfl ?_
        obtain ⟨hz, h⟩ := ck_c h
        have h := hX7 _ (Option.some.inj h).symm
        have h := sm_l h
        cases h
        exact W.zret hx hb hr (zz hz) (M_fin C0 hw) hw.2.2.2 dX12_unpack_55 hlocks
  · have h := ifn h hc6
    refine lv_aload_n hx hb dX12_unpack_22 rfl (lv_at hl 0 rfl) ?_
    refine lv_iconst (v := 5) hx hb dX12_unpack_23 (by decide) ?_
    obtain ⟨⟨v46, t47⟩, hf48, h⟩ := bn_c h
    have h := un2_d h
    refine M_callV C0 hw (As := [.int (5 : Int32)]) (rest := []) (mX12_not l E hL t1 hf48) (cwV 1 C0.1.2.2.2.2 gX12_unpack_X12_not rfl rfl rfl (by decide +kernel) ⟨Nat.le_of_ble_eq_true rfl, Nat.le_of_ble_eq_true rfl⟩) (M_recv_0 C0 hw (by decide)) rfl hl.1 rfl (Nat.le_of_ble_eq_true rfl) dX12_unpack_24 ⟨Nat.zero_le _, Nat.zero_le _⟩ (fun H locs hw => ?_)
    refine W.eq (g2 := F0 m 27 ls [.int v46]) rfl ?_
    obtain ⟨hz, h⟩ := ck_c h
    cases h
    exact W.zret hx hb hr (zz hz) (M_fin C0 hw) hw.2.2.2 dX12_unpack_27 hlocks
