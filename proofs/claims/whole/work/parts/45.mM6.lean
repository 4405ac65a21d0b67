def fX12_recipeOf (a1 : Int32) (st : Sto) : Option (Int32 × Sto) :=
  lt1 (sI st 0 (0) 10 (0 : Int32)) fun (t1 : Sto) =>
  if gI t1 0 (0) 57 = 0 then (
   some ((-1 : Int32), t1)) else (
   (fX12_is a1 (8 : Int32)).bind (fun (v3 : Int32) =>
    if v3 = 0 then (
     some ((-1 : Int32), t1)) else (
     if a1 = 0 then (
      some (gI t1 0 (0) 52, t1)) else (
      if a1 = (1 : Int32) then (
       if gI t1 0 (0) 55 = 0 then (
        some ((0 : Int32), t1)) else (
        some ((1 : Int32), t1))) else (
       ck (0 ≤ (a1 - (2 : Int32)).toInt ∧ (a1 - (2 : Int32)).toInt < (lIM (64) (0) : Int)) (
        some (gI t1 (64) (0) ((a1 - (2 : Int32)).toNatClampNeg), t1)))))))
set_option maxHeartbeats 4000000 in
set_option maxRecDepth 100000 in
theorem mX12_recipeOf (l : Launch) (E : XE) (hL : LM E) (st : Sto) {a1 : Int32} {r : Int32} {st1 : Sto} (h : fX12_recipeOf a1 st = some (r, st1)) : Met l yX12_recipeOf wsX12_recipeOf ({ frames := 1, cells := 0, slots := 0, locals := 22 }) (va_Pc [.ref (E.2.2.1 0 (0)), .int a1] (RM E st)) (QM E (some (.int r)) st1) 0 0 E.2.2.2 := by
  refine Met.ofW (cc := cX12_recipeOf) (maxL := 2) (ret := (some .int)) (by decide) rfl ?_
  intro p e s m args below meth c s₁ B hml hv
  obtain ⟨rfl, hP, hK⟩ := hv
  have hown : s.vm.findClass RX12 = some m.cls := findClass_of_methodNamed B.named
  have C0 : CX p m c cX12_recipeOf 2 s _ wsX12_recipeOf RX12 E := ⟨⟨B.exec, B.bytes, hml, hown, atoms_spec (ws := wsX12_recipeOf) B.pre⟩, hK⟩
  have hx := B.exec
  have hb := B.bytes
  have hr := B.returns
  have hlocks := B.notSynchronized
  have hw : SM E s st s.heap [] := ⟨hP, va_S.rf⟩
  have hl := lv_entry ([.ref (E.2.2.1 0 (0)), .int a1]) (n := 2) (Nat.le_of_ble_eq_true rfl)
  rw [lg_entry_eq]
  generalize (lg_sl ([.ref (E.2.2.1 0 (0)), .int a1]) ++ List.replicate (2 - (lg_sl ([.ref (E.2.2.1 0 (0)), .int a1])).length) Slot.unset).toArray = ls at hl ⊢
  have hl : lv_has ls 2 [(0, .ref (E.2.2.1 0 (0))), (1, .int a1)] := hl
  unfold fX12_recipeOf at h
  refine lv_aload_n hx hb dX12_recipeOf_0 rfl (lv_at hl 0 rfl) ?_
  refine lv_iconst (v := 0) hx hb dX12_recipeOf_1 (by decide) ?_
  refine M_p0_10 hL C0 hw (fun w h => (List.mem_cons_of_mem _ (List.mem_append_right _ h))) (by decide) h ((List.mem_cons_of_mem _ (List.mem_append_left _ (List.mem_of_getElem? (i := 0) rfl)))) dX12_recipeOf_2 (fun t1 H locs hw h => ?_)
  refine lv_aload_n hx hb dX12_recipeOf_5 rfl (lv_at hl 0 rfl) ?_
  refine M_g0_57 C0 hw (fun w h => (List.mem_cons_of_mem _ (List.mem_append_right _ h))) (by decide) ((List.mem_cons_of_mem _ (List.mem_append_left _ (List.mem_of_getElem? (i := 1) rfl)))) dX12_recipeOf_6 ?_
  refine lv_if_eq (tgt := 22) hx hb dX12_recipeOf_9 (by decide) (fun hc2 => ?_) (fun hc2 => ?_)
  · have h := ifp h hc2
    refine lv_iconst (v := -1) hx hb dX12_recipeOf_22 (by decide) ?_
    cases h
    exact W.iret hx hb hr (M_fin C0 hw) hw.2.2.2 dX12_recipeOf_23 hlocks
  · have h := ifn h hc2
    refine lv_aload_n hx hb dX12_recipeOf_12 rfl (lv_at hl 0 rfl) ?_
    refine lv_iload_n hx hb dX12_recipeOf_13 rfl (lv_at hl 1 rfl) ?_
    refine lv_bipush (v := 8) hx hb dX12_recipeOf_14 (by decide) ?_
    obtain ⟨v3, hf4, h⟩ := bn_c h
    refine M_callV C0 hw (As := [.int a1, .int (8 : Int32)]) (rest := []) (mX12_is l E hL t1 hf4) (cwV 2 C0.1.2.2.2.2 gX12_recipeOf_X12_is rfl rfl rfl (by decide +kernel) ⟨Nat.le_of_ble_eq_true rfl, Nat.le_of_ble_eq_true rfl⟩) (M_recv_0 C0 hw (by decide)) rfl hl.1 rfl (Nat.le_of_ble_eq_true rfl) dX12_recipeOf_16 ⟨Nat.zero_le _, Nat.zero_le _⟩ (fun H locs hw => ?_)
    refine W.eq (g2 := F0 m 19 ls [.int v3]) rfl ?_
    refine lv_if_ne (tgt := 24) hx hb dX12_recipeOf_19 (by decide) (fun hc5 => ?_) (fun hc5 => ?_)
    · have h := ifn h hc5
      refine lv_iload_n hx hb dX12_recipeOf_24 rfl (lv_at hl 1 rfl) ?_
      refine lv_if_ne (tgt := 35) hx hb dX12_recipeOf_25 (by decide) (fun hc6 => ?_) (fun hc6 => ?_)
      · have h := ifn h hc6
        refine lv_iload_n hx hb dX12_recipeOf_35 rfl (lv_at hl 1 rfl) ?_
        refine lv_iconst (v := 1) hx hb dX12_recipeOf_36 (by decide) ?_
        refine lv_icmp_ne (tgt := 55) hx hb dX12_recipeOf_37 (by decide) (fun hc7 => ?_) (fun hc7 => ?_)
        · have h := ifn h hc7
          refine lv_aload_n hx hb dX12_recipeOf_55 rfl (lv_at hl 0 rfl) ?_
          refine M_g0_63 C0 hw (fun w h => (List.mem_cons_of_mem _ (List.mem_append_right _ h))) (by decide) ((List.mem_cons_of_mem _ (List.mem_append_left _ (List.mem_of_getElem? (i := 4) rfl)))) dX12_recipeOf_56 ?_
          refine lv_iload_n hx hb dX12_recipeOf_59 rfl (lv_at hl 1 rfl) ?_
          refine lv_iconst (v := 2) hx hb dX12_recipeOf_60 (by decide) ?_
          refine lv_isub hx hb dX12_recipeOf_61 ?_
          refine M_iald C0 hw h (k := (a1 - (2 : Int32)).toNatClampNeg) rfl dX12_recipeOf_62 (fun h => ?_)
          cases h
          exact W.iret hx hb hr (M_fin C0 hw) hw.2.2.2 dX12_recipeOf_63 hlocks
        · have h := ifp h hc7
          refine lv_aload_n hx hb dX12_recipeOf_40 rfl (lv_at hl 0 rfl) ?_
          refine M_g0_55 C0 hw (fun w h => (List.mem_cons_of_mem _ (List.mem_append_right _ h))) (by decide) ((List.mem_cons_of_mem _ (List.mem_append_left _ (List.mem_of_getElem? (i := 3) rfl)))) dX12_recipeOf_41 ?_
          refine lv_if_eq (tgt := 51) hx hb dX12_recipeOf_44 (by decide) (fun hc8 => ?_) (fun hc8 => ?_)
          · have h := ifp h hc8
            refine lv_iconst (v := 0) hx hb dX12_recipeOf_51 (by decide) ?_
            refine lv_goto (tgt := 63) hx hb dX12_recipeOf_52 (by decide) ?_
            cases h
            exact W.iret hx hb hr (M_fin C0 hw) hw.2.2.2 dX12_recipeOf_63 hlocks
          · have h := ifn h hc8
            refine lv_iconst (v := 1) hx hb dX12_recipeOf_47 (by decide) ?_
            refine lv_goto (tgt := 63) hx hb dX12_recipeOf_48 (by decide) ?_
            cases h
            exact W.iret hx hb hr (M_fin C0 hw) hw.2.2.2 dX12_recipeOf_63 hlocks
      · have h := ifp h hc6
        refine lv_aload_n hx hb dX12_recipeOf_28 rfl (lv_at hl 0 rfl) ?_
        refine M_g0_52 C0 hw (fun w h => (List.mem_cons_of_mem _ (List.mem_append_right _ h))) (by decide) ((List.mem_cons_of_mem _ (List.mem_append_left _ (List.mem_of_getElem? (i := 2) rfl)))) dX12_recipeOf_29 ?_
        refine lv_goto (tgt := 63) hx hb dX12_recipeOf_32 (by decide) ?_
        cases h
        exact W.iret hx hb hr (M_fin C0 hw) hw.2.2.2 dX12_recipeOf_63 hlocks
    · have h := ifp h hc5
      refine lv_iconst (v := -1) hx hb dX12_recipeOf_22 (by decide) ?_
      cases h
      exact W.iret hx hb hr (M_fin C0 hw) hw.2.2.2 dX12_recipeOf_23 hlocks

def fX12_recipeBy (a1 : Int32) (st : Sto) : Option (Int64 × Sto) :=
  lt1 (sI st 0 (0) 10 (0 : Int32)) fun (t1 : Sto) =>
  if gI t1 0 (0) 57 = 0 then (
   some ((0 : Int64), t1)) else (
   if a1 = 0 then (
    (fmJxe99ae_doubleToLongBits_ccdee (gD t1 0 (0) 64)).bind (fun (v5 : Int64) =>
     some (v5, t1))) else (
    if a1 = (1 : Int32) then (
     some (gL t1 0 (0) 65, t1)) else (
     some ((0 : Int64), t1))))
set_option maxHeartbeats 4000000 in
set_option maxRecDepth 100000 in
theorem mX12_recipeBy (l : Launch) (E : XE) (hL : LM E) (st : Sto) {a1 : Int32} {r : Int64} {st1 : Sto} (h : fX12_recipeBy a1 st = some (r, st1)) : Met l yX12_recipeBy wsX12_recipeBy ({ frames := 2, cells := 0, slots := 0, locals := 44 }) (va_Pc [.ref (E.2.2.1 0 (0)), .int a1] (RM E st)) (QM E (some (.long r)) st1) 0 0 E.2.2.2 := by
  refine Met.ofW (cc := cX12_recipeBy) (maxL := 2) (ret := (some .long)) (by decide) rfl ?_
  intro p e s m args below meth c s₁ B hml hv
  obtain ⟨rfl, hP, hK⟩ := hv
  have hown : s.vm.findClass RX12 = some m.cls := findClass_of_methodNamed B.named
  have C0 : CX p m c cX12_recipeBy 2 s _ wsX12_recipeBy RX12 E := ⟨⟨B.exec, B.bytes, hml, hown, atoms_spec (ws := wsX12_recipeBy) B.pre⟩, hK⟩
  have hx := B.exec
  have hb := B.bytes
  have hr := B.returns
  have hlocks := B.notSynchronized
  have hw : SM E s st s.heap [] := ⟨hP, va_S.rf⟩
  have hl := lv_entry ([.ref (E.2.2.1 0 (0)), .int a1]) (n := 2) (Nat.le_of_ble_eq_true rfl)
  rw [lg_entry_eq]
  generalize (lg_sl ([.ref (E.2.2.1 0 (0)), .int a1]) ++ List.replicate (2 - (lg_sl ([.ref (E.2.2.1 0 (0)), .int a1])).length) Slot.unset).toArray = ls at hl ⊢
  have hl : lv_has ls 2 [(0, .ref (E.2.2.1 0 (0))), (1, .int a1)] := hl
  unfold fX12_recipeBy at h
  refine lv_aload_n hx hb dX12_recipeBy_0 rfl (lv_at hl 0 rfl) ?_
  refine lv_iconst (v := 0) hx hb dX12_recipeBy_1 (by decide) ?_
  refine M_p0_10 hL C0 hw (fun w h => (List.mem_cons_of_mem _ (List.mem_append_right _ h))) (by decide) h ((List.mem_cons_of_mem _ (List.mem_append_left _ (List.mem_of_getElem? (i := 0) rfl)))) dX12_recipeBy_2 (fun t1 H locs hw h => ?_)
  refine lv_aload_n hx hb dX12_recipeBy_5 rfl (lv_at hl 0 rfl) ?_
  refine M_g0_57 C0 hw (fun w h => (List.mem_cons_of_mem _ (List.mem_append_right _ h))) (by decide) ((List.mem_cons_of_mem _ (List.mem_append_left _ (List.mem_of_getElem? (i := 1) rfl)))) dX12_recipeBy_6 ?_
  refine lv_if_ne (tgt := 14) hx hb dX12_recipeBy_9 (by decide) (fun hc2 => ?_) (fun hc2 => ?_)
  · have h := ifn h hc2
    refine lv_iload_n hx hb dX12_recipeBy_14 rfl (lv_at hl 1 rfl) ?_
    refine lv_if_ne (tgt := 28) hx hb dX12_recipeBy_15 (by decide) (fun hc3 => ?_) (fun hc3 => ?_)
    · have h := ifn h hc3
      refine lv_iload_n hx hb dX12_recipeBy_28 rfl (lv_at hl 1 rfl) ?_
      refine lv_iconst (v := 1) hx hb dX12_recipeBy_29 (by decide) ?_
      refine lv_icmp_ne (tgt := 40) hx hb dX12_recipeBy_30 (by decide) (fun hc4 => ?_) (fun hc4 => ?_)
      · have h := ifn h hc4
        refine lv_lconst (v := 0) hx hb dX12_recipeBy_40 (by decide) ?_
        cases h
        exact W.lret hx hb hr (M_fin C0 hw) hw.2.2.2 dX12_recipeBy_41 hlocks
      · have h := ifp h hc4
        refine lv_aload_n hx hb dX12_recipeBy_33 rfl (lv_at hl 0 rfl) ?_
        refine M_g0_65 C0 hw (fun w h => (List.mem_cons_of_mem _ (List.mem_append_right _ h))) (by decide) ((List.mem_cons_of_mem _ (List.mem_append_left _ (List.mem_of_getElem? (i := 3) rfl)))) dX12_recipeBy_34 ?_
        refine lv_goto (tgt := 41) hx hb dX12_recipeBy_37 (by decide) ?_
        cases h
        exact W.lret hx hb hr (M_fin C0 hw) hw.2.2.2 dX12_recipeBy_41 hlocks
    · have h := ifp h hc3
      refine lv_aload_n hx hb dX12_recipeBy_18 rfl (lv_at hl 0 rfl) ?_
      refine M_g0_64 C0 hw (fun w h => (List.mem_cons_of_mem _ (List.mem_append_right _ h))) (by decide) ((List.mem_cons_of_mem _ (List.mem_append_left _ (List.mem_of_getElem? (i := 2) rfl)))) dX12_recipeBy_19 ?_
      obtain ⟨v5, hf6, h⟩ := bn_c h
      refine M_callS C0 hw (As := [.double (gD t1 0 (0) 64)]) (rest := []) (mmJxe99ae_doubleToLongBits_ccdee l E hL t1 hf6) (va_cwS 1 C0.1.2.2.2.2 gX12_recipeBy_Jxe99ae_doubleToLongBits_ccdee rfl rfl rfl (by decide +kernel) ⟨Nat.le_of_ble_eq_true rfl, Nat.le_of_ble_eq_true rfl⟩) rfl hl.1 rfl (Nat.le_of_ble_eq_true rfl) dX12_recipeBy_22 ⟨Nat.zero_le _, Nat.zero_le _⟩ (fun H locs hw => ?_)
      refine W.eq (g2 := F0 m 25 ls [.long v5]) rfl ?_
      refine lv_goto (tgt := 41) hx hb dX12_recipeBy_25 (by decide) ?_
      cases h
      exact W.lret hx hb hr (M_fin C0 hw) hw.2.2.2 dX12_recipeBy_41 hlocks
  · have h := ifp h hc2
    refine lv_lconst (v := 0) hx hb dX12_recipeBy_12 (by decide) ?_
    cases h
    exact W.lret hx hb hr (M_fin C0 hw) hw.2.2.2 dX12_recipeBy_13 hlocks

def fX12_lot (a1 : Int32) (a2 : Int32) (a3 : Int32) (a4 : Int32) (st : Sto) : Option (Int32 × Sto) :=
  lt1 (sI st 0 (0) 10 (0 : Int32)) fun (t1 : Sto) =>
  (fX12_is a1 (gI t1 0 (0) 4)).bind (fun (v2 : Int32) =>
   if v2 = 0 then (
    (fX12_no (2 : Int32) t1).bind (un2 fun (v37 : Int32) (t38 : Sto) =>
     some (v37, t38))) else (
    (fX12_isSize a2).bind (fun (v5 : Int32) =>
     if v5 = 0 then (
      (fX12_no (3 : Int32) t1).bind (un2 fun (v8 : Int32) (t9 : Sto) =>
       some (v8, t9))) else (
      (fX12_isSize a3).bind (fun (v11 : Int32) =>
       if v11 = 0 then (
        (fX12_no (3 : Int32) t1).bind (un2 fun (v14 : Int32) (t15 : Sto) =>
         some (v14, t15))) else (
        if a4 < (1 : Int32) then (
         (fX12_no (3 : Int32) t1).bind (un2 fun (v18 : Int32) (t19 : Sto) =>
          some (v18, t19))) else (
         if a4 ≤ (1000000000 : Int32) then (
          if gI t1 0 (0) 6 = (20 : Int32) then (
           (fX12_no (1 : Int32) t1).bind (un2 fun (v31 : Int32) (t32 : Sto) =>
            some (v31, t32))) else (
           ck (0 ≤ (gI t1 0 (0) 6).toInt ∧ (gI t1 0 (0) 6).toInt < (lIM (16) (0) : Int)) (lt1 (sI t1 (16) (0) ((gI t1 0 (0) 6).toNatClampNeg) a1) fun (t23 : Sto) =>
            ck (0 ≤ (gI t23 0 (0) 6).toInt ∧ (gI t23 0 (0) 6).toInt < (lIM (17) (0) : Int)) (lt1 (sI t23 (17) (0) ((gI t23 0 (0) 6).toNatClampNeg) a2) fun (t24 : Sto) =>
             ck (0 ≤ (gI t24 0 (0) 6).toInt ∧ (gI t24 0 (0) 6).toInt < (lIM (18) (0) : Int)) (lt1 (sI t24 (18) (0) ((gI t24 0 (0) 6).toNatClampNeg) a3) fun (t25 : Sto) =>
              ck (0 ≤ (gI t25 0 (0) 6).toInt ∧ (gI t25 0 (0) 6).toInt < (lIM (19) (0) : Int)) (lt1 (sI t25 (19) (0) ((gI t25 0 (0) 6).toNatClampNeg) a4) fun (t26 : Sto) =>
               ck (0 ≤ (gI t26 0 (0) 6).toInt ∧ (gI t26 0 (0) 6).toInt < (lIM (20) (0) : Int)) (lt1 (sI t26 (20) (0) ((gI t26 0 (0) 6).toNatClampNeg) a4) fun (t27 : Sto) =>
                lt1 (sI t27 0 (0) 6 ((gI t27 0 (0) 6) + (1 : Int32))) fun (t28 : Sto) =>
                (fX12_act (6 : Int32) (0 : Int32) (0 : Int32) (0 : Int32) t28).bind (fun (t29 : Sto) =>
                 some ((gI t29 0 (0) 6) - (1 : Int32), t29))))))))) else (
          (fX12_no (3 : Int32) t1).bind (un2 fun (v34 : Int32) (t35 : Sto) =>
           some (v34, t35))))))))))
set_option maxHeartbeats 4000000 in
set_option maxRecDepth 100000 in
theorem mX12_lot (l : Launch) (E : XE) (hL : LM E) (st : Sto) {a1 : Int32} {a2 : Int32} {a3 : Int32} {a4 : Int32} {r : Int32} {st1 : Sto} (h : fX12_lot a1 a2 a3 a4 st = some (r, st1)) : Met l yX12_lot wsX12_lot ({ frames := 1, cells := 0, slots := 0, locals := 25 }) (va_Pc [.ref (E.2.2.1 0 (0)), .int a1, .int a2, .int a3, .int a4] (RM E st)) (QM E (some (.int r)) st1) 0 0 E.2.2.2 := by
  refine Met.ofW (cc := cX12_lot) (maxL := 5) (ret := (some .int)) (by decide) rfl ?_
  intro p e s m args below meth c s₁ B hml hv
  obtain ⟨rfl, hP, hK⟩ := hv
  have hown : s.vm.findClass RX12 = some m.cls := findClass_of_methodNamed B.named
  have C0 : CX p m c cX12_lot 5 s _ wsX12_lot RX12 E := ⟨⟨B.exec, B.bytes, hml, hown, atoms_spec (ws := wsX12_lot) B.pre⟩, hK⟩
  have hx := B.exec
  have hb := B.bytes
  have hr := B.returns
  have hlocks := B.notSynchronized
  have hw : SM E s st s.heap [] := ⟨hP, va_S.rf⟩
  have hl := lv_entry ([.ref (E.2.2.1 0 (0)), .int a1, .int a2, .int a3, .int a4]) (n := 5) (Nat.le_of_ble_eq_true rfl)
  rw [lg_entry_eq]
  generalize (lg_sl ([.ref (E.2.2.1 0 (0)), .int a1, .int a2, .int a3, .int a4]) ++ List.replicate (5 - (lg_sl ([.ref (E.2.2.1 0 (0)), .int a1, .int a2, .int a3, .int a4])).length) Slot.unset).toArray = ls at hl ⊢
  have hl : lv_has ls 5 [(0, .ref (E.2.2.1 0 (0))), (1, .int a1), (2, .int a2), (3, .int a3), (4, .int a4)] := hl
  unfold fX12_lot at h
  refine lv_aload_n hx hb dX12_lot_0 rfl (lv_at hl 0 rfl) ?_
  refine lv_iconst (v := 0) hx hb dX12_lot_1 (by decide) ?_
  refine M_p0_10 hL C0 hw (fun w h => (List.mem_cons_of_mem _ (List.mem_append_right _ h))) (by decide) h ((List.mem_cons_of_mem _ (List.mem_append_left _ (List.mem_append_left _ (List.mem_of_getElem? (i := 0) rfl))))) dX12_lot_2 (fun t1 H locs hw h => ?_)
  refine lv_aload_n hx hb dX12_lot_5 rfl (lv_at hl 0 rfl) ?_
  refine lv_iload_n hx hb dX12_lot_6 rfl (lv_at hl 1 rfl) ?_
  refine lv_aload_n hx hb dX12_lot_7 rfl (lv_at hl 0 rfl) ?_
  refine M_g0_4 C0 hw (fun w h => (List.mem_cons_of_mem _ (List.mem_append_right _ h))) (by decide) ((List.mem_cons_of_mem _ (List.mem_append_left _ (List.mem_append_left _ (List.mem_of_getElem? (i := 1) rfl))))) dX12_lot_8 ?_
  obtain ⟨v2, hf3, h⟩ := bn_c h
  refine M_callV C0 hw (As := [.int a1, .int (gI t1 0 (0) 4)]) (rest := []) (mX12_is l E hL t1 hf3) (cwV 2 C0.1.2.2.2.2 gX12_lot_X12_is rfl rfl rfl (by decide +kernel) ⟨Nat.le_of_ble_eq_true rfl, Nat.le_of_ble_eq_true rfl⟩) (M_recv_0 C0 hw (by decide)) rfl hl.1 rfl (Nat.le_of_ble_eq_true rfl) dX12_lot_11 ⟨Nat.zero_le _, Nat.zero_le _⟩ (fun H locs hw => ?_)
  refine W.eq (g2 := F0 m 14 ls [.int v2]) rfl ?_
  refine lv_if_ne (tgt := 23) hx hb dX12_lot_14 (by decide) (fun hc4 => ?_) (fun hc4 => ?_)
  · have h := ifn h hc4
    refine lv_aload_n hx hb dX12_lot_23 rfl (lv_at hl 0 rfl) ?_
    refine lv_iload_n hx hb dX12_lot_24 rfl (lv_at hl 2 rfl) ?_
    obtain ⟨v5, hf6, h⟩ := bn_c h
    refine M_callV C0 hw (As := [.int a2]) (rest := []) (mX12_isSize l E hL t1 hf6) (cwV 1 C0.1.2.2.2.2 gX12_lot_X12_isSize rfl rfl rfl (by decide +kernel) ⟨Nat.le_of_ble_eq_true rfl, Nat.le_of_ble_eq_true rfl⟩) (M_recv_0 C0 hw (by decide)) rfl hl.1 rfl (Nat.le_of_ble_eq_true rfl) dX12_lot_25 ⟨Nat.zero_le _, Nat.zero_le _⟩ (fun H locs hw => ?_)
    refine W.eq (g2 := F0 m 28 ls [.int v5]) rfl ?_
    refine lv_if_eq (tgt := 53) hx hb dX12_lot_28 (by decide) (fun hc7 => ?_) (fun hc7 => ?_)
    · have h := ifp h hc7
      refine lv_aload_n hx hb dX12_lot_53 rfl (lv_at hl 0 rfl) ?_
      refine lv_iconst (v := 3) hx hb dX12_lot_54 (by decide) ?_
      obtain ⟨⟨v8, t9⟩, hf10, h⟩ := bn_c h
      have h := un2_d h
      refine M_callV C0 hw (As := [.int (3 : Int32)]) (rest := []) (mX12_no l E hL t1 hf10) (cwV 1 C0.1.2.2.2.2 gX12_lot_X12_no rfl rfl rfl (by decide +kernel) ⟨Nat.le_of_ble_eq_true rfl, Nat.le_of_ble_eq_true rfl⟩) (M_recv_0 C0 hw (by decide)) rfl hl.1 rfl (Nat.le_of_ble_eq_true rfl) dX12_lot_55 ⟨Nat.zero_le _, Nat.zero_le _⟩ (fun H locs hw => ?_)
      refine W.eq (g2 := F0 m 58 ls [.int v8]) rfl ?_
      cases h
      exact W.iret hx hb hr (M_fin C0 hw) hw.2.2.2 dX12_lot_58 hlocks
    · have h := ifn h hc7
      refine lv_aload_n hx hb dX12_lot_31 rfl (lv_at hl 0 rfl) ?_
      refine lv_iload_n hx hb dX12_lot_32 rfl (lv_at hl 3 rfl) ?_
      obtain ⟨v11, hf12, h⟩ := bn_c h
      refine M_callV C0 hw (As := [.int a3]) (rest := []) (mX12_isSize l E hL t1 hf12) (cwV 1 C0.1.2.2.2.2 gX12_lot_X12_isSize rfl rfl rfl (by decide +kernel) ⟨Nat.le_of_ble_eq_true rfl, Nat.le_of_ble_eq_true rfl⟩) (M_recv_0 C0 hw (by decide)) rfl hl.1 rfl (Nat.le_of_ble_eq_true rfl) dX12_lot_33 ⟨Nat.zero_le _, Nat.zero_le _⟩ (fun H locs hw => ?_)
      refine W.eq (g2 := F0 m 36 ls [.int v11]) rfl ?_
      refine lv_if_eq (tgt := 53) hx hb dX12_lot_36 (by decide) (fun hc13 => ?_) (fun hc13 => ?_)
      · have h := ifp h hc13
        refine lv_aload_n hx hb dX12_lot_53 rfl (lv_at hl 0 rfl) ?_
        refine lv_iconst (v := 3) hx hb dX12_lot_54 (by decide) ?_
        obtain ⟨⟨v14, t15⟩, hf16, h⟩ := bn_c h
        have h := un2_d h
        refine M_callV C0 hw (As := [.int (3 : Int32)]) (rest := []) (mX12_no l E hL t1 hf16) (cwV 1 C0.1.2.2.2.2 gX12_lot_X12_no rfl rfl rfl (by decide +kernel) ⟨Nat.le_of_ble_eq_true rfl, Nat.le_of_ble_eq_true rfl⟩) (M_recv_0 C0 hw (by decide)) rfl hl.1 rfl (Nat.le_of_ble_eq_true rfl) dX12_lot_55 ⟨Nat.zero_le _, Nat.zero_le _⟩ (fun H locs hw => ?_)
        refine W.eq (g2 := F0 m 58 ls [.int v14]) rfl ?_
        cases h
        exact W.iret hx hb hr (M_fin C0 hw) hw.2.2.2 dX12_lot_58 hlocks
      · have h := ifn h hc13
        refine lv_iload hx hb dX12_lot_39 (lv_at hl 4 rfl) ?_
        refine lv_iconst (v := 1) hx hb dX12_lot_41 (by decide) ?_
        refine lv_icmp_lt (tgt := 53) hx hb dX12_lot_42 (by decide) (fun hc17 => ?_) (fun hc17 => ?_)
        · have h := ifp h hc17
          refine lv_aload_n hx hb dX12_lot_53 rfl (lv_at hl 0 rfl) ?_
          refine lv_iconst (v := 3) hx hb dX12_lot_54 (by decide) ?_
          obtain ⟨⟨v18, t19⟩, hf20, h⟩ := bn_c h
          have h := un2_d h
          refine M_callV C0 hw (As := [.int (3 : Int32)]) (rest := []) (mX12_no l E hL t1 hf20) (cwV 1 C0.1.2.2.2.2 gX12_lot_X12_no rfl rfl rfl (by decide +kernel) ⟨Nat.le_of_ble_eq_true rfl, Nat.le_of_ble_eq_true rfl⟩) (M_recv_0 C0 hw (by decide)) rfl hl.1 rfl (Nat.le_of_ble_eq_true rfl) dX12_lot_55 ⟨Nat.zero_le _, Nat.zero_le _⟩ (fun H locs hw => ?_)
          refine W.eq (g2 := F0 m 58 ls [.int v18]) rfl ?_
          cases h
          exact W.iret hx hb hr (M_fin C0 hw) hw.2.2.2 dX12_lot_58 hlocks
        · have h := ifn h hc17
          refine lv_iload hx hb dX12_lot_45 (lv_at hl 4 rfl) ?_
          refine lv_ldcw hx hb hown (C0.1.2.2.2.2 _ (List.mem_cons_of_mem _ (List.mem_append_left _ (List.mem_append_left _ (List.mem_of_getElem? (i := 2) rfl))))) dX12_lot_47 ?_
          refine lv_icmp_le (tgt := 59) hx hb dX12_lot_50 (by decide) (fun hc21 => ?_) (fun hc21 => ?_)
          · have h := ifp h hc21
            refine lv_aload_n hx hb dX12_lot_59 rfl (lv_at hl 0 rfl) ?_
            refine M_g0_6 C0 hw (fun w h => (List.mem_cons_of_mem _ (List.mem_append_right _ h))) (by decide) ((List.mem_cons_of_mem _ (List.mem_append_left _ (List.mem_append_left _ (List.mem_of_getElem? (i := 3) rfl))))) dX12_lot_60 ?_
            refine lv_bipush (v := 20) hx hb dX12_lot_63 (by decide) ?_
            refine lv_icmp_ne (tgt := 74) hx hb dX12_lot_65 (by decide) (fun hc22 => ?_) (fun hc22 => ?_)
            · have h := ifn h hc22
              refine lv_aload_n hx hb dX12_lot_74 rfl (lv_at hl 0 rfl) ?_
              refine M_g0_15 C0 hw (fun w h => (List.mem_cons_of_mem _ (List.mem_append_right _ h))) (by decide) ((List.mem_cons_of_mem _ (List.mem_append_left _ (List.mem_append_left _ (List.mem_of_getElem? (i := 4) rfl))))) dX12_lot_75 ?_
              refine lv_aload_n hx hb dX12_lot_78 rfl (lv_at hl 0 rfl) ?_
              refine M_g0_6 C0 hw (fun w h => (List.mem_cons_of_mem _ (List.mem_append_right _ h))) (by decide) ((List.mem_cons_of_mem _ (List.mem_append_left _ (List.mem_append_left _ (List.mem_of_getElem? (i := 3) rfl))))) dX12_lot_79 ?_
              refine lv_iload_n hx hb dX12_lot_82 rfl (lv_at hl 1 rfl) ?_
              refine M_iast hL C0 hw h (k := (gI t1 0 (0) 6).toNatClampNeg) rfl dX12_lot_83 (fun t23 H locs hw h => ?_)
              refine lv_aload_n hx hb dX12_lot_84 rfl (lv_at hl 0 rfl) ?_
              refine M_g0_16 C0 hw (fun w h => (List.mem_cons_of_mem _ (List.mem_append_right _ h))) (by decide) ((List.mem_cons_of_mem _ (List.mem_append_left _ (List.mem_append_left _ (List.mem_of_getElem? (i := 5) rfl))))) dX12_lot_85 ?_
              refine lv_aload_n hx hb dX12_lot_88 rfl (lv_at hl 0 rfl) ?_
              refine M_g0_6 C0 hw (fun w h => (List.mem_cons_of_mem _ (List.mem_append_right _ h))) (by decide) ((List.mem_cons_of_mem _ (List.mem_append_left _ (List.mem_append_left _ (List.mem_of_getElem? (i := 3) rfl))))) dX12_lot_89 ?_
              refine lv_iload_n hx hb dX12_lot_92 rfl (lv_at hl 2 rfl) ?_
              refine M_iast hL C0 hw h (k := (gI t23 0 (0) 6).toNatClampNeg) rfl dX12_lot_93 (fun t24 H locs hw h => ?_)
              refine lv_aload_n hx hb dX12_lot_94 rfl (lv_at hl 0 rfl) ?_
              refine M_g0_17 C0 hw (fun w h => (List.mem_cons_of_mem _ (List.mem_append_right _ h))) (by decide) ((List.mem_cons_of_mem _ (List.mem_append_left _ (List.mem_append_left _ (List.mem_of_getElem? (i := 6) rfl))))) dX12_lot_95 ?_
              refine lv_aload_n hx hb dX12_lot_98 rfl (lv_at hl 0 rfl) ?_
              refine M_g0_6 C0 hw (fun w h => (List.mem_cons_of_mem _ (List.mem_append_right _ h))) (by decide) ((List.mem_cons_of_mem _ (List.mem_append_left _ (List.mem_append_left _ (List.mem_of_getElem? (i := 3) rfl))))) dX12_lot_99 ?_
              refine lv_iload_n hx hb dX12_lot_102 rfl (lv_at hl 3 rfl) ?_
              refine M_iast hL C0 hw h (k := (gI t24 0 (0) 6).toNatClampNeg) rfl dX12_lot_103 (fun t25 H locs hw h => ?_)
              refine lv_aload_n hx hb dX12_lot_104 rfl (lv_at hl 0 rfl) ?_
              refine M_g0_18 C0 hw (fun w h => (List.mem_cons_of_mem _ (List.mem_append_right _ h))) (by decide) ((List.mem_cons_of_mem _ (List.mem_append_left _ (List.mem_append_left _ (List.mem_of_getElem? (i := 7) rfl))))) dX12_lot_105 ?_
              refine lv_aload_n hx hb dX12_lot_108 rfl (lv_at hl 0 rfl) ?_
              refine M_g0_6 C0 hw (fun w h => (List.mem_cons_of_mem _ (List.mem_append_right _ h))) (by decide) ((List.mem_cons_of_mem _ (List.mem_append_left _ (List.mem_append_left _ (List.mem_of_getElem? (i := 3) rfl))))) dX12_lot_109 ?_
              refine lv_iload hx hb dX12_lot_112 (lv_at hl 4 rfl) ?_
              refine M_iast hL C0 hw h (k := (gI t25 0 (0) 6).toNatClampNeg) rfl dX12_lot_114 (fun t26 H locs hw h => ?_)
              refine lv_aload_n hx hb dX12_lot_115 rfl (lv_at hl 0 rfl) ?_
              refine M_g0_19 C0 hw (fun w h => (List.mem_cons_of_mem _ (List.mem_append_right _ h))) (by decide) ((List.mem_cons_of_mem _ (List.mem_append_left _ (List.mem_append_left _ (List.mem_of_getElem? (i := 8) rfl))))) dX12_lot_116 ?_
              refine lv_aload_n hx hb dX12_lot_119 rfl (lv_at hl 0 rfl) ?_
              refine M_g0_6 C0 hw (fun w h => (List.mem_cons_of_mem _ (List.mem_append_right _ h))) (by decide) ((List.mem_cons_of_mem _ (List.mem_append_left _ (List.mem_append_left _ (List.mem_of_getElem? (i := 3) rfl))))) dX12_lot_120 ?_
              refine lv_iload hx hb dX12_lot_123 (lv_at hl 4 rfl) ?_
              refine M_iast hL C0 hw h (k := (gI t26 0 (0) 6).toNatClampNeg) rfl dX12_lot_125 (fun t27 H locs hw h => ?_)
              refine lv_aload_n hx hb dX12_lot_126 rfl (lv_at hl 0 rfl) ?_
              refine lv_dup hx hb dX12_lot_127 rfl ?_
              refine M_g0_6 C0 hw (fun w h => (List.mem_cons_of_mem _ (List.mem_append_right _ h))) (by decide) ((List.mem_cons_of_mem _ (List.mem_append_left _ (List.mem_append_left _ (List.mem_of_getElem? (i := 3) rfl))))) dX12_lot_128 ?_
              refine lv_iconst (v := 1) hx hb dX12_lot_131 (by decide) ?_
              refine lv_iadd hx hb dX12_lot_132 ?_
              refine M_p0_6 hL C0 hw (fun w h => (List.mem_cons_of_mem _ (List.mem_append_right _ h))) (by decide) h ((List.mem_cons_of_mem _ (List.mem_append_left _ (List.mem_append_left _ (List.mem_of_getElem? (i := 3) rfl))))) dX12_lot_133 (fun t28 H locs hw h => ?_)
              refine lv_aload_n hx hb dX12_lot_136 rfl (lv_at hl 0 rfl) ?_
              refine lv_bipush (v := 6) hx hb dX12_lot_137 (by decide) ?_
              refine lv_iconst (v := 0) hx hb dX12_lot_139 (by decide) ?_
              refine lv_iconst (v := 0) hx hb dX12_lot_140 (by decide) ?_
              refine lv_iconst (v := 0) hx hb dX12_lot_141 (by decide) ?_
              obtain ⟨t29, hf30, h⟩ := bn_c h
              refine M_callV C0 hw (As := [.int (6 : Int32), .int (0 : Int32), .int (0 : Int32), .int (0 : Int32)]) (rest := []) (mX12_act l E hL t28 hf30) (cwV 4 C0.1.2.2.2.2 gX12_lot_X12_act rfl rfl rfl (by decide +kernel) ⟨Nat.le_of_ble_eq_true rfl, Nat.le_of_ble_eq_true rfl⟩) (M_recv_0 C0 hw (by decide)) rfl hl.1 rfl (Nat.le_of_ble_eq_true rfl) dX12_lot_142 ⟨Nat.zero_le _, Nat.zero_le _⟩ (fun H locs hw => ?_)
              refine W.eq (g2 := F0 m 145 ls []) rfl ?_
              refine lv_aload_n hx hb dX12_lot_145 rfl (lv_at hl 0 rfl) ?_
              refine M_g0_6 C0 hw (fun w h => (List.mem_cons_of_mem _ (List.mem_append_right _ h))) (by decide) ((List.mem_cons_of_mem _ (List.mem_append_left _ (List.mem_append_left _ (List.mem_of_getElem? (i := 3) rfl))))) dX12_lot_146 ?_
              refine lv_iconst (v := 1) hx hb dX12_lot_149 (by decide) ?_
              refine lv_isub hx hb dX12_lot_150 ?_
              cases h
              exact W.iret hx hb hr (M_fin C0 hw) hw.2.2.2 dX12_lot_151 hlocks
            · have h := ifp h hc22
              refine lv_aload_n hx hb dX12_lot_68 rfl (lv_at hl 0 rfl) ?_
              refine lv_iconst (v := 1) hx hb dX12_lot_69 (by decide) ?_
              obtain ⟨⟨v31, t32⟩, hf33, h⟩ := bn_c h
              have h := un2_d h
              refine M_callV C0 hw (As := [.int (1 : Int32)]) (rest := []) (mX12_no l E hL t1 hf33) (cwV 1 C0.1.2.2.2.2 gX12_lot_X12_no rfl rfl rfl (by decide +kernel) ⟨Nat.le_of_ble_eq_true rfl, Nat.le_of_ble_eq_true rfl⟩) (M_recv_0 C0 hw (by decide)) rfl hl.1 rfl (Nat.le_of_ble_eq_true rfl) dX12_lot_70 ⟨Nat.zero_le _, Nat.zero_le _⟩ (fun H locs hw => ?_)
              refine W.eq (g2 := F0 m 73 ls [.int v31]) rfl ?_
              cases h
              exact W.iret hx hb hr (M_fin C0 hw) hw.2.2.2 dX12_lot_73 hlocks
          · have h := ifn h hc21
            refine lv_aload_n hx hb dX12_lot_53 rfl (lv_at hl 0 rfl) ?_
            refine lv_iconst (v := 3) hx hb dX12_lot_54 (by decide) ?_
            obtain ⟨⟨v34, t35⟩, hf36, h⟩ := bn_c h
            have h := un2_d h
            refine M_callV C0 hw (As := [.int (3 : Int32)]) (rest := []) (mX12_no l E hL t1 hf36) (cwV 1 C0.1.2.2.2.2 gX12_lot_X12_no rfl rfl rfl (by decide +kernel) ⟨Nat.le_of_ble_eq_true rfl, Nat.le_of_ble_eq_true rfl⟩) (M_recv_0 C0 hw (by decide)) rfl hl.1 rfl (Nat.le_of_ble_eq_true rfl) dX12_lot_55 ⟨Nat.zero_le _, Nat.zero_le _⟩ (fun H locs hw => ?_)
            refine W.eq (g2 := F0 m 58 ls [.int v34]) rfl ?_
            cases h
            exact W.iret hx hb hr (M_fin C0 hw) hw.2.2.2 dX12_lot_58 hlocks
  · have h := ifp h hc4
    refine lv_aload_n hx hb dX12_lot_17 rfl (lv_at hl 0 rfl) ?_
    refine lv_iconst (v := 2) hx hb dX12_lot_18 (by decide) ?_
    obtain ⟨⟨v37, t38⟩, hf39, h⟩ := bn_c h
    have h := un2_d h
    refine M_callV C0 hw (As := [.int (2 : Int32)]) (rest := []) (mX12_no l E hL t1 hf39) (cwV 1 C0.1.2.2.2.2 gX12_lot_X12_no rfl rfl rfl (by decide +kernel) ⟨Nat.le_of_ble_eq_true rfl, Nat.le_of_ble_eq_true rfl⟩) (M_recv_0 C0 hw (by decide)) rfl hl.1 rfl (Nat.le_of_ble_eq_true rfl) dX12_lot_19 ⟨Nat.zero_le _, Nat.zero_le _⟩ (fun H locs hw => ?_)
    refine W.eq (g2 := F0 m 22 ls [.int v37]) rfl ?_
    cases h
    exact W.iret hx hb hr (M_fin C0 hw) hw.2.2.2 dX12_lot_22 hlocks

def fX12_batch (a1 : Int32) (a2 : Int32) (st : Sto) : Option (Int32 × Sto) :=
  lt1 (sI st 0 (0) 10 (0 : Int32)) fun (t1 : Sto) =>
  (fX12_is a1 (gI t1 0 (0) 3)).bind (fun (v2 : Int32) =>
   if v2 = 0 then (
    (fX12_no (2 : Int32) t1).bind (un2 fun (v22 : Int32) (t23 : Sto) =>
     some (v22, t23))) else (
    (fX12_isSize a2).bind (fun (v5 : Int32) =>
     if v5 = 0 then (
      (fX12_no (3 : Int32) t1).bind (un2 fun (v19 : Int32) (t20 : Sto) =>
       some (v19, t20))) else (
      if gI t1 0 (0) 7 = (12 : Int32) then (
       (fX12_no (1 : Int32) t1).bind (un2 fun (v16 : Int32) (t17 : Sto) =>
        some (v16, t17))) else (
       ck (0 ≤ (gI t1 0 (0) 7).toInt ∧ (gI t1 0 (0) 7).toInt < (lIM (21) (0) : Int)) (lt1 (sI t1 (21) (0) ((gI t1 0 (0) 7).toNatClampNeg) a1) fun (t9 : Sto) =>
        ck (0 ≤ (gI t9 0 (0) 7).toInt ∧ (gI t9 0 (0) 7).toInt < (lIM (22) (0) : Int)) (lt1 (sI t9 (22) (0) ((gI t9 0 (0) 7).toNatClampNeg) a2) fun (t10 : Sto) =>
         ck (0 ≤ (gI t10 0 (0) 7).toInt ∧ (gI t10 0 (0) 7).toInt < (lIM (23) (0) : Int)) (lt1 (sI t10 (23) (0) ((gI t10 0 (0) 7).toNatClampNeg) (0 : Int32)) fun (t11 : Sto) =>
          ck (0 ≤ (gI t11 0 (0) 7).toInt ∧ (gI t11 0 (0) 7).toInt < (lZM (26) (0) : Int)) (lt1 (sI t11 (26) (0) ((gI t11 0 (0) 7).toNatClampNeg) (vp_nar .boolean (0 : Int32))) fun (t12 : Sto) =>
           lt1 (sI t12 0 (0) 7 ((gI t12 0 (0) 7) + (1 : Int32))) fun (t13 : Sto) =>
           (fX12_act (7 : Int32) (0 : Int32) (0 : Int32) (0 : Int32) t13).bind (fun (t14 : Sto) =>
            some ((gI t14 0 (0) 7) - (1 : Int32), t14)))))))))))
set_option maxHeartbeats 4000000 in
set_option maxRecDepth 100000 in
theorem mX12_batch (l : Launch) (E : XE) (hL : LM E) (st : Sto) {a1 : Int32} {a2 : Int32} {r : Int32} {st1 : Sto} (h : fX12_batch a1 a2 st = some (r, st1)) : Met l yX12_batch wsX12_batch ({ frames := 1, cells := 0, slots := 0, locals := 25 }) (va_Pc [.ref (E.2.2.1 0 (0)), .int a1, .int a2] (RM E st)) (QM E (some (.int r)) st1) 0 0 E.2.2.2 := by
  refine Met.ofW (cc := cX12_batch) (maxL := 3) (ret := (some .int)) (by decide) rfl ?_
  intro p e s m args below meth c s₁ B hml hv
  obtain ⟨rfl, hP, hK⟩ := hv
  have hown : s.vm.findClass RX12 = some m.cls := findClass_of_methodNamed B.named
  have C0 : CX p m c cX12_batch 3 s _ wsX12_batch RX12 E := ⟨⟨B.exec, B.bytes, hml, hown, atoms_spec (ws := wsX12_batch) B.pre⟩, hK⟩
  have hx := B.exec
  have hb := B.bytes
  have hr := B.returns
  have hlocks := B.notSynchronized
  have hw : SM E s st s.heap [] := ⟨hP, va_S.rf⟩
  have hl := lv_entry ([.ref (E.2.2.1 0 (0)), .int a1, .int a2]) (n := 3) (Nat.le_of_ble_eq_true rfl)
  rw [lg_entry_eq]
  generalize (lg_sl ([.ref (E.2.2.1 0 (0)), .int a1, .int a2]) ++ List.replicate (3 - (lg_sl ([.ref (E.2.2.1 0 (0)), .int a1, .int a2])).length) Slot.unset).toArray = ls at hl ⊢
  have hl : lv_has ls 3 [(0, .ref (E.2.2.1 0 (0))), (1, .int a1), (2, .int a2)] := hl
  unfold fX12_batch at h
  refine lv_aload_n hx hb dX12_batch_0 rfl (lv_at hl 0 rfl) ?_
  refine lv_iconst (v := 0) hx hb dX12_batch_1 (by decide) ?_
  refine M_p0_10 hL C0 hw (fun w h => (List.mem_cons_of_mem _ (List.mem_append_right _ h))) (by decide) h ((List.mem_cons_of_mem _ (List.mem_append_left _ (List.mem_append_left _ (List.mem_of_getElem? (i := 0) rfl))))) dX12_batch_2 (fun t1 H locs hw h => ?_)
  refine lv_aload_n hx hb dX12_batch_5 rfl (lv_at hl 0 rfl) ?_
  refine lv_iload_n hx hb dX12_batch_6 rfl (lv_at hl 1 rfl) ?_
  refine lv_aload_n hx hb dX12_batch_7 rfl (lv_at hl 0 rfl) ?_
  refine M_g0_3 C0 hw (fun w h => (List.mem_cons_of_mem _ (List.mem_append_right _ h))) (by decide) ((List.mem_cons_of_mem _ (List.mem_append_left _ (List.mem_append_left _ (List.mem_of_getElem? (i := 1) rfl))))) dX12_batch_8 ?_
  obtain ⟨v2, hf3, h⟩ := bn_c h
  refine M_callV C0 hw (As := [.int a1, .int (gI t1 0 (0) 3)]) (rest := []) (mX12_is l E hL t1 hf3) (cwV 2 C0.1.2.2.2.2 gX12_batch_X12_is rfl rfl rfl (by decide +kernel) ⟨Nat.le_of_ble_eq_true rfl, Nat.le_of_ble_eq_true rfl⟩) (M_recv_0 C0 hw (by decide)) rfl hl.1 rfl (Nat.le_of_ble_eq_true rfl) dX12_batch_11 ⟨Nat.zero_le _, Nat.zero_le _⟩ (fun H locs hw => ?_)
  refine W.eq (g2 := F0 m 14 ls [.int v2]) rfl ?_
  refine lv_if_ne (tgt := 23) hx hb dX12_batch_14 (by decide) (fun hc4 => ?_) (fun hc4 => ?_)
  · have h := ifn h hc4
    refine lv_aload_n hx hb dX12_batch_23 rfl (lv_at hl 0 rfl) ?_
    refine lv_iload_n hx hb dX12_batch_24 rfl (lv_at hl 2 rfl) ?_
    obtain ⟨v5, hf6, h⟩ := bn_c h
    refine M_callV C0 hw (As := [.int a2]) (rest := []) (mX12_isSize l E hL t1 hf6) (cwV 1 C0.1.2.2.2.2 gX12_batch_X12_isSize rfl rfl rfl (by decide +kernel) ⟨Nat.le_of_ble_eq_true rfl, Nat.le_of_ble_eq_true rfl⟩) (M_recv_0 C0 hw (by decide)) rfl hl.1 rfl (Nat.le_of_ble_eq_true rfl) dX12_batch_25 ⟨Nat.zero_le _, Nat.zero_le _⟩ (fun H locs hw => ?_)
    refine W.eq (g2 := F0 m 28 ls [.int v5]) rfl ?_
    refine lv_if_ne (tgt := 37) hx hb dX12_batch_28 (by decide) (fun hc7 => ?_) (fun hc7 => ?_)
    · have h := ifn h hc7
      refine lv_aload_n hx hb dX12_batch_37 rfl (lv_at hl 0 rfl) ?_
      refine M_g0_7 C0 hw (fun w h => (List.mem_cons_of_mem _ (List.mem_append_right _ h))) (by decide) ((List.mem_cons_of_mem _ (List.mem_append_left _ (List.mem_append_left _ (List.mem_of_getElem? (i := 2) rfl))))) dX12_batch_38 ?_
      refine lv_bipush (v := 12) hx hb dX12_batch_41 (by decide) ?_
      refine lv_icmp_ne (tgt := 52) hx hb dX12_batch_43 (by decide) (fun hc8 => ?_) (fun hc8 => ?_)
      · have h := ifn h hc8
        refine lv_aload_n hx hb dX12_batch_52 rfl (lv_at hl 0 rfl) ?_
        refine M_g0_20 C0 hw (fun w h => (List.mem_cons_of_mem _ (List.mem_append_right _ h))) (by decide) ((List.mem_cons_of_mem _ (List.mem_append_left _ (List.mem_append_left _ (List.mem_of_getElem? (i := 3) rfl))))) dX12_batch_53 ?_
        refine lv_aload_n hx hb dX12_batch_56 rfl (lv_at hl 0 rfl) ?_
        refine M_g0_7 C0 hw (fun w h => (List.mem_cons_of_mem _ (List.mem_append_right _ h))) (by decide) ((List.mem_cons_of_mem _ (List.mem_append_left _ (List.mem_append_left _ (List.mem_of_getElem? (i := 2) rfl))))) dX12_batch_57 ?_
        refine lv_iload_n hx hb dX12_batch_60 rfl (lv_at hl 1 rfl) ?_
        refine M_iast hL C0 hw h (k := (gI t1 0 (0) 7).toNatClampNeg) rfl dX12_batch_61 (fun t9 H locs hw h => ?_)
        refine lv_aload_n hx hb dX12_batch_62 rfl (lv_at hl 0 rfl) ?_
        refine M_g0_21 C0 hw (fun w h => (List.mem_cons_of_mem _ (List.mem_append_right _ h))) (by decide) ((List.mem_cons_of_mem _ (List.mem_append_left _ (List.mem_append_left _ (List.mem_of_getElem? (i := 4) rfl))))) dX12_batch_63 ?_
        refine lv_aload_n hx hb dX12_batch_66 rfl (lv_at hl 0 rfl) ?_
        refine M_g0_7 C0 hw (fun w h => (List.mem_cons_of_mem _ (List.mem_append_right _ h))) (by decide) ((List.mem_cons_of_mem _ (List.mem_append_left _ (List.mem_append_left _ (List.mem_of_getElem? (i := 2) rfl))))) dX12_batch_67 ?_
        refine lv_iload_n hx hb dX12_batch_70 rfl (lv_at hl 2 rfl) ?_
        refine M_iast hL C0 hw h (k := (gI t9 0 (0) 7).toNatClampNeg) rfl dX12_batch_71 (fun t10 H locs hw h => ?_)
        refine lv_aload_n hx hb dX12_batch_72 rfl (lv_at hl 0 rfl) ?_
        refine M_g0_22 C0 hw (fun w h => (List.mem_cons_of_mem _ (List.mem_append_right _ h))) (by decide) ((List.mem_cons_of_mem _ (List.mem_append_left _ (List.mem_append_left _ (List.mem_of_getElem? (i := 5) rfl))))) dX12_batch_73 ?_
        refine lv_aload_n hx hb dX12_batch_76 rfl (lv_at hl 0 rfl) ?_
        refine M_g0_7 C0 hw (fun w h => (List.mem_cons_of_mem _ (List.mem_append_right _ h))) (by decide) ((List.mem_cons_of_mem _ (List.mem_append_left _ (List.mem_append_left _ (List.mem_of_getElem? (i := 2) rfl))))) dX12_batch_77 ?_
        refine lv_iconst (v := 0) hx hb dX12_batch_80 (by decide) ?_
        refine M_iast hL C0 hw h (k := (gI t10 0 (0) 7).toNatClampNeg) rfl dX12_batch_81 (fun t11 H locs hw h => ?_)
        refine lv_aload_n hx hb dX12_batch_82 rfl (lv_at hl 0 rfl) ?_
        refine M_g0_25 C0 hw (fun w h => (List.mem_cons_of_mem _ (List.mem_append_right _ h))) (by decide) ((List.mem_cons_of_mem _ (List.mem_append_left _ (List.mem_append_left _ (List.mem_of_getElem? (i := 6) rfl))))) dX12_batch_83 ?_
        refine lv_aload_n hx hb dX12_batch_86 rfl (lv_at hl 0 rfl) ?_
        refine M_g0_7 C0 hw (fun w h => (List.mem_cons_of_mem _ (List.mem_append_right _ h))) (by decide) ((List.mem_cons_of_mem _ (List.mem_append_left _ (List.mem_append_left _ (List.mem_of_getElem? (i := 2) rfl))))) dX12_batch_87 ?_
        refine lv_iconst (v := 0) hx hb dX12_batch_90 (by decide) ?_
        refine M_zast hL C0 hw h (k := (gI t11 0 (0) 7).toNatClampNeg) rfl dX12_batch_91 (fun t12 H locs hw h => ?_)
        refine lv_aload_n hx hb dX12_batch_92 rfl (lv_at hl 0 rfl) ?_
        refine lv_dup hx hb dX12_batch_93 rfl ?_
        refine M_g0_7 C0 hw (fun w h => (List.mem_cons_of_mem _ (List.mem_append_right _ h))) (by decide) ((List.mem_cons_of_mem _ (List.mem_append_left _ (List.mem_append_left _ (List.mem_of_getElem? (i := 2) rfl))))) dX12_batch_94 ?_
        refine lv_iconst (v := 1) hx hb dX12_batch_97 (by decide) ?_
        refine lv_iadd hx hb dX12_batch_98 ?_
        refine M_p0_7 hL C0 hw (fun w h => (List.mem_cons_of_mem _ (List.mem_append_right _ h))) (by decide) h ((List.mem_cons_of_mem _ (List.mem_append_left _ (List.mem_append_left _ (List.mem_of_getElem? (i := 2) rfl))))) dX12_batch_99 (fun t13 H locs hw h => ?_)
        refine lv_aload_n hx hb dX12_batch_102 rfl (lv_at hl 0 rfl) ?_
        refine lv_bipush (v := 7) hx hb dX12_batch_103 (by decide) ?_
        refine lv_iconst (v := 0) hx hb dX12_batch_105 (by decide) ?_
        refine lv_iconst (v := 0) hx hb dX12_batch_106 (by decide) ?_
        refine lv_iconst (v := 0) hx hb dX12_batch_107 (by decide) ?_
        obtain ⟨t14, hf15, h⟩ := bn_c h
        refine M_callV C0 hw (As := [.int (7 : Int32), .int (0 : Int32), .int (0 : Int32), .int (0 : Int32)]) (rest := []) (mX12_act l E hL t13 hf15) (cwV 4 C0.1.2.2.2.2 gX12_batch_X12_act rfl rfl rfl (by decide +kernel) ⟨Nat.le_of_ble_eq_true rfl, Nat.le_of_ble_eq_true rfl⟩) (M_recv_0 C0 hw (by decide)) rfl hl.1 rfl (Nat.le_of_ble_eq_true rfl) dX12_batch_108 ⟨Nat.zero_le _, Nat.zero_le _⟩ (fun H locs hw => ?_)
        refine W.eq (g2 := F0 m 111 ls []) rfl ?_
        refine lv_aload_n hx hb dX12_batch_111 rfl (lv_at hl 0 rfl) ?_
        refine M_g0_7 C0 hw (fun w h => (List.mem_cons_of_mem _ (List.mem_append_right _ h))) (by decide) ((List.mem_cons_of_mem _ (List.mem_append_left _ (List.mem_append_left _ (List.mem_of_getElem? (i := 2) rfl))))) dX12_batch_112 ?_
        refine lv_iconst (v := 1) hx hb dX12_batch_115 (by decide) ?_
        refine lv_isub hx hb dX12_batch_116 ?_
        cases h
        exact W.iret hx hb hr (M_fin C0 hw) hw.2.2.2 dX12_batch_117 hlocks
      · have h := ifp h hc8
        refine lv_aload_n hx hb dX12_batch_46 rfl (lv_at hl 0 rfl) ?_
        refine lv_iconst (v := 1) hx hb dX12_batch_47 (by decide) ?_
        obtain ⟨⟨v16, t17⟩, hf18, h⟩ := bn_c h
        have h := un2_d h
        refine M_callV C0 hw (As := [.int (1 : Int32)]) (rest := []) (mX12_no l E hL t1 hf18) (cwV 1 C0.1.2.2.2.2 gX12_batch_X12_no rfl rfl rfl (by decide +kernel) ⟨Nat.le_of_ble_eq_true rfl, Nat.le_of_ble_eq_true rfl⟩) (M_recv_0 C0 hw (by decide)) rfl hl.1 rfl (Nat.le_of_ble_eq_true rfl) dX12_batch_48 ⟨Nat.zero_le _, Nat.zero_le _⟩ (fun H locs hw => ?_)
        refine W.eq (g2 := F0 m 51 ls [.int v16]) rfl ?_
        cases h
        exact W.iret hx hb hr (M_fin C0 hw) hw.2.2.2 dX12_batch_51 hlocks
    · have h := ifp h hc7
      refine lv_aload_n hx hb dX12_batch_31 rfl (lv_at hl 0 rfl) ?_
      refine lv_iconst (v := 3) hx hb dX12_batch_32 (by decide) ?_
      obtain ⟨⟨v19, t20⟩, hf21, h⟩ := bn_c h
      have h := un2_d h
      refine M_callV C0 hw (As := [.int (3 : Int32)]) (rest := []) (mX12_no l E hL t1 hf21) (cwV 1 C0.1.2.2.2.2 gX12_batch_X12_no rfl rfl rfl (by decide +kernel) ⟨Nat.le_of_ble_eq_true rfl, Nat.le_of_ble_eq_true rfl⟩) (M_recv_0 C0 hw (by decide)) rfl hl.1 rfl (Nat.le_of_ble_eq_true rfl) dX12_batch_33 ⟨Nat.zero_le _, Nat.zero_le _⟩ (fun H locs hw => ?_)
      refine W.eq (g2 := F0 m 36 ls [.int v19]) rfl ?_
      cases h
      exact W.iret hx hb hr (M_fin C0 hw) hw.2.2.2 dX12_batch_36 hlocks
  · have h := ifp h hc4
    refine lv_aload_n hx hb dX12_batch_17 rfl (lv_at hl 0 rfl) ?_
    refine lv_iconst (v := 2) hx hb dX12_batch_18 (by decide) ?_
    obtain ⟨⟨v22, t23⟩, hf24, h⟩ := bn_c h
    have h := un2_d h
    refine M_callV C0 hw (As := [.int (2 : Int32)]) (rest := []) (mX12_no l E hL t1 hf24) (cwV 1 C0.1.2.2.2.2 gX12_batch_X12_no rfl rfl rfl (by decide +kernel) ⟨Nat.le_of_ble_eq_true rfl, Nat.le_of_ble_eq_true rfl⟩) (M_recv_0 C0 hw (by decide)) rfl hl.1 rfl (Nat.le_of_ble_eq_true rfl) dX12_batch_19 ⟨Nat.zero_le _, Nat.zero_le _⟩ (fun H locs hw => ?_)
    refine W.eq (g2 := F0 m 22 ls [.int v22]) rfl ?_
    cases h
    exact W.iret hx hb hr (M_fin C0 hw) hw.2.2.2 dX12_batch_22 hlocks

def fX12_weigh (a1 : Int32) (a2 : Int32) (a3 : Int32) (st : Sto) : Option (Int32 × Sto) :=
  lt1 (sI st 0 (0) 10 (0 : Int32)) fun (t1 : Sto) =>
  (fX12_is a1 (gI t1 0 (0) 7)).bind (fun (v2 : Int32) =>
   if v2 = 0 then (
    (fX12_no (2 : Int32) t1).bind (un2 fun (v5 : Int32) (t6 : Sto) =>
     some (v5, t6))) else (
    (fX12_is a2 (gI t1 0 (0) 6)).bind (fun (v8 : Int32) =>
     if v8 = 0 then (
      (fX12_no (2 : Int32) t1).bind (un2 fun (v41 : Int32) (t42 : Sto) =>
       some (v41, t42))) else (
      if a3 < (1 : Int32) then (
       (fX12_no (3 : Int32) t1).bind (un2 fun (v12 : Int32) (t13 : Sto) =>
        some (v12, t13))) else (
       if a3 ≤ (100000 : Int32) then (
        ck (0 ≤ a2.toInt ∧ a2.toInt < (lIM (20) (0) : Int)) (
         if lg_cmp ((a3.toInt64) * (1000 : Int64)) ((gI t1 (20) (0) (a2.toNatClampNeg)).toInt64) ≤ 0 then (
          (fX12_slotOf a1 a2 t1).bind (fun (v17 : Int32) =>
           if v17 = (8 : Int32) then (
            (fX12_no (1 : Int32) t1).bind (un2 fun (v32 : Int32) (t33 : Sto) =>
             some (v32, t33))) else (
            ck (0 ≤ a1.toInt ∧ a1.toInt < (lIM (23) (0) : Int)) (
             jn (fun (t23 : Sto) =>
              ck (0 ≤ (((8 : Int32) * a1) + v17).toInt ∧ (((8 : Int32) * a1) + v17).toInt < (lIM (25) (0) : Int)) (
               ck (0 ≤ (((8 : Int32) * a1) + v17).toInt ∧ (((8 : Int32) * a1) + v17).toInt < (lIM (25) (0) : Int)) (lt1 (sI t23 (25) (0) ((((8 : Int32) * a1) + v17).toNatClampNeg) ((gI t23 (25) (0) ((((8 : Int32) * a1) + v17).toNatClampNeg)) + a3)) fun (t24 : Sto) =>
                ck (0 ≤ a2.toInt ∧ a2.toInt < (lIM (20) (0) : Int)) (
                 ck (0 ≤ a2.toInt ∧ a2.toInt < (lIM (20) (0) : Int)) (lt1 (sI t24 (20) (0) (a2.toNatClampNeg) ((gI t24 (20) (0) (a2.toNatClampNeg)) - ((1000 : Int32) * a3))) fun (t25 : Sto) =>
                  (fX12_act (8 : Int32) a1 a2 a3 t25).bind (fun (t26 : Sto) =>
                   ck (0 ≤ (((8 : Int32) * a1) + v17).toInt ∧ (((8 : Int32) * a1) + v17).toInt < (lIM (25) (0) : Int)) (
                    some (gI t26 (25) (0) ((((8 : Int32) * a1) + v17).toNatClampNeg), t26)))))))) fun K20 =>
             if v17 = gI t1 (23) (0) (a1.toNatClampNeg) then (
              ck (0 ≤ (((8 : Int32) * a1) + v17).toInt ∧ (((8 : Int32) * a1) + v17).toInt < (lIM (24) (0) : Int)) (lt1 (sI t1 (24) (0) ((((8 : Int32) * a1) + v17).toNatClampNeg) a2) fun (t29 : Sto) =>
               ck (0 ≤ (((8 : Int32) * a1) + v17).toInt ∧ (((8 : Int32) * a1) + v17).toInt < (lIM (25) (0) : Int)) (lt1 (sI t29 (25) (0) ((((8 : Int32) * a1) + v17).toNatClampNeg) (0 : Int32)) fun (t30 : Sto) =>
                ck (0 ≤ a1.toInt ∧ a1.toInt < (lIM (23) (0) : Int)) (
                 ck (0 ≤ a1.toInt ∧ a1.toInt < (lIM (23) (0) : Int)) (lt1 (sI t30 (23) (0) (a1.toNatClampNeg) ((gI t30 (23) (0) (a1.toNatClampNeg)) + (1 : Int32))) fun (t31 : Sto) =>
                  K20 t31))))) else (
              K20 t1))))) else (
          (fX12_no (4 : Int32) t1).bind (un2 fun (v35 : Int32) (t36 : Sto) =>
           some (v35, t36))))) else (
        (fX12_no (3 : Int32) t1).bind (un2 fun (v38 : Int32) (t39 : Sto) =>
         some (v38, t39))))))))
set_option maxHeartbeats 4000000 in
set_option maxRecDepth 100000 in
theorem mX12_weigh (l : Launch) (E : XE) (hL : LM E) (st : Sto) {a1 : Int32} {a2 : Int32} {a3 : Int32} {r : Int32} {st1 : Sto} (h : fX12_weigh a1 a2 a3 st = some (r, st1)) : Met l yX12_weigh wsX12_weigh ({ frames := 1, cells := 0, slots := 0, locals := 25 }) (va_Pc [.ref (E.2.2.1 0 (0)), .int a1, .int a2, .int a3] (RM E st)) (QM E (some (.int r)) st1) 0 0 E.2.2.2 := by
  refine Met.ofW (cc := cX12_weigh) (maxL := 5) (ret := (some .int)) (by decide) rfl ?_
  intro p e s m args below meth c s₁ B hml hv
  obtain ⟨rfl, hP, hK⟩ := hv
  have hown : s.vm.findClass RX12 = some m.cls := findClass_of_methodNamed B.named
  have C0 : CX p m c cX12_weigh 5 s _ wsX12_weigh RX12 E := ⟨⟨B.exec, B.bytes, hml, hown, atoms_spec (ws := wsX12_weigh) B.pre⟩, hK⟩
  have hx := B.exec
  have hb := B.bytes
  have hr := B.returns
  have hlocks := B.notSynchronized
  have hw : SM E s st s.heap [] := ⟨hP, va_S.rf⟩
  have hl := lv_entry ([.ref (E.2.2.1 0 (0)), .int a1, .int a2, .int a3]) (n := 5) (Nat.le_of_ble_eq_true rfl)
  rw [lg_entry_eq]
  generalize (lg_sl ([.ref (E.2.2.1 0 (0)), .int a1, .int a2, .int a3]) ++ List.replicate (5 - (lg_sl ([.ref (E.2.2.1 0 (0)), .int a1, .int a2, .int a3])).length) Slot.unset).toArray = ls at hl ⊢
  have hl : lv_has ls 5 [(0, .ref (E.2.2.1 0 (0))), (1, .int a1), (2, .int a2), (3, .int a3)] := hl
  unfold fX12_weigh at h
  refine lv_aload_n hx hb dX12_weigh_0 rfl (lv_at hl 0 rfl) ?_
  refine lv_iconst (v := 0) hx hb dX12_weigh_1 (by decide) ?_
  refine M_p0_10 hL C0 hw (fun w h => (List.mem_cons_of_mem _ (List.mem_append_right _ h))) (by decide) h ((List.mem_cons_of_mem _ (List.mem_append_left _ (List.mem_append_left _ (List.mem_of_getElem? (i := 0) rfl))))) dX12_weigh_2 (fun t1 H locs hw h => ?_)
  refine lv_aload_n hx hb dX12_weigh_5 rfl (lv_at hl 0 rfl) ?_
  refine lv_iload_n hx hb dX12_weigh_6 rfl (lv_at hl 1 rfl) ?_
  refine lv_aload_n hx hb dX12_weigh_7 rfl (lv_at hl 0 rfl) ?_
  refine M_g0_7 C0 hw (fun w h => (List.mem_cons_of_mem _ (List.mem_append_right _ h))) (by decide) ((List.mem_cons_of_mem _ (List.mem_append_left _ (List.mem_append_left _ (List.mem_of_getElem? (i := 1) rfl))))) dX12_weigh_8 ?_
  obtain ⟨v2, hf3, h⟩ := bn_c h
  refine M_callV C0 hw (As := [.int a1, .int (gI t1 0 (0) 7)]) (rest := []) (mX12_is l E hL t1 hf3) (cwV 2 C0.1.2.2.2.2 gX12_weigh_X12_is rfl rfl rfl (by decide +kernel) ⟨Nat.le_of_ble_eq_true rfl, Nat.le_of_ble_eq_true rfl⟩) (M_recv_0 C0 hw (by decide)) rfl hl.1 rfl (Nat.le_of_ble_eq_true rfl) dX12_weigh_11 ⟨Nat.zero_le _, Nat.zero_le _⟩ (fun H locs hw => ?_)
  refine W.eq (g2 := F0 m 14 ls [.int v2]) rfl ?_
  refine lv_if_eq (tgt := 29) hx hb dX12_weigh_14 (by decide) (fun hc4 => ?_) (fun hc4 => ?_)
  · have h := ifp h hc4
    refine lv_aload_n hx hb dX12_weigh_29 rfl (lv_at hl 0 rfl) ?_
    refine lv_iconst (v := 2) hx hb dX12_weigh_30 (by decide) ?_
    obtain ⟨⟨v5, t6⟩, hf7, h⟩ := bn_c h
    have h := un2_d h
    refine M_callV C0 hw (As := [.int (2 : Int32)]) (rest := []) (mX12_no l E hL t1 hf7) (cwV 1 C0.1.2.2.2.2 gX12_weigh_X12_no rfl rfl rfl (by decide +kernel) ⟨Nat.le_of_ble_eq_true rfl, Nat.le_of_ble_eq_true rfl⟩) (M_recv_0 C0 hw (by decide)) rfl hl.1 rfl (Nat.le_of_ble_eq_true rfl) dX12_weigh_31 ⟨Nat.zero_le _, Nat.zero_le _⟩ (fun H locs hw => ?_)
    refine W.eq (g2 := F0 m 34 ls [.int v5]) rfl ?_
    cases h
    exact W.iret hx hb hr (M_fin C0 hw) hw.2.2.2 dX12_weigh_34 hlocks
  · have h := ifn h hc4
    refine lv_aload_n hx hb dX12_weigh_17 rfl (lv_at hl 0 rfl) ?_
    refine lv_iload_n hx hb dX12_weigh_18 rfl (lv_at hl 2 rfl) ?_
    refine lv_aload_n hx hb dX12_weigh_19 rfl (lv_at hl 0 rfl) ?_
    refine M_g0_6 C0 hw (fun w h => (List.mem_cons_of_mem _ (List.mem_append_right _ h))) (by decide) ((List.mem_cons_of_mem _ (List.mem_append_left _ (List.mem_append_left _ (List.mem_of_getElem? (i := 2) rfl))))) dX12_weigh_20 ?_
    obtain ⟨v8, hf9, h⟩ := bn_c h
    refine M_callV C0 hw (As := [.int a2, .int (gI t1 0 (0) 6)]) (rest := []) (mX12_is l E hL t1 hf9) (cwV 2 C0.1.2.2.2.2 gX12_weigh_X12_is rfl rfl rfl (by decide +kernel) ⟨Nat.le_of_ble_eq_true rfl, Nat.le_of_ble_eq_true rfl⟩) (M_recv_0 C0 hw (by decide)) rfl hl.1 rfl (Nat.le_of_ble_eq_true rfl) dX12_weigh_23 ⟨Nat.zero_le _, Nat.zero_le _⟩ (fun H locs hw => ?_)
    refine W.eq (g2 := F0 m 26 ls [.int v8]) rfl ?_
    refine lv_if_ne (tgt := 35) hx hb dX12_weigh_26 (by decide) (fun hc10 => ?_) (fun hc10 => ?_)
    · have h := ifn h hc10
      refine lv_iload_n hx hb dX12_weigh_35 rfl (lv_at hl 3 rfl) ?_
      refine lv_iconst (v := 1) hx hb dX12_weigh_36 (by decide) ?_
      refine lv_icmp_lt (tgt := 46) hx hb dX12_weigh_37 (by decide) (fun hc11 => ?_) (fun hc11 => ?_)
      · have h := ifp h hc11
        refine lv_aload_n hx hb dX12_weigh_46 rfl (lv_at hl 0 rfl) ?_
        refine lv_iconst (v := 3) hx hb dX12_weigh_47 (by decide) ?_
        obtain ⟨⟨v12, t13⟩, hf14, h⟩ := bn_c h
        have h := un2_d h
        refine M_callV C0 hw (As := [.int (3 : Int32)]) (rest := []) (mX12_no l E hL t1 hf14) (cwV 1 C0.1.2.2.2.2 gX12_weigh_X12_no rfl rfl rfl (by decide +kernel) ⟨Nat.le_of_ble_eq_true rfl, Nat.le_of_ble_eq_true rfl⟩) (M_recv_0 C0 hw (by decide)) rfl hl.1 rfl (Nat.le_of_ble_eq_true rfl) dX12_weigh_48 ⟨Nat.zero_le _, Nat.zero_le _⟩ (fun H locs hw => ?_)
        refine W.eq (g2 := F0 m 51 ls [.int v12]) rfl ?_
        cases h
        exact W.iret hx hb hr (M_fin C0 hw) hw.2.2.2 dX12_weigh_51 hlocks
      · have h := ifn h hc11
        refine lv_iload_n hx hb dX12_weigh_40 rfl (lv_at hl 3 rfl) ?_
        refine lv_ldc hx hb hown (C0.1.2.2.2.2 _ (List.mem_cons_of_mem _ (List.mem_append_left _ (List.mem_append_left _ (List.mem_of_getElem? (i := 3) rfl))))) dX12_weigh_41 ?_
        refine lv_icmp_le (tgt := 52) hx hb dX12_weigh_43 (by decide) (fun hc15 => ?_) (fun hc15 => ?_)
        · have h := ifp h hc15
          refine lv_iload_n hx hb dX12_weigh_52 rfl (lv_at hl 3 rfl) ?_
          refine lv_i2l hx hb dX12_weigh_53 rfl ?_
          refine lv_ldc2 hx hb hown (C0.1.2.2.2.2 _ (List.mem_cons_of_mem _ (List.mem_append_left _ (List.mem_append_left _ (List.mem_of_getElem? (i := 4) rfl))))) dX12_weigh_54 ?_
          refine lv_lmul hx hb dX12_weigh_57 ?_
          refine lv_aload_n hx hb dX12_weigh_58 rfl (lv_at hl 0 rfl) ?_
          refine M_g0_19 C0 hw (fun w h => (List.mem_cons_of_mem _ (List.mem_append_right _ h))) (by decide) ((List.mem_cons_of_mem _ (List.mem_append_left _ (List.mem_append_left _ (List.mem_of_getElem? (i := 5) rfl))))) dX12_weigh_59 ?_
          refine lv_iload_n hx hb dX12_weigh_62 rfl (lv_at hl 2 rfl) ?_
          refine M_iald C0 hw h (k := a2.toNatClampNeg) rfl dX12_weigh_63 (fun h => ?_)
          refine lv_i2l hx hb dX12_weigh_64 rfl ?_
          refine W.lcmp hx hb dX12_weigh_65 ?_
          refine lv_if_le (tgt := 75) hx hb dX12_weigh_66 (by decide) (fun hc16 => ?_) (fun hc16 => ?_)
          · have h := ifp h hc16
            refine lv_aload_n hx hb dX12_weigh_75 rfl (lv_at hl 0 rfl) ?_
            refine lv_iload_n hx hb dX12_weigh_76 rfl (lv_at hl 1 rfl) ?_
            refine lv_iload_n hx hb dX12_weigh_77 rfl (lv_at hl 2 rfl) ?_
            obtain ⟨v17, hf18, h⟩ := bn_c h
            refine M_callV C0 hw (As := [.int a1, .int a2]) (rest := []) (mX12_slotOf l E hL t1 hf18) (cwV 2 C0.1.2.2.2.2 gX12_weigh_X12_slotOf rfl rfl rfl (by decide +kernel) ⟨Nat.le_of_ble_eq_true rfl, Nat.le_of_ble_eq_true rfl⟩) (M_recv_0 C0 hw (by decide)) rfl hl.1 rfl (Nat.le_of_ble_eq_true rfl) dX12_weigh_78 ⟨Nat.zero_le _, Nat.zero_le _⟩ (fun H locs hw => ?_)
            refine W.eq (g2 := F0 m 81 ls [.int v17]) rfl ?_
            refine lv_istore (lv' := [(4, .int v17), (0, .ref (E.2.2.1 0 (0))), (1, .int a1), (2, .int a2), (3, .int a3)]) hx hb dX12_weigh_81 hl (by decide) rfl (fun ls hl => ?_)
            refine lv_iload hx hb dX12_weigh_83 (lv_at hl 0 rfl) ?_
            refine lv_bipush (v := 8) hx hb dX12_weigh_85 (by decide) ?_
            refine lv_icmp_ne (tgt := 96) hx hb dX12_weigh_87 (by decide) (fun hc19 => ?_) (fun hc19 => ?_)
            · have h := ifn h hc19
              refine lv_iload hx hb dX12_weigh_96 (lv_at hl 0 rfl) ?_
              refine lv_aload_n hx hb dX12_weigh_98 rfl (lv_at hl 1 rfl) ?_
              refine M_g0_22 C0 hw (fun w h => (List.mem_cons_of_mem _ (List.mem_append_right _ h))) (by decide) ((List.mem_cons_of_mem _ (List.mem_append_left _ (List.mem_append_left _ (List.mem_of_getElem? (i := 6) rfl))))) dX12_weigh_99 ?_
              refine lv_iload_n hx hb dX12_weigh_102 rfl (lv_at hl 2 rfl) ?_
              refine M_iald C0 hw h (k := a1.toNatClampNeg) rfl dX12_weigh_103 (fun h => ?_)
              refine jn_c h (fun K20 hK22 h => ?_)
              have HJ21 : ∀ (t23 : Sto), K20 t23 = some (r, st1) → ∀ (H : Heap) (locs : List Loc), SM E s t23 H locs → ∀ ls : Array Slot, lv_has ls 5 [(4, .int v17), (0, .ref (E.2.2.1 0 (0))), (1, .int a1), (2, .int a2), (3, .int a3)] → W p l e (headSpec wsX12_weigh ({ frames := 1, cells := 0, slots := 0, locals := 25 })).room s m ([.ref (E.2.2.1 0 (0)), .int a1, .int a2, .int a3] : List Value).toArray below meth c H locs 0 0 (MQ below (QM E (some (.int r)) st1) ([.ref (E.2.2.1 0 (0)), .int a1, .int a2, .int a3] : List Value).toArray s 0 0 E.2.2.2) (F0 m 143 ls []) := by
                intro t23 h H locs hw ls hl
                have h := kk1 h hK22
                refine lv_aload_n hx hb dX12_weigh_143 rfl (lv_at hl 1 rfl) ?_
                refine M_g0_24 C0 hw (fun w h => (List.mem_cons_of_mem _ (List.mem_append_right _ h))) (by decide) ((List.mem_cons_of_mem _ (List.mem_append_left _ (List.mem_append_left _ (List.mem_of_getElem? (i := 8) rfl))))) dX12_weigh_144 ?_
                refine lv_bipush (v := 8) hx hb dX12_weigh_147 (by decide) ?_
                refine lv_iload_n hx hb dX12_weigh_149 rfl (lv_at hl 2 rfl) ?_
                refine lv_imul hx hb dX12_weigh_150 ?_
                refine lv_iload hx hb dX12_weigh_151 (lv_at hl 0 rfl) ?_
                refine lv_iadd hx hb dX12_weigh_153 ?_
                refine lv_dup2_11 hx hb dX12_weigh_154 rfl rfl ?_
                refine M_iald C0 hw h (k := (((8 : Int32) * a1) + v17).toNatClampNeg) rfl dX12_weigh_155 (fun h => ?_)
                refine lv_iload_n hx hb dX12_weigh_156 rfl (lv_at hl 4 rfl) ?_
                refine lv_iadd hx hb dX12_weigh_157 ?_
                refine M_iast hL C0 hw h (k := (((8 : Int32) * a1) + v17).toNatClampNeg) rfl dX12_weigh_158 (fun t24 H locs hw h => ?_)
                refine lv_aload_n hx hb dX12_weigh_159 rfl (lv_at hl 1 rfl) ?_
                refine M_g0_19 C0 hw (fun w h => (List.mem_cons_of_mem _ (List.mem_append_right _ h))) (by decide) ((List.mem_cons_of_mem _ (List.mem_append_left _ (List.mem_append_left _ (List.mem_of_getElem? (i := 5) rfl))))) dX12_weigh_160 ?_
                refine lv_iload_n hx hb dX12_weigh_163 rfl (lv_at hl 3 rfl) ?_
                refine lv_dup2_11 hx hb dX12_weigh_164 rfl rfl ?_
                refine M_iald C0 hw h (k := a2.toNatClampNeg) rfl dX12_weigh_165 (fun h => ?_)
                refine lv_sipush (v := 1000) hx hb dX12_weigh_166 (by decide) ?_
                refine lv_iload_n hx hb dX12_weigh_169 rfl (lv_at hl 4 rfl) ?_
                refine lv_imul hx hb dX12_weigh_170 ?_
                refine lv_isub hx hb dX12_weigh_171 ?_
                refine M_iast hL C0 hw h (k := a2.toNatClampNeg) rfl dX12_weigh_172 (fun t25 H locs hw h => ?_)
                refine lv_aload_n hx hb dX12_weigh_173 rfl (lv_at hl 1 rfl) ?_
                refine lv_bipush (v := 8) hx hb dX12_weigh_174 (by decide) ?_
                refine lv_iload_n hx hb dX12_weigh_176 rfl (lv_at hl 2 rfl) ?_
                refine lv_iload_n hx hb dX12_weigh_177 rfl (lv_at hl 3 rfl) ?_
                refine lv_iload_n hx hb dX12_weigh_178 rfl (lv_at hl 4 rfl) ?_
                obtain ⟨t26, hf27, h⟩ := bn_c h
                refine M_callV C0 hw (As := [.int (8 : Int32), .int a1, .int a2, .int a3]) (rest := []) (mX12_act l E hL t25 hf27) (cwV 4 C0.1.2.2.2.2 gX12_weigh_X12_act rfl rfl rfl (by decide +kernel) ⟨Nat.le_of_ble_eq_true rfl, Nat.le_of_ble_eq_true rfl⟩) (M_recv_0 C0 hw (by decide)) rfl hl.1 rfl (Nat.le_of_ble_eq_true rfl) dX12_weigh_179 ⟨Nat.zero_le _, Nat.zero_le _⟩ (fun H locs hw => ?_)
                refine W.eq (g2 := F0 m 182 ls []) rfl ?_
                refine lv_aload_n hx hb dX12_weigh_182 rfl (lv_at hl 1 rfl) ?_
                refine M_g0_24 C0 hw (fun w h => (List.mem_cons_of_mem _ (List.mem_append_right _ h))) (by decide) ((List.mem_cons_of_mem _ (List.mem_append_left _ (List.mem_append_left _ (List.mem_of_getElem? (i := 8) rfl))))) dX12_weigh_183 ?_
                refine lv_bipush (v := 8) hx hb dX12_weigh_186 (by decide) ?_
                refine lv_iload_n hx hb dX12_weigh_188 rfl (lv_at hl 2 rfl) ?_
                refine lv_imul hx hb dX12_weigh_189 ?_
                refine lv_iload hx hb dX12_weigh_190 (lv_at hl 0 rfl) ?_
                refine lv_iadd hx hb dX12_weigh_192 ?_
                refine M_iald C0 hw h (k := (((8 : Int32) * a1) + v17).toNatClampNeg) rfl dX12_weigh_193 (fun h => ?_)
                cases h
                exact W.iret hx hb hr (M_fin C0 hw) hw.2.2.2 dX12_weigh_194 hlocks
              refine lv_icmp_ne (tgt := 143) hx hb dX12_weigh_104 (by decide) (fun hc28 => ?_) (fun hc28 => ?_)
              · have h := ifn h hc28
                exact HJ21 _ h _ _ hw _ (lv_sub hl [0, 1, 2, 3, 4] rfl)
              · have h := ifp h hc28
                refine lv_aload_n hx hb dX12_weigh_107 rfl (lv_at hl 1 rfl) ?_
                refine M_g0_23 C0 hw (fun w h => (List.mem_cons_of_mem _ (List.mem_append_right _ h))) (by decide) ((List.mem_cons_of_mem _ (List.mem_append_left _ (List.mem_append_left _ (List.mem_of_getElem? (i := 7) rfl))))) dX12_weigh_108 ?_
                refine lv_bipush (v := 8) hx hb dX12_weigh_111 (by decide) ?_
                refine lv_iload_n hx hb dX12_weigh_113 rfl (lv_at hl 2 rfl) ?_
                refine lv_imul hx hb dX12_weigh_114 ?_
                refine lv_iload hx hb dX12_weigh_115 (lv_at hl 0 rfl) ?_
                refine lv_iadd hx hb dX12_weigh_117 ?_
                refine lv_iload_n hx hb dX12_weigh_118 rfl (lv_at hl 3 rfl) ?_
                refine M_iast hL C0 hw h (k := (((8 : Int32) * a1) + v17).toNatClampNeg) rfl dX12_weigh_119 (fun t29 H locs hw h => ?_)
                refine lv_aload_n hx hb dX12_weigh_120 rfl (lv_at hl 1 rfl) ?_
                refine M_g0_24 C0 hw (fun w h => (List.mem_cons_of_mem _ (List.mem_append_right _ h))) (by decide) ((List.mem_cons_of_mem _ (List.mem_append_left _ (List.mem_append_left _ (List.mem_of_getElem? (i := 8) rfl))))) dX12_weigh_121 ?_
                refine lv_bipush (v := 8) hx hb dX12_weigh_124 (by decide) ?_
                refine lv_iload_n hx hb dX12_weigh_126 rfl (lv_at hl 2 rfl) ?_
                refine lv_imul hx hb dX12_weigh_127 ?_
                refine lv_iload hx hb dX12_weigh_128 (lv_at hl 0 rfl) ?_
                refine lv_iadd hx hb dX12_weigh_130 ?_
                refine lv_iconst (v := 0) hx hb dX12_weigh_131 (by decide) ?_
                refine M_iast hL C0 hw h (k := (((8 : Int32) * a1) + v17).toNatClampNeg) rfl dX12_weigh_132 (fun t30 H locs hw h => ?_)
                refine lv_aload_n hx hb dX12_weigh_133 rfl (lv_at hl 1 rfl) ?_
                refine M_g0_22 C0 hw (fun w h => (List.mem_cons_of_mem _ (List.mem_append_right _ h))) (by decide) ((List.mem_cons_of_mem _ (List.mem_append_left _ (List.mem_append_left _ (List.mem_of_getElem? (i := 6) rfl))))) dX12_weigh_134 ?_
                refine lv_iload_n hx hb dX12_weigh_137 rfl (lv_at hl 2 rfl) ?_
                refine lv_dup2_11 hx hb dX12_weigh_138 rfl rfl ?_
                refine M_iald C0 hw h (k := a1.toNatClampNeg) rfl dX12_weigh_139 (fun h => ?_)
                refine lv_iconst (v := 1) hx hb dX12_weigh_140 (by decide) ?_
                refine lv_iadd hx hb dX12_weigh_141 ?_
                refine M_iast hL C0 hw h (k := a1.toNatClampNeg) rfl dX12_weigh_142 (fun t31 H locs hw h => ?_)
                exact HJ21 _ h _ _ hw _ (lv_sub hl [0, 1, 2, 3, 4] rfl)
            · have h := ifp h hc19
              refine lv_aload_n hx hb dX12_weigh_90 rfl (lv_at hl 1 rfl) ?_
              refine lv_iconst (v := 1) hx hb dX12_weigh_91 (by decide) ?_
              obtain ⟨⟨v32, t33⟩, hf34, h⟩ := bn_c h
              have h := un2_d h
              refine M_callV C0 hw (As := [.int (1 : Int32)]) (rest := []) (mX12_no l E hL t1 hf34) (cwV 1 C0.1.2.2.2.2 gX12_weigh_X12_no rfl rfl rfl (by decide +kernel) ⟨Nat.le_of_ble_eq_true rfl, Nat.le_of_ble_eq_true rfl⟩) (M_recv_0 C0 hw (by decide)) rfl hl.1 rfl (Nat.le_of_ble_eq_true rfl) dX12_weigh_92 ⟨Nat.zero_le _, Nat.zero_le _⟩ (fun H locs hw => ?_)
              refine W.eq (g2 := F0 m 95 ls [.int v32]) rfl ?_
              cases h
              exact W.iret hx hb hr (M_fin C0 hw) hw.2.2.2 dX12_weigh_95 hlocks
          · have h := ifn h hc16
            refine lv_aload_n hx hb dX12_weigh_69 rfl (lv_at hl 0 rfl) ?_
            refine lv_iconst (v := 4) hx hb dX12_weigh_70 (by decide) ?_
            obtain ⟨⟨v35, t36⟩, hf37, h⟩ := bn_c h
            have h := un2_d h
            refine M_callV C0 hw (As := [.int (4 : Int32)]) (rest := []) (mX12_no l E hL t1 hf37) (cwV 1 C0.1.2.2.2.2 gX12_weigh_X12_no rfl rfl rfl (by decide +kernel) ⟨Nat.le_of_ble_eq_true rfl, Nat.le_of_ble_eq_true rfl⟩) (M_recv_0 C0 hw (by decide)) rfl hl.1 rfl (Nat.le_of_ble_eq_true rfl) dX12_weigh_71 ⟨Nat.zero_le _, Nat.zero_le _⟩ (fun H locs hw => ?_)
            refine W.eq (g2 := F0 m 74 ls [.int v35]) rfl ?_
            cases h
            exact W.iret hx hb hr (M_fin C0 hw) hw.2.2.2 dX12_weigh_74 hlocks
        · have h := ifn h hc15
          refine lv_aload_n hx hb dX12_weigh_46 rfl (lv_at hl 0 rfl) ?_
          refine lv_iconst (v := 3) hx hb dX12_weigh_47 (by decide) ?_
          obtain ⟨⟨v38, t39⟩, hf40, h⟩ := bn_c h
          have h := un2_d h
          refine M_callV C0 hw (As := [.int (3 : Int32)]) (rest := []) (mX12_no l E hL t1 hf40) (cwV 1 C0.1.2.2.2.2 gX12_weigh_X12_no rfl rfl rfl (by decide +kernel) ⟨Nat.le_of_ble_eq_true rfl, Nat.le_of_ble_eq_true rfl⟩) (M_recv_0 C0 hw (by decide)) rfl hl.1 rfl (Nat.le_of_ble_eq_true rfl) dX12_weigh_48 ⟨Nat.zero_le _, Nat.zero_le _⟩ (fun H locs hw => ?_)
          refine W.eq (g2 := F0 m 51 ls [.int v38]) rfl ?_
          cases h
          exact W.iret hx hb hr (M_fin C0 hw) hw.2.2.2 dX12_weigh_51 hlocks
    · have h := ifp h hc10
      refine lv_aload_n hx hb dX12_weigh_29 rfl (lv_at hl 0 rfl) ?_
      refine lv_iconst (v := 2) hx hb dX12_weigh_30 (by decide) ?_
      obtain ⟨⟨v41, t42⟩, hf43, h⟩ := bn_c h
      have h := un2_d h
      refine M_callV C0 hw (As := [.int (2 : Int32)]) (rest := []) (mX12_no l E hL t1 hf43) (cwV 1 C0.1.2.2.2.2 gX12_weigh_X12_no rfl rfl rfl (by decide +kernel) ⟨Nat.le_of_ble_eq_true rfl, Nat.le_of_ble_eq_true rfl⟩) (M_recv_0 C0 hw (by decide)) rfl hl.1 rfl (Nat.le_of_ble_eq_true rfl) dX12_weigh_31 ⟨Nat.zero_le _, Nat.zero_le _⟩ (fun H locs hw => ?_)
      refine W.eq (g2 := F0 m 34 ls [.int v41]) rfl ?_
      cases h
      exact W.iret hx hb hr (M_fin C0 hw) hw.2.2.2 dX12_weigh_34 hlocks

def fX12_bathDistance (a1 : Int32) (st : Sto) : Option (UInt64 × Sto) :=
  ((lp (σ := (Int32 × Sto)) (ρ := Sto) (un2 fun (v4 : Int32) (t5 : Sto) =>
     if (16 : Int32) ≤ v4 then (
      some (.inr t5)) else (
      ck (0 ≤ a1.toInt ∧ a1.toInt < (lIM (21) (0) : Int)) (
       ck (0 ≤ (((16 : Int32) * ((41 : Int32) + (gI t5 (21) (0) (a1.toNatClampNeg)))) + v4).toInt ∧ (((16 : Int32) * ((41 : Int32) + (gI t5 (21) (0) (a1.toNatClampNeg)))) + v4).toInt < (lFM (1) (0) : Int)) (
        (fX12_quotient (gF t5 (1) (0) ((((16 : Int32) * ((41 : Int32) + (gI t5 (21) (0) (a1.toNatClampNeg)))) + v4).toNatClampNeg))).bind (fun (v10 : UInt64) =>
         ((lp (σ := (Int32 × UInt64)) (ρ := UInt64) (un2 fun (v15 : Int32) (v16 : UInt64) =>
            if gI t5 0 (0) 68 ≤ v15 then (
             some (.inr v16)) else (
             ck (0 ≤ v15.toInt ∧ v15.toInt < (lIM (67) (0) : Int)) (
              ck (0 ≤ v15.toInt ∧ v15.toInt < (lIM (68) (0) : Int)) (
               ck (0 ≤ a1.toInt ∧ a1.toInt < (lIM (22) (0) : Int)) (
                ck (¬ ((gI t5 (22) (0) (a1.toNatClampNeg)).toInt64) = 0) (
                 (fX12_lotAt (gI t5 (67) (0) (v15.toNatClampNeg)) (FP.l2d ((((gI t5 (68) (0) (v15.toNatClampNeg)).toInt64) * (10 : Int64)) / ((gI t5 (22) (0) (a1.toNatClampNeg)).toInt64))) v4 t5).bind (fun (v23 : UInt64) =>
                  nd (FP.dadd v16 v23) fun (v25 : UInt64) =>
                  lt1 (v15 + Int32.ofInt (1)) fun (v26 : Int32) =>
                  some (.inl (v26, v25))))))))) 4000 ((0 : Int32), v10)).bind
          (fun (v17 : UInt64) =>
           (fX12_bandOf v17).bind (fun (v27 : UInt32) =>
            ck (0 ≤ ((2144 : Int32) + v4).toInt ∧ ((2144 : Int32) + v4).toInt < (lFM (1) (0) : Int)) (lt1 (sF t5 (1) (0) (((2144 : Int32) + v4).toNatClampNeg) v27) fun (t29 : Sto) =>
             lt1 (v4 + Int32.ofInt (1)) fun (v30 : Int32) =>
             some (.inl (v30, t29))))))))))) 4000 ((0 : Int32), st)).bind
   (fun (t6 : Sto) =>
    (fX12_fromTo (134 : Int32) (gI t6 0 (0) 59) (gI t6 0 (0) 60) t6).bind (fun (v31 : UInt64) =>
     some (v31, t6))))
set_option maxHeartbeats 4000000 in
set_option maxRecDepth 100000 in
theorem mX12_bathDistance (l : Launch) (E : XE) (hL : LM E) (st : Sto) {a1 : Int32} {r : UInt64} {st1 : Sto} (h : fX12_bathDistance a1 st = some (r, st1)) : Met l yX12_bathDistance wsX12_bathDistance ({ frames := 6, cells := 0, slots := 0, locals := 164 }) (va_Pc [.ref (E.2.2.1 0 (0)), .int a1] (RM E st)) (QM E (some (.double r)) st1) 0 0 E.2.2.2 := by
  refine Met.ofW (cc := cX12_bathDistance) (maxL := 6) (ret := (some .double)) (by decide) rfl ?_
  intro p e s m args below meth c s₁ B hml hv
  obtain ⟨rfl, hP, hK⟩ := hv
  have hown : s.vm.findClass RX12 = some m.cls := findClass_of_methodNamed B.named
  have C0 : CX p m c cX12_bathDistance 6 s _ wsX12_bathDistance RX12 E := ⟨⟨B.exec, B.bytes, hml, hown, atoms_spec (ws := wsX12_bathDistance) B.pre⟩, hK⟩
  have hx := B.exec
  have hb := B.bytes
  have hr := B.returns
  have hlocks := B.notSynchronized
  have hw : SM E s st s.heap [] := ⟨hP, va_S.rf⟩
  have hl := lv_entry ([.ref (E.2.2.1 0 (0)), .int a1]) (n := 6) (Nat.le_of_ble_eq_true rfl)
  rw [lg_entry_eq]
  generalize (lg_sl ([.ref (E.2.2.1 0 (0)), .int a1]) ++ List.replicate (6 - (lg_sl ([.ref (E.2.2.1 0 (0)), .int a1])).length) Slot.unset).toArray = ls at hl ⊢
  have hl : lv_has ls 6 [(0, .ref (E.2.2.1 0 (0))), (1, .int a1)] := hl
  unfold fX12_bathDistance at h
  refine lv_iconst (v := 0) hx hb dX12_bathDistance_0 (by decide) ?_
  refine lv_istore_n (lv' := [(2, .int (0 : Int32)), (0, .ref (E.2.2.1 0 (0))), (1, .int a1)]) hx hb dX12_bathDistance_1 rfl hl (by decide) rfl (fun ls hl => ?_)
  refine lp_ind (fun q : (Int32 × Sto) => ∀ (H : Heap) (locs : List Loc), SM E s (q.2) H locs → ∀ ls : Array Slot, lv_has ls 6 [(2, .int (q.1)), (0, .ref (E.2.2.1 0 (0))), (1, .int a1)] → W p l e (headSpec wsX12_bathDistance ({ frames := 6, cells := 0, slots := 0, locals := 164 })).room s m ([.ref (E.2.2.1 0 (0)), .int a1] : List Value).toArray below meth c H locs 0 0 (MQ below (QM E (some (.double r)) st1) ([.ref (E.2.2.1 0 (0)), .int a1] : List Value).toArray s 0 0 E.2.2.2) (F0 m 2 ls [])) (fun q o3 h hB2 hX1 => ?_) _ _ h _ _ hw _ (lv_sub hl [0, 1, 2] rfl)
  intro H locs hw ls hl
  obtain ⟨v4, t5⟩ := q
  have h := un2_d h
  have hw : SM E s t5 H locs := hw
  have hl : lv_has ls 6 [(2, .int v4), (0, .ref (E.2.2.1 0 (0))), (1, .int a1)] := hl
  refine lv_iload_n hx hb dX12_bathDistance_2 rfl (lv_at hl 0 rfl) ?_
  refine lv_bipush (v := 16) hx hb dX12_bathDistance_3 (by decide) ?_
  refine lv_icmp_ge (tgt := 107) hx hb dX12_bathDistance_5 (by decide) (fun hc7 => ?_) (fun hc7 => ?_)
  · have h := ifp h hc7
    have h := hX1 _ (Option.some.inj h).symm
    have hl := lv_sub hl (l' := [(0, .ref (E.2.2.1 0 (0)))]) [1] rfl
    refine lv_aload_n hx hb dX12_bathDistance_107 rfl (lv_at hl 0 rfl) ?_
    refine lv_sipush (v := 134) hx hb dX12_bathDistance_108 (by decide) ?_
    refine lv_aload_n hx hb dX12_bathDistance_111 rfl (lv_at hl 0 rfl) ?_
    refine M_g0_59 C0 hw (fun w h => (List.mem_cons_of_mem _ (List.mem_append_right _ h))) (by decide) ((List.mem_cons_of_mem _ (List.mem_append_left _ (List.mem_append_left _ (List.mem_of_getElem? (i := 7) rfl))))) dX12_bathDistance_112 ?_
    refine lv_aload_n hx hb dX12_bathDistance_115 rfl (lv_at hl 0 rfl) ?_
    refine M_g0_60 C0 hw (fun w h => (List.mem_cons_of_mem _ (List.mem_append_right _ h))) (by decide) ((List.mem_cons_of_mem _ (List.mem_append_left _ (List.mem_append_left _ (List.mem_of_getElem? (i := 8) rfl))))) dX12_bathDistance_116 ?_
    obtain ⟨v8, hf9, h⟩ := bn_c h
    refine M_callV C0 hw (As := [.int (134 : Int32), .int (gI t5 0 (0) 59), .int (gI t5 0 (0) 60)]) (rest := []) (mX12_fromTo l E hL t5 hf9) (cwV 3 C0.1.2.2.2.2 gX12_bathDistance_X12_fromTo rfl rfl rfl (by decide +kernel) ⟨Nat.le_of_ble_eq_true rfl, Nat.le_of_ble_eq_true rfl⟩) (M_recv_0 C0 hw (by decide)) rfl hl.1 rfl (Nat.le_of_ble_eq_true rfl) dX12_bathDistance_119 ⟨Nat.zero_le _, Nat.zero_le _⟩ (fun H locs hw => ?_)
    refine W.eq (g2 := F0 m 122 ls [.double v8]) rfl ?_
    cases h
    exact W.dret hx hb hr (M_fin C0 hw) hw.2.2.2 dX12_bathDistance_122 hlocks
  · have h := ifn h hc7
    refine lv_aload_n hx hb dX12_bathDistance_8 rfl (lv_at hl 1 rfl) ?_
    refine lv_aload_n hx hb dX12_bathDistance_9 rfl (lv_at hl 1 rfl) ?_
    refine M_g0_0 C0 hw (fun w h => (List.mem_cons_of_mem _ (List.mem_append_right _ h))) (by decide) ((List.mem_cons_of_mem _ (List.mem_append_left _ (List.mem_append_left _ (List.mem_of_getElem? (i := 0) rfl))))) dX12_bathDistance_10 ?_
    refine lv_bipush (v := 16) hx hb dX12_bathDistance_13 (by decide) ?_
    refine lv_bipush (v := 41) hx hb dX12_bathDistance_15 (by decide) ?_
    refine lv_aload_n hx hb dX12_bathDistance_17 rfl (lv_at hl 1 rfl) ?_
    refine M_g0_20 C0 hw (fun w h => (List.mem_cons_of_mem _ (List.mem_append_right _ h))) (by decide) ((List.mem_cons_of_mem _ (List.mem_append_left _ (List.mem_append_left _ (List.mem_of_getElem? (i := 1) rfl))))) dX12_bathDistance_18 ?_
    refine lv_iload_n hx hb dX12_bathDistance_21 rfl (lv_at hl 2 rfl) ?_
    refine M_iald C0 hw h (k := a1.toNatClampNeg) rfl dX12_bathDistance_22 (fun h => ?_)
    refine lv_iadd hx hb dX12_bathDistance_23 ?_
    refine lv_imul hx hb dX12_bathDistance_24 ?_
    refine lv_iload_n hx hb dX12_bathDistance_25 rfl (lv_at hl 0 rfl) ?_
    refine lv_iadd hx hb dX12_bathDistance_26 ?_
    refine M_fald C0 hw h (k := (((16 : Int32) * ((41 : Int32) + (gI t5 (21) (0) (a1.toNatClampNeg)))) + v4).toNatClampNeg) rfl dX12_bathDistance_27 (fun h => ?_)
    obtain ⟨v10, hf11, h⟩ := bn_c h
    refine M_callV C0 hw (As := [.float (gF t5 (1) (0) ((((16 : Int32) * ((41 : Int32) + (gI t5 (21) (0) (a1.toNatClampNeg)))) + v4).toNatClampNeg))]) (rest := []) (mX12_quotient l E hL t5 hf11) (cwV 1 C0.1.2.2.2.2 gX12_bathDistance_X12_quotient rfl rfl rfl (by decide +kernel) ⟨Nat.le_of_ble_eq_true rfl, Nat.le_of_ble_eq_true rfl⟩) (M_recv_0 C0 hw (by decide)) rfl hl.1 rfl (Nat.le_of_ble_eq_true rfl) dX12_bathDistance_28 ⟨Nat.zero_le _, Nat.zero_le _⟩ (fun H locs hw => ?_)
    refine W.eq (g2 := F0 m 31 ls [.double v10]) rfl ?_
    refine lv_dstore_n (lv' := [(3, .double v10), (2, .int v4), (0, .ref (E.2.2.1 0 (0))), (1, .int a1)]) hx hb dX12_bathDistance_31 rfl hl (by decide) rfl (fun ls hl => ?_)
    refine lv_iconst (v := 0) hx hb dX12_bathDistance_32 (by decide) ?_
    refine lv_istore (lv' := [(5, .int (0 : Int32)), (3, .double v10), (2, .int v4), (0, .ref (E.2.2.1 0 (0))), (1, .int a1)]) hx hb dX12_bathDistance_33 hl (by decide) rfl (fun ls hl => ?_)
    refine lp_ind (fun q : (Int32 × UInt64) => ∀ (H : Heap) (locs : List Loc), SM E s t5 H locs → ∀ ls : Array Slot, lv_has ls 6 [(5, .int (q.1)), (3, .double (q.2)), (2, .int v4), (0, .ref (E.2.2.1 0 (0))), (1, .int a1)] → W p l e (headSpec wsX12_bathDistance ({ frames := 6, cells := 0, slots := 0, locals := 164 })).room s m ([.ref (E.2.2.1 0 (0)), .int a1] : List Value).toArray below meth c H locs 0 0 (MQ below (QM E (some (.double r)) st1) ([.ref (E.2.2.1 0 (0)), .int a1] : List Value).toArray s 0 0 E.2.2.2) (F0 m 35 ls [])) (fun q o14 h hB13 hX12 => ?_) _ _ h _ _ hw _ (lv_sub hl [0, 1, 2, 3, 4] rfl)
    intro H locs hw ls hl
    obtain ⟨v15, v16⟩ := q
    have h := un2_d h
    have hl : lv_has ls 6 [(5, .int v15), (3, .double v16), (2, .int v4), (0, .ref (E.2.2.1 0 (0))), (1, .int a1)] := hl
    refine lv_iload hx hb dX12_bathDistance_35 (lv_at hl 0 rfl) ?_
    refine lv_aload_n hx hb dX12_bathDistance_37 rfl (lv_at hl 3 rfl) ?_
    refine M_g0_68 C0 hw (fun w h => (List.mem_cons_of_mem _ (List.mem_append_right _ h))) (by decide) ((List.mem_cons_of_mem _ (List.mem_append_left _ (List.mem_append_left _ (List.mem_of_getElem? (i := 2) rfl))))) dX12_bathDistance_38 ?_
    refine lv_icmp_ge (tgt := 86) hx hb dX12_bathDistance_41 (by decide) (fun hc18 => ?_) (fun hc18 => ?_)
    · have h := ifp h hc18
      have h := hX12 _ (Option.some.inj h).symm
      have hl := lv_sub hl (l' := [(0, .ref (E.2.2.1 0 (0))), (1, .int a1), (2, .int v4), (3, .double v16)]) [3, 4, 2, 1] rfl
      refine lv_aload_n hx hb dX12_bathDistance_86 rfl (lv_at hl 0 rfl) ?_
      refine M_g0_0 C0 hw (fun w h => (List.mem_cons_of_mem _ (List.mem_append_right _ h))) (by decide) ((List.mem_cons_of_mem _ (List.mem_append_left _ (List.mem_append_left _ (List.mem_of_getElem? (i := 0) rfl))))) dX12_bathDistance_87 ?_
      refine lv_sipush (v := 2144) hx hb dX12_bathDistance_90 (by decide) ?_
      refine lv_iload_n hx hb dX12_bathDistance_93 rfl (lv_at hl 2 rfl) ?_
      refine lv_iadd hx hb dX12_bathDistance_94 ?_
      refine lv_aload_n hx hb dX12_bathDistance_95 rfl (lv_at hl 0 rfl) ?_
      refine lv_dload_n hx hb dX12_bathDistance_96 rfl (lv_at hl 3 rfl) ?_
      obtain ⟨v19, hf20, h⟩ := bn_c h
      refine M_callV C0 hw (As := [.double v16]) (rest := [.int ((2144 : Int32) + v4), .ref (E.2.2.1 (1) (0))]) (mX12_bandOf l E hL t5 hf20) (cwV 1 C0.1.2.2.2.2 gX12_bathDistance_X12_bandOf rfl rfl rfl (by decide +kernel) ⟨Nat.le_of_ble_eq_true rfl, Nat.le_of_ble_eq_true rfl⟩) (M_recv_0 C0 hw (by decide)) rfl hl.1 rfl (Nat.le_of_ble_eq_true rfl) dX12_bathDistance_97 ⟨Nat.zero_le _, Nat.zero_le _⟩ (fun H locs hw => ?_)
      refine W.eq (g2 := F0 m 100 ls [.float v19, .int ((2144 : Int32) + v4), .ref (E.2.2.1 (1) (0))]) rfl ?_
      refine M_fast hL C0 hw h (k := ((2144 : Int32) + v4).toNatClampNeg) rfl dX12_bathDistance_100 (fun t21 H locs hw h => ?_)
      refine x_iinc hx hb h dX12_bathDistance_101 hl (q := 2) rfl (fun v22 => [(2, .int v22), (0, .ref (E.2.2.1 0 (0))), (1, .int a1), (3, .double v16)]) (by decide) (fun _ => rfl) (fun v22 ls hl h => ?_)
      refine lv_goto (tgt := 2) hx hb dX12_bathDistance_104 (by decide) ?_
      exact hB2 _ (Option.some.inj h).symm _ _ hw _ (lv_sub hl [0, 1, 2] rfl)
    · have h := ifn h hc18
      refine lv_dload_n hx hb dX12_bathDistance_44 rfl (lv_at hl 1 rfl) ?_
      refine lv_aload_n hx hb dX12_bathDistance_45 rfl (lv_at hl 3 rfl) ?_
      refine lv_aload_n hx hb dX12_bathDistance_46 rfl (lv_at hl 3 rfl) ?_
      refine M_g0_66 C0 hw (fun w h => (List.mem_cons_of_mem _ (List.mem_append_right _ h))) (by decide) ((List.mem_cons_of_mem _ (List.mem_append_left _ (List.mem_append_left _ (List.mem_of_getElem? (i := 3) rfl))))) dX12_bathDistance_47 ?_
      refine lv_iload hx hb dX12_bathDistance_50 (lv_at hl 0 rfl) ?_
      refine M_iald C0 hw h (k := v15.toNatClampNeg) rfl dX12_bathDistance_52 (fun h => ?_)
      refine lv_aload_n hx hb dX12_bathDistance_53 rfl (lv_at hl 3 rfl) ?_
      refine M_g0_67 C0 hw (fun w h => (List.mem_cons_of_mem _ (List.mem_append_right _ h))) (by decide) ((List.mem_cons_of_mem _ (List.mem_append_left _ (List.mem_append_left _ (List.mem_of_getElem? (i := 4) rfl))))) dX12_bathDistance_54 ?_
      refine lv_iload hx hb dX12_bathDistance_57 (lv_at hl 0 rfl) ?_
      refine M_iald C0 hw h (k := v15.toNatClampNeg) rfl dX12_bathDistance_59 (fun h => ?_)
      refine lv_i2l hx hb dX12_bathDistance_60 rfl ?_
      refine lv_ldc2 hx hb hown (C0.1.2.2.2.2 _ (List.mem_cons_of_mem _ (List.mem_append_left _ (List.mem_append_left _ (List.mem_of_getElem? (i := 5) rfl))))) dX12_bathDistance_61 ?_
      refine lv_lmul hx hb dX12_bathDistance_64 ?_
      refine lv_aload_n hx hb dX12_bathDistance_65 rfl (lv_at hl 3 rfl) ?_
      refine M_g0_21 C0 hw (fun w h => (List.mem_cons_of_mem _ (List.mem_append_right _ h))) (by decide) ((List.mem_cons_of_mem _ (List.mem_append_left _ (List.mem_append_left _ (List.mem_of_getElem? (i := 6) rfl))))) dX12_bathDistance_66 ?_
      refine lv_iload_n hx hb dX12_bathDistance_69 rfl (lv_at hl 4 rfl) ?_
      refine M_iald C0 hw h (k := a1.toNatClampNeg) rfl dX12_bathDistance_70 (fun h => ?_)
      refine lv_i2l hx hb dX12_bathDistance_71 rfl ?_
      refine x_ldiv hx hb h dX12_bathDistance_72 (fun h => ?_)
      refine lv_l2d hx hb dX12_bathDistance_73 ?_
      refine lv_iload_n hx hb dX12_bathDistance_74 rfl (lv_at hl 2 rfl) ?_
      obtain ⟨v23, hf24, h⟩ := bn_c h
      refine M_callV C0 hw (As := [.int (gI t5 (67) (0) (v15.toNatClampNeg)), .double (FP.l2d ((((gI t5 (68) (0) (v15.toNatClampNeg)).toInt64) * (10 : Int64)) / ((gI t5 (22) (0) (a1.toNatClampNeg)).toInt64))), .int v4]) (rest := [.double v16]) (mX12_lotAt l E hL t5 hf24) (cwV 3 C0.1.2.2.2.2 gX12_bathDistance_X12_lotAt rfl rfl rfl (by decide +kernel) ⟨Nat.le_of_ble_eq_true rfl, Nat.le_of_ble_eq_true rfl⟩) (M_recv_0 C0 hw (by decide)) rfl hl.1 rfl (Nat.le_of_ble_eq_true rfl) dX12_bathDistance_75 ⟨Nat.zero_le _, Nat.zero_le _⟩ (fun H locs hw => ?_)
      refine W.eq (g2 := F0 m 78 ls [.double v23, .double v16]) rfl ?_
      refine x_dadd hx hb h dX12_bathDistance_78 (fun v25 h => ?_)
      refine lv_dstore_n (lv' := [(3, .double v25), (5, .int v15), (2, .int v4), (0, .ref (E.2.2.1 0 (0))), (1, .int a1)]) hx hb dX12_bathDistance_79 rfl hl (by decide) rfl (fun ls hl => ?_)
      refine x_iinc hx hb h dX12_bathDistance_80 hl (q := 1) rfl (fun v26 => [(5, .int v26), (3, .double v25), (2, .int v4), (0, .ref (E.2.2.1 0 (0))), (1, .int a1)]) (by decide) (fun _ => rfl) (fun v26 ls hl h => ?_)
      refine lv_goto (tgt := 35) hx hb dX12_bathDistance_83 (by decide) ?_
      exact hB13 _ (Option.some.inj h).symm _ _ hw _ (lv_sub hl [0, 1, 2, 3, 4] rfl)

def fX12_adds (a1 : Int32) (a2 : Int32) (st : Sto) : Option (Int32 × Sto) :=
  if (100000 : Int32) < a2 then (
   some ((0 : Int32), st)) else (
   ck (0 ≤ a1.toInt ∧ a1.toInt < (lIM (20) (0) : Int)) (
    if lg_cmp ((a2.toInt64) * (1000 : Int64)) ((gI st (20) (0) (a1.toNatClampNeg)).toInt64) ≤ 0 then (
     ((lp (σ := Int32) (ρ := Int32) (fun (v6 : Int32) =>
        if gI st 0 (0) 68 ≤ v6 then (
         some (.inr v6)) else (
         ck (0 ≤ v6.toInt ∧ v6.toInt < (lIM (67) (0) : Int)) (
          if gI st (67) (0) (v6.toNatClampNeg) = a1 then (
           some (.inr v6)) else (
           lt1 (v6 + Int32.ofInt (1)) fun (v20 : Int32) =>
           some (.inl v20))))) 4000 (0 : Int32)).bind
      (fun (v7 : Int32) =>
       if v7 = (8 : Int32) then (
        some ((0 : Int32), st)) else (
        if v7 = gI st 0 (0) 68 then (
         ck (0 ≤ v7.toInt ∧ v7.toInt < (lIM (67) (0) : Int)) (lt1 (sI st (67) (0) (v7.toNatClampNeg) a1) fun (t14 : Sto) =>
          ck (0 ≤ v7.toInt ∧ v7.toInt < (lIM (68) (0) : Int)) (lt1 (sI t14 (68) (0) (v7.toNatClampNeg) (0 : Int32)) fun (t15 : Sto) =>
           lt1 (sI t15 0 (0) 68 ((gI t15 0 (0) 68) + (1 : Int32))) fun (t16 : Sto) =>
           ck (0 ≤ v7.toInt ∧ v7.toInt < (lIM (68) (0) : Int)) (
            ck (0 ≤ v7.toInt ∧ v7.toInt < (lIM (68) (0) : Int)) (lt1 (sI t16 (68) (0) (v7.toNatClampNeg) ((gI t16 (68) (0) (v7.toNatClampNeg)) + a2)) fun (t17 : Sto) =>
             some ((1 : Int32), t17)))))) else (
         ck (0 ≤ v7.toInt ∧ v7.toInt < (lIM (68) (0) : Int)) (
          ck (0 ≤ v7.toInt ∧ v7.toInt < (lIM (68) (0) : Int)) (lt1 (sI st (68) (0) (v7.toNatClampNeg) ((gI st (68) (0) (v7.toNatClampNeg)) + a2)) fun (t13 : Sto) =>
           some ((1 : Int32), t13)))))))) else (
     some ((0 : Int32), st))))
set_option maxHeartbeats 4000000 in
set_option maxRecDepth 100000 in
theorem mX12_adds (l : Launch) (E : XE) (hL : LM E) (st : Sto) {a1 : Int32} {a2 : Int32} {r : Int32} {st1 : Sto} (h : fX12_adds a1 a2 st = some (r, st1)) : Met l yX12_adds wsX12_adds ({ frames := 0, cells := 0, slots := 0, locals := 0 }) (va_Pc [.ref (E.2.2.1 0 (0)), .int a1, .int a2] (RM E st)) (QM E (some (.int r)) st1) 0 0 E.2.2.2 := by
  refine Met.ofW (cc := cX12_adds) (maxL := 4) (ret := (some .boolean)) (by decide) rfl ?_
  intro p e s m args below meth c s₁ B hml hv
  obtain ⟨rfl, hP, hK⟩ := hv
  have hown : s.vm.findClass RX12 = some m.cls := findClass_of_methodNamed B.named
  have C0 : CX p m c cX12_adds 4 s _ wsX12_adds RX12 E := ⟨⟨B.exec, B.bytes, hml, hown, atoms_spec (ws := wsX12_adds) B.pre⟩, hK⟩
  have hx := B.exec
  have hb := B.bytes
  have hr := B.returns
  have hlocks := B.notSynchronized
  have hw : SM E s st s.heap [] := ⟨hP, va_S.rf⟩
  have hl := lv_entry ([.ref (E.2.2.1 0 (0)), .int a1, .int a2]) (n := 4) (Nat.le_of_ble_eq_true rfl)
  rw [lg_entry_eq]
  generalize (lg_sl ([.ref (E.2.2.1 0 (0)), .int a1, .int a2]) ++ List.replicate (4 - (lg_sl ([.ref (E.2.2.1 0 (0)), .int a1, .int a2])).length) Slot.unset).toArray = ls at hl ⊢
  have hl : lv_has ls 4 [(0, .ref (E.2.2.1 0 (0))), (1, .int a1), (2, .int a2)] := hl
  unfold fX12_adds at h
  refine lv_iload_n hx hb dX12_adds_0 rfl (lv_at hl 2 rfl) ?_
  refine lv_ldc hx hb hown (C0.1.2.2.2.2 _ (List.mem_cons_of_mem _ (List.mem_append_left _ (List.mem_of_getElem? (i := 0) rfl)))) dX12_adds_1 ?_
  refine lv_icmp_gt (tgt := 23) hx hb dX12_adds_3 (by decide) (fun hc1 => ?_) (fun hc1 => ?_)
  · have h := ifp h hc1
    refine lv_iconst (v := 0) hx hb dX12_adds_23 (by decide) ?_
    cases h
    exact W.zret hx hb hr rfl (M_fin C0 hw) hw.2.2.2 dX12_adds_24 hlocks
  · have h := ifn h hc1
    refine lv_iload_n hx hb dX12_adds_6 rfl (lv_at hl 2 rfl) ?_
    refine lv_i2l hx hb dX12_adds_7 rfl ?_
    refine lv_ldc2 hx hb hown (C0.1.2.2.2.2 _ (List.mem_cons_of_mem _ (List.mem_append_left _ (List.mem_of_getElem? (i := 1) rfl)))) dX12_adds_8 ?_
    refine lv_lmul hx hb dX12_adds_11 ?_
    refine lv_aload_n hx hb dX12_adds_12 rfl (lv_at hl 0 rfl) ?_
    refine M_g0_19 C0 hw (fun w h => (List.mem_cons_of_mem _ (List.mem_append_right _ h))) (by decide) ((List.mem_cons_of_mem _ (List.mem_append_left _ (List.mem_of_getElem? (i := 2) rfl)))) dX12_adds_13 ?_
    refine lv_iload_n hx hb dX12_adds_16 rfl (lv_at hl 1 rfl) ?_
    refine M_iald C0 hw h (k := a1.toNatClampNeg) rfl dX12_adds_17 (fun h => ?_)
    refine lv_i2l hx hb dX12_adds_18 rfl ?_
    refine W.lcmp hx hb dX12_adds_19 ?_
    refine lv_if_le (tgt := 25) hx hb dX12_adds_20 (by decide) (fun hc2 => ?_) (fun hc2 => ?_)
    · have h := ifp h hc2
      refine lv_iconst (v := 0) hx hb dX12_adds_25 (by decide) ?_
      refine lv_istore_n (lv' := [(3, .int (0 : Int32)), (0, .ref (E.2.2.1 0 (0))), (1, .int a1), (2, .int a2)]) hx hb dX12_adds_26 rfl hl (by decide) rfl (fun ls hl => ?_)
      refine bn_K h (fun K8 hK9 h => ?_)
      have HX10 : ∀ (v7 : Int32), K8 v7 = some (r, st1) → ∀ (H : Heap) (locs : List Loc), SM E s st H locs → ∀ ls : Array Slot, lv_has ls 4 [(0, .ref (E.2.2.1 0 (0))), (1, .int a1), (2, .int a2), (3, .int v7)] → W p l e (headSpec wsX12_adds ({ frames := 0, cells := 0, slots := 0, locals := 0 })).room s m ([.ref (E.2.2.1 0 (0)), .int a1, .int a2] : List Value).toArray below meth c H locs 0 0 (MQ below (QM E (some (.int r)) st1) ([.ref (E.2.2.1 0 (0)), .int a1, .int a2] : List Value).toArray s 0 0 E.2.2.2) (F0 m 51 ls []) := by
        intro v7 h H locs hw ls hl
        have h := kk1 h hK9
        refine lv_iload_n hx hb dX12_adds_51 rfl (lv_at hl 3 rfl) ?_
        refine lv_bipush (v := 8) hx hb dX12_adds_52 (by decide) ?_
        refine lv_icmp_ne (tgt := 59) hx hb dX12_adds_54 (by decide) (fun hc11 => ?_) (fun hc11 => ?_)
        · have h := ifn h hc11
          refine lv_iload_n hx hb dX12_adds_59 rfl (lv_at hl 3 rfl) ?_
          refine lv_aload_n hx hb dX12_adds_60 rfl (lv_at hl 0 rfl) ?_
          refine M_g0_68 C0 hw (fun w h => (List.mem_cons_of_mem _ (List.mem_append_right _ h))) (by decide) ((List.mem_cons_of_mem _ (List.mem_append_left _ (List.mem_of_getElem? (i := 3) rfl)))) dX12_adds_61 ?_
          refine lv_icmp_ne (tgt := 91) hx hb dX12_adds_64 (by decide) (fun hc12 => ?_) (fun hc12 => ?_)
          · have h := ifn h hc12
            refine lv_aload_n hx hb dX12_adds_91 rfl (lv_at hl 0 rfl) ?_
            refine M_g0_67 C0 hw (fun w h => (List.mem_cons_of_mem _ (List.mem_append_right _ h))) (by decide) ((List.mem_cons_of_mem _ (List.mem_append_left _ (List.mem_of_getElem? (i := 5) rfl)))) dX12_adds_92 ?_
            refine lv_iload_n hx hb dX12_adds_95 rfl (lv_at hl 3 rfl) ?_
            refine lv_dup2_11 hx hb dX12_adds_96 rfl rfl ?_
            refine M_iald C0 hw h (k := v7.toNatClampNeg) rfl dX12_adds_97 (fun h => ?_)
            refine lv_iload_n hx hb dX12_adds_98 rfl (lv_at hl 2 rfl) ?_
            refine lv_iadd hx hb dX12_adds_99 ?_
            refine M_iast hL C0 hw h (k := v7.toNatClampNeg) rfl dX12_adds_100 (fun t13 H locs hw h => ?_)
            refine lv_iconst (v := 1) hx hb dX12_adds_101 (by decide) ?_
            cases h
            exact W.zret hx hb hr rfl (M_fin C0 hw) hw.2.2.2 dX12_adds_102 hlocks
          · have h := ifp h hc12
            refine lv_aload_n hx hb dX12_adds_67 rfl (lv_at hl 0 rfl) ?_
            refine M_g0_66 C0 hw (fun w h => (List.mem_cons_of_mem _ (List.mem_append_right _ h))) (by decide) ((List.mem_cons_of_mem _ (List.mem_append_left _ (List.mem_of_getElem? (i := 4) rfl)))) dX12_adds_68 ?_
            refine lv_iload_n hx hb dX12_adds_71 rfl (lv_at hl 3 rfl) ?_
            refine lv_iload_n hx hb dX12_adds_72 rfl (lv_at hl 1 rfl) ?_
            refine M_iast hL C0 hw h (k := v7.toNatClampNeg) rfl dX12_adds_73 (fun t14 H locs hw h => ?_)
            refine lv_aload_n hx hb dX12_adds_74 rfl (lv_at hl 0 rfl) ?_
            refine M_g0_67 C0 hw (fun w h => (List.mem_cons_of_mem _ (List.mem_append_right _ h))) (by decide) ((List.mem_cons_of_mem _ (List.mem_append_left _ (List.mem_of_getElem? (i := 5) rfl)))) dX12_adds_75 ?_
            refine lv_iload_n hx hb dX12_adds_78 rfl (lv_at hl 3 rfl) ?_
            refine lv_iconst (v := 0) hx hb dX12_adds_79 (by decide) ?_
            refine M_iast hL C0 hw h (k := v7.toNatClampNeg) rfl dX12_adds_80 (fun t15 H locs hw h => ?_)
            refine lv_aload_n hx hb dX12_adds_81 rfl (lv_at hl 0 rfl) ?_
            refine lv_dup hx hb dX12_adds_82 rfl ?_
            refine M_g0_68 C0 hw (fun w h => (List.mem_cons_of_mem _ (List.mem_append_right _ h))) (by decide) ((List.mem_cons_of_mem _ (List.mem_append_left _ (List.mem_of_getElem? (i := 3) rfl)))) dX12_adds_83 ?_
            refine lv_iconst (v := 1) hx hb dX12_adds_86 (by decide) ?_
            refine lv_iadd hx hb dX12_adds_87 ?_
            refine M_p0_68 hL C0 hw (fun w h => (List.mem_cons_of_mem _ (List.mem_append_right _ h))) (by decide) h ((List.mem_cons_of_mem _ (List.mem_append_left _ (List.mem_of_getElem? (i := 3) rfl)))) dX12_adds_88 (fun t16 H locs hw h => ?_)
            refine lv_aload_n hx hb dX12_adds_91 rfl (lv_at hl 0 rfl) ?_
            refine M_g0_67 C0 hw (fun w h => (List.mem_cons_of_mem _ (List.mem_append_right _ h))) (by decide) ((List.mem_cons_of_mem _ (List.mem_append_left _ (List.mem_of_getElem? (i := 5) rfl)))) dX12_adds_92 ?_
            refine lv_iload_n hx hb dX12_adds_95 rfl (lv_at hl 3 rfl) ?_
            refine lv_dup2_11 hx hb dX12_adds_96 rfl rfl ?_
            refine M_iald C0 hw h (k := v7.toNatClampNeg) rfl dX12_adds_97 (fun h => ?_)
            refine lv_iload_n hx hb dX12_adds_98 rfl (lv_at hl 2 rfl) ?_
            refine lv_iadd hx hb dX12_adds_99 ?_
            refine M_iast hL C0 hw h (k := v7.toNatClampNeg) rfl dX12_adds_100 (fun t17 H locs hw h => ?_)
            refine lv_iconst (v := 1) hx hb dX12_adds_101 (by decide) ?_
            cases h
            exact W.zret hx hb hr rfl (M_fin C0 hw) hw.2.2.2 dX12_adds_102 hlocks
        · have h := ifp h hc11
          refine lv_iconst (v := 0) hx hb dX12_adds_57 (by decide) ?_
          cases h
          exact W.zret hx hb hr rfl (M_fin C0 hw) hw.2.2.2 dX12_adds_58 hlocks
      refine lp_ind (fun q : Int32 => ∀ (H : Heap) (locs : List Loc), SM E s st H locs → ∀ ls : Array Slot, lv_has ls 4 [(3, .int q), (0, .ref (E.2.2.1 0 (0))), (1, .int a1), (2, .int a2)] → W p l e (headSpec wsX12_adds ({ frames := 0, cells := 0, slots := 0, locals := 0 })).room s m ([.ref (E.2.2.1 0 (0)), .int a1, .int a2] : List Value).toArray below meth c H locs 0 0 (MQ below (QM E (some (.int r)) st1) ([.ref (E.2.2.1 0 (0)), .int a1, .int a2] : List Value).toArray s 0 0 E.2.2.2) (F0 m 27 ls [])) (fun q o5 h hB4 hX3 => ?_) _ _ h _ _ hw _ (lv_sub hl [0, 1, 2, 3] rfl)
      intro H locs hw ls hl
      obtain ⟨v6, rfl⟩ : ∃ z, z = q := ⟨_, rfl⟩
      have hl : lv_has ls 4 [(3, .int v6), (0, .ref (E.2.2.1 0 (0))), (1, .int a1), (2, .int a2)] := hl
      refine lv_iload_n hx hb dX12_adds_27 rfl (lv_at hl 0 rfl) ?_
      refine lv_aload_n hx hb dX12_adds_28 rfl (lv_at hl 1 rfl) ?_
      refine M_g0_68 C0 hw (fun w h => (List.mem_cons_of_mem _ (List.mem_append_right _ h))) (by decide) ((List.mem_cons_of_mem _ (List.mem_append_left _ (List.mem_of_getElem? (i := 3) rfl)))) dX12_adds_29 ?_
      refine lv_icmp_ge (tgt := 51) hx hb dX12_adds_32 (by decide) (fun hc18 => ?_) (fun hc18 => ?_)
      · have h := ifp h hc18
        have h := hX3 _ (Option.some.inj h).symm
        exact HX10 _ h _ _ hw _ (lv_sub hl [1, 2, 3, 0] rfl)
      · have h := ifn h hc18
        refine lv_aload_n hx hb dX12_adds_35 rfl (lv_at hl 1 rfl) ?_
        refine M_g0_66 C0 hw (fun w h => (List.mem_cons_of_mem _ (List.mem_append_right _ h))) (by decide) ((List.mem_cons_of_mem _ (List.mem_append_left _ (List.mem_of_getElem? (i := 4) rfl)))) dX12_adds_36 ?_
        refine lv_iload_n hx hb dX12_adds_39 rfl (lv_at hl 0 rfl) ?_
        refine M_iald C0 hw h (k := v6.toNatClampNeg) rfl dX12_adds_40 (fun h => ?_)
        refine lv_iload_n hx hb dX12_adds_41 rfl (lv_at hl 2 rfl) ?_
        refine lv_icmp_eq (tgt := 51) hx hb dX12_adds_42 (by decide) (fun hc19 => ?_) (fun hc19 => ?_)
        · have h := ifp h hc19
          have h := hX3 _ (Option.some.inj h).symm
          exact HX10 _ h _ _ hw _ (lv_sub hl [1, 2, 3, 0] rfl)
        · have h := ifn h hc19
          refine x_iinc hx hb h dX12_adds_45 hl (q := 0) rfl (fun v20 => [(3, .int v20), (0, .ref (E.2.2.1 0 (0))), (1, .int a1), (2, .int a2)]) (by decide) (fun _ => rfl) (fun v20 ls hl h => ?_)
          refine lv_goto (tgt := 27) hx hb dX12_adds_48 (by decide) ?_
          exact hB4 _ (Option.some.inj h).symm _ _ hw _ (lv_sub hl [0, 1, 2, 3] rfl)
    · have h := ifn h hc2
      refine lv_iconst (v := 0) hx hb dX12_adds_23 (by decide) ?_
      cases h
      exact W.zret hx hb hr rfl (M_fin C0 hw) hw.2.2.2 dX12_adds_24 hlocks

def fX12_bathOf (a1 : Int32) (st : Sto) : Option Sto :=
  ck (0 ≤ a1.toInt ∧ a1.toInt < (lIM (23) (0) : Int)) (
   lt1 (sI st 0 (0) 68 (gI st (23) (0) (a1.toNatClampNeg))) fun (t1 : Sto) =>
   ((lp (σ := (Int32 × Sto)) (ρ := Sto) (un2 fun (v5 : Int32) (t6 : Sto) =>
      if gI t6 0 (0) 68 ≤ v5 then (
       some (.inr t6)) else (
       ck (0 ≤ (((8 : Int32) * a1) + v5).toInt ∧ (((8 : Int32) * a1) + v5).toInt < (lIM (24) (0) : Int)) (
        ck (0 ≤ v5.toInt ∧ v5.toInt < (lIM (67) (0) : Int)) (lt1 (sI t6 (67) (0) (v5.toNatClampNeg) (gI t6 (24) (0) ((((8 : Int32) * a1) + v5).toNatClampNeg))) fun (t9 : Sto) =>
         ck (0 ≤ (((8 : Int32) * a1) + v5).toInt ∧ (((8 : Int32) * a1) + v5).toInt < (lIM (25) (0) : Int)) (
          ck (0 ≤ v5.toInt ∧ v5.toInt < (lIM (68) (0) : Int)) (lt1 (sI t9 (68) (0) (v5.toNatClampNeg) (gI t9 (25) (0) ((((8 : Int32) * a1) + v5).toNatClampNeg))) fun (t10 : Sto) =>
           lt1 (v5 + Int32.ofInt (1)) fun (v11 : Int32) =>
           some (.inl (v11, t10)))))))) 4000 ((0 : Int32), t1)).bind
    (fun (t7 : Sto) =>
     some t7)))
set_option maxHeartbeats 4000000 in
set_option maxRecDepth 100000 in
theorem mX12_bathOf (l : Launch) (E : XE) (hL : LM E) (st : Sto) {a1 : Int32} {st1 : Sto} (h : fX12_bathOf a1 st = some st1) : Met l yX12_bathOf wsX12_bathOf ({ frames := 0, cells := 0, slots := 0, locals := 0 }) (va_Pc [.ref (E.2.2.1 0 (0)), .int a1] (RM E st)) (QM E none st1) 0 0 E.2.2.2 := by
  refine Met.ofW (cc := cX12_bathOf) (maxL := 3) (ret := none) (by decide) rfl ?_
  intro p e s m args below meth c s₁ B hml hv
  obtain ⟨rfl, hP, hK⟩ := hv
  have hown : s.vm.findClass RX12 = some m.cls := findClass_of_methodNamed B.named
  have C0 : CX p m c cX12_bathOf 3 s _ wsX12_bathOf RX12 E := ⟨⟨B.exec, B.bytes, hml, hown, atoms_spec (ws := wsX12_bathOf) B.pre⟩, hK⟩
  have hx := B.exec
  have hb := B.bytes
  have hr := B.returns
  have hlocks := B.notSynchronized
  have hw : SM E s st s.heap [] := ⟨hP, va_S.rf⟩
  have hl := lv_entry ([.ref (E.2.2.1 0 (0)), .int a1]) (n := 3) (Nat.le_of_ble_eq_true rfl)
  rw [lg_entry_eq]
  generalize (lg_sl ([.ref (E.2.2.1 0 (0)), .int a1]) ++ List.replicate (3 - (lg_sl ([.ref (E.2.2.1 0 (0)), .int a1])).length) Slot.unset).toArray = ls at hl ⊢
  have hl : lv_has ls 3 [(0, .ref (E.2.2.1 0 (0))), (1, .int a1)] := hl
  unfold fX12_bathOf at h
  refine lv_aload_n hx hb dX12_bathOf_0 rfl (lv_at hl 0 rfl) ?_
  refine lv_aload_n hx hb dX12_bathOf_1 rfl (lv_at hl 0 rfl) ?_
  refine M_g0_22 C0 hw (fun w h => (List.mem_cons_of_mem _ (List.mem_append_right _ h))) (by decide) ((List.mem_cons_of_mem _ (List.mem_append_left _ (List.mem_of_getElem? (i := 0) rfl)))) dX12_bathOf_2 ?_
  refine lv_iload_n hx hb dX12_bathOf_5 rfl (lv_at hl 1 rfl) ?_
  refine M_iald C0 hw h (k := a1.toNatClampNeg) rfl dX12_bathOf_6 (fun h => ?_)
  refine M_p0_68 hL C0 hw (fun w h => (List.mem_cons_of_mem _ (List.mem_append_right _ h))) (by decide) h ((List.mem_cons_of_mem _ (List.mem_append_left _ (List.mem_of_getElem? (i := 1) rfl)))) dX12_bathOf_7 (fun t1 H locs hw h => ?_)
  refine lv_iconst (v := 0) hx hb dX12_bathOf_10 (by decide) ?_
  refine lv_istore_n (lv' := [(2, .int (0 : Int32)), (0, .ref (E.2.2.1 0 (0))), (1, .int a1)]) hx hb dX12_bathOf_11 rfl hl (by decide) rfl (fun ls hl => ?_)
  refine lp_ind (fun q : (Int32 × Sto) => ∀ (H : Heap) (locs : List Loc), SM E s (q.2) H locs → ∀ ls : Array Slot, lv_has ls 3 [(2, .int (q.1)), (0, .ref (E.2.2.1 0 (0))), (1, .int a1)] → W p l e (headSpec wsX12_bathOf ({ frames := 0, cells := 0, slots := 0, locals := 0 })).room s m ([.ref (E.2.2.1 0 (0)), .int a1] : List Value).toArray below meth c H locs 0 0 (MQ below (QM E none st1) ([.ref (E.2.2.1 0 (0)), .int a1] : List Value).toArray s 0 0 E.2.2.2) (F0 m 12 ls [])) (fun q o4 h hB3 hX2 => ?_) _ _ h _ _ hw _ (lv_sub hl [0, 1, 2] rfl)
  intro H locs hw ls hl
  obtain ⟨v5, t6⟩ := q
  have h := un2_d h
  have hw : SM E s t6 H locs := hw
  have hl : lv_has ls 3 [(2, .int v5), (0, .ref (E.2.2.1 0 (0))), (1, .int a1)] := hl
  refine lv_iload_n hx hb dX12_bathOf_12 rfl (lv_at hl 0 rfl) ?_
  refine lv_aload_n hx hb dX12_bathOf_13 rfl (lv_at hl 1 rfl) ?_
  refine M_g0_68 C0 hw (fun w h => (List.mem_cons_of_mem _ (List.mem_append_right _ h))) (by decide) ((List.mem_cons_of_mem _ (List.mem_append_left _ (List.mem_of_getElem? (i := 1) rfl)))) dX12_bathOf_14 ?_
  refine lv_icmp_ge (tgt := 60) hx hb dX12_bathOf_17 (by decide) (fun hc8 => ?_) (fun hc8 => ?_)
  · have h := ifp h hc8
    have h := hX2 _ (Option.some.inj h).symm
    have hl := lv_sub hl (l' := []) [] rfl
    cases h
    exact W.vret hx hb hr (M_fin C0 hw) hw.2.2.2 dX12_bathOf_60 hlocks
  · have h := ifn h hc8
    refine lv_aload_n hx hb dX12_bathOf_20 rfl (lv_at hl 1 rfl) ?_
    refine M_g0_66 C0 hw (fun w h => (List.mem_cons_of_mem _ (List.mem_append_right _ h))) (by decide) ((List.mem_cons_of_mem _ (List.mem_append_left _ (List.mem_of_getElem? (i := 2) rfl)))) dX12_bathOf_21 ?_
    refine lv_iload_n hx hb dX12_bathOf_24 rfl (lv_at hl 0 rfl) ?_
    refine lv_aload_n hx hb dX12_bathOf_25 rfl (lv_at hl 1 rfl) ?_
    refine M_g0_23 C0 hw (fun w h => (List.mem_cons_of_mem _ (List.mem_append_right _ h))) (by decide) ((List.mem_cons_of_mem _ (List.mem_append_left _ (List.mem_of_getElem? (i := 3) rfl)))) dX12_bathOf_26 ?_
    refine lv_bipush (v := 8) hx hb dX12_bathOf_29 (by decide) ?_
    refine lv_iload_n hx hb dX12_bathOf_31 rfl (lv_at hl 2 rfl) ?_
    refine lv_imul hx hb dX12_bathOf_32 ?_
    refine lv_iload_n hx hb dX12_bathOf_33 rfl (lv_at hl 0 rfl) ?_
    refine lv_iadd hx hb dX12_bathOf_34 ?_
    refine M_iald C0 hw h (k := (((8 : Int32) * a1) + v5).toNatClampNeg) rfl dX12_bathOf_35 (fun h => ?_)
    refine M_iast hL C0 hw h (k := v5.toNatClampNeg) rfl dX12_bathOf_36 (fun t9 H locs hw h => ?_)
    refine lv_aload_n hx hb dX12_bathOf_37 rfl (lv_at hl 1 rfl) ?_
    refine M_g0_67 C0 hw (fun w h => (List.mem_cons_of_mem _ (List.mem_append_right _ h))) (by decide) ((List.mem_cons_of_mem _ (List.mem_append_left _ (List.mem_of_getElem? (i := 4) rfl)))) dX12_bathOf_38 ?_
    refine lv_iload_n hx hb dX12_bathOf_41 rfl (lv_at hl 0 rfl) ?_
    refine lv_aload_n hx hb dX12_bathOf_42 rfl (lv_at hl 1 rfl) ?_
    refine M_g0_24 C0 hw (fun w h => (List.mem_cons_of_mem _ (List.mem_append_right _ h))) (by decide) ((List.mem_cons_of_mem _ (List.mem_append_left _ (List.mem_of_getElem? (i := 5) rfl)))) dX12_bathOf_43 ?_
    refine lv_bipush (v := 8) hx hb dX12_bathOf_46 (by decide) ?_
    refine lv_iload_n hx hb dX12_bathOf_48 rfl (lv_at hl 2 rfl) ?_
    refine lv_imul hx hb dX12_bathOf_49 ?_
    refine lv_iload_n hx hb dX12_bathOf_50 rfl (lv_at hl 0 rfl) ?_
    refine lv_iadd hx hb dX12_bathOf_51 ?_
    refine M_iald C0 hw h (k := (((8 : Int32) * a1) + v5).toNatClampNeg) rfl dX12_bathOf_52 (fun h => ?_)
    refine M_iast hL C0 hw h (k := v5.toNatClampNeg) rfl dX12_bathOf_53 (fun t10 H locs hw h => ?_)
    refine x_iinc hx hb h dX12_bathOf_54 hl (q := 0) rfl (fun v11 => [(2, .int v11), (0, .ref (E.2.2.1 0 (0))), (1, .int a1)]) (by decide) (fun _ => rfl) (fun v11 ls hl h => ?_)
    refine lv_goto (tgt := 12) hx hb dX12_bathOf_57 (by decide) ?_
    exact hB3 _ (Option.some.inj h).symm _ _ hw _ (lv_sub hl [0, 1, 2] rfl)

def fX12_tryAddition (a1 : Int32) (a2 : Int32) (a3 : Int32) (a4 : Int32) (a5 : Int32) (st : Sto) : Option Sto :=
  if gI st 0 (0) 56 = 0 then (
   (fX12_bathOf a1 st).bind (fun (t2 : Sto) =>
    (fX12_adds a2 a3 t2).bind (un2 fun (v4 : Int32) (t5 : Sto) =>
     if v4 = 0 then (
      some t5) else (
      jn (fun (t11 : Sto) =>
       if gI t11 0 (0) 51 = (1000 : Int32) then (
        lt1 (sI t11 0 (0) 56 (1 : Int32)) fun (t25 : Sto) =>
        some t25) else (
        lt1 (sI t11 0 (0) 51 ((gI t11 0 (0) 51) + (1 : Int32))) fun (t13 : Sto) =>
        (fX12_bathDistance a1 t13).bind (un2 fun (v14 : UInt64) (t15 : Sto) =>
         if Op.cmpValue (FP.dcmp v14 (gD t15 0 (0) 72)) CmpOp.l < 0 then (
          lt1 (sD t15 0 (0) 72 v14) fun (t18 : Sto) =>
          lt1 (sI t18 (71) (0) (0) a2) fun (t19 : Sto) =>
          lt1 (sI t19 (71) (0) (1) a3) fun (t20 : Sto) =>
          lt1 (sI t20 (71) (0) (2) a4) fun (t21 : Sto) =>
          if a4 < 0 then (
           lt1 (sI t21 (71) (0) (3) (-1 : Int32)) fun (t23 : Sto) =>
           some t23) else (
           lt1 (sI t21 (71) (0) (3) a5) fun (t24 : Sto) =>
           some t24)) else (
          some t15)))) fun K8 =>
      if a4 < 0 then (
       K8 t5) else (
       (fX12_adds a4 a5 t5).bind (un2 fun (v27 : Int32) (t28 : Sto) =>
        if v27 = 0 then (
         some t28) else (
         K8 t28))))))) else (
   some st)
set_option maxHeartbeats 4000000 in
set_option maxRecDepth 100000 in
theorem mX12_tryAddition (l : Launch) (E : XE) (hL : LM E) (st : Sto) {a1 : Int32} {a2 : Int32} {a3 : Int32} {a4 : Int32} {a5 : Int32} {st1 : Sto} (h : fX12_tryAddition a1 a2 a3 a4 a5 st = some st1) : Met l yX12_tryAddition wsX12_tryAddition ({ frames := 7, cells := 0, slots := 0, locals := 189 }) (va_Pc [.ref (E.2.2.1 0 (0)), .int a1, .int a2, .int a3, .int a4, .int a5] (RM E st)) (QM E none st1) 0 0 E.2.2.2 := by
  refine Met.ofW (cc := cX12_tryAddition) (maxL := 8) (ret := none) (by decide) rfl ?_
  intro p e s m args below meth c s₁ B hml hv
  obtain ⟨rfl, hP, hK⟩ := hv
  have hown : s.vm.findClass RX12 = some m.cls := findClass_of_methodNamed B.named
  have C0 : CX p m c cX12_tryAddition 8 s _ wsX12_tryAddition RX12 E := ⟨⟨B.exec, B.bytes, hml, hown, atoms_spec (ws := wsX12_tryAddition) B.pre⟩, hK⟩
  have hx := B.exec
  have hb := B.bytes
  have hr := B.returns
  have hlocks := B.notSynchronized
  have hw : SM E s st s.heap [] := ⟨hP, va_S.rf⟩
  have hl := lv_entry ([.ref (E.2.2.1 0 (0)), .int a1, .int a2, .int a3, .int a4, .int a5]) (n := 8) (Nat.le_of_ble_eq_true rfl)
  rw [lg_entry_eq]
  generalize (lg_sl ([.ref (E.2.2.1 0 (0)), .int a1, .int a2, .int a3, .int a4, .int a5]) ++ List.replicate (8 - (lg_sl ([.ref (E.2.2.1 0 (0)), .int a1, .int a2, .int a3, .int a4, .int a5])).length) Slot.unset).toArray = ls at hl ⊢
  have hl : lv_has ls 8 [(0, .ref (E.2.2.1 0 (0))), (1, .int a1), (2, .int a2), (3, .int a3), (4, .int a4), (5, .int a5)] := hl
  unfold fX12_tryAddition at h
  refine lv_aload_n hx hb dX12_tryAddition_0 rfl (lv_at hl 0 rfl) ?_
  refine M_g0_56 C0 hw (fun w h => (List.mem_cons_of_mem _ (List.mem_append_right _ h))) (by decide) ((List.mem_cons_of_mem _ (List.mem_append_left _ (List.mem_append_left _ (List.mem_of_getElem? (i := 0) rfl))))) dX12_tryAddition_1 ?_
  refine lv_if_eq (tgt := 8) hx hb dX12_tryAddition_4 (by decide) (fun hc1 => ?_) (fun hc1 => ?_)
  · have h := ifp h hc1
    refine lv_aload_n hx hb dX12_tryAddition_8 rfl (lv_at hl 0 rfl) ?_
    refine lv_iload_n hx hb dX12_tryAddition_9 rfl (lv_at hl 1 rfl) ?_
    obtain ⟨t2, hf3, h⟩ := bn_c h
    refine M_callV C0 hw (As := [.int a1]) (rest := []) (mX12_bathOf l E hL st hf3) (cwV 1 C0.1.2.2.2.2 gX12_tryAddition_X12_bathOf rfl rfl rfl (by decide +kernel) ⟨Nat.le_of_ble_eq_true rfl, Nat.le_of_ble_eq_true rfl⟩) (M_recv_0 C0 hw (by decide)) rfl hl.1 rfl (Nat.le_of_ble_eq_true rfl) dX12_tryAddition_10 ⟨Nat.zero_le _, Nat.zero_le _⟩ (fun H locs hw => ?_)
    refine W.eq (g2 := F0 m 13 ls []) rfl ?_
    refine lv_aload_n hx hb dX12_tryAddition_13 rfl (lv_at hl 0 rfl) ?_
    refine lv_iload_n hx hb dX12_tryAddition_14 rfl (lv_at hl 2 rfl) ?_
    refine lv_iload_n hx hb dX12_tryAddition_15 rfl (lv_at hl 3 rfl) ?_
    obtain ⟨⟨v4, t5⟩, hf6, h⟩ := bn_c h
    have h := un2_d h
    refine M_callV C0 hw (As := [.int a2, .int a3]) (rest := []) (mX12_adds l E hL t2 hf6) (cwV 2 C0.1.2.2.2.2 gX12_tryAddition_X12_adds rfl rfl rfl (by decide +kernel) ⟨Nat.le_of_ble_eq_true rfl, Nat.le_of_ble_eq_true rfl⟩) (M_recv_0 C0 hw (by decide)) rfl hl.1 rfl (Nat.le_of_ble_eq_true rfl) dX12_tryAddition_16 ⟨Nat.zero_le _, Nat.zero_le _⟩ (fun H locs hw => ?_)
    refine W.eq (g2 := F0 m 19 ls [.int v4]) rfl ?_
    refine lv_if_eq (tgt := 38) hx hb dX12_tryAddition_19 (by decide) (fun hc7 => ?_) (fun hc7 => ?_)
    · have h := ifp h hc7
      cases h
      exact W.vret hx hb hr (M_fin C0 hw) hw.2.2.2 dX12_tryAddition_38 hlocks
    · have h := ifn h hc7
      refine lv_iload hx hb dX12_tryAddition_22 (lv_at hl 4 rfl) ?_
      refine jn_c h (fun K8 hK10 h => ?_)
      have HJ9 : ∀ (t11 : Sto), K8 t11 = some st1 → ∀ (H : Heap) (locs : List Loc), SM E s t11 H locs → ∀ ls : Array Slot, lv_has ls 8 [(0, .ref (E.2.2.1 0 (0))), (1, .int a1), (2, .int a2), (3, .int a3), (4, .int a4), (5, .int a5)] → W p l e (headSpec wsX12_tryAddition ({ frames := 7, cells := 0, slots := 0, locals := 189 })).room s m ([.ref (E.2.2.1 0 (0)), .int a1, .int a2, .int a3, .int a4, .int a5] : List Value).toArray below meth c H locs 0 0 (MQ below (QM E none st1) ([.ref (E.2.2.1 0 (0)), .int a1, .int a2, .int a3, .int a4, .int a5] : List Value).toArray s 0 0 E.2.2.2) (F0 m 39 ls []) := by
        intro t11 h H locs hw ls hl
        have h := kk1 h hK10
        refine lv_aload_n hx hb dX12_tryAddition_39 rfl (lv_at hl 0 rfl) ?_
        refine M_g0_51 C0 hw (fun w h => (List.mem_cons_of_mem _ (List.mem_append_right _ h))) (by decide) ((List.mem_cons_of_mem _ (List.mem_append_left _ (List.mem_append_left _ (List.mem_of_getElem? (i := 1) rfl))))) dX12_tryAddition_40 ?_
        refine lv_sipush (v := 1000) hx hb dX12_tryAddition_43 (by decide) ?_
        refine lv_icmp_ne (tgt := 55) hx hb dX12_tryAddition_46 (by decide) (fun hc12 => ?_) (fun hc12 => ?_)
        · have h := ifn h hc12
          refine lv_aload_n hx hb dX12_tryAddition_55 rfl (lv_at hl 0 rfl) ?_
          refine lv_dup hx hb dX12_tryAddition_56 rfl ?_
          refine M_g0_51 C0 hw (fun w h => (List.mem_cons_of_mem _ (List.mem_append_right _ h))) (by decide) ((List.mem_cons_of_mem _ (List.mem_append_left _ (List.mem_append_left _ (List.mem_of_getElem? (i := 1) rfl))))) dX12_tryAddition_57 ?_
          refine lv_iconst (v := 1) hx hb dX12_tryAddition_60 (by decide) ?_
          refine lv_iadd hx hb dX12_tryAddition_61 ?_
          refine M_p0_51 hL C0 hw (fun w h => (List.mem_cons_of_mem _ (List.mem_append_right _ h))) (by decide) h ((List.mem_cons_of_mem _ (List.mem_append_left _ (List.mem_append_left _ (List.mem_of_getElem? (i := 1) rfl))))) dX12_tryAddition_62 (fun t13 H locs hw h => ?_)
          refine lv_aload_n hx hb dX12_tryAddition_65 rfl (lv_at hl 0 rfl) ?_
          refine lv_iload_n hx hb dX12_tryAddition_66 rfl (lv_at hl 1 rfl) ?_
          obtain ⟨⟨v14, t15⟩, hf16, h⟩ := bn_c h
          have h := un2_d h
          refine M_callV C0 hw (As := [.int a1]) (rest := []) (mX12_bathDistance l E hL t13 hf16) (cwV 1 C0.1.2.2.2.2 gX12_tryAddition_X12_bathDistance rfl rfl rfl (by decide +kernel) ⟨Nat.le_of_ble_eq_true rfl, Nat.le_of_ble_eq_true rfl⟩) (M_recv_0 C0 hw (by decide)) rfl hl.1 rfl (Nat.le_of_ble_eq_true rfl) dX12_tryAddition_67 ⟨Nat.zero_le _, Nat.zero_le _⟩ (fun H locs hw => ?_)
          refine W.eq (g2 := F0 m 70 ls [.double v14]) rfl ?_
          refine lv_dstore (lv' := [(6, .double v14), (0, .ref (E.2.2.1 0 (0))), (1, .int a1), (2, .int a2), (3, .int a3), (4, .int a4), (5, .int a5)]) hx hb dX12_tryAddition_70 hl (by decide) rfl (fun ls hl => ?_)
          refine lv_dload hx hb dX12_tryAddition_72 (lv_at hl 0 rfl) ?_
          refine lv_aload_n hx hb dX12_tryAddition_74 rfl (lv_at hl 1 rfl) ?_
          refine M_g0_72 C0 hw (fun w h => (List.mem_cons_of_mem _ (List.mem_append_right _ h))) (by decide) ((List.mem_cons_of_mem _ (List.mem_append_left _ (List.mem_append_left _ (List.mem_of_getElem? (i := 2) rfl))))) dX12_tryAddition_75 ?_
          refine lv_dcmp hx hb dX12_tryAddition_78 ?_
          refine lv_if_lt (tgt := 83) hx hb dX12_tryAddition_79 (by decide) (fun hc17 => ?_) (fun hc17 => ?_)
          · have h := ifp h hc17
            refine lv_aload_n hx hb dX12_tryAddition_83 rfl (lv_at hl 1 rfl) ?_
            refine lv_dload hx hb dX12_tryAddition_84 (lv_at hl 0 rfl) ?_
            refine M_p0_72 hL C0 hw (fun w h => (List.mem_cons_of_mem _ (List.mem_append_right _ h))) (by decide) h ((List.mem_cons_of_mem _ (List.mem_append_left _ (List.mem_append_left _ (List.mem_of_getElem? (i := 2) rfl))))) dX12_tryAddition_86 (fun t18 H locs hw h => ?_)
            refine lv_aload_n hx hb dX12_tryAddition_89 rfl (lv_at hl 1 rfl) ?_
            refine M_g0_70 C0 hw (fun w h => (List.mem_cons_of_mem _ (List.mem_append_right _ h))) (by decide) ((List.mem_cons_of_mem _ (List.mem_append_left _ (List.mem_append_left _ (List.mem_of_getElem? (i := 3) rfl))))) dX12_tryAddition_90 ?_
            refine lv_iconst (v := 0) hx hb dX12_tryAddition_93 (by decide) ?_
            refine lv_iload_n hx hb dX12_tryAddition_94 rfl (lv_at hl 3 rfl) ?_
            refine M_iastL hL C0 hw h (vp_in_iff.mpr (by decide +kernel)) (k := 0) rfl dX12_tryAddition_95 (fun t19 H locs hw h => ?_)
            refine lv_aload_n hx hb dX12_tryAddition_96 rfl (lv_at hl 1 rfl) ?_
            refine M_g0_70 C0 hw (fun w h => (List.mem_cons_of_mem _ (List.mem_append_right _ h))) (by decide) ((List.mem_cons_of_mem _ (List.mem_append_left _ (List.mem_append_left _ (List.mem_of_getElem? (i := 3) rfl))))) dX12_tryAddition_97 ?_
            refine lv_iconst (v := 1) hx hb dX12_tryAddition_100 (by decide) ?_
            refine lv_iload_n hx hb dX12_tryAddition_101 rfl (lv_at hl 4 rfl) ?_
            refine M_iastL hL C0 hw h (vp_in_iff.mpr (by decide +kernel)) (k := 1) rfl dX12_tryAddition_102 (fun t20 H locs hw h => ?_)
            refine lv_aload_n hx hb dX12_tryAddition_103 rfl (lv_at hl 1 rfl) ?_
            refine M_g0_70 C0 hw (fun w h => (List.mem_cons_of_mem _ (List.mem_append_right _ h))) (by decide) ((List.mem_cons_of_mem _ (List.mem_append_left _ (List.mem_append_left _ (List.mem_of_getElem? (i := 3) rfl))))) dX12_tryAddition_104 ?_
            refine lv_iconst (v := 2) hx hb dX12_tryAddition_107 (by decide) ?_
            refine lv_iload hx hb dX12_tryAddition_108 (lv_at hl 5 rfl) ?_
            refine M_iastL hL C0 hw h (vp_in_iff.mpr (by decide +kernel)) (k := 2) rfl dX12_tryAddition_110 (fun t21 H locs hw h => ?_)
            refine lv_aload_n hx hb dX12_tryAddition_111 rfl (lv_at hl 1 rfl) ?_
            refine M_g0_70 C0 hw (fun w h => (List.mem_cons_of_mem _ (List.mem_append_right _ h))) (by decide) ((List.mem_cons_of_mem _ (List.mem_append_left _ (List.mem_append_left _ (List.mem_of_getElem? (i := 3) rfl))))) dX12_tryAddition_112 ?_
            refine lv_iconst (v := 3) hx hb dX12_tryAddition_115 (by decide) ?_
            refine lv_iload hx hb dX12_tryAddition_116 (lv_at hl 5 rfl) ?_
            refine lv_if_lt (tgt := 126) hx hb dX12_tryAddition_118 (by decide) (fun hc22 => ?_) (fun hc22 => ?_)
            · have h := ifp h hc22
              refine lv_iconst (v := -1) hx hb dX12_tryAddition_126 (by decide) ?_
              refine M_iastL hL C0 hw h (vp_in_iff.mpr (by decide +kernel)) (k := 3) rfl dX12_tryAddition_127 (fun t23 H locs hw h => ?_)
              cases h
              exact W.vret hx hb hr (M_fin C0 hw) hw.2.2.2 dX12_tryAddition_128 hlocks
            · have h := ifn h hc22
              refine lv_iload hx hb dX12_tryAddition_121 (lv_at hl 6 rfl) ?_
              refine lv_goto (tgt := 127) hx hb dX12_tryAddition_123 (by decide) ?_
              refine M_iastL hL C0 hw h (vp_in_iff.mpr (by decide +kernel)) (k := 3) rfl dX12_tryAddition_127 (fun t24 H locs hw h => ?_)
              cases h
              exact W.vret hx hb hr (M_fin C0 hw) hw.2.2.2 dX12_tryAddition_128 hlocks
          · have h := ifn h hc17
            cases h
            exact W.vret hx hb hr (M_fin C0 hw) hw.2.2.2 dX12_tryAddition_82 hlocks
        · have h := ifp h hc12
          refine lv_aload_n hx hb dX12_tryAddition_49 rfl (lv_at hl 0 rfl) ?_
          refine lv_iconst (v := 1) hx hb dX12_tryAddition_50 (by decide) ?_
          refine M_p0_56 hL C0 hw (fun w h => (List.mem_cons_of_mem _ (List.mem_append_right _ h))) (by decide) h rfl rfl ((List.mem_cons_of_mem _ (List.mem_append_left _ (List.mem_append_left _ (List.mem_of_getElem? (i := 0) rfl))))) dX12_tryAddition_51 (fun t25 H locs hw h => ?_)
          cases h
          exact W.vret hx hb hr (M_fin C0 hw) hw.2.2.2 dX12_tryAddition_54 hlocks
      refine lv_if_lt (tgt := 39) hx hb dX12_tryAddition_24 (by decide) (fun hc26 => ?_) (fun hc26 => ?_)
      · have h := ifp h hc26
        exact HJ9 _ h _ _ hw _ (lv_sub hl [0, 1, 2, 3, 4, 5] rfl)
      · have h := ifn h hc26
        refine lv_aload_n hx hb dX12_tryAddition_27 rfl (lv_at hl 0 rfl) ?_
        refine lv_iload hx hb dX12_tryAddition_28 (lv_at hl 4 rfl) ?_
        refine lv_iload hx hb dX12_tryAddition_30 (lv_at hl 5 rfl) ?_
        obtain ⟨⟨v27, t28⟩, hf29, h⟩ := bn_c h
        have h := un2_d h
        refine M_callV C0 hw (As := [.int a4, .int a5]) (rest := []) (mX12_adds l E hL t5 hf29) (cwV 2 C0.1.2.2.2.2 gX12_tryAddition_X12_adds rfl rfl rfl (by decide +kernel) ⟨Nat.le_of_ble_eq_true rfl, Nat.le_of_ble_eq_true rfl⟩) (M_recv_0 C0 hw (by decide)) rfl hl.1 rfl (Nat.le_of_ble_eq_true rfl) dX12_tryAddition_32 ⟨Nat.zero_le _, Nat.zero_le _⟩ (fun H locs hw => ?_)
        refine W.eq (g2 := F0 m 35 ls [.int v27]) rfl ?_
        refine lv_if_ne (tgt := 39) hx hb dX12_tryAddition_35 (by decide) (fun hc30 => ?_) (fun hc30 => ?_)
        · have h := ifn h hc30
          exact HJ9 _ h _ _ hw _ (lv_sub hl [0, 1, 2, 3, 4, 5] rfl)
        · have h := ifp h hc30
          cases h
          exact W.vret hx hb hr (M_fin C0 hw) hw.2.2.2 dX12_tryAddition_38 hlocks
  · have h := ifn h hc1
    cases h
    exact W.vret hx hb hr (M_fin C0 hw) hw.2.2.2 dX12_tryAddition_7 hlocks

def fX12_correct (a1 : Int32) (a2 : Int32) (a3 : Int32) (a4 : Int32) (a5 : Int32) (a6 : Int32) (st : Sto) : Option (Int32 × Sto) :=
  lt1 (sI st 0 (0) 10 (0 : Int32)) fun (t1 : Sto) =>
  (fX12_is a1 (gI t1 0 (0) 7)).bind (fun (v2 : Int32) =>
   if v2 = 0 then (
    (fX12_no (2 : Int32) t1).bind (un2 fun (v5 : Int32) (t6 : Sto) =>
     some (v5, t6))) else (
    (fX12_is a2 (gI t1 0 (0) 2)).bind (fun (v8 : Int32) =>
     if v8 = 0 then (
      (fX12_no (2 : Int32) t1).bind (un2 fun (v289 : Int32) (t290 : Sto) =>
       some (v289, t290))) else (
      (fX12_is a3 (6 : Int32)).bind (fun (v11 : Int32) =>
       if v11 = 0 then (
        (fX12_no (3 : Int32) t1).bind (un2 fun (v14 : Int32) (t15 : Sto) =>
         some (v14, t15))) else (
        (fX12_is a4 (2 : Int32)).bind (fun (v17 : Int32) =>
         if v17 = 0 then (
          (fX12_no (3 : Int32) t1).bind (un2 fun (v20 : Int32) (t21 : Sto) =>
           some (v20, t21))) else (
          if a5 < (1 : Int32) then (
           (fX12_no (3 : Int32) t1).bind (un2 fun (v24 : Int32) (t25 : Sto) =>
            some (v24, t25))) else (
           if (10000 : Int32) < a5 then (
            (fX12_no (3 : Int32) t1).bind (un2 fun (v28 : Int32) (t29 : Sto) =>
             some (v28, t29))) else (
            if a6 < (1 : Int32) then (
             (fX12_no (3 : Int32) t1).bind (un2 fun (v32 : Int32) (t33 : Sto) =>
              some (v32, t33))) else (
             if a6 ≤ (12 : Int32) then (
              lt1 (sI t1 0 (0) 59 a3) fun (t36 : Sto) =>
              lt1 (sI t36 0 (0) 60 a4) fun (t37 : Sto) =>
              (fX12_goalIs ((1 : Int32) + a2) a3 a4 t37).bind (fun (t38 : Sto) =>
               lt1 (sI t38 0 (0) 51 (0 : Int32)) fun (t40 : Sto) =>
               lt1 (sI t40 0 (0) 56 (0 : Int32)) fun (t41 : Sto) =>
               (fX12_bathOf a1 t41).bind (fun (t42 : Sto) =>
                (fX12_bathDistance a1 t42).bind (un2 fun (v44 : UInt64) (t45 : Sto) =>
                 lt1 (sD t45 0 (0) 72 v44) fun (t47 : Sto) =>
                 ((lp (σ := (Int32 × Sto)) (ρ := Sto) (un2 fun (v51 : Int32) (t52 : Sto) =>
                    if (4 : Int32) ≤ v51 then (
                     some (.inr t52)) else (
                     ck (0 ≤ v51.toInt ∧ v51.toInt < (lIM (71) (0) : Int)) (lt1 (sI t52 (71) (0) (v51.toNatClampNeg) (-1 : Int32)) fun (t211 : Sto) =>
                      lt1 (v51 + Int32.ofInt (1)) fun (v212 : Int32) =>
                      some (.inl (v212, t211))))) 4000 ((0 : Int32), t47)).bind
                  (fun (t53 : Sto) =>
                   ((lp (σ := (Int32 × Sto)) (ρ := Sto) (un2 fun (v216 : Int32) (t217 : Sto) =>
                      if gI t217 0 (0) 6 ≤ v216 then (
                       some (.inr t217)) else (
                       ((lp (σ := (Int32 × Sto)) (ρ := Sto) (un2 fun (v223 : Int32) (t224 : Sto) =>
                          if a6 < v223 then (
                           some (.inr t224)) else (
                           (fX12_tryAddition a1 v216 (a5 * v223) (-1 : Int32) (0 : Int32) t224).bind (fun (t227 : Sto) =>
                            lt1 (v223 + Int32.ofInt (1)) fun (v229 : Int32) =>
                            some (.inl (v229, t227))))) 4000 ((1 : Int32), t217)).bind
                        (fun (t225 : Sto) =>
                         lt1 (v216 + Int32.ofInt (1)) fun (v230 : Int32) =>
                         some (.inl (v230, t225)))))) 4000 ((0 : Int32), t53)).bind
                    (fun (t218 : Sto) =>
                     ((lp (σ := (Int32 × Sto)) (ρ := Sto) (un2 fun (v234 : Int32) (t235 : Sto) =>
                        if gI t235 0 (0) 6 ≤ v234 then (
                         some (.inr t235)) else (
                         lt1 (v234 + (1 : Int32)) fun (v238 : Int32) =>
                         ((lp (σ := (Int32 × Sto)) (ρ := Sto) (un2 fun (v242 : Int32) (t243 : Sto) =>
                            if gI t243 0 (0) 6 ≤ v242 then (
                             some (.inr t243)) else (
                             ((lp (σ := (Int32 × Sto)) (ρ := Sto) (un2 fun (v249 : Int32) (t250 : Sto) =>
                                if a6 < v249 then (
                                 some (.inr t250)) else (
                                 ((lp (σ := (Int32 × Sto)) (ρ := Sto) (un2 fun (v256 : Int32) (t257 : Sto) =>
                                    if a6 < v256 then (
                                     some (.inr t257)) else (
                                     (fX12_tryAddition a1 v234 (a5 * v249) v242 (a5 * v256) t257).bind (fun (t260 : Sto) =>
                                      lt1 (v256 + Int32.ofInt (1)) fun (v262 : Int32) =>
                                      some (.inl (v262, t260))))) 4000 ((1 : Int32), t250)).bind
                                  (fun (t258 : Sto) =>
                                   lt1 (v249 + Int32.ofInt (1)) fun (v263 : Int32) =>
                                   some (.inl (v263, t258)))))) 4000 ((1 : Int32), t243)).bind
                              (fun (t251 : Sto) =>
                               lt1 (v242 + Int32.ofInt (1)) fun (v264 : Int32) =>
                               some (.inl (v264, t251)))))) 4000 (v238, t235)).bind
                          (fun (t244 : Sto) =>
                           lt1 (v234 + Int32.ofInt (1)) fun (v265 : Int32) =>
                           some (.inl (v265, t244)))))) 4000 ((0 : Int32), t218)).bind
                      (fun (t236 : Sto) =>
                       lt1 (sI t236 (70) (0) (0) (gI t236 0 (0) 51)) fun (t266 : Sto) =>
                       jn (fun (v270 : Int32) =>
                        lt1 (sI t266 (70) (0) (1) v270) fun (t271 : Sto) =>
                        ((lp (σ := (Int32 × Sto)) (ρ := Sto) (un2 fun (v275 : Int32) (t276 : Sto) =>
                           if (4 : Int32) ≤ v275 then (
                            some (.inr t276)) else (
                            ck (0 ≤ v275.toInt ∧ v275.toInt < (lIM (71) (0) : Int)) (
                             ck (0 ≤ ((2 : Int32) + v275).toInt ∧ ((2 : Int32) + v275).toInt < (lIM (70) (0) : Int)) (lt1 (sI t276 (70) (0) (((2 : Int32) + v275).toNatClampNeg) (gI t276 (71) (0) (v275.toNatClampNeg))) fun (t279 : Sto) =>
                              lt1 (v275 + Int32.ofInt (1)) fun (v280 : Int32) =>
                              some (.inl (v280, t279)))))) 4000 ((0 : Int32), t271)).bind
                         (fun (t277 : Sto) =>
                          lt1 (sI t277 0 (0) 71 (1 : Int32)) fun (t281 : Sto) =>
                          lt1 (sI t281 0 (0) 9 (0 : Int32)) fun (t282 : Sto) =>
                          if gI t282 (71) (0) (0) = (-1 : Int32) then (
                           some ((0 : Int32), t282)) else (
                           if gI t282 (71) (0) (2) = (-1 : Int32) then (
                            some ((1 : Int32), t282)) else (
                            some ((2 : Int32), t282)))))) fun K267 =>
                       if gI t266 0 (0) 56 = 0 then (
                        K267 (1 : Int32)) else (
                        K267 (0 : Int32)))))))))))) else (
              (fX12_no (3 : Int32) t1).bind (un2 fun (v286 : Int32) (t287 : Sto) =>
               some (v286, t287))))))))))))))
set_option maxHeartbeats 4000000 in
set_option maxRecDepth 100000 in
theorem mX12_correct (l : Launch) (E : XE) (hL : LM E) (st : Sto) {a1 : Int32} {a2 : Int32} {a3 : Int32} {a4 : Int32} {a5 : Int32} {a6 : Int32} {r : Int32} {st1 : Sto} (h : fX12_correct a1 a2 a3 a4 a5 a6 st = some (r, st1)) : Met l yX12_correct wsX12_correct ({ frames := 8, cells := 0, slots := 0, locals := 216 }) (va_Pc [.ref (E.2.2.1 0 (0)), .int a1, .int a2, .int a3, .int a4, .int a5, .int a6] (RM E st)) (QM E (some (.int r)) st1) 0 0 E.2.2.2 := by
  refine Met.ofW (cc := cX12_correct) (maxL := 11) (ret := (some .int)) (by decide) rfl ?_
  intro p e s m args below meth c s₁ B hml hv
  obtain ⟨rfl, hP, hK⟩ := hv
  have hown : s.vm.findClass RX12 = some m.cls := findClass_of_methodNamed B.named
  have C0 : CX p m c cX12_correct 11 s _ wsX12_correct RX12 E := ⟨⟨B.exec, B.bytes, hml, hown, atoms_spec (ws := wsX12_correct) B.pre⟩, hK⟩
  have hx := B.exec
  have hb := B.bytes
  have hr := B.returns
  have hlocks := B.notSynchronized
  have hw : SM E s st s.heap [] := ⟨hP, va_S.rf⟩
  have hl := lv_entry ([.ref (E.2.2.1 0 (0)), .int a1, .int a2, .int a3, .int a4, .int a5, .int a6]) (n := 11) (Nat.le_of_ble_eq_true rfl)
  rw [lg_entry_eq]
  generalize (lg_sl ([.ref (E.2.2.1 0 (0)), .int a1, .int a2, .int a3, .int a4, .int a5, .int a6]) ++ List.replicate (11 - (lg_sl ([.ref (E.2.2.1 0 (0)), .int a1, .int a2, .int a3, .int a4, .int a5, .int a6])).length) Slot.unset).toArray = ls at hl ⊢
  have hl : lv_has ls 11 [(0, .ref (E.2.2.1 0 (0))), (1, .int a1), (2, .int a2), (3, .int a3), (4, .int a4), (5, .int a5), (6, .int a6)] := hl
  unfold fX12_correct at h
  refine lv_aload_n hx hb dX12_correct_0 rfl (lv_at hl 0 rfl) ?_
  refine lv_iconst (v := 0) hx hb dX12_correct_1 (by decide) ?_
  refine M_p0_10 hL C0 hw (fun w h => (List.mem_cons_of_mem _ (List.mem_append_right _ h))) (by decide) h ((List.mem_cons_of_mem _ (List.mem_append_left _ (List.mem_append_left _ (List.mem_of_getElem? (i := 0) rfl))))) dX12_correct_2 (fun t1 H locs hw h => ?_)
  refine lv_aload_n hx hb dX12_correct_5 rfl (lv_at hl 0 rfl) ?_
  refine lv_iload_n hx hb dX12_correct_6 rfl (lv_at hl 1 rfl) ?_
  refine lv_aload_n hx hb dX12_correct_7 rfl (lv_at hl 0 rfl) ?_
  refine M_g0_7 C0 hw (fun w h => (List.mem_cons_of_mem _ (List.mem_append_right _ h))) (by decide) ((List.mem_cons_of_mem _ (List.mem_append_left _ (List.mem_append_left _ (List.mem_of_getElem? (i := 1) rfl))))) dX12_correct_8 ?_
  obtain ⟨v2, hf3, h⟩ := bn_c h
  refine M_callV C0 hw (As := [.int a1, .int (gI t1 0 (0) 7)]) (rest := []) (mX12_is l E hL t1 hf3) (cwV 2 C0.1.2.2.2.2 gX12_correct_X12_is rfl rfl rfl (by decide +kernel) ⟨Nat.le_of_ble_eq_true rfl, Nat.le_of_ble_eq_true rfl⟩) (M_recv_0 C0 hw (by decide)) rfl hl.1 rfl (Nat.le_of_ble_eq_true rfl) dX12_correct_11 ⟨Nat.zero_le _, Nat.zero_le _⟩ (fun H locs hw => ?_)
  refine W.eq (g2 := F0 m 14 ls [.int v2]) rfl ?_
  refine lv_if_eq (tgt := 29) hx hb dX12_correct_14 (by decide) (fun hc4 => ?_) (fun hc4 => ?_)
  · have h := ifp h hc4
    refine lv_aload_n hx hb dX12_correct_29 rfl (lv_at hl 0 rfl) ?_
    refine lv_iconst (v := 2) hx hb dX12_correct_30 (by decide) ?_
    obtain ⟨⟨v5, t6⟩, hf7, h⟩ := bn_c h
    have h := un2_d h
    refine M_callV C0 hw (As := [.int (2 : Int32)]) (rest := []) (mX12_no l E hL t1 hf7) (cwV 1 C0.1.2.2.2.2 gX12_correct_X12_no rfl rfl rfl (by decide +kernel) ⟨Nat.le_of_ble_eq_true rfl, Nat.le_of_ble_eq_true rfl⟩) (M_recv_0 C0 hw (by decide)) rfl hl.1 rfl (Nat.le_of_ble_eq_true rfl) dX12_correct_31 ⟨Nat.zero_le _, Nat.zero_le _⟩ (fun H locs hw => ?_)
    refine W.eq (g2 := F0 m 34 ls [.int v5]) rfl ?_
    cases h
    exact W.iret hx hb hr (M_fin C0 hw) hw.2.2.2 dX12_correct_34 hlocks
  · have h := ifn h hc4
    refine lv_aload_n hx hb dX12_correct_17 rfl (lv_at hl 0 rfl) ?_
    refine lv_iload_n hx hb dX12_correct_18 rfl (lv_at hl 2 rfl) ?_
    refine lv_aload_n hx hb dX12_correct_19 rfl (lv_at hl 0 rfl) ?_
    refine M_g0_2 C0 hw (fun w h => (List.mem_cons_of_mem _ (List.mem_append_right _ h))) (by decide) ((List.mem_cons_of_mem _ (List.mem_append_left _ (List.mem_append_left _ (List.mem_of_getElem? (i := 2) rfl))))) dX12_correct_20 ?_
    obtain ⟨v8, hf9, h⟩ := bn_c h
    refine M_callV C0 hw (As := [.int a2, .int (gI t1 0 (0) 2)]) (rest := []) (mX12_is l E hL t1 hf9) (cwV 2 C0.1.2.2.2.2 gX12_correct_X12_is rfl rfl rfl (by decide +kernel) ⟨Nat.le_of_ble_eq_true rfl, Nat.le_of_ble_eq_true rfl⟩) (M_recv_0 C0 hw (by decide)) rfl hl.1 rfl (Nat.le_of_ble_eq_true rfl) dX12_correct_23 ⟨Nat.zero_le _, Nat.zero_le _⟩ (fun H locs hw => ?_)
    refine W.eq (g2 := F0 m 26 ls [.int v8]) rfl ?_
    refine lv_if_ne (tgt := 35) hx hb dX12_correct_26 (by decide) (fun hc10 => ?_) (fun hc10 => ?_)
    · have h := ifn h hc10
      refine lv_aload_n hx hb dX12_correct_35 rfl (lv_at hl 0 rfl) ?_
      refine lv_iload_n hx hb dX12_correct_36 rfl (lv_at hl 3 rfl) ?_
      refine lv_bipush (v := 6) hx hb dX12_correct_37 (by decide) ?_
      obtain ⟨v11, hf12, h⟩ := bn_c h
      refine M_callV C0 hw (As := [.int a3, .int (6 : Int32)]) (rest := []) (mX12_is l E hL t1 hf12) (cwV 2 C0.1.2.2.2.2 gX12_correct_X12_is rfl rfl rfl (by decide +kernel) ⟨Nat.le_of_ble_eq_true rfl, Nat.le_of_ble_eq_true rfl⟩) (M_recv_0 C0 hw (by decide)) rfl hl.1 rfl (Nat.le_of_ble_eq_true rfl) dX12_correct_39 ⟨Nat.zero_le _, Nat.zero_le _⟩ (fun H locs hw => ?_)
      refine W.eq (g2 := F0 m 42 ls [.int v11]) rfl ?_
      refine lv_if_eq (tgt := 82) hx hb dX12_correct_42 (by decide) (fun hc13 => ?_) (fun hc13 => ?_)
      · have h := ifp h hc13
        refine lv_aload_n hx hb dX12_correct_82 rfl (lv_at hl 0 rfl) ?_
        refine lv_iconst (v := 3) hx hb dX12_correct_83 (by decide) ?_
        obtain ⟨⟨v14, t15⟩, hf16, h⟩ := bn_c h
        have h := un2_d h
        refine M_callV C0 hw (As := [.int (3 : Int32)]) (rest := []) (mX12_no l E hL t1 hf16) (cwV 1 C0.1.2.2.2.2 gX12_correct_X12_no rfl rfl rfl (by decide +kernel) ⟨Nat.le_of_ble_eq_true rfl, Nat.le_of_ble_eq_true rfl⟩) (M_recv_0 C0 hw (by decide)) rfl hl.1 rfl (Nat.le_of_ble_eq_true rfl) dX12_correct_84 ⟨Nat.zero_le _, Nat.zero_le _⟩ (fun H locs hw => ?_)
        refine W.eq (g2 := F0 m 87 ls [.int v14]) rfl ?_
        cases h
        exact W.iret hx hb hr (M_fin C0 hw) hw.2.2.2 dX12_correct_87 hlocks
      · have h := ifn h hc13
        refine lv_aload_n hx hb dX12_correct_45 rfl (lv_at hl 0 rfl) ?_
        refine lv_iload hx hb dX12_correct_46 (lv_at hl 4 rfl) ?_
        refine lv_iconst (v := 2) hx hb dX12_correct_48 (by decide) ?_
        obtain ⟨v17, hf18, h⟩ := bn_c h
        refine M_callV C0 hw (As := [.int a4, .int (2 : Int32)]) (rest := []) (mX12_is l E hL t1 hf18) (cwV 2 C0.1.2.2.2.2 gX12_correct_X12_is rfl rfl rfl (by decide +kernel) ⟨Nat.le_of_ble_eq_true rfl, Nat.le_of_ble_eq_true rfl⟩) (M_recv_0 C0 hw (by decide)) rfl hl.1 rfl (Nat.le_of_ble_eq_true rfl) dX12_correct_49 ⟨Nat.zero_le _, Nat.zero_le _⟩ (fun H locs hw => ?_)
        refine W.eq (g2 := F0 m 52 ls [.int v17]) rfl ?_
        refine lv_if_eq (tgt := 82) hx hb dX12_correct_52 (by decide) (fun hc19 => ?_) (fun hc19 => ?_)
        · have h := ifp h hc19
          refine lv_aload_n hx hb dX12_correct_82 rfl (lv_at hl 0 rfl) ?_
          refine lv_iconst (v := 3) hx hb dX12_correct_83 (by decide) ?_
          obtain ⟨⟨v20, t21⟩, hf22, h⟩ := bn_c h
          have h := un2_d h
          refine M_callV C0 hw (As := [.int (3 : Int32)]) (rest := []) (mX12_no l E hL t1 hf22) (cwV 1 C0.1.2.2.2.2 gX12_correct_X12_no rfl rfl rfl (by decide +kernel) ⟨Nat.le_of_ble_eq_true rfl, Nat.le_of_ble_eq_true rfl⟩) (M_recv_0 C0 hw (by decide)) rfl hl.1 rfl (Nat.le_of_ble_eq_true rfl) dX12_correct_84 ⟨Nat.zero_le _, Nat.zero_le _⟩ (fun H locs hw => ?_)
          refine W.eq (g2 := F0 m 87 ls [.int v20]) rfl ?_
          cases h
          exact W.iret hx hb hr (M_fin C0 hw) hw.2.2.2 dX12_correct_87 hlocks
        · have h := ifn h hc19
          refine lv_iload hx hb dX12_correct_55 (lv_at hl 5 rfl) ?_
          refine lv_iconst (v := 1) hx hb dX12_correct_57 (by decide) ?_
          refine lv_icmp_lt (tgt := 82) hx hb dX12_correct_58 (by decide) (fun hc23 => ?_) (fun hc23 => ?_)
          · have h := ifp h hc23
            refine lv_aload_n hx hb dX12_correct_82 rfl (lv_at hl 0 rfl) ?_
            refine lv_iconst (v := 3) hx hb dX12_correct_83 (by decide) ?_
            obtain ⟨⟨v24, t25⟩, hf26, h⟩ := bn_c h
            have h := un2_d h
            refine M_callV C0 hw (As := [.int (3 : Int32)]) (rest := []) (mX12_no l E hL t1 hf26) (cwV 1 C0.1.2.2.2.2 gX12_correct_X12_no rfl rfl rfl (by decide +kernel) ⟨Nat.le_of_ble_eq_true rfl, Nat.le_of_ble_eq_true rfl⟩) (M_recv_0 C0 hw (by decide)) rfl hl.1 rfl (Nat.le_of_ble_eq_true rfl) dX12_correct_84 ⟨Nat.zero_le _, Nat.zero_le _⟩ (fun H locs hw => ?_)
            refine W.eq (g2 := F0 m 87 ls [.int v24]) rfl ?_
            cases h
            exact W.iret hx hb hr (M_fin C0 hw) hw.2.2.2 dX12_correct_87 hlocks
          · have h := ifn h hc23
            refine lv_iload hx hb dX12_correct_61 (lv_at hl 5 rfl) ?_
            refine lv_sipush (v := 10000) hx hb dX12_correct_63 (by decide) ?_
            refine lv_icmp_gt (tgt := 82) hx hb dX12_correct_66 (by decide) (fun hc27 => ?_) (fun hc27 => ?_)
            · have h := ifp h hc27
              refine lv_aload_n hx hb dX12_correct_82 rfl (lv_at hl 0 rfl) ?_
              refine lv_iconst (v := 3) hx hb dX12_correct_83 (by decide) ?_
              obtain ⟨⟨v28, t29⟩, hf30, h⟩ := bn_c h
              have h := un2_d h
              refine M_callV C0 hw (As := [.int (3 : Int32)]) (rest := []) (mX12_no l E hL t1 hf30) (cwV 1 C0.1.2.2.2.2 gX12_correct_X12_no rfl rfl rfl (by decide +kernel) ⟨Nat.le_of_ble_eq_true rfl, Nat.le_of_ble_eq_true rfl⟩) (M_recv_0 C0 hw (by decide)) rfl hl.1 rfl (Nat.le_of_ble_eq_true rfl) dX12_correct_84 ⟨Nat.zero_le _, Nat.zero_le _⟩ (fun H locs hw => ?_)
              refine W.eq (g2 := F0 m 87 ls [.int v28]) rfl ?_
              cases h
              exact W.iret hx hb hr (M_fin C0 hw) hw.2.2.2 dX12_correct_87 hlocks
            · have h := ifn h hc27
              refine lv_iload hx hb dX12_correct_69 (lv_at hl 6 rfl) ?_
              refine lv_iconst (v := 1) hx hb dX12_correct_71 (by decide) ?_
              refine lv_icmp_lt (tgt := 82) hx hb dX12_correct_72 (by decide) (fun hc31 => ?_) (fun hc31 => ?_)
              · have h := ifp h hc31
                refine lv_aload_n hx hb dX12_correct_82 rfl (lv_at hl 0 rfl) ?_
                refine lv_iconst (v := 3) hx hb dX12_correct_83 (by decide) ?_
                obtain ⟨⟨v32, t33⟩, hf34, h⟩ := bn_c h
                have h := un2_d h
                refine M_callV C0 hw (As := [.int (3 : Int32)]) (rest := []) (mX12_no l E hL t1 hf34) (cwV 1 C0.1.2.2.2.2 gX12_correct_X12_no rfl rfl rfl (by decide +kernel) ⟨Nat.le_of_ble_eq_true rfl, Nat.le_of_ble_eq_true rfl⟩) (M_recv_0 C0 hw (by decide)) rfl hl.1 rfl (Nat.le_of_ble_eq_true rfl) dX12_correct_84 ⟨Nat.zero_le _, Nat.zero_le _⟩ (fun H locs hw => ?_)
                refine W.eq (g2 := F0 m 87 ls [.int v32]) rfl ?_
                cases h
                exact W.iret hx hb hr (M_fin C0 hw) hw.2.2.2 dX12_correct_87 hlocks
              · have h := ifn h hc31
                refine lv_iload hx hb dX12_correct_75 (lv_at hl 6 rfl) ?_
                refine lv_bipush (v := 12) hx hb dX12_correct_77 (by decide) ?_
                refine lv_icmp_le (tgt := 88) hx hb dX12_correct_79 (by decide) (fun hc35 => ?_) (fun hc35 => ?_)
                · have h := ifp h hc35
                  refine lv_aload_n hx hb dX12_correct_88 rfl (lv_at hl 0 rfl) ?_
                  refine lv_iload_n hx hb dX12_correct_89 rfl (lv_at hl 3 rfl) ?_
                  refine M_p0_59 hL C0 hw (fun w h => (List.mem_cons_of_mem _ (List.mem_append_right _ h))) (by decide) h ((List.mem_cons_of_mem _ (List.mem_append_left _ (List.mem_append_left _ (List.mem_of_getElem? (i := 3) rfl))))) dX12_correct_90 (fun t36 H locs hw h => ?_)
                  refine lv_aload_n hx hb dX12_correct_93 rfl (lv_at hl 0 rfl) ?_
                  refine lv_iload hx hb dX12_correct_94 (lv_at hl 4 rfl) ?_
                  refine M_p0_60 hL C0 hw (fun w h => (List.mem_cons_of_mem _ (List.mem_append_right _ h))) (by decide) h ((List.mem_cons_of_mem _ (List.mem_append_left _ (List.mem_append_left _ (List.mem_of_getElem? (i := 4) rfl))))) dX12_correct_96 (fun t37 H locs hw h => ?_)
                  refine lv_aload_n hx hb dX12_correct_99 rfl (lv_at hl 0 rfl) ?_
                  refine lv_iconst (v := 1) hx hb dX12_correct_100 (by decide) ?_
                  refine lv_iload_n hx hb dX12_correct_101 rfl (lv_at hl 2 rfl) ?_
                  refine lv_iadd hx hb dX12_correct_102 ?_
                  refine lv_iload_n hx hb dX12_correct_103 rfl (lv_at hl 3 rfl) ?_
                  refine lv_iload hx hb dX12_correct_104 (lv_at hl 4 rfl) ?_
                  obtain ⟨t38, hf39, h⟩ := bn_c h
                  refine M_callV C0 hw (As := [.int ((1 : Int32) + a2), .int a3, .int a4]) (rest := []) (mX12_goalIs l E hL t37 hf39) (cwV 3 C0.1.2.2.2.2 gX12_correct_X12_goalIs rfl rfl rfl (by decide +kernel) ⟨Nat.le_of_ble_eq_true rfl, Nat.le_of_ble_eq_true rfl⟩) (M_recv_0 C0 hw (by decide)) rfl hl.1 rfl (Nat.le_of_ble_eq_true rfl) dX12_correct_106 ⟨Nat.zero_le _, Nat.zero_le _⟩ (fun H locs hw => ?_)
                  refine W.eq (g2 := F0 m 109 ls []) rfl ?_
                  refine lv_aload_n hx hb dX12_correct_109 rfl (lv_at hl 0 rfl) ?_
                  refine lv_iconst (v := 0) hx hb dX12_correct_110 (by decide) ?_
                  refine M_p0_51 hL C0 hw (fun w h => (List.mem_cons_of_mem _ (List.mem_append_right _ h))) (by decide) h ((List.mem_cons_of_mem _ (List.mem_append_left _ (List.mem_append_left _ (List.mem_of_getElem? (i := 5) rfl))))) dX12_correct_111 (fun t40 H locs hw h => ?_)
                  refine lv_aload_n hx hb dX12_correct_114 rfl (lv_at hl 0 rfl) ?_
                  refine lv_iconst (v := 0) hx hb dX12_correct_115 (by decide) ?_
                  refine M_p0_56 hL C0 hw (fun w h => (List.mem_cons_of_mem _ (List.mem_append_right _ h))) (by decide) h rfl rfl ((List.mem_cons_of_mem _ (List.mem_append_left _ (List.mem_append_left _ (List.mem_of_getElem? (i := 6) rfl))))) dX12_correct_116 (fun t41 H locs hw h => ?_)
                  refine lv_aload_n hx hb dX12_correct_119 rfl (lv_at hl 0 rfl) ?_
                  refine lv_iload_n hx hb dX12_correct_120 rfl (lv_at hl 1 rfl) ?_
                  obtain ⟨t42, hf43, h⟩ := bn_c h
                  refine M_callV C0 hw (As := [.int a1]) (rest := []) (mX12_bathOf l E hL t41 hf43) (cwV 1 C0.1.2.2.2.2 gX12_correct_X12_bathOf rfl rfl rfl (by decide +kernel) ⟨Nat.le_of_ble_eq_true rfl, Nat.le_of_ble_eq_true rfl⟩) (M_recv_0 C0 hw (by decide)) rfl hl.1 rfl (Nat.le_of_ble_eq_true rfl) dX12_correct_121 ⟨Nat.zero_le _, Nat.zero_le _⟩ (fun H locs hw => ?_)
                  refine W.eq (g2 := F0 m 124 ls []) rfl ?_
                  refine lv_aload_n hx hb dX12_correct_124 rfl (lv_at hl 0 rfl) ?_
                  refine lv_aload_n hx hb dX12_correct_125 rfl (lv_at hl 0 rfl) ?_
                  refine lv_iload_n hx hb dX12_correct_126 rfl (lv_at hl 1 rfl) ?_
                  obtain ⟨⟨v44, t45⟩, hf46, h⟩ := bn_c h
                  have h := un2_d h
                  refine M_callV C0 hw (As := [.int a1]) (rest := [.ref (E.2.2.1 0 (0))]) (mX12_bathDistance l E hL t42 hf46) (cwV 1 C0.1.2.2.2.2 gX12_correct_X12_bathDistance rfl rfl rfl (by decide +kernel) ⟨Nat.le_of_ble_eq_true rfl, Nat.le_of_ble_eq_true rfl⟩) (M_recv_0 C0 hw (by decide)) rfl hl.1 rfl (Nat.le_of_ble_eq_true rfl) dX12_correct_127 ⟨Nat.zero_le _, Nat.zero_le _⟩ (fun H locs hw => ?_)
                  refine W.eq (g2 := F0 m 130 ls [.double v44, .ref (E.2.2.1 0 (0))]) rfl ?_
                  refine M_p0_72 hL C0 hw (fun w h => (List.mem_cons_of_mem _ (List.mem_append_right _ h))) (by decide) h ((List.mem_cons_of_mem _ (List.mem_append_left _ (List.mem_append_left _ (List.mem_of_getElem? (i := 7) rfl))))) dX12_correct_130 (fun t47 H locs hw h => ?_)
                  refine lv_iconst (v := 0) hx hb dX12_correct_133 (by decide) ?_
                  refine lv_istore (lv' := [(7, .int (0 : Int32)), (0, .ref (E.2.2.1 0 (0))), (1, .int a1), (2, .int a2), (3, .int a3), (4, .int a4), (5, .int a5), (6, .int a6)]) hx hb dX12_correct_134 hl (by decide) rfl (fun ls hl => ?_)
                  refine lp_ind (fun q : (Int32 × Sto) => ∀ (H : Heap) (locs : List Loc), SM E s (q.2) H locs → ∀ ls : Array Slot, lv_has ls 11 [(7, .int (q.1)), (0, .ref (E.2.2.1 0 (0))), (1, .int a1), (5, .int a5), (6, .int a6)] → W p l e (headSpec wsX12_correct ({ frames := 8, cells := 0, slots := 0, locals := 216 })).room s m ([.ref (E.2.2.1 0 (0)), .int a1, .int a2, .int a3, .int a4, .int a5, .int a6] : List Value).toArray below meth c H locs 0 0 (MQ below (QM E (some (.int r)) st1) ([.ref (E.2.2.1 0 (0)), .int a1, .int a2, .int a3, .int a4, .int a5, .int a6] : List Value).toArray s 0 0 E.2.2.2) (F0 m 136 ls [])) (fun q o50 h hB49 hX48 => ?_) _ _ h _ _ hw _ (lv_sub hl [0, 1, 2, 6, 7] rfl)
                  intro H locs hw ls hl
                  obtain ⟨v51, t52⟩ := q
                  have h := un2_d h
                  have hw : SM E s t52 H locs := hw
                  have hl : lv_has ls 11 [(7, .int v51), (0, .ref (E.2.2.1 0 (0))), (1, .int a1), (5, .int a5), (6, .int a6)] := hl
                  refine lv_iload hx hb dX12_correct_136 (lv_at hl 0 rfl) ?_
                  refine lv_iconst (v := 4) hx hb dX12_correct_138 (by decide) ?_
                  refine lv_icmp_ge (tgt := 156) hx hb dX12_correct_139 (by decide) (fun hc54 => ?_) (fun hc54 => ?_)
                  · have h := ifp h hc54
                    have h := hX48 _ (Option.some.inj h).symm
                    have hl := lv_sub hl (l' := [(0, .ref (E.2.2.1 0 (0))), (1, .int a1), (5, .int a5), (6, .int a6)]) [1, 2, 3, 4] rfl
                    refine lv_iconst (v := 0) hx hb dX12_correct_156 (by decide) ?_
                    refine lv_istore (lv' := [(7, .int (0 : Int32)), (0, .ref (E.2.2.1 0 (0))), (1, .int a1), (5, .int a5), (6, .int a6)]) hx hb dX12_correct_157 hl (by decide) rfl (fun ls hl => ?_)
                    refine lp_ind (fun q : (Int32 × Sto) => ∀ (H : Heap) (locs : List Loc), SM E s (q.2) H locs → ∀ ls : Array Slot, lv_has ls 11 [(7, .int (q.1)), (0, .ref (E.2.2.1 0 (0))), (1, .int a1), (5, .int a5), (6, .int a6)] → W p l e (headSpec wsX12_correct ({ frames := 8, cells := 0, slots := 0, locals := 216 })).room s m ([.ref (E.2.2.1 0 (0)), .int a1, .int a2, .int a3, .int a4, .int a5, .int a6] : List Value).toArray below meth c H locs 0 0 (MQ below (QM E (some (.int r)) st1) ([.ref (E.2.2.1 0 (0)), .int a1, .int a2, .int a3, .int a4, .int a5, .int a6] : List Value).toArray s 0 0 E.2.2.2) (F0 m 159 ls [])) (fun q o57 h hB56 hX55 => ?_) _ _ h _ _ hw _ (lv_sub hl [0, 1, 2, 3, 4] rfl)
                    intro H locs hw ls hl
                    obtain ⟨v58, t59⟩ := q
                    have h := un2_d h
                    have hw : SM E s t59 H locs := hw
                    have hl : lv_has ls 11 [(7, .int v58), (0, .ref (E.2.2.1 0 (0))), (1, .int a1), (5, .int a5), (6, .int a6)] := hl
                    refine lv_iload hx hb dX12_correct_159 (lv_at hl 0 rfl) ?_
                    refine lv_aload_n hx hb dX12_correct_161 rfl (lv_at hl 1 rfl) ?_
                    refine M_g0_6 C0 hw (fun w h => (List.mem_cons_of_mem _ (List.mem_append_right _ h))) (by decide) ((List.mem_cons_of_mem _ (List.mem_append_left _ (List.mem_append_left _ (List.mem_of_getElem? (i := 9) rfl))))) dX12_correct_162 ?_
                    refine lv_icmp_ge (tgt := 204) hx hb dX12_correct_165 (by decide) (fun hc61 => ?_) (fun hc61 => ?_)
                    · have h := ifp h hc61
                      have h := hX55 _ (Option.some.inj h).symm
                      have hl := lv_sub hl (l' := [(0, .ref (E.2.2.1 0 (0))), (1, .int a1), (5, .int a5), (6, .int a6)]) [1, 2, 3, 4] rfl
                      refine lv_iconst (v := 0) hx hb dX12_correct_204 (by decide) ?_
                      refine lv_istore (lv' := [(7, .int (0 : Int32)), (0, .ref (E.2.2.1 0 (0))), (1, .int a1), (5, .int a5), (6, .int a6)]) hx hb dX12_correct_205 hl (by decide) rfl (fun ls hl => ?_)
                      refine lp_ind (fun q : (Int32 × Sto) => ∀ (H : Heap) (locs : List Loc), SM E s (q.2) H locs → ∀ ls : Array Slot, lv_has ls 11 [(7, .int (q.1)), (0, .ref (E.2.2.1 0 (0))), (1, .int a1), (5, .int a5), (6, .int a6)] → W p l e (headSpec wsX12_correct ({ frames := 8, cells := 0, slots := 0, locals := 216 })).room s m ([.ref (E.2.2.1 0 (0)), .int a1, .int a2, .int a3, .int a4, .int a5, .int a6] : List Value).toArray below meth c H locs 0 0 (MQ below (QM E (some (.int r)) st1) ([.ref (E.2.2.1 0 (0)), .int a1, .int a2, .int a3, .int a4, .int a5, .int a6] : List Value).toArray s 0 0 E.2.2.2) (F0 m 207 ls [])) (fun q o64 h hB63 hX62 => ?_) _ _ h _ _ hw _ (lv_sub hl [0, 1, 2, 3, 4] rfl)
                      intro H locs hw ls hl
                      obtain ⟨v65, t66⟩ := q
                      have h := un2_d h
                      have hw : SM E s t66 H locs := hw
                      have hl : lv_has ls 11 [(7, .int v65), (0, .ref (E.2.2.1 0 (0))), (1, .int a1), (5, .int a5), (6, .int a6)] := hl
                      refine lv_iload hx hb dX12_correct_207 (lv_at hl 0 rfl) ?_
                      refine lv_aload_n hx hb dX12_correct_209 rfl (lv_at hl 1 rfl) ?_
                      refine M_g0_6 C0 hw (fun w h => (List.mem_cons_of_mem _ (List.mem_append_right _ h))) (by decide) ((List.mem_cons_of_mem _ (List.mem_append_left _ (List.mem_append_left _ (List.mem_of_getElem? (i := 9) rfl))))) dX12_correct_210 ?_
                      refine lv_icmp_ge (tgt := 294) hx hb dX12_correct_213 (by decide) (fun hc68 => ?_) (fun hc68 => ?_)
                      · have h := ifp h hc68
                        have h := hX62 _ (Option.some.inj h).symm
                        have hl := lv_sub hl (l' := [(0, .ref (E.2.2.1 0 (0)))]) [1] rfl
                        refine lv_aload_n hx hb dX12_correct_294 rfl (lv_at hl 0 rfl) ?_
                        refine M_g0_69 C0 hw (fun w h => (List.mem_cons_of_mem _ (List.mem_append_right _ h))) (by decide) ((List.mem_cons_of_mem _ (List.mem_append_left _ (List.mem_append_left _ (List.mem_of_getElem? (i := 10) rfl))))) dX12_correct_295 ?_
                        refine lv_iconst (v := 0) hx hb dX12_correct_298 (by decide) ?_
                        refine lv_aload_n hx hb dX12_correct_299 rfl (lv_at hl 0 rfl) ?_
                        refine M_g0_51 C0 hw (fun w h => (List.mem_cons_of_mem _ (List.mem_append_right _ h))) (by decide) ((List.mem_cons_of_mem _ (List.mem_append_left _ (List.mem_append_left _ (List.mem_of_getElem? (i := 5) rfl))))) dX12_correct_300 ?_
                        refine M_iastL hL C0 hw h (vp_in_iff.mpr (by decide +kernel)) (k := 0) rfl dX12_correct_303 (fun t69 H locs hw h => ?_)
                        refine lv_aload_n hx hb dX12_correct_304 rfl (lv_at hl 0 rfl) ?_
                        refine M_g0_69 C0 hw (fun w h => (List.mem_cons_of_mem _ (List.mem_append_right _ h))) (by decide) ((List.mem_cons_of_mem _ (List.mem_append_left _ (List.mem_append_left _ (List.mem_of_getElem? (i := 10) rfl))))) dX12_correct_305 ?_
                        refine lv_iconst (v := 1) hx hb dX12_correct_308 (by decide) ?_
                        refine lv_aload_n hx hb dX12_correct_309 rfl (lv_at hl 0 rfl) ?_
                        refine M_g0_56 C0 hw (fun w h => (List.mem_cons_of_mem _ (List.mem_append_right _ h))) (by decide) ((List.mem_cons_of_mem _ (List.mem_append_left _ (List.mem_append_left _ (List.mem_of_getElem? (i := 6) rfl))))) dX12_correct_310 ?_
                        refine jn_c h (fun K70 hK72 h => ?_)
                        have HJ71 : ∀ (v73 : Int32), K70 v73 = some (r, st1) → ∀ (H : Heap) (locs : List Loc), SM E s t69 H locs → ∀ ls : Array Slot, lv_has ls 11 [(0, .ref (E.2.2.1 0 (0)))] → W p l e (headSpec wsX12_correct ({ frames := 8, cells := 0, slots := 0, locals := 216 })).room s m ([.ref (E.2.2.1 0 (0)), .int a1, .int a2, .int a3, .int a4, .int a5, .int a6] : List Value).toArray below meth c H locs 0 0 (MQ below (QM E (some (.int r)) st1) ([.ref (E.2.2.1 0 (0)), .int a1, .int a2, .int a3, .int a4, .int a5, .int a6] : List Value).toArray s 0 0 E.2.2.2) (F0 m 321 ls [.int v73, .int (1 : Int32), .ref (E.2.2.1 (70) (0))]) := by
                          intro v73 h H locs hw ls hl
                          have h := kk1 h hK72
                          refine M_iastL hL C0 hw h (vp_in_iff.mpr (by decide +kernel)) (k := 1) rfl dX12_correct_321 (fun t74 H locs hw h => ?_)
                          refine lv_iconst (v := 0) hx hb dX12_correct_322 (by decide) ?_
                          refine lv_istore (lv' := [(7, .int (0 : Int32)), (0, .ref (E.2.2.1 0 (0)))]) hx hb dX12_correct_323 hl (by decide) rfl (fun ls hl => ?_)
                          refine lp_ind (fun q : (Int32 × Sto) => ∀ (H : Heap) (locs : List Loc), SM E s (q.2) H locs → ∀ ls : Array Slot, lv_has ls 11 [(7, .int (q.1)), (0, .ref (E.2.2.1 0 (0)))] → W p l e (headSpec wsX12_correct ({ frames := 8, cells := 0, slots := 0, locals := 216 })).room s m ([.ref (E.2.2.1 0 (0)), .int a1, .int a2, .int a3, .int a4, .int a5, .int a6] : List Value).toArray below meth c H locs 0 0 (MQ below (QM E (some (.int r)) st1) ([.ref (E.2.2.1 0 (0)), .int a1, .int a2, .int a3, .int a4, .int a5, .int a6] : List Value).toArray s 0 0 E.2.2.2) (F0 m 325 ls [])) (fun q o77 h hB76 hX75 => ?_) _ _ h _ _ hw _ (lv_sub hl [0, 1] rfl)
                          intro H locs hw ls hl
                          obtain ⟨v78, t79⟩ := q
                          have h := un2_d h
                          have hw : SM E s t79 H locs := hw
                          have hl : lv_has ls 11 [(7, .int v78), (0, .ref (E.2.2.1 0 (0)))] := hl
                          refine lv_iload hx hb dX12_correct_325 (lv_at hl 0 rfl) ?_
                          refine lv_iconst (v := 4) hx hb dX12_correct_327 (by decide) ?_
                          refine lv_icmp_ge (tgt := 353) hx hb dX12_correct_328 (by decide) (fun hc81 => ?_) (fun hc81 => ?_)
                          · have h := ifp h hc81
                            have h := hX75 _ (Option.some.inj h).symm
                            have hl := lv_sub hl (l' := [(0, .ref (E.2.2.1 0 (0)))]) [1] rfl
                            refine lv_aload_n hx hb dX12_correct_353 rfl (lv_at hl 0 rfl) ?_
                            refine lv_iconst (v := 1) hx hb dX12_correct_354 (by decide) ?_
                            refine M_p0_71 hL C0 hw (fun w h => (List.mem_cons_of_mem _ (List.mem_append_right _ h))) (by decide) h rfl rfl ((List.mem_cons_of_mem _ (List.mem_append_left _ (List.mem_append_left _ (List.mem_of_getElem? (i := 11) rfl))))) dX12_correct_355 (fun t82 H locs hw h => ?_)
                            refine lv_aload_n hx hb dX12_correct_358 rfl (lv_at hl 0 rfl) ?_
                            refine lv_iconst (v := 0) hx hb dX12_correct_359 (by decide) ?_
                            refine M_p0_9 hL C0 hw (fun w h => (List.mem_cons_of_mem _ (List.mem_append_right _ h))) (by decide) h ((List.mem_cons_of_mem _ (List.mem_append_left _ (List.mem_append_left _ (List.mem_of_getElem? (i := 12) rfl))))) dX12_correct_360 (fun t83 H locs hw h => ?_)
                            refine lv_aload_n hx hb dX12_correct_363 rfl (lv_at hl 0 rfl) ?_
                            refine M_g0_70 C0 hw (fun w h => (List.mem_cons_of_mem _ (List.mem_append_right _ h))) (by decide) ((List.mem_cons_of_mem _ (List.mem_append_left _ (List.mem_append_left _ (List.mem_of_getElem? (i := 8) rfl))))) dX12_correct_364 ?_
                            refine lv_iconst (v := 0) hx hb dX12_correct_367 (by decide) ?_
                            refine M_ialdL C0 hw (vp_in_iff.mpr (by decide +kernel)) (k := 0) rfl dX12_correct_368 ?_
                            refine lv_iconst (v := -1) hx hb dX12_correct_369 (by decide) ?_
                            refine lv_icmp_ne (tgt := 377) hx hb dX12_correct_370 (by decide) (fun hc84 => ?_) (fun hc84 => ?_)
                            · have h := ifn h hc84
                              refine lv_aload_n hx hb dX12_correct_377 rfl (lv_at hl 0 rfl) ?_
                              refine M_g0_70 C0 hw (fun w h => (List.mem_cons_of_mem _ (List.mem_append_right _ h))) (by decide) ((List.mem_cons_of_mem _ (List.mem_append_left _ (List.mem_append_left _ (List.mem_of_getElem? (i := 8) rfl))))) dX12_correct_378 ?_
                              refine lv_iconst (v := 2) hx hb dX12_correct_381 (by decide) ?_
                              refine M_ialdL C0 hw (vp_in_iff.mpr (by decide +kernel)) (k := 2) rfl dX12_correct_382 ?_
                              refine lv_iconst (v := -1) hx hb dX12_correct_383 (by decide) ?_
                              refine lv_icmp_ne (tgt := 391) hx hb dX12_correct_384 (by decide) (fun hc85 => ?_) (fun hc85 => ?_)
                              · have h := ifn h hc85
                                refine lv_iconst (v := 2) hx hb dX12_correct_391 (by decide) ?_
                                cases h
                                exact W.iret hx hb hr (M_fin C0 hw) hw.2.2.2 dX12_correct_392 hlocks
                              · have h := ifp h hc85
                                refine lv_iconst (v := 1) hx hb dX12_correct_387 (by decide) ?_
                                refine lv_goto (tgt := 392) hx hb dX12_correct_388 (by decide) ?_
                                cases h
                                exact W.iret hx hb hr (M_fin C0 hw) hw.2.2.2 dX12_correct_392 hlocks
                            · have h := ifp h hc84
                              refine lv_iconst (v := 0) hx hb dX12_correct_373 (by decide) ?_
                              refine lv_goto (tgt := 392) hx hb dX12_correct_374 (by decide) ?_
                              cases h
                              exact W.iret hx hb hr (M_fin C0 hw) hw.2.2.2 dX12_correct_392 hlocks
                          · have h := ifn h hc81
                            refine lv_aload_n hx hb dX12_correct_331 rfl (lv_at hl 1 rfl) ?_
                            refine M_g0_69 C0 hw (fun w h => (List.mem_cons_of_mem _ (List.mem_append_right _ h))) (by decide) ((List.mem_cons_of_mem _ (List.mem_append_left _ (List.mem_append_left _ (List.mem_of_getElem? (i := 10) rfl))))) dX12_correct_332 ?_
                            refine lv_iconst (v := 2) hx hb dX12_correct_335 (by decide) ?_
                            refine lv_iload hx hb dX12_correct_336 (lv_at hl 0 rfl) ?_
                            refine lv_iadd hx hb dX12_correct_338 ?_
                            refine lv_aload_n hx hb dX12_correct_339 rfl (lv_at hl 1 rfl) ?_
                            refine M_g0_70 C0 hw (fun w h => (List.mem_cons_of_mem _ (List.mem_append_right _ h))) (by decide) ((List.mem_cons_of_mem _ (List.mem_append_left _ (List.mem_append_left _ (List.mem_of_getElem? (i := 8) rfl))))) dX12_correct_340 ?_
                            refine lv_iload hx hb dX12_correct_343 (lv_at hl 0 rfl) ?_
                            refine M_iald C0 hw h (k := v78.toNatClampNeg) rfl dX12_correct_345 (fun h => ?_)
                            refine M_iast hL C0 hw h (k := ((2 : Int32) + v78).toNatClampNeg) rfl dX12_correct_346 (fun t86 H locs hw h => ?_)
                            refine x_iinc hx hb h dX12_correct_347 hl (q := 0) rfl (fun v87 => [(7, .int v87), (0, .ref (E.2.2.1 0 (0)))]) (by decide) (fun _ => rfl) (fun v87 ls hl h => ?_)
                            refine lv_goto (tgt := 325) hx hb dX12_correct_350 (by decide) ?_
                            exact hB76 _ (Option.some.inj h).symm _ _ hw _ (lv_sub hl [0, 1] rfl)
                        refine lv_if_eq (tgt := 320) hx hb dX12_correct_313 (by decide) (fun hc92 => ?_) (fun hc92 => ?_)
                        · have h := ifp h hc92
                          refine lv_iconst (v := 1) hx hb dX12_correct_320 (by decide) ?_
                          exact HJ71 _ h _ _ hw _ (lv_sub hl [0] rfl)
                        · have h := ifn h hc92
                          refine lv_iconst (v := 0) hx hb dX12_correct_316 (by decide) ?_
                          refine lv_goto (tgt := 321) hx hb dX12_correct_317 (by decide) ?_
                          exact HJ71 _ h _ _ hw _ (lv_sub hl [0] rfl)
                      · have h := ifn h hc68
                        refine lv_iload hx hb dX12_correct_216 (lv_at hl 0 rfl) ?_
                        refine lv_iconst (v := 1) hx hb dX12_correct_218 (by decide) ?_
                        refine lv_iadd hx hb dX12_correct_219 ?_
                        refine x_topi h (fun v93 h => ?_)
                        refine lv_istore (lv' := [(8, .int v93), (7, .int v65), (0, .ref (E.2.2.1 0 (0))), (1, .int a1), (5, .int a5), (6, .int a6)]) hx hb dX12_correct_220 hl (by decide) rfl (fun ls hl => ?_)
                        refine lp_ind (fun q : (Int32 × Sto) => ∀ (H : Heap) (locs : List Loc), SM E s (q.2) H locs → ∀ ls : Array Slot, lv_has ls 11 [(8, .int (q.1)), (7, .int v65), (0, .ref (E.2.2.1 0 (0))), (1, .int a1), (5, .int a5), (6, .int a6)] → W p l e (headSpec wsX12_correct ({ frames := 8, cells := 0, slots := 0, locals := 216 })).room s m ([.ref (E.2.2.1 0 (0)), .int a1, .int a2, .int a3, .int a4, .int a5, .int a6] : List Value).toArray below meth c H locs 0 0 (MQ below (QM E (some (.int r)) st1) ([.ref (E.2.2.1 0 (0)), .int a1, .int a2, .int a3, .int a4, .int a5, .int a6] : List Value).toArray s 0 0 E.2.2.2) (F0 m 222 ls [])) (fun q o96 h hB95 hX94 => ?_) _ _ h _ _ hw _ (lv_sub hl [0, 1, 2, 3, 4, 5] rfl)
                        intro H locs hw ls hl
                        obtain ⟨v97, t98⟩ := q
                        have h := un2_d h
                        have hw : SM E s t98 H locs := hw
                        have hl : lv_has ls 11 [(8, .int v97), (7, .int v65), (0, .ref (E.2.2.1 0 (0))), (1, .int a1), (5, .int a5), (6, .int a6)] := hl
                        refine lv_iload hx hb dX12_correct_222 (lv_at hl 0 rfl) ?_
                        refine lv_aload_n hx hb dX12_correct_224 rfl (lv_at hl 2 rfl) ?_
                        refine M_g0_6 C0 hw (fun w h => (List.mem_cons_of_mem _ (List.mem_append_right _ h))) (by decide) ((List.mem_cons_of_mem _ (List.mem_append_left _ (List.mem_append_left _ (List.mem_of_getElem? (i := 9) rfl))))) dX12_correct_225 ?_
                        refine lv_icmp_ge (tgt := 288) hx hb dX12_correct_228 (by decide) (fun hc100 => ?_) (fun hc100 => ?_)
                        · have h := ifp h hc100
                          have h := hX94 _ (Option.some.inj h).symm
                          have hl := lv_sub hl (l' := [(0, .ref (E.2.2.1 0 (0))), (1, .int a1), (5, .int a5), (6, .int a6), (7, .int v65)]) [2, 3, 4, 5, 1] rfl
                          refine x_iinc hx hb h dX12_correct_288 hl (q := 4) rfl (fun v101 => [(7, .int v101), (0, .ref (E.2.2.1 0 (0))), (1, .int a1), (5, .int a5), (6, .int a6)]) (by decide) (fun _ => rfl) (fun v101 ls hl h => ?_)
                          refine lv_goto (tgt := 207) hx hb dX12_correct_291 (by decide) ?_
                          exact hB63 _ (Option.some.inj h).symm _ _ hw _ (lv_sub hl [0, 1, 2, 3, 4] rfl)
                        · have h := ifn h hc100
                          refine lv_iconst (v := 1) hx hb dX12_correct_231 (by decide) ?_
                          refine lv_istore (lv' := [(9, .int (1 : Int32)), (8, .int v97), (7, .int v65), (0, .ref (E.2.2.1 0 (0))), (1, .int a1), (5, .int a5), (6, .int a6)]) hx hb dX12_correct_232 hl (by decide) rfl (fun ls hl => ?_)
                          refine lp_ind (fun q : (Int32 × Sto) => ∀ (H : Heap) (locs : List Loc), SM E s (q.2) H locs → ∀ ls : Array Slot, lv_has ls 11 [(9, .int (q.1)), (8, .int v97), (7, .int v65), (0, .ref (E.2.2.1 0 (0))), (1, .int a1), (5, .int a5), (6, .int a6)] → W p l e (headSpec wsX12_correct ({ frames := 8, cells := 0, slots := 0, locals := 216 })).room s m ([.ref (E.2.2.1 0 (0)), .int a1, .int a2, .int a3, .int a4, .int a5, .int a6] : List Value).toArray below meth c H locs 0 0 (MQ below (QM E (some (.int r)) st1) ([.ref (E.2.2.1 0 (0)), .int a1, .int a2, .int a3, .int a4, .int a5, .int a6] : List Value).toArray s 0 0 E.2.2.2) (F0 m 234 ls [])) (fun q o104 h hB103 hX102 => ?_) _ _ h _ _ hw _ (lv_sub hl [0, 1, 2, 3, 4, 5, 6] rfl)
                          intro H locs hw ls hl
                          obtain ⟨v105, t106⟩ := q
                          have h := un2_d h
                          have hw : SM E s t106 H locs := hw
                          have hl : lv_has ls 11 [(9, .int v105), (8, .int v97), (7, .int v65), (0, .ref (E.2.2.1 0 (0))), (1, .int a1), (5, .int a5), (6, .int a6)] := hl
                          refine lv_iload hx hb dX12_correct_234 (lv_at hl 0 rfl) ?_
                          refine lv_iload hx hb dX12_correct_236 (lv_at hl 6 rfl) ?_
                          refine lv_icmp_gt (tgt := 282) hx hb dX12_correct_238 (by decide) (fun hc108 => ?_) (fun hc108 => ?_)
                          · have h := ifp h hc108
                            have h := hX102 _ (Option.some.inj h).symm
                            have hl := lv_sub hl (l' := [(0, .ref (E.2.2.1 0 (0))), (1, .int a1), (5, .int a5), (6, .int a6), (7, .int v65), (8, .int v97)]) [3, 4, 5, 6, 2, 1] rfl
                            refine x_iinc hx hb h dX12_correct_282 hl (q := 5) rfl (fun v109 => [(8, .int v109), (0, .ref (E.2.2.1 0 (0))), (1, .int a1), (5, .int a5), (6, .int a6), (7, .int v65)]) (by decide) (fun _ => rfl) (fun v109 ls hl h => ?_)
                            refine lv_goto (tgt := 222) hx hb dX12_correct_285 (by decide) ?_
                            exact hB95 _ (Option.some.inj h).symm _ _ hw _ (lv_sub hl [0, 5, 1, 2, 3, 4] rfl)
                          · have h := ifn h hc108
                            refine lv_iconst (v := 1) hx hb dX12_correct_241 (by decide) ?_
                            refine lv_istore (lv' := [(10, .int (1 : Int32)), (9, .int v105), (8, .int v97), (7, .int v65), (0, .ref (E.2.2.1 0 (0))), (1, .int a1), (5, .int a5), (6, .int a6)]) hx hb dX12_correct_242 hl (by decide) rfl (fun ls hl => ?_)
                            refine lp_ind (fun q : (Int32 × Sto) => ∀ (H : Heap) (locs : List Loc), SM E s (q.2) H locs → ∀ ls : Array Slot, lv_has ls 11 [(10, .int (q.1)), (9, .int v105), (8, .int v97), (7, .int v65), (0, .ref (E.2.2.1 0 (0))), (1, .int a1), (5, .int a5), (6, .int a6)] → W p l e (headSpec wsX12_correct ({ frames := 8, cells := 0, slots := 0, locals := 216 })).room s m ([.ref (E.2.2.1 0 (0)), .int a1, .int a2, .int a3, .int a4, .int a5, .int a6] : List Value).toArray below meth c H locs 0 0 (MQ below (QM E (some (.int r)) st1) ([.ref (E.2.2.1 0 (0)), .int a1, .int a2, .int a3, .int a4, .int a5, .int a6] : List Value).toArray s 0 0 E.2.2.2) (F0 m 244 ls [])) (fun q o112 h hB111 hX110 => ?_) _ _ h _ _ hw _ (lv_sub hl [0, 1, 2, 3, 4, 5, 6, 7] rfl)
                            intro H locs hw ls hl
                            obtain ⟨v113, t114⟩ := q
                            have h := un2_d h
                            have hw : SM E s t114 H locs := hw
                            have hl : lv_has ls 11 [(10, .int v113), (9, .int v105), (8, .int v97), (7, .int v65), (0, .ref (E.2.2.1 0 (0))), (1, .int a1), (5, .int a5), (6, .int a6)] := hl
                            refine lv_iload hx hb dX12_correct_244 (lv_at hl 0 rfl) ?_
                            refine lv_iload hx hb dX12_correct_246 (lv_at hl 7 rfl) ?_
                            refine lv_icmp_gt (tgt := 276) hx hb dX12_correct_248 (by decide) (fun hc116 => ?_) (fun hc116 => ?_)
                            · have h := ifp h hc116
                              have h := hX110 _ (Option.some.inj h).symm
                              have hl := lv_sub hl (l' := [(0, .ref (E.2.2.1 0 (0))), (1, .int a1), (5, .int a5), (6, .int a6), (7, .int v65), (8, .int v97), (9, .int v105)]) [4, 5, 6, 7, 3, 2, 1] rfl
                              refine x_iinc hx hb h dX12_correct_276 hl (q := 6) rfl (fun v117 => [(9, .int v117), (0, .ref (E.2.2.1 0 (0))), (1, .int a1), (5, .int a5), (6, .int a6), (7, .int v65), (8, .int v97)]) (by decide) (fun _ => rfl) (fun v117 ls hl h => ?_)
                              refine lv_goto (tgt := 234) hx hb dX12_correct_279 (by decide) ?_
                              exact hB103 _ (Option.some.inj h).symm _ _ hw _ (lv_sub hl [0, 6, 5, 1, 2, 3, 4] rfl)
                            · have h := ifn h hc116
                              refine lv_aload_n hx hb dX12_correct_251 rfl (lv_at hl 4 rfl) ?_
                              refine lv_iload_n hx hb dX12_correct_252 rfl (lv_at hl 5 rfl) ?_
                              refine lv_iload hx hb dX12_correct_253 (lv_at hl 3 rfl) ?_
                              refine lv_iload hx hb dX12_correct_255 (lv_at hl 6 rfl) ?_
                              refine lv_iload hx hb dX12_correct_257 (lv_at hl 1 rfl) ?_
                              refine lv_imul hx hb dX12_correct_259 ?_
                              refine lv_iload hx hb dX12_correct_260 (lv_at hl 2 rfl) ?_
                              refine lv_iload hx hb dX12_correct_262 (lv_at hl 6 rfl) ?_
                              refine lv_iload hx hb dX12_correct_264 (lv_at hl 0 rfl) ?_
                              refine lv_imul hx hb dX12_correct_266 ?_
                              obtain ⟨t118, hf119, h⟩ := bn_c h
                              refine M_callV C0 hw (As := [.int a1, .int v65, .int (a5 * v105), .int v97, .int (a5 * v113)]) (rest := []) (mX12_tryAddition l E hL t114 hf119) (cwV 5 C0.1.2.2.2.2 gX12_correct_X12_tryAddition rfl rfl rfl (by decide +kernel) ⟨Nat.le_of_ble_eq_true rfl, Nat.le_of_ble_eq_true rfl⟩) (M_recv_0 C0 hw (by decide)) rfl hl.1 rfl (Nat.le_of_ble_eq_true rfl) dX12_correct_267 ⟨Nat.zero_le _, Nat.zero_le _⟩ (fun H locs hw => ?_)
                              refine W.eq (g2 := F0 m 270 ls []) rfl ?_
                              refine x_iinc hx hb h dX12_correct_270 hl (q := 0) rfl (fun v120 => [(10, .int v120), (9, .int v105), (8, .int v97), (7, .int v65), (0, .ref (E.2.2.1 0 (0))), (1, .int a1), (5, .int a5), (6, .int a6)]) (by decide) (fun _ => rfl) (fun v120 ls hl h => ?_)
                              refine lv_goto (tgt := 244) hx hb dX12_correct_273 (by decide) ?_
                              exact hB111 _ (Option.some.inj h).symm _ _ hw _ (lv_sub hl [0, 1, 2, 3, 4, 5, 6, 7] rfl)
                    · have h := ifn h hc61
                      refine lv_iconst (v := 1) hx hb dX12_correct_168 (by decide) ?_
                      refine lv_istore (lv' := [(8, .int (1 : Int32)), (7, .int v58), (0, .ref (E.2.2.1 0 (0))), (1, .int a1), (5, .int a5), (6, .int a6)]) hx hb dX12_correct_169 hl (by decide) rfl (fun ls hl => ?_)
                      refine lp_ind (fun q : (Int32 × Sto) => ∀ (H : Heap) (locs : List Loc), SM E s (q.2) H locs → ∀ ls : Array Slot, lv_has ls 11 [(8, .int (q.1)), (7, .int v58), (0, .ref (E.2.2.1 0 (0))), (1, .int a1), (5, .int a5), (6, .int a6)] → W p l e (headSpec wsX12_correct ({ frames := 8, cells := 0, slots := 0, locals := 216 })).room s m ([.ref (E.2.2.1 0 (0)), .int a1, .int a2, .int a3, .int a4, .int a5, .int a6] : List Value).toArray below meth c H locs 0 0 (MQ below (QM E (some (.int r)) st1) ([.ref (E.2.2.1 0 (0)), .int a1, .int a2, .int a3, .int a4, .int a5, .int a6] : List Value).toArray s 0 0 E.2.2.2) (F0 m 171 ls [])) (fun q o146 h hB145 hX144 => ?_) _ _ h _ _ hw _ (lv_sub hl [0, 1, 2, 3, 4, 5] rfl)
                      intro H locs hw ls hl
                      obtain ⟨v147, t148⟩ := q
                      have h := un2_d h
                      have hw : SM E s t148 H locs := hw
                      have hl : lv_has ls 11 [(8, .int v147), (7, .int v58), (0, .ref (E.2.2.1 0 (0))), (1, .int a1), (5, .int a5), (6, .int a6)] := hl
                      refine lv_iload hx hb dX12_correct_171 (lv_at hl 0 rfl) ?_
                      refine lv_iload hx hb dX12_correct_173 (lv_at hl 5 rfl) ?_
                      refine lv_icmp_gt (tgt := 198) hx hb dX12_correct_175 (by decide) (fun hc150 => ?_) (fun hc150 => ?_)
                      · have h := ifp h hc150
                        have h := hX144 _ (Option.some.inj h).symm
                        have hl := lv_sub hl (l' := [(0, .ref (E.2.2.1 0 (0))), (1, .int a1), (5, .int a5), (6, .int a6), (7, .int v58)]) [2, 3, 4, 5, 1] rfl
                        refine x_iinc hx hb h dX12_correct_198 hl (q := 4) rfl (fun v151 => [(7, .int v151), (0, .ref (E.2.2.1 0 (0))), (1, .int a1), (5, .int a5), (6, .int a6)]) (by decide) (fun _ => rfl) (fun v151 ls hl h => ?_)
                        refine lv_goto (tgt := 159) hx hb dX12_correct_201 (by decide) ?_
                        exact hB56 _ (Option.some.inj h).symm _ _ hw _ (lv_sub hl [0, 1, 2, 3, 4] rfl)
                      · have h := ifn h hc150
                        refine lv_aload_n hx hb dX12_correct_178 rfl (lv_at hl 2 rfl) ?_
                        refine lv_iload_n hx hb dX12_correct_179 rfl (lv_at hl 3 rfl) ?_
                        refine lv_iload hx hb dX12_correct_180 (lv_at hl 1 rfl) ?_
                        refine lv_iload hx hb dX12_correct_182 (lv_at hl 4 rfl) ?_
                        refine lv_iload hx hb dX12_correct_184 (lv_at hl 0 rfl) ?_
                        refine lv_imul hx hb dX12_correct_186 ?_
                        refine lv_iconst (v := -1) hx hb dX12_correct_187 (by decide) ?_
                        refine lv_iconst (v := 0) hx hb dX12_correct_188 (by decide) ?_
                        obtain ⟨t152, hf153, h⟩ := bn_c h
                        refine M_callV C0 hw (As := [.int a1, .int v58, .int (a5 * v147), .int (-1 : Int32), .int (0 : Int32)]) (rest := []) (mX12_tryAddition l E hL t148 hf153) (cwV 5 C0.1.2.2.2.2 gX12_correct_X12_tryAddition rfl rfl rfl (by decide +kernel) ⟨Nat.le_of_ble_eq_true rfl, Nat.le_of_ble_eq_true rfl⟩) (M_recv_0 C0 hw (by decide)) rfl hl.1 rfl (Nat.le_of_ble_eq_true rfl) dX12_correct_189 ⟨Nat.zero_le _, Nat.zero_le _⟩ (fun H locs hw => ?_)
                        refine W.eq (g2 := F0 m 192 ls []) rfl ?_
                        refine x_iinc hx hb h dX12_correct_192 hl (q := 0) rfl (fun v154 => [(8, .int v154), (7, .int v58), (0, .ref (E.2.2.1 0 (0))), (1, .int a1), (5, .int a5), (6, .int a6)]) (by decide) (fun _ => rfl) (fun v154 ls hl h => ?_)
                        refine lv_goto (tgt := 171) hx hb dX12_correct_195 (by decide) ?_
                        exact hB145 _ (Option.some.inj h).symm _ _ hw _ (lv_sub hl [0, 1, 2, 3, 4, 5] rfl)
                  · have h := ifn h hc54
                    refine lv_aload_n hx hb dX12_correct_142 rfl (lv_at hl 1 rfl) ?_
                    refine M_g0_70 C0 hw (fun w h => (List.mem_cons_of_mem _ (List.mem_append_right _ h))) (by decide) ((List.mem_cons_of_mem _ (List.mem_append_left _ (List.mem_append_left _ (List.mem_of_getElem? (i := 8) rfl))))) dX12_correct_143 ?_
                    refine lv_iload hx hb dX12_correct_146 (lv_at hl 0 rfl) ?_
                    refine lv_iconst (v := -1) hx hb dX12_correct_148 (by decide) ?_
                    refine M_iast hL C0 hw h (k := v51.toNatClampNeg) rfl dX12_correct_149 (fun t211 H locs hw h => ?_)
                    refine x_iinc hx hb h dX12_correct_150 hl (q := 0) rfl (fun v212 => [(7, .int v212), (0, .ref (E.2.2.1 0 (0))), (1, .int a1), (5, .int a5), (6, .int a6)]) (by decide) (fun _ => rfl) (fun v212 ls hl h => ?_)
                    refine lv_goto (tgt := 136) hx hb dX12_correct_153 (by decide) ?_
                    exact hB49 _ (Option.some.inj h).symm _ _ hw _ (lv_sub hl [0, 1, 2, 3, 4] rfl)
                · have h := ifn h hc35
                  refine lv_aload_n hx hb dX12_correct_82 rfl (lv_at hl 0 rfl) ?_
                  refine lv_iconst (v := 3) hx hb dX12_correct_83 (by decide) ?_
                  obtain ⟨⟨v286, t287⟩, hf288, h⟩ := bn_c h
                  have h := un2_d h
                  refine M_callV C0 hw (As := [.int (3 : Int32)]) (rest := []) (mX12_no l E hL t1 hf288) (cwV 1 C0.1.2.2.2.2 gX12_correct_X12_no rfl rfl rfl (by decide +kernel) ⟨Nat.le_of_ble_eq_true rfl, Nat.le_of_ble_eq_true rfl⟩) (M_recv_0 C0 hw (by decide)) rfl hl.1 rfl (Nat.le_of_ble_eq_true rfl) dX12_correct_84 ⟨Nat.zero_le _, Nat.zero_le _⟩ (fun H locs hw => ?_)
                  refine W.eq (g2 := F0 m 87 ls [.int v286]) rfl ?_
                  cases h
                  exact W.iret hx hb hr (M_fin C0 hw) hw.2.2.2 dX12_correct_87 hlocks
    · have h := ifp h hc10
      refine lv_aload_n hx hb dX12_correct_29 rfl (lv_at hl 0 rfl) ?_
      refine lv_iconst (v := 2) hx hb dX12_correct_30 (by decide) ?_
      obtain ⟨⟨v289, t290⟩, hf291, h⟩ := bn_c h
      have h := un2_d h
      refine M_callV C0 hw (As := [.int (2 : Int32)]) (rest := []) (mX12_no l E hL t1 hf291) (cwV 1 C0.1.2.2.2.2 gX12_correct_X12_no rfl rfl rfl (by decide +kernel) ⟨Nat.le_of_ble_eq_true rfl, Nat.le_of_ble_eq_true rfl⟩) (M_recv_0 C0 hw (by decide)) rfl hl.1 rfl (Nat.le_of_ble_eq_true rfl) dX12_correct_31 ⟨Nat.zero_le _, Nat.zero_le _⟩ (fun H locs hw => ?_)
      refine W.eq (g2 := F0 m 34 ls [.int v289]) rfl ?_
      cases h
      exact W.iret hx hb hr (M_fin C0 hw) hw.2.2.2 dX12_correct_34 hlocks
