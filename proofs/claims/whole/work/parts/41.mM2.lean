def fX12_dye (a1 : Int32) (st : Sto) : Option (Int32 × Sto) :=
  lt1 (sI st 0 (0) 10 (0 : Int32)) fun (t1 : Sto) =>
  (fX12_is a1 (gI t1 0 (0) 3)).bind (fun (v2 : Int32) =>
   if v2 = 0 then (
    (fX12_no (2 : Int32) t1).bind (un2 fun (v15 : Int32) (t16 : Sto) =>
     some (v15, t16))) else (
    if gI t1 0 (0) 4 = (12 : Int32) then (
     (fX12_no (1 : Int32) t1).bind (un2 fun (v12 : Int32) (t13 : Sto) =>
      some (v12, t13))) else (
     ck (0 ≤ (gI t1 0 (0) 4).toInt ∧ (gI t1 0 (0) 4).toInt < (lIM (12) (0) : Int)) (lt1 (sI t1 (12) (0) ((gI t1 0 (0) 4).toNatClampNeg) a1) fun (t6 : Sto) =>
      ck (0 ≤ (gI t6 0 (0) 4).toInt ∧ (gI t6 0 (0) 4).toInt < (lIM (13) (0) : Int)) (lt1 (sI t6 (13) (0) ((gI t6 0 (0) 4).toNatClampNeg) (0 : Int32)) fun (t7 : Sto) =>
       ck (0 ≤ (gI t7 0 (0) 4).toInt ∧ (gI t7 0 (0) 4).toInt < (lIM (15) (0) : Int)) (lt1 (sI t7 (15) (0) ((gI t7 0 (0) 4).toNatClampNeg) (0 : Int32)) fun (t8 : Sto) =>
        lt1 (sI t8 0 (0) 4 ((gI t8 0 (0) 4) + (1 : Int32))) fun (t9 : Sto) =>
        (fX12_act (2 : Int32) (0 : Int32) (0 : Int32) (0 : Int32) t9).bind (fun (t10 : Sto) =>
         some ((gI t10 0 (0) 4) - (1 : Int32), t10))))))))
set_option maxHeartbeats 4000000 in
set_option maxRecDepth 100000 in
theorem mX12_dye (l : Launch) (E : XE) (hL : LM E) (st : Sto) {a1 : Int32} {r : Int32} {st1 : Sto} (h : fX12_dye a1 st = some (r, st1)) : Met l yX12_dye wsX12_dye ({ frames := 1, cells := 0, slots := 0, locals := 25 }) (va_Pc [.ref (E.2.2.1 0 (0)), .int a1] (RM E st)) (QM E (some (.int r)) st1) 0 0 E.2.2.2 := by
  refine Met.ofW (cc := cX12_dye) (maxL := 2) (ret := (some .int)) (by decide) rfl ?_
  intro p e s m args below meth c s₁ B hml hv
  obtain ⟨rfl, hP, hK⟩ := hv
  have hown : s.vm.findClass RX12 = some m.cls := findClass_of_methodNamed B.named
  have C0 : CX p m c cX12_dye 2 s _ wsX12_dye RX12 E := ⟨⟨B.exec, B.bytes, hml, hown, atoms_spec (ws := wsX12_dye) B.pre⟩, hK⟩
  have hx := B.exec
  have hb := B.bytes
  have hr := B.returns
  have hlocks := B.notSynchronized
  have hw : SM E s st s.heap [] := ⟨hP, va_S.rf⟩
  have hl := lv_entry ([.ref (E.2.2.1 0 (0)), .int a1]) (n := 2) (Nat.le_of_ble_eq_true rfl)
  rw [lg_entry_eq]
  generalize (lg_sl ([.ref (E.2.2.1 0 (0)), .int a1]) ++ List.replicate (2 - (lg_sl ([.ref (E.2.2.1 0 (0)), .int a1])).length) Slot.unset).toArray = ls at hl ⊢
  have hl : lv_has ls 2 [(0, .ref (E.2.2.1 0 (0))), (1, .int a1)] := hl
  unfold fX12_dye at h
  refine lv_aload_n hx hb dX12_dye_0 rfl (lv_at hl 0 rfl) ?_
  refine lv_iconst (v := 0) hx hb dX12_dye_1 (by decide) ?_
  refine M_p0_10 hL C0 hw (fun w h => (List.mem_cons_of_mem _ (List.mem_append_right _ h))) (by decide) h ((List.mem_cons_of_mem _ (List.mem_append_left _ (List.mem_append_left _ (List.mem_of_getElem? (i := 0) rfl))))) dX12_dye_2 (fun t1 H locs hw h => ?_)
  refine lv_aload_n hx hb dX12_dye_5 rfl (lv_at hl 0 rfl) ?_
  refine lv_iload_n hx hb dX12_dye_6 rfl (lv_at hl 1 rfl) ?_
  refine lv_aload_n hx hb dX12_dye_7 rfl (lv_at hl 0 rfl) ?_
  refine M_g0_3 C0 hw (fun w h => (List.mem_cons_of_mem _ (List.mem_append_right _ h))) (by decide) ((List.mem_cons_of_mem _ (List.mem_append_left _ (List.mem_append_left _ (List.mem_of_getElem? (i := 1) rfl))))) dX12_dye_8 ?_
  obtain ⟨v2, hf3, h⟩ := bn_c h
  refine M_callV C0 hw (As := [.int a1, .int (gI t1 0 (0) 3)]) (rest := []) (mX12_is l E hL t1 hf3) (cwV 2 C0.1.2.2.2.2 gX12_dye_X12_is rfl rfl rfl (by decide +kernel) ⟨Nat.le_of_ble_eq_true rfl, Nat.le_of_ble_eq_true rfl⟩) (M_recv_0 C0 hw (by decide)) rfl hl.1 rfl (Nat.le_of_ble_eq_true rfl) dX12_dye_11 ⟨Nat.zero_le _, Nat.zero_le _⟩ (fun H locs hw => ?_)
  refine W.eq (g2 := F0 m 14 ls [.int v2]) rfl ?_
  refine lv_if_ne (tgt := 23) hx hb dX12_dye_14 (by decide) (fun hc4 => ?_) (fun hc4 => ?_)
  · have h := ifn h hc4
    refine lv_aload_n hx hb dX12_dye_23 rfl (lv_at hl 0 rfl) ?_
    refine M_g0_4 C0 hw (fun w h => (List.mem_cons_of_mem _ (List.mem_append_right _ h))) (by decide) ((List.mem_cons_of_mem _ (List.mem_append_left _ (List.mem_append_left _ (List.mem_of_getElem? (i := 2) rfl))))) dX12_dye_24 ?_
    refine lv_bipush (v := 12) hx hb dX12_dye_27 (by decide) ?_
    refine lv_icmp_ne (tgt := 38) hx hb dX12_dye_29 (by decide) (fun hc5 => ?_) (fun hc5 => ?_)
    · have h := ifn h hc5
      refine lv_aload_n hx hb dX12_dye_38 rfl (lv_at hl 0 rfl) ?_
      refine M_g0_11 C0 hw (fun w h => (List.mem_cons_of_mem _ (List.mem_append_right _ h))) (by decide) ((List.mem_cons_of_mem _ (List.mem_append_left _ (List.mem_append_left _ (List.mem_of_getElem? (i := 3) rfl))))) dX12_dye_39 ?_
      refine lv_aload_n hx hb dX12_dye_42 rfl (lv_at hl 0 rfl) ?_
      refine M_g0_4 C0 hw (fun w h => (List.mem_cons_of_mem _ (List.mem_append_right _ h))) (by decide) ((List.mem_cons_of_mem _ (List.mem_append_left _ (List.mem_append_left _ (List.mem_of_getElem? (i := 2) rfl))))) dX12_dye_43 ?_
      refine lv_iload_n hx hb dX12_dye_46 rfl (lv_at hl 1 rfl) ?_
      refine M_iast hL C0 hw h (k := (gI t1 0 (0) 4).toNatClampNeg) rfl dX12_dye_47 (fun t6 H locs hw h => ?_)
      refine lv_aload_n hx hb dX12_dye_48 rfl (lv_at hl 0 rfl) ?_
      refine M_g0_12 C0 hw (fun w h => (List.mem_cons_of_mem _ (List.mem_append_right _ h))) (by decide) ((List.mem_cons_of_mem _ (List.mem_append_left _ (List.mem_append_left _ (List.mem_of_getElem? (i := 4) rfl))))) dX12_dye_49 ?_
      refine lv_aload_n hx hb dX12_dye_52 rfl (lv_at hl 0 rfl) ?_
      refine M_g0_4 C0 hw (fun w h => (List.mem_cons_of_mem _ (List.mem_append_right _ h))) (by decide) ((List.mem_cons_of_mem _ (List.mem_append_left _ (List.mem_append_left _ (List.mem_of_getElem? (i := 2) rfl))))) dX12_dye_53 ?_
      refine lv_iconst (v := 0) hx hb dX12_dye_56 (by decide) ?_
      refine M_iast hL C0 hw h (k := (gI t6 0 (0) 4).toNatClampNeg) rfl dX12_dye_57 (fun t7 H locs hw h => ?_)
      refine lv_aload_n hx hb dX12_dye_58 rfl (lv_at hl 0 rfl) ?_
      refine M_g0_14 C0 hw (fun w h => (List.mem_cons_of_mem _ (List.mem_append_right _ h))) (by decide) ((List.mem_cons_of_mem _ (List.mem_append_left _ (List.mem_append_left _ (List.mem_of_getElem? (i := 5) rfl))))) dX12_dye_59 ?_
      refine lv_aload_n hx hb dX12_dye_62 rfl (lv_at hl 0 rfl) ?_
      refine M_g0_4 C0 hw (fun w h => (List.mem_cons_of_mem _ (List.mem_append_right _ h))) (by decide) ((List.mem_cons_of_mem _ (List.mem_append_left _ (List.mem_append_left _ (List.mem_of_getElem? (i := 2) rfl))))) dX12_dye_63 ?_
      refine lv_iconst (v := 0) hx hb dX12_dye_66 (by decide) ?_
      refine M_iast hL C0 hw h (k := (gI t7 0 (0) 4).toNatClampNeg) rfl dX12_dye_67 (fun t8 H locs hw h => ?_)
      refine lv_aload_n hx hb dX12_dye_68 rfl (lv_at hl 0 rfl) ?_
      refine lv_dup hx hb dX12_dye_69 rfl ?_
      refine M_g0_4 C0 hw (fun w h => (List.mem_cons_of_mem _ (List.mem_append_right _ h))) (by decide) ((List.mem_cons_of_mem _ (List.mem_append_left _ (List.mem_append_left _ (List.mem_of_getElem? (i := 2) rfl))))) dX12_dye_70 ?_
      refine lv_iconst (v := 1) hx hb dX12_dye_73 (by decide) ?_
      refine lv_iadd hx hb dX12_dye_74 ?_
      refine M_p0_4 hL C0 hw (fun w h => (List.mem_cons_of_mem _ (List.mem_append_right _ h))) (by decide) h ((List.mem_cons_of_mem _ (List.mem_append_left _ (List.mem_append_left _ (List.mem_of_getElem? (i := 2) rfl))))) dX12_dye_75 (fun t9 H locs hw h => ?_)
      refine lv_aload_n hx hb dX12_dye_78 rfl (lv_at hl 0 rfl) ?_
      refine lv_iconst (v := 2) hx hb dX12_dye_79 (by decide) ?_
      refine lv_iconst (v := 0) hx hb dX12_dye_80 (by decide) ?_
      refine lv_iconst (v := 0) hx hb dX12_dye_81 (by decide) ?_
      refine lv_iconst (v := 0) hx hb dX12_dye_82 (by decide) ?_
      obtain ⟨t10, hf11, h⟩ := bn_c h
      refine M_callV C0 hw (As := [.int (2 : Int32), .int (0 : Int32), .int (0 : Int32), .int (0 : Int32)]) (rest := []) (mX12_act l E hL t9 hf11) (cwV 4 C0.1.2.2.2.2 gX12_dye_X12_act rfl rfl rfl (by decide +kernel) ⟨Nat.le_of_ble_eq_true rfl, Nat.le_of_ble_eq_true rfl⟩) (M_recv_0 C0 hw (by decide)) rfl hl.1 rfl (Nat.le_of_ble_eq_true rfl) dX12_dye_83 ⟨Nat.zero_le _, Nat.zero_le _⟩ (fun H locs hw => ?_)
      refine W.eq (g2 := F0 m 86 ls []) rfl ?_
      refine lv_aload_n hx hb dX12_dye_86 rfl (lv_at hl 0 rfl) ?_
      refine M_g0_4 C0 hw (fun w h => (List.mem_cons_of_mem _ (List.mem_append_right _ h))) (by decide) ((List.mem_cons_of_mem _ (List.mem_append_left _ (List.mem_append_left _ (List.mem_of_getElem? (i := 2) rfl))))) dX12_dye_87 ?_
      refine lv_iconst (v := 1) hx hb dX12_dye_90 (by decide) ?_
      refine lv_isub hx hb dX12_dye_91 ?_
      cases h
      exact W.iret hx hb hr (M_fin C0 hw) hw.2.2.2 dX12_dye_92 hlocks
    · have h := ifp h hc5
      refine lv_aload_n hx hb dX12_dye_32 rfl (lv_at hl 0 rfl) ?_
      refine lv_iconst (v := 1) hx hb dX12_dye_33 (by decide) ?_
      obtain ⟨⟨v12, t13⟩, hf14, h⟩ := bn_c h
      have h := un2_d h
      refine M_callV C0 hw (As := [.int (1 : Int32)]) (rest := []) (mX12_no l E hL t1 hf14) (cwV 1 C0.1.2.2.2.2 gX12_dye_X12_no rfl rfl rfl (by decide +kernel) ⟨Nat.le_of_ble_eq_true rfl, Nat.le_of_ble_eq_true rfl⟩) (M_recv_0 C0 hw (by decide)) rfl hl.1 rfl (Nat.le_of_ble_eq_true rfl) dX12_dye_34 ⟨Nat.zero_le _, Nat.zero_le _⟩ (fun H locs hw => ?_)
      refine W.eq (g2 := F0 m 37 ls [.int v12]) rfl ?_
      cases h
      exact W.iret hx hb hr (M_fin C0 hw) hw.2.2.2 dX12_dye_37 hlocks
  · have h := ifp h hc4
    refine lv_aload_n hx hb dX12_dye_17 rfl (lv_at hl 0 rfl) ?_
    refine lv_iconst (v := 2) hx hb dX12_dye_18 (by decide) ?_
    obtain ⟨⟨v15, t16⟩, hf17, h⟩ := bn_c h
    have h := un2_d h
    refine M_callV C0 hw (As := [.int (2 : Int32)]) (rest := []) (mX12_no l E hL t1 hf17) (cwV 1 C0.1.2.2.2.2 gX12_dye_X12_no rfl rfl rfl (by decide +kernel) ⟨Nat.le_of_ble_eq_true rfl, Nat.le_of_ble_eq_true rfl⟩) (M_recv_0 C0 hw (by decide)) rfl hl.1 rfl (Nat.le_of_ble_eq_true rfl) dX12_dye_19 ⟨Nat.zero_le _, Nat.zero_le _⟩ (fun H locs hw => ?_)
    refine W.eq (g2 := F0 m 22 ls [.int v15]) rfl ?_
    cases h
    exact W.iret hx hb hr (M_fin C0 hw) hw.2.2.2 dX12_dye_22 hlocks

def fX12_strength (a1 : Int32) (a2 : Int32) (st : Sto) : Option (Int32 × Sto) :=
  lt1 (sI st 0 (0) 10 (0 : Int32)) fun (t1 : Sto) =>
  (fX12_is a1 (gI t1 0 (0) 4)).bind (fun (v2 : Int32) =>
   if v2 = 0 then (
    (fX12_no (2 : Int32) t1).bind (un2 fun (v32 : Int32) (t33 : Sto) =>
     some (v32, t33))) else (
    ck (0 ≤ a1.toInt ∧ a1.toInt < (lIM (13) (0) : Int)) (
     lt1 (gI t1 (13) (0) (a1.toNatClampNeg)) fun (v5 : Int32) =>
     if a2 < (1 : Int32) then (
      (fX12_no (3 : Int32) t1).bind (un2 fun (v7 : Int32) (t8 : Sto) =>
       some (v7, t8))) else (
      if (100000 : Int32) < a2 then (
       (fX12_no (3 : Int32) t1).bind (un2 fun (v11 : Int32) (t12 : Sto) =>
        some (v11, t12))) else (
       jn (fun (_u : Unit) =>
        if v5 = (6 : Int32) then (
         (fX12_no (1 : Int32) t1).bind (un2 fun (v24 : Int32) (t25 : Sto) =>
          some (v24, t25))) else (
         (fX12_copy (0 : Int32) (((62 : Int32) + ((6 : Int32) * a1)) + v5) t1).bind (fun (t18 : Sto) =>
          ck (0 ≤ (((6 : Int32) * a1) + v5).toInt ∧ (((6 : Int32) * a1) + v5).toInt < (lIM (14) (0) : Int)) (lt1 (sI t18 (14) (0) ((((6 : Int32) * a1) + v5).toNatClampNeg) a2) fun (t20 : Sto) =>
           ck (0 ≤ a1.toInt ∧ a1.toInt < (lIM (13) (0) : Int)) (
            ck (0 ≤ a1.toInt ∧ a1.toInt < (lIM (13) (0) : Int)) (lt1 (sI t20 (13) (0) (a1.toNatClampNeg) ((gI t20 (13) (0) (a1.toNatClampNeg)) + (1 : Int32))) fun (t21 : Sto) =>
             (fX12_act (3 : Int32) a1 (0 : Int32) (0 : Int32) t21).bind (fun (t22 : Sto) =>
              some (v5 + (1 : Int32), t22)))))))) fun K14 =>
       if v5 ≤ 0 then (
        K14 ()) else (
        ck (0 ≤ ((((6 : Int32) * a1) + v5) - (1 : Int32)).toInt ∧ ((((6 : Int32) * a1) + v5) - (1 : Int32)).toInt < (lIM (14) (0) : Int)) (
         if gI t1 (14) (0) (((((6 : Int32) * a1) + v5) - (1 : Int32)).toNatClampNeg) < a2 then (
          K14 ()) else (
          (fX12_no (3 : Int32) t1).bind (un2 fun (v29 : Int32) (t30 : Sto) =>
           some (v29, t30))))))))))
set_option maxHeartbeats 4000000 in
set_option maxRecDepth 100000 in
theorem mX12_strength (l : Launch) (E : XE) (hL : LM E) (st : Sto) {a1 : Int32} {a2 : Int32} {r : Int32} {st1 : Sto} (h : fX12_strength a1 a2 st = some (r, st1)) : Met l yX12_strength wsX12_strength ({ frames := 1, cells := 0, slots := 0, locals := 25 }) (va_Pc [.ref (E.2.2.1 0 (0)), .int a1, .int a2] (RM E st)) (QM E (some (.int r)) st1) 0 0 E.2.2.2 := by
  refine Met.ofW (cc := cX12_strength) (maxL := 4) (ret := (some .int)) (by decide) rfl ?_
  intro p e s m args below meth c s₁ B hml hv
  obtain ⟨rfl, hP, hK⟩ := hv
  have hown : s.vm.findClass RX12 = some m.cls := findClass_of_methodNamed B.named
  have C0 : CX p m c cX12_strength 4 s _ wsX12_strength RX12 E := ⟨⟨B.exec, B.bytes, hml, hown, atoms_spec (ws := wsX12_strength) B.pre⟩, hK⟩
  have hx := B.exec
  have hb := B.bytes
  have hr := B.returns
  have hlocks := B.notSynchronized
  have hw : SM E s st s.heap [] := ⟨hP, va_S.rf⟩
  have hl := lv_entry ([.ref (E.2.2.1 0 (0)), .int a1, .int a2]) (n := 4) (Nat.le_of_ble_eq_true rfl)
  rw [lg_entry_eq]
  generalize (lg_sl ([.ref (E.2.2.1 0 (0)), .int a1, .int a2]) ++ List.replicate (4 - (lg_sl ([.ref (E.2.2.1 0 (0)), .int a1, .int a2])).length) Slot.unset).toArray = ls at hl ⊢
  have hl : lv_has ls 4 [(0, .ref (E.2.2.1 0 (0))), (1, .int a1), (2, .int a2)] := hl
  unfold fX12_strength at h
  refine lv_aload_n hx hb dX12_strength_0 rfl (lv_at hl 0 rfl) ?_
  refine lv_iconst (v := 0) hx hb dX12_strength_1 (by decide) ?_
  refine M_p0_10 hL C0 hw (fun w h => (List.mem_cons_of_mem _ (List.mem_append_right _ h))) (by decide) h ((List.mem_cons_of_mem _ (List.mem_append_left _ (List.mem_append_left _ (List.mem_of_getElem? (i := 0) rfl))))) dX12_strength_2 (fun t1 H locs hw h => ?_)
  refine lv_aload_n hx hb dX12_strength_5 rfl (lv_at hl 0 rfl) ?_
  refine lv_iload_n hx hb dX12_strength_6 rfl (lv_at hl 1 rfl) ?_
  refine lv_aload_n hx hb dX12_strength_7 rfl (lv_at hl 0 rfl) ?_
  refine M_g0_4 C0 hw (fun w h => (List.mem_cons_of_mem _ (List.mem_append_right _ h))) (by decide) ((List.mem_cons_of_mem _ (List.mem_append_left _ (List.mem_append_left _ (List.mem_of_getElem? (i := 1) rfl))))) dX12_strength_8 ?_
  obtain ⟨v2, hf3, h⟩ := bn_c h
  refine M_callV C0 hw (As := [.int a1, .int (gI t1 0 (0) 4)]) (rest := []) (mX12_is l E hL t1 hf3) (cwV 2 C0.1.2.2.2.2 gX12_strength_X12_is rfl rfl rfl (by decide +kernel) ⟨Nat.le_of_ble_eq_true rfl, Nat.le_of_ble_eq_true rfl⟩) (M_recv_0 C0 hw (by decide)) rfl hl.1 rfl (Nat.le_of_ble_eq_true rfl) dX12_strength_11 ⟨Nat.zero_le _, Nat.zero_le _⟩ (fun H locs hw => ?_)
  refine W.eq (g2 := F0 m 14 ls [.int v2]) rfl ?_
  refine lv_if_ne (tgt := 23) hx hb dX12_strength_14 (by decide) (fun hc4 => ?_) (fun hc4 => ?_)
  · have h := ifn h hc4
    refine lv_aload_n hx hb dX12_strength_23 rfl (lv_at hl 0 rfl) ?_
    refine M_g0_12 C0 hw (fun w h => (List.mem_cons_of_mem _ (List.mem_append_right _ h))) (by decide) ((List.mem_cons_of_mem _ (List.mem_append_left _ (List.mem_append_left _ (List.mem_of_getElem? (i := 2) rfl))))) dX12_strength_24 ?_
    refine lv_iload_n hx hb dX12_strength_27 rfl (lv_at hl 1 rfl) ?_
    refine M_iald C0 hw h (k := a1.toNatClampNeg) rfl dX12_strength_28 (fun h => ?_)
    refine x_topi h (fun v5 h => ?_)
    refine lv_istore_n (lv' := [(3, .int v5), (0, .ref (E.2.2.1 0 (0))), (1, .int a1), (2, .int a2)]) hx hb dX12_strength_29 rfl hl (by decide) rfl (fun ls hl => ?_)
    refine lv_iload_n hx hb dX12_strength_30 rfl (lv_at hl 3 rfl) ?_
    refine lv_iconst (v := 1) hx hb dX12_strength_31 (by decide) ?_
    refine lv_icmp_lt (tgt := 62) hx hb dX12_strength_32 (by decide) (fun hc6 => ?_) (fun hc6 => ?_)
    · have h := ifp h hc6
      refine lv_aload_n hx hb dX12_strength_62 rfl (lv_at hl 1 rfl) ?_
      refine lv_iconst (v := 3) hx hb dX12_strength_63 (by decide) ?_
      obtain ⟨⟨v7, t8⟩, hf9, h⟩ := bn_c h
      have h := un2_d h
      refine M_callV C0 hw (As := [.int (3 : Int32)]) (rest := []) (mX12_no l E hL t1 hf9) (cwV 1 C0.1.2.2.2.2 gX12_strength_X12_no rfl rfl rfl (by decide +kernel) ⟨Nat.le_of_ble_eq_true rfl, Nat.le_of_ble_eq_true rfl⟩) (M_recv_0 C0 hw (by decide)) rfl hl.1 rfl (Nat.le_of_ble_eq_true rfl) dX12_strength_64 ⟨Nat.zero_le _, Nat.zero_le _⟩ (fun H locs hw => ?_)
      refine W.eq (g2 := F0 m 67 ls [.int v7]) rfl ?_
      cases h
      exact W.iret hx hb hr (M_fin C0 hw) hw.2.2.2 dX12_strength_67 hlocks
    · have h := ifn h hc6
      refine lv_iload_n hx hb dX12_strength_35 rfl (lv_at hl 3 rfl) ?_
      refine lv_ldc hx hb hown (C0.1.2.2.2.2 _ (List.mem_cons_of_mem _ (List.mem_append_left _ (List.mem_append_left _ (List.mem_of_getElem? (i := 3) rfl))))) dX12_strength_36 ?_
      refine lv_icmp_gt (tgt := 62) hx hb dX12_strength_38 (by decide) (fun hc10 => ?_) (fun hc10 => ?_)
      · have h := ifp h hc10
        refine lv_aload_n hx hb dX12_strength_62 rfl (lv_at hl 1 rfl) ?_
        refine lv_iconst (v := 3) hx hb dX12_strength_63 (by decide) ?_
        obtain ⟨⟨v11, t12⟩, hf13, h⟩ := bn_c h
        have h := un2_d h
        refine M_callV C0 hw (As := [.int (3 : Int32)]) (rest := []) (mX12_no l E hL t1 hf13) (cwV 1 C0.1.2.2.2.2 gX12_strength_X12_no rfl rfl rfl (by decide +kernel) ⟨Nat.le_of_ble_eq_true rfl, Nat.le_of_ble_eq_true rfl⟩) (M_recv_0 C0 hw (by decide)) rfl hl.1 rfl (Nat.le_of_ble_eq_true rfl) dX12_strength_64 ⟨Nat.zero_le _, Nat.zero_le _⟩ (fun H locs hw => ?_)
        refine W.eq (g2 := F0 m 67 ls [.int v11]) rfl ?_
        cases h
        exact W.iret hx hb hr (M_fin C0 hw) hw.2.2.2 dX12_strength_67 hlocks
      · have h := ifn h hc10
        refine lv_iload_n hx hb dX12_strength_41 rfl (lv_at hl 0 rfl) ?_
        refine jn_c h (fun K14 hK16 h => ?_)
        have HJ15 : ∀ (_u : Unit), K14 _u = some (r, st1) → ∀ (H : Heap) (locs : List Loc), SM E s t1 H locs → ∀ ls : Array Slot, lv_has ls 4 [(3, .int v5), (0, .ref (E.2.2.1 0 (0))), (1, .int a1), (2, .int a2)] → W p l e (headSpec wsX12_strength ({ frames := 1, cells := 0, slots := 0, locals := 25 })).room s m ([.ref (E.2.2.1 0 (0)), .int a1, .int a2] : List Value).toArray below meth c H locs 0 0 (MQ below (QM E (some (.int r)) st1) ([.ref (E.2.2.1 0 (0)), .int a1, .int a2] : List Value).toArray s 0 0 E.2.2.2) (F0 m 68 ls []) := by
          intro _u h H locs hw ls hl
          have h := kk1 h hK16
          refine lv_iload_n hx hb dX12_strength_68 rfl (lv_at hl 0 rfl) ?_
          refine lv_bipush (v := 6) hx hb dX12_strength_69 (by decide) ?_
          refine lv_icmp_ne (tgt := 80) hx hb dX12_strength_71 (by decide) (fun hc17 => ?_) (fun hc17 => ?_)
          · have h := ifn h hc17
            refine lv_aload_n hx hb dX12_strength_80 rfl (lv_at hl 1 rfl) ?_
            refine lv_iconst (v := 0) hx hb dX12_strength_81 (by decide) ?_
            refine lv_bipush (v := 62) hx hb dX12_strength_82 (by decide) ?_
            refine lv_bipush (v := 6) hx hb dX12_strength_84 (by decide) ?_
            refine lv_iload_n hx hb dX12_strength_86 rfl (lv_at hl 2 rfl) ?_
            refine lv_imul hx hb dX12_strength_87 ?_
            refine lv_iadd hx hb dX12_strength_88 ?_
            refine lv_iload_n hx hb dX12_strength_89 rfl (lv_at hl 0 rfl) ?_
            refine lv_iadd hx hb dX12_strength_90 ?_
            obtain ⟨t18, hf19, h⟩ := bn_c h
            refine M_callV C0 hw (As := [.int (0 : Int32), .int (((62 : Int32) + ((6 : Int32) * a1)) + v5)]) (rest := []) (mX12_copy l E hL t1 hf19) (cwV 2 C0.1.2.2.2.2 gX12_strength_X12_copy rfl rfl rfl (by decide +kernel) ⟨Nat.le_of_ble_eq_true rfl, Nat.le_of_ble_eq_true rfl⟩) (M_recv_0 C0 hw (by decide)) rfl hl.1 rfl (Nat.le_of_ble_eq_true rfl) dX12_strength_91 ⟨Nat.zero_le _, Nat.zero_le _⟩ (fun H locs hw => ?_)
            refine W.eq (g2 := F0 m 94 ls []) rfl ?_
            refine lv_aload_n hx hb dX12_strength_94 rfl (lv_at hl 1 rfl) ?_
            refine M_g0_13 C0 hw (fun w h => (List.mem_cons_of_mem _ (List.mem_append_right _ h))) (by decide) ((List.mem_cons_of_mem _ (List.mem_append_left _ (List.mem_append_left _ (List.mem_of_getElem? (i := 4) rfl))))) dX12_strength_95 ?_
            refine lv_bipush (v := 6) hx hb dX12_strength_98 (by decide) ?_
            refine lv_iload_n hx hb dX12_strength_100 rfl (lv_at hl 2 rfl) ?_
            refine lv_imul hx hb dX12_strength_101 ?_
            refine lv_iload_n hx hb dX12_strength_102 rfl (lv_at hl 0 rfl) ?_
            refine lv_iadd hx hb dX12_strength_103 ?_
            refine lv_iload_n hx hb dX12_strength_104 rfl (lv_at hl 3 rfl) ?_
            refine M_iast hL C0 hw h (k := (((6 : Int32) * a1) + v5).toNatClampNeg) rfl dX12_strength_105 (fun t20 H locs hw h => ?_)
            refine lv_aload_n hx hb dX12_strength_106 rfl (lv_at hl 1 rfl) ?_
            refine M_g0_12 C0 hw (fun w h => (List.mem_cons_of_mem _ (List.mem_append_right _ h))) (by decide) ((List.mem_cons_of_mem _ (List.mem_append_left _ (List.mem_append_left _ (List.mem_of_getElem? (i := 2) rfl))))) dX12_strength_107 ?_
            refine lv_iload_n hx hb dX12_strength_110 rfl (lv_at hl 2 rfl) ?_
            refine lv_dup2_11 hx hb dX12_strength_111 rfl rfl ?_
            refine M_iald C0 hw h (k := a1.toNatClampNeg) rfl dX12_strength_112 (fun h => ?_)
            refine lv_iconst (v := 1) hx hb dX12_strength_113 (by decide) ?_
            refine lv_iadd hx hb dX12_strength_114 ?_
            refine M_iast hL C0 hw h (k := a1.toNatClampNeg) rfl dX12_strength_115 (fun t21 H locs hw h => ?_)
            refine lv_aload_n hx hb dX12_strength_116 rfl (lv_at hl 1 rfl) ?_
            refine lv_iconst (v := 3) hx hb dX12_strength_117 (by decide) ?_
            refine lv_iload_n hx hb dX12_strength_118 rfl (lv_at hl 2 rfl) ?_
            refine lv_iconst (v := 0) hx hb dX12_strength_119 (by decide) ?_
            refine lv_iconst (v := 0) hx hb dX12_strength_120 (by decide) ?_
            obtain ⟨t22, hf23, h⟩ := bn_c h
            refine M_callV C0 hw (As := [.int (3 : Int32), .int a1, .int (0 : Int32), .int (0 : Int32)]) (rest := []) (mX12_act l E hL t21 hf23) (cwV 4 C0.1.2.2.2.2 gX12_strength_X12_act rfl rfl rfl (by decide +kernel) ⟨Nat.le_of_ble_eq_true rfl, Nat.le_of_ble_eq_true rfl⟩) (M_recv_0 C0 hw (by decide)) rfl hl.1 rfl (Nat.le_of_ble_eq_true rfl) dX12_strength_121 ⟨Nat.zero_le _, Nat.zero_le _⟩ (fun H locs hw => ?_)
            refine W.eq (g2 := F0 m 124 ls []) rfl ?_
            refine lv_iload_n hx hb dX12_strength_124 rfl (lv_at hl 0 rfl) ?_
            refine lv_iconst (v := 1) hx hb dX12_strength_125 (by decide) ?_
            refine lv_iadd hx hb dX12_strength_126 ?_
            cases h
            exact W.iret hx hb hr (M_fin C0 hw) hw.2.2.2 dX12_strength_127 hlocks
          · have h := ifp h hc17
            refine lv_aload_n hx hb dX12_strength_74 rfl (lv_at hl 1 rfl) ?_
            refine lv_iconst (v := 1) hx hb dX12_strength_75 (by decide) ?_
            obtain ⟨⟨v24, t25⟩, hf26, h⟩ := bn_c h
            have h := un2_d h
            refine M_callV C0 hw (As := [.int (1 : Int32)]) (rest := []) (mX12_no l E hL t1 hf26) (cwV 1 C0.1.2.2.2.2 gX12_strength_X12_no rfl rfl rfl (by decide +kernel) ⟨Nat.le_of_ble_eq_true rfl, Nat.le_of_ble_eq_true rfl⟩) (M_recv_0 C0 hw (by decide)) rfl hl.1 rfl (Nat.le_of_ble_eq_true rfl) dX12_strength_76 ⟨Nat.zero_le _, Nat.zero_le _⟩ (fun H locs hw => ?_)
            refine W.eq (g2 := F0 m 79 ls [.int v24]) rfl ?_
            cases h
            exact W.iret hx hb hr (M_fin C0 hw) hw.2.2.2 dX12_strength_79 hlocks
        refine lv_if_le (tgt := 68) hx hb dX12_strength_42 (by decide) (fun hc27 => ?_) (fun hc27 => ?_)
        · have h := ifp h hc27
          exact HJ15 _ h _ _ hw _ (lv_sub hl [0, 1, 2, 3] rfl)
        · have h := ifn h hc27
          refine lv_iload_n hx hb dX12_strength_45 rfl (lv_at hl 3 rfl) ?_
          refine lv_aload_n hx hb dX12_strength_46 rfl (lv_at hl 1 rfl) ?_
          refine M_g0_13 C0 hw (fun w h => (List.mem_cons_of_mem _ (List.mem_append_right _ h))) (by decide) ((List.mem_cons_of_mem _ (List.mem_append_left _ (List.mem_append_left _ (List.mem_of_getElem? (i := 4) rfl))))) dX12_strength_47 ?_
          refine lv_bipush (v := 6) hx hb dX12_strength_50 (by decide) ?_
          refine lv_iload_n hx hb dX12_strength_52 rfl (lv_at hl 2 rfl) ?_
          refine lv_imul hx hb dX12_strength_53 ?_
          refine lv_iload_n hx hb dX12_strength_54 rfl (lv_at hl 0 rfl) ?_
          refine lv_iadd hx hb dX12_strength_55 ?_
          refine lv_iconst (v := 1) hx hb dX12_strength_56 (by decide) ?_
          refine lv_isub hx hb dX12_strength_57 ?_
          refine M_iald C0 hw h (k := ((((6 : Int32) * a1) + v5) - (1 : Int32)).toNatClampNeg) rfl dX12_strength_58 (fun h => ?_)
          refine lv_icmp_gt (tgt := 68) hx hb dX12_strength_59 (by decide) (fun hc28 => ?_) (fun hc28 => ?_)
          · have h := ifp h hc28
            exact HJ15 _ h _ _ hw _ (lv_sub hl [0, 1, 2, 3] rfl)
          · have h := ifn h hc28
            refine lv_aload_n hx hb dX12_strength_62 rfl (lv_at hl 1 rfl) ?_
            refine lv_iconst (v := 3) hx hb dX12_strength_63 (by decide) ?_
            obtain ⟨⟨v29, t30⟩, hf31, h⟩ := bn_c h
            have h := un2_d h
            refine M_callV C0 hw (As := [.int (3 : Int32)]) (rest := []) (mX12_no l E hL t1 hf31) (cwV 1 C0.1.2.2.2.2 gX12_strength_X12_no rfl rfl rfl (by decide +kernel) ⟨Nat.le_of_ble_eq_true rfl, Nat.le_of_ble_eq_true rfl⟩) (M_recv_0 C0 hw (by decide)) rfl hl.1 rfl (Nat.le_of_ble_eq_true rfl) dX12_strength_64 ⟨Nat.zero_le _, Nat.zero_le _⟩ (fun H locs hw => ?_)
            refine W.eq (g2 := F0 m 67 ls [.int v29]) rfl ?_
            cases h
            exact W.iret hx hb hr (M_fin C0 hw) hw.2.2.2 dX12_strength_67 hlocks
  · have h := ifp h hc4
    refine lv_aload_n hx hb dX12_strength_17 rfl (lv_at hl 0 rfl) ?_
    refine lv_iconst (v := 2) hx hb dX12_strength_18 (by decide) ?_
    obtain ⟨⟨v32, t33⟩, hf34, h⟩ := bn_c h
    have h := un2_d h
    refine M_callV C0 hw (As := [.int (2 : Int32)]) (rest := []) (mX12_no l E hL t1 hf34) (cwV 1 C0.1.2.2.2.2 gX12_strength_X12_no rfl rfl rfl (by decide +kernel) ⟨Nat.le_of_ble_eq_true rfl, Nat.le_of_ble_eq_true rfl⟩) (M_recv_0 C0 hw (by decide)) rfl hl.1 rfl (Nat.le_of_ble_eq_true rfl) dX12_strength_19 ⟨Nat.zero_le _, Nat.zero_le _⟩ (fun H locs hw => ?_)
    refine W.eq (g2 := F0 m 22 ls [.int v32]) rfl ?_
    cases h
    exact W.iret hx hb hr (M_fin C0 hw) hw.2.2.2 dX12_strength_22 hlocks

def fX12_cents (a1 : Int32) (a2 : Int32) (st : Sto) : Option (Int32 × Sto) :=
  lt1 (sI st 0 (0) 10 (0 : Int32)) fun (t1 : Sto) =>
  (fX12_is a1 (gI t1 0 (0) 4)).bind (fun (v2 : Int32) =>
   if v2 = 0 then (
    (fX12_not (2 : Int32) t1).bind (un2 fun (v16 : Int32) (t17 : Sto) =>
     ck (v16 &&& 1 = v16) (
      some (v16, t17)))) else (
    if a2 < 0 then (
     (fX12_not (3 : Int32) t1).bind (un2 fun (v6 : Int32) (t7 : Sto) =>
      ck (v6 &&& 1 = v6) (
       some (v6, t7)))) else (
     if a2 ≤ (100000 : Int32) then (
      ck (0 ≤ a1.toInt ∧ a1.toInt < (lIM (15) (0) : Int)) (
       (fX12_act (4 : Int32) a1 (gI t1 (15) (0) (a1.toNatClampNeg)) (0 : Int32) t1).bind (fun (t10 : Sto) =>
        ck (0 ≤ a1.toInt ∧ a1.toInt < (lIM (15) (0) : Int)) (lt1 (sI t10 (15) (0) (a1.toNatClampNeg) a2) fun (t12 : Sto) =>
         some ((1 : Int32), t12))))) else (
      (fX12_not (3 : Int32) t1).bind (un2 fun (v13 : Int32) (t14 : Sto) =>
       ck (v13 &&& 1 = v13) (
        some (v13, t14)))))))
set_option maxHeartbeats 4000000 in
set_option maxRecDepth 100000 in
theorem mX12_cents (l : Launch) (E : XE) (hL : LM E) (st : Sto) {a1 : Int32} {a2 : Int32} {r : Int32} {st1 : Sto} (h : fX12_cents a1 a2 st = some (r, st1)) : Met l yX12_cents wsX12_cents ({ frames := 1, cells := 0, slots := 0, locals := 25 }) (va_Pc [.ref (E.2.2.1 0 (0)), .int a1, .int a2] (RM E st)) (QM E (some (.int r)) st1) 0 0 E.2.2.2 := by
  refine Met.ofW (cc := cX12_cents) (maxL := 3) (ret := (some .boolean)) (by decide) rfl ?_
  intro p e s m args below meth c s₁ B hml hv
  obtain ⟨rfl, hP, hK⟩ := hv
  have hown : s.vm.findClass RX12 = some m.cls := findClass_of_methodNamed B.named
  have C0 : CX p m c cX12_cents 3 s _ wsX12_cents RX12 E := ⟨⟨B.exec, B.bytes, hml, hown, atoms_spec (ws := wsX12_cents) B.pre⟩, hK⟩
  have hx := B.exec
  have hb := B.bytes
  have hr := B.returns
  have hlocks := B.notSynchronized
  have hw : SM E s st s.heap [] := ⟨hP, va_S.rf⟩
  have hl := lv_entry ([.ref (E.2.2.1 0 (0)), .int a1, .int a2]) (n := 3) (Nat.le_of_ble_eq_true rfl)
  rw [lg_entry_eq]
  generalize (lg_sl ([.ref (E.2.2.1 0 (0)), .int a1, .int a2]) ++ List.replicate (3 - (lg_sl ([.ref (E.2.2.1 0 (0)), .int a1, .int a2])).length) Slot.unset).toArray = ls at hl ⊢
  have hl : lv_has ls 3 [(0, .ref (E.2.2.1 0 (0))), (1, .int a1), (2, .int a2)] := hl
  unfold fX12_cents at h
  refine lv_aload_n hx hb dX12_cents_0 rfl (lv_at hl 0 rfl) ?_
  refine lv_iconst (v := 0) hx hb dX12_cents_1 (by decide) ?_
  refine M_p0_10 hL C0 hw (fun w h => (List.mem_cons_of_mem _ (List.mem_append_right _ h))) (by decide) h ((List.mem_cons_of_mem _ (List.mem_append_left _ (List.mem_append_left _ (List.mem_of_getElem? (i := 0) rfl))))) dX12_cents_2 (fun t1 H locs hw h => ?_)
  refine lv_aload_n hx hb dX12_cents_5 rfl (lv_at hl 0 rfl) ?_
  refine lv_iload_n hx hb dX12_cents_6 rfl (lv_at hl 1 rfl) ?_
  refine lv_aload_n hx hb dX12_cents_7 rfl (lv_at hl 0 rfl) ?_
  refine M_g0_4 C0 hw (fun w h => (List.mem_cons_of_mem _ (List.mem_append_right _ h))) (by decide) ((List.mem_cons_of_mem _ (List.mem_append_left _ (List.mem_append_left _ (List.mem_of_getElem? (i := 1) rfl))))) dX12_cents_8 ?_
  obtain ⟨v2, hf3, h⟩ := bn_c h
  refine M_callV C0 hw (As := [.int a1, .int (gI t1 0 (0) 4)]) (rest := []) (mX12_is l E hL t1 hf3) (cwV 2 C0.1.2.2.2.2 gX12_cents_X12_is rfl rfl rfl (by decide +kernel) ⟨Nat.le_of_ble_eq_true rfl, Nat.le_of_ble_eq_true rfl⟩) (M_recv_0 C0 hw (by decide)) rfl hl.1 rfl (Nat.le_of_ble_eq_true rfl) dX12_cents_11 ⟨Nat.zero_le _, Nat.zero_le _⟩ (fun H locs hw => ?_)
  refine W.eq (g2 := F0 m 14 ls [.int v2]) rfl ?_
  refine lv_if_ne (tgt := 23) hx hb dX12_cents_14 (by decide) (fun hc4 => ?_) (fun hc4 => ?_)
  · have h := ifn h hc4
    refine lv_iload_n hx hb dX12_cents_23 rfl (lv_at hl 2 rfl) ?_
    refine lv_if_lt (tgt := 33) hx hb dX12_cents_24 (by decide) (fun hc5 => ?_) (fun hc5 => ?_)
    · have h := ifp h hc5
      refine lv_aload_n hx hb dX12_cents_33 rfl (lv_at hl 0 rfl) ?_
      refine lv_iconst (v := 3) hx hb dX12_cents_34 (by decide) ?_
      obtain ⟨⟨v6, t7⟩, hf8, h⟩ := bn_c h
      have h := un2_d h
      refine M_callV C0 hw (As := [.int (3 : Int32)]) (rest := []) (mX12_not l E hL t1 hf8) (cwV 1 C0.1.2.2.2.2 gX12_cents_X12_not rfl rfl rfl (by decide +kernel) ⟨Nat.le_of_ble_eq_true rfl, Nat.le_of_ble_eq_true rfl⟩) (M_recv_0 C0 hw (by decide)) rfl hl.1 rfl (Nat.le_of_ble_eq_true rfl) dX12_cents_35 ⟨Nat.zero_le _, Nat.zero_le _⟩ (fun H locs hw => ?_)
      refine W.eq (g2 := F0 m 38 ls [.int v6]) rfl ?_
      obtain ⟨hz, h⟩ := ck_c h
      cases h
      exact W.zret hx hb hr (zz hz) (M_fin C0 hw) hw.2.2.2 dX12_cents_38 hlocks
    · have h := ifn h hc5
      refine lv_iload_n hx hb dX12_cents_27 rfl (lv_at hl 2 rfl) ?_
      refine lv_ldc hx hb hown (C0.1.2.2.2.2 _ (List.mem_cons_of_mem _ (List.mem_append_left _ (List.mem_append_left _ (List.mem_of_getElem? (i := 2) rfl))))) dX12_cents_28 ?_
      refine lv_icmp_le (tgt := 39) hx hb dX12_cents_30 (by decide) (fun hc9 => ?_) (fun hc9 => ?_)
      · have h := ifp h hc9
        refine lv_aload_n hx hb dX12_cents_39 rfl (lv_at hl 0 rfl) ?_
        refine lv_iconst (v := 4) hx hb dX12_cents_40 (by decide) ?_
        refine lv_iload_n hx hb dX12_cents_41 rfl (lv_at hl 1 rfl) ?_
        refine lv_aload_n hx hb dX12_cents_42 rfl (lv_at hl 0 rfl) ?_
        refine M_g0_14 C0 hw (fun w h => (List.mem_cons_of_mem _ (List.mem_append_right _ h))) (by decide) ((List.mem_cons_of_mem _ (List.mem_append_left _ (List.mem_append_left _ (List.mem_of_getElem? (i := 3) rfl))))) dX12_cents_43 ?_
        refine lv_iload_n hx hb dX12_cents_46 rfl (lv_at hl 1 rfl) ?_
        refine M_iald C0 hw h (k := a1.toNatClampNeg) rfl dX12_cents_47 (fun h => ?_)
        refine lv_iconst (v := 0) hx hb dX12_cents_48 (by decide) ?_
        obtain ⟨t10, hf11, h⟩ := bn_c h
        refine M_callV C0 hw (As := [.int (4 : Int32), .int a1, .int (gI t1 (15) (0) (a1.toNatClampNeg)), .int (0 : Int32)]) (rest := []) (mX12_act l E hL t1 hf11) (cwV 4 C0.1.2.2.2.2 gX12_cents_X12_act rfl rfl rfl (by decide +kernel) ⟨Nat.le_of_ble_eq_true rfl, Nat.le_of_ble_eq_true rfl⟩) (M_recv_0 C0 hw (by decide)) rfl hl.1 rfl (Nat.le_of_ble_eq_true rfl) dX12_cents_49 ⟨Nat.zero_le _, Nat.zero_le _⟩ (fun H locs hw => ?_)
        refine W.eq (g2 := F0 m 52 ls []) rfl ?_
        refine lv_aload_n hx hb dX12_cents_52 rfl (lv_at hl 0 rfl) ?_
        refine M_g0_14 C0 hw (fun w h => (List.mem_cons_of_mem _ (List.mem_append_right _ h))) (by decide) ((List.mem_cons_of_mem _ (List.mem_append_left _ (List.mem_append_left _ (List.mem_of_getElem? (i := 3) rfl))))) dX12_cents_53 ?_
        refine lv_iload_n hx hb dX12_cents_56 rfl (lv_at hl 1 rfl) ?_
        refine lv_iload_n hx hb dX12_cents_57 rfl (lv_at hl 2 rfl) ?_
        refine M_iast hL C0 hw h (k := a1.toNatClampNeg) rfl dX12_cents_58 (fun t12 H locs hw h => ?_)
        refine lv_iconst (v := 1) hx hb dX12_cents_59 (by decide) ?_
        cases h
        exact W.zret hx hb hr rfl (M_fin C0 hw) hw.2.2.2 dX12_cents_60 hlocks
      · have h := ifn h hc9
        refine lv_aload_n hx hb dX12_cents_33 rfl (lv_at hl 0 rfl) ?_
        refine lv_iconst (v := 3) hx hb dX12_cents_34 (by decide) ?_
        obtain ⟨⟨v13, t14⟩, hf15, h⟩ := bn_c h
        have h := un2_d h
        refine M_callV C0 hw (As := [.int (3 : Int32)]) (rest := []) (mX12_not l E hL t1 hf15) (cwV 1 C0.1.2.2.2.2 gX12_cents_X12_not rfl rfl rfl (by decide +kernel) ⟨Nat.le_of_ble_eq_true rfl, Nat.le_of_ble_eq_true rfl⟩) (M_recv_0 C0 hw (by decide)) rfl hl.1 rfl (Nat.le_of_ble_eq_true rfl) dX12_cents_35 ⟨Nat.zero_le _, Nat.zero_le _⟩ (fun H locs hw => ?_)
        refine W.eq (g2 := F0 m 38 ls [.int v13]) rfl ?_
        obtain ⟨hz, h⟩ := ck_c h
        cases h
        exact W.zret hx hb hr (zz hz) (M_fin C0 hw) hw.2.2.2 dX12_cents_38 hlocks
  · have h := ifp h hc4
    refine lv_aload_n hx hb dX12_cents_17 rfl (lv_at hl 0 rfl) ?_
    refine lv_iconst (v := 2) hx hb dX12_cents_18 (by decide) ?_
    obtain ⟨⟨v16, t17⟩, hf18, h⟩ := bn_c h
    have h := un2_d h
    refine M_callV C0 hw (As := [.int (2 : Int32)]) (rest := []) (mX12_not l E hL t1 hf18) (cwV 1 C0.1.2.2.2.2 gX12_cents_X12_not rfl rfl rfl (by decide +kernel) ⟨Nat.le_of_ble_eq_true rfl, Nat.le_of_ble_eq_true rfl⟩) (M_recv_0 C0 hw (by decide)) rfl hl.1 rfl (Nat.le_of_ble_eq_true rfl) dX12_cents_19 ⟨Nat.zero_le _, Nat.zero_le _⟩ (fun H locs hw => ?_)
    refine W.eq (g2 := F0 m 22 ls [.int v16]) rfl ?_
    obtain ⟨hz, h⟩ := ck_c h
    cases h
    exact W.zret hx hb hr (zz hz) (M_fin C0 hw) hw.2.2.2 dX12_cents_22 hlocks

def fX12_placeOf (a1 : Int32) (a2 : Int32) (st : Sto) : Option Int32 :=
  if a1 = 0 then (
   some (0 : Int32)) else if a1 = 1 then (
   (fX12_is a2 (gI st 0 (0) 2)).bind (fun (v1 : Int32) =>
    if v1 = 0 then (
     some (-1 : Int32)) else (
     some ((1 : Int32) + a2)))) else if a1 = 2 then (
   (fX12_is a2 (gI st 0 (0) 3)).bind (fun (v4 : Int32) =>
    if v4 = 0 then (
     some (-1 : Int32)) else (
     some ((41 : Int32) + a2)))) else if a1 = 3 then (
   if gI st 0 (0) 32 = 0 then (
    some (-1 : Int32)) else (
    some (49 : Int32))) else if a1 = 4 then (
   some (-1 : Int32)) else if a1 = 5 then (
   (fX12_is a2 (gI st 0 (0) 7)).bind (fun (v8 : Int32) =>
    if v8 = 0 then (
     some (-1 : Int32)) else (
     ck (0 ≤ a2.toInt ∧ a2.toInt < (lZM (26) (0) : Int)) (
      if gI st (26) (0) (a2.toNatClampNeg) = 0 then (
       some (-1 : Int32)) else (
       some ((50 : Int32) + a2)))))) else (
   some (-1 : Int32))
set_option maxHeartbeats 4000000 in
set_option maxRecDepth 100000 in
theorem mX12_placeOf (l : Launch) (E : XE) (hL : LM E) (st : Sto) {a1 : Int32} {a2 : Int32} {r : Int32} (h : fX12_placeOf a1 a2 st = some r) : Met l yX12_placeOf wsX12_placeOf ({ frames := 1, cells := 0, slots := 0, locals := 22 }) (va_Pc [.ref (E.2.2.1 0 (0)), .int a1, .int a2] (RM E st)) (QM E (some (.int r)) st) 0 0 E.2.2.2 := by
  refine Met.ofW (cc := cX12_placeOf) (maxL := 3) (ret := (some .int)) (by decide) rfl ?_
  intro p e s m args below meth c s₁ B hml hv
  obtain ⟨rfl, hP, hK⟩ := hv
  have hown : s.vm.findClass RX12 = some m.cls := findClass_of_methodNamed B.named
  have C0 : CX p m c cX12_placeOf 3 s _ wsX12_placeOf RX12 E := ⟨⟨B.exec, B.bytes, hml, hown, atoms_spec (ws := wsX12_placeOf) B.pre⟩, hK⟩
  have hx := B.exec
  have hb := B.bytes
  have hr := B.returns
  have hlocks := B.notSynchronized
  have hw : SM E s st s.heap [] := ⟨hP, va_S.rf⟩
  have hl := lv_entry ([.ref (E.2.2.1 0 (0)), .int a1, .int a2]) (n := 3) (Nat.le_of_ble_eq_true rfl)
  rw [lg_entry_eq]
  generalize (lg_sl ([.ref (E.2.2.1 0 (0)), .int a1, .int a2]) ++ List.replicate (3 - (lg_sl ([.ref (E.2.2.1 0 (0)), .int a1, .int a2])).length) Slot.unset).toArray = ls at hl ⊢
  have hl : lv_has ls 3 [(0, .ref (E.2.2.1 0 (0))), (1, .int a1), (2, .int a2)] := hl
  unfold fX12_placeOf at h
  refine lv_iload_n hx hb dX12_placeOf_0 rfl (lv_at hl 1 rfl) ?_
  by_cases hc0 : a1 = 0
  · have h := ifp h hc0
    refine lv_tableIn (tgt := 40) hx hb dX12_placeOf_1 (by rw [hc0]; decide) (by rw [hc0]; decide) (by rw [hc0]; rfl) (by decide) ?_
    refine lv_iconst (v := 0) hx hb dX12_placeOf_40 (by decide) ?_
    cases h
    exact W.iret hx hb hr (M_fin C0 hw) hw.2.2.2 dX12_placeOf_41 hlocks
  have h := ifn h hc0
  by_cases hc1 : a1 = 1
  · have h := ifp h hc1
    refine lv_tableIn (tgt := 42) hx hb dX12_placeOf_1 (by rw [hc1]; decide) (by rw [hc1]; decide) (by rw [hc1]; rfl) (by decide) ?_
    refine lv_aload_n hx hb dX12_placeOf_42 rfl (lv_at hl 0 rfl) ?_
    refine lv_iload_n hx hb dX12_placeOf_43 rfl (lv_at hl 2 rfl) ?_
    refine lv_aload_n hx hb dX12_placeOf_44 rfl (lv_at hl 0 rfl) ?_
    refine M_g0_2 C0 hw (fun w h => (List.mem_cons_of_mem _ (List.mem_append_right _ h))) (by decide) ((List.mem_cons_of_mem _ (List.mem_append_left _ (List.mem_of_getElem? (i := 0) rfl)))) dX12_placeOf_45 ?_
    obtain ⟨v1, hf2, h⟩ := bn_c h
    refine M_callV C0 hw (As := [.int a2, .int (gI st 0 (0) 2)]) (rest := []) (mX12_is l E hL st hf2) (cwV 2 C0.1.2.2.2.2 gX12_placeOf_X12_is rfl rfl rfl (by decide +kernel) ⟨Nat.le_of_ble_eq_true rfl, Nat.le_of_ble_eq_true rfl⟩) (M_recv_0 C0 hw (by decide)) rfl hl.1 rfl (Nat.le_of_ble_eq_true rfl) dX12_placeOf_48 ⟨Nat.zero_le _, Nat.zero_le _⟩ (fun H locs hw => ?_)
    refine W.eq (g2 := F0 m 51 ls [.int v1]) rfl ?_
    refine lv_if_eq (tgt := 60) hx hb dX12_placeOf_51 (by decide) (fun hc3 => ?_) (fun hc3 => ?_)
    · have h := ifp h hc3
      refine lv_iconst (v := -1) hx hb dX12_placeOf_60 (by decide) ?_
      cases h
      exact W.iret hx hb hr (M_fin C0 hw) hw.2.2.2 dX12_placeOf_61 hlocks
    · have h := ifn h hc3
      refine lv_iconst (v := 1) hx hb dX12_placeOf_54 (by decide) ?_
      refine lv_iload_n hx hb dX12_placeOf_55 rfl (lv_at hl 2 rfl) ?_
      refine lv_iadd hx hb dX12_placeOf_56 ?_
      refine lv_goto (tgt := 61) hx hb dX12_placeOf_57 (by decide) ?_
      cases h
      exact W.iret hx hb hr (M_fin C0 hw) hw.2.2.2 dX12_placeOf_61 hlocks
  have h := ifn h hc1
  by_cases hc2 : a1 = 2
  · have h := ifp h hc2
    refine lv_tableIn (tgt := 62) hx hb dX12_placeOf_1 (by rw [hc2]; decide) (by rw [hc2]; decide) (by rw [hc2]; rfl) (by decide) ?_
    refine lv_aload_n hx hb dX12_placeOf_62 rfl (lv_at hl 0 rfl) ?_
    refine lv_iload_n hx hb dX12_placeOf_63 rfl (lv_at hl 2 rfl) ?_
    refine lv_aload_n hx hb dX12_placeOf_64 rfl (lv_at hl 0 rfl) ?_
    refine M_g0_3 C0 hw (fun w h => (List.mem_cons_of_mem _ (List.mem_append_right _ h))) (by decide) ((List.mem_cons_of_mem _ (List.mem_append_left _ (List.mem_of_getElem? (i := 1) rfl)))) dX12_placeOf_65 ?_
    obtain ⟨v4, hf5, h⟩ := bn_c h
    refine M_callV C0 hw (As := [.int a2, .int (gI st 0 (0) 3)]) (rest := []) (mX12_is l E hL st hf5) (cwV 2 C0.1.2.2.2.2 gX12_placeOf_X12_is rfl rfl rfl (by decide +kernel) ⟨Nat.le_of_ble_eq_true rfl, Nat.le_of_ble_eq_true rfl⟩) (M_recv_0 C0 hw (by decide)) rfl hl.1 rfl (Nat.le_of_ble_eq_true rfl) dX12_placeOf_68 ⟨Nat.zero_le _, Nat.zero_le _⟩ (fun H locs hw => ?_)
    refine W.eq (g2 := F0 m 71 ls [.int v4]) rfl ?_
    refine lv_if_eq (tgt := 81) hx hb dX12_placeOf_71 (by decide) (fun hc6 => ?_) (fun hc6 => ?_)
    · have h := ifp h hc6
      refine lv_iconst (v := -1) hx hb dX12_placeOf_81 (by decide) ?_
      cases h
      exact W.iret hx hb hr (M_fin C0 hw) hw.2.2.2 dX12_placeOf_82 hlocks
    · have h := ifn h hc6
      refine lv_bipush (v := 41) hx hb dX12_placeOf_74 (by decide) ?_
      refine lv_iload_n hx hb dX12_placeOf_76 rfl (lv_at hl 2 rfl) ?_
      refine lv_iadd hx hb dX12_placeOf_77 ?_
      refine lv_goto (tgt := 82) hx hb dX12_placeOf_78 (by decide) ?_
      cases h
      exact W.iret hx hb hr (M_fin C0 hw) hw.2.2.2 dX12_placeOf_82 hlocks
  have h := ifn h hc2
  by_cases hc3 : a1 = 3
  · have h := ifp h hc3
    refine lv_tableIn (tgt := 83) hx hb dX12_placeOf_1 (by rw [hc3]; decide) (by rw [hc3]; decide) (by rw [hc3]; rfl) (by decide) ?_
    refine lv_aload_n hx hb dX12_placeOf_83 rfl (lv_at hl 0 rfl) ?_
    refine M_g0_32 C0 hw (fun w h => (List.mem_cons_of_mem _ (List.mem_append_right _ h))) (by decide) ((List.mem_cons_of_mem _ (List.mem_append_left _ (List.mem_of_getElem? (i := 2) rfl)))) dX12_placeOf_84 ?_
    refine lv_if_eq (tgt := 95) hx hb dX12_placeOf_87 (by decide) (fun hc7 => ?_) (fun hc7 => ?_)
    · have h := ifp h hc7
      refine lv_iconst (v := -1) hx hb dX12_placeOf_95 (by decide) ?_
      cases h
      exact W.iret hx hb hr (M_fin C0 hw) hw.2.2.2 dX12_placeOf_96 hlocks
    · have h := ifn h hc7
      refine lv_bipush (v := 49) hx hb dX12_placeOf_90 (by decide) ?_
      refine lv_goto (tgt := 96) hx hb dX12_placeOf_92 (by decide) ?_
      cases h
      exact W.iret hx hb hr (M_fin C0 hw) hw.2.2.2 dX12_placeOf_96 hlocks
  have h := ifn h hc3
  by_cases hc4 : a1 = 4
  · have h := ifp h hc4
    refine lv_tableIn (tgt := 127) hx hb dX12_placeOf_1 (by rw [hc4]; decide) (by rw [hc4]; decide) (by rw [hc4]; rfl) (by decide) ?_
    refine lv_iconst (v := -1) hx hb dX12_placeOf_127 (by decide) ?_
    cases h
    exact W.iret hx hb hr (M_fin C0 hw) hw.2.2.2 dX12_placeOf_128 hlocks
  have h := ifn h hc4
  by_cases hc5 : a1 = 5
  · have h := ifp h hc5
    refine lv_tableIn (tgt := 97) hx hb dX12_placeOf_1 (by rw [hc5]; decide) (by rw [hc5]; decide) (by rw [hc5]; rfl) (by decide) ?_
    refine lv_aload_n hx hb dX12_placeOf_97 rfl (lv_at hl 0 rfl) ?_
    refine lv_iload_n hx hb dX12_placeOf_98 rfl (lv_at hl 2 rfl) ?_
    refine lv_aload_n hx hb dX12_placeOf_99 rfl (lv_at hl 0 rfl) ?_
    refine M_g0_7 C0 hw (fun w h => (List.mem_cons_of_mem _ (List.mem_append_right _ h))) (by decide) ((List.mem_cons_of_mem _ (List.mem_append_left _ (List.mem_of_getElem? (i := 3) rfl)))) dX12_placeOf_100 ?_
    obtain ⟨v8, hf9, h⟩ := bn_c h
    refine M_callV C0 hw (As := [.int a2, .int (gI st 0 (0) 7)]) (rest := []) (mX12_is l E hL st hf9) (cwV 2 C0.1.2.2.2.2 gX12_placeOf_X12_is rfl rfl rfl (by decide +kernel) ⟨Nat.le_of_ble_eq_true rfl, Nat.le_of_ble_eq_true rfl⟩) (M_recv_0 C0 hw (by decide)) rfl hl.1 rfl (Nat.le_of_ble_eq_true rfl) dX12_placeOf_103 ⟨Nat.zero_le _, Nat.zero_le _⟩ (fun H locs hw => ?_)
    refine W.eq (g2 := F0 m 106 ls [.int v8]) rfl ?_
    refine lv_if_eq (tgt := 125) hx hb dX12_placeOf_106 (by decide) (fun hc10 => ?_) (fun hc10 => ?_)
    · have h := ifp h hc10
      refine lv_iconst (v := -1) hx hb dX12_placeOf_125 (by decide) ?_
      cases h
      exact W.iret hx hb hr (M_fin C0 hw) hw.2.2.2 dX12_placeOf_126 hlocks
    · have h := ifn h hc10
      refine lv_aload_n hx hb dX12_placeOf_109 rfl (lv_at hl 0 rfl) ?_
      refine M_g0_25 C0 hw (fun w h => (List.mem_cons_of_mem _ (List.mem_append_right _ h))) (by decide) ((List.mem_cons_of_mem _ (List.mem_append_left _ (List.mem_of_getElem? (i := 4) rfl)))) dX12_placeOf_110 ?_
      refine lv_iload_n hx hb dX12_placeOf_113 rfl (lv_at hl 2 rfl) ?_
      refine M_zald C0 hw h (k := a2.toNatClampNeg) rfl dX12_placeOf_114 (fun h => ?_)
      refine lv_if_eq (tgt := 125) hx hb dX12_placeOf_115 (by decide) (fun hc11 => ?_) (fun hc11 => ?_)
      · have h := ifp h hc11
        refine lv_iconst (v := -1) hx hb dX12_placeOf_125 (by decide) ?_
        cases h
        exact W.iret hx hb hr (M_fin C0 hw) hw.2.2.2 dX12_placeOf_126 hlocks
      · have h := ifn h hc11
        refine lv_bipush (v := 50) hx hb dX12_placeOf_118 (by decide) ?_
        refine lv_iload_n hx hb dX12_placeOf_120 rfl (lv_at hl 2 rfl) ?_
        refine lv_iadd hx hb dX12_placeOf_121 ?_
        refine lv_goto (tgt := 126) hx hb dX12_placeOf_122 (by decide) ?_
        cases h
        exact W.iret hx hb hr (M_fin C0 hw) hw.2.2.2 dX12_placeOf_126 hlocks
  have h := ifn h hc5
  refine lv_tableOut (tgt := 127) hx hb dX12_placeOf_1 (by have := sw_ne (n := 0) hc0 (by decide); have := sw_ne (n := 1) hc1 (by decide); have := sw_ne (n := 2) hc2 (by decide); have := sw_ne (n := 3) hc3 (by decide); have := sw_ne (n := 4) hc4 (by decide); have := sw_ne (n := 5) hc5 (by decide); omega) (by decide) ?_
  refine lv_iconst (v := -1) hx hb dX12_placeOf_127 (by decide) ?_
  cases h
  exact W.iret hx hb hr (M_fin C0 hw) hw.2.2.2 dX12_placeOf_128 hlocks

def fmJxf58ca_isNaN_12338 (a1 : UInt32) : Option Int32 :=
  if Op.cmpValue (FP.fcmp a1 a1) CmpOp.l = 0 then (
   some (0 : Int32)) else (
   some (1 : Int32))
set_option maxHeartbeats 4000000 in
set_option maxRecDepth 100000 in
theorem mmJxf58ca_isNaN_12338 (l : Launch) (E : XE) (hL : LM E) (st : Sto) {a1 : UInt32} {r : Int32} (h : fmJxf58ca_isNaN_12338 a1 = some r) : Met l yJxf58ca_isNaN_12338 wsJxf58ca_isNaN_12338 ({ frames := 0, cells := 0, slots := 0, locals := 0 }) (va_Pc [.float a1] (RM E st)) (QM E (some (.int r)) st) 0 0 E.2.2.2 := by
  refine va_MetF (cc := cJxf58ca_isNaN_12338) (maxL := 1) (ret := (some .boolean)) (by decide +kernel) rfl ?_
  intro p e s m args below meth c s₁ B hml hv
  obtain ⟨rfl, hP, hK⟩ := hv
  have hown : s.vm.findClass RJxf58ca = some m.cls := findClass_of_methodNamed B.named
  have C0 : CX p m c cJxf58ca_isNaN_12338 1 s _ wsJxf58ca_isNaN_12338 RJxf58ca E := ⟨⟨B.exec, B.bytes, hml, hown, atoms_spec (ws := wsJxf58ca_isNaN_12338) B.pre⟩, hK⟩
  have hx := B.exec
  have hb := B.bytes
  have hr := B.returns
  have hlocks := B.notSynchronized
  have hw : SM E s st s.heap [] := ⟨hP, va_S.rf⟩
  have hl := lv_entry ([.float a1]) (n := 1) (Nat.le_of_ble_eq_true rfl)
  rw [lg_entry_eq]
  generalize (lg_sl ([.float a1]) ++ List.replicate (1 - (lg_sl ([.float a1])).length) Slot.unset).toArray = ls at hl ⊢
  have hl : lv_has ls 1 [(0, .float a1)] := hl
  unfold fmJxf58ca_isNaN_12338 at h
  refine lv_fload_n hx hb dJxf58ca_isNaN_12338_0 rfl (lv_at hl 0 rfl) ?_
  refine lv_fload_n hx hb dJxf58ca_isNaN_12338_1 rfl (lv_at hl 0 rfl) ?_
  refine lv_fcmp hx hb dJxf58ca_isNaN_12338_2 ?_
  refine lv_if_eq (tgt := 10) hx hb dJxf58ca_isNaN_12338_3 (by decide) (fun hc1 => ?_) (fun hc1 => ?_)
  · have h := ifp h hc1
    refine lv_iconst (v := 0) hx hb dJxf58ca_isNaN_12338_10 (by decide) ?_
    cases h
    exact W.zret hx hb hr rfl (M_fin C0 hw) hw.2.2.2 dJxf58ca_isNaN_12338_11 hlocks
  · have h := ifn h hc1
    refine lv_iconst (v := 1) hx hb dJxf58ca_isNaN_12338_6 (by decide) ?_
    refine lv_goto (tgt := 11) hx hb dJxf58ca_isNaN_12338_7 (by decide) ?_
    cases h
    exact W.zret hx hb hr rfl (M_fin C0 hw) hw.2.2.2 dJxf58ca_isNaN_12338_11 hlocks

def fmJxf58ca_floatToIntBits_5c35a (a1 : UInt32) : Option Int32 :=
  (fmJxf58ca_isNaN_12338 a1).bind (fun (v1 : Int32) =>
   if v1 = 0 then (
    some (a1.toInt32)) else (
    some (2143289344 : Int32)))
set_option maxHeartbeats 4000000 in
set_option maxRecDepth 100000 in
theorem mmJxf58ca_floatToIntBits_5c35a (l : Launch) (E : XE) (hL : LM E) (st : Sto) {a1 : UInt32} {r : Int32} (h : fmJxf58ca_floatToIntBits_5c35a a1 = some r) : Met l yJxf58ca_floatToIntBits_5c35a wsJxf58ca_floatToIntBits_5c35a ({ frames := 1, cells := 0, slots := 0, locals := 23 }) (va_Pc [.float a1] (RM E st)) (QM E (some (.int r)) st) 0 0 E.2.2.2 := by
  refine va_MetF (cc := cJxf58ca_floatToIntBits_5c35a) (maxL := 1) (ret := (some .int)) (by decide +kernel) rfl ?_
  intro p e s m args below meth c s₁ B hml hv
  obtain ⟨rfl, hP, hK⟩ := hv
  have hown : s.vm.findClass RJxf58ca = some m.cls := findClass_of_methodNamed B.named
  have C0 : CX p m c cJxf58ca_floatToIntBits_5c35a 1 s _ wsJxf58ca_floatToIntBits_5c35a RJxf58ca E := ⟨⟨B.exec, B.bytes, hml, hown, atoms_spec (ws := wsJxf58ca_floatToIntBits_5c35a) B.pre⟩, hK⟩
  have hx := B.exec
  have hb := B.bytes
  have hr := B.returns
  have hlocks := B.notSynchronized
  have hw : SM E s st s.heap [] := ⟨hP, va_S.rf⟩
  have hl := lv_entry ([.float a1]) (n := 1) (Nat.le_of_ble_eq_true rfl)
  rw [lg_entry_eq]
  generalize (lg_sl ([.float a1]) ++ List.replicate (1 - (lg_sl ([.float a1])).length) Slot.unset).toArray = ls at hl ⊢
  have hl : lv_has ls 1 [(0, .float a1)] := hl
  unfold fmJxf58ca_floatToIntBits_5c35a at h
  refine lv_fload_n hx hb dJxf58ca_floatToIntBits_5c35a_0 rfl (lv_at hl 0 rfl) ?_
  obtain ⟨v1, hf2, h⟩ := bn_c h
  refine M_callS C0 hw (As := [.float a1]) (rest := []) (mmJxf58ca_isNaN_12338 l E hL st hf2) (va_cwS 1 C0.1.2.2.2.2 gJxf58ca_floatToIntBits_5c35a_Jxf58ca_isNaN_12338 rfl rfl rfl (by decide +kernel) ⟨Nat.le_of_ble_eq_true rfl, Nat.le_of_ble_eq_true rfl⟩) rfl hl.1 rfl (Nat.le_of_ble_eq_true rfl) dJxf58ca_floatToIntBits_5c35a_1 ⟨Nat.zero_le _, Nat.zero_le _⟩ (fun H locs hw => ?_)
  refine W.eq (g2 := F0 m 4 ls [.int v1]) rfl ?_
  refine lv_if_ne (tgt := 12) hx hb dJxf58ca_floatToIntBits_5c35a_4 (by decide) (fun hc3 => ?_) (fun hc3 => ?_)
  · have h := ifn h hc3
    refine lv_ldc hx hb hown (C0.1.2.2.2.2 _ (List.mem_cons_of_mem _ (List.mem_of_getElem? (i := 4) rfl))) dJxf58ca_floatToIntBits_5c35a_12 ?_
    cases h
    exact W.iret hx hb hr (M_fin C0 hw) hw.2.2.2 dJxf58ca_floatToIntBits_5c35a_14 hlocks
  · have h := ifp h hc3
    refine lv_fload_n hx hb dJxf58ca_floatToIntBits_5c35a_7 rfl (lv_at hl 0 rfl) ?_
    refine vn_f2i hx hb (hml.trans hl.1.symm) hown (C0.1.2.2.2.2 _ (List.mem_cons_of_mem _ (List.mem_of_getElem? (i := 0) rfl))) (C0.1.2.2.2.2 _ (List.mem_cons_of_mem _ (List.mem_of_getElem? (i := 1) rfl))) (C0.1.2.2.2.2 _ (List.mem_cons_of_mem _ (List.mem_of_getElem? (i := 2) rfl))) (C0.1.2.2.2.2 _ (List.mem_cons_of_mem _ (List.mem_of_getElem? (i := 3) rfl))) (Nat.le_of_ble_eq_true rfl) (Nat.le_of_ble_eq_true rfl) dJxf58ca_floatToIntBits_5c35a_8 ?_
    cases h
    exact W.iret hx hb hr (M_fin C0 hw) hw.2.2.2 dJxf58ca_floatToIntBits_5c35a_11 hlocks

def fX12_band (a1 : Int32) (a2 : Int32) (a3 : Int32) (st : Sto) : Option (Int32 × Sto) :=
  lt1 (sI st 0 (0) 10 (0 : Int32)) fun (t1 : Sto) =>
  (fX12_is a3 (16 : Int32)).bind (fun (v2 : Int32) =>
   if v2 = 0 then (
    some ((0 : Int32), t1)) else (
    if a1 = (4 : Int32) then (
     (fX12_is a2 (gI t1 0 (0) 2)).bind (fun (v11 : Int32) =>
      if v11 = 0 then (
       some ((0 : Int32), t1)) else (
       ck (0 ≤ (((16 : Int32) * a2) + a3).toInt ∧ (((16 : Int32) * a2) + a3).toInt < (lFM (2) (0) : Int)) (
        (fmJxf58ca_floatToIntBits_5c35a (gF t1 (2) (0) ((((16 : Int32) * a2) + a3).toNatClampNeg))).bind (fun (v14 : Int32) =>
         some (v14, t1)))))) else (
     (fX12_placeOf a1 a2 t1).bind (fun (v6 : Int32) =>
      if v6 = (-1 : Int32) then (
       some ((0 : Int32), t1)) else (
       ck (0 ≤ (((16 : Int32) * v6) + a3).toInt ∧ (((16 : Int32) * v6) + a3).toInt < (lFM (1) (0) : Int)) (
        (fmJxf58ca_floatToIntBits_5c35a (gF t1 (1) (0) ((((16 : Int32) * v6) + a3).toNatClampNeg))).bind (fun (v9 : Int32) =>
         some (v9, t1))))))))
set_option maxHeartbeats 4000000 in
set_option maxRecDepth 100000 in
theorem mX12_band (l : Launch) (E : XE) (hL : LM E) (st : Sto) {a1 : Int32} {a2 : Int32} {a3 : Int32} {r : Int32} {st1 : Sto} (h : fX12_band a1 a2 a3 st = some (r, st1)) : Met l yX12_band wsX12_band ({ frames := 2, cells := 0, slots := 0, locals := 44 }) (va_Pc [.ref (E.2.2.1 0 (0)), .int a1, .int a2, .int a3] (RM E st)) (QM E (some (.int r)) st1) 0 0 E.2.2.2 := by
  refine Met.ofW (cc := cX12_band) (maxL := 5) (ret := (some .int)) (by decide) rfl ?_
  intro p e s m args below meth c s₁ B hml hv
  obtain ⟨rfl, hP, hK⟩ := hv
  have hown : s.vm.findClass RX12 = some m.cls := findClass_of_methodNamed B.named
  have C0 : CX p m c cX12_band 5 s _ wsX12_band RX12 E := ⟨⟨B.exec, B.bytes, hml, hown, atoms_spec (ws := wsX12_band) B.pre⟩, hK⟩
  have hx := B.exec
  have hb := B.bytes
  have hr := B.returns
  have hlocks := B.notSynchronized
  have hw : SM E s st s.heap [] := ⟨hP, va_S.rf⟩
  have hl := lv_entry ([.ref (E.2.2.1 0 (0)), .int a1, .int a2, .int a3]) (n := 5) (Nat.le_of_ble_eq_true rfl)
  rw [lg_entry_eq]
  generalize (lg_sl ([.ref (E.2.2.1 0 (0)), .int a1, .int a2, .int a3]) ++ List.replicate (5 - (lg_sl ([.ref (E.2.2.1 0 (0)), .int a1, .int a2, .int a3])).length) Slot.unset).toArray = ls at hl ⊢
  have hl : lv_has ls 5 [(0, .ref (E.2.2.1 0 (0))), (1, .int a1), (2, .int a2), (3, .int a3)] := hl
  unfold fX12_band at h
  refine lv_aload_n hx hb dX12_band_0 rfl (lv_at hl 0 rfl) ?_
  refine lv_iconst (v := 0) hx hb dX12_band_1 (by decide) ?_
  refine M_p0_10 hL C0 hw (fun w h => (List.mem_cons_of_mem _ (List.mem_append_right _ h))) (by decide) h ((List.mem_cons_of_mem _ (List.mem_append_left _ (List.mem_append_left _ (List.mem_of_getElem? (i := 0) rfl))))) dX12_band_2 (fun t1 H locs hw h => ?_)
  refine lv_aload_n hx hb dX12_band_5 rfl (lv_at hl 0 rfl) ?_
  refine lv_iload_n hx hb dX12_band_6 rfl (lv_at hl 3 rfl) ?_
  refine lv_bipush (v := 16) hx hb dX12_band_7 (by decide) ?_
  obtain ⟨v2, hf3, h⟩ := bn_c h
  refine M_callV C0 hw (As := [.int a3, .int (16 : Int32)]) (rest := []) (mX12_is l E hL t1 hf3) (cwV 2 C0.1.2.2.2.2 gX12_band_X12_is rfl rfl rfl (by decide +kernel) ⟨Nat.le_of_ble_eq_true rfl, Nat.le_of_ble_eq_true rfl⟩) (M_recv_0 C0 hw (by decide)) rfl hl.1 rfl (Nat.le_of_ble_eq_true rfl) dX12_band_9 ⟨Nat.zero_le _, Nat.zero_le _⟩ (fun H locs hw => ?_)
  refine W.eq (g2 := F0 m 12 ls [.int v2]) rfl ?_
  refine lv_if_ne (tgt := 17) hx hb dX12_band_12 (by decide) (fun hc4 => ?_) (fun hc4 => ?_)
  · have h := ifn h hc4
    refine lv_iload_n hx hb dX12_band_17 rfl (lv_at hl 1 rfl) ?_
    refine lv_iconst (v := 4) hx hb dX12_band_18 (by decide) ?_
    refine lv_icmp_ne (tgt := 53) hx hb dX12_band_19 (by decide) (fun hc5 => ?_) (fun hc5 => ?_)
    · have h := ifn h hc5
      refine lv_aload_n hx hb dX12_band_53 rfl (lv_at hl 0 rfl) ?_
      refine lv_iload_n hx hb dX12_band_54 rfl (lv_at hl 1 rfl) ?_
      refine lv_iload_n hx hb dX12_band_55 rfl (lv_at hl 2 rfl) ?_
      obtain ⟨v6, hf7, h⟩ := bn_c h
      refine M_callV C0 hw (As := [.int a1, .int a2]) (rest := []) (mX12_placeOf l E hL t1 hf7) (cwV 2 C0.1.2.2.2.2 gX12_band_X12_placeOf rfl rfl rfl (by decide +kernel) ⟨Nat.le_of_ble_eq_true rfl, Nat.le_of_ble_eq_true rfl⟩) (M_recv_0 C0 hw (by decide)) rfl hl.1 rfl (Nat.le_of_ble_eq_true rfl) dX12_band_56 ⟨Nat.zero_le _, Nat.zero_le _⟩ (fun H locs hw => ?_)
      refine W.eq (g2 := F0 m 59 ls [.int v6]) rfl ?_
      refine lv_istore (lv' := [(4, .int v6), (0, .ref (E.2.2.1 0 (0))), (1, .int a1), (2, .int a2), (3, .int a3)]) hx hb dX12_band_59 hl (by decide) rfl (fun ls hl => ?_)
      refine lv_iload hx hb dX12_band_61 (lv_at hl 0 rfl) ?_
      refine lv_iconst (v := -1) hx hb dX12_band_63 (by decide) ?_
      refine lv_icmp_ne (tgt := 71) hx hb dX12_band_64 (by decide) (fun hc8 => ?_) (fun hc8 => ?_)
      · have h := ifn h hc8
        refine lv_aload_n hx hb dX12_band_71 rfl (lv_at hl 1 rfl) ?_
        refine M_g0_0 C0 hw (fun w h => (List.mem_cons_of_mem _ (List.mem_append_right _ h))) (by decide) ((List.mem_cons_of_mem _ (List.mem_append_left _ (List.mem_append_left _ (List.mem_of_getElem? (i := 3) rfl))))) dX12_band_72 ?_
        refine lv_bipush (v := 16) hx hb dX12_band_75 (by decide) ?_
        refine lv_iload hx hb dX12_band_77 (lv_at hl 0 rfl) ?_
        refine lv_imul hx hb dX12_band_79 ?_
        refine lv_iload_n hx hb dX12_band_80 rfl (lv_at hl 4 rfl) ?_
        refine lv_iadd hx hb dX12_band_81 ?_
        refine M_fald C0 hw h (k := (((16 : Int32) * v6) + a3).toNatClampNeg) rfl dX12_band_82 (fun h => ?_)
        obtain ⟨v9, hf10, h⟩ := bn_c h
        refine M_callS C0 hw (As := [.float (gF t1 (1) (0) ((((16 : Int32) * v6) + a3).toNatClampNeg))]) (rest := []) (mmJxf58ca_floatToIntBits_5c35a l E hL t1 hf10) (va_cwS 1 C0.1.2.2.2.2 gX12_band_Jxf58ca_floatToIntBits_5c35a rfl rfl rfl (by decide +kernel) ⟨Nat.le_of_ble_eq_true rfl, Nat.le_of_ble_eq_true rfl⟩) rfl hl.1 rfl (Nat.le_of_ble_eq_true rfl) dX12_band_83 ⟨Nat.zero_le _, Nat.zero_le _⟩ (fun H locs hw => ?_)
        refine W.eq (g2 := F0 m 86 ls [.int v9]) rfl ?_
        cases h
        exact W.iret hx hb hr (M_fin C0 hw) hw.2.2.2 dX12_band_86 hlocks
      · have h := ifp h hc8
        refine lv_iconst (v := 0) hx hb dX12_band_67 (by decide) ?_
        refine lv_goto (tgt := 86) hx hb dX12_band_68 (by decide) ?_
        cases h
        exact W.iret hx hb hr (M_fin C0 hw) hw.2.2.2 dX12_band_86 hlocks
    · have h := ifp h hc5
      refine lv_aload_n hx hb dX12_band_22 rfl (lv_at hl 0 rfl) ?_
      refine lv_iload_n hx hb dX12_band_23 rfl (lv_at hl 2 rfl) ?_
      refine lv_aload_n hx hb dX12_band_24 rfl (lv_at hl 0 rfl) ?_
      refine M_g0_2 C0 hw (fun w h => (List.mem_cons_of_mem _ (List.mem_append_right _ h))) (by decide) ((List.mem_cons_of_mem _ (List.mem_append_left _ (List.mem_append_left _ (List.mem_of_getElem? (i := 1) rfl))))) dX12_band_25 ?_
      obtain ⟨v11, hf12, h⟩ := bn_c h
      refine M_callV C0 hw (As := [.int a2, .int (gI t1 0 (0) 2)]) (rest := []) (mX12_is l E hL t1 hf12) (cwV 2 C0.1.2.2.2.2 gX12_band_X12_is rfl rfl rfl (by decide +kernel) ⟨Nat.le_of_ble_eq_true rfl, Nat.le_of_ble_eq_true rfl⟩) (M_recv_0 C0 hw (by decide)) rfl hl.1 rfl (Nat.le_of_ble_eq_true rfl) dX12_band_28 ⟨Nat.zero_le _, Nat.zero_le _⟩ (fun H locs hw => ?_)
      refine W.eq (g2 := F0 m 31 ls [.int v11]) rfl ?_
      refine lv_if_eq (tgt := 51) hx hb dX12_band_31 (by decide) (fun hc13 => ?_) (fun hc13 => ?_)
      · have h := ifp h hc13
        refine lv_iconst (v := 0) hx hb dX12_band_51 (by decide) ?_
        cases h
        exact W.iret hx hb hr (M_fin C0 hw) hw.2.2.2 dX12_band_52 hlocks
      · have h := ifn h hc13
        refine lv_aload_n hx hb dX12_band_34 rfl (lv_at hl 0 rfl) ?_
        refine M_g0_1 C0 hw (fun w h => (List.mem_cons_of_mem _ (List.mem_append_right _ h))) (by decide) ((List.mem_cons_of_mem _ (List.mem_append_left _ (List.mem_append_left _ (List.mem_of_getElem? (i := 2) rfl))))) dX12_band_35 ?_
        refine lv_bipush (v := 16) hx hb dX12_band_38 (by decide) ?_
        refine lv_iload_n hx hb dX12_band_40 rfl (lv_at hl 2 rfl) ?_
        refine lv_imul hx hb dX12_band_41 ?_
        refine lv_iload_n hx hb dX12_band_42 rfl (lv_at hl 3 rfl) ?_
        refine lv_iadd hx hb dX12_band_43 ?_
        refine M_fald C0 hw h (k := (((16 : Int32) * a2) + a3).toNatClampNeg) rfl dX12_band_44 (fun h => ?_)
        obtain ⟨v14, hf15, h⟩ := bn_c h
        refine M_callS C0 hw (As := [.float (gF t1 (2) (0) ((((16 : Int32) * a2) + a3).toNatClampNeg))]) (rest := []) (mmJxf58ca_floatToIntBits_5c35a l E hL t1 hf15) (va_cwS 1 C0.1.2.2.2.2 gX12_band_Jxf58ca_floatToIntBits_5c35a rfl rfl rfl (by decide +kernel) ⟨Nat.le_of_ble_eq_true rfl, Nat.le_of_ble_eq_true rfl⟩) rfl hl.1 rfl (Nat.le_of_ble_eq_true rfl) dX12_band_45 ⟨Nat.zero_le _, Nat.zero_le _⟩ (fun H locs hw => ?_)
        refine W.eq (g2 := F0 m 48 ls [.int v14]) rfl ?_
        refine lv_goto (tgt := 52) hx hb dX12_band_48 (by decide) ?_
        cases h
        exact W.iret hx hb hr (M_fin C0 hw) hw.2.2.2 dX12_band_52 hlocks
  · have h := ifp h hc4
    refine lv_iconst (v := 0) hx hb dX12_band_15 (by decide) ?_
    cases h
    exact W.iret hx hb hr (M_fin C0 hw) hw.2.2.2 dX12_band_16 hlocks

def fX12_pick (a1 : Int32) (a2 : Int32) (st : Sto) : Option (Int32 × Sto) :=
  lt1 (sI st 0 (0) 10 (0 : Int32)) fun (t1 : Sto) =>
  jn (fun (v5 : Int32) =>
   if v5 = (-1 : Int32) then (
    (fX12_not (2 : Int32) t1).bind (un2 fun (v10 : Int32) (t11 : Sto) =>
     ck (v10 &&& 1 = v10) (
      some (v10, t11)))) else (
    (fX12_copy v5 (0 : Int32) t1).bind (fun (t7 : Sto) =>
     lt1 (sI t7 0 (0) 9 (0 : Int32)) fun (t9 : Sto) =>
     some ((1 : Int32), t9)))) fun K2 =>
  if a1 = 0 then (
   K2 (-1 : Int32)) else (
   (fX12_placeOf a1 a2 t1).bind (fun (v14 : Int32) =>
    K2 v14))
set_option maxHeartbeats 4000000 in
set_option maxRecDepth 100000 in
theorem mX12_pick (l : Launch) (E : XE) (hL : LM E) (st : Sto) {a1 : Int32} {a2 : Int32} {r : Int32} {st1 : Sto} (h : fX12_pick a1 a2 st = some (r, st1)) : Met l yX12_pick wsX12_pick ({ frames := 2, cells := 0, slots := 0, locals := 44 }) (va_Pc [.ref (E.2.2.1 0 (0)), .int a1, .int a2] (RM E st)) (QM E (some (.int r)) st1) 0 0 E.2.2.2 := by
  refine Met.ofW (cc := cX12_pick) (maxL := 4) (ret := (some .boolean)) (by decide) rfl ?_
  intro p e s m args below meth c s₁ B hml hv
  obtain ⟨rfl, hP, hK⟩ := hv
  have hown : s.vm.findClass RX12 = some m.cls := findClass_of_methodNamed B.named
  have C0 : CX p m c cX12_pick 4 s _ wsX12_pick RX12 E := ⟨⟨B.exec, B.bytes, hml, hown, atoms_spec (ws := wsX12_pick) B.pre⟩, hK⟩
  have hx := B.exec
  have hb := B.bytes
  have hr := B.returns
  have hlocks := B.notSynchronized
  have hw : SM E s st s.heap [] := ⟨hP, va_S.rf⟩
  have hl := lv_entry ([.ref (E.2.2.1 0 (0)), .int a1, .int a2]) (n := 4) (Nat.le_of_ble_eq_true rfl)
  rw [lg_entry_eq]
  generalize (lg_sl ([.ref (E.2.2.1 0 (0)), .int a1, .int a2]) ++ List.replicate (4 - (lg_sl ([.ref (E.2.2.1 0 (0)), .int a1, .int a2])).length) Slot.unset).toArray = ls at hl ⊢
  have hl : lv_has ls 4 [(0, .ref (E.2.2.1 0 (0))), (1, .int a1), (2, .int a2)] := hl
  unfold fX12_pick at h
  refine lv_aload_n hx hb dX12_pick_0 rfl (lv_at hl 0 rfl) ?_
  refine lv_iconst (v := 0) hx hb dX12_pick_1 (by decide) ?_
  refine M_p0_10 hL C0 hw (fun w h => (List.mem_cons_of_mem _ (List.mem_append_right _ h))) (by decide) h ((List.mem_cons_of_mem _ (List.mem_append_left _ (List.mem_append_left _ (List.mem_of_getElem? (i := 0) rfl))))) dX12_pick_2 (fun t1 H locs hw h => ?_)
  refine lv_iload_n hx hb dX12_pick_5 rfl (lv_at hl 1 rfl) ?_
  refine jn_c h (fun K2 hK4 h => ?_)
  have HJ3 : ∀ (v5 : Int32), K2 v5 = some (r, st1) → ∀ (H : Heap) (locs : List Loc), SM E s t1 H locs → ∀ ls : Array Slot, lv_has ls 4 [(0, .ref (E.2.2.1 0 (0)))] → W p l e (headSpec wsX12_pick ({ frames := 2, cells := 0, slots := 0, locals := 44 })).room s m ([.ref (E.2.2.1 0 (0)), .int a1, .int a2] : List Value).toArray below meth c H locs 0 0 (MQ below (QM E (some (.int r)) st1) ([.ref (E.2.2.1 0 (0)), .int a1, .int a2] : List Value).toArray s 0 0 E.2.2.2) (F0 m 19 ls [.int v5]) := by
    intro v5 h H locs hw ls hl
    have h := kk1 h hK4
    refine lv_istore_n (lv' := [(3, .int v5), (0, .ref (E.2.2.1 0 (0)))]) hx hb dX12_pick_19 rfl hl (by decide) rfl (fun ls hl => ?_)
    refine lv_iload_n hx hb dX12_pick_20 rfl (lv_at hl 0 rfl) ?_
    refine lv_iconst (v := -1) hx hb dX12_pick_21 (by decide) ?_
    refine lv_icmp_ne (tgt := 31) hx hb dX12_pick_22 (by decide) (fun hc6 => ?_) (fun hc6 => ?_)
    · have h := ifn h hc6
      refine lv_aload_n hx hb dX12_pick_31 rfl (lv_at hl 1 rfl) ?_
      refine lv_iload_n hx hb dX12_pick_32 rfl (lv_at hl 0 rfl) ?_
      refine lv_iconst (v := 0) hx hb dX12_pick_33 (by decide) ?_
      obtain ⟨t7, hf8, h⟩ := bn_c h
      refine M_callV C0 hw (As := [.int v5, .int (0 : Int32)]) (rest := []) (mX12_copy l E hL t1 hf8) (cwV 2 C0.1.2.2.2.2 gX12_pick_X12_copy rfl rfl rfl (by decide +kernel) ⟨Nat.le_of_ble_eq_true rfl, Nat.le_of_ble_eq_true rfl⟩) (M_recv_0 C0 hw (by decide)) rfl hl.1 rfl (Nat.le_of_ble_eq_true rfl) dX12_pick_34 ⟨Nat.zero_le _, Nat.zero_le _⟩ (fun H locs hw => ?_)
      refine W.eq (g2 := F0 m 37 ls []) rfl ?_
      refine lv_aload_n hx hb dX12_pick_37 rfl (lv_at hl 1 rfl) ?_
      refine lv_iconst (v := 0) hx hb dX12_pick_38 (by decide) ?_
      refine M_p0_9 hL C0 hw (fun w h => (List.mem_cons_of_mem _ (List.mem_append_right _ h))) (by decide) h ((List.mem_cons_of_mem _ (List.mem_append_left _ (List.mem_append_left _ (List.mem_of_getElem? (i := 1) rfl))))) dX12_pick_39 (fun t9 H locs hw h => ?_)
      refine lv_iconst (v := 1) hx hb dX12_pick_42 (by decide) ?_
      cases h
      exact W.zret hx hb hr rfl (M_fin C0 hw) hw.2.2.2 dX12_pick_43 hlocks
    · have h := ifp h hc6
      refine lv_aload_n hx hb dX12_pick_25 rfl (lv_at hl 1 rfl) ?_
      refine lv_iconst (v := 2) hx hb dX12_pick_26 (by decide) ?_
      obtain ⟨⟨v10, t11⟩, hf12, h⟩ := bn_c h
      have h := un2_d h
      refine M_callV C0 hw (As := [.int (2 : Int32)]) (rest := []) (mX12_not l E hL t1 hf12) (cwV 1 C0.1.2.2.2.2 gX12_pick_X12_not rfl rfl rfl (by decide +kernel) ⟨Nat.le_of_ble_eq_true rfl, Nat.le_of_ble_eq_true rfl⟩) (M_recv_0 C0 hw (by decide)) rfl hl.1 rfl (Nat.le_of_ble_eq_true rfl) dX12_pick_27 ⟨Nat.zero_le _, Nat.zero_le _⟩ (fun H locs hw => ?_)
      refine W.eq (g2 := F0 m 30 ls [.int v10]) rfl ?_
      obtain ⟨hz, h⟩ := ck_c h
      cases h
      exact W.zret hx hb hr (zz hz) (M_fin C0 hw) hw.2.2.2 dX12_pick_30 hlocks
  refine lv_if_ne (tgt := 13) hx hb dX12_pick_6 (by decide) (fun hc13 => ?_) (fun hc13 => ?_)
  · have h := ifn h hc13
    refine lv_aload_n hx hb dX12_pick_13 rfl (lv_at hl 0 rfl) ?_
    refine lv_iload_n hx hb dX12_pick_14 rfl (lv_at hl 1 rfl) ?_
    refine lv_iload_n hx hb dX12_pick_15 rfl (lv_at hl 2 rfl) ?_
    obtain ⟨v14, hf15, h⟩ := bn_c h
    refine M_callV C0 hw (As := [.int a1, .int a2]) (rest := []) (mX12_placeOf l E hL t1 hf15) (cwV 2 C0.1.2.2.2.2 gX12_pick_X12_placeOf rfl rfl rfl (by decide +kernel) ⟨Nat.le_of_ble_eq_true rfl, Nat.le_of_ble_eq_true rfl⟩) (M_recv_0 C0 hw (by decide)) rfl hl.1 rfl (Nat.le_of_ble_eq_true rfl) dX12_pick_16 ⟨Nat.zero_le _, Nat.zero_le _⟩ (fun H locs hw => ?_)
    refine W.eq (g2 := F0 m 19 ls [.int v14]) rfl ?_
    exact HJ3 _ h _ _ hw _ (lv_sub hl [0] rfl)
  · have h := ifp h hc13
    refine lv_iconst (v := -1) hx hb dX12_pick_9 (by decide) ?_
    refine lv_goto (tgt := 19) hx hb dX12_pick_10 (by decide) ?_
    exact HJ3 _ h _ _ hw _ (lv_sub hl [0] rfl)

def fX12_blend (a1 : Int32) (a2 : Int32) (a3 : Int32) (a4 : Int32) (st : Sto) : Option (Int32 × Sto) :=
  lt1 (sI st 0 (0) 10 (0 : Int32)) fun (t1 : Sto) =>
  (fX12_is a1 (gI t1 0 (0) 2)).bind (fun (v2 : Int32) =>
   if v2 = 0 then (
    (fX12_no (2 : Int32) t1).bind (un2 fun (v5 : Int32) (t6 : Sto) =>
     some (v5, t6))) else (
    (fX12_is a2 (gI t1 0 (0) 2)).bind (fun (v8 : Int32) =>
     if v8 = 0 then (
      (fX12_no (2 : Int32) t1).bind (un2 fun (v53 : Int32) (t54 : Sto) =>
       some (v53, t54))) else (
      if a4 < (1 : Int32) then (
       (fX12_no (3 : Int32) t1).bind (un2 fun (v12 : Int32) (t13 : Sto) =>
        some (v12, t13))) else (
       if (1000 : Int32) < a4 then (
        (fX12_no (3 : Int32) t1).bind (un2 fun (v16 : Int32) (t17 : Sto) =>
         some (v16, t17))) else (
        if a3 < 0 then (
         (fX12_no (3 : Int32) t1).bind (un2 fun (v20 : Int32) (t21 : Sto) =>
          some (v20, t21))) else (
         if a3 ≤ a4 then (
          if gI t1 0 (0) 2 = (40 : Int32) then (
           (fX12_no (1 : Int32) t1).bind (un2 fun (v47 : Int32) (t48 : Sto) =>
            some (v47, t48))) else (
           ((lp (σ := (Int32 × Sto)) (ρ := Sto) (un2 fun (v28 : Int32) (t29 : Sto) =>
              if (16 : Int32) ≤ v28 then (
               some (.inr t29)) else (
               ck (0 ≤ (((16 : Int32) * ((1 : Int32) + a1)) + v28).toInt ∧ (((16 : Int32) * ((1 : Int32) + a1)) + v28).toInt < (lFM (1) (0) : Int)) (
                nd (FP.f2d (gF t29 (1) (0) ((((16 : Int32) * ((1 : Int32) + a1)) + v28).toNatClampNeg))) fun (v35 : UInt64) =>
                ck (0 ≤ (((16 : Int32) * ((1 : Int32) + a2)) + v28).toInt ∧ (((16 : Int32) * ((1 : Int32) + a2)) + v28).toInt < (lFM (1) (0) : Int)) (
                 nd (FP.f2d (gF t29 (1) (0) ((((16 : Int32) * ((1 : Int32) + a2)) + v28).toNatClampNeg))) fun (v36 : UInt64) =>
                 nd (FP.dmul v35 (FP.i2d a3)) fun (v37 : UInt64) =>
                 nd (FP.dmul v36 (FP.i2d (a4 - a3))) fun (v38 : UInt64) =>
                 nd (FP.dadd v37 v38) fun (v39 : UInt64) =>
                 nd (FP.ddiv v39 (FP.i2d a4)) fun (v40 : UInt64) =>
                 nf (FP.d2f v40) fun (v41 : UInt32) =>
                 ck (0 ≤ ((2160 : Int32) + v28).toInt ∧ ((2160 : Int32) + v28).toInt < (lFM (1) (0) : Int)) (lt1 (sF t29 (1) (0) (((2160 : Int32) + v28).toNatClampNeg) v41) fun (t42 : Sto) =>
                  lt1 (v28 + Int32.ofInt (1)) fun (v43 : Int32) =>
                  some (.inl (v43, t42))))))) 4000 ((0 : Int32), t1)).bind
            (fun (t30 : Sto) =>
             (fX12_newChip (135 : Int32) t30).bind (un2 fun (v44 : Int32) (t45 : Sto) =>
              some (v44, t45)))))) else (
          (fX12_no (3 : Int32) t1).bind (un2 fun (v50 : Int32) (t51 : Sto) =>
           some (v50, t51))))))))))
set_option maxHeartbeats 4000000 in
set_option maxRecDepth 100000 in
theorem mX12_blend (l : Launch) (E : XE) (hL : LM E) (st : Sto) {a1 : Int32} {a2 : Int32} {a3 : Int32} {a4 : Int32} {r : Int32} {st1 : Sto} (h : fX12_blend a1 a2 a3 a4 st = some (r, st1)) : Met l yX12_blend wsX12_blend ({ frames := 2, cells := 0, slots := 0, locals := 48 }) (va_Pc [.ref (E.2.2.1 0 (0)), .int a1, .int a2, .int a3, .int a4] (RM E st)) (QM E (some (.int r)) st1) 0 0 E.2.2.2 := by
  refine Met.ofW (cc := cX12_blend) (maxL := 10) (ret := (some .int)) (by decide) rfl ?_
  intro p e s m args below meth c s₁ B hml hv
  obtain ⟨rfl, hP, hK⟩ := hv
  have hown : s.vm.findClass RX12 = some m.cls := findClass_of_methodNamed B.named
  have C0 : CX p m c cX12_blend 10 s _ wsX12_blend RX12 E := ⟨⟨B.exec, B.bytes, hml, hown, atoms_spec (ws := wsX12_blend) B.pre⟩, hK⟩
  have hx := B.exec
  have hb := B.bytes
  have hr := B.returns
  have hlocks := B.notSynchronized
  have hw : SM E s st s.heap [] := ⟨hP, va_S.rf⟩
  have hl := lv_entry ([.ref (E.2.2.1 0 (0)), .int a1, .int a2, .int a3, .int a4]) (n := 10) (Nat.le_of_ble_eq_true rfl)
  rw [lg_entry_eq]
  generalize (lg_sl ([.ref (E.2.2.1 0 (0)), .int a1, .int a2, .int a3, .int a4]) ++ List.replicate (10 - (lg_sl ([.ref (E.2.2.1 0 (0)), .int a1, .int a2, .int a3, .int a4])).length) Slot.unset).toArray = ls at hl ⊢
  have hl : lv_has ls 10 [(0, .ref (E.2.2.1 0 (0))), (1, .int a1), (2, .int a2), (3, .int a3), (4, .int a4)] := hl
  unfold fX12_blend at h
  refine lv_aload_n hx hb dX12_blend_0 rfl (lv_at hl 0 rfl) ?_
  refine lv_iconst (v := 0) hx hb dX12_blend_1 (by decide) ?_
  refine M_p0_10 hL C0 hw (fun w h => (List.mem_cons_of_mem _ (List.mem_append_right _ h))) (by decide) h ((List.mem_cons_of_mem _ (List.mem_append_left _ (List.mem_append_left _ (List.mem_of_getElem? (i := 0) rfl))))) dX12_blend_2 (fun t1 H locs hw h => ?_)
  refine lv_aload_n hx hb dX12_blend_5 rfl (lv_at hl 0 rfl) ?_
  refine lv_iload_n hx hb dX12_blend_6 rfl (lv_at hl 1 rfl) ?_
  refine lv_aload_n hx hb dX12_blend_7 rfl (lv_at hl 0 rfl) ?_
  refine M_g0_2 C0 hw (fun w h => (List.mem_cons_of_mem _ (List.mem_append_right _ h))) (by decide) ((List.mem_cons_of_mem _ (List.mem_append_left _ (List.mem_append_left _ (List.mem_of_getElem? (i := 1) rfl))))) dX12_blend_8 ?_
  obtain ⟨v2, hf3, h⟩ := bn_c h
  refine M_callV C0 hw (As := [.int a1, .int (gI t1 0 (0) 2)]) (rest := []) (mX12_is l E hL t1 hf3) (cwV 2 C0.1.2.2.2.2 gX12_blend_X12_is rfl rfl rfl (by decide +kernel) ⟨Nat.le_of_ble_eq_true rfl, Nat.le_of_ble_eq_true rfl⟩) (M_recv_0 C0 hw (by decide)) rfl hl.1 rfl (Nat.le_of_ble_eq_true rfl) dX12_blend_11 ⟨Nat.zero_le _, Nat.zero_le _⟩ (fun H locs hw => ?_)
  refine W.eq (g2 := F0 m 14 ls [.int v2]) rfl ?_
  refine lv_if_eq (tgt := 29) hx hb dX12_blend_14 (by decide) (fun hc4 => ?_) (fun hc4 => ?_)
  · have h := ifp h hc4
    refine lv_aload_n hx hb dX12_blend_29 rfl (lv_at hl 0 rfl) ?_
    refine lv_iconst (v := 2) hx hb dX12_blend_30 (by decide) ?_
    obtain ⟨⟨v5, t6⟩, hf7, h⟩ := bn_c h
    have h := un2_d h
    refine M_callV C0 hw (As := [.int (2 : Int32)]) (rest := []) (mX12_no l E hL t1 hf7) (cwV 1 C0.1.2.2.2.2 gX12_blend_X12_no rfl rfl rfl (by decide +kernel) ⟨Nat.le_of_ble_eq_true rfl, Nat.le_of_ble_eq_true rfl⟩) (M_recv_0 C0 hw (by decide)) rfl hl.1 rfl (Nat.le_of_ble_eq_true rfl) dX12_blend_31 ⟨Nat.zero_le _, Nat.zero_le _⟩ (fun H locs hw => ?_)
    refine W.eq (g2 := F0 m 34 ls [.int v5]) rfl ?_
    cases h
    exact W.iret hx hb hr (M_fin C0 hw) hw.2.2.2 dX12_blend_34 hlocks
  · have h := ifn h hc4
    refine lv_aload_n hx hb dX12_blend_17 rfl (lv_at hl 0 rfl) ?_
    refine lv_iload_n hx hb dX12_blend_18 rfl (lv_at hl 2 rfl) ?_
    refine lv_aload_n hx hb dX12_blend_19 rfl (lv_at hl 0 rfl) ?_
    refine M_g0_2 C0 hw (fun w h => (List.mem_cons_of_mem _ (List.mem_append_right _ h))) (by decide) ((List.mem_cons_of_mem _ (List.mem_append_left _ (List.mem_append_left _ (List.mem_of_getElem? (i := 1) rfl))))) dX12_blend_20 ?_
    obtain ⟨v8, hf9, h⟩ := bn_c h
    refine M_callV C0 hw (As := [.int a2, .int (gI t1 0 (0) 2)]) (rest := []) (mX12_is l E hL t1 hf9) (cwV 2 C0.1.2.2.2.2 gX12_blend_X12_is rfl rfl rfl (by decide +kernel) ⟨Nat.le_of_ble_eq_true rfl, Nat.le_of_ble_eq_true rfl⟩) (M_recv_0 C0 hw (by decide)) rfl hl.1 rfl (Nat.le_of_ble_eq_true rfl) dX12_blend_23 ⟨Nat.zero_le _, Nat.zero_le _⟩ (fun H locs hw => ?_)
    refine W.eq (g2 := F0 m 26 ls [.int v8]) rfl ?_
    refine lv_if_ne (tgt := 35) hx hb dX12_blend_26 (by decide) (fun hc10 => ?_) (fun hc10 => ?_)
    · have h := ifn h hc10
      refine lv_iload hx hb dX12_blend_35 (lv_at hl 4 rfl) ?_
      refine lv_iconst (v := 1) hx hb dX12_blend_37 (by decide) ?_
      refine lv_icmp_lt (tgt := 59) hx hb dX12_blend_38 (by decide) (fun hc11 => ?_) (fun hc11 => ?_)
      · have h := ifp h hc11
        refine lv_aload_n hx hb dX12_blend_59 rfl (lv_at hl 0 rfl) ?_
        refine lv_iconst (v := 3) hx hb dX12_blend_60 (by decide) ?_
        obtain ⟨⟨v12, t13⟩, hf14, h⟩ := bn_c h
        have h := un2_d h
        refine M_callV C0 hw (As := [.int (3 : Int32)]) (rest := []) (mX12_no l E hL t1 hf14) (cwV 1 C0.1.2.2.2.2 gX12_blend_X12_no rfl rfl rfl (by decide +kernel) ⟨Nat.le_of_ble_eq_true rfl, Nat.le_of_ble_eq_true rfl⟩) (M_recv_0 C0 hw (by decide)) rfl hl.1 rfl (Nat.le_of_ble_eq_true rfl) dX12_blend_61 ⟨Nat.zero_le _, Nat.zero_le _⟩ (fun H locs hw => ?_)
        refine W.eq (g2 := F0 m 64 ls [.int v12]) rfl ?_
        cases h
        exact W.iret hx hb hr (M_fin C0 hw) hw.2.2.2 dX12_blend_64 hlocks
      · have h := ifn h hc11
        refine lv_iload hx hb dX12_blend_41 (lv_at hl 4 rfl) ?_
        refine lv_sipush (v := 1000) hx hb dX12_blend_43 (by decide) ?_
        refine lv_icmp_gt (tgt := 59) hx hb dX12_blend_46 (by decide) (fun hc15 => ?_) (fun hc15 => ?_)
        · have h := ifp h hc15
          refine lv_aload_n hx hb dX12_blend_59 rfl (lv_at hl 0 rfl) ?_
          refine lv_iconst (v := 3) hx hb dX12_blend_60 (by decide) ?_
          obtain ⟨⟨v16, t17⟩, hf18, h⟩ := bn_c h
          have h := un2_d h
          refine M_callV C0 hw (As := [.int (3 : Int32)]) (rest := []) (mX12_no l E hL t1 hf18) (cwV 1 C0.1.2.2.2.2 gX12_blend_X12_no rfl rfl rfl (by decide +kernel) ⟨Nat.le_of_ble_eq_true rfl, Nat.le_of_ble_eq_true rfl⟩) (M_recv_0 C0 hw (by decide)) rfl hl.1 rfl (Nat.le_of_ble_eq_true rfl) dX12_blend_61 ⟨Nat.zero_le _, Nat.zero_le _⟩ (fun H locs hw => ?_)
          refine W.eq (g2 := F0 m 64 ls [.int v16]) rfl ?_
          cases h
          exact W.iret hx hb hr (M_fin C0 hw) hw.2.2.2 dX12_blend_64 hlocks
        · have h := ifn h hc15
          refine lv_iload_n hx hb dX12_blend_49 rfl (lv_at hl 3 rfl) ?_
          refine lv_if_lt (tgt := 59) hx hb dX12_blend_50 (by decide) (fun hc19 => ?_) (fun hc19 => ?_)
          · have h := ifp h hc19
            refine lv_aload_n hx hb dX12_blend_59 rfl (lv_at hl 0 rfl) ?_
            refine lv_iconst (v := 3) hx hb dX12_blend_60 (by decide) ?_
            obtain ⟨⟨v20, t21⟩, hf22, h⟩ := bn_c h
            have h := un2_d h
            refine M_callV C0 hw (As := [.int (3 : Int32)]) (rest := []) (mX12_no l E hL t1 hf22) (cwV 1 C0.1.2.2.2.2 gX12_blend_X12_no rfl rfl rfl (by decide +kernel) ⟨Nat.le_of_ble_eq_true rfl, Nat.le_of_ble_eq_true rfl⟩) (M_recv_0 C0 hw (by decide)) rfl hl.1 rfl (Nat.le_of_ble_eq_true rfl) dX12_blend_61 ⟨Nat.zero_le _, Nat.zero_le _⟩ (fun H locs hw => ?_)
            refine W.eq (g2 := F0 m 64 ls [.int v20]) rfl ?_
            cases h
            exact W.iret hx hb hr (M_fin C0 hw) hw.2.2.2 dX12_blend_64 hlocks
          · have h := ifn h hc19
            refine lv_iload_n hx hb dX12_blend_53 rfl (lv_at hl 3 rfl) ?_
            refine lv_iload hx hb dX12_blend_54 (lv_at hl 4 rfl) ?_
            refine lv_icmp_le (tgt := 65) hx hb dX12_blend_56 (by decide) (fun hc23 => ?_) (fun hc23 => ?_)
            · have h := ifp h hc23
              refine lv_aload_n hx hb dX12_blend_65 rfl (lv_at hl 0 rfl) ?_
              refine M_g0_2 C0 hw (fun w h => (List.mem_cons_of_mem _ (List.mem_append_right _ h))) (by decide) ((List.mem_cons_of_mem _ (List.mem_append_left _ (List.mem_append_left _ (List.mem_of_getElem? (i := 1) rfl))))) dX12_blend_66 ?_
              refine lv_bipush (v := 40) hx hb dX12_blend_69 (by decide) ?_
              refine lv_icmp_ne (tgt := 80) hx hb dX12_blend_71 (by decide) (fun hc24 => ?_) (fun hc24 => ?_)
              · have h := ifn h hc24
                refine lv_iconst (v := 0) hx hb dX12_blend_80 (by decide) ?_
                refine lv_istore (lv' := [(5, .int (0 : Int32)), (0, .ref (E.2.2.1 0 (0))), (1, .int a1), (2, .int a2), (3, .int a3), (4, .int a4)]) hx hb dX12_blend_81 hl (by decide) rfl (fun ls hl => ?_)
                refine lp_ind (fun q : (Int32 × Sto) => ∀ (H : Heap) (locs : List Loc), SM E s (q.2) H locs → ∀ ls : Array Slot, lv_has ls 10 [(5, .int (q.1)), (0, .ref (E.2.2.1 0 (0))), (1, .int a1), (2, .int a2), (3, .int a3), (4, .int a4)] → W p l e (headSpec wsX12_blend ({ frames := 2, cells := 0, slots := 0, locals := 48 })).room s m ([.ref (E.2.2.1 0 (0)), .int a1, .int a2, .int a3, .int a4] : List Value).toArray below meth c H locs 0 0 (MQ below (QM E (some (.int r)) st1) ([.ref (E.2.2.1 0 (0)), .int a1, .int a2, .int a3, .int a4] : List Value).toArray s 0 0 E.2.2.2) (F0 m 83 ls [])) (fun q o27 h hB26 hX25 => ?_) _ _ h _ _ hw _ (lv_sub hl [0, 1, 2, 3, 4, 5] rfl)
                intro H locs hw ls hl
                obtain ⟨v28, t29⟩ := q
                have h := un2_d h
                have hw : SM E s t29 H locs := hw
                have hl : lv_has ls 10 [(5, .int v28), (0, .ref (E.2.2.1 0 (0))), (1, .int a1), (2, .int a2), (3, .int a3), (4, .int a4)] := hl
                refine lv_iload hx hb dX12_blend_83 (lv_at hl 0 rfl) ?_
                refine lv_bipush (v := 16) hx hb dX12_blend_85 (by decide) ?_
                refine lv_icmp_ge (tgt := 160) hx hb dX12_blend_87 (by decide) (fun hc31 => ?_) (fun hc31 => ?_)
                · have h := ifp h hc31
                  have h := hX25 _ (Option.some.inj h).symm
                  have hl := lv_sub hl (l' := [(0, .ref (E.2.2.1 0 (0)))]) [1] rfl
                  refine lv_aload_n hx hb dX12_blend_160 rfl (lv_at hl 0 rfl) ?_
                  refine lv_sipush (v := 135) hx hb dX12_blend_161 (by decide) ?_
                  obtain ⟨⟨v32, t33⟩, hf34, h⟩ := bn_c h
                  have h := un2_d h
                  refine M_callV C0 hw (As := [.int (135 : Int32)]) (rest := []) (mX12_newChip l E hL t29 hf34) (cwV 1 C0.1.2.2.2.2 gX12_blend_X12_newChip rfl rfl rfl (by decide +kernel) ⟨Nat.le_of_ble_eq_true rfl, Nat.le_of_ble_eq_true rfl⟩) (M_recv_0 C0 hw (by decide)) rfl hl.1 rfl (Nat.le_of_ble_eq_true rfl) dX12_blend_164 ⟨Nat.zero_le _, Nat.zero_le _⟩ (fun H locs hw => ?_)
                  refine W.eq (g2 := F0 m 167 ls [.int v32]) rfl ?_
                  cases h
                  exact W.iret hx hb hr (M_fin C0 hw) hw.2.2.2 dX12_blend_167 hlocks
                · have h := ifn h hc31
                  refine lv_aload_n hx hb dX12_blend_90 rfl (lv_at hl 1 rfl) ?_
                  refine M_g0_0 C0 hw (fun w h => (List.mem_cons_of_mem _ (List.mem_append_right _ h))) (by decide) ((List.mem_cons_of_mem _ (List.mem_append_left _ (List.mem_append_left _ (List.mem_of_getElem? (i := 2) rfl))))) dX12_blend_91 ?_
                  refine lv_bipush (v := 16) hx hb dX12_blend_94 (by decide) ?_
                  refine lv_iconst (v := 1) hx hb dX12_blend_96 (by decide) ?_
                  refine lv_iload_n hx hb dX12_blend_97 rfl (lv_at hl 2 rfl) ?_
                  refine lv_iadd hx hb dX12_blend_98 ?_
                  refine lv_imul hx hb dX12_blend_99 ?_
                  refine lv_iload hx hb dX12_blend_100 (lv_at hl 0 rfl) ?_
                  refine lv_iadd hx hb dX12_blend_102 ?_
                  refine M_fald C0 hw h (k := (((16 : Int32) * ((1 : Int32) + a1)) + v28).toNatClampNeg) rfl dX12_blend_103 (fun h => ?_)
                  refine x_f2d hx hb h dX12_blend_104 (fun v35 h => ?_)
                  refine lv_dstore (lv' := [(6, .double v35), (5, .int v28), (0, .ref (E.2.2.1 0 (0))), (1, .int a1), (2, .int a2), (3, .int a3), (4, .int a4)]) hx hb dX12_blend_105 hl (by decide) rfl (fun ls hl => ?_)
                  refine lv_aload_n hx hb dX12_blend_107 rfl (lv_at hl 2 rfl) ?_
                  refine M_g0_0 C0 hw (fun w h => (List.mem_cons_of_mem _ (List.mem_append_right _ h))) (by decide) ((List.mem_cons_of_mem _ (List.mem_append_left _ (List.mem_append_left _ (List.mem_of_getElem? (i := 2) rfl))))) dX12_blend_108 ?_
                  refine lv_bipush (v := 16) hx hb dX12_blend_111 (by decide) ?_
                  refine lv_iconst (v := 1) hx hb dX12_blend_113 (by decide) ?_
                  refine lv_iload_n hx hb dX12_blend_114 rfl (lv_at hl 4 rfl) ?_
                  refine lv_iadd hx hb dX12_blend_115 ?_
                  refine lv_imul hx hb dX12_blend_116 ?_
                  refine lv_iload hx hb dX12_blend_117 (lv_at hl 1 rfl) ?_
                  refine lv_iadd hx hb dX12_blend_119 ?_
                  refine M_fald C0 hw h (k := (((16 : Int32) * ((1 : Int32) + a2)) + v28).toNatClampNeg) rfl dX12_blend_120 (fun h => ?_)
                  refine x_f2d hx hb h dX12_blend_121 (fun v36 h => ?_)
                  refine lv_dstore (lv' := [(8, .double v36), (6, .double v35), (5, .int v28), (0, .ref (E.2.2.1 0 (0))), (1, .int a1), (2, .int a2), (3, .int a3), (4, .int a4)]) hx hb dX12_blend_122 hl (by decide) rfl (fun ls hl => ?_)
                  refine lv_aload_n hx hb dX12_blend_124 rfl (lv_at hl 3 rfl) ?_
                  refine M_g0_0 C0 hw (fun w h => (List.mem_cons_of_mem _ (List.mem_append_right _ h))) (by decide) ((List.mem_cons_of_mem _ (List.mem_append_left _ (List.mem_append_left _ (List.mem_of_getElem? (i := 2) rfl))))) dX12_blend_125 ?_
                  refine lv_sipush (v := 2160) hx hb dX12_blend_128 (by decide) ?_
                  refine lv_iload hx hb dX12_blend_131 (lv_at hl 2 rfl) ?_
                  refine lv_iadd hx hb dX12_blend_133 ?_
                  refine lv_dload hx hb dX12_blend_134 (lv_at hl 1 rfl) ?_
                  refine lv_iload_n hx hb dX12_blend_136 rfl (lv_at hl 6 rfl) ?_
                  refine lv_i2d hx hb dX12_blend_137 ?_
                  refine x_dmul hx hb h dX12_blend_138 (fun v37 h => ?_)
                  refine lv_dload hx hb dX12_blend_139 (lv_at hl 0 rfl) ?_
                  refine lv_iload hx hb dX12_blend_141 (lv_at hl 7 rfl) ?_
                  refine lv_iload_n hx hb dX12_blend_143 rfl (lv_at hl 6 rfl) ?_
                  refine lv_isub hx hb dX12_blend_144 ?_
                  refine lv_i2d hx hb dX12_blend_145 ?_
                  refine x_dmul hx hb h dX12_blend_146 (fun v38 h => ?_)
                  refine x_dadd hx hb h dX12_blend_147 (fun v39 h => ?_)
                  refine lv_iload hx hb dX12_blend_148 (lv_at hl 7 rfl) ?_
                  refine lv_i2d hx hb dX12_blend_150 ?_
                  refine x_ddiv hx hb h dX12_blend_151 (fun v40 h => ?_)
                  refine x_d2f hx hb h dX12_blend_152 (fun v41 h => ?_)
                  refine M_fast hL C0 hw h (k := ((2160 : Int32) + v28).toNatClampNeg) rfl dX12_blend_153 (fun t42 H locs hw h => ?_)
                  refine x_iinc hx hb h dX12_blend_154 hl (q := 2) rfl (fun v43 => [(5, .int v43), (8, .double v36), (6, .double v35), (0, .ref (E.2.2.1 0 (0))), (1, .int a1), (2, .int a2), (3, .int a3), (4, .int a4)]) (by decide) (fun _ => rfl) (fun v43 ls hl h => ?_)
                  refine lv_goto (tgt := 83) hx hb dX12_blend_157 (by decide) ?_
                  exact hB26 _ (Option.some.inj h).symm _ _ hw _ (lv_sub hl [0, 3, 4, 5, 6, 7] rfl)
              · have h := ifp h hc24
                refine lv_aload_n hx hb dX12_blend_74 rfl (lv_at hl 0 rfl) ?_
                refine lv_iconst (v := 1) hx hb dX12_blend_75 (by decide) ?_
                obtain ⟨⟨v47, t48⟩, hf49, h⟩ := bn_c h
                have h := un2_d h
                refine M_callV C0 hw (As := [.int (1 : Int32)]) (rest := []) (mX12_no l E hL t1 hf49) (cwV 1 C0.1.2.2.2.2 gX12_blend_X12_no rfl rfl rfl (by decide +kernel) ⟨Nat.le_of_ble_eq_true rfl, Nat.le_of_ble_eq_true rfl⟩) (M_recv_0 C0 hw (by decide)) rfl hl.1 rfl (Nat.le_of_ble_eq_true rfl) dX12_blend_76 ⟨Nat.zero_le _, Nat.zero_le _⟩ (fun H locs hw => ?_)
                refine W.eq (g2 := F0 m 79 ls [.int v47]) rfl ?_
                cases h
                exact W.iret hx hb hr (M_fin C0 hw) hw.2.2.2 dX12_blend_79 hlocks
            · have h := ifn h hc23
              refine lv_aload_n hx hb dX12_blend_59 rfl (lv_at hl 0 rfl) ?_
              refine lv_iconst (v := 3) hx hb dX12_blend_60 (by decide) ?_
              obtain ⟨⟨v50, t51⟩, hf52, h⟩ := bn_c h
              have h := un2_d h
              refine M_callV C0 hw (As := [.int (3 : Int32)]) (rest := []) (mX12_no l E hL t1 hf52) (cwV 1 C0.1.2.2.2.2 gX12_blend_X12_no rfl rfl rfl (by decide +kernel) ⟨Nat.le_of_ble_eq_true rfl, Nat.le_of_ble_eq_true rfl⟩) (M_recv_0 C0 hw (by decide)) rfl hl.1 rfl (Nat.le_of_ble_eq_true rfl) dX12_blend_61 ⟨Nat.zero_le _, Nat.zero_le _⟩ (fun H locs hw => ?_)
              refine W.eq (g2 := F0 m 64 ls [.int v50]) rfl ?_
              cases h
              exact W.iret hx hb hr (M_fin C0 hw) hw.2.2.2 dX12_blend_64 hlocks
    · have h := ifp h hc10
      refine lv_aload_n hx hb dX12_blend_29 rfl (lv_at hl 0 rfl) ?_
      refine lv_iconst (v := 2) hx hb dX12_blend_30 (by decide) ?_
      obtain ⟨⟨v53, t54⟩, hf55, h⟩ := bn_c h
      have h := un2_d h
      refine M_callV C0 hw (As := [.int (2 : Int32)]) (rest := []) (mX12_no l E hL t1 hf55) (cwV 1 C0.1.2.2.2.2 gX12_blend_X12_no rfl rfl rfl (by decide +kernel) ⟨Nat.le_of_ble_eq_true rfl, Nat.le_of_ble_eq_true rfl⟩) (M_recv_0 C0 hw (by decide)) rfl hl.1 rfl (Nat.le_of_ble_eq_true rfl) dX12_blend_31 ⟨Nat.zero_le _, Nat.zero_le _⟩ (fun H locs hw => ?_)
      refine W.eq (g2 := F0 m 34 ls [.int v53]) rfl ?_
      cases h
      exact W.iret hx hb hr (M_fin C0 hw) hw.2.2.2 dX12_blend_34 hlocks

def fX12_part (a1 : Int32) (a2 : Int32) (a3 : Int32) (st : Sto) : Option (Int32 × Sto) :=
  lt1 (sI st 0 (0) 10 (0 : Int32)) fun (t1 : Sto) =>
  jn (fun (v5 : Int32) =>
   (fX12_is a2 v5).bind (fun (v6 : Int32) =>
    if v6 = 0 then (
     (fX12_no (2 : Int32) t1).bind (un2 fun (v26 : Int32) (t27 : Sto) =>
      some (v26, t27))) else (
     if a3 < 0 then (
      (fX12_no (3 : Int32) t1).bind (un2 fun (v10 : Int32) (t11 : Sto) =>
       some (v10, t11))) else (
      if a3 ≤ (1000000 : Int32) then (
       if gI t1 0 (0) 8 = (6 : Int32) then (
        (fX12_no (1 : Int32) t1).bind (un2 fun (v20 : Int32) (t21 : Sto) =>
         some (v20, t21))) else (
        ck (0 ≤ (gI t1 0 (0) 8).toInt ∧ (gI t1 0 (0) 8).toInt < (lZM (32) (0) : Int)) (lt1 (sI t1 (32) (0) ((gI t1 0 (0) 8).toNatClampNeg) (vp_nar .boolean a1)) fun (t15 : Sto) =>
         ck (0 ≤ (gI t15 0 (0) 8).toInt ∧ (gI t15 0 (0) 8).toInt < (lIM (30) (0) : Int)) (lt1 (sI t15 (30) (0) ((gI t15 0 (0) 8).toNatClampNeg) a2) fun (t16 : Sto) =>
          ck (0 ≤ (gI t16 0 (0) 8).toInt ∧ (gI t16 0 (0) 8).toInt < (lIM (31) (0) : Int)) (lt1 (sI t16 (31) (0) ((gI t16 0 (0) 8).toNatClampNeg) a3) fun (t17 : Sto) =>
           lt1 (sI t17 0 (0) 8 ((gI t17 0 (0) 8) + (1 : Int32))) fun (t18 : Sto) =>
           lt1 (sI t18 0 (0) 9 (0 : Int32)) fun (t19 : Sto) =>
           some (gI t19 0 (0) 8, t19)))))) else (
       (fX12_no (3 : Int32) t1).bind (un2 fun (v23 : Int32) (t24 : Sto) =>
        some (v23, t24))))))) fun K2 =>
  if a1 = 0 then (
   K2 (gI t1 0 (0) 4)) else (
   K2 (gI t1 0 (0) 6))
set_option maxHeartbeats 4000000 in
set_option maxRecDepth 100000 in
theorem mX12_part (l : Launch) (E : XE) (hL : LM E) (st : Sto) {a1 : Int32} {a2 : Int32} {a3 : Int32} {r : Int32} {st1 : Sto} (h : fX12_part a1 a2 a3 st = some (r, st1)) : Met l yX12_part wsX12_part ({ frames := 1, cells := 0, slots := 0, locals := 22 }) (va_Pc [.ref (E.2.2.1 0 (0)), .int a1, .int a2, .int a3] (RM E st)) (QM E (some (.int r)) st1) 0 0 E.2.2.2 := by
  refine Met.ofW (cc := cX12_part) (maxL := 4) (ret := (some .int)) (by decide) rfl ?_
  intro p e s m args below meth c s₁ B hml hv
  obtain ⟨rfl, hP, hK⟩ := hv
  have hown : s.vm.findClass RX12 = some m.cls := findClass_of_methodNamed B.named
  have C0 : CX p m c cX12_part 4 s _ wsX12_part RX12 E := ⟨⟨B.exec, B.bytes, hml, hown, atoms_spec (ws := wsX12_part) B.pre⟩, hK⟩
  have hx := B.exec
  have hb := B.bytes
  have hr := B.returns
  have hlocks := B.notSynchronized
  have hw : SM E s st s.heap [] := ⟨hP, va_S.rf⟩
  have hl := lv_entry ([.ref (E.2.2.1 0 (0)), .int a1, .int a2, .int a3]) (n := 4) (Nat.le_of_ble_eq_true rfl)
  rw [lg_entry_eq]
  generalize (lg_sl ([.ref (E.2.2.1 0 (0)), .int a1, .int a2, .int a3]) ++ List.replicate (4 - (lg_sl ([.ref (E.2.2.1 0 (0)), .int a1, .int a2, .int a3])).length) Slot.unset).toArray = ls at hl ⊢
  have hl : lv_has ls 4 [(0, .ref (E.2.2.1 0 (0))), (1, .int a1), (2, .int a2), (3, .int a3)] := hl
  unfold fX12_part at h
  refine lv_aload_n hx hb dX12_part_0 rfl (lv_at hl 0 rfl) ?_
  refine lv_iconst (v := 0) hx hb dX12_part_1 (by decide) ?_
  refine M_p0_10 hL C0 hw (fun w h => (List.mem_cons_of_mem _ (List.mem_append_right _ h))) (by decide) h ((List.mem_cons_of_mem _ (List.mem_append_left _ (List.mem_of_getElem? (i := 0) rfl)))) dX12_part_2 (fun t1 H locs hw h => ?_)
  refine lv_aload_n hx hb dX12_part_5 rfl (lv_at hl 0 rfl) ?_
  refine lv_iload_n hx hb dX12_part_6 rfl (lv_at hl 2 rfl) ?_
  refine lv_iload_n hx hb dX12_part_7 rfl (lv_at hl 1 rfl) ?_
  refine jn_c h (fun K2 hK4 h => ?_)
  have HJ3 : ∀ (v5 : Int32), K2 v5 = some (r, st1) → ∀ (H : Heap) (locs : List Loc), SM E s t1 H locs → ∀ ls : Array Slot, lv_has ls 4 [(0, .ref (E.2.2.1 0 (0))), (1, .int a1), (2, .int a2), (3, .int a3)] → W p l e (headSpec wsX12_part ({ frames := 1, cells := 0, slots := 0, locals := 22 })).room s m ([.ref (E.2.2.1 0 (0)), .int a1, .int a2, .int a3] : List Value).toArray below meth c H locs 0 0 (MQ below (QM E (some (.int r)) st1) ([.ref (E.2.2.1 0 (0)), .int a1, .int a2, .int a3] : List Value).toArray s 0 0 E.2.2.2) (F0 m 22 ls [.int v5, .int a2, .ref (E.2.2.1 0 (0))]) := by
    intro v5 h H locs hw ls hl
    have h := kk1 h hK4
    obtain ⟨v6, hf7, h⟩ := bn_c h
    refine M_callV C0 hw (As := [.int a2, .int v5]) (rest := []) (mX12_is l E hL t1 hf7) (cwV 2 C0.1.2.2.2.2 gX12_part_X12_is rfl rfl rfl (by decide +kernel) ⟨Nat.le_of_ble_eq_true rfl, Nat.le_of_ble_eq_true rfl⟩) (M_recv_0 C0 hw (by decide)) rfl hl.1 rfl (Nat.le_of_ble_eq_true rfl) dX12_part_22 ⟨Nat.zero_le _, Nat.zero_le _⟩ (fun H locs hw => ?_)
    refine W.eq (g2 := F0 m 25 ls [.int v6]) rfl ?_
    refine lv_if_ne (tgt := 34) hx hb dX12_part_25 (by decide) (fun hc8 => ?_) (fun hc8 => ?_)
    · have h := ifn h hc8
      refine lv_iload_n hx hb dX12_part_34 rfl (lv_at hl 3 rfl) ?_
      refine lv_if_lt (tgt := 44) hx hb dX12_part_35 (by decide) (fun hc9 => ?_) (fun hc9 => ?_)
      · have h := ifp h hc9
        refine lv_aload_n hx hb dX12_part_44 rfl (lv_at hl 0 rfl) ?_
        refine lv_iconst (v := 3) hx hb dX12_part_45 (by decide) ?_
        obtain ⟨⟨v10, t11⟩, hf12, h⟩ := bn_c h
        have h := un2_d h
        refine M_callV C0 hw (As := [.int (3 : Int32)]) (rest := []) (mX12_no l E hL t1 hf12) (cwV 1 C0.1.2.2.2.2 gX12_part_X12_no rfl rfl rfl (by decide +kernel) ⟨Nat.le_of_ble_eq_true rfl, Nat.le_of_ble_eq_true rfl⟩) (M_recv_0 C0 hw (by decide)) rfl hl.1 rfl (Nat.le_of_ble_eq_true rfl) dX12_part_46 ⟨Nat.zero_le _, Nat.zero_le _⟩ (fun H locs hw => ?_)
        refine W.eq (g2 := F0 m 49 ls [.int v10]) rfl ?_
        cases h
        exact W.iret hx hb hr (M_fin C0 hw) hw.2.2.2 dX12_part_49 hlocks
      · have h := ifn h hc9
        refine lv_iload_n hx hb dX12_part_38 rfl (lv_at hl 3 rfl) ?_
        refine lv_ldc hx hb hown (C0.1.2.2.2.2 _ (List.mem_cons_of_mem _ (List.mem_append_left _ (List.mem_of_getElem? (i := 3) rfl)))) dX12_part_39 ?_
        refine lv_icmp_le (tgt := 50) hx hb dX12_part_41 (by decide) (fun hc13 => ?_) (fun hc13 => ?_)
        · have h := ifp h hc13
          refine lv_aload_n hx hb dX12_part_50 rfl (lv_at hl 0 rfl) ?_
          refine M_g0_8 C0 hw (fun w h => (List.mem_cons_of_mem _ (List.mem_append_right _ h))) (by decide) ((List.mem_cons_of_mem _ (List.mem_append_left _ (List.mem_of_getElem? (i := 4) rfl)))) dX12_part_51 ?_
          refine lv_bipush (v := 6) hx hb dX12_part_54 (by decide) ?_
          refine lv_icmp_ne (tgt := 65) hx hb dX12_part_56 (by decide) (fun hc14 => ?_) (fun hc14 => ?_)
          · have h := ifn h hc14
            refine lv_aload_n hx hb dX12_part_65 rfl (lv_at hl 0 rfl) ?_
            refine M_g0_31 C0 hw (fun w h => (List.mem_cons_of_mem _ (List.mem_append_right _ h))) (by decide) ((List.mem_cons_of_mem _ (List.mem_append_left _ (List.mem_of_getElem? (i := 5) rfl)))) dX12_part_66 ?_
            refine lv_aload_n hx hb dX12_part_69 rfl (lv_at hl 0 rfl) ?_
            refine M_g0_8 C0 hw (fun w h => (List.mem_cons_of_mem _ (List.mem_append_right _ h))) (by decide) ((List.mem_cons_of_mem _ (List.mem_append_left _ (List.mem_of_getElem? (i := 4) rfl)))) dX12_part_70 ?_
            refine lv_iload_n hx hb dX12_part_73 rfl (lv_at hl 1 rfl) ?_
            refine M_zast hL C0 hw h (k := (gI t1 0 (0) 8).toNatClampNeg) rfl dX12_part_74 (fun t15 H locs hw h => ?_)
            refine lv_aload_n hx hb dX12_part_75 rfl (lv_at hl 0 rfl) ?_
            refine M_g0_29 C0 hw (fun w h => (List.mem_cons_of_mem _ (List.mem_append_right _ h))) (by decide) ((List.mem_cons_of_mem _ (List.mem_append_left _ (List.mem_of_getElem? (i := 6) rfl)))) dX12_part_76 ?_
            refine lv_aload_n hx hb dX12_part_79 rfl (lv_at hl 0 rfl) ?_
            refine M_g0_8 C0 hw (fun w h => (List.mem_cons_of_mem _ (List.mem_append_right _ h))) (by decide) ((List.mem_cons_of_mem _ (List.mem_append_left _ (List.mem_of_getElem? (i := 4) rfl)))) dX12_part_80 ?_
            refine lv_iload_n hx hb dX12_part_83 rfl (lv_at hl 2 rfl) ?_
            refine M_iast hL C0 hw h (k := (gI t15 0 (0) 8).toNatClampNeg) rfl dX12_part_84 (fun t16 H locs hw h => ?_)
            refine lv_aload_n hx hb dX12_part_85 rfl (lv_at hl 0 rfl) ?_
            refine M_g0_30 C0 hw (fun w h => (List.mem_cons_of_mem _ (List.mem_append_right _ h))) (by decide) ((List.mem_cons_of_mem _ (List.mem_append_left _ (List.mem_of_getElem? (i := 7) rfl)))) dX12_part_86 ?_
            refine lv_aload_n hx hb dX12_part_89 rfl (lv_at hl 0 rfl) ?_
            refine M_g0_8 C0 hw (fun w h => (List.mem_cons_of_mem _ (List.mem_append_right _ h))) (by decide) ((List.mem_cons_of_mem _ (List.mem_append_left _ (List.mem_of_getElem? (i := 4) rfl)))) dX12_part_90 ?_
            refine lv_iload_n hx hb dX12_part_93 rfl (lv_at hl 3 rfl) ?_
            refine M_iast hL C0 hw h (k := (gI t16 0 (0) 8).toNatClampNeg) rfl dX12_part_94 (fun t17 H locs hw h => ?_)
            refine lv_aload_n hx hb dX12_part_95 rfl (lv_at hl 0 rfl) ?_
            refine lv_dup hx hb dX12_part_96 rfl ?_
            refine M_g0_8 C0 hw (fun w h => (List.mem_cons_of_mem _ (List.mem_append_right _ h))) (by decide) ((List.mem_cons_of_mem _ (List.mem_append_left _ (List.mem_of_getElem? (i := 4) rfl)))) dX12_part_97 ?_
            refine lv_iconst (v := 1) hx hb dX12_part_100 (by decide) ?_
            refine lv_iadd hx hb dX12_part_101 ?_
            refine M_p0_8 hL C0 hw (fun w h => (List.mem_cons_of_mem _ (List.mem_append_right _ h))) (by decide) h ((List.mem_cons_of_mem _ (List.mem_append_left _ (List.mem_of_getElem? (i := 4) rfl)))) dX12_part_102 (fun t18 H locs hw h => ?_)
            refine lv_aload_n hx hb dX12_part_105 rfl (lv_at hl 0 rfl) ?_
            refine lv_iconst (v := 0) hx hb dX12_part_106 (by decide) ?_
            refine M_p0_9 hL C0 hw (fun w h => (List.mem_cons_of_mem _ (List.mem_append_right _ h))) (by decide) h ((List.mem_cons_of_mem _ (List.mem_append_left _ (List.mem_of_getElem? (i := 8) rfl)))) dX12_part_107 (fun t19 H locs hw h => ?_)
            refine lv_aload_n hx hb dX12_part_110 rfl (lv_at hl 0 rfl) ?_
            refine M_g0_8 C0 hw (fun w h => (List.mem_cons_of_mem _ (List.mem_append_right _ h))) (by decide) ((List.mem_cons_of_mem _ (List.mem_append_left _ (List.mem_of_getElem? (i := 4) rfl)))) dX12_part_111 ?_
            cases h
            exact W.iret hx hb hr (M_fin C0 hw) hw.2.2.2 dX12_part_114 hlocks
          · have h := ifp h hc14
            refine lv_aload_n hx hb dX12_part_59 rfl (lv_at hl 0 rfl) ?_
            refine lv_iconst (v := 1) hx hb dX12_part_60 (by decide) ?_
            obtain ⟨⟨v20, t21⟩, hf22, h⟩ := bn_c h
            have h := un2_d h
            refine M_callV C0 hw (As := [.int (1 : Int32)]) (rest := []) (mX12_no l E hL t1 hf22) (cwV 1 C0.1.2.2.2.2 gX12_part_X12_no rfl rfl rfl (by decide +kernel) ⟨Nat.le_of_ble_eq_true rfl, Nat.le_of_ble_eq_true rfl⟩) (M_recv_0 C0 hw (by decide)) rfl hl.1 rfl (Nat.le_of_ble_eq_true rfl) dX12_part_61 ⟨Nat.zero_le _, Nat.zero_le _⟩ (fun H locs hw => ?_)
            refine W.eq (g2 := F0 m 64 ls [.int v20]) rfl ?_
            cases h
            exact W.iret hx hb hr (M_fin C0 hw) hw.2.2.2 dX12_part_64 hlocks
        · have h := ifn h hc13
          refine lv_aload_n hx hb dX12_part_44 rfl (lv_at hl 0 rfl) ?_
          refine lv_iconst (v := 3) hx hb dX12_part_45 (by decide) ?_
          obtain ⟨⟨v23, t24⟩, hf25, h⟩ := bn_c h
          have h := un2_d h
          refine M_callV C0 hw (As := [.int (3 : Int32)]) (rest := []) (mX12_no l E hL t1 hf25) (cwV 1 C0.1.2.2.2.2 gX12_part_X12_no rfl rfl rfl (by decide +kernel) ⟨Nat.le_of_ble_eq_true rfl, Nat.le_of_ble_eq_true rfl⟩) (M_recv_0 C0 hw (by decide)) rfl hl.1 rfl (Nat.le_of_ble_eq_true rfl) dX12_part_46 ⟨Nat.zero_le _, Nat.zero_le _⟩ (fun H locs hw => ?_)
          refine W.eq (g2 := F0 m 49 ls [.int v23]) rfl ?_
          cases h
          exact W.iret hx hb hr (M_fin C0 hw) hw.2.2.2 dX12_part_49 hlocks
    · have h := ifp h hc8
      refine lv_aload_n hx hb dX12_part_28 rfl (lv_at hl 0 rfl) ?_
      refine lv_iconst (v := 2) hx hb dX12_part_29 (by decide) ?_
      obtain ⟨⟨v26, t27⟩, hf28, h⟩ := bn_c h
      have h := un2_d h
      refine M_callV C0 hw (As := [.int (2 : Int32)]) (rest := []) (mX12_no l E hL t1 hf28) (cwV 1 C0.1.2.2.2.2 gX12_part_X12_no rfl rfl rfl (by decide +kernel) ⟨Nat.le_of_ble_eq_true rfl, Nat.le_of_ble_eq_true rfl⟩) (M_recv_0 C0 hw (by decide)) rfl hl.1 rfl (Nat.le_of_ble_eq_true rfl) dX12_part_30 ⟨Nat.zero_le _, Nat.zero_le _⟩ (fun H locs hw => ?_)
      refine W.eq (g2 := F0 m 33 ls [.int v26]) rfl ?_
      cases h
      exact W.iret hx hb hr (M_fin C0 hw) hw.2.2.2 dX12_part_33 hlocks
  refine lv_if_eq (tgt := 18) hx hb dX12_part_8 (by decide) (fun hc29 => ?_) (fun hc29 => ?_)
  · have h := ifp h hc29
    refine lv_aload_n hx hb dX12_part_18 rfl (lv_at hl 0 rfl) ?_
    refine M_g0_4 C0 hw (fun w h => (List.mem_cons_of_mem _ (List.mem_append_right _ h))) (by decide) ((List.mem_cons_of_mem _ (List.mem_append_left _ (List.mem_of_getElem? (i := 2) rfl)))) dX12_part_19 ?_
    exact HJ3 _ h _ _ hw _ (lv_sub hl [0, 1, 2, 3] rfl)
  · have h := ifn h hc29
    refine lv_aload_n hx hb dX12_part_11 rfl (lv_at hl 0 rfl) ?_
    refine M_g0_6 C0 hw (fun w h => (List.mem_cons_of_mem _ (List.mem_append_right _ h))) (by decide) ((List.mem_cons_of_mem _ (List.mem_append_left _ (List.mem_of_getElem? (i := 1) rfl)))) dX12_part_12 ?_
    refine lv_goto (tgt := 22) hx hb dX12_part_15 (by decide) ?_
    exact HJ3 _ h _ _ hw _ (lv_sub hl [0, 1, 2, 3] rfl)

def fX12_quotient (a1 : UInt32) : Option UInt64 :=
  nd (FP.f2d a1) fun (v1 : UInt64) =>
  jn (fun (v5 : UInt64) =>
   nd (FP.dsub FP.dconst1 v5) fun (v6 : UInt64) =>
   nd (FP.dsub FP.dconst1 v5) fun (v7 : UInt64) =>
   nd (FP.dmul v6 v7) fun (v8 : UInt64) =>
   nd (FP.dmul (4611686018427387904 : UInt64) v5) fun (v9 : UInt64) =>
   nd (FP.ddiv v8 v9) fun (v10 : UInt64) =>
   some v10) fun K2 =>
  if 0 ≤ Op.cmpValue (FP.dcmp v1 (4557750909289998844 : UInt64)) CmpOp.g then (
   K2 v1) else (
   K2 (4557750909289998844 : UInt64))
set_option maxHeartbeats 4000000 in
set_option maxRecDepth 100000 in
theorem mX12_quotient (l : Launch) (E : XE) (hL : LM E) (st : Sto) {a1 : UInt32} {r : UInt64} (h : fX12_quotient a1 = some r) : Met l yX12_quotient wsX12_quotient ({ frames := 0, cells := 0, slots := 0, locals := 0 }) (va_Pc [.ref (E.2.2.1 0 (0)), .float a1] (RM E st)) (QM E (some (.double r)) st) 0 0 E.2.2.2 := by
  refine Met.ofW (cc := cX12_quotient) (maxL := 4) (ret := (some .double)) (by decide) rfl ?_
  intro p e s m args below meth c s₁ B hml hv
  obtain ⟨rfl, hP, hK⟩ := hv
  have hown : s.vm.findClass RX12 = some m.cls := findClass_of_methodNamed B.named
  have C0 : CX p m c cX12_quotient 4 s _ wsX12_quotient RX12 E := ⟨⟨B.exec, B.bytes, hml, hown, atoms_spec (ws := wsX12_quotient) B.pre⟩, hK⟩
  have hx := B.exec
  have hb := B.bytes
  have hr := B.returns
  have hlocks := B.notSynchronized
  have hw : SM E s st s.heap [] := ⟨hP, va_S.rf⟩
  have hl := lv_entry ([.ref (E.2.2.1 0 (0)), .float a1]) (n := 4) (Nat.le_of_ble_eq_true rfl)
  rw [lg_entry_eq]
  generalize (lg_sl ([.ref (E.2.2.1 0 (0)), .float a1]) ++ List.replicate (4 - (lg_sl ([.ref (E.2.2.1 0 (0)), .float a1])).length) Slot.unset).toArray = ls at hl ⊢
  have hl : lv_has ls 4 [(0, .ref (E.2.2.1 0 (0))), (1, .float a1)] := hl
  unfold fX12_quotient at h
  refine lv_fload_n hx hb dX12_quotient_0 rfl (lv_at hl 1 rfl) ?_
  refine x_f2d hx hb h dX12_quotient_1 (fun v1 h => ?_)
  refine lv_dstore_n (lv' := [(2, .double v1), (0, .ref (E.2.2.1 0 (0))), (1, .float a1)]) hx hb dX12_quotient_2 rfl hl (by decide) rfl (fun ls hl => ?_)
  refine lv_dload_n hx hb dX12_quotient_3 rfl (lv_at hl 0 rfl) ?_
  refine lv_ldc2d hx hb hown (C0.1.2.2.2.2 _ (List.mem_cons_of_mem _ (List.mem_of_getElem? (i := 0) rfl))) dX12_quotient_4 ?_
  refine lv_dcmp hx hb dX12_quotient_7 ?_
  refine jn_c h (fun K2 hK4 h => ?_)
  have HJ3 : ∀ (v5 : UInt64), K2 v5 = some r → ∀ (H : Heap) (locs : List Loc), SM E s st H locs → ∀ ls : Array Slot, lv_has ls 4 [(2, .double v5)] → W p l e (headSpec wsX12_quotient ({ frames := 0, cells := 0, slots := 0, locals := 0 })).room s m ([.ref (E.2.2.1 0 (0)), .float a1] : List Value).toArray below meth c H locs 0 0 (MQ below (QM E (some (.double r)) st) ([.ref (E.2.2.1 0 (0)), .float a1] : List Value).toArray s 0 0 E.2.2.2) (F0 m 15 ls []) := by
    intro v5 h H locs hw ls hl
    have h := kk1 h hK4
    refine lv_dconst1 hx hb dX12_quotient_15 ?_
    refine lv_dload_n hx hb dX12_quotient_16 rfl (lv_at hl 0 rfl) ?_
    refine x_dsub hx hb h dX12_quotient_17 (fun v6 h => ?_)
    refine lv_dconst1 hx hb dX12_quotient_18 ?_
    refine lv_dload_n hx hb dX12_quotient_19 rfl (lv_at hl 0 rfl) ?_
    refine x_dsub hx hb h dX12_quotient_20 (fun v7 h => ?_)
    refine x_dmul hx hb h dX12_quotient_21 (fun v8 h => ?_)
    refine lv_ldc2d hx hb hown (C0.1.2.2.2.2 _ (List.mem_cons_of_mem _ (List.mem_of_getElem? (i := 1) rfl))) dX12_quotient_22 ?_
    refine lv_dload_n hx hb dX12_quotient_25 rfl (lv_at hl 0 rfl) ?_
    refine x_dmul hx hb h dX12_quotient_26 (fun v9 h => ?_)
    refine x_ddiv hx hb h dX12_quotient_27 (fun v10 h => ?_)
    cases h
    exact W.dret hx hb hr (M_fin C0 hw) hw.2.2.2 dX12_quotient_28 hlocks
  refine lv_if_ge (tgt := 15) hx hb dX12_quotient_8 (by decide) (fun hc11 => ?_) (fun hc11 => ?_)
  · have h := ifp h hc11
    exact HJ3 _ h _ _ hw _ (lv_sub hl [0] rfl)
  · have h := ifn h hc11
    refine lv_ldc2d hx hb hown (C0.1.2.2.2.2 _ (List.mem_cons_of_mem _ (List.mem_of_getElem? (i := 0) rfl))) dX12_quotient_11 ?_
    refine lv_dstore_n (lv' := [(2, .double (4557750909289998844 : UInt64)), (0, .ref (E.2.2.1 0 (0))), (1, .float a1)]) hx hb dX12_quotient_14 rfl hl (by decide) rfl (fun ls hl => ?_)
    exact HJ3 _ h _ _ hw _ (lv_sub hl [0] rfl)

def fX12_own (a1 : Int32) (a2 : Int32) (a3 : Int32) (st : Sto) : Option UInt64 :=
  ck (0 ≤ (((16 : Int32) * (((62 : Int32) + ((6 : Int32) * a1)) + a2)) + a3).toInt ∧ (((16 : Int32) * (((62 : Int32) + ((6 : Int32) * a1)) + a2)) + a3).toInt < (lFM (1) (0) : Int)) (
   (fX12_quotient (gF st (1) (0) ((((16 : Int32) * (((62 : Int32) + ((6 : Int32) * a1)) + a2)) + a3).toNatClampNeg))).bind (fun (v1 : UInt64) =>
    ck (0 ≤ a1.toInt ∧ a1.toInt < (lIM (12) (0) : Int)) (
     ck (0 ≤ (((16 : Int32) * ((41 : Int32) + (gI st (12) (0) (a1.toNatClampNeg)))) + a3).toInt ∧ (((16 : Int32) * ((41 : Int32) + (gI st (12) (0) (a1.toNatClampNeg)))) + a3).toInt < (lFM (1) (0) : Int)) (
      (fX12_quotient (gF st (1) (0) ((((16 : Int32) * ((41 : Int32) + (gI st (12) (0) (a1.toNatClampNeg)))) + a3).toNatClampNeg))).bind (fun (v3 : UInt64) =>
       nd (FP.dsub v1 v3) fun (v5 : UInt64) =>
       if 0 ≤ Op.cmpValue (FP.dcmp v5 FP.dconst0) CmpOp.g then (
        some v5) else (
        some FP.dconst0))))))
set_option maxHeartbeats 4000000 in
set_option maxRecDepth 100000 in
theorem mX12_own (l : Launch) (E : XE) (hL : LM E) (st : Sto) {a1 : Int32} {a2 : Int32} {a3 : Int32} {r : UInt64} (h : fX12_own a1 a2 a3 st = some r) : Met l yX12_own wsX12_own ({ frames := 1, cells := 0, slots := 0, locals := 23 }) (va_Pc [.ref (E.2.2.1 0 (0)), .int a1, .int a2, .int a3] (RM E st)) (QM E (some (.double r)) st) 0 0 E.2.2.2 := by
  refine Met.ofW (cc := cX12_own) (maxL := 6) (ret := (some .double)) (by decide) rfl ?_
  intro p e s m args below meth c s₁ B hml hv
  obtain ⟨rfl, hP, hK⟩ := hv
  have hown : s.vm.findClass RX12 = some m.cls := findClass_of_methodNamed B.named
  have C0 : CX p m c cX12_own 6 s _ wsX12_own RX12 E := ⟨⟨B.exec, B.bytes, hml, hown, atoms_spec (ws := wsX12_own) B.pre⟩, hK⟩
  have hx := B.exec
  have hb := B.bytes
  have hr := B.returns
  have hlocks := B.notSynchronized
  have hw : SM E s st s.heap [] := ⟨hP, va_S.rf⟩
  have hl := lv_entry ([.ref (E.2.2.1 0 (0)), .int a1, .int a2, .int a3]) (n := 6) (Nat.le_of_ble_eq_true rfl)
  rw [lg_entry_eq]
  generalize (lg_sl ([.ref (E.2.2.1 0 (0)), .int a1, .int a2, .int a3]) ++ List.replicate (6 - (lg_sl ([.ref (E.2.2.1 0 (0)), .int a1, .int a2, .int a3])).length) Slot.unset).toArray = ls at hl ⊢
  have hl : lv_has ls 6 [(0, .ref (E.2.2.1 0 (0))), (1, .int a1), (2, .int a2), (3, .int a3)] := hl
  unfold fX12_own at h
  refine lv_aload_n hx hb dX12_own_0 rfl (lv_at hl 0 rfl) ?_
  refine lv_aload_n hx hb dX12_own_1 rfl (lv_at hl 0 rfl) ?_
  refine M_g0_0 C0 hw (fun w h => (List.mem_cons_of_mem _ (List.mem_append_right _ h))) (by decide) ((List.mem_cons_of_mem _ (List.mem_append_left _ (List.mem_of_getElem? (i := 0) rfl)))) dX12_own_2 ?_
  refine lv_bipush (v := 16) hx hb dX12_own_5 (by decide) ?_
  refine lv_bipush (v := 62) hx hb dX12_own_7 (by decide) ?_
  refine lv_bipush (v := 6) hx hb dX12_own_9 (by decide) ?_
  refine lv_iload_n hx hb dX12_own_11 rfl (lv_at hl 1 rfl) ?_
  refine lv_imul hx hb dX12_own_12 ?_
  refine lv_iadd hx hb dX12_own_13 ?_
  refine lv_iload_n hx hb dX12_own_14 rfl (lv_at hl 2 rfl) ?_
  refine lv_iadd hx hb dX12_own_15 ?_
  refine lv_imul hx hb dX12_own_16 ?_
  refine lv_iload_n hx hb dX12_own_17 rfl (lv_at hl 3 rfl) ?_
  refine lv_iadd hx hb dX12_own_18 ?_
  refine M_fald C0 hw h (k := (((16 : Int32) * (((62 : Int32) + ((6 : Int32) * a1)) + a2)) + a3).toNatClampNeg) rfl dX12_own_19 (fun h => ?_)
  obtain ⟨v1, hf2, h⟩ := bn_c h
  refine M_callV C0 hw (As := [.float (gF st (1) (0) ((((16 : Int32) * (((62 : Int32) + ((6 : Int32) * a1)) + a2)) + a3).toNatClampNeg))]) (rest := []) (mX12_quotient l E hL st hf2) (cwV 1 C0.1.2.2.2.2 gX12_own_X12_quotient rfl rfl rfl (by decide +kernel) ⟨Nat.le_of_ble_eq_true rfl, Nat.le_of_ble_eq_true rfl⟩) (M_recv_0 C0 hw (by decide)) rfl hl.1 rfl (Nat.le_of_ble_eq_true rfl) dX12_own_20 ⟨Nat.zero_le _, Nat.zero_le _⟩ (fun H locs hw => ?_)
  refine W.eq (g2 := F0 m 23 ls [.double v1]) rfl ?_
  refine lv_aload_n hx hb dX12_own_23 rfl (lv_at hl 0 rfl) ?_
  refine lv_aload_n hx hb dX12_own_24 rfl (lv_at hl 0 rfl) ?_
  refine M_g0_0 C0 hw (fun w h => (List.mem_cons_of_mem _ (List.mem_append_right _ h))) (by decide) ((List.mem_cons_of_mem _ (List.mem_append_left _ (List.mem_of_getElem? (i := 0) rfl)))) dX12_own_25 ?_
  refine lv_bipush (v := 16) hx hb dX12_own_28 (by decide) ?_
  refine lv_bipush (v := 41) hx hb dX12_own_30 (by decide) ?_
  refine lv_aload_n hx hb dX12_own_32 rfl (lv_at hl 0 rfl) ?_
  refine M_g0_11 C0 hw (fun w h => (List.mem_cons_of_mem _ (List.mem_append_right _ h))) (by decide) ((List.mem_cons_of_mem _ (List.mem_append_left _ (List.mem_of_getElem? (i := 1) rfl)))) dX12_own_33 ?_
  refine lv_iload_n hx hb dX12_own_36 rfl (lv_at hl 1 rfl) ?_
  refine M_iald C0 hw h (k := a1.toNatClampNeg) rfl dX12_own_37 (fun h => ?_)
  refine lv_iadd hx hb dX12_own_38 ?_
  refine lv_imul hx hb dX12_own_39 ?_
  refine lv_iload_n hx hb dX12_own_40 rfl (lv_at hl 3 rfl) ?_
  refine lv_iadd hx hb dX12_own_41 ?_
  refine M_fald C0 hw h (k := (((16 : Int32) * ((41 : Int32) + (gI st (12) (0) (a1.toNatClampNeg)))) + a3).toNatClampNeg) rfl dX12_own_42 (fun h => ?_)
  obtain ⟨v3, hf4, h⟩ := bn_c h
  refine M_callV C0 hw (As := [.float (gF st (1) (0) ((((16 : Int32) * ((41 : Int32) + (gI st (12) (0) (a1.toNatClampNeg)))) + a3).toNatClampNeg))]) (rest := [.double v1]) (mX12_quotient l E hL st hf4) (cwV 1 C0.1.2.2.2.2 gX12_own_X12_quotient rfl rfl rfl (by decide +kernel) ⟨Nat.le_of_ble_eq_true rfl, Nat.le_of_ble_eq_true rfl⟩) (M_recv_0 C0 hw (by decide)) rfl hl.1 rfl (Nat.le_of_ble_eq_true rfl) dX12_own_43 ⟨Nat.zero_le _, Nat.zero_le _⟩ (fun H locs hw => ?_)
  refine W.eq (g2 := F0 m 46 ls [.double v3, .double v1]) rfl ?_
  refine x_dsub hx hb h dX12_own_46 (fun v5 h => ?_)
  refine lv_dstore (lv' := [(4, .double v5), (0, .ref (E.2.2.1 0 (0))), (1, .int a1), (2, .int a2), (3, .int a3)]) hx hb dX12_own_47 hl (by decide) rfl (fun ls hl => ?_)
  refine lv_dload hx hb dX12_own_49 (lv_at hl 0 rfl) ?_
  refine lv_dconst0 hx hb dX12_own_51 ?_
  refine lv_dcmp hx hb dX12_own_52 ?_
  refine lv_if_ge (tgt := 60) hx hb dX12_own_53 (by decide) (fun hc6 => ?_) (fun hc6 => ?_)
  · have h := ifp h hc6
    refine lv_dload hx hb dX12_own_60 (lv_at hl 0 rfl) ?_
    cases h
    exact W.dret hx hb hr (M_fin C0 hw) hw.2.2.2 dX12_own_62 hlocks
  · have h := ifn h hc6
    refine lv_dconst0 hx hb dX12_own_56 ?_
    refine lv_goto (tgt := 62) hx hb dX12_own_57 (by decide) ?_
    cases h
    exact W.dret hx hb hr (M_fin C0 hw) hw.2.2.2 dX12_own_62 hlocks
