def fX12_axisOf (a1 : Int32) (a2 : Int32) (a3 : Int32) (a4 : Int32) (st : Sto) : Option UInt64 :=
  ((lp (σ := (Int32 × Int64 × UInt64)) (ρ := (UInt64 × Int64)) (un3 fun (v4 : Int32) (v5 : Int64) (v6 : UInt64) =>
     if (16 : Int32) ≤ v4 then (
      some (.inr (v6, v5))) else (
      ck (0 ≤ (((16 : Int32) * a2) + v4).toInt ∧ (((16 : Int32) * a2) + v4).toInt < (lIM (27) (0) : Int)) (
       ck (0 ≤ ((((48 : Int32) * a3) + ((16 : Int32) * a4)) + v4).toInt ∧ ((((48 : Int32) * a3) + ((16 : Int32) * a4)) + v4).toInt < (lIM (28) (0) : Int)) (
        lt1 (((gI st (27) (0) ((((16 : Int32) * a2) + v4).toNatClampNeg)).toInt64) * ((gI st (28) (0) (((((48 : Int32) * a3) + ((16 : Int32) * a4)) + v4).toNatClampNeg)).toInt64)) fun (v16 : Int64) =>
        ck (0 ≤ (((16 : Int32) * a1) + v4).toInt ∧ (((16 : Int32) * a1) + v4).toInt < (lFM (1) (0) : Int)) (
         nd (FP.f2d (gF st (1) (0) ((((16 : Int32) * a1) + v4).toNatClampNeg))) fun (v17 : UInt64) =>
         nd (FP.dmul v17 (FP.l2d v16)) fun (v18 : UInt64) =>
         nd (FP.dadd v6 v18) fun (v19 : UInt64) =>
         lt1 (v5 + v16) fun (v20 : Int64) =>
         lt1 (v4 + Int32.ofInt (1)) fun (v21 : Int32) =>
         some (.inl (v21, v20, v19))))))) 4000 ((0 : Int32), (0 : Int64), FP.dconst0)).bind
   (un2 fun (v7 : UInt64) (v8 : Int64) =>
    if lg_cmp v8 (0 : Int64) = 0 then (
     (fX12_rootOf FP.dconst0).bind (fun (v26 : UInt64) =>
      some v26)) else (
     nd (FP.ddiv v7 (FP.l2d v8)) fun (v23 : UInt64) =>
     (fX12_rootOf v23).bind (fun (v24 : UInt64) =>
      some v24))))
set_option maxHeartbeats 4000000 in
set_option maxRecDepth 100000 in
theorem mX12_axisOf (l : Launch) (E : XE) (hL : LM E) (st : Sto) {a1 : Int32} {a2 : Int32} {a3 : Int32} {a4 : Int32} {r : UInt64} (h : fX12_axisOf a1 a2 a3 a4 st = some r) : Met l yX12_axisOf wsX12_axisOf ({ frames := 3, cells := 0, slots := 0, locals := 78 }) (va_Pc [.ref (E.2.2.1 0 (0)), .int a1, .int a2, .int a3, .int a4] (RM E st)) (QM E (some (.double r)) st) 0 0 E.2.2.2 := by
  refine Met.ofW (cc := cX12_axisOf) (maxL := 14) (ret := (some .double)) (by decide) rfl ?_
  intro p e s m args below meth c s₁ B hml hv
  obtain ⟨rfl, hP, hK⟩ := hv
  have hown : s.vm.findClass RX12 = some m.cls := findClass_of_methodNamed B.named
  have C0 : CX p m c cX12_axisOf 14 s _ wsX12_axisOf RX12 E := ⟨⟨B.exec, B.bytes, hml, hown, atoms_spec (ws := wsX12_axisOf) B.pre⟩, hK⟩
  have hx := B.exec
  have hb := B.bytes
  have hr := B.returns
  have hlocks := B.notSynchronized
  have hw : SM E s st s.heap [] := ⟨hP, va_S.rf⟩
  have hl := lv_entry ([.ref (E.2.2.1 0 (0)), .int a1, .int a2, .int a3, .int a4]) (n := 14) (Nat.le_of_ble_eq_true rfl)
  rw [lg_entry_eq]
  generalize (lg_sl ([.ref (E.2.2.1 0 (0)), .int a1, .int a2, .int a3, .int a4]) ++ List.replicate (14 - (lg_sl ([.ref (E.2.2.1 0 (0)), .int a1, .int a2, .int a3, .int a4])).length) Slot.unset).toArray = ls at hl ⊢
  have hl : lv_has ls 14 [(0, .ref (E.2.2.1 0 (0))), (1, .int a1), (2, .int a2), (3, .int a3), (4, .int a4)] := hl
  unfold fX12_axisOf at h
  refine lv_dconst0 hx hb dX12_axisOf_0 ?_
  refine lv_dstore (lv' := [(5, .double FP.dconst0), (0, .ref (E.2.2.1 0 (0))), (1, .int a1), (2, .int a2), (3, .int a3), (4, .int a4)]) hx hb dX12_axisOf_1 hl (by decide) rfl (fun ls hl => ?_)
  refine lv_lconst (v := 0) hx hb dX12_axisOf_3 (by decide) ?_
  refine lv_lstore (lv' := [(7, .long (0 : Int64)), (5, .double FP.dconst0), (0, .ref (E.2.2.1 0 (0))), (1, .int a1), (2, .int a2), (3, .int a3), (4, .int a4)]) hx hb dX12_axisOf_4 hl (by decide) rfl (fun ls hl => ?_)
  refine lv_iconst (v := 0) hx hb dX12_axisOf_6 (by decide) ?_
  refine lv_istore (lv' := [(9, .int (0 : Int32)), (7, .long (0 : Int64)), (5, .double FP.dconst0), (0, .ref (E.2.2.1 0 (0))), (1, .int a1), (2, .int a2), (3, .int a3), (4, .int a4)]) hx hb dX12_axisOf_7 hl (by decide) rfl (fun ls hl => ?_)
  refine lp_ind (fun q : (Int32 × Int64 × UInt64) => ∀ (H : Heap) (locs : List Loc), SM E s st H locs → ∀ ls : Array Slot, lv_has ls 14 [(9, .int (q.1)), (7, .long (q.2.1)), (5, .double (q.2.2)), (0, .ref (E.2.2.1 0 (0))), (1, .int a1), (2, .int a2), (3, .int a3), (4, .int a4)] → W p l e (headSpec wsX12_axisOf ({ frames := 3, cells := 0, slots := 0, locals := 78 })).room s m ([.ref (E.2.2.1 0 (0)), .int a1, .int a2, .int a3, .int a4] : List Value).toArray below meth c H locs 0 0 (MQ below (QM E (some (.double r)) st) ([.ref (E.2.2.1 0 (0)), .int a1, .int a2, .int a3, .int a4] : List Value).toArray s 0 0 E.2.2.2) (F0 m 9 ls [])) (fun q o3 h hB2 hX1 => ?_) _ _ h _ _ hw _ (lv_sub hl [0, 1, 2, 3, 4, 5, 6, 7] rfl)
  intro H locs hw ls hl
  obtain ⟨v4, v5, v6⟩ := q
  have h := un3_d h
  have hl : lv_has ls 14 [(9, .int v4), (7, .long v5), (5, .double v6), (0, .ref (E.2.2.1 0 (0))), (1, .int a1), (2, .int a2), (3, .int a3), (4, .int a4)] := hl
  refine lv_iload hx hb dX12_axisOf_9 (lv_at hl 0 rfl) ?_
  refine lv_bipush (v := 16) hx hb dX12_axisOf_11 (by decide) ?_
  refine lv_icmp_ge (tgt := 90) hx hb dX12_axisOf_13 (by decide) (fun hc9 => ?_) (fun hc9 => ?_)
  · have h := ifp h hc9
    have h := hX1 _ (Option.some.inj h).symm
    have h := un2_d h
    have hl := lv_sub hl (l' := [(0, .ref (E.2.2.1 0 (0))), (5, .double v6), (7, .long v5)]) [3, 2, 1] rfl
    refine lv_lload hx hb dX12_axisOf_90 (lv_at hl 2 rfl) ?_
    refine lv_lconst (v := 0) hx hb dX12_axisOf_92 (by decide) ?_
    refine W.lcmp hx hb dX12_axisOf_93 ?_
    refine lv_if_ne (tgt := 105) hx hb dX12_axisOf_94 (by decide) (fun hc10 => ?_) (fun hc10 => ?_)
    · have h := ifn h hc10
      refine lv_aload_n hx hb dX12_axisOf_105 rfl (lv_at hl 0 rfl) ?_
      refine lv_dload hx hb dX12_axisOf_106 (lv_at hl 1 rfl) ?_
      refine lv_lload hx hb dX12_axisOf_108 (lv_at hl 2 rfl) ?_
      refine lv_l2d hx hb dX12_axisOf_110 ?_
      refine x_ddiv hx hb h dX12_axisOf_111 (fun v11 h => ?_)
      obtain ⟨v12, hf13, h⟩ := bn_c h
      refine M_callV C0 hw (As := [.double v11]) (rest := []) (mX12_rootOf l E hL st hf13) (cwV 1 C0.1.2.2.2.2 gX12_axisOf_X12_rootOf rfl rfl rfl (by decide +kernel) ⟨Nat.le_of_ble_eq_true rfl, Nat.le_of_ble_eq_true rfl⟩) (M_recv_0 C0 hw (by decide)) rfl hl.1 rfl (Nat.le_of_ble_eq_true rfl) dX12_axisOf_112 ⟨Nat.zero_le _, Nat.zero_le _⟩ (fun H locs hw => ?_)
      refine W.eq (g2 := F0 m 115 ls [.double v12]) rfl ?_
      cases h
      exact W.dret hx hb hr (M_fin C0 hw) hw.2.2.2 dX12_axisOf_115 hlocks
    · have h := ifp h hc10
      refine lv_aload_n hx hb dX12_axisOf_97 rfl (lv_at hl 0 rfl) ?_
      refine lv_dconst0 hx hb dX12_axisOf_98 ?_
      obtain ⟨v14, hf15, h⟩ := bn_c h
      refine M_callV C0 hw (As := [.double FP.dconst0]) (rest := []) (mX12_rootOf l E hL st hf15) (cwV 1 C0.1.2.2.2.2 gX12_axisOf_X12_rootOf rfl rfl rfl (by decide +kernel) ⟨Nat.le_of_ble_eq_true rfl, Nat.le_of_ble_eq_true rfl⟩) (M_recv_0 C0 hw (by decide)) rfl hl.1 rfl (Nat.le_of_ble_eq_true rfl) dX12_axisOf_99 ⟨Nat.zero_le _, Nat.zero_le _⟩ (fun H locs hw => ?_)
      refine W.eq (g2 := F0 m 102 ls [.double v14]) rfl ?_
      refine lv_goto (tgt := 115) hx hb dX12_axisOf_102 (by decide) ?_
      cases h
      exact W.dret hx hb hr (M_fin C0 hw) hw.2.2.2 dX12_axisOf_115 hlocks
  · have h := ifn h hc9
    refine lv_aload_n hx hb dX12_axisOf_16 rfl (lv_at hl 3 rfl) ?_
    refine M_g0_26 C0 hw (fun w h => (List.mem_cons_of_mem _ (List.mem_append_right _ h))) (by decide) ((List.mem_cons_of_mem _ (List.mem_append_left _ (List.mem_append_left _ (List.mem_of_getElem? (i := 0) rfl))))) dX12_axisOf_17 ?_
    refine lv_bipush (v := 16) hx hb dX12_axisOf_20 (by decide) ?_
    refine lv_iload_n hx hb dX12_axisOf_22 rfl (lv_at hl 5 rfl) ?_
    refine lv_imul hx hb dX12_axisOf_23 ?_
    refine lv_iload hx hb dX12_axisOf_24 (lv_at hl 0 rfl) ?_
    refine lv_iadd hx hb dX12_axisOf_26 ?_
    refine M_iald C0 hw h (k := (((16 : Int32) * a2) + v4).toNatClampNeg) rfl dX12_axisOf_27 (fun h => ?_)
    refine lv_i2l hx hb dX12_axisOf_28 rfl ?_
    refine lv_aload_n hx hb dX12_axisOf_29 rfl (lv_at hl 3 rfl) ?_
    refine M_g0_27 C0 hw (fun w h => (List.mem_cons_of_mem _ (List.mem_append_right _ h))) (by decide) ((List.mem_cons_of_mem _ (List.mem_append_left _ (List.mem_append_left _ (List.mem_of_getElem? (i := 1) rfl))))) dX12_axisOf_30 ?_
    refine lv_bipush (v := 48) hx hb dX12_axisOf_33 (by decide) ?_
    refine lv_iload_n hx hb dX12_axisOf_35 rfl (lv_at hl 6 rfl) ?_
    refine lv_imul hx hb dX12_axisOf_36 ?_
    refine lv_bipush (v := 16) hx hb dX12_axisOf_37 (by decide) ?_
    refine lv_iload hx hb dX12_axisOf_39 (lv_at hl 7 rfl) ?_
    refine lv_imul hx hb dX12_axisOf_41 ?_
    refine lv_iadd hx hb dX12_axisOf_42 ?_
    refine lv_iload hx hb dX12_axisOf_43 (lv_at hl 0 rfl) ?_
    refine lv_iadd hx hb dX12_axisOf_45 ?_
    refine M_iald C0 hw h (k := ((((48 : Int32) * a3) + ((16 : Int32) * a4)) + v4).toNatClampNeg) rfl dX12_axisOf_46 (fun h => ?_)
    refine lv_i2l hx hb dX12_axisOf_47 rfl ?_
    refine lv_lmul hx hb dX12_axisOf_48 ?_
    refine x_topl h (fun v16 h => ?_)
    refine lv_lstore (lv' := [(10, .long v16), (9, .int v4), (7, .long v5), (5, .double v6), (0, .ref (E.2.2.1 0 (0))), (1, .int a1), (2, .int a2), (3, .int a3), (4, .int a4)]) hx hb dX12_axisOf_49 hl (by decide) rfl (fun ls hl => ?_)
    refine lv_aload_n hx hb dX12_axisOf_51 rfl (lv_at hl 4 rfl) ?_
    refine M_g0_0 C0 hw (fun w h => (List.mem_cons_of_mem _ (List.mem_append_right _ h))) (by decide) ((List.mem_cons_of_mem _ (List.mem_append_left _ (List.mem_append_left _ (List.mem_of_getElem? (i := 2) rfl))))) dX12_axisOf_52 ?_
    refine lv_bipush (v := 16) hx hb dX12_axisOf_55 (by decide) ?_
    refine lv_iload_n hx hb dX12_axisOf_57 rfl (lv_at hl 5 rfl) ?_
    refine lv_imul hx hb dX12_axisOf_58 ?_
    refine lv_iload hx hb dX12_axisOf_59 (lv_at hl 1 rfl) ?_
    refine lv_iadd hx hb dX12_axisOf_61 ?_
    refine M_fald C0 hw h (k := (((16 : Int32) * a1) + v4).toNatClampNeg) rfl dX12_axisOf_62 (fun h => ?_)
    refine x_f2d hx hb h dX12_axisOf_63 (fun v17 h => ?_)
    refine lv_dstore (lv' := [(12, .double v17), (10, .long v16), (9, .int v4), (7, .long v5), (5, .double v6), (0, .ref (E.2.2.1 0 (0))), (1, .int a1), (2, .int a2), (3, .int a3), (4, .int a4)]) hx hb dX12_axisOf_64 hl (by decide) rfl (fun ls hl => ?_)
    refine lv_dload hx hb dX12_axisOf_66 (lv_at hl 4 rfl) ?_
    refine lv_dload hx hb dX12_axisOf_68 (lv_at hl 0 rfl) ?_
    refine lv_lload hx hb dX12_axisOf_70 (lv_at hl 1 rfl) ?_
    refine lv_l2d hx hb dX12_axisOf_72 ?_
    refine x_dmul hx hb h dX12_axisOf_73 (fun v18 h => ?_)
    refine x_dadd hx hb h dX12_axisOf_74 (fun v19 h => ?_)
    refine lv_dstore (lv' := [(5, .double v19), (12, .double v17), (10, .long v16), (9, .int v4), (7, .long v5), (0, .ref (E.2.2.1 0 (0))), (1, .int a1), (2, .int a2), (3, .int a3), (4, .int a4)]) hx hb dX12_axisOf_75 hl (by decide) rfl (fun ls hl => ?_)
    refine lv_lload hx hb dX12_axisOf_77 (lv_at hl 4 rfl) ?_
    refine lv_lload hx hb dX12_axisOf_79 (lv_at hl 2 rfl) ?_
    refine lv_ladd hx hb dX12_axisOf_81 ?_
    refine x_topl h (fun v20 h => ?_)
    refine lv_lstore (lv' := [(7, .long v20), (5, .double v19), (12, .double v17), (10, .long v16), (9, .int v4), (0, .ref (E.2.2.1 0 (0))), (1, .int a1), (2, .int a2), (3, .int a3), (4, .int a4)]) hx hb dX12_axisOf_82 hl (by decide) rfl (fun ls hl => ?_)
    refine x_iinc hx hb h dX12_axisOf_84 hl (q := 4) rfl (fun v21 => [(9, .int v21), (7, .long v20), (5, .double v19), (12, .double v17), (10, .long v16), (0, .ref (E.2.2.1 0 (0))), (1, .int a1), (2, .int a2), (3, .int a3), (4, .int a4)]) (by decide) (fun _ => rfl) (fun v21 ls hl h => ?_)
    refine lv_goto (tgt := 9) hx hb dX12_axisOf_87 (by decide) ?_
    exact hB2 _ (Option.some.inj h).symm _ _ hw _ (lv_sub hl [0, 1, 2, 5, 6, 7, 8, 9] rfl)

def fX12_colourOf (a1 : Int32) (a2 : Int32) (a3 : Int32) (a4 : Int32) (st : Sto) : Option UInt64 :=
  if a4 = 0 then (
   (fX12_axisOf a1 a2 a3 (1 : Int32) st).bind (fun (v15 : UInt64) =>
    nd (FP.dmul (4636737291354636288 : UInt64) v15) fun (v17 : UInt64) =>
    some v17)) else (
   if a4 = (1 : Int32) then (
    (fX12_axisOf a1 a2 a3 (0 : Int32) st).bind (fun (v9 : UInt64) =>
     (fX12_axisOf a1 a2 a3 (1 : Int32) st).bind (fun (v11 : UInt64) =>
      nd (FP.dsub v9 v11) fun (v13 : UInt64) =>
      nd (FP.dmul (4643000109586448384 : UInt64) v13) fun (v14 : UInt64) =>
      some v14))) else (
    (fX12_axisOf a1 a2 a3 (1 : Int32) st).bind (fun (v3 : UInt64) =>
     (fX12_axisOf a1 a2 a3 (2 : Int32) st).bind (fun (v5 : UInt64) =>
      nd (FP.dsub v3 v5) fun (v7 : UInt64) =>
      nd (FP.dmul (4636737291354636288 : UInt64) v7) fun (v8 : UInt64) =>
      some v8))))
set_option maxHeartbeats 4000000 in
set_option maxRecDepth 100000 in
theorem mX12_colourOf (l : Launch) (E : XE) (hL : LM E) (st : Sto) {a1 : Int32} {a2 : Int32} {a3 : Int32} {a4 : Int32} {r : UInt64} (h : fX12_colourOf a1 a2 a3 a4 st = some r) : Met l yX12_colourOf wsX12_colourOf ({ frames := 4, cells := 0, slots := 0, locals := 111 }) (va_Pc [.ref (E.2.2.1 0 (0)), .int a1, .int a2, .int a3, .int a4] (RM E st)) (QM E (some (.double r)) st) 0 0 E.2.2.2 := by
  refine Met.ofW (cc := cX12_colourOf) (maxL := 5) (ret := (some .double)) (by decide) rfl ?_
  intro p e s m args below meth c s₁ B hml hv
  obtain ⟨rfl, hP, hK⟩ := hv
  have hown : s.vm.findClass RX12 = some m.cls := findClass_of_methodNamed B.named
  have C0 : CX p m c cX12_colourOf 5 s _ wsX12_colourOf RX12 E := ⟨⟨B.exec, B.bytes, hml, hown, atoms_spec (ws := wsX12_colourOf) B.pre⟩, hK⟩
  have hx := B.exec
  have hb := B.bytes
  have hr := B.returns
  have hlocks := B.notSynchronized
  have hw : SM E s st s.heap [] := ⟨hP, va_S.rf⟩
  have hl := lv_entry ([.ref (E.2.2.1 0 (0)), .int a1, .int a2, .int a3, .int a4]) (n := 5) (Nat.le_of_ble_eq_true rfl)
  rw [lg_entry_eq]
  generalize (lg_sl ([.ref (E.2.2.1 0 (0)), .int a1, .int a2, .int a3, .int a4]) ++ List.replicate (5 - (lg_sl ([.ref (E.2.2.1 0 (0)), .int a1, .int a2, .int a3, .int a4])).length) Slot.unset).toArray = ls at hl ⊢
  have hl : lv_has ls 5 [(0, .ref (E.2.2.1 0 (0))), (1, .int a1), (2, .int a2), (3, .int a3), (4, .int a4)] := hl
  unfold fX12_colourOf at h
  refine lv_iload hx hb dX12_colourOf_0 (lv_at hl 4 rfl) ?_
  refine lv_if_ne (tgt := 18) hx hb dX12_colourOf_2 (by decide) (fun hc1 => ?_) (fun hc1 => ?_)
  · have h := ifn h hc1
    refine lv_iload hx hb dX12_colourOf_18 (lv_at hl 4 rfl) ?_
    refine lv_iconst (v := 1) hx hb dX12_colourOf_20 (by decide) ?_
    refine lv_icmp_ne (tgt := 48) hx hb dX12_colourOf_21 (by decide) (fun hc2 => ?_) (fun hc2 => ?_)
    · have h := ifn h hc2
      refine lv_ldc2d hx hb hown (C0.1.2.2.2.2 _ (List.mem_cons_of_mem _ (List.mem_append_left _ (List.mem_append_left _ (List.mem_of_getElem? (i := 0) rfl))))) dX12_colourOf_48 ?_
      refine lv_aload_n hx hb dX12_colourOf_51 rfl (lv_at hl 0 rfl) ?_
      refine lv_iload_n hx hb dX12_colourOf_52 rfl (lv_at hl 1 rfl) ?_
      refine lv_iload_n hx hb dX12_colourOf_53 rfl (lv_at hl 2 rfl) ?_
      refine lv_iload_n hx hb dX12_colourOf_54 rfl (lv_at hl 3 rfl) ?_
      refine lv_iconst (v := 1) hx hb dX12_colourOf_55 (by decide) ?_
      obtain ⟨v3, hf4, h⟩ := bn_c h
      refine M_callV C0 hw (As := [.int a1, .int a2, .int a3, .int (1 : Int32)]) (rest := [.double (4636737291354636288 : UInt64)]) (mX12_axisOf l E hL st hf4) (cwV 4 C0.1.2.2.2.2 gX12_colourOf_X12_axisOf rfl rfl rfl (by decide +kernel) ⟨Nat.le_of_ble_eq_true rfl, Nat.le_of_ble_eq_true rfl⟩) (M_recv_0 C0 hw (by decide)) rfl hl.1 rfl (Nat.le_of_ble_eq_true rfl) dX12_colourOf_56 ⟨Nat.zero_le _, Nat.zero_le _⟩ (fun H locs hw => ?_)
      refine W.eq (g2 := F0 m 59 ls [.double v3, .double (4636737291354636288 : UInt64)]) rfl ?_
      refine lv_aload_n hx hb dX12_colourOf_59 rfl (lv_at hl 0 rfl) ?_
      refine lv_iload_n hx hb dX12_colourOf_60 rfl (lv_at hl 1 rfl) ?_
      refine lv_iload_n hx hb dX12_colourOf_61 rfl (lv_at hl 2 rfl) ?_
      refine lv_iload_n hx hb dX12_colourOf_62 rfl (lv_at hl 3 rfl) ?_
      refine lv_iconst (v := 2) hx hb dX12_colourOf_63 (by decide) ?_
      obtain ⟨v5, hf6, h⟩ := bn_c h
      refine M_callV C0 hw (As := [.int a1, .int a2, .int a3, .int (2 : Int32)]) (rest := [.double v3, .double (4636737291354636288 : UInt64)]) (mX12_axisOf l E hL st hf6) (cwV 4 C0.1.2.2.2.2 gX12_colourOf_X12_axisOf rfl rfl rfl (by decide +kernel) ⟨Nat.le_of_ble_eq_true rfl, Nat.le_of_ble_eq_true rfl⟩) (M_recv_0 C0 hw (by decide)) rfl hl.1 rfl (Nat.le_of_ble_eq_true rfl) dX12_colourOf_64 ⟨Nat.zero_le _, Nat.zero_le _⟩ (fun H locs hw => ?_)
      refine W.eq (g2 := F0 m 67 ls [.double v5, .double v3, .double (4636737291354636288 : UInt64)]) rfl ?_
      refine x_dsub hx hb h dX12_colourOf_67 (fun v7 h => ?_)
      refine x_dmul hx hb h dX12_colourOf_68 (fun v8 h => ?_)
      cases h
      exact W.dret hx hb hr (M_fin C0 hw) hw.2.2.2 dX12_colourOf_69 hlocks
    · have h := ifp h hc2
      refine lv_ldc2d hx hb hown (C0.1.2.2.2.2 _ (List.mem_cons_of_mem _ (List.mem_append_left _ (List.mem_append_left _ (List.mem_of_getElem? (i := 1) rfl))))) dX12_colourOf_24 ?_
      refine lv_aload_n hx hb dX12_colourOf_27 rfl (lv_at hl 0 rfl) ?_
      refine lv_iload_n hx hb dX12_colourOf_28 rfl (lv_at hl 1 rfl) ?_
      refine lv_iload_n hx hb dX12_colourOf_29 rfl (lv_at hl 2 rfl) ?_
      refine lv_iload_n hx hb dX12_colourOf_30 rfl (lv_at hl 3 rfl) ?_
      refine lv_iconst (v := 0) hx hb dX12_colourOf_31 (by decide) ?_
      obtain ⟨v9, hf10, h⟩ := bn_c h
      refine M_callV C0 hw (As := [.int a1, .int a2, .int a3, .int (0 : Int32)]) (rest := [.double (4643000109586448384 : UInt64)]) (mX12_axisOf l E hL st hf10) (cwV 4 C0.1.2.2.2.2 gX12_colourOf_X12_axisOf rfl rfl rfl (by decide +kernel) ⟨Nat.le_of_ble_eq_true rfl, Nat.le_of_ble_eq_true rfl⟩) (M_recv_0 C0 hw (by decide)) rfl hl.1 rfl (Nat.le_of_ble_eq_true rfl) dX12_colourOf_32 ⟨Nat.zero_le _, Nat.zero_le _⟩ (fun H locs hw => ?_)
      refine W.eq (g2 := F0 m 35 ls [.double v9, .double (4643000109586448384 : UInt64)]) rfl ?_
      refine lv_aload_n hx hb dX12_colourOf_35 rfl (lv_at hl 0 rfl) ?_
      refine lv_iload_n hx hb dX12_colourOf_36 rfl (lv_at hl 1 rfl) ?_
      refine lv_iload_n hx hb dX12_colourOf_37 rfl (lv_at hl 2 rfl) ?_
      refine lv_iload_n hx hb dX12_colourOf_38 rfl (lv_at hl 3 rfl) ?_
      refine lv_iconst (v := 1) hx hb dX12_colourOf_39 (by decide) ?_
      obtain ⟨v11, hf12, h⟩ := bn_c h
      refine M_callV C0 hw (As := [.int a1, .int a2, .int a3, .int (1 : Int32)]) (rest := [.double v9, .double (4643000109586448384 : UInt64)]) (mX12_axisOf l E hL st hf12) (cwV 4 C0.1.2.2.2.2 gX12_colourOf_X12_axisOf rfl rfl rfl (by decide +kernel) ⟨Nat.le_of_ble_eq_true rfl, Nat.le_of_ble_eq_true rfl⟩) (M_recv_0 C0 hw (by decide)) rfl hl.1 rfl (Nat.le_of_ble_eq_true rfl) dX12_colourOf_40 ⟨Nat.zero_le _, Nat.zero_le _⟩ (fun H locs hw => ?_)
      refine W.eq (g2 := F0 m 43 ls [.double v11, .double v9, .double (4643000109586448384 : UInt64)]) rfl ?_
      refine x_dsub hx hb h dX12_colourOf_43 (fun v13 h => ?_)
      refine x_dmul hx hb h dX12_colourOf_44 (fun v14 h => ?_)
      refine lv_goto (tgt := 69) hx hb dX12_colourOf_45 (by decide) ?_
      cases h
      exact W.dret hx hb hr (M_fin C0 hw) hw.2.2.2 dX12_colourOf_69 hlocks
  · have h := ifp h hc1
    refine lv_ldc2d hx hb hown (C0.1.2.2.2.2 _ (List.mem_cons_of_mem _ (List.mem_append_left _ (List.mem_append_left _ (List.mem_of_getElem? (i := 0) rfl))))) dX12_colourOf_5 ?_
    refine lv_aload_n hx hb dX12_colourOf_8 rfl (lv_at hl 0 rfl) ?_
    refine lv_iload_n hx hb dX12_colourOf_9 rfl (lv_at hl 1 rfl) ?_
    refine lv_iload_n hx hb dX12_colourOf_10 rfl (lv_at hl 2 rfl) ?_
    refine lv_iload_n hx hb dX12_colourOf_11 rfl (lv_at hl 3 rfl) ?_
    refine lv_iconst (v := 1) hx hb dX12_colourOf_12 (by decide) ?_
    obtain ⟨v15, hf16, h⟩ := bn_c h
    refine M_callV C0 hw (As := [.int a1, .int a2, .int a3, .int (1 : Int32)]) (rest := [.double (4636737291354636288 : UInt64)]) (mX12_axisOf l E hL st hf16) (cwV 4 C0.1.2.2.2.2 gX12_colourOf_X12_axisOf rfl rfl rfl (by decide +kernel) ⟨Nat.le_of_ble_eq_true rfl, Nat.le_of_ble_eq_true rfl⟩) (M_recv_0 C0 hw (by decide)) rfl hl.1 rfl (Nat.le_of_ble_eq_true rfl) dX12_colourOf_13 ⟨Nat.zero_le _, Nat.zero_le _⟩ (fun H locs hw => ?_)
    refine W.eq (g2 := F0 m 16 ls [.double v15, .double (4636737291354636288 : UInt64)]) rfl ?_
    refine x_dmul hx hb h dX12_colourOf_16 (fun v17 h => ?_)
    cases h
    exact W.dret hx hb hr (M_fin C0 hw) hw.2.2.2 dX12_colourOf_17 hlocks

def fX12_goalIs (a1 : Int32) (a2 : Int32) (a3 : Int32) (st : Sto) : Option Sto :=
  ((lp (σ := (Int32 × Sto)) (ρ := Sto) (un2 fun (v4 : Int32) (t5 : Sto) =>
     if (3 : Int32) ≤ v4 then (
      some (.inr t5)) else (
      (fX12_colourOf a1 a2 a3 v4 t5).bind (fun (v8 : UInt64) =>
       ck (0 ≤ v4.toInt ∧ v4.toInt < (lDM (46) (0) : Int)) (lt1 (sD t5 (46) (0) (v4.toNatClampNeg) v8) fun (t10 : Sto) =>
        lt1 (v4 + Int32.ofInt (1)) fun (v11 : Int32) =>
        some (.inl (v11, t10)))))) 4000 ((0 : Int32), st)).bind
   (fun (t6 : Sto) =>
    some t6))
set_option maxHeartbeats 4000000 in
set_option maxRecDepth 100000 in
theorem mX12_goalIs (l : Launch) (E : XE) (hL : LM E) (st : Sto) {a1 : Int32} {a2 : Int32} {a3 : Int32} {st1 : Sto} (h : fX12_goalIs a1 a2 a3 st = some st1) : Met l yX12_goalIs wsX12_goalIs ({ frames := 5, cells := 0, slots := 0, locals := 135 }) (va_Pc [.ref (E.2.2.1 0 (0)), .int a1, .int a2, .int a3] (RM E st)) (QM E none st1) 0 0 E.2.2.2 := by
  refine Met.ofW (cc := cX12_goalIs) (maxL := 5) (ret := none) (by decide) rfl ?_
  intro p e s m args below meth c s₁ B hml hv
  obtain ⟨rfl, hP, hK⟩ := hv
  have hown : s.vm.findClass RX12 = some m.cls := findClass_of_methodNamed B.named
  have C0 : CX p m c cX12_goalIs 5 s _ wsX12_goalIs RX12 E := ⟨⟨B.exec, B.bytes, hml, hown, atoms_spec (ws := wsX12_goalIs) B.pre⟩, hK⟩
  have hx := B.exec
  have hb := B.bytes
  have hr := B.returns
  have hlocks := B.notSynchronized
  have hw : SM E s st s.heap [] := ⟨hP, va_S.rf⟩
  have hl := lv_entry ([.ref (E.2.2.1 0 (0)), .int a1, .int a2, .int a3]) (n := 5) (Nat.le_of_ble_eq_true rfl)
  rw [lg_entry_eq]
  generalize (lg_sl ([.ref (E.2.2.1 0 (0)), .int a1, .int a2, .int a3]) ++ List.replicate (5 - (lg_sl ([.ref (E.2.2.1 0 (0)), .int a1, .int a2, .int a3])).length) Slot.unset).toArray = ls at hl ⊢
  have hl : lv_has ls 5 [(0, .ref (E.2.2.1 0 (0))), (1, .int a1), (2, .int a2), (3, .int a3)] := hl
  unfold fX12_goalIs at h
  refine lv_iconst (v := 0) hx hb dX12_goalIs_0 (by decide) ?_
  refine lv_istore (lv' := [(4, .int (0 : Int32)), (0, .ref (E.2.2.1 0 (0))), (1, .int a1), (2, .int a2), (3, .int a3)]) hx hb dX12_goalIs_1 hl (by decide) rfl (fun ls hl => ?_)
  refine lp_ind (fun q : (Int32 × Sto) => ∀ (H : Heap) (locs : List Loc), SM E s (q.2) H locs → ∀ ls : Array Slot, lv_has ls 5 [(4, .int (q.1)), (0, .ref (E.2.2.1 0 (0))), (1, .int a1), (2, .int a2), (3, .int a3)] → W p l e (headSpec wsX12_goalIs ({ frames := 5, cells := 0, slots := 0, locals := 135 })).room s m ([.ref (E.2.2.1 0 (0)), .int a1, .int a2, .int a3] : List Value).toArray below meth c H locs 0 0 (MQ below (QM E none st1) ([.ref (E.2.2.1 0 (0)), .int a1, .int a2, .int a3] : List Value).toArray s 0 0 E.2.2.2) (F0 m 3 ls [])) (fun q o3 h hB2 hX1 => ?_) _ _ h _ _ hw _ (lv_sub hl [0, 1, 2, 3, 4] rfl)
  intro H locs hw ls hl
  obtain ⟨v4, t5⟩ := q
  have h := un2_d h
  have hw : SM E s t5 H locs := hw
  have hl : lv_has ls 5 [(4, .int v4), (0, .ref (E.2.2.1 0 (0))), (1, .int a1), (2, .int a2), (3, .int a3)] := hl
  refine lv_iload hx hb dX12_goalIs_3 (lv_at hl 0 rfl) ?_
  refine lv_iconst (v := 3) hx hb dX12_goalIs_5 (by decide) ?_
  refine lv_icmp_ge (tgt := 31) hx hb dX12_goalIs_6 (by decide) (fun hc7 => ?_) (fun hc7 => ?_)
  · have h := ifp h hc7
    have h := hX1 _ (Option.some.inj h).symm
    have hl := lv_sub hl (l' := []) [] rfl
    cases h
    exact W.vret hx hb hr (M_fin C0 hw) hw.2.2.2 dX12_goalIs_31 hlocks
  · have h := ifn h hc7
    refine lv_aload_n hx hb dX12_goalIs_9 rfl (lv_at hl 1 rfl) ?_
    refine M_g0_45 C0 hw (fun w h => (List.mem_cons_of_mem _ (List.mem_append_right _ h))) (by decide) ((List.mem_cons_of_mem _ (List.mem_append_left _ (List.mem_append_left _ (List.mem_of_getElem? (i := 0) rfl))))) dX12_goalIs_10 ?_
    refine lv_iload hx hb dX12_goalIs_13 (lv_at hl 0 rfl) ?_
    refine lv_aload_n hx hb dX12_goalIs_15 rfl (lv_at hl 1 rfl) ?_
    refine lv_iload_n hx hb dX12_goalIs_16 rfl (lv_at hl 2 rfl) ?_
    refine lv_iload_n hx hb dX12_goalIs_17 rfl (lv_at hl 3 rfl) ?_
    refine lv_iload_n hx hb dX12_goalIs_18 rfl (lv_at hl 4 rfl) ?_
    refine lv_iload hx hb dX12_goalIs_19 (lv_at hl 0 rfl) ?_
    obtain ⟨v8, hf9, h⟩ := bn_c h
    refine M_callV C0 hw (As := [.int a1, .int a2, .int a3, .int v4]) (rest := [.int v4, .ref (E.2.2.1 (46) (0))]) (mX12_colourOf l E hL t5 hf9) (cwV 4 C0.1.2.2.2.2 gX12_goalIs_X12_colourOf rfl rfl rfl (by decide +kernel) ⟨Nat.le_of_ble_eq_true rfl, Nat.le_of_ble_eq_true rfl⟩) (M_recv_0 C0 hw (by decide)) rfl hl.1 rfl (Nat.le_of_ble_eq_true rfl) dX12_goalIs_21 ⟨Nat.zero_le _, Nat.zero_le _⟩ (fun H locs hw => ?_)
    refine W.eq (g2 := F0 m 24 ls [.double v8, .int v4, .ref (E.2.2.1 (46) (0))]) rfl ?_
    refine M_dast hL C0 hw h (k := v4.toNatClampNeg) rfl dX12_goalIs_24 (fun t10 H locs hw h => ?_)
    refine x_iinc hx hb h dX12_goalIs_25 hl (q := 0) rfl (fun v11 => [(4, .int v11), (0, .ref (E.2.2.1 0 (0))), (1, .int a1), (2, .int a2), (3, .int a3)]) (by decide) (fun _ => rfl) (fun v11 ls hl h => ?_)
    refine lv_goto (tgt := 3) hx hb dX12_goalIs_28 (by decide) ?_
    exact hB2 _ (Option.some.inj h).symm _ _ hw _ (lv_sub hl [0, 1, 2, 3, 4] rfl)

def fX12_fromTo (a1 : Int32) (a2 : Int32) (a3 : Int32) (st : Sto) : Option UInt64 :=
  (fX12_colourOf a1 a2 a3 (0 : Int32) st).bind (fun (v1 : UInt64) =>
   nd (FP.dsub v1 (gD st (46) (0) (0))) fun (v3 : UInt64) =>
   (fX12_colourOf a1 a2 a3 (1 : Int32) st).bind (fun (v4 : UInt64) =>
    nd (FP.dsub v4 (gD st (46) (0) (1))) fun (v6 : UInt64) =>
    (fX12_colourOf a1 a2 a3 (2 : Int32) st).bind (fun (v7 : UInt64) =>
     nd (FP.dsub v7 (gD st (46) (0) (2))) fun (v9 : UInt64) =>
     nd (FP.dmul (FP.i2d (gI st (29) (0) (0))) v3) fun (v10 : UInt64) =>
     nd (FP.dmul v10 v3) fun (v11 : UInt64) =>
     nd (FP.dmul (FP.i2d (gI st (29) (0) (1))) v6) fun (v12 : UInt64) =>
     nd (FP.dmul v12 v6) fun (v13 : UInt64) =>
     nd (FP.dadd v11 v13) fun (v14 : UInt64) =>
     nd (FP.dmul (FP.i2d (gI st (29) (0) (2))) v9) fun (v15 : UInt64) =>
     nd (FP.dmul v15 v9) fun (v16 : UInt64) =>
     nd (FP.dadd v14 v16) fun (v17 : UInt64) =>
     some v17)))
set_option maxHeartbeats 4000000 in
set_option maxRecDepth 100000 in
theorem mX12_fromTo (l : Launch) (E : XE) (hL : LM E) (st : Sto) {a1 : Int32} {a2 : Int32} {a3 : Int32} {r : UInt64} (h : fX12_fromTo a1 a2 a3 st = some r) : Met l yX12_fromTo wsX12_fromTo ({ frames := 5, cells := 0, slots := 0, locals := 135 }) (va_Pc [.ref (E.2.2.1 0 (0)), .int a1, .int a2, .int a3] (RM E st)) (QM E (some (.double r)) st) 0 0 E.2.2.2 := by
  refine Met.ofW (cc := cX12_fromTo) (maxL := 10) (ret := (some .double)) (by decide) rfl ?_
  intro p e s m args below meth c s₁ B hml hv
  obtain ⟨rfl, hP, hK⟩ := hv
  have hown : s.vm.findClass RX12 = some m.cls := findClass_of_methodNamed B.named
  have C0 : CX p m c cX12_fromTo 10 s _ wsX12_fromTo RX12 E := ⟨⟨B.exec, B.bytes, hml, hown, atoms_spec (ws := wsX12_fromTo) B.pre⟩, hK⟩
  have hx := B.exec
  have hb := B.bytes
  have hr := B.returns
  have hlocks := B.notSynchronized
  have hw : SM E s st s.heap [] := ⟨hP, va_S.rf⟩
  have hl := lv_entry ([.ref (E.2.2.1 0 (0)), .int a1, .int a2, .int a3]) (n := 10) (Nat.le_of_ble_eq_true rfl)
  rw [lg_entry_eq]
  generalize (lg_sl ([.ref (E.2.2.1 0 (0)), .int a1, .int a2, .int a3]) ++ List.replicate (10 - (lg_sl ([.ref (E.2.2.1 0 (0)), .int a1, .int a2, .int a3])).length) Slot.unset).toArray = ls at hl ⊢
  have hl : lv_has ls 10 [(0, .ref (E.2.2.1 0 (0))), (1, .int a1), (2, .int a2), (3, .int a3)] := hl
  unfold fX12_fromTo at h
  refine lv_aload_n hx hb dX12_fromTo_0 rfl (lv_at hl 0 rfl) ?_
  refine lv_iload_n hx hb dX12_fromTo_1 rfl (lv_at hl 1 rfl) ?_
  refine lv_iload_n hx hb dX12_fromTo_2 rfl (lv_at hl 2 rfl) ?_
  refine lv_iload_n hx hb dX12_fromTo_3 rfl (lv_at hl 3 rfl) ?_
  refine lv_iconst (v := 0) hx hb dX12_fromTo_4 (by decide) ?_
  obtain ⟨v1, hf2, h⟩ := bn_c h
  refine M_callV C0 hw (As := [.int a1, .int a2, .int a3, .int (0 : Int32)]) (rest := []) (mX12_colourOf l E hL st hf2) (cwV 4 C0.1.2.2.2.2 gX12_fromTo_X12_colourOf rfl rfl rfl (by decide +kernel) ⟨Nat.le_of_ble_eq_true rfl, Nat.le_of_ble_eq_true rfl⟩) (M_recv_0 C0 hw (by decide)) rfl hl.1 rfl (Nat.le_of_ble_eq_true rfl) dX12_fromTo_5 ⟨Nat.zero_le _, Nat.zero_le _⟩ (fun H locs hw => ?_)
  refine W.eq (g2 := F0 m 8 ls [.double v1]) rfl ?_
  refine lv_aload_n hx hb dX12_fromTo_8 rfl (lv_at hl 0 rfl) ?_
  refine M_g0_45 C0 hw (fun w h => (List.mem_cons_of_mem _ (List.mem_append_right _ h))) (by decide) ((List.mem_cons_of_mem _ (List.mem_append_left _ (List.mem_append_left _ (List.mem_of_getElem? (i := 0) rfl))))) dX12_fromTo_9 ?_
  refine lv_iconst (v := 0) hx hb dX12_fromTo_12 (by decide) ?_
  refine M_daldL C0 hw (vp_in_iff.mpr (by decide +kernel)) (k := 0) rfl dX12_fromTo_13 ?_
  refine x_dsub hx hb h dX12_fromTo_14 (fun v3 h => ?_)
  refine lv_dstore (lv' := [(4, .double v3), (0, .ref (E.2.2.1 0 (0))), (1, .int a1), (2, .int a2), (3, .int a3)]) hx hb dX12_fromTo_15 hl (by decide) rfl (fun ls hl => ?_)
  refine lv_aload_n hx hb dX12_fromTo_17 rfl (lv_at hl 1 rfl) ?_
  refine lv_iload_n hx hb dX12_fromTo_18 rfl (lv_at hl 2 rfl) ?_
  refine lv_iload_n hx hb dX12_fromTo_19 rfl (lv_at hl 3 rfl) ?_
  refine lv_iload_n hx hb dX12_fromTo_20 rfl (lv_at hl 4 rfl) ?_
  refine lv_iconst (v := 1) hx hb dX12_fromTo_21 (by decide) ?_
  obtain ⟨v4, hf5, h⟩ := bn_c h
  refine M_callV C0 hw (As := [.int a1, .int a2, .int a3, .int (1 : Int32)]) (rest := []) (mX12_colourOf l E hL st hf5) (cwV 4 C0.1.2.2.2.2 gX12_fromTo_X12_colourOf rfl rfl rfl (by decide +kernel) ⟨Nat.le_of_ble_eq_true rfl, Nat.le_of_ble_eq_true rfl⟩) (M_recv_0 C0 hw (by decide)) rfl hl.1 rfl (Nat.le_of_ble_eq_true rfl) dX12_fromTo_22 ⟨Nat.zero_le _, Nat.zero_le _⟩ (fun H locs hw => ?_)
  refine W.eq (g2 := F0 m 25 ls [.double v4]) rfl ?_
  refine lv_aload_n hx hb dX12_fromTo_25 rfl (lv_at hl 1 rfl) ?_
  refine M_g0_45 C0 hw (fun w h => (List.mem_cons_of_mem _ (List.mem_append_right _ h))) (by decide) ((List.mem_cons_of_mem _ (List.mem_append_left _ (List.mem_append_left _ (List.mem_of_getElem? (i := 0) rfl))))) dX12_fromTo_26 ?_
  refine lv_iconst (v := 1) hx hb dX12_fromTo_29 (by decide) ?_
  refine M_daldL C0 hw (vp_in_iff.mpr (by decide +kernel)) (k := 1) rfl dX12_fromTo_30 ?_
  refine x_dsub hx hb h dX12_fromTo_31 (fun v6 h => ?_)
  refine lv_dstore (lv' := [(6, .double v6), (4, .double v3), (0, .ref (E.2.2.1 0 (0))), (1, .int a1), (2, .int a2), (3, .int a3)]) hx hb dX12_fromTo_32 hl (by decide) rfl (fun ls hl => ?_)
  refine lv_aload_n hx hb dX12_fromTo_34 rfl (lv_at hl 2 rfl) ?_
  refine lv_iload_n hx hb dX12_fromTo_35 rfl (lv_at hl 3 rfl) ?_
  refine lv_iload_n hx hb dX12_fromTo_36 rfl (lv_at hl 4 rfl) ?_
  refine lv_iload_n hx hb dX12_fromTo_37 rfl (lv_at hl 5 rfl) ?_
  refine lv_iconst (v := 2) hx hb dX12_fromTo_38 (by decide) ?_
  obtain ⟨v7, hf8, h⟩ := bn_c h
  refine M_callV C0 hw (As := [.int a1, .int a2, .int a3, .int (2 : Int32)]) (rest := []) (mX12_colourOf l E hL st hf8) (cwV 4 C0.1.2.2.2.2 gX12_fromTo_X12_colourOf rfl rfl rfl (by decide +kernel) ⟨Nat.le_of_ble_eq_true rfl, Nat.le_of_ble_eq_true rfl⟩) (M_recv_0 C0 hw (by decide)) rfl hl.1 rfl (Nat.le_of_ble_eq_true rfl) dX12_fromTo_39 ⟨Nat.zero_le _, Nat.zero_le _⟩ (fun H locs hw => ?_)
  refine W.eq (g2 := F0 m 42 ls [.double v7]) rfl ?_
  refine lv_aload_n hx hb dX12_fromTo_42 rfl (lv_at hl 2 rfl) ?_
  refine M_g0_45 C0 hw (fun w h => (List.mem_cons_of_mem _ (List.mem_append_right _ h))) (by decide) ((List.mem_cons_of_mem _ (List.mem_append_left _ (List.mem_append_left _ (List.mem_of_getElem? (i := 0) rfl))))) dX12_fromTo_43 ?_
  refine lv_iconst (v := 2) hx hb dX12_fromTo_46 (by decide) ?_
  refine M_daldL C0 hw (vp_in_iff.mpr (by decide +kernel)) (k := 2) rfl dX12_fromTo_47 ?_
  refine x_dsub hx hb h dX12_fromTo_48 (fun v9 h => ?_)
  refine lv_dstore (lv' := [(8, .double v9), (6, .double v6), (4, .double v3), (0, .ref (E.2.2.1 0 (0))), (1, .int a1), (2, .int a2), (3, .int a3)]) hx hb dX12_fromTo_49 hl (by decide) rfl (fun ls hl => ?_)
  refine lv_aload_n hx hb dX12_fromTo_51 rfl (lv_at hl 3 rfl) ?_
  refine M_g0_28 C0 hw (fun w h => (List.mem_cons_of_mem _ (List.mem_append_right _ h))) (by decide) ((List.mem_cons_of_mem _ (List.mem_append_left _ (List.mem_append_left _ (List.mem_of_getElem? (i := 1) rfl))))) dX12_fromTo_52 ?_
  refine lv_iconst (v := 0) hx hb dX12_fromTo_55 (by decide) ?_
  refine M_ialdL C0 hw (vp_in_iff.mpr (by decide +kernel)) (k := 0) rfl dX12_fromTo_56 ?_
  refine lv_i2d hx hb dX12_fromTo_57 ?_
  refine lv_dload hx hb dX12_fromTo_58 (lv_at hl 2 rfl) ?_
  refine x_dmul hx hb h dX12_fromTo_60 (fun v10 h => ?_)
  refine lv_dload hx hb dX12_fromTo_61 (lv_at hl 2 rfl) ?_
  refine x_dmul hx hb h dX12_fromTo_63 (fun v11 h => ?_)
  refine lv_aload_n hx hb dX12_fromTo_64 rfl (lv_at hl 3 rfl) ?_
  refine M_g0_28 C0 hw (fun w h => (List.mem_cons_of_mem _ (List.mem_append_right _ h))) (by decide) ((List.mem_cons_of_mem _ (List.mem_append_left _ (List.mem_append_left _ (List.mem_of_getElem? (i := 1) rfl))))) dX12_fromTo_65 ?_
  refine lv_iconst (v := 1) hx hb dX12_fromTo_68 (by decide) ?_
  refine M_ialdL C0 hw (vp_in_iff.mpr (by decide +kernel)) (k := 1) rfl dX12_fromTo_69 ?_
  refine lv_i2d hx hb dX12_fromTo_70 ?_
  refine lv_dload hx hb dX12_fromTo_71 (lv_at hl 1 rfl) ?_
  refine x_dmul hx hb h dX12_fromTo_73 (fun v12 h => ?_)
  refine lv_dload hx hb dX12_fromTo_74 (lv_at hl 1 rfl) ?_
  refine x_dmul hx hb h dX12_fromTo_76 (fun v13 h => ?_)
  refine x_dadd hx hb h dX12_fromTo_77 (fun v14 h => ?_)
  refine lv_aload_n hx hb dX12_fromTo_78 rfl (lv_at hl 3 rfl) ?_
  refine M_g0_28 C0 hw (fun w h => (List.mem_cons_of_mem _ (List.mem_append_right _ h))) (by decide) ((List.mem_cons_of_mem _ (List.mem_append_left _ (List.mem_append_left _ (List.mem_of_getElem? (i := 1) rfl))))) dX12_fromTo_79 ?_
  refine lv_iconst (v := 2) hx hb dX12_fromTo_82 (by decide) ?_
  refine M_ialdL C0 hw (vp_in_iff.mpr (by decide +kernel)) (k := 2) rfl dX12_fromTo_83 ?_
  refine lv_i2d hx hb dX12_fromTo_84 ?_
  refine lv_dload hx hb dX12_fromTo_85 (lv_at hl 0 rfl) ?_
  refine x_dmul hx hb h dX12_fromTo_87 (fun v15 h => ?_)
  refine lv_dload hx hb dX12_fromTo_88 (lv_at hl 0 rfl) ?_
  refine x_dmul hx hb h dX12_fromTo_90 (fun v16 h => ?_)
  refine x_dadd hx hb h dX12_fromTo_91 (fun v17 h => ?_)
  cases h
  exact W.dret hx hb hr (M_fin C0 hw) hw.2.2.2 dX12_fromTo_92 hlocks

def fX12_colour (a1 : Int32) (a2 : Int32) (a3 : Int32) (a4 : Int32) (a5 : Int32) (st : Sto) : Option (Int64 × Sto) :=
  lt1 (sI st 0 (0) 10 (0 : Int32)) fun (t1 : Sto) =>
  (fX12_placeOf a1 a2 t1).bind (fun (v2 : Int32) =>
   if v2 = (-1 : Int32) then (
    some ((0 : Int64), t1)) else (
    (fX12_is a3 (6 : Int32)).bind (fun (v5 : Int32) =>
     if v5 = 0 then (
      some ((0 : Int64), t1)) else (
      (fX12_is a4 (2 : Int32)).bind (fun (v8 : Int32) =>
       if v8 = 0 then (
        some ((0 : Int64), t1)) else (
        (fX12_is a5 (3 : Int32)).bind (fun (v11 : Int32) =>
         if v11 = 0 then (
          some ((0 : Int64), t1)) else (
          (fX12_colourOf v2 a3 a4 a5 t1).bind (fun (v14 : UInt64) =>
           (fmJxe99ae_doubleToLongBits_ccdee v14).bind (fun (v16 : Int64) =>
            some (v16, t1)))))))))))
set_option maxHeartbeats 4000000 in
set_option maxRecDepth 100000 in
theorem mX12_colour (l : Launch) (E : XE) (hL : LM E) (st : Sto) {a1 : Int32} {a2 : Int32} {a3 : Int32} {a4 : Int32} {a5 : Int32} {r : Int64} {st1 : Sto} (h : fX12_colour a1 a2 a3 a4 a5 st = some (r, st1)) : Met l yX12_colour wsX12_colour ({ frames := 5, cells := 0, slots := 0, locals := 135 }) (va_Pc [.ref (E.2.2.1 0 (0)), .int a1, .int a2, .int a3, .int a4, .int a5] (RM E st)) (QM E (some (.long r)) st1) 0 0 E.2.2.2 := by
  refine Met.ofW (cc := cX12_colour) (maxL := 7) (ret := (some .long)) (by decide) rfl ?_
  intro p e s m args below meth c s₁ B hml hv
  obtain ⟨rfl, hP, hK⟩ := hv
  have hown : s.vm.findClass RX12 = some m.cls := findClass_of_methodNamed B.named
  have C0 : CX p m c cX12_colour 7 s _ wsX12_colour RX12 E := ⟨⟨B.exec, B.bytes, hml, hown, atoms_spec (ws := wsX12_colour) B.pre⟩, hK⟩
  have hx := B.exec
  have hb := B.bytes
  have hr := B.returns
  have hlocks := B.notSynchronized
  have hw : SM E s st s.heap [] := ⟨hP, va_S.rf⟩
  have hl := lv_entry ([.ref (E.2.2.1 0 (0)), .int a1, .int a2, .int a3, .int a4, .int a5]) (n := 7) (Nat.le_of_ble_eq_true rfl)
  rw [lg_entry_eq]
  generalize (lg_sl ([.ref (E.2.2.1 0 (0)), .int a1, .int a2, .int a3, .int a4, .int a5]) ++ List.replicate (7 - (lg_sl ([.ref (E.2.2.1 0 (0)), .int a1, .int a2, .int a3, .int a4, .int a5])).length) Slot.unset).toArray = ls at hl ⊢
  have hl : lv_has ls 7 [(0, .ref (E.2.2.1 0 (0))), (1, .int a1), (2, .int a2), (3, .int a3), (4, .int a4), (5, .int a5)] := hl
  unfold fX12_colour at h
  refine lv_aload_n hx hb dX12_colour_0 rfl (lv_at hl 0 rfl) ?_
  refine lv_iconst (v := 0) hx hb dX12_colour_1 (by decide) ?_
  refine M_p0_10 hL C0 hw (fun w h => (List.mem_cons_of_mem _ (List.mem_append_right _ h))) (by decide) h ((List.mem_cons_of_mem _ (List.mem_append_left _ (List.mem_append_left _ (List.mem_of_getElem? (i := 0) rfl))))) dX12_colour_2 (fun t1 H locs hw h => ?_)
  refine lv_aload_n hx hb dX12_colour_5 rfl (lv_at hl 0 rfl) ?_
  refine lv_iload_n hx hb dX12_colour_6 rfl (lv_at hl 1 rfl) ?_
  refine lv_iload_n hx hb dX12_colour_7 rfl (lv_at hl 2 rfl) ?_
  obtain ⟨v2, hf3, h⟩ := bn_c h
  refine M_callV C0 hw (As := [.int a1, .int a2]) (rest := []) (mX12_placeOf l E hL t1 hf3) (cwV 2 C0.1.2.2.2.2 gX12_colour_X12_placeOf rfl rfl rfl (by decide +kernel) ⟨Nat.le_of_ble_eq_true rfl, Nat.le_of_ble_eq_true rfl⟩) (M_recv_0 C0 hw (by decide)) rfl hl.1 rfl (Nat.le_of_ble_eq_true rfl) dX12_colour_8 ⟨Nat.zero_le _, Nat.zero_le _⟩ (fun H locs hw => ?_)
  refine W.eq (g2 := F0 m 11 ls [.int v2]) rfl ?_
  refine lv_istore (lv' := [(6, .int v2), (0, .ref (E.2.2.1 0 (0))), (1, .int a1), (2, .int a2), (3, .int a3), (4, .int a4), (5, .int a5)]) hx hb dX12_colour_11 hl (by decide) rfl (fun ls hl => ?_)
  refine lv_iload hx hb dX12_colour_13 (lv_at hl 0 rfl) ?_
  refine lv_iconst (v := -1) hx hb dX12_colour_15 (by decide) ?_
  refine lv_icmp_eq (tgt := 49) hx hb dX12_colour_16 (by decide) (fun hc4 => ?_) (fun hc4 => ?_)
  · have h := ifp h hc4
    refine lv_lconst (v := 0) hx hb dX12_colour_49 (by decide) ?_
    cases h
    exact W.lret hx hb hr (M_fin C0 hw) hw.2.2.2 dX12_colour_50 hlocks
  · have h := ifn h hc4
    refine lv_aload_n hx hb dX12_colour_19 rfl (lv_at hl 1 rfl) ?_
    refine lv_iload_n hx hb dX12_colour_20 rfl (lv_at hl 4 rfl) ?_
    refine lv_bipush (v := 6) hx hb dX12_colour_21 (by decide) ?_
    obtain ⟨v5, hf6, h⟩ := bn_c h
    refine M_callV C0 hw (As := [.int a3, .int (6 : Int32)]) (rest := []) (mX12_is l E hL t1 hf6) (cwV 2 C0.1.2.2.2.2 gX12_colour_X12_is rfl rfl rfl (by decide +kernel) ⟨Nat.le_of_ble_eq_true rfl, Nat.le_of_ble_eq_true rfl⟩) (M_recv_0 C0 hw (by decide)) rfl hl.1 rfl (Nat.le_of_ble_eq_true rfl) dX12_colour_23 ⟨Nat.zero_le _, Nat.zero_le _⟩ (fun H locs hw => ?_)
    refine W.eq (g2 := F0 m 26 ls [.int v5]) rfl ?_
    refine lv_if_eq (tgt := 49) hx hb dX12_colour_26 (by decide) (fun hc7 => ?_) (fun hc7 => ?_)
    · have h := ifp h hc7
      refine lv_lconst (v := 0) hx hb dX12_colour_49 (by decide) ?_
      cases h
      exact W.lret hx hb hr (M_fin C0 hw) hw.2.2.2 dX12_colour_50 hlocks
    · have h := ifn h hc7
      refine lv_aload_n hx hb dX12_colour_29 rfl (lv_at hl 1 rfl) ?_
      refine lv_iload hx hb dX12_colour_30 (lv_at hl 5 rfl) ?_
      refine lv_iconst (v := 2) hx hb dX12_colour_32 (by decide) ?_
      obtain ⟨v8, hf9, h⟩ := bn_c h
      refine M_callV C0 hw (As := [.int a4, .int (2 : Int32)]) (rest := []) (mX12_is l E hL t1 hf9) (cwV 2 C0.1.2.2.2.2 gX12_colour_X12_is rfl rfl rfl (by decide +kernel) ⟨Nat.le_of_ble_eq_true rfl, Nat.le_of_ble_eq_true rfl⟩) (M_recv_0 C0 hw (by decide)) rfl hl.1 rfl (Nat.le_of_ble_eq_true rfl) dX12_colour_33 ⟨Nat.zero_le _, Nat.zero_le _⟩ (fun H locs hw => ?_)
      refine W.eq (g2 := F0 m 36 ls [.int v8]) rfl ?_
      refine lv_if_eq (tgt := 49) hx hb dX12_colour_36 (by decide) (fun hc10 => ?_) (fun hc10 => ?_)
      · have h := ifp h hc10
        refine lv_lconst (v := 0) hx hb dX12_colour_49 (by decide) ?_
        cases h
        exact W.lret hx hb hr (M_fin C0 hw) hw.2.2.2 dX12_colour_50 hlocks
      · have h := ifn h hc10
        refine lv_aload_n hx hb dX12_colour_39 rfl (lv_at hl 1 rfl) ?_
        refine lv_iload hx hb dX12_colour_40 (lv_at hl 6 rfl) ?_
        refine lv_iconst (v := 3) hx hb dX12_colour_42 (by decide) ?_
        obtain ⟨v11, hf12, h⟩ := bn_c h
        refine M_callV C0 hw (As := [.int a5, .int (3 : Int32)]) (rest := []) (mX12_is l E hL t1 hf12) (cwV 2 C0.1.2.2.2.2 gX12_colour_X12_is rfl rfl rfl (by decide +kernel) ⟨Nat.le_of_ble_eq_true rfl, Nat.le_of_ble_eq_true rfl⟩) (M_recv_0 C0 hw (by decide)) rfl hl.1 rfl (Nat.le_of_ble_eq_true rfl) dX12_colour_43 ⟨Nat.zero_le _, Nat.zero_le _⟩ (fun H locs hw => ?_)
        refine W.eq (g2 := F0 m 46 ls [.int v11]) rfl ?_
        refine lv_if_ne (tgt := 51) hx hb dX12_colour_46 (by decide) (fun hc13 => ?_) (fun hc13 => ?_)
        · have h := ifn h hc13
          refine lv_aload_n hx hb dX12_colour_51 rfl (lv_at hl 1 rfl) ?_
          refine lv_iload hx hb dX12_colour_52 (lv_at hl 0 rfl) ?_
          refine lv_iload_n hx hb dX12_colour_54 rfl (lv_at hl 4 rfl) ?_
          refine lv_iload hx hb dX12_colour_55 (lv_at hl 5 rfl) ?_
          refine lv_iload hx hb dX12_colour_57 (lv_at hl 6 rfl) ?_
          obtain ⟨v14, hf15, h⟩ := bn_c h
          refine M_callV C0 hw (As := [.int v2, .int a3, .int a4, .int a5]) (rest := []) (mX12_colourOf l E hL t1 hf15) (cwV 4 C0.1.2.2.2.2 gX12_colour_X12_colourOf rfl rfl rfl (by decide +kernel) ⟨Nat.le_of_ble_eq_true rfl, Nat.le_of_ble_eq_true rfl⟩) (M_recv_0 C0 hw (by decide)) rfl hl.1 rfl (Nat.le_of_ble_eq_true rfl) dX12_colour_59 ⟨Nat.zero_le _, Nat.zero_le _⟩ (fun H locs hw => ?_)
          refine W.eq (g2 := F0 m 62 ls [.double v14]) rfl ?_
          obtain ⟨v16, hf17, h⟩ := bn_c h
          refine M_callS C0 hw (As := [.double v14]) (rest := []) (mmJxe99ae_doubleToLongBits_ccdee l E hL t1 hf17) (va_cwS 1 C0.1.2.2.2.2 gX12_colour_Jxe99ae_doubleToLongBits_ccdee rfl rfl rfl (by decide +kernel) ⟨Nat.le_of_ble_eq_true rfl, Nat.le_of_ble_eq_true rfl⟩) rfl hl.1 rfl (Nat.le_of_ble_eq_true rfl) dX12_colour_62 ⟨Nat.zero_le _, Nat.zero_le _⟩ (fun H locs hw => ?_)
          refine W.eq (g2 := F0 m 65 ls [.long v16]) rfl ?_
          cases h
          exact W.lret hx hb hr (M_fin C0 hw) hw.2.2.2 dX12_colour_65 hlocks
        · have h := ifp h hc13
          refine lv_lconst (v := 0) hx hb dX12_colour_49 (by decide) ?_
          cases h
          exact W.lret hx hb hr (M_fin C0 hw) hw.2.2.2 dX12_colour_50 hlocks

def fX12_distance (a1 : Int32) (a2 : Int32) (a3 : Int32) (a4 : Int32) (st : Sto) : Option (Int64 × Sto) :=
  lt1 (sI st 0 (0) 10 (0 : Int32)) fun (t1 : Sto) =>
  (fX12_is a1 (gI t1 0 (0) 2)).bind (fun (v2 : Int32) =>
   if v2 = 0 then (
    some ((-1 : Int64), t1)) else (
    (fX12_is a2 (gI t1 0 (0) 2)).bind (fun (v5 : Int32) =>
     if v5 = 0 then (
      some ((-1 : Int64), t1)) else (
      (fX12_is a3 (6 : Int32)).bind (fun (v8 : Int32) =>
       if v8 = 0 then (
        some ((-1 : Int64), t1)) else (
        (fX12_is a4 (2 : Int32)).bind (fun (v11 : Int32) =>
         if v11 = 0 then (
          some ((-1 : Int64), t1)) else (
          (fX12_goalIs ((1 : Int32) + a2) a3 a4 t1).bind (fun (t14 : Sto) =>
           (fX12_fromTo ((1 : Int32) + a1) a3 a4 t14).bind (fun (v16 : UInt64) =>
            (fmJxe99ae_doubleToLongBits_ccdee v16).bind (fun (v18 : Int64) =>
             some (v18, t14))))))))))))
set_option maxHeartbeats 4000000 in
set_option maxRecDepth 100000 in
theorem mX12_distance (l : Launch) (E : XE) (hL : LM E) (st : Sto) {a1 : Int32} {a2 : Int32} {a3 : Int32} {a4 : Int32} {r : Int64} {st1 : Sto} (h : fX12_distance a1 a2 a3 a4 st = some (r, st1)) : Met l yX12_distance wsX12_distance ({ frames := 6, cells := 0, slots := 0, locals := 164 }) (va_Pc [.ref (E.2.2.1 0 (0)), .int a1, .int a2, .int a3, .int a4] (RM E st)) (QM E (some (.long r)) st1) 0 0 E.2.2.2 := by
  refine Met.ofW (cc := cX12_distance) (maxL := 5) (ret := (some .long)) (by decide) rfl ?_
  intro p e s m args below meth c s₁ B hml hv
  obtain ⟨rfl, hP, hK⟩ := hv
  have hown : s.vm.findClass RX12 = some m.cls := findClass_of_methodNamed B.named
  have C0 : CX p m c cX12_distance 5 s _ wsX12_distance RX12 E := ⟨⟨B.exec, B.bytes, hml, hown, atoms_spec (ws := wsX12_distance) B.pre⟩, hK⟩
  have hx := B.exec
  have hb := B.bytes
  have hr := B.returns
  have hlocks := B.notSynchronized
  have hw : SM E s st s.heap [] := ⟨hP, va_S.rf⟩
  have hl := lv_entry ([.ref (E.2.2.1 0 (0)), .int a1, .int a2, .int a3, .int a4]) (n := 5) (Nat.le_of_ble_eq_true rfl)
  rw [lg_entry_eq]
  generalize (lg_sl ([.ref (E.2.2.1 0 (0)), .int a1, .int a2, .int a3, .int a4]) ++ List.replicate (5 - (lg_sl ([.ref (E.2.2.1 0 (0)), .int a1, .int a2, .int a3, .int a4])).length) Slot.unset).toArray = ls at hl ⊢
  have hl : lv_has ls 5 [(0, .ref (E.2.2.1 0 (0))), (1, .int a1), (2, .int a2), (3, .int a3), (4, .int a4)] := hl
  unfold fX12_distance at h
  refine lv_aload_n hx hb dX12_distance_0 rfl (lv_at hl 0 rfl) ?_
  refine lv_iconst (v := 0) hx hb dX12_distance_1 (by decide) ?_
  refine M_p0_10 hL C0 hw (fun w h => (List.mem_cons_of_mem _ (List.mem_append_right _ h))) (by decide) h ((List.mem_cons_of_mem _ (List.mem_append_left _ (List.mem_append_left _ (List.mem_of_getElem? (i := 0) rfl))))) dX12_distance_2 (fun t1 H locs hw h => ?_)
  refine lv_aload_n hx hb dX12_distance_5 rfl (lv_at hl 0 rfl) ?_
  refine lv_iload_n hx hb dX12_distance_6 rfl (lv_at hl 1 rfl) ?_
  refine lv_aload_n hx hb dX12_distance_7 rfl (lv_at hl 0 rfl) ?_
  refine M_g0_2 C0 hw (fun w h => (List.mem_cons_of_mem _ (List.mem_append_right _ h))) (by decide) ((List.mem_cons_of_mem _ (List.mem_append_left _ (List.mem_append_left _ (List.mem_of_getElem? (i := 1) rfl))))) dX12_distance_8 ?_
  obtain ⟨v2, hf3, h⟩ := bn_c h
  refine M_callV C0 hw (As := [.int a1, .int (gI t1 0 (0) 2)]) (rest := []) (mX12_is l E hL t1 hf3) (cwV 2 C0.1.2.2.2.2 gX12_distance_X12_is rfl rfl rfl (by decide +kernel) ⟨Nat.le_of_ble_eq_true rfl, Nat.le_of_ble_eq_true rfl⟩) (M_recv_0 C0 hw (by decide)) rfl hl.1 rfl (Nat.le_of_ble_eq_true rfl) dX12_distance_11 ⟨Nat.zero_le _, Nat.zero_le _⟩ (fun H locs hw => ?_)
  refine W.eq (g2 := F0 m 14 ls [.int v2]) rfl ?_
  refine lv_if_eq (tgt := 49) hx hb dX12_distance_14 (by decide) (fun hc4 => ?_) (fun hc4 => ?_)
  · have h := ifp h hc4
    refine lv_ldc2 hx hb hown (C0.1.2.2.2.2 _ (List.mem_cons_of_mem _ (List.mem_append_left _ (List.mem_append_left _ (List.mem_of_getElem? (i := 2) rfl))))) dX12_distance_49 ?_
    cases h
    exact W.lret hx hb hr (M_fin C0 hw) hw.2.2.2 dX12_distance_52 hlocks
  · have h := ifn h hc4
    refine lv_aload_n hx hb dX12_distance_17 rfl (lv_at hl 0 rfl) ?_
    refine lv_iload_n hx hb dX12_distance_18 rfl (lv_at hl 2 rfl) ?_
    refine lv_aload_n hx hb dX12_distance_19 rfl (lv_at hl 0 rfl) ?_
    refine M_g0_2 C0 hw (fun w h => (List.mem_cons_of_mem _ (List.mem_append_right _ h))) (by decide) ((List.mem_cons_of_mem _ (List.mem_append_left _ (List.mem_append_left _ (List.mem_of_getElem? (i := 1) rfl))))) dX12_distance_20 ?_
    obtain ⟨v5, hf6, h⟩ := bn_c h
    refine M_callV C0 hw (As := [.int a2, .int (gI t1 0 (0) 2)]) (rest := []) (mX12_is l E hL t1 hf6) (cwV 2 C0.1.2.2.2.2 gX12_distance_X12_is rfl rfl rfl (by decide +kernel) ⟨Nat.le_of_ble_eq_true rfl, Nat.le_of_ble_eq_true rfl⟩) (M_recv_0 C0 hw (by decide)) rfl hl.1 rfl (Nat.le_of_ble_eq_true rfl) dX12_distance_23 ⟨Nat.zero_le _, Nat.zero_le _⟩ (fun H locs hw => ?_)
    refine W.eq (g2 := F0 m 26 ls [.int v5]) rfl ?_
    refine lv_if_eq (tgt := 49) hx hb dX12_distance_26 (by decide) (fun hc7 => ?_) (fun hc7 => ?_)
    · have h := ifp h hc7
      refine lv_ldc2 hx hb hown (C0.1.2.2.2.2 _ (List.mem_cons_of_mem _ (List.mem_append_left _ (List.mem_append_left _ (List.mem_of_getElem? (i := 2) rfl))))) dX12_distance_49 ?_
      cases h
      exact W.lret hx hb hr (M_fin C0 hw) hw.2.2.2 dX12_distance_52 hlocks
    · have h := ifn h hc7
      refine lv_aload_n hx hb dX12_distance_29 rfl (lv_at hl 0 rfl) ?_
      refine lv_iload_n hx hb dX12_distance_30 rfl (lv_at hl 3 rfl) ?_
      refine lv_bipush (v := 6) hx hb dX12_distance_31 (by decide) ?_
      obtain ⟨v8, hf9, h⟩ := bn_c h
      refine M_callV C0 hw (As := [.int a3, .int (6 : Int32)]) (rest := []) (mX12_is l E hL t1 hf9) (cwV 2 C0.1.2.2.2.2 gX12_distance_X12_is rfl rfl rfl (by decide +kernel) ⟨Nat.le_of_ble_eq_true rfl, Nat.le_of_ble_eq_true rfl⟩) (M_recv_0 C0 hw (by decide)) rfl hl.1 rfl (Nat.le_of_ble_eq_true rfl) dX12_distance_33 ⟨Nat.zero_le _, Nat.zero_le _⟩ (fun H locs hw => ?_)
      refine W.eq (g2 := F0 m 36 ls [.int v8]) rfl ?_
      refine lv_if_eq (tgt := 49) hx hb dX12_distance_36 (by decide) (fun hc10 => ?_) (fun hc10 => ?_)
      · have h := ifp h hc10
        refine lv_ldc2 hx hb hown (C0.1.2.2.2.2 _ (List.mem_cons_of_mem _ (List.mem_append_left _ (List.mem_append_left _ (List.mem_of_getElem? (i := 2) rfl))))) dX12_distance_49 ?_
        cases h
        exact W.lret hx hb hr (M_fin C0 hw) hw.2.2.2 dX12_distance_52 hlocks
      · have h := ifn h hc10
        refine lv_aload_n hx hb dX12_distance_39 rfl (lv_at hl 0 rfl) ?_
        refine lv_iload hx hb dX12_distance_40 (lv_at hl 4 rfl) ?_
        refine lv_iconst (v := 2) hx hb dX12_distance_42 (by decide) ?_
        obtain ⟨v11, hf12, h⟩ := bn_c h
        refine M_callV C0 hw (As := [.int a4, .int (2 : Int32)]) (rest := []) (mX12_is l E hL t1 hf12) (cwV 2 C0.1.2.2.2.2 gX12_distance_X12_is rfl rfl rfl (by decide +kernel) ⟨Nat.le_of_ble_eq_true rfl, Nat.le_of_ble_eq_true rfl⟩) (M_recv_0 C0 hw (by decide)) rfl hl.1 rfl (Nat.le_of_ble_eq_true rfl) dX12_distance_43 ⟨Nat.zero_le _, Nat.zero_le _⟩ (fun H locs hw => ?_)
        refine W.eq (g2 := F0 m 46 ls [.int v11]) rfl ?_
        refine lv_if_ne (tgt := 53) hx hb dX12_distance_46 (by decide) (fun hc13 => ?_) (fun hc13 => ?_)
        · have h := ifn h hc13
          refine lv_aload_n hx hb dX12_distance_53 rfl (lv_at hl 0 rfl) ?_
          refine lv_iconst (v := 1) hx hb dX12_distance_54 (by decide) ?_
          refine lv_iload_n hx hb dX12_distance_55 rfl (lv_at hl 2 rfl) ?_
          refine lv_iadd hx hb dX12_distance_56 ?_
          refine lv_iload_n hx hb dX12_distance_57 rfl (lv_at hl 3 rfl) ?_
          refine lv_iload hx hb dX12_distance_58 (lv_at hl 4 rfl) ?_
          obtain ⟨t14, hf15, h⟩ := bn_c h
          refine M_callV C0 hw (As := [.int ((1 : Int32) + a2), .int a3, .int a4]) (rest := []) (mX12_goalIs l E hL t1 hf15) (cwV 3 C0.1.2.2.2.2 gX12_distance_X12_goalIs rfl rfl rfl (by decide +kernel) ⟨Nat.le_of_ble_eq_true rfl, Nat.le_of_ble_eq_true rfl⟩) (M_recv_0 C0 hw (by decide)) rfl hl.1 rfl (Nat.le_of_ble_eq_true rfl) dX12_distance_60 ⟨Nat.zero_le _, Nat.zero_le _⟩ (fun H locs hw => ?_)
          refine W.eq (g2 := F0 m 63 ls []) rfl ?_
          refine lv_aload_n hx hb dX12_distance_63 rfl (lv_at hl 0 rfl) ?_
          refine lv_iconst (v := 1) hx hb dX12_distance_64 (by decide) ?_
          refine lv_iload_n hx hb dX12_distance_65 rfl (lv_at hl 1 rfl) ?_
          refine lv_iadd hx hb dX12_distance_66 ?_
          refine lv_iload_n hx hb dX12_distance_67 rfl (lv_at hl 3 rfl) ?_
          refine lv_iload hx hb dX12_distance_68 (lv_at hl 4 rfl) ?_
          obtain ⟨v16, hf17, h⟩ := bn_c h
          refine M_callV C0 hw (As := [.int ((1 : Int32) + a1), .int a3, .int a4]) (rest := []) (mX12_fromTo l E hL t14 hf17) (cwV 3 C0.1.2.2.2.2 gX12_distance_X12_fromTo rfl rfl rfl (by decide +kernel) ⟨Nat.le_of_ble_eq_true rfl, Nat.le_of_ble_eq_true rfl⟩) (M_recv_0 C0 hw (by decide)) rfl hl.1 rfl (Nat.le_of_ble_eq_true rfl) dX12_distance_70 ⟨Nat.zero_le _, Nat.zero_le _⟩ (fun H locs hw => ?_)
          refine W.eq (g2 := F0 m 73 ls [.double v16]) rfl ?_
          obtain ⟨v18, hf19, h⟩ := bn_c h
          refine M_callS C0 hw (As := [.double v16]) (rest := []) (mmJxe99ae_doubleToLongBits_ccdee l E hL t14 hf19) (va_cwS 1 C0.1.2.2.2.2 gX12_distance_Jxe99ae_doubleToLongBits_ccdee rfl rfl rfl (by decide +kernel) ⟨Nat.le_of_ble_eq_true rfl, Nat.le_of_ble_eq_true rfl⟩) rfl hl.1 rfl (Nat.le_of_ble_eq_true rfl) dX12_distance_73 ⟨Nat.zero_le _, Nat.zero_le _⟩ (fun H locs hw => ?_)
          refine W.eq (g2 := F0 m 76 ls [.long v18]) rfl ?_
          cases h
          exact W.lret hx hb hr (M_fin C0 hw) hw.2.2.2 dX12_distance_76 hlocks
        · have h := ifp h hc13
          refine lv_ldc2 hx hb hown (C0.1.2.2.2.2 _ (List.mem_cons_of_mem _ (List.mem_append_left _ (List.mem_append_left _ (List.mem_of_getElem? (i := 2) rfl))))) dX12_distance_49 ?_
          cases h
          exact W.lret hx hb hr (M_fin C0 hw) hw.2.2.2 dX12_distance_52 hlocks

def fX12_nearest (a1 : Int32) (a2 : Int32) (a3 : Int32) (st : Sto) : Option (Int32 × Sto) :=
  lt1 (sI st 0 (0) 10 (0 : Int32)) fun (t1 : Sto) =>
  if gI t1 0 (0) 32 = 0 then (
   some ((-1 : Int32), t1)) else (
   (fX12_is a1 (6 : Int32)).bind (fun (v3 : Int32) =>
    if v3 = 0 then (
     some ((-1 : Int32), t1)) else (
     (fX12_is a2 (2 : Int32)).bind (fun (v6 : Int32) =>
      if v6 = 0 then (
       some ((-1 : Int32), t1)) else (
       (fX12_is a3 (gI t1 0 (0) 2)).bind (fun (v9 : Int32) =>
        if v9 = 0 then (
         some ((-1 : Int32), t1)) else (
         (fX12_goalIs (49 : Int32) a1 a2 t1).bind (fun (t12 : Sto) =>
          ((lp (σ := (Int32 × Sto)) (ρ := Sto) (un2 fun (v17 : Int32) (t18 : Sto) =>
             if gI t18 0 (0) 2 ≤ v17 then (
              some (.inr t18)) else (
              (fX12_fromTo ((1 : Int32) + v17) a1 a2 t18).bind (fun (v48 : UInt64) =>
               ck (0 ≤ v17.toInt ∧ v17.toInt < (lDM (47) (0) : Int)) (lt1 (sD t18 (47) (0) (v17.toNatClampNeg) v48) fun (t50 : Sto) =>
                lt1 (v17 + Int32.ofInt (1)) fun (v51 : Int32) =>
                some (.inl (v51, t50)))))) 4000 ((0 : Int32), t12)).bind
           (fun (t19 : Sto) =>
            ((lp (σ := Int32) (ρ := ((Int32 × Sto) ⊕ Unit)) (fun (v55 : Int32) =>
               if gI t19 0 (0) 2 ≤ v55 then (
                some (.inr (.inr ()))) else (
                ((lp (σ := (Int32 × Int32)) (ρ := Int32) (un2 fun (v60 : Int32) (v61 : Int32) =>
                   if gI t19 0 (0) 2 ≤ v60 then (
                    some (.inr v61)) else (
                    ck (0 ≤ v60.toInt ∧ v60.toInt < (lDM (47) (0) : Int)) (
                     ck (0 ≤ v55.toInt ∧ v55.toInt < (lDM (47) (0) : Int)) (
                      if Op.cmpValue (FP.dcmp (gD t19 (47) (0) (v60.toNatClampNeg)) (gD t19 (47) (0) (v55.toNatClampNeg))) CmpOp.g < 0 then (
                       lt1 (v61 + (1 : Int32)) fun (v65 : Int32) =>
                       lt1 (v60 + Int32.ofInt (1)) fun (v66 : Int32) =>
                       some (.inl (v66, v65))) else (
                       ck (0 ≤ v60.toInt ∧ v60.toInt < (lDM (47) (0) : Int)) (
                        ck (0 ≤ v55.toInt ∧ v55.toInt < (lDM (47) (0) : Int)) (
                         if Op.cmpValue (FP.dcmp (gD t19 (47) (0) (v60.toNatClampNeg)) (gD t19 (47) (0) (v55.toNatClampNeg))) CmpOp.l = 0 then (
                          if v55 ≤ v60 then (
                           lt1 (v61 + (0 : Int32)) fun (v71 : Int32) =>
                           lt1 (v60 + Int32.ofInt (1)) fun (v72 : Int32) =>
                           some (.inl (v72, v71))) else (
                           lt1 (v61 + (1 : Int32)) fun (v73 : Int32) =>
                           lt1 (v60 + Int32.ofInt (1)) fun (v74 : Int32) =>
                           some (.inl (v74, v73)))) else (
                          lt1 (v61 + (0 : Int32)) fun (v68 : Int32) =>
                          lt1 (v60 + Int32.ofInt (1)) fun (v69 : Int32) =>
                          some (.inl (v69, v68)))))))))) 4000 ((0 : Int32), (0 : Int32))).bind
                 (fun (v62 : Int32) =>
                  if v62 = a3 then (
                   some (.inr (.inl (v55, t19)))) else (
                   lt1 (v55 + Int32.ofInt (1)) fun (v76 : Int32) =>
                   some (.inl v76)))))) 4000 (0 : Int32)).bind
             (sm (fun (q : (Int32 × Sto)) => some q) (fun (_ : Unit) =>
               some ((-1 : Int32), t19))))))))))))))
set_option maxHeartbeats 4000000 in
set_option maxRecDepth 100000 in
theorem mX12_nearest (l : Launch) (E : XE) (hL : LM E) (st : Sto) {a1 : Int32} {a2 : Int32} {a3 : Int32} {r : Int32} {st1 : Sto} (h : fX12_nearest a1 a2 a3 st = some (r, st1)) : Met l yX12_nearest wsX12_nearest ({ frames := 6, cells := 0, slots := 0, locals := 164 }) (va_Pc [.ref (E.2.2.1 0 (0)), .int a1, .int a2, .int a3] (RM E st)) (QM E (some (.int r)) st1) 0 0 E.2.2.2 := by
  refine Met.ofW (cc := cX12_nearest) (maxL := 7) (ret := (some .int)) (by decide) rfl ?_
  intro p e s m args below meth c s₁ B hml hv
  obtain ⟨rfl, hP, hK⟩ := hv
  have hown : s.vm.findClass RX12 = some m.cls := findClass_of_methodNamed B.named
  have C0 : CX p m c cX12_nearest 7 s _ wsX12_nearest RX12 E := ⟨⟨B.exec, B.bytes, hml, hown, atoms_spec (ws := wsX12_nearest) B.pre⟩, hK⟩
  have hx := B.exec
  have hb := B.bytes
  have hr := B.returns
  have hlocks := B.notSynchronized
  have hw : SM E s st s.heap [] := ⟨hP, va_S.rf⟩
  have hl := lv_entry ([.ref (E.2.2.1 0 (0)), .int a1, .int a2, .int a3]) (n := 7) (Nat.le_of_ble_eq_true rfl)
  rw [lg_entry_eq]
  generalize (lg_sl ([.ref (E.2.2.1 0 (0)), .int a1, .int a2, .int a3]) ++ List.replicate (7 - (lg_sl ([.ref (E.2.2.1 0 (0)), .int a1, .int a2, .int a3])).length) Slot.unset).toArray = ls at hl ⊢
  have hl : lv_has ls 7 [(0, .ref (E.2.2.1 0 (0))), (1, .int a1), (2, .int a2), (3, .int a3)] := hl
  unfold fX12_nearest at h
  refine lv_aload_n hx hb dX12_nearest_0 rfl (lv_at hl 0 rfl) ?_
  refine lv_iconst (v := 0) hx hb dX12_nearest_1 (by decide) ?_
  refine M_p0_10 hL C0 hw (fun w h => (List.mem_cons_of_mem _ (List.mem_append_right _ h))) (by decide) h ((List.mem_cons_of_mem _ (List.mem_append_left _ (List.mem_append_left _ (List.mem_of_getElem? (i := 0) rfl))))) dX12_nearest_2 (fun t1 H locs hw h => ?_)
  refine lv_aload_n hx hb dX12_nearest_5 rfl (lv_at hl 0 rfl) ?_
  refine M_g0_32 C0 hw (fun w h => (List.mem_cons_of_mem _ (List.mem_append_right _ h))) (by decide) ((List.mem_cons_of_mem _ (List.mem_append_left _ (List.mem_append_left _ (List.mem_of_getElem? (i := 1) rfl))))) dX12_nearest_6 ?_
  refine lv_if_eq (tgt := 43) hx hb dX12_nearest_9 (by decide) (fun hc2 => ?_) (fun hc2 => ?_)
  · have h := ifp h hc2
    refine lv_iconst (v := -1) hx hb dX12_nearest_43 (by decide) ?_
    cases h
    exact W.iret hx hb hr (M_fin C0 hw) hw.2.2.2 dX12_nearest_44 hlocks
  · have h := ifn h hc2
    refine lv_aload_n hx hb dX12_nearest_12 rfl (lv_at hl 0 rfl) ?_
    refine lv_iload_n hx hb dX12_nearest_13 rfl (lv_at hl 1 rfl) ?_
    refine lv_bipush (v := 6) hx hb dX12_nearest_14 (by decide) ?_
    obtain ⟨v3, hf4, h⟩ := bn_c h
    refine M_callV C0 hw (As := [.int a1, .int (6 : Int32)]) (rest := []) (mX12_is l E hL t1 hf4) (cwV 2 C0.1.2.2.2.2 gX12_nearest_X12_is rfl rfl rfl (by decide +kernel) ⟨Nat.le_of_ble_eq_true rfl, Nat.le_of_ble_eq_true rfl⟩) (M_recv_0 C0 hw (by decide)) rfl hl.1 rfl (Nat.le_of_ble_eq_true rfl) dX12_nearest_16 ⟨Nat.zero_le _, Nat.zero_le _⟩ (fun H locs hw => ?_)
    refine W.eq (g2 := F0 m 19 ls [.int v3]) rfl ?_
    refine lv_if_eq (tgt := 43) hx hb dX12_nearest_19 (by decide) (fun hc5 => ?_) (fun hc5 => ?_)
    · have h := ifp h hc5
      refine lv_iconst (v := -1) hx hb dX12_nearest_43 (by decide) ?_
      cases h
      exact W.iret hx hb hr (M_fin C0 hw) hw.2.2.2 dX12_nearest_44 hlocks
    · have h := ifn h hc5
      refine lv_aload_n hx hb dX12_nearest_22 rfl (lv_at hl 0 rfl) ?_
      refine lv_iload_n hx hb dX12_nearest_23 rfl (lv_at hl 2 rfl) ?_
      refine lv_iconst (v := 2) hx hb dX12_nearest_24 (by decide) ?_
      obtain ⟨v6, hf7, h⟩ := bn_c h
      refine M_callV C0 hw (As := [.int a2, .int (2 : Int32)]) (rest := []) (mX12_is l E hL t1 hf7) (cwV 2 C0.1.2.2.2.2 gX12_nearest_X12_is rfl rfl rfl (by decide +kernel) ⟨Nat.le_of_ble_eq_true rfl, Nat.le_of_ble_eq_true rfl⟩) (M_recv_0 C0 hw (by decide)) rfl hl.1 rfl (Nat.le_of_ble_eq_true rfl) dX12_nearest_25 ⟨Nat.zero_le _, Nat.zero_le _⟩ (fun H locs hw => ?_)
      refine W.eq (g2 := F0 m 28 ls [.int v6]) rfl ?_
      refine lv_if_eq (tgt := 43) hx hb dX12_nearest_28 (by decide) (fun hc8 => ?_) (fun hc8 => ?_)
      · have h := ifp h hc8
        refine lv_iconst (v := -1) hx hb dX12_nearest_43 (by decide) ?_
        cases h
        exact W.iret hx hb hr (M_fin C0 hw) hw.2.2.2 dX12_nearest_44 hlocks
      · have h := ifn h hc8
        refine lv_aload_n hx hb dX12_nearest_31 rfl (lv_at hl 0 rfl) ?_
        refine lv_iload_n hx hb dX12_nearest_32 rfl (lv_at hl 3 rfl) ?_
        refine lv_aload_n hx hb dX12_nearest_33 rfl (lv_at hl 0 rfl) ?_
        refine M_g0_2 C0 hw (fun w h => (List.mem_cons_of_mem _ (List.mem_append_right _ h))) (by decide) ((List.mem_cons_of_mem _ (List.mem_append_left _ (List.mem_append_left _ (List.mem_of_getElem? (i := 2) rfl))))) dX12_nearest_34 ?_
        obtain ⟨v9, hf10, h⟩ := bn_c h
        refine M_callV C0 hw (As := [.int a3, .int (gI t1 0 (0) 2)]) (rest := []) (mX12_is l E hL t1 hf10) (cwV 2 C0.1.2.2.2.2 gX12_nearest_X12_is rfl rfl rfl (by decide +kernel) ⟨Nat.le_of_ble_eq_true rfl, Nat.le_of_ble_eq_true rfl⟩) (M_recv_0 C0 hw (by decide)) rfl hl.1 rfl (Nat.le_of_ble_eq_true rfl) dX12_nearest_37 ⟨Nat.zero_le _, Nat.zero_le _⟩ (fun H locs hw => ?_)
        refine W.eq (g2 := F0 m 40 ls [.int v9]) rfl ?_
        refine lv_if_ne (tgt := 45) hx hb dX12_nearest_40 (by decide) (fun hc11 => ?_) (fun hc11 => ?_)
        · have h := ifn h hc11
          refine lv_aload_n hx hb dX12_nearest_45 rfl (lv_at hl 0 rfl) ?_
          refine lv_bipush (v := 49) hx hb dX12_nearest_46 (by decide) ?_
          refine lv_iload_n hx hb dX12_nearest_48 rfl (lv_at hl 1 rfl) ?_
          refine lv_iload_n hx hb dX12_nearest_49 rfl (lv_at hl 2 rfl) ?_
          obtain ⟨t12, hf13, h⟩ := bn_c h
          refine M_callV C0 hw (As := [.int (49 : Int32), .int a1, .int a2]) (rest := []) (mX12_goalIs l E hL t1 hf13) (cwV 3 C0.1.2.2.2.2 gX12_nearest_X12_goalIs rfl rfl rfl (by decide +kernel) ⟨Nat.le_of_ble_eq_true rfl, Nat.le_of_ble_eq_true rfl⟩) (M_recv_0 C0 hw (by decide)) rfl hl.1 rfl (Nat.le_of_ble_eq_true rfl) dX12_nearest_50 ⟨Nat.zero_le _, Nat.zero_le _⟩ (fun H locs hw => ?_)
          refine W.eq (g2 := F0 m 53 ls []) rfl ?_
          refine lv_iconst (v := 0) hx hb dX12_nearest_53 (by decide) ?_
          refine lv_istore (lv' := [(4, .int (0 : Int32)), (0, .ref (E.2.2.1 0 (0))), (1, .int a1), (2, .int a2), (3, .int a3)]) hx hb dX12_nearest_54 hl (by decide) rfl (fun ls hl => ?_)
          refine lp_ind (fun q : (Int32 × Sto) => ∀ (H : Heap) (locs : List Loc), SM E s (q.2) H locs → ∀ ls : Array Slot, lv_has ls 7 [(4, .int (q.1)), (0, .ref (E.2.2.1 0 (0))), (1, .int a1), (2, .int a2), (3, .int a3)] → W p l e (headSpec wsX12_nearest ({ frames := 6, cells := 0, slots := 0, locals := 164 })).room s m ([.ref (E.2.2.1 0 (0)), .int a1, .int a2, .int a3] : List Value).toArray below meth c H locs 0 0 (MQ below (QM E (some (.int r)) st1) ([.ref (E.2.2.1 0 (0)), .int a1, .int a2, .int a3] : List Value).toArray s 0 0 E.2.2.2) (F0 m 56 ls [])) (fun q o16 h hB15 hX14 => ?_) _ _ h _ _ hw _ (lv_sub hl [0, 1, 2, 3, 4] rfl)
          intro H locs hw ls hl
          obtain ⟨v17, t18⟩ := q
          have h := un2_d h
          have hw : SM E s t18 H locs := hw
          have hl : lv_has ls 7 [(4, .int v17), (0, .ref (E.2.2.1 0 (0))), (1, .int a1), (2, .int a2), (3, .int a3)] := hl
          refine lv_iload hx hb dX12_nearest_56 (lv_at hl 0 rfl) ?_
          refine lv_aload_n hx hb dX12_nearest_58 rfl (lv_at hl 1 rfl) ?_
          refine M_g0_2 C0 hw (fun w h => (List.mem_cons_of_mem _ (List.mem_append_right _ h))) (by decide) ((List.mem_cons_of_mem _ (List.mem_append_left _ (List.mem_append_left _ (List.mem_of_getElem? (i := 2) rfl))))) dX12_nearest_59 ?_
          refine lv_icmp_ge (tgt := 88) hx hb dX12_nearest_62 (by decide) (fun hc20 => ?_) (fun hc20 => ?_)
          · have h := ifp h hc20
            have h := hX14 _ (Option.some.inj h).symm
            have hl := lv_sub hl (l' := [(0, .ref (E.2.2.1 0 (0))), (3, .int a3)]) [1, 4] rfl
            refine lv_iconst (v := 0) hx hb dX12_nearest_88 (by decide) ?_
            refine lv_istore (lv' := [(4, .int (0 : Int32)), (0, .ref (E.2.2.1 0 (0))), (3, .int a3)]) hx hb dX12_nearest_89 hl (by decide) rfl (fun ls hl => ?_)
            refine lp_ind (fun q : Int32 => ∀ (H : Heap) (locs : List Loc), SM E s t18 H locs → ∀ ls : Array Slot, lv_has ls 7 [(4, .int q), (0, .ref (E.2.2.1 0 (0))), (3, .int a3)] → W p l e (headSpec wsX12_nearest ({ frames := 6, cells := 0, slots := 0, locals := 164 })).room s m ([.ref (E.2.2.1 0 (0)), .int a1, .int a2, .int a3] : List Value).toArray below meth c H locs 0 0 (MQ below (QM E (some (.int r)) st1) ([.ref (E.2.2.1 0 (0)), .int a1, .int a2, .int a3] : List Value).toArray s 0 0 E.2.2.2) (F0 m 91 ls [])) (fun q o23 h hB22 hX21 => ?_) _ _ h _ _ hw _ (lv_sub hl [0, 1, 2] rfl)
            intro H locs hw ls hl
            obtain ⟨v24, rfl⟩ : ∃ z, z = q := ⟨_, rfl⟩
            have hl : lv_has ls 7 [(4, .int v24), (0, .ref (E.2.2.1 0 (0))), (3, .int a3)] := hl
            refine lv_iload hx hb dX12_nearest_91 (lv_at hl 0 rfl) ?_
            refine lv_aload_n hx hb dX12_nearest_93 rfl (lv_at hl 1 rfl) ?_
            refine M_g0_2 C0 hw (fun w h => (List.mem_cons_of_mem _ (List.mem_append_right _ h))) (by decide) ((List.mem_cons_of_mem _ (List.mem_append_left _ (List.mem_append_left _ (List.mem_of_getElem? (i := 2) rfl))))) dX12_nearest_94 ?_
            refine lv_icmp_ge (tgt := 189) hx hb dX12_nearest_97 (by decide) (fun hc25 => ?_) (fun hc25 => ?_)
            · have h := ifp h hc25
              have h := hX21 _ (Option.some.inj h).symm
              have h := sm_r h
              have hl := lv_sub hl (l' := []) [] rfl
              refine lv_iconst (v := -1) hx hb dX12_nearest_189 (by decide) ?_
              cases h
              exact W.iret hx hb hr (M_fin C0 hw) hw.2.2.2 dX12_nearest_190 hlocks
            · have h := ifn h hc25
              refine lv_iconst (v := 0) hx hb dX12_nearest_100 (by decide) ?_
              refine lv_istore (lv' := [(5, .int (0 : Int32)), (4, .int v24), (0, .ref (E.2.2.1 0 (0))), (3, .int a3)]) hx hb dX12_nearest_101 hl (by decide) rfl (fun ls hl => ?_)
              refine lv_iconst (v := 0) hx hb dX12_nearest_103 (by decide) ?_
              refine lv_istore (lv' := [(6, .int (0 : Int32)), (5, .int (0 : Int32)), (4, .int v24), (0, .ref (E.2.2.1 0 (0))), (3, .int a3)]) hx hb dX12_nearest_104 hl (by decide) rfl (fun ls hl => ?_)
              refine lp_ind (fun q : (Int32 × Int32) => ∀ (H : Heap) (locs : List Loc), SM E s t18 H locs → ∀ ls : Array Slot, lv_has ls 7 [(6, .int (q.1)), (5, .int (q.2)), (4, .int v24), (0, .ref (E.2.2.1 0 (0))), (3, .int a3)] → W p l e (headSpec wsX12_nearest ({ frames := 6, cells := 0, slots := 0, locals := 164 })).room s m ([.ref (E.2.2.1 0 (0)), .int a1, .int a2, .int a3] : List Value).toArray below meth c H locs 0 0 (MQ below (QM E (some (.int r)) st1) ([.ref (E.2.2.1 0 (0)), .int a1, .int a2, .int a3] : List Value).toArray s 0 0 E.2.2.2) (F0 m 106 ls [])) (fun q o28 h hB27 hX26 => ?_) _ _ h _ _ hw _ (lv_sub hl [0, 1, 2, 3, 4] rfl)
              intro H locs hw ls hl
              obtain ⟨v29, v30⟩ := q
              have h := un2_d h
              have hl : lv_has ls 7 [(6, .int v29), (5, .int v30), (4, .int v24), (0, .ref (E.2.2.1 0 (0))), (3, .int a3)] := hl
              refine lv_iload hx hb dX12_nearest_106 (lv_at hl 0 rfl) ?_
              refine lv_aload_n hx hb dX12_nearest_108 rfl (lv_at hl 3 rfl) ?_
              refine M_g0_2 C0 hw (fun w h => (List.mem_cons_of_mem _ (List.mem_append_right _ h))) (by decide) ((List.mem_cons_of_mem _ (List.mem_append_left _ (List.mem_append_left _ (List.mem_of_getElem? (i := 2) rfl))))) dX12_nearest_109 ?_
              refine lv_icmp_ge (tgt := 174) hx hb dX12_nearest_112 (by decide) (fun hc32 => ?_) (fun hc32 => ?_)
              · have h := ifp h hc32
                have h := hX26 _ (Option.some.inj h).symm
                have hl := lv_sub hl (l' := [(0, .ref (E.2.2.1 0 (0))), (3, .int a3), (4, .int v24), (5, .int v30)]) [3, 4, 2, 1] rfl
                refine lv_iload hx hb dX12_nearest_174 (lv_at hl 3 rfl) ?_
                refine lv_iload_n hx hb dX12_nearest_176 rfl (lv_at hl 1 rfl) ?_
                refine lv_icmp_ne (tgt := 183) hx hb dX12_nearest_177 (by decide) (fun hc33 => ?_) (fun hc33 => ?_)
                · have h := ifn h hc33
                  refine x_iinc hx hb h dX12_nearest_183 hl (q := 2) rfl (fun v34 => [(4, .int v34), (0, .ref (E.2.2.1 0 (0))), (3, .int a3), (5, .int v30)]) (by decide) (fun _ => rfl) (fun v34 ls hl h => ?_)
                  refine lv_goto (tgt := 91) hx hb dX12_nearest_186 (by decide) ?_
                  exact hB22 _ (Option.some.inj h).symm _ _ hw _ (lv_sub hl [0, 1, 2] rfl)
                · have h := ifp h hc33
                  refine lv_iload hx hb dX12_nearest_180 (lv_at hl 2 rfl) ?_
                  have h := hX21 _ (Option.some.inj h).symm
                  have h := sm_l h
                  cases h
                  exact W.iret hx hb hr (M_fin C0 hw) hw.2.2.2 dX12_nearest_182 hlocks
              · have h := ifn h hc32
                refine lv_iload hx hb dX12_nearest_115 (lv_at hl 1 rfl) ?_
                refine lv_aload_n hx hb dX12_nearest_117 rfl (lv_at hl 3 rfl) ?_
                refine M_g0_46 C0 hw (fun w h => (List.mem_cons_of_mem _ (List.mem_append_right _ h))) (by decide) ((List.mem_cons_of_mem _ (List.mem_append_left _ (List.mem_append_left _ (List.mem_of_getElem? (i := 3) rfl))))) dX12_nearest_118 ?_
                refine lv_iload hx hb dX12_nearest_121 (lv_at hl 0 rfl) ?_
                refine M_dald C0 hw h (k := v29.toNatClampNeg) rfl dX12_nearest_123 (fun h => ?_)
                refine lv_aload_n hx hb dX12_nearest_124 rfl (lv_at hl 3 rfl) ?_
                refine M_g0_46 C0 hw (fun w h => (List.mem_cons_of_mem _ (List.mem_append_right _ h))) (by decide) ((List.mem_cons_of_mem _ (List.mem_append_left _ (List.mem_append_left _ (List.mem_of_getElem? (i := 3) rfl))))) dX12_nearest_125 ?_
                refine lv_iload hx hb dX12_nearest_128 (lv_at hl 2 rfl) ?_
                refine M_dald C0 hw h (k := v24.toNatClampNeg) rfl dX12_nearest_130 (fun h => ?_)
                refine lv_dcmp hx hb dX12_nearest_131 ?_
                refine lv_if_lt (tgt := 160) hx hb dX12_nearest_132 (by decide) (fun hc35 => ?_) (fun hc35 => ?_)
                · have h := ifp h hc35
                  refine lv_iconst (v := 1) hx hb dX12_nearest_160 (by decide) ?_
                  refine lv_goto (tgt := 165) hx hb dX12_nearest_161 (by decide) ?_
                  refine lv_iadd hx hb dX12_nearest_165 ?_
                  refine x_topi h (fun v36 h => ?_)
                  refine lv_istore (lv' := [(5, .int v36), (6, .int v29), (4, .int v24), (0, .ref (E.2.2.1 0 (0))), (3, .int a3)]) hx hb dX12_nearest_166 hl (by decide) rfl (fun ls hl => ?_)
                  refine x_iinc hx hb h dX12_nearest_168 hl (q := 1) rfl (fun v37 => [(6, .int v37), (5, .int v36), (4, .int v24), (0, .ref (E.2.2.1 0 (0))), (3, .int a3)]) (by decide) (fun _ => rfl) (fun v37 ls hl h => ?_)
                  refine lv_goto (tgt := 106) hx hb dX12_nearest_171 (by decide) ?_
                  exact hB27 _ (Option.some.inj h).symm _ _ hw _ (lv_sub hl [0, 1, 2, 3, 4] rfl)
                · have h := ifn h hc35
                  refine lv_aload_n hx hb dX12_nearest_135 rfl (lv_at hl 3 rfl) ?_
                  refine M_g0_46 C0 hw (fun w h => (List.mem_cons_of_mem _ (List.mem_append_right _ h))) (by decide) ((List.mem_cons_of_mem _ (List.mem_append_left _ (List.mem_append_left _ (List.mem_of_getElem? (i := 3) rfl))))) dX12_nearest_136 ?_
                  refine lv_iload hx hb dX12_nearest_139 (lv_at hl 0 rfl) ?_
                  refine M_dald C0 hw h (k := v29.toNatClampNeg) rfl dX12_nearest_141 (fun h => ?_)
                  refine lv_aload_n hx hb dX12_nearest_142 rfl (lv_at hl 3 rfl) ?_
                  refine M_g0_46 C0 hw (fun w h => (List.mem_cons_of_mem _ (List.mem_append_right _ h))) (by decide) ((List.mem_cons_of_mem _ (List.mem_append_left _ (List.mem_append_left _ (List.mem_of_getElem? (i := 3) rfl))))) dX12_nearest_143 ?_
                  refine lv_iload hx hb dX12_nearest_146 (lv_at hl 2 rfl) ?_
                  refine M_dald C0 hw h (k := v24.toNatClampNeg) rfl dX12_nearest_148 (fun h => ?_)
                  refine lv_dcmp hx hb dX12_nearest_149 ?_
                  refine lv_if_ne (tgt := 164) hx hb dX12_nearest_150 (by decide) (fun hc38 => ?_) (fun hc38 => ?_)
                  · have h := ifn h hc38
                    refine lv_iconst (v := 0) hx hb dX12_nearest_164 (by decide) ?_
                    refine lv_iadd hx hb dX12_nearest_165 ?_
                    refine x_topi h (fun v39 h => ?_)
                    refine lv_istore (lv' := [(5, .int v39), (6, .int v29), (4, .int v24), (0, .ref (E.2.2.1 0 (0))), (3, .int a3)]) hx hb dX12_nearest_166 hl (by decide) rfl (fun ls hl => ?_)
                    refine x_iinc hx hb h dX12_nearest_168 hl (q := 1) rfl (fun v40 => [(6, .int v40), (5, .int v39), (4, .int v24), (0, .ref (E.2.2.1 0 (0))), (3, .int a3)]) (by decide) (fun _ => rfl) (fun v40 ls hl h => ?_)
                    refine lv_goto (tgt := 106) hx hb dX12_nearest_171 (by decide) ?_
                    exact hB27 _ (Option.some.inj h).symm _ _ hw _ (lv_sub hl [0, 1, 2, 3, 4] rfl)
                  · have h := ifp h hc38
                    refine lv_iload hx hb dX12_nearest_153 (lv_at hl 0 rfl) ?_
                    refine lv_iload hx hb dX12_nearest_155 (lv_at hl 2 rfl) ?_
                    refine lv_icmp_ge (tgt := 164) hx hb dX12_nearest_157 (by decide) (fun hc41 => ?_) (fun hc41 => ?_)
                    · have h := ifp h hc41
                      refine lv_iconst (v := 0) hx hb dX12_nearest_164 (by decide) ?_
                      refine lv_iadd hx hb dX12_nearest_165 ?_
                      refine x_topi h (fun v42 h => ?_)
                      refine lv_istore (lv' := [(5, .int v42), (6, .int v29), (4, .int v24), (0, .ref (E.2.2.1 0 (0))), (3, .int a3)]) hx hb dX12_nearest_166 hl (by decide) rfl (fun ls hl => ?_)
                      refine x_iinc hx hb h dX12_nearest_168 hl (q := 1) rfl (fun v43 => [(6, .int v43), (5, .int v42), (4, .int v24), (0, .ref (E.2.2.1 0 (0))), (3, .int a3)]) (by decide) (fun _ => rfl) (fun v43 ls hl h => ?_)
                      refine lv_goto (tgt := 106) hx hb dX12_nearest_171 (by decide) ?_
                      exact hB27 _ (Option.some.inj h).symm _ _ hw _ (lv_sub hl [0, 1, 2, 3, 4] rfl)
                    · have h := ifn h hc41
                      refine lv_iconst (v := 1) hx hb dX12_nearest_160 (by decide) ?_
                      refine lv_goto (tgt := 165) hx hb dX12_nearest_161 (by decide) ?_
                      refine lv_iadd hx hb dX12_nearest_165 ?_
                      refine x_topi h (fun v44 h => ?_)
                      refine lv_istore (lv' := [(5, .int v44), (6, .int v29), (4, .int v24), (0, .ref (E.2.2.1 0 (0))), (3, .int a3)]) hx hb dX12_nearest_166 hl (by decide) rfl (fun ls hl => ?_)
                      refine x_iinc hx hb h dX12_nearest_168 hl (q := 1) rfl (fun v45 => [(6, .int v45), (5, .int v44), (4, .int v24), (0, .ref (E.2.2.1 0 (0))), (3, .int a3)]) (by decide) (fun _ => rfl) (fun v45 ls hl h => ?_)
                      refine lv_goto (tgt := 106) hx hb dX12_nearest_171 (by decide) ?_
                      exact hB27 _ (Option.some.inj h).symm _ _ hw _ (lv_sub hl [0, 1, 2, 3, 4] rfl)
          · have h := ifn h hc20
            refine lv_aload_n hx hb dX12_nearest_65 rfl (lv_at hl 1 rfl) ?_
            refine M_g0_46 C0 hw (fun w h => (List.mem_cons_of_mem _ (List.mem_append_right _ h))) (by decide) ((List.mem_cons_of_mem _ (List.mem_append_left _ (List.mem_append_left _ (List.mem_of_getElem? (i := 3) rfl))))) dX12_nearest_66 ?_
            refine lv_iload hx hb dX12_nearest_69 (lv_at hl 0 rfl) ?_
            refine lv_aload_n hx hb dX12_nearest_71 rfl (lv_at hl 1 rfl) ?_
            refine lv_iconst (v := 1) hx hb dX12_nearest_72 (by decide) ?_
            refine lv_iload hx hb dX12_nearest_73 (lv_at hl 0 rfl) ?_
            refine lv_iadd hx hb dX12_nearest_75 ?_
            refine lv_iload_n hx hb dX12_nearest_76 rfl (lv_at hl 2 rfl) ?_
            refine lv_iload_n hx hb dX12_nearest_77 rfl (lv_at hl 3 rfl) ?_
            obtain ⟨v48, hf49, h⟩ := bn_c h
            refine M_callV C0 hw (As := [.int ((1 : Int32) + v17), .int a1, .int a2]) (rest := [.int v17, .ref (E.2.2.1 (47) (0))]) (mX12_fromTo l E hL t18 hf49) (cwV 3 C0.1.2.2.2.2 gX12_nearest_X12_fromTo rfl rfl rfl (by decide +kernel) ⟨Nat.le_of_ble_eq_true rfl, Nat.le_of_ble_eq_true rfl⟩) (M_recv_0 C0 hw (by decide)) rfl hl.1 rfl (Nat.le_of_ble_eq_true rfl) dX12_nearest_78 ⟨Nat.zero_le _, Nat.zero_le _⟩ (fun H locs hw => ?_)
            refine W.eq (g2 := F0 m 81 ls [.double v48, .int v17, .ref (E.2.2.1 (47) (0))]) rfl ?_
            refine M_dast hL C0 hw h (k := v17.toNatClampNeg) rfl dX12_nearest_81 (fun t50 H locs hw h => ?_)
            refine x_iinc hx hb h dX12_nearest_82 hl (q := 0) rfl (fun v51 => [(4, .int v51), (0, .ref (E.2.2.1 0 (0))), (1, .int a1), (2, .int a2), (3, .int a3)]) (by decide) (fun _ => rfl) (fun v51 ls hl h => ?_)
            refine lv_goto (tgt := 56) hx hb dX12_nearest_85 (by decide) ?_
            exact hB15 _ (Option.some.inj h).symm _ _ hw _ (lv_sub hl [0, 1, 2, 3, 4] rfl)
        · have h := ifp h hc11
          refine lv_iconst (v := -1) hx hb dX12_nearest_43 (by decide) ?_
          cases h
          exact W.iret hx hb hr (M_fin C0 hw) hw.2.2.2 dX12_nearest_44 hlocks

def fX12_parting (a1 : Int32) (a2 : Int32) (a3 : Int32) (st : Sto) : Option (Int32 × Sto) :=
  lt1 (sI st 0 (0) 10 (0 : Int32)) fun (t1 : Sto) =>
  (fX12_is a1 (gI t1 0 (0) 2)).bind (fun (v2 : Int32) =>
   if v2 = 0 then (
    some ((-1 : Int32), t1)) else (
    (fX12_is a2 (gI t1 0 (0) 2)).bind (fun (v5 : Int32) =>
     if v5 = 0 then (
      some ((-1 : Int32), t1)) else (
      (fX12_is a3 (2 : Int32)).bind (fun (v8 : Int32) =>
       if v8 = 0 then (
        some ((-1 : Int32), t1)) else (
        ((lp (σ := (Int32 × UInt64 × Int32 × Sto)) (ρ := (Int32 × Sto)) (un4 fun (v14 : Int32) (v15 : UInt64) (v16 : Int32) (t17 : Sto) =>
           if (6 : Int32) ≤ v14 then (
            some (.inr (v16, t17))) else (
            (fX12_goalIs ((1 : Int32) + a2) v14 a3 t17).bind (fun (t21 : Sto) =>
             (fX12_fromTo ((1 : Int32) + a1) v14 a3 t21).bind (fun (v23 : UInt64) =>
              if 0 < Op.cmpValue (FP.dcmp v23 v15) CmpOp.g then (
               lt1 (v14 + Int32.ofInt (1)) fun (v26 : Int32) =>
               some (.inl (v26, v23, v14, t21))) else (
               lt1 (v14 + Int32.ofInt (1)) fun (v27 : Int32) =>
               some (.inl (v27, v15, v16, t21))))))) 4000 ((0 : Int32), (13830554455654793216 : UInt64), (0 : Int32), t1)).bind
         (un2 fun (v18 : Int32) (t19 : Sto) =>
          some (v18, t19)))))))))
set_option maxHeartbeats 4000000 in
set_option maxRecDepth 100000 in
theorem mX12_parting (l : Launch) (E : XE) (hL : LM E) (st : Sto) {a1 : Int32} {a2 : Int32} {a3 : Int32} {r : Int32} {st1 : Sto} (h : fX12_parting a1 a2 a3 st = some (r, st1)) : Met l yX12_parting wsX12_parting ({ frames := 6, cells := 0, slots := 0, locals := 164 }) (va_Pc [.ref (E.2.2.1 0 (0)), .int a1, .int a2, .int a3] (RM E st)) (QM E (some (.int r)) st1) 0 0 E.2.2.2 := by
  refine Met.ofW (cc := cX12_parting) (maxL := 10) (ret := (some .int)) (by decide) rfl ?_
  intro p e s m args below meth c s₁ B hml hv
  obtain ⟨rfl, hP, hK⟩ := hv
  have hown : s.vm.findClass RX12 = some m.cls := findClass_of_methodNamed B.named
  have C0 : CX p m c cX12_parting 10 s _ wsX12_parting RX12 E := ⟨⟨B.exec, B.bytes, hml, hown, atoms_spec (ws := wsX12_parting) B.pre⟩, hK⟩
  have hx := B.exec
  have hb := B.bytes
  have hr := B.returns
  have hlocks := B.notSynchronized
  have hw : SM E s st s.heap [] := ⟨hP, va_S.rf⟩
  have hl := lv_entry ([.ref (E.2.2.1 0 (0)), .int a1, .int a2, .int a3]) (n := 10) (Nat.le_of_ble_eq_true rfl)
  rw [lg_entry_eq]
  generalize (lg_sl ([.ref (E.2.2.1 0 (0)), .int a1, .int a2, .int a3]) ++ List.replicate (10 - (lg_sl ([.ref (E.2.2.1 0 (0)), .int a1, .int a2, .int a3])).length) Slot.unset).toArray = ls at hl ⊢
  have hl : lv_has ls 10 [(0, .ref (E.2.2.1 0 (0))), (1, .int a1), (2, .int a2), (3, .int a3)] := hl
  unfold fX12_parting at h
  refine lv_aload_n hx hb dX12_parting_0 rfl (lv_at hl 0 rfl) ?_
  refine lv_iconst (v := 0) hx hb dX12_parting_1 (by decide) ?_
  refine M_p0_10 hL C0 hw (fun w h => (List.mem_cons_of_mem _ (List.mem_append_right _ h))) (by decide) h ((List.mem_cons_of_mem _ (List.mem_append_left _ (List.mem_append_left _ (List.mem_of_getElem? (i := 0) rfl))))) dX12_parting_2 (fun t1 H locs hw h => ?_)
  refine lv_aload_n hx hb dX12_parting_5 rfl (lv_at hl 0 rfl) ?_
  refine lv_iload_n hx hb dX12_parting_6 rfl (lv_at hl 1 rfl) ?_
  refine lv_aload_n hx hb dX12_parting_7 rfl (lv_at hl 0 rfl) ?_
  refine M_g0_2 C0 hw (fun w h => (List.mem_cons_of_mem _ (List.mem_append_right _ h))) (by decide) ((List.mem_cons_of_mem _ (List.mem_append_left _ (List.mem_append_left _ (List.mem_of_getElem? (i := 1) rfl))))) dX12_parting_8 ?_
  obtain ⟨v2, hf3, h⟩ := bn_c h
  refine M_callV C0 hw (As := [.int a1, .int (gI t1 0 (0) 2)]) (rest := []) (mX12_is l E hL t1 hf3) (cwV 2 C0.1.2.2.2.2 gX12_parting_X12_is rfl rfl rfl (by decide +kernel) ⟨Nat.le_of_ble_eq_true rfl, Nat.le_of_ble_eq_true rfl⟩) (M_recv_0 C0 hw (by decide)) rfl hl.1 rfl (Nat.le_of_ble_eq_true rfl) dX12_parting_11 ⟨Nat.zero_le _, Nat.zero_le _⟩ (fun H locs hw => ?_)
  refine W.eq (g2 := F0 m 14 ls [.int v2]) rfl ?_
  refine lv_if_eq (tgt := 38) hx hb dX12_parting_14 (by decide) (fun hc4 => ?_) (fun hc4 => ?_)
  · have h := ifp h hc4
    refine lv_iconst (v := -1) hx hb dX12_parting_38 (by decide) ?_
    cases h
    exact W.iret hx hb hr (M_fin C0 hw) hw.2.2.2 dX12_parting_39 hlocks
  · have h := ifn h hc4
    refine lv_aload_n hx hb dX12_parting_17 rfl (lv_at hl 0 rfl) ?_
    refine lv_iload_n hx hb dX12_parting_18 rfl (lv_at hl 2 rfl) ?_
    refine lv_aload_n hx hb dX12_parting_19 rfl (lv_at hl 0 rfl) ?_
    refine M_g0_2 C0 hw (fun w h => (List.mem_cons_of_mem _ (List.mem_append_right _ h))) (by decide) ((List.mem_cons_of_mem _ (List.mem_append_left _ (List.mem_append_left _ (List.mem_of_getElem? (i := 1) rfl))))) dX12_parting_20 ?_
    obtain ⟨v5, hf6, h⟩ := bn_c h
    refine M_callV C0 hw (As := [.int a2, .int (gI t1 0 (0) 2)]) (rest := []) (mX12_is l E hL t1 hf6) (cwV 2 C0.1.2.2.2.2 gX12_parting_X12_is rfl rfl rfl (by decide +kernel) ⟨Nat.le_of_ble_eq_true rfl, Nat.le_of_ble_eq_true rfl⟩) (M_recv_0 C0 hw (by decide)) rfl hl.1 rfl (Nat.le_of_ble_eq_true rfl) dX12_parting_23 ⟨Nat.zero_le _, Nat.zero_le _⟩ (fun H locs hw => ?_)
    refine W.eq (g2 := F0 m 26 ls [.int v5]) rfl ?_
    refine lv_if_eq (tgt := 38) hx hb dX12_parting_26 (by decide) (fun hc7 => ?_) (fun hc7 => ?_)
    · have h := ifp h hc7
      refine lv_iconst (v := -1) hx hb dX12_parting_38 (by decide) ?_
      cases h
      exact W.iret hx hb hr (M_fin C0 hw) hw.2.2.2 dX12_parting_39 hlocks
    · have h := ifn h hc7
      refine lv_aload_n hx hb dX12_parting_29 rfl (lv_at hl 0 rfl) ?_
      refine lv_iload_n hx hb dX12_parting_30 rfl (lv_at hl 3 rfl) ?_
      refine lv_iconst (v := 2) hx hb dX12_parting_31 (by decide) ?_
      obtain ⟨v8, hf9, h⟩ := bn_c h
      refine M_callV C0 hw (As := [.int a3, .int (2 : Int32)]) (rest := []) (mX12_is l E hL t1 hf9) (cwV 2 C0.1.2.2.2.2 gX12_parting_X12_is rfl rfl rfl (by decide +kernel) ⟨Nat.le_of_ble_eq_true rfl, Nat.le_of_ble_eq_true rfl⟩) (M_recv_0 C0 hw (by decide)) rfl hl.1 rfl (Nat.le_of_ble_eq_true rfl) dX12_parting_32 ⟨Nat.zero_le _, Nat.zero_le _⟩ (fun H locs hw => ?_)
      refine W.eq (g2 := F0 m 35 ls [.int v8]) rfl ?_
      refine lv_if_ne (tgt := 40) hx hb dX12_parting_35 (by decide) (fun hc10 => ?_) (fun hc10 => ?_)
      · have h := ifn h hc10
        refine lv_iconst (v := 0) hx hb dX12_parting_40 (by decide) ?_
        refine lv_istore (lv' := [(4, .int (0 : Int32)), (0, .ref (E.2.2.1 0 (0))), (1, .int a1), (2, .int a2), (3, .int a3)]) hx hb dX12_parting_41 hl (by decide) rfl (fun ls hl => ?_)
        refine lv_ldc2d hx hb hown (C0.1.2.2.2.2 _ (List.mem_cons_of_mem _ (List.mem_append_left _ (List.mem_append_left _ (List.mem_of_getElem? (i := 2) rfl))))) dX12_parting_43 ?_
        refine lv_dstore (lv' := [(5, .double (13830554455654793216 : UInt64)), (4, .int (0 : Int32)), (0, .ref (E.2.2.1 0 (0))), (1, .int a1), (2, .int a2), (3, .int a3)]) hx hb dX12_parting_46 hl (by decide) rfl (fun ls hl => ?_)
        refine lv_iconst (v := 0) hx hb dX12_parting_48 (by decide) ?_
        refine lv_istore (lv' := [(7, .int (0 : Int32)), (5, .double (13830554455654793216 : UInt64)), (4, .int (0 : Int32)), (0, .ref (E.2.2.1 0 (0))), (1, .int a1), (2, .int a2), (3, .int a3)]) hx hb dX12_parting_49 hl (by decide) rfl (fun ls hl => ?_)
        refine lp_ind (fun q : (Int32 × UInt64 × Int32 × Sto) => ∀ (H : Heap) (locs : List Loc), SM E s (q.2.2.2) H locs → ∀ ls : Array Slot, lv_has ls 10 [(7, .int (q.1)), (5, .double (q.2.1)), (4, .int (q.2.2.1)), (0, .ref (E.2.2.1 0 (0))), (1, .int a1), (2, .int a2), (3, .int a3)] → W p l e (headSpec wsX12_parting ({ frames := 6, cells := 0, slots := 0, locals := 164 })).room s m ([.ref (E.2.2.1 0 (0)), .int a1, .int a2, .int a3] : List Value).toArray below meth c H locs 0 0 (MQ below (QM E (some (.int r)) st1) ([.ref (E.2.2.1 0 (0)), .int a1, .int a2, .int a3] : List Value).toArray s 0 0 E.2.2.2) (F0 m 51 ls [])) (fun q o13 h hB12 hX11 => ?_) _ _ h _ _ hw _ (lv_sub hl [0, 1, 2, 3, 4, 5, 6] rfl)
        intro H locs hw ls hl
        obtain ⟨v14, v15, v16, t17⟩ := q
        have h := un4_d h
        have hw : SM E s t17 H locs := hw
        have hl : lv_has ls 10 [(7, .int v14), (5, .double v15), (4, .int v16), (0, .ref (E.2.2.1 0 (0))), (1, .int a1), (2, .int a2), (3, .int a3)] := hl
        refine lv_iload hx hb dX12_parting_51 (lv_at hl 0 rfl) ?_
        refine lv_bipush (v := 6) hx hb dX12_parting_53 (by decide) ?_
        refine lv_icmp_ge (tgt := 105) hx hb dX12_parting_55 (by decide) (fun hc20 => ?_) (fun hc20 => ?_)
        · have h := ifp h hc20
          have h := hX11 _ (Option.some.inj h).symm
          have h := un2_d h
          have hl := lv_sub hl (l' := [(4, .int v16)]) [2] rfl
          refine lv_iload hx hb dX12_parting_105 (lv_at hl 0 rfl) ?_
          cases h
          exact W.iret hx hb hr (M_fin C0 hw) hw.2.2.2 dX12_parting_107 hlocks
        · have h := ifn h hc20
          refine lv_aload_n hx hb dX12_parting_58 rfl (lv_at hl 3 rfl) ?_
          refine lv_iconst (v := 1) hx hb dX12_parting_59 (by decide) ?_
          refine lv_iload_n hx hb dX12_parting_60 rfl (lv_at hl 5 rfl) ?_
          refine lv_iadd hx hb dX12_parting_61 ?_
          refine lv_iload hx hb dX12_parting_62 (lv_at hl 0 rfl) ?_
          refine lv_iload_n hx hb dX12_parting_64 rfl (lv_at hl 6 rfl) ?_
          obtain ⟨t21, hf22, h⟩ := bn_c h
          refine M_callV C0 hw (As := [.int ((1 : Int32) + a2), .int v14, .int a3]) (rest := []) (mX12_goalIs l E hL t17 hf22) (cwV 3 C0.1.2.2.2.2 gX12_parting_X12_goalIs rfl rfl rfl (by decide +kernel) ⟨Nat.le_of_ble_eq_true rfl, Nat.le_of_ble_eq_true rfl⟩) (M_recv_0 C0 hw (by decide)) rfl hl.1 rfl (Nat.le_of_ble_eq_true rfl) dX12_parting_65 ⟨Nat.zero_le _, Nat.zero_le _⟩ (fun H locs hw => ?_)
          refine W.eq (g2 := F0 m 68 ls []) rfl ?_
          refine lv_aload_n hx hb dX12_parting_68 rfl (lv_at hl 3 rfl) ?_
          refine lv_iconst (v := 1) hx hb dX12_parting_69 (by decide) ?_
          refine lv_iload_n hx hb dX12_parting_70 rfl (lv_at hl 4 rfl) ?_
          refine lv_iadd hx hb dX12_parting_71 ?_
          refine lv_iload hx hb dX12_parting_72 (lv_at hl 0 rfl) ?_
          refine lv_iload_n hx hb dX12_parting_74 rfl (lv_at hl 6 rfl) ?_
          obtain ⟨v23, hf24, h⟩ := bn_c h
          refine M_callV C0 hw (As := [.int ((1 : Int32) + a1), .int v14, .int a3]) (rest := []) (mX12_fromTo l E hL t21 hf24) (cwV 3 C0.1.2.2.2.2 gX12_parting_X12_fromTo rfl rfl rfl (by decide +kernel) ⟨Nat.le_of_ble_eq_true rfl, Nat.le_of_ble_eq_true rfl⟩) (M_recv_0 C0 hw (by decide)) rfl hl.1 rfl (Nat.le_of_ble_eq_true rfl) dX12_parting_75 ⟨Nat.zero_le _, Nat.zero_le _⟩ (fun H locs hw => ?_)
          refine W.eq (g2 := F0 m 78 ls [.double v23]) rfl ?_
          refine lv_dstore (lv' := [(8, .double v23), (7, .int v14), (5, .double v15), (4, .int v16), (0, .ref (E.2.2.1 0 (0))), (1, .int a1), (2, .int a2), (3, .int a3)]) hx hb dX12_parting_78 hl (by decide) rfl (fun ls hl => ?_)
          refine lv_dload hx hb dX12_parting_80 (lv_at hl 0 rfl) ?_
          refine lv_dload hx hb dX12_parting_82 (lv_at hl 2 rfl) ?_
          refine lv_dcmp hx hb dX12_parting_84 ?_
          refine lv_if_gt (tgt := 91) hx hb dX12_parting_85 (by decide) (fun hc25 => ?_) (fun hc25 => ?_)
          · have h := ifp h hc25
            refine lv_dload hx hb dX12_parting_91 (lv_at hl 0 rfl) ?_
            refine lv_dstore (lv' := [(5, .double v23), (8, .double v23), (7, .int v14), (4, .int v16), (0, .ref (E.2.2.1 0 (0))), (1, .int a1), (2, .int a2), (3, .int a3)]) hx hb dX12_parting_93 hl (by decide) rfl (fun ls hl => ?_)
            refine lv_iload hx hb dX12_parting_95 (lv_at hl 2 rfl) ?_
            refine lv_istore (lv' := [(4, .int v14), (5, .double v23), (8, .double v23), (7, .int v14), (0, .ref (E.2.2.1 0 (0))), (1, .int a1), (2, .int a2), (3, .int a3)]) hx hb dX12_parting_97 hl (by decide) rfl (fun ls hl => ?_)
            refine x_iinc hx hb h dX12_parting_99 hl (q := 3) rfl (fun v26 => [(7, .int v26), (4, .int v14), (5, .double v23), (8, .double v23), (0, .ref (E.2.2.1 0 (0))), (1, .int a1), (2, .int a2), (3, .int a3)]) (by decide) (fun _ => rfl) (fun v26 ls hl h => ?_)
            refine lv_goto (tgt := 51) hx hb dX12_parting_102 (by decide) ?_
            exact hB12 _ (Option.some.inj h).symm _ _ hw _ (lv_sub hl [0, 2, 1, 4, 5, 6, 7] rfl)
          · have h := ifn h hc25
            refine lv_goto (tgt := 99) hx hb dX12_parting_88 (by decide) ?_
            refine x_iinc hx hb h dX12_parting_99 hl (q := 1) rfl (fun v27 => [(7, .int v27), (8, .double v23), (5, .double v15), (4, .int v16), (0, .ref (E.2.2.1 0 (0))), (1, .int a1), (2, .int a2), (3, .int a3)]) (by decide) (fun _ => rfl) (fun v27 ls hl h => ?_)
            refine lv_goto (tgt := 51) hx hb dX12_parting_102 (by decide) ?_
            exact hB12 _ (Option.some.inj h).symm _ _ hw _ (lv_sub hl [0, 2, 3, 4, 5, 6, 7] rfl)
      · have h := ifp h hc10
        refine lv_iconst (v := -1) hx hb dX12_parting_38 (by decide) ?_
        cases h
        exact W.iret hx hb hr (M_fin C0 hw) hw.2.2.2 dX12_parting_39 hlocks

def fX12_isSize (a1 : Int32) : Option Int32 :=
  if a1 < (1 : Int32) then (
   some (0 : Int32)) else (
   if (1000 : Int32) < a1 then (
    some (0 : Int32)) else (
    some (1 : Int32)))
set_option maxHeartbeats 4000000 in
set_option maxRecDepth 100000 in
theorem mX12_isSize (l : Launch) (E : XE) (hL : LM E) (st : Sto) {a1 : Int32} {r : Int32} (h : fX12_isSize a1 = some r) : Met l yX12_isSize wsX12_isSize ({ frames := 0, cells := 0, slots := 0, locals := 0 }) (va_Pc [.ref (E.2.2.1 0 (0)), .int a1] (RM E st)) (QM E (some (.int r)) st) 0 0 E.2.2.2 := by
  refine Met.ofW (cc := cX12_isSize) (maxL := 2) (ret := (some .boolean)) (by decide) rfl ?_
  intro p e s m args below meth c s₁ B hml hv
  obtain ⟨rfl, hP, hK⟩ := hv
  have hown : s.vm.findClass RX12 = some m.cls := findClass_of_methodNamed B.named
  have C0 : CX p m c cX12_isSize 2 s _ wsX12_isSize RX12 E := ⟨⟨B.exec, B.bytes, hml, hown, atoms_spec (ws := wsX12_isSize) B.pre⟩, hK⟩
  have hx := B.exec
  have hb := B.bytes
  have hr := B.returns
  have hlocks := B.notSynchronized
  have hw : SM E s st s.heap [] := ⟨hP, va_S.rf⟩
  have hl := lv_entry ([.ref (E.2.2.1 0 (0)), .int a1]) (n := 2) (Nat.le_of_ble_eq_true rfl)
  rw [lg_entry_eq]
  generalize (lg_sl ([.ref (E.2.2.1 0 (0)), .int a1]) ++ List.replicate (2 - (lg_sl ([.ref (E.2.2.1 0 (0)), .int a1])).length) Slot.unset).toArray = ls at hl ⊢
  have hl : lv_has ls 2 [(0, .ref (E.2.2.1 0 (0))), (1, .int a1)] := hl
  unfold fX12_isSize at h
  refine lv_iload_n hx hb dX12_isSize_0 rfl (lv_at hl 1 rfl) ?_
  refine lv_iconst (v := 1) hx hb dX12_isSize_1 (by decide) ?_
  refine lv_icmp_lt (tgt := 16) hx hb dX12_isSize_2 (by decide) (fun hc1 => ?_) (fun hc1 => ?_)
  · have h := ifp h hc1
    refine lv_iconst (v := 0) hx hb dX12_isSize_16 (by decide) ?_
    cases h
    exact W.zret hx hb hr rfl (M_fin C0 hw) hw.2.2.2 dX12_isSize_17 hlocks
  · have h := ifn h hc1
    refine lv_iload_n hx hb dX12_isSize_5 rfl (lv_at hl 1 rfl) ?_
    refine lv_sipush (v := 1000) hx hb dX12_isSize_6 (by decide) ?_
    refine lv_icmp_gt (tgt := 16) hx hb dX12_isSize_9 (by decide) (fun hc2 => ?_) (fun hc2 => ?_)
    · have h := ifp h hc2
      refine lv_iconst (v := 0) hx hb dX12_isSize_16 (by decide) ?_
      cases h
      exact W.zret hx hb hr rfl (M_fin C0 hw) hw.2.2.2 dX12_isSize_17 hlocks
    · have h := ifn h hc2
      refine lv_iconst (v := 1) hx hb dX12_isSize_12 (by decide) ?_
      refine lv_goto (tgt := 17) hx hb dX12_isSize_13 (by decide) ?_
      cases h
      exact W.zret hx hb hr rfl (M_fin C0 hw) hw.2.2.2 dX12_isSize_17 hlocks

def fX12_solid (a1 : Int32) (a2 : Int32) (a3 : Int32) (a4 : Int32) (a5 : Int32) (a6 : Int32) (a7 : Int32) (st : Sto) : Option (Int32 × Sto) :=
  lt1 (sI st 0 (0) 10 (0 : Int32)) fun (t1 : Sto) =>
  (fX12_is a2 (gI t1 0 (0) 2)).bind (fun (v2 : Int32) =>
   if v2 = 0 then (
    (fX12_no (2 : Int32) t1).bind (un2 fun (v75 : Int32) (t76 : Sto) =>
     some (v75, t76))) else (
    (fX12_is a1 (2 : Int32)).bind (fun (v5 : Int32) =>
     if v5 = 0 then (
      (fX12_no (3 : Int32) t1).bind (un2 fun (v8 : Int32) (t9 : Sto) =>
       some (v8, t9))) else (
      (fX12_isSize a5).bind (fun (v11 : Int32) =>
       if v11 = 0 then (
        (fX12_no (3 : Int32) t1).bind (un2 fun (v14 : Int32) (t15 : Sto) =>
         some (v14, t15))) else (
        (fX12_isSize a6).bind (fun (v17 : Int32) =>
         if v17 = 0 then (
          (fX12_no (3 : Int32) t1).bind (un2 fun (v20 : Int32) (t21 : Sto) =>
           some (v20, t21))) else (
          (fX12_isSize a7).bind (fun (v23 : Int32) =>
           if v23 = 0 then (
            (fX12_no (3 : Int32) t1).bind (un2 fun (v26 : Int32) (t27 : Sto) =>
             some (v26, t27))) else (
            (fX12_is a3 (6 : Int32)).bind (fun (v29 : Int32) =>
             if v29 = 0 then (
              (fX12_no (3 : Int32) t1).bind (un2 fun (v32 : Int32) (t33 : Sto) =>
               some (v32, t33))) else (
              (fX12_is a4 (2 : Int32)).bind (fun (v35 : Int32) =>
               if v35 = 0 then (
                (fX12_no (3 : Int32) t1).bind (un2 fun (v72 : Int32) (t73 : Sto) =>
                 some (v72, t73))) else (
                if gI t1 0 (0) 5 = (12 : Int32) then (
                 (fX12_no (1 : Int32) t1).bind (un2 fun (v69 : Int32) (t70 : Sto) =>
                  some (v69, t70))) else (
                 ck (0 ≤ (gI t1 0 (0) 5).toInt ∧ (gI t1 0 (0) 5).toInt < (lIM (34) (0) : Int)) (lt1 (sI t1 (34) (0) ((gI t1 0 (0) 5).toNatClampNeg) a1) fun (t39 : Sto) =>
                  ck (0 ≤ (gI t39 0 (0) 5).toInt ∧ (gI t39 0 (0) 5).toInt < (lIM (35) (0) : Int)) (lt1 (sI t39 (35) (0) ((gI t39 0 (0) 5).toNatClampNeg) a3) fun (t40 : Sto) =>
                   ck (0 ≤ (gI t40 0 (0) 5).toInt ∧ (gI t40 0 (0) 5).toInt < (lIM (36) (0) : Int)) (lt1 (sI t40 (36) (0) ((gI t40 0 (0) 5).toNatClampNeg) a4) fun (t41 : Sto) =>
                    ((lp (σ := (Int32 × Sto)) (ρ := Sto) (un2 fun (v45 : Int32) (t46 : Sto) =>
                       if (3 : Int32) ≤ v45 then (
                        some (.inr t46)) else (
                        (fX12_colourOf ((1 : Int32) + a2) a3 a4 v45 t46).bind (fun (v52 : UInt64) =>
                         ck (0 ≤ (((3 : Int32) * (gI t46 0 (0) 5)) + v45).toInt ∧ (((3 : Int32) * (gI t46 0 (0) 5)) + v45).toInt < (lDM (37) (0) : Int)) (lt1 (sD t46 (37) (0) ((((3 : Int32) * (gI t46 0 (0) 5)) + v45).toNatClampNeg) v52) fun (t54 : Sto) =>
                          if v45 = 0 then (
                           nd (FP.ddiv (FP.i2d a5) (4621819117588971520 : UInt64)) fun (v63 : UInt64) =>
                           ck (0 ≤ (((3 : Int32) * (gI t54 0 (0) 5)) + v45).toInt ∧ (((3 : Int32) * (gI t54 0 (0) 5)) + v45).toInt < (lDM (38) (0) : Int)) (lt1 (sD t54 (38) (0) ((((3 : Int32) * (gI t54 0 (0) 5)) + v45).toNatClampNeg) v63) fun (t64 : Sto) =>
                            lt1 (v45 + Int32.ofInt (1)) fun (v65 : Int32) =>
                            some (.inl (v65, t64)))) else (
                           if v45 = (1 : Int32) then (
                            nd (FP.ddiv (FP.i2d a6) (4621819117588971520 : UInt64)) fun (v60 : UInt64) =>
                            ck (0 ≤ (((3 : Int32) * (gI t54 0 (0) 5)) + v45).toInt ∧ (((3 : Int32) * (gI t54 0 (0) 5)) + v45).toInt < (lDM (38) (0) : Int)) (lt1 (sD t54 (38) (0) ((((3 : Int32) * (gI t54 0 (0) 5)) + v45).toNatClampNeg) v60) fun (t61 : Sto) =>
                             lt1 (v45 + Int32.ofInt (1)) fun (v62 : Int32) =>
                             some (.inl (v62, t61)))) else (
                            nd (FP.ddiv (FP.i2d a7) (4621819117588971520 : UInt64)) fun (v57 : UInt64) =>
                            ck (0 ≤ (((3 : Int32) * (gI t54 0 (0) 5)) + v45).toInt ∧ (((3 : Int32) * (gI t54 0 (0) 5)) + v45).toInt < (lDM (38) (0) : Int)) (lt1 (sD t54 (38) (0) ((((3 : Int32) * (gI t54 0 (0) 5)) + v45).toNatClampNeg) v57) fun (t58 : Sto) =>
                             lt1 (v45 + Int32.ofInt (1)) fun (v59 : Int32) =>
                             some (.inl (v59, t58))))))))) 4000 ((0 : Int32), t41)).bind
                     (fun (t47 : Sto) =>
                      lt1 (sI t47 0 (0) 5 ((gI t47 0 (0) 5) + (1 : Int32))) fun (t66 : Sto) =>
                      (fX12_act (5 : Int32) (0 : Int32) (0 : Int32) (0 : Int32) t66).bind (fun (t67 : Sto) =>
                       some ((gI t67 0 (0) 5) - (1 : Int32), t67))))))))))))))))))))))
set_option maxHeartbeats 4000000 in
set_option maxRecDepth 100000 in
theorem mX12_solid (l : Launch) (E : XE) (hL : LM E) (st : Sto) {a1 : Int32} {a2 : Int32} {a3 : Int32} {a4 : Int32} {a5 : Int32} {a6 : Int32} {a7 : Int32} {r : Int32} {st1 : Sto} (h : fX12_solid a1 a2 a3 a4 a5 a6 a7 st = some (r, st1)) : Met l yX12_solid wsX12_solid ({ frames := 5, cells := 0, slots := 0, locals := 135 }) (va_Pc [.ref (E.2.2.1 0 (0)), .int a1, .int a2, .int a3, .int a4, .int a5, .int a6, .int a7] (RM E st)) (QM E (some (.int r)) st1) 0 0 E.2.2.2 := by
  refine Met.ofW (cc := cX12_solid) (maxL := 9) (ret := (some .int)) (by decide) rfl ?_
  intro p e s m args below meth c s₁ B hml hv
  obtain ⟨rfl, hP, hK⟩ := hv
  have hown : s.vm.findClass RX12 = some m.cls := findClass_of_methodNamed B.named
  have C0 : CX p m c cX12_solid 9 s _ wsX12_solid RX12 E := ⟨⟨B.exec, B.bytes, hml, hown, atoms_spec (ws := wsX12_solid) B.pre⟩, hK⟩
  have hx := B.exec
  have hb := B.bytes
  have hr := B.returns
  have hlocks := B.notSynchronized
  have hw : SM E s st s.heap [] := ⟨hP, va_S.rf⟩
  have hl := lv_entry ([.ref (E.2.2.1 0 (0)), .int a1, .int a2, .int a3, .int a4, .int a5, .int a6, .int a7]) (n := 9) (Nat.le_of_ble_eq_true rfl)
  rw [lg_entry_eq]
  generalize (lg_sl ([.ref (E.2.2.1 0 (0)), .int a1, .int a2, .int a3, .int a4, .int a5, .int a6, .int a7]) ++ List.replicate (9 - (lg_sl ([.ref (E.2.2.1 0 (0)), .int a1, .int a2, .int a3, .int a4, .int a5, .int a6, .int a7])).length) Slot.unset).toArray = ls at hl ⊢
  have hl : lv_has ls 9 [(0, .ref (E.2.2.1 0 (0))), (1, .int a1), (2, .int a2), (3, .int a3), (4, .int a4), (5, .int a5), (6, .int a6), (7, .int a7)] := hl
  unfold fX12_solid at h
  refine lv_aload_n hx hb dX12_solid_0 rfl (lv_at hl 0 rfl) ?_
  refine lv_iconst (v := 0) hx hb dX12_solid_1 (by decide) ?_
  refine M_p0_10 hL C0 hw (fun w h => (List.mem_cons_of_mem _ (List.mem_append_right _ h))) (by decide) h ((List.mem_cons_of_mem _ (List.mem_append_left _ (List.mem_append_left _ (List.mem_of_getElem? (i := 0) rfl))))) dX12_solid_2 (fun t1 H locs hw h => ?_)
  refine lv_aload_n hx hb dX12_solid_5 rfl (lv_at hl 0 rfl) ?_
  refine lv_iload_n hx hb dX12_solid_6 rfl (lv_at hl 2 rfl) ?_
  refine lv_aload_n hx hb dX12_solid_7 rfl (lv_at hl 0 rfl) ?_
  refine M_g0_2 C0 hw (fun w h => (List.mem_cons_of_mem _ (List.mem_append_right _ h))) (by decide) ((List.mem_cons_of_mem _ (List.mem_append_left _ (List.mem_append_left _ (List.mem_of_getElem? (i := 1) rfl))))) dX12_solid_8 ?_
  obtain ⟨v2, hf3, h⟩ := bn_c h
  refine M_callV C0 hw (As := [.int a2, .int (gI t1 0 (0) 2)]) (rest := []) (mX12_is l E hL t1 hf3) (cwV 2 C0.1.2.2.2.2 gX12_solid_X12_is rfl rfl rfl (by decide +kernel) ⟨Nat.le_of_ble_eq_true rfl, Nat.le_of_ble_eq_true rfl⟩) (M_recv_0 C0 hw (by decide)) rfl hl.1 rfl (Nat.le_of_ble_eq_true rfl) dX12_solid_11 ⟨Nat.zero_le _, Nat.zero_le _⟩ (fun H locs hw => ?_)
  refine W.eq (g2 := F0 m 14 ls [.int v2]) rfl ?_
  refine lv_if_ne (tgt := 23) hx hb dX12_solid_14 (by decide) (fun hc4 => ?_) (fun hc4 => ?_)
  · have h := ifn h hc4
    refine lv_aload_n hx hb dX12_solid_23 rfl (lv_at hl 0 rfl) ?_
    refine lv_iload_n hx hb dX12_solid_24 rfl (lv_at hl 1 rfl) ?_
    refine lv_iconst (v := 2) hx hb dX12_solid_25 (by decide) ?_
    obtain ⟨v5, hf6, h⟩ := bn_c h
    refine M_callV C0 hw (As := [.int a1, .int (2 : Int32)]) (rest := []) (mX12_is l E hL t1 hf6) (cwV 2 C0.1.2.2.2.2 gX12_solid_X12_is rfl rfl rfl (by decide +kernel) ⟨Nat.le_of_ble_eq_true rfl, Nat.le_of_ble_eq_true rfl⟩) (M_recv_0 C0 hw (by decide)) rfl hl.1 rfl (Nat.le_of_ble_eq_true rfl) dX12_solid_26 ⟨Nat.zero_le _, Nat.zero_le _⟩ (fun H locs hw => ?_)
    refine W.eq (g2 := F0 m 29 ls [.int v5]) rfl ?_
    refine lv_if_eq (tgt := 79) hx hb dX12_solid_29 (by decide) (fun hc7 => ?_) (fun hc7 => ?_)
    · have h := ifp h hc7
      refine lv_aload_n hx hb dX12_solid_79 rfl (lv_at hl 0 rfl) ?_
      refine lv_iconst (v := 3) hx hb dX12_solid_80 (by decide) ?_
      obtain ⟨⟨v8, t9⟩, hf10, h⟩ := bn_c h
      have h := un2_d h
      refine M_callV C0 hw (As := [.int (3 : Int32)]) (rest := []) (mX12_no l E hL t1 hf10) (cwV 1 C0.1.2.2.2.2 gX12_solid_X12_no rfl rfl rfl (by decide +kernel) ⟨Nat.le_of_ble_eq_true rfl, Nat.le_of_ble_eq_true rfl⟩) (M_recv_0 C0 hw (by decide)) rfl hl.1 rfl (Nat.le_of_ble_eq_true rfl) dX12_solid_81 ⟨Nat.zero_le _, Nat.zero_le _⟩ (fun H locs hw => ?_)
      refine W.eq (g2 := F0 m 84 ls [.int v8]) rfl ?_
      cases h
      exact W.iret hx hb hr (M_fin C0 hw) hw.2.2.2 dX12_solid_84 hlocks
    · have h := ifn h hc7
      refine lv_aload_n hx hb dX12_solid_32 rfl (lv_at hl 0 rfl) ?_
      refine lv_iload hx hb dX12_solid_33 (lv_at hl 5 rfl) ?_
      obtain ⟨v11, hf12, h⟩ := bn_c h
      refine M_callV C0 hw (As := [.int a5]) (rest := []) (mX12_isSize l E hL t1 hf12) (cwV 1 C0.1.2.2.2.2 gX12_solid_X12_isSize rfl rfl rfl (by decide +kernel) ⟨Nat.le_of_ble_eq_true rfl, Nat.le_of_ble_eq_true rfl⟩) (M_recv_0 C0 hw (by decide)) rfl hl.1 rfl (Nat.le_of_ble_eq_true rfl) dX12_solid_35 ⟨Nat.zero_le _, Nat.zero_le _⟩ (fun H locs hw => ?_)
      refine W.eq (g2 := F0 m 38 ls [.int v11]) rfl ?_
      refine lv_if_eq (tgt := 79) hx hb dX12_solid_38 (by decide) (fun hc13 => ?_) (fun hc13 => ?_)
      · have h := ifp h hc13
        refine lv_aload_n hx hb dX12_solid_79 rfl (lv_at hl 0 rfl) ?_
        refine lv_iconst (v := 3) hx hb dX12_solid_80 (by decide) ?_
        obtain ⟨⟨v14, t15⟩, hf16, h⟩ := bn_c h
        have h := un2_d h
        refine M_callV C0 hw (As := [.int (3 : Int32)]) (rest := []) (mX12_no l E hL t1 hf16) (cwV 1 C0.1.2.2.2.2 gX12_solid_X12_no rfl rfl rfl (by decide +kernel) ⟨Nat.le_of_ble_eq_true rfl, Nat.le_of_ble_eq_true rfl⟩) (M_recv_0 C0 hw (by decide)) rfl hl.1 rfl (Nat.le_of_ble_eq_true rfl) dX12_solid_81 ⟨Nat.zero_le _, Nat.zero_le _⟩ (fun H locs hw => ?_)
        refine W.eq (g2 := F0 m 84 ls [.int v14]) rfl ?_
        cases h
        exact W.iret hx hb hr (M_fin C0 hw) hw.2.2.2 dX12_solid_84 hlocks
      · have h := ifn h hc13
        refine lv_aload_n hx hb dX12_solid_41 rfl (lv_at hl 0 rfl) ?_
        refine lv_iload hx hb dX12_solid_42 (lv_at hl 6 rfl) ?_
        obtain ⟨v17, hf18, h⟩ := bn_c h
        refine M_callV C0 hw (As := [.int a6]) (rest := []) (mX12_isSize l E hL t1 hf18) (cwV 1 C0.1.2.2.2.2 gX12_solid_X12_isSize rfl rfl rfl (by decide +kernel) ⟨Nat.le_of_ble_eq_true rfl, Nat.le_of_ble_eq_true rfl⟩) (M_recv_0 C0 hw (by decide)) rfl hl.1 rfl (Nat.le_of_ble_eq_true rfl) dX12_solid_44 ⟨Nat.zero_le _, Nat.zero_le _⟩ (fun H locs hw => ?_)
        refine W.eq (g2 := F0 m 47 ls [.int v17]) rfl ?_
        refine lv_if_eq (tgt := 79) hx hb dX12_solid_47 (by decide) (fun hc19 => ?_) (fun hc19 => ?_)
        · have h := ifp h hc19
          refine lv_aload_n hx hb dX12_solid_79 rfl (lv_at hl 0 rfl) ?_
          refine lv_iconst (v := 3) hx hb dX12_solid_80 (by decide) ?_
          obtain ⟨⟨v20, t21⟩, hf22, h⟩ := bn_c h
          have h := un2_d h
          refine M_callV C0 hw (As := [.int (3 : Int32)]) (rest := []) (mX12_no l E hL t1 hf22) (cwV 1 C0.1.2.2.2.2 gX12_solid_X12_no rfl rfl rfl (by decide +kernel) ⟨Nat.le_of_ble_eq_true rfl, Nat.le_of_ble_eq_true rfl⟩) (M_recv_0 C0 hw (by decide)) rfl hl.1 rfl (Nat.le_of_ble_eq_true rfl) dX12_solid_81 ⟨Nat.zero_le _, Nat.zero_le _⟩ (fun H locs hw => ?_)
          refine W.eq (g2 := F0 m 84 ls [.int v20]) rfl ?_
          cases h
          exact W.iret hx hb hr (M_fin C0 hw) hw.2.2.2 dX12_solid_84 hlocks
        · have h := ifn h hc19
          refine lv_aload_n hx hb dX12_solid_50 rfl (lv_at hl 0 rfl) ?_
          refine lv_iload hx hb dX12_solid_51 (lv_at hl 7 rfl) ?_
          obtain ⟨v23, hf24, h⟩ := bn_c h
          refine M_callV C0 hw (As := [.int a7]) (rest := []) (mX12_isSize l E hL t1 hf24) (cwV 1 C0.1.2.2.2.2 gX12_solid_X12_isSize rfl rfl rfl (by decide +kernel) ⟨Nat.le_of_ble_eq_true rfl, Nat.le_of_ble_eq_true rfl⟩) (M_recv_0 C0 hw (by decide)) rfl hl.1 rfl (Nat.le_of_ble_eq_true rfl) dX12_solid_53 ⟨Nat.zero_le _, Nat.zero_le _⟩ (fun H locs hw => ?_)
          refine W.eq (g2 := F0 m 56 ls [.int v23]) rfl ?_
          refine lv_if_eq (tgt := 79) hx hb dX12_solid_56 (by decide) (fun hc25 => ?_) (fun hc25 => ?_)
          · have h := ifp h hc25
            refine lv_aload_n hx hb dX12_solid_79 rfl (lv_at hl 0 rfl) ?_
            refine lv_iconst (v := 3) hx hb dX12_solid_80 (by decide) ?_
            obtain ⟨⟨v26, t27⟩, hf28, h⟩ := bn_c h
            have h := un2_d h
            refine M_callV C0 hw (As := [.int (3 : Int32)]) (rest := []) (mX12_no l E hL t1 hf28) (cwV 1 C0.1.2.2.2.2 gX12_solid_X12_no rfl rfl rfl (by decide +kernel) ⟨Nat.le_of_ble_eq_true rfl, Nat.le_of_ble_eq_true rfl⟩) (M_recv_0 C0 hw (by decide)) rfl hl.1 rfl (Nat.le_of_ble_eq_true rfl) dX12_solid_81 ⟨Nat.zero_le _, Nat.zero_le _⟩ (fun H locs hw => ?_)
            refine W.eq (g2 := F0 m 84 ls [.int v26]) rfl ?_
            cases h
            exact W.iret hx hb hr (M_fin C0 hw) hw.2.2.2 dX12_solid_84 hlocks
          · have h := ifn h hc25
            refine lv_aload_n hx hb dX12_solid_59 rfl (lv_at hl 0 rfl) ?_
            refine lv_iload_n hx hb dX12_solid_60 rfl (lv_at hl 3 rfl) ?_
            refine lv_bipush (v := 6) hx hb dX12_solid_61 (by decide) ?_
            obtain ⟨v29, hf30, h⟩ := bn_c h
            refine M_callV C0 hw (As := [.int a3, .int (6 : Int32)]) (rest := []) (mX12_is l E hL t1 hf30) (cwV 2 C0.1.2.2.2.2 gX12_solid_X12_is rfl rfl rfl (by decide +kernel) ⟨Nat.le_of_ble_eq_true rfl, Nat.le_of_ble_eq_true rfl⟩) (M_recv_0 C0 hw (by decide)) rfl hl.1 rfl (Nat.le_of_ble_eq_true rfl) dX12_solid_63 ⟨Nat.zero_le _, Nat.zero_le _⟩ (fun H locs hw => ?_)
            refine W.eq (g2 := F0 m 66 ls [.int v29]) rfl ?_
            refine lv_if_eq (tgt := 79) hx hb dX12_solid_66 (by decide) (fun hc31 => ?_) (fun hc31 => ?_)
            · have h := ifp h hc31
              refine lv_aload_n hx hb dX12_solid_79 rfl (lv_at hl 0 rfl) ?_
              refine lv_iconst (v := 3) hx hb dX12_solid_80 (by decide) ?_
              obtain ⟨⟨v32, t33⟩, hf34, h⟩ := bn_c h
              have h := un2_d h
              refine M_callV C0 hw (As := [.int (3 : Int32)]) (rest := []) (mX12_no l E hL t1 hf34) (cwV 1 C0.1.2.2.2.2 gX12_solid_X12_no rfl rfl rfl (by decide +kernel) ⟨Nat.le_of_ble_eq_true rfl, Nat.le_of_ble_eq_true rfl⟩) (M_recv_0 C0 hw (by decide)) rfl hl.1 rfl (Nat.le_of_ble_eq_true rfl) dX12_solid_81 ⟨Nat.zero_le _, Nat.zero_le _⟩ (fun H locs hw => ?_)
              refine W.eq (g2 := F0 m 84 ls [.int v32]) rfl ?_
              cases h
              exact W.iret hx hb hr (M_fin C0 hw) hw.2.2.2 dX12_solid_84 hlocks
            · have h := ifn h hc31
              refine lv_aload_n hx hb dX12_solid_69 rfl (lv_at hl 0 rfl) ?_
              refine lv_iload hx hb dX12_solid_70 (lv_at hl 4 rfl) ?_
              refine lv_iconst (v := 2) hx hb dX12_solid_72 (by decide) ?_
              obtain ⟨v35, hf36, h⟩ := bn_c h
              refine M_callV C0 hw (As := [.int a4, .int (2 : Int32)]) (rest := []) (mX12_is l E hL t1 hf36) (cwV 2 C0.1.2.2.2.2 gX12_solid_X12_is rfl rfl rfl (by decide +kernel) ⟨Nat.le_of_ble_eq_true rfl, Nat.le_of_ble_eq_true rfl⟩) (M_recv_0 C0 hw (by decide)) rfl hl.1 rfl (Nat.le_of_ble_eq_true rfl) dX12_solid_73 ⟨Nat.zero_le _, Nat.zero_le _⟩ (fun H locs hw => ?_)
              refine W.eq (g2 := F0 m 76 ls [.int v35]) rfl ?_
              refine lv_if_ne (tgt := 85) hx hb dX12_solid_76 (by decide) (fun hc37 => ?_) (fun hc37 => ?_)
              · have h := ifn h hc37
                refine lv_aload_n hx hb dX12_solid_85 rfl (lv_at hl 0 rfl) ?_
                refine M_g0_5 C0 hw (fun w h => (List.mem_cons_of_mem _ (List.mem_append_right _ h))) (by decide) ((List.mem_cons_of_mem _ (List.mem_append_left _ (List.mem_append_left _ (List.mem_of_getElem? (i := 2) rfl))))) dX12_solid_86 ?_
                refine lv_bipush (v := 12) hx hb dX12_solid_89 (by decide) ?_
                refine lv_icmp_ne (tgt := 100) hx hb dX12_solid_91 (by decide) (fun hc38 => ?_) (fun hc38 => ?_)
                · have h := ifn h hc38
                  refine lv_aload_n hx hb dX12_solid_100 rfl (lv_at hl 0 rfl) ?_
                  refine M_g0_33 C0 hw (fun w h => (List.mem_cons_of_mem _ (List.mem_append_right _ h))) (by decide) ((List.mem_cons_of_mem _ (List.mem_append_left _ (List.mem_append_left _ (List.mem_of_getElem? (i := 3) rfl))))) dX12_solid_101 ?_
                  refine lv_aload_n hx hb dX12_solid_104 rfl (lv_at hl 0 rfl) ?_
                  refine M_g0_5 C0 hw (fun w h => (List.mem_cons_of_mem _ (List.mem_append_right _ h))) (by decide) ((List.mem_cons_of_mem _ (List.mem_append_left _ (List.mem_append_left _ (List.mem_of_getElem? (i := 2) rfl))))) dX12_solid_105 ?_
                  refine lv_iload_n hx hb dX12_solid_108 rfl (lv_at hl 1 rfl) ?_
                  refine M_iast hL C0 hw h (k := (gI t1 0 (0) 5).toNatClampNeg) rfl dX12_solid_109 (fun t39 H locs hw h => ?_)
                  refine lv_aload_n hx hb dX12_solid_110 rfl (lv_at hl 0 rfl) ?_
                  refine M_g0_34 C0 hw (fun w h => (List.mem_cons_of_mem _ (List.mem_append_right _ h))) (by decide) ((List.mem_cons_of_mem _ (List.mem_append_left _ (List.mem_append_left _ (List.mem_of_getElem? (i := 4) rfl))))) dX12_solid_111 ?_
                  refine lv_aload_n hx hb dX12_solid_114 rfl (lv_at hl 0 rfl) ?_
                  refine M_g0_5 C0 hw (fun w h => (List.mem_cons_of_mem _ (List.mem_append_right _ h))) (by decide) ((List.mem_cons_of_mem _ (List.mem_append_left _ (List.mem_append_left _ (List.mem_of_getElem? (i := 2) rfl))))) dX12_solid_115 ?_
                  refine lv_iload_n hx hb dX12_solid_118 rfl (lv_at hl 3 rfl) ?_
                  refine M_iast hL C0 hw h (k := (gI t39 0 (0) 5).toNatClampNeg) rfl dX12_solid_119 (fun t40 H locs hw h => ?_)
                  refine lv_aload_n hx hb dX12_solid_120 rfl (lv_at hl 0 rfl) ?_
                  refine M_g0_35 C0 hw (fun w h => (List.mem_cons_of_mem _ (List.mem_append_right _ h))) (by decide) ((List.mem_cons_of_mem _ (List.mem_append_left _ (List.mem_append_left _ (List.mem_of_getElem? (i := 5) rfl))))) dX12_solid_121 ?_
                  refine lv_aload_n hx hb dX12_solid_124 rfl (lv_at hl 0 rfl) ?_
                  refine M_g0_5 C0 hw (fun w h => (List.mem_cons_of_mem _ (List.mem_append_right _ h))) (by decide) ((List.mem_cons_of_mem _ (List.mem_append_left _ (List.mem_append_left _ (List.mem_of_getElem? (i := 2) rfl))))) dX12_solid_125 ?_
                  refine lv_iload hx hb dX12_solid_128 (lv_at hl 4 rfl) ?_
                  refine M_iast hL C0 hw h (k := (gI t40 0 (0) 5).toNatClampNeg) rfl dX12_solid_130 (fun t41 H locs hw h => ?_)
                  refine lv_iconst (v := 0) hx hb dX12_solid_131 (by decide) ?_
                  refine lv_istore (lv' := [(8, .int (0 : Int32)), (0, .ref (E.2.2.1 0 (0))), (1, .int a1), (2, .int a2), (3, .int a3), (4, .int a4), (5, .int a5), (6, .int a6), (7, .int a7)]) hx hb dX12_solid_132 hl (by decide) rfl (fun ls hl => ?_)
                  refine lp_ind (fun q : (Int32 × Sto) => ∀ (H : Heap) (locs : List Loc), SM E s (q.2) H locs → ∀ ls : Array Slot, lv_has ls 9 [(8, .int (q.1)), (0, .ref (E.2.2.1 0 (0))), (2, .int a2), (3, .int a3), (4, .int a4), (5, .int a5), (6, .int a6), (7, .int a7)] → W p l e (headSpec wsX12_solid ({ frames := 5, cells := 0, slots := 0, locals := 135 })).room s m ([.ref (E.2.2.1 0 (0)), .int a1, .int a2, .int a3, .int a4, .int a5, .int a6, .int a7] : List Value).toArray below meth c H locs 0 0 (MQ below (QM E (some (.int r)) st1) ([.ref (E.2.2.1 0 (0)), .int a1, .int a2, .int a3, .int a4, .int a5, .int a6, .int a7] : List Value).toArray s 0 0 E.2.2.2) (F0 m 134 ls [])) (fun q o44 h hB43 hX42 => ?_) _ _ h _ _ hw _ (lv_sub hl [0, 1, 3, 4, 5, 6, 7, 8] rfl)
                  intro H locs hw ls hl
                  obtain ⟨v45, t46⟩ := q
                  have h := un2_d h
                  have hw : SM E s t46 H locs := hw
                  have hl : lv_has ls 9 [(8, .int v45), (0, .ref (E.2.2.1 0 (0))), (2, .int a2), (3, .int a3), (4, .int a4), (5, .int a5), (6, .int a6), (7, .int a7)] := hl
                  refine lv_iload hx hb dX12_solid_134 (lv_at hl 0 rfl) ?_
                  refine lv_iconst (v := 3) hx hb dX12_solid_136 (by decide) ?_
                  refine lv_icmp_ge (tgt := 214) hx hb dX12_solid_137 (by decide) (fun hc48 => ?_) (fun hc48 => ?_)
                  · have h := ifp h hc48
                    have h := hX42 _ (Option.some.inj h).symm
                    have hl := lv_sub hl (l' := [(0, .ref (E.2.2.1 0 (0)))]) [1] rfl
                    refine lv_aload_n hx hb dX12_solid_214 rfl (lv_at hl 0 rfl) ?_
                    refine lv_dup hx hb dX12_solid_215 rfl ?_
                    refine M_g0_5 C0 hw (fun w h => (List.mem_cons_of_mem _ (List.mem_append_right _ h))) (by decide) ((List.mem_cons_of_mem _ (List.mem_append_left _ (List.mem_append_left _ (List.mem_of_getElem? (i := 2) rfl))))) dX12_solid_216 ?_
                    refine lv_iconst (v := 1) hx hb dX12_solid_219 (by decide) ?_
                    refine lv_iadd hx hb dX12_solid_220 ?_
                    refine M_p0_5 hL C0 hw (fun w h => (List.mem_cons_of_mem _ (List.mem_append_right _ h))) (by decide) h ((List.mem_cons_of_mem _ (List.mem_append_left _ (List.mem_append_left _ (List.mem_of_getElem? (i := 2) rfl))))) dX12_solid_221 (fun t49 H locs hw h => ?_)
                    refine lv_aload_n hx hb dX12_solid_224 rfl (lv_at hl 0 rfl) ?_
                    refine lv_iconst (v := 5) hx hb dX12_solid_225 (by decide) ?_
                    refine lv_iconst (v := 0) hx hb dX12_solid_226 (by decide) ?_
                    refine lv_iconst (v := 0) hx hb dX12_solid_227 (by decide) ?_
                    refine lv_iconst (v := 0) hx hb dX12_solid_228 (by decide) ?_
                    obtain ⟨t50, hf51, h⟩ := bn_c h
                    refine M_callV C0 hw (As := [.int (5 : Int32), .int (0 : Int32), .int (0 : Int32), .int (0 : Int32)]) (rest := []) (mX12_act l E hL t49 hf51) (cwV 4 C0.1.2.2.2.2 gX12_solid_X12_act rfl rfl rfl (by decide +kernel) ⟨Nat.le_of_ble_eq_true rfl, Nat.le_of_ble_eq_true rfl⟩) (M_recv_0 C0 hw (by decide)) rfl hl.1 rfl (Nat.le_of_ble_eq_true rfl) dX12_solid_229 ⟨Nat.zero_le _, Nat.zero_le _⟩ (fun H locs hw => ?_)
                    refine W.eq (g2 := F0 m 232 ls []) rfl ?_
                    refine lv_aload_n hx hb dX12_solid_232 rfl (lv_at hl 0 rfl) ?_
                    refine M_g0_5 C0 hw (fun w h => (List.mem_cons_of_mem _ (List.mem_append_right _ h))) (by decide) ((List.mem_cons_of_mem _ (List.mem_append_left _ (List.mem_append_left _ (List.mem_of_getElem? (i := 2) rfl))))) dX12_solid_233 ?_
                    refine lv_iconst (v := 1) hx hb dX12_solid_236 (by decide) ?_
                    refine lv_isub hx hb dX12_solid_237 ?_
                    cases h
                    exact W.iret hx hb hr (M_fin C0 hw) hw.2.2.2 dX12_solid_238 hlocks
                  · have h := ifn h hc48
                    refine lv_aload_n hx hb dX12_solid_140 rfl (lv_at hl 1 rfl) ?_
                    refine M_g0_36 C0 hw (fun w h => (List.mem_cons_of_mem _ (List.mem_append_right _ h))) (by decide) ((List.mem_cons_of_mem _ (List.mem_append_left _ (List.mem_append_left _ (List.mem_of_getElem? (i := 6) rfl))))) dX12_solid_141 ?_
                    refine lv_iconst (v := 3) hx hb dX12_solid_144 (by decide) ?_
                    refine lv_aload_n hx hb dX12_solid_145 rfl (lv_at hl 1 rfl) ?_
                    refine M_g0_5 C0 hw (fun w h => (List.mem_cons_of_mem _ (List.mem_append_right _ h))) (by decide) ((List.mem_cons_of_mem _ (List.mem_append_left _ (List.mem_append_left _ (List.mem_of_getElem? (i := 2) rfl))))) dX12_solid_146 ?_
                    refine lv_imul hx hb dX12_solid_149 ?_
                    refine lv_iload hx hb dX12_solid_150 (lv_at hl 0 rfl) ?_
                    refine lv_iadd hx hb dX12_solid_152 ?_
                    refine lv_aload_n hx hb dX12_solid_153 rfl (lv_at hl 1 rfl) ?_
                    refine lv_iconst (v := 1) hx hb dX12_solid_154 (by decide) ?_
                    refine lv_iload_n hx hb dX12_solid_155 rfl (lv_at hl 2 rfl) ?_
                    refine lv_iadd hx hb dX12_solid_156 ?_
                    refine lv_iload_n hx hb dX12_solid_157 rfl (lv_at hl 3 rfl) ?_
                    refine lv_iload hx hb dX12_solid_158 (lv_at hl 4 rfl) ?_
                    refine lv_iload hx hb dX12_solid_160 (lv_at hl 0 rfl) ?_
                    obtain ⟨v52, hf53, h⟩ := bn_c h
                    refine M_callV C0 hw (As := [.int ((1 : Int32) + a2), .int a3, .int a4, .int v45]) (rest := [.int (((3 : Int32) * (gI t46 0 (0) 5)) + v45), .ref (E.2.2.1 (37) (0))]) (mX12_colourOf l E hL t46 hf53) (cwV 4 C0.1.2.2.2.2 gX12_solid_X12_colourOf rfl rfl rfl (by decide +kernel) ⟨Nat.le_of_ble_eq_true rfl, Nat.le_of_ble_eq_true rfl⟩) (M_recv_0 C0 hw (by decide)) rfl hl.1 rfl (Nat.le_of_ble_eq_true rfl) dX12_solid_162 ⟨Nat.zero_le _, Nat.zero_le _⟩ (fun H locs hw => ?_)
                    refine W.eq (g2 := F0 m 165 ls [.double v52, .int (((3 : Int32) * (gI t46 0 (0) 5)) + v45), .ref (E.2.2.1 (37) (0))]) rfl ?_
                    refine M_dast hL C0 hw h (k := (((3 : Int32) * (gI t46 0 (0) 5)) + v45).toNatClampNeg) rfl dX12_solid_165 (fun t54 H locs hw h => ?_)
                    refine lv_aload_n hx hb dX12_solid_166 rfl (lv_at hl 1 rfl) ?_
                    refine M_g0_37 C0 hw (fun w h => (List.mem_cons_of_mem _ (List.mem_append_right _ h))) (by decide) ((List.mem_cons_of_mem _ (List.mem_append_left _ (List.mem_append_left _ (List.mem_of_getElem? (i := 7) rfl))))) dX12_solid_167 ?_
                    refine lv_iconst (v := 3) hx hb dX12_solid_170 (by decide) ?_
                    refine lv_aload_n hx hb dX12_solid_171 rfl (lv_at hl 1 rfl) ?_
                    refine M_g0_5 C0 hw (fun w h => (List.mem_cons_of_mem _ (List.mem_append_right _ h))) (by decide) ((List.mem_cons_of_mem _ (List.mem_append_left _ (List.mem_append_left _ (List.mem_of_getElem? (i := 2) rfl))))) dX12_solid_172 ?_
                    refine lv_imul hx hb dX12_solid_175 ?_
                    refine lv_iload hx hb dX12_solid_176 (lv_at hl 0 rfl) ?_
                    refine lv_iadd hx hb dX12_solid_178 ?_
                    refine lv_iload hx hb dX12_solid_179 (lv_at hl 0 rfl) ?_
                    refine lv_if_ne (tgt := 189) hx hb dX12_solid_181 (by decide) (fun hc55 => ?_) (fun hc55 => ?_)
                    · have h := ifn h hc55
                      refine lv_iload hx hb dX12_solid_189 (lv_at hl 0 rfl) ?_
                      refine lv_iconst (v := 1) hx hb dX12_solid_191 (by decide) ?_
                      refine lv_icmp_ne (tgt := 200) hx hb dX12_solid_192 (by decide) (fun hc56 => ?_) (fun hc56 => ?_)
                      · have h := ifn h hc56
                        refine lv_iload hx hb dX12_solid_200 (lv_at hl 7 rfl) ?_
                        refine lv_i2d hx hb dX12_solid_202 ?_
                        refine lv_ldc2d hx hb hown (C0.1.2.2.2.2 _ (List.mem_cons_of_mem _ (List.mem_append_left _ (List.mem_append_left _ (List.mem_of_getElem? (i := 8) rfl))))) dX12_solid_203 ?_
                        refine x_ddiv hx hb h dX12_solid_206 (fun v57 h => ?_)
                        refine M_dast hL C0 hw h (k := (((3 : Int32) * (gI t54 0 (0) 5)) + v45).toNatClampNeg) rfl dX12_solid_207 (fun t58 H locs hw h => ?_)
                        refine x_iinc hx hb h dX12_solid_208 hl (q := 0) rfl (fun v59 => [(8, .int v59), (0, .ref (E.2.2.1 0 (0))), (2, .int a2), (3, .int a3), (4, .int a4), (5, .int a5), (6, .int a6), (7, .int a7)]) (by decide) (fun _ => rfl) (fun v59 ls hl h => ?_)
                        refine lv_goto (tgt := 134) hx hb dX12_solid_211 (by decide) ?_
                        exact hB43 _ (Option.some.inj h).symm _ _ hw _ (lv_sub hl [0, 1, 2, 3, 4, 5, 6, 7] rfl)
                      · have h := ifp h hc56
                        refine lv_iload hx hb dX12_solid_195 (lv_at hl 6 rfl) ?_
                        refine lv_goto (tgt := 202) hx hb dX12_solid_197 (by decide) ?_
                        refine lv_i2d hx hb dX12_solid_202 ?_
                        refine lv_ldc2d hx hb hown (C0.1.2.2.2.2 _ (List.mem_cons_of_mem _ (List.mem_append_left _ (List.mem_append_left _ (List.mem_of_getElem? (i := 8) rfl))))) dX12_solid_203 ?_
                        refine x_ddiv hx hb h dX12_solid_206 (fun v60 h => ?_)
                        refine M_dast hL C0 hw h (k := (((3 : Int32) * (gI t54 0 (0) 5)) + v45).toNatClampNeg) rfl dX12_solid_207 (fun t61 H locs hw h => ?_)
                        refine x_iinc hx hb h dX12_solid_208 hl (q := 0) rfl (fun v62 => [(8, .int v62), (0, .ref (E.2.2.1 0 (0))), (2, .int a2), (3, .int a3), (4, .int a4), (5, .int a5), (6, .int a6), (7, .int a7)]) (by decide) (fun _ => rfl) (fun v62 ls hl h => ?_)
                        refine lv_goto (tgt := 134) hx hb dX12_solid_211 (by decide) ?_
                        exact hB43 _ (Option.some.inj h).symm _ _ hw _ (lv_sub hl [0, 1, 2, 3, 4, 5, 6, 7] rfl)
                    · have h := ifp h hc55
                      refine lv_iload hx hb dX12_solid_184 (lv_at hl 5 rfl) ?_
                      refine lv_goto (tgt := 202) hx hb dX12_solid_186 (by decide) ?_
                      refine lv_i2d hx hb dX12_solid_202 ?_
                      refine lv_ldc2d hx hb hown (C0.1.2.2.2.2 _ (List.mem_cons_of_mem _ (List.mem_append_left _ (List.mem_append_left _ (List.mem_of_getElem? (i := 8) rfl))))) dX12_solid_203 ?_
                      refine x_ddiv hx hb h dX12_solid_206 (fun v63 h => ?_)
                      refine M_dast hL C0 hw h (k := (((3 : Int32) * (gI t54 0 (0) 5)) + v45).toNatClampNeg) rfl dX12_solid_207 (fun t64 H locs hw h => ?_)
                      refine x_iinc hx hb h dX12_solid_208 hl (q := 0) rfl (fun v65 => [(8, .int v65), (0, .ref (E.2.2.1 0 (0))), (2, .int a2), (3, .int a3), (4, .int a4), (5, .int a5), (6, .int a6), (7, .int a7)]) (by decide) (fun _ => rfl) (fun v65 ls hl h => ?_)
                      refine lv_goto (tgt := 134) hx hb dX12_solid_211 (by decide) ?_
                      exact hB43 _ (Option.some.inj h).symm _ _ hw _ (lv_sub hl [0, 1, 2, 3, 4, 5, 6, 7] rfl)
                · have h := ifp h hc38
                  refine lv_aload_n hx hb dX12_solid_94 rfl (lv_at hl 0 rfl) ?_
                  refine lv_iconst (v := 1) hx hb dX12_solid_95 (by decide) ?_
                  obtain ⟨⟨v69, t70⟩, hf71, h⟩ := bn_c h
                  have h := un2_d h
                  refine M_callV C0 hw (As := [.int (1 : Int32)]) (rest := []) (mX12_no l E hL t1 hf71) (cwV 1 C0.1.2.2.2.2 gX12_solid_X12_no rfl rfl rfl (by decide +kernel) ⟨Nat.le_of_ble_eq_true rfl, Nat.le_of_ble_eq_true rfl⟩) (M_recv_0 C0 hw (by decide)) rfl hl.1 rfl (Nat.le_of_ble_eq_true rfl) dX12_solid_96 ⟨Nat.zero_le _, Nat.zero_le _⟩ (fun H locs hw => ?_)
                  refine W.eq (g2 := F0 m 99 ls [.int v69]) rfl ?_
                  cases h
                  exact W.iret hx hb hr (M_fin C0 hw) hw.2.2.2 dX12_solid_99 hlocks
              · have h := ifp h hc37
                refine lv_aload_n hx hb dX12_solid_79 rfl (lv_at hl 0 rfl) ?_
                refine lv_iconst (v := 3) hx hb dX12_solid_80 (by decide) ?_
                obtain ⟨⟨v72, t73⟩, hf74, h⟩ := bn_c h
                have h := un2_d h
                refine M_callV C0 hw (As := [.int (3 : Int32)]) (rest := []) (mX12_no l E hL t1 hf74) (cwV 1 C0.1.2.2.2.2 gX12_solid_X12_no rfl rfl rfl (by decide +kernel) ⟨Nat.le_of_ble_eq_true rfl, Nat.le_of_ble_eq_true rfl⟩) (M_recv_0 C0 hw (by decide)) rfl hl.1 rfl (Nat.le_of_ble_eq_true rfl) dX12_solid_81 ⟨Nat.zero_le _, Nat.zero_le _⟩ (fun H locs hw => ?_)
                refine W.eq (g2 := F0 m 84 ls [.int v72]) rfl ?_
                cases h
                exact W.iret hx hb hr (M_fin C0 hw) hw.2.2.2 dX12_solid_84 hlocks
  · have h := ifp h hc4
    refine lv_aload_n hx hb dX12_solid_17 rfl (lv_at hl 0 rfl) ?_
    refine lv_iconst (v := 2) hx hb dX12_solid_18 (by decide) ?_
    obtain ⟨⟨v75, t76⟩, hf77, h⟩ := bn_c h
    have h := un2_d h
    refine M_callV C0 hw (As := [.int (2 : Int32)]) (rest := []) (mX12_no l E hL t1 hf77) (cwV 1 C0.1.2.2.2.2 gX12_solid_X12_no rfl rfl rfl (by decide +kernel) ⟨Nat.le_of_ble_eq_true rfl, Nat.le_of_ble_eq_true rfl⟩) (M_recv_0 C0 hw (by decide)) rfl hl.1 rfl (Nat.le_of_ble_eq_true rfl) dX12_solid_19 ⟨Nat.zero_le _, Nat.zero_le _⟩ (fun H locs hw => ?_)
    refine W.eq (g2 := F0 m 22 ls [.int v75]) rfl ?_
    cases h
    exact W.iret hx hb hr (M_fin C0 hw) hw.2.2.2 dX12_solid_22 hlocks
