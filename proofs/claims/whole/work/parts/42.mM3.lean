def fX12_dyeAt (a1 : Int32) (a2 : UInt64) (a3 : Int32) (st : Sto) : Option UInt64 :=
  ck (0 ≤ a1.toInt ∧ a1.toInt < (lIM (13) (0) : Int)) (
   lt1 (gI st (13) (0) (a1.toNatClampNeg)) fun (v1 : Int32) =>
   if v1 = 0 then (
    some FP.dconst0) else (
    if Op.cmpValue (FP.dcmp a2 FP.dconst0) CmpOp.l = 0 then (
     some FP.dconst0) else (
     ck (0 ≤ ((6 : Int32) * a1).toInt ∧ ((6 : Int32) * a1).toInt < (lIM (14) (0) : Int)) (
      lt1 (FP.i2d (gI st (14) (0) (((6 : Int32) * a1).toNatClampNeg))) fun (v4 : UInt64) =>
      if 0 < Op.cmpValue (FP.dcmp a2 v4) CmpOp.g then (
       ((lp (σ := Int32) (ρ := (UInt64 ⊕ Unit)) (fun (v9 : Int32) =>
          if v1 ≤ v9 then (
           some (.inr (.inr ()))) else (
           ck (0 ≤ ((((6 : Int32) * a1) + v9) - (1 : Int32)).toInt ∧ ((((6 : Int32) * a1) + v9) - (1 : Int32)).toInt < (lIM (14) (0) : Int)) (
            lt1 (FP.i2d (gI st (14) (0) (((((6 : Int32) * a1) + v9) - (1 : Int32)).toNatClampNeg))) fun (v15 : UInt64) =>
            ck (0 ≤ (((6 : Int32) * a1) + v9).toInt ∧ (((6 : Int32) * a1) + v9).toInt < (lIM (14) (0) : Int)) (
             lt1 (FP.i2d (gI st (14) (0) ((((6 : Int32) * a1) + v9).toNatClampNeg))) fun (v16 : UInt64) =>
             if Op.cmpValue (FP.dcmp a2 v16) CmpOp.l ≤ 0 then (
              (fX12_own a1 (v9 - (1 : Int32)) a3 st).bind (fun (v18 : UInt64) =>
               (fX12_own a1 v9 a3 st).bind (fun (v20 : UInt64) =>
                nd (FP.dsub v20 v18) fun (v22 : UInt64) =>
                nd (FP.dsub a2 v15) fun (v23 : UInt64) =>
                nd (FP.dsub v16 v15) fun (v24 : UInt64) =>
                nd (FP.ddiv v23 v24) fun (v25 : UInt64) =>
                nd (FP.dmul v22 v25) fun (v26 : UInt64) =>
                nd (FP.dadd v18 v26) fun (v27 : UInt64) =>
                some (.inr (.inl v27))))) else (
              lt1 (v9 + Int32.ofInt (1)) fun (v28 : Int32) =>
              some (.inl v28)))))) 4000 (1 : Int32)).bind
        (sm (fun (q : UInt64) => some q) (fun (_ : Unit) =>
          (fX12_own a1 (v1 - (1 : Int32)) a3 st).bind (fun (v29 : UInt64) =>
           ck (0 ≤ ((((6 : Int32) * a1) + v1) - (1 : Int32)).toInt ∧ ((((6 : Int32) * a1) + v1) - (1 : Int32)).toInt < (lIM (14) (0) : Int)) (
            nd (FP.ddiv a2 (FP.i2d (gI st (14) (0) (((((6 : Int32) * a1) + v1) - (1 : Int32)).toNatClampNeg)))) fun (v31 : UInt64) =>
            nd (FP.dmul v29 v31) fun (v32 : UInt64) =>
            some v32)))))) else (
       (fX12_own a1 (0 : Int32) a3 st).bind (fun (v33 : UInt64) =>
        nd (FP.ddiv a2 v4) fun (v35 : UInt64) =>
        nd (FP.dmul v33 v35) fun (v36 : UInt64) =>
        some v36))))))
set_option maxHeartbeats 4000000 in
set_option maxRecDepth 100000 in
theorem mX12_dyeAt (l : Launch) (E : XE) (hL : LM E) (st : Sto) {a1 : Int32} {a2 : UInt64} {a3 : Int32} {r : UInt64} (h : fX12_dyeAt a1 a2 a3 st = some r) : Met l yX12_dyeAt wsX12_dyeAt ({ frames := 2, cells := 0, slots := 0, locals := 48 }) (va_Pc [.ref (E.2.2.1 0 (0)), .int a1, .double a2, .int a3] (RM E st)) (QM E (some (.double r)) st) 0 0 E.2.2.2 := by
  refine Met.ofW (cc := cX12_dyeAt) (maxL := 15) (ret := (some .double)) (by decide) rfl ?_
  intro p e s m args below meth c s₁ B hml hv
  obtain ⟨rfl, hP, hK⟩ := hv
  have hown : s.vm.findClass RX12 = some m.cls := findClass_of_methodNamed B.named
  have C0 : CX p m c cX12_dyeAt 15 s _ wsX12_dyeAt RX12 E := ⟨⟨B.exec, B.bytes, hml, hown, atoms_spec (ws := wsX12_dyeAt) B.pre⟩, hK⟩
  have hx := B.exec
  have hb := B.bytes
  have hr := B.returns
  have hlocks := B.notSynchronized
  have hw : SM E s st s.heap [] := ⟨hP, va_S.rf⟩
  have hl := lv_entry ([.ref (E.2.2.1 0 (0)), .int a1, .double a2, .int a3]) (n := 15) (Nat.le_of_ble_eq_true rfl)
  rw [lg_entry_eq]
  generalize (lg_sl ([.ref (E.2.2.1 0 (0)), .int a1, .double a2, .int a3]) ++ List.replicate (15 - (lg_sl ([.ref (E.2.2.1 0 (0)), .int a1, .double a2, .int a3])).length) Slot.unset).toArray = ls at hl ⊢
  have hl : lv_has ls 15 [(0, .ref (E.2.2.1 0 (0))), (1, .int a1), (2, .double a2), (4, .int a3)] := hl
  unfold fX12_dyeAt at h
  refine lv_aload_n hx hb dX12_dyeAt_0 rfl (lv_at hl 0 rfl) ?_
  refine M_g0_12 C0 hw (fun w h => (List.mem_cons_of_mem _ (List.mem_append_right _ h))) (by decide) ((List.mem_cons_of_mem _ (List.mem_append_left _ (List.mem_of_getElem? (i := 0) rfl)))) dX12_dyeAt_1 ?_
  refine lv_iload_n hx hb dX12_dyeAt_4 rfl (lv_at hl 1 rfl) ?_
  refine M_iald C0 hw h (k := a1.toNatClampNeg) rfl dX12_dyeAt_5 (fun h => ?_)
  refine x_topi h (fun v1 h => ?_)
  refine lv_istore (lv' := [(5, .int v1), (0, .ref (E.2.2.1 0 (0))), (1, .int a1), (2, .double a2), (4, .int a3)]) hx hb dX12_dyeAt_6 hl (by decide) rfl (fun ls hl => ?_)
  refine lv_iload hx hb dX12_dyeAt_8 (lv_at hl 0 rfl) ?_
  refine lv_if_eq (tgt := 19) hx hb dX12_dyeAt_10 (by decide) (fun hc2 => ?_) (fun hc2 => ?_)
  · have h := ifp h hc2
    refine lv_dconst0 hx hb dX12_dyeAt_19 ?_
    cases h
    exact W.dret hx hb hr (M_fin C0 hw) hw.2.2.2 dX12_dyeAt_20 hlocks
  · have h := ifn h hc2
    refine lv_dload_n hx hb dX12_dyeAt_13 rfl (lv_at hl 3 rfl) ?_
    refine lv_dconst0 hx hb dX12_dyeAt_14 ?_
    refine lv_dcmp hx hb dX12_dyeAt_15 ?_
    refine lv_if_ne (tgt := 21) hx hb dX12_dyeAt_16 (by decide) (fun hc3 => ?_) (fun hc3 => ?_)
    · have h := ifn h hc3
      refine lv_aload_n hx hb dX12_dyeAt_21 rfl (lv_at hl 1 rfl) ?_
      refine M_g0_13 C0 hw (fun w h => (List.mem_cons_of_mem _ (List.mem_append_right _ h))) (by decide) ((List.mem_cons_of_mem _ (List.mem_append_left _ (List.mem_of_getElem? (i := 1) rfl)))) dX12_dyeAt_22 ?_
      refine lv_bipush (v := 6) hx hb dX12_dyeAt_25 (by decide) ?_
      refine lv_iload_n hx hb dX12_dyeAt_27 rfl (lv_at hl 2 rfl) ?_
      refine lv_imul hx hb dX12_dyeAt_28 ?_
      refine M_iald C0 hw h (k := ((6 : Int32) * a1).toNatClampNeg) rfl dX12_dyeAt_29 (fun h => ?_)
      refine lv_i2d hx hb dX12_dyeAt_30 ?_
      refine x_topd h (fun v4 h => ?_)
      refine lv_dstore (lv' := [(6, .double v4), (5, .int v1), (0, .ref (E.2.2.1 0 (0))), (1, .int a1), (2, .double a2), (4, .int a3)]) hx hb dX12_dyeAt_31 hl (by decide) rfl (fun ls hl => ?_)
      refine lv_dload_n hx hb dX12_dyeAt_33 rfl (lv_at hl 4 rfl) ?_
      refine lv_dload hx hb dX12_dyeAt_34 (lv_at hl 0 rfl) ?_
      refine lv_dcmp hx hb dX12_dyeAt_36 ?_
      refine lv_if_gt (tgt := 54) hx hb dX12_dyeAt_37 (by decide) (fun hc5 => ?_) (fun hc5 => ?_)
      · have h := ifp h hc5
        refine lv_iconst (v := 1) hx hb dX12_dyeAt_54 (by decide) ?_
        refine lv_istore (lv' := [(8, .int (1 : Int32)), (6, .double v4), (5, .int v1), (0, .ref (E.2.2.1 0 (0))), (1, .int a1), (2, .double a2), (4, .int a3)]) hx hb dX12_dyeAt_55 hl (by decide) rfl (fun ls hl => ?_)
        refine lp_ind (fun q : Int32 => ∀ (H : Heap) (locs : List Loc), SM E s st H locs → ∀ ls : Array Slot, lv_has ls 15 [(8, .int q), (5, .int v1), (0, .ref (E.2.2.1 0 (0))), (1, .int a1), (2, .double a2), (4, .int a3)] → W p l e (headSpec wsX12_dyeAt ({ frames := 2, cells := 0, slots := 0, locals := 48 })).room s m ([.ref (E.2.2.1 0 (0)), .int a1, .double a2, .int a3] : List Value).toArray below meth c H locs 0 0 (MQ below (QM E (some (.double r)) st) ([.ref (E.2.2.1 0 (0)), .int a1, .double a2, .int a3] : List Value).toArray s 0 0 E.2.2.2) (F0 m 57 ls [])) (fun q o8 h hB7 hX6 => ?_) _ _ h _ _ hw _ (lv_sub hl [0, 2, 3, 4, 5, 6] rfl)
        intro H locs hw ls hl
        obtain ⟨v9, rfl⟩ : ∃ z, z = q := ⟨_, rfl⟩
        have hl : lv_has ls 15 [(8, .int v9), (5, .int v1), (0, .ref (E.2.2.1 0 (0))), (1, .int a1), (2, .double a2), (4, .int a3)] := hl
        refine lv_iload hx hb dX12_dyeAt_57 (lv_at hl 0 rfl) ?_
        refine lv_iload hx hb dX12_dyeAt_59 (lv_at hl 1 rfl) ?_
        refine lv_icmp_ge (tgt := 152) hx hb dX12_dyeAt_61 (by decide) (fun hc10 => ?_) (fun hc10 => ?_)
        · have h := ifp h hc10
          have h := hX6 _ (Option.some.inj h).symm
          have h := sm_r h
          have hl := lv_sub hl (l' := [(0, .ref (E.2.2.1 0 (0))), (1, .int a1), (2, .double a2), (4, .int a3), (5, .int v1)]) [2, 3, 4, 5, 1] rfl
          refine lv_aload_n hx hb dX12_dyeAt_152 rfl (lv_at hl 0 rfl) ?_
          refine lv_iload_n hx hb dX12_dyeAt_153 rfl (lv_at hl 1 rfl) ?_
          refine lv_iload hx hb dX12_dyeAt_154 (lv_at hl 4 rfl) ?_
          refine lv_iconst (v := 1) hx hb dX12_dyeAt_156 (by decide) ?_
          refine lv_isub hx hb dX12_dyeAt_157 ?_
          refine lv_iload hx hb dX12_dyeAt_158 (lv_at hl 3 rfl) ?_
          obtain ⟨v11, hf12, h⟩ := bn_c h
          refine M_callV C0 hw (As := [.int a1, .int (v1 - (1 : Int32)), .int a3]) (rest := []) (mX12_own l E hL st hf12) (cwV 3 C0.1.2.2.2.2 gX12_dyeAt_X12_own rfl rfl rfl (by decide +kernel) ⟨Nat.le_of_ble_eq_true rfl, Nat.le_of_ble_eq_true rfl⟩) (M_recv_0 C0 hw (by decide)) rfl hl.1 rfl (Nat.le_of_ble_eq_true rfl) dX12_dyeAt_160 ⟨Nat.zero_le _, Nat.zero_le _⟩ (fun H locs hw => ?_)
          refine W.eq (g2 := F0 m 163 ls [.double v11]) rfl ?_
          refine lv_dload_n hx hb dX12_dyeAt_163 rfl (lv_at hl 2 rfl) ?_
          refine lv_aload_n hx hb dX12_dyeAt_164 rfl (lv_at hl 0 rfl) ?_
          refine M_g0_13 C0 hw (fun w h => (List.mem_cons_of_mem _ (List.mem_append_right _ h))) (by decide) ((List.mem_cons_of_mem _ (List.mem_append_left _ (List.mem_of_getElem? (i := 1) rfl)))) dX12_dyeAt_165 ?_
          refine lv_bipush (v := 6) hx hb dX12_dyeAt_168 (by decide) ?_
          refine lv_iload_n hx hb dX12_dyeAt_170 rfl (lv_at hl 1 rfl) ?_
          refine lv_imul hx hb dX12_dyeAt_171 ?_
          refine lv_iload hx hb dX12_dyeAt_172 (lv_at hl 4 rfl) ?_
          refine lv_iadd hx hb dX12_dyeAt_174 ?_
          refine lv_iconst (v := 1) hx hb dX12_dyeAt_175 (by decide) ?_
          refine lv_isub hx hb dX12_dyeAt_176 ?_
          refine M_iald C0 hw h (k := ((((6 : Int32) * a1) + v1) - (1 : Int32)).toNatClampNeg) rfl dX12_dyeAt_177 (fun h => ?_)
          refine lv_i2d hx hb dX12_dyeAt_178 ?_
          refine x_ddiv hx hb h dX12_dyeAt_179 (fun v13 h => ?_)
          refine x_dmul hx hb h dX12_dyeAt_180 (fun v14 h => ?_)
          cases h
          exact W.dret hx hb hr (M_fin C0 hw) hw.2.2.2 dX12_dyeAt_181 hlocks
        · have h := ifn h hc10
          refine lv_aload_n hx hb dX12_dyeAt_64 rfl (lv_at hl 2 rfl) ?_
          refine M_g0_13 C0 hw (fun w h => (List.mem_cons_of_mem _ (List.mem_append_right _ h))) (by decide) ((List.mem_cons_of_mem _ (List.mem_append_left _ (List.mem_of_getElem? (i := 1) rfl)))) dX12_dyeAt_65 ?_
          refine lv_bipush (v := 6) hx hb dX12_dyeAt_68 (by decide) ?_
          refine lv_iload_n hx hb dX12_dyeAt_70 rfl (lv_at hl 3 rfl) ?_
          refine lv_imul hx hb dX12_dyeAt_71 ?_
          refine lv_iload hx hb dX12_dyeAt_72 (lv_at hl 0 rfl) ?_
          refine lv_iadd hx hb dX12_dyeAt_74 ?_
          refine lv_iconst (v := 1) hx hb dX12_dyeAt_75 (by decide) ?_
          refine lv_isub hx hb dX12_dyeAt_76 ?_
          refine M_iald C0 hw h (k := ((((6 : Int32) * a1) + v9) - (1 : Int32)).toNatClampNeg) rfl dX12_dyeAt_77 (fun h => ?_)
          refine lv_i2d hx hb dX12_dyeAt_78 ?_
          refine x_topd h (fun v15 h => ?_)
          refine lv_dstore (lv' := [(9, .double v15), (8, .int v9), (5, .int v1), (0, .ref (E.2.2.1 0 (0))), (1, .int a1), (2, .double a2), (4, .int a3)]) hx hb dX12_dyeAt_79 hl (by decide) rfl (fun ls hl => ?_)
          refine lv_aload_n hx hb dX12_dyeAt_81 rfl (lv_at hl 3 rfl) ?_
          refine M_g0_13 C0 hw (fun w h => (List.mem_cons_of_mem _ (List.mem_append_right _ h))) (by decide) ((List.mem_cons_of_mem _ (List.mem_append_left _ (List.mem_of_getElem? (i := 1) rfl)))) dX12_dyeAt_82 ?_
          refine lv_bipush (v := 6) hx hb dX12_dyeAt_85 (by decide) ?_
          refine lv_iload_n hx hb dX12_dyeAt_87 rfl (lv_at hl 4 rfl) ?_
          refine lv_imul hx hb dX12_dyeAt_88 ?_
          refine lv_iload hx hb dX12_dyeAt_89 (lv_at hl 1 rfl) ?_
          refine lv_iadd hx hb dX12_dyeAt_91 ?_
          refine M_iald C0 hw h (k := (((6 : Int32) * a1) + v9).toNatClampNeg) rfl dX12_dyeAt_92 (fun h => ?_)
          refine lv_i2d hx hb dX12_dyeAt_93 ?_
          refine x_topd h (fun v16 h => ?_)
          refine lv_dstore (lv' := [(11, .double v16), (9, .double v15), (8, .int v9), (5, .int v1), (0, .ref (E.2.2.1 0 (0))), (1, .int a1), (2, .double a2), (4, .int a3)]) hx hb dX12_dyeAt_94 hl (by decide) rfl (fun ls hl => ?_)
          refine lv_dload_n hx hb dX12_dyeAt_96 rfl (lv_at hl 6 rfl) ?_
          refine lv_dload hx hb dX12_dyeAt_97 (lv_at hl 0 rfl) ?_
          refine lv_dcmp hx hb dX12_dyeAt_99 ?_
          refine lv_if_le (tgt := 106) hx hb dX12_dyeAt_100 (by decide) (fun hc17 => ?_) (fun hc17 => ?_)
          · have h := ifp h hc17
            refine lv_aload_n hx hb dX12_dyeAt_106 rfl (lv_at hl 4 rfl) ?_
            refine lv_iload_n hx hb dX12_dyeAt_107 rfl (lv_at hl 5 rfl) ?_
            refine lv_iload hx hb dX12_dyeAt_108 (lv_at hl 2 rfl) ?_
            refine lv_iconst (v := 1) hx hb dX12_dyeAt_110 (by decide) ?_
            refine lv_isub hx hb dX12_dyeAt_111 ?_
            refine lv_iload hx hb dX12_dyeAt_112 (lv_at hl 7 rfl) ?_
            obtain ⟨v18, hf19, h⟩ := bn_c h
            refine M_callV C0 hw (As := [.int a1, .int (v9 - (1 : Int32)), .int a3]) (rest := []) (mX12_own l E hL st hf19) (cwV 3 C0.1.2.2.2.2 gX12_dyeAt_X12_own rfl rfl rfl (by decide +kernel) ⟨Nat.le_of_ble_eq_true rfl, Nat.le_of_ble_eq_true rfl⟩) (M_recv_0 C0 hw (by decide)) rfl hl.1 rfl (Nat.le_of_ble_eq_true rfl) dX12_dyeAt_114 ⟨Nat.zero_le _, Nat.zero_le _⟩ (fun H locs hw => ?_)
            refine W.eq (g2 := F0 m 117 ls [.double v18]) rfl ?_
            refine lv_dstore (lv' := [(13, .double v18), (11, .double v16), (9, .double v15), (8, .int v9), (5, .int v1), (0, .ref (E.2.2.1 0 (0))), (1, .int a1), (2, .double a2), (4, .int a3)]) hx hb dX12_dyeAt_117 hl (by decide) rfl (fun ls hl => ?_)
            refine lv_dload hx hb dX12_dyeAt_119 (lv_at hl 0 rfl) ?_
            refine lv_aload_n hx hb dX12_dyeAt_121 rfl (lv_at hl 5 rfl) ?_
            refine lv_iload_n hx hb dX12_dyeAt_122 rfl (lv_at hl 6 rfl) ?_
            refine lv_iload hx hb dX12_dyeAt_123 (lv_at hl 3 rfl) ?_
            refine lv_iload hx hb dX12_dyeAt_125 (lv_at hl 8 rfl) ?_
            obtain ⟨v20, hf21, h⟩ := bn_c h
            refine M_callV C0 hw (As := [.int a1, .int v9, .int a3]) (rest := [.double v18]) (mX12_own l E hL st hf21) (cwV 3 C0.1.2.2.2.2 gX12_dyeAt_X12_own rfl rfl rfl (by decide +kernel) ⟨Nat.le_of_ble_eq_true rfl, Nat.le_of_ble_eq_true rfl⟩) (M_recv_0 C0 hw (by decide)) rfl hl.1 rfl (Nat.le_of_ble_eq_true rfl) dX12_dyeAt_127 ⟨Nat.zero_le _, Nat.zero_le _⟩ (fun H locs hw => ?_)
            refine W.eq (g2 := F0 m 130 ls [.double v20, .double v18]) rfl ?_
            refine lv_dload hx hb dX12_dyeAt_130 (lv_at hl 0 rfl) ?_
            refine x_dsub hx hb h dX12_dyeAt_132 (fun v22 h => ?_)
            refine lv_dload_n hx hb dX12_dyeAt_133 rfl (lv_at hl 7 rfl) ?_
            refine lv_dload hx hb dX12_dyeAt_134 (lv_at hl 2 rfl) ?_
            refine x_dsub hx hb h dX12_dyeAt_136 (fun v23 h => ?_)
            refine lv_dload hx hb dX12_dyeAt_137 (lv_at hl 1 rfl) ?_
            refine lv_dload hx hb dX12_dyeAt_139 (lv_at hl 2 rfl) ?_
            refine x_dsub hx hb h dX12_dyeAt_141 (fun v24 h => ?_)
            refine x_ddiv hx hb h dX12_dyeAt_142 (fun v25 h => ?_)
            refine x_dmul hx hb h dX12_dyeAt_143 (fun v26 h => ?_)
            refine x_dadd hx hb h dX12_dyeAt_144 (fun v27 h => ?_)
            have h := hX6 _ (Option.some.inj h).symm
            have h := sm_l h
            cases h
            exact W.dret hx hb hr (M_fin C0 hw) hw.2.2.2 dX12_dyeAt_145 hlocks
          · have h := ifn h hc17
            refine lv_goto (tgt := 146) hx hb dX12_dyeAt_103 (by decide) ?_
            refine x_iinc hx hb h dX12_dyeAt_146 hl (q := 2) rfl (fun v28 => [(8, .int v28), (11, .double v16), (9, .double v15), (5, .int v1), (0, .ref (E.2.2.1 0 (0))), (1, .int a1), (2, .double a2), (4, .int a3)]) (by decide) (fun _ => rfl) (fun v28 ls hl h => ?_)
            refine lv_goto (tgt := 57) hx hb dX12_dyeAt_149 (by decide) ?_
            exact hB7 _ (Option.some.inj h).symm _ _ hw _ (lv_sub hl [0, 3, 4, 5, 6, 7] rfl)
      · have h := ifn h hc5
        refine lv_aload_n hx hb dX12_dyeAt_40 rfl (lv_at hl 2 rfl) ?_
        refine lv_iload_n hx hb dX12_dyeAt_41 rfl (lv_at hl 3 rfl) ?_
        refine lv_iconst (v := 0) hx hb dX12_dyeAt_42 (by decide) ?_
        refine lv_iload hx hb dX12_dyeAt_43 (lv_at hl 5 rfl) ?_
        obtain ⟨v33, hf34, h⟩ := bn_c h
        refine M_callV C0 hw (As := [.int a1, .int (0 : Int32), .int a3]) (rest := []) (mX12_own l E hL st hf34) (cwV 3 C0.1.2.2.2.2 gX12_dyeAt_X12_own rfl rfl rfl (by decide +kernel) ⟨Nat.le_of_ble_eq_true rfl, Nat.le_of_ble_eq_true rfl⟩) (M_recv_0 C0 hw (by decide)) rfl hl.1 rfl (Nat.le_of_ble_eq_true rfl) dX12_dyeAt_45 ⟨Nat.zero_le _, Nat.zero_le _⟩ (fun H locs hw => ?_)
        refine W.eq (g2 := F0 m 48 ls [.double v33]) rfl ?_
        refine lv_dload_n hx hb dX12_dyeAt_48 rfl (lv_at hl 4 rfl) ?_
        refine lv_dload hx hb dX12_dyeAt_49 (lv_at hl 0 rfl) ?_
        refine x_ddiv hx hb h dX12_dyeAt_51 (fun v35 h => ?_)
        refine x_dmul hx hb h dX12_dyeAt_52 (fun v36 h => ?_)
        cases h
        exact W.dret hx hb hr (M_fin C0 hw) hw.2.2.2 dX12_dyeAt_53 hlocks
    · have h := ifp h hc3
      refine lv_dconst0 hx hb dX12_dyeAt_19 ?_
      cases h
      exact W.dret hx hb hr (M_fin C0 hw) hw.2.2.2 dX12_dyeAt_20 hlocks

def fX12_lotAt (a1 : Int32) (a2 : UInt64) (a3 : Int32) (st : Sto) : Option UInt64 :=
  ck (0 ≤ a1.toInt ∧ a1.toInt < (lIM (16) (0) : Int)) (
   ck (0 ≤ a1.toInt ∧ a1.toInt < (lIM (17) (0) : Int)) (
    nd (FP.dmul a2 (FP.i2d (gI st (17) (0) (a1.toNatClampNeg)))) fun (v1 : UInt64) =>
    ck (0 ≤ a1.toInt ∧ a1.toInt < (lIM (18) (0) : Int)) (
     nd (FP.ddiv v1 (FP.i2d (gI st (18) (0) (a1.toNatClampNeg)))) fun (v2 : UInt64) =>
     (fX12_dyeAt (gI st (16) (0) (a1.toNatClampNeg)) v2 a3 st).bind (fun (v3 : UInt64) =>
      some v3))))
set_option maxHeartbeats 4000000 in
set_option maxRecDepth 100000 in
theorem mX12_lotAt (l : Launch) (E : XE) (hL : LM E) (st : Sto) {a1 : Int32} {a2 : UInt64} {a3 : Int32} {r : UInt64} (h : fX12_lotAt a1 a2 a3 st = some r) : Met l yX12_lotAt wsX12_lotAt ({ frames := 3, cells := 0, slots := 0, locals := 82 }) (va_Pc [.ref (E.2.2.1 0 (0)), .int a1, .double a2, .int a3] (RM E st)) (QM E (some (.double r)) st) 0 0 E.2.2.2 := by
  refine Met.ofW (cc := cX12_lotAt) (maxL := 5) (ret := (some .double)) (by decide) rfl ?_
  intro p e s m args below meth c s₁ B hml hv
  obtain ⟨rfl, hP, hK⟩ := hv
  have hown : s.vm.findClass RX12 = some m.cls := findClass_of_methodNamed B.named
  have C0 : CX p m c cX12_lotAt 5 s _ wsX12_lotAt RX12 E := ⟨⟨B.exec, B.bytes, hml, hown, atoms_spec (ws := wsX12_lotAt) B.pre⟩, hK⟩
  have hx := B.exec
  have hb := B.bytes
  have hr := B.returns
  have hlocks := B.notSynchronized
  have hw : SM E s st s.heap [] := ⟨hP, va_S.rf⟩
  have hl := lv_entry ([.ref (E.2.2.1 0 (0)), .int a1, .double a2, .int a3]) (n := 5) (Nat.le_of_ble_eq_true rfl)
  rw [lg_entry_eq]
  generalize (lg_sl ([.ref (E.2.2.1 0 (0)), .int a1, .double a2, .int a3]) ++ List.replicate (5 - (lg_sl ([.ref (E.2.2.1 0 (0)), .int a1, .double a2, .int a3])).length) Slot.unset).toArray = ls at hl ⊢
  have hl : lv_has ls 5 [(0, .ref (E.2.2.1 0 (0))), (1, .int a1), (2, .double a2), (4, .int a3)] := hl
  unfold fX12_lotAt at h
  refine lv_aload_n hx hb dX12_lotAt_0 rfl (lv_at hl 0 rfl) ?_
  refine lv_aload_n hx hb dX12_lotAt_1 rfl (lv_at hl 0 rfl) ?_
  refine M_g0_15 C0 hw (fun w h => (List.mem_cons_of_mem _ (List.mem_append_right _ h))) (by decide) ((List.mem_cons_of_mem _ (List.mem_append_left _ (List.mem_of_getElem? (i := 0) rfl)))) dX12_lotAt_2 ?_
  refine lv_iload_n hx hb dX12_lotAt_5 rfl (lv_at hl 1 rfl) ?_
  refine M_iald C0 hw h (k := a1.toNatClampNeg) rfl dX12_lotAt_6 (fun h => ?_)
  refine lv_dload_n hx hb dX12_lotAt_7 rfl (lv_at hl 2 rfl) ?_
  refine lv_aload_n hx hb dX12_lotAt_8 rfl (lv_at hl 0 rfl) ?_
  refine M_g0_16 C0 hw (fun w h => (List.mem_cons_of_mem _ (List.mem_append_right _ h))) (by decide) ((List.mem_cons_of_mem _ (List.mem_append_left _ (List.mem_of_getElem? (i := 1) rfl)))) dX12_lotAt_9 ?_
  refine lv_iload_n hx hb dX12_lotAt_12 rfl (lv_at hl 1 rfl) ?_
  refine M_iald C0 hw h (k := a1.toNatClampNeg) rfl dX12_lotAt_13 (fun h => ?_)
  refine lv_i2d hx hb dX12_lotAt_14 ?_
  refine x_dmul hx hb h dX12_lotAt_15 (fun v1 h => ?_)
  refine lv_aload_n hx hb dX12_lotAt_16 rfl (lv_at hl 0 rfl) ?_
  refine M_g0_17 C0 hw (fun w h => (List.mem_cons_of_mem _ (List.mem_append_right _ h))) (by decide) ((List.mem_cons_of_mem _ (List.mem_append_left _ (List.mem_of_getElem? (i := 2) rfl)))) dX12_lotAt_17 ?_
  refine lv_iload_n hx hb dX12_lotAt_20 rfl (lv_at hl 1 rfl) ?_
  refine M_iald C0 hw h (k := a1.toNatClampNeg) rfl dX12_lotAt_21 (fun h => ?_)
  refine lv_i2d hx hb dX12_lotAt_22 ?_
  refine x_ddiv hx hb h dX12_lotAt_23 (fun v2 h => ?_)
  refine lv_iload hx hb dX12_lotAt_24 (lv_at hl 3 rfl) ?_
  obtain ⟨v3, hf4, h⟩ := bn_c h
  refine M_callV C0 hw (As := [.int (gI st (16) (0) (a1.toNatClampNeg)), .double v2, .int a3]) (rest := []) (mX12_dyeAt l E hL st hf4) (cwV 3 C0.1.2.2.2.2 gX12_lotAt_X12_dyeAt rfl rfl rfl (by decide +kernel) ⟨Nat.le_of_ble_eq_true rfl, Nat.le_of_ble_eq_true rfl⟩) (M_recv_0 C0 hw (by decide)) rfl hl.1 rfl (Nat.le_of_ble_eq_true rfl) dX12_lotAt_26 ⟨Nat.zero_le _, Nat.zero_le _⟩ (fun H locs hw => ?_)
  refine W.eq (g2 := F0 m 29 ls [.double v3]) rfl ?_
  cases h
  exact W.dret hx hb hr (M_fin C0 hw) hw.2.2.2 dX12_lotAt_29 hlocks

def fmJxe99ae_isNaN_b9ae7 (a1 : UInt64) : Option Int32 :=
  if Op.cmpValue (FP.dcmp a1 a1) CmpOp.l = 0 then (
   some (0 : Int32)) else (
   some (1 : Int32))
set_option maxHeartbeats 4000000 in
set_option maxRecDepth 100000 in
theorem mmJxe99ae_isNaN_b9ae7 (l : Launch) (E : XE) (hL : LM E) (st : Sto) {a1 : UInt64} {r : Int32} (h : fmJxe99ae_isNaN_b9ae7 a1 = some r) : Met l yJxe99ae_isNaN_b9ae7 wsJxe99ae_isNaN_b9ae7 ({ frames := 0, cells := 0, slots := 0, locals := 0 }) (va_Pc [.double a1] (RM E st)) (QM E (some (.int r)) st) 0 0 E.2.2.2 := by
  refine va_MetF (cc := cJxe99ae_isNaN_b9ae7) (maxL := 2) (ret := (some .boolean)) (by decide +kernel) rfl ?_
  intro p e s m args below meth c s₁ B hml hv
  obtain ⟨rfl, hP, hK⟩ := hv
  have hown : s.vm.findClass RJxe99ae = some m.cls := findClass_of_methodNamed B.named
  have C0 : CX p m c cJxe99ae_isNaN_b9ae7 2 s _ wsJxe99ae_isNaN_b9ae7 RJxe99ae E := ⟨⟨B.exec, B.bytes, hml, hown, atoms_spec (ws := wsJxe99ae_isNaN_b9ae7) B.pre⟩, hK⟩
  have hx := B.exec
  have hb := B.bytes
  have hr := B.returns
  have hlocks := B.notSynchronized
  have hw : SM E s st s.heap [] := ⟨hP, va_S.rf⟩
  have hl := lv_entry ([.double a1]) (n := 2) (Nat.le_of_ble_eq_true rfl)
  rw [lg_entry_eq]
  generalize (lg_sl ([.double a1]) ++ List.replicate (2 - (lg_sl ([.double a1])).length) Slot.unset).toArray = ls at hl ⊢
  have hl : lv_has ls 2 [(0, .double a1)] := hl
  unfold fmJxe99ae_isNaN_b9ae7 at h
  refine lv_dload_n hx hb dJxe99ae_isNaN_b9ae7_0 rfl (lv_at hl 0 rfl) ?_
  refine lv_dload_n hx hb dJxe99ae_isNaN_b9ae7_1 rfl (lv_at hl 0 rfl) ?_
  refine lv_dcmp hx hb dJxe99ae_isNaN_b9ae7_2 ?_
  refine lv_if_eq (tgt := 10) hx hb dJxe99ae_isNaN_b9ae7_3 (by decide) (fun hc1 => ?_) (fun hc1 => ?_)
  · have h := ifp h hc1
    refine lv_iconst (v := 0) hx hb dJxe99ae_isNaN_b9ae7_10 (by decide) ?_
    cases h
    exact W.zret hx hb hr rfl (M_fin C0 hw) hw.2.2.2 dJxe99ae_isNaN_b9ae7_11 hlocks
  · have h := ifn h hc1
    refine lv_iconst (v := 1) hx hb dJxe99ae_isNaN_b9ae7_6 (by decide) ?_
    refine lv_goto (tgt := 11) hx hb dJxe99ae_isNaN_b9ae7_7 (by decide) ?_
    cases h
    exact W.zret hx hb hr rfl (M_fin C0 hw) hw.2.2.2 dJxe99ae_isNaN_b9ae7_11 hlocks

def fmJxe99ae_doubleToLongBits_ccdee (a1 : UInt64) : Option Int64 :=
  (fmJxe99ae_isNaN_b9ae7 a1).bind (fun (v1 : Int32) =>
   if v1 = 0 then (
    some (a1.toInt64)) else (
    some (9221120237041090560 : Int64)))
set_option maxHeartbeats 4000000 in
set_option maxRecDepth 100000 in
theorem mmJxe99ae_doubleToLongBits_ccdee (l : Launch) (E : XE) (hL : LM E) (st : Sto) {a1 : UInt64} {r : Int64} (h : fmJxe99ae_doubleToLongBits_ccdee a1 = some r) : Met l yJxe99ae_doubleToLongBits_ccdee wsJxe99ae_doubleToLongBits_ccdee ({ frames := 1, cells := 0, slots := 0, locals := 23 }) (va_Pc [.double a1] (RM E st)) (QM E (some (.long r)) st) 0 0 E.2.2.2 := by
  refine va_MetF (cc := cJxe99ae_doubleToLongBits_ccdee) (maxL := 2) (ret := (some .long)) (by decide +kernel) rfl ?_
  intro p e s m args below meth c s₁ B hml hv
  obtain ⟨rfl, hP, hK⟩ := hv
  have hown : s.vm.findClass RJxe99ae = some m.cls := findClass_of_methodNamed B.named
  have C0 : CX p m c cJxe99ae_doubleToLongBits_ccdee 2 s _ wsJxe99ae_doubleToLongBits_ccdee RJxe99ae E := ⟨⟨B.exec, B.bytes, hml, hown, atoms_spec (ws := wsJxe99ae_doubleToLongBits_ccdee) B.pre⟩, hK⟩
  have hx := B.exec
  have hb := B.bytes
  have hr := B.returns
  have hlocks := B.notSynchronized
  have hw : SM E s st s.heap [] := ⟨hP, va_S.rf⟩
  have hl := lv_entry ([.double a1]) (n := 2) (Nat.le_of_ble_eq_true rfl)
  rw [lg_entry_eq]
  generalize (lg_sl ([.double a1]) ++ List.replicate (2 - (lg_sl ([.double a1])).length) Slot.unset).toArray = ls at hl ⊢
  have hl : lv_has ls 2 [(0, .double a1)] := hl
  unfold fmJxe99ae_doubleToLongBits_ccdee at h
  refine lv_dload_n hx hb dJxe99ae_doubleToLongBits_ccdee_0 rfl (lv_at hl 0 rfl) ?_
  obtain ⟨v1, hf2, h⟩ := bn_c h
  refine M_callS C0 hw (As := [.double a1]) (rest := []) (mmJxe99ae_isNaN_b9ae7 l E hL st hf2) (va_cwS 1 C0.1.2.2.2.2 gJxe99ae_doubleToLongBits_ccdee_Jxe99ae_isNaN_b9ae7 rfl rfl rfl (by decide +kernel) ⟨Nat.le_of_ble_eq_true rfl, Nat.le_of_ble_eq_true rfl⟩) rfl hl.1 rfl (Nat.le_of_ble_eq_true rfl) dJxe99ae_doubleToLongBits_ccdee_1 ⟨Nat.zero_le _, Nat.zero_le _⟩ (fun H locs hw => ?_)
  refine W.eq (g2 := F0 m 4 ls [.int v1]) rfl ?_
  refine lv_if_ne (tgt := 12) hx hb dJxe99ae_doubleToLongBits_ccdee_4 (by decide) (fun hc3 => ?_) (fun hc3 => ?_)
  · have h := ifn h hc3
    refine lv_ldc2 hx hb hown (C0.1.2.2.2.2 _ (List.mem_cons_of_mem _ (List.mem_of_getElem? (i := 4) rfl))) dJxe99ae_doubleToLongBits_ccdee_12 ?_
    cases h
    exact W.lret hx hb hr (M_fin C0 hw) hw.2.2.2 dJxe99ae_doubleToLongBits_ccdee_15 hlocks
  · have h := ifp h hc3
    refine lv_dload_n hx hb dJxe99ae_doubleToLongBits_ccdee_7 rfl (lv_at hl 0 rfl) ?_
    refine vn_d2l hx hb (hml.trans hl.1.symm) hown (C0.1.2.2.2.2 _ (List.mem_cons_of_mem _ (List.mem_of_getElem? (i := 0) rfl))) (C0.1.2.2.2.2 _ (List.mem_cons_of_mem _ (List.mem_of_getElem? (i := 1) rfl))) (C0.1.2.2.2.2 _ (List.mem_cons_of_mem _ (List.mem_of_getElem? (i := 2) rfl))) (C0.1.2.2.2.2 _ (List.mem_cons_of_mem _ (List.mem_of_getElem? (i := 3) rfl))) (Nat.le_of_ble_eq_true rfl) (Nat.le_of_ble_eq_true rfl) dJxe99ae_doubleToLongBits_ccdee_8 ?_
    cases h
    exact W.lret hx hb hr (M_fin C0 hw) hw.2.2.2 dJxe99ae_doubleToLongBits_ccdee_11 hlocks

def fX12_rootOf (a1 : UInt64) : Option UInt64 :=
  if Op.cmpValue (FP.dcmp a1 FP.dconst0) CmpOp.l = 0 then (
   some FP.dconst0) else (
   (fmJxe99ae_doubleToLongBits_ccdee a1).bind (fun (v2 : Int64) =>
    lt1 (((v2 >>> ((52 : Int32).toInt64 &&& 63)).toInt32) - (1075 : Int32)) fun (v4 : Int32) =>
    lt1 ((v2 &&& (4503599627370495 : Int64)) ||| (4503599627370496 : Int64)) fun (v5 : Int64) =>
    jn (fun (v9 : Int64) (v10 : Int32) =>
     ((lp (σ := (Int32 × Int64 × Int64)) (ρ := (Int64 × Int64)) (un3 fun (v14 : Int32) (v15 : Int64) (v16 : Int64) =>
        if v14 < 0 then (
         some (.inr (v16, v15))) else (
         jn (fun (v46 : Int64) =>
          lt1 ((v15 <<< ((2 : Int32).toInt64 &&& 63)) ||| v46) fun (v47 : Int64) =>
          lt1 ((v16 <<< ((2 : Int32).toInt64 &&& 63)) ||| (1 : Int64)) fun (v48 : Int64) =>
          lt1 (v16 <<< ((1 : Int32).toInt64 &&& 63)) fun (v49 : Int64) =>
          if 0 ≤ lg_cmp v47 v48 then (
           lt1 (v47 - v48) fun (v51 : Int64) =>
           lt1 (v49 ||| (1 : Int64)) fun (v52 : Int64) =>
           lt1 (v14 + Int32.ofInt (-1)) fun (v53 : Int32) =>
           some (.inl (v53, v51, v52))) else (
           lt1 (v14 + Int32.ofInt (-1)) fun (v54 : Int32) =>
           some (.inl (v54, v47, v49)))) fun K43 =>
         if v14 < (27 : Int32) then (
          K43 (0 : Int64)) else (
          K43 ((v9 >>> (((2 : Int32) * (v14 - (27 : Int32))).toInt64 &&& 63)) &&& (3 : Int64))))) 4000 ((53 : Int32), (0 : Int64), (0 : Int64))).bind
      (un2 fun (v17 : Int64) (v18 : Int64) =>
       jn (fun (_u : Unit) =>
        jn (fun (v62 : Int64) =>
         lt1 ((v17 >>> ((1 : Int32).toInt64 &&& 63)) + v62) fun (v63 : Int64) =>
         ck (¬ (2 : Int32) = 0) (
          ck (vn_snl2d ((((((v10 - (54 : Int32)) / (2 : Int32)) + (1 : Int32)) + (1023 : Int32)).toInt64) <<< ((52 : Int32).toInt64 &&& 63)) = false) (
           nd (FP.dmul (FP.l2d v63) (((((((v10 - (54 : Int32)) / (2 : Int32)) + (1 : Int32)) + (1023 : Int32)).toInt64) <<< ((52 : Int32).toInt64 &&& 63)).toUInt64)) fun (v64 : UInt64) =>
           some v64))) fun K59 =>
        if (0 : Int32) = 0 then (
         K59 (0 : Int64)) else (
         K59 (1 : Int64))) fun K56 =>
       if lg_cmp (v17 &&& (1 : Int64)) (1 : Int64) = 0 then (
        jn (fun (_u : Unit) =>
         jn (fun (v73 : Int64) =>
          lt1 ((v17 >>> ((1 : Int32).toInt64 &&& 63)) + v73) fun (v74 : Int64) =>
          ck (¬ (2 : Int32) = 0) (
           ck (vn_snl2d ((((((v10 - (54 : Int32)) / (2 : Int32)) + (1 : Int32)) + (1023 : Int32)).toInt64) <<< ((52 : Int32).toInt64 &&& 63)) = false) (
            nd (FP.dmul (FP.l2d v74) (((((((v10 - (54 : Int32)) / (2 : Int32)) + (1 : Int32)) + (1023 : Int32)).toInt64) <<< ((52 : Int32).toInt64 &&& 63)).toUInt64)) fun (v75 : UInt64) =>
            some v75))) fun K70 =>
         if (1 : Int32) = 0 then (
          K70 (0 : Int64)) else (
          K70 (1 : Int64))) fun K67 =>
        if lg_cmp v18 (0 : Int64) = 0 then (
         if lg_cmp (v17 &&& (2 : Int64)) (2 : Int64) = 0 then (
          K67 ()) else (
          K56 ())) else (
         K67 ())) else (
        K56 ())))) fun K6 =>
    if v4 &&& (1 : Int32) = 0 then (
     K6 v5 v4) else (
     lt1 (v5 <<< ((1 : Int32).toInt64 &&& 63)) fun (v80 : Int64) =>
     lt1 (v4 + Int32.ofInt (-1)) fun (v81 : Int32) =>
     K6 v80 v81)))
set_option maxHeartbeats 4000000 in
set_option maxRecDepth 100000 in
theorem mX12_rootOf (l : Launch) (E : XE) (hL : LM E) (st : Sto) {a1 : UInt64} {r : UInt64} (h : fX12_rootOf a1 = some r) : Met l yX12_rootOf wsX12_rootOf ({ frames := 2, cells := 0, slots := 0, locals := 44 }) (va_Pc [.ref (E.2.2.1 0 (0)), .double a1] (RM E st)) (QM E (some (.double r)) st) 0 0 E.2.2.2 := by
  refine Met.ofW (cc := cX12_rootOf) (maxL := 15) (ret := (some .double)) (by decide) rfl ?_
  intro p e s m args below meth c s₁ B hml hv
  obtain ⟨rfl, hP, hK⟩ := hv
  have hown : s.vm.findClass RX12 = some m.cls := findClass_of_methodNamed B.named
  have C0 : CX p m c cX12_rootOf 15 s _ wsX12_rootOf RX12 E := ⟨⟨B.exec, B.bytes, hml, hown, atoms_spec (ws := wsX12_rootOf) B.pre⟩, hK⟩
  have hx := B.exec
  have hb := B.bytes
  have hr := B.returns
  have hlocks := B.notSynchronized
  have hw : SM E s st s.heap [] := ⟨hP, va_S.rf⟩
  have hl := lv_entry ([.ref (E.2.2.1 0 (0)), .double a1]) (n := 15) (Nat.le_of_ble_eq_true rfl)
  rw [lg_entry_eq]
  generalize (lg_sl ([.ref (E.2.2.1 0 (0)), .double a1]) ++ List.replicate (15 - (lg_sl ([.ref (E.2.2.1 0 (0)), .double a1])).length) Slot.unset).toArray = ls at hl ⊢
  have hl : lv_has ls 15 [(0, .ref (E.2.2.1 0 (0))), (1, .double a1)] := hl
  unfold fX12_rootOf at h
  refine lv_dload_n hx hb dX12_rootOf_0 rfl (lv_at hl 1 rfl) ?_
  refine lv_dconst0 hx hb dX12_rootOf_1 ?_
  refine lv_dcmp hx hb dX12_rootOf_2 ?_
  refine lv_if_ne (tgt := 8) hx hb dX12_rootOf_3 (by decide) (fun hc1 => ?_) (fun hc1 => ?_)
  · have h := ifn h hc1
    refine lv_dload_n hx hb dX12_rootOf_8 rfl (lv_at hl 1 rfl) ?_
    obtain ⟨v2, hf3, h⟩ := bn_c h
    refine M_callS C0 hw (As := [.double a1]) (rest := []) (mmJxe99ae_doubleToLongBits_ccdee l E hL st hf3) (va_cwS 1 C0.1.2.2.2.2 gX12_rootOf_Jxe99ae_doubleToLongBits_ccdee rfl rfl rfl (by decide +kernel) ⟨Nat.le_of_ble_eq_true rfl, Nat.le_of_ble_eq_true rfl⟩) rfl hl.1 rfl (Nat.le_of_ble_eq_true rfl) dX12_rootOf_9 ⟨Nat.zero_le _, Nat.zero_le _⟩ (fun H locs hw => ?_)
    refine W.eq (g2 := F0 m 12 ls [.long v2]) rfl ?_
    refine lv_lstore_n (lv' := [(3, .long v2), (0, .ref (E.2.2.1 0 (0))), (1, .double a1)]) hx hb dX12_rootOf_12 rfl hl (by decide) rfl (fun ls hl => ?_)
    refine lv_lload_n hx hb dX12_rootOf_13 rfl (lv_at hl 0 rfl) ?_
    refine lv_bipush (v := 52) hx hb dX12_rootOf_14 (by decide) ?_
    refine lv_lshr hx hb dX12_rootOf_16 rfl ?_
    refine lv_l2i hx hb dX12_rootOf_17 rfl ?_
    refine lv_sipush (v := 1075) hx hb dX12_rootOf_18 (by decide) ?_
    refine lv_isub hx hb dX12_rootOf_21 ?_
    refine x_topi h (fun v4 h => ?_)
    refine lv_istore (lv' := [(5, .int v4), (3, .long v2), (0, .ref (E.2.2.1 0 (0))), (1, .double a1)]) hx hb dX12_rootOf_22 hl (by decide) rfl (fun ls hl => ?_)
    refine lv_lload_n hx hb dX12_rootOf_24 rfl (lv_at hl 1 rfl) ?_
    refine lv_ldc2 hx hb hown (C0.1.2.2.2.2 _ (List.mem_cons_of_mem _ (List.mem_of_getElem? (i := 0) rfl))) dX12_rootOf_25 ?_
    refine lv_land hx hb dX12_rootOf_28 ?_
    refine lv_ldc2 hx hb hown (C0.1.2.2.2.2 _ (List.mem_cons_of_mem _ (List.mem_of_getElem? (i := 1) rfl))) dX12_rootOf_29 ?_
    refine lv_lor hx hb dX12_rootOf_32 ?_
    refine x_topl h (fun v5 h => ?_)
    refine lv_lstore (lv' := [(6, .long v5), (5, .int v4), (3, .long v2), (0, .ref (E.2.2.1 0 (0))), (1, .double a1)]) hx hb dX12_rootOf_33 hl (by decide) rfl (fun ls hl => ?_)
    refine lv_iload hx hb dX12_rootOf_35 (lv_at hl 1 rfl) ?_
    refine lv_iconst (v := 1) hx hb dX12_rootOf_37 (by decide) ?_
    refine lv_iand hx hb dX12_rootOf_38 ?_
    refine jn_c h (fun K6 hK8 h => ?_)
    have HJ7 : ∀ (v9 : Int64) (v10 : Int32), K6 v9 v10 = some r → ∀ (H : Heap) (locs : List Loc), SM E s st H locs → ∀ ls : Array Slot, lv_has ls 15 [(6, .long v9), (5, .int v10)] → W p l e (headSpec wsX12_rootOf ({ frames := 2, cells := 0, slots := 0, locals := 44 })).room s m ([.ref (E.2.2.1 0 (0)), .double a1] : List Value).toArray below meth c H locs 0 0 (MQ below (QM E (some (.double r)) st) ([.ref (E.2.2.1 0 (0)), .double a1] : List Value).toArray s 0 0 E.2.2.2) (F0 m 51 ls []) := by
      intro v9 v10 h H locs hw ls hl
      have h := kk2 h hK8
      refine lv_lconst (v := 0) hx hb dX12_rootOf_51 (by decide) ?_
      refine lv_lstore (lv' := [(8, .long (0 : Int64)), (6, .long v9), (5, .int v10)]) hx hb dX12_rootOf_52 hl (by decide) rfl (fun ls hl => ?_)
      refine lv_lconst (v := 0) hx hb dX12_rootOf_54 (by decide) ?_
      refine lv_lstore (lv' := [(10, .long (0 : Int64)), (8, .long (0 : Int64)), (6, .long v9), (5, .int v10)]) hx hb dX12_rootOf_55 hl (by decide) rfl (fun ls hl => ?_)
      refine lv_bipush (v := 53) hx hb dX12_rootOf_57 (by decide) ?_
      refine lv_istore (lv' := [(12, .int (53 : Int32)), (10, .long (0 : Int64)), (8, .long (0 : Int64)), (6, .long v9), (5, .int v10)]) hx hb dX12_rootOf_59 hl (by decide) rfl (fun ls hl => ?_)
      refine lp_ind (fun q : (Int32 × Int64 × Int64) => ∀ (H : Heap) (locs : List Loc), SM E s st H locs → ∀ ls : Array Slot, lv_has ls 15 [(12, .int (q.1)), (10, .long (q.2.1)), (8, .long (q.2.2)), (6, .long v9), (5, .int v10)] → W p l e (headSpec wsX12_rootOf ({ frames := 2, cells := 0, slots := 0, locals := 44 })).room s m ([.ref (E.2.2.1 0 (0)), .double a1] : List Value).toArray below meth c H locs 0 0 (MQ below (QM E (some (.double r)) st) ([.ref (E.2.2.1 0 (0)), .double a1] : List Value).toArray s 0 0 E.2.2.2) (F0 m 61 ls [])) (fun q o13 h hB12 hX11 => ?_) _ _ h _ _ hw _ (lv_sub hl [0, 1, 2, 3, 4] rfl)
      intro H locs hw ls hl
      obtain ⟨v14, v15, v16⟩ := q
      have h := un3_d h
      have hl : lv_has ls 15 [(12, .int v14), (10, .long v15), (8, .long v16), (6, .long v9), (5, .int v10)] := hl
      refine lv_iload hx hb dX12_rootOf_61 (lv_at hl 0 rfl) ?_
      refine lv_if_lt (tgt := 142) hx hb dX12_rootOf_63 (by decide) (fun hc19 => ?_) (fun hc19 => ?_)
      · have h := ifp h hc19
        have h := hX11 _ (Option.some.inj h).symm
        have h := un2_d h
        have hl := lv_sub hl (l' := [(8, .long v16), (10, .long v15), (5, .int v10)]) [2, 1, 4] rfl
        refine lv_lload hx hb dX12_rootOf_142 (lv_at hl 0 rfl) ?_
        refine lv_lconst (v := 1) hx hb dX12_rootOf_144 (by decide) ?_
        refine lv_land hx hb dX12_rootOf_145 ?_
        refine lv_lconst (v := 1) hx hb dX12_rootOf_146 (by decide) ?_
        refine W.lcmp hx hb dX12_rootOf_147 ?_
        refine jn_c h (fun K20 hK22 h => ?_)
        have HJ21 : ∀ (_u : Unit), K20 _u = some r → ∀ (H : Heap) (locs : List Loc), SM E s st H locs → ∀ ls : Array Slot, lv_has ls 15 [(8, .long v16), (5, .int v10)] → W p l e (headSpec wsX12_rootOf ({ frames := 2, cells := 0, slots := 0, locals := 44 })).room s m ([.ref (E.2.2.1 0 (0)), .double a1] : List Value).toArray below meth c H locs 0 0 (MQ below (QM E (some (.double r)) st) ([.ref (E.2.2.1 0 (0)), .double a1] : List Value).toArray s 0 0 E.2.2.2) (F0 m 175 ls []) := by
          intro _u h H locs hw ls hl
          have h := kk1 h hK22
          refine lv_iconst (v := 0) hx hb dX12_rootOf_175 (by decide) ?_
          refine lv_istore (lv' := [(12, .int (0 : Int32)), (8, .long v16), (5, .int v10)]) hx hb dX12_rootOf_176 hl (by decide) rfl (fun ls hl => ?_)
          refine lv_lload hx hb dX12_rootOf_178 (lv_at hl 1 rfl) ?_
          refine lv_iconst (v := 1) hx hb dX12_rootOf_180 (by decide) ?_
          refine lv_lshr hx hb dX12_rootOf_181 rfl ?_
          refine lv_iload hx hb dX12_rootOf_182 (lv_at hl 0 rfl) ?_
          refine jn_c h (fun K23 hK25 h => ?_)
          have HJ24 : ∀ (v26 : Int64), K23 v26 = some r → ∀ (H : Heap) (locs : List Loc), SM E s st H locs → ∀ ls : Array Slot, lv_has ls 15 [(5, .int v10)] → W p l e (headSpec wsX12_rootOf ({ frames := 2, cells := 0, slots := 0, locals := 44 })).room s m ([.ref (E.2.2.1 0 (0)), .double a1] : List Value).toArray below meth c H locs 0 0 (MQ below (QM E (some (.double r)) st) ([.ref (E.2.2.1 0 (0)), .double a1] : List Value).toArray s 0 0 E.2.2.2) (F0 m 192 ls [.long v26, .long (v16 >>> ((1 : Int32).toInt64 &&& 63))]) := by
            intro v26 h H locs hw ls hl
            have h := kk1 h hK25
            refine lv_ladd hx hb dX12_rootOf_192 ?_
            refine x_topl h (fun v27 h => ?_)
            refine lv_lstore (lv' := [(13, .long v27), (5, .int v10)]) hx hb dX12_rootOf_193 hl (by decide) rfl (fun ls hl => ?_)
            refine lv_lload hx hb dX12_rootOf_195 (lv_at hl 0 rfl) ?_
            refine lv_l2d hx hb dX12_rootOf_197 ?_
            refine lv_iload hx hb dX12_rootOf_198 (lv_at hl 1 rfl) ?_
            refine lv_bipush (v := 54) hx hb dX12_rootOf_200 (by decide) ?_
            refine lv_isub hx hb dX12_rootOf_202 ?_
            refine lv_iconst (v := 2) hx hb dX12_rootOf_203 (by decide) ?_
            refine x_idiv hx hb h dX12_rootOf_204 (fun h => ?_)
            refine lv_iconst (v := 1) hx hb dX12_rootOf_205 (by decide) ?_
            refine lv_iadd hx hb dX12_rootOf_206 ?_
            refine lv_sipush (v := 1023) hx hb dX12_rootOf_207 (by decide) ?_
            refine lv_iadd hx hb dX12_rootOf_210 ?_
            refine lv_i2l hx hb dX12_rootOf_211 rfl ?_
            refine lv_bipush (v := 52) hx hb dX12_rootOf_212 (by decide) ?_
            refine lv_lshl hx hb dX12_rootOf_214 rfl ?_
            obtain ⟨hg, h⟩ := ck_c h
            refine vn_l2d hx hb (hml.trans hl.1.symm) hown (C0.1.2.2.2.2 _ (List.mem_cons_of_mem _ (List.mem_of_getElem? (i := 4) rfl))) (C0.1.2.2.2.2 _ (List.mem_cons_of_mem _ (List.mem_of_getElem? (i := 5) rfl))) (C0.1.2.2.2.2 _ (List.mem_cons_of_mem _ (List.mem_of_getElem? (i := 6) rfl))) (C0.1.2.2.2.2 _ (List.mem_cons_of_mem _ (List.mem_of_getElem? (i := 7) rfl))) hg (Nat.le_of_ble_eq_true rfl) (Nat.le_of_ble_eq_true rfl) dX12_rootOf_215 ?_
            refine x_dmul hx hb h dX12_rootOf_218 (fun v28 h => ?_)
            cases h
            exact W.dret hx hb hr (M_fin C0 hw) hw.2.2.2 dX12_rootOf_219 hlocks
          refine lv_if_eq (tgt := 191) hx hb dX12_rootOf_184 (by decide) (fun hc29 => ?_) (fun hc29 => ?_)
          · have h := ifp h hc29
            refine lv_lconst (v := 0) hx hb dX12_rootOf_191 (by decide) ?_
            exact HJ24 _ h _ _ hw _ (lv_sub hl [2] rfl)
          · have h := ifn h hc29
            refine lv_lconst (v := 1) hx hb dX12_rootOf_187 (by decide) ?_
            refine lv_goto (tgt := 192) hx hb dX12_rootOf_188 (by decide) ?_
            exact HJ24 _ h _ _ hw _ (lv_sub hl [2] rfl)
        refine lv_if_ne (tgt := 175) hx hb dX12_rootOf_148 (by decide) (fun hc30 => ?_) (fun hc30 => ?_)
        · have h := ifn h hc30
          exact HJ21 _ h _ _ hw _ (lv_sub hl [0, 2] rfl)
        · have h := ifp h hc30
          refine lv_lload hx hb dX12_rootOf_151 (lv_at hl 1 rfl) ?_
          refine lv_lconst (v := 0) hx hb dX12_rootOf_153 (by decide) ?_
          refine W.lcmp hx hb dX12_rootOf_154 ?_
          refine jn_c h (fun K31 hK33 h => ?_)
          have HJ32 : ∀ (_u : Unit), K31 _u = some r → ∀ (H : Heap) (locs : List Loc), SM E s st H locs → ∀ ls : Array Slot, lv_has ls 15 [(8, .long v16), (5, .int v10)] → W p l e (headSpec wsX12_rootOf ({ frames := 2, cells := 0, slots := 0, locals := 44 })).room s m ([.ref (E.2.2.1 0 (0)), .double a1] : List Value).toArray below meth c H locs 0 0 (MQ below (QM E (some (.double r)) st) ([.ref (E.2.2.1 0 (0)), .double a1] : List Value).toArray s 0 0 E.2.2.2) (F0 m 171 ls []) := by
            intro _u h H locs hw ls hl
            have h := kk1 h hK33
            refine lv_iconst (v := 1) hx hb dX12_rootOf_171 (by decide) ?_
            refine lv_goto (tgt := 176) hx hb dX12_rootOf_172 (by decide) ?_
            refine lv_istore (lv' := [(12, .int (1 : Int32)), (8, .long v16), (5, .int v10)]) hx hb dX12_rootOf_176 hl (by decide) rfl (fun ls hl => ?_)
            refine lv_lload hx hb dX12_rootOf_178 (lv_at hl 1 rfl) ?_
            refine lv_iconst (v := 1) hx hb dX12_rootOf_180 (by decide) ?_
            refine lv_lshr hx hb dX12_rootOf_181 rfl ?_
            refine lv_iload hx hb dX12_rootOf_182 (lv_at hl 0 rfl) ?_
            refine jn_c h (fun K34 hK36 h => ?_)
            have HJ35 : ∀ (v37 : Int64), K34 v37 = some r → ∀ (H : Heap) (locs : List Loc), SM E s st H locs → ∀ ls : Array Slot, lv_has ls 15 [(5, .int v10)] → W p l e (headSpec wsX12_rootOf ({ frames := 2, cells := 0, slots := 0, locals := 44 })).room s m ([.ref (E.2.2.1 0 (0)), .double a1] : List Value).toArray below meth c H locs 0 0 (MQ below (QM E (some (.double r)) st) ([.ref (E.2.2.1 0 (0)), .double a1] : List Value).toArray s 0 0 E.2.2.2) (F0 m 192 ls [.long v37, .long (v16 >>> ((1 : Int32).toInt64 &&& 63))]) := by
              intro v37 h H locs hw ls hl
              have h := kk1 h hK36
              refine lv_ladd hx hb dX12_rootOf_192 ?_
              refine x_topl h (fun v38 h => ?_)
              refine lv_lstore (lv' := [(13, .long v38), (5, .int v10)]) hx hb dX12_rootOf_193 hl (by decide) rfl (fun ls hl => ?_)
              refine lv_lload hx hb dX12_rootOf_195 (lv_at hl 0 rfl) ?_
              refine lv_l2d hx hb dX12_rootOf_197 ?_
              refine lv_iload hx hb dX12_rootOf_198 (lv_at hl 1 rfl) ?_
              refine lv_bipush (v := 54) hx hb dX12_rootOf_200 (by decide) ?_
              refine lv_isub hx hb dX12_rootOf_202 ?_
              refine lv_iconst (v := 2) hx hb dX12_rootOf_203 (by decide) ?_
              refine x_idiv hx hb h dX12_rootOf_204 (fun h => ?_)
              refine lv_iconst (v := 1) hx hb dX12_rootOf_205 (by decide) ?_
              refine lv_iadd hx hb dX12_rootOf_206 ?_
              refine lv_sipush (v := 1023) hx hb dX12_rootOf_207 (by decide) ?_
              refine lv_iadd hx hb dX12_rootOf_210 ?_
              refine lv_i2l hx hb dX12_rootOf_211 rfl ?_
              refine lv_bipush (v := 52) hx hb dX12_rootOf_212 (by decide) ?_
              refine lv_lshl hx hb dX12_rootOf_214 rfl ?_
              obtain ⟨hg, h⟩ := ck_c h
              refine vn_l2d hx hb (hml.trans hl.1.symm) hown (C0.1.2.2.2.2 _ (List.mem_cons_of_mem _ (List.mem_of_getElem? (i := 4) rfl))) (C0.1.2.2.2.2 _ (List.mem_cons_of_mem _ (List.mem_of_getElem? (i := 5) rfl))) (C0.1.2.2.2.2 _ (List.mem_cons_of_mem _ (List.mem_of_getElem? (i := 6) rfl))) (C0.1.2.2.2.2 _ (List.mem_cons_of_mem _ (List.mem_of_getElem? (i := 7) rfl))) hg (Nat.le_of_ble_eq_true rfl) (Nat.le_of_ble_eq_true rfl) dX12_rootOf_215 ?_
              refine x_dmul hx hb h dX12_rootOf_218 (fun v39 h => ?_)
              cases h
              exact W.dret hx hb hr (M_fin C0 hw) hw.2.2.2 dX12_rootOf_219 hlocks
            refine lv_if_eq (tgt := 191) hx hb dX12_rootOf_184 (by decide) (fun hc40 => ?_) (fun hc40 => ?_)
            · have h := ifp h hc40
              refine lv_lconst (v := 0) hx hb dX12_rootOf_191 (by decide) ?_
              exact HJ35 _ h _ _ hw _ (lv_sub hl [2] rfl)
            · have h := ifn h hc40
              refine lv_lconst (v := 1) hx hb dX12_rootOf_187 (by decide) ?_
              refine lv_goto (tgt := 192) hx hb dX12_rootOf_188 (by decide) ?_
              exact HJ35 _ h _ _ hw _ (lv_sub hl [2] rfl)
          refine lv_if_ne (tgt := 171) hx hb dX12_rootOf_155 (by decide) (fun hc41 => ?_) (fun hc41 => ?_)
          · have h := ifn h hc41
            exact HJ32 _ h _ _ hw _ (lv_sub hl [0, 2] rfl)
          · have h := ifp h hc41
            refine lv_lload hx hb dX12_rootOf_158 (lv_at hl 0 rfl) ?_
            refine lv_ldc2 hx hb hown (C0.1.2.2.2.2 _ (List.mem_cons_of_mem _ (List.mem_of_getElem? (i := 3) rfl))) dX12_rootOf_160 ?_
            refine lv_land hx hb dX12_rootOf_163 ?_
            refine lv_ldc2 hx hb hown (C0.1.2.2.2.2 _ (List.mem_cons_of_mem _ (List.mem_of_getElem? (i := 3) rfl))) dX12_rootOf_164 ?_
            refine W.lcmp hx hb dX12_rootOf_167 ?_
            refine lv_if_ne (tgt := 175) hx hb dX12_rootOf_168 (by decide) (fun hc42 => ?_) (fun hc42 => ?_)
            · have h := ifn h hc42
              exact HJ21 _ h _ _ hw _ (lv_sub hl [0, 2] rfl)
            · have h := ifp h hc42
              exact HJ32 _ h _ _ hw _ (lv_sub hl [0, 2] rfl)
      · have h := ifn h hc19
        refine lv_lload hx hb dX12_rootOf_66 (lv_at hl 1 rfl) ?_
        refine lv_iconst (v := 2) hx hb dX12_rootOf_68 (by decide) ?_
        refine lv_lshl hx hb dX12_rootOf_69 rfl ?_
        refine lv_iload hx hb dX12_rootOf_70 (lv_at hl 0 rfl) ?_
        refine lv_bipush (v := 27) hx hb dX12_rootOf_72 (by decide) ?_
        refine jn_c h (fun K43 hK45 h => ?_)
        have HJ44 : ∀ (v46 : Int64), K43 v46 = some o13 → ∀ (H : Heap) (locs : List Loc), SM E s st H locs → ∀ ls : Array Slot, lv_has ls 15 [(12, .int v14), (8, .long v16), (6, .long v9), (5, .int v10)] → W p l e (headSpec wsX12_rootOf ({ frames := 2, cells := 0, slots := 0, locals := 44 })).room s m ([.ref (E.2.2.1 0 (0)), .double a1] : List Value).toArray below meth c H locs 0 0 (MQ below (QM E (some (.double r)) st) ([.ref (E.2.2.1 0 (0)), .double a1] : List Value).toArray s 0 0 E.2.2.2) (F0 m 95 ls [.long v46, .long (v15 <<< ((2 : Int32).toInt64 &&& 63))]) := by
          intro v46 h H locs hw ls hl
          have h := kk1 h hK45
          refine lv_lor hx hb dX12_rootOf_95 ?_
          refine x_topl h (fun v47 h => ?_)
          refine lv_lstore (lv' := [(10, .long v47), (12, .int v14), (8, .long v16), (6, .long v9), (5, .int v10)]) hx hb dX12_rootOf_96 hl (by decide) rfl (fun ls hl => ?_)
          refine lv_lload hx hb dX12_rootOf_98 (lv_at hl 2 rfl) ?_
          refine lv_iconst (v := 2) hx hb dX12_rootOf_100 (by decide) ?_
          refine lv_lshl hx hb dX12_rootOf_101 rfl ?_
          refine lv_lconst (v := 1) hx hb dX12_rootOf_102 (by decide) ?_
          refine lv_lor hx hb dX12_rootOf_103 ?_
          refine x_topl h (fun v48 h => ?_)
          refine lv_lstore (lv' := [(13, .long v48), (10, .long v47), (12, .int v14), (8, .long v16), (6, .long v9), (5, .int v10)]) hx hb dX12_rootOf_104 hl (by decide) rfl (fun ls hl => ?_)
          refine lv_lload hx hb dX12_rootOf_106 (lv_at hl 3 rfl) ?_
          refine lv_iconst (v := 1) hx hb dX12_rootOf_108 (by decide) ?_
          refine lv_lshl hx hb dX12_rootOf_109 rfl ?_
          refine x_topl h (fun v49 h => ?_)
          refine lv_lstore (lv' := [(8, .long v49), (13, .long v48), (10, .long v47), (12, .int v14), (6, .long v9), (5, .int v10)]) hx hb dX12_rootOf_110 hl (by decide) rfl (fun ls hl => ?_)
          refine lv_lload hx hb dX12_rootOf_112 (lv_at hl 2 rfl) ?_
          refine lv_lload hx hb dX12_rootOf_114 (lv_at hl 1 rfl) ?_
          refine W.lcmp hx hb dX12_rootOf_116 ?_
          refine lv_if_ge (tgt := 123) hx hb dX12_rootOf_117 (by decide) (fun hc50 => ?_) (fun hc50 => ?_)
          · have h := ifp h hc50
            refine lv_lload hx hb dX12_rootOf_123 (lv_at hl 2 rfl) ?_
            refine lv_lload hx hb dX12_rootOf_125 (lv_at hl 1 rfl) ?_
            refine lv_lsub hx hb dX12_rootOf_127 ?_
            refine x_topl h (fun v51 h => ?_)
            refine lv_lstore (lv' := [(10, .long v51), (8, .long v49), (13, .long v48), (12, .int v14), (6, .long v9), (5, .int v10)]) hx hb dX12_rootOf_128 hl (by decide) rfl (fun ls hl => ?_)
            refine lv_lload hx hb dX12_rootOf_130 (lv_at hl 1 rfl) ?_
            refine lv_lconst (v := 1) hx hb dX12_rootOf_132 (by decide) ?_
            refine lv_lor hx hb dX12_rootOf_133 ?_
            refine x_topl h (fun v52 h => ?_)
            refine lv_lstore (lv' := [(8, .long v52), (10, .long v51), (13, .long v48), (12, .int v14), (6, .long v9), (5, .int v10)]) hx hb dX12_rootOf_134 hl (by decide) rfl (fun ls hl => ?_)
            refine x_iinc hx hb h dX12_rootOf_136 hl (q := 3) rfl (fun v53 => [(12, .int v53), (8, .long v52), (10, .long v51), (13, .long v48), (6, .long v9), (5, .int v10)]) (by decide) (fun _ => rfl) (fun v53 ls hl h => ?_)
            refine lv_goto (tgt := 61) hx hb dX12_rootOf_139 (by decide) ?_
            exact hB12 _ (Option.some.inj h).symm _ _ hw _ (lv_sub hl [0, 2, 1, 4, 5] rfl)
          · have h := ifn h hc50
            refine lv_goto (tgt := 136) hx hb dX12_rootOf_120 (by decide) ?_
            refine x_iinc hx hb h dX12_rootOf_136 hl (q := 3) rfl (fun v54 => [(12, .int v54), (8, .long v49), (13, .long v48), (10, .long v47), (6, .long v9), (5, .int v10)]) (by decide) (fun _ => rfl) (fun v54 ls hl h => ?_)
            refine lv_goto (tgt := 61) hx hb dX12_rootOf_139 (by decide) ?_
            exact hB12 _ (Option.some.inj h).symm _ _ hw _ (lv_sub hl [0, 3, 1, 4, 5] rfl)
        refine lv_icmp_lt (tgt := 94) hx hb dX12_rootOf_74 (by decide) (fun hc55 => ?_) (fun hc55 => ?_)
        · have h := ifp h hc55
          refine lv_lconst (v := 0) hx hb dX12_rootOf_94 (by decide) ?_
          exact HJ44 _ h _ _ hw _ (lv_sub hl [0, 2, 3, 4] rfl)
        · have h := ifn h hc55
          refine lv_lload hx hb dX12_rootOf_77 (lv_at hl 3 rfl) ?_
          refine lv_iconst (v := 2) hx hb dX12_rootOf_79 (by decide) ?_
          refine lv_iload hx hb dX12_rootOf_80 (lv_at hl 0 rfl) ?_
          refine lv_bipush (v := 27) hx hb dX12_rootOf_82 (by decide) ?_
          refine lv_isub hx hb dX12_rootOf_84 ?_
          refine lv_imul hx hb dX12_rootOf_85 ?_
          refine lv_lshr hx hb dX12_rootOf_86 rfl ?_
          refine lv_ldc2 hx hb hown (C0.1.2.2.2.2 _ (List.mem_cons_of_mem _ (List.mem_of_getElem? (i := 2) rfl))) dX12_rootOf_87 ?_
          refine lv_land hx hb dX12_rootOf_90 ?_
          refine lv_goto (tgt := 95) hx hb dX12_rootOf_91 (by decide) ?_
          exact HJ44 _ h _ _ hw _ (lv_sub hl [0, 2, 3, 4] rfl)
    refine lv_if_eq (tgt := 51) hx hb dX12_rootOf_39 (by decide) (fun hc79 => ?_) (fun hc79 => ?_)
    · have h := ifp h hc79
      exact HJ7 _ _ h _ _ hw _ (lv_sub hl [0, 1] rfl)
    · have h := ifn h hc79
      refine lv_lload hx hb dX12_rootOf_42 (lv_at hl 0 rfl) ?_
      refine lv_iconst (v := 1) hx hb dX12_rootOf_44 (by decide) ?_
      refine lv_lshl hx hb dX12_rootOf_45 rfl ?_
      refine x_topl h (fun v80 h => ?_)
      refine lv_lstore (lv' := [(6, .long v80), (5, .int v4), (3, .long v2), (0, .ref (E.2.2.1 0 (0))), (1, .double a1)]) hx hb dX12_rootOf_46 hl (by decide) rfl (fun ls hl => ?_)
      refine x_iinc hx hb h dX12_rootOf_48 hl (q := 1) rfl (fun v81 => [(5, .int v81), (6, .long v80), (3, .long v2), (0, .ref (E.2.2.1 0 (0))), (1, .double a1)]) (by decide) (fun _ => rfl) (fun v81 ls hl h => ?_)
      exact HJ7 _ _ h _ _ hw _ (lv_sub hl [1, 0] rfl)
  · have h := ifp h hc1
    refine lv_dconst0 hx hb dX12_rootOf_6 ?_
    cases h
    exact W.dret hx hb hr (M_fin C0 hw) hw.2.2.2 dX12_rootOf_7 hlocks

def fX12_bandOf (a1 : UInt64) : Option UInt32 :=
  nd (FP.dadd FP.dconst1 a1) fun (v1 : UInt64) =>
  nd (FP.dmul a1 a1) fun (v2 : UInt64) =>
  nd (FP.dmul (4611686018427387904 : UInt64) a1) fun (v3 : UInt64) =>
  nd (FP.dadd v2 v3) fun (v4 : UInt64) =>
  (fX12_rootOf v4).bind (fun (v5 : UInt64) =>
   nd (FP.dsub v1 v5) fun (v7 : UInt64) =>
   if 0 ≤ Op.cmpValue (FP.dcmp v7 FP.dconst0) CmpOp.g then (
    nf (FP.d2f v7) fun (v9 : UInt32) =>
    some v9) else (
    some FP.fconst0))
set_option maxHeartbeats 4000000 in
set_option maxRecDepth 100000 in
theorem mX12_bandOf (l : Launch) (E : XE) (hL : LM E) (st : Sto) {a1 : UInt64} {r : UInt32} (h : fX12_bandOf a1 = some r) : Met l yX12_bandOf wsX12_bandOf ({ frames := 3, cells := 0, slots := 0, locals := 78 }) (va_Pc [.ref (E.2.2.1 0 (0)), .double a1] (RM E st)) (QM E (some (.float r)) st) 0 0 E.2.2.2 := by
  refine Met.ofW (cc := cX12_bandOf) (maxL := 5) (ret := (some .float)) (by decide) rfl ?_
  intro p e s m args below meth c s₁ B hml hv
  obtain ⟨rfl, hP, hK⟩ := hv
  have hown : s.vm.findClass RX12 = some m.cls := findClass_of_methodNamed B.named
  have C0 : CX p m c cX12_bandOf 5 s _ wsX12_bandOf RX12 E := ⟨⟨B.exec, B.bytes, hml, hown, atoms_spec (ws := wsX12_bandOf) B.pre⟩, hK⟩
  have hx := B.exec
  have hb := B.bytes
  have hr := B.returns
  have hlocks := B.notSynchronized
  have hw : SM E s st s.heap [] := ⟨hP, va_S.rf⟩
  have hl := lv_entry ([.ref (E.2.2.1 0 (0)), .double a1]) (n := 5) (Nat.le_of_ble_eq_true rfl)
  rw [lg_entry_eq]
  generalize (lg_sl ([.ref (E.2.2.1 0 (0)), .double a1]) ++ List.replicate (5 - (lg_sl ([.ref (E.2.2.1 0 (0)), .double a1])).length) Slot.unset).toArray = ls at hl ⊢
  have hl : lv_has ls 5 [(0, .ref (E.2.2.1 0 (0))), (1, .double a1)] := hl
  unfold fX12_bandOf at h
  refine lv_dconst1 hx hb dX12_bandOf_0 ?_
  refine lv_dload_n hx hb dX12_bandOf_1 rfl (lv_at hl 1 rfl) ?_
  refine x_dadd hx hb h dX12_bandOf_2 (fun v1 h => ?_)
  refine lv_aload_n hx hb dX12_bandOf_3 rfl (lv_at hl 0 rfl) ?_
  refine lv_dload_n hx hb dX12_bandOf_4 rfl (lv_at hl 1 rfl) ?_
  refine lv_dload_n hx hb dX12_bandOf_5 rfl (lv_at hl 1 rfl) ?_
  refine x_dmul hx hb h dX12_bandOf_6 (fun v2 h => ?_)
  refine lv_ldc2d hx hb hown (C0.1.2.2.2.2 _ (List.mem_cons_of_mem _ (List.mem_append_left _ (List.mem_of_getElem? (i := 0) rfl)))) dX12_bandOf_7 ?_
  refine lv_dload_n hx hb dX12_bandOf_10 rfl (lv_at hl 1 rfl) ?_
  refine x_dmul hx hb h dX12_bandOf_11 (fun v3 h => ?_)
  refine x_dadd hx hb h dX12_bandOf_12 (fun v4 h => ?_)
  obtain ⟨v5, hf6, h⟩ := bn_c h
  refine M_callV C0 hw (As := [.double v4]) (rest := [.double v1]) (mX12_rootOf l E hL st hf6) (cwV 1 C0.1.2.2.2.2 gX12_bandOf_X12_rootOf rfl rfl rfl (by decide +kernel) ⟨Nat.le_of_ble_eq_true rfl, Nat.le_of_ble_eq_true rfl⟩) (M_recv_0 C0 hw (by decide)) rfl hl.1 rfl (Nat.le_of_ble_eq_true rfl) dX12_bandOf_13 ⟨Nat.zero_le _, Nat.zero_le _⟩ (fun H locs hw => ?_)
  refine W.eq (g2 := F0 m 16 ls [.double v5, .double v1]) rfl ?_
  refine x_dsub hx hb h dX12_bandOf_16 (fun v7 h => ?_)
  refine lv_dstore_n (lv' := [(3, .double v7), (0, .ref (E.2.2.1 0 (0))), (1, .double a1)]) hx hb dX12_bandOf_17 rfl hl (by decide) rfl (fun ls hl => ?_)
  refine lv_dload_n hx hb dX12_bandOf_18 rfl (lv_at hl 0 rfl) ?_
  refine lv_dconst0 hx hb dX12_bandOf_19 ?_
  refine lv_dcmp hx hb dX12_bandOf_20 ?_
  refine lv_if_ge (tgt := 28) hx hb dX12_bandOf_21 (by decide) (fun hc8 => ?_) (fun hc8 => ?_)
  · have h := ifp h hc8
    refine lv_dload_n hx hb dX12_bandOf_28 rfl (lv_at hl 0 rfl) ?_
    refine x_d2f hx hb h dX12_bandOf_29 (fun v9 h => ?_)
    cases h
    exact W.fret hx hb hr (M_fin C0 hw) hw.2.2.2 dX12_bandOf_30 hlocks
  · have h := ifn h hc8
    refine lv_fconst0 hx hb dX12_bandOf_24 ?_
    refine lv_goto (tgt := 30) hx hb dX12_bandOf_25 (by decide) ?_
    cases h
    exact W.fret hx hb hr (M_fin C0 hw) hw.2.2.2 dX12_bandOf_30 hlocks

def fX12_predict (a1 : Int32) (st : Sto) : Option (Int32 × Sto) :=
  lt1 (sI st 0 (0) 10 (0 : Int32)) fun (t1 : Sto) =>
  (fX12_is a1 (gI t1 0 (0) 3)).bind (fun (v2 : Int32) =>
   if v2 = 0 then (
    (fX12_not (2 : Int32) t1).bind (un2 fun (v48 : Int32) (t49 : Sto) =>
     ck (v48 &&& 1 = v48) (
      some (v48, t49)))) else (
    ((lp (σ := (Int32 × Sto)) (ρ := Sto) (un2 fun (v8 : Int32) (t9 : Sto) =>
       if (16 : Int32) ≤ v8 then (
        some (.inr t9)) else (
        ck (0 ≤ (((16 : Int32) * ((41 : Int32) + a1)) + v8).toInt ∧ (((16 : Int32) * ((41 : Int32) + a1)) + v8).toInt < (lFM (1) (0) : Int)) (
         (fX12_quotient (gF t9 (1) (0) ((((16 : Int32) * ((41 : Int32) + a1)) + v8).toNatClampNeg))).bind (fun (v15 : UInt64) =>
          ((lp (σ := (Int32 × UInt64)) (ρ := UInt64) (un2 fun (v20 : Int32) (v21 : UInt64) =>
             if gI t9 0 (0) 8 ≤ v20 then (
              some (.inr v21)) else (
              ck (0 ≤ v20.toInt ∧ v20.toInt < (lZM (32) (0) : Int)) (
               if gI t9 (32) (0) (v20.toNatClampNeg) = 0 then (
                ck (0 ≤ v20.toInt ∧ v20.toInt < (lIM (30) (0) : Int)) (
                 if gI t9 0 (0) 4 ≤ gI t9 (30) (0) (v20.toNatClampNeg) then (
                  lt1 (v20 + Int32.ofInt (1)) fun (v30 : Int32) =>
                  some (.inl (v30, v21))) else (
                  ck (0 ≤ v20.toInt ∧ v20.toInt < (lIM (30) (0) : Int)) (
                   ck (0 ≤ v20.toInt ∧ v20.toInt < (lIM (31) (0) : Int)) (
                    (fX12_dyeAt (gI t9 (30) (0) (v20.toNatClampNeg)) (FP.i2d (gI t9 (31) (0) (v20.toNatClampNeg))) v8 t9).bind (fun (v31 : UInt64) =>
                     nd (FP.dadd v21 v31) fun (v33 : UInt64) =>
                     lt1 (v20 + Int32.ofInt (1)) fun (v34 : Int32) =>
                     some (.inl (v34, v33)))))))) else (
                ck (0 ≤ v20.toInt ∧ v20.toInt < (lIM (30) (0) : Int)) (
                 if gI t9 0 (0) 6 ≤ gI t9 (30) (0) (v20.toNatClampNeg) then (
                  lt1 (v20 + Int32.ofInt (1)) fun (v36 : Int32) =>
                  some (.inl (v36, v21))) else (
                  ck (0 ≤ v20.toInt ∧ v20.toInt < (lIM (30) (0) : Int)) (
                   ck (0 ≤ v20.toInt ∧ v20.toInt < (lIM (31) (0) : Int)) (
                    (fX12_lotAt (gI t9 (30) (0) (v20.toNatClampNeg)) (FP.i2d (gI t9 (31) (0) (v20.toNatClampNeg))) v8 t9).bind (fun (v37 : UInt64) =>
                     nd (FP.dadd v21 v37) fun (v39 : UInt64) =>
                     lt1 (v20 + Int32.ofInt (1)) fun (v40 : Int32) =>
                     some (.inl (v40, v39))))))))))) 4000 ((0 : Int32), v15)).bind
           (fun (v22 : UInt64) =>
            (fX12_bandOf v22).bind (fun (v41 : UInt32) =>
             ck (0 ≤ ((784 : Int32) + v8).toInt ∧ ((784 : Int32) + v8).toInt < (lFM (1) (0) : Int)) (lt1 (sF t9 (1) (0) (((784 : Int32) + v8).toNatClampNeg) v41) fun (t43 : Sto) =>
              lt1 (v8 + Int32.ofInt (1)) fun (v44 : Int32) =>
              some (.inl (v44, t43)))))))))) 4000 ((0 : Int32), t1)).bind
     (fun (t10 : Sto) =>
      lt1 (sI t10 0 (0) 8 (0 : Int32)) fun (t45 : Sto) =>
      lt1 (sI t45 0 (0) 32 (1 : Int32)) fun (t46 : Sto) =>
      lt1 (sI t46 0 (0) 9 (0 : Int32)) fun (t47 : Sto) =>
      some ((1 : Int32), t47)))))
set_option maxHeartbeats 4000000 in
set_option maxRecDepth 100000 in
theorem mX12_predict (l : Launch) (E : XE) (hL : LM E) (st : Sto) {a1 : Int32} {r : Int32} {st1 : Sto} (h : fX12_predict a1 st = some (r, st1)) : Met l yX12_predict wsX12_predict ({ frames := 4, cells := 0, slots := 0, locals := 106 }) (va_Pc [.ref (E.2.2.1 0 (0)), .int a1] (RM E st)) (QM E (some (.int r)) st1) 0 0 E.2.2.2 := by
  refine Met.ofW (cc := cX12_predict) (maxL := 6) (ret := (some .boolean)) (by decide) rfl ?_
  intro p e s m args below meth c s₁ B hml hv
  obtain ⟨rfl, hP, hK⟩ := hv
  have hown : s.vm.findClass RX12 = some m.cls := findClass_of_methodNamed B.named
  have C0 : CX p m c cX12_predict 6 s _ wsX12_predict RX12 E := ⟨⟨B.exec, B.bytes, hml, hown, atoms_spec (ws := wsX12_predict) B.pre⟩, hK⟩
  have hx := B.exec
  have hb := B.bytes
  have hr := B.returns
  have hlocks := B.notSynchronized
  have hw : SM E s st s.heap [] := ⟨hP, va_S.rf⟩
  have hl := lv_entry ([.ref (E.2.2.1 0 (0)), .int a1]) (n := 6) (Nat.le_of_ble_eq_true rfl)
  rw [lg_entry_eq]
  generalize (lg_sl ([.ref (E.2.2.1 0 (0)), .int a1]) ++ List.replicate (6 - (lg_sl ([.ref (E.2.2.1 0 (0)), .int a1])).length) Slot.unset).toArray = ls at hl ⊢
  have hl : lv_has ls 6 [(0, .ref (E.2.2.1 0 (0))), (1, .int a1)] := hl
  unfold fX12_predict at h
  refine lv_aload_n hx hb dX12_predict_0 rfl (lv_at hl 0 rfl) ?_
  refine lv_iconst (v := 0) hx hb dX12_predict_1 (by decide) ?_
  refine M_p0_10 hL C0 hw (fun w h => (List.mem_cons_of_mem _ (List.mem_append_right _ h))) (by decide) h ((List.mem_cons_of_mem _ (List.mem_append_left _ (List.mem_append_left _ (List.mem_of_getElem? (i := 0) rfl))))) dX12_predict_2 (fun t1 H locs hw h => ?_)
  refine lv_aload_n hx hb dX12_predict_5 rfl (lv_at hl 0 rfl) ?_
  refine lv_iload_n hx hb dX12_predict_6 rfl (lv_at hl 1 rfl) ?_
  refine lv_aload_n hx hb dX12_predict_7 rfl (lv_at hl 0 rfl) ?_
  refine M_g0_3 C0 hw (fun w h => (List.mem_cons_of_mem _ (List.mem_append_right _ h))) (by decide) ((List.mem_cons_of_mem _ (List.mem_append_left _ (List.mem_append_left _ (List.mem_of_getElem? (i := 1) rfl))))) dX12_predict_8 ?_
  obtain ⟨v2, hf3, h⟩ := bn_c h
  refine M_callV C0 hw (As := [.int a1, .int (gI t1 0 (0) 3)]) (rest := []) (mX12_is l E hL t1 hf3) (cwV 2 C0.1.2.2.2.2 gX12_predict_X12_is rfl rfl rfl (by decide +kernel) ⟨Nat.le_of_ble_eq_true rfl, Nat.le_of_ble_eq_true rfl⟩) (M_recv_0 C0 hw (by decide)) rfl hl.1 rfl (Nat.le_of_ble_eq_true rfl) dX12_predict_11 ⟨Nat.zero_le _, Nat.zero_le _⟩ (fun H locs hw => ?_)
  refine W.eq (g2 := F0 m 14 ls [.int v2]) rfl ?_
  refine lv_if_ne (tgt := 23) hx hb dX12_predict_14 (by decide) (fun hc4 => ?_) (fun hc4 => ?_)
  · have h := ifn h hc4
    refine lv_iconst (v := 0) hx hb dX12_predict_23 (by decide) ?_
    refine lv_istore_n (lv' := [(2, .int (0 : Int32)), (0, .ref (E.2.2.1 0 (0))), (1, .int a1)]) hx hb dX12_predict_24 rfl hl (by decide) rfl (fun ls hl => ?_)
    refine lp_ind (fun q : (Int32 × Sto) => ∀ (H : Heap) (locs : List Loc), SM E s (q.2) H locs → ∀ ls : Array Slot, lv_has ls 6 [(2, .int (q.1)), (0, .ref (E.2.2.1 0 (0))), (1, .int a1)] → W p l e (headSpec wsX12_predict ({ frames := 4, cells := 0, slots := 0, locals := 106 })).room s m ([.ref (E.2.2.1 0 (0)), .int a1] : List Value).toArray below meth c H locs 0 0 (MQ below (QM E (some (.int r)) st1) ([.ref (E.2.2.1 0 (0)), .int a1] : List Value).toArray s 0 0 E.2.2.2) (F0 m 25 ls [])) (fun q o7 h hB6 hX5 => ?_) _ _ h _ _ hw _ (lv_sub hl [0, 1, 2] rfl)
    intro H locs hw ls hl
    obtain ⟨v8, t9⟩ := q
    have h := un2_d h
    have hw : SM E s t9 H locs := hw
    have hl : lv_has ls 6 [(2, .int v8), (0, .ref (E.2.2.1 0 (0))), (1, .int a1)] := hl
    refine lv_iload_n hx hb dX12_predict_25 rfl (lv_at hl 0 rfl) ?_
    refine lv_bipush (v := 16) hx hb dX12_predict_26 (by decide) ?_
    refine lv_icmp_ge (tgt := 176) hx hb dX12_predict_28 (by decide) (fun hc11 => ?_) (fun hc11 => ?_)
    · have h := ifp h hc11
      have h := hX5 _ (Option.some.inj h).symm
      have hl := lv_sub hl (l' := [(0, .ref (E.2.2.1 0 (0)))]) [1] rfl
      refine lv_aload_n hx hb dX12_predict_176 rfl (lv_at hl 0 rfl) ?_
      refine lv_iconst (v := 0) hx hb dX12_predict_177 (by decide) ?_
      refine M_p0_8 hL C0 hw (fun w h => (List.mem_cons_of_mem _ (List.mem_append_right _ h))) (by decide) h ((List.mem_cons_of_mem _ (List.mem_append_left _ (List.mem_append_left _ (List.mem_of_getElem? (i := 3) rfl))))) dX12_predict_178 (fun t12 H locs hw h => ?_)
      refine lv_aload_n hx hb dX12_predict_181 rfl (lv_at hl 0 rfl) ?_
      refine lv_iconst (v := 1) hx hb dX12_predict_182 (by decide) ?_
      refine M_p0_32 hL C0 hw (fun w h => (List.mem_cons_of_mem _ (List.mem_append_right _ h))) (by decide) h rfl rfl ((List.mem_cons_of_mem _ (List.mem_append_left _ (List.mem_append_left _ (List.mem_of_getElem? (i := 9) rfl))))) dX12_predict_183 (fun t13 H locs hw h => ?_)
      refine lv_aload_n hx hb dX12_predict_186 rfl (lv_at hl 0 rfl) ?_
      refine lv_iconst (v := 0) hx hb dX12_predict_187 (by decide) ?_
      refine M_p0_9 hL C0 hw (fun w h => (List.mem_cons_of_mem _ (List.mem_append_right _ h))) (by decide) h ((List.mem_cons_of_mem _ (List.mem_append_left _ (List.mem_append_left _ (List.mem_of_getElem? (i := 10) rfl))))) dX12_predict_188 (fun t14 H locs hw h => ?_)
      refine lv_iconst (v := 1) hx hb dX12_predict_191 (by decide) ?_
      cases h
      exact W.zret hx hb hr rfl (M_fin C0 hw) hw.2.2.2 dX12_predict_192 hlocks
    · have h := ifn h hc11
      refine lv_aload_n hx hb dX12_predict_31 rfl (lv_at hl 1 rfl) ?_
      refine lv_aload_n hx hb dX12_predict_32 rfl (lv_at hl 1 rfl) ?_
      refine M_g0_0 C0 hw (fun w h => (List.mem_cons_of_mem _ (List.mem_append_right _ h))) (by decide) ((List.mem_cons_of_mem _ (List.mem_append_left _ (List.mem_append_left _ (List.mem_of_getElem? (i := 2) rfl))))) dX12_predict_33 ?_
      refine lv_bipush (v := 16) hx hb dX12_predict_36 (by decide) ?_
      refine lv_bipush (v := 41) hx hb dX12_predict_38 (by decide) ?_
      refine lv_iload_n hx hb dX12_predict_40 rfl (lv_at hl 2 rfl) ?_
      refine lv_iadd hx hb dX12_predict_41 ?_
      refine lv_imul hx hb dX12_predict_42 ?_
      refine lv_iload_n hx hb dX12_predict_43 rfl (lv_at hl 0 rfl) ?_
      refine lv_iadd hx hb dX12_predict_44 ?_
      refine M_fald C0 hw h (k := (((16 : Int32) * ((41 : Int32) + a1)) + v8).toNatClampNeg) rfl dX12_predict_45 (fun h => ?_)
      obtain ⟨v15, hf16, h⟩ := bn_c h
      refine M_callV C0 hw (As := [.float (gF t9 (1) (0) ((((16 : Int32) * ((41 : Int32) + a1)) + v8).toNatClampNeg))]) (rest := []) (mX12_quotient l E hL t9 hf16) (cwV 1 C0.1.2.2.2.2 gX12_predict_X12_quotient rfl rfl rfl (by decide +kernel) ⟨Nat.le_of_ble_eq_true rfl, Nat.le_of_ble_eq_true rfl⟩) (M_recv_0 C0 hw (by decide)) rfl hl.1 rfl (Nat.le_of_ble_eq_true rfl) dX12_predict_46 ⟨Nat.zero_le _, Nat.zero_le _⟩ (fun H locs hw => ?_)
      refine W.eq (g2 := F0 m 49 ls [.double v15]) rfl ?_
      refine lv_dstore_n (lv' := [(3, .double v15), (2, .int v8), (0, .ref (E.2.2.1 0 (0))), (1, .int a1)]) hx hb dX12_predict_49 rfl hl (by decide) rfl (fun ls hl => ?_)
      refine lv_iconst (v := 0) hx hb dX12_predict_50 (by decide) ?_
      refine lv_istore (lv' := [(5, .int (0 : Int32)), (3, .double v15), (2, .int v8), (0, .ref (E.2.2.1 0 (0))), (1, .int a1)]) hx hb dX12_predict_51 hl (by decide) rfl (fun ls hl => ?_)
      refine lp_ind (fun q : (Int32 × UInt64) => ∀ (H : Heap) (locs : List Loc), SM E s t9 H locs → ∀ ls : Array Slot, lv_has ls 6 [(5, .int (q.1)), (3, .double (q.2)), (2, .int v8), (0, .ref (E.2.2.1 0 (0))), (1, .int a1)] → W p l e (headSpec wsX12_predict ({ frames := 4, cells := 0, slots := 0, locals := 106 })).room s m ([.ref (E.2.2.1 0 (0)), .int a1] : List Value).toArray below meth c H locs 0 0 (MQ below (QM E (some (.int r)) st1) ([.ref (E.2.2.1 0 (0)), .int a1] : List Value).toArray s 0 0 E.2.2.2) (F0 m 53 ls [])) (fun q o19 h hB18 hX17 => ?_) _ _ h _ _ hw _ (lv_sub hl [0, 1, 2, 3, 4] rfl)
      intro H locs hw ls hl
      obtain ⟨v20, v21⟩ := q
      have h := un2_d h
      have hl : lv_has ls 6 [(5, .int v20), (3, .double v21), (2, .int v8), (0, .ref (E.2.2.1 0 (0))), (1, .int a1)] := hl
      refine lv_iload hx hb dX12_predict_53 (lv_at hl 0 rfl) ?_
      refine lv_aload_n hx hb dX12_predict_55 rfl (lv_at hl 3 rfl) ?_
      refine M_g0_8 C0 hw (fun w h => (List.mem_cons_of_mem _ (List.mem_append_right _ h))) (by decide) ((List.mem_cons_of_mem _ (List.mem_append_left _ (List.mem_append_left _ (List.mem_of_getElem? (i := 3) rfl))))) dX12_predict_56 ?_
      refine lv_icmp_ge (tgt := 155) hx hb dX12_predict_59 (by decide) (fun hc23 => ?_) (fun hc23 => ?_)
      · have h := ifp h hc23
        have h := hX17 _ (Option.some.inj h).symm
        have hl := lv_sub hl (l' := [(0, .ref (E.2.2.1 0 (0))), (1, .int a1), (2, .int v8), (3, .double v21)]) [3, 4, 2, 1] rfl
        refine lv_aload_n hx hb dX12_predict_155 rfl (lv_at hl 0 rfl) ?_
        refine M_g0_0 C0 hw (fun w h => (List.mem_cons_of_mem _ (List.mem_append_right _ h))) (by decide) ((List.mem_cons_of_mem _ (List.mem_append_left _ (List.mem_append_left _ (List.mem_of_getElem? (i := 2) rfl))))) dX12_predict_156 ?_
        refine lv_sipush (v := 784) hx hb dX12_predict_159 (by decide) ?_
        refine lv_iload_n hx hb dX12_predict_162 rfl (lv_at hl 2 rfl) ?_
        refine lv_iadd hx hb dX12_predict_163 ?_
        refine lv_aload_n hx hb dX12_predict_164 rfl (lv_at hl 0 rfl) ?_
        refine lv_dload_n hx hb dX12_predict_165 rfl (lv_at hl 3 rfl) ?_
        obtain ⟨v24, hf25, h⟩ := bn_c h
        refine M_callV C0 hw (As := [.double v21]) (rest := [.int ((784 : Int32) + v8), .ref (E.2.2.1 (1) (0))]) (mX12_bandOf l E hL t9 hf25) (cwV 1 C0.1.2.2.2.2 gX12_predict_X12_bandOf rfl rfl rfl (by decide +kernel) ⟨Nat.le_of_ble_eq_true rfl, Nat.le_of_ble_eq_true rfl⟩) (M_recv_0 C0 hw (by decide)) rfl hl.1 rfl (Nat.le_of_ble_eq_true rfl) dX12_predict_166 ⟨Nat.zero_le _, Nat.zero_le _⟩ (fun H locs hw => ?_)
        refine W.eq (g2 := F0 m 169 ls [.float v24, .int ((784 : Int32) + v8), .ref (E.2.2.1 (1) (0))]) rfl ?_
        refine M_fast hL C0 hw h (k := ((784 : Int32) + v8).toNatClampNeg) rfl dX12_predict_169 (fun t26 H locs hw h => ?_)
        refine x_iinc hx hb h dX12_predict_170 hl (q := 2) rfl (fun v27 => [(2, .int v27), (0, .ref (E.2.2.1 0 (0))), (1, .int a1), (3, .double v21)]) (by decide) (fun _ => rfl) (fun v27 ls hl h => ?_)
        refine lv_goto (tgt := 25) hx hb dX12_predict_173 (by decide) ?_
        exact hB6 _ (Option.some.inj h).symm _ _ hw _ (lv_sub hl [0, 1, 2] rfl)
      · have h := ifn h hc23
        refine lv_aload_n hx hb dX12_predict_62 rfl (lv_at hl 3 rfl) ?_
        refine M_g0_31 C0 hw (fun w h => (List.mem_cons_of_mem _ (List.mem_append_right _ h))) (by decide) ((List.mem_cons_of_mem _ (List.mem_append_left _ (List.mem_append_left _ (List.mem_of_getElem? (i := 4) rfl))))) dX12_predict_63 ?_
        refine lv_iload hx hb dX12_predict_66 (lv_at hl 0 rfl) ?_
        refine M_zald C0 hw h (k := v20.toNatClampNeg) rfl dX12_predict_68 (fun h => ?_)
        refine lv_if_eq (tgt := 112) hx hb dX12_predict_69 (by decide) (fun hc28 => ?_) (fun hc28 => ?_)
        · have h := ifp h hc28
          refine lv_aload_n hx hb dX12_predict_112 rfl (lv_at hl 3 rfl) ?_
          refine M_g0_29 C0 hw (fun w h => (List.mem_cons_of_mem _ (List.mem_append_right _ h))) (by decide) ((List.mem_cons_of_mem _ (List.mem_append_left _ (List.mem_append_left _ (List.mem_of_getElem? (i := 5) rfl))))) dX12_predict_113 ?_
          refine lv_iload hx hb dX12_predict_116 (lv_at hl 0 rfl) ?_
          refine M_iald C0 hw h (k := v20.toNatClampNeg) rfl dX12_predict_118 (fun h => ?_)
          refine lv_aload_n hx hb dX12_predict_119 rfl (lv_at hl 3 rfl) ?_
          refine M_g0_4 C0 hw (fun w h => (List.mem_cons_of_mem _ (List.mem_append_right _ h))) (by decide) ((List.mem_cons_of_mem _ (List.mem_append_left _ (List.mem_append_left _ (List.mem_of_getElem? (i := 8) rfl))))) dX12_predict_120 ?_
          refine lv_icmp_ge (tgt := 149) hx hb dX12_predict_123 (by decide) (fun hc29 => ?_) (fun hc29 => ?_)
          · have h := ifp h hc29
            refine x_iinc hx hb h dX12_predict_149 hl (q := 0) rfl (fun v30 => [(5, .int v30), (3, .double v21), (2, .int v8), (0, .ref (E.2.2.1 0 (0))), (1, .int a1)]) (by decide) (fun _ => rfl) (fun v30 ls hl h => ?_)
            refine lv_goto (tgt := 53) hx hb dX12_predict_152 (by decide) ?_
            exact hB18 _ (Option.some.inj h).symm _ _ hw _ (lv_sub hl [0, 1, 2, 3, 4] rfl)
          · have h := ifn h hc29
            refine lv_dload_n hx hb dX12_predict_126 rfl (lv_at hl 1 rfl) ?_
            refine lv_aload_n hx hb dX12_predict_127 rfl (lv_at hl 3 rfl) ?_
            refine lv_aload_n hx hb dX12_predict_128 rfl (lv_at hl 3 rfl) ?_
            refine M_g0_29 C0 hw (fun w h => (List.mem_cons_of_mem _ (List.mem_append_right _ h))) (by decide) ((List.mem_cons_of_mem _ (List.mem_append_left _ (List.mem_append_left _ (List.mem_of_getElem? (i := 5) rfl))))) dX12_predict_129 ?_
            refine lv_iload hx hb dX12_predict_132 (lv_at hl 0 rfl) ?_
            refine M_iald C0 hw h (k := v20.toNatClampNeg) rfl dX12_predict_134 (fun h => ?_)
            refine lv_aload_n hx hb dX12_predict_135 rfl (lv_at hl 3 rfl) ?_
            refine M_g0_30 C0 hw (fun w h => (List.mem_cons_of_mem _ (List.mem_append_right _ h))) (by decide) ((List.mem_cons_of_mem _ (List.mem_append_left _ (List.mem_append_left _ (List.mem_of_getElem? (i := 7) rfl))))) dX12_predict_136 ?_
            refine lv_iload hx hb dX12_predict_139 (lv_at hl 0 rfl) ?_
            refine M_iald C0 hw h (k := v20.toNatClampNeg) rfl dX12_predict_141 (fun h => ?_)
            refine lv_i2d hx hb dX12_predict_142 ?_
            refine lv_iload_n hx hb dX12_predict_143 rfl (lv_at hl 2 rfl) ?_
            obtain ⟨v31, hf32, h⟩ := bn_c h
            refine M_callV C0 hw (As := [.int (gI t9 (30) (0) (v20.toNatClampNeg)), .double (FP.i2d (gI t9 (31) (0) (v20.toNatClampNeg))), .int v8]) (rest := [.double v21]) (mX12_dyeAt l E hL t9 hf32) (cwV 3 C0.1.2.2.2.2 gX12_predict_X12_dyeAt rfl rfl rfl (by decide +kernel) ⟨Nat.le_of_ble_eq_true rfl, Nat.le_of_ble_eq_true rfl⟩) (M_recv_0 C0 hw (by decide)) rfl hl.1 rfl (Nat.le_of_ble_eq_true rfl) dX12_predict_144 ⟨Nat.zero_le _, Nat.zero_le _⟩ (fun H locs hw => ?_)
            refine W.eq (g2 := F0 m 147 ls [.double v31, .double v21]) rfl ?_
            refine x_dadd hx hb h dX12_predict_147 (fun v33 h => ?_)
            refine lv_dstore_n (lv' := [(3, .double v33), (5, .int v20), (2, .int v8), (0, .ref (E.2.2.1 0 (0))), (1, .int a1)]) hx hb dX12_predict_148 rfl hl (by decide) rfl (fun ls hl => ?_)
            refine x_iinc hx hb h dX12_predict_149 hl (q := 1) rfl (fun v34 => [(5, .int v34), (3, .double v33), (2, .int v8), (0, .ref (E.2.2.1 0 (0))), (1, .int a1)]) (by decide) (fun _ => rfl) (fun v34 ls hl h => ?_)
            refine lv_goto (tgt := 53) hx hb dX12_predict_152 (by decide) ?_
            exact hB18 _ (Option.some.inj h).symm _ _ hw _ (lv_sub hl [0, 1, 2, 3, 4] rfl)
        · have h := ifn h hc28
          refine lv_aload_n hx hb dX12_predict_72 rfl (lv_at hl 3 rfl) ?_
          refine M_g0_29 C0 hw (fun w h => (List.mem_cons_of_mem _ (List.mem_append_right _ h))) (by decide) ((List.mem_cons_of_mem _ (List.mem_append_left _ (List.mem_append_left _ (List.mem_of_getElem? (i := 5) rfl))))) dX12_predict_73 ?_
          refine lv_iload hx hb dX12_predict_76 (lv_at hl 0 rfl) ?_
          refine M_iald C0 hw h (k := v20.toNatClampNeg) rfl dX12_predict_78 (fun h => ?_)
          refine lv_aload_n hx hb dX12_predict_79 rfl (lv_at hl 3 rfl) ?_
          refine M_g0_6 C0 hw (fun w h => (List.mem_cons_of_mem _ (List.mem_append_right _ h))) (by decide) ((List.mem_cons_of_mem _ (List.mem_append_left _ (List.mem_append_left _ (List.mem_of_getElem? (i := 6) rfl))))) dX12_predict_80 ?_
          refine lv_icmp_ge (tgt := 149) hx hb dX12_predict_83 (by decide) (fun hc35 => ?_) (fun hc35 => ?_)
          · have h := ifp h hc35
            refine x_iinc hx hb h dX12_predict_149 hl (q := 0) rfl (fun v36 => [(5, .int v36), (3, .double v21), (2, .int v8), (0, .ref (E.2.2.1 0 (0))), (1, .int a1)]) (by decide) (fun _ => rfl) (fun v36 ls hl h => ?_)
            refine lv_goto (tgt := 53) hx hb dX12_predict_152 (by decide) ?_
            exact hB18 _ (Option.some.inj h).symm _ _ hw _ (lv_sub hl [0, 1, 2, 3, 4] rfl)
          · have h := ifn h hc35
            refine lv_dload_n hx hb dX12_predict_86 rfl (lv_at hl 1 rfl) ?_
            refine lv_aload_n hx hb dX12_predict_87 rfl (lv_at hl 3 rfl) ?_
            refine lv_aload_n hx hb dX12_predict_88 rfl (lv_at hl 3 rfl) ?_
            refine M_g0_29 C0 hw (fun w h => (List.mem_cons_of_mem _ (List.mem_append_right _ h))) (by decide) ((List.mem_cons_of_mem _ (List.mem_append_left _ (List.mem_append_left _ (List.mem_of_getElem? (i := 5) rfl))))) dX12_predict_89 ?_
            refine lv_iload hx hb dX12_predict_92 (lv_at hl 0 rfl) ?_
            refine M_iald C0 hw h (k := v20.toNatClampNeg) rfl dX12_predict_94 (fun h => ?_)
            refine lv_aload_n hx hb dX12_predict_95 rfl (lv_at hl 3 rfl) ?_
            refine M_g0_30 C0 hw (fun w h => (List.mem_cons_of_mem _ (List.mem_append_right _ h))) (by decide) ((List.mem_cons_of_mem _ (List.mem_append_left _ (List.mem_append_left _ (List.mem_of_getElem? (i := 7) rfl))))) dX12_predict_96 ?_
            refine lv_iload hx hb dX12_predict_99 (lv_at hl 0 rfl) ?_
            refine M_iald C0 hw h (k := v20.toNatClampNeg) rfl dX12_predict_101 (fun h => ?_)
            refine lv_i2d hx hb dX12_predict_102 ?_
            refine lv_iload_n hx hb dX12_predict_103 rfl (lv_at hl 2 rfl) ?_
            obtain ⟨v37, hf38, h⟩ := bn_c h
            refine M_callV C0 hw (As := [.int (gI t9 (30) (0) (v20.toNatClampNeg)), .double (FP.i2d (gI t9 (31) (0) (v20.toNatClampNeg))), .int v8]) (rest := [.double v21]) (mX12_lotAt l E hL t9 hf38) (cwV 3 C0.1.2.2.2.2 gX12_predict_X12_lotAt rfl rfl rfl (by decide +kernel) ⟨Nat.le_of_ble_eq_true rfl, Nat.le_of_ble_eq_true rfl⟩) (M_recv_0 C0 hw (by decide)) rfl hl.1 rfl (Nat.le_of_ble_eq_true rfl) dX12_predict_104 ⟨Nat.zero_le _, Nat.zero_le _⟩ (fun H locs hw => ?_)
            refine W.eq (g2 := F0 m 107 ls [.double v37, .double v21]) rfl ?_
            refine x_dadd hx hb h dX12_predict_107 (fun v39 h => ?_)
            refine lv_dstore_n (lv' := [(3, .double v39), (5, .int v20), (2, .int v8), (0, .ref (E.2.2.1 0 (0))), (1, .int a1)]) hx hb dX12_predict_108 rfl hl (by decide) rfl (fun ls hl => ?_)
            refine lv_goto (tgt := 149) hx hb dX12_predict_109 (by decide) ?_
            refine x_iinc hx hb h dX12_predict_149 hl (q := 1) rfl (fun v40 => [(5, .int v40), (3, .double v39), (2, .int v8), (0, .ref (E.2.2.1 0 (0))), (1, .int a1)]) (by decide) (fun _ => rfl) (fun v40 ls hl h => ?_)
            refine lv_goto (tgt := 53) hx hb dX12_predict_152 (by decide) ?_
            exact hB18 _ (Option.some.inj h).symm _ _ hw _ (lv_sub hl [0, 1, 2, 3, 4] rfl)
  · have h := ifp h hc4
    refine lv_aload_n hx hb dX12_predict_17 rfl (lv_at hl 0 rfl) ?_
    refine lv_iconst (v := 2) hx hb dX12_predict_18 (by decide) ?_
    obtain ⟨⟨v48, t49⟩, hf50, h⟩ := bn_c h
    have h := un2_d h
    refine M_callV C0 hw (As := [.int (2 : Int32)]) (rest := []) (mX12_not l E hL t1 hf50) (cwV 1 C0.1.2.2.2.2 gX12_predict_X12_not rfl rfl rfl (by decide +kernel) ⟨Nat.le_of_ble_eq_true rfl, Nat.le_of_ble_eq_true rfl⟩) (M_recv_0 C0 hw (by decide)) rfl hl.1 rfl (Nat.le_of_ble_eq_true rfl) dX12_predict_19 ⟨Nat.zero_le _, Nat.zero_le _⟩ (fun H locs hw => ?_)
    refine W.eq (g2 := F0 m 22 ls [.int v48]) rfl ?_
    obtain ⟨hz, h⟩ := ck_c h
    cases h
    exact W.zret hx hb hr (zz hz) (M_fin C0 hw) hw.2.2.2 dX12_predict_22 hlocks

def fX12_isWeight (a1 : Int32) : Option Int32 :=
  if a1 < 0 then (
   some (0 : Int32)) else (
   if (1000000 : Int32) < a1 then (
    some (0 : Int32)) else (
    some (1 : Int32)))
set_option maxHeartbeats 4000000 in
set_option maxRecDepth 100000 in
theorem mX12_isWeight (l : Launch) (E : XE) (hL : LM E) (st : Sto) {a1 : Int32} {r : Int32} (h : fX12_isWeight a1 = some r) : Met l yX12_isWeight wsX12_isWeight ({ frames := 0, cells := 0, slots := 0, locals := 0 }) (va_Pc [.ref (E.2.2.1 0 (0)), .int a1] (RM E st)) (QM E (some (.int r)) st) 0 0 E.2.2.2 := by
  refine Met.ofW (cc := cX12_isWeight) (maxL := 2) (ret := (some .boolean)) (by decide) rfl ?_
  intro p e s m args below meth c s₁ B hml hv
  obtain ⟨rfl, hP, hK⟩ := hv
  have hown : s.vm.findClass RX12 = some m.cls := findClass_of_methodNamed B.named
  have C0 : CX p m c cX12_isWeight 2 s _ wsX12_isWeight RX12 E := ⟨⟨B.exec, B.bytes, hml, hown, atoms_spec (ws := wsX12_isWeight) B.pre⟩, hK⟩
  have hx := B.exec
  have hb := B.bytes
  have hr := B.returns
  have hlocks := B.notSynchronized
  have hw : SM E s st s.heap [] := ⟨hP, va_S.rf⟩
  have hl := lv_entry ([.ref (E.2.2.1 0 (0)), .int a1]) (n := 2) (Nat.le_of_ble_eq_true rfl)
  rw [lg_entry_eq]
  generalize (lg_sl ([.ref (E.2.2.1 0 (0)), .int a1]) ++ List.replicate (2 - (lg_sl ([.ref (E.2.2.1 0 (0)), .int a1])).length) Slot.unset).toArray = ls at hl ⊢
  have hl : lv_has ls 2 [(0, .ref (E.2.2.1 0 (0))), (1, .int a1)] := hl
  unfold fX12_isWeight at h
  refine lv_iload_n hx hb dX12_isWeight_0 rfl (lv_at hl 1 rfl) ?_
  refine lv_if_lt (tgt := 14) hx hb dX12_isWeight_1 (by decide) (fun hc1 => ?_) (fun hc1 => ?_)
  · have h := ifp h hc1
    refine lv_iconst (v := 0) hx hb dX12_isWeight_14 (by decide) ?_
    cases h
    exact W.zret hx hb hr rfl (M_fin C0 hw) hw.2.2.2 dX12_isWeight_15 hlocks
  · have h := ifn h hc1
    refine lv_iload_n hx hb dX12_isWeight_4 rfl (lv_at hl 1 rfl) ?_
    refine lv_ldc hx hb hown (C0.1.2.2.2.2 _ (List.mem_cons_of_mem _ (List.mem_of_getElem? (i := 0) rfl))) dX12_isWeight_5 ?_
    refine lv_icmp_gt (tgt := 14) hx hb dX12_isWeight_7 (by decide) (fun hc2 => ?_) (fun hc2 => ?_)
    · have h := ifp h hc2
      refine lv_iconst (v := 0) hx hb dX12_isWeight_14 (by decide) ?_
      cases h
      exact W.zret hx hb hr rfl (M_fin C0 hw) hw.2.2.2 dX12_isWeight_15 hlocks
    · have h := ifn h hc2
      refine lv_iconst (v := 1) hx hb dX12_isWeight_10 (by decide) ?_
      refine lv_goto (tgt := 15) hx hb dX12_isWeight_11 (by decide) ?_
      cases h
      exact W.zret hx hb hr rfl (M_fin C0 hw) hw.2.2.2 dX12_isWeight_15 hlocks

def fX12_light (a1 : Int32) (a2 : Int32) (a3 : Int32) (st : Sto) : Option (Int32 × Sto) :=
  lt1 (sI st 0 (0) 10 (0 : Int32)) fun (t1 : Sto) =>
  (fX12_is a1 (6 : Int32)).bind (fun (v2 : Int32) =>
   if v2 = 0 then (
    (fX12_not (3 : Int32) t1).bind (un2 fun (v5 : Int32) (t6 : Sto) =>
     ck (v5 &&& 1 = v5) (
      some (v5, t6)))) else (
    (fX12_is a2 (16 : Int32)).bind (fun (v8 : Int32) =>
     if v8 = 0 then (
      (fX12_not (3 : Int32) t1).bind (un2 fun (v11 : Int32) (t12 : Sto) =>
       ck (v11 &&& 1 = v11) (
        some (v11, t12)))) else (
      (fX12_isWeight a3).bind (fun (v14 : Int32) =>
       if v14 = 0 then (
        (fX12_not (3 : Int32) t1).bind (un2 fun (v19 : Int32) (t20 : Sto) =>
         ck (v19 &&& 1 = v19) (
          some (v19, t20)))) else (
        ck (0 ≤ (((16 : Int32) * a1) + a2).toInt ∧ (((16 : Int32) * a1) + a2).toInt < (lIM (27) (0) : Int)) (lt1 (sI t1 (27) (0) ((((16 : Int32) * a1) + a2).toNatClampNeg) a3) fun (t17 : Sto) =>
         lt1 (sI t17 0 (0) 9 (0 : Int32)) fun (t18 : Sto) =>
         some ((1 : Int32), t18))))))))
set_option maxHeartbeats 4000000 in
set_option maxRecDepth 100000 in
theorem mX12_light (l : Launch) (E : XE) (hL : LM E) (st : Sto) {a1 : Int32} {a2 : Int32} {a3 : Int32} {r : Int32} {st1 : Sto} (h : fX12_light a1 a2 a3 st = some (r, st1)) : Met l yX12_light wsX12_light ({ frames := 1, cells := 0, slots := 0, locals := 22 }) (va_Pc [.ref (E.2.2.1 0 (0)), .int a1, .int a2, .int a3] (RM E st)) (QM E (some (.int r)) st1) 0 0 E.2.2.2 := by
  refine Met.ofW (cc := cX12_light) (maxL := 4) (ret := (some .boolean)) (by decide) rfl ?_
  intro p e s m args below meth c s₁ B hml hv
  obtain ⟨rfl, hP, hK⟩ := hv
  have hown : s.vm.findClass RX12 = some m.cls := findClass_of_methodNamed B.named
  have C0 : CX p m c cX12_light 4 s _ wsX12_light RX12 E := ⟨⟨B.exec, B.bytes, hml, hown, atoms_spec (ws := wsX12_light) B.pre⟩, hK⟩
  have hx := B.exec
  have hb := B.bytes
  have hr := B.returns
  have hlocks := B.notSynchronized
  have hw : SM E s st s.heap [] := ⟨hP, va_S.rf⟩
  have hl := lv_entry ([.ref (E.2.2.1 0 (0)), .int a1, .int a2, .int a3]) (n := 4) (Nat.le_of_ble_eq_true rfl)
  rw [lg_entry_eq]
  generalize (lg_sl ([.ref (E.2.2.1 0 (0)), .int a1, .int a2, .int a3]) ++ List.replicate (4 - (lg_sl ([.ref (E.2.2.1 0 (0)), .int a1, .int a2, .int a3])).length) Slot.unset).toArray = ls at hl ⊢
  have hl : lv_has ls 4 [(0, .ref (E.2.2.1 0 (0))), (1, .int a1), (2, .int a2), (3, .int a3)] := hl
  unfold fX12_light at h
  refine lv_aload_n hx hb dX12_light_0 rfl (lv_at hl 0 rfl) ?_
  refine lv_iconst (v := 0) hx hb dX12_light_1 (by decide) ?_
  refine M_p0_10 hL C0 hw (fun w h => (List.mem_cons_of_mem _ (List.mem_append_right _ h))) (by decide) h ((List.mem_cons_of_mem _ (List.mem_append_left _ (List.mem_of_getElem? (i := 0) rfl)))) dX12_light_2 (fun t1 H locs hw h => ?_)
  refine lv_aload_n hx hb dX12_light_5 rfl (lv_at hl 0 rfl) ?_
  refine lv_iload_n hx hb dX12_light_6 rfl (lv_at hl 1 rfl) ?_
  refine lv_bipush (v := 6) hx hb dX12_light_7 (by decide) ?_
  obtain ⟨v2, hf3, h⟩ := bn_c h
  refine M_callV C0 hw (As := [.int a1, .int (6 : Int32)]) (rest := []) (mX12_is l E hL t1 hf3) (cwV 2 C0.1.2.2.2.2 gX12_light_X12_is rfl rfl rfl (by decide +kernel) ⟨Nat.le_of_ble_eq_true rfl, Nat.le_of_ble_eq_true rfl⟩) (M_recv_0 C0 hw (by decide)) rfl hl.1 rfl (Nat.le_of_ble_eq_true rfl) dX12_light_9 ⟨Nat.zero_le _, Nat.zero_le _⟩ (fun H locs hw => ?_)
  refine W.eq (g2 := F0 m 12 ls [.int v2]) rfl ?_
  refine lv_if_eq (tgt := 33) hx hb dX12_light_12 (by decide) (fun hc4 => ?_) (fun hc4 => ?_)
  · have h := ifp h hc4
    refine lv_aload_n hx hb dX12_light_33 rfl (lv_at hl 0 rfl) ?_
    refine lv_iconst (v := 3) hx hb dX12_light_34 (by decide) ?_
    obtain ⟨⟨v5, t6⟩, hf7, h⟩ := bn_c h
    have h := un2_d h
    refine M_callV C0 hw (As := [.int (3 : Int32)]) (rest := []) (mX12_not l E hL t1 hf7) (cwV 1 C0.1.2.2.2.2 gX12_light_X12_not rfl rfl rfl (by decide +kernel) ⟨Nat.le_of_ble_eq_true rfl, Nat.le_of_ble_eq_true rfl⟩) (M_recv_0 C0 hw (by decide)) rfl hl.1 rfl (Nat.le_of_ble_eq_true rfl) dX12_light_35 ⟨Nat.zero_le _, Nat.zero_le _⟩ (fun H locs hw => ?_)
    refine W.eq (g2 := F0 m 38 ls [.int v5]) rfl ?_
    obtain ⟨hz, h⟩ := ck_c h
    cases h
    exact W.zret hx hb hr (zz hz) (M_fin C0 hw) hw.2.2.2 dX12_light_38 hlocks
  · have h := ifn h hc4
    refine lv_aload_n hx hb dX12_light_15 rfl (lv_at hl 0 rfl) ?_
    refine lv_iload_n hx hb dX12_light_16 rfl (lv_at hl 2 rfl) ?_
    refine lv_bipush (v := 16) hx hb dX12_light_17 (by decide) ?_
    obtain ⟨v8, hf9, h⟩ := bn_c h
    refine M_callV C0 hw (As := [.int a2, .int (16 : Int32)]) (rest := []) (mX12_is l E hL t1 hf9) (cwV 2 C0.1.2.2.2.2 gX12_light_X12_is rfl rfl rfl (by decide +kernel) ⟨Nat.le_of_ble_eq_true rfl, Nat.le_of_ble_eq_true rfl⟩) (M_recv_0 C0 hw (by decide)) rfl hl.1 rfl (Nat.le_of_ble_eq_true rfl) dX12_light_19 ⟨Nat.zero_le _, Nat.zero_le _⟩ (fun H locs hw => ?_)
    refine W.eq (g2 := F0 m 22 ls [.int v8]) rfl ?_
    refine lv_if_eq (tgt := 33) hx hb dX12_light_22 (by decide) (fun hc10 => ?_) (fun hc10 => ?_)
    · have h := ifp h hc10
      refine lv_aload_n hx hb dX12_light_33 rfl (lv_at hl 0 rfl) ?_
      refine lv_iconst (v := 3) hx hb dX12_light_34 (by decide) ?_
      obtain ⟨⟨v11, t12⟩, hf13, h⟩ := bn_c h
      have h := un2_d h
      refine M_callV C0 hw (As := [.int (3 : Int32)]) (rest := []) (mX12_not l E hL t1 hf13) (cwV 1 C0.1.2.2.2.2 gX12_light_X12_not rfl rfl rfl (by decide +kernel) ⟨Nat.le_of_ble_eq_true rfl, Nat.le_of_ble_eq_true rfl⟩) (M_recv_0 C0 hw (by decide)) rfl hl.1 rfl (Nat.le_of_ble_eq_true rfl) dX12_light_35 ⟨Nat.zero_le _, Nat.zero_le _⟩ (fun H locs hw => ?_)
      refine W.eq (g2 := F0 m 38 ls [.int v11]) rfl ?_
      obtain ⟨hz, h⟩ := ck_c h
      cases h
      exact W.zret hx hb hr (zz hz) (M_fin C0 hw) hw.2.2.2 dX12_light_38 hlocks
    · have h := ifn h hc10
      refine lv_aload_n hx hb dX12_light_25 rfl (lv_at hl 0 rfl) ?_
      refine lv_iload_n hx hb dX12_light_26 rfl (lv_at hl 3 rfl) ?_
      obtain ⟨v14, hf15, h⟩ := bn_c h
      refine M_callV C0 hw (As := [.int a3]) (rest := []) (mX12_isWeight l E hL t1 hf15) (cwV 1 C0.1.2.2.2.2 gX12_light_X12_isWeight rfl rfl rfl (by decide +kernel) ⟨Nat.le_of_ble_eq_true rfl, Nat.le_of_ble_eq_true rfl⟩) (M_recv_0 C0 hw (by decide)) rfl hl.1 rfl (Nat.le_of_ble_eq_true rfl) dX12_light_27 ⟨Nat.zero_le _, Nat.zero_le _⟩ (fun H locs hw => ?_)
      refine W.eq (g2 := F0 m 30 ls [.int v14]) rfl ?_
      refine lv_if_ne (tgt := 39) hx hb dX12_light_30 (by decide) (fun hc16 => ?_) (fun hc16 => ?_)
      · have h := ifn h hc16
        refine lv_aload_n hx hb dX12_light_39 rfl (lv_at hl 0 rfl) ?_
        refine M_g0_26 C0 hw (fun w h => (List.mem_cons_of_mem _ (List.mem_append_right _ h))) (by decide) ((List.mem_cons_of_mem _ (List.mem_append_left _ (List.mem_of_getElem? (i := 1) rfl)))) dX12_light_40 ?_
        refine lv_bipush (v := 16) hx hb dX12_light_43 (by decide) ?_
        refine lv_iload_n hx hb dX12_light_45 rfl (lv_at hl 1 rfl) ?_
        refine lv_imul hx hb dX12_light_46 ?_
        refine lv_iload_n hx hb dX12_light_47 rfl (lv_at hl 2 rfl) ?_
        refine lv_iadd hx hb dX12_light_48 ?_
        refine lv_iload_n hx hb dX12_light_49 rfl (lv_at hl 3 rfl) ?_
        refine M_iast hL C0 hw h (k := (((16 : Int32) * a1) + a2).toNatClampNeg) rfl dX12_light_50 (fun t17 H locs hw h => ?_)
        refine lv_aload_n hx hb dX12_light_51 rfl (lv_at hl 0 rfl) ?_
        refine lv_iconst (v := 0) hx hb dX12_light_52 (by decide) ?_
        refine M_p0_9 hL C0 hw (fun w h => (List.mem_cons_of_mem _ (List.mem_append_right _ h))) (by decide) h ((List.mem_cons_of_mem _ (List.mem_append_left _ (List.mem_of_getElem? (i := 2) rfl)))) dX12_light_53 (fun t18 H locs hw h => ?_)
        refine lv_iconst (v := 1) hx hb dX12_light_56 (by decide) ?_
        cases h
        exact W.zret hx hb hr rfl (M_fin C0 hw) hw.2.2.2 dX12_light_57 hlocks
      · have h := ifp h hc16
        refine lv_aload_n hx hb dX12_light_33 rfl (lv_at hl 0 rfl) ?_
        refine lv_iconst (v := 3) hx hb dX12_light_34 (by decide) ?_
        obtain ⟨⟨v19, t20⟩, hf21, h⟩ := bn_c h
        have h := un2_d h
        refine M_callV C0 hw (As := [.int (3 : Int32)]) (rest := []) (mX12_not l E hL t1 hf21) (cwV 1 C0.1.2.2.2.2 gX12_light_X12_not rfl rfl rfl (by decide +kernel) ⟨Nat.le_of_ble_eq_true rfl, Nat.le_of_ble_eq_true rfl⟩) (M_recv_0 C0 hw (by decide)) rfl hl.1 rfl (Nat.le_of_ble_eq_true rfl) dX12_light_35 ⟨Nat.zero_le _, Nat.zero_le _⟩ (fun H locs hw => ?_)
        refine W.eq (g2 := F0 m 38 ls [.int v19]) rfl ?_
        obtain ⟨hz, h⟩ := ck_c h
        cases h
        exact W.zret hx hb hr (zz hz) (M_fin C0 hw) hw.2.2.2 dX12_light_38 hlocks

def fX12_eye (a1 : Int32) (a2 : Int32) (a3 : Int32) (a4 : Int32) (st : Sto) : Option (Int32 × Sto) :=
  lt1 (sI st 0 (0) 10 (0 : Int32)) fun (t1 : Sto) =>
  (fX12_is a1 (2 : Int32)).bind (fun (v2 : Int32) =>
   if v2 = 0 then (
    (fX12_not (3 : Int32) t1).bind (un2 fun (v5 : Int32) (t6 : Sto) =>
     ck (v5 &&& 1 = v5) (
      some (v5, t6)))) else (
    (fX12_is a2 (3 : Int32)).bind (fun (v8 : Int32) =>
     if v8 = 0 then (
      (fX12_not (3 : Int32) t1).bind (un2 fun (v11 : Int32) (t12 : Sto) =>
       ck (v11 &&& 1 = v11) (
        some (v11, t12)))) else (
      (fX12_is a3 (16 : Int32)).bind (fun (v14 : Int32) =>
       if v14 = 0 then (
        (fX12_not (3 : Int32) t1).bind (un2 fun (v17 : Int32) (t18 : Sto) =>
         ck (v17 &&& 1 = v17) (
          some (v17, t18)))) else (
        (fX12_isWeight a4).bind (fun (v20 : Int32) =>
         if v20 = 0 then (
          (fX12_not (3 : Int32) t1).bind (un2 fun (v25 : Int32) (t26 : Sto) =>
           ck (v25 &&& 1 = v25) (
            some (v25, t26)))) else (
          ck (0 ≤ ((((48 : Int32) * a1) + ((16 : Int32) * a2)) + a3).toInt ∧ ((((48 : Int32) * a1) + ((16 : Int32) * a2)) + a3).toInt < (lIM (28) (0) : Int)) (lt1 (sI t1 (28) (0) (((((48 : Int32) * a1) + ((16 : Int32) * a2)) + a3).toNatClampNeg) a4) fun (t23 : Sto) =>
           lt1 (sI t23 0 (0) 9 (0 : Int32)) fun (t24 : Sto) =>
           some ((1 : Int32), t24))))))))))
set_option maxHeartbeats 4000000 in
set_option maxRecDepth 100000 in
theorem mX12_eye (l : Launch) (E : XE) (hL : LM E) (st : Sto) {a1 : Int32} {a2 : Int32} {a3 : Int32} {a4 : Int32} {r : Int32} {st1 : Sto} (h : fX12_eye a1 a2 a3 a4 st = some (r, st1)) : Met l yX12_eye wsX12_eye ({ frames := 1, cells := 0, slots := 0, locals := 22 }) (va_Pc [.ref (E.2.2.1 0 (0)), .int a1, .int a2, .int a3, .int a4] (RM E st)) (QM E (some (.int r)) st1) 0 0 E.2.2.2 := by
  refine Met.ofW (cc := cX12_eye) (maxL := 5) (ret := (some .boolean)) (by decide) rfl ?_
  intro p e s m args below meth c s₁ B hml hv
  obtain ⟨rfl, hP, hK⟩ := hv
  have hown : s.vm.findClass RX12 = some m.cls := findClass_of_methodNamed B.named
  have C0 : CX p m c cX12_eye 5 s _ wsX12_eye RX12 E := ⟨⟨B.exec, B.bytes, hml, hown, atoms_spec (ws := wsX12_eye) B.pre⟩, hK⟩
  have hx := B.exec
  have hb := B.bytes
  have hr := B.returns
  have hlocks := B.notSynchronized
  have hw : SM E s st s.heap [] := ⟨hP, va_S.rf⟩
  have hl := lv_entry ([.ref (E.2.2.1 0 (0)), .int a1, .int a2, .int a3, .int a4]) (n := 5) (Nat.le_of_ble_eq_true rfl)
  rw [lg_entry_eq]
  generalize (lg_sl ([.ref (E.2.2.1 0 (0)), .int a1, .int a2, .int a3, .int a4]) ++ List.replicate (5 - (lg_sl ([.ref (E.2.2.1 0 (0)), .int a1, .int a2, .int a3, .int a4])).length) Slot.unset).toArray = ls at hl ⊢
  have hl : lv_has ls 5 [(0, .ref (E.2.2.1 0 (0))), (1, .int a1), (2, .int a2), (3, .int a3), (4, .int a4)] := hl
  unfold fX12_eye at h
  refine lv_aload_n hx hb dX12_eye_0 rfl (lv_at hl 0 rfl) ?_
  refine lv_iconst (v := 0) hx hb dX12_eye_1 (by decide) ?_
  refine M_p0_10 hL C0 hw (fun w h => (List.mem_cons_of_mem _ (List.mem_append_right _ h))) (by decide) h ((List.mem_cons_of_mem _ (List.mem_append_left _ (List.mem_of_getElem? (i := 0) rfl)))) dX12_eye_2 (fun t1 H locs hw h => ?_)
  refine lv_aload_n hx hb dX12_eye_5 rfl (lv_at hl 0 rfl) ?_
  refine lv_iload_n hx hb dX12_eye_6 rfl (lv_at hl 1 rfl) ?_
  refine lv_iconst (v := 2) hx hb dX12_eye_7 (by decide) ?_
  obtain ⟨v2, hf3, h⟩ := bn_c h
  refine M_callV C0 hw (As := [.int a1, .int (2 : Int32)]) (rest := []) (mX12_is l E hL t1 hf3) (cwV 2 C0.1.2.2.2.2 gX12_eye_X12_is rfl rfl rfl (by decide +kernel) ⟨Nat.le_of_ble_eq_true rfl, Nat.le_of_ble_eq_true rfl⟩) (M_recv_0 C0 hw (by decide)) rfl hl.1 rfl (Nat.le_of_ble_eq_true rfl) dX12_eye_8 ⟨Nat.zero_le _, Nat.zero_le _⟩ (fun H locs hw => ?_)
  refine W.eq (g2 := F0 m 11 ls [.int v2]) rfl ?_
  refine lv_if_eq (tgt := 42) hx hb dX12_eye_11 (by decide) (fun hc4 => ?_) (fun hc4 => ?_)
  · have h := ifp h hc4
    refine lv_aload_n hx hb dX12_eye_42 rfl (lv_at hl 0 rfl) ?_
    refine lv_iconst (v := 3) hx hb dX12_eye_43 (by decide) ?_
    obtain ⟨⟨v5, t6⟩, hf7, h⟩ := bn_c h
    have h := un2_d h
    refine M_callV C0 hw (As := [.int (3 : Int32)]) (rest := []) (mX12_not l E hL t1 hf7) (cwV 1 C0.1.2.2.2.2 gX12_eye_X12_not rfl rfl rfl (by decide +kernel) ⟨Nat.le_of_ble_eq_true rfl, Nat.le_of_ble_eq_true rfl⟩) (M_recv_0 C0 hw (by decide)) rfl hl.1 rfl (Nat.le_of_ble_eq_true rfl) dX12_eye_44 ⟨Nat.zero_le _, Nat.zero_le _⟩ (fun H locs hw => ?_)
    refine W.eq (g2 := F0 m 47 ls [.int v5]) rfl ?_
    obtain ⟨hz, h⟩ := ck_c h
    cases h
    exact W.zret hx hb hr (zz hz) (M_fin C0 hw) hw.2.2.2 dX12_eye_47 hlocks
  · have h := ifn h hc4
    refine lv_aload_n hx hb dX12_eye_14 rfl (lv_at hl 0 rfl) ?_
    refine lv_iload_n hx hb dX12_eye_15 rfl (lv_at hl 2 rfl) ?_
    refine lv_iconst (v := 3) hx hb dX12_eye_16 (by decide) ?_
    obtain ⟨v8, hf9, h⟩ := bn_c h
    refine M_callV C0 hw (As := [.int a2, .int (3 : Int32)]) (rest := []) (mX12_is l E hL t1 hf9) (cwV 2 C0.1.2.2.2.2 gX12_eye_X12_is rfl rfl rfl (by decide +kernel) ⟨Nat.le_of_ble_eq_true rfl, Nat.le_of_ble_eq_true rfl⟩) (M_recv_0 C0 hw (by decide)) rfl hl.1 rfl (Nat.le_of_ble_eq_true rfl) dX12_eye_17 ⟨Nat.zero_le _, Nat.zero_le _⟩ (fun H locs hw => ?_)
    refine W.eq (g2 := F0 m 20 ls [.int v8]) rfl ?_
    refine lv_if_eq (tgt := 42) hx hb dX12_eye_20 (by decide) (fun hc10 => ?_) (fun hc10 => ?_)
    · have h := ifp h hc10
      refine lv_aload_n hx hb dX12_eye_42 rfl (lv_at hl 0 rfl) ?_
      refine lv_iconst (v := 3) hx hb dX12_eye_43 (by decide) ?_
      obtain ⟨⟨v11, t12⟩, hf13, h⟩ := bn_c h
      have h := un2_d h
      refine M_callV C0 hw (As := [.int (3 : Int32)]) (rest := []) (mX12_not l E hL t1 hf13) (cwV 1 C0.1.2.2.2.2 gX12_eye_X12_not rfl rfl rfl (by decide +kernel) ⟨Nat.le_of_ble_eq_true rfl, Nat.le_of_ble_eq_true rfl⟩) (M_recv_0 C0 hw (by decide)) rfl hl.1 rfl (Nat.le_of_ble_eq_true rfl) dX12_eye_44 ⟨Nat.zero_le _, Nat.zero_le _⟩ (fun H locs hw => ?_)
      refine W.eq (g2 := F0 m 47 ls [.int v11]) rfl ?_
      obtain ⟨hz, h⟩ := ck_c h
      cases h
      exact W.zret hx hb hr (zz hz) (M_fin C0 hw) hw.2.2.2 dX12_eye_47 hlocks
    · have h := ifn h hc10
      refine lv_aload_n hx hb dX12_eye_23 rfl (lv_at hl 0 rfl) ?_
      refine lv_iload_n hx hb dX12_eye_24 rfl (lv_at hl 3 rfl) ?_
      refine lv_bipush (v := 16) hx hb dX12_eye_25 (by decide) ?_
      obtain ⟨v14, hf15, h⟩ := bn_c h
      refine M_callV C0 hw (As := [.int a3, .int (16 : Int32)]) (rest := []) (mX12_is l E hL t1 hf15) (cwV 2 C0.1.2.2.2.2 gX12_eye_X12_is rfl rfl rfl (by decide +kernel) ⟨Nat.le_of_ble_eq_true rfl, Nat.le_of_ble_eq_true rfl⟩) (M_recv_0 C0 hw (by decide)) rfl hl.1 rfl (Nat.le_of_ble_eq_true rfl) dX12_eye_27 ⟨Nat.zero_le _, Nat.zero_le _⟩ (fun H locs hw => ?_)
      refine W.eq (g2 := F0 m 30 ls [.int v14]) rfl ?_
      refine lv_if_eq (tgt := 42) hx hb dX12_eye_30 (by decide) (fun hc16 => ?_) (fun hc16 => ?_)
      · have h := ifp h hc16
        refine lv_aload_n hx hb dX12_eye_42 rfl (lv_at hl 0 rfl) ?_
        refine lv_iconst (v := 3) hx hb dX12_eye_43 (by decide) ?_
        obtain ⟨⟨v17, t18⟩, hf19, h⟩ := bn_c h
        have h := un2_d h
        refine M_callV C0 hw (As := [.int (3 : Int32)]) (rest := []) (mX12_not l E hL t1 hf19) (cwV 1 C0.1.2.2.2.2 gX12_eye_X12_not rfl rfl rfl (by decide +kernel) ⟨Nat.le_of_ble_eq_true rfl, Nat.le_of_ble_eq_true rfl⟩) (M_recv_0 C0 hw (by decide)) rfl hl.1 rfl (Nat.le_of_ble_eq_true rfl) dX12_eye_44 ⟨Nat.zero_le _, Nat.zero_le _⟩ (fun H locs hw => ?_)
        refine W.eq (g2 := F0 m 47 ls [.int v17]) rfl ?_
        obtain ⟨hz, h⟩ := ck_c h
        cases h
        exact W.zret hx hb hr (zz hz) (M_fin C0 hw) hw.2.2.2 dX12_eye_47 hlocks
      · have h := ifn h hc16
        refine lv_aload_n hx hb dX12_eye_33 rfl (lv_at hl 0 rfl) ?_
        refine lv_iload hx hb dX12_eye_34 (lv_at hl 4 rfl) ?_
        obtain ⟨v20, hf21, h⟩ := bn_c h
        refine M_callV C0 hw (As := [.int a4]) (rest := []) (mX12_isWeight l E hL t1 hf21) (cwV 1 C0.1.2.2.2.2 gX12_eye_X12_isWeight rfl rfl rfl (by decide +kernel) ⟨Nat.le_of_ble_eq_true rfl, Nat.le_of_ble_eq_true rfl⟩) (M_recv_0 C0 hw (by decide)) rfl hl.1 rfl (Nat.le_of_ble_eq_true rfl) dX12_eye_36 ⟨Nat.zero_le _, Nat.zero_le _⟩ (fun H locs hw => ?_)
        refine W.eq (g2 := F0 m 39 ls [.int v20]) rfl ?_
        refine lv_if_ne (tgt := 48) hx hb dX12_eye_39 (by decide) (fun hc22 => ?_) (fun hc22 => ?_)
        · have h := ifn h hc22
          refine lv_aload_n hx hb dX12_eye_48 rfl (lv_at hl 0 rfl) ?_
          refine M_g0_27 C0 hw (fun w h => (List.mem_cons_of_mem _ (List.mem_append_right _ h))) (by decide) ((List.mem_cons_of_mem _ (List.mem_append_left _ (List.mem_of_getElem? (i := 1) rfl)))) dX12_eye_49 ?_
          refine lv_bipush (v := 48) hx hb dX12_eye_52 (by decide) ?_
          refine lv_iload_n hx hb dX12_eye_54 rfl (lv_at hl 1 rfl) ?_
          refine lv_imul hx hb dX12_eye_55 ?_
          refine lv_bipush (v := 16) hx hb dX12_eye_56 (by decide) ?_
          refine lv_iload_n hx hb dX12_eye_58 rfl (lv_at hl 2 rfl) ?_
          refine lv_imul hx hb dX12_eye_59 ?_
          refine lv_iadd hx hb dX12_eye_60 ?_
          refine lv_iload_n hx hb dX12_eye_61 rfl (lv_at hl 3 rfl) ?_
          refine lv_iadd hx hb dX12_eye_62 ?_
          refine lv_iload hx hb dX12_eye_63 (lv_at hl 4 rfl) ?_
          refine M_iast hL C0 hw h (k := ((((48 : Int32) * a1) + ((16 : Int32) * a2)) + a3).toNatClampNeg) rfl dX12_eye_65 (fun t23 H locs hw h => ?_)
          refine lv_aload_n hx hb dX12_eye_66 rfl (lv_at hl 0 rfl) ?_
          refine lv_iconst (v := 0) hx hb dX12_eye_67 (by decide) ?_
          refine M_p0_9 hL C0 hw (fun w h => (List.mem_cons_of_mem _ (List.mem_append_right _ h))) (by decide) h ((List.mem_cons_of_mem _ (List.mem_append_left _ (List.mem_of_getElem? (i := 2) rfl)))) dX12_eye_68 (fun t24 H locs hw h => ?_)
          refine lv_iconst (v := 1) hx hb dX12_eye_71 (by decide) ?_
          cases h
          exact W.zret hx hb hr rfl (M_fin C0 hw) hw.2.2.2 dX12_eye_72 hlocks
        · have h := ifp h hc22
          refine lv_aload_n hx hb dX12_eye_42 rfl (lv_at hl 0 rfl) ?_
          refine lv_iconst (v := 3) hx hb dX12_eye_43 (by decide) ?_
          obtain ⟨⟨v25, t26⟩, hf27, h⟩ := bn_c h
          have h := un2_d h
          refine M_callV C0 hw (As := [.int (3 : Int32)]) (rest := []) (mX12_not l E hL t1 hf27) (cwV 1 C0.1.2.2.2.2 gX12_eye_X12_not rfl rfl rfl (by decide +kernel) ⟨Nat.le_of_ble_eq_true rfl, Nat.le_of_ble_eq_true rfl⟩) (M_recv_0 C0 hw (by decide)) rfl hl.1 rfl (Nat.le_of_ble_eq_true rfl) dX12_eye_44 ⟨Nat.zero_le _, Nat.zero_le _⟩ (fun H locs hw => ?_)
          refine W.eq (g2 := F0 m 47 ls [.int v25]) rfl ?_
          obtain ⟨hz, h⟩ := ck_c h
          cases h
          exact W.zret hx hb hr (zz hz) (M_fin C0 hw) hw.2.2.2 dX12_eye_47 hlocks

def fX12_measure (a1 : Int32) (a2 : Int32) (a3 : Int32) (st : Sto) : Option (Int32 × Sto) :=
  lt1 (sI st 0 (0) 10 (0 : Int32)) fun (t1 : Sto) =>
  if a1 < (1 : Int32) then (
   (fX12_not (3 : Int32) t1).bind (un2 fun (v3 : Int32) (t4 : Sto) =>
    ck (v3 &&& 1 = v3) (
     some (v3, t4)))) else (
   if (100 : Int32) < a1 then (
    (fX12_not (3 : Int32) t1).bind (un2 fun (v7 : Int32) (t8 : Sto) =>
     ck (v7 &&& 1 = v7) (
      some (v7, t8)))) else (
    if a2 < (1 : Int32) then (
     (fX12_not (3 : Int32) t1).bind (un2 fun (v11 : Int32) (t12 : Sto) =>
      ck (v11 &&& 1 = v11) (
       some (v11, t12)))) else (
     if (100 : Int32) < a2 then (
      (fX12_not (3 : Int32) t1).bind (un2 fun (v15 : Int32) (t16 : Sto) =>
       ck (v15 &&& 1 = v15) (
        some (v15, t16)))) else (
      if a3 < (1 : Int32) then (
       (fX12_not (3 : Int32) t1).bind (un2 fun (v19 : Int32) (t20 : Sto) =>
        ck (v19 &&& 1 = v19) (
         some (v19, t20)))) else (
       if a3 ≤ (100 : Int32) then (
        lt1 (sI t1 (29) (0) (0) a1) fun (t23 : Sto) =>
        lt1 (sI t23 (29) (0) (1) a2) fun (t24 : Sto) =>
        lt1 (sI t24 (29) (0) (2) a3) fun (t25 : Sto) =>
        lt1 (sI t25 0 (0) 9 (0 : Int32)) fun (t26 : Sto) =>
        some ((1 : Int32), t26)) else (
        (fX12_not (3 : Int32) t1).bind (un2 fun (v27 : Int32) (t28 : Sto) =>
         ck (v27 &&& 1 = v27) (
          some (v27, t28)))))))))
set_option maxHeartbeats 4000000 in
set_option maxRecDepth 100000 in
theorem mX12_measure (l : Launch) (E : XE) (hL : LM E) (st : Sto) {a1 : Int32} {a2 : Int32} {a3 : Int32} {r : Int32} {st1 : Sto} (h : fX12_measure a1 a2 a3 st = some (r, st1)) : Met l yX12_measure wsX12_measure ({ frames := 1, cells := 0, slots := 0, locals := 21 }) (va_Pc [.ref (E.2.2.1 0 (0)), .int a1, .int a2, .int a3] (RM E st)) (QM E (some (.int r)) st1) 0 0 E.2.2.2 := by
  refine Met.ofW (cc := cX12_measure) (maxL := 4) (ret := (some .boolean)) (by decide) rfl ?_
  intro p e s m args below meth c s₁ B hml hv
  obtain ⟨rfl, hP, hK⟩ := hv
  have hown : s.vm.findClass RX12 = some m.cls := findClass_of_methodNamed B.named
  have C0 : CX p m c cX12_measure 4 s _ wsX12_measure RX12 E := ⟨⟨B.exec, B.bytes, hml, hown, atoms_spec (ws := wsX12_measure) B.pre⟩, hK⟩
  have hx := B.exec
  have hb := B.bytes
  have hr := B.returns
  have hlocks := B.notSynchronized
  have hw : SM E s st s.heap [] := ⟨hP, va_S.rf⟩
  have hl := lv_entry ([.ref (E.2.2.1 0 (0)), .int a1, .int a2, .int a3]) (n := 4) (Nat.le_of_ble_eq_true rfl)
  rw [lg_entry_eq]
  generalize (lg_sl ([.ref (E.2.2.1 0 (0)), .int a1, .int a2, .int a3]) ++ List.replicate (4 - (lg_sl ([.ref (E.2.2.1 0 (0)), .int a1, .int a2, .int a3])).length) Slot.unset).toArray = ls at hl ⊢
  have hl : lv_has ls 4 [(0, .ref (E.2.2.1 0 (0))), (1, .int a1), (2, .int a2), (3, .int a3)] := hl
  unfold fX12_measure at h
  refine lv_aload_n hx hb dX12_measure_0 rfl (lv_at hl 0 rfl) ?_
  refine lv_iconst (v := 0) hx hb dX12_measure_1 (by decide) ?_
  refine M_p0_10 hL C0 hw (fun w h => (List.mem_cons_of_mem _ (List.mem_append_right _ h))) (by decide) h ((List.mem_cons_of_mem _ (List.mem_append_left _ (List.mem_of_getElem? (i := 0) rfl)))) dX12_measure_2 (fun t1 H locs hw h => ?_)
  refine lv_iload_n hx hb dX12_measure_5 rfl (lv_at hl 1 rfl) ?_
  refine lv_iconst (v := 1) hx hb dX12_measure_6 (by decide) ?_
  refine lv_icmp_lt (tgt := 38) hx hb dX12_measure_7 (by decide) (fun hc2 => ?_) (fun hc2 => ?_)
  · have h := ifp h hc2
    refine lv_aload_n hx hb dX12_measure_38 rfl (lv_at hl 0 rfl) ?_
    refine lv_iconst (v := 3) hx hb dX12_measure_39 (by decide) ?_
    obtain ⟨⟨v3, t4⟩, hf5, h⟩ := bn_c h
    have h := un2_d h
    refine M_callV C0 hw (As := [.int (3 : Int32)]) (rest := []) (mX12_not l E hL t1 hf5) (cwV 1 C0.1.2.2.2.2 gX12_measure_X12_not rfl rfl rfl (by decide +kernel) ⟨Nat.le_of_ble_eq_true rfl, Nat.le_of_ble_eq_true rfl⟩) (M_recv_0 C0 hw (by decide)) rfl hl.1 rfl (Nat.le_of_ble_eq_true rfl) dX12_measure_40 ⟨Nat.zero_le _, Nat.zero_le _⟩ (fun H locs hw => ?_)
    refine W.eq (g2 := F0 m 43 ls [.int v3]) rfl ?_
    obtain ⟨hz, h⟩ := ck_c h
    cases h
    exact W.zret hx hb hr (zz hz) (M_fin C0 hw) hw.2.2.2 dX12_measure_43 hlocks
  · have h := ifn h hc2
    refine lv_iload_n hx hb dX12_measure_10 rfl (lv_at hl 1 rfl) ?_
    refine lv_bipush (v := 100) hx hb dX12_measure_11 (by decide) ?_
    refine lv_icmp_gt (tgt := 38) hx hb dX12_measure_13 (by decide) (fun hc6 => ?_) (fun hc6 => ?_)
    · have h := ifp h hc6
      refine lv_aload_n hx hb dX12_measure_38 rfl (lv_at hl 0 rfl) ?_
      refine lv_iconst (v := 3) hx hb dX12_measure_39 (by decide) ?_
      obtain ⟨⟨v7, t8⟩, hf9, h⟩ := bn_c h
      have h := un2_d h
      refine M_callV C0 hw (As := [.int (3 : Int32)]) (rest := []) (mX12_not l E hL t1 hf9) (cwV 1 C0.1.2.2.2.2 gX12_measure_X12_not rfl rfl rfl (by decide +kernel) ⟨Nat.le_of_ble_eq_true rfl, Nat.le_of_ble_eq_true rfl⟩) (M_recv_0 C0 hw (by decide)) rfl hl.1 rfl (Nat.le_of_ble_eq_true rfl) dX12_measure_40 ⟨Nat.zero_le _, Nat.zero_le _⟩ (fun H locs hw => ?_)
      refine W.eq (g2 := F0 m 43 ls [.int v7]) rfl ?_
      obtain ⟨hz, h⟩ := ck_c h
      cases h
      exact W.zret hx hb hr (zz hz) (M_fin C0 hw) hw.2.2.2 dX12_measure_43 hlocks
    · have h := ifn h hc6
      refine lv_iload_n hx hb dX12_measure_16 rfl (lv_at hl 2 rfl) ?_
      refine lv_iconst (v := 1) hx hb dX12_measure_17 (by decide) ?_
      refine lv_icmp_lt (tgt := 38) hx hb dX12_measure_18 (by decide) (fun hc10 => ?_) (fun hc10 => ?_)
      · have h := ifp h hc10
        refine lv_aload_n hx hb dX12_measure_38 rfl (lv_at hl 0 rfl) ?_
        refine lv_iconst (v := 3) hx hb dX12_measure_39 (by decide) ?_
        obtain ⟨⟨v11, t12⟩, hf13, h⟩ := bn_c h
        have h := un2_d h
        refine M_callV C0 hw (As := [.int (3 : Int32)]) (rest := []) (mX12_not l E hL t1 hf13) (cwV 1 C0.1.2.2.2.2 gX12_measure_X12_not rfl rfl rfl (by decide +kernel) ⟨Nat.le_of_ble_eq_true rfl, Nat.le_of_ble_eq_true rfl⟩) (M_recv_0 C0 hw (by decide)) rfl hl.1 rfl (Nat.le_of_ble_eq_true rfl) dX12_measure_40 ⟨Nat.zero_le _, Nat.zero_le _⟩ (fun H locs hw => ?_)
        refine W.eq (g2 := F0 m 43 ls [.int v11]) rfl ?_
        obtain ⟨hz, h⟩ := ck_c h
        cases h
        exact W.zret hx hb hr (zz hz) (M_fin C0 hw) hw.2.2.2 dX12_measure_43 hlocks
      · have h := ifn h hc10
        refine lv_iload_n hx hb dX12_measure_21 rfl (lv_at hl 2 rfl) ?_
        refine lv_bipush (v := 100) hx hb dX12_measure_22 (by decide) ?_
        refine lv_icmp_gt (tgt := 38) hx hb dX12_measure_24 (by decide) (fun hc14 => ?_) (fun hc14 => ?_)
        · have h := ifp h hc14
          refine lv_aload_n hx hb dX12_measure_38 rfl (lv_at hl 0 rfl) ?_
          refine lv_iconst (v := 3) hx hb dX12_measure_39 (by decide) ?_
          obtain ⟨⟨v15, t16⟩, hf17, h⟩ := bn_c h
          have h := un2_d h
          refine M_callV C0 hw (As := [.int (3 : Int32)]) (rest := []) (mX12_not l E hL t1 hf17) (cwV 1 C0.1.2.2.2.2 gX12_measure_X12_not rfl rfl rfl (by decide +kernel) ⟨Nat.le_of_ble_eq_true rfl, Nat.le_of_ble_eq_true rfl⟩) (M_recv_0 C0 hw (by decide)) rfl hl.1 rfl (Nat.le_of_ble_eq_true rfl) dX12_measure_40 ⟨Nat.zero_le _, Nat.zero_le _⟩ (fun H locs hw => ?_)
          refine W.eq (g2 := F0 m 43 ls [.int v15]) rfl ?_
          obtain ⟨hz, h⟩ := ck_c h
          cases h
          exact W.zret hx hb hr (zz hz) (M_fin C0 hw) hw.2.2.2 dX12_measure_43 hlocks
        · have h := ifn h hc14
          refine lv_iload_n hx hb dX12_measure_27 rfl (lv_at hl 3 rfl) ?_
          refine lv_iconst (v := 1) hx hb dX12_measure_28 (by decide) ?_
          refine lv_icmp_lt (tgt := 38) hx hb dX12_measure_29 (by decide) (fun hc18 => ?_) (fun hc18 => ?_)
          · have h := ifp h hc18
            refine lv_aload_n hx hb dX12_measure_38 rfl (lv_at hl 0 rfl) ?_
            refine lv_iconst (v := 3) hx hb dX12_measure_39 (by decide) ?_
            obtain ⟨⟨v19, t20⟩, hf21, h⟩ := bn_c h
            have h := un2_d h
            refine M_callV C0 hw (As := [.int (3 : Int32)]) (rest := []) (mX12_not l E hL t1 hf21) (cwV 1 C0.1.2.2.2.2 gX12_measure_X12_not rfl rfl rfl (by decide +kernel) ⟨Nat.le_of_ble_eq_true rfl, Nat.le_of_ble_eq_true rfl⟩) (M_recv_0 C0 hw (by decide)) rfl hl.1 rfl (Nat.le_of_ble_eq_true rfl) dX12_measure_40 ⟨Nat.zero_le _, Nat.zero_le _⟩ (fun H locs hw => ?_)
            refine W.eq (g2 := F0 m 43 ls [.int v19]) rfl ?_
            obtain ⟨hz, h⟩ := ck_c h
            cases h
            exact W.zret hx hb hr (zz hz) (M_fin C0 hw) hw.2.2.2 dX12_measure_43 hlocks
          · have h := ifn h hc18
            refine lv_iload_n hx hb dX12_measure_32 rfl (lv_at hl 3 rfl) ?_
            refine lv_bipush (v := 100) hx hb dX12_measure_33 (by decide) ?_
            refine lv_icmp_le (tgt := 44) hx hb dX12_measure_35 (by decide) (fun hc22 => ?_) (fun hc22 => ?_)
            · have h := ifp h hc22
              refine lv_aload_n hx hb dX12_measure_44 rfl (lv_at hl 0 rfl) ?_
              refine M_g0_28 C0 hw (fun w h => (List.mem_cons_of_mem _ (List.mem_append_right _ h))) (by decide) ((List.mem_cons_of_mem _ (List.mem_append_left _ (List.mem_of_getElem? (i := 1) rfl)))) dX12_measure_45 ?_
              refine lv_iconst (v := 0) hx hb dX12_measure_48 (by decide) ?_
              refine lv_iload_n hx hb dX12_measure_49 rfl (lv_at hl 1 rfl) ?_
              refine M_iastL hL C0 hw h (vp_in_iff.mpr (by decide +kernel)) (k := 0) rfl dX12_measure_50 (fun t23 H locs hw h => ?_)
              refine lv_aload_n hx hb dX12_measure_51 rfl (lv_at hl 0 rfl) ?_
              refine M_g0_28 C0 hw (fun w h => (List.mem_cons_of_mem _ (List.mem_append_right _ h))) (by decide) ((List.mem_cons_of_mem _ (List.mem_append_left _ (List.mem_of_getElem? (i := 1) rfl)))) dX12_measure_52 ?_
              refine lv_iconst (v := 1) hx hb dX12_measure_55 (by decide) ?_
              refine lv_iload_n hx hb dX12_measure_56 rfl (lv_at hl 2 rfl) ?_
              refine M_iastL hL C0 hw h (vp_in_iff.mpr (by decide +kernel)) (k := 1) rfl dX12_measure_57 (fun t24 H locs hw h => ?_)
              refine lv_aload_n hx hb dX12_measure_58 rfl (lv_at hl 0 rfl) ?_
              refine M_g0_28 C0 hw (fun w h => (List.mem_cons_of_mem _ (List.mem_append_right _ h))) (by decide) ((List.mem_cons_of_mem _ (List.mem_append_left _ (List.mem_of_getElem? (i := 1) rfl)))) dX12_measure_59 ?_
              refine lv_iconst (v := 2) hx hb dX12_measure_62 (by decide) ?_
              refine lv_iload_n hx hb dX12_measure_63 rfl (lv_at hl 3 rfl) ?_
              refine M_iastL hL C0 hw h (vp_in_iff.mpr (by decide +kernel)) (k := 2) rfl dX12_measure_64 (fun t25 H locs hw h => ?_)
              refine lv_aload_n hx hb dX12_measure_65 rfl (lv_at hl 0 rfl) ?_
              refine lv_iconst (v := 0) hx hb dX12_measure_66 (by decide) ?_
              refine M_p0_9 hL C0 hw (fun w h => (List.mem_cons_of_mem _ (List.mem_append_right _ h))) (by decide) h ((List.mem_cons_of_mem _ (List.mem_append_left _ (List.mem_of_getElem? (i := 2) rfl)))) dX12_measure_67 (fun t26 H locs hw h => ?_)
              refine lv_iconst (v := 1) hx hb dX12_measure_70 (by decide) ?_
              cases h
              exact W.zret hx hb hr rfl (M_fin C0 hw) hw.2.2.2 dX12_measure_71 hlocks
            · have h := ifn h hc22
              refine lv_aload_n hx hb dX12_measure_38 rfl (lv_at hl 0 rfl) ?_
              refine lv_iconst (v := 3) hx hb dX12_measure_39 (by decide) ?_
              obtain ⟨⟨v27, t28⟩, hf29, h⟩ := bn_c h
              have h := un2_d h
              refine M_callV C0 hw (As := [.int (3 : Int32)]) (rest := []) (mX12_not l E hL t1 hf29) (cwV 1 C0.1.2.2.2.2 gX12_measure_X12_not rfl rfl rfl (by decide +kernel) ⟨Nat.le_of_ble_eq_true rfl, Nat.le_of_ble_eq_true rfl⟩) (M_recv_0 C0 hw (by decide)) rfl hl.1 rfl (Nat.le_of_ble_eq_true rfl) dX12_measure_40 ⟨Nat.zero_le _, Nat.zero_le _⟩ (fun H locs hw => ?_)
              refine W.eq (g2 := F0 m 43 ls [.int v27]) rfl ?_
              obtain ⟨hz, h⟩ := ck_c h
              cases h
              exact W.zret hx hb hr (zz hz) (M_fin C0 hw) hw.2.2.2 dX12_measure_43 hlocks
