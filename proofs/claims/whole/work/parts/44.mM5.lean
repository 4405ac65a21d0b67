def fX12_insideOf (a1 : Int32) (a2 : Int32) (st : Sto) : Option Int32 :=
  ((lp (σ := (Int32 × UInt64 × Int32)) (ρ := (Int32 ⊕ (Int32 × UInt64))) (un3 fun (v4 : Int32) (v5 : UInt64) (v6 : Int32) =>
     if (3 : Int32) ≤ v4 then (
      some (.inr (.inr (v6, v5)))) else (
      ck (0 ≤ a1.toInt ∧ a1.toInt < (lIM (35) (0) : Int)) (
       ck (0 ≤ a1.toInt ∧ a1.toInt < (lIM (36) (0) : Int)) (
        (fX12_colourOf a2 (gI st (35) (0) (a1.toNatClampNeg)) (gI st (36) (0) (a1.toNatClampNeg)) v4 st).bind (fun (v14 : UInt64) =>
         ck (0 ≤ (((3 : Int32) * a1) + v4).toInt ∧ (((3 : Int32) * a1) + v4).toInt < (lDM (37) (0) : Int)) (
          nd (FP.dsub v14 (gD st (37) (0) ((((3 : Int32) * a1) + v4).toNatClampNeg))) fun (v16 : UInt64) =>
          ck (0 ≤ (((3 : Int32) * a1) + v4).toInt ∧ (((3 : Int32) * a1) + v4).toInt < (lDM (38) (0) : Int)) (
           lt1 (gD st (38) (0) ((((3 : Int32) * a1) + v4).toNatClampNeg)) fun (v17 : UInt64) =>
           ck (0 ≤ a1.toInt ∧ a1.toInt < (lIM (34) (0) : Int)) (
            jn (fun (_u : Unit) =>
             jn (fun (_u : Unit) =>
              if v4 = 0 then (
               nd (FP.dmul v16 v16) fun (v30 : UInt64) =>
               nd (FP.dmul v17 v17) fun (v31 : UInt64) =>
               nd (FP.ddiv v30 v31) fun (v32 : UInt64) =>
               lt1 (v4 + Int32.ofInt (1)) fun (v33 : Int32) =>
               some (.inl (v33, v32, (1 : Int32)))) else (
               nd (FP.dmul v16 v16) fun (v25 : UInt64) =>
               nd (FP.dmul v17 v17) fun (v26 : UInt64) =>
               nd (FP.ddiv v25 v26) fun (v27 : UInt64) =>
               nd (FP.dadd v5 v27) fun (v28 : UInt64) =>
               lt1 (v4 + Int32.ofInt (1)) fun (v29 : Int32) =>
               some (.inl (v29, v28, (1 : Int32))))) fun K21 =>
             if v6 = 0 then (
              if Op.cmpValue (FP.dcmp v16 v17) CmpOp.l = 0 then (
               K21 ()) else (
               if Op.cmpValue (FP.dcmp v16 (FP.dneg v17)) CmpOp.l = 0 then (
                K21 ()) else (
                if v4 = 0 then (
                 nd (FP.dmul v16 v16) fun (v43 : UInt64) =>
                 nd (FP.dmul v17 v17) fun (v44 : UInt64) =>
                 nd (FP.ddiv v43 v44) fun (v45 : UInt64) =>
                 lt1 (v4 + Int32.ofInt (1)) fun (v46 : Int32) =>
                 some (.inl (v46, v45, (0 : Int32)))) else (
                 nd (FP.dmul v16 v16) fun (v38 : UInt64) =>
                 nd (FP.dmul v17 v17) fun (v39 : UInt64) =>
                 nd (FP.ddiv v38 v39) fun (v40 : UInt64) =>
                 nd (FP.dadd v5 v40) fun (v41 : UInt64) =>
                 lt1 (v4 + Int32.ofInt (1)) fun (v42 : Int32) =>
                 some (.inl (v42, v41, (0 : Int32))))))) else (
              K21 ())) fun K18 =>
            if gI st (34) (0) (a1.toNatClampNeg) = 0 then (
             if 0 < Op.cmpValue (FP.dcmp v16 v17) CmpOp.l then (
              some (.inr (.inl (0 : Int32)))) else (
              if 0 ≤ Op.cmpValue (FP.dcmp v16 (FP.dneg v17)) CmpOp.g then (
               K18 ()) else (
               some (.inr (.inl (0 : Int32)))))) else (
             K18 ()))))))))) 4000 ((0 : Int32), FP.dconst0, (0 : Int32))).bind
   (sm (fun (q : Int32) => some q) (un2 fun (v7 : Int32) (v8 : UInt64) =>
     ck (0 ≤ a1.toInt ∧ a1.toInt < (lIM (34) (0) : Int)) (
      if gI st (34) (0) (a1.toNatClampNeg) = 0 then (
       if v7 = 0 then (
        some (1 : Int32)) else (
        some (2 : Int32))) else (
       if 0 ≤ Op.cmpValue (FP.dcmp v8 FP.dconst1) CmpOp.g then (
        if Op.cmpValue (FP.dcmp v8 FP.dconst1) CmpOp.l = 0 then (
         some (2 : Int32)) else (
         some (0 : Int32))) else (
        some (1 : Int32)))))))
set_option maxHeartbeats 4000000 in
set_option maxRecDepth 100000 in
theorem mX12_insideOf (l : Launch) (E : XE) (hL : LM E) (st : Sto) {a1 : Int32} {a2 : Int32} {r : Int32} (h : fX12_insideOf a1 a2 st = some r) : Met l yX12_insideOf wsX12_insideOf ({ frames := 5, cells := 0, slots := 0, locals := 135 }) (va_Pc [.ref (E.2.2.1 0 (0)), .int a1, .int a2] (RM E st)) (QM E (some (.int r)) st) 0 0 E.2.2.2 := by
  refine Met.ofW (cc := cX12_insideOf) (maxL := 11) (ret := (some .int)) (by decide) rfl ?_
  intro p e s m args below meth c s₁ B hml hv
  obtain ⟨rfl, hP, hK⟩ := hv
  have hown : s.vm.findClass RX12 = some m.cls := findClass_of_methodNamed B.named
  have C0 : CX p m c cX12_insideOf 11 s _ wsX12_insideOf RX12 E := ⟨⟨B.exec, B.bytes, hml, hown, atoms_spec (ws := wsX12_insideOf) B.pre⟩, hK⟩
  have hx := B.exec
  have hb := B.bytes
  have hr := B.returns
  have hlocks := B.notSynchronized
  have hw : SM E s st s.heap [] := ⟨hP, va_S.rf⟩
  have hl := lv_entry ([.ref (E.2.2.1 0 (0)), .int a1, .int a2]) (n := 11) (Nat.le_of_ble_eq_true rfl)
  rw [lg_entry_eq]
  generalize (lg_sl ([.ref (E.2.2.1 0 (0)), .int a1, .int a2]) ++ List.replicate (11 - (lg_sl ([.ref (E.2.2.1 0 (0)), .int a1, .int a2])).length) Slot.unset).toArray = ls at hl ⊢
  have hl : lv_has ls 11 [(0, .ref (E.2.2.1 0 (0))), (1, .int a1), (2, .int a2)] := hl
  unfold fX12_insideOf at h
  refine lv_iconst (v := 0) hx hb dX12_insideOf_0 (by decide) ?_
  refine lv_istore_n (lv' := [(3, .int (0 : Int32)), (0, .ref (E.2.2.1 0 (0))), (1, .int a1), (2, .int a2)]) hx hb dX12_insideOf_1 rfl hl (by decide) rfl (fun ls hl => ?_)
  refine lv_dconst0 hx hb dX12_insideOf_2 ?_
  refine lv_dstore (lv' := [(4, .double FP.dconst0), (3, .int (0 : Int32)), (0, .ref (E.2.2.1 0 (0))), (1, .int a1), (2, .int a2)]) hx hb dX12_insideOf_3 hl (by decide) rfl (fun ls hl => ?_)
  refine lv_iconst (v := 0) hx hb dX12_insideOf_5 (by decide) ?_
  refine lv_istore (lv' := [(6, .int (0 : Int32)), (4, .double FP.dconst0), (3, .int (0 : Int32)), (0, .ref (E.2.2.1 0 (0))), (1, .int a1), (2, .int a2)]) hx hb dX12_insideOf_6 hl (by decide) rfl (fun ls hl => ?_)
  refine lp_ind (fun q : (Int32 × UInt64 × Int32) => ∀ (H : Heap) (locs : List Loc), SM E s st H locs → ∀ ls : Array Slot, lv_has ls 11 [(6, .int (q.1)), (4, .double (q.2.1)), (3, .int (q.2.2)), (0, .ref (E.2.2.1 0 (0))), (1, .int a1), (2, .int a2)] → W p l e (headSpec wsX12_insideOf ({ frames := 5, cells := 0, slots := 0, locals := 135 })).room s m ([.ref (E.2.2.1 0 (0)), .int a1, .int a2] : List Value).toArray below meth c H locs 0 0 (MQ below (QM E (some (.int r)) st) ([.ref (E.2.2.1 0 (0)), .int a1, .int a2] : List Value).toArray s 0 0 E.2.2.2) (F0 m 8 ls [])) (fun q o3 h hB2 hX1 => ?_) _ _ h _ _ hw _ (lv_sub hl [0, 1, 2, 3, 4, 5] rfl)
  intro H locs hw ls hl
  obtain ⟨v4, v5, v6⟩ := q
  have h := un3_d h
  have hl : lv_has ls 11 [(6, .int v4), (4, .double v5), (3, .int v6), (0, .ref (E.2.2.1 0 (0))), (1, .int a1), (2, .int a2)] := hl
  refine lv_iload hx hb dX12_insideOf_8 (lv_at hl 0 rfl) ?_
  refine lv_iconst (v := 3) hx hb dX12_insideOf_10 (by decide) ?_
  refine lv_icmp_ge (tgt := 156) hx hb dX12_insideOf_11 (by decide) (fun hc9 => ?_) (fun hc9 => ?_)
  · have h := ifp h hc9
    have h := hX1 _ (Option.some.inj h).symm
    have h := sm_r h
    have h := un2_d h
    have hl := lv_sub hl (l' := [(0, .ref (E.2.2.1 0 (0))), (1, .int a1), (3, .int v6), (4, .double v5)]) [3, 4, 2, 1] rfl
    refine lv_aload_n hx hb dX12_insideOf_156 rfl (lv_at hl 0 rfl) ?_
    refine M_g0_33 C0 hw (fun w h => (List.mem_cons_of_mem _ (List.mem_append_right _ h))) (by decide) ((List.mem_cons_of_mem _ (List.mem_append_left _ (List.mem_append_left _ (List.mem_of_getElem? (i := 4) rfl))))) dX12_insideOf_157 ?_
    refine lv_iload_n hx hb dX12_insideOf_160 rfl (lv_at hl 1 rfl) ?_
    refine M_iald C0 hw h (k := a1.toNatClampNeg) rfl dX12_insideOf_161 (fun h => ?_)
    refine lv_if_ne (tgt := 175) hx hb dX12_insideOf_162 (by decide) (fun hc10 => ?_) (fun hc10 => ?_)
    · have h := ifn h hc10
      refine lv_dload hx hb dX12_insideOf_175 (lv_at hl 3 rfl) ?_
      refine lv_dconst1 hx hb dX12_insideOf_177 ?_
      refine lv_dcmp hx hb dX12_insideOf_178 ?_
      refine lv_if_ge (tgt := 186) hx hb dX12_insideOf_179 (by decide) (fun hc11 => ?_) (fun hc11 => ?_)
      · have h := ifp h hc11
        refine lv_dload hx hb dX12_insideOf_186 (lv_at hl 3 rfl) ?_
        refine lv_dconst1 hx hb dX12_insideOf_188 ?_
        refine lv_dcmp hx hb dX12_insideOf_189 ?_
        refine lv_if_ne (tgt := 197) hx hb dX12_insideOf_190 (by decide) (fun hc12 => ?_) (fun hc12 => ?_)
        · have h := ifn h hc12
          refine lv_iconst (v := 0) hx hb dX12_insideOf_197 (by decide) ?_
          cases h
          exact W.iret hx hb hr (M_fin C0 hw) hw.2.2.2 dX12_insideOf_198 hlocks
        · have h := ifp h hc12
          refine lv_iconst (v := 2) hx hb dX12_insideOf_193 (by decide) ?_
          refine lv_goto (tgt := 198) hx hb dX12_insideOf_194 (by decide) ?_
          cases h
          exact W.iret hx hb hr (M_fin C0 hw) hw.2.2.2 dX12_insideOf_198 hlocks
      · have h := ifn h hc11
        refine lv_iconst (v := 1) hx hb dX12_insideOf_182 (by decide) ?_
        refine lv_goto (tgt := 198) hx hb dX12_insideOf_183 (by decide) ?_
        cases h
        exact W.iret hx hb hr (M_fin C0 hw) hw.2.2.2 dX12_insideOf_198 hlocks
    · have h := ifp h hc10
      refine lv_iload_n hx hb dX12_insideOf_165 rfl (lv_at hl 2 rfl) ?_
      refine lv_if_eq (tgt := 173) hx hb dX12_insideOf_166 (by decide) (fun hc13 => ?_) (fun hc13 => ?_)
      · have h := ifp h hc13
        refine lv_iconst (v := 1) hx hb dX12_insideOf_173 (by decide) ?_
        cases h
        exact W.iret hx hb hr (M_fin C0 hw) hw.2.2.2 dX12_insideOf_174 hlocks
      · have h := ifn h hc13
        refine lv_iconst (v := 2) hx hb dX12_insideOf_169 (by decide) ?_
        refine lv_goto (tgt := 174) hx hb dX12_insideOf_170 (by decide) ?_
        cases h
        exact W.iret hx hb hr (M_fin C0 hw) hw.2.2.2 dX12_insideOf_174 hlocks
  · have h := ifn h hc9
    refine lv_aload_n hx hb dX12_insideOf_14 rfl (lv_at hl 3 rfl) ?_
    refine lv_iload_n hx hb dX12_insideOf_15 rfl (lv_at hl 5 rfl) ?_
    refine lv_aload_n hx hb dX12_insideOf_16 rfl (lv_at hl 3 rfl) ?_
    refine M_g0_34 C0 hw (fun w h => (List.mem_cons_of_mem _ (List.mem_append_right _ h))) (by decide) ((List.mem_cons_of_mem _ (List.mem_append_left _ (List.mem_append_left _ (List.mem_of_getElem? (i := 0) rfl))))) dX12_insideOf_17 ?_
    refine lv_iload_n hx hb dX12_insideOf_20 rfl (lv_at hl 4 rfl) ?_
    refine M_iald C0 hw h (k := a1.toNatClampNeg) rfl dX12_insideOf_21 (fun h => ?_)
    refine lv_aload_n hx hb dX12_insideOf_22 rfl (lv_at hl 3 rfl) ?_
    refine M_g0_35 C0 hw (fun w h => (List.mem_cons_of_mem _ (List.mem_append_right _ h))) (by decide) ((List.mem_cons_of_mem _ (List.mem_append_left _ (List.mem_append_left _ (List.mem_of_getElem? (i := 1) rfl))))) dX12_insideOf_23 ?_
    refine lv_iload_n hx hb dX12_insideOf_26 rfl (lv_at hl 4 rfl) ?_
    refine M_iald C0 hw h (k := a1.toNatClampNeg) rfl dX12_insideOf_27 (fun h => ?_)
    refine lv_iload hx hb dX12_insideOf_28 (lv_at hl 0 rfl) ?_
    obtain ⟨v14, hf15, h⟩ := bn_c h
    refine M_callV C0 hw (As := [.int a2, .int (gI st (35) (0) (a1.toNatClampNeg)), .int (gI st (36) (0) (a1.toNatClampNeg)), .int v4]) (rest := []) (mX12_colourOf l E hL st hf15) (cwV 4 C0.1.2.2.2.2 gX12_insideOf_X12_colourOf rfl rfl rfl (by decide +kernel) ⟨Nat.le_of_ble_eq_true rfl, Nat.le_of_ble_eq_true rfl⟩) (M_recv_0 C0 hw (by decide)) rfl hl.1 rfl (Nat.le_of_ble_eq_true rfl) dX12_insideOf_30 ⟨Nat.zero_le _, Nat.zero_le _⟩ (fun H locs hw => ?_)
    refine W.eq (g2 := F0 m 33 ls [.double v14]) rfl ?_
    refine lv_aload_n hx hb dX12_insideOf_33 rfl (lv_at hl 3 rfl) ?_
    refine M_g0_36 C0 hw (fun w h => (List.mem_cons_of_mem _ (List.mem_append_right _ h))) (by decide) ((List.mem_cons_of_mem _ (List.mem_append_left _ (List.mem_append_left _ (List.mem_of_getElem? (i := 2) rfl))))) dX12_insideOf_34 ?_
    refine lv_iconst (v := 3) hx hb dX12_insideOf_37 (by decide) ?_
    refine lv_iload_n hx hb dX12_insideOf_38 rfl (lv_at hl 4 rfl) ?_
    refine lv_imul hx hb dX12_insideOf_39 ?_
    refine lv_iload hx hb dX12_insideOf_40 (lv_at hl 0 rfl) ?_
    refine lv_iadd hx hb dX12_insideOf_42 ?_
    refine M_dald C0 hw h (k := (((3 : Int32) * a1) + v4).toNatClampNeg) rfl dX12_insideOf_43 (fun h => ?_)
    refine x_dsub hx hb h dX12_insideOf_44 (fun v16 h => ?_)
    refine lv_dstore (lv' := [(7, .double v16), (6, .int v4), (4, .double v5), (3, .int v6), (0, .ref (E.2.2.1 0 (0))), (1, .int a1), (2, .int a2)]) hx hb dX12_insideOf_45 hl (by decide) rfl (fun ls hl => ?_)
    refine lv_aload_n hx hb dX12_insideOf_47 rfl (lv_at hl 4 rfl) ?_
    refine M_g0_37 C0 hw (fun w h => (List.mem_cons_of_mem _ (List.mem_append_right _ h))) (by decide) ((List.mem_cons_of_mem _ (List.mem_append_left _ (List.mem_append_left _ (List.mem_of_getElem? (i := 3) rfl))))) dX12_insideOf_48 ?_
    refine lv_iconst (v := 3) hx hb dX12_insideOf_51 (by decide) ?_
    refine lv_iload_n hx hb dX12_insideOf_52 rfl (lv_at hl 5 rfl) ?_
    refine lv_imul hx hb dX12_insideOf_53 ?_
    refine lv_iload hx hb dX12_insideOf_54 (lv_at hl 1 rfl) ?_
    refine lv_iadd hx hb dX12_insideOf_56 ?_
    refine M_dald C0 hw h (k := (((3 : Int32) * a1) + v4).toNatClampNeg) rfl dX12_insideOf_57 (fun h => ?_)
    refine x_topd h (fun v17 h => ?_)
    refine lv_dstore (lv' := [(9, .double v17), (7, .double v16), (6, .int v4), (4, .double v5), (3, .int v6), (0, .ref (E.2.2.1 0 (0))), (1, .int a1), (2, .int a2)]) hx hb dX12_insideOf_58 hl (by decide) rfl (fun ls hl => ?_)
    refine lv_aload_n hx hb dX12_insideOf_60 rfl (lv_at hl 5 rfl) ?_
    refine M_g0_33 C0 hw (fun w h => (List.mem_cons_of_mem _ (List.mem_append_right _ h))) (by decide) ((List.mem_cons_of_mem _ (List.mem_append_left _ (List.mem_append_left _ (List.mem_of_getElem? (i := 4) rfl))))) dX12_insideOf_61 ?_
    refine lv_iload_n hx hb dX12_insideOf_64 rfl (lv_at hl 6 rfl) ?_
    refine M_iald C0 hw h (k := a1.toNatClampNeg) rfl dX12_insideOf_65 (fun h => ?_)
    refine jn_c h (fun K18 hK20 h => ?_)
    have HJ19 : ∀ (_u : Unit), K18 _u = some o3 → ∀ (H : Heap) (locs : List Loc), SM E s st H locs → ∀ ls : Array Slot, lv_has ls 11 [(9, .double v17), (7, .double v16), (6, .int v4), (4, .double v5), (3, .int v6), (0, .ref (E.2.2.1 0 (0))), (1, .int a1), (2, .int a2)] → W p l e (headSpec wsX12_insideOf ({ frames := 5, cells := 0, slots := 0, locals := 135 })).room s m ([.ref (E.2.2.1 0 (0)), .int a1, .int a2] : List Value).toArray below meth c H locs 0 0 (MQ below (QM E (some (.int r)) st) ([.ref (E.2.2.1 0 (0)), .int a1, .int a2] : List Value).toArray s 0 0 E.2.2.2) (F0 m 88 ls []) := by
      intro _u h H locs hw ls hl
      have h := kk1 h hK20
      refine lv_iload_n hx hb dX12_insideOf_88 rfl (lv_at hl 4 rfl) ?_
      refine jn_c h (fun K21 hK23 h => ?_)
      have HJ22 : ∀ (_u : Unit), K21 _u = some o3 → ∀ (H : Heap) (locs : List Loc), SM E s st H locs → ∀ ls : Array Slot, lv_has ls 11 [(9, .double v17), (7, .double v16), (6, .int v4), (4, .double v5), (0, .ref (E.2.2.1 0 (0))), (1, .int a1), (2, .int a2)] → W p l e (headSpec wsX12_insideOf ({ frames := 5, cells := 0, slots := 0, locals := 135 })).room s m ([.ref (E.2.2.1 0 (0)), .int a1, .int a2] : List Value).toArray below meth c H locs 0 0 (MQ below (QM E (some (.int r)) st) ([.ref (E.2.2.1 0 (0)), .int a1, .int a2] : List Value).toArray s 0 0 E.2.2.2) (F0 m 109 ls []) := by
        intro _u h H locs hw ls hl
        have h := kk1 h hK23
        refine lv_iconst (v := 1) hx hb dX12_insideOf_109 (by decide) ?_
        refine lv_goto (tgt := 114) hx hb dX12_insideOf_110 (by decide) ?_
        refine lv_istore_n (lv' := [(3, .int (1 : Int32)), (9, .double v17), (7, .double v16), (6, .int v4), (4, .double v5), (0, .ref (E.2.2.1 0 (0))), (1, .int a1), (2, .int a2)]) hx hb dX12_insideOf_114 rfl hl (by decide) rfl (fun ls hl => ?_)
        refine lv_iload hx hb dX12_insideOf_115 (lv_at hl 3 rfl) ?_
        refine lv_if_ne (tgt := 134) hx hb dX12_insideOf_117 (by decide) (fun hc24 => ?_) (fun hc24 => ?_)
        · have h := ifn h hc24
          refine lv_dload hx hb dX12_insideOf_134 (lv_at hl 4 rfl) ?_
          refine lv_dload hx hb dX12_insideOf_136 (lv_at hl 2 rfl) ?_
          refine lv_dload hx hb dX12_insideOf_138 (lv_at hl 2 rfl) ?_
          refine x_dmul hx hb h dX12_insideOf_140 (fun v25 h => ?_)
          refine lv_dload hx hb dX12_insideOf_141 (lv_at hl 1 rfl) ?_
          refine lv_dload hx hb dX12_insideOf_143 (lv_at hl 1 rfl) ?_
          refine x_dmul hx hb h dX12_insideOf_145 (fun v26 h => ?_)
          refine x_ddiv hx hb h dX12_insideOf_146 (fun v27 h => ?_)
          refine x_dadd hx hb h dX12_insideOf_147 (fun v28 h => ?_)
          refine lv_dstore (lv' := [(4, .double v28), (3, .int (1 : Int32)), (9, .double v17), (7, .double v16), (6, .int v4), (0, .ref (E.2.2.1 0 (0))), (1, .int a1), (2, .int a2)]) hx hb dX12_insideOf_148 hl (by decide) rfl (fun ls hl => ?_)
          refine x_iinc hx hb h dX12_insideOf_150 hl (q := 4) rfl (fun v29 => [(6, .int v29), (4, .double v28), (3, .int (1 : Int32)), (9, .double v17), (7, .double v16), (0, .ref (E.2.2.1 0 (0))), (1, .int a1), (2, .int a2)]) (by decide) (fun _ => rfl) (fun v29 ls hl h => ?_)
          refine lv_goto (tgt := 8) hx hb dX12_insideOf_153 (by decide) ?_
          exact hB2 _ (Option.some.inj h).symm _ _ hw _ (lv_sub hl [0, 1, 2, 5, 6, 7] rfl)
        · have h := ifp h hc24
          refine lv_dload hx hb dX12_insideOf_120 (lv_at hl 2 rfl) ?_
          refine lv_dload hx hb dX12_insideOf_122 (lv_at hl 2 rfl) ?_
          refine x_dmul hx hb h dX12_insideOf_124 (fun v30 h => ?_)
          refine lv_dload hx hb dX12_insideOf_125 (lv_at hl 1 rfl) ?_
          refine lv_dload hx hb dX12_insideOf_127 (lv_at hl 1 rfl) ?_
          refine x_dmul hx hb h dX12_insideOf_129 (fun v31 h => ?_)
          refine x_ddiv hx hb h dX12_insideOf_130 (fun v32 h => ?_)
          refine lv_goto (tgt := 148) hx hb dX12_insideOf_131 (by decide) ?_
          refine lv_dstore (lv' := [(4, .double v32), (3, .int (1 : Int32)), (9, .double v17), (7, .double v16), (6, .int v4), (0, .ref (E.2.2.1 0 (0))), (1, .int a1), (2, .int a2)]) hx hb dX12_insideOf_148 hl (by decide) rfl (fun ls hl => ?_)
          refine x_iinc hx hb h dX12_insideOf_150 hl (q := 4) rfl (fun v33 => [(6, .int v33), (4, .double v32), (3, .int (1 : Int32)), (9, .double v17), (7, .double v16), (0, .ref (E.2.2.1 0 (0))), (1, .int a1), (2, .int a2)]) (by decide) (fun _ => rfl) (fun v33 ls hl h => ?_)
          refine lv_goto (tgt := 8) hx hb dX12_insideOf_153 (by decide) ?_
          exact hB2 _ (Option.some.inj h).symm _ _ hw _ (lv_sub hl [0, 1, 2, 5, 6, 7] rfl)
      refine lv_if_ne (tgt := 109) hx hb dX12_insideOf_89 (by decide) (fun hc34 => ?_) (fun hc34 => ?_)
      · have h := ifn h hc34
        exact HJ22 _ h _ _ hw _ (lv_sub hl [0, 1, 2, 3, 5, 6, 7] rfl)
      · have h := ifp h hc34
        refine lv_dload hx hb dX12_insideOf_92 (lv_at hl 1 rfl) ?_
        refine lv_dload hx hb dX12_insideOf_94 (lv_at hl 0 rfl) ?_
        refine lv_dcmp hx hb dX12_insideOf_96 ?_
        refine lv_if_eq (tgt := 109) hx hb dX12_insideOf_97 (by decide) (fun hc35 => ?_) (fun hc35 => ?_)
        · have h := ifp h hc35
          exact HJ22 _ h _ _ hw _ (lv_sub hl [0, 1, 2, 3, 5, 6, 7] rfl)
        · have h := ifn h hc35
          refine lv_dload hx hb dX12_insideOf_100 (lv_at hl 1 rfl) ?_
          refine lv_dload hx hb dX12_insideOf_102 (lv_at hl 0 rfl) ?_
          refine lv_dneg hx hb dX12_insideOf_104 ?_
          refine lv_dcmp hx hb dX12_insideOf_105 ?_
          refine lv_if_ne (tgt := 113) hx hb dX12_insideOf_106 (by decide) (fun hc36 => ?_) (fun hc36 => ?_)
          · have h := ifn h hc36
            refine lv_iconst (v := 0) hx hb dX12_insideOf_113 (by decide) ?_
            refine lv_istore_n (lv' := [(3, .int (0 : Int32)), (9, .double v17), (7, .double v16), (6, .int v4), (4, .double v5), (0, .ref (E.2.2.1 0 (0))), (1, .int a1), (2, .int a2)]) hx hb dX12_insideOf_114 rfl hl (by decide) rfl (fun ls hl => ?_)
            refine lv_iload hx hb dX12_insideOf_115 (lv_at hl 3 rfl) ?_
            refine lv_if_ne (tgt := 134) hx hb dX12_insideOf_117 (by decide) (fun hc37 => ?_) (fun hc37 => ?_)
            · have h := ifn h hc37
              refine lv_dload hx hb dX12_insideOf_134 (lv_at hl 4 rfl) ?_
              refine lv_dload hx hb dX12_insideOf_136 (lv_at hl 2 rfl) ?_
              refine lv_dload hx hb dX12_insideOf_138 (lv_at hl 2 rfl) ?_
              refine x_dmul hx hb h dX12_insideOf_140 (fun v38 h => ?_)
              refine lv_dload hx hb dX12_insideOf_141 (lv_at hl 1 rfl) ?_
              refine lv_dload hx hb dX12_insideOf_143 (lv_at hl 1 rfl) ?_
              refine x_dmul hx hb h dX12_insideOf_145 (fun v39 h => ?_)
              refine x_ddiv hx hb h dX12_insideOf_146 (fun v40 h => ?_)
              refine x_dadd hx hb h dX12_insideOf_147 (fun v41 h => ?_)
              refine lv_dstore (lv' := [(4, .double v41), (3, .int (0 : Int32)), (9, .double v17), (7, .double v16), (6, .int v4), (0, .ref (E.2.2.1 0 (0))), (1, .int a1), (2, .int a2)]) hx hb dX12_insideOf_148 hl (by decide) rfl (fun ls hl => ?_)
              refine x_iinc hx hb h dX12_insideOf_150 hl (q := 4) rfl (fun v42 => [(6, .int v42), (4, .double v41), (3, .int (0 : Int32)), (9, .double v17), (7, .double v16), (0, .ref (E.2.2.1 0 (0))), (1, .int a1), (2, .int a2)]) (by decide) (fun _ => rfl) (fun v42 ls hl h => ?_)
              refine lv_goto (tgt := 8) hx hb dX12_insideOf_153 (by decide) ?_
              exact hB2 _ (Option.some.inj h).symm _ _ hw _ (lv_sub hl [0, 1, 2, 5, 6, 7] rfl)
            · have h := ifp h hc37
              refine lv_dload hx hb dX12_insideOf_120 (lv_at hl 2 rfl) ?_
              refine lv_dload hx hb dX12_insideOf_122 (lv_at hl 2 rfl) ?_
              refine x_dmul hx hb h dX12_insideOf_124 (fun v43 h => ?_)
              refine lv_dload hx hb dX12_insideOf_125 (lv_at hl 1 rfl) ?_
              refine lv_dload hx hb dX12_insideOf_127 (lv_at hl 1 rfl) ?_
              refine x_dmul hx hb h dX12_insideOf_129 (fun v44 h => ?_)
              refine x_ddiv hx hb h dX12_insideOf_130 (fun v45 h => ?_)
              refine lv_goto (tgt := 148) hx hb dX12_insideOf_131 (by decide) ?_
              refine lv_dstore (lv' := [(4, .double v45), (3, .int (0 : Int32)), (9, .double v17), (7, .double v16), (6, .int v4), (0, .ref (E.2.2.1 0 (0))), (1, .int a1), (2, .int a2)]) hx hb dX12_insideOf_148 hl (by decide) rfl (fun ls hl => ?_)
              refine x_iinc hx hb h dX12_insideOf_150 hl (q := 4) rfl (fun v46 => [(6, .int v46), (4, .double v45), (3, .int (0 : Int32)), (9, .double v17), (7, .double v16), (0, .ref (E.2.2.1 0 (0))), (1, .int a1), (2, .int a2)]) (by decide) (fun _ => rfl) (fun v46 ls hl h => ?_)
              refine lv_goto (tgt := 8) hx hb dX12_insideOf_153 (by decide) ?_
              exact hB2 _ (Option.some.inj h).symm _ _ hw _ (lv_sub hl [0, 1, 2, 5, 6, 7] rfl)
          · have h := ifp h hc36
            exact HJ22 _ h _ _ hw _ (lv_sub hl [0, 1, 2, 3, 5, 6, 7] rfl)
    refine lv_if_ne (tgt := 88) hx hb dX12_insideOf_66 (by decide) (fun hc47 => ?_) (fun hc47 => ?_)
    · have h := ifn h hc47
      exact HJ19 _ h _ _ hw _ (lv_sub hl [0, 1, 2, 3, 4, 5, 6, 7] rfl)
    · have h := ifp h hc47
      refine lv_dload hx hb dX12_insideOf_69 (lv_at hl 1 rfl) ?_
      refine lv_dload hx hb dX12_insideOf_71 (lv_at hl 0 rfl) ?_
      refine lv_dcmp hx hb dX12_insideOf_73 ?_
      refine lv_if_gt (tgt := 86) hx hb dX12_insideOf_74 (by decide) (fun hc48 => ?_) (fun hc48 => ?_)
      · have h := ifp h hc48
        refine lv_iconst (v := 0) hx hb dX12_insideOf_86 (by decide) ?_
        have h := hX1 _ (Option.some.inj h).symm
        have h := sm_l h
        cases h
        exact W.iret hx hb hr (M_fin C0 hw) hw.2.2.2 dX12_insideOf_87 hlocks
      · have h := ifn h hc48
        refine lv_dload hx hb dX12_insideOf_77 (lv_at hl 1 rfl) ?_
        refine lv_dload hx hb dX12_insideOf_79 (lv_at hl 0 rfl) ?_
        refine lv_dneg hx hb dX12_insideOf_81 ?_
        refine lv_dcmp hx hb dX12_insideOf_82 ?_
        refine lv_if_ge (tgt := 88) hx hb dX12_insideOf_83 (by decide) (fun hc49 => ?_) (fun hc49 => ?_)
        · have h := ifp h hc49
          exact HJ19 _ h _ _ hw _ (lv_sub hl [0, 1, 2, 3, 4, 5, 6, 7] rfl)
        · have h := ifn h hc49
          refine lv_iconst (v := 0) hx hb dX12_insideOf_86 (by decide) ?_
          have h := hX1 _ (Option.some.inj h).symm
          have h := sm_l h
          cases h
          exact W.iret hx hb hr (M_fin C0 hw) hw.2.2.2 dX12_insideOf_87 hlocks

def fX12_inside (a1 : Int32) (a2 : Int32) (st : Sto) : Option (Int32 × Sto) :=
  lt1 (sI st 0 (0) 10 (0 : Int32)) fun (t1 : Sto) =>
  (fX12_is a1 (gI t1 0 (0) 5)).bind (fun (v2 : Int32) =>
   if v2 = 0 then (
    some ((-1 : Int32), t1)) else (
    (fX12_is a2 (gI t1 0 (0) 2)).bind (fun (v5 : Int32) =>
     if v5 = 0 then (
      some ((-1 : Int32), t1)) else (
      (fX12_insideOf a1 ((1 : Int32) + a2) t1).bind (fun (v8 : Int32) =>
       some (v8, t1))))))
set_option maxHeartbeats 4000000 in
set_option maxRecDepth 100000 in
theorem mX12_inside (l : Launch) (E : XE) (hL : LM E) (st : Sto) {a1 : Int32} {a2 : Int32} {r : Int32} {st1 : Sto} (h : fX12_inside a1 a2 st = some (r, st1)) : Met l yX12_inside wsX12_inside ({ frames := 6, cells := 0, slots := 0, locals := 165 }) (va_Pc [.ref (E.2.2.1 0 (0)), .int a1, .int a2] (RM E st)) (QM E (some (.int r)) st1) 0 0 E.2.2.2 := by
  refine Met.ofW (cc := cX12_inside) (maxL := 3) (ret := (some .int)) (by decide) rfl ?_
  intro p e s m args below meth c s₁ B hml hv
  obtain ⟨rfl, hP, hK⟩ := hv
  have hown : s.vm.findClass RX12 = some m.cls := findClass_of_methodNamed B.named
  have C0 : CX p m c cX12_inside 3 s _ wsX12_inside RX12 E := ⟨⟨B.exec, B.bytes, hml, hown, atoms_spec (ws := wsX12_inside) B.pre⟩, hK⟩
  have hx := B.exec
  have hb := B.bytes
  have hr := B.returns
  have hlocks := B.notSynchronized
  have hw : SM E s st s.heap [] := ⟨hP, va_S.rf⟩
  have hl := lv_entry ([.ref (E.2.2.1 0 (0)), .int a1, .int a2]) (n := 3) (Nat.le_of_ble_eq_true rfl)
  rw [lg_entry_eq]
  generalize (lg_sl ([.ref (E.2.2.1 0 (0)), .int a1, .int a2]) ++ List.replicate (3 - (lg_sl ([.ref (E.2.2.1 0 (0)), .int a1, .int a2])).length) Slot.unset).toArray = ls at hl ⊢
  have hl : lv_has ls 3 [(0, .ref (E.2.2.1 0 (0))), (1, .int a1), (2, .int a2)] := hl
  unfold fX12_inside at h
  refine lv_aload_n hx hb dX12_inside_0 rfl (lv_at hl 0 rfl) ?_
  refine lv_iconst (v := 0) hx hb dX12_inside_1 (by decide) ?_
  refine M_p0_10 hL C0 hw (fun w h => (List.mem_cons_of_mem _ (List.mem_append_right _ h))) (by decide) h ((List.mem_cons_of_mem _ (List.mem_append_left _ (List.mem_append_left _ (List.mem_of_getElem? (i := 0) rfl))))) dX12_inside_2 (fun t1 H locs hw h => ?_)
  refine lv_aload_n hx hb dX12_inside_5 rfl (lv_at hl 0 rfl) ?_
  refine lv_iload_n hx hb dX12_inside_6 rfl (lv_at hl 1 rfl) ?_
  refine lv_aload_n hx hb dX12_inside_7 rfl (lv_at hl 0 rfl) ?_
  refine M_g0_5 C0 hw (fun w h => (List.mem_cons_of_mem _ (List.mem_append_right _ h))) (by decide) ((List.mem_cons_of_mem _ (List.mem_append_left _ (List.mem_append_left _ (List.mem_of_getElem? (i := 1) rfl))))) dX12_inside_8 ?_
  obtain ⟨v2, hf3, h⟩ := bn_c h
  refine M_callV C0 hw (As := [.int a1, .int (gI t1 0 (0) 5)]) (rest := []) (mX12_is l E hL t1 hf3) (cwV 2 C0.1.2.2.2.2 gX12_inside_X12_is rfl rfl rfl (by decide +kernel) ⟨Nat.le_of_ble_eq_true rfl, Nat.le_of_ble_eq_true rfl⟩) (M_recv_0 C0 hw (by decide)) rfl hl.1 rfl (Nat.le_of_ble_eq_true rfl) dX12_inside_11 ⟨Nat.zero_le _, Nat.zero_le _⟩ (fun H locs hw => ?_)
  refine W.eq (g2 := F0 m 14 ls [.int v2]) rfl ?_
  refine lv_if_eq (tgt := 40) hx hb dX12_inside_14 (by decide) (fun hc4 => ?_) (fun hc4 => ?_)
  · have h := ifp h hc4
    refine lv_iconst (v := -1) hx hb dX12_inside_40 (by decide) ?_
    cases h
    exact W.iret hx hb hr (M_fin C0 hw) hw.2.2.2 dX12_inside_41 hlocks
  · have h := ifn h hc4
    refine lv_aload_n hx hb dX12_inside_17 rfl (lv_at hl 0 rfl) ?_
    refine lv_iload_n hx hb dX12_inside_18 rfl (lv_at hl 2 rfl) ?_
    refine lv_aload_n hx hb dX12_inside_19 rfl (lv_at hl 0 rfl) ?_
    refine M_g0_2 C0 hw (fun w h => (List.mem_cons_of_mem _ (List.mem_append_right _ h))) (by decide) ((List.mem_cons_of_mem _ (List.mem_append_left _ (List.mem_append_left _ (List.mem_of_getElem? (i := 2) rfl))))) dX12_inside_20 ?_
    obtain ⟨v5, hf6, h⟩ := bn_c h
    refine M_callV C0 hw (As := [.int a2, .int (gI t1 0 (0) 2)]) (rest := []) (mX12_is l E hL t1 hf6) (cwV 2 C0.1.2.2.2.2 gX12_inside_X12_is rfl rfl rfl (by decide +kernel) ⟨Nat.le_of_ble_eq_true rfl, Nat.le_of_ble_eq_true rfl⟩) (M_recv_0 C0 hw (by decide)) rfl hl.1 rfl (Nat.le_of_ble_eq_true rfl) dX12_inside_23 ⟨Nat.zero_le _, Nat.zero_le _⟩ (fun H locs hw => ?_)
    refine W.eq (g2 := F0 m 26 ls [.int v5]) rfl ?_
    refine lv_if_eq (tgt := 40) hx hb dX12_inside_26 (by decide) (fun hc7 => ?_) (fun hc7 => ?_)
    · have h := ifp h hc7
      refine lv_iconst (v := -1) hx hb dX12_inside_40 (by decide) ?_
      cases h
      exact W.iret hx hb hr (M_fin C0 hw) hw.2.2.2 dX12_inside_41 hlocks
    · have h := ifn h hc7
      refine lv_aload_n hx hb dX12_inside_29 rfl (lv_at hl 0 rfl) ?_
      refine lv_iload_n hx hb dX12_inside_30 rfl (lv_at hl 1 rfl) ?_
      refine lv_iconst (v := 1) hx hb dX12_inside_31 (by decide) ?_
      refine lv_iload_n hx hb dX12_inside_32 rfl (lv_at hl 2 rfl) ?_
      refine lv_iadd hx hb dX12_inside_33 ?_
      obtain ⟨v8, hf9, h⟩ := bn_c h
      refine M_callV C0 hw (As := [.int a1, .int ((1 : Int32) + a2)]) (rest := []) (mX12_insideOf l E hL t1 hf9) (cwV 2 C0.1.2.2.2.2 gX12_inside_X12_insideOf rfl rfl rfl (by decide +kernel) ⟨Nat.le_of_ble_eq_true rfl, Nat.le_of_ble_eq_true rfl⟩) (M_recv_0 C0 hw (by decide)) rfl hl.1 rfl (Nat.le_of_ble_eq_true rfl) dX12_inside_34 ⟨Nat.zero_le _, Nat.zero_le _⟩ (fun H locs hw => ?_)
      refine W.eq (g2 := F0 m 37 ls [.int v8]) rfl ?_
      refine lv_goto (tgt := 41) hx hb dX12_inside_37 (by decide) ?_
      cases h
      exact W.iret hx hb hr (M_fin C0 hw) hw.2.2.2 dX12_inside_41 hlocks

def fX12_tryRecipe (st : Sto) : Option Sto :=
  if gI st 0 (0) 51 = (1000 : Int32) then (
   lt1 (sI st 0 (0) 56 (1 : Int32)) fun (t127 : Sto) =>
   some t127) else (
   lt1 (sI st 0 (0) 51 ((gI st 0 (0) 51) + (1 : Int32))) fun (t2 : Sto) =>
   ((lp (σ := (Int32 × Int64)) (ρ := Int64) (un2 fun (v6 : Int32) (v7 : Int64) =>
      if gI t2 0 (0) 49 ≤ v6 then (
       some (.inr v7)) else (
       ck (0 ≤ (((2 : Int32) * v6) + (1 : Int32)).toInt ∧ (((2 : Int32) * v6) + (1 : Int32)).toInt < (lIM (48) (0) : Int)) (
        ck (0 ≤ ((2 : Int32) * v6).toInt ∧ ((2 : Int32) * v6).toInt < (lIM (48) (0) : Int)) (
         ck (0 ≤ (gI t2 (48) (0) (((2 : Int32) * v6).toNatClampNeg)).toInt ∧ (gI t2 (48) (0) (((2 : Int32) * v6).toNatClampNeg)).toInt < (lIM (15) (0) : Int)) (
          lt1 (v7 + (((gI t2 (48) (0) ((((2 : Int32) * v6) + (1 : Int32)).toNatClampNeg)).toInt64) * ((gI t2 (15) (0) ((gI t2 (48) (0) (((2 : Int32) * v6).toNatClampNeg)).toNatClampNeg)).toInt64))) fun (v80 : Int64) =>
          lt1 (v6 + Int32.ofInt (1)) fun (v81 : Int32) =>
          some (.inl (v81, v80))))))) 4000 ((0 : Int32), (0 : Int64))).bind
    (fun (v8 : Int64) =>
     ((lp (σ := (Int32 × Sto)) (ρ := Sto) (un2 fun (v85 : Int32) (t86 : Sto) =>
        if (16 : Int32) ≤ v85 then (
         some (.inr t86)) else (
         ck (0 ≤ (((16 : Int32) * ((41 : Int32) + (gI t86 0 (0) 58))) + v85).toInt ∧ (((16 : Int32) * ((41 : Int32) + (gI t86 0 (0) 58))) + v85).toInt < (lFM (1) (0) : Int)) (
          (fX12_quotient (gF t86 (1) (0) ((((16 : Int32) * ((41 : Int32) + (gI t86 0 (0) 58))) + v85).toNatClampNeg))).bind (fun (v89 : UInt64) =>
           ((lp (σ := (Int32 × UInt64)) (ρ := UInt64) (un2 fun (v94 : Int32) (v95 : UInt64) =>
              if gI t86 0 (0) 49 ≤ v94 then (
               some (.inr v95)) else (
               ck (0 ≤ ((2 : Int32) * v94).toInt ∧ ((2 : Int32) * v94).toInt < (lIM (48) (0) : Int)) (
                ck (0 ≤ (((2 : Int32) * v94) + (1 : Int32)).toInt ∧ (((2 : Int32) * v94) + (1 : Int32)).toInt < (lIM (48) (0) : Int)) (
                 (fX12_dyeAt (gI t86 (48) (0) (((2 : Int32) * v94).toNatClampNeg)) (FP.i2d (gI t86 (48) (0) ((((2 : Int32) * v94) + (1 : Int32)).toNatClampNeg))) v85 t86).bind (fun (v98 : UInt64) =>
                  nd (FP.dadd v95 v98) fun (v100 : UInt64) =>
                  lt1 (v94 + Int32.ofInt (1)) fun (v101 : Int32) =>
                  some (.inl (v101, v100))))))) 4000 ((0 : Int32), v89)).bind
            (fun (v96 : UInt64) =>
             (fX12_bandOf v96).bind (fun (v102 : UInt32) =>
              ck (0 ≤ ((2144 : Int32) + v85).toInt ∧ ((2144 : Int32) + v85).toInt < (lFM (1) (0) : Int)) (lt1 (sF t86 (1) (0) (((2144 : Int32) + v85).toNatClampNeg) v102) fun (t104 : Sto) =>
               lt1 (v85 + Int32.ofInt (1)) fun (v105 : Int32) =>
               some (.inl (v105, t104)))))))))) 4000 ((0 : Int32), t2)).bind
      (fun (t87 : Sto) =>
       (fX12_fromTo (134 : Int32) (gI t87 0 (0) 59) (gI t87 0 (0) 60) t87).bind (fun (v106 : UInt64) =>
        jn (fun (_u : Unit) =>
         lt1 (sD t87 0 (0) 53 v106) fun (t111 : Sto) =>
         lt1 (sL t111 0 (0) 54 v8) fun (t112 : Sto) =>
         lt1 (sI t112 0 (0) 50 (gI t112 0 (0) 49)) fun (t113 : Sto) =>
         ((lp (σ := (Int32 × Sto)) (ρ := Sto) (un2 fun (v117 : Int32) (t118 : Sto) =>
            if (2 : Int32) * (gI t118 0 (0) 49) ≤ v117 then (
             some (.inr t118)) else (
             ck (0 ≤ v117.toInt ∧ v117.toInt < (lIM (48) (0) : Int)) (
              ck (0 ≤ v117.toInt ∧ v117.toInt < (lIM (49) (0) : Int)) (lt1 (sI t118 (49) (0) (v117.toNatClampNeg) (gI t118 (48) (0) (v117.toNatClampNeg))) fun (t121 : Sto) =>
               lt1 (v117 + Int32.ofInt (1)) fun (v122 : Int32) =>
               some (.inl (v122, t121)))))) 4000 ((0 : Int32), t113)).bind
          (fun (t119 : Sto) =>
           some t119))) fun K108 =>
        if gI t87 0 (0) 51 ≤ (1 : Int32) then (
         K108 ()) else (
         if 0 < Op.cmpValue (FP.dcmp v106 (gD t87 0 (0) 53)) CmpOp.l then (
          some t87) else (
          if Op.cmpValue (FP.dcmp v106 (gD t87 0 (0) 53)) CmpOp.l = 0 then (
           if lg_cmp v8 (gL t87 0 (0) 54) < 0 then (
            K108 ()) else (
            some t87)) else (
           K108 ())))))))))
set_option maxHeartbeats 4000000 in
set_option maxRecDepth 100000 in
theorem mX12_tryRecipe (l : Launch) (E : XE) (hL : LM E) (st : Sto) {st1 : Sto} (h : fX12_tryRecipe st = some st1) : Met l yX12_tryRecipe wsX12_tryRecipe ({ frames := 6, cells := 0, slots := 0, locals := 164 }) (va_Pc [.ref (E.2.2.1 0 (0))] (RM E st)) (QM E none st1) 0 0 E.2.2.2 := by
  refine Met.ofW (cc := cX12_tryRecipe) (maxL := 7) (ret := none) (by decide) rfl ?_
  intro p e s m args below meth c s₁ B hml hv
  obtain ⟨rfl, hP, hK⟩ := hv
  have hown : s.vm.findClass RX12 = some m.cls := findClass_of_methodNamed B.named
  have C0 : CX p m c cX12_tryRecipe 7 s _ wsX12_tryRecipe RX12 E := ⟨⟨B.exec, B.bytes, hml, hown, atoms_spec (ws := wsX12_tryRecipe) B.pre⟩, hK⟩
  have hx := B.exec
  have hb := B.bytes
  have hr := B.returns
  have hlocks := B.notSynchronized
  have hw : SM E s st s.heap [] := ⟨hP, va_S.rf⟩
  have hl := lv_entry ([.ref (E.2.2.1 0 (0))]) (n := 7) (Nat.le_of_ble_eq_true rfl)
  rw [lg_entry_eq]
  generalize (lg_sl ([.ref (E.2.2.1 0 (0))]) ++ List.replicate (7 - (lg_sl ([.ref (E.2.2.1 0 (0))])).length) Slot.unset).toArray = ls at hl ⊢
  have hl : lv_has ls 7 [(0, .ref (E.2.2.1 0 (0)))] := hl
  unfold fX12_tryRecipe at h
  refine lv_aload_n hx hb dX12_tryRecipe_0 rfl (lv_at hl 0 rfl) ?_
  refine M_g0_51 C0 hw (fun w h => (List.mem_cons_of_mem _ (List.mem_append_right _ h))) (by decide) ((List.mem_cons_of_mem _ (List.mem_append_left _ (List.mem_append_left _ (List.mem_of_getElem? (i := 0) rfl))))) dX12_tryRecipe_1 ?_
  refine lv_sipush (v := 1000) hx hb dX12_tryRecipe_4 (by decide) ?_
  refine lv_icmp_ne (tgt := 16) hx hb dX12_tryRecipe_7 (by decide) (fun hc1 => ?_) (fun hc1 => ?_)
  · have h := ifn h hc1
    refine lv_aload_n hx hb dX12_tryRecipe_16 rfl (lv_at hl 0 rfl) ?_
    refine lv_dup hx hb dX12_tryRecipe_17 rfl ?_
    refine M_g0_51 C0 hw (fun w h => (List.mem_cons_of_mem _ (List.mem_append_right _ h))) (by decide) ((List.mem_cons_of_mem _ (List.mem_append_left _ (List.mem_append_left _ (List.mem_of_getElem? (i := 0) rfl))))) dX12_tryRecipe_18 ?_
    refine lv_iconst (v := 1) hx hb dX12_tryRecipe_21 (by decide) ?_
    refine lv_iadd hx hb dX12_tryRecipe_22 ?_
    refine M_p0_51 hL C0 hw (fun w h => (List.mem_cons_of_mem _ (List.mem_append_right _ h))) (by decide) h ((List.mem_cons_of_mem _ (List.mem_append_left _ (List.mem_append_left _ (List.mem_of_getElem? (i := 0) rfl))))) dX12_tryRecipe_23 (fun t2 H locs hw h => ?_)
    refine lv_lconst (v := 0) hx hb dX12_tryRecipe_26 (by decide) ?_
    refine lv_lstore_n (lv' := [(1, .long (0 : Int64)), (0, .ref (E.2.2.1 0 (0)))]) hx hb dX12_tryRecipe_27 rfl hl (by decide) rfl (fun ls hl => ?_)
    refine lv_iconst (v := 0) hx hb dX12_tryRecipe_28 (by decide) ?_
    refine lv_istore_n (lv' := [(3, .int (0 : Int32)), (1, .long (0 : Int64)), (0, .ref (E.2.2.1 0 (0)))]) hx hb dX12_tryRecipe_29 rfl hl (by decide) rfl (fun ls hl => ?_)
    refine lp_ind (fun q : (Int32 × Int64) => ∀ (H : Heap) (locs : List Loc), SM E s t2 H locs → ∀ ls : Array Slot, lv_has ls 7 [(3, .int (q.1)), (1, .long (q.2)), (0, .ref (E.2.2.1 0 (0)))] → W p l e (headSpec wsX12_tryRecipe ({ frames := 6, cells := 0, slots := 0, locals := 164 })).room s m ([.ref (E.2.2.1 0 (0))] : List Value).toArray below meth c H locs 0 0 (MQ below (QM E none st1) ([.ref (E.2.2.1 0 (0))] : List Value).toArray s 0 0 E.2.2.2) (F0 m 30 ls [])) (fun q o5 h hB4 hX3 => ?_) _ _ h _ _ hw _ (lv_sub hl [0, 1, 2] rfl)
    intro H locs hw ls hl
    obtain ⟨v6, v7⟩ := q
    have h := un2_d h
    have hl : lv_has ls 7 [(3, .int v6), (1, .long v7), (0, .ref (E.2.2.1 0 (0)))] := hl
    refine lv_iload_n hx hb dX12_tryRecipe_30 rfl (lv_at hl 0 rfl) ?_
    refine lv_aload_n hx hb dX12_tryRecipe_31 rfl (lv_at hl 2 rfl) ?_
    refine M_g0_49 C0 hw (fun w h => (List.mem_cons_of_mem _ (List.mem_append_right _ h))) (by decide) ((List.mem_cons_of_mem _ (List.mem_append_left _ (List.mem_append_left _ (List.mem_of_getElem? (i := 2) rfl))))) dX12_tryRecipe_32 ?_
    refine lv_icmp_ge (tgt := 73) hx hb dX12_tryRecipe_35 (by decide) (fun hc9 => ?_) (fun hc9 => ?_)
    · have h := ifp h hc9
      have h := hX3 _ (Option.some.inj h).symm
      have hl := lv_sub hl (l' := [(0, .ref (E.2.2.1 0 (0))), (1, .long v7)]) [2, 1] rfl
      refine lv_iconst (v := 0) hx hb dX12_tryRecipe_73 (by decide) ?_
      refine lv_istore_n (lv' := [(3, .int (0 : Int32)), (0, .ref (E.2.2.1 0 (0))), (1, .long v7)]) hx hb dX12_tryRecipe_74 rfl hl (by decide) rfl (fun ls hl => ?_)
      refine lp_ind (fun q : (Int32 × Sto) => ∀ (H : Heap) (locs : List Loc), SM E s (q.2) H locs → ∀ ls : Array Slot, lv_has ls 7 [(3, .int (q.1)), (0, .ref (E.2.2.1 0 (0))), (1, .long v7)] → W p l e (headSpec wsX12_tryRecipe ({ frames := 6, cells := 0, slots := 0, locals := 164 })).room s m ([.ref (E.2.2.1 0 (0))] : List Value).toArray below meth c H locs 0 0 (MQ below (QM E none st1) ([.ref (E.2.2.1 0 (0))] : List Value).toArray s 0 0 E.2.2.2) (F0 m 75 ls [])) (fun q o12 h hB11 hX10 => ?_) _ _ h _ _ hw _ (lv_sub hl [0, 1, 2] rfl)
      intro H locs hw ls hl
      obtain ⟨v13, t14⟩ := q
      have h := un2_d h
      have hw : SM E s t14 H locs := hw
      have hl : lv_has ls 7 [(3, .int v13), (0, .ref (E.2.2.1 0 (0))), (1, .long v7)] := hl
      refine lv_iload_n hx hb dX12_tryRecipe_75 rfl (lv_at hl 0 rfl) ?_
      refine lv_bipush (v := 16) hx hb dX12_tryRecipe_76 (by decide) ?_
      refine lv_icmp_ge (tgt := 175) hx hb dX12_tryRecipe_78 (by decide) (fun hc16 => ?_) (fun hc16 => ?_)
      · have h := ifp h hc16
        have h := hX10 _ (Option.some.inj h).symm
        have hl := lv_sub hl (l' := [(0, .ref (E.2.2.1 0 (0))), (1, .long v7)]) [1, 2] rfl
        refine lv_aload_n hx hb dX12_tryRecipe_175 rfl (lv_at hl 0 rfl) ?_
        refine lv_sipush (v := 134) hx hb dX12_tryRecipe_176 (by decide) ?_
        refine lv_aload_n hx hb dX12_tryRecipe_179 rfl (lv_at hl 0 rfl) ?_
        refine M_g0_59 C0 hw (fun w h => (List.mem_cons_of_mem _ (List.mem_append_right _ h))) (by decide) ((List.mem_cons_of_mem _ (List.mem_append_left _ (List.mem_append_left _ (List.mem_of_getElem? (i := 7) rfl))))) dX12_tryRecipe_180 ?_
        refine lv_aload_n hx hb dX12_tryRecipe_183 rfl (lv_at hl 0 rfl) ?_
        refine M_g0_60 C0 hw (fun w h => (List.mem_cons_of_mem _ (List.mem_append_right _ h))) (by decide) ((List.mem_cons_of_mem _ (List.mem_append_left _ (List.mem_append_left _ (List.mem_of_getElem? (i := 8) rfl))))) dX12_tryRecipe_184 ?_
        obtain ⟨v17, hf18, h⟩ := bn_c h
        refine M_callV C0 hw (As := [.int (134 : Int32), .int (gI t14 0 (0) 59), .int (gI t14 0 (0) 60)]) (rest := []) (mX12_fromTo l E hL t14 hf18) (cwV 3 C0.1.2.2.2.2 gX12_tryRecipe_X12_fromTo rfl rfl rfl (by decide +kernel) ⟨Nat.le_of_ble_eq_true rfl, Nat.le_of_ble_eq_true rfl⟩) (M_recv_0 C0 hw (by decide)) rfl hl.1 rfl (Nat.le_of_ble_eq_true rfl) dX12_tryRecipe_187 ⟨Nat.zero_le _, Nat.zero_le _⟩ (fun H locs hw => ?_)
        refine W.eq (g2 := F0 m 190 ls [.double v17]) rfl ?_
        refine lv_dstore_n (lv' := [(3, .double v17), (0, .ref (E.2.2.1 0 (0))), (1, .long v7)]) hx hb dX12_tryRecipe_190 rfl hl (by decide) rfl (fun ls hl => ?_)
        refine lv_aload_n hx hb dX12_tryRecipe_191 rfl (lv_at hl 1 rfl) ?_
        refine M_g0_51 C0 hw (fun w h => (List.mem_cons_of_mem _ (List.mem_append_right _ h))) (by decide) ((List.mem_cons_of_mem _ (List.mem_append_left _ (List.mem_append_left _ (List.mem_of_getElem? (i := 0) rfl))))) dX12_tryRecipe_192 ?_
        refine lv_iconst (v := 1) hx hb dX12_tryRecipe_195 (by decide) ?_
        refine jn_c h (fun K19 hK21 h => ?_)
        have HJ20 : ∀ (_u : Unit), K19 _u = some st1 → ∀ (H : Heap) (locs : List Loc), SM E s t14 H locs → ∀ ls : Array Slot, lv_has ls 7 [(3, .double v17), (0, .ref (E.2.2.1 0 (0))), (1, .long v7)] → W p l e (headSpec wsX12_tryRecipe ({ frames := 6, cells := 0, slots := 0, locals := 164 })).room s m ([.ref (E.2.2.1 0 (0))] : List Value).toArray below meth c H locs 0 0 (MQ below (QM E none st1) ([.ref (E.2.2.1 0 (0))] : List Value).toArray s 0 0 E.2.2.2) (F0 m 227 ls []) := by
          intro _u h H locs hw ls hl
          have h := kk1 h hK21
          refine lv_aload_n hx hb dX12_tryRecipe_227 rfl (lv_at hl 1 rfl) ?_
          refine lv_dload_n hx hb dX12_tryRecipe_228 rfl (lv_at hl 0 rfl) ?_
          refine M_p0_53 hL C0 hw (fun w h => (List.mem_cons_of_mem _ (List.mem_append_right _ h))) (by decide) h ((List.mem_cons_of_mem _ (List.mem_append_left _ (List.mem_append_left _ (List.mem_of_getElem? (i := 9) rfl))))) dX12_tryRecipe_229 (fun t22 H locs hw h => ?_)
          refine lv_aload_n hx hb dX12_tryRecipe_232 rfl (lv_at hl 1 rfl) ?_
          refine lv_lload_n hx hb dX12_tryRecipe_233 rfl (lv_at hl 2 rfl) ?_
          refine M_p0_54 hL C0 hw (fun w h => (List.mem_cons_of_mem _ (List.mem_append_right _ h))) (by decide) h ((List.mem_cons_of_mem _ (List.mem_append_left _ (List.mem_append_left _ (List.mem_of_getElem? (i := 10) rfl))))) dX12_tryRecipe_234 (fun t23 H locs hw h => ?_)
          refine lv_aload_n hx hb dX12_tryRecipe_237 rfl (lv_at hl 1 rfl) ?_
          refine lv_aload_n hx hb dX12_tryRecipe_238 rfl (lv_at hl 1 rfl) ?_
          refine M_g0_49 C0 hw (fun w h => (List.mem_cons_of_mem _ (List.mem_append_right _ h))) (by decide) ((List.mem_cons_of_mem _ (List.mem_append_left _ (List.mem_append_left _ (List.mem_of_getElem? (i := 2) rfl))))) dX12_tryRecipe_239 ?_
          refine M_p0_50 hL C0 hw (fun w h => (List.mem_cons_of_mem _ (List.mem_append_right _ h))) (by decide) h ((List.mem_cons_of_mem _ (List.mem_append_left _ (List.mem_append_left _ (List.mem_of_getElem? (i := 11) rfl))))) dX12_tryRecipe_242 (fun t24 H locs hw h => ?_)
          refine lv_iconst (v := 0) hx hb dX12_tryRecipe_245 (by decide) ?_
          refine lv_istore (lv' := [(5, .int (0 : Int32)), (3, .double v17), (0, .ref (E.2.2.1 0 (0))), (1, .long v7)]) hx hb dX12_tryRecipe_246 hl (by decide) rfl (fun ls hl => ?_)
          refine lp_ind (fun q : (Int32 × Sto) => ∀ (H : Heap) (locs : List Loc), SM E s (q.2) H locs → ∀ ls : Array Slot, lv_has ls 7 [(5, .int (q.1)), (0, .ref (E.2.2.1 0 (0)))] → W p l e (headSpec wsX12_tryRecipe ({ frames := 6, cells := 0, slots := 0, locals := 164 })).room s m ([.ref (E.2.2.1 0 (0))] : List Value).toArray below meth c H locs 0 0 (MQ below (QM E none st1) ([.ref (E.2.2.1 0 (0))] : List Value).toArray s 0 0 E.2.2.2) (F0 m 248 ls [])) (fun q o27 h hB26 hX25 => ?_) _ _ h _ _ hw _ (lv_sub hl [0, 2] rfl)
          intro H locs hw ls hl
          obtain ⟨v28, t29⟩ := q
          have h := un2_d h
          have hw : SM E s t29 H locs := hw
          have hl : lv_has ls 7 [(5, .int v28), (0, .ref (E.2.2.1 0 (0)))] := hl
          refine lv_iload hx hb dX12_tryRecipe_248 (lv_at hl 0 rfl) ?_
          refine lv_iconst (v := 2) hx hb dX12_tryRecipe_250 (by decide) ?_
          refine lv_aload_n hx hb dX12_tryRecipe_251 rfl (lv_at hl 1 rfl) ?_
          refine M_g0_49 C0 hw (fun w h => (List.mem_cons_of_mem _ (List.mem_append_right _ h))) (by decide) ((List.mem_cons_of_mem _ (List.mem_append_left _ (List.mem_append_left _ (List.mem_of_getElem? (i := 2) rfl))))) dX12_tryRecipe_252 ?_
          refine lv_imul hx hb dX12_tryRecipe_255 ?_
          refine lv_icmp_ge (tgt := 279) hx hb dX12_tryRecipe_256 (by decide) (fun hc31 => ?_) (fun hc31 => ?_)
          · have h := ifp h hc31
            have h := hX25 _ (Option.some.inj h).symm
            have hl := lv_sub hl (l' := []) [] rfl
            cases h
            exact W.vret hx hb hr (M_fin C0 hw) hw.2.2.2 dX12_tryRecipe_279 hlocks
          · have h := ifn h hc31
            refine lv_aload_n hx hb dX12_tryRecipe_259 rfl (lv_at hl 1 rfl) ?_
            refine M_g0_48 C0 hw (fun w h => (List.mem_cons_of_mem _ (List.mem_append_right _ h))) (by decide) ((List.mem_cons_of_mem _ (List.mem_append_left _ (List.mem_append_left _ (List.mem_of_getElem? (i := 12) rfl))))) dX12_tryRecipe_260 ?_
            refine lv_iload hx hb dX12_tryRecipe_263 (lv_at hl 0 rfl) ?_
            refine lv_aload_n hx hb dX12_tryRecipe_265 rfl (lv_at hl 1 rfl) ?_
            refine M_g0_47 C0 hw (fun w h => (List.mem_cons_of_mem _ (List.mem_append_right _ h))) (by decide) ((List.mem_cons_of_mem _ (List.mem_append_left _ (List.mem_append_left _ (List.mem_of_getElem? (i := 3) rfl))))) dX12_tryRecipe_266 ?_
            refine lv_iload hx hb dX12_tryRecipe_269 (lv_at hl 0 rfl) ?_
            refine M_iald C0 hw h (k := v28.toNatClampNeg) rfl dX12_tryRecipe_271 (fun h => ?_)
            refine M_iast hL C0 hw h (k := v28.toNatClampNeg) rfl dX12_tryRecipe_272 (fun t32 H locs hw h => ?_)
            refine x_iinc hx hb h dX12_tryRecipe_273 hl (q := 0) rfl (fun v33 => [(5, .int v33), (0, .ref (E.2.2.1 0 (0)))]) (by decide) (fun _ => rfl) (fun v33 ls hl h => ?_)
            refine lv_goto (tgt := 248) hx hb dX12_tryRecipe_276 (by decide) ?_
            exact hB26 _ (Option.some.inj h).symm _ _ hw _ (lv_sub hl [0, 1] rfl)
        refine lv_icmp_le (tgt := 227) hx hb dX12_tryRecipe_196 (by decide) (fun hc34 => ?_) (fun hc34 => ?_)
        · have h := ifp h hc34
          exact HJ20 _ h _ _ hw _ (lv_sub hl [0, 1, 2] rfl)
        · have h := ifn h hc34
          refine lv_dload_n hx hb dX12_tryRecipe_199 rfl (lv_at hl 0 rfl) ?_
          refine lv_aload_n hx hb dX12_tryRecipe_200 rfl (lv_at hl 1 rfl) ?_
          refine M_g0_53 C0 hw (fun w h => (List.mem_cons_of_mem _ (List.mem_append_right _ h))) (by decide) ((List.mem_cons_of_mem _ (List.mem_append_left _ (List.mem_append_left _ (List.mem_of_getElem? (i := 9) rfl))))) dX12_tryRecipe_201 ?_
          refine lv_dcmp hx hb dX12_tryRecipe_204 ?_
          refine lv_if_gt (tgt := 226) hx hb dX12_tryRecipe_205 (by decide) (fun hc35 => ?_) (fun hc35 => ?_)
          · have h := ifp h hc35
            cases h
            exact W.vret hx hb hr (M_fin C0 hw) hw.2.2.2 dX12_tryRecipe_226 hlocks
          · have h := ifn h hc35
            refine lv_dload_n hx hb dX12_tryRecipe_208 rfl (lv_at hl 0 rfl) ?_
            refine lv_aload_n hx hb dX12_tryRecipe_209 rfl (lv_at hl 1 rfl) ?_
            refine M_g0_53 C0 hw (fun w h => (List.mem_cons_of_mem _ (List.mem_append_right _ h))) (by decide) ((List.mem_cons_of_mem _ (List.mem_append_left _ (List.mem_append_left _ (List.mem_of_getElem? (i := 9) rfl))))) dX12_tryRecipe_210 ?_
            refine lv_dcmp hx hb dX12_tryRecipe_213 ?_
            refine lv_if_ne (tgt := 227) hx hb dX12_tryRecipe_214 (by decide) (fun hc36 => ?_) (fun hc36 => ?_)
            · have h := ifn h hc36
              exact HJ20 _ h _ _ hw _ (lv_sub hl [0, 1, 2] rfl)
            · have h := ifp h hc36
              refine lv_lload_n hx hb dX12_tryRecipe_217 rfl (lv_at hl 2 rfl) ?_
              refine lv_aload_n hx hb dX12_tryRecipe_218 rfl (lv_at hl 1 rfl) ?_
              refine M_g0_54 C0 hw (fun w h => (List.mem_cons_of_mem _ (List.mem_append_right _ h))) (by decide) ((List.mem_cons_of_mem _ (List.mem_append_left _ (List.mem_append_left _ (List.mem_of_getElem? (i := 10) rfl))))) dX12_tryRecipe_219 ?_
              refine W.lcmp hx hb dX12_tryRecipe_222 ?_
              refine lv_if_lt (tgt := 227) hx hb dX12_tryRecipe_223 (by decide) (fun hc37 => ?_) (fun hc37 => ?_)
              · have h := ifp h hc37
                exact HJ20 _ h _ _ hw _ (lv_sub hl [0, 1, 2] rfl)
              · have h := ifn h hc37
                cases h
                exact W.vret hx hb hr (M_fin C0 hw) hw.2.2.2 dX12_tryRecipe_226 hlocks
      · have h := ifn h hc16
        refine lv_aload_n hx hb dX12_tryRecipe_81 rfl (lv_at hl 1 rfl) ?_
        refine lv_aload_n hx hb dX12_tryRecipe_82 rfl (lv_at hl 1 rfl) ?_
        refine M_g0_0 C0 hw (fun w h => (List.mem_cons_of_mem _ (List.mem_append_right _ h))) (by decide) ((List.mem_cons_of_mem _ (List.mem_append_left _ (List.mem_append_left _ (List.mem_of_getElem? (i := 5) rfl))))) dX12_tryRecipe_83 ?_
        refine lv_bipush (v := 16) hx hb dX12_tryRecipe_86 (by decide) ?_
        refine lv_bipush (v := 41) hx hb dX12_tryRecipe_88 (by decide) ?_
        refine lv_aload_n hx hb dX12_tryRecipe_90 rfl (lv_at hl 1 rfl) ?_
        refine M_g0_58 C0 hw (fun w h => (List.mem_cons_of_mem _ (List.mem_append_right _ h))) (by decide) ((List.mem_cons_of_mem _ (List.mem_append_left _ (List.mem_append_left _ (List.mem_of_getElem? (i := 6) rfl))))) dX12_tryRecipe_91 ?_
        refine lv_iadd hx hb dX12_tryRecipe_94 ?_
        refine lv_imul hx hb dX12_tryRecipe_95 ?_
        refine lv_iload_n hx hb dX12_tryRecipe_96 rfl (lv_at hl 0 rfl) ?_
        refine lv_iadd hx hb dX12_tryRecipe_97 ?_
        refine M_fald C0 hw h (k := (((16 : Int32) * ((41 : Int32) + (gI t14 0 (0) 58))) + v13).toNatClampNeg) rfl dX12_tryRecipe_98 (fun h => ?_)
        obtain ⟨v38, hf39, h⟩ := bn_c h
        refine M_callV C0 hw (As := [.float (gF t14 (1) (0) ((((16 : Int32) * ((41 : Int32) + (gI t14 0 (0) 58))) + v13).toNatClampNeg))]) (rest := []) (mX12_quotient l E hL t14 hf39) (cwV 1 C0.1.2.2.2.2 gX12_tryRecipe_X12_quotient rfl rfl rfl (by decide +kernel) ⟨Nat.le_of_ble_eq_true rfl, Nat.le_of_ble_eq_true rfl⟩) (M_recv_0 C0 hw (by decide)) rfl hl.1 rfl (Nat.le_of_ble_eq_true rfl) dX12_tryRecipe_99 ⟨Nat.zero_le _, Nat.zero_le _⟩ (fun H locs hw => ?_)
        refine W.eq (g2 := F0 m 102 ls [.double v38]) rfl ?_
        refine lv_dstore (lv' := [(4, .double v38), (3, .int v13), (0, .ref (E.2.2.1 0 (0))), (1, .long v7)]) hx hb dX12_tryRecipe_102 hl (by decide) rfl (fun ls hl => ?_)
        refine lv_iconst (v := 0) hx hb dX12_tryRecipe_104 (by decide) ?_
        refine lv_istore (lv' := [(6, .int (0 : Int32)), (4, .double v38), (3, .int v13), (0, .ref (E.2.2.1 0 (0))), (1, .long v7)]) hx hb dX12_tryRecipe_105 hl (by decide) rfl (fun ls hl => ?_)
        refine lp_ind (fun q : (Int32 × UInt64) => ∀ (H : Heap) (locs : List Loc), SM E s t14 H locs → ∀ ls : Array Slot, lv_has ls 7 [(6, .int (q.1)), (4, .double (q.2)), (3, .int v13), (0, .ref (E.2.2.1 0 (0))), (1, .long v7)] → W p l e (headSpec wsX12_tryRecipe ({ frames := 6, cells := 0, slots := 0, locals := 164 })).room s m ([.ref (E.2.2.1 0 (0))] : List Value).toArray below meth c H locs 0 0 (MQ below (QM E none st1) ([.ref (E.2.2.1 0 (0))] : List Value).toArray s 0 0 E.2.2.2) (F0 m 107 ls [])) (fun q o42 h hB41 hX40 => ?_) _ _ h _ _ hw _ (lv_sub hl [0, 1, 2, 3, 4] rfl)
        intro H locs hw ls hl
        obtain ⟨v43, v44⟩ := q
        have h := un2_d h
        have hl : lv_has ls 7 [(6, .int v43), (4, .double v44), (3, .int v13), (0, .ref (E.2.2.1 0 (0))), (1, .long v7)] := hl
        refine lv_iload hx hb dX12_tryRecipe_107 (lv_at hl 0 rfl) ?_
        refine lv_aload_n hx hb dX12_tryRecipe_109 rfl (lv_at hl 3 rfl) ?_
        refine M_g0_49 C0 hw (fun w h => (List.mem_cons_of_mem _ (List.mem_append_right _ h))) (by decide) ((List.mem_cons_of_mem _ (List.mem_append_left _ (List.mem_append_left _ (List.mem_of_getElem? (i := 2) rfl))))) dX12_tryRecipe_110 ?_
        refine lv_icmp_ge (tgt := 153) hx hb dX12_tryRecipe_113 (by decide) (fun hc46 => ?_) (fun hc46 => ?_)
        · have h := ifp h hc46
          have h := hX40 _ (Option.some.inj h).symm
          have hl := lv_sub hl (l' := [(0, .ref (E.2.2.1 0 (0))), (1, .long v7), (3, .int v13), (4, .double v44)]) [3, 4, 2, 1] rfl
          refine lv_aload_n hx hb dX12_tryRecipe_153 rfl (lv_at hl 0 rfl) ?_
          refine M_g0_0 C0 hw (fun w h => (List.mem_cons_of_mem _ (List.mem_append_right _ h))) (by decide) ((List.mem_cons_of_mem _ (List.mem_append_left _ (List.mem_append_left _ (List.mem_of_getElem? (i := 5) rfl))))) dX12_tryRecipe_154 ?_
          refine lv_sipush (v := 2144) hx hb dX12_tryRecipe_157 (by decide) ?_
          refine lv_iload_n hx hb dX12_tryRecipe_160 rfl (lv_at hl 2 rfl) ?_
          refine lv_iadd hx hb dX12_tryRecipe_161 ?_
          refine lv_aload_n hx hb dX12_tryRecipe_162 rfl (lv_at hl 0 rfl) ?_
          refine lv_dload hx hb dX12_tryRecipe_163 (lv_at hl 3 rfl) ?_
          obtain ⟨v47, hf48, h⟩ := bn_c h
          refine M_callV C0 hw (As := [.double v44]) (rest := [.int ((2144 : Int32) + v13), .ref (E.2.2.1 (1) (0))]) (mX12_bandOf l E hL t14 hf48) (cwV 1 C0.1.2.2.2.2 gX12_tryRecipe_X12_bandOf rfl rfl rfl (by decide +kernel) ⟨Nat.le_of_ble_eq_true rfl, Nat.le_of_ble_eq_true rfl⟩) (M_recv_0 C0 hw (by decide)) rfl hl.1 rfl (Nat.le_of_ble_eq_true rfl) dX12_tryRecipe_165 ⟨Nat.zero_le _, Nat.zero_le _⟩ (fun H locs hw => ?_)
          refine W.eq (g2 := F0 m 168 ls [.float v47, .int ((2144 : Int32) + v13), .ref (E.2.2.1 (1) (0))]) rfl ?_
          refine M_fast hL C0 hw h (k := ((2144 : Int32) + v13).toNatClampNeg) rfl dX12_tryRecipe_168 (fun t49 H locs hw h => ?_)
          refine x_iinc hx hb h dX12_tryRecipe_169 hl (q := 2) rfl (fun v50 => [(3, .int v50), (0, .ref (E.2.2.1 0 (0))), (1, .long v7), (4, .double v44)]) (by decide) (fun _ => rfl) (fun v50 ls hl h => ?_)
          refine lv_goto (tgt := 75) hx hb dX12_tryRecipe_172 (by decide) ?_
          exact hB11 _ (Option.some.inj h).symm _ _ hw _ (lv_sub hl [0, 1, 2] rfl)
        · have h := ifn h hc46
          refine lv_dload hx hb dX12_tryRecipe_116 (lv_at hl 1 rfl) ?_
          refine lv_aload_n hx hb dX12_tryRecipe_118 rfl (lv_at hl 3 rfl) ?_
          refine lv_aload_n hx hb dX12_tryRecipe_119 rfl (lv_at hl 3 rfl) ?_
          refine M_g0_47 C0 hw (fun w h => (List.mem_cons_of_mem _ (List.mem_append_right _ h))) (by decide) ((List.mem_cons_of_mem _ (List.mem_append_left _ (List.mem_append_left _ (List.mem_of_getElem? (i := 3) rfl))))) dX12_tryRecipe_120 ?_
          refine lv_iconst (v := 2) hx hb dX12_tryRecipe_123 (by decide) ?_
          refine lv_iload hx hb dX12_tryRecipe_124 (lv_at hl 0 rfl) ?_
          refine lv_imul hx hb dX12_tryRecipe_126 ?_
          refine M_iald C0 hw h (k := ((2 : Int32) * v43).toNatClampNeg) rfl dX12_tryRecipe_127 (fun h => ?_)
          refine lv_aload_n hx hb dX12_tryRecipe_128 rfl (lv_at hl 3 rfl) ?_
          refine M_g0_47 C0 hw (fun w h => (List.mem_cons_of_mem _ (List.mem_append_right _ h))) (by decide) ((List.mem_cons_of_mem _ (List.mem_append_left _ (List.mem_append_left _ (List.mem_of_getElem? (i := 3) rfl))))) dX12_tryRecipe_129 ?_
          refine lv_iconst (v := 2) hx hb dX12_tryRecipe_132 (by decide) ?_
          refine lv_iload hx hb dX12_tryRecipe_133 (lv_at hl 0 rfl) ?_
          refine lv_imul hx hb dX12_tryRecipe_135 ?_
          refine lv_iconst (v := 1) hx hb dX12_tryRecipe_136 (by decide) ?_
          refine lv_iadd hx hb dX12_tryRecipe_137 ?_
          refine M_iald C0 hw h (k := (((2 : Int32) * v43) + (1 : Int32)).toNatClampNeg) rfl dX12_tryRecipe_138 (fun h => ?_)
          refine lv_i2d hx hb dX12_tryRecipe_139 ?_
          refine lv_iload_n hx hb dX12_tryRecipe_140 rfl (lv_at hl 2 rfl) ?_
          obtain ⟨v51, hf52, h⟩ := bn_c h
          refine M_callV C0 hw (As := [.int (gI t14 (48) (0) (((2 : Int32) * v43).toNatClampNeg)), .double (FP.i2d (gI t14 (48) (0) ((((2 : Int32) * v43) + (1 : Int32)).toNatClampNeg))), .int v13]) (rest := [.double v44]) (mX12_dyeAt l E hL t14 hf52) (cwV 3 C0.1.2.2.2.2 gX12_tryRecipe_X12_dyeAt rfl rfl rfl (by decide +kernel) ⟨Nat.le_of_ble_eq_true rfl, Nat.le_of_ble_eq_true rfl⟩) (M_recv_0 C0 hw (by decide)) rfl hl.1 rfl (Nat.le_of_ble_eq_true rfl) dX12_tryRecipe_141 ⟨Nat.zero_le _, Nat.zero_le _⟩ (fun H locs hw => ?_)
          refine W.eq (g2 := F0 m 144 ls [.double v51, .double v44]) rfl ?_
          refine x_dadd hx hb h dX12_tryRecipe_144 (fun v53 h => ?_)
          refine lv_dstore (lv' := [(4, .double v53), (6, .int v43), (3, .int v13), (0, .ref (E.2.2.1 0 (0))), (1, .long v7)]) hx hb dX12_tryRecipe_145 hl (by decide) rfl (fun ls hl => ?_)
          refine x_iinc hx hb h dX12_tryRecipe_147 hl (q := 1) rfl (fun v54 => [(6, .int v54), (4, .double v53), (3, .int v13), (0, .ref (E.2.2.1 0 (0))), (1, .long v7)]) (by decide) (fun _ => rfl) (fun v54 ls hl h => ?_)
          refine lv_goto (tgt := 107) hx hb dX12_tryRecipe_150 (by decide) ?_
          exact hB41 _ (Option.some.inj h).symm _ _ hw _ (lv_sub hl [0, 1, 2, 3, 4] rfl)
    · have h := ifn h hc9
      refine lv_lload_n hx hb dX12_tryRecipe_38 rfl (lv_at hl 1 rfl) ?_
      refine lv_aload_n hx hb dX12_tryRecipe_39 rfl (lv_at hl 2 rfl) ?_
      refine M_g0_47 C0 hw (fun w h => (List.mem_cons_of_mem _ (List.mem_append_right _ h))) (by decide) ((List.mem_cons_of_mem _ (List.mem_append_left _ (List.mem_append_left _ (List.mem_of_getElem? (i := 3) rfl))))) dX12_tryRecipe_40 ?_
      refine lv_iconst (v := 2) hx hb dX12_tryRecipe_43 (by decide) ?_
      refine lv_iload_n hx hb dX12_tryRecipe_44 rfl (lv_at hl 0 rfl) ?_
      refine lv_imul hx hb dX12_tryRecipe_45 ?_
      refine lv_iconst (v := 1) hx hb dX12_tryRecipe_46 (by decide) ?_
      refine lv_iadd hx hb dX12_tryRecipe_47 ?_
      refine M_iald C0 hw h (k := (((2 : Int32) * v6) + (1 : Int32)).toNatClampNeg) rfl dX12_tryRecipe_48 (fun h => ?_)
      refine lv_i2l hx hb dX12_tryRecipe_49 rfl ?_
      refine lv_aload_n hx hb dX12_tryRecipe_50 rfl (lv_at hl 2 rfl) ?_
      refine M_g0_14 C0 hw (fun w h => (List.mem_cons_of_mem _ (List.mem_append_right _ h))) (by decide) ((List.mem_cons_of_mem _ (List.mem_append_left _ (List.mem_append_left _ (List.mem_of_getElem? (i := 4) rfl))))) dX12_tryRecipe_51 ?_
      refine lv_aload_n hx hb dX12_tryRecipe_54 rfl (lv_at hl 2 rfl) ?_
      refine M_g0_47 C0 hw (fun w h => (List.mem_cons_of_mem _ (List.mem_append_right _ h))) (by decide) ((List.mem_cons_of_mem _ (List.mem_append_left _ (List.mem_append_left _ (List.mem_of_getElem? (i := 3) rfl))))) dX12_tryRecipe_55 ?_
      refine lv_iconst (v := 2) hx hb dX12_tryRecipe_58 (by decide) ?_
      refine lv_iload_n hx hb dX12_tryRecipe_59 rfl (lv_at hl 0 rfl) ?_
      refine lv_imul hx hb dX12_tryRecipe_60 ?_
      refine M_iald C0 hw h (k := ((2 : Int32) * v6).toNatClampNeg) rfl dX12_tryRecipe_61 (fun h => ?_)
      refine M_iald C0 hw h (k := (gI t2 (48) (0) (((2 : Int32) * v6).toNatClampNeg)).toNatClampNeg) rfl dX12_tryRecipe_62 (fun h => ?_)
      refine lv_i2l hx hb dX12_tryRecipe_63 rfl ?_
      refine lv_lmul hx hb dX12_tryRecipe_64 ?_
      refine lv_ladd hx hb dX12_tryRecipe_65 ?_
      refine x_topl h (fun v80 h => ?_)
      refine lv_lstore_n (lv' := [(1, .long v80), (3, .int v6), (0, .ref (E.2.2.1 0 (0)))]) hx hb dX12_tryRecipe_66 rfl hl (by decide) rfl (fun ls hl => ?_)
      refine x_iinc hx hb h dX12_tryRecipe_67 hl (q := 1) rfl (fun v81 => [(3, .int v81), (1, .long v80), (0, .ref (E.2.2.1 0 (0)))]) (by decide) (fun _ => rfl) (fun v81 ls hl h => ?_)
      refine lv_goto (tgt := 30) hx hb dX12_tryRecipe_70 (by decide) ?_
      exact hB4 _ (Option.some.inj h).symm _ _ hw _ (lv_sub hl [0, 1, 2] rfl)
  · have h := ifp h hc1
    refine lv_aload_n hx hb dX12_tryRecipe_10 rfl (lv_at hl 0 rfl) ?_
    refine lv_iconst (v := 1) hx hb dX12_tryRecipe_11 (by decide) ?_
    refine M_p0_56 hL C0 hw (fun w h => (List.mem_cons_of_mem _ (List.mem_append_right _ h))) (by decide) h rfl rfl ((List.mem_cons_of_mem _ (List.mem_append_left _ (List.mem_append_left _ (List.mem_of_getElem? (i := 1) rfl))))) dX12_tryRecipe_12 (fun t127 H locs hw h => ?_)
    cases h
    exact W.vret hx hb hr (M_fin C0 hw) hw.2.2.2 dX12_tryRecipe_15 hlocks

def fX12_tryGrams (st : Sto) : Option Sto :=
  ((lp (σ := (Int32 × Sto)) (ρ := Sto) (un2 fun (v4 : Int32) (t5 : Sto) =>
     if gI t5 0 (0) 49 ≤ v4 then (
      some (.inr t5)) else (
      ck (0 ≤ (((2 : Int32) * v4) + (1 : Int32)).toInt ∧ (((2 : Int32) * v4) + (1 : Int32)).toInt < (lIM (48) (0) : Int)) (lt1 (sI t5 (48) (0) ((((2 : Int32) * v4) + (1 : Int32)).toNatClampNeg) (gI t5 0 (0) 61)) fun (t43 : Sto) =>
       lt1 (v4 + Int32.ofInt (1)) fun (v44 : Int32) =>
       some (.inl (v44, t43))))) 4000 ((0 : Int32), st)).bind
   (fun (t6 : Sto) =>
    ((lp (σ := (Int32 × Sto)) (ρ := Sto) (un2 fun (v48 : Int32) (t49 : Sto) =>
       if v48 = 0 then (
        some (.inr t49)) else (
        if gI t49 0 (0) 56 = 0 then (
         (fX12_tryRecipe t49).bind (fun (t56 : Sto) =>
          lt1 ((gI t56 0 (0) 49) - (1 : Int32)) fun (v58 : Int32) =>
          ((lp (σ := (Int32 × Sto)) (ρ := (Int32 × Sto)) (un2 fun (v62 : Int32) (t63 : Sto) =>
             if v62 < 0 then (
              some (.inr (v62, t63))) else (
              ck (0 ≤ (((2 : Int32) * v62) + (1 : Int32)).toInt ∧ (((2 : Int32) * v62) + (1 : Int32)).toInt < (lIM (48) (0) : Int)) (
               if gI t63 (48) (0) ((((2 : Int32) * v62) + (1 : Int32)).toNatClampNeg) = (gI t63 0 (0) 61) * (gI t63 0 (0) 62) then (
                ck (0 ≤ (((2 : Int32) * v62) + (1 : Int32)).toInt ∧ (((2 : Int32) * v62) + (1 : Int32)).toInt < (lIM (48) (0) : Int)) (lt1 (sI t63 (48) (0) ((((2 : Int32) * v62) + (1 : Int32)).toNatClampNeg) (gI t63 0 (0) 61)) fun (t78 : Sto) =>
                 lt1 (v62 + Int32.ofInt (-1)) fun (v79 : Int32) =>
                 some (.inl (v79, t78)))) else (
                some (.inr (v62, t63)))))) 4000 (v58, t56)).bind
           (un2 fun (v64 : Int32) (t65 : Sto) =>
            jn (fun (v72 : Int32) =>
             if v72 = 0 then (
              some (.inl (v72, t65))) else (
              ck (0 ≤ (((2 : Int32) * v64) + (1 : Int32)).toInt ∧ (((2 : Int32) * v64) + (1 : Int32)).toInt < (lIM (48) (0) : Int)) (
               ck (0 ≤ (((2 : Int32) * v64) + (1 : Int32)).toInt ∧ (((2 : Int32) * v64) + (1 : Int32)).toInt < (lIM (48) (0) : Int)) (lt1 (sI t65 (48) (0) ((((2 : Int32) * v64) + (1 : Int32)).toNatClampNeg) ((gI t65 (48) (0) ((((2 : Int32) * v64) + (1 : Int32)).toNatClampNeg)) + (gI t65 0 (0) 61))) fun (t74 : Sto) =>
                some (.inl (v72, t74)))))) fun K69 =>
            if v64 < 0 then (
             K69 (0 : Int32)) else (
             K69 (1 : Int32)))))) else (
         some (.inr t49)))) 4000 ((1 : Int32), t6)).bind
     (fun (t50 : Sto) =>
      some t50))))
set_option maxHeartbeats 4000000 in
set_option maxRecDepth 100000 in
theorem mX12_tryGrams (l : Launch) (E : XE) (hL : LM E) (st : Sto) {st1 : Sto} (h : fX12_tryGrams st = some st1) : Met l yX12_tryGrams wsX12_tryGrams ({ frames := 7, cells := 0, slots := 0, locals := 190 }) (va_Pc [.ref (E.2.2.1 0 (0))] (RM E st)) (QM E none st1) 0 0 E.2.2.2 := by
  refine Met.ofW (cc := cX12_tryGrams) (maxL := 3) (ret := none) (by decide) rfl ?_
  intro p e s m args below meth c s₁ B hml hv
  obtain ⟨rfl, hP, hK⟩ := hv
  have hown : s.vm.findClass RX12 = some m.cls := findClass_of_methodNamed B.named
  have C0 : CX p m c cX12_tryGrams 3 s _ wsX12_tryGrams RX12 E := ⟨⟨B.exec, B.bytes, hml, hown, atoms_spec (ws := wsX12_tryGrams) B.pre⟩, hK⟩
  have hx := B.exec
  have hb := B.bytes
  have hr := B.returns
  have hlocks := B.notSynchronized
  have hw : SM E s st s.heap [] := ⟨hP, va_S.rf⟩
  have hl := lv_entry ([.ref (E.2.2.1 0 (0))]) (n := 3) (Nat.le_of_ble_eq_true rfl)
  rw [lg_entry_eq]
  generalize (lg_sl ([.ref (E.2.2.1 0 (0))]) ++ List.replicate (3 - (lg_sl ([.ref (E.2.2.1 0 (0))])).length) Slot.unset).toArray = ls at hl ⊢
  have hl : lv_has ls 3 [(0, .ref (E.2.2.1 0 (0)))] := hl
  unfold fX12_tryGrams at h
  refine lv_iconst (v := 0) hx hb dX12_tryGrams_0 (by decide) ?_
  refine lv_istore_n (lv' := [(1, .int (0 : Int32)), (0, .ref (E.2.2.1 0 (0)))]) hx hb dX12_tryGrams_1 rfl hl (by decide) rfl (fun ls hl => ?_)
  refine lp_ind (fun q : (Int32 × Sto) => ∀ (H : Heap) (locs : List Loc), SM E s (q.2) H locs → ∀ ls : Array Slot, lv_has ls 3 [(1, .int (q.1)), (0, .ref (E.2.2.1 0 (0)))] → W p l e (headSpec wsX12_tryGrams ({ frames := 7, cells := 0, slots := 0, locals := 190 })).room s m ([.ref (E.2.2.1 0 (0))] : List Value).toArray below meth c H locs 0 0 (MQ below (QM E none st1) ([.ref (E.2.2.1 0 (0))] : List Value).toArray s 0 0 E.2.2.2) (F0 m 2 ls [])) (fun q o3 h hB2 hX1 => ?_) _ _ h _ _ hw _ (lv_sub hl [0, 1] rfl)
  intro H locs hw ls hl
  obtain ⟨v4, t5⟩ := q
  have h := un2_d h
  have hw : SM E s t5 H locs := hw
  have hl : lv_has ls 3 [(1, .int v4), (0, .ref (E.2.2.1 0 (0)))] := hl
  refine lv_iload_n hx hb dX12_tryGrams_2 rfl (lv_at hl 0 rfl) ?_
  refine lv_aload_n hx hb dX12_tryGrams_3 rfl (lv_at hl 1 rfl) ?_
  refine M_g0_49 C0 hw (fun w h => (List.mem_cons_of_mem _ (List.mem_append_right _ h))) (by decide) ((List.mem_cons_of_mem _ (List.mem_append_left _ (List.mem_append_left _ (List.mem_of_getElem? (i := 0) rfl))))) dX12_tryGrams_4 ?_
  refine lv_icmp_ge (tgt := 30) hx hb dX12_tryGrams_7 (by decide) (fun hc7 => ?_) (fun hc7 => ?_)
  · have h := ifp h hc7
    have h := hX1 _ (Option.some.inj h).symm
    have hl := lv_sub hl (l' := [(0, .ref (E.2.2.1 0 (0)))]) [1] rfl
    refine lv_iconst (v := 1) hx hb dX12_tryGrams_30 (by decide) ?_
    refine lv_istore_n (lv' := [(1, .int (1 : Int32)), (0, .ref (E.2.2.1 0 (0)))]) hx hb dX12_tryGrams_31 rfl hl (by decide) rfl (fun ls hl => ?_)
    refine bn_K h (fun K14 hK15 h => ?_)
    have HX16 : ∀ (t13 : Sto), K14 t13 = some st1 → ∀ (H : Heap) (locs : List Loc), SM E s t13 H locs → ∀ ls : Array Slot, lv_has ls 3 [] → W p l e (headSpec wsX12_tryGrams ({ frames := 7, cells := 0, slots := 0, locals := 190 })).room s m ([.ref (E.2.2.1 0 (0))] : List Value).toArray below meth c H locs 0 0 (MQ below (QM E none st1) ([.ref (E.2.2.1 0 (0))] : List Value).toArray s 0 0 E.2.2.2) (F0 m 134 ls []) := by
      intro t13 h H locs hw ls hl
      have h := kk1 h hK15
      cases h
      exact W.vret hx hb hr (M_fin C0 hw) hw.2.2.2 dX12_tryGrams_134 hlocks
    refine lp_ind (fun q : (Int32 × Sto) => ∀ (H : Heap) (locs : List Loc), SM E s (q.2) H locs → ∀ ls : Array Slot, lv_has ls 3 [(1, .int (q.1)), (0, .ref (E.2.2.1 0 (0)))] → W p l e (headSpec wsX12_tryGrams ({ frames := 7, cells := 0, slots := 0, locals := 190 })).room s m ([.ref (E.2.2.1 0 (0))] : List Value).toArray below meth c H locs 0 0 (MQ below (QM E none st1) ([.ref (E.2.2.1 0 (0))] : List Value).toArray s 0 0 E.2.2.2) (F0 m 32 ls [])) (fun q o10 h hB9 hX8 => ?_) _ _ h _ _ hw _ (lv_sub hl [0, 1] rfl)
    intro H locs hw ls hl
    obtain ⟨v11, t12⟩ := q
    have h := un2_d h
    have hw : SM E s t12 H locs := hw
    have hl : lv_has ls 3 [(1, .int v11), (0, .ref (E.2.2.1 0 (0)))] := hl
    refine lv_iload_n hx hb dX12_tryGrams_32 rfl (lv_at hl 0 rfl) ?_
    refine lv_if_eq (tgt := 134) hx hb dX12_tryGrams_33 (by decide) (fun hc17 => ?_) (fun hc17 => ?_)
    · have h := ifp h hc17
      have h := hX8 _ (Option.some.inj h).symm
      exact HX16 _ h _ _ hw _ (lv_sub hl [] rfl)
    · have h := ifn h hc17
      refine lv_aload_n hx hb dX12_tryGrams_36 rfl (lv_at hl 1 rfl) ?_
      refine M_g0_56 C0 hw (fun w h => (List.mem_cons_of_mem _ (List.mem_append_right _ h))) (by decide) ((List.mem_cons_of_mem _ (List.mem_append_left _ (List.mem_append_left _ (List.mem_of_getElem? (i := 3) rfl))))) dX12_tryGrams_37 ?_
      refine lv_if_ne (tgt := 134) hx hb dX12_tryGrams_40 (by decide) (fun hc18 => ?_) (fun hc18 => ?_)
      · have h := ifn h hc18
        have h := hX8 _ (Option.some.inj h).symm
        exact HX16 _ h _ _ hw _ (lv_sub hl [] rfl)
      · have h := ifp h hc18
        refine lv_aload_n hx hb dX12_tryGrams_43 rfl (lv_at hl 1 rfl) ?_
        obtain ⟨t19, hf20, h⟩ := bn_c h
        refine M_callV C0 hw (As := []) (rest := []) (mX12_tryRecipe l E hL t12 hf20) (cwV 0 C0.1.2.2.2.2 gX12_tryGrams_X12_tryRecipe rfl rfl rfl (by decide +kernel) ⟨Nat.le_of_ble_eq_true rfl, Nat.le_of_ble_eq_true rfl⟩) (M_recv_0 C0 hw (by decide)) rfl hl.1 rfl (Nat.le_of_ble_eq_true rfl) dX12_tryGrams_44 ⟨Nat.zero_le _, Nat.zero_le _⟩ (fun H locs hw => ?_)
        refine W.eq (g2 := F0 m 47 ls []) rfl ?_
        refine lv_aload_n hx hb dX12_tryGrams_47 rfl (lv_at hl 1 rfl) ?_
        refine M_g0_49 C0 hw (fun w h => (List.mem_cons_of_mem _ (List.mem_append_right _ h))) (by decide) ((List.mem_cons_of_mem _ (List.mem_append_left _ (List.mem_append_left _ (List.mem_of_getElem? (i := 0) rfl))))) dX12_tryGrams_48 ?_
        refine lv_iconst (v := 1) hx hb dX12_tryGrams_51 (by decide) ?_
        refine lv_isub hx hb dX12_tryGrams_52 ?_
        refine x_topi h (fun v21 h => ?_)
        refine lv_istore_n (lv' := [(2, .int v21), (1, .int v11), (0, .ref (E.2.2.1 0 (0)))]) hx hb dX12_tryGrams_53 rfl hl (by decide) rfl (fun ls hl => ?_)
        refine bn_K h (fun K29 hK30 h => ?_)
        have HX31 : ∀ (v27 : Int32) (t28 : Sto), K29 (v27, t28) = some o10 → ∀ (H : Heap) (locs : List Loc), SM E s t28 H locs → ∀ ls : Array Slot, lv_has ls 3 [(0, .ref (E.2.2.1 0 (0))), (2, .int v27)] → W p l e (headSpec wsX12_tryGrams ({ frames := 7, cells := 0, slots := 0, locals := 190 })).room s m ([.ref (E.2.2.1 0 (0))] : List Value).toArray below meth c H locs 0 0 (MQ below (QM E none st1) ([.ref (E.2.2.1 0 (0))] : List Value).toArray s 0 0 E.2.2.2) (F0 m 100 ls []) := by
          intro v27 t28 h H locs hw ls hl
          have h := kk1 h hK30
          have h := un2_d h
          refine lv_iload_n hx hb dX12_tryGrams_100 rfl (lv_at hl 1 rfl) ?_
          refine jn_c h (fun K32 hK34 h => ?_)
          have HJ33 : ∀ (v35 : Int32), K32 v35 = some o10 → ∀ (H : Heap) (locs : List Loc), SM E s t28 H locs → ∀ ls : Array Slot, lv_has ls 3 [(0, .ref (E.2.2.1 0 (0))), (2, .int v27)] → W p l e (headSpec wsX12_tryGrams ({ frames := 7, cells := 0, slots := 0, locals := 190 })).room s m ([.ref (E.2.2.1 0 (0))] : List Value).toArray below meth c H locs 0 0 (MQ below (QM E none st1) ([.ref (E.2.2.1 0 (0))] : List Value).toArray s 0 0 E.2.2.2) (F0 m 109 ls [.int v35]) := by
            intro v35 h H locs hw ls hl
            have h := kk1 h hK34
            refine lv_istore_n (lv' := [(1, .int v35), (0, .ref (E.2.2.1 0 (0))), (2, .int v27)]) hx hb dX12_tryGrams_109 rfl hl (by decide) rfl (fun ls hl => ?_)
            refine lv_iload_n hx hb dX12_tryGrams_110 rfl (lv_at hl 0 rfl) ?_
            refine lv_if_eq (tgt := 131) hx hb dX12_tryGrams_111 (by decide) (fun hc36 => ?_) (fun hc36 => ?_)
            · have h := ifp h hc36
              refine lv_goto (tgt := 32) hx hb dX12_tryGrams_131 (by decide) ?_
              exact hB9 _ (Option.some.inj h).symm _ _ hw _ (lv_sub hl [0, 1] rfl)
            · have h := ifn h hc36
              refine lv_aload_n hx hb dX12_tryGrams_114 rfl (lv_at hl 1 rfl) ?_
              refine M_g0_47 C0 hw (fun w h => (List.mem_cons_of_mem _ (List.mem_append_right _ h))) (by decide) ((List.mem_cons_of_mem _ (List.mem_append_left _ (List.mem_append_left _ (List.mem_of_getElem? (i := 1) rfl))))) dX12_tryGrams_115 ?_
              refine lv_iconst (v := 2) hx hb dX12_tryGrams_118 (by decide) ?_
              refine lv_iload_n hx hb dX12_tryGrams_119 rfl (lv_at hl 2 rfl) ?_
              refine lv_imul hx hb dX12_tryGrams_120 ?_
              refine lv_iconst (v := 1) hx hb dX12_tryGrams_121 (by decide) ?_
              refine lv_iadd hx hb dX12_tryGrams_122 ?_
              refine lv_dup2_11 hx hb dX12_tryGrams_123 rfl rfl ?_
              refine M_iald C0 hw h (k := (((2 : Int32) * v27) + (1 : Int32)).toNatClampNeg) rfl dX12_tryGrams_124 (fun h => ?_)
              refine lv_aload_n hx hb dX12_tryGrams_125 rfl (lv_at hl 1 rfl) ?_
              refine M_g0_61 C0 hw (fun w h => (List.mem_cons_of_mem _ (List.mem_append_right _ h))) (by decide) ((List.mem_cons_of_mem _ (List.mem_append_left _ (List.mem_append_left _ (List.mem_of_getElem? (i := 2) rfl))))) dX12_tryGrams_126 ?_
              refine lv_iadd hx hb dX12_tryGrams_129 ?_
              refine M_iast hL C0 hw h (k := (((2 : Int32) * v27) + (1 : Int32)).toNatClampNeg) rfl dX12_tryGrams_130 (fun t37 H locs hw h => ?_)
              refine lv_goto (tgt := 32) hx hb dX12_tryGrams_131 (by decide) ?_
              exact hB9 _ (Option.some.inj h).symm _ _ hw _ (lv_sub hl [0, 1] rfl)
          refine lv_if_lt (tgt := 108) hx hb dX12_tryGrams_101 (by decide) (fun hc38 => ?_) (fun hc38 => ?_)
          · have h := ifp h hc38
            refine lv_iconst (v := 0) hx hb dX12_tryGrams_108 (by decide) ?_
            exact HJ33 _ h _ _ hw _ (lv_sub hl [0, 1] rfl)
          · have h := ifn h hc38
            refine lv_iconst (v := 1) hx hb dX12_tryGrams_104 (by decide) ?_
            refine lv_goto (tgt := 109) hx hb dX12_tryGrams_105 (by decide) ?_
            exact HJ33 _ h _ _ hw _ (lv_sub hl [0, 1] rfl)
        refine lp_ind (fun q : (Int32 × Sto) => ∀ (H : Heap) (locs : List Loc), SM E s (q.2) H locs → ∀ ls : Array Slot, lv_has ls 3 [(2, .int (q.1)), (0, .ref (E.2.2.1 0 (0)))] → W p l e (headSpec wsX12_tryGrams ({ frames := 7, cells := 0, slots := 0, locals := 190 })).room s m ([.ref (E.2.2.1 0 (0))] : List Value).toArray below meth c H locs 0 0 (MQ below (QM E none st1) ([.ref (E.2.2.1 0 (0))] : List Value).toArray s 0 0 E.2.2.2) (F0 m 54 ls [])) (fun q o24 h hB23 hX22 => ?_) _ _ h _ _ hw _ (lv_sub hl [0, 2] rfl)
        intro H locs hw ls hl
        obtain ⟨v25, t26⟩ := q
        have h := un2_d h
        have hw : SM E s t26 H locs := hw
        have hl : lv_has ls 3 [(2, .int v25), (0, .ref (E.2.2.1 0 (0)))] := hl
        refine lv_iload_n hx hb dX12_tryGrams_54 rfl (lv_at hl 0 rfl) ?_
        refine lv_if_lt (tgt := 100) hx hb dX12_tryGrams_55 (by decide) (fun hc39 => ?_) (fun hc39 => ?_)
        · have h := ifp h hc39
          have h := hX22 _ (Option.some.inj h).symm
          exact HX31 _ _ h _ _ hw _ (lv_sub hl [1, 0] rfl)
        · have h := ifn h hc39
          refine lv_aload_n hx hb dX12_tryGrams_58 rfl (lv_at hl 1 rfl) ?_
          refine M_g0_47 C0 hw (fun w h => (List.mem_cons_of_mem _ (List.mem_append_right _ h))) (by decide) ((List.mem_cons_of_mem _ (List.mem_append_left _ (List.mem_append_left _ (List.mem_of_getElem? (i := 1) rfl))))) dX12_tryGrams_59 ?_
          refine lv_iconst (v := 2) hx hb dX12_tryGrams_62 (by decide) ?_
          refine lv_iload_n hx hb dX12_tryGrams_63 rfl (lv_at hl 0 rfl) ?_
          refine lv_imul hx hb dX12_tryGrams_64 ?_
          refine lv_iconst (v := 1) hx hb dX12_tryGrams_65 (by decide) ?_
          refine lv_iadd hx hb dX12_tryGrams_66 ?_
          refine M_iald C0 hw h (k := (((2 : Int32) * v25) + (1 : Int32)).toNatClampNeg) rfl dX12_tryGrams_67 (fun h => ?_)
          refine lv_aload_n hx hb dX12_tryGrams_68 rfl (lv_at hl 1 rfl) ?_
          refine M_g0_61 C0 hw (fun w h => (List.mem_cons_of_mem _ (List.mem_append_right _ h))) (by decide) ((List.mem_cons_of_mem _ (List.mem_append_left _ (List.mem_append_left _ (List.mem_of_getElem? (i := 2) rfl))))) dX12_tryGrams_69 ?_
          refine lv_aload_n hx hb dX12_tryGrams_72 rfl (lv_at hl 1 rfl) ?_
          refine M_g0_62 C0 hw (fun w h => (List.mem_cons_of_mem _ (List.mem_append_right _ h))) (by decide) ((List.mem_cons_of_mem _ (List.mem_append_left _ (List.mem_append_left _ (List.mem_of_getElem? (i := 4) rfl))))) dX12_tryGrams_73 ?_
          refine lv_imul hx hb dX12_tryGrams_76 ?_
          refine lv_icmp_ne (tgt := 100) hx hb dX12_tryGrams_77 (by decide) (fun hc40 => ?_) (fun hc40 => ?_)
          · have h := ifn h hc40
            have h := hX22 _ (Option.some.inj h).symm
            exact HX31 _ _ h _ _ hw _ (lv_sub hl [1, 0] rfl)
          · have h := ifp h hc40
            refine lv_aload_n hx hb dX12_tryGrams_80 rfl (lv_at hl 1 rfl) ?_
            refine M_g0_47 C0 hw (fun w h => (List.mem_cons_of_mem _ (List.mem_append_right _ h))) (by decide) ((List.mem_cons_of_mem _ (List.mem_append_left _ (List.mem_append_left _ (List.mem_of_getElem? (i := 1) rfl))))) dX12_tryGrams_81 ?_
            refine lv_iconst (v := 2) hx hb dX12_tryGrams_84 (by decide) ?_
            refine lv_iload_n hx hb dX12_tryGrams_85 rfl (lv_at hl 0 rfl) ?_
            refine lv_imul hx hb dX12_tryGrams_86 ?_
            refine lv_iconst (v := 1) hx hb dX12_tryGrams_87 (by decide) ?_
            refine lv_iadd hx hb dX12_tryGrams_88 ?_
            refine lv_aload_n hx hb dX12_tryGrams_89 rfl (lv_at hl 1 rfl) ?_
            refine M_g0_61 C0 hw (fun w h => (List.mem_cons_of_mem _ (List.mem_append_right _ h))) (by decide) ((List.mem_cons_of_mem _ (List.mem_append_left _ (List.mem_append_left _ (List.mem_of_getElem? (i := 2) rfl))))) dX12_tryGrams_90 ?_
            refine M_iast hL C0 hw h (k := (((2 : Int32) * v25) + (1 : Int32)).toNatClampNeg) rfl dX12_tryGrams_93 (fun t41 H locs hw h => ?_)
            refine x_iinc hx hb h dX12_tryGrams_94 hl (q := 0) rfl (fun v42 => [(2, .int v42), (0, .ref (E.2.2.1 0 (0)))]) (by decide) (fun _ => rfl) (fun v42 ls hl h => ?_)
            refine lv_goto (tgt := 54) hx hb dX12_tryGrams_97 (by decide) ?_
            exact hB23 _ (Option.some.inj h).symm _ _ hw _ (lv_sub hl [0, 1] rfl)
  · have h := ifn h hc7
    refine lv_aload_n hx hb dX12_tryGrams_10 rfl (lv_at hl 1 rfl) ?_
    refine M_g0_47 C0 hw (fun w h => (List.mem_cons_of_mem _ (List.mem_append_right _ h))) (by decide) ((List.mem_cons_of_mem _ (List.mem_append_left _ (List.mem_append_left _ (List.mem_of_getElem? (i := 1) rfl))))) dX12_tryGrams_11 ?_
    refine lv_iconst (v := 2) hx hb dX12_tryGrams_14 (by decide) ?_
    refine lv_iload_n hx hb dX12_tryGrams_15 rfl (lv_at hl 0 rfl) ?_
    refine lv_imul hx hb dX12_tryGrams_16 ?_
    refine lv_iconst (v := 1) hx hb dX12_tryGrams_17 (by decide) ?_
    refine lv_iadd hx hb dX12_tryGrams_18 ?_
    refine lv_aload_n hx hb dX12_tryGrams_19 rfl (lv_at hl 1 rfl) ?_
    refine M_g0_61 C0 hw (fun w h => (List.mem_cons_of_mem _ (List.mem_append_right _ h))) (by decide) ((List.mem_cons_of_mem _ (List.mem_append_left _ (List.mem_append_left _ (List.mem_of_getElem? (i := 2) rfl))))) dX12_tryGrams_20 ?_
    refine M_iast hL C0 hw h (k := (((2 : Int32) * v4) + (1 : Int32)).toNatClampNeg) rfl dX12_tryGrams_23 (fun t43 H locs hw h => ?_)
    refine x_iinc hx hb h dX12_tryGrams_24 hl (q := 0) rfl (fun v44 => [(1, .int v44), (0, .ref (E.2.2.1 0 (0)))]) (by decide) (fun _ => rfl) (fun v44 ls hl h => ?_)
    refine lv_goto (tgt := 2) hx hb dX12_tryGrams_27 (by decide) ?_
    exact hB2 _ (Option.some.inj h).symm _ _ hw _ (lv_sub hl [0, 1] rfl)

def fX12_isOf (a1 : Int32) (a2 : Int32) (st : Sto) : Option Int32 :=
  if gI st 0 (0) 4 ≤ a2 then (
   some (0 : Int32)) else (
   if (a1 >>> (a2 &&& 31)) &&& (1 : Int32) = (1 : Int32) then (
    some (1 : Int32)) else (
    some (0 : Int32)))
set_option maxHeartbeats 4000000 in
set_option maxRecDepth 100000 in
theorem mX12_isOf (l : Launch) (E : XE) (hL : LM E) (st : Sto) {a1 : Int32} {a2 : Int32} {r : Int32} (h : fX12_isOf a1 a2 st = some r) : Met l yX12_isOf wsX12_isOf ({ frames := 0, cells := 0, slots := 0, locals := 0 }) (va_Pc [.ref (E.2.2.1 0 (0)), .int a1, .int a2] (RM E st)) (QM E (some (.int r)) st) 0 0 E.2.2.2 := by
  refine Met.ofW (cc := cX12_isOf) (maxL := 3) (ret := (some .boolean)) (by decide) rfl ?_
  intro p e s m args below meth c s₁ B hml hv
  obtain ⟨rfl, hP, hK⟩ := hv
  have hown : s.vm.findClass RX12 = some m.cls := findClass_of_methodNamed B.named
  have C0 : CX p m c cX12_isOf 3 s _ wsX12_isOf RX12 E := ⟨⟨B.exec, B.bytes, hml, hown, atoms_spec (ws := wsX12_isOf) B.pre⟩, hK⟩
  have hx := B.exec
  have hb := B.bytes
  have hr := B.returns
  have hlocks := B.notSynchronized
  have hw : SM E s st s.heap [] := ⟨hP, va_S.rf⟩
  have hl := lv_entry ([.ref (E.2.2.1 0 (0)), .int a1, .int a2]) (n := 3) (Nat.le_of_ble_eq_true rfl)
  rw [lg_entry_eq]
  generalize (lg_sl ([.ref (E.2.2.1 0 (0)), .int a1, .int a2]) ++ List.replicate (3 - (lg_sl ([.ref (E.2.2.1 0 (0)), .int a1, .int a2])).length) Slot.unset).toArray = ls at hl ⊢
  have hl : lv_has ls 3 [(0, .ref (E.2.2.1 0 (0))), (1, .int a1), (2, .int a2)] := hl
  unfold fX12_isOf at h
  refine lv_iload_n hx hb dX12_isOf_0 rfl (lv_at hl 2 rfl) ?_
  refine lv_aload_n hx hb dX12_isOf_1 rfl (lv_at hl 0 rfl) ?_
  refine M_g0_4 C0 hw (fun w h => (List.mem_cons_of_mem _ (List.mem_append_right _ h))) (by decide) ((List.mem_cons_of_mem _ (List.mem_append_left _ (List.mem_of_getElem? (i := 0) rfl)))) dX12_isOf_2 ?_
  refine lv_icmp_ge (tgt := 21) hx hb dX12_isOf_5 (by decide) (fun hc1 => ?_) (fun hc1 => ?_)
  · have h := ifp h hc1
    refine lv_iconst (v := 0) hx hb dX12_isOf_21 (by decide) ?_
    cases h
    exact W.zret hx hb hr rfl (M_fin C0 hw) hw.2.2.2 dX12_isOf_22 hlocks
  · have h := ifn h hc1
    refine lv_iload_n hx hb dX12_isOf_8 rfl (lv_at hl 1 rfl) ?_
    refine lv_iload_n hx hb dX12_isOf_9 rfl (lv_at hl 2 rfl) ?_
    refine lv_ishr hx hb dX12_isOf_10 ?_
    refine lv_iconst (v := 1) hx hb dX12_isOf_11 (by decide) ?_
    refine lv_iand hx hb dX12_isOf_12 ?_
    refine lv_iconst (v := 1) hx hb dX12_isOf_13 (by decide) ?_
    refine lv_icmp_ne (tgt := 21) hx hb dX12_isOf_14 (by decide) (fun hc2 => ?_) (fun hc2 => ?_)
    · have h := ifn h hc2
      refine lv_iconst (v := 0) hx hb dX12_isOf_21 (by decide) ?_
      cases h
      exact W.zret hx hb hr rfl (M_fin C0 hw) hw.2.2.2 dX12_isOf_22 hlocks
    · have h := ifp h hc2
      refine lv_iconst (v := 1) hx hb dX12_isOf_17 (by decide) ?_
      refine lv_goto (tgt := 22) hx hb dX12_isOf_18 (by decide) ?_
      cases h
      exact W.zret hx hb hr rfl (M_fin C0 hw) hw.2.2.2 dX12_isOf_22 hlocks

def fX12_recipe (a1 : Int32) (a2 : Int32) (a3 : Int32) (a4 : Int32) (a5 : Int32) (a6 : Int32) (a7 : Int32) (a8 : Int32) (st : Sto) : Option (Int32 × Sto) :=
  lt1 (sI st 0 (0) 10 (0 : Int32)) fun (t1 : Sto) =>
  (fX12_is a1 (gI t1 0 (0) 2)).bind (fun (v2 : Int32) =>
   if v2 = 0 then (
    (fX12_no (2 : Int32) t1).bind (un2 fun (v5 : Int32) (t6 : Sto) =>
     some (v5, t6))) else (
    (fX12_is a2 (gI t1 0 (0) 3)).bind (fun (v8 : Int32) =>
     if v8 = 0 then (
      (fX12_no (2 : Int32) t1).bind (un2 fun (v222 : Int32) (t223 : Sto) =>
       some (v222, t223))) else (
      (fX12_is a3 (6 : Int32)).bind (fun (v11 : Int32) =>
       if v11 = 0 then (
        (fX12_no (3 : Int32) t1).bind (un2 fun (v14 : Int32) (t15 : Sto) =>
         some (v14, t15))) else (
        (fX12_is a4 (2 : Int32)).bind (fun (v17 : Int32) =>
         if v17 = 0 then (
          (fX12_no (3 : Int32) t1).bind (un2 fun (v20 : Int32) (t21 : Sto) =>
           some (v20, t21))) else (
          if a6 < (1 : Int32) then (
           (fX12_no (3 : Int32) t1).bind (un2 fun (v24 : Int32) (t25 : Sto) =>
            some (v24, t25))) else (
           if (3 : Int32) < a6 then (
            (fX12_no (3 : Int32) t1).bind (un2 fun (v28 : Int32) (t29 : Sto) =>
             some (v28, t29))) else (
            if a7 < (1 : Int32) then (
             (fX12_no (3 : Int32) t1).bind (un2 fun (v32 : Int32) (t33 : Sto) =>
              some (v32, t33))) else (
             if (10000 : Int32) < a7 then (
              (fX12_no (3 : Int32) t1).bind (un2 fun (v36 : Int32) (t37 : Sto) =>
               some (v36, t37))) else (
              if a8 < (1 : Int32) then (
               (fX12_no (3 : Int32) t1).bind (un2 fun (v40 : Int32) (t41 : Sto) =>
                some (v40, t41))) else (
               if (12 : Int32) < a8 then (
                (fX12_no (3 : Int32) t1).bind (un2 fun (v44 : Int32) (t45 : Sto) =>
                 some (v44, t45))) else (
                if (a5.toUInt32 >>> ((gI t1 0 (0) 4).toUInt32 &&& Int32.toUInt32 31)).toInt32 = 0 then (
                 lt1 (sI t1 0 (0) 58 a2) fun (t48 : Sto) =>
                 lt1 (sI t48 0 (0) 59 a3) fun (t49 : Sto) =>
                 lt1 (sI t49 0 (0) 60 a4) fun (t50 : Sto) =>
                 lt1 (sI t50 0 (0) 61 a7) fun (t51 : Sto) =>
                 lt1 (sI t51 0 (0) 62 a8) fun (t52 : Sto) =>
                 (fX12_goalIs ((1 : Int32) + a1) a3 a4 t52).bind (fun (t53 : Sto) =>
                  lt1 (sI t53 0 (0) 51 (0 : Int32)) fun (t55 : Sto) =>
                  lt1 (sI t55 0 (0) 56 (0 : Int32)) fun (t56 : Sto) =>
                  lt1 (sI t56 0 (0) 49 (0 : Int32)) fun (t57 : Sto) =>
                  (fX12_tryRecipe t57).bind (fun (t58 : Sto) =>
                   ((lp (σ := (Int32 × Sto)) (ρ := Sto) (un2 fun (v63 : Int32) (t64 : Sto) =>
                      if a6 < v63 then (
                       some (.inr t64)) else (
                       ((lp (σ := (Int32 × Sto)) (ρ := Sto) (un2 fun (v117 : Int32) (t118 : Sto) =>
                          if gI t118 0 (0) 4 ≤ v117 then (
                           some (.inr t118)) else (
                           if gI t118 0 (0) 56 = 0 then (
                            (fX12_isOf a5 v117 t118).bind (fun (v126 : Int32) =>
                             if v126 = 0 then (
                              lt1 (v117 + Int32.ofInt (1)) fun (v188 : Int32) =>
                              some (.inl (v188, t118))) else (
                              lt1 (sI t118 (48) (0) (0) v117) fun (t129 : Sto) =>
                              jn (fun (t133 : Sto) =>
                               lt1 (v117 + (1 : Int32)) fun (v134 : Int32) =>
                               ((lp (σ := (Int32 × Sto)) (ρ := Sto) (un2 fun (v138 : Int32) (t139 : Sto) =>
                                  if gI t139 0 (0) 4 ≤ v138 then (
                                   some (.inr t139)) else (
                                   if v63 ≤ (1 : Int32) then (
                                    some (.inr t139)) else (
                                    if gI t139 0 (0) 56 = 0 then (
                                     (fX12_isOf a5 v138 t139).bind (fun (v148 : Int32) =>
                                      if v148 = 0 then (
                                       lt1 (v138 + Int32.ofInt (1)) fun (v183 : Int32) =>
                                       some (.inl (v183, t139))) else (
                                       lt1 (sI t139 (48) (0) (2) v138) fun (t151 : Sto) =>
                                       jn (fun (t155 : Sto) =>
                                        lt1 (v138 + (1 : Int32)) fun (v156 : Int32) =>
                                        ((lp (σ := (Int32 × Sto)) (ρ := Sto) (un2 fun (v160 : Int32) (t161 : Sto) =>
                                           if gI t161 0 (0) 4 ≤ v160 then (
                                            some (.inr t161)) else (
                                            if v63 ≤ (2 : Int32) then (
                                             some (.inr t161)) else (
                                             if gI t161 0 (0) 56 = 0 then (
                                              (fX12_isOf a5 v160 t161).bind (fun (v170 : Int32) =>
                                               if v170 = 0 then (
                                                lt1 (v160 + Int32.ofInt (1)) fun (v178 : Int32) =>
                                                some (.inl (v178, t161))) else (
                                                lt1 (sI t161 (48) (0) (4) v160) fun (t173 : Sto) =>
                                                lt1 (sI t173 0 (0) 49 (3 : Int32)) fun (t174 : Sto) =>
                                                (fX12_tryGrams t174).bind (fun (t175 : Sto) =>
                                                 lt1 (v160 + Int32.ofInt (1)) fun (v177 : Int32) =>
                                                 some (.inl (v177, t175)))))) else (
                                              some (.inr t161))))) 4000 (v156, t155)).bind
                                         (fun (t162 : Sto) =>
                                          lt1 (v138 + Int32.ofInt (1)) fun (v166 : Int32) =>
                                          some (.inl (v166, t162))))) fun K152 =>
                                       if v63 = (2 : Int32) then (
                                        lt1 (sI t151 0 (0) 49 (2 : Int32)) fun (t180 : Sto) =>
                                        (fX12_tryGrams t180).bind (fun (t181 : Sto) =>
                                         K152 t181)) else (
                                        K152 t151)))) else (
                                     some (.inr t139))))) 4000 (v134, t133)).bind
                                (fun (t140 : Sto) =>
                                 lt1 (v117 + Int32.ofInt (1)) fun (v144 : Int32) =>
                                 some (.inl (v144, t140))))) fun K130 =>
                              if v63 = (1 : Int32) then (
                               lt1 (sI t129 0 (0) 49 (1 : Int32)) fun (t185 : Sto) =>
                               (fX12_tryGrams t185).bind (fun (t186 : Sto) =>
                                K130 t186)) else (
                               K130 t129)))) else (
                            some (.inr t118)))) 4000 ((0 : Int32), t64)).bind
                        (fun (t119 : Sto) =>
                         lt1 (v63 + Int32.ofInt (1)) fun (v123 : Int32) =>
                         some (.inl (v123, t119)))))) 4000 ((1 : Int32), t58)).bind
                    (fun (t65 : Sto) =>
                     lt1 (sI t65 0 (0) 52 (gI t65 0 (0) 51)) fun (t189 : Sto) =>
                     jn (fun (v193 : Int32) =>
                      ck (v193 = 0 ∨ v193 = 1) (
                       lt1 (sI t189 0 (0) 55 v193) fun (t194 : Sto) =>
                       lt1 ((2 : Int32) * (gI t194 0 (0) 50)) fun (v195 : Int32) =>
                       ((lp (σ := (Int32 × Sto)) (ρ := Sto) (un2 fun (v199 : Int32) (t200 : Sto) =>
                          if (6 : Int32) ≤ v199 then (
                           some (.inr t200)) else (
                           ck (0 ≤ v199.toInt ∧ v199.toInt < (lIM (49) (0) : Int)) (lt1 (sI t200 (49) (0) (v199.toNatClampNeg) (-1 : Int32)) fun (t203 : Sto) =>
                            lt1 (v199 + Int32.ofInt (1)) fun (v204 : Int32) =>
                            some (.inl (v204, t203))))) 4000 (v195, t194)).bind
                        (fun (t201 : Sto) =>
                         ((lp (σ := (Int32 × Sto)) (ρ := Sto) (un2 fun (v208 : Int32) (t209 : Sto) =>
                            if (6 : Int32) ≤ v208 then (
                             some (.inr t209)) else (
                             ck (0 ≤ v208.toInt ∧ v208.toInt < (lIM (49) (0) : Int)) (
                              ck (0 ≤ v208.toInt ∧ v208.toInt < (lIM (64) (0) : Int)) (lt1 (sI t209 (64) (0) (v208.toNatClampNeg) (gI t209 (49) (0) (v208.toNatClampNeg))) fun (t212 : Sto) =>
                               lt1 (v208 + Int32.ofInt (1)) fun (v213 : Int32) =>
                               some (.inl (v213, t212)))))) 4000 ((0 : Int32), t201)).bind
                          (fun (t210 : Sto) =>
                           lt1 (sI t210 0 (0) 57 (1 : Int32)) fun (t214 : Sto) =>
                           lt1 (sD t214 0 (0) 64 (gD t214 0 (0) 53)) fun (t215 : Sto) =>
                           lt1 (sL t215 0 (0) 65 (gL t215 0 (0) 54)) fun (t216 : Sto) =>
                           lt1 (sI t216 0 (0) 9 (0 : Int32)) fun (t217 : Sto) =>
                           some (gI t217 0 (0) 50, t217))))))) fun K190 =>
                     if gI t189 0 (0) 56 = 0 then (
                      K190 (1 : Int32)) else (
                      K190 (0 : Int32))))))) else (
                 (fX12_no (3 : Int32) t1).bind (un2 fun (v219 : Int32) (t220 : Sto) =>
                  some (v219, t220)))))))))))))))))
set_option maxHeartbeats 4000000 in
set_option maxRecDepth 100000 in
theorem mX12_recipe (l : Launch) (E : XE) (hL : LM E) (st : Sto) {a1 : Int32} {a2 : Int32} {a3 : Int32} {a4 : Int32} {a5 : Int32} {a6 : Int32} {a7 : Int32} {a8 : Int32} {r : Int32} {st1 : Sto} (h : fX12_recipe a1 a2 a3 a4 a5 a6 a7 a8 st = some (r, st1)) : Met l yX12_recipe wsX12_recipe ({ frames := 8, cells := 0, slots := 0, locals := 212 }) (va_Pc [.ref (E.2.2.1 0 (0)), .int a1, .int a2, .int a3, .int a4, .int a5, .int a6, .int a7, .int a8] (RM E st)) (QM E (some (.int r)) st1) 0 0 E.2.2.2 := by
  refine Met.ofW (cc := cX12_recipe) (maxL := 13) (ret := (some .int)) (by decide) rfl ?_
  intro p e s m args below meth c s₁ B hml hv
  obtain ⟨rfl, hP, hK⟩ := hv
  have hown : s.vm.findClass RX12 = some m.cls := findClass_of_methodNamed B.named
  have C0 : CX p m c cX12_recipe 13 s _ wsX12_recipe RX12 E := ⟨⟨B.exec, B.bytes, hml, hown, atoms_spec (ws := wsX12_recipe) B.pre⟩, hK⟩
  have hx := B.exec
  have hb := B.bytes
  have hr := B.returns
  have hlocks := B.notSynchronized
  have hw : SM E s st s.heap [] := ⟨hP, va_S.rf⟩
  have hl := lv_entry ([.ref (E.2.2.1 0 (0)), .int a1, .int a2, .int a3, .int a4, .int a5, .int a6, .int a7, .int a8]) (n := 13) (Nat.le_of_ble_eq_true rfl)
  rw [lg_entry_eq]
  generalize (lg_sl ([.ref (E.2.2.1 0 (0)), .int a1, .int a2, .int a3, .int a4, .int a5, .int a6, .int a7, .int a8]) ++ List.replicate (13 - (lg_sl ([.ref (E.2.2.1 0 (0)), .int a1, .int a2, .int a3, .int a4, .int a5, .int a6, .int a7, .int a8])).length) Slot.unset).toArray = ls at hl ⊢
  have hl : lv_has ls 13 [(0, .ref (E.2.2.1 0 (0))), (1, .int a1), (2, .int a2), (3, .int a3), (4, .int a4), (5, .int a5), (6, .int a6), (7, .int a7), (8, .int a8)] := hl
  unfold fX12_recipe at h
  refine lv_aload_n hx hb dX12_recipe_0 rfl (lv_at hl 0 rfl) ?_
  refine lv_iconst (v := 0) hx hb dX12_recipe_1 (by decide) ?_
  refine M_p0_10 hL C0 hw (fun w h => (List.mem_cons_of_mem _ (List.mem_append_right _ h))) (by decide) h ((List.mem_cons_of_mem _ (List.mem_append_left _ (List.mem_append_left _ (List.mem_of_getElem? (i := 0) rfl))))) dX12_recipe_2 (fun t1 H locs hw h => ?_)
  refine lv_aload_n hx hb dX12_recipe_5 rfl (lv_at hl 0 rfl) ?_
  refine lv_iload_n hx hb dX12_recipe_6 rfl (lv_at hl 1 rfl) ?_
  refine lv_aload_n hx hb dX12_recipe_7 rfl (lv_at hl 0 rfl) ?_
  refine M_g0_2 C0 hw (fun w h => (List.mem_cons_of_mem _ (List.mem_append_right _ h))) (by decide) ((List.mem_cons_of_mem _ (List.mem_append_left _ (List.mem_append_left _ (List.mem_of_getElem? (i := 1) rfl))))) dX12_recipe_8 ?_
  obtain ⟨v2, hf3, h⟩ := bn_c h
  refine M_callV C0 hw (As := [.int a1, .int (gI t1 0 (0) 2)]) (rest := []) (mX12_is l E hL t1 hf3) (cwV 2 C0.1.2.2.2.2 gX12_recipe_X12_is rfl rfl rfl (by decide +kernel) ⟨Nat.le_of_ble_eq_true rfl, Nat.le_of_ble_eq_true rfl⟩) (M_recv_0 C0 hw (by decide)) rfl hl.1 rfl (Nat.le_of_ble_eq_true rfl) dX12_recipe_11 ⟨Nat.zero_le _, Nat.zero_le _⟩ (fun H locs hw => ?_)
  refine W.eq (g2 := F0 m 14 ls [.int v2]) rfl ?_
  refine lv_if_eq (tgt := 29) hx hb dX12_recipe_14 (by decide) (fun hc4 => ?_) (fun hc4 => ?_)
  · have h := ifp h hc4
    refine lv_aload_n hx hb dX12_recipe_29 rfl (lv_at hl 0 rfl) ?_
    refine lv_iconst (v := 2) hx hb dX12_recipe_30 (by decide) ?_
    obtain ⟨⟨v5, t6⟩, hf7, h⟩ := bn_c h
    have h := un2_d h
    refine M_callV C0 hw (As := [.int (2 : Int32)]) (rest := []) (mX12_no l E hL t1 hf7) (cwV 1 C0.1.2.2.2.2 gX12_recipe_X12_no rfl rfl rfl (by decide +kernel) ⟨Nat.le_of_ble_eq_true rfl, Nat.le_of_ble_eq_true rfl⟩) (M_recv_0 C0 hw (by decide)) rfl hl.1 rfl (Nat.le_of_ble_eq_true rfl) dX12_recipe_31 ⟨Nat.zero_le _, Nat.zero_le _⟩ (fun H locs hw => ?_)
    refine W.eq (g2 := F0 m 34 ls [.int v5]) rfl ?_
    cases h
    exact W.iret hx hb hr (M_fin C0 hw) hw.2.2.2 dX12_recipe_34 hlocks
  · have h := ifn h hc4
    refine lv_aload_n hx hb dX12_recipe_17 rfl (lv_at hl 0 rfl) ?_
    refine lv_iload_n hx hb dX12_recipe_18 rfl (lv_at hl 2 rfl) ?_
    refine lv_aload_n hx hb dX12_recipe_19 rfl (lv_at hl 0 rfl) ?_
    refine M_g0_3 C0 hw (fun w h => (List.mem_cons_of_mem _ (List.mem_append_right _ h))) (by decide) ((List.mem_cons_of_mem _ (List.mem_append_left _ (List.mem_append_left _ (List.mem_of_getElem? (i := 2) rfl))))) dX12_recipe_20 ?_
    obtain ⟨v8, hf9, h⟩ := bn_c h
    refine M_callV C0 hw (As := [.int a2, .int (gI t1 0 (0) 3)]) (rest := []) (mX12_is l E hL t1 hf9) (cwV 2 C0.1.2.2.2.2 gX12_recipe_X12_is rfl rfl rfl (by decide +kernel) ⟨Nat.le_of_ble_eq_true rfl, Nat.le_of_ble_eq_true rfl⟩) (M_recv_0 C0 hw (by decide)) rfl hl.1 rfl (Nat.le_of_ble_eq_true rfl) dX12_recipe_23 ⟨Nat.zero_le _, Nat.zero_le _⟩ (fun H locs hw => ?_)
    refine W.eq (g2 := F0 m 26 ls [.int v8]) rfl ?_
    refine lv_if_ne (tgt := 35) hx hb dX12_recipe_26 (by decide) (fun hc10 => ?_) (fun hc10 => ?_)
    · have h := ifn h hc10
      refine lv_aload_n hx hb dX12_recipe_35 rfl (lv_at hl 0 rfl) ?_
      refine lv_iload_n hx hb dX12_recipe_36 rfl (lv_at hl 3 rfl) ?_
      refine lv_bipush (v := 6) hx hb dX12_recipe_37 (by decide) ?_
      obtain ⟨v11, hf12, h⟩ := bn_c h
      refine M_callV C0 hw (As := [.int a3, .int (6 : Int32)]) (rest := []) (mX12_is l E hL t1 hf12) (cwV 2 C0.1.2.2.2.2 gX12_recipe_X12_is rfl rfl rfl (by decide +kernel) ⟨Nat.le_of_ble_eq_true rfl, Nat.le_of_ble_eq_true rfl⟩) (M_recv_0 C0 hw (by decide)) rfl hl.1 rfl (Nat.le_of_ble_eq_true rfl) dX12_recipe_39 ⟨Nat.zero_le _, Nat.zero_le _⟩ (fun H locs hw => ?_)
      refine W.eq (g2 := F0 m 42 ls [.int v11]) rfl ?_
      refine lv_if_eq (tgt := 104) hx hb dX12_recipe_42 (by decide) (fun hc13 => ?_) (fun hc13 => ?_)
      · have h := ifp h hc13
        refine lv_aload_n hx hb dX12_recipe_104 rfl (lv_at hl 0 rfl) ?_
        refine lv_iconst (v := 3) hx hb dX12_recipe_105 (by decide) ?_
        obtain ⟨⟨v14, t15⟩, hf16, h⟩ := bn_c h
        have h := un2_d h
        refine M_callV C0 hw (As := [.int (3 : Int32)]) (rest := []) (mX12_no l E hL t1 hf16) (cwV 1 C0.1.2.2.2.2 gX12_recipe_X12_no rfl rfl rfl (by decide +kernel) ⟨Nat.le_of_ble_eq_true rfl, Nat.le_of_ble_eq_true rfl⟩) (M_recv_0 C0 hw (by decide)) rfl hl.1 rfl (Nat.le_of_ble_eq_true rfl) dX12_recipe_106 ⟨Nat.zero_le _, Nat.zero_le _⟩ (fun H locs hw => ?_)
        refine W.eq (g2 := F0 m 109 ls [.int v14]) rfl ?_
        cases h
        exact W.iret hx hb hr (M_fin C0 hw) hw.2.2.2 dX12_recipe_109 hlocks
      · have h := ifn h hc13
        refine lv_aload_n hx hb dX12_recipe_45 rfl (lv_at hl 0 rfl) ?_
        refine lv_iload hx hb dX12_recipe_46 (lv_at hl 4 rfl) ?_
        refine lv_iconst (v := 2) hx hb dX12_recipe_48 (by decide) ?_
        obtain ⟨v17, hf18, h⟩ := bn_c h
        refine M_callV C0 hw (As := [.int a4, .int (2 : Int32)]) (rest := []) (mX12_is l E hL t1 hf18) (cwV 2 C0.1.2.2.2.2 gX12_recipe_X12_is rfl rfl rfl (by decide +kernel) ⟨Nat.le_of_ble_eq_true rfl, Nat.le_of_ble_eq_true rfl⟩) (M_recv_0 C0 hw (by decide)) rfl hl.1 rfl (Nat.le_of_ble_eq_true rfl) dX12_recipe_49 ⟨Nat.zero_le _, Nat.zero_le _⟩ (fun H locs hw => ?_)
        refine W.eq (g2 := F0 m 52 ls [.int v17]) rfl ?_
        refine lv_if_eq (tgt := 104) hx hb dX12_recipe_52 (by decide) (fun hc19 => ?_) (fun hc19 => ?_)
        · have h := ifp h hc19
          refine lv_aload_n hx hb dX12_recipe_104 rfl (lv_at hl 0 rfl) ?_
          refine lv_iconst (v := 3) hx hb dX12_recipe_105 (by decide) ?_
          obtain ⟨⟨v20, t21⟩, hf22, h⟩ := bn_c h
          have h := un2_d h
          refine M_callV C0 hw (As := [.int (3 : Int32)]) (rest := []) (mX12_no l E hL t1 hf22) (cwV 1 C0.1.2.2.2.2 gX12_recipe_X12_no rfl rfl rfl (by decide +kernel) ⟨Nat.le_of_ble_eq_true rfl, Nat.le_of_ble_eq_true rfl⟩) (M_recv_0 C0 hw (by decide)) rfl hl.1 rfl (Nat.le_of_ble_eq_true rfl) dX12_recipe_106 ⟨Nat.zero_le _, Nat.zero_le _⟩ (fun H locs hw => ?_)
          refine W.eq (g2 := F0 m 109 ls [.int v20]) rfl ?_
          cases h
          exact W.iret hx hb hr (M_fin C0 hw) hw.2.2.2 dX12_recipe_109 hlocks
        · have h := ifn h hc19
          refine lv_iload hx hb dX12_recipe_55 (lv_at hl 6 rfl) ?_
          refine lv_iconst (v := 1) hx hb dX12_recipe_57 (by decide) ?_
          refine lv_icmp_lt (tgt := 104) hx hb dX12_recipe_58 (by decide) (fun hc23 => ?_) (fun hc23 => ?_)
          · have h := ifp h hc23
            refine lv_aload_n hx hb dX12_recipe_104 rfl (lv_at hl 0 rfl) ?_
            refine lv_iconst (v := 3) hx hb dX12_recipe_105 (by decide) ?_
            obtain ⟨⟨v24, t25⟩, hf26, h⟩ := bn_c h
            have h := un2_d h
            refine M_callV C0 hw (As := [.int (3 : Int32)]) (rest := []) (mX12_no l E hL t1 hf26) (cwV 1 C0.1.2.2.2.2 gX12_recipe_X12_no rfl rfl rfl (by decide +kernel) ⟨Nat.le_of_ble_eq_true rfl, Nat.le_of_ble_eq_true rfl⟩) (M_recv_0 C0 hw (by decide)) rfl hl.1 rfl (Nat.le_of_ble_eq_true rfl) dX12_recipe_106 ⟨Nat.zero_le _, Nat.zero_le _⟩ (fun H locs hw => ?_)
            refine W.eq (g2 := F0 m 109 ls [.int v24]) rfl ?_
            cases h
            exact W.iret hx hb hr (M_fin C0 hw) hw.2.2.2 dX12_recipe_109 hlocks
          · have h := ifn h hc23
            refine lv_iload hx hb dX12_recipe_61 (lv_at hl 6 rfl) ?_
            refine lv_iconst (v := 3) hx hb dX12_recipe_63 (by decide) ?_
            refine lv_icmp_gt (tgt := 104) hx hb dX12_recipe_64 (by decide) (fun hc27 => ?_) (fun hc27 => ?_)
            · have h := ifp h hc27
              refine lv_aload_n hx hb dX12_recipe_104 rfl (lv_at hl 0 rfl) ?_
              refine lv_iconst (v := 3) hx hb dX12_recipe_105 (by decide) ?_
              obtain ⟨⟨v28, t29⟩, hf30, h⟩ := bn_c h
              have h := un2_d h
              refine M_callV C0 hw (As := [.int (3 : Int32)]) (rest := []) (mX12_no l E hL t1 hf30) (cwV 1 C0.1.2.2.2.2 gX12_recipe_X12_no rfl rfl rfl (by decide +kernel) ⟨Nat.le_of_ble_eq_true rfl, Nat.le_of_ble_eq_true rfl⟩) (M_recv_0 C0 hw (by decide)) rfl hl.1 rfl (Nat.le_of_ble_eq_true rfl) dX12_recipe_106 ⟨Nat.zero_le _, Nat.zero_le _⟩ (fun H locs hw => ?_)
              refine W.eq (g2 := F0 m 109 ls [.int v28]) rfl ?_
              cases h
              exact W.iret hx hb hr (M_fin C0 hw) hw.2.2.2 dX12_recipe_109 hlocks
            · have h := ifn h hc27
              refine lv_iload hx hb dX12_recipe_67 (lv_at hl 7 rfl) ?_
              refine lv_iconst (v := 1) hx hb dX12_recipe_69 (by decide) ?_
              refine lv_icmp_lt (tgt := 104) hx hb dX12_recipe_70 (by decide) (fun hc31 => ?_) (fun hc31 => ?_)
              · have h := ifp h hc31
                refine lv_aload_n hx hb dX12_recipe_104 rfl (lv_at hl 0 rfl) ?_
                refine lv_iconst (v := 3) hx hb dX12_recipe_105 (by decide) ?_
                obtain ⟨⟨v32, t33⟩, hf34, h⟩ := bn_c h
                have h := un2_d h
                refine M_callV C0 hw (As := [.int (3 : Int32)]) (rest := []) (mX12_no l E hL t1 hf34) (cwV 1 C0.1.2.2.2.2 gX12_recipe_X12_no rfl rfl rfl (by decide +kernel) ⟨Nat.le_of_ble_eq_true rfl, Nat.le_of_ble_eq_true rfl⟩) (M_recv_0 C0 hw (by decide)) rfl hl.1 rfl (Nat.le_of_ble_eq_true rfl) dX12_recipe_106 ⟨Nat.zero_le _, Nat.zero_le _⟩ (fun H locs hw => ?_)
                refine W.eq (g2 := F0 m 109 ls [.int v32]) rfl ?_
                cases h
                exact W.iret hx hb hr (M_fin C0 hw) hw.2.2.2 dX12_recipe_109 hlocks
              · have h := ifn h hc31
                refine lv_iload hx hb dX12_recipe_73 (lv_at hl 7 rfl) ?_
                refine lv_sipush (v := 10000) hx hb dX12_recipe_75 (by decide) ?_
                refine lv_icmp_gt (tgt := 104) hx hb dX12_recipe_78 (by decide) (fun hc35 => ?_) (fun hc35 => ?_)
                · have h := ifp h hc35
                  refine lv_aload_n hx hb dX12_recipe_104 rfl (lv_at hl 0 rfl) ?_
                  refine lv_iconst (v := 3) hx hb dX12_recipe_105 (by decide) ?_
                  obtain ⟨⟨v36, t37⟩, hf38, h⟩ := bn_c h
                  have h := un2_d h
                  refine M_callV C0 hw (As := [.int (3 : Int32)]) (rest := []) (mX12_no l E hL t1 hf38) (cwV 1 C0.1.2.2.2.2 gX12_recipe_X12_no rfl rfl rfl (by decide +kernel) ⟨Nat.le_of_ble_eq_true rfl, Nat.le_of_ble_eq_true rfl⟩) (M_recv_0 C0 hw (by decide)) rfl hl.1 rfl (Nat.le_of_ble_eq_true rfl) dX12_recipe_106 ⟨Nat.zero_le _, Nat.zero_le _⟩ (fun H locs hw => ?_)
                  refine W.eq (g2 := F0 m 109 ls [.int v36]) rfl ?_
                  cases h
                  exact W.iret hx hb hr (M_fin C0 hw) hw.2.2.2 dX12_recipe_109 hlocks
                · have h := ifn h hc35
                  refine lv_iload hx hb dX12_recipe_81 (lv_at hl 8 rfl) ?_
                  refine lv_iconst (v := 1) hx hb dX12_recipe_83 (by decide) ?_
                  refine lv_icmp_lt (tgt := 104) hx hb dX12_recipe_84 (by decide) (fun hc39 => ?_) (fun hc39 => ?_)
                  · have h := ifp h hc39
                    refine lv_aload_n hx hb dX12_recipe_104 rfl (lv_at hl 0 rfl) ?_
                    refine lv_iconst (v := 3) hx hb dX12_recipe_105 (by decide) ?_
                    obtain ⟨⟨v40, t41⟩, hf42, h⟩ := bn_c h
                    have h := un2_d h
                    refine M_callV C0 hw (As := [.int (3 : Int32)]) (rest := []) (mX12_no l E hL t1 hf42) (cwV 1 C0.1.2.2.2.2 gX12_recipe_X12_no rfl rfl rfl (by decide +kernel) ⟨Nat.le_of_ble_eq_true rfl, Nat.le_of_ble_eq_true rfl⟩) (M_recv_0 C0 hw (by decide)) rfl hl.1 rfl (Nat.le_of_ble_eq_true rfl) dX12_recipe_106 ⟨Nat.zero_le _, Nat.zero_le _⟩ (fun H locs hw => ?_)
                    refine W.eq (g2 := F0 m 109 ls [.int v40]) rfl ?_
                    cases h
                    exact W.iret hx hb hr (M_fin C0 hw) hw.2.2.2 dX12_recipe_109 hlocks
                  · have h := ifn h hc39
                    refine lv_iload hx hb dX12_recipe_87 (lv_at hl 8 rfl) ?_
                    refine lv_bipush (v := 12) hx hb dX12_recipe_89 (by decide) ?_
                    refine lv_icmp_gt (tgt := 104) hx hb dX12_recipe_91 (by decide) (fun hc43 => ?_) (fun hc43 => ?_)
                    · have h := ifp h hc43
                      refine lv_aload_n hx hb dX12_recipe_104 rfl (lv_at hl 0 rfl) ?_
                      refine lv_iconst (v := 3) hx hb dX12_recipe_105 (by decide) ?_
                      obtain ⟨⟨v44, t45⟩, hf46, h⟩ := bn_c h
                      have h := un2_d h
                      refine M_callV C0 hw (As := [.int (3 : Int32)]) (rest := []) (mX12_no l E hL t1 hf46) (cwV 1 C0.1.2.2.2.2 gX12_recipe_X12_no rfl rfl rfl (by decide +kernel) ⟨Nat.le_of_ble_eq_true rfl, Nat.le_of_ble_eq_true rfl⟩) (M_recv_0 C0 hw (by decide)) rfl hl.1 rfl (Nat.le_of_ble_eq_true rfl) dX12_recipe_106 ⟨Nat.zero_le _, Nat.zero_le _⟩ (fun H locs hw => ?_)
                      refine W.eq (g2 := F0 m 109 ls [.int v44]) rfl ?_
                      cases h
                      exact W.iret hx hb hr (M_fin C0 hw) hw.2.2.2 dX12_recipe_109 hlocks
                    · have h := ifn h hc43
                      refine lv_iload hx hb dX12_recipe_94 (lv_at hl 5 rfl) ?_
                      refine lv_aload_n hx hb dX12_recipe_96 rfl (lv_at hl 0 rfl) ?_
                      refine M_g0_4 C0 hw (fun w h => (List.mem_cons_of_mem _ (List.mem_append_right _ h))) (by decide) ((List.mem_cons_of_mem _ (List.mem_append_left _ (List.mem_append_left _ (List.mem_of_getElem? (i := 3) rfl))))) dX12_recipe_97 ?_
                      refine lv_iushr hx hb dX12_recipe_100 rfl ?_
                      refine lv_if_eq (tgt := 110) hx hb dX12_recipe_101 (by decide) (fun hc47 => ?_) (fun hc47 => ?_)
                      · have h := ifp h hc47
                        refine lv_aload_n hx hb dX12_recipe_110 rfl (lv_at hl 0 rfl) ?_
                        refine lv_iload_n hx hb dX12_recipe_111 rfl (lv_at hl 2 rfl) ?_
                        refine M_p0_58 hL C0 hw (fun w h => (List.mem_cons_of_mem _ (List.mem_append_right _ h))) (by decide) h ((List.mem_cons_of_mem _ (List.mem_append_left _ (List.mem_append_left _ (List.mem_of_getElem? (i := 4) rfl))))) dX12_recipe_112 (fun t48 H locs hw h => ?_)
                        refine lv_aload_n hx hb dX12_recipe_115 rfl (lv_at hl 0 rfl) ?_
                        refine lv_iload_n hx hb dX12_recipe_116 rfl (lv_at hl 3 rfl) ?_
                        refine M_p0_59 hL C0 hw (fun w h => (List.mem_cons_of_mem _ (List.mem_append_right _ h))) (by decide) h ((List.mem_cons_of_mem _ (List.mem_append_left _ (List.mem_append_left _ (List.mem_of_getElem? (i := 5) rfl))))) dX12_recipe_117 (fun t49 H locs hw h => ?_)
                        refine lv_aload_n hx hb dX12_recipe_120 rfl (lv_at hl 0 rfl) ?_
                        refine lv_iload hx hb dX12_recipe_121 (lv_at hl 4 rfl) ?_
                        refine M_p0_60 hL C0 hw (fun w h => (List.mem_cons_of_mem _ (List.mem_append_right _ h))) (by decide) h ((List.mem_cons_of_mem _ (List.mem_append_left _ (List.mem_append_left _ (List.mem_of_getElem? (i := 6) rfl))))) dX12_recipe_123 (fun t50 H locs hw h => ?_)
                        refine lv_aload_n hx hb dX12_recipe_126 rfl (lv_at hl 0 rfl) ?_
                        refine lv_iload hx hb dX12_recipe_127 (lv_at hl 7 rfl) ?_
                        refine M_p0_61 hL C0 hw (fun w h => (List.mem_cons_of_mem _ (List.mem_append_right _ h))) (by decide) h ((List.mem_cons_of_mem _ (List.mem_append_left _ (List.mem_append_left _ (List.mem_of_getElem? (i := 7) rfl))))) dX12_recipe_129 (fun t51 H locs hw h => ?_)
                        refine lv_aload_n hx hb dX12_recipe_132 rfl (lv_at hl 0 rfl) ?_
                        refine lv_iload hx hb dX12_recipe_133 (lv_at hl 8 rfl) ?_
                        refine M_p0_62 hL C0 hw (fun w h => (List.mem_cons_of_mem _ (List.mem_append_right _ h))) (by decide) h ((List.mem_cons_of_mem _ (List.mem_append_left _ (List.mem_append_left _ (List.mem_of_getElem? (i := 8) rfl))))) dX12_recipe_135 (fun t52 H locs hw h => ?_)
                        refine lv_aload_n hx hb dX12_recipe_138 rfl (lv_at hl 0 rfl) ?_
                        refine lv_iconst (v := 1) hx hb dX12_recipe_139 (by decide) ?_
                        refine lv_iload_n hx hb dX12_recipe_140 rfl (lv_at hl 1 rfl) ?_
                        refine lv_iadd hx hb dX12_recipe_141 ?_
                        refine lv_iload_n hx hb dX12_recipe_142 rfl (lv_at hl 3 rfl) ?_
                        refine lv_iload hx hb dX12_recipe_143 (lv_at hl 4 rfl) ?_
                        obtain ⟨t53, hf54, h⟩ := bn_c h
                        refine M_callV C0 hw (As := [.int ((1 : Int32) + a1), .int a3, .int a4]) (rest := []) (mX12_goalIs l E hL t52 hf54) (cwV 3 C0.1.2.2.2.2 gX12_recipe_X12_goalIs rfl rfl rfl (by decide +kernel) ⟨Nat.le_of_ble_eq_true rfl, Nat.le_of_ble_eq_true rfl⟩) (M_recv_0 C0 hw (by decide)) rfl hl.1 rfl (Nat.le_of_ble_eq_true rfl) dX12_recipe_145 ⟨Nat.zero_le _, Nat.zero_le _⟩ (fun H locs hw => ?_)
                        refine W.eq (g2 := F0 m 148 ls []) rfl ?_
                        refine lv_aload_n hx hb dX12_recipe_148 rfl (lv_at hl 0 rfl) ?_
                        refine lv_iconst (v := 0) hx hb dX12_recipe_149 (by decide) ?_
                        refine M_p0_51 hL C0 hw (fun w h => (List.mem_cons_of_mem _ (List.mem_append_right _ h))) (by decide) h ((List.mem_cons_of_mem _ (List.mem_append_left _ (List.mem_append_left _ (List.mem_of_getElem? (i := 9) rfl))))) dX12_recipe_150 (fun t55 H locs hw h => ?_)
                        refine lv_aload_n hx hb dX12_recipe_153 rfl (lv_at hl 0 rfl) ?_
                        refine lv_iconst (v := 0) hx hb dX12_recipe_154 (by decide) ?_
                        refine M_p0_56 hL C0 hw (fun w h => (List.mem_cons_of_mem _ (List.mem_append_right _ h))) (by decide) h rfl rfl ((List.mem_cons_of_mem _ (List.mem_append_left _ (List.mem_append_left _ (List.mem_of_getElem? (i := 10) rfl))))) dX12_recipe_155 (fun t56 H locs hw h => ?_)
                        refine lv_aload_n hx hb dX12_recipe_158 rfl (lv_at hl 0 rfl) ?_
                        refine lv_iconst (v := 0) hx hb dX12_recipe_159 (by decide) ?_
                        refine M_p0_49 hL C0 hw (fun w h => (List.mem_cons_of_mem _ (List.mem_append_right _ h))) (by decide) h ((List.mem_cons_of_mem _ (List.mem_append_left _ (List.mem_append_left _ (List.mem_of_getElem? (i := 11) rfl))))) dX12_recipe_160 (fun t57 H locs hw h => ?_)
                        refine lv_aload_n hx hb dX12_recipe_163 rfl (lv_at hl 0 rfl) ?_
                        obtain ⟨t58, hf59, h⟩ := bn_c h
                        refine M_callV C0 hw (As := []) (rest := []) (mX12_tryRecipe l E hL t57 hf59) (cwV 0 C0.1.2.2.2.2 gX12_recipe_X12_tryRecipe rfl rfl rfl (by decide +kernel) ⟨Nat.le_of_ble_eq_true rfl, Nat.le_of_ble_eq_true rfl⟩) (M_recv_0 C0 hw (by decide)) rfl hl.1 rfl (Nat.le_of_ble_eq_true rfl) dX12_recipe_164 ⟨Nat.zero_le _, Nat.zero_le _⟩ (fun H locs hw => ?_)
                        refine W.eq (g2 := F0 m 167 ls []) rfl ?_
                        refine lv_iconst (v := 1) hx hb dX12_recipe_167 (by decide) ?_
                        refine lv_istore (lv' := [(9, .int (1 : Int32)), (0, .ref (E.2.2.1 0 (0))), (1, .int a1), (2, .int a2), (3, .int a3), (4, .int a4), (5, .int a5), (6, .int a6), (7, .int a7), (8, .int a8)]) hx hb dX12_recipe_168 hl (by decide) rfl (fun ls hl => ?_)
                        refine lp_ind (fun q : (Int32 × Sto) => ∀ (H : Heap) (locs : List Loc), SM E s (q.2) H locs → ∀ ls : Array Slot, lv_has ls 13 [(9, .int (q.1)), (0, .ref (E.2.2.1 0 (0))), (5, .int a5), (6, .int a6)] → W p l e (headSpec wsX12_recipe ({ frames := 8, cells := 0, slots := 0, locals := 212 })).room s m ([.ref (E.2.2.1 0 (0)), .int a1, .int a2, .int a3, .int a4, .int a5, .int a6, .int a7, .int a8] : List Value).toArray below meth c H locs 0 0 (MQ below (QM E (some (.int r)) st1) ([.ref (E.2.2.1 0 (0)), .int a1, .int a2, .int a3, .int a4, .int a5, .int a6, .int a7, .int a8] : List Value).toArray s 0 0 E.2.2.2) (F0 m 170 ls [])) (fun q o62 h hB61 hX60 => ?_) _ _ h _ _ hw _ (lv_sub hl [0, 1, 6, 7] rfl)
                        intro H locs hw ls hl
                        obtain ⟨v63, t64⟩ := q
                        have h := un2_d h
                        have hw : SM E s t64 H locs := hw
                        have hl : lv_has ls 13 [(9, .int v63), (0, .ref (E.2.2.1 0 (0))), (5, .int a5), (6, .int a6)] := hl
                        refine lv_iload hx hb dX12_recipe_170 (lv_at hl 0 rfl) ?_
                        refine lv_iload hx hb dX12_recipe_172 (lv_at hl 3 rfl) ?_
                        refine lv_icmp_gt (tgt := 381) hx hb dX12_recipe_174 (by decide) (fun hc66 => ?_) (fun hc66 => ?_)
                        · have h := ifp h hc66
                          have h := hX60 _ (Option.some.inj h).symm
                          have hl := lv_sub hl (l' := [(0, .ref (E.2.2.1 0 (0)))]) [1] rfl
                          refine lv_aload_n hx hb dX12_recipe_381 rfl (lv_at hl 0 rfl) ?_
                          refine lv_aload_n hx hb dX12_recipe_382 rfl (lv_at hl 0 rfl) ?_
                          refine M_g0_51 C0 hw (fun w h => (List.mem_cons_of_mem _ (List.mem_append_right _ h))) (by decide) ((List.mem_cons_of_mem _ (List.mem_append_left _ (List.mem_append_left _ (List.mem_of_getElem? (i := 9) rfl))))) dX12_recipe_383 ?_
                          refine M_p0_52 hL C0 hw (fun w h => (List.mem_cons_of_mem _ (List.mem_append_right _ h))) (by decide) h ((List.mem_cons_of_mem _ (List.mem_append_left _ (List.mem_append_left _ (List.mem_of_getElem? (i := 13) rfl))))) dX12_recipe_386 (fun t67 H locs hw h => ?_)
                          refine lv_aload_n hx hb dX12_recipe_389 rfl (lv_at hl 0 rfl) ?_
                          refine lv_aload_n hx hb dX12_recipe_390 rfl (lv_at hl 0 rfl) ?_
                          refine M_g0_56 C0 hw (fun w h => (List.mem_cons_of_mem _ (List.mem_append_right _ h))) (by decide) ((List.mem_cons_of_mem _ (List.mem_append_left _ (List.mem_append_left _ (List.mem_of_getElem? (i := 10) rfl))))) dX12_recipe_391 ?_
                          refine jn_c h (fun K68 hK70 h => ?_)
                          have HJ69 : ∀ (v71 : Int32), K68 v71 = some (r, st1) → ∀ (H : Heap) (locs : List Loc), SM E s t67 H locs → ∀ ls : Array Slot, lv_has ls 13 [(0, .ref (E.2.2.1 0 (0)))] → W p l e (headSpec wsX12_recipe ({ frames := 8, cells := 0, slots := 0, locals := 212 })).room s m ([.ref (E.2.2.1 0 (0)), .int a1, .int a2, .int a3, .int a4, .int a5, .int a6, .int a7, .int a8] : List Value).toArray below meth c H locs 0 0 (MQ below (QM E (some (.int r)) st1) ([.ref (E.2.2.1 0 (0)), .int a1, .int a2, .int a3, .int a4, .int a5, .int a6, .int a7, .int a8] : List Value).toArray s 0 0 E.2.2.2) (F0 m 402 ls [.int v71, .ref (E.2.2.1 0 (0))]) := by
                            intro v71 h H locs hw ls hl
                            have h := kk1 h hK70
                            obtain ⟨hz, h⟩ := ck_c h
                            refine M_p0_55 hL C0 hw (fun w h => (List.mem_cons_of_mem _ (List.mem_append_right _ h))) (by decide) h (by rcases hz with hz | hz <;> rw [hz] <;> rfl) (by rcases hz with hz | hz <;> rw [hz] <;> rfl) ((List.mem_cons_of_mem _ (List.mem_append_left _ (List.mem_append_left _ (List.mem_of_getElem? (i := 14) rfl))))) dX12_recipe_402 (fun t72 H locs hw h => ?_)
                            refine lv_iconst (v := 2) hx hb dX12_recipe_405 (by decide) ?_
                            refine lv_aload_n hx hb dX12_recipe_406 rfl (lv_at hl 0 rfl) ?_
                            refine M_g0_50 C0 hw (fun w h => (List.mem_cons_of_mem _ (List.mem_append_right _ h))) (by decide) ((List.mem_cons_of_mem _ (List.mem_append_left _ (List.mem_append_left _ (List.mem_of_getElem? (i := 15) rfl))))) dX12_recipe_407 ?_
                            refine lv_imul hx hb dX12_recipe_410 ?_
                            refine x_topi h (fun v73 h => ?_)
                            refine lv_istore (lv' := [(9, .int v73), (0, .ref (E.2.2.1 0 (0)))]) hx hb dX12_recipe_411 hl (by decide) rfl (fun ls hl => ?_)
                            refine lp_ind (fun q : (Int32 × Sto) => ∀ (H : Heap) (locs : List Loc), SM E s (q.2) H locs → ∀ ls : Array Slot, lv_has ls 13 [(9, .int (q.1)), (0, .ref (E.2.2.1 0 (0)))] → W p l e (headSpec wsX12_recipe ({ frames := 8, cells := 0, slots := 0, locals := 212 })).room s m ([.ref (E.2.2.1 0 (0)), .int a1, .int a2, .int a3, .int a4, .int a5, .int a6, .int a7, .int a8] : List Value).toArray below meth c H locs 0 0 (MQ below (QM E (some (.int r)) st1) ([.ref (E.2.2.1 0 (0)), .int a1, .int a2, .int a3, .int a4, .int a5, .int a6, .int a7, .int a8] : List Value).toArray s 0 0 E.2.2.2) (F0 m 413 ls [])) (fun q o76 h hB75 hX74 => ?_) _ _ h _ _ hw _ (lv_sub hl [0, 1] rfl)
                            intro H locs hw ls hl
                            obtain ⟨v77, t78⟩ := q
                            have h := un2_d h
                            have hw : SM E s t78 H locs := hw
                            have hl : lv_has ls 13 [(9, .int v77), (0, .ref (E.2.2.1 0 (0)))] := hl
                            refine lv_iload hx hb dX12_recipe_413 (lv_at hl 0 rfl) ?_
                            refine lv_bipush (v := 6) hx hb dX12_recipe_415 (by decide) ?_
                            refine lv_icmp_ge (tgt := 434) hx hb dX12_recipe_417 (by decide) (fun hc80 => ?_) (fun hc80 => ?_)
                            · have h := ifp h hc80
                              have h := hX74 _ (Option.some.inj h).symm
                              have hl := lv_sub hl (l' := [(0, .ref (E.2.2.1 0 (0)))]) [1] rfl
                              refine lv_iconst (v := 0) hx hb dX12_recipe_434 (by decide) ?_
                              refine lv_istore (lv' := [(9, .int (0 : Int32)), (0, .ref (E.2.2.1 0 (0)))]) hx hb dX12_recipe_435 hl (by decide) rfl (fun ls hl => ?_)
                              refine lp_ind (fun q : (Int32 × Sto) => ∀ (H : Heap) (locs : List Loc), SM E s (q.2) H locs → ∀ ls : Array Slot, lv_has ls 13 [(9, .int (q.1)), (0, .ref (E.2.2.1 0 (0)))] → W p l e (headSpec wsX12_recipe ({ frames := 8, cells := 0, slots := 0, locals := 212 })).room s m ([.ref (E.2.2.1 0 (0)), .int a1, .int a2, .int a3, .int a4, .int a5, .int a6, .int a7, .int a8] : List Value).toArray below meth c H locs 0 0 (MQ below (QM E (some (.int r)) st1) ([.ref (E.2.2.1 0 (0)), .int a1, .int a2, .int a3, .int a4, .int a5, .int a6, .int a7, .int a8] : List Value).toArray s 0 0 E.2.2.2) (F0 m 437 ls [])) (fun q o83 h hB82 hX81 => ?_) _ _ h _ _ hw _ (lv_sub hl [0, 1] rfl)
                              intro H locs hw ls hl
                              obtain ⟨v84, t85⟩ := q
                              have h := un2_d h
                              have hw : SM E s t85 H locs := hw
                              have hl : lv_has ls 13 [(9, .int v84), (0, .ref (E.2.2.1 0 (0)))] := hl
                              refine lv_iload hx hb dX12_recipe_437 (lv_at hl 0 rfl) ?_
                              refine lv_bipush (v := 6) hx hb dX12_recipe_439 (by decide) ?_
                              refine lv_icmp_ge (tgt := 464) hx hb dX12_recipe_441 (by decide) (fun hc87 => ?_) (fun hc87 => ?_)
                              · have h := ifp h hc87
                                have h := hX81 _ (Option.some.inj h).symm
                                have hl := lv_sub hl (l' := [(0, .ref (E.2.2.1 0 (0)))]) [1] rfl
                                refine lv_aload_n hx hb dX12_recipe_464 rfl (lv_at hl 0 rfl) ?_
                                refine lv_iconst (v := 1) hx hb dX12_recipe_465 (by decide) ?_
                                refine M_p0_57 hL C0 hw (fun w h => (List.mem_cons_of_mem _ (List.mem_append_right _ h))) (by decide) h rfl rfl ((List.mem_cons_of_mem _ (List.mem_append_left _ (List.mem_append_left _ (List.mem_of_getElem? (i := 18) rfl))))) dX12_recipe_466 (fun t88 H locs hw h => ?_)
                                refine lv_aload_n hx hb dX12_recipe_469 rfl (lv_at hl 0 rfl) ?_
                                refine lv_aload_n hx hb dX12_recipe_470 rfl (lv_at hl 0 rfl) ?_
                                refine M_g0_53 C0 hw (fun w h => (List.mem_cons_of_mem _ (List.mem_append_right _ h))) (by decide) ((List.mem_cons_of_mem _ (List.mem_append_left _ (List.mem_append_left _ (List.mem_of_getElem? (i := 19) rfl))))) dX12_recipe_471 ?_
                                refine M_p0_64 hL C0 hw (fun w h => (List.mem_cons_of_mem _ (List.mem_append_right _ h))) (by decide) h ((List.mem_cons_of_mem _ (List.mem_append_left _ (List.mem_append_left _ (List.mem_of_getElem? (i := 20) rfl))))) dX12_recipe_474 (fun t89 H locs hw h => ?_)
                                refine lv_aload_n hx hb dX12_recipe_477 rfl (lv_at hl 0 rfl) ?_
                                refine lv_aload_n hx hb dX12_recipe_478 rfl (lv_at hl 0 rfl) ?_
                                refine M_g0_54 C0 hw (fun w h => (List.mem_cons_of_mem _ (List.mem_append_right _ h))) (by decide) ((List.mem_cons_of_mem _ (List.mem_append_left _ (List.mem_append_left _ (List.mem_of_getElem? (i := 21) rfl))))) dX12_recipe_479 ?_
                                refine M_p0_65 hL C0 hw (fun w h => (List.mem_cons_of_mem _ (List.mem_append_right _ h))) (by decide) h ((List.mem_cons_of_mem _ (List.mem_append_left _ (List.mem_append_left _ (List.mem_of_getElem? (i := 22) rfl))))) dX12_recipe_482 (fun t90 H locs hw h => ?_)
                                refine lv_aload_n hx hb dX12_recipe_485 rfl (lv_at hl 0 rfl) ?_
                                refine lv_iconst (v := 0) hx hb dX12_recipe_486 (by decide) ?_
                                refine M_p0_9 hL C0 hw (fun w h => (List.mem_cons_of_mem _ (List.mem_append_right _ h))) (by decide) h ((List.mem_cons_of_mem _ (List.mem_append_left _ (List.mem_append_left _ (List.mem_of_getElem? (i := 23) rfl))))) dX12_recipe_487 (fun t91 H locs hw h => ?_)
                                refine lv_aload_n hx hb dX12_recipe_490 rfl (lv_at hl 0 rfl) ?_
                                refine M_g0_50 C0 hw (fun w h => (List.mem_cons_of_mem _ (List.mem_append_right _ h))) (by decide) ((List.mem_cons_of_mem _ (List.mem_append_left _ (List.mem_append_left _ (List.mem_of_getElem? (i := 15) rfl))))) dX12_recipe_491 ?_
                                cases h
                                exact W.iret hx hb hr (M_fin C0 hw) hw.2.2.2 dX12_recipe_494 hlocks
                              · have h := ifn h hc87
                                refine lv_aload_n hx hb dX12_recipe_444 rfl (lv_at hl 1 rfl) ?_
                                refine M_g0_63 C0 hw (fun w h => (List.mem_cons_of_mem _ (List.mem_append_right _ h))) (by decide) ((List.mem_cons_of_mem _ (List.mem_append_left _ (List.mem_append_left _ (List.mem_of_getElem? (i := 17) rfl))))) dX12_recipe_445 ?_
                                refine lv_iload hx hb dX12_recipe_448 (lv_at hl 0 rfl) ?_
                                refine lv_aload_n hx hb dX12_recipe_450 rfl (lv_at hl 1 rfl) ?_
                                refine M_g0_48 C0 hw (fun w h => (List.mem_cons_of_mem _ (List.mem_append_right _ h))) (by decide) ((List.mem_cons_of_mem _ (List.mem_append_left _ (List.mem_append_left _ (List.mem_of_getElem? (i := 16) rfl))))) dX12_recipe_451 ?_
                                refine lv_iload hx hb dX12_recipe_454 (lv_at hl 0 rfl) ?_
                                refine M_iald C0 hw h (k := v84.toNatClampNeg) rfl dX12_recipe_456 (fun h => ?_)
                                refine M_iast hL C0 hw h (k := v84.toNatClampNeg) rfl dX12_recipe_457 (fun t92 H locs hw h => ?_)
                                refine x_iinc hx hb h dX12_recipe_458 hl (q := 0) rfl (fun v93 => [(9, .int v93), (0, .ref (E.2.2.1 0 (0)))]) (by decide) (fun _ => rfl) (fun v93 ls hl h => ?_)
                                refine lv_goto (tgt := 437) hx hb dX12_recipe_461 (by decide) ?_
                                exact hB82 _ (Option.some.inj h).symm _ _ hw _ (lv_sub hl [0, 1] rfl)
                            · have h := ifn h hc80
                              refine lv_aload_n hx hb dX12_recipe_420 rfl (lv_at hl 1 rfl) ?_
                              refine M_g0_48 C0 hw (fun w h => (List.mem_cons_of_mem _ (List.mem_append_right _ h))) (by decide) ((List.mem_cons_of_mem _ (List.mem_append_left _ (List.mem_append_left _ (List.mem_of_getElem? (i := 16) rfl))))) dX12_recipe_421 ?_
                              refine lv_iload hx hb dX12_recipe_424 (lv_at hl 0 rfl) ?_
                              refine lv_iconst (v := -1) hx hb dX12_recipe_426 (by decide) ?_
                              refine M_iast hL C0 hw h (k := v77.toNatClampNeg) rfl dX12_recipe_427 (fun t98 H locs hw h => ?_)
                              refine x_iinc hx hb h dX12_recipe_428 hl (q := 0) rfl (fun v99 => [(9, .int v99), (0, .ref (E.2.2.1 0 (0)))]) (by decide) (fun _ => rfl) (fun v99 ls hl h => ?_)
                              refine lv_goto (tgt := 413) hx hb dX12_recipe_431 (by decide) ?_
                              exact hB75 _ (Option.some.inj h).symm _ _ hw _ (lv_sub hl [0, 1] rfl)
                          refine lv_if_ne (tgt := 401) hx hb dX12_recipe_394 (by decide) (fun hc113 => ?_) (fun hc113 => ?_)
                          · have h := ifn h hc113
                            refine lv_iconst (v := 0) hx hb dX12_recipe_401 (by decide) ?_
                            exact HJ69 _ h _ _ hw _ (lv_sub hl [0] rfl)
                          · have h := ifp h hc113
                            refine lv_iconst (v := 1) hx hb dX12_recipe_397 (by decide) ?_
                            refine lv_goto (tgt := 402) hx hb dX12_recipe_398 (by decide) ?_
                            exact HJ69 _ h _ _ hw _ (lv_sub hl [0] rfl)
                        · have h := ifn h hc66
                          refine lv_iconst (v := 0) hx hb dX12_recipe_177 (by decide) ?_
                          refine lv_istore (lv' := [(10, .int (0 : Int32)), (9, .int v63), (0, .ref (E.2.2.1 0 (0))), (5, .int a5), (6, .int a6)]) hx hb dX12_recipe_178 hl (by decide) rfl (fun ls hl => ?_)
                          refine bn_K h (fun K120 hK121 h => ?_)
                          have HX122 : ∀ (t119 : Sto), K120 t119 = some o62 → ∀ (H : Heap) (locs : List Loc), SM E s t119 H locs → ∀ ls : Array Slot, lv_has ls 13 [(0, .ref (E.2.2.1 0 (0))), (9, .int v63), (5, .int a5), (6, .int a6)] → W p l e (headSpec wsX12_recipe ({ frames := 8, cells := 0, slots := 0, locals := 212 })).room s m ([.ref (E.2.2.1 0 (0)), .int a1, .int a2, .int a3, .int a4, .int a5, .int a6, .int a7, .int a8] : List Value).toArray below meth c H locs 0 0 (MQ below (QM E (some (.int r)) st1) ([.ref (E.2.2.1 0 (0)), .int a1, .int a2, .int a3, .int a4, .int a5, .int a6, .int a7, .int a8] : List Value).toArray s 0 0 E.2.2.2) (F0 m 375 ls []) := by
                            intro t119 h H locs hw ls hl
                            have h := kk1 h hK121
                            refine x_iinc hx hb h dX12_recipe_375 hl (q := 1) rfl (fun v123 => [(9, .int v123), (0, .ref (E.2.2.1 0 (0))), (5, .int a5), (6, .int a6)]) (by decide) (fun _ => rfl) (fun v123 ls hl h => ?_)
                            refine lv_goto (tgt := 170) hx hb dX12_recipe_378 (by decide) ?_
                            exact hB61 _ (Option.some.inj h).symm _ _ hw _ (lv_sub hl [0, 1, 2, 3] rfl)
                          refine lp_ind (fun q : (Int32 × Sto) => ∀ (H : Heap) (locs : List Loc), SM E s (q.2) H locs → ∀ ls : Array Slot, lv_has ls 13 [(10, .int (q.1)), (9, .int v63), (0, .ref (E.2.2.1 0 (0))), (5, .int a5), (6, .int a6)] → W p l e (headSpec wsX12_recipe ({ frames := 8, cells := 0, slots := 0, locals := 212 })).room s m ([.ref (E.2.2.1 0 (0)), .int a1, .int a2, .int a3, .int a4, .int a5, .int a6, .int a7, .int a8] : List Value).toArray below meth c H locs 0 0 (MQ below (QM E (some (.int r)) st1) ([.ref (E.2.2.1 0 (0)), .int a1, .int a2, .int a3, .int a4, .int a5, .int a6, .int a7, .int a8] : List Value).toArray s 0 0 E.2.2.2) (F0 m 180 ls [])) (fun q o116 h hB115 hX114 => ?_) _ _ h _ _ hw _ (lv_sub hl [0, 1, 2, 3, 4] rfl)
                          intro H locs hw ls hl
                          obtain ⟨v117, t118⟩ := q
                          have h := un2_d h
                          have hw : SM E s t118 H locs := hw
                          have hl : lv_has ls 13 [(10, .int v117), (9, .int v63), (0, .ref (E.2.2.1 0 (0))), (5, .int a5), (6, .int a6)] := hl
                          refine lv_iload hx hb dX12_recipe_180 (lv_at hl 0 rfl) ?_
                          refine lv_aload_n hx hb dX12_recipe_182 rfl (lv_at hl 2 rfl) ?_
                          refine M_g0_4 C0 hw (fun w h => (List.mem_cons_of_mem _ (List.mem_append_right _ h))) (by decide) ((List.mem_cons_of_mem _ (List.mem_append_left _ (List.mem_append_left _ (List.mem_of_getElem? (i := 3) rfl))))) dX12_recipe_183 ?_
                          refine lv_icmp_ge (tgt := 375) hx hb dX12_recipe_186 (by decide) (fun hc124 => ?_) (fun hc124 => ?_)
                          · have h := ifp h hc124
                            have h := hX114 _ (Option.some.inj h).symm
                            exact HX122 _ h _ _ hw _ (lv_sub hl [2, 1, 3, 4] rfl)
                          · have h := ifn h hc124
                            refine lv_aload_n hx hb dX12_recipe_189 rfl (lv_at hl 2 rfl) ?_
                            refine M_g0_56 C0 hw (fun w h => (List.mem_cons_of_mem _ (List.mem_append_right _ h))) (by decide) ((List.mem_cons_of_mem _ (List.mem_append_left _ (List.mem_append_left _ (List.mem_of_getElem? (i := 10) rfl))))) dX12_recipe_190 ?_
                            refine lv_if_ne (tgt := 375) hx hb dX12_recipe_193 (by decide) (fun hc125 => ?_) (fun hc125 => ?_)
                            · have h := ifn h hc125
                              have h := hX114 _ (Option.some.inj h).symm
                              exact HX122 _ h _ _ hw _ (lv_sub hl [2, 1, 3, 4] rfl)
                            · have h := ifp h hc125
                              refine lv_aload_n hx hb dX12_recipe_196 rfl (lv_at hl 2 rfl) ?_
                              refine lv_iload hx hb dX12_recipe_197 (lv_at hl 3 rfl) ?_
                              refine lv_iload hx hb dX12_recipe_199 (lv_at hl 0 rfl) ?_
                              obtain ⟨v126, hf127, h⟩ := bn_c h
                              refine M_callV C0 hw (As := [.int a5, .int v117]) (rest := []) (mX12_isOf l E hL t118 hf127) (cwV 2 C0.1.2.2.2.2 gX12_recipe_X12_isOf rfl rfl rfl (by decide +kernel) ⟨Nat.le_of_ble_eq_true rfl, Nat.le_of_ble_eq_true rfl⟩) (M_recv_0 C0 hw (by decide)) rfl hl.1 rfl (Nat.le_of_ble_eq_true rfl) dX12_recipe_201 ⟨Nat.zero_le _, Nat.zero_le _⟩ (fun H locs hw => ?_)
                              refine W.eq (g2 := F0 m 204 ls [.int v126]) rfl ?_
                              refine lv_if_ne (tgt := 210) hx hb dX12_recipe_204 (by decide) (fun hc128 => ?_) (fun hc128 => ?_)
                              · have h := ifn h hc128
                                refine lv_aload_n hx hb dX12_recipe_210 rfl (lv_at hl 2 rfl) ?_
                                refine M_g0_47 C0 hw (fun w h => (List.mem_cons_of_mem _ (List.mem_append_right _ h))) (by decide) ((List.mem_cons_of_mem _ (List.mem_append_left _ (List.mem_append_left _ (List.mem_of_getElem? (i := 12) rfl))))) dX12_recipe_211 ?_
                                refine lv_iconst (v := 0) hx hb dX12_recipe_214 (by decide) ?_
                                refine lv_iload hx hb dX12_recipe_215 (lv_at hl 0 rfl) ?_
                                refine M_iastL hL C0 hw h (vp_in_iff.mpr (by decide +kernel)) (k := 0) rfl dX12_recipe_217 (fun t129 H locs hw h => ?_)
                                refine lv_iload hx hb dX12_recipe_218 (lv_at hl 1 rfl) ?_
                                refine lv_iconst (v := 1) hx hb dX12_recipe_220 (by decide) ?_
                                refine jn_c h (fun K130 hK132 h => ?_)
                                have HJ131 : ∀ (t133 : Sto), K130 t133 = some o116 → ∀ (H : Heap) (locs : List Loc), SM E s t133 H locs → ∀ ls : Array Slot, lv_has ls 13 [(10, .int v117), (9, .int v63), (0, .ref (E.2.2.1 0 (0))), (5, .int a5), (6, .int a6)] → W p l e (headSpec wsX12_recipe ({ frames := 8, cells := 0, slots := 0, locals := 212 })).room s m ([.ref (E.2.2.1 0 (0)), .int a1, .int a2, .int a3, .int a4, .int a5, .int a6, .int a7, .int a8] : List Value).toArray below meth c H locs 0 0 (MQ below (QM E (some (.int r)) st1) ([.ref (E.2.2.1 0 (0)), .int a1, .int a2, .int a3, .int a4, .int a5, .int a6, .int a7, .int a8] : List Value).toArray s 0 0 E.2.2.2) (F0 m 233 ls []) := by
                                  intro t133 h H locs hw ls hl
                                  have h := kk1 h hK132
                                  refine lv_iload hx hb dX12_recipe_233 (lv_at hl 0 rfl) ?_
                                  refine lv_iconst (v := 1) hx hb dX12_recipe_235 (by decide) ?_
                                  refine lv_iadd hx hb dX12_recipe_236 ?_
                                  refine x_topi h (fun v134 h => ?_)
                                  refine lv_istore (lv' := [(11, .int v134), (10, .int v117), (9, .int v63), (0, .ref (E.2.2.1 0 (0))), (5, .int a5), (6, .int a6)]) hx hb dX12_recipe_237 hl (by decide) rfl (fun ls hl => ?_)
                                  refine bn_K h (fun K141 hK142 h => ?_)
                                  have HX143 : ∀ (t140 : Sto), K141 t140 = some o116 → ∀ (H : Heap) (locs : List Loc), SM E s t140 H locs → ∀ ls : Array Slot, lv_has ls 13 [(0, .ref (E.2.2.1 0 (0))), (5, .int a5), (6, .int a6), (9, .int v63), (10, .int v117)] → W p l e (headSpec wsX12_recipe ({ frames := 8, cells := 0, slots := 0, locals := 212 })).room s m ([.ref (E.2.2.1 0 (0)), .int a1, .int a2, .int a3, .int a4, .int a5, .int a6, .int a7, .int a8] : List Value).toArray below meth c H locs 0 0 (MQ below (QM E (some (.int r)) st1) ([.ref (E.2.2.1 0 (0)), .int a1, .int a2, .int a3, .int a4, .int a5, .int a6, .int a7, .int a8] : List Value).toArray s 0 0 E.2.2.2) (F0 m 369 ls []) := by
                                    intro t140 h H locs hw ls hl
                                    have h := kk1 h hK142
                                    refine x_iinc hx hb h dX12_recipe_369 hl (q := 4) rfl (fun v144 => [(10, .int v144), (0, .ref (E.2.2.1 0 (0))), (5, .int a5), (6, .int a6), (9, .int v63)]) (by decide) (fun _ => rfl) (fun v144 ls hl h => ?_)
                                    refine lv_goto (tgt := 180) hx hb dX12_recipe_372 (by decide) ?_
                                    exact hB115 _ (Option.some.inj h).symm _ _ hw _ (lv_sub hl [0, 4, 1, 2, 3] rfl)
                                  refine lp_ind (fun q : (Int32 × Sto) => ∀ (H : Heap) (locs : List Loc), SM E s (q.2) H locs → ∀ ls : Array Slot, lv_has ls 13 [(11, .int (q.1)), (10, .int v117), (9, .int v63), (0, .ref (E.2.2.1 0 (0))), (5, .int a5), (6, .int a6)] → W p l e (headSpec wsX12_recipe ({ frames := 8, cells := 0, slots := 0, locals := 212 })).room s m ([.ref (E.2.2.1 0 (0)), .int a1, .int a2, .int a3, .int a4, .int a5, .int a6, .int a7, .int a8] : List Value).toArray below meth c H locs 0 0 (MQ below (QM E (some (.int r)) st1) ([.ref (E.2.2.1 0 (0)), .int a1, .int a2, .int a3, .int a4, .int a5, .int a6, .int a7, .int a8] : List Value).toArray s 0 0 E.2.2.2) (F0 m 239 ls [])) (fun q o137 h hB136 hX135 => ?_) _ _ h _ _ hw _ (lv_sub hl [0, 1, 2, 3, 4, 5] rfl)
                                  intro H locs hw ls hl
                                  obtain ⟨v138, t139⟩ := q
                                  have h := un2_d h
                                  have hw : SM E s t139 H locs := hw
                                  have hl : lv_has ls 13 [(11, .int v138), (10, .int v117), (9, .int v63), (0, .ref (E.2.2.1 0 (0))), (5, .int a5), (6, .int a6)] := hl
                                  refine lv_iload hx hb dX12_recipe_239 (lv_at hl 0 rfl) ?_
                                  refine lv_aload_n hx hb dX12_recipe_241 rfl (lv_at hl 3 rfl) ?_
                                  refine M_g0_4 C0 hw (fun w h => (List.mem_cons_of_mem _ (List.mem_append_right _ h))) (by decide) ((List.mem_cons_of_mem _ (List.mem_append_left _ (List.mem_append_left _ (List.mem_of_getElem? (i := 3) rfl))))) dX12_recipe_242 ?_
                                  refine lv_icmp_ge (tgt := 369) hx hb dX12_recipe_245 (by decide) (fun hc145 => ?_) (fun hc145 => ?_)
                                  · have h := ifp h hc145
                                    have h := hX135 _ (Option.some.inj h).symm
                                    exact HX143 _ h _ _ hw _ (lv_sub hl [3, 4, 5, 2, 1] rfl)
                                  · have h := ifn h hc145
                                    refine lv_iload hx hb dX12_recipe_248 (lv_at hl 2 rfl) ?_
                                    refine lv_iconst (v := 1) hx hb dX12_recipe_250 (by decide) ?_
                                    refine lv_icmp_le (tgt := 369) hx hb dX12_recipe_251 (by decide) (fun hc146 => ?_) (fun hc146 => ?_)
                                    · have h := ifp h hc146
                                      have h := hX135 _ (Option.some.inj h).symm
                                      exact HX143 _ h _ _ hw _ (lv_sub hl [3, 4, 5, 2, 1] rfl)
                                    · have h := ifn h hc146
                                      refine lv_aload_n hx hb dX12_recipe_254 rfl (lv_at hl 3 rfl) ?_
                                      refine M_g0_56 C0 hw (fun w h => (List.mem_cons_of_mem _ (List.mem_append_right _ h))) (by decide) ((List.mem_cons_of_mem _ (List.mem_append_left _ (List.mem_append_left _ (List.mem_of_getElem? (i := 10) rfl))))) dX12_recipe_255 ?_
                                      refine lv_if_ne (tgt := 369) hx hb dX12_recipe_258 (by decide) (fun hc147 => ?_) (fun hc147 => ?_)
                                      · have h := ifn h hc147
                                        have h := hX135 _ (Option.some.inj h).symm
                                        exact HX143 _ h _ _ hw _ (lv_sub hl [3, 4, 5, 2, 1] rfl)
                                      · have h := ifp h hc147
                                        refine lv_aload_n hx hb dX12_recipe_261 rfl (lv_at hl 3 rfl) ?_
                                        refine lv_iload hx hb dX12_recipe_262 (lv_at hl 4 rfl) ?_
                                        refine lv_iload hx hb dX12_recipe_264 (lv_at hl 0 rfl) ?_
                                        obtain ⟨v148, hf149, h⟩ := bn_c h
                                        refine M_callV C0 hw (As := [.int a5, .int v138]) (rest := []) (mX12_isOf l E hL t139 hf149) (cwV 2 C0.1.2.2.2.2 gX12_recipe_X12_isOf rfl rfl rfl (by decide +kernel) ⟨Nat.le_of_ble_eq_true rfl, Nat.le_of_ble_eq_true rfl⟩) (M_recv_0 C0 hw (by decide)) rfl hl.1 rfl (Nat.le_of_ble_eq_true rfl) dX12_recipe_266 ⟨Nat.zero_le _, Nat.zero_le _⟩ (fun H locs hw => ?_)
                                        refine W.eq (g2 := F0 m 269 ls [.int v148]) rfl ?_
                                        refine lv_if_ne (tgt := 275) hx hb dX12_recipe_269 (by decide) (fun hc150 => ?_) (fun hc150 => ?_)
                                        · have h := ifn h hc150
                                          refine lv_aload_n hx hb dX12_recipe_275 rfl (lv_at hl 3 rfl) ?_
                                          refine M_g0_47 C0 hw (fun w h => (List.mem_cons_of_mem _ (List.mem_append_right _ h))) (by decide) ((List.mem_cons_of_mem _ (List.mem_append_left _ (List.mem_append_left _ (List.mem_of_getElem? (i := 12) rfl))))) dX12_recipe_276 ?_
                                          refine lv_iconst (v := 2) hx hb dX12_recipe_279 (by decide) ?_
                                          refine lv_iload hx hb dX12_recipe_280 (lv_at hl 0 rfl) ?_
                                          refine M_iastL hL C0 hw h (vp_in_iff.mpr (by decide +kernel)) (k := 2) rfl dX12_recipe_282 (fun t151 H locs hw h => ?_)
                                          refine lv_iload hx hb dX12_recipe_283 (lv_at hl 2 rfl) ?_
                                          refine lv_iconst (v := 2) hx hb dX12_recipe_285 (by decide) ?_
                                          refine jn_c h (fun K152 hK154 h => ?_)
                                          have HJ153 : ∀ (t155 : Sto), K152 t155 = some o137 → ∀ (H : Heap) (locs : List Loc), SM E s t155 H locs → ∀ ls : Array Slot, lv_has ls 13 [(11, .int v138), (10, .int v117), (9, .int v63), (0, .ref (E.2.2.1 0 (0))), (5, .int a5), (6, .int a6)] → W p l e (headSpec wsX12_recipe ({ frames := 8, cells := 0, slots := 0, locals := 212 })).room s m ([.ref (E.2.2.1 0 (0)), .int a1, .int a2, .int a3, .int a4, .int a5, .int a6, .int a7, .int a8] : List Value).toArray below meth c H locs 0 0 (MQ below (QM E (some (.int r)) st1) ([.ref (E.2.2.1 0 (0)), .int a1, .int a2, .int a3, .int a4, .int a5, .int a6, .int a7, .int a8] : List Value).toArray s 0 0 E.2.2.2) (F0 m 298 ls []) := by
                                            intro t155 h H locs hw ls hl
                                            have h := kk1 h hK154
                                            refine lv_iload hx hb dX12_recipe_298 (lv_at hl 0 rfl) ?_
                                            refine lv_iconst (v := 1) hx hb dX12_recipe_300 (by decide) ?_
                                            refine lv_iadd hx hb dX12_recipe_301 ?_
                                            refine x_topi h (fun v156 h => ?_)
                                            refine lv_istore (lv' := [(12, .int v156), (11, .int v138), (10, .int v117), (9, .int v63), (0, .ref (E.2.2.1 0 (0))), (5, .int a5), (6, .int a6)]) hx hb dX12_recipe_302 hl (by decide) rfl (fun ls hl => ?_)
                                            refine bn_K h (fun K163 hK164 h => ?_)
                                            have HX165 : ∀ (t162 : Sto), K163 t162 = some o137 → ∀ (H : Heap) (locs : List Loc), SM E s t162 H locs → ∀ ls : Array Slot, lv_has ls 13 [(0, .ref (E.2.2.1 0 (0))), (5, .int a5), (6, .int a6), (9, .int v63), (10, .int v117), (11, .int v138)] → W p l e (headSpec wsX12_recipe ({ frames := 8, cells := 0, slots := 0, locals := 212 })).room s m ([.ref (E.2.2.1 0 (0)), .int a1, .int a2, .int a3, .int a4, .int a5, .int a6, .int a7, .int a8] : List Value).toArray below meth c H locs 0 0 (MQ below (QM E (some (.int r)) st1) ([.ref (E.2.2.1 0 (0)), .int a1, .int a2, .int a3, .int a4, .int a5, .int a6, .int a7, .int a8] : List Value).toArray s 0 0 E.2.2.2) (F0 m 363 ls []) := by
                                              intro t162 h H locs hw ls hl
                                              have h := kk1 h hK164
                                              refine x_iinc hx hb h dX12_recipe_363 hl (q := 5) rfl (fun v166 => [(11, .int v166), (0, .ref (E.2.2.1 0 (0))), (5, .int a5), (6, .int a6), (9, .int v63), (10, .int v117)]) (by decide) (fun _ => rfl) (fun v166 ls hl h => ?_)
                                              refine lv_goto (tgt := 239) hx hb dX12_recipe_366 (by decide) ?_
                                              exact hB136 _ (Option.some.inj h).symm _ _ hw _ (lv_sub hl [0, 5, 4, 1, 2, 3] rfl)
                                            refine lp_ind (fun q : (Int32 × Sto) => ∀ (H : Heap) (locs : List Loc), SM E s (q.2) H locs → ∀ ls : Array Slot, lv_has ls 13 [(12, .int (q.1)), (11, .int v138), (10, .int v117), (9, .int v63), (0, .ref (E.2.2.1 0 (0))), (5, .int a5), (6, .int a6)] → W p l e (headSpec wsX12_recipe ({ frames := 8, cells := 0, slots := 0, locals := 212 })).room s m ([.ref (E.2.2.1 0 (0)), .int a1, .int a2, .int a3, .int a4, .int a5, .int a6, .int a7, .int a8] : List Value).toArray below meth c H locs 0 0 (MQ below (QM E (some (.int r)) st1) ([.ref (E.2.2.1 0 (0)), .int a1, .int a2, .int a3, .int a4, .int a5, .int a6, .int a7, .int a8] : List Value).toArray s 0 0 E.2.2.2) (F0 m 304 ls [])) (fun q o159 h hB158 hX157 => ?_) _ _ h _ _ hw _ (lv_sub hl [0, 1, 2, 3, 4, 5, 6] rfl)
                                            intro H locs hw ls hl
                                            obtain ⟨v160, t161⟩ := q
                                            have h := un2_d h
                                            have hw : SM E s t161 H locs := hw
                                            have hl : lv_has ls 13 [(12, .int v160), (11, .int v138), (10, .int v117), (9, .int v63), (0, .ref (E.2.2.1 0 (0))), (5, .int a5), (6, .int a6)] := hl
                                            refine lv_iload hx hb dX12_recipe_304 (lv_at hl 0 rfl) ?_
                                            refine lv_aload_n hx hb dX12_recipe_306 rfl (lv_at hl 4 rfl) ?_
                                            refine M_g0_4 C0 hw (fun w h => (List.mem_cons_of_mem _ (List.mem_append_right _ h))) (by decide) ((List.mem_cons_of_mem _ (List.mem_append_left _ (List.mem_append_left _ (List.mem_of_getElem? (i := 3) rfl))))) dX12_recipe_307 ?_
                                            refine lv_icmp_ge (tgt := 363) hx hb dX12_recipe_310 (by decide) (fun hc167 => ?_) (fun hc167 => ?_)
                                            · have h := ifp h hc167
                                              have h := hX157 _ (Option.some.inj h).symm
                                              exact HX165 _ h _ _ hw _ (lv_sub hl [4, 5, 6, 3, 2, 1] rfl)
                                            · have h := ifn h hc167
                                              refine lv_iload hx hb dX12_recipe_313 (lv_at hl 3 rfl) ?_
                                              refine lv_iconst (v := 2) hx hb dX12_recipe_315 (by decide) ?_
                                              refine lv_icmp_le (tgt := 363) hx hb dX12_recipe_316 (by decide) (fun hc168 => ?_) (fun hc168 => ?_)
                                              · have h := ifp h hc168
                                                have h := hX157 _ (Option.some.inj h).symm
                                                exact HX165 _ h _ _ hw _ (lv_sub hl [4, 5, 6, 3, 2, 1] rfl)
                                              · have h := ifn h hc168
                                                refine lv_aload_n hx hb dX12_recipe_319 rfl (lv_at hl 4 rfl) ?_
                                                refine M_g0_56 C0 hw (fun w h => (List.mem_cons_of_mem _ (List.mem_append_right _ h))) (by decide) ((List.mem_cons_of_mem _ (List.mem_append_left _ (List.mem_append_left _ (List.mem_of_getElem? (i := 10) rfl))))) dX12_recipe_320 ?_
                                                refine lv_if_ne (tgt := 363) hx hb dX12_recipe_323 (by decide) (fun hc169 => ?_) (fun hc169 => ?_)
                                                · have h := ifn h hc169
                                                  have h := hX157 _ (Option.some.inj h).symm
                                                  exact HX165 _ h _ _ hw _ (lv_sub hl [4, 5, 6, 3, 2, 1] rfl)
                                                · have h := ifp h hc169
                                                  refine lv_aload_n hx hb dX12_recipe_326 rfl (lv_at hl 4 rfl) ?_
                                                  refine lv_iload hx hb dX12_recipe_327 (lv_at hl 5 rfl) ?_
                                                  refine lv_iload hx hb dX12_recipe_329 (lv_at hl 0 rfl) ?_
                                                  obtain ⟨v170, hf171, h⟩ := bn_c h
                                                  refine M_callV C0 hw (As := [.int a5, .int v160]) (rest := []) (mX12_isOf l E hL t161 hf171) (cwV 2 C0.1.2.2.2.2 gX12_recipe_X12_isOf rfl rfl rfl (by decide +kernel) ⟨Nat.le_of_ble_eq_true rfl, Nat.le_of_ble_eq_true rfl⟩) (M_recv_0 C0 hw (by decide)) rfl hl.1 rfl (Nat.le_of_ble_eq_true rfl) dX12_recipe_331 ⟨Nat.zero_le _, Nat.zero_le _⟩ (fun H locs hw => ?_)
                                                  refine W.eq (g2 := F0 m 334 ls [.int v170]) rfl ?_
                                                  refine lv_if_ne (tgt := 340) hx hb dX12_recipe_334 (by decide) (fun hc172 => ?_) (fun hc172 => ?_)
                                                  · have h := ifn h hc172
                                                    refine lv_aload_n hx hb dX12_recipe_340 rfl (lv_at hl 4 rfl) ?_
                                                    refine M_g0_47 C0 hw (fun w h => (List.mem_cons_of_mem _ (List.mem_append_right _ h))) (by decide) ((List.mem_cons_of_mem _ (List.mem_append_left _ (List.mem_append_left _ (List.mem_of_getElem? (i := 12) rfl))))) dX12_recipe_341 ?_
                                                    refine lv_iconst (v := 4) hx hb dX12_recipe_344 (by decide) ?_
                                                    refine lv_iload hx hb dX12_recipe_345 (lv_at hl 0 rfl) ?_
                                                    refine M_iastL hL C0 hw h (vp_in_iff.mpr (by decide +kernel)) (k := 4) rfl dX12_recipe_347 (fun t173 H locs hw h => ?_)
                                                    refine lv_aload_n hx hb dX12_recipe_348 rfl (lv_at hl 4 rfl) ?_
                                                    refine lv_iconst (v := 3) hx hb dX12_recipe_349 (by decide) ?_
                                                    refine M_p0_49 hL C0 hw (fun w h => (List.mem_cons_of_mem _ (List.mem_append_right _ h))) (by decide) h ((List.mem_cons_of_mem _ (List.mem_append_left _ (List.mem_append_left _ (List.mem_of_getElem? (i := 11) rfl))))) dX12_recipe_350 (fun t174 H locs hw h => ?_)
                                                    refine lv_aload_n hx hb dX12_recipe_353 rfl (lv_at hl 4 rfl) ?_
                                                    obtain ⟨t175, hf176, h⟩ := bn_c h
                                                    refine M_callV C0 hw (As := []) (rest := []) (mX12_tryGrams l E hL t174 hf176) (cwV 0 C0.1.2.2.2.2 gX12_recipe_X12_tryGrams rfl rfl rfl (by decide +kernel) ⟨Nat.le_of_ble_eq_true rfl, Nat.le_of_ble_eq_true rfl⟩) (M_recv_0 C0 hw (by decide)) rfl hl.1 rfl (Nat.le_of_ble_eq_true rfl) dX12_recipe_354 ⟨Nat.zero_le _, Nat.zero_le _⟩ (fun H locs hw => ?_)
                                                    refine W.eq (g2 := F0 m 357 ls []) rfl ?_
                                                    refine x_iinc hx hb h dX12_recipe_357 hl (q := 0) rfl (fun v177 => [(12, .int v177), (11, .int v138), (10, .int v117), (9, .int v63), (0, .ref (E.2.2.1 0 (0))), (5, .int a5), (6, .int a6)]) (by decide) (fun _ => rfl) (fun v177 ls hl h => ?_)
                                                    refine lv_goto (tgt := 304) hx hb dX12_recipe_360 (by decide) ?_
                                                    exact hB158 _ (Option.some.inj h).symm _ _ hw _ (lv_sub hl [0, 1, 2, 3, 4, 5, 6] rfl)
                                                  · have h := ifp h hc172
                                                    refine lv_goto (tgt := 357) hx hb dX12_recipe_337 (by decide) ?_
                                                    refine x_iinc hx hb h dX12_recipe_357 hl (q := 0) rfl (fun v178 => [(12, .int v178), (11, .int v138), (10, .int v117), (9, .int v63), (0, .ref (E.2.2.1 0 (0))), (5, .int a5), (6, .int a6)]) (by decide) (fun _ => rfl) (fun v178 ls hl h => ?_)
                                                    refine lv_goto (tgt := 304) hx hb dX12_recipe_360 (by decide) ?_
                                                    exact hB158 _ (Option.some.inj h).symm _ _ hw _ (lv_sub hl [0, 1, 2, 3, 4, 5, 6] rfl)
                                          refine lv_icmp_ne (tgt := 298) hx hb dX12_recipe_286 (by decide) (fun hc179 => ?_) (fun hc179 => ?_)
                                          · have h := ifn h hc179
                                            exact HJ153 _ h _ _ hw _ (lv_sub hl [0, 1, 2, 3, 4, 5] rfl)
                                          · have h := ifp h hc179
                                            refine lv_aload_n hx hb dX12_recipe_289 rfl (lv_at hl 3 rfl) ?_
                                            refine lv_iconst (v := 2) hx hb dX12_recipe_290 (by decide) ?_
                                            refine M_p0_49 hL C0 hw (fun w h => (List.mem_cons_of_mem _ (List.mem_append_right _ h))) (by decide) h ((List.mem_cons_of_mem _ (List.mem_append_left _ (List.mem_append_left _ (List.mem_of_getElem? (i := 11) rfl))))) dX12_recipe_291 (fun t180 H locs hw h => ?_)
                                            refine lv_aload_n hx hb dX12_recipe_294 rfl (lv_at hl 3 rfl) ?_
                                            obtain ⟨t181, hf182, h⟩ := bn_c h
                                            refine M_callV C0 hw (As := []) (rest := []) (mX12_tryGrams l E hL t180 hf182) (cwV 0 C0.1.2.2.2.2 gX12_recipe_X12_tryGrams rfl rfl rfl (by decide +kernel) ⟨Nat.le_of_ble_eq_true rfl, Nat.le_of_ble_eq_true rfl⟩) (M_recv_0 C0 hw (by decide)) rfl hl.1 rfl (Nat.le_of_ble_eq_true rfl) dX12_recipe_295 ⟨Nat.zero_le _, Nat.zero_le _⟩ (fun H locs hw => ?_)
                                            refine W.eq (g2 := F0 m 298 ls []) rfl ?_
                                            exact HJ153 _ h _ _ hw _ (lv_sub hl [0, 1, 2, 3, 4, 5] rfl)
                                        · have h := ifp h hc150
                                          refine lv_goto (tgt := 363) hx hb dX12_recipe_272 (by decide) ?_
                                          refine x_iinc hx hb h dX12_recipe_363 hl (q := 0) rfl (fun v183 => [(11, .int v183), (10, .int v117), (9, .int v63), (0, .ref (E.2.2.1 0 (0))), (5, .int a5), (6, .int a6)]) (by decide) (fun _ => rfl) (fun v183 ls hl h => ?_)
                                          refine lv_goto (tgt := 239) hx hb dX12_recipe_366 (by decide) ?_
                                          exact hB136 _ (Option.some.inj h).symm _ _ hw _ (lv_sub hl [0, 1, 2, 3, 4, 5] rfl)
                                refine lv_icmp_ne (tgt := 233) hx hb dX12_recipe_221 (by decide) (fun hc184 => ?_) (fun hc184 => ?_)
                                · have h := ifn h hc184
                                  exact HJ131 _ h _ _ hw _ (lv_sub hl [0, 1, 2, 3, 4] rfl)
                                · have h := ifp h hc184
                                  refine lv_aload_n hx hb dX12_recipe_224 rfl (lv_at hl 2 rfl) ?_
                                  refine lv_iconst (v := 1) hx hb dX12_recipe_225 (by decide) ?_
                                  refine M_p0_49 hL C0 hw (fun w h => (List.mem_cons_of_mem _ (List.mem_append_right _ h))) (by decide) h ((List.mem_cons_of_mem _ (List.mem_append_left _ (List.mem_append_left _ (List.mem_of_getElem? (i := 11) rfl))))) dX12_recipe_226 (fun t185 H locs hw h => ?_)
                                  refine lv_aload_n hx hb dX12_recipe_229 rfl (lv_at hl 2 rfl) ?_
                                  obtain ⟨t186, hf187, h⟩ := bn_c h
                                  refine M_callV C0 hw (As := []) (rest := []) (mX12_tryGrams l E hL t185 hf187) (cwV 0 C0.1.2.2.2.2 gX12_recipe_X12_tryGrams rfl rfl rfl (by decide +kernel) ⟨Nat.le_of_ble_eq_true rfl, Nat.le_of_ble_eq_true rfl⟩) (M_recv_0 C0 hw (by decide)) rfl hl.1 rfl (Nat.le_of_ble_eq_true rfl) dX12_recipe_230 ⟨Nat.zero_le _, Nat.zero_le _⟩ (fun H locs hw => ?_)
                                  refine W.eq (g2 := F0 m 233 ls []) rfl ?_
                                  exact HJ131 _ h _ _ hw _ (lv_sub hl [0, 1, 2, 3, 4] rfl)
                              · have h := ifp h hc128
                                refine lv_goto (tgt := 369) hx hb dX12_recipe_207 (by decide) ?_
                                refine x_iinc hx hb h dX12_recipe_369 hl (q := 0) rfl (fun v188 => [(10, .int v188), (9, .int v63), (0, .ref (E.2.2.1 0 (0))), (5, .int a5), (6, .int a6)]) (by decide) (fun _ => rfl) (fun v188 ls hl h => ?_)
                                refine lv_goto (tgt := 180) hx hb dX12_recipe_372 (by decide) ?_
                                exact hB115 _ (Option.some.inj h).symm _ _ hw _ (lv_sub hl [0, 1, 2, 3, 4] rfl)
                      · have h := ifn h hc47
                        refine lv_aload_n hx hb dX12_recipe_104 rfl (lv_at hl 0 rfl) ?_
                        refine lv_iconst (v := 3) hx hb dX12_recipe_105 (by decide) ?_
                        obtain ⟨⟨v219, t220⟩, hf221, h⟩ := bn_c h
                        have h := un2_d h
                        refine M_callV C0 hw (As := [.int (3 : Int32)]) (rest := []) (mX12_no l E hL t1 hf221) (cwV 1 C0.1.2.2.2.2 gX12_recipe_X12_no rfl rfl rfl (by decide +kernel) ⟨Nat.le_of_ble_eq_true rfl, Nat.le_of_ble_eq_true rfl⟩) (M_recv_0 C0 hw (by decide)) rfl hl.1 rfl (Nat.le_of_ble_eq_true rfl) dX12_recipe_106 ⟨Nat.zero_le _, Nat.zero_le _⟩ (fun H locs hw => ?_)
                        refine W.eq (g2 := F0 m 109 ls [.int v219]) rfl ?_
                        cases h
                        exact W.iret hx hb hr (M_fin C0 hw) hw.2.2.2 dX12_recipe_109 hlocks
    · have h := ifp h hc10
      refine lv_aload_n hx hb dX12_recipe_29 rfl (lv_at hl 0 rfl) ?_
      refine lv_iconst (v := 2) hx hb dX12_recipe_30 (by decide) ?_
      obtain ⟨⟨v222, t223⟩, hf224, h⟩ := bn_c h
      have h := un2_d h
      refine M_callV C0 hw (As := [.int (2 : Int32)]) (rest := []) (mX12_no l E hL t1 hf224) (cwV 1 C0.1.2.2.2.2 gX12_recipe_X12_no rfl rfl rfl (by decide +kernel) ⟨Nat.le_of_ble_eq_true rfl, Nat.le_of_ble_eq_true rfl⟩) (M_recv_0 C0 hw (by decide)) rfl hl.1 rfl (Nat.le_of_ble_eq_true rfl) dX12_recipe_31 ⟨Nat.zero_le _, Nat.zero_le _⟩ (fun H locs hw => ?_)
      refine W.eq (g2 := F0 m 34 ls [.int v222]) rfl ?_
      cases h
      exact W.iret hx hb hr (M_fin C0 hw) hw.2.2.2 dX12_recipe_34 hlocks
