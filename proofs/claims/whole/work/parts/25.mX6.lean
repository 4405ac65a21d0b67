def fX11_parting (a1 : Int32) (a2 : Int32) (a3 : Int32) (st : Sto) : Option (Int32 × Sto) :=
  (fX11_isThere (0 : Int32) a1 st).bind (fun (v1 : Int32) =>
   if v1 = 0 then (
    some ((-1 : Int32), st)) else (
    (fX11_isThere (0 : Int32) a2 st).bind (fun (v4 : Int32) =>
     if v4 = 0 then (
      some ((-1 : Int32), st)) else (
      if a3 < 0 then (
       some ((-1 : Int32), st)) else (
       if a3 < (2 : Int32) then (
        (fX11_chipGap a1 a2 (0 : Int32) a3 st).bind (un2 fun (v9 : UInt64) (t10 : Sto) =>
         ((lp (σ := (Int32 × UInt64 × Int32 × Sto)) (ρ := (Int32 × Sto)) (un4 fun (v15 : Int32) (v16 : UInt64) (v17 : Int32) (t18 : Sto) =>
            if (6 : Int32) ≤ v15 then (
             some (.inr (v17, t18))) else (
             (fX11_chipGap a1 a2 v15 a3 t18).bind (un2 fun (v22 : UInt64) (t23 : Sto) =>
              if Op.cmpValue (FP.dcmp v22 v16) CmpOp.l ≤ 0 then (
               lt1 (v15 + Int32.ofInt (1)) fun (v26 : Int32) =>
               some (.inl (v26, v16, v17, t23))) else (
               lt1 (v15 + Int32.ofInt (1)) fun (v27 : Int32) =>
               some (.inl (v27, v22, v15, t23)))))) 4000 ((1 : Int32), v9, (0 : Int32), t10)).bind
          (un2 fun (v19 : Int32) (t20 : Sto) =>
           some (v19, t20))))) else (
        some ((-1 : Int32), st)))))))
set_option maxHeartbeats 4000000 in
set_option maxRecDepth 100000 in
theorem mX11_parting (l : Launch) (E : XE) (hL : LX E) (st : Sto) {a1 : Int32} {a2 : Int32} {a3 : Int32} {r : Int32} {st1 : Sto} (h : fX11_parting a1 a2 a3 st = some (r, st1)) : Met l yX11_parting wsX11_parting ({ frames := 6, cells := 0, slots := 0, locals := 160 }) (va_Pc [.ref (E.2.2.1 0 (0)), .int a1, .int a2, .int a3] (RX E st)) (QX E (some (.int r)) st1) 0 0 E.2.2.2 := by
  refine Met.ofW (cc := cX11_parting) (maxL := 10) (ret := (some .int)) (by decide) rfl ?_
  intro p e s m args below meth c s₁ B hml hv
  obtain ⟨rfl, hP, hK⟩ := hv
  have hown : s.vm.findClass RX11 = some m.cls := findClass_of_methodNamed B.named
  have C0 : CX p m c cX11_parting 10 s _ wsX11_parting RX11 E := ⟨⟨B.exec, B.bytes, hml, hown, atoms_spec (ws := wsX11_parting) B.pre⟩, hK⟩
  have hx := B.exec
  have hb := B.bytes
  have hr := B.returns
  have hlocks := B.notSynchronized
  have hw : SX E s st s.heap [] := ⟨hP, va_S.rf⟩
  have hl := lv_entry ([.ref (E.2.2.1 0 (0)), .int a1, .int a2, .int a3]) (n := 10) (Nat.le_of_ble_eq_true rfl)
  rw [lg_entry_eq]
  generalize (lg_sl ([.ref (E.2.2.1 0 (0)), .int a1, .int a2, .int a3]) ++ List.replicate (10 - (lg_sl ([.ref (E.2.2.1 0 (0)), .int a1, .int a2, .int a3])).length) Slot.unset).toArray = ls at hl ⊢
  have hl : lv_has ls 10 [(0, .ref (E.2.2.1 0 (0))), (1, .int a1), (2, .int a2), (3, .int a3)] := hl
  unfold fX11_parting at h
  refine lv_aload_n hx hb dX11_parting_0 rfl (lv_at hl 0 rfl) ?_
  refine lv_iconst (v := 0) hx hb dX11_parting_1 (by decide) ?_
  refine lv_iload_n hx hb dX11_parting_2 rfl (lv_at hl 1 rfl) ?_
  obtain ⟨v1, hf2, h⟩ := bn_c h
  refine X_callV C0 hw (As := [.int (0 : Int32), .int a1]) (rest := []) (mX11_isThere l E hL st hf2) (cwV 2 C0.1.2.2.2.2 gX11_parting_X11_isThere rfl rfl rfl (by decide +kernel) ⟨Nat.le_of_ble_eq_true rfl, Nat.le_of_ble_eq_true rfl⟩) (X_recv_0 C0 hw (by decide)) rfl hl.1 rfl (Nat.le_of_ble_eq_true rfl) dX11_parting_3 ⟨Nat.zero_le _, Nat.zero_le _⟩ (fun H locs hw => ?_)
  refine W.eq (g2 := F0 m 6 ls [.int v1]) rfl ?_
  refine lv_if_eq (tgt := 27) hx hb dX11_parting_6 (by decide) (fun hc3 => ?_) (fun hc3 => ?_)
  · have h := ifp h hc3
    refine lv_iconst (v := -1) hx hb dX11_parting_27 (by decide) ?_
    cases h
    exact W.iret hx hb hr (X_fin C0 hw) hw.2.2.2 dX11_parting_28 hlocks
  · have h := ifn h hc3
    refine lv_aload_n hx hb dX11_parting_9 rfl (lv_at hl 0 rfl) ?_
    refine lv_iconst (v := 0) hx hb dX11_parting_10 (by decide) ?_
    refine lv_iload_n hx hb dX11_parting_11 rfl (lv_at hl 2 rfl) ?_
    obtain ⟨v4, hf5, h⟩ := bn_c h
    refine X_callV C0 hw (As := [.int (0 : Int32), .int a2]) (rest := []) (mX11_isThere l E hL st hf5) (cwV 2 C0.1.2.2.2.2 gX11_parting_X11_isThere rfl rfl rfl (by decide +kernel) ⟨Nat.le_of_ble_eq_true rfl, Nat.le_of_ble_eq_true rfl⟩) (X_recv_0 C0 hw (by decide)) rfl hl.1 rfl (Nat.le_of_ble_eq_true rfl) dX11_parting_12 ⟨Nat.zero_le _, Nat.zero_le _⟩ (fun H locs hw => ?_)
    refine W.eq (g2 := F0 m 15 ls [.int v4]) rfl ?_
    refine lv_if_eq (tgt := 27) hx hb dX11_parting_15 (by decide) (fun hc6 => ?_) (fun hc6 => ?_)
    · have h := ifp h hc6
      refine lv_iconst (v := -1) hx hb dX11_parting_27 (by decide) ?_
      cases h
      exact W.iret hx hb hr (X_fin C0 hw) hw.2.2.2 dX11_parting_28 hlocks
    · have h := ifn h hc6
      refine lv_iload_n hx hb dX11_parting_18 rfl (lv_at hl 3 rfl) ?_
      refine lv_if_lt (tgt := 27) hx hb dX11_parting_19 (by decide) (fun hc7 => ?_) (fun hc7 => ?_)
      · have h := ifp h hc7
        refine lv_iconst (v := -1) hx hb dX11_parting_27 (by decide) ?_
        cases h
        exact W.iret hx hb hr (X_fin C0 hw) hw.2.2.2 dX11_parting_28 hlocks
      · have h := ifn h hc7
        refine lv_iload_n hx hb dX11_parting_22 rfl (lv_at hl 3 rfl) ?_
        refine lv_iconst (v := 2) hx hb dX11_parting_23 (by decide) ?_
        refine lv_icmp_lt (tgt := 29) hx hb dX11_parting_24 (by decide) (fun hc8 => ?_) (fun hc8 => ?_)
        · have h := ifp h hc8
          refine lv_iconst (v := 0) hx hb dX11_parting_29 (by decide) ?_
          refine lv_istore (lv' := [(4, .int (0 : Int32)), (0, .ref (E.2.2.1 0 (0))), (1, .int a1), (2, .int a2), (3, .int a3)]) hx hb dX11_parting_30 hl (by decide) rfl (fun ls hl => ?_)
          refine lv_aload_n hx hb dX11_parting_32 rfl (lv_at hl 1 rfl) ?_
          refine lv_iload_n hx hb dX11_parting_33 rfl (lv_at hl 2 rfl) ?_
          refine lv_iload_n hx hb dX11_parting_34 rfl (lv_at hl 3 rfl) ?_
          refine lv_iconst (v := 0) hx hb dX11_parting_35 (by decide) ?_
          refine lv_iload_n hx hb dX11_parting_36 rfl (lv_at hl 4 rfl) ?_
          obtain ⟨⟨v9, t10⟩, hf11, h⟩ := bn_c h
          have h := un2_d h
          refine X_callV C0 hw (As := [.int a1, .int a2, .int (0 : Int32), .int a3]) (rest := []) (mX11_chipGap l E hL st hf11) (cwV 4 C0.1.2.2.2.2 gX11_parting_X11_chipGap rfl rfl rfl (by decide +kernel) ⟨Nat.le_of_ble_eq_true rfl, Nat.le_of_ble_eq_true rfl⟩) (X_recv_0 C0 hw (by decide)) rfl hl.1 rfl (Nat.le_of_ble_eq_true rfl) dX11_parting_37 ⟨Nat.zero_le _, Nat.zero_le _⟩ (fun H locs hw => ?_)
          refine W.eq (g2 := F0 m 40 ls [.double v9]) rfl ?_
          refine lv_dstore (lv' := [(5, .double v9), (4, .int (0 : Int32)), (0, .ref (E.2.2.1 0 (0))), (1, .int a1), (2, .int a2), (3, .int a3)]) hx hb dX11_parting_40 hl (by decide) rfl (fun ls hl => ?_)
          refine lv_iconst (v := 1) hx hb dX11_parting_42 (by decide) ?_
          refine lv_istore (lv' := [(7, .int (1 : Int32)), (5, .double v9), (4, .int (0 : Int32)), (0, .ref (E.2.2.1 0 (0))), (1, .int a1), (2, .int a2), (3, .int a3)]) hx hb dX11_parting_43 hl (by decide) rfl (fun ls hl => ?_)
          refine lp_ind (fun q : (Int32 × UInt64 × Int32 × Sto) => ∀ (H : Heap) (locs : List Loc), SX E s (q.2.2.2) H locs → ∀ ls : Array Slot, lv_has ls 10 [(7, .int (q.1)), (5, .double (q.2.1)), (4, .int (q.2.2.1)), (0, .ref (E.2.2.1 0 (0))), (1, .int a1), (2, .int a2), (3, .int a3)] → W p l e (headSpec wsX11_parting ({ frames := 6, cells := 0, slots := 0, locals := 160 })).room s m ([.ref (E.2.2.1 0 (0)), .int a1, .int a2, .int a3] : List Value).toArray below meth c H locs 0 0 (MQ below (QX E (some (.int r)) st1) ([.ref (E.2.2.1 0 (0)), .int a1, .int a2, .int a3] : List Value).toArray s 0 0 E.2.2.2) (F0 m 45 ls [])) (fun q o14 h hB13 hX12 => ?_) _ _ h _ _ hw _ (lv_sub hl [0, 1, 2, 3, 4, 5, 6] rfl)
          intro H locs hw ls hl
          obtain ⟨v15, v16, v17, t18⟩ := q
          have h := un4_d h
          have hw : SX E s t18 H locs := hw
          have hl : lv_has ls 10 [(7, .int v15), (5, .double v16), (4, .int v17), (0, .ref (E.2.2.1 0 (0))), (1, .int a1), (2, .int a2), (3, .int a3)] := hl
          refine lv_iload hx hb dX11_parting_45 (lv_at hl 0 rfl) ?_
          refine lv_bipush (v := 6) hx hb dX11_parting_47 (by decide) ?_
          refine lv_icmp_ge (tgt := 85) hx hb dX11_parting_49 (by decide) (fun hc21 => ?_) (fun hc21 => ?_)
          · have h := ifp h hc21
            have h := hX12 _ (Option.some.inj h).symm
            have h := un2_d h
            have hl := lv_sub hl (l' := [(4, .int v17)]) [2] rfl
            refine lv_iload hx hb dX11_parting_85 (lv_at hl 0 rfl) ?_
            cases h
            exact W.iret hx hb hr (X_fin C0 hw) hw.2.2.2 dX11_parting_87 hlocks
          · have h := ifn h hc21
            refine lv_aload_n hx hb dX11_parting_52 rfl (lv_at hl 3 rfl) ?_
            refine lv_iload_n hx hb dX11_parting_53 rfl (lv_at hl 4 rfl) ?_
            refine lv_iload_n hx hb dX11_parting_54 rfl (lv_at hl 5 rfl) ?_
            refine lv_iload hx hb dX11_parting_55 (lv_at hl 0 rfl) ?_
            refine lv_iload_n hx hb dX11_parting_57 rfl (lv_at hl 6 rfl) ?_
            obtain ⟨⟨v22, t23⟩, hf24, h⟩ := bn_c h
            have h := un2_d h
            refine X_callV C0 hw (As := [.int a1, .int a2, .int v15, .int a3]) (rest := []) (mX11_chipGap l E hL t18 hf24) (cwV 4 C0.1.2.2.2.2 gX11_parting_X11_chipGap rfl rfl rfl (by decide +kernel) ⟨Nat.le_of_ble_eq_true rfl, Nat.le_of_ble_eq_true rfl⟩) (X_recv_0 C0 hw (by decide)) rfl hl.1 rfl (Nat.le_of_ble_eq_true rfl) dX11_parting_58 ⟨Nat.zero_le _, Nat.zero_le _⟩ (fun H locs hw => ?_)
            refine W.eq (g2 := F0 m 61 ls [.double v22]) rfl ?_
            refine lv_dstore (lv' := [(8, .double v22), (7, .int v15), (5, .double v16), (4, .int v17), (0, .ref (E.2.2.1 0 (0))), (1, .int a1), (2, .int a2), (3, .int a3)]) hx hb dX11_parting_61 hl (by decide) rfl (fun ls hl => ?_)
            refine lv_dload hx hb dX11_parting_63 (lv_at hl 0 rfl) ?_
            refine lv_dload hx hb dX11_parting_65 (lv_at hl 2 rfl) ?_
            refine lv_dcmp hx hb dX11_parting_67 ?_
            refine lv_if_le (tgt := 79) hx hb dX11_parting_68 (by decide) (fun hc25 => ?_) (fun hc25 => ?_)
            · have h := ifp h hc25
              refine x_iinc hx hb h dX11_parting_79 hl (q := 1) rfl (fun v26 => [(7, .int v26), (8, .double v22), (5, .double v16), (4, .int v17), (0, .ref (E.2.2.1 0 (0))), (1, .int a1), (2, .int a2), (3, .int a3)]) (by decide) (fun _ => rfl) (fun v26 ls hl h => ?_)
              refine lv_goto (tgt := 45) hx hb dX11_parting_82 (by decide) ?_
              exact hB13 _ (Option.some.inj h).symm _ _ hw _ (lv_sub hl [0, 2, 3, 4, 5, 6, 7] rfl)
            · have h := ifn h hc25
              refine lv_iload hx hb dX11_parting_71 (lv_at hl 1 rfl) ?_
              refine lv_istore (lv' := [(4, .int v15), (8, .double v22), (7, .int v15), (5, .double v16), (0, .ref (E.2.2.1 0 (0))), (1, .int a1), (2, .int a2), (3, .int a3)]) hx hb dX11_parting_73 hl (by decide) rfl (fun ls hl => ?_)
              refine lv_dload hx hb dX11_parting_75 (lv_at hl 1 rfl) ?_
              refine lv_dstore (lv' := [(5, .double v22), (4, .int v15), (8, .double v22), (7, .int v15), (0, .ref (E.2.2.1 0 (0))), (1, .int a1), (2, .int a2), (3, .int a3)]) hx hb dX11_parting_77 hl (by decide) rfl (fun ls hl => ?_)
              refine x_iinc hx hb h dX11_parting_79 hl (q := 3) rfl (fun v27 => [(7, .int v27), (5, .double v22), (4, .int v15), (8, .double v22), (0, .ref (E.2.2.1 0 (0))), (1, .int a1), (2, .int a2), (3, .int a3)]) (by decide) (fun _ => rfl) (fun v27 ls hl h => ?_)
              refine lv_goto (tgt := 45) hx hb dX11_parting_82 (by decide) ?_
              exact hB13 _ (Option.some.inj h).symm _ _ hw _ (lv_sub hl [0, 1, 2, 4, 5, 6, 7] rfl)
        · have h := ifn h hc8
          refine lv_iconst (v := -1) hx hb dX11_parting_27 (by decide) ?_
          cases h
          exact W.iret hx hb hr (X_fin C0 hw) hw.2.2.2 dX11_parting_28 hlocks

def fX11_solid (a1 : Int32) (a2 : Int32) (a3 : Int32) (a4 : Int32) (a5 : Int32) (a6 : Int32) (a7 : Int32) (st : Sto) : Option (Int32 × Sto) :=
  (fX11_isThere (0 : Int32) a2 st).bind (fun (v1 : Int32) =>
   if v1 = 0 then (
    (fX11_refused (2 : Int32) st).bind (un2 fun (v54 : Int32) (t55 : Sto) =>
     some (v54, t55))) else (
    (fX11_isWithin a1 (0 : Int32) (1 : Int32)).bind (fun (v4 : Int32) =>
     if v4 = 0 then (
      (fX11_refused (3 : Int32) st).bind (un2 fun (v7 : Int32) (t8 : Sto) =>
       some (v7, t8))) else (
      (fX9_isOne a3 a4).bind (fun (v10 : Int32) =>
       if v10 = 0 then (
        (fX11_refused (3 : Int32) st).bind (un2 fun (v13 : Int32) (t14 : Sto) =>
         some (v13, t14))) else (
        (fX11_isWithin a5 (1 : Int32) (1000 : Int32)).bind (fun (v16 : Int32) =>
         if v16 = 0 then (
          (fX11_refused (3 : Int32) st).bind (un2 fun (v19 : Int32) (t20 : Sto) =>
           some (v19, t20))) else (
          (fX11_isWithin a6 (1 : Int32) (1000 : Int32)).bind (fun (v22 : Int32) =>
           if v22 = 0 then (
            (fX11_refused (3 : Int32) st).bind (un2 fun (v25 : Int32) (t26 : Sto) =>
             some (v25, t26))) else (
            (fX11_isWithin a7 (1 : Int32) (1000 : Int32)).bind (fun (v28 : Int32) =>
             if v28 = 0 then (
              (fX11_refused (3 : Int32) st).bind (un2 fun (v51 : Int32) (t52 : Sto) =>
               some (v51, t52))) else (
              if gI st (3) (0) (3) < (12 : Int32) then (
               ck (0 ≤ (gI st (3) (0) (3)).toInt ∧ (gI st (3) (0) (3)).toInt < (12 : Int)) (
                (fX9_aim a3 a4 st).bind (fun (t33 : Sto) =>
                 ck (0 ≤ a2.toInt ∧ a2.toInt < (40 : Int)) (
                  (fX9_coloursOf (20) (a2.toNatClampNeg) t33).bind (un2 fun (v36 : (Nat × Nat)) (t37 : Sto) => un2 (fun (qf39 qi40 : Nat) =>
                    (fX10_begin ((gI st (3) (0) (3)).toNatClampNeg) a1 a3 a4 qf39 qi40 t37).bind (fun (t41 : Sto) =>
                     (fX10_setSizes ((gI st (3) (0) (3)).toNatClampNeg) a5 a6 a7 t41).bind (fun (t43 : Sto) =>
                      (fX11_newOne (3 : Int32) t43).bind (un2 fun (v45 : Int32) (t46 : Sto) =>
                       some (v45, t46))))) v36))))) else (
               (fX11_refused (1 : Int32) st).bind (un2 fun (v48 : Int32) (t49 : Sto) =>
                some (v48, t49)))))))))))))))
set_option maxHeartbeats 4000000 in
set_option maxRecDepth 100000 in
theorem mX11_solid (l : Launch) (E : XE) (hL : LX E) (st : Sto) {a1 : Int32} {a2 : Int32} {a3 : Int32} {a4 : Int32} {a5 : Int32} {a6 : Int32} {a7 : Int32} {r : Int32} {st1 : Sto} (h : fX11_solid a1 a2 a3 a4 a5 a6 a7 st = some (r, st1)) : Met l yX11_solid wsX11_solid ({ frames := 4, cells := 0, slots := 0, locals := 109 }) (va_Pc [.ref (E.2.2.1 0 (0)), .int a1, .int a2, .int a3, .int a4, .int a5, .int a6, .int a7] (RX E st)) (QX E (some (.int r)) st1) 0 0 E.2.2.2 := by
  refine Met.ofW (cc := cX11_solid) (maxL := 9) (ret := (some .int)) (by decide) rfl ?_
  intro p e s m args below meth c s₁ B hml hv
  obtain ⟨rfl, hP, hK⟩ := hv
  have hown : s.vm.findClass RX11 = some m.cls := findClass_of_methodNamed B.named
  have C0 : CX p m c cX11_solid 9 s _ wsX11_solid RX11 E := ⟨⟨B.exec, B.bytes, hml, hown, atoms_spec (ws := wsX11_solid) B.pre⟩, hK⟩
  have hx := B.exec
  have hb := B.bytes
  have hr := B.returns
  have hlocks := B.notSynchronized
  have hw : SX E s st s.heap [] := ⟨hP, va_S.rf⟩
  have hl := lv_entry ([.ref (E.2.2.1 0 (0)), .int a1, .int a2, .int a3, .int a4, .int a5, .int a6, .int a7]) (n := 9) (Nat.le_of_ble_eq_true rfl)
  rw [lg_entry_eq]
  generalize (lg_sl ([.ref (E.2.2.1 0 (0)), .int a1, .int a2, .int a3, .int a4, .int a5, .int a6, .int a7]) ++ List.replicate (9 - (lg_sl ([.ref (E.2.2.1 0 (0)), .int a1, .int a2, .int a3, .int a4, .int a5, .int a6, .int a7])).length) Slot.unset).toArray = ls at hl ⊢
  have hl : lv_has ls 9 [(0, .ref (E.2.2.1 0 (0))), (1, .int a1), (2, .int a2), (3, .int a3), (4, .int a4), (5, .int a5), (6, .int a6), (7, .int a7)] := hl
  unfold fX11_solid at h
  refine lv_aload_n hx hb dX11_solid_0 rfl (lv_at hl 0 rfl) ?_
  refine lv_iconst (v := 0) hx hb dX11_solid_1 (by decide) ?_
  refine lv_iload_n hx hb dX11_solid_2 rfl (lv_at hl 2 rfl) ?_
  obtain ⟨v1, hf2, h⟩ := bn_c h
  refine X_callV C0 hw (As := [.int (0 : Int32), .int a2]) (rest := []) (mX11_isThere l E hL st hf2) (cwV 2 C0.1.2.2.2.2 gX11_solid_X11_isThere rfl rfl rfl (by decide +kernel) ⟨Nat.le_of_ble_eq_true rfl, Nat.le_of_ble_eq_true rfl⟩) (X_recv_0 C0 hw (by decide)) rfl hl.1 rfl (Nat.le_of_ble_eq_true rfl) dX11_solid_3 ⟨Nat.zero_le _, Nat.zero_le _⟩ (fun H locs hw => ?_)
  refine W.eq (g2 := F0 m 6 ls [.int v1]) rfl ?_
  refine lv_if_ne (tgt := 15) hx hb dX11_solid_6 (by decide) (fun hc3 => ?_) (fun hc3 => ?_)
  · have h := ifn h hc3
    refine lv_iload_n hx hb dX11_solid_15 rfl (lv_at hl 1 rfl) ?_
    refine lv_iconst (v := 0) hx hb dX11_solid_16 (by decide) ?_
    refine lv_iconst (v := 1) hx hb dX11_solid_17 (by decide) ?_
    obtain ⟨v4, hf5, h⟩ := bn_c h
    refine X_callS C0 hw (As := [.int a1, .int (0 : Int32), .int (1 : Int32)]) (rest := []) (mX11_isWithin l E hL st hf5) (va_cwS 3 C0.1.2.2.2.2 gX11_solid_X11_isWithin rfl rfl rfl (by decide +kernel) ⟨Nat.le_of_ble_eq_true rfl, Nat.le_of_ble_eq_true rfl⟩) rfl hl.1 rfl (Nat.le_of_ble_eq_true rfl) dX11_solid_18 ⟨Nat.zero_le _, Nat.zero_le _⟩ (fun H locs hw => ?_)
    refine W.eq (g2 := F0 m 21 ls [.int v4]) rfl ?_
    refine lv_if_eq (tgt := 69) hx hb dX11_solid_21 (by decide) (fun hc6 => ?_) (fun hc6 => ?_)
    · have h := ifp h hc6
      refine lv_aload_n hx hb dX11_solid_69 rfl (lv_at hl 0 rfl) ?_
      refine lv_iconst (v := 3) hx hb dX11_solid_70 (by decide) ?_
      obtain ⟨⟨v7, t8⟩, hf9, h⟩ := bn_c h
      have h := un2_d h
      refine X_callV C0 hw (As := [.int (3 : Int32)]) (rest := []) (mX11_refused l E hL st hf9) (cwV 1 C0.1.2.2.2.2 gX11_solid_X11_refused rfl rfl rfl (by decide +kernel) ⟨Nat.le_of_ble_eq_true rfl, Nat.le_of_ble_eq_true rfl⟩) (X_recv_0 C0 hw (by decide)) rfl hl.1 rfl (Nat.le_of_ble_eq_true rfl) dX11_solid_71 ⟨Nat.zero_le _, Nat.zero_le _⟩ (fun H locs hw => ?_)
      refine W.eq (g2 := F0 m 74 ls [.int v7]) rfl ?_
      cases h
      exact W.iret hx hb hr (X_fin C0 hw) hw.2.2.2 dX11_solid_74 hlocks
    · have h := ifn h hc6
      refine lv_iload_n hx hb dX11_solid_24 rfl (lv_at hl 3 rfl) ?_
      refine lv_iload hx hb dX11_solid_25 (lv_at hl 4 rfl) ?_
      obtain ⟨v10, hf11, h⟩ := bn_c h
      refine X_callS C0 hw (As := [.int a3, .int a4]) (rest := []) (mX9_isOne l E hL st hf11) (va_cwS 2 C0.1.2.2.2.2 gX11_solid_X9_isOne rfl rfl rfl (by decide +kernel) ⟨Nat.le_of_ble_eq_true rfl, Nat.le_of_ble_eq_true rfl⟩) rfl hl.1 rfl (Nat.le_of_ble_eq_true rfl) dX11_solid_27 ⟨Nat.zero_le _, Nat.zero_le _⟩ (fun H locs hw => ?_)
      refine W.eq (g2 := F0 m 30 ls [.int v10]) rfl ?_
      refine lv_if_eq (tgt := 69) hx hb dX11_solid_30 (by decide) (fun hc12 => ?_) (fun hc12 => ?_)
      · have h := ifp h hc12
        refine lv_aload_n hx hb dX11_solid_69 rfl (lv_at hl 0 rfl) ?_
        refine lv_iconst (v := 3) hx hb dX11_solid_70 (by decide) ?_
        obtain ⟨⟨v13, t14⟩, hf15, h⟩ := bn_c h
        have h := un2_d h
        refine X_callV C0 hw (As := [.int (3 : Int32)]) (rest := []) (mX11_refused l E hL st hf15) (cwV 1 C0.1.2.2.2.2 gX11_solid_X11_refused rfl rfl rfl (by decide +kernel) ⟨Nat.le_of_ble_eq_true rfl, Nat.le_of_ble_eq_true rfl⟩) (X_recv_0 C0 hw (by decide)) rfl hl.1 rfl (Nat.le_of_ble_eq_true rfl) dX11_solid_71 ⟨Nat.zero_le _, Nat.zero_le _⟩ (fun H locs hw => ?_)
        refine W.eq (g2 := F0 m 74 ls [.int v13]) rfl ?_
        cases h
        exact W.iret hx hb hr (X_fin C0 hw) hw.2.2.2 dX11_solid_74 hlocks
      · have h := ifn h hc12
        refine lv_iload hx hb dX11_solid_33 (lv_at hl 5 rfl) ?_
        refine lv_iconst (v := 1) hx hb dX11_solid_35 (by decide) ?_
        refine lv_sipush (v := 1000) hx hb dX11_solid_36 (by decide) ?_
        obtain ⟨v16, hf17, h⟩ := bn_c h
        refine X_callS C0 hw (As := [.int a5, .int (1 : Int32), .int (1000 : Int32)]) (rest := []) (mX11_isWithin l E hL st hf17) (va_cwS 3 C0.1.2.2.2.2 gX11_solid_X11_isWithin rfl rfl rfl (by decide +kernel) ⟨Nat.le_of_ble_eq_true rfl, Nat.le_of_ble_eq_true rfl⟩) rfl hl.1 rfl (Nat.le_of_ble_eq_true rfl) dX11_solid_39 ⟨Nat.zero_le _, Nat.zero_le _⟩ (fun H locs hw => ?_)
        refine W.eq (g2 := F0 m 42 ls [.int v16]) rfl ?_
        refine lv_if_eq (tgt := 69) hx hb dX11_solid_42 (by decide) (fun hc18 => ?_) (fun hc18 => ?_)
        · have h := ifp h hc18
          refine lv_aload_n hx hb dX11_solid_69 rfl (lv_at hl 0 rfl) ?_
          refine lv_iconst (v := 3) hx hb dX11_solid_70 (by decide) ?_
          obtain ⟨⟨v19, t20⟩, hf21, h⟩ := bn_c h
          have h := un2_d h
          refine X_callV C0 hw (As := [.int (3 : Int32)]) (rest := []) (mX11_refused l E hL st hf21) (cwV 1 C0.1.2.2.2.2 gX11_solid_X11_refused rfl rfl rfl (by decide +kernel) ⟨Nat.le_of_ble_eq_true rfl, Nat.le_of_ble_eq_true rfl⟩) (X_recv_0 C0 hw (by decide)) rfl hl.1 rfl (Nat.le_of_ble_eq_true rfl) dX11_solid_71 ⟨Nat.zero_le _, Nat.zero_le _⟩ (fun H locs hw => ?_)
          refine W.eq (g2 := F0 m 74 ls [.int v19]) rfl ?_
          cases h
          exact W.iret hx hb hr (X_fin C0 hw) hw.2.2.2 dX11_solid_74 hlocks
        · have h := ifn h hc18
          refine lv_iload hx hb dX11_solid_45 (lv_at hl 6 rfl) ?_
          refine lv_iconst (v := 1) hx hb dX11_solid_47 (by decide) ?_
          refine lv_sipush (v := 1000) hx hb dX11_solid_48 (by decide) ?_
          obtain ⟨v22, hf23, h⟩ := bn_c h
          refine X_callS C0 hw (As := [.int a6, .int (1 : Int32), .int (1000 : Int32)]) (rest := []) (mX11_isWithin l E hL st hf23) (va_cwS 3 C0.1.2.2.2.2 gX11_solid_X11_isWithin rfl rfl rfl (by decide +kernel) ⟨Nat.le_of_ble_eq_true rfl, Nat.le_of_ble_eq_true rfl⟩) rfl hl.1 rfl (Nat.le_of_ble_eq_true rfl) dX11_solid_51 ⟨Nat.zero_le _, Nat.zero_le _⟩ (fun H locs hw => ?_)
          refine W.eq (g2 := F0 m 54 ls [.int v22]) rfl ?_
          refine lv_if_eq (tgt := 69) hx hb dX11_solid_54 (by decide) (fun hc24 => ?_) (fun hc24 => ?_)
          · have h := ifp h hc24
            refine lv_aload_n hx hb dX11_solid_69 rfl (lv_at hl 0 rfl) ?_
            refine lv_iconst (v := 3) hx hb dX11_solid_70 (by decide) ?_
            obtain ⟨⟨v25, t26⟩, hf27, h⟩ := bn_c h
            have h := un2_d h
            refine X_callV C0 hw (As := [.int (3 : Int32)]) (rest := []) (mX11_refused l E hL st hf27) (cwV 1 C0.1.2.2.2.2 gX11_solid_X11_refused rfl rfl rfl (by decide +kernel) ⟨Nat.le_of_ble_eq_true rfl, Nat.le_of_ble_eq_true rfl⟩) (X_recv_0 C0 hw (by decide)) rfl hl.1 rfl (Nat.le_of_ble_eq_true rfl) dX11_solid_71 ⟨Nat.zero_le _, Nat.zero_le _⟩ (fun H locs hw => ?_)
            refine W.eq (g2 := F0 m 74 ls [.int v25]) rfl ?_
            cases h
            exact W.iret hx hb hr (X_fin C0 hw) hw.2.2.2 dX11_solid_74 hlocks
          · have h := ifn h hc24
            refine lv_iload hx hb dX11_solid_57 (lv_at hl 7 rfl) ?_
            refine lv_iconst (v := 1) hx hb dX11_solid_59 (by decide) ?_
            refine lv_sipush (v := 1000) hx hb dX11_solid_60 (by decide) ?_
            obtain ⟨v28, hf29, h⟩ := bn_c h
            refine X_callS C0 hw (As := [.int a7, .int (1 : Int32), .int (1000 : Int32)]) (rest := []) (mX11_isWithin l E hL st hf29) (va_cwS 3 C0.1.2.2.2.2 gX11_solid_X11_isWithin rfl rfl rfl (by decide +kernel) ⟨Nat.le_of_ble_eq_true rfl, Nat.le_of_ble_eq_true rfl⟩) rfl hl.1 rfl (Nat.le_of_ble_eq_true rfl) dX11_solid_63 ⟨Nat.zero_le _, Nat.zero_le _⟩ (fun H locs hw => ?_)
            refine W.eq (g2 := F0 m 66 ls [.int v28]) rfl ?_
            refine lv_if_ne (tgt := 75) hx hb dX11_solid_66 (by decide) (fun hc30 => ?_) (fun hc30 => ?_)
            · have h := ifn h hc30
              refine lv_aload_n hx hb dX11_solid_75 rfl (lv_at hl 0 rfl) ?_
              refine X_g0_3 C0 hw (fun w h => (List.mem_cons_of_mem _ (List.mem_append_left _ (List.mem_append_left _ (List.mem_append_left _ (List.mem_append_left _ (List.mem_append_right _ h))))))) (by decide) ((List.mem_cons_of_mem _ (List.mem_append_left _ (List.mem_append_left _ (List.mem_append_left _ (List.mem_append_left _ (List.mem_append_left _ (List.mem_append_left _ (List.mem_of_getElem? (i := 0) rfl))))))))) dX11_solid_76 ?_
              refine lv_iconst (v := 3) hx hb dX11_solid_79 (by decide) ?_
              refine X_ialdL C0 hw (vp_in_iff.mpr (by decide +kernel)) (k := 3) rfl dX11_solid_80 ?_
              refine lv_bipush (v := 12) hx hb dX11_solid_81 (by decide) ?_
              refine lv_icmp_lt (tgt := 92) hx hb dX11_solid_83 (by decide) (fun hc31 => ?_) (fun hc31 => ?_)
              · have h := ifp h hc31
                refine lv_aload_n hx hb dX11_solid_92 rfl (lv_at hl 0 rfl) ?_
                refine X_g0_7 C0 hw (fun w h => (List.mem_cons_of_mem _ (List.mem_append_left _ (List.mem_append_left _ (List.mem_append_left _ (List.mem_append_left _ (List.mem_append_right _ h))))))) (by decide) ((List.mem_cons_of_mem _ (List.mem_append_left _ (List.mem_append_left _ (List.mem_append_left _ (List.mem_append_left _ (List.mem_append_left _ (List.mem_append_left _ (List.mem_of_getElem? (i := 1) rfl))))))))) dX11_solid_93 ?_
                refine lv_aload_n hx hb dX11_solid_96 rfl (lv_at hl 0 rfl) ?_
                refine X_g0_3 C0 hw (fun w h => (List.mem_cons_of_mem _ (List.mem_append_left _ (List.mem_append_left _ (List.mem_append_left _ (List.mem_append_left _ (List.mem_append_right _ h))))))) (by decide) ((List.mem_cons_of_mem _ (List.mem_append_left _ (List.mem_append_left _ (List.mem_append_left _ (List.mem_append_left _ (List.mem_append_left _ (List.mem_append_left _ (List.mem_of_getElem? (i := 0) rfl))))))))) dX11_solid_97 ?_
                refine lv_iconst (v := 3) hx hb dX11_solid_100 (by decide) ?_
                refine X_ialdL C0 hw (vp_in_iff.mpr (by decide +kernel)) (k := 3) rfl dX11_solid_101 ?_
                refine X_ald_8 C0 hw (by decide) h (k := (gI st (3) (0) (3)).toNatClampNeg) rfl dX11_solid_102 (fun hk32 h => ?_)
                refine lv_astore (lv' := [(8, .ref (E.2.2.1 26 ((gI st (3) (0) (3)).toNatClampNeg))), (0, .ref (E.2.2.1 0 (0))), (1, .int a1), (2, .int a2), (3, .int a3), (4, .int a4), (5, .int a5), (6, .int a6), (7, .int a7)]) hx hb dX11_solid_103 hl (by decide) rfl (fun ls hl => ?_)
                refine lv_aload_n hx hb dX11_solid_105 rfl (lv_at hl 1 rfl) ?_
                refine X_g0_12 C0 hw (fun w h => (List.mem_cons_of_mem _ (List.mem_append_left _ (List.mem_append_left _ (List.mem_append_left _ (List.mem_append_left _ (List.mem_append_right _ h))))))) (by decide) ((List.mem_cons_of_mem _ (List.mem_append_left _ (List.mem_append_left _ (List.mem_append_left _ (List.mem_append_left _ (List.mem_append_left _ (List.mem_append_left _ (List.mem_of_getElem? (i := 2) rfl))))))))) dX11_solid_106 ?_
                refine lv_iload_n hx hb dX11_solid_109 rfl (lv_at hl 4 rfl) ?_
                refine lv_iload hx hb dX11_solid_110 (lv_at hl 5 rfl) ?_
                obtain ⟨t33, hf34, h⟩ := bn_c h
                refine X_callV C0 hw (As := [.int a3, .int a4]) (rest := []) (mX9_aim l E hL st hf34) (cwV 2 C0.1.2.2.2.2 gX11_solid_X9_aim rfl rfl rfl (by decide +kernel) ⟨Nat.le_of_ble_eq_true rfl, Nat.le_of_ble_eq_true rfl⟩) (X_recv_13 C0 hw (by decide)) rfl hl.1 rfl (Nat.le_of_ble_eq_true rfl) dX11_solid_112 ⟨Nat.zero_le _, Nat.zero_le _⟩ (fun H locs hw => ?_)
                refine W.eq (g2 := F0 m 115 ls []) rfl ?_
                refine lv_aload hx hb dX11_solid_115 (lv_at hl 0 rfl) ?_
                refine lv_iload_n hx hb dX11_solid_117 rfl (lv_at hl 2 rfl) ?_
                refine lv_iload_n hx hb dX11_solid_118 rfl (lv_at hl 4 rfl) ?_
                refine lv_iload hx hb dX11_solid_119 (lv_at hl 5 rfl) ?_
                refine lv_aload_n hx hb dX11_solid_121 rfl (lv_at hl 1 rfl) ?_
                refine X_g0_12 C0 hw (fun w h => (List.mem_cons_of_mem _ (List.mem_append_left _ (List.mem_append_left _ (List.mem_append_left _ (List.mem_append_left _ (List.mem_append_right _ h))))))) (by decide) ((List.mem_cons_of_mem _ (List.mem_append_left _ (List.mem_append_left _ (List.mem_append_left _ (List.mem_append_left _ (List.mem_append_left _ (List.mem_append_left _ (List.mem_of_getElem? (i := 2) rfl))))))))) dX11_solid_122 ?_
                refine lv_aload_n hx hb dX11_solid_125 rfl (lv_at hl 1 rfl) ?_
                refine X_g0_4 C0 hw (fun w h => (List.mem_cons_of_mem _ (List.mem_append_left _ (List.mem_append_left _ (List.mem_append_left _ (List.mem_append_left _ (List.mem_append_right _ h))))))) (by decide) ((List.mem_cons_of_mem _ (List.mem_append_left _ (List.mem_append_left _ (List.mem_append_left _ (List.mem_append_left _ (List.mem_append_left _ (List.mem_append_left _ (List.mem_of_getElem? (i := 3) rfl))))))))) dX11_solid_126 ?_
                refine lv_iload_n hx hb dX11_solid_129 rfl (lv_at hl 3 rfl) ?_
                refine X_ald_4 C0 hw (by decide) h (k := a2.toNatClampNeg) rfl dX11_solid_130 (fun hk35 h => ?_)
                refine X_g19_0 C0 hw (fun w h => (List.mem_cons_of_mem _ (List.mem_append_left _ (List.mem_append_left _ (List.mem_append_left _ (List.mem_append_right _ h)))))) hk35 ((List.mem_cons_of_mem _ (List.mem_append_left _ (List.mem_append_left _ (List.mem_append_left _ (List.mem_append_left _ (List.mem_append_left _ (List.mem_append_left _ (List.mem_of_getElem? (i := 4) rfl))))))))) dX11_solid_131 ?_
                obtain ⟨⟨v36, t37⟩, hf38, h⟩ := bn_c h
                have h := un2_d h
                refine X_callV C0 hw (As := [.ref (E.2.2.1 (20) (a2.toNatClampNeg))]) (rest := [.int a4, .int a3, .int a1, .ref (E.2.2.1 26 ((gI st (3) (0) (3)).toNatClampNeg))]) (mX9_coloursOf l E hL t33 hf38) (cwV 1 C0.1.2.2.2.2 gX11_solid_X9_coloursOf rfl rfl rfl (by decide +kernel) ⟨Nat.le_of_ble_eq_true rfl, Nat.le_of_ble_eq_true rfl⟩) (X_recv_13 C0 hw (by decide)) rfl hl.1 rfl (Nat.le_of_ble_eq_true rfl) dX11_solid_134 ⟨Nat.zero_le _, Nat.zero_le _⟩ (fun H locs hw => ?_)
                obtain ⟨qf39, qi40⟩ := v36
                have h := un2_d h
                refine W.eq (g2 := F0 m 137 ls (.ref (E.2.2.1 qf39 qi40) :: [.int a4, .int a3, .int a1, .ref (E.2.2.1 26 ((gI st (3) (0) (3)).toNatClampNeg))])) rfl ?_
                obtain ⟨t41, hf42, h⟩ := bn_c h
                refine X_callV C0 hw (As := [.int a1, .int a3, .int a4, .ref (E.2.2.1 qf39 qi40)]) (rest := []) (mX10_begin l E hL t37 hk32 hf42) (cwV 4 C0.1.2.2.2.2 gX11_solid_X10_begin rfl rfl rfl (by decide +kernel) ⟨Nat.le_of_ble_eq_true rfl, Nat.le_of_ble_eq_true rfl⟩) (X_recv_26 C0 hw hk32) rfl hl.1 rfl (Nat.le_of_ble_eq_true rfl) dX11_solid_137 ⟨Nat.zero_le _, Nat.zero_le _⟩ (fun H locs hw => ?_)
                refine W.eq (g2 := F0 m 140 ls []) rfl ?_
                refine lv_aload hx hb dX11_solid_140 (lv_at hl 0 rfl) ?_
                refine lv_iload hx hb dX11_solid_142 (lv_at hl 6 rfl) ?_
                refine lv_iload hx hb dX11_solid_144 (lv_at hl 7 rfl) ?_
                refine lv_iload hx hb dX11_solid_146 (lv_at hl 8 rfl) ?_
                obtain ⟨t43, hf44, h⟩ := bn_c h
                refine X_callV C0 hw (As := [.int a5, .int a6, .int a7]) (rest := []) (mX10_setSizes l E hL t41 hk32 hf44) (cwV 3 C0.1.2.2.2.2 gX11_solid_X10_setSizes rfl rfl rfl (by decide +kernel) ⟨Nat.le_of_ble_eq_true rfl, Nat.le_of_ble_eq_true rfl⟩) (X_recv_26 C0 hw hk32) rfl hl.1 rfl (Nat.le_of_ble_eq_true rfl) dX11_solid_148 ⟨Nat.zero_le _, Nat.zero_le _⟩ (fun H locs hw => ?_)
                refine W.eq (g2 := F0 m 151 ls []) rfl ?_
                refine lv_aload_n hx hb dX11_solid_151 rfl (lv_at hl 1 rfl) ?_
                refine lv_iconst (v := 3) hx hb dX11_solid_152 (by decide) ?_
                obtain ⟨⟨v45, t46⟩, hf47, h⟩ := bn_c h
                have h := un2_d h
                refine X_callV C0 hw (As := [.int (3 : Int32)]) (rest := []) (mX11_newOne l E hL t43 hf47) (cwV 1 C0.1.2.2.2.2 gX11_solid_X11_newOne rfl rfl rfl (by decide +kernel) ⟨Nat.le_of_ble_eq_true rfl, Nat.le_of_ble_eq_true rfl⟩) (X_recv_0 C0 hw (by decide)) rfl hl.1 rfl (Nat.le_of_ble_eq_true rfl) dX11_solid_153 ⟨Nat.zero_le _, Nat.zero_le _⟩ (fun H locs hw => ?_)
                refine W.eq (g2 := F0 m 156 ls [.int v45]) rfl ?_
                cases h
                exact W.iret hx hb hr (X_fin C0 hw) hw.2.2.2 dX11_solid_156 hlocks
              · have h := ifn h hc31
                refine lv_aload_n hx hb dX11_solid_86 rfl (lv_at hl 0 rfl) ?_
                refine lv_iconst (v := 1) hx hb dX11_solid_87 (by decide) ?_
                obtain ⟨⟨v48, t49⟩, hf50, h⟩ := bn_c h
                have h := un2_d h
                refine X_callV C0 hw (As := [.int (1 : Int32)]) (rest := []) (mX11_refused l E hL st hf50) (cwV 1 C0.1.2.2.2.2 gX11_solid_X11_refused rfl rfl rfl (by decide +kernel) ⟨Nat.le_of_ble_eq_true rfl, Nat.le_of_ble_eq_true rfl⟩) (X_recv_0 C0 hw (by decide)) rfl hl.1 rfl (Nat.le_of_ble_eq_true rfl) dX11_solid_88 ⟨Nat.zero_le _, Nat.zero_le _⟩ (fun H locs hw => ?_)
                refine W.eq (g2 := F0 m 91 ls [.int v48]) rfl ?_
                cases h
                exact W.iret hx hb hr (X_fin C0 hw) hw.2.2.2 dX11_solid_91 hlocks
            · have h := ifp h hc30
              refine lv_aload_n hx hb dX11_solid_69 rfl (lv_at hl 0 rfl) ?_
              refine lv_iconst (v := 3) hx hb dX11_solid_70 (by decide) ?_
              obtain ⟨⟨v51, t52⟩, hf53, h⟩ := bn_c h
              have h := un2_d h
              refine X_callV C0 hw (As := [.int (3 : Int32)]) (rest := []) (mX11_refused l E hL st hf53) (cwV 1 C0.1.2.2.2.2 gX11_solid_X11_refused rfl rfl rfl (by decide +kernel) ⟨Nat.le_of_ble_eq_true rfl, Nat.le_of_ble_eq_true rfl⟩) (X_recv_0 C0 hw (by decide)) rfl hl.1 rfl (Nat.le_of_ble_eq_true rfl) dX11_solid_71 ⟨Nat.zero_le _, Nat.zero_le _⟩ (fun H locs hw => ?_)
              refine W.eq (g2 := F0 m 74 ls [.int v51]) rfl ?_
              cases h
              exact W.iret hx hb hr (X_fin C0 hw) hw.2.2.2 dX11_solid_74 hlocks
  · have h := ifp h hc3
    refine lv_aload_n hx hb dX11_solid_9 rfl (lv_at hl 0 rfl) ?_
    refine lv_iconst (v := 2) hx hb dX11_solid_10 (by decide) ?_
    obtain ⟨⟨v54, t55⟩, hf56, h⟩ := bn_c h
    have h := un2_d h
    refine X_callV C0 hw (As := [.int (2 : Int32)]) (rest := []) (mX11_refused l E hL st hf56) (cwV 1 C0.1.2.2.2.2 gX11_solid_X11_refused rfl rfl rfl (by decide +kernel) ⟨Nat.le_of_ble_eq_true rfl, Nat.le_of_ble_eq_true rfl⟩) (X_recv_0 C0 hw (by decide)) rfl hl.1 rfl (Nat.le_of_ble_eq_true rfl) dX11_solid_11 ⟨Nat.zero_le _, Nat.zero_le _⟩ (fun H locs hw => ?_)
    refine W.eq (g2 := F0 m 14 ls [.int v54]) rfl ?_
    cases h
    exact W.iret hx hb hr (X_fin C0 hw) hw.2.2.2 dX11_solid_14 hlocks

def fX11_sideOf (a1i : Nat) (a2f : Nat) (a2i : Nat) (st : Sto) : Option (Int32 × Sto) :=
  (fX9_aim (gI st 26 a1i 1) (gI st 26 a1i 2) st).bind (fun (t1 : Sto) =>
   (fX9_coloursOf a2f a2i t1).bind (un2 fun (v3 : (Nat × Nat)) (t4 : Sto) => un2 (fun (qf6 qi7 : Nat) =>
     (fX10_sideOf a1i qf6 qi7 t4).bind (fun (v8 : Int32) =>
      some (v8, t4))) v3))
set_option maxHeartbeats 4000000 in
set_option maxRecDepth 100000 in
theorem mX11_sideOf (l : Launch) (E : XE) (hL : LX E) (st : Sto) {a1i : Nat} {a2f : Nat} {a2i : Nat} (ha1 : a1i < cntX 26) {r : Int32} {st1 : Sto} (h : fX11_sideOf a1i a2f a2i st = some (r, st1)) : Met l yX11_sideOf wsX11_sideOf ({ frames := 4, cells := 0, slots := 0, locals := 109 }) (va_Pc [.ref (E.2.2.1 0 (0)), .ref (E.2.2.1 26 a1i), .ref (E.2.2.1 a2f a2i)] (RX E st)) (QX E (some (.int r)) st1) 0 0 E.2.2.2 := by
  refine Met.ofW (cc := cX11_sideOf) (maxL := 3) (ret := (some .int)) (by decide) rfl ?_
  intro p e s m args below meth c s₁ B hml hv
  obtain ⟨rfl, hP, hK⟩ := hv
  have hown : s.vm.findClass RX11 = some m.cls := findClass_of_methodNamed B.named
  have C0 : CX p m c cX11_sideOf 3 s _ wsX11_sideOf RX11 E := ⟨⟨B.exec, B.bytes, hml, hown, atoms_spec (ws := wsX11_sideOf) B.pre⟩, hK⟩
  have hx := B.exec
  have hb := B.bytes
  have hr := B.returns
  have hlocks := B.notSynchronized
  have hw : SX E s st s.heap [] := ⟨hP, va_S.rf⟩
  have hl := lv_entry ([.ref (E.2.2.1 0 (0)), .ref (E.2.2.1 26 a1i), .ref (E.2.2.1 a2f a2i)]) (n := 3) (Nat.le_of_ble_eq_true rfl)
  rw [lg_entry_eq]
  generalize (lg_sl ([.ref (E.2.2.1 0 (0)), .ref (E.2.2.1 26 a1i), .ref (E.2.2.1 a2f a2i)]) ++ List.replicate (3 - (lg_sl ([.ref (E.2.2.1 0 (0)), .ref (E.2.2.1 26 a1i), .ref (E.2.2.1 a2f a2i)])).length) Slot.unset).toArray = ls at hl ⊢
  have hl : lv_has ls 3 [(0, .ref (E.2.2.1 0 (0))), (1, .ref (E.2.2.1 26 a1i)), (2, .ref (E.2.2.1 a2f a2i))] := hl
  unfold fX11_sideOf at h
  refine lv_aload_n hx hb dX11_sideOf_0 rfl (lv_at hl 0 rfl) ?_
  refine X_g0_12 C0 hw (fun w h => (List.mem_cons_of_mem _ (List.mem_append_left _ (List.mem_append_left _ (List.mem_append_right _ h))))) (by decide) ((List.mem_cons_of_mem _ (List.mem_append_left _ (List.mem_append_left _ (List.mem_append_left _ (List.mem_append_left _ (List.mem_of_getElem? (i := 0) rfl))))))) dX11_sideOf_1 ?_
  refine lv_aload_n hx hb dX11_sideOf_4 rfl (lv_at hl 1 rfl) ?_
  refine X_g26_1 C0 hw (fun w h => (List.mem_cons_of_mem _ (List.mem_append_left _ (List.mem_append_right _ h)))) ha1 ((List.mem_cons_of_mem _ (List.mem_append_left _ (List.mem_append_left _ (List.mem_append_left _ (List.mem_append_left _ (List.mem_of_getElem? (i := 1) rfl))))))) dX11_sideOf_5 ?_
  refine lv_aload_n hx hb dX11_sideOf_8 rfl (lv_at hl 1 rfl) ?_
  refine X_g26_2 C0 hw (fun w h => (List.mem_cons_of_mem _ (List.mem_append_left _ (List.mem_append_right _ h)))) ha1 ((List.mem_cons_of_mem _ (List.mem_append_left _ (List.mem_append_left _ (List.mem_append_left _ (List.mem_append_left _ (List.mem_of_getElem? (i := 2) rfl))))))) dX11_sideOf_9 ?_
  obtain ⟨t1, hf2, h⟩ := bn_c h
  refine X_callV C0 hw (As := [.int (gI st 26 a1i 1), .int (gI st 26 a1i 2)]) (rest := []) (mX9_aim l E hL st hf2) (cwV 2 C0.1.2.2.2.2 gX11_sideOf_X9_aim rfl rfl rfl (by decide +kernel) ⟨Nat.le_of_ble_eq_true rfl, Nat.le_of_ble_eq_true rfl⟩) (X_recv_13 C0 hw (by decide)) rfl hl.1 rfl (Nat.le_of_ble_eq_true rfl) dX11_sideOf_12 ⟨Nat.zero_le _, Nat.zero_le _⟩ (fun H locs hw => ?_)
  refine W.eq (g2 := F0 m 15 ls []) rfl ?_
  refine lv_aload_n hx hb dX11_sideOf_15 rfl (lv_at hl 1 rfl) ?_
  refine lv_aload_n hx hb dX11_sideOf_16 rfl (lv_at hl 0 rfl) ?_
  refine X_g0_12 C0 hw (fun w h => (List.mem_cons_of_mem _ (List.mem_append_left _ (List.mem_append_left _ (List.mem_append_right _ h))))) (by decide) ((List.mem_cons_of_mem _ (List.mem_append_left _ (List.mem_append_left _ (List.mem_append_left _ (List.mem_append_left _ (List.mem_of_getElem? (i := 0) rfl))))))) dX11_sideOf_17 ?_
  refine lv_aload_n hx hb dX11_sideOf_20 rfl (lv_at hl 2 rfl) ?_
  obtain ⟨⟨v3, t4⟩, hf5, h⟩ := bn_c h
  have h := un2_d h
  refine X_callV C0 hw (As := [.ref (E.2.2.1 a2f a2i)]) (rest := [.ref (E.2.2.1 26 a1i)]) (mX9_coloursOf l E hL t1 hf5) (cwV 1 C0.1.2.2.2.2 gX11_sideOf_X9_coloursOf rfl rfl rfl (by decide +kernel) ⟨Nat.le_of_ble_eq_true rfl, Nat.le_of_ble_eq_true rfl⟩) (X_recv_13 C0 hw (by decide)) rfl hl.1 rfl (Nat.le_of_ble_eq_true rfl) dX11_sideOf_21 ⟨Nat.zero_le _, Nat.zero_le _⟩ (fun H locs hw => ?_)
  obtain ⟨qf6, qi7⟩ := v3
  have h := un2_d h
  refine W.eq (g2 := F0 m 24 ls (.ref (E.2.2.1 qf6 qi7) :: [.ref (E.2.2.1 26 a1i)])) rfl ?_
  obtain ⟨v8, hf9, h⟩ := bn_c h
  refine X_callV C0 hw (As := [.ref (E.2.2.1 qf6 qi7)]) (rest := []) (mX10_sideOf l E hL t4 ha1 hf9) (cwV 1 C0.1.2.2.2.2 gX11_sideOf_X10_sideOf rfl rfl rfl (by decide +kernel) ⟨Nat.le_of_ble_eq_true rfl, Nat.le_of_ble_eq_true rfl⟩) (X_recv_26 C0 hw ha1) rfl hl.1 rfl (Nat.le_of_ble_eq_true rfl) dX11_sideOf_24 ⟨Nat.zero_le _, Nat.zero_le _⟩ (fun H locs hw => ?_)
  refine W.eq (g2 := F0 m 27 ls [.int v8]) rfl ?_
  cases h
  exact W.iret hx hb hr (X_fin C0 hw) hw.2.2.2 dX11_sideOf_27 hlocks

def fX11_inside (a1 : Int32) (a2 : Int32) (st : Sto) : Option (Int32 × Sto) :=
  (fX11_isThere (3 : Int32) a1 st).bind (fun (v1 : Int32) =>
   if v1 = 0 then (
    some ((-1 : Int32), st)) else (
    (fX11_isThere (0 : Int32) a2 st).bind (fun (v4 : Int32) =>
     if v4 = 0 then (
      some ((-1 : Int32), st)) else (
      ck (0 ≤ a1.toInt ∧ a1.toInt < (12 : Int)) (
       ck (0 ≤ a2.toInt ∧ a2.toInt < (40 : Int)) (
        (fX11_sideOf (a1.toNatClampNeg) (20) (a2.toNatClampNeg) st).bind (un2 fun (v9 : Int32) (t10 : Sto) =>
         some (v9, t10))))))))
set_option maxHeartbeats 4000000 in
set_option maxRecDepth 100000 in
theorem mX11_inside (l : Launch) (E : XE) (hL : LX E) (st : Sto) {a1 : Int32} {a2 : Int32} {r : Int32} {st1 : Sto} (h : fX11_inside a1 a2 st = some (r, st1)) : Met l yX11_inside wsX11_inside ({ frames := 5, cells := 0, slots := 0, locals := 131 }) (va_Pc [.ref (E.2.2.1 0 (0)), .int a1, .int a2] (RX E st)) (QX E (some (.int r)) st1) 0 0 E.2.2.2 := by
  refine Met.ofW (cc := cX11_inside) (maxL := 3) (ret := (some .int)) (by decide) rfl ?_
  intro p e s m args below meth c s₁ B hml hv
  obtain ⟨rfl, hP, hK⟩ := hv
  have hown : s.vm.findClass RX11 = some m.cls := findClass_of_methodNamed B.named
  have C0 : CX p m c cX11_inside 3 s _ wsX11_inside RX11 E := ⟨⟨B.exec, B.bytes, hml, hown, atoms_spec (ws := wsX11_inside) B.pre⟩, hK⟩
  have hx := B.exec
  have hb := B.bytes
  have hr := B.returns
  have hlocks := B.notSynchronized
  have hw : SX E s st s.heap [] := ⟨hP, va_S.rf⟩
  have hl := lv_entry ([.ref (E.2.2.1 0 (0)), .int a1, .int a2]) (n := 3) (Nat.le_of_ble_eq_true rfl)
  rw [lg_entry_eq]
  generalize (lg_sl ([.ref (E.2.2.1 0 (0)), .int a1, .int a2]) ++ List.replicate (3 - (lg_sl ([.ref (E.2.2.1 0 (0)), .int a1, .int a2])).length) Slot.unset).toArray = ls at hl ⊢
  have hl : lv_has ls 3 [(0, .ref (E.2.2.1 0 (0))), (1, .int a1), (2, .int a2)] := hl
  unfold fX11_inside at h
  refine lv_aload_n hx hb dX11_inside_0 rfl (lv_at hl 0 rfl) ?_
  refine lv_iconst (v := 3) hx hb dX11_inside_1 (by decide) ?_
  refine lv_iload_n hx hb dX11_inside_2 rfl (lv_at hl 1 rfl) ?_
  obtain ⟨v1, hf2, h⟩ := bn_c h
  refine X_callV C0 hw (As := [.int (3 : Int32), .int a1]) (rest := []) (mX11_isThere l E hL st hf2) (cwV 2 C0.1.2.2.2.2 gX11_inside_X11_isThere rfl rfl rfl (by decide +kernel) ⟨Nat.le_of_ble_eq_true rfl, Nat.le_of_ble_eq_true rfl⟩) (X_recv_0 C0 hw (by decide)) rfl hl.1 rfl (Nat.le_of_ble_eq_true rfl) dX11_inside_3 ⟨Nat.zero_le _, Nat.zero_le _⟩ (fun H locs hw => ?_)
  refine W.eq (g2 := F0 m 6 ls [.int v1]) rfl ?_
  refine lv_if_eq (tgt := 18) hx hb dX11_inside_6 (by decide) (fun hc3 => ?_) (fun hc3 => ?_)
  · have h := ifp h hc3
    refine lv_iconst (v := -1) hx hb dX11_inside_18 (by decide) ?_
    cases h
    exact W.iret hx hb hr (X_fin C0 hw) hw.2.2.2 dX11_inside_19 hlocks
  · have h := ifn h hc3
    refine lv_aload_n hx hb dX11_inside_9 rfl (lv_at hl 0 rfl) ?_
    refine lv_iconst (v := 0) hx hb dX11_inside_10 (by decide) ?_
    refine lv_iload_n hx hb dX11_inside_11 rfl (lv_at hl 2 rfl) ?_
    obtain ⟨v4, hf5, h⟩ := bn_c h
    refine X_callV C0 hw (As := [.int (0 : Int32), .int a2]) (rest := []) (mX11_isThere l E hL st hf5) (cwV 2 C0.1.2.2.2.2 gX11_inside_X11_isThere rfl rfl rfl (by decide +kernel) ⟨Nat.le_of_ble_eq_true rfl, Nat.le_of_ble_eq_true rfl⟩) (X_recv_0 C0 hw (by decide)) rfl hl.1 rfl (Nat.le_of_ble_eq_true rfl) dX11_inside_12 ⟨Nat.zero_le _, Nat.zero_le _⟩ (fun H locs hw => ?_)
    refine W.eq (g2 := F0 m 15 ls [.int v4]) rfl ?_
    refine lv_if_ne (tgt := 20) hx hb dX11_inside_15 (by decide) (fun hc6 => ?_) (fun hc6 => ?_)
    · have h := ifn h hc6
      refine lv_aload_n hx hb dX11_inside_20 rfl (lv_at hl 0 rfl) ?_
      refine lv_aload_n hx hb dX11_inside_21 rfl (lv_at hl 0 rfl) ?_
      refine X_g0_7 C0 hw (fun w h => (List.mem_cons_of_mem _ (List.mem_append_left _ (List.mem_append_left _ (List.mem_append_left _ (List.mem_append_right _ h)))))) (by decide) ((List.mem_cons_of_mem _ (List.mem_append_left _ (List.mem_append_left _ (List.mem_append_left _ (List.mem_append_left _ (List.mem_append_left _ (List.mem_of_getElem? (i := 0) rfl)))))))) dX11_inside_22 ?_
      refine lv_iload_n hx hb dX11_inside_25 rfl (lv_at hl 1 rfl) ?_
      refine X_ald_8 C0 hw (by decide) h (k := a1.toNatClampNeg) rfl dX11_inside_26 (fun hk7 h => ?_)
      refine lv_aload_n hx hb dX11_inside_27 rfl (lv_at hl 0 rfl) ?_
      refine X_g0_4 C0 hw (fun w h => (List.mem_cons_of_mem _ (List.mem_append_left _ (List.mem_append_left _ (List.mem_append_left _ (List.mem_append_right _ h)))))) (by decide) ((List.mem_cons_of_mem _ (List.mem_append_left _ (List.mem_append_left _ (List.mem_append_left _ (List.mem_append_left _ (List.mem_append_left _ (List.mem_of_getElem? (i := 1) rfl)))))))) dX11_inside_28 ?_
      refine lv_iload_n hx hb dX11_inside_31 rfl (lv_at hl 2 rfl) ?_
      refine X_ald_4 C0 hw (by decide) h (k := a2.toNatClampNeg) rfl dX11_inside_32 (fun hk8 h => ?_)
      refine X_g19_0 C0 hw (fun w h => (List.mem_cons_of_mem _ (List.mem_append_left _ (List.mem_append_left _ (List.mem_append_right _ h))))) hk8 ((List.mem_cons_of_mem _ (List.mem_append_left _ (List.mem_append_left _ (List.mem_append_left _ (List.mem_append_left _ (List.mem_append_left _ (List.mem_of_getElem? (i := 2) rfl)))))))) dX11_inside_33 ?_
      obtain ⟨⟨v9, t10⟩, hf11, h⟩ := bn_c h
      have h := un2_d h
      refine X_callV C0 hw (As := [.ref (E.2.2.1 26 (a1.toNatClampNeg)), .ref (E.2.2.1 (20) (a2.toNatClampNeg))]) (rest := []) (mX11_sideOf l E hL st hk7 hf11) (cwV 2 C0.1.2.2.2.2 gX11_inside_X11_sideOf rfl rfl rfl (by decide +kernel) ⟨Nat.le_of_ble_eq_true rfl, Nat.le_of_ble_eq_true rfl⟩) (X_recv_0 C0 hw (by decide)) rfl hl.1 rfl (Nat.le_of_ble_eq_true rfl) dX11_inside_36 ⟨Nat.zero_le _, Nat.zero_le _⟩ (fun H locs hw => ?_)
      refine W.eq (g2 := F0 m 39 ls [.int v9]) rfl ?_
      cases h
      exact W.iret hx hb hr (X_fin C0 hw) hw.2.2.2 dX11_inside_39 hlocks
    · have h := ifp h hc6
      refine lv_iconst (v := -1) hx hb dX11_inside_18 (by decide) ?_
      cases h
      exact W.iret hx hb hr (X_fin C0 hw) hw.2.2.2 dX11_inside_19 hlocks

def fX11_isGrid (a1 : Int32) (a2 : Int32) : Option Int32 :=
  (fX11_isWithin a1 (1 : Int32) (10000 : Int32)).bind (fun (v1 : Int32) =>
   if v1 = 0 then (
    some (0 : Int32)) else (
    (fX11_isWithin a2 (1 : Int32) (12 : Int32)).bind (fun (v4 : Int32) =>
     if v4 = 0 then (
      some (0 : Int32)) else (
      some (1 : Int32)))))
set_option maxHeartbeats 4000000 in
set_option maxRecDepth 100000 in
theorem mX11_isGrid (l : Launch) (E : XE) (hL : LX E) (st : Sto) {a1 : Int32} {a2 : Int32} {r : Int32} (h : fX11_isGrid a1 a2 = some r) : Met l yX11_isGrid wsX11_isGrid ({ frames := 1, cells := 0, slots := 0, locals := 22 }) (va_Pc [.int a1, .int a2] (RX E st)) (QX E (some (.int r)) st) 0 0 E.2.2.2 := by
  refine Met.ofW (cc := cX11_isGrid) (maxL := 2) (ret := (some .boolean)) (by decide) rfl ?_
  intro p e s m args below meth c s₁ B hml hv
  obtain ⟨rfl, hP, hK⟩ := hv
  have hown : s.vm.findClass RX11 = some m.cls := findClass_of_methodNamed B.named
  have C0 : CX p m c cX11_isGrid 2 s _ wsX11_isGrid RX11 E := ⟨⟨B.exec, B.bytes, hml, hown, atoms_spec (ws := wsX11_isGrid) B.pre⟩, hK⟩
  have hx := B.exec
  have hb := B.bytes
  have hr := B.returns
  have hlocks := B.notSynchronized
  have hw : SX E s st s.heap [] := ⟨hP, va_S.rf⟩
  have hl := lv_entry ([.int a1, .int a2]) (n := 2) (Nat.le_of_ble_eq_true rfl)
  rw [lg_entry_eq]
  generalize (lg_sl ([.int a1, .int a2]) ++ List.replicate (2 - (lg_sl ([.int a1, .int a2])).length) Slot.unset).toArray = ls at hl ⊢
  have hl : lv_has ls 2 [(0, .int a1), (1, .int a2)] := hl
  unfold fX11_isGrid at h
  refine lv_iload_n hx hb dX11_isGrid_0 rfl (lv_at hl 0 rfl) ?_
  refine lv_iconst (v := 1) hx hb dX11_isGrid_1 (by decide) ?_
  refine lv_sipush (v := 10000) hx hb dX11_isGrid_2 (by decide) ?_
  obtain ⟨v1, hf2, h⟩ := bn_c h
  refine X_callS C0 hw (As := [.int a1, .int (1 : Int32), .int (10000 : Int32)]) (rest := []) (mX11_isWithin l E hL st hf2) (va_cwS 3 C0.1.2.2.2.2 gX11_isGrid_X11_isWithin rfl rfl rfl (by decide +kernel) ⟨Nat.le_of_ble_eq_true rfl, Nat.le_of_ble_eq_true rfl⟩) rfl hl.1 rfl (Nat.le_of_ble_eq_true rfl) dX11_isGrid_5 ⟨Nat.zero_le _, Nat.zero_le _⟩ (fun H locs hw => ?_)
  refine W.eq (g2 := F0 m 8 ls [.int v1]) rfl ?_
  refine lv_if_eq (tgt := 25) hx hb dX11_isGrid_8 (by decide) (fun hc3 => ?_) (fun hc3 => ?_)
  · have h := ifp h hc3
    refine lv_iconst (v := 0) hx hb dX11_isGrid_25 (by decide) ?_
    cases h
    exact W.zret hx hb hr rfl (X_fin C0 hw) hw.2.2.2 dX11_isGrid_26 hlocks
  · have h := ifn h hc3
    refine lv_iload_n hx hb dX11_isGrid_11 rfl (lv_at hl 1 rfl) ?_
    refine lv_iconst (v := 1) hx hb dX11_isGrid_12 (by decide) ?_
    refine lv_bipush (v := 12) hx hb dX11_isGrid_13 (by decide) ?_
    obtain ⟨v4, hf5, h⟩ := bn_c h
    refine X_callS C0 hw (As := [.int a2, .int (1 : Int32), .int (12 : Int32)]) (rest := []) (mX11_isWithin l E hL st hf5) (va_cwS 3 C0.1.2.2.2.2 gX11_isGrid_X11_isWithin rfl rfl rfl (by decide +kernel) ⟨Nat.le_of_ble_eq_true rfl, Nat.le_of_ble_eq_true rfl⟩) rfl hl.1 rfl (Nat.le_of_ble_eq_true rfl) dX11_isGrid_15 ⟨Nat.zero_le _, Nat.zero_le _⟩ (fun H locs hw => ?_)
    refine W.eq (g2 := F0 m 18 ls [.int v4]) rfl ?_
    refine lv_if_eq (tgt := 25) hx hb dX11_isGrid_18 (by decide) (fun hc6 => ?_) (fun hc6 => ?_)
    · have h := ifp h hc6
      refine lv_iconst (v := 0) hx hb dX11_isGrid_25 (by decide) ?_
      cases h
      exact W.zret hx hb hr rfl (X_fin C0 hw) hw.2.2.2 dX11_isGrid_26 hlocks
    · have h := ifn h hc6
      refine lv_iconst (v := 1) hx hb dX11_isGrid_21 (by decide) ?_
      refine lv_goto (tgt := 26) hx hb dX11_isGrid_22 (by decide) ?_
      cases h
      exact W.zret hx hb hr rfl (X_fin C0 hw) hw.2.2.2 dX11_isGrid_26 hlocks

def fX11_tryRecipe (a1f : Nat) (a1i : Nat) (st : Sto) : Option Sto :=
  (fX6_begin a1f a1i st).bind (fun (t1 : Sto) =>
   ((lp (σ := (Int32 × Int64 × Sto)) (ρ := (Int64 × Sto)) (un3 fun (v6 : Int32) (v7 : Int64) (t8 : Sto) =>
      if gI t8 16 (0) 9 ≤ v6 then (
       some (.inr (v7, t8))) else (
       (fX8_nameAt (0) v6 t8).bind (fun (v22 : Int32) =>
        (fX8_gramsAt (0) v6 t8).bind (fun (v24 : Int32) =>
         (fX11_mixPart (2 : Int32) v22 (v24.toInt64) t8).bind (fun (t26 : Sto) =>
          (fX8_gramsAt (0) v6 t26).bind (fun (v28 : Int32) =>
           (fX8_nameAt (0) v6 t26).bind (fun (v30 : Int32) =>
            ck (0 ≤ v30.toInt ∧ v30.toInt < (12 : Int)) (
             lt1 (v7 + ((v28.toInt64) * ((gI t26 22 (v30.toNatClampNeg) 1).toInt64))) fun (v33 : Int64) =>
             lt1 (v6 + Int32.ofInt (1)) fun (v34 : Int32) =>
             some (.inl (v34, v33, t26)))))))))) 4000 ((0 : Int32), (0 : Int64), t1)).bind
    (un2 fun (v9 : Int64) (t10 : Sto) =>
     (fX6_result t10).bind (un2 fun (v35 : (Nat × Nat)) (t36 : Sto) => un2 (fun (qf38 qi39 : Nat) =>
       (fX9_gapTo qf38 qi39 t36).bind (un2 fun (v40 : UInt64) (t41 : Sto) =>
        (fX8_judge (0) v40 v9 t41).bind (fun (t43 : Sto) =>
         some t43))) v35))))
set_option maxHeartbeats 4000000 in
set_option maxRecDepth 100000 in
theorem mX11_tryRecipe (l : Launch) (E : XE) (hL : LX E) (st : Sto) {a1f : Nat} {a1i : Nat} {st1 : Sto} (h : fX11_tryRecipe a1f a1i st = some st1) : Met l yX11_tryRecipe wsX11_tryRecipe ({ frames := 5, cells := 0, slots := 0, locals := 136 }) (va_Pc [.ref (E.2.2.1 0 (0)), .ref (E.2.2.1 a1f a1i)] (RX E st)) (QX E none st1) 0 0 E.2.2.2 := by
  refine Met.ofW (cc := cX11_tryRecipe) (maxL := 5) (ret := none) (by decide) rfl ?_
  intro p e s m args below meth c s₁ B hml hv
  obtain ⟨rfl, hP, hK⟩ := hv
  have hown : s.vm.findClass RX11 = some m.cls := findClass_of_methodNamed B.named
  have C0 : CX p m c cX11_tryRecipe 5 s _ wsX11_tryRecipe RX11 E := ⟨⟨B.exec, B.bytes, hml, hown, atoms_spec (ws := wsX11_tryRecipe) B.pre⟩, hK⟩
  have hx := B.exec
  have hb := B.bytes
  have hr := B.returns
  have hlocks := B.notSynchronized
  have hw : SX E s st s.heap [] := ⟨hP, va_S.rf⟩
  have hl := lv_entry ([.ref (E.2.2.1 0 (0)), .ref (E.2.2.1 a1f a1i)]) (n := 5) (Nat.le_of_ble_eq_true rfl)
  rw [lg_entry_eq]
  generalize (lg_sl ([.ref (E.2.2.1 0 (0)), .ref (E.2.2.1 a1f a1i)]) ++ List.replicate (5 - (lg_sl ([.ref (E.2.2.1 0 (0)), .ref (E.2.2.1 a1f a1i)])).length) Slot.unset).toArray = ls at hl ⊢
  have hl : lv_has ls 5 [(0, .ref (E.2.2.1 0 (0))), (1, .ref (E.2.2.1 a1f a1i))] := hl
  unfold fX11_tryRecipe at h
  refine lv_aload_n hx hb dX11_tryRecipe_0 rfl (lv_at hl 0 rfl) ?_
  refine X_g0_14 C0 hw (fun w h => (List.mem_cons_of_mem _ (List.mem_append_left _ (List.mem_append_left _ (List.mem_append_left _ (List.mem_append_left _ (List.mem_append_left _ (List.mem_append_right _ h)))))))) (by decide) ((List.mem_cons_of_mem _ (List.mem_append_left _ (List.mem_append_left _ (List.mem_append_left _ (List.mem_append_left _ (List.mem_append_left _ (List.mem_append_left _ (List.mem_append_left _ (List.mem_of_getElem? (i := 0) rfl)))))))))) dX11_tryRecipe_1 ?_
  refine lv_aload_n hx hb dX11_tryRecipe_4 rfl (lv_at hl 1 rfl) ?_
  obtain ⟨t1, hf2, h⟩ := bn_c h
  refine X_callV C0 hw (As := [.ref (E.2.2.1 a1f a1i)]) (rest := []) (mX6_begin l E hL st hf2) (cwV 1 C0.1.2.2.2.2 gX11_tryRecipe_X6_begin rfl rfl rfl (by decide +kernel) ⟨Nat.le_of_ble_eq_true rfl, Nat.le_of_ble_eq_true rfl⟩) (X_recv_15 C0 hw (by decide)) rfl hl.1 rfl (Nat.le_of_ble_eq_true rfl) dX11_tryRecipe_5 ⟨Nat.zero_le _, Nat.zero_le _⟩ (fun H locs hw => ?_)
  refine W.eq (g2 := F0 m 8 ls []) rfl ?_
  refine lv_lconst (v := 0) hx hb dX11_tryRecipe_8 (by decide) ?_
  refine lv_lstore_n (lv' := [(2, .long (0 : Int64)), (0, .ref (E.2.2.1 0 (0))), (1, .ref (E.2.2.1 a1f a1i))]) hx hb dX11_tryRecipe_9 rfl hl (by decide) rfl (fun ls hl => ?_)
  refine lv_iconst (v := 0) hx hb dX11_tryRecipe_10 (by decide) ?_
  refine lv_istore (lv' := [(4, .int (0 : Int32)), (2, .long (0 : Int64)), (0, .ref (E.2.2.1 0 (0))), (1, .ref (E.2.2.1 a1f a1i))]) hx hb dX11_tryRecipe_11 hl (by decide) rfl (fun ls hl => ?_)
  refine lp_ind (fun q : (Int32 × Int64 × Sto) => ∀ (H : Heap) (locs : List Loc), SX E s (q.2.2) H locs → ∀ ls : Array Slot, lv_has ls 5 [(4, .int (q.1)), (2, .long (q.2.1)), (0, .ref (E.2.2.1 0 (0)))] → W p l e (headSpec wsX11_tryRecipe ({ frames := 5, cells := 0, slots := 0, locals := 136 })).room s m ([.ref (E.2.2.1 0 (0)), .ref (E.2.2.1 a1f a1i)] : List Value).toArray below meth c H locs 0 0 (MQ below (QX E none st1) ([.ref (E.2.2.1 0 (0)), .ref (E.2.2.1 a1f a1i)] : List Value).toArray s 0 0 E.2.2.2) (F0 m 13 ls [])) (fun q o5 h hB4 hX3 => ?_) _ _ h _ _ hw _ (lv_sub hl [0, 1, 2] rfl)
  intro H locs hw ls hl
  obtain ⟨v6, v7, t8⟩ := q
  have h := un3_d h
  have hw : SX E s t8 H locs := hw
  have hl : lv_has ls 5 [(4, .int v6), (2, .long v7), (0, .ref (E.2.2.1 0 (0)))] := hl
  refine lv_iload hx hb dX11_tryRecipe_13 (lv_at hl 0 rfl) ?_
  refine lv_aload_n hx hb dX11_tryRecipe_15 rfl (lv_at hl 2 rfl) ?_
  refine X_g0_15 C0 hw (fun w h => (List.mem_cons_of_mem _ (List.mem_append_left _ (List.mem_append_left _ (List.mem_append_left _ (List.mem_append_left _ (List.mem_append_left _ (List.mem_append_right _ h)))))))) (by decide) ((List.mem_cons_of_mem _ (List.mem_append_left _ (List.mem_append_left _ (List.mem_append_left _ (List.mem_append_left _ (List.mem_append_left _ (List.mem_append_left _ (List.mem_append_left _ (List.mem_of_getElem? (i := 1) rfl)))))))))) dX11_tryRecipe_16 ?_
  refine X_g16_9 C0 hw (fun w h => (List.mem_cons_of_mem _ (List.mem_append_left _ (List.mem_append_left _ (List.mem_append_left _ (List.mem_append_left _ (List.mem_append_right _ h))))))) (by decide) ((List.mem_cons_of_mem _ (List.mem_append_left _ (List.mem_append_left _ (List.mem_append_left _ (List.mem_append_left _ (List.mem_append_left _ (List.mem_append_left _ (List.mem_append_left _ (List.mem_of_getElem? (i := 2) rfl)))))))))) dX11_tryRecipe_19 ?_
  refine lv_icmp_ge (tgt := 87) hx hb dX11_tryRecipe_22 (by decide) (fun hc11 => ?_) (fun hc11 => ?_)
  · have h := ifp h hc11
    have h := hX3 _ (Option.some.inj h).symm
    have h := un2_d h
    have hl := lv_sub hl (l' := [(0, .ref (E.2.2.1 0 (0))), (2, .long v7)]) [2, 1] rfl
    refine lv_aload_n hx hb dX11_tryRecipe_87 rfl (lv_at hl 0 rfl) ?_
    refine X_g0_15 C0 hw (fun w h => (List.mem_cons_of_mem _ (List.mem_append_left _ (List.mem_append_left _ (List.mem_append_left _ (List.mem_append_left _ (List.mem_append_left _ (List.mem_append_right _ h)))))))) (by decide) ((List.mem_cons_of_mem _ (List.mem_append_left _ (List.mem_append_left _ (List.mem_append_left _ (List.mem_append_left _ (List.mem_append_left _ (List.mem_append_left _ (List.mem_append_left _ (List.mem_of_getElem? (i := 1) rfl)))))))))) dX11_tryRecipe_88 ?_
    refine lv_aload_n hx hb dX11_tryRecipe_91 rfl (lv_at hl 0 rfl) ?_
    refine X_g0_12 C0 hw (fun w h => (List.mem_cons_of_mem _ (List.mem_append_left _ (List.mem_append_left _ (List.mem_append_left _ (List.mem_append_left _ (List.mem_append_left _ (List.mem_append_right _ h)))))))) (by decide) ((List.mem_cons_of_mem _ (List.mem_append_left _ (List.mem_append_left _ (List.mem_append_left _ (List.mem_append_left _ (List.mem_append_left _ (List.mem_append_left _ (List.mem_append_left _ (List.mem_of_getElem? (i := 5) rfl)))))))))) dX11_tryRecipe_92 ?_
    refine lv_aload_n hx hb dX11_tryRecipe_95 rfl (lv_at hl 0 rfl) ?_
    refine X_g0_14 C0 hw (fun w h => (List.mem_cons_of_mem _ (List.mem_append_left _ (List.mem_append_left _ (List.mem_append_left _ (List.mem_append_left _ (List.mem_append_left _ (List.mem_append_right _ h)))))))) (by decide) ((List.mem_cons_of_mem _ (List.mem_append_left _ (List.mem_append_left _ (List.mem_append_left _ (List.mem_append_left _ (List.mem_append_left _ (List.mem_append_left _ (List.mem_append_left _ (List.mem_of_getElem? (i := 0) rfl)))))))))) dX11_tryRecipe_96 ?_
    obtain ⟨⟨v12, t13⟩, hf14, h⟩ := bn_c h
    have h := un2_d h
    refine X_callV C0 hw (As := []) (rest := [.ref (E.2.2.1 13 (0)), .ref (E.2.2.1 16 (0))]) (mX6_result l E hL t8 hf14) (cwV 0 C0.1.2.2.2.2 gX11_tryRecipe_X6_result rfl rfl rfl (by decide +kernel) ⟨Nat.le_of_ble_eq_true rfl, Nat.le_of_ble_eq_true rfl⟩) (X_recv_15 C0 hw (by decide)) rfl hl.1 rfl (Nat.le_of_ble_eq_true rfl) dX11_tryRecipe_99 ⟨Nat.zero_le _, Nat.zero_le _⟩ (fun H locs hw => ?_)
    obtain ⟨qf15, qi16⟩ := v12
    have h := un2_d h
    refine W.eq (g2 := F0 m 102 ls (.ref (E.2.2.1 qf15 qi16) :: [.ref (E.2.2.1 13 (0)), .ref (E.2.2.1 16 (0))])) rfl ?_
    obtain ⟨⟨v17, t18⟩, hf19, h⟩ := bn_c h
    have h := un2_d h
    refine X_callV C0 hw (As := [.ref (E.2.2.1 qf15 qi16)]) (rest := [.ref (E.2.2.1 16 (0))]) (mX9_gapTo l E hL t13 hf19) (cwV 1 C0.1.2.2.2.2 gX11_tryRecipe_X9_gapTo rfl rfl rfl (by decide +kernel) ⟨Nat.le_of_ble_eq_true rfl, Nat.le_of_ble_eq_true rfl⟩) (X_recv_13 C0 hw (by decide)) rfl hl.1 rfl (Nat.le_of_ble_eq_true rfl) dX11_tryRecipe_102 ⟨Nat.zero_le _, Nat.zero_le _⟩ (fun H locs hw => ?_)
    refine W.eq (g2 := F0 m 105 ls [.double v17, .ref (E.2.2.1 16 (0))]) rfl ?_
    refine lv_lload_n hx hb dX11_tryRecipe_105 rfl (lv_at hl 1 rfl) ?_
    obtain ⟨t20, hf21, h⟩ := bn_c h
    refine X_callV C0 hw (As := [.double v17, .long v7]) (rest := []) (mX8_judge l E hL t18 (by decide) hf21) (cwV 2 C0.1.2.2.2.2 gX11_tryRecipe_X8_judge rfl rfl rfl (by decide +kernel) ⟨Nat.le_of_ble_eq_true rfl, Nat.le_of_ble_eq_true rfl⟩) (X_recv_16 C0 hw (by decide)) rfl hl.1 rfl (Nat.le_of_ble_eq_true rfl) dX11_tryRecipe_106 ⟨Nat.zero_le _, Nat.zero_le _⟩ (fun H locs hw => ?_)
    refine W.eq (g2 := F0 m 109 ls []) rfl ?_
    cases h
    exact W.vret hx hb hr (X_fin C0 hw) hw.2.2.2 dX11_tryRecipe_109 hlocks
  · have h := ifn h hc11
    refine lv_aload_n hx hb dX11_tryRecipe_25 rfl (lv_at hl 2 rfl) ?_
    refine lv_iconst (v := 2) hx hb dX11_tryRecipe_26 (by decide) ?_
    refine lv_aload_n hx hb dX11_tryRecipe_27 rfl (lv_at hl 2 rfl) ?_
    refine X_g0_15 C0 hw (fun w h => (List.mem_cons_of_mem _ (List.mem_append_left _ (List.mem_append_left _ (List.mem_append_left _ (List.mem_append_left _ (List.mem_append_left _ (List.mem_append_right _ h)))))))) (by decide) ((List.mem_cons_of_mem _ (List.mem_append_left _ (List.mem_append_left _ (List.mem_append_left _ (List.mem_append_left _ (List.mem_append_left _ (List.mem_append_left _ (List.mem_append_left _ (List.mem_of_getElem? (i := 1) rfl)))))))))) dX11_tryRecipe_28 ?_
    refine lv_iload hx hb dX11_tryRecipe_31 (lv_at hl 0 rfl) ?_
    obtain ⟨v22, hf23, h⟩ := bn_c h
    refine X_callV C0 hw (As := [.int v6]) (rest := [.int (2 : Int32), .ref (E.2.2.1 0 (0))]) (mX8_nameAt l E hL t8 (by decide) hf23) (cwV 1 C0.1.2.2.2.2 gX11_tryRecipe_X8_nameAt rfl rfl rfl (by decide +kernel) ⟨Nat.le_of_ble_eq_true rfl, Nat.le_of_ble_eq_true rfl⟩) (X_recv_16 C0 hw (by decide)) rfl hl.1 rfl (Nat.le_of_ble_eq_true rfl) dX11_tryRecipe_33 ⟨Nat.zero_le _, Nat.zero_le _⟩ (fun H locs hw => ?_)
    refine W.eq (g2 := F0 m 36 ls [.int v22, .int (2 : Int32), .ref (E.2.2.1 0 (0))]) rfl ?_
    refine lv_aload_n hx hb dX11_tryRecipe_36 rfl (lv_at hl 2 rfl) ?_
    refine X_g0_15 C0 hw (fun w h => (List.mem_cons_of_mem _ (List.mem_append_left _ (List.mem_append_left _ (List.mem_append_left _ (List.mem_append_left _ (List.mem_append_left _ (List.mem_append_right _ h)))))))) (by decide) ((List.mem_cons_of_mem _ (List.mem_append_left _ (List.mem_append_left _ (List.mem_append_left _ (List.mem_append_left _ (List.mem_append_left _ (List.mem_append_left _ (List.mem_append_left _ (List.mem_of_getElem? (i := 1) rfl)))))))))) dX11_tryRecipe_37 ?_
    refine lv_iload hx hb dX11_tryRecipe_40 (lv_at hl 0 rfl) ?_
    obtain ⟨v24, hf25, h⟩ := bn_c h
    refine X_callV C0 hw (As := [.int v6]) (rest := [.int v22, .int (2 : Int32), .ref (E.2.2.1 0 (0))]) (mX8_gramsAt l E hL t8 (by decide) hf25) (cwV 1 C0.1.2.2.2.2 gX11_tryRecipe_X8_gramsAt rfl rfl rfl (by decide +kernel) ⟨Nat.le_of_ble_eq_true rfl, Nat.le_of_ble_eq_true rfl⟩) (X_recv_16 C0 hw (by decide)) rfl hl.1 rfl (Nat.le_of_ble_eq_true rfl) dX11_tryRecipe_42 ⟨Nat.zero_le _, Nat.zero_le _⟩ (fun H locs hw => ?_)
    refine W.eq (g2 := F0 m 45 ls [.int v24, .int v22, .int (2 : Int32), .ref (E.2.2.1 0 (0))]) rfl ?_
    refine lv_i2l hx hb dX11_tryRecipe_45 rfl ?_
    obtain ⟨t26, hf27, h⟩ := bn_c h
    refine X_callV C0 hw (As := [.int (2 : Int32), .int v22, .long (v24.toInt64)]) (rest := []) (mX11_mixPart l E hL t8 hf27) (cwV 3 C0.1.2.2.2.2 gX11_tryRecipe_X11_mixPart rfl rfl rfl (by decide +kernel) ⟨Nat.le_of_ble_eq_true rfl, Nat.le_of_ble_eq_true rfl⟩) (X_recv_0 C0 hw (by decide)) rfl hl.1 rfl (Nat.le_of_ble_eq_true rfl) dX11_tryRecipe_46 ⟨Nat.zero_le _, Nat.zero_le _⟩ (fun H locs hw => ?_)
    refine W.eq (g2 := F0 m 49 ls []) rfl ?_
    refine lv_lload_n hx hb dX11_tryRecipe_49 rfl (lv_at hl 1 rfl) ?_
    refine lv_aload_n hx hb dX11_tryRecipe_50 rfl (lv_at hl 2 rfl) ?_
    refine X_g0_15 C0 hw (fun w h => (List.mem_cons_of_mem _ (List.mem_append_left _ (List.mem_append_left _ (List.mem_append_left _ (List.mem_append_left _ (List.mem_append_left _ (List.mem_append_right _ h)))))))) (by decide) ((List.mem_cons_of_mem _ (List.mem_append_left _ (List.mem_append_left _ (List.mem_append_left _ (List.mem_append_left _ (List.mem_append_left _ (List.mem_append_left _ (List.mem_append_left _ (List.mem_of_getElem? (i := 1) rfl)))))))))) dX11_tryRecipe_51 ?_
    refine lv_iload hx hb dX11_tryRecipe_54 (lv_at hl 0 rfl) ?_
    obtain ⟨v28, hf29, h⟩ := bn_c h
    refine X_callV C0 hw (As := [.int v6]) (rest := [.long v7]) (mX8_gramsAt l E hL t26 (by decide) hf29) (cwV 1 C0.1.2.2.2.2 gX11_tryRecipe_X8_gramsAt rfl rfl rfl (by decide +kernel) ⟨Nat.le_of_ble_eq_true rfl, Nat.le_of_ble_eq_true rfl⟩) (X_recv_16 C0 hw (by decide)) rfl hl.1 rfl (Nat.le_of_ble_eq_true rfl) dX11_tryRecipe_56 ⟨Nat.zero_le _, Nat.zero_le _⟩ (fun H locs hw => ?_)
    refine W.eq (g2 := F0 m 59 ls [.int v28, .long v7]) rfl ?_
    refine lv_i2l hx hb dX11_tryRecipe_59 rfl ?_
    refine lv_aload_n hx hb dX11_tryRecipe_60 rfl (lv_at hl 2 rfl) ?_
    refine X_g0_6 C0 hw (fun w h => (List.mem_cons_of_mem _ (List.mem_append_left _ (List.mem_append_left _ (List.mem_append_left _ (List.mem_append_left _ (List.mem_append_left _ (List.mem_append_right _ h)))))))) (by decide) ((List.mem_cons_of_mem _ (List.mem_append_left _ (List.mem_append_left _ (List.mem_append_left _ (List.mem_append_left _ (List.mem_append_left _ (List.mem_append_left _ (List.mem_append_left _ (List.mem_of_getElem? (i := 3) rfl)))))))))) dX11_tryRecipe_61 ?_
    refine lv_aload_n hx hb dX11_tryRecipe_64 rfl (lv_at hl 2 rfl) ?_
    refine X_g0_15 C0 hw (fun w h => (List.mem_cons_of_mem _ (List.mem_append_left _ (List.mem_append_left _ (List.mem_append_left _ (List.mem_append_left _ (List.mem_append_left _ (List.mem_append_right _ h)))))))) (by decide) ((List.mem_cons_of_mem _ (List.mem_append_left _ (List.mem_append_left _ (List.mem_append_left _ (List.mem_append_left _ (List.mem_append_left _ (List.mem_append_left _ (List.mem_append_left _ (List.mem_of_getElem? (i := 1) rfl)))))))))) dX11_tryRecipe_65 ?_
    refine lv_iload hx hb dX11_tryRecipe_68 (lv_at hl 0 rfl) ?_
    obtain ⟨v30, hf31, h⟩ := bn_c h
    refine X_callV C0 hw (As := [.int v6]) (rest := [.ref (E.2.2.1 (7) (0)), .long (v28.toInt64), .long v7]) (mX8_nameAt l E hL t26 (by decide) hf31) (cwV 1 C0.1.2.2.2.2 gX11_tryRecipe_X8_nameAt rfl rfl rfl (by decide +kernel) ⟨Nat.le_of_ble_eq_true rfl, Nat.le_of_ble_eq_true rfl⟩) (X_recv_16 C0 hw (by decide)) rfl hl.1 rfl (Nat.le_of_ble_eq_true rfl) dX11_tryRecipe_70 ⟨Nat.zero_le _, Nat.zero_le _⟩ (fun H locs hw => ?_)
    refine W.eq (g2 := F0 m 73 ls [.int v30, .ref (E.2.2.1 (7) (0)), .long (v28.toInt64), .long v7]) rfl ?_
    refine X_ald_7 C0 hw (by decide) h (k := v30.toNatClampNeg) rfl dX11_tryRecipe_73 (fun hk32 h => ?_)
    refine X_g22_1 C0 hw (fun w h => (List.mem_cons_of_mem _ (List.mem_append_left _ (List.mem_append_left _ (List.mem_append_left _ (List.mem_append_right _ h)))))) hk32 ((List.mem_cons_of_mem _ (List.mem_append_left _ (List.mem_append_left _ (List.mem_append_left _ (List.mem_append_left _ (List.mem_append_left _ (List.mem_append_left _ (List.mem_append_left _ (List.mem_of_getElem? (i := 4) rfl)))))))))) dX11_tryRecipe_74 ?_
    refine lv_i2l hx hb dX11_tryRecipe_77 rfl ?_
    refine lv_lmul hx hb dX11_tryRecipe_78 ?_
    refine lv_ladd hx hb dX11_tryRecipe_79 ?_
    refine x_topl h (fun v33 h => ?_)
    refine lv_lstore_n (lv' := [(2, .long v33), (4, .int v6), (0, .ref (E.2.2.1 0 (0)))]) hx hb dX11_tryRecipe_80 rfl hl (by decide) rfl (fun ls hl => ?_)
    refine x_iinc hx hb h dX11_tryRecipe_81 hl (q := 1) rfl (fun v34 => [(4, .int v34), (2, .long v33), (0, .ref (E.2.2.1 0 (0)))]) (by decide) (fun _ => rfl) (fun v34 ls hl h => ?_)
    refine lv_goto (tgt := 13) hx hb dX11_tryRecipe_84 (by decide) ?_
    exact hB4 _ (Option.some.inj h).symm _ _ hw _ (lv_sub hl [0, 1, 2] rfl)

def fX11_recipe (a1 : Int32) (a2 : Int32) (a3 : Int32) (a4 : Int32) (a5 : Int32) (a6 : Int32) (a7 : Int32) (a8 : Int32) (st : Sto) : Option (Int32 × Sto) :=
  (fX11_isThere (0 : Int32) a1 st).bind (fun (v1 : Int32) =>
   if v1 = 0 then (
    (fX11_refused (2 : Int32) st).bind (un2 fun (v4 : Int32) (t5 : Sto) =>
     some (v4, t5))) else (
    (fX11_isThere (1 : Int32) a2 st).bind (fun (v7 : Int32) =>
     if v7 = 0 then (
      (fX11_refused (2 : Int32) st).bind (un2 fun (v108 : Int32) (t109 : Sto) =>
       some (v108, t109))) else (
      (fX9_isOne a3 a4).bind (fun (v10 : Int32) =>
       if v10 = 0 then (
        (fX11_refused (3 : Int32) st).bind (un2 fun (v13 : Int32) (t14 : Sto) =>
         some (v13, t14))) else (
        (fX11_isWithin a6 (1 : Int32) (3 : Int32)).bind (fun (v16 : Int32) =>
         if v16 = 0 then (
          (fX11_refused (3 : Int32) st).bind (un2 fun (v19 : Int32) (t20 : Sto) =>
           some (v19, t20))) else (
          (fX11_isGrid a7 a8).bind (fun (v22 : Int32) =>
           if v22 = 0 then (
            (fX11_refused (3 : Int32) st).bind (un2 fun (v25 : Int32) (t26 : Sto) =>
             some (v25, t26))) else (
            if (a5.toUInt32 >>> ((gI st (3) (0) (2)).toUInt32 &&& Int32.toUInt32 31)).toInt32 = 0 then (
             (fX8_begin (0) a6 a7 (0 : Int32) st).bind (fun (t29 : Sto) =>
              ((lp (σ := (Int32 × Sto)) (ρ := Sto) (un2 fun (v34 : Int32) (t35 : Sto) =>
                 if gI t35 (3) (0) (2) ≤ v34 then (
                  some (.inr t35)) else (
                  if ((a5.toUInt32 >>> (v34.toUInt32 &&& Int32.toUInt32 31)).toInt32) &&& (1 : Int32) = 0 then (
                   lt1 (v34 + Int32.ofInt (1)) fun (v70 : Int32) =>
                   some (.inl (v70, t35))) else (
                   (fX8_offer (0) v34 a8 (0 : Int32) t35).bind (fun (t71 : Sto) =>
                    lt1 (v34 + Int32.ofInt (1)) fun (v73 : Int32) =>
                    some (.inl (v73, t71)))))) 4000 ((0 : Int32), t29)).bind
               (fun (t36 : Sto) =>
                (fX9_aim a3 a4 t36).bind (fun (t74 : Sto) =>
                 ck (0 ≤ a1.toInt ∧ a1.toInt < (40 : Int)) (
                  (fX9_setGoal (20) (a1.toNatClampNeg) t74).bind (fun (t77 : Sto) =>
                   ck (0 ≤ a2.toInt ∧ a2.toInt < (8 : Int)) (
                    (fX11_tryRecipe (6) (a2.toNatClampNeg) t77).bind (fun (t80 : Sto) =>
                     ((lp (σ := (Int32 × Sto)) (ρ := Sto) (un2 fun (v85 : Int32) (t86 : Sto) =>
                        if (1000 : Int32) ≤ v85 then (
                         some (.inr t86)) else (
                         (fX8_advance (0) t86).bind (un2 fun (v97 : Int32) (t98 : Sto) =>
                          if v97 = 0 then (
                           some (.inr t98)) else (
                           ck (0 ≤ a2.toInt ∧ a2.toInt < (8 : Int)) (
                            (fX11_tryRecipe (6) (a2.toNatClampNeg) t98).bind (fun (t102 : Sto) =>
                             lt1 (v85 + Int32.ofInt (1)) fun (v104 : Int32) =>
                             some (.inl (v104, t102)))))))) 4000 ((1 : Int32), t80)).bind
                      (fun (t87 : Sto) =>
                       (fX8_end (0) t87).bind (fun (t91 : Sto) =>
                        (fX11_accept t91).bind (un2 fun (v93 : Int32) (t94 : Sto) =>
                         some (gI t94 16 (0) 16, t94)))))))))))))) else (
             (fX11_refused (3 : Int32) st).bind (un2 fun (v105 : Int32) (t106 : Sto) =>
              some (v105, t106)))))))))))))
set_option maxHeartbeats 4000000 in
set_option maxRecDepth 100000 in
theorem mX11_recipe (l : Launch) (E : XE) (hL : LX E) (st : Sto) {a1 : Int32} {a2 : Int32} {a3 : Int32} {a4 : Int32} {a5 : Int32} {a6 : Int32} {a7 : Int32} {a8 : Int32} {r : Int32} {st1 : Sto} (h : fX11_recipe a1 a2 a3 a4 a5 a6 a7 a8 st = some (r, st1)) : Met l yX11_recipe wsX11_recipe ({ frames := 6, cells := 0, slots := 0, locals := 160 }) (va_Pc [.ref (E.2.2.1 0 (0)), .int a1, .int a2, .int a3, .int a4, .int a5, .int a6, .int a7, .int a8] (RX E st)) (QX E (some (.int r)) st1) 0 0 E.2.2.2 := by
  refine Met.ofW (cc := cX11_recipe) (maxL := 10) (ret := (some .int)) (by decide) rfl ?_
  intro p e s m args below meth c s₁ B hml hv
  obtain ⟨rfl, hP, hK⟩ := hv
  have hown : s.vm.findClass RX11 = some m.cls := findClass_of_methodNamed B.named
  have C0 : CX p m c cX11_recipe 10 s _ wsX11_recipe RX11 E := ⟨⟨B.exec, B.bytes, hml, hown, atoms_spec (ws := wsX11_recipe) B.pre⟩, hK⟩
  have hx := B.exec
  have hb := B.bytes
  have hr := B.returns
  have hlocks := B.notSynchronized
  have hw : SX E s st s.heap [] := ⟨hP, va_S.rf⟩
  have hl := lv_entry ([.ref (E.2.2.1 0 (0)), .int a1, .int a2, .int a3, .int a4, .int a5, .int a6, .int a7, .int a8]) (n := 10) (Nat.le_of_ble_eq_true rfl)
  rw [lg_entry_eq]
  generalize (lg_sl ([.ref (E.2.2.1 0 (0)), .int a1, .int a2, .int a3, .int a4, .int a5, .int a6, .int a7, .int a8]) ++ List.replicate (10 - (lg_sl ([.ref (E.2.2.1 0 (0)), .int a1, .int a2, .int a3, .int a4, .int a5, .int a6, .int a7, .int a8])).length) Slot.unset).toArray = ls at hl ⊢
  have hl : lv_has ls 10 [(0, .ref (E.2.2.1 0 (0))), (1, .int a1), (2, .int a2), (3, .int a3), (4, .int a4), (5, .int a5), (6, .int a6), (7, .int a7), (8, .int a8)] := hl
  unfold fX11_recipe at h
  refine lv_aload_n hx hb dX11_recipe_0 rfl (lv_at hl 0 rfl) ?_
  refine lv_iconst (v := 0) hx hb dX11_recipe_1 (by decide) ?_
  refine lv_iload_n hx hb dX11_recipe_2 rfl (lv_at hl 1 rfl) ?_
  obtain ⟨v1, hf2, h⟩ := bn_c h
  refine X_callV C0 hw (As := [.int (0 : Int32), .int a1]) (rest := []) (mX11_isThere l E hL st hf2) (cwV 2 C0.1.2.2.2.2 gX11_recipe_X11_isThere rfl rfl rfl (by decide +kernel) ⟨Nat.le_of_ble_eq_true rfl, Nat.le_of_ble_eq_true rfl⟩) (X_recv_0 C0 hw (by decide)) rfl hl.1 rfl (Nat.le_of_ble_eq_true rfl) dX11_recipe_3 ⟨Nat.zero_le _, Nat.zero_le _⟩ (fun H locs hw => ?_)
  refine W.eq (g2 := F0 m 6 ls [.int v1]) rfl ?_
  refine lv_if_eq (tgt := 18) hx hb dX11_recipe_6 (by decide) (fun hc3 => ?_) (fun hc3 => ?_)
  · have h := ifp h hc3
    refine lv_aload_n hx hb dX11_recipe_18 rfl (lv_at hl 0 rfl) ?_
    refine lv_iconst (v := 2) hx hb dX11_recipe_19 (by decide) ?_
    obtain ⟨⟨v4, t5⟩, hf6, h⟩ := bn_c h
    have h := un2_d h
    refine X_callV C0 hw (As := [.int (2 : Int32)]) (rest := []) (mX11_refused l E hL st hf6) (cwV 1 C0.1.2.2.2.2 gX11_recipe_X11_refused rfl rfl rfl (by decide +kernel) ⟨Nat.le_of_ble_eq_true rfl, Nat.le_of_ble_eq_true rfl⟩) (X_recv_0 C0 hw (by decide)) rfl hl.1 rfl (Nat.le_of_ble_eq_true rfl) dX11_recipe_20 ⟨Nat.zero_le _, Nat.zero_le _⟩ (fun H locs hw => ?_)
    refine W.eq (g2 := F0 m 23 ls [.int v4]) rfl ?_
    cases h
    exact W.iret hx hb hr (X_fin C0 hw) hw.2.2.2 dX11_recipe_23 hlocks
  · have h := ifn h hc3
    refine lv_aload_n hx hb dX11_recipe_9 rfl (lv_at hl 0 rfl) ?_
    refine lv_iconst (v := 1) hx hb dX11_recipe_10 (by decide) ?_
    refine lv_iload_n hx hb dX11_recipe_11 rfl (lv_at hl 2 rfl) ?_
    obtain ⟨v7, hf8, h⟩ := bn_c h
    refine X_callV C0 hw (As := [.int (1 : Int32), .int a2]) (rest := []) (mX11_isThere l E hL st hf8) (cwV 2 C0.1.2.2.2.2 gX11_recipe_X11_isThere rfl rfl rfl (by decide +kernel) ⟨Nat.le_of_ble_eq_true rfl, Nat.le_of_ble_eq_true rfl⟩) (X_recv_0 C0 hw (by decide)) rfl hl.1 rfl (Nat.le_of_ble_eq_true rfl) dX11_recipe_12 ⟨Nat.zero_le _, Nat.zero_le _⟩ (fun H locs hw => ?_)
    refine W.eq (g2 := F0 m 15 ls [.int v7]) rfl ?_
    refine lv_if_ne (tgt := 24) hx hb dX11_recipe_15 (by decide) (fun hc9 => ?_) (fun hc9 => ?_)
    · have h := ifn h hc9
      refine lv_iload_n hx hb dX11_recipe_24 rfl (lv_at hl 3 rfl) ?_
      refine lv_iload hx hb dX11_recipe_25 (lv_at hl 4 rfl) ?_
      obtain ⟨v10, hf11, h⟩ := bn_c h
      refine X_callS C0 hw (As := [.int a3, .int a4]) (rest := []) (mX9_isOne l E hL st hf11) (va_cwS 2 C0.1.2.2.2.2 gX11_recipe_X9_isOne rfl rfl rfl (by decide +kernel) ⟨Nat.le_of_ble_eq_true rfl, Nat.le_of_ble_eq_true rfl⟩) rfl hl.1 rfl (Nat.le_of_ble_eq_true rfl) dX11_recipe_27 ⟨Nat.zero_le _, Nat.zero_le _⟩ (fun H locs hw => ?_)
      refine W.eq (g2 := F0 m 30 ls [.int v10]) rfl ?_
      refine lv_if_eq (tgt := 65) hx hb dX11_recipe_30 (by decide) (fun hc12 => ?_) (fun hc12 => ?_)
      · have h := ifp h hc12
        refine lv_aload_n hx hb dX11_recipe_65 rfl (lv_at hl 0 rfl) ?_
        refine lv_iconst (v := 3) hx hb dX11_recipe_66 (by decide) ?_
        obtain ⟨⟨v13, t14⟩, hf15, h⟩ := bn_c h
        have h := un2_d h
        refine X_callV C0 hw (As := [.int (3 : Int32)]) (rest := []) (mX11_refused l E hL st hf15) (cwV 1 C0.1.2.2.2.2 gX11_recipe_X11_refused rfl rfl rfl (by decide +kernel) ⟨Nat.le_of_ble_eq_true rfl, Nat.le_of_ble_eq_true rfl⟩) (X_recv_0 C0 hw (by decide)) rfl hl.1 rfl (Nat.le_of_ble_eq_true rfl) dX11_recipe_67 ⟨Nat.zero_le _, Nat.zero_le _⟩ (fun H locs hw => ?_)
        refine W.eq (g2 := F0 m 70 ls [.int v13]) rfl ?_
        cases h
        exact W.iret hx hb hr (X_fin C0 hw) hw.2.2.2 dX11_recipe_70 hlocks
      · have h := ifn h hc12
        refine lv_iload hx hb dX11_recipe_33 (lv_at hl 6 rfl) ?_
        refine lv_iconst (v := 1) hx hb dX11_recipe_35 (by decide) ?_
        refine lv_iconst (v := 3) hx hb dX11_recipe_36 (by decide) ?_
        obtain ⟨v16, hf17, h⟩ := bn_c h
        refine X_callS C0 hw (As := [.int a6, .int (1 : Int32), .int (3 : Int32)]) (rest := []) (mX11_isWithin l E hL st hf17) (va_cwS 3 C0.1.2.2.2.2 gX11_recipe_X11_isWithin rfl rfl rfl (by decide +kernel) ⟨Nat.le_of_ble_eq_true rfl, Nat.le_of_ble_eq_true rfl⟩) rfl hl.1 rfl (Nat.le_of_ble_eq_true rfl) dX11_recipe_37 ⟨Nat.zero_le _, Nat.zero_le _⟩ (fun H locs hw => ?_)
        refine W.eq (g2 := F0 m 40 ls [.int v16]) rfl ?_
        refine lv_if_eq (tgt := 65) hx hb dX11_recipe_40 (by decide) (fun hc18 => ?_) (fun hc18 => ?_)
        · have h := ifp h hc18
          refine lv_aload_n hx hb dX11_recipe_65 rfl (lv_at hl 0 rfl) ?_
          refine lv_iconst (v := 3) hx hb dX11_recipe_66 (by decide) ?_
          obtain ⟨⟨v19, t20⟩, hf21, h⟩ := bn_c h
          have h := un2_d h
          refine X_callV C0 hw (As := [.int (3 : Int32)]) (rest := []) (mX11_refused l E hL st hf21) (cwV 1 C0.1.2.2.2.2 gX11_recipe_X11_refused rfl rfl rfl (by decide +kernel) ⟨Nat.le_of_ble_eq_true rfl, Nat.le_of_ble_eq_true rfl⟩) (X_recv_0 C0 hw (by decide)) rfl hl.1 rfl (Nat.le_of_ble_eq_true rfl) dX11_recipe_67 ⟨Nat.zero_le _, Nat.zero_le _⟩ (fun H locs hw => ?_)
          refine W.eq (g2 := F0 m 70 ls [.int v19]) rfl ?_
          cases h
          exact W.iret hx hb hr (X_fin C0 hw) hw.2.2.2 dX11_recipe_70 hlocks
        · have h := ifn h hc18
          refine lv_iload hx hb dX11_recipe_43 (lv_at hl 7 rfl) ?_
          refine lv_iload hx hb dX11_recipe_45 (lv_at hl 8 rfl) ?_
          obtain ⟨v22, hf23, h⟩ := bn_c h
          refine X_callS C0 hw (As := [.int a7, .int a8]) (rest := []) (mX11_isGrid l E hL st hf23) (va_cwS 2 C0.1.2.2.2.2 gX11_recipe_X11_isGrid rfl rfl rfl (by decide +kernel) ⟨Nat.le_of_ble_eq_true rfl, Nat.le_of_ble_eq_true rfl⟩) rfl hl.1 rfl (Nat.le_of_ble_eq_true rfl) dX11_recipe_47 ⟨Nat.zero_le _, Nat.zero_le _⟩ (fun H locs hw => ?_)
          refine W.eq (g2 := F0 m 50 ls [.int v22]) rfl ?_
          refine lv_if_eq (tgt := 65) hx hb dX11_recipe_50 (by decide) (fun hc24 => ?_) (fun hc24 => ?_)
          · have h := ifp h hc24
            refine lv_aload_n hx hb dX11_recipe_65 rfl (lv_at hl 0 rfl) ?_
            refine lv_iconst (v := 3) hx hb dX11_recipe_66 (by decide) ?_
            obtain ⟨⟨v25, t26⟩, hf27, h⟩ := bn_c h
            have h := un2_d h
            refine X_callV C0 hw (As := [.int (3 : Int32)]) (rest := []) (mX11_refused l E hL st hf27) (cwV 1 C0.1.2.2.2.2 gX11_recipe_X11_refused rfl rfl rfl (by decide +kernel) ⟨Nat.le_of_ble_eq_true rfl, Nat.le_of_ble_eq_true rfl⟩) (X_recv_0 C0 hw (by decide)) rfl hl.1 rfl (Nat.le_of_ble_eq_true rfl) dX11_recipe_67 ⟨Nat.zero_le _, Nat.zero_le _⟩ (fun H locs hw => ?_)
            refine W.eq (g2 := F0 m 70 ls [.int v25]) rfl ?_
            cases h
            exact W.iret hx hb hr (X_fin C0 hw) hw.2.2.2 dX11_recipe_70 hlocks
          · have h := ifn h hc24
            refine lv_iload hx hb dX11_recipe_53 (lv_at hl 5 rfl) ?_
            refine lv_aload_n hx hb dX11_recipe_55 rfl (lv_at hl 0 rfl) ?_
            refine X_g0_3 C0 hw (fun w h => (List.mem_cons_of_mem _ (List.mem_append_left _ (List.mem_append_left _ (List.mem_append_left _ (List.mem_append_left _ (List.mem_append_left _ (List.mem_append_left _ (List.mem_append_right _ h))))))))) (by decide) ((List.mem_cons_of_mem _ (List.mem_append_left _ (List.mem_append_left _ (List.mem_append_left _ (List.mem_append_left _ (List.mem_append_left _ (List.mem_append_left _ (List.mem_append_left _ (List.mem_append_left _ (List.mem_of_getElem? (i := 0) rfl))))))))))) dX11_recipe_56 ?_
            refine lv_iconst (v := 2) hx hb dX11_recipe_59 (by decide) ?_
            refine X_ialdL C0 hw (vp_in_iff.mpr (by decide +kernel)) (k := 2) rfl dX11_recipe_60 ?_
            refine lv_iushr hx hb dX11_recipe_61 rfl ?_
            refine lv_if_eq (tgt := 71) hx hb dX11_recipe_62 (by decide) (fun hc28 => ?_) (fun hc28 => ?_)
            · have h := ifp h hc28
              refine lv_aload_n hx hb dX11_recipe_71 rfl (lv_at hl 0 rfl) ?_
              refine X_g0_15 C0 hw (fun w h => (List.mem_cons_of_mem _ (List.mem_append_left _ (List.mem_append_left _ (List.mem_append_left _ (List.mem_append_left _ (List.mem_append_left _ (List.mem_append_left _ (List.mem_append_right _ h))))))))) (by decide) ((List.mem_cons_of_mem _ (List.mem_append_left _ (List.mem_append_left _ (List.mem_append_left _ (List.mem_append_left _ (List.mem_append_left _ (List.mem_append_left _ (List.mem_append_left _ (List.mem_append_left _ (List.mem_of_getElem? (i := 1) rfl))))))))))) dX11_recipe_72 ?_
              refine lv_iload hx hb dX11_recipe_75 (lv_at hl 6 rfl) ?_
              refine lv_iload hx hb dX11_recipe_77 (lv_at hl 7 rfl) ?_
              refine lv_iconst (v := 0) hx hb dX11_recipe_79 (by decide) ?_
              obtain ⟨t29, hf30, h⟩ := bn_c h
              refine X_callV C0 hw (As := [.int a6, .int a7, .int (0 : Int32)]) (rest := []) (mX8_begin l E hL st (by decide) hf30) (cwV 3 C0.1.2.2.2.2 gX11_recipe_X8_begin rfl rfl rfl (by decide +kernel) ⟨Nat.le_of_ble_eq_true rfl, Nat.le_of_ble_eq_true rfl⟩) (X_recv_16 C0 hw (by decide)) rfl hl.1 rfl (Nat.le_of_ble_eq_true rfl) dX11_recipe_80 ⟨Nat.zero_le _, Nat.zero_le _⟩ (fun H locs hw => ?_)
              refine W.eq (g2 := F0 m 83 ls []) rfl ?_
              refine lv_iconst (v := 0) hx hb dX11_recipe_83 (by decide) ?_
              refine lv_istore (lv' := [(9, .int (0 : Int32)), (0, .ref (E.2.2.1 0 (0))), (1, .int a1), (2, .int a2), (3, .int a3), (4, .int a4), (5, .int a5), (6, .int a6), (7, .int a7), (8, .int a8)]) hx hb dX11_recipe_84 hl (by decide) rfl (fun ls hl => ?_)
              refine lp_ind (fun q : (Int32 × Sto) => ∀ (H : Heap) (locs : List Loc), SX E s (q.2) H locs → ∀ ls : Array Slot, lv_has ls 10 [(9, .int (q.1)), (0, .ref (E.2.2.1 0 (0))), (1, .int a1), (2, .int a2), (3, .int a3), (4, .int a4), (5, .int a5), (8, .int a8)] → W p l e (headSpec wsX11_recipe ({ frames := 6, cells := 0, slots := 0, locals := 160 })).room s m ([.ref (E.2.2.1 0 (0)), .int a1, .int a2, .int a3, .int a4, .int a5, .int a6, .int a7, .int a8] : List Value).toArray below meth c H locs 0 0 (MQ below (QX E (some (.int r)) st1) ([.ref (E.2.2.1 0 (0)), .int a1, .int a2, .int a3, .int a4, .int a5, .int a6, .int a7, .int a8] : List Value).toArray s 0 0 E.2.2.2) (F0 m 86 ls [])) (fun q o33 h hB32 hX31 => ?_) _ _ h _ _ hw _ (lv_sub hl [0, 1, 2, 3, 4, 5, 6, 9] rfl)
              intro H locs hw ls hl
              obtain ⟨v34, t35⟩ := q
              have h := un2_d h
              have hw : SX E s t35 H locs := hw
              have hl : lv_has ls 10 [(9, .int v34), (0, .ref (E.2.2.1 0 (0))), (1, .int a1), (2, .int a2), (3, .int a3), (4, .int a4), (5, .int a5), (8, .int a8)] := hl
              refine lv_iload hx hb dX11_recipe_86 (lv_at hl 0 rfl) ?_
              refine lv_aload_n hx hb dX11_recipe_88 rfl (lv_at hl 1 rfl) ?_
              refine X_g0_3 C0 hw (fun w h => (List.mem_cons_of_mem _ (List.mem_append_left _ (List.mem_append_left _ (List.mem_append_left _ (List.mem_append_left _ (List.mem_append_left _ (List.mem_append_left _ (List.mem_append_right _ h))))))))) (by decide) ((List.mem_cons_of_mem _ (List.mem_append_left _ (List.mem_append_left _ (List.mem_append_left _ (List.mem_append_left _ (List.mem_append_left _ (List.mem_append_left _ (List.mem_append_left _ (List.mem_append_left _ (List.mem_of_getElem? (i := 0) rfl))))))))))) dX11_recipe_89 ?_
              refine lv_iconst (v := 2) hx hb dX11_recipe_92 (by decide) ?_
              refine X_ialdL C0 hw (vp_in_iff.mpr (by decide +kernel)) (k := 2) rfl dX11_recipe_93 ?_
              refine lv_icmp_ge (tgt := 125) hx hb dX11_recipe_94 (by decide) (fun hc37 => ?_) (fun hc37 => ?_)
              · have h := ifp h hc37
                have h := hX31 _ (Option.some.inj h).symm
                have hl := lv_sub hl (l' := [(0, .ref (E.2.2.1 0 (0))), (1, .int a1), (2, .int a2), (3, .int a3), (4, .int a4)]) [1, 2, 3, 4, 5] rfl
                refine lv_aload_n hx hb dX11_recipe_125 rfl (lv_at hl 0 rfl) ?_
                refine X_g0_12 C0 hw (fun w h => (List.mem_cons_of_mem _ (List.mem_append_left _ (List.mem_append_left _ (List.mem_append_left _ (List.mem_append_left _ (List.mem_append_left _ (List.mem_append_left _ (List.mem_append_right _ h))))))))) (by decide) ((List.mem_cons_of_mem _ (List.mem_append_left _ (List.mem_append_left _ (List.mem_append_left _ (List.mem_append_left _ (List.mem_append_left _ (List.mem_append_left _ (List.mem_append_left _ (List.mem_append_left _ (List.mem_of_getElem? (i := 2) rfl))))))))))) dX11_recipe_126 ?_
                refine lv_iload_n hx hb dX11_recipe_129 rfl (lv_at hl 3 rfl) ?_
                refine lv_iload hx hb dX11_recipe_130 (lv_at hl 4 rfl) ?_
                obtain ⟨t38, hf39, h⟩ := bn_c h
                refine X_callV C0 hw (As := [.int a3, .int a4]) (rest := []) (mX9_aim l E hL t35 hf39) (cwV 2 C0.1.2.2.2.2 gX11_recipe_X9_aim rfl rfl rfl (by decide +kernel) ⟨Nat.le_of_ble_eq_true rfl, Nat.le_of_ble_eq_true rfl⟩) (X_recv_13 C0 hw (by decide)) rfl hl.1 rfl (Nat.le_of_ble_eq_true rfl) dX11_recipe_132 ⟨Nat.zero_le _, Nat.zero_le _⟩ (fun H locs hw => ?_)
                refine W.eq (g2 := F0 m 135 ls []) rfl ?_
                refine lv_aload_n hx hb dX11_recipe_135 rfl (lv_at hl 0 rfl) ?_
                refine X_g0_12 C0 hw (fun w h => (List.mem_cons_of_mem _ (List.mem_append_left _ (List.mem_append_left _ (List.mem_append_left _ (List.mem_append_left _ (List.mem_append_left _ (List.mem_append_left _ (List.mem_append_right _ h))))))))) (by decide) ((List.mem_cons_of_mem _ (List.mem_append_left _ (List.mem_append_left _ (List.mem_append_left _ (List.mem_append_left _ (List.mem_append_left _ (List.mem_append_left _ (List.mem_append_left _ (List.mem_append_left _ (List.mem_of_getElem? (i := 2) rfl))))))))))) dX11_recipe_136 ?_
                refine lv_aload_n hx hb dX11_recipe_139 rfl (lv_at hl 0 rfl) ?_
                refine X_g0_4 C0 hw (fun w h => (List.mem_cons_of_mem _ (List.mem_append_left _ (List.mem_append_left _ (List.mem_append_left _ (List.mem_append_left _ (List.mem_append_left _ (List.mem_append_left _ (List.mem_append_right _ h))))))))) (by decide) ((List.mem_cons_of_mem _ (List.mem_append_left _ (List.mem_append_left _ (List.mem_append_left _ (List.mem_append_left _ (List.mem_append_left _ (List.mem_append_left _ (List.mem_append_left _ (List.mem_append_left _ (List.mem_of_getElem? (i := 3) rfl))))))))))) dX11_recipe_140 ?_
                refine lv_iload_n hx hb dX11_recipe_143 rfl (lv_at hl 1 rfl) ?_
                refine X_ald_4 C0 hw (by decide) h (k := a1.toNatClampNeg) rfl dX11_recipe_144 (fun hk40 h => ?_)
                refine X_g19_0 C0 hw (fun w h => (List.mem_cons_of_mem _ (List.mem_append_left _ (List.mem_append_left _ (List.mem_append_left _ (List.mem_append_left _ (List.mem_append_left _ (List.mem_append_right _ h)))))))) hk40 ((List.mem_cons_of_mem _ (List.mem_append_left _ (List.mem_append_left _ (List.mem_append_left _ (List.mem_append_left _ (List.mem_append_left _ (List.mem_append_left _ (List.mem_append_left _ (List.mem_append_left _ (List.mem_of_getElem? (i := 4) rfl))))))))))) dX11_recipe_145 ?_
                obtain ⟨t41, hf42, h⟩ := bn_c h
                refine X_callV C0 hw (As := [.ref (E.2.2.1 (20) (a1.toNatClampNeg))]) (rest := []) (mX9_setGoal l E hL t38 hf42) (cwV 1 C0.1.2.2.2.2 gX11_recipe_X9_setGoal rfl rfl rfl (by decide +kernel) ⟨Nat.le_of_ble_eq_true rfl, Nat.le_of_ble_eq_true rfl⟩) (X_recv_13 C0 hw (by decide)) rfl hl.1 rfl (Nat.le_of_ble_eq_true rfl) dX11_recipe_148 ⟨Nat.zero_le _, Nat.zero_le _⟩ (fun H locs hw => ?_)
                refine W.eq (g2 := F0 m 151 ls []) rfl ?_
                refine lv_aload_n hx hb dX11_recipe_151 rfl (lv_at hl 0 rfl) ?_
                refine lv_aload_n hx hb dX11_recipe_152 rfl (lv_at hl 0 rfl) ?_
                refine X_g0_5 C0 hw (fun w h => (List.mem_cons_of_mem _ (List.mem_append_left _ (List.mem_append_left _ (List.mem_append_left _ (List.mem_append_left _ (List.mem_append_left _ (List.mem_append_left _ (List.mem_append_right _ h))))))))) (by decide) ((List.mem_cons_of_mem _ (List.mem_append_left _ (List.mem_append_left _ (List.mem_append_left _ (List.mem_append_left _ (List.mem_append_left _ (List.mem_append_left _ (List.mem_append_left _ (List.mem_append_left _ (List.mem_of_getElem? (i := 5) rfl))))))))))) dX11_recipe_153 ?_
                refine lv_iload_n hx hb dX11_recipe_156 rfl (lv_at hl 2 rfl) ?_
                refine X_ald_5 C0 hw (by decide) h (k := a2.toNatClampNeg) rfl dX11_recipe_157 (fun hk43 h => ?_)
                obtain ⟨t44, hf45, h⟩ := bn_c h
                refine X_callV C0 hw (As := [.ref (E.2.2.1 (6) (a2.toNatClampNeg))]) (rest := []) (mX11_tryRecipe l E hL t41 hf45) (cwV 1 C0.1.2.2.2.2 gX11_recipe_X11_tryRecipe rfl rfl rfl (by decide +kernel) ⟨Nat.le_of_ble_eq_true rfl, Nat.le_of_ble_eq_true rfl⟩) (X_recv_0 C0 hw (by decide)) rfl hl.1 rfl (Nat.le_of_ble_eq_true rfl) dX11_recipe_158 ⟨Nat.zero_le _, Nat.zero_le _⟩ (fun H locs hw => ?_)
                refine W.eq (g2 := F0 m 161 ls []) rfl ?_
                refine lv_iconst (v := 1) hx hb dX11_recipe_161 (by decide) ?_
                refine lv_istore (lv' := [(9, .int (1 : Int32)), (0, .ref (E.2.2.1 0 (0))), (1, .int a1), (2, .int a2), (3, .int a3), (4, .int a4)]) hx hb dX11_recipe_162 hl (by decide) rfl (fun ls hl => ?_)
                refine bn_K h (fun K52 hK53 h => ?_)
                have HX54 : ∀ (t51 : Sto), K52 t51 = some (r, st1) → ∀ (H : Heap) (locs : List Loc), SX E s t51 H locs → ∀ ls : Array Slot, lv_has ls 10 [(0, .ref (E.2.2.1 0 (0)))] → W p l e (headSpec wsX11_recipe ({ frames := 6, cells := 0, slots := 0, locals := 160 })).room s m ([.ref (E.2.2.1 0 (0)), .int a1, .int a2, .int a3, .int a4, .int a5, .int a6, .int a7, .int a8] : List Value).toArray below meth c H locs 0 0 (MQ below (QX E (some (.int r)) st1) ([.ref (E.2.2.1 0 (0)), .int a1, .int a2, .int a3, .int a4, .int a5, .int a6, .int a7, .int a8] : List Value).toArray s 0 0 E.2.2.2) (F0 m 198 ls []) := by
                  intro t51 h H locs hw ls hl
                  have h := kk1 h hK53
                  refine lv_aload_n hx hb dX11_recipe_198 rfl (lv_at hl 0 rfl) ?_
                  refine X_g0_15 C0 hw (fun w h => (List.mem_cons_of_mem _ (List.mem_append_left _ (List.mem_append_left _ (List.mem_append_left _ (List.mem_append_left _ (List.mem_append_left _ (List.mem_append_left _ (List.mem_append_right _ h))))))))) (by decide) ((List.mem_cons_of_mem _ (List.mem_append_left _ (List.mem_append_left _ (List.mem_append_left _ (List.mem_append_left _ (List.mem_append_left _ (List.mem_append_left _ (List.mem_append_left _ (List.mem_append_left _ (List.mem_of_getElem? (i := 1) rfl))))))))))) dX11_recipe_199 ?_
                  obtain ⟨t55, hf56, h⟩ := bn_c h
                  refine X_callV C0 hw (As := []) (rest := []) (mX8_end l E hL t51 (by decide) hf56) (cwV 0 C0.1.2.2.2.2 gX11_recipe_X8_end rfl rfl rfl (by decide +kernel) ⟨Nat.le_of_ble_eq_true rfl, Nat.le_of_ble_eq_true rfl⟩) (X_recv_16 C0 hw (by decide)) rfl hl.1 rfl (Nat.le_of_ble_eq_true rfl) dX11_recipe_202 ⟨Nat.zero_le _, Nat.zero_le _⟩ (fun H locs hw => ?_)
                  refine W.eq (g2 := F0 m 205 ls []) rfl ?_
                  refine lv_aload_n hx hb dX11_recipe_205 rfl (lv_at hl 0 rfl) ?_
                  obtain ⟨⟨v57, t58⟩, hf59, h⟩ := bn_c h
                  have h := un2_d h
                  refine X_callV C0 hw (As := []) (rest := []) (mX11_accept l E hL t55 hf59) (cwV 0 C0.1.2.2.2.2 gX11_recipe_X11_accept rfl rfl rfl (by decide +kernel) ⟨Nat.le_of_ble_eq_true rfl, Nat.le_of_ble_eq_true rfl⟩) (X_recv_0 C0 hw (by decide)) rfl hl.1 rfl (Nat.le_of_ble_eq_true rfl) dX11_recipe_206 ⟨Nat.zero_le _, Nat.zero_le _⟩ (fun H locs hw => ?_)
                  refine W.eq (g2 := F0 m 209 ls [.int v57]) rfl ?_
                  refine lv_pop hx hb dX11_recipe_209 rfl ?_
                  refine lv_aload_n hx hb dX11_recipe_210 rfl (lv_at hl 0 rfl) ?_
                  refine X_g0_15 C0 hw (fun w h => (List.mem_cons_of_mem _ (List.mem_append_left _ (List.mem_append_left _ (List.mem_append_left _ (List.mem_append_left _ (List.mem_append_left _ (List.mem_append_left _ (List.mem_append_right _ h))))))))) (by decide) ((List.mem_cons_of_mem _ (List.mem_append_left _ (List.mem_append_left _ (List.mem_append_left _ (List.mem_append_left _ (List.mem_append_left _ (List.mem_append_left _ (List.mem_append_left _ (List.mem_append_left _ (List.mem_of_getElem? (i := 1) rfl))))))))))) dX11_recipe_211 ?_
                  refine X_g16_16 C0 hw (fun w h => (List.mem_cons_of_mem _ (List.mem_append_left _ (List.mem_append_left _ (List.mem_append_left _ (List.mem_append_left _ (List.mem_append_right _ h))))))) (by decide) ((List.mem_cons_of_mem _ (List.mem_append_left _ (List.mem_append_left _ (List.mem_append_left _ (List.mem_append_left _ (List.mem_append_left _ (List.mem_append_left _ (List.mem_append_left _ (List.mem_append_left _ (List.mem_of_getElem? (i := 6) rfl))))))))))) dX11_recipe_214 ?_
                  cases h
                  exact W.iret hx hb hr (X_fin C0 hw) hw.2.2.2 dX11_recipe_217 hlocks
                refine lp_ind (fun q : (Int32 × Sto) => ∀ (H : Heap) (locs : List Loc), SX E s (q.2) H locs → ∀ ls : Array Slot, lv_has ls 10 [(9, .int (q.1)), (0, .ref (E.2.2.1 0 (0))), (2, .int a2)] → W p l e (headSpec wsX11_recipe ({ frames := 6, cells := 0, slots := 0, locals := 160 })).room s m ([.ref (E.2.2.1 0 (0)), .int a1, .int a2, .int a3, .int a4, .int a5, .int a6, .int a7, .int a8] : List Value).toArray below meth c H locs 0 0 (MQ below (QX E (some (.int r)) st1) ([.ref (E.2.2.1 0 (0)), .int a1, .int a2, .int a3, .int a4, .int a5, .int a6, .int a7, .int a8] : List Value).toArray s 0 0 E.2.2.2) (F0 m 164 ls [])) (fun q o48 h hB47 hX46 => ?_) _ _ h _ _ hw _ (lv_sub hl [0, 1, 3] rfl)
                intro H locs hw ls hl
                obtain ⟨v49, t50⟩ := q
                have h := un2_d h
                have hw : SX E s t50 H locs := hw
                have hl : lv_has ls 10 [(9, .int v49), (0, .ref (E.2.2.1 0 (0))), (2, .int a2)] := hl
                refine lv_iload hx hb dX11_recipe_164 (lv_at hl 0 rfl) ?_
                refine lv_sipush (v := 1000) hx hb dX11_recipe_166 (by decide) ?_
                refine lv_icmp_ge (tgt := 198) hx hb dX11_recipe_169 (by decide) (fun hc60 => ?_) (fun hc60 => ?_)
                · have h := ifp h hc60
                  have h := hX46 _ (Option.some.inj h).symm
                  exact HX54 _ h _ _ hw _ (lv_sub hl [1] rfl)
                · have h := ifn h hc60
                  refine lv_aload_n hx hb dX11_recipe_172 rfl (lv_at hl 1 rfl) ?_
                  refine X_g0_15 C0 hw (fun w h => (List.mem_cons_of_mem _ (List.mem_append_left _ (List.mem_append_left _ (List.mem_append_left _ (List.mem_append_left _ (List.mem_append_left _ (List.mem_append_left _ (List.mem_append_right _ h))))))))) (by decide) ((List.mem_cons_of_mem _ (List.mem_append_left _ (List.mem_append_left _ (List.mem_append_left _ (List.mem_append_left _ (List.mem_append_left _ (List.mem_append_left _ (List.mem_append_left _ (List.mem_append_left _ (List.mem_of_getElem? (i := 1) rfl))))))))))) dX11_recipe_173 ?_
                  obtain ⟨⟨v61, t62⟩, hf63, h⟩ := bn_c h
                  have h := un2_d h
                  refine X_callV C0 hw (As := []) (rest := []) (mX8_advance l E hL t50 (by decide) hf63) (cwV 0 C0.1.2.2.2.2 gX11_recipe_X8_advance rfl rfl rfl (by decide +kernel) ⟨Nat.le_of_ble_eq_true rfl, Nat.le_of_ble_eq_true rfl⟩) (X_recv_16 C0 hw (by decide)) rfl hl.1 rfl (Nat.le_of_ble_eq_true rfl) dX11_recipe_176 ⟨Nat.zero_le _, Nat.zero_le _⟩ (fun H locs hw => ?_)
                  refine W.eq (g2 := F0 m 179 ls [.int v61]) rfl ?_
                  refine lv_if_eq (tgt := 198) hx hb dX11_recipe_179 (by decide) (fun hc64 => ?_) (fun hc64 => ?_)
                  · have h := ifp h hc64
                    have h := hX46 _ (Option.some.inj h).symm
                    exact HX54 _ h _ _ hw _ (lv_sub hl [1] rfl)
                  · have h := ifn h hc64
                    refine lv_aload_n hx hb dX11_recipe_182 rfl (lv_at hl 1 rfl) ?_
                    refine lv_aload_n hx hb dX11_recipe_183 rfl (lv_at hl 1 rfl) ?_
                    refine X_g0_5 C0 hw (fun w h => (List.mem_cons_of_mem _ (List.mem_append_left _ (List.mem_append_left _ (List.mem_append_left _ (List.mem_append_left _ (List.mem_append_left _ (List.mem_append_left _ (List.mem_append_right _ h))))))))) (by decide) ((List.mem_cons_of_mem _ (List.mem_append_left _ (List.mem_append_left _ (List.mem_append_left _ (List.mem_append_left _ (List.mem_append_left _ (List.mem_append_left _ (List.mem_append_left _ (List.mem_append_left _ (List.mem_of_getElem? (i := 5) rfl))))))))))) dX11_recipe_184 ?_
                    refine lv_iload_n hx hb dX11_recipe_187 rfl (lv_at hl 2 rfl) ?_
                    refine X_ald_5 C0 hw (by decide) h (k := a2.toNatClampNeg) rfl dX11_recipe_188 (fun hk65 h => ?_)
                    obtain ⟨t66, hf67, h⟩ := bn_c h
                    refine X_callV C0 hw (As := [.ref (E.2.2.1 (6) (a2.toNatClampNeg))]) (rest := []) (mX11_tryRecipe l E hL t62 hf67) (cwV 1 C0.1.2.2.2.2 gX11_recipe_X11_tryRecipe rfl rfl rfl (by decide +kernel) ⟨Nat.le_of_ble_eq_true rfl, Nat.le_of_ble_eq_true rfl⟩) (X_recv_0 C0 hw (by decide)) rfl hl.1 rfl (Nat.le_of_ble_eq_true rfl) dX11_recipe_189 ⟨Nat.zero_le _, Nat.zero_le _⟩ (fun H locs hw => ?_)
                    refine W.eq (g2 := F0 m 192 ls []) rfl ?_
                    refine x_iinc hx hb h dX11_recipe_192 hl (q := 0) rfl (fun v68 => [(9, .int v68), (0, .ref (E.2.2.1 0 (0))), (2, .int a2)]) (by decide) (fun _ => rfl) (fun v68 ls hl h => ?_)
                    refine lv_goto (tgt := 164) hx hb dX11_recipe_195 (by decide) ?_
                    exact hB47 _ (Option.some.inj h).symm _ _ hw _ (lv_sub hl [0, 1, 2] rfl)
              · have h := ifn h hc37
                refine lv_iload hx hb dX11_recipe_97 (lv_at hl 6 rfl) ?_
                refine lv_iload hx hb dX11_recipe_99 (lv_at hl 0 rfl) ?_
                refine lv_iushr hx hb dX11_recipe_101 rfl ?_
                refine lv_iconst (v := 1) hx hb dX11_recipe_102 (by decide) ?_
                refine lv_iand hx hb dX11_recipe_103 ?_
                refine lv_if_eq (tgt := 119) hx hb dX11_recipe_104 (by decide) (fun hc69 => ?_) (fun hc69 => ?_)
                · have h := ifp h hc69
                  refine x_iinc hx hb h dX11_recipe_119 hl (q := 0) rfl (fun v70 => [(9, .int v70), (0, .ref (E.2.2.1 0 (0))), (1, .int a1), (2, .int a2), (3, .int a3), (4, .int a4), (5, .int a5), (8, .int a8)]) (by decide) (fun _ => rfl) (fun v70 ls hl h => ?_)
                  refine lv_goto (tgt := 86) hx hb dX11_recipe_122 (by decide) ?_
                  exact hB32 _ (Option.some.inj h).symm _ _ hw _ (lv_sub hl [0, 1, 2, 3, 4, 5, 6, 7] rfl)
                · have h := ifn h hc69
                  refine lv_aload_n hx hb dX11_recipe_107 rfl (lv_at hl 1 rfl) ?_
                  refine X_g0_15 C0 hw (fun w h => (List.mem_cons_of_mem _ (List.mem_append_left _ (List.mem_append_left _ (List.mem_append_left _ (List.mem_append_left _ (List.mem_append_left _ (List.mem_append_left _ (List.mem_append_right _ h))))))))) (by decide) ((List.mem_cons_of_mem _ (List.mem_append_left _ (List.mem_append_left _ (List.mem_append_left _ (List.mem_append_left _ (List.mem_append_left _ (List.mem_append_left _ (List.mem_append_left _ (List.mem_append_left _ (List.mem_of_getElem? (i := 1) rfl))))))))))) dX11_recipe_108 ?_
                  refine lv_iload hx hb dX11_recipe_111 (lv_at hl 0 rfl) ?_
                  refine lv_iload hx hb dX11_recipe_113 (lv_at hl 7 rfl) ?_
                  refine lv_iconst (v := 0) hx hb dX11_recipe_115 (by decide) ?_
                  obtain ⟨t71, hf72, h⟩ := bn_c h
                  refine X_callV C0 hw (As := [.int v34, .int a8, .int (0 : Int32)]) (rest := []) (mX8_offer l E hL t35 (by decide) hf72) (cwV 3 C0.1.2.2.2.2 gX11_recipe_X8_offer rfl rfl rfl (by decide +kernel) ⟨Nat.le_of_ble_eq_true rfl, Nat.le_of_ble_eq_true rfl⟩) (X_recv_16 C0 hw (by decide)) rfl hl.1 rfl (Nat.le_of_ble_eq_true rfl) dX11_recipe_116 ⟨Nat.zero_le _, Nat.zero_le _⟩ (fun H locs hw => ?_)
                  refine W.eq (g2 := F0 m 119 ls []) rfl ?_
                  refine x_iinc hx hb h dX11_recipe_119 hl (q := 0) rfl (fun v73 => [(9, .int v73), (0, .ref (E.2.2.1 0 (0))), (1, .int a1), (2, .int a2), (3, .int a3), (4, .int a4), (5, .int a5), (8, .int a8)]) (by decide) (fun _ => rfl) (fun v73 ls hl h => ?_)
                  refine lv_goto (tgt := 86) hx hb dX11_recipe_122 (by decide) ?_
                  exact hB32 _ (Option.some.inj h).symm _ _ hw _ (lv_sub hl [0, 1, 2, 3, 4, 5, 6, 7] rfl)
            · have h := ifn h hc28
              refine lv_aload_n hx hb dX11_recipe_65 rfl (lv_at hl 0 rfl) ?_
              refine lv_iconst (v := 3) hx hb dX11_recipe_66 (by decide) ?_
              obtain ⟨⟨v105, t106⟩, hf107, h⟩ := bn_c h
              have h := un2_d h
              refine X_callV C0 hw (As := [.int (3 : Int32)]) (rest := []) (mX11_refused l E hL st hf107) (cwV 1 C0.1.2.2.2.2 gX11_recipe_X11_refused rfl rfl rfl (by decide +kernel) ⟨Nat.le_of_ble_eq_true rfl, Nat.le_of_ble_eq_true rfl⟩) (X_recv_0 C0 hw (by decide)) rfl hl.1 rfl (Nat.le_of_ble_eq_true rfl) dX11_recipe_67 ⟨Nat.zero_le _, Nat.zero_le _⟩ (fun H locs hw => ?_)
              refine W.eq (g2 := F0 m 70 ls [.int v105]) rfl ?_
              cases h
              exact W.iret hx hb hr (X_fin C0 hw) hw.2.2.2 dX11_recipe_70 hlocks
    · have h := ifp h hc9
      refine lv_aload_n hx hb dX11_recipe_18 rfl (lv_at hl 0 rfl) ?_
      refine lv_iconst (v := 2) hx hb dX11_recipe_19 (by decide) ?_
      obtain ⟨⟨v108, t109⟩, hf110, h⟩ := bn_c h
      have h := un2_d h
      refine X_callV C0 hw (As := [.int (2 : Int32)]) (rest := []) (mX11_refused l E hL st hf110) (cwV 1 C0.1.2.2.2.2 gX11_recipe_X11_refused rfl rfl rfl (by decide +kernel) ⟨Nat.le_of_ble_eq_true rfl, Nat.le_of_ble_eq_true rfl⟩) (X_recv_0 C0 hw (by decide)) rfl hl.1 rfl (Nat.le_of_ble_eq_true rfl) dX11_recipe_20 ⟨Nat.zero_le _, Nat.zero_le _⟩ (fun H locs hw => ?_)
      refine W.eq (g2 := F0 m 23 ls [.int v108]) rfl ?_
      cases h
      exact W.iret hx hb hr (X_fin C0 hw) hw.2.2.2 dX11_recipe_23 hlocks

def fX11_recipeOf (a1 : Int32) (st : Sto) : Option Int32 :=
  (fX8_resultOf (0) a1 st).bind (fun (v1 : Int32) =>
   some v1)
set_option maxHeartbeats 4000000 in
set_option maxRecDepth 100000 in
theorem mX11_recipeOf (l : Launch) (E : XE) (hL : LX E) (st : Sto) {a1 : Int32} {r : Int32} (h : fX11_recipeOf a1 st = some r) : Met l yX11_recipeOf wsX11_recipeOf ({ frames := 1, cells := 0, slots := 0, locals := 22 }) (va_Pc [.ref (E.2.2.1 0 (0)), .int a1] (RX E st)) (QX E (some (.int r)) st) 0 0 E.2.2.2 := by
  refine Met.ofW (cc := cX11_recipeOf) (maxL := 2) (ret := (some .int)) (by decide) rfl ?_
  intro p e s m args below meth c s₁ B hml hv
  obtain ⟨rfl, hP, hK⟩ := hv
  have hown : s.vm.findClass RX11 = some m.cls := findClass_of_methodNamed B.named
  have C0 : CX p m c cX11_recipeOf 2 s _ wsX11_recipeOf RX11 E := ⟨⟨B.exec, B.bytes, hml, hown, atoms_spec (ws := wsX11_recipeOf) B.pre⟩, hK⟩
  have hx := B.exec
  have hb := B.bytes
  have hr := B.returns
  have hlocks := B.notSynchronized
  have hw : SX E s st s.heap [] := ⟨hP, va_S.rf⟩
  have hl := lv_entry ([.ref (E.2.2.1 0 (0)), .int a1]) (n := 2) (Nat.le_of_ble_eq_true rfl)
  rw [lg_entry_eq]
  generalize (lg_sl ([.ref (E.2.2.1 0 (0)), .int a1]) ++ List.replicate (2 - (lg_sl ([.ref (E.2.2.1 0 (0)), .int a1])).length) Slot.unset).toArray = ls at hl ⊢
  have hl : lv_has ls 2 [(0, .ref (E.2.2.1 0 (0))), (1, .int a1)] := hl
  unfold fX11_recipeOf at h
  refine lv_aload_n hx hb dX11_recipeOf_0 rfl (lv_at hl 0 rfl) ?_
  refine X_g0_15 C0 hw (fun w h => (List.mem_cons_of_mem _ (List.mem_append_left _ (List.mem_append_right _ h)))) (by decide) ((List.mem_cons_of_mem _ (List.mem_append_left _ (List.mem_append_left _ (List.mem_of_getElem? (i := 0) rfl))))) dX11_recipeOf_1 ?_
  refine lv_iload_n hx hb dX11_recipeOf_4 rfl (lv_at hl 1 rfl) ?_
  obtain ⟨v1, hf2, h⟩ := bn_c h
  refine X_callV C0 hw (As := [.int a1]) (rest := []) (mX8_resultOf l E hL st (by decide) hf2) (cwV 1 C0.1.2.2.2.2 gX11_recipeOf_X8_resultOf rfl rfl rfl (by decide +kernel) ⟨Nat.le_of_ble_eq_true rfl, Nat.le_of_ble_eq_true rfl⟩) (X_recv_16 C0 hw (by decide)) rfl hl.1 rfl (Nat.le_of_ble_eq_true rfl) dX11_recipeOf_5 ⟨Nat.zero_le _, Nat.zero_le _⟩ (fun H locs hw => ?_)
  refine W.eq (g2 := F0 m 8 ls [.int v1]) rfl ?_
  cases h
  exact W.iret hx hb hr (X_fin C0 hw) hw.2.2.2 dX11_recipeOf_8 hlocks

def fX11_recipeBy (a1 : Int32) (st : Sto) : Option Int64 :=
  if gI st 16 (0) 12 = 0 then (
   some (0 : Int64)) else (
   if a1 = 0 then (
    (fX7_doubleBits (gD st 16 (0) 17)).bind (fun (v4 : Int64) =>
     some v4)) else (
    if a1 = (1 : Int32) then (
     some (gL st 16 (0) 18)) else (
     some (0 : Int64))))
set_option maxHeartbeats 4000000 in
set_option maxRecDepth 100000 in
theorem mX11_recipeBy (l : Launch) (E : XE) (hL : LX E) (st : Sto) {a1 : Int32} {r : Int64} (h : fX11_recipeBy a1 st = some r) : Met l yX11_recipeBy wsX11_recipeBy ({ frames := 1, cells := 0, slots := 0, locals := 28 }) (va_Pc [.ref (E.2.2.1 0 (0)), .int a1] (RX E st)) (QX E (some (.long r)) st) 0 0 E.2.2.2 := by
  refine Met.ofW (cc := cX11_recipeBy) (maxL := 2) (ret := (some .long)) (by decide) rfl ?_
  intro p e s m args below meth c s₁ B hml hv
  obtain ⟨rfl, hP, hK⟩ := hv
  have hown : s.vm.findClass RX11 = some m.cls := findClass_of_methodNamed B.named
  have C0 : CX p m c cX11_recipeBy 2 s _ wsX11_recipeBy RX11 E := ⟨⟨B.exec, B.bytes, hml, hown, atoms_spec (ws := wsX11_recipeBy) B.pre⟩, hK⟩
  have hx := B.exec
  have hb := B.bytes
  have hr := B.returns
  have hlocks := B.notSynchronized
  have hw : SX E s st s.heap [] := ⟨hP, va_S.rf⟩
  have hl := lv_entry ([.ref (E.2.2.1 0 (0)), .int a1]) (n := 2) (Nat.le_of_ble_eq_true rfl)
  rw [lg_entry_eq]
  generalize (lg_sl ([.ref (E.2.2.1 0 (0)), .int a1]) ++ List.replicate (2 - (lg_sl ([.ref (E.2.2.1 0 (0)), .int a1])).length) Slot.unset).toArray = ls at hl ⊢
  have hl : lv_has ls 2 [(0, .ref (E.2.2.1 0 (0))), (1, .int a1)] := hl
  unfold fX11_recipeBy at h
  refine lv_aload_n hx hb dX11_recipeBy_0 rfl (lv_at hl 0 rfl) ?_
  refine X_g0_15 C0 hw (fun w h => (List.mem_cons_of_mem _ (List.mem_append_left _ (List.mem_append_right _ h)))) (by decide) ((List.mem_cons_of_mem _ (List.mem_append_left _ (List.mem_append_left _ (List.mem_of_getElem? (i := 0) rfl))))) dX11_recipeBy_1 ?_
  refine X_g16_12 C0 hw (fun w h => (List.mem_cons_of_mem _ (List.mem_append_right _ h))) (by decide) ((List.mem_cons_of_mem _ (List.mem_append_left _ (List.mem_append_left _ (List.mem_of_getElem? (i := 1) rfl))))) dX11_recipeBy_4 ?_
  refine lv_if_ne (tgt := 12) hx hb dX11_recipeBy_7 (by decide) (fun hc1 => ?_) (fun hc1 => ?_)
  · have h := ifn h hc1
    refine lv_iload_n hx hb dX11_recipeBy_12 rfl (lv_at hl 1 rfl) ?_
    refine lv_if_ne (tgt := 27) hx hb dX11_recipeBy_13 (by decide) (fun hc2 => ?_) (fun hc2 => ?_)
    · have h := ifn h hc2
      refine lv_iload_n hx hb dX11_recipeBy_27 rfl (lv_at hl 1 rfl) ?_
      refine lv_iconst (v := 1) hx hb dX11_recipeBy_28 (by decide) ?_
      refine lv_icmp_ne (tgt := 42) hx hb dX11_recipeBy_29 (by decide) (fun hc3 => ?_) (fun hc3 => ?_)
      · have h := ifn h hc3
        refine lv_lconst (v := 0) hx hb dX11_recipeBy_42 (by decide) ?_
        cases h
        exact W.lret hx hb hr (X_fin C0 hw) hw.2.2.2 dX11_recipeBy_43 hlocks
      · have h := ifp h hc3
        refine lv_aload_n hx hb dX11_recipeBy_32 rfl (lv_at hl 0 rfl) ?_
        refine X_g0_15 C0 hw (fun w h => (List.mem_cons_of_mem _ (List.mem_append_left _ (List.mem_append_right _ h)))) (by decide) ((List.mem_cons_of_mem _ (List.mem_append_left _ (List.mem_append_left _ (List.mem_of_getElem? (i := 0) rfl))))) dX11_recipeBy_33 ?_
        refine X_g16_18 C0 hw (fun w h => (List.mem_cons_of_mem _ (List.mem_append_right _ h))) (by decide) ((List.mem_cons_of_mem _ (List.mem_append_left _ (List.mem_append_left _ (List.mem_of_getElem? (i := 3) rfl))))) dX11_recipeBy_36 ?_
        refine lv_goto (tgt := 43) hx hb dX11_recipeBy_39 (by decide) ?_
        cases h
        exact W.lret hx hb hr (X_fin C0 hw) hw.2.2.2 dX11_recipeBy_43 hlocks
    · have h := ifp h hc2
      refine lv_aload_n hx hb dX11_recipeBy_16 rfl (lv_at hl 0 rfl) ?_
      refine X_g0_15 C0 hw (fun w h => (List.mem_cons_of_mem _ (List.mem_append_left _ (List.mem_append_right _ h)))) (by decide) ((List.mem_cons_of_mem _ (List.mem_append_left _ (List.mem_append_left _ (List.mem_of_getElem? (i := 0) rfl))))) dX11_recipeBy_17 ?_
      refine X_g16_17 C0 hw (fun w h => (List.mem_cons_of_mem _ (List.mem_append_right _ h))) (by decide) ((List.mem_cons_of_mem _ (List.mem_append_left _ (List.mem_append_left _ (List.mem_of_getElem? (i := 2) rfl))))) dX11_recipeBy_20 ?_
      obtain ⟨v4, hf5, h⟩ := bn_c h
      refine X_callS C0 hw (As := [.double (gD st 16 (0) 17)]) (rest := []) (mX7_doubleBits l E hL st hf5) (va_cwS 1 C0.1.2.2.2.2 gX11_recipeBy_X7_doubleBits rfl rfl rfl (by decide +kernel) ⟨Nat.le_of_ble_eq_true rfl, Nat.le_of_ble_eq_true rfl⟩) rfl hl.1 rfl (Nat.le_of_ble_eq_true rfl) dX11_recipeBy_23 ⟨Nat.zero_le _, Nat.zero_le _⟩ (fun H locs hw => ?_)
      refine W.eq (g2 := F0 m 26 ls [.long v4]) rfl ?_
      cases h
      exact W.lret hx hb hr (X_fin C0 hw) hw.2.2.2 dX11_recipeBy_26 hlocks
  · have h := ifp h hc1
    refine lv_lconst (v := 0) hx hb dX11_recipeBy_10 (by decide) ?_
    cases h
    exact W.lret hx hb hr (X_fin C0 hw) hw.2.2.2 dX11_recipeBy_11 hlocks

def fX11_lot (a1 : Int32) (a2 : Int32) (a3 : Int32) (a4 : Int32) (st : Sto) : Option (Int32 × Sto) :=
  (fX11_isThere (2 : Int32) a1 st).bind (fun (v1 : Int32) =>
   if v1 = 0 then (
    (fX11_refused (2 : Int32) st).bind (un2 fun (v32 : Int32) (t33 : Sto) =>
     some (v32, t33))) else (
    (fX11_isWithin a2 (1 : Int32) (1000 : Int32)).bind (fun (v4 : Int32) =>
     if v4 = 0 then (
      (fX11_refused (3 : Int32) st).bind (un2 fun (v7 : Int32) (t8 : Sto) =>
       some (v7, t8))) else (
      (fX11_isWithin a3 (1 : Int32) (1000 : Int32)).bind (fun (v10 : Int32) =>
       if v10 = 0 then (
        (fX11_refused (3 : Int32) st).bind (un2 fun (v13 : Int32) (t14 : Sto) =>
         some (v13, t14))) else (
        (fX11_isWithin a4 (1 : Int32) (1000000000 : Int32)).bind (fun (v16 : Int32) =>
         if v16 = 0 then (
          (fX11_refused (3 : Int32) st).bind (un2 fun (v29 : Int32) (t30 : Sto) =>
           some (v29, t30))) else (
          if gI st (3) (0) (4) < (20 : Int32) then (
           ck (0 ≤ (gI st (3) (0) (4)).toInt ∧ (gI st (3) (0) (4)).toInt < (20 : Int)) (
            (fX4_begin ((gI st (3) (0) (4)).toNatClampNeg) a1 a2 a3 a4 st).bind (fun (t21 : Sto) =>
             (fX11_newOne (4 : Int32) t21).bind (un2 fun (v23 : Int32) (t24 : Sto) =>
              some (v23, t24))))) else (
           (fX11_refused (1 : Int32) st).bind (un2 fun (v26 : Int32) (t27 : Sto) =>
            some (v26, t27)))))))))))
set_option maxHeartbeats 4000000 in
set_option maxRecDepth 100000 in
theorem mX11_lot (l : Launch) (E : XE) (hL : LX E) (st : Sto) {a1 : Int32} {a2 : Int32} {a3 : Int32} {a4 : Int32} {r : Int32} {st1 : Sto} (h : fX11_lot a1 a2 a3 a4 st = some (r, st1)) : Met l yX11_lot wsX11_lot ({ frames := 3, cells := 0, slots := 0, locals := 68 }) (va_Pc [.ref (E.2.2.1 0 (0)), .int a1, .int a2, .int a3, .int a4] (RX E st)) (QX E (some (.int r)) st1) 0 0 E.2.2.2 := by
  refine Met.ofW (cc := cX11_lot) (maxL := 5) (ret := (some .int)) (by decide) rfl ?_
  intro p e s m args below meth c s₁ B hml hv
  obtain ⟨rfl, hP, hK⟩ := hv
  have hown : s.vm.findClass RX11 = some m.cls := findClass_of_methodNamed B.named
  have C0 : CX p m c cX11_lot 5 s _ wsX11_lot RX11 E := ⟨⟨B.exec, B.bytes, hml, hown, atoms_spec (ws := wsX11_lot) B.pre⟩, hK⟩
  have hx := B.exec
  have hb := B.bytes
  have hr := B.returns
  have hlocks := B.notSynchronized
  have hw : SX E s st s.heap [] := ⟨hP, va_S.rf⟩
  have hl := lv_entry ([.ref (E.2.2.1 0 (0)), .int a1, .int a2, .int a3, .int a4]) (n := 5) (Nat.le_of_ble_eq_true rfl)
  rw [lg_entry_eq]
  generalize (lg_sl ([.ref (E.2.2.1 0 (0)), .int a1, .int a2, .int a3, .int a4]) ++ List.replicate (5 - (lg_sl ([.ref (E.2.2.1 0 (0)), .int a1, .int a2, .int a3, .int a4])).length) Slot.unset).toArray = ls at hl ⊢
  have hl : lv_has ls 5 [(0, .ref (E.2.2.1 0 (0))), (1, .int a1), (2, .int a2), (3, .int a3), (4, .int a4)] := hl
  unfold fX11_lot at h
  refine lv_aload_n hx hb dX11_lot_0 rfl (lv_at hl 0 rfl) ?_
  refine lv_iconst (v := 2) hx hb dX11_lot_1 (by decide) ?_
  refine lv_iload_n hx hb dX11_lot_2 rfl (lv_at hl 1 rfl) ?_
  obtain ⟨v1, hf2, h⟩ := bn_c h
  refine X_callV C0 hw (As := [.int (2 : Int32), .int a1]) (rest := []) (mX11_isThere l E hL st hf2) (cwV 2 C0.1.2.2.2.2 gX11_lot_X11_isThere rfl rfl rfl (by decide +kernel) ⟨Nat.le_of_ble_eq_true rfl, Nat.le_of_ble_eq_true rfl⟩) (X_recv_0 C0 hw (by decide)) rfl hl.1 rfl (Nat.le_of_ble_eq_true rfl) dX11_lot_3 ⟨Nat.zero_le _, Nat.zero_le _⟩ (fun H locs hw => ?_)
  refine W.eq (g2 := F0 m 6 ls [.int v1]) rfl ?_
  refine lv_if_ne (tgt := 15) hx hb dX11_lot_6 (by decide) (fun hc3 => ?_) (fun hc3 => ?_)
  · have h := ifn h hc3
    refine lv_iload_n hx hb dX11_lot_15 rfl (lv_at hl 2 rfl) ?_
    refine lv_iconst (v := 1) hx hb dX11_lot_16 (by decide) ?_
    refine lv_sipush (v := 1000) hx hb dX11_lot_17 (by decide) ?_
    obtain ⟨v4, hf5, h⟩ := bn_c h
    refine X_callS C0 hw (As := [.int a2, .int (1 : Int32), .int (1000 : Int32)]) (rest := []) (mX11_isWithin l E hL st hf5) (va_cwS 3 C0.1.2.2.2.2 gX11_lot_X11_isWithin rfl rfl rfl (by decide +kernel) ⟨Nat.le_of_ble_eq_true rfl, Nat.le_of_ble_eq_true rfl⟩) rfl hl.1 rfl (Nat.le_of_ble_eq_true rfl) dX11_lot_20 ⟨Nat.zero_le _, Nat.zero_le _⟩ (fun H locs hw => ?_)
    refine W.eq (g2 := F0 m 23 ls [.int v4]) rfl ?_
    refine lv_if_eq (tgt := 49) hx hb dX11_lot_23 (by decide) (fun hc6 => ?_) (fun hc6 => ?_)
    · have h := ifp h hc6
      refine lv_aload_n hx hb dX11_lot_49 rfl (lv_at hl 0 rfl) ?_
      refine lv_iconst (v := 3) hx hb dX11_lot_50 (by decide) ?_
      obtain ⟨⟨v7, t8⟩, hf9, h⟩ := bn_c h
      have h := un2_d h
      refine X_callV C0 hw (As := [.int (3 : Int32)]) (rest := []) (mX11_refused l E hL st hf9) (cwV 1 C0.1.2.2.2.2 gX11_lot_X11_refused rfl rfl rfl (by decide +kernel) ⟨Nat.le_of_ble_eq_true rfl, Nat.le_of_ble_eq_true rfl⟩) (X_recv_0 C0 hw (by decide)) rfl hl.1 rfl (Nat.le_of_ble_eq_true rfl) dX11_lot_51 ⟨Nat.zero_le _, Nat.zero_le _⟩ (fun H locs hw => ?_)
      refine W.eq (g2 := F0 m 54 ls [.int v7]) rfl ?_
      cases h
      exact W.iret hx hb hr (X_fin C0 hw) hw.2.2.2 dX11_lot_54 hlocks
    · have h := ifn h hc6
      refine lv_iload_n hx hb dX11_lot_26 rfl (lv_at hl 3 rfl) ?_
      refine lv_iconst (v := 1) hx hb dX11_lot_27 (by decide) ?_
      refine lv_sipush (v := 1000) hx hb dX11_lot_28 (by decide) ?_
      obtain ⟨v10, hf11, h⟩ := bn_c h
      refine X_callS C0 hw (As := [.int a3, .int (1 : Int32), .int (1000 : Int32)]) (rest := []) (mX11_isWithin l E hL st hf11) (va_cwS 3 C0.1.2.2.2.2 gX11_lot_X11_isWithin rfl rfl rfl (by decide +kernel) ⟨Nat.le_of_ble_eq_true rfl, Nat.le_of_ble_eq_true rfl⟩) rfl hl.1 rfl (Nat.le_of_ble_eq_true rfl) dX11_lot_31 ⟨Nat.zero_le _, Nat.zero_le _⟩ (fun H locs hw => ?_)
      refine W.eq (g2 := F0 m 34 ls [.int v10]) rfl ?_
      refine lv_if_eq (tgt := 49) hx hb dX11_lot_34 (by decide) (fun hc12 => ?_) (fun hc12 => ?_)
      · have h := ifp h hc12
        refine lv_aload_n hx hb dX11_lot_49 rfl (lv_at hl 0 rfl) ?_
        refine lv_iconst (v := 3) hx hb dX11_lot_50 (by decide) ?_
        obtain ⟨⟨v13, t14⟩, hf15, h⟩ := bn_c h
        have h := un2_d h
        refine X_callV C0 hw (As := [.int (3 : Int32)]) (rest := []) (mX11_refused l E hL st hf15) (cwV 1 C0.1.2.2.2.2 gX11_lot_X11_refused rfl rfl rfl (by decide +kernel) ⟨Nat.le_of_ble_eq_true rfl, Nat.le_of_ble_eq_true rfl⟩) (X_recv_0 C0 hw (by decide)) rfl hl.1 rfl (Nat.le_of_ble_eq_true rfl) dX11_lot_51 ⟨Nat.zero_le _, Nat.zero_le _⟩ (fun H locs hw => ?_)
        refine W.eq (g2 := F0 m 54 ls [.int v13]) rfl ?_
        cases h
        exact W.iret hx hb hr (X_fin C0 hw) hw.2.2.2 dX11_lot_54 hlocks
      · have h := ifn h hc12
        refine lv_iload hx hb dX11_lot_37 (lv_at hl 4 rfl) ?_
        refine lv_iconst (v := 1) hx hb dX11_lot_39 (by decide) ?_
        refine lv_ldcw hx hb hown (C0.1.2.2.2.2 _ (List.mem_cons_of_mem _ (List.mem_append_left _ (List.mem_append_left _ (List.mem_append_left _ (List.mem_append_left _ (List.mem_of_getElem? (i := 0) rfl))))))) dX11_lot_40 ?_
        obtain ⟨v16, hf17, h⟩ := bn_c h
        refine X_callS C0 hw (As := [.int a4, .int (1 : Int32), .int (1000000000 : Int32)]) (rest := []) (mX11_isWithin l E hL st hf17) (va_cwS 3 C0.1.2.2.2.2 gX11_lot_X11_isWithin rfl rfl rfl (by decide +kernel) ⟨Nat.le_of_ble_eq_true rfl, Nat.le_of_ble_eq_true rfl⟩) rfl hl.1 rfl (Nat.le_of_ble_eq_true rfl) dX11_lot_43 ⟨Nat.zero_le _, Nat.zero_le _⟩ (fun H locs hw => ?_)
        refine W.eq (g2 := F0 m 46 ls [.int v16]) rfl ?_
        refine lv_if_ne (tgt := 55) hx hb dX11_lot_46 (by decide) (fun hc18 => ?_) (fun hc18 => ?_)
        · have h := ifn h hc18
          refine lv_aload_n hx hb dX11_lot_55 rfl (lv_at hl 0 rfl) ?_
          refine X_g0_3 C0 hw (fun w h => (List.mem_cons_of_mem _ (List.mem_append_left _ (List.mem_append_left _ (List.mem_append_right _ h))))) (by decide) ((List.mem_cons_of_mem _ (List.mem_append_left _ (List.mem_append_left _ (List.mem_append_left _ (List.mem_append_left _ (List.mem_of_getElem? (i := 1) rfl))))))) dX11_lot_56 ?_
          refine lv_iconst (v := 4) hx hb dX11_lot_59 (by decide) ?_
          refine X_ialdL C0 hw (vp_in_iff.mpr (by decide +kernel)) (k := 4) rfl dX11_lot_60 ?_
          refine lv_bipush (v := 20) hx hb dX11_lot_61 (by decide) ?_
          refine lv_icmp_lt (tgt := 72) hx hb dX11_lot_63 (by decide) (fun hc19 => ?_) (fun hc19 => ?_)
          · have h := ifp h hc19
            refine lv_aload_n hx hb dX11_lot_72 rfl (lv_at hl 0 rfl) ?_
            refine X_g0_8 C0 hw (fun w h => (List.mem_cons_of_mem _ (List.mem_append_left _ (List.mem_append_left _ (List.mem_append_right _ h))))) (by decide) ((List.mem_cons_of_mem _ (List.mem_append_left _ (List.mem_append_left _ (List.mem_append_left _ (List.mem_append_left _ (List.mem_of_getElem? (i := 2) rfl))))))) dX11_lot_73 ?_
            refine lv_aload_n hx hb dX11_lot_76 rfl (lv_at hl 0 rfl) ?_
            refine X_g0_3 C0 hw (fun w h => (List.mem_cons_of_mem _ (List.mem_append_left _ (List.mem_append_left _ (List.mem_append_right _ h))))) (by decide) ((List.mem_cons_of_mem _ (List.mem_append_left _ (List.mem_append_left _ (List.mem_append_left _ (List.mem_append_left _ (List.mem_of_getElem? (i := 1) rfl))))))) dX11_lot_77 ?_
            refine lv_iconst (v := 4) hx hb dX11_lot_80 (by decide) ?_
            refine X_ialdL C0 hw (vp_in_iff.mpr (by decide +kernel)) (k := 4) rfl dX11_lot_81 ?_
            refine X_ald_9 C0 hw (by decide) h (k := (gI st (3) (0) (4)).toNatClampNeg) rfl dX11_lot_82 (fun hk20 h => ?_)
            refine lv_iload_n hx hb dX11_lot_83 rfl (lv_at hl 1 rfl) ?_
            refine lv_iload_n hx hb dX11_lot_84 rfl (lv_at hl 2 rfl) ?_
            refine lv_iload_n hx hb dX11_lot_85 rfl (lv_at hl 3 rfl) ?_
            refine lv_iload hx hb dX11_lot_86 (lv_at hl 4 rfl) ?_
            obtain ⟨t21, hf22, h⟩ := bn_c h
            refine X_callV C0 hw (As := [.int a1, .int a2, .int a3, .int a4]) (rest := []) (mX4_begin l E hL st hk20 hf22) (cwV 4 C0.1.2.2.2.2 gX11_lot_X4_begin rfl rfl rfl (by decide +kernel) ⟨Nat.le_of_ble_eq_true rfl, Nat.le_of_ble_eq_true rfl⟩) (X_recv_29 C0 hw hk20) rfl hl.1 rfl (Nat.le_of_ble_eq_true rfl) dX11_lot_88 ⟨Nat.zero_le _, Nat.zero_le _⟩ (fun H locs hw => ?_)
            refine W.eq (g2 := F0 m 91 ls []) rfl ?_
            refine lv_aload_n hx hb dX11_lot_91 rfl (lv_at hl 0 rfl) ?_
            refine lv_iconst (v := 4) hx hb dX11_lot_92 (by decide) ?_
            obtain ⟨⟨v23, t24⟩, hf25, h⟩ := bn_c h
            have h := un2_d h
            refine X_callV C0 hw (As := [.int (4 : Int32)]) (rest := []) (mX11_newOne l E hL t21 hf25) (cwV 1 C0.1.2.2.2.2 gX11_lot_X11_newOne rfl rfl rfl (by decide +kernel) ⟨Nat.le_of_ble_eq_true rfl, Nat.le_of_ble_eq_true rfl⟩) (X_recv_0 C0 hw (by decide)) rfl hl.1 rfl (Nat.le_of_ble_eq_true rfl) dX11_lot_93 ⟨Nat.zero_le _, Nat.zero_le _⟩ (fun H locs hw => ?_)
            refine W.eq (g2 := F0 m 96 ls [.int v23]) rfl ?_
            cases h
            exact W.iret hx hb hr (X_fin C0 hw) hw.2.2.2 dX11_lot_96 hlocks
          · have h := ifn h hc19
            refine lv_aload_n hx hb dX11_lot_66 rfl (lv_at hl 0 rfl) ?_
            refine lv_iconst (v := 1) hx hb dX11_lot_67 (by decide) ?_
            obtain ⟨⟨v26, t27⟩, hf28, h⟩ := bn_c h
            have h := un2_d h
            refine X_callV C0 hw (As := [.int (1 : Int32)]) (rest := []) (mX11_refused l E hL st hf28) (cwV 1 C0.1.2.2.2.2 gX11_lot_X11_refused rfl rfl rfl (by decide +kernel) ⟨Nat.le_of_ble_eq_true rfl, Nat.le_of_ble_eq_true rfl⟩) (X_recv_0 C0 hw (by decide)) rfl hl.1 rfl (Nat.le_of_ble_eq_true rfl) dX11_lot_68 ⟨Nat.zero_le _, Nat.zero_le _⟩ (fun H locs hw => ?_)
            refine W.eq (g2 := F0 m 71 ls [.int v26]) rfl ?_
            cases h
            exact W.iret hx hb hr (X_fin C0 hw) hw.2.2.2 dX11_lot_71 hlocks
        · have h := ifp h hc18
          refine lv_aload_n hx hb dX11_lot_49 rfl (lv_at hl 0 rfl) ?_
          refine lv_iconst (v := 3) hx hb dX11_lot_50 (by decide) ?_
          obtain ⟨⟨v29, t30⟩, hf31, h⟩ := bn_c h
          have h := un2_d h
          refine X_callV C0 hw (As := [.int (3 : Int32)]) (rest := []) (mX11_refused l E hL st hf31) (cwV 1 C0.1.2.2.2.2 gX11_lot_X11_refused rfl rfl rfl (by decide +kernel) ⟨Nat.le_of_ble_eq_true rfl, Nat.le_of_ble_eq_true rfl⟩) (X_recv_0 C0 hw (by decide)) rfl hl.1 rfl (Nat.le_of_ble_eq_true rfl) dX11_lot_51 ⟨Nat.zero_le _, Nat.zero_le _⟩ (fun H locs hw => ?_)
          refine W.eq (g2 := F0 m 54 ls [.int v29]) rfl ?_
          cases h
          exact W.iret hx hb hr (X_fin C0 hw) hw.2.2.2 dX11_lot_54 hlocks
  · have h := ifp h hc3
    refine lv_aload_n hx hb dX11_lot_9 rfl (lv_at hl 0 rfl) ?_
    refine lv_iconst (v := 2) hx hb dX11_lot_10 (by decide) ?_
    obtain ⟨⟨v32, t33⟩, hf34, h⟩ := bn_c h
    have h := un2_d h
    refine X_callV C0 hw (As := [.int (2 : Int32)]) (rest := []) (mX11_refused l E hL st hf34) (cwV 1 C0.1.2.2.2.2 gX11_lot_X11_refused rfl rfl rfl (by decide +kernel) ⟨Nat.le_of_ble_eq_true rfl, Nat.le_of_ble_eq_true rfl⟩) (X_recv_0 C0 hw (by decide)) rfl hl.1 rfl (Nat.le_of_ble_eq_true rfl) dX11_lot_11 ⟨Nat.zero_le _, Nat.zero_le _⟩ (fun H locs hw => ?_)
    refine W.eq (g2 := F0 m 14 ls [.int v32]) rfl ?_
    cases h
    exact W.iret hx hb hr (X_fin C0 hw) hw.2.2.2 dX11_lot_14 hlocks

def fX11_batch (a1 : Int32) (a2 : Int32) (st : Sto) : Option (Int32 × Sto) :=
  (fX11_isThere (1 : Int32) a1 st).bind (fun (v1 : Int32) =>
   if v1 = 0 then (
    (fX11_refused (2 : Int32) st).bind (un2 fun (v20 : Int32) (t21 : Sto) =>
     some (v20, t21))) else (
    (fX11_isWithin a2 (1 : Int32) (1000 : Int32)).bind (fun (v4 : Int32) =>
     if v4 = 0 then (
      (fX11_refused (3 : Int32) st).bind (un2 fun (v17 : Int32) (t18 : Sto) =>
       some (v17, t18))) else (
      if gI st (3) (0) (5) < (12 : Int32) then (
       ck (0 ≤ (gI st (3) (0) (5)).toInt ∧ (gI st (3) (0) (5)).toInt < (12 : Int)) (
        (fX1_begin ((gI st (3) (0) (5)).toNatClampNeg) a1 a2 st).bind (fun (t9 : Sto) =>
         (fX11_newOne (5 : Int32) t9).bind (un2 fun (v11 : Int32) (t12 : Sto) =>
          some (v11, t12))))) else (
       (fX11_refused (1 : Int32) st).bind (un2 fun (v14 : Int32) (t15 : Sto) =>
        some (v14, t15)))))))
set_option maxHeartbeats 4000000 in
set_option maxRecDepth 100000 in
theorem mX11_batch (l : Launch) (E : XE) (hL : LX E) (st : Sto) {a1 : Int32} {a2 : Int32} {r : Int32} {st1 : Sto} (h : fX11_batch a1 a2 st = some (r, st1)) : Met l yX11_batch wsX11_batch ({ frames := 3, cells := 0, slots := 0, locals := 68 }) (va_Pc [.ref (E.2.2.1 0 (0)), .int a1, .int a2] (RX E st)) (QX E (some (.int r)) st1) 0 0 E.2.2.2 := by
  refine Met.ofW (cc := cX11_batch) (maxL := 3) (ret := (some .int)) (by decide) rfl ?_
  intro p e s m args below meth c s₁ B hml hv
  obtain ⟨rfl, hP, hK⟩ := hv
  have hown : s.vm.findClass RX11 = some m.cls := findClass_of_methodNamed B.named
  have C0 : CX p m c cX11_batch 3 s _ wsX11_batch RX11 E := ⟨⟨B.exec, B.bytes, hml, hown, atoms_spec (ws := wsX11_batch) B.pre⟩, hK⟩
  have hx := B.exec
  have hb := B.bytes
  have hr := B.returns
  have hlocks := B.notSynchronized
  have hw : SX E s st s.heap [] := ⟨hP, va_S.rf⟩
  have hl := lv_entry ([.ref (E.2.2.1 0 (0)), .int a1, .int a2]) (n := 3) (Nat.le_of_ble_eq_true rfl)
  rw [lg_entry_eq]
  generalize (lg_sl ([.ref (E.2.2.1 0 (0)), .int a1, .int a2]) ++ List.replicate (3 - (lg_sl ([.ref (E.2.2.1 0 (0)), .int a1, .int a2])).length) Slot.unset).toArray = ls at hl ⊢
  have hl : lv_has ls 3 [(0, .ref (E.2.2.1 0 (0))), (1, .int a1), (2, .int a2)] := hl
  unfold fX11_batch at h
  refine lv_aload_n hx hb dX11_batch_0 rfl (lv_at hl 0 rfl) ?_
  refine lv_iconst (v := 1) hx hb dX11_batch_1 (by decide) ?_
  refine lv_iload_n hx hb dX11_batch_2 rfl (lv_at hl 1 rfl) ?_
  obtain ⟨v1, hf2, h⟩ := bn_c h
  refine X_callV C0 hw (As := [.int (1 : Int32), .int a1]) (rest := []) (mX11_isThere l E hL st hf2) (cwV 2 C0.1.2.2.2.2 gX11_batch_X11_isThere rfl rfl rfl (by decide +kernel) ⟨Nat.le_of_ble_eq_true rfl, Nat.le_of_ble_eq_true rfl⟩) (X_recv_0 C0 hw (by decide)) rfl hl.1 rfl (Nat.le_of_ble_eq_true rfl) dX11_batch_3 ⟨Nat.zero_le _, Nat.zero_le _⟩ (fun H locs hw => ?_)
  refine W.eq (g2 := F0 m 6 ls [.int v1]) rfl ?_
  refine lv_if_ne (tgt := 15) hx hb dX11_batch_6 (by decide) (fun hc3 => ?_) (fun hc3 => ?_)
  · have h := ifn h hc3
    refine lv_iload_n hx hb dX11_batch_15 rfl (lv_at hl 2 rfl) ?_
    refine lv_iconst (v := 1) hx hb dX11_batch_16 (by decide) ?_
    refine lv_sipush (v := 1000) hx hb dX11_batch_17 (by decide) ?_
    obtain ⟨v4, hf5, h⟩ := bn_c h
    refine X_callS C0 hw (As := [.int a2, .int (1 : Int32), .int (1000 : Int32)]) (rest := []) (mX11_isWithin l E hL st hf5) (va_cwS 3 C0.1.2.2.2.2 gX11_batch_X11_isWithin rfl rfl rfl (by decide +kernel) ⟨Nat.le_of_ble_eq_true rfl, Nat.le_of_ble_eq_true rfl⟩) rfl hl.1 rfl (Nat.le_of_ble_eq_true rfl) dX11_batch_20 ⟨Nat.zero_le _, Nat.zero_le _⟩ (fun H locs hw => ?_)
    refine W.eq (g2 := F0 m 23 ls [.int v4]) rfl ?_
    refine lv_if_ne (tgt := 32) hx hb dX11_batch_23 (by decide) (fun hc6 => ?_) (fun hc6 => ?_)
    · have h := ifn h hc6
      refine lv_aload_n hx hb dX11_batch_32 rfl (lv_at hl 0 rfl) ?_
      refine X_g0_3 C0 hw (fun w h => (List.mem_cons_of_mem _ (List.mem_append_left _ (List.mem_append_left _ (List.mem_append_right _ h))))) (by decide) ((List.mem_cons_of_mem _ (List.mem_append_left _ (List.mem_append_left _ (List.mem_append_left _ (List.mem_append_left _ (List.mem_of_getElem? (i := 0) rfl))))))) dX11_batch_33 ?_
      refine lv_iconst (v := 5) hx hb dX11_batch_36 (by decide) ?_
      refine X_ialdL C0 hw (vp_in_iff.mpr (by decide +kernel)) (k := 5) rfl dX11_batch_37 ?_
      refine lv_bipush (v := 12) hx hb dX11_batch_38 (by decide) ?_
      refine lv_icmp_lt (tgt := 49) hx hb dX11_batch_40 (by decide) (fun hc7 => ?_) (fun hc7 => ?_)
      · have h := ifp h hc7
        refine lv_aload_n hx hb dX11_batch_49 rfl (lv_at hl 0 rfl) ?_
        refine X_g0_9 C0 hw (fun w h => (List.mem_cons_of_mem _ (List.mem_append_left _ (List.mem_append_left _ (List.mem_append_right _ h))))) (by decide) ((List.mem_cons_of_mem _ (List.mem_append_left _ (List.mem_append_left _ (List.mem_append_left _ (List.mem_append_left _ (List.mem_of_getElem? (i := 1) rfl))))))) dX11_batch_50 ?_
        refine lv_aload_n hx hb dX11_batch_53 rfl (lv_at hl 0 rfl) ?_
        refine X_g0_3 C0 hw (fun w h => (List.mem_cons_of_mem _ (List.mem_append_left _ (List.mem_append_left _ (List.mem_append_right _ h))))) (by decide) ((List.mem_cons_of_mem _ (List.mem_append_left _ (List.mem_append_left _ (List.mem_append_left _ (List.mem_append_left _ (List.mem_of_getElem? (i := 0) rfl))))))) dX11_batch_54 ?_
        refine lv_iconst (v := 5) hx hb dX11_batch_57 (by decide) ?_
        refine X_ialdL C0 hw (vp_in_iff.mpr (by decide +kernel)) (k := 5) rfl dX11_batch_58 ?_
        refine X_ald_10 C0 hw (by decide) h (k := (gI st (3) (0) (5)).toNatClampNeg) rfl dX11_batch_59 (fun hk8 h => ?_)
        refine lv_iload_n hx hb dX11_batch_60 rfl (lv_at hl 1 rfl) ?_
        refine lv_iload_n hx hb dX11_batch_61 rfl (lv_at hl 2 rfl) ?_
        obtain ⟨t9, hf10, h⟩ := bn_c h
        refine X_callV C0 hw (As := [.int a1, .int a2]) (rest := []) (mX1_begin l E hL st hk8 hf10) (cwV 2 C0.1.2.2.2.2 gX11_batch_X1_begin rfl rfl rfl (by decide +kernel) ⟨Nat.le_of_ble_eq_true rfl, Nat.le_of_ble_eq_true rfl⟩) (X_recv_30 C0 hw hk8) rfl hl.1 rfl (Nat.le_of_ble_eq_true rfl) dX11_batch_62 ⟨Nat.zero_le _, Nat.zero_le _⟩ (fun H locs hw => ?_)
        refine W.eq (g2 := F0 m 65 ls []) rfl ?_
        refine lv_aload_n hx hb dX11_batch_65 rfl (lv_at hl 0 rfl) ?_
        refine lv_iconst (v := 5) hx hb dX11_batch_66 (by decide) ?_
        obtain ⟨⟨v11, t12⟩, hf13, h⟩ := bn_c h
        have h := un2_d h
        refine X_callV C0 hw (As := [.int (5 : Int32)]) (rest := []) (mX11_newOne l E hL t9 hf13) (cwV 1 C0.1.2.2.2.2 gX11_batch_X11_newOne rfl rfl rfl (by decide +kernel) ⟨Nat.le_of_ble_eq_true rfl, Nat.le_of_ble_eq_true rfl⟩) (X_recv_0 C0 hw (by decide)) rfl hl.1 rfl (Nat.le_of_ble_eq_true rfl) dX11_batch_67 ⟨Nat.zero_le _, Nat.zero_le _⟩ (fun H locs hw => ?_)
        refine W.eq (g2 := F0 m 70 ls [.int v11]) rfl ?_
        cases h
        exact W.iret hx hb hr (X_fin C0 hw) hw.2.2.2 dX11_batch_70 hlocks
      · have h := ifn h hc7
        refine lv_aload_n hx hb dX11_batch_43 rfl (lv_at hl 0 rfl) ?_
        refine lv_iconst (v := 1) hx hb dX11_batch_44 (by decide) ?_
        obtain ⟨⟨v14, t15⟩, hf16, h⟩ := bn_c h
        have h := un2_d h
        refine X_callV C0 hw (As := [.int (1 : Int32)]) (rest := []) (mX11_refused l E hL st hf16) (cwV 1 C0.1.2.2.2.2 gX11_batch_X11_refused rfl rfl rfl (by decide +kernel) ⟨Nat.le_of_ble_eq_true rfl, Nat.le_of_ble_eq_true rfl⟩) (X_recv_0 C0 hw (by decide)) rfl hl.1 rfl (Nat.le_of_ble_eq_true rfl) dX11_batch_45 ⟨Nat.zero_le _, Nat.zero_le _⟩ (fun H locs hw => ?_)
        refine W.eq (g2 := F0 m 48 ls [.int v14]) rfl ?_
        cases h
        exact W.iret hx hb hr (X_fin C0 hw) hw.2.2.2 dX11_batch_48 hlocks
    · have h := ifp h hc6
      refine lv_aload_n hx hb dX11_batch_26 rfl (lv_at hl 0 rfl) ?_
      refine lv_iconst (v := 3) hx hb dX11_batch_27 (by decide) ?_
      obtain ⟨⟨v17, t18⟩, hf19, h⟩ := bn_c h
      have h := un2_d h
      refine X_callV C0 hw (As := [.int (3 : Int32)]) (rest := []) (mX11_refused l E hL st hf19) (cwV 1 C0.1.2.2.2.2 gX11_batch_X11_refused rfl rfl rfl (by decide +kernel) ⟨Nat.le_of_ble_eq_true rfl, Nat.le_of_ble_eq_true rfl⟩) (X_recv_0 C0 hw (by decide)) rfl hl.1 rfl (Nat.le_of_ble_eq_true rfl) dX11_batch_28 ⟨Nat.zero_le _, Nat.zero_le _⟩ (fun H locs hw => ?_)
      refine W.eq (g2 := F0 m 31 ls [.int v17]) rfl ?_
      cases h
      exact W.iret hx hb hr (X_fin C0 hw) hw.2.2.2 dX11_batch_31 hlocks
  · have h := ifp h hc3
    refine lv_aload_n hx hb dX11_batch_9 rfl (lv_at hl 0 rfl) ?_
    refine lv_iconst (v := 2) hx hb dX11_batch_10 (by decide) ?_
    obtain ⟨⟨v20, t21⟩, hf22, h⟩ := bn_c h
    have h := un2_d h
    refine X_callV C0 hw (As := [.int (2 : Int32)]) (rest := []) (mX11_refused l E hL st hf22) (cwV 1 C0.1.2.2.2.2 gX11_batch_X11_refused rfl rfl rfl (by decide +kernel) ⟨Nat.le_of_ble_eq_true rfl, Nat.le_of_ble_eq_true rfl⟩) (X_recv_0 C0 hw (by decide)) rfl hl.1 rfl (Nat.le_of_ble_eq_true rfl) dX11_batch_11 ⟨Nat.zero_le _, Nat.zero_le _⟩ (fun H locs hw => ?_)
    refine W.eq (g2 := F0 m 14 ls [.int v20]) rfl ?_
    cases h
    exact W.iret hx hb hr (X_fin C0 hw) hw.2.2.2 dX11_batch_14 hlocks

def fX11_weigh (a1 : Int32) (a2 : Int32) (a3 : Int32) (st : Sto) : Option (Int32 × Sto) :=
  (fX11_isThere (5 : Int32) a1 st).bind (fun (v1 : Int32) =>
   if v1 = 0 then (
    (fX11_refused (2 : Int32) st).bind (un2 fun (v4 : Int32) (t5 : Sto) =>
     some (v4, t5))) else (
    (fX11_isThere (4 : Int32) a2 st).bind (fun (v7 : Int32) =>
     if v7 = 0 then (
      (fX11_refused (2 : Int32) st).bind (un2 fun (v42 : Int32) (t43 : Sto) =>
       some (v42, t43))) else (
      (fX11_isWithin a3 (1 : Int32) (100000 : Int32)).bind (fun (v10 : Int32) =>
       if v10 = 0 then (
        (fX11_refused (3 : Int32) st).bind (un2 fun (v39 : Int32) (t40 : Sto) =>
         some (v39, t40))) else (
        ck (0 ≤ a2.toInt ∧ a2.toInt < (20 : Int)) (
         if a3 * (1000 : Int32) ≤ gI st 29 (a2.toNatClampNeg) 4 then (
          ck (0 ≤ a1.toInt ∧ a1.toInt < (12 : Int)) (
           (fX1_hasRoomFor (a1.toNatClampNeg) a2 st).bind (fun (v16 : Int32) =>
            if v16 = 0 then (
             (fX11_refused (1 : Int32) st).bind (un2 fun (v33 : Int32) (t34 : Sto) =>
              some (v33, t34))) else (
             ck (0 ≤ a2.toInt ∧ a2.toInt < (20 : Int)) (
              lt1 (sI st 29 (a2.toNatClampNeg) 4 ((gI st 29 (a2.toNatClampNeg) 4) - (a3 * (1000 : Int32)))) fun (t20 : Sto) =>
              (fX0_note (8 : Int32) a1 a2 a3 t20).bind (un2 fun (v21 : (Nat × Nat)) (t22 : Sto) => un2 (fun (qf24 qi25 : Nat) =>
                (fX11_accept t22).bind (un2 fun (v26 : Int32) (t27 : Sto) =>
                 ck (0 ≤ a1.toInt ∧ a1.toInt < (12 : Int)) (
                  (fX1_addGrams (a1.toNatClampNeg) a2 a3 t27).bind (un2 fun (v30 : Int32) (t31 : Sto) =>
                   some (v30, t31))))) v21)))))) else (
          (fX11_refused (4 : Int32) st).bind (un2 fun (v36 : Int32) (t37 : Sto) =>
           some (v36, t37))))))))))
set_option maxHeartbeats 4000000 in
set_option maxRecDepth 100000 in
theorem mX11_weigh (l : Launch) (E : XE) (hL : LX E) (st : Sto) {a1 : Int32} {a2 : Int32} {a3 : Int32} {r : Int32} {st1 : Sto} (h : fX11_weigh a1 a2 a3 st = some (r, st1)) : Met l yX11_weigh wsX11_weigh ({ frames := 2, cells := 0, slots := 0, locals := 47 }) (va_Pc [.ref (E.2.2.1 0 (0)), .int a1, .int a2, .int a3] (RX E st)) (QX E (some (.int r)) st1) 0 0 E.2.2.2 := by
  refine Met.ofW (cc := cX11_weigh) (maxL := 4) (ret := (some .int)) (by decide) rfl ?_
  intro p e s m args below meth c s₁ B hml hv
  obtain ⟨rfl, hP, hK⟩ := hv
  have hown : s.vm.findClass RX11 = some m.cls := findClass_of_methodNamed B.named
  have C0 : CX p m c cX11_weigh 4 s _ wsX11_weigh RX11 E := ⟨⟨B.exec, B.bytes, hml, hown, atoms_spec (ws := wsX11_weigh) B.pre⟩, hK⟩
  have hx := B.exec
  have hb := B.bytes
  have hr := B.returns
  have hlocks := B.notSynchronized
  have hw : SX E s st s.heap [] := ⟨hP, va_S.rf⟩
  have hl := lv_entry ([.ref (E.2.2.1 0 (0)), .int a1, .int a2, .int a3]) (n := 4) (Nat.le_of_ble_eq_true rfl)
  rw [lg_entry_eq]
  generalize (lg_sl ([.ref (E.2.2.1 0 (0)), .int a1, .int a2, .int a3]) ++ List.replicate (4 - (lg_sl ([.ref (E.2.2.1 0 (0)), .int a1, .int a2, .int a3])).length) Slot.unset).toArray = ls at hl ⊢
  have hl : lv_has ls 4 [(0, .ref (E.2.2.1 0 (0))), (1, .int a1), (2, .int a2), (3, .int a3)] := hl
  unfold fX11_weigh at h
  refine lv_aload_n hx hb dX11_weigh_0 rfl (lv_at hl 0 rfl) ?_
  refine lv_iconst (v := 5) hx hb dX11_weigh_1 (by decide) ?_
  refine lv_iload_n hx hb dX11_weigh_2 rfl (lv_at hl 1 rfl) ?_
  obtain ⟨v1, hf2, h⟩ := bn_c h
  refine X_callV C0 hw (As := [.int (5 : Int32), .int a1]) (rest := []) (mX11_isThere l E hL st hf2) (cwV 2 C0.1.2.2.2.2 gX11_weigh_X11_isThere rfl rfl rfl (by decide +kernel) ⟨Nat.le_of_ble_eq_true rfl, Nat.le_of_ble_eq_true rfl⟩) (X_recv_0 C0 hw (by decide)) rfl hl.1 rfl (Nat.le_of_ble_eq_true rfl) dX11_weigh_3 ⟨Nat.zero_le _, Nat.zero_le _⟩ (fun H locs hw => ?_)
  refine W.eq (g2 := F0 m 6 ls [.int v1]) rfl ?_
  refine lv_if_eq (tgt := 18) hx hb dX11_weigh_6 (by decide) (fun hc3 => ?_) (fun hc3 => ?_)
  · have h := ifp h hc3
    refine lv_aload_n hx hb dX11_weigh_18 rfl (lv_at hl 0 rfl) ?_
    refine lv_iconst (v := 2) hx hb dX11_weigh_19 (by decide) ?_
    obtain ⟨⟨v4, t5⟩, hf6, h⟩ := bn_c h
    have h := un2_d h
    refine X_callV C0 hw (As := [.int (2 : Int32)]) (rest := []) (mX11_refused l E hL st hf6) (cwV 1 C0.1.2.2.2.2 gX11_weigh_X11_refused rfl rfl rfl (by decide +kernel) ⟨Nat.le_of_ble_eq_true rfl, Nat.le_of_ble_eq_true rfl⟩) (X_recv_0 C0 hw (by decide)) rfl hl.1 rfl (Nat.le_of_ble_eq_true rfl) dX11_weigh_20 ⟨Nat.zero_le _, Nat.zero_le _⟩ (fun H locs hw => ?_)
    refine W.eq (g2 := F0 m 23 ls [.int v4]) rfl ?_
    cases h
    exact W.iret hx hb hr (X_fin C0 hw) hw.2.2.2 dX11_weigh_23 hlocks
  · have h := ifn h hc3
    refine lv_aload_n hx hb dX11_weigh_9 rfl (lv_at hl 0 rfl) ?_
    refine lv_iconst (v := 4) hx hb dX11_weigh_10 (by decide) ?_
    refine lv_iload_n hx hb dX11_weigh_11 rfl (lv_at hl 2 rfl) ?_
    obtain ⟨v7, hf8, h⟩ := bn_c h
    refine X_callV C0 hw (As := [.int (4 : Int32), .int a2]) (rest := []) (mX11_isThere l E hL st hf8) (cwV 2 C0.1.2.2.2.2 gX11_weigh_X11_isThere rfl rfl rfl (by decide +kernel) ⟨Nat.le_of_ble_eq_true rfl, Nat.le_of_ble_eq_true rfl⟩) (X_recv_0 C0 hw (by decide)) rfl hl.1 rfl (Nat.le_of_ble_eq_true rfl) dX11_weigh_12 ⟨Nat.zero_le _, Nat.zero_le _⟩ (fun H locs hw => ?_)
    refine W.eq (g2 := F0 m 15 ls [.int v7]) rfl ?_
    refine lv_if_ne (tgt := 24) hx hb dX11_weigh_15 (by decide) (fun hc9 => ?_) (fun hc9 => ?_)
    · have h := ifn h hc9
      refine lv_iload_n hx hb dX11_weigh_24 rfl (lv_at hl 3 rfl) ?_
      refine lv_iconst (v := 1) hx hb dX11_weigh_25 (by decide) ?_
      refine lv_ldc hx hb hown (C0.1.2.2.2.2 _ (List.mem_cons_of_mem _ (List.mem_append_left _ (List.mem_append_left _ (List.mem_append_left _ (List.mem_append_left _ (List.mem_append_left _ (List.mem_of_getElem? (i := 0) rfl)))))))) dX11_weigh_26 ?_
      obtain ⟨v10, hf11, h⟩ := bn_c h
      refine X_callS C0 hw (As := [.int a3, .int (1 : Int32), .int (100000 : Int32)]) (rest := []) (mX11_isWithin l E hL st hf11) (va_cwS 3 C0.1.2.2.2.2 gX11_weigh_X11_isWithin rfl rfl rfl (by decide +kernel) ⟨Nat.le_of_ble_eq_true rfl, Nat.le_of_ble_eq_true rfl⟩) rfl hl.1 rfl (Nat.le_of_ble_eq_true rfl) dX11_weigh_28 ⟨Nat.zero_le _, Nat.zero_le _⟩ (fun H locs hw => ?_)
      refine W.eq (g2 := F0 m 31 ls [.int v10]) rfl ?_
      refine lv_if_ne (tgt := 40) hx hb dX11_weigh_31 (by decide) (fun hc12 => ?_) (fun hc12 => ?_)
      · have h := ifn h hc12
        refine lv_aload_n hx hb dX11_weigh_40 rfl (lv_at hl 0 rfl) ?_
        refine X_g0_8 C0 hw (fun w h => (List.mem_cons_of_mem _ (List.mem_append_left _ (List.mem_append_left _ (List.mem_append_left _ (List.mem_append_right _ h)))))) (by decide) ((List.mem_cons_of_mem _ (List.mem_append_left _ (List.mem_append_left _ (List.mem_append_left _ (List.mem_append_left _ (List.mem_append_left _ (List.mem_of_getElem? (i := 1) rfl)))))))) dX11_weigh_41 ?_
        refine lv_iload_n hx hb dX11_weigh_44 rfl (lv_at hl 2 rfl) ?_
        refine X_ald_9 C0 hw (by decide) h (k := a2.toNatClampNeg) rfl dX11_weigh_45 (fun hk13 h => ?_)
        refine X_g29_4 C0 hw (fun w h => (List.mem_cons_of_mem _ (List.mem_append_left _ (List.mem_append_left _ (List.mem_append_right _ h))))) hk13 ((List.mem_cons_of_mem _ (List.mem_append_left _ (List.mem_append_left _ (List.mem_append_left _ (List.mem_append_left _ (List.mem_append_left _ (List.mem_of_getElem? (i := 2) rfl)))))))) dX11_weigh_46 ?_
        refine lv_iload_n hx hb dX11_weigh_49 rfl (lv_at hl 3 rfl) ?_
        refine lv_sipush (v := 1000) hx hb dX11_weigh_50 (by decide) ?_
        refine lv_imul hx hb dX11_weigh_53 ?_
        refine lv_icmp_ge (tgt := 63) hx hb dX11_weigh_54 (by decide) (fun hc14 => ?_) (fun hc14 => ?_)
        · have h := ifp h hc14
          refine lv_aload_n hx hb dX11_weigh_63 rfl (lv_at hl 0 rfl) ?_
          refine X_g0_9 C0 hw (fun w h => (List.mem_cons_of_mem _ (List.mem_append_left _ (List.mem_append_left _ (List.mem_append_left _ (List.mem_append_right _ h)))))) (by decide) ((List.mem_cons_of_mem _ (List.mem_append_left _ (List.mem_append_left _ (List.mem_append_left _ (List.mem_append_left _ (List.mem_append_left _ (List.mem_of_getElem? (i := 3) rfl)))))))) dX11_weigh_64 ?_
          refine lv_iload_n hx hb dX11_weigh_67 rfl (lv_at hl 1 rfl) ?_
          refine X_ald_10 C0 hw (by decide) h (k := a1.toNatClampNeg) rfl dX11_weigh_68 (fun hk15 h => ?_)
          refine lv_iload_n hx hb dX11_weigh_69 rfl (lv_at hl 2 rfl) ?_
          obtain ⟨v16, hf17, h⟩ := bn_c h
          refine X_callV C0 hw (As := [.int a2]) (rest := []) (mX1_hasRoomFor l E hL st hk15 hf17) (cwV 1 C0.1.2.2.2.2 gX11_weigh_X1_hasRoomFor rfl rfl rfl (by decide +kernel) ⟨Nat.le_of_ble_eq_true rfl, Nat.le_of_ble_eq_true rfl⟩) (X_recv_30 C0 hw hk15) rfl hl.1 rfl (Nat.le_of_ble_eq_true rfl) dX11_weigh_70 ⟨Nat.zero_le _, Nat.zero_le _⟩ (fun H locs hw => ?_)
          refine W.eq (g2 := F0 m 73 ls [.int v16]) rfl ?_
          refine lv_if_ne (tgt := 82) hx hb dX11_weigh_73 (by decide) (fun hc18 => ?_) (fun hc18 => ?_)
          · have h := ifn h hc18
            refine lv_aload_n hx hb dX11_weigh_82 rfl (lv_at hl 0 rfl) ?_
            refine X_g0_8 C0 hw (fun w h => (List.mem_cons_of_mem _ (List.mem_append_left _ (List.mem_append_left _ (List.mem_append_left _ (List.mem_append_right _ h)))))) (by decide) ((List.mem_cons_of_mem _ (List.mem_append_left _ (List.mem_append_left _ (List.mem_append_left _ (List.mem_append_left _ (List.mem_append_left _ (List.mem_of_getElem? (i := 1) rfl)))))))) dX11_weigh_83 ?_
            refine lv_iload_n hx hb dX11_weigh_86 rfl (lv_at hl 2 rfl) ?_
            refine X_ald_9 C0 hw (by decide) h (k := a2.toNatClampNeg) rfl dX11_weigh_87 (fun hk19 h => ?_)
            refine lv_dup hx hb dX11_weigh_88 rfl ?_
            refine X_g29_4 C0 hw (fun w h => (List.mem_cons_of_mem _ (List.mem_append_left _ (List.mem_append_left _ (List.mem_append_right _ h))))) hk19 ((List.mem_cons_of_mem _ (List.mem_append_left _ (List.mem_append_left _ (List.mem_append_left _ (List.mem_append_left _ (List.mem_append_left _ (List.mem_of_getElem? (i := 2) rfl)))))))) dX11_weigh_89 ?_
            refine lv_iload_n hx hb dX11_weigh_92 rfl (lv_at hl 3 rfl) ?_
            refine lv_sipush (v := 1000) hx hb dX11_weigh_93 (by decide) ?_
            refine lv_imul hx hb dX11_weigh_96 ?_
            refine lv_isub hx hb dX11_weigh_97 ?_
            refine X_p29_4 hL C0 hw (fun w h => (List.mem_cons_of_mem _ (List.mem_append_left _ (List.mem_append_left _ (List.mem_append_right _ h))))) hk19 h ((List.mem_cons_of_mem _ (List.mem_append_left _ (List.mem_append_left _ (List.mem_append_left _ (List.mem_append_left _ (List.mem_append_left _ (List.mem_of_getElem? (i := 2) rfl)))))))) dX11_weigh_98 (fun t20 H locs hw h => ?_)
            refine lv_aload_n hx hb dX11_weigh_101 rfl (lv_at hl 0 rfl) ?_
            refine X_g0_18 C0 hw (fun w h => (List.mem_cons_of_mem _ (List.mem_append_left _ (List.mem_append_left _ (List.mem_append_left _ (List.mem_append_right _ h)))))) (by decide) ((List.mem_cons_of_mem _ (List.mem_append_left _ (List.mem_append_left _ (List.mem_append_left _ (List.mem_append_left _ (List.mem_append_left _ (List.mem_of_getElem? (i := 4) rfl)))))))) dX11_weigh_102 ?_
            refine lv_bipush (v := 8) hx hb dX11_weigh_105 (by decide) ?_
            refine lv_iload_n hx hb dX11_weigh_107 rfl (lv_at hl 1 rfl) ?_
            refine lv_iload_n hx hb dX11_weigh_108 rfl (lv_at hl 2 rfl) ?_
            refine lv_iload_n hx hb dX11_weigh_109 rfl (lv_at hl 3 rfl) ?_
            obtain ⟨⟨v21, t22⟩, hf23, h⟩ := bn_c h
            have h := un2_d h
            refine X_callV C0 hw (As := [.int (8 : Int32), .int a1, .int a2, .int a3]) (rest := []) (mX0_note l E hL t20 hf23) (cwV 4 C0.1.2.2.2.2 gX11_weigh_X0_note rfl rfl rfl (by decide +kernel) ⟨Nat.le_of_ble_eq_true rfl, Nat.le_of_ble_eq_true rfl⟩) (X_recv_18 C0 hw (by decide)) rfl hl.1 rfl (Nat.le_of_ble_eq_true rfl) dX11_weigh_110 ⟨Nat.zero_le _, Nat.zero_le _⟩ (fun H locs hw => ?_)
            obtain ⟨qf24, qi25⟩ := v21
            have h := un2_d h
            refine W.eq (g2 := F0 m 113 ls (.ref (E.2.2.1 qf24 qi25) :: [])) rfl ?_
            refine lv_pop hx hb dX11_weigh_113 rfl ?_
            refine lv_aload_n hx hb dX11_weigh_114 rfl (lv_at hl 0 rfl) ?_
            obtain ⟨⟨v26, t27⟩, hf28, h⟩ := bn_c h
            have h := un2_d h
            refine X_callV C0 hw (As := []) (rest := []) (mX11_accept l E hL t22 hf28) (cwV 0 C0.1.2.2.2.2 gX11_weigh_X11_accept rfl rfl rfl (by decide +kernel) ⟨Nat.le_of_ble_eq_true rfl, Nat.le_of_ble_eq_true rfl⟩) (X_recv_0 C0 hw (by decide)) rfl hl.1 rfl (Nat.le_of_ble_eq_true rfl) dX11_weigh_115 ⟨Nat.zero_le _, Nat.zero_le _⟩ (fun H locs hw => ?_)
            refine W.eq (g2 := F0 m 118 ls [.int v26]) rfl ?_
            refine lv_pop hx hb dX11_weigh_118 rfl ?_
            refine lv_aload_n hx hb dX11_weigh_119 rfl (lv_at hl 0 rfl) ?_
            refine X_g0_9 C0 hw (fun w h => (List.mem_cons_of_mem _ (List.mem_append_left _ (List.mem_append_left _ (List.mem_append_left _ (List.mem_append_right _ h)))))) (by decide) ((List.mem_cons_of_mem _ (List.mem_append_left _ (List.mem_append_left _ (List.mem_append_left _ (List.mem_append_left _ (List.mem_append_left _ (List.mem_of_getElem? (i := 3) rfl)))))))) dX11_weigh_120 ?_
            refine lv_iload_n hx hb dX11_weigh_123 rfl (lv_at hl 1 rfl) ?_
            refine X_ald_10 C0 hw (by decide) h (k := a1.toNatClampNeg) rfl dX11_weigh_124 (fun hk29 h => ?_)
            refine lv_iload_n hx hb dX11_weigh_125 rfl (lv_at hl 2 rfl) ?_
            refine lv_iload_n hx hb dX11_weigh_126 rfl (lv_at hl 3 rfl) ?_
            obtain ⟨⟨v30, t31⟩, hf32, h⟩ := bn_c h
            have h := un2_d h
            refine X_callV C0 hw (As := [.int a2, .int a3]) (rest := []) (mX1_addGrams l E hL t27 hk29 hf32) (cwV 2 C0.1.2.2.2.2 gX11_weigh_X1_addGrams rfl rfl rfl (by decide +kernel) ⟨Nat.le_of_ble_eq_true rfl, Nat.le_of_ble_eq_true rfl⟩) (X_recv_30 C0 hw hk29) rfl hl.1 rfl (Nat.le_of_ble_eq_true rfl) dX11_weigh_127 ⟨Nat.zero_le _, Nat.zero_le _⟩ (fun H locs hw => ?_)
            refine W.eq (g2 := F0 m 130 ls [.int v30]) rfl ?_
            cases h
            exact W.iret hx hb hr (X_fin C0 hw) hw.2.2.2 dX11_weigh_130 hlocks
          · have h := ifp h hc18
            refine lv_aload_n hx hb dX11_weigh_76 rfl (lv_at hl 0 rfl) ?_
            refine lv_iconst (v := 1) hx hb dX11_weigh_77 (by decide) ?_
            obtain ⟨⟨v33, t34⟩, hf35, h⟩ := bn_c h
            have h := un2_d h
            refine X_callV C0 hw (As := [.int (1 : Int32)]) (rest := []) (mX11_refused l E hL st hf35) (cwV 1 C0.1.2.2.2.2 gX11_weigh_X11_refused rfl rfl rfl (by decide +kernel) ⟨Nat.le_of_ble_eq_true rfl, Nat.le_of_ble_eq_true rfl⟩) (X_recv_0 C0 hw (by decide)) rfl hl.1 rfl (Nat.le_of_ble_eq_true rfl) dX11_weigh_78 ⟨Nat.zero_le _, Nat.zero_le _⟩ (fun H locs hw => ?_)
            refine W.eq (g2 := F0 m 81 ls [.int v33]) rfl ?_
            cases h
            exact W.iret hx hb hr (X_fin C0 hw) hw.2.2.2 dX11_weigh_81 hlocks
        · have h := ifn h hc14
          refine lv_aload_n hx hb dX11_weigh_57 rfl (lv_at hl 0 rfl) ?_
          refine lv_iconst (v := 4) hx hb dX11_weigh_58 (by decide) ?_
          obtain ⟨⟨v36, t37⟩, hf38, h⟩ := bn_c h
          have h := un2_d h
          refine X_callV C0 hw (As := [.int (4 : Int32)]) (rest := []) (mX11_refused l E hL st hf38) (cwV 1 C0.1.2.2.2.2 gX11_weigh_X11_refused rfl rfl rfl (by decide +kernel) ⟨Nat.le_of_ble_eq_true rfl, Nat.le_of_ble_eq_true rfl⟩) (X_recv_0 C0 hw (by decide)) rfl hl.1 rfl (Nat.le_of_ble_eq_true rfl) dX11_weigh_59 ⟨Nat.zero_le _, Nat.zero_le _⟩ (fun H locs hw => ?_)
          refine W.eq (g2 := F0 m 62 ls [.int v36]) rfl ?_
          cases h
          exact W.iret hx hb hr (X_fin C0 hw) hw.2.2.2 dX11_weigh_62 hlocks
      · have h := ifp h hc12
        refine lv_aload_n hx hb dX11_weigh_34 rfl (lv_at hl 0 rfl) ?_
        refine lv_iconst (v := 3) hx hb dX11_weigh_35 (by decide) ?_
        obtain ⟨⟨v39, t40⟩, hf41, h⟩ := bn_c h
        have h := un2_d h
        refine X_callV C0 hw (As := [.int (3 : Int32)]) (rest := []) (mX11_refused l E hL st hf41) (cwV 1 C0.1.2.2.2.2 gX11_weigh_X11_refused rfl rfl rfl (by decide +kernel) ⟨Nat.le_of_ble_eq_true rfl, Nat.le_of_ble_eq_true rfl⟩) (X_recv_0 C0 hw (by decide)) rfl hl.1 rfl (Nat.le_of_ble_eq_true rfl) dX11_weigh_36 ⟨Nat.zero_le _, Nat.zero_le _⟩ (fun H locs hw => ?_)
        refine W.eq (g2 := F0 m 39 ls [.int v39]) rfl ?_
        cases h
        exact W.iret hx hb hr (X_fin C0 hw) hw.2.2.2 dX11_weigh_39 hlocks
    · have h := ifp h hc9
      refine lv_aload_n hx hb dX11_weigh_18 rfl (lv_at hl 0 rfl) ?_
      refine lv_iconst (v := 2) hx hb dX11_weigh_19 (by decide) ?_
      obtain ⟨⟨v42, t43⟩, hf44, h⟩ := bn_c h
      have h := un2_d h
      refine X_callV C0 hw (As := [.int (2 : Int32)]) (rest := []) (mX11_refused l E hL st hf44) (cwV 1 C0.1.2.2.2.2 gX11_weigh_X11_refused rfl rfl rfl (by decide +kernel) ⟨Nat.le_of_ble_eq_true rfl, Nat.le_of_ble_eq_true rfl⟩) (X_recv_0 C0 hw (by decide)) rfl hl.1 rfl (Nat.le_of_ble_eq_true rfl) dX11_weigh_20 ⟨Nat.zero_le _, Nat.zero_le _⟩ (fun H locs hw => ?_)
      refine W.eq (g2 := F0 m 23 ls [.int v42]) rfl ?_
      cases h
      exact W.iret hx hb hr (X_fin C0 hw) hw.2.2.2 dX11_weigh_23 hlocks
