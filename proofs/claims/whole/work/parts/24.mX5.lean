def fX11_band (a1 : Int32) (a2 : Int32) (a3 : Int32) (st : Sto) : Option Int32 :=
  if a1 = (4 : Int32) then (
   (fX11_driftOf a2 st).bind (fun (v11 : (Option (Nat × Nat))) => oq v11 (
     some (0 : Int32)) fun (qf13 qi14 : Nat) =>
    if a3 < 0 then (
     some (0 : Int32)) else (
     if a3 < (16 : Int32) then (
      ck (0 ≤ a3.toInt ∧ a3.toInt < (lFX qf13 qi14 : Int)) (
       nd (FP.f2d (gF st qf13 qi14 (a3.toNatClampNeg))) fun (v17 : UInt64) =>
       (fX7_floatBits v17).bind (fun (v18 : Int32) =>
        some v18))) else (
      some (0 : Int32))))) else (
   (fX11_spectrumOf a1 a2 st).bind (fun (v2 : (Option (Nat × Nat))) => oq v2 (
     some (0 : Int32)) fun (qf4 qi5 : Nat) =>
    if a3 < 0 then (
     some (0 : Int32)) else (
     if a3 < (16 : Int32) then (
      ck (0 ≤ a3.toInt ∧ a3.toInt < (lFX qf4 qi5 : Int)) (
       nd (FP.f2d (gF st qf4 qi5 (a3.toNatClampNeg))) fun (v8 : UInt64) =>
       (fX7_floatBits v8).bind (fun (v9 : Int32) =>
        some v9))) else (
      some (0 : Int32)))))
set_option maxHeartbeats 4000000 in
set_option maxRecDepth 100000 in
theorem mX11_band (l : Launch) (E : XE) (hL : LX E) (st : Sto) {a1 : Int32} {a2 : Int32} {a3 : Int32} {r : Int32} (h : fX11_band a1 a2 a3 st = some r) : Met l yX11_band wsX11_band ({ frames := 2, cells := 0, slots := 0, locals := 44 }) (va_Pc [.ref (E.2.2.1 0 (0)), .int a1, .int a2, .int a3] (RX E st)) (QX E (some (.int r)) st) 0 0 E.2.2.2 := by
  refine Met.ofW (cc := cX11_band) (maxL := 5) (ret := (some .int)) (by decide) rfl ?_
  intro p e s m args below meth c s₁ B hml hv
  obtain ⟨rfl, hP, hK⟩ := hv
  have hown : s.vm.findClass RX11 = some m.cls := findClass_of_methodNamed B.named
  have C0 : CX p m c cX11_band 5 s _ wsX11_band RX11 E := ⟨⟨B.exec, B.bytes, hml, hown, atoms_spec (ws := wsX11_band) B.pre⟩, hK⟩
  have hx := B.exec
  have hb := B.bytes
  have hr := B.returns
  have hlocks := B.notSynchronized
  have hw : SX E s st s.heap [] := ⟨hP, va_S.rf⟩
  have hl := lv_entry ([.ref (E.2.2.1 0 (0)), .int a1, .int a2, .int a3]) (n := 5) (Nat.le_of_ble_eq_true rfl)
  rw [lg_entry_eq]
  generalize (lg_sl ([.ref (E.2.2.1 0 (0)), .int a1, .int a2, .int a3]) ++ List.replicate (5 - (lg_sl ([.ref (E.2.2.1 0 (0)), .int a1, .int a2, .int a3])).length) Slot.unset).toArray = ls at hl ⊢
  have hl : lv_has ls 5 [(0, .ref (E.2.2.1 0 (0))), (1, .int a1), (2, .int a2), (3, .int a3)] := hl
  unfold fX11_band at h
  refine lv_iload_n hx hb dX11_band_0 rfl (lv_at hl 1 rfl) ?_
  refine lv_iconst (v := 4) hx hb dX11_band_1 (by decide) ?_
  refine lv_icmp_ne (tgt := 13) hx hb dX11_band_2 (by decide) (fun hc1 => ?_) (fun hc1 => ?_)
  · have h := ifn h hc1
    refine lv_aload_n hx hb dX11_band_13 rfl (lv_at hl 0 rfl) ?_
    refine lv_iload_n hx hb dX11_band_14 rfl (lv_at hl 1 rfl) ?_
    refine lv_iload_n hx hb dX11_band_15 rfl (lv_at hl 2 rfl) ?_
    obtain ⟨v2, hf3, h⟩ := bn_c h
    refine X_callV C0 hw (As := [.int a1, .int a2]) (rest := []) (mX11_spectrumOf l E hL st hf3) (cwV 2 C0.1.2.2.2.2 gX11_band_X11_spectrumOf rfl rfl rfl (by decide +kernel) ⟨Nat.le_of_ble_eq_true rfl, Nat.le_of_ble_eq_true rfl⟩) (X_recv_0 C0 hw (by decide)) rfl hl.1 rfl (Nat.le_of_ble_eq_true rfl) dX11_band_16 ⟨Nat.zero_le _, Nat.zero_le _⟩ (fun H locs hw => ?_)
    rcases v2 with _ | ⟨qf4, qi5⟩
    · have h := oq_n h
      refine W.eq (g2 := F0 m 19 ls (.null :: [])) rfl ?_
      refine lv_astoreN (lv' := [(4, .null), (0, .ref (E.2.2.1 0 (0))), (1, .int a1), (2, .int a2), (3, .int a3)]) hx hb dX11_band_19 hl (by decide) rfl (fun ls hl => ?_)
      refine lv_aloadN hx hb dX11_band_21 (lv_at hl 0 rfl) ?_
      refine lv_ifnullN (tgt := 36) hx hb dX11_band_23 (by decide) ?_
      refine lv_iconst (v := 0) hx hb dX11_band_36 (by decide) ?_
      cases h
      exact W.iret hx hb hr (X_fin C0 hw) hw.2.2.2 dX11_band_37 hlocks
    · have h := oq_s h
      refine W.eq (g2 := F0 m 19 ls (.ref (E.2.2.1 qf4 qi5) :: [])) rfl ?_
      refine lv_astore (lv' := [(4, .ref (E.2.2.1 qf4 qi5)), (0, .ref (E.2.2.1 0 (0))), (1, .int a1), (2, .int a2), (3, .int a3)]) hx hb dX11_band_19 hl (by decide) rfl (fun ls hl => ?_)
      refine lv_aload hx hb dX11_band_21 (lv_at hl 0 rfl) ?_
      refine lv_ifnull hx hb dX11_band_23 ?_
      refine lv_iload_n hx hb dX11_band_26 rfl (lv_at hl 4 rfl) ?_
      refine lv_if_lt (tgt := 36) hx hb dX11_band_27 (by decide) (fun hc6 => ?_) (fun hc6 => ?_)
      · have h := ifp h hc6
        refine lv_iconst (v := 0) hx hb dX11_band_36 (by decide) ?_
        cases h
        exact W.iret hx hb hr (X_fin C0 hw) hw.2.2.2 dX11_band_37 hlocks
      · have h := ifn h hc6
        refine lv_iload_n hx hb dX11_band_30 rfl (lv_at hl 4 rfl) ?_
        refine lv_bipush (v := 16) hx hb dX11_band_31 (by decide) ?_
        refine lv_icmp_lt (tgt := 38) hx hb dX11_band_33 (by decide) (fun hc7 => ?_) (fun hc7 => ?_)
        · have h := ifp h hc7
          refine lv_aload hx hb dX11_band_38 (lv_at hl 0 rfl) ?_
          refine lv_iload_n hx hb dX11_band_40 rfl (lv_at hl 4 rfl) ?_
          refine X_fald C0 hw h (k := a3.toNatClampNeg) rfl dX11_band_41 (fun h => ?_)
          refine x_f2d hx hb h dX11_band_42 (fun v8 h => ?_)
          obtain ⟨v9, hf10, h⟩ := bn_c h
          refine X_callS C0 hw (As := [.double v8]) (rest := []) (mX7_floatBits l E hL st hf10) (va_cwS 1 C0.1.2.2.2.2 gX11_band_X7_floatBits rfl rfl rfl (by decide +kernel) ⟨Nat.le_of_ble_eq_true rfl, Nat.le_of_ble_eq_true rfl⟩) rfl hl.1 rfl (Nat.le_of_ble_eq_true rfl) dX11_band_43 ⟨Nat.zero_le _, Nat.zero_le _⟩ (fun H locs hw => ?_)
          refine W.eq (g2 := F0 m 46 ls [.int v9]) rfl ?_
          cases h
          exact W.iret hx hb hr (X_fin C0 hw) hw.2.2.2 dX11_band_46 hlocks
        · have h := ifn h hc7
          refine lv_iconst (v := 0) hx hb dX11_band_36 (by decide) ?_
          cases h
          exact W.iret hx hb hr (X_fin C0 hw) hw.2.2.2 dX11_band_37 hlocks
  · have h := ifp h hc1
    refine lv_aload_n hx hb dX11_band_5 rfl (lv_at hl 0 rfl) ?_
    refine lv_iload_n hx hb dX11_band_6 rfl (lv_at hl 2 rfl) ?_
    obtain ⟨v11, hf12, h⟩ := bn_c h
    refine X_callV C0 hw (As := [.int a2]) (rest := []) (mX11_driftOf l E hL st hf12) (cwV 1 C0.1.2.2.2.2 gX11_band_X11_driftOf rfl rfl rfl (by decide +kernel) ⟨Nat.le_of_ble_eq_true rfl, Nat.le_of_ble_eq_true rfl⟩) (X_recv_0 C0 hw (by decide)) rfl hl.1 rfl (Nat.le_of_ble_eq_true rfl) dX11_band_7 ⟨Nat.zero_le _, Nat.zero_le _⟩ (fun H locs hw => ?_)
    rcases v11 with _ | ⟨qf13, qi14⟩
    · have h := oq_n h
      refine W.eq (g2 := F0 m 10 ls (.null :: [])) rfl ?_
      refine lv_goto (tgt := 19) hx hb dX11_band_10 (by decide) ?_
      refine lv_astoreN (lv' := [(4, .null), (0, .ref (E.2.2.1 0 (0))), (1, .int a1), (2, .int a2), (3, .int a3)]) hx hb dX11_band_19 hl (by decide) rfl (fun ls hl => ?_)
      refine lv_aloadN hx hb dX11_band_21 (lv_at hl 0 rfl) ?_
      refine lv_ifnullN (tgt := 36) hx hb dX11_band_23 (by decide) ?_
      refine lv_iconst (v := 0) hx hb dX11_band_36 (by decide) ?_
      cases h
      exact W.iret hx hb hr (X_fin C0 hw) hw.2.2.2 dX11_band_37 hlocks
    · have h := oq_s h
      refine W.eq (g2 := F0 m 10 ls (.ref (E.2.2.1 qf13 qi14) :: [])) rfl ?_
      refine lv_goto (tgt := 19) hx hb dX11_band_10 (by decide) ?_
      refine lv_astore (lv' := [(4, .ref (E.2.2.1 qf13 qi14)), (0, .ref (E.2.2.1 0 (0))), (1, .int a1), (2, .int a2), (3, .int a3)]) hx hb dX11_band_19 hl (by decide) rfl (fun ls hl => ?_)
      refine lv_aload hx hb dX11_band_21 (lv_at hl 0 rfl) ?_
      refine lv_ifnull hx hb dX11_band_23 ?_
      refine lv_iload_n hx hb dX11_band_26 rfl (lv_at hl 4 rfl) ?_
      refine lv_if_lt (tgt := 36) hx hb dX11_band_27 (by decide) (fun hc15 => ?_) (fun hc15 => ?_)
      · have h := ifp h hc15
        refine lv_iconst (v := 0) hx hb dX11_band_36 (by decide) ?_
        cases h
        exact W.iret hx hb hr (X_fin C0 hw) hw.2.2.2 dX11_band_37 hlocks
      · have h := ifn h hc15
        refine lv_iload_n hx hb dX11_band_30 rfl (lv_at hl 4 rfl) ?_
        refine lv_bipush (v := 16) hx hb dX11_band_31 (by decide) ?_
        refine lv_icmp_lt (tgt := 38) hx hb dX11_band_33 (by decide) (fun hc16 => ?_) (fun hc16 => ?_)
        · have h := ifp h hc16
          refine lv_aload hx hb dX11_band_38 (lv_at hl 0 rfl) ?_
          refine lv_iload_n hx hb dX11_band_40 rfl (lv_at hl 4 rfl) ?_
          refine X_fald C0 hw h (k := a3.toNatClampNeg) rfl dX11_band_41 (fun h => ?_)
          refine x_f2d hx hb h dX11_band_42 (fun v17 h => ?_)
          obtain ⟨v18, hf19, h⟩ := bn_c h
          refine X_callS C0 hw (As := [.double v17]) (rest := []) (mX7_floatBits l E hL st hf19) (va_cwS 1 C0.1.2.2.2.2 gX11_band_X7_floatBits rfl rfl rfl (by decide +kernel) ⟨Nat.le_of_ble_eq_true rfl, Nat.le_of_ble_eq_true rfl⟩) rfl hl.1 rfl (Nat.le_of_ble_eq_true rfl) dX11_band_43 ⟨Nat.zero_le _, Nat.zero_le _⟩ (fun H locs hw => ?_)
          refine W.eq (g2 := F0 m 46 ls [.int v18]) rfl ?_
          cases h
          exact W.iret hx hb hr (X_fin C0 hw) hw.2.2.2 dX11_band_46 hlocks
        · have h := ifn h hc16
          refine lv_iconst (v := 0) hx hb dX11_band_36 (by decide) ?_
          cases h
          exact W.iret hx hb hr (X_fin C0 hw) hw.2.2.2 dX11_band_37 hlocks

def fX11_pick (a1 : Int32) (a2 : Int32) (st : Sto) : Option (Int32 × Sto) :=
  (fX11_spectrumOf a1 a2 st).bind (fun (v1 : (Option (Nat × Nat))) => oq v1 (
    (fX11_denied (2 : Int32) st).bind (un2 fun (v5 : Int32) (t6 : Sto) =>
     ck (v5 &&& 1 = v5) (
      some (v5, t6)))) fun (qf3 qi4 : Nat) =>
   if a1 = 0 then (
    (fX11_denied (2 : Int32) st).bind (un2 fun (v14 : Int32) (t15 : Sto) =>
     ck (v14 &&& 1 = v14) (
      some (v14, t15)))) else (
    (fX11_copyRow qf3 qi4 (1) (0) st).bind (fun (t9 : Sto) =>
     (fX11_accept t9).bind (un2 fun (v11 : Int32) (t12 : Sto) =>
      ck (v11 &&& 1 = v11) (
       some (v11, t12))))))
set_option maxHeartbeats 4000000 in
set_option maxRecDepth 100000 in
theorem mX11_pick (l : Launch) (E : XE) (hL : LX E) (st : Sto) {a1 : Int32} {a2 : Int32} {r : Int32} {st1 : Sto} (h : fX11_pick a1 a2 st = some (r, st1)) : Met l yX11_pick wsX11_pick ({ frames := 2, cells := 0, slots := 0, locals := 69 }) (va_Pc [.ref (E.2.2.1 0 (0)), .int a1, .int a2] (RX E st)) (QX E (some (.int r)) st1) 0 0 E.2.2.2 := by
  refine Met.ofW (cc := cX11_pick) (maxL := 4) (ret := (some .boolean)) (by decide) rfl ?_
  intro p e s m args below meth c s₁ B hml hv
  obtain ⟨rfl, hP, hK⟩ := hv
  have hown : s.vm.findClass RX11 = some m.cls := findClass_of_methodNamed B.named
  have C0 : CX p m c cX11_pick 4 s _ wsX11_pick RX11 E := ⟨⟨B.exec, B.bytes, hml, hown, atoms_spec (ws := wsX11_pick) B.pre⟩, hK⟩
  have hx := B.exec
  have hb := B.bytes
  have hr := B.returns
  have hlocks := B.notSynchronized
  have hw : SX E s st s.heap [] := ⟨hP, va_S.rf⟩
  have hl := lv_entry ([.ref (E.2.2.1 0 (0)), .int a1, .int a2]) (n := 4) (Nat.le_of_ble_eq_true rfl)
  rw [lg_entry_eq]
  generalize (lg_sl ([.ref (E.2.2.1 0 (0)), .int a1, .int a2]) ++ List.replicate (4 - (lg_sl ([.ref (E.2.2.1 0 (0)), .int a1, .int a2])).length) Slot.unset).toArray = ls at hl ⊢
  have hl : lv_has ls 4 [(0, .ref (E.2.2.1 0 (0))), (1, .int a1), (2, .int a2)] := hl
  unfold fX11_pick at h
  refine lv_aload_n hx hb dX11_pick_0 rfl (lv_at hl 0 rfl) ?_
  refine lv_iload_n hx hb dX11_pick_1 rfl (lv_at hl 1 rfl) ?_
  refine lv_iload_n hx hb dX11_pick_2 rfl (lv_at hl 2 rfl) ?_
  obtain ⟨v1, hf2, h⟩ := bn_c h
  refine X_callV C0 hw (As := [.int a1, .int a2]) (rest := []) (mX11_spectrumOf l E hL st hf2) (cwV 2 C0.1.2.2.2.2 gX11_pick_X11_spectrumOf rfl rfl rfl (by decide +kernel) ⟨Nat.le_of_ble_eq_true rfl, Nat.le_of_ble_eq_true rfl⟩) (X_recv_0 C0 hw (by decide)) rfl hl.1 rfl (Nat.le_of_ble_eq_true rfl) dX11_pick_3 ⟨Nat.zero_le _, Nat.zero_le _⟩ (fun H locs hw => ?_)
  rcases v1 with _ | ⟨qf3, qi4⟩
  · have h := oq_n h
    refine W.eq (g2 := F0 m 6 ls (.null :: [])) rfl ?_
    refine lv_astore_nN (lv' := [(3, .null), (0, .ref (E.2.2.1 0 (0))), (1, .int a1), (2, .int a2)]) hx hb dX11_pick_6 rfl hl (by decide) rfl (fun ls hl => ?_)
    refine lv_aload_nN hx hb dX11_pick_7 rfl (lv_at hl 0 rfl) ?_
    refine lv_ifnullN (tgt := 15) hx hb dX11_pick_8 (by decide) ?_
    refine lv_aload_n hx hb dX11_pick_15 rfl (lv_at hl 1 rfl) ?_
    refine lv_iconst (v := 2) hx hb dX11_pick_16 (by decide) ?_
    obtain ⟨⟨v5, t6⟩, hf7, h⟩ := bn_c h
    have h := un2_d h
    refine X_callV C0 hw (As := [.int (2 : Int32)]) (rest := []) (mX11_denied l E hL st hf7) (cwV 1 C0.1.2.2.2.2 gX11_pick_X11_denied rfl rfl rfl (by decide +kernel) ⟨Nat.le_of_ble_eq_true rfl, Nat.le_of_ble_eq_true rfl⟩) (X_recv_0 C0 hw (by decide)) rfl hl.1 rfl (Nat.le_of_ble_eq_true rfl) dX11_pick_17 ⟨Nat.zero_le _, Nat.zero_le _⟩ (fun H locs hw => ?_)
    refine W.eq (g2 := F0 m 20 ls [.int v5]) rfl ?_
    obtain ⟨hz, h⟩ := ck_c h
    cases h
    exact W.zret hx hb hr (zz hz) (X_fin C0 hw) hw.2.2.2 dX11_pick_20 hlocks
  · have h := oq_s h
    refine W.eq (g2 := F0 m 6 ls (.ref (E.2.2.1 qf3 qi4) :: [])) rfl ?_
    refine lv_astore_n (lv' := [(3, .ref (E.2.2.1 qf3 qi4)), (0, .ref (E.2.2.1 0 (0))), (1, .int a1), (2, .int a2)]) hx hb dX11_pick_6 rfl hl (by decide) rfl (fun ls hl => ?_)
    refine lv_aload_n hx hb dX11_pick_7 rfl (lv_at hl 0 rfl) ?_
    refine lv_ifnull hx hb dX11_pick_8 ?_
    refine lv_iload_n hx hb dX11_pick_11 rfl (lv_at hl 2 rfl) ?_
    refine lv_if_ne (tgt := 21) hx hb dX11_pick_12 (by decide) (fun hc8 => ?_) (fun hc8 => ?_)
    · have h := ifn h hc8
      refine lv_aload_n hx hb dX11_pick_21 rfl (lv_at hl 0 rfl) ?_
      refine lv_aload_n hx hb dX11_pick_22 rfl (lv_at hl 1 rfl) ?_
      refine X_g0_0 C0 hw (fun w h => (List.mem_cons_of_mem _ (List.mem_append_left _ (List.mem_append_left _ (List.mem_append_right _ h))))) (by decide) ((List.mem_cons_of_mem _ (List.mem_append_left _ (List.mem_append_left _ (List.mem_append_left _ (List.mem_append_left _ (List.mem_of_getElem? (i := 0) rfl))))))) dX11_pick_23 ?_
      obtain ⟨t9, hf10, h⟩ := bn_c h
      refine X_callS C0 hw (As := [.ref (E.2.2.1 qf3 qi4), .ref (E.2.2.1 (1) (0))]) (rest := []) (mX11_copyRow l E hL st hf10) (va_cwS 2 C0.1.2.2.2.2 gX11_pick_X11_copyRow rfl rfl rfl (by decide +kernel) ⟨Nat.le_of_ble_eq_true rfl, Nat.le_of_ble_eq_true rfl⟩) rfl hl.1 rfl (Nat.le_of_ble_eq_true rfl) dX11_pick_26 ⟨Nat.zero_le _, Nat.zero_le _⟩ (fun H locs hw => ?_)
      refine W.eq (g2 := F0 m 29 ls []) rfl ?_
      refine lv_aload_n hx hb dX11_pick_29 rfl (lv_at hl 1 rfl) ?_
      obtain ⟨⟨v11, t12⟩, hf13, h⟩ := bn_c h
      have h := un2_d h
      refine X_callV C0 hw (As := []) (rest := []) (mX11_accept l E hL t9 hf13) (cwV 0 C0.1.2.2.2.2 gX11_pick_X11_accept rfl rfl rfl (by decide +kernel) ⟨Nat.le_of_ble_eq_true rfl, Nat.le_of_ble_eq_true rfl⟩) (X_recv_0 C0 hw (by decide)) rfl hl.1 rfl (Nat.le_of_ble_eq_true rfl) dX11_pick_30 ⟨Nat.zero_le _, Nat.zero_le _⟩ (fun H locs hw => ?_)
      refine W.eq (g2 := F0 m 33 ls [.int v11]) rfl ?_
      obtain ⟨hz, h⟩ := ck_c h
      cases h
      exact W.zret hx hb hr (zz hz) (X_fin C0 hw) hw.2.2.2 dX11_pick_33 hlocks
    · have h := ifp h hc8
      refine lv_aload_n hx hb dX11_pick_15 rfl (lv_at hl 1 rfl) ?_
      refine lv_iconst (v := 2) hx hb dX11_pick_16 (by decide) ?_
      obtain ⟨⟨v14, t15⟩, hf16, h⟩ := bn_c h
      have h := un2_d h
      refine X_callV C0 hw (As := [.int (2 : Int32)]) (rest := []) (mX11_denied l E hL st hf16) (cwV 1 C0.1.2.2.2.2 gX11_pick_X11_denied rfl rfl rfl (by decide +kernel) ⟨Nat.le_of_ble_eq_true rfl, Nat.le_of_ble_eq_true rfl⟩) (X_recv_0 C0 hw (by decide)) rfl hl.1 rfl (Nat.le_of_ble_eq_true rfl) dX11_pick_17 ⟨Nat.zero_le _, Nat.zero_le _⟩ (fun H locs hw => ?_)
      refine W.eq (g2 := F0 m 20 ls [.int v14]) rfl ?_
      obtain ⟨hz, h⟩ := ck_c h
      cases h
      exact W.zret hx hb hr (zz hz) (X_fin C0 hw) hw.2.2.2 dX11_pick_20 hlocks

def fX11_blend (a1 : Int32) (a2 : Int32) (a3 : Int32) (a4 : Int32) (st : Sto) : Option (Int32 × Sto) :=
  (fX11_isThere (0 : Int32) a1 st).bind (fun (v1 : Int32) =>
   if v1 = 0 then (
    (fX11_refused (2 : Int32) st).bind (un2 fun (v4 : Int32) (t5 : Sto) =>
     some (v4, t5))) else (
    (fX11_isThere (0 : Int32) a2 st).bind (fun (v7 : Int32) =>
     if v7 = 0 then (
      (fX11_refused (2 : Int32) st).bind (un2 fun (v34 : Int32) (t35 : Sto) =>
       some (v34, t35))) else (
      (fX11_isWithin a4 (1 : Int32) (1000 : Int32)).bind (fun (v10 : Int32) =>
       if v10 = 0 then (
        (fX11_refused (3 : Int32) st).bind (un2 fun (v13 : Int32) (t14 : Sto) =>
         some (v13, t14))) else (
        (fX11_isWithin a3 (0 : Int32) a4).bind (fun (v16 : Int32) =>
         if v16 = 0 then (
          (fX11_refused (3 : Int32) st).bind (un2 fun (v31 : Int32) (t32 : Sto) =>
           some (v31, t32))) else (
          if gI st (3) (0) (0) < (40 : Int32) then (
           ck (0 ≤ (gI st (3) (0) (0)).toInt ∧ (gI st (3) (0) (0)).toInt < (40 : Int)) (
            ck (0 ≤ a1.toInt ∧ a1.toInt < (40 : Int)) (
             ck (0 ≤ a2.toInt ∧ a2.toInt < (40 : Int)) (
              (fX2_become ((gI st (3) (0) (0)).toNatClampNeg) (a1.toNatClampNeg) (a2.toNatClampNeg) a3 a4 st).bind (fun (t23 : Sto) =>
               (fX11_newOne (0 : Int32) t23).bind (un2 fun (v25 : Int32) (t26 : Sto) =>
                some (v25, t26))))))) else (
           (fX11_refused (1 : Int32) st).bind (un2 fun (v28 : Int32) (t29 : Sto) =>
            some (v28, t29)))))))))))
set_option maxHeartbeats 4000000 in
set_option maxRecDepth 100000 in
theorem mX11_blend (l : Launch) (E : XE) (hL : LX E) (st : Sto) {a1 : Int32} {a2 : Int32} {a3 : Int32} {a4 : Int32} {r : Int32} {st1 : Sto} (h : fX11_blend a1 a2 a3 a4 st = some (r, st1)) : Met l yX11_blend wsX11_blend ({ frames := 3, cells := 0, slots := 0, locals := 68 }) (va_Pc [.ref (E.2.2.1 0 (0)), .int a1, .int a2, .int a3, .int a4] (RX E st)) (QX E (some (.int r)) st1) 0 0 E.2.2.2 := by
  refine Met.ofW (cc := cX11_blend) (maxL := 5) (ret := (some .int)) (by decide) rfl ?_
  intro p e s m args below meth c s₁ B hml hv
  obtain ⟨rfl, hP, hK⟩ := hv
  have hown : s.vm.findClass RX11 = some m.cls := findClass_of_methodNamed B.named
  have C0 : CX p m c cX11_blend 5 s _ wsX11_blend RX11 E := ⟨⟨B.exec, B.bytes, hml, hown, atoms_spec (ws := wsX11_blend) B.pre⟩, hK⟩
  have hx := B.exec
  have hb := B.bytes
  have hr := B.returns
  have hlocks := B.notSynchronized
  have hw : SX E s st s.heap [] := ⟨hP, va_S.rf⟩
  have hl := lv_entry ([.ref (E.2.2.1 0 (0)), .int a1, .int a2, .int a3, .int a4]) (n := 5) (Nat.le_of_ble_eq_true rfl)
  rw [lg_entry_eq]
  generalize (lg_sl ([.ref (E.2.2.1 0 (0)), .int a1, .int a2, .int a3, .int a4]) ++ List.replicate (5 - (lg_sl ([.ref (E.2.2.1 0 (0)), .int a1, .int a2, .int a3, .int a4])).length) Slot.unset).toArray = ls at hl ⊢
  have hl : lv_has ls 5 [(0, .ref (E.2.2.1 0 (0))), (1, .int a1), (2, .int a2), (3, .int a3), (4, .int a4)] := hl
  unfold fX11_blend at h
  refine lv_aload_n hx hb dX11_blend_0 rfl (lv_at hl 0 rfl) ?_
  refine lv_iconst (v := 0) hx hb dX11_blend_1 (by decide) ?_
  refine lv_iload_n hx hb dX11_blend_2 rfl (lv_at hl 1 rfl) ?_
  obtain ⟨v1, hf2, h⟩ := bn_c h
  refine X_callV C0 hw (As := [.int (0 : Int32), .int a1]) (rest := []) (mX11_isThere l E hL st hf2) (cwV 2 C0.1.2.2.2.2 gX11_blend_X11_isThere rfl rfl rfl (by decide +kernel) ⟨Nat.le_of_ble_eq_true rfl, Nat.le_of_ble_eq_true rfl⟩) (X_recv_0 C0 hw (by decide)) rfl hl.1 rfl (Nat.le_of_ble_eq_true rfl) dX11_blend_3 ⟨Nat.zero_le _, Nat.zero_le _⟩ (fun H locs hw => ?_)
  refine W.eq (g2 := F0 m 6 ls [.int v1]) rfl ?_
  refine lv_if_eq (tgt := 18) hx hb dX11_blend_6 (by decide) (fun hc3 => ?_) (fun hc3 => ?_)
  · have h := ifp h hc3
    refine lv_aload_n hx hb dX11_blend_18 rfl (lv_at hl 0 rfl) ?_
    refine lv_iconst (v := 2) hx hb dX11_blend_19 (by decide) ?_
    obtain ⟨⟨v4, t5⟩, hf6, h⟩ := bn_c h
    have h := un2_d h
    refine X_callV C0 hw (As := [.int (2 : Int32)]) (rest := []) (mX11_refused l E hL st hf6) (cwV 1 C0.1.2.2.2.2 gX11_blend_X11_refused rfl rfl rfl (by decide +kernel) ⟨Nat.le_of_ble_eq_true rfl, Nat.le_of_ble_eq_true rfl⟩) (X_recv_0 C0 hw (by decide)) rfl hl.1 rfl (Nat.le_of_ble_eq_true rfl) dX11_blend_20 ⟨Nat.zero_le _, Nat.zero_le _⟩ (fun H locs hw => ?_)
    refine W.eq (g2 := F0 m 23 ls [.int v4]) rfl ?_
    cases h
    exact W.iret hx hb hr (X_fin C0 hw) hw.2.2.2 dX11_blend_23 hlocks
  · have h := ifn h hc3
    refine lv_aload_n hx hb dX11_blend_9 rfl (lv_at hl 0 rfl) ?_
    refine lv_iconst (v := 0) hx hb dX11_blend_10 (by decide) ?_
    refine lv_iload_n hx hb dX11_blend_11 rfl (lv_at hl 2 rfl) ?_
    obtain ⟨v7, hf8, h⟩ := bn_c h
    refine X_callV C0 hw (As := [.int (0 : Int32), .int a2]) (rest := []) (mX11_isThere l E hL st hf8) (cwV 2 C0.1.2.2.2.2 gX11_blend_X11_isThere rfl rfl rfl (by decide +kernel) ⟨Nat.le_of_ble_eq_true rfl, Nat.le_of_ble_eq_true rfl⟩) (X_recv_0 C0 hw (by decide)) rfl hl.1 rfl (Nat.le_of_ble_eq_true rfl) dX11_blend_12 ⟨Nat.zero_le _, Nat.zero_le _⟩ (fun H locs hw => ?_)
    refine W.eq (g2 := F0 m 15 ls [.int v7]) rfl ?_
    refine lv_if_ne (tgt := 24) hx hb dX11_blend_15 (by decide) (fun hc9 => ?_) (fun hc9 => ?_)
    · have h := ifn h hc9
      refine lv_iload hx hb dX11_blend_24 (lv_at hl 4 rfl) ?_
      refine lv_iconst (v := 1) hx hb dX11_blend_26 (by decide) ?_
      refine lv_sipush (v := 1000) hx hb dX11_blend_27 (by decide) ?_
      obtain ⟨v10, hf11, h⟩ := bn_c h
      refine X_callS C0 hw (As := [.int a4, .int (1 : Int32), .int (1000 : Int32)]) (rest := []) (mX11_isWithin l E hL st hf11) (va_cwS 3 C0.1.2.2.2.2 gX11_blend_X11_isWithin rfl rfl rfl (by decide +kernel) ⟨Nat.le_of_ble_eq_true rfl, Nat.le_of_ble_eq_true rfl⟩) rfl hl.1 rfl (Nat.le_of_ble_eq_true rfl) dX11_blend_30 ⟨Nat.zero_le _, Nat.zero_le _⟩ (fun H locs hw => ?_)
      refine W.eq (g2 := F0 m 33 ls [.int v10]) rfl ?_
      refine lv_if_eq (tgt := 46) hx hb dX11_blend_33 (by decide) (fun hc12 => ?_) (fun hc12 => ?_)
      · have h := ifp h hc12
        refine lv_aload_n hx hb dX11_blend_46 rfl (lv_at hl 0 rfl) ?_
        refine lv_iconst (v := 3) hx hb dX11_blend_47 (by decide) ?_
        obtain ⟨⟨v13, t14⟩, hf15, h⟩ := bn_c h
        have h := un2_d h
        refine X_callV C0 hw (As := [.int (3 : Int32)]) (rest := []) (mX11_refused l E hL st hf15) (cwV 1 C0.1.2.2.2.2 gX11_blend_X11_refused rfl rfl rfl (by decide +kernel) ⟨Nat.le_of_ble_eq_true rfl, Nat.le_of_ble_eq_true rfl⟩) (X_recv_0 C0 hw (by decide)) rfl hl.1 rfl (Nat.le_of_ble_eq_true rfl) dX11_blend_48 ⟨Nat.zero_le _, Nat.zero_le _⟩ (fun H locs hw => ?_)
        refine W.eq (g2 := F0 m 51 ls [.int v13]) rfl ?_
        cases h
        exact W.iret hx hb hr (X_fin C0 hw) hw.2.2.2 dX11_blend_51 hlocks
      · have h := ifn h hc12
        refine lv_iload_n hx hb dX11_blend_36 rfl (lv_at hl 3 rfl) ?_
        refine lv_iconst (v := 0) hx hb dX11_blend_37 (by decide) ?_
        refine lv_iload hx hb dX11_blend_38 (lv_at hl 4 rfl) ?_
        obtain ⟨v16, hf17, h⟩ := bn_c h
        refine X_callS C0 hw (As := [.int a3, .int (0 : Int32), .int a4]) (rest := []) (mX11_isWithin l E hL st hf17) (va_cwS 3 C0.1.2.2.2.2 gX11_blend_X11_isWithin rfl rfl rfl (by decide +kernel) ⟨Nat.le_of_ble_eq_true rfl, Nat.le_of_ble_eq_true rfl⟩) rfl hl.1 rfl (Nat.le_of_ble_eq_true rfl) dX11_blend_40 ⟨Nat.zero_le _, Nat.zero_le _⟩ (fun H locs hw => ?_)
        refine W.eq (g2 := F0 m 43 ls [.int v16]) rfl ?_
        refine lv_if_ne (tgt := 52) hx hb dX11_blend_43 (by decide) (fun hc18 => ?_) (fun hc18 => ?_)
        · have h := ifn h hc18
          refine lv_aload_n hx hb dX11_blend_52 rfl (lv_at hl 0 rfl) ?_
          refine X_g0_3 C0 hw (fun w h => (List.mem_cons_of_mem _ (List.mem_append_left _ (List.mem_append_left _ (List.mem_append_right _ h))))) (by decide) ((List.mem_cons_of_mem _ (List.mem_append_left _ (List.mem_append_left _ (List.mem_append_left _ (List.mem_append_left _ (List.mem_of_getElem? (i := 0) rfl))))))) dX11_blend_53 ?_
          refine lv_iconst (v := 0) hx hb dX11_blend_56 (by decide) ?_
          refine X_ialdL C0 hw (vp_in_iff.mpr (by decide +kernel)) (k := 0) rfl dX11_blend_57 ?_
          refine lv_bipush (v := 40) hx hb dX11_blend_58 (by decide) ?_
          refine lv_icmp_lt (tgt := 69) hx hb dX11_blend_60 (by decide) (fun hc19 => ?_) (fun hc19 => ?_)
          · have h := ifp h hc19
            refine lv_aload_n hx hb dX11_blend_69 rfl (lv_at hl 0 rfl) ?_
            refine X_g0_4 C0 hw (fun w h => (List.mem_cons_of_mem _ (List.mem_append_left _ (List.mem_append_left _ (List.mem_append_right _ h))))) (by decide) ((List.mem_cons_of_mem _ (List.mem_append_left _ (List.mem_append_left _ (List.mem_append_left _ (List.mem_append_left _ (List.mem_of_getElem? (i := 1) rfl))))))) dX11_blend_70 ?_
            refine lv_aload_n hx hb dX11_blend_73 rfl (lv_at hl 0 rfl) ?_
            refine X_g0_3 C0 hw (fun w h => (List.mem_cons_of_mem _ (List.mem_append_left _ (List.mem_append_left _ (List.mem_append_right _ h))))) (by decide) ((List.mem_cons_of_mem _ (List.mem_append_left _ (List.mem_append_left _ (List.mem_append_left _ (List.mem_append_left _ (List.mem_of_getElem? (i := 0) rfl))))))) dX11_blend_74 ?_
            refine lv_iconst (v := 0) hx hb dX11_blend_77 (by decide) ?_
            refine X_ialdL C0 hw (vp_in_iff.mpr (by decide +kernel)) (k := 0) rfl dX11_blend_78 ?_
            refine X_ald_4 C0 hw (by decide) h (k := (gI st (3) (0) (0)).toNatClampNeg) rfl dX11_blend_79 (fun hk20 h => ?_)
            refine lv_aload_n hx hb dX11_blend_80 rfl (lv_at hl 0 rfl) ?_
            refine X_g0_4 C0 hw (fun w h => (List.mem_cons_of_mem _ (List.mem_append_left _ (List.mem_append_left _ (List.mem_append_right _ h))))) (by decide) ((List.mem_cons_of_mem _ (List.mem_append_left _ (List.mem_append_left _ (List.mem_append_left _ (List.mem_append_left _ (List.mem_of_getElem? (i := 1) rfl))))))) dX11_blend_81 ?_
            refine lv_iload_n hx hb dX11_blend_84 rfl (lv_at hl 1 rfl) ?_
            refine X_ald_4 C0 hw (by decide) h (k := a1.toNatClampNeg) rfl dX11_blend_85 (fun hk21 h => ?_)
            refine lv_aload_n hx hb dX11_blend_86 rfl (lv_at hl 0 rfl) ?_
            refine X_g0_4 C0 hw (fun w h => (List.mem_cons_of_mem _ (List.mem_append_left _ (List.mem_append_left _ (List.mem_append_right _ h))))) (by decide) ((List.mem_cons_of_mem _ (List.mem_append_left _ (List.mem_append_left _ (List.mem_append_left _ (List.mem_append_left _ (List.mem_of_getElem? (i := 1) rfl))))))) dX11_blend_87 ?_
            refine lv_iload_n hx hb dX11_blend_90 rfl (lv_at hl 2 rfl) ?_
            refine X_ald_4 C0 hw (by decide) h (k := a2.toNatClampNeg) rfl dX11_blend_91 (fun hk22 h => ?_)
            refine lv_iload_n hx hb dX11_blend_92 rfl (lv_at hl 3 rfl) ?_
            refine lv_iload hx hb dX11_blend_93 (lv_at hl 4 rfl) ?_
            obtain ⟨t23, hf24, h⟩ := bn_c h
            refine X_callV C0 hw (As := [.ref (E.2.2.1 19 (a1.toNatClampNeg)), .ref (E.2.2.1 19 (a2.toNatClampNeg)), .int a3, .int a4]) (rest := []) (mX2_become l E hL st hk20 hk21 hk22 hf24) (cwV 4 C0.1.2.2.2.2 gX11_blend_X2_become rfl rfl rfl (by decide +kernel) ⟨Nat.le_of_ble_eq_true rfl, Nat.le_of_ble_eq_true rfl⟩) (X_recv_19 C0 hw hk20) rfl hl.1 rfl (Nat.le_of_ble_eq_true rfl) dX11_blend_95 ⟨Nat.zero_le _, Nat.zero_le _⟩ (fun H locs hw => ?_)
            refine W.eq (g2 := F0 m 98 ls []) rfl ?_
            refine lv_aload_n hx hb dX11_blend_98 rfl (lv_at hl 0 rfl) ?_
            refine lv_iconst (v := 0) hx hb dX11_blend_99 (by decide) ?_
            obtain ⟨⟨v25, t26⟩, hf27, h⟩ := bn_c h
            have h := un2_d h
            refine X_callV C0 hw (As := [.int (0 : Int32)]) (rest := []) (mX11_newOne l E hL t23 hf27) (cwV 1 C0.1.2.2.2.2 gX11_blend_X11_newOne rfl rfl rfl (by decide +kernel) ⟨Nat.le_of_ble_eq_true rfl, Nat.le_of_ble_eq_true rfl⟩) (X_recv_0 C0 hw (by decide)) rfl hl.1 rfl (Nat.le_of_ble_eq_true rfl) dX11_blend_100 ⟨Nat.zero_le _, Nat.zero_le _⟩ (fun H locs hw => ?_)
            refine W.eq (g2 := F0 m 103 ls [.int v25]) rfl ?_
            cases h
            exact W.iret hx hb hr (X_fin C0 hw) hw.2.2.2 dX11_blend_103 hlocks
          · have h := ifn h hc19
            refine lv_aload_n hx hb dX11_blend_63 rfl (lv_at hl 0 rfl) ?_
            refine lv_iconst (v := 1) hx hb dX11_blend_64 (by decide) ?_
            obtain ⟨⟨v28, t29⟩, hf30, h⟩ := bn_c h
            have h := un2_d h
            refine X_callV C0 hw (As := [.int (1 : Int32)]) (rest := []) (mX11_refused l E hL st hf30) (cwV 1 C0.1.2.2.2.2 gX11_blend_X11_refused rfl rfl rfl (by decide +kernel) ⟨Nat.le_of_ble_eq_true rfl, Nat.le_of_ble_eq_true rfl⟩) (X_recv_0 C0 hw (by decide)) rfl hl.1 rfl (Nat.le_of_ble_eq_true rfl) dX11_blend_65 ⟨Nat.zero_le _, Nat.zero_le _⟩ (fun H locs hw => ?_)
            refine W.eq (g2 := F0 m 68 ls [.int v28]) rfl ?_
            cases h
            exact W.iret hx hb hr (X_fin C0 hw) hw.2.2.2 dX11_blend_68 hlocks
        · have h := ifp h hc18
          refine lv_aload_n hx hb dX11_blend_46 rfl (lv_at hl 0 rfl) ?_
          refine lv_iconst (v := 3) hx hb dX11_blend_47 (by decide) ?_
          obtain ⟨⟨v31, t32⟩, hf33, h⟩ := bn_c h
          have h := un2_d h
          refine X_callV C0 hw (As := [.int (3 : Int32)]) (rest := []) (mX11_refused l E hL st hf33) (cwV 1 C0.1.2.2.2.2 gX11_blend_X11_refused rfl rfl rfl (by decide +kernel) ⟨Nat.le_of_ble_eq_true rfl, Nat.le_of_ble_eq_true rfl⟩) (X_recv_0 C0 hw (by decide)) rfl hl.1 rfl (Nat.le_of_ble_eq_true rfl) dX11_blend_48 ⟨Nat.zero_le _, Nat.zero_le _⟩ (fun H locs hw => ?_)
          refine W.eq (g2 := F0 m 51 ls [.int v31]) rfl ?_
          cases h
          exact W.iret hx hb hr (X_fin C0 hw) hw.2.2.2 dX11_blend_51 hlocks
    · have h := ifp h hc9
      refine lv_aload_n hx hb dX11_blend_18 rfl (lv_at hl 0 rfl) ?_
      refine lv_iconst (v := 2) hx hb dX11_blend_19 (by decide) ?_
      obtain ⟨⟨v34, t35⟩, hf36, h⟩ := bn_c h
      have h := un2_d h
      refine X_callV C0 hw (As := [.int (2 : Int32)]) (rest := []) (mX11_refused l E hL st hf36) (cwV 1 C0.1.2.2.2.2 gX11_blend_X11_refused rfl rfl rfl (by decide +kernel) ⟨Nat.le_of_ble_eq_true rfl, Nat.le_of_ble_eq_true rfl⟩) (X_recv_0 C0 hw (by decide)) rfl hl.1 rfl (Nat.le_of_ble_eq_true rfl) dX11_blend_20 ⟨Nat.zero_le _, Nat.zero_le _⟩ (fun H locs hw => ?_)
      refine W.eq (g2 := F0 m 23 ls [.int v34]) rfl ?_
      cases h
      exact W.iret hx hb hr (X_fin C0 hw) hw.2.2.2 dX11_blend_23 hlocks

def fX11_part (a1 : Int32) (a2 : Int32) (a3 : Int32) (st : Sto) : Option (Int32 × Sto) :=
  jn (fun (v4 : Int32) =>
   (fX11_isThere v4 a2 st).bind (fun (v5 : Int32) =>
    if v5 = 0 then (
     (fX11_refused (2 : Int32) st).bind (un2 fun (v33 : Int32) (t34 : Sto) =>
      some (v33, t34))) else (
     (fX11_isWithin a3 (0 : Int32) (1000000 : Int32)).bind (fun (v8 : Int32) =>
      if v8 = 0 then (
       (fX11_refused (3 : Int32) st).bind (un2 fun (v30 : Int32) (t31 : Sto) =>
        some (v30, t31))) else (
       if gI st 0 (0) 11 < (6 : Int32) then (
        ck (0 ≤ (gI st 0 (0) 11).toInt ∧ (gI st 0 (0) 11).toInt < (6 : Int)) (
         jn (fun (v16 : Int32) =>
          ck (0 ≤ (0 : Int32).toInt ∧ (0 : Int32).toInt < (lIX (12) ((gI st 0 (0) 11).toNatClampNeg) : Int)) (lt1 (sI st (12) ((gI st 0 (0) 11).toNatClampNeg) (0) v16) fun (t17 : Sto) =>
           ck (0 ≤ (gI t17 0 (0) 11).toInt ∧ (gI t17 0 (0) 11).toInt < (6 : Int)) (
            ck (0 ≤ (1 : Int32).toInt ∧ (1 : Int32).toInt < (lIX (12) ((gI t17 0 (0) 11).toNatClampNeg) : Int)) (lt1 (sI t17 (12) ((gI t17 0 (0) 11).toNatClampNeg) (1) a2) fun (t19 : Sto) =>
             ck (0 ≤ (gI t19 0 (0) 11).toInt ∧ (gI t19 0 (0) 11).toInt < (6 : Int)) (
              ck (0 ≤ (2 : Int32).toInt ∧ (2 : Int32).toInt < (lIX (12) ((gI t19 0 (0) 11).toNatClampNeg) : Int)) (lt1 (sI t19 (12) ((gI t19 0 (0) 11).toNatClampNeg) (2) a3) fun (t21 : Sto) =>
               lt1 (sI t21 0 (0) 11 ((gI t21 0 (0) 11) + (1 : Int32))) fun (t22 : Sto) =>
               (fX11_accept t22).bind (un2 fun (v23 : Int32) (t24 : Sto) =>
                some (gI t24 0 (0) 11, t24)))))))) fun K13 =>
         if a1 = 0 then (
          K13 (2 : Int32)) else (
          K13 (4 : Int32)))) else (
        (fX11_refused (1 : Int32) st).bind (un2 fun (v27 : Int32) (t28 : Sto) =>
         some (v27, t28)))))))) fun K1 =>
  if a1 = 0 then (
   K1 (2 : Int32)) else (
   K1 (4 : Int32))
set_option maxHeartbeats 4000000 in
set_option maxRecDepth 100000 in
theorem mX11_part (l : Launch) (E : XE) (hL : LX E) (st : Sto) {a1 : Int32} {a2 : Int32} {a3 : Int32} {r : Int32} {st1 : Sto} (h : fX11_part a1 a2 a3 st = some (r, st1)) : Met l yX11_part wsX11_part ({ frames := 1, cells := 0, slots := 0, locals := 22 }) (va_Pc [.ref (E.2.2.1 0 (0)), .int a1, .int a2, .int a3] (RX E st)) (QX E (some (.int r)) st1) 0 0 E.2.2.2 := by
  refine Met.ofW (cc := cX11_part) (maxL := 4) (ret := (some .int)) (by decide) rfl ?_
  intro p e s m args below meth c s₁ B hml hv
  obtain ⟨rfl, hP, hK⟩ := hv
  have hown : s.vm.findClass RX11 = some m.cls := findClass_of_methodNamed B.named
  have C0 : CX p m c cX11_part 4 s _ wsX11_part RX11 E := ⟨⟨B.exec, B.bytes, hml, hown, atoms_spec (ws := wsX11_part) B.pre⟩, hK⟩
  have hx := B.exec
  have hb := B.bytes
  have hr := B.returns
  have hlocks := B.notSynchronized
  have hw : SX E s st s.heap [] := ⟨hP, va_S.rf⟩
  have hl := lv_entry ([.ref (E.2.2.1 0 (0)), .int a1, .int a2, .int a3]) (n := 4) (Nat.le_of_ble_eq_true rfl)
  rw [lg_entry_eq]
  generalize (lg_sl ([.ref (E.2.2.1 0 (0)), .int a1, .int a2, .int a3]) ++ List.replicate (4 - (lg_sl ([.ref (E.2.2.1 0 (0)), .int a1, .int a2, .int a3])).length) Slot.unset).toArray = ls at hl ⊢
  have hl : lv_has ls 4 [(0, .ref (E.2.2.1 0 (0))), (1, .int a1), (2, .int a2), (3, .int a3)] := hl
  unfold fX11_part at h
  refine lv_aload_n hx hb dX11_part_0 rfl (lv_at hl 0 rfl) ?_
  refine lv_iload_n hx hb dX11_part_1 rfl (lv_at hl 1 rfl) ?_
  refine jn_c h (fun K1 hK3 h => ?_)
  have HJ2 : ∀ (v4 : Int32), K1 v4 = some (r, st1) → ∀ (H : Heap) (locs : List Loc), SX E s st H locs → ∀ ls : Array Slot, lv_has ls 4 [(0, .ref (E.2.2.1 0 (0))), (1, .int a1), (2, .int a2), (3, .int a3)] → W p l e (headSpec wsX11_part ({ frames := 1, cells := 0, slots := 0, locals := 22 })).room s m ([.ref (E.2.2.1 0 (0)), .int a1, .int a2, .int a3] : List Value).toArray below meth c H locs 0 0 (MQ below (QX E (some (.int r)) st1) ([.ref (E.2.2.1 0 (0)), .int a1, .int a2, .int a3] : List Value).toArray s 0 0 E.2.2.2) (F0 m 10 ls [.int v4, .ref (E.2.2.1 0 (0))]) := by
    intro v4 h H locs hw ls hl
    have h := kk1 h hK3
    refine lv_iload_n hx hb dX11_part_10 rfl (lv_at hl 2 rfl) ?_
    obtain ⟨v5, hf6, h⟩ := bn_c h
    refine X_callV C0 hw (As := [.int v4, .int a2]) (rest := []) (mX11_isThere l E hL st hf6) (cwV 2 C0.1.2.2.2.2 gX11_part_X11_isThere rfl rfl rfl (by decide +kernel) ⟨Nat.le_of_ble_eq_true rfl, Nat.le_of_ble_eq_true rfl⟩) (X_recv_0 C0 hw (by decide)) rfl hl.1 rfl (Nat.le_of_ble_eq_true rfl) dX11_part_11 ⟨Nat.zero_le _, Nat.zero_le _⟩ (fun H locs hw => ?_)
    refine W.eq (g2 := F0 m 14 ls [.int v5]) rfl ?_
    refine lv_if_ne (tgt := 23) hx hb dX11_part_14 (by decide) (fun hc7 => ?_) (fun hc7 => ?_)
    · have h := ifn h hc7
      refine lv_iload_n hx hb dX11_part_23 rfl (lv_at hl 3 rfl) ?_
      refine lv_iconst (v := 0) hx hb dX11_part_24 (by decide) ?_
      refine lv_ldc hx hb hown (C0.1.2.2.2.2 _ (List.mem_cons_of_mem _ (List.mem_append_left _ (List.mem_of_getElem? (i := 0) rfl)))) dX11_part_25 ?_
      obtain ⟨v8, hf9, h⟩ := bn_c h
      refine X_callS C0 hw (As := [.int a3, .int (0 : Int32), .int (1000000 : Int32)]) (rest := []) (mX11_isWithin l E hL st hf9) (va_cwS 3 C0.1.2.2.2.2 gX11_part_X11_isWithin rfl rfl rfl (by decide +kernel) ⟨Nat.le_of_ble_eq_true rfl, Nat.le_of_ble_eq_true rfl⟩) rfl hl.1 rfl (Nat.le_of_ble_eq_true rfl) dX11_part_27 ⟨Nat.zero_le _, Nat.zero_le _⟩ (fun H locs hw => ?_)
      refine W.eq (g2 := F0 m 30 ls [.int v8]) rfl ?_
      refine lv_if_ne (tgt := 39) hx hb dX11_part_30 (by decide) (fun hc10 => ?_) (fun hc10 => ?_)
      · have h := ifn h hc10
        refine lv_aload_n hx hb dX11_part_39 rfl (lv_at hl 0 rfl) ?_
        refine X_g0_11 C0 hw (fun w h => (List.mem_cons_of_mem _ (List.mem_append_right _ h))) (by decide) ((List.mem_cons_of_mem _ (List.mem_append_left _ (List.mem_of_getElem? (i := 1) rfl)))) dX11_part_40 ?_
        refine lv_bipush (v := 6) hx hb dX11_part_43 (by decide) ?_
        refine lv_icmp_lt (tgt := 54) hx hb dX11_part_45 (by decide) (fun hc11 => ?_) (fun hc11 => ?_)
        · have h := ifp h hc11
          refine lv_aload_n hx hb dX11_part_54 rfl (lv_at hl 0 rfl) ?_
          refine X_g0_10 C0 hw (fun w h => (List.mem_cons_of_mem _ (List.mem_append_right _ h))) (by decide) ((List.mem_cons_of_mem _ (List.mem_append_left _ (List.mem_of_getElem? (i := 2) rfl)))) dX11_part_55 ?_
          refine lv_aload_n hx hb dX11_part_58 rfl (lv_at hl 0 rfl) ?_
          refine X_g0_11 C0 hw (fun w h => (List.mem_cons_of_mem _ (List.mem_append_right _ h))) (by decide) ((List.mem_cons_of_mem _ (List.mem_append_left _ (List.mem_of_getElem? (i := 1) rfl)))) dX11_part_59 ?_
          refine X_ald_11 C0 hw (by decide) h (k := (gI st 0 (0) 11).toNatClampNeg) rfl dX11_part_62 (fun hk12 h => ?_)
          refine lv_iconst (v := 0) hx hb dX11_part_63 (by decide) ?_
          refine lv_iload_n hx hb dX11_part_64 rfl (lv_at hl 1 rfl) ?_
          refine jn_c h (fun K13 hK15 h => ?_)
          have HJ14 : ∀ (v16 : Int32), K13 v16 = some (r, st1) → ∀ (H : Heap) (locs : List Loc), SX E s st H locs → ∀ ls : Array Slot, lv_has ls 4 [(0, .ref (E.2.2.1 0 (0))), (2, .int a2), (3, .int a3)] → W p l e (headSpec wsX11_part ({ frames := 1, cells := 0, slots := 0, locals := 22 })).room s m ([.ref (E.2.2.1 0 (0)), .int a1, .int a2, .int a3] : List Value).toArray below meth c H locs 0 0 (MQ below (QX E (some (.int r)) st1) ([.ref (E.2.2.1 0 (0)), .int a1, .int a2, .int a3] : List Value).toArray s 0 0 E.2.2.2) (F0 m 73 ls [.int v16, .int (0 : Int32), .ref (E.2.2.1 (12) ((gI st 0 (0) 11).toNatClampNeg))]) := by
            intro v16 h H locs hw ls hl
            have h := kk1 h hK15
            refine X_iast hL C0 hw h (k := 0) rfl dX11_part_73 (fun t17 H locs hw h => ?_)
            refine lv_aload_n hx hb dX11_part_74 rfl (lv_at hl 0 rfl) ?_
            refine X_g0_10 C0 hw (fun w h => (List.mem_cons_of_mem _ (List.mem_append_right _ h))) (by decide) ((List.mem_cons_of_mem _ (List.mem_append_left _ (List.mem_of_getElem? (i := 2) rfl)))) dX11_part_75 ?_
            refine lv_aload_n hx hb dX11_part_78 rfl (lv_at hl 0 rfl) ?_
            refine X_g0_11 C0 hw (fun w h => (List.mem_cons_of_mem _ (List.mem_append_right _ h))) (by decide) ((List.mem_cons_of_mem _ (List.mem_append_left _ (List.mem_of_getElem? (i := 1) rfl)))) dX11_part_79 ?_
            refine X_ald_11 C0 hw (by decide) h (k := (gI t17 0 (0) 11).toNatClampNeg) rfl dX11_part_82 (fun hk18 h => ?_)
            refine lv_iconst (v := 1) hx hb dX11_part_83 (by decide) ?_
            refine lv_iload_n hx hb dX11_part_84 rfl (lv_at hl 1 rfl) ?_
            refine X_iast hL C0 hw h (k := 1) rfl dX11_part_85 (fun t19 H locs hw h => ?_)
            refine lv_aload_n hx hb dX11_part_86 rfl (lv_at hl 0 rfl) ?_
            refine X_g0_10 C0 hw (fun w h => (List.mem_cons_of_mem _ (List.mem_append_right _ h))) (by decide) ((List.mem_cons_of_mem _ (List.mem_append_left _ (List.mem_of_getElem? (i := 2) rfl)))) dX11_part_87 ?_
            refine lv_aload_n hx hb dX11_part_90 rfl (lv_at hl 0 rfl) ?_
            refine X_g0_11 C0 hw (fun w h => (List.mem_cons_of_mem _ (List.mem_append_right _ h))) (by decide) ((List.mem_cons_of_mem _ (List.mem_append_left _ (List.mem_of_getElem? (i := 1) rfl)))) dX11_part_91 ?_
            refine X_ald_11 C0 hw (by decide) h (k := (gI t19 0 (0) 11).toNatClampNeg) rfl dX11_part_94 (fun hk20 h => ?_)
            refine lv_iconst (v := 2) hx hb dX11_part_95 (by decide) ?_
            refine lv_iload_n hx hb dX11_part_96 rfl (lv_at hl 2 rfl) ?_
            refine X_iast hL C0 hw h (k := 2) rfl dX11_part_97 (fun t21 H locs hw h => ?_)
            refine lv_aload_n hx hb dX11_part_98 rfl (lv_at hl 0 rfl) ?_
            refine lv_dup hx hb dX11_part_99 rfl ?_
            refine X_g0_11 C0 hw (fun w h => (List.mem_cons_of_mem _ (List.mem_append_right _ h))) (by decide) ((List.mem_cons_of_mem _ (List.mem_append_left _ (List.mem_of_getElem? (i := 1) rfl)))) dX11_part_100 ?_
            refine lv_iconst (v := 1) hx hb dX11_part_103 (by decide) ?_
            refine lv_iadd hx hb dX11_part_104 ?_
            refine X_p0_11 hL C0 hw (fun w h => (List.mem_cons_of_mem _ (List.mem_append_right _ h))) (by decide) h ((List.mem_cons_of_mem _ (List.mem_append_left _ (List.mem_of_getElem? (i := 1) rfl)))) dX11_part_105 (fun t22 H locs hw h => ?_)
            refine lv_aload_n hx hb dX11_part_108 rfl (lv_at hl 0 rfl) ?_
            obtain ⟨⟨v23, t24⟩, hf25, h⟩ := bn_c h
            have h := un2_d h
            refine X_callV C0 hw (As := []) (rest := []) (mX11_accept l E hL t22 hf25) (cwV 0 C0.1.2.2.2.2 gX11_part_X11_accept rfl rfl rfl (by decide +kernel) ⟨Nat.le_of_ble_eq_true rfl, Nat.le_of_ble_eq_true rfl⟩) (X_recv_0 C0 hw (by decide)) rfl hl.1 rfl (Nat.le_of_ble_eq_true rfl) dX11_part_109 ⟨Nat.zero_le _, Nat.zero_le _⟩ (fun H locs hw => ?_)
            refine W.eq (g2 := F0 m 112 ls [.int v23]) rfl ?_
            refine lv_pop hx hb dX11_part_112 rfl ?_
            refine lv_aload_n hx hb dX11_part_113 rfl (lv_at hl 0 rfl) ?_
            refine X_g0_11 C0 hw (fun w h => (List.mem_cons_of_mem _ (List.mem_append_right _ h))) (by decide) ((List.mem_cons_of_mem _ (List.mem_append_left _ (List.mem_of_getElem? (i := 1) rfl)))) dX11_part_114 ?_
            cases h
            exact W.iret hx hb hr (X_fin C0 hw) hw.2.2.2 dX11_part_117 hlocks
          refine lv_if_eq (tgt := 72) hx hb dX11_part_65 (by decide) (fun hc26 => ?_) (fun hc26 => ?_)
          · have h := ifp h hc26
            refine lv_iconst (v := 2) hx hb dX11_part_72 (by decide) ?_
            exact HJ14 _ h _ _ hw _ (lv_sub hl [0, 2, 3] rfl)
          · have h := ifn h hc26
            refine lv_iconst (v := 4) hx hb dX11_part_68 (by decide) ?_
            refine lv_goto (tgt := 73) hx hb dX11_part_69 (by decide) ?_
            exact HJ14 _ h _ _ hw _ (lv_sub hl [0, 2, 3] rfl)
        · have h := ifn h hc11
          refine lv_aload_n hx hb dX11_part_48 rfl (lv_at hl 0 rfl) ?_
          refine lv_iconst (v := 1) hx hb dX11_part_49 (by decide) ?_
          obtain ⟨⟨v27, t28⟩, hf29, h⟩ := bn_c h
          have h := un2_d h
          refine X_callV C0 hw (As := [.int (1 : Int32)]) (rest := []) (mX11_refused l E hL st hf29) (cwV 1 C0.1.2.2.2.2 gX11_part_X11_refused rfl rfl rfl (by decide +kernel) ⟨Nat.le_of_ble_eq_true rfl, Nat.le_of_ble_eq_true rfl⟩) (X_recv_0 C0 hw (by decide)) rfl hl.1 rfl (Nat.le_of_ble_eq_true rfl) dX11_part_50 ⟨Nat.zero_le _, Nat.zero_le _⟩ (fun H locs hw => ?_)
          refine W.eq (g2 := F0 m 53 ls [.int v27]) rfl ?_
          cases h
          exact W.iret hx hb hr (X_fin C0 hw) hw.2.2.2 dX11_part_53 hlocks
      · have h := ifp h hc10
        refine lv_aload_n hx hb dX11_part_33 rfl (lv_at hl 0 rfl) ?_
        refine lv_iconst (v := 3) hx hb dX11_part_34 (by decide) ?_
        obtain ⟨⟨v30, t31⟩, hf32, h⟩ := bn_c h
        have h := un2_d h
        refine X_callV C0 hw (As := [.int (3 : Int32)]) (rest := []) (mX11_refused l E hL st hf32) (cwV 1 C0.1.2.2.2.2 gX11_part_X11_refused rfl rfl rfl (by decide +kernel) ⟨Nat.le_of_ble_eq_true rfl, Nat.le_of_ble_eq_true rfl⟩) (X_recv_0 C0 hw (by decide)) rfl hl.1 rfl (Nat.le_of_ble_eq_true rfl) dX11_part_35 ⟨Nat.zero_le _, Nat.zero_le _⟩ (fun H locs hw => ?_)
        refine W.eq (g2 := F0 m 38 ls [.int v30]) rfl ?_
        cases h
        exact W.iret hx hb hr (X_fin C0 hw) hw.2.2.2 dX11_part_38 hlocks
    · have h := ifp h hc7
      refine lv_aload_n hx hb dX11_part_17 rfl (lv_at hl 0 rfl) ?_
      refine lv_iconst (v := 2) hx hb dX11_part_18 (by decide) ?_
      obtain ⟨⟨v33, t34⟩, hf35, h⟩ := bn_c h
      have h := un2_d h
      refine X_callV C0 hw (As := [.int (2 : Int32)]) (rest := []) (mX11_refused l E hL st hf35) (cwV 1 C0.1.2.2.2.2 gX11_part_X11_refused rfl rfl rfl (by decide +kernel) ⟨Nat.le_of_ble_eq_true rfl, Nat.le_of_ble_eq_true rfl⟩) (X_recv_0 C0 hw (by decide)) rfl hl.1 rfl (Nat.le_of_ble_eq_true rfl) dX11_part_19 ⟨Nat.zero_le _, Nat.zero_le _⟩ (fun H locs hw => ?_)
      refine W.eq (g2 := F0 m 22 ls [.int v33]) rfl ?_
      cases h
      exact W.iret hx hb hr (X_fin C0 hw) hw.2.2.2 dX11_part_22 hlocks
  refine lv_if_eq (tgt := 9) hx hb dX11_part_2 (by decide) (fun hc36 => ?_) (fun hc36 => ?_)
  · have h := ifp h hc36
    refine lv_iconst (v := 2) hx hb dX11_part_9 (by decide) ?_
    exact HJ2 _ h _ _ hw _ (lv_sub hl [0, 1, 2, 3] rfl)
  · have h := ifn h hc36
    refine lv_iconst (v := 4) hx hb dX11_part_5 (by decide) ?_
    refine lv_goto (tgt := 10) hx hb dX11_part_6 (by decide) ?_
    exact HJ2 _ h _ _ hw _ (lv_sub hl [0, 1, 2, 3] rfl)

def fX11_mixPart (a1 : Int32) (a2 : Int32) (a3 : Int64) (st : Sto) : Option Sto :=
  (fX11_isThere a1 a2 st).bind (fun (v1 : Int32) =>
   if v1 = 0 then (
    some st) else (
    if a1 = (4 : Int32) then (
     ck (0 ≤ a2.toInt ∧ a2.toInt < (20 : Int)) (
      ck (0 ≤ (gI st 29 (a2.toNatClampNeg) 0).toInt ∧ (gI st 29 (a2.toNatClampNeg) 0).toInt < (12 : Int)) (
       ck (0 ≤ a2.toInt ∧ a2.toInt < (20 : Int)) (
        (fX4_worthOf (a2.toNatClampNeg) a3 st).bind (fun (v11 : UInt64) =>
         (fX6_add ((gI st 29 (a2.toNatClampNeg) 0).toNatClampNeg) v11 st).bind (fun (t13 : Sto) =>
          some t13)))))) else (
     ck (0 ≤ a2.toInt ∧ a2.toInt < (12 : Int)) (
      (fX6_add (a2.toNatClampNeg) (FP.l2d a3) st).bind (fun (t6 : Sto) =>
       some t6)))))
set_option maxHeartbeats 4000000 in
set_option maxRecDepth 100000 in
theorem mX11_mixPart (l : Launch) (E : XE) (hL : LX E) (st : Sto) {a1 : Int32} {a2 : Int32} {a3 : Int64} {st1 : Sto} (h : fX11_mixPart a1 a2 a3 st = some st1) : Met l yX11_mixPart wsX11_mixPart ({ frames := 2, cells := 0, slots := 0, locals := 53 }) (va_Pc [.ref (E.2.2.1 0 (0)), .int a1, .int a2, .long a3] (RX E st)) (QX E none st1) 0 0 E.2.2.2 := by
  refine Met.ofW (cc := cX11_mixPart) (maxL := 5) (ret := none) (by decide) rfl ?_
  intro p e s m args below meth c s₁ B hml hv
  obtain ⟨rfl, hP, hK⟩ := hv
  have hown : s.vm.findClass RX11 = some m.cls := findClass_of_methodNamed B.named
  have C0 : CX p m c cX11_mixPart 5 s _ wsX11_mixPart RX11 E := ⟨⟨B.exec, B.bytes, hml, hown, atoms_spec (ws := wsX11_mixPart) B.pre⟩, hK⟩
  have hx := B.exec
  have hb := B.bytes
  have hr := B.returns
  have hlocks := B.notSynchronized
  have hw : SX E s st s.heap [] := ⟨hP, va_S.rf⟩
  have hl := lv_entry ([.ref (E.2.2.1 0 (0)), .int a1, .int a2, .long a3]) (n := 5) (Nat.le_of_ble_eq_true rfl)
  rw [lg_entry_eq]
  generalize (lg_sl ([.ref (E.2.2.1 0 (0)), .int a1, .int a2, .long a3]) ++ List.replicate (5 - (lg_sl ([.ref (E.2.2.1 0 (0)), .int a1, .int a2, .long a3])).length) Slot.unset).toArray = ls at hl ⊢
  have hl : lv_has ls 5 [(0, .ref (E.2.2.1 0 (0))), (1, .int a1), (2, .int a2), (3, .long a3)] := hl
  unfold fX11_mixPart at h
  refine lv_aload_n hx hb dX11_mixPart_0 rfl (lv_at hl 0 rfl) ?_
  refine lv_iload_n hx hb dX11_mixPart_1 rfl (lv_at hl 1 rfl) ?_
  refine lv_iload_n hx hb dX11_mixPart_2 rfl (lv_at hl 2 rfl) ?_
  obtain ⟨v1, hf2, h⟩ := bn_c h
  refine X_callV C0 hw (As := [.int a1, .int a2]) (rest := []) (mX11_isThere l E hL st hf2) (cwV 2 C0.1.2.2.2.2 gX11_mixPart_X11_isThere rfl rfl rfl (by decide +kernel) ⟨Nat.le_of_ble_eq_true rfl, Nat.le_of_ble_eq_true rfl⟩) (X_recv_0 C0 hw (by decide)) rfl hl.1 rfl (Nat.le_of_ble_eq_true rfl) dX11_mixPart_3 ⟨Nat.zero_le _, Nat.zero_le _⟩ (fun H locs hw => ?_)
  refine W.eq (g2 := F0 m 6 ls [.int v1]) rfl ?_
  refine lv_if_ne (tgt := 10) hx hb dX11_mixPart_6 (by decide) (fun hc3 => ?_) (fun hc3 => ?_)
  · have h := ifn h hc3
    refine lv_iload_n hx hb dX11_mixPart_10 rfl (lv_at hl 1 rfl) ?_
    refine lv_iconst (v := 4) hx hb dX11_mixPart_11 (by decide) ?_
    refine lv_icmp_ne (tgt := 49) hx hb dX11_mixPart_12 (by decide) (fun hc4 => ?_) (fun hc4 => ?_)
    · have h := ifn h hc4
      refine lv_aload_n hx hb dX11_mixPart_49 rfl (lv_at hl 0 rfl) ?_
      refine X_g0_14 C0 hw (fun w h => (List.mem_cons_of_mem _ (List.mem_append_left _ (List.mem_append_left _ (List.mem_append_left _ (List.mem_append_right _ h)))))) (by decide) ((List.mem_cons_of_mem _ (List.mem_append_left _ (List.mem_append_left _ (List.mem_append_left _ (List.mem_append_left _ (List.mem_append_left _ (List.mem_of_getElem? (i := 0) rfl)))))))) dX11_mixPart_50 ?_
      refine lv_aload_n hx hb dX11_mixPart_53 rfl (lv_at hl 0 rfl) ?_
      refine X_g0_6 C0 hw (fun w h => (List.mem_cons_of_mem _ (List.mem_append_left _ (List.mem_append_left _ (List.mem_append_left _ (List.mem_append_right _ h)))))) (by decide) ((List.mem_cons_of_mem _ (List.mem_append_left _ (List.mem_append_left _ (List.mem_append_left _ (List.mem_append_left _ (List.mem_append_left _ (List.mem_of_getElem? (i := 1) rfl)))))))) dX11_mixPart_54 ?_
      refine lv_iload_n hx hb dX11_mixPart_57 rfl (lv_at hl 2 rfl) ?_
      refine X_ald_7 C0 hw (by decide) h (k := a2.toNatClampNeg) rfl dX11_mixPart_58 (fun hk5 h => ?_)
      refine lv_lload_n hx hb dX11_mixPart_59 rfl (lv_at hl 3 rfl) ?_
      refine lv_l2d hx hb dX11_mixPart_60 ?_
      obtain ⟨t6, hf7, h⟩ := bn_c h
      refine X_callV C0 hw (As := [.ref (E.2.2.1 22 (a2.toNatClampNeg)), .double (FP.l2d a3)]) (rest := []) (mX6_add l E hL st hk5 hf7) (cwV 2 C0.1.2.2.2.2 gX11_mixPart_X6_add rfl rfl rfl (by decide +kernel) ⟨Nat.le_of_ble_eq_true rfl, Nat.le_of_ble_eq_true rfl⟩) (X_recv_15 C0 hw (by decide)) rfl hl.1 rfl (Nat.le_of_ble_eq_true rfl) dX11_mixPart_61 ⟨Nat.zero_le _, Nat.zero_le _⟩ (fun H locs hw => ?_)
      refine W.eq (g2 := F0 m 64 ls []) rfl ?_
      cases h
      exact W.vret hx hb hr (X_fin C0 hw) hw.2.2.2 dX11_mixPart_64 hlocks
    · have h := ifp h hc4
      refine lv_aload_n hx hb dX11_mixPart_15 rfl (lv_at hl 0 rfl) ?_
      refine X_g0_14 C0 hw (fun w h => (List.mem_cons_of_mem _ (List.mem_append_left _ (List.mem_append_left _ (List.mem_append_left _ (List.mem_append_right _ h)))))) (by decide) ((List.mem_cons_of_mem _ (List.mem_append_left _ (List.mem_append_left _ (List.mem_append_left _ (List.mem_append_left _ (List.mem_append_left _ (List.mem_of_getElem? (i := 0) rfl)))))))) dX11_mixPart_16 ?_
      refine lv_aload_n hx hb dX11_mixPart_19 rfl (lv_at hl 0 rfl) ?_
      refine X_g0_6 C0 hw (fun w h => (List.mem_cons_of_mem _ (List.mem_append_left _ (List.mem_append_left _ (List.mem_append_left _ (List.mem_append_right _ h)))))) (by decide) ((List.mem_cons_of_mem _ (List.mem_append_left _ (List.mem_append_left _ (List.mem_append_left _ (List.mem_append_left _ (List.mem_append_left _ (List.mem_of_getElem? (i := 1) rfl)))))))) dX11_mixPart_20 ?_
      refine lv_aload_n hx hb dX11_mixPart_23 rfl (lv_at hl 0 rfl) ?_
      refine X_g0_8 C0 hw (fun w h => (List.mem_cons_of_mem _ (List.mem_append_left _ (List.mem_append_left _ (List.mem_append_left _ (List.mem_append_right _ h)))))) (by decide) ((List.mem_cons_of_mem _ (List.mem_append_left _ (List.mem_append_left _ (List.mem_append_left _ (List.mem_append_left _ (List.mem_append_left _ (List.mem_of_getElem? (i := 2) rfl)))))))) dX11_mixPart_24 ?_
      refine lv_iload_n hx hb dX11_mixPart_27 rfl (lv_at hl 2 rfl) ?_
      refine X_ald_9 C0 hw (by decide) h (k := a2.toNatClampNeg) rfl dX11_mixPart_28 (fun hk8 h => ?_)
      refine X_g29_0 C0 hw (fun w h => (List.mem_cons_of_mem _ (List.mem_append_left _ (List.mem_append_left _ (List.mem_append_right _ h))))) hk8 ((List.mem_cons_of_mem _ (List.mem_append_left _ (List.mem_append_left _ (List.mem_append_left _ (List.mem_append_left _ (List.mem_append_left _ (List.mem_of_getElem? (i := 3) rfl)))))))) dX11_mixPart_29 ?_
      refine X_ald_7 C0 hw (by decide) h (k := (gI st 29 (a2.toNatClampNeg) 0).toNatClampNeg) rfl dX11_mixPart_32 (fun hk9 h => ?_)
      refine lv_aload_n hx hb dX11_mixPart_33 rfl (lv_at hl 0 rfl) ?_
      refine X_g0_8 C0 hw (fun w h => (List.mem_cons_of_mem _ (List.mem_append_left _ (List.mem_append_left _ (List.mem_append_left _ (List.mem_append_right _ h)))))) (by decide) ((List.mem_cons_of_mem _ (List.mem_append_left _ (List.mem_append_left _ (List.mem_append_left _ (List.mem_append_left _ (List.mem_append_left _ (List.mem_of_getElem? (i := 2) rfl)))))))) dX11_mixPart_34 ?_
      refine lv_iload_n hx hb dX11_mixPart_37 rfl (lv_at hl 2 rfl) ?_
      refine X_ald_9 C0 hw (by decide) h (k := a2.toNatClampNeg) rfl dX11_mixPart_38 (fun hk10 h => ?_)
      refine lv_lload_n hx hb dX11_mixPart_39 rfl (lv_at hl 3 rfl) ?_
      obtain ⟨v11, hf12, h⟩ := bn_c h
      refine X_callV C0 hw (As := [.long a3]) (rest := [.ref (E.2.2.1 22 ((gI st 29 (a2.toNatClampNeg) 0).toNatClampNeg)), .ref (E.2.2.1 15 (0))]) (mX4_worthOf l E hL st hk10 hf12) (cwV 1 C0.1.2.2.2.2 gX11_mixPart_X4_worthOf rfl rfl rfl (by decide +kernel) ⟨Nat.le_of_ble_eq_true rfl, Nat.le_of_ble_eq_true rfl⟩) (X_recv_29 C0 hw hk10) rfl hl.1 rfl (Nat.le_of_ble_eq_true rfl) dX11_mixPart_40 ⟨Nat.zero_le _, Nat.zero_le _⟩ (fun H locs hw => ?_)
      refine W.eq (g2 := F0 m 43 ls [.double v11, .ref (E.2.2.1 22 ((gI st 29 (a2.toNatClampNeg) 0).toNatClampNeg)), .ref (E.2.2.1 15 (0))]) rfl ?_
      obtain ⟨t13, hf14, h⟩ := bn_c h
      refine X_callV C0 hw (As := [.ref (E.2.2.1 22 ((gI st 29 (a2.toNatClampNeg) 0).toNatClampNeg)), .double v11]) (rest := []) (mX6_add l E hL st hk9 hf14) (cwV 2 C0.1.2.2.2.2 gX11_mixPart_X6_add rfl rfl rfl (by decide +kernel) ⟨Nat.le_of_ble_eq_true rfl, Nat.le_of_ble_eq_true rfl⟩) (X_recv_15 C0 hw (by decide)) rfl hl.1 rfl (Nat.le_of_ble_eq_true rfl) dX11_mixPart_43 ⟨Nat.zero_le _, Nat.zero_le _⟩ (fun H locs hw => ?_)
      refine W.eq (g2 := F0 m 46 ls []) rfl ?_
      refine lv_goto (tgt := 64) hx hb dX11_mixPart_46 (by decide) ?_
      cases h
      exact W.vret hx hb hr (X_fin C0 hw) hw.2.2.2 dX11_mixPart_64 hlocks
  · have h := ifp h hc3
    cases h
    exact W.vret hx hb hr (X_fin C0 hw) hw.2.2.2 dX11_mixPart_9 hlocks

def fX11_predict (a1 : Int32) (st : Sto) : Option (Int32 × Sto) :=
  (fX11_isThere (1 : Int32) a1 st).bind (fun (v1 : Int32) =>
   if v1 = 0 then (
    (fX11_denied (2 : Int32) st).bind (un2 fun (v44 : Int32) (t45 : Sto) =>
     ck (v44 &&& 1 = v44) (
      some (v44, t45)))) else (
    ck (0 ≤ a1.toInt ∧ a1.toInt < (8 : Int)) (
     (fX6_begin (6) (a1.toNatClampNeg) st).bind (fun (t5 : Sto) =>
      ((lp (σ := (Int32 × Sto)) (ρ := Sto) (un2 fun (v10 : Int32) (t11 : Sto) =>
         if gI t11 0 (0) 11 ≤ v10 then (
          some (.inr t11)) else (
          ck (0 ≤ v10.toInt ∧ v10.toInt < (6 : Int)) (
           ck (0 ≤ (0 : Int32).toInt ∧ (0 : Int32).toInt < (lIX (12) (v10.toNatClampNeg) : Int)) (
            ck (0 ≤ v10.toInt ∧ v10.toInt < (6 : Int)) (
             ck (0 ≤ (1 : Int32).toInt ∧ (1 : Int32).toInt < (lIX (12) (v10.toNatClampNeg) : Int)) (
              ck (0 ≤ v10.toInt ∧ v10.toInt < (6 : Int)) (
               ck (0 ≤ (2 : Int32).toInt ∧ (2 : Int32).toInt < (lIX (12) (v10.toNatClampNeg) : Int)) (
                (fX11_mixPart (gI t11 (12) (v10.toNatClampNeg) (0)) (gI t11 (12) (v10.toNatClampNeg) (1)) ((gI t11 (12) (v10.toNatClampNeg) (2)).toInt64) t11).bind (fun (t29 : Sto) =>
                 lt1 (v10 + Int32.ofInt (1)) fun (v31 : Int32) =>
                 some (.inl (v31, t29))))))))))) 4000 ((0 : Int32), t5)).bind
       (fun (t12 : Sto) =>
        (fX6_result t12).bind (un2 fun (v32 : (Nat × Nat)) (t33 : Sto) => un2 (fun (qf35 qi36 : Nat) =>
          (fX11_copyRow qf35 qi36 (2) (0) t33).bind (fun (t37 : Sto) =>
           lt1 (sI t37 0 (0) 2 (1 : Int32)) fun (t39 : Sto) =>
           lt1 (sI t39 0 (0) 11 (0 : Int32)) fun (t40 : Sto) =>
           (fX11_accept t40).bind (un2 fun (v41 : Int32) (t42 : Sto) =>
            ck (v41 &&& 1 = v41) (
             some (v41, t42))))) v32)))))))
set_option maxHeartbeats 4000000 in
set_option maxRecDepth 100000 in
theorem mX11_predict (l : Launch) (E : XE) (hL : LX E) (st : Sto) {a1 : Int32} {r : Int32} {st1 : Sto} (h : fX11_predict a1 st = some (r, st1)) : Met l yX11_predict wsX11_predict ({ frames := 3, cells := 0, slots := 0, locals := 82 }) (va_Pc [.ref (E.2.2.1 0 (0)), .int a1] (RX E st)) (QX E (some (.int r)) st1) 0 0 E.2.2.2 := by
  refine Met.ofW (cc := cX11_predict) (maxL := 3) (ret := (some .boolean)) (by decide) rfl ?_
  intro p e s m args below meth c s₁ B hml hv
  obtain ⟨rfl, hP, hK⟩ := hv
  have hown : s.vm.findClass RX11 = some m.cls := findClass_of_methodNamed B.named
  have C0 : CX p m c cX11_predict 3 s _ wsX11_predict RX11 E := ⟨⟨B.exec, B.bytes, hml, hown, atoms_spec (ws := wsX11_predict) B.pre⟩, hK⟩
  have hx := B.exec
  have hb := B.bytes
  have hr := B.returns
  have hlocks := B.notSynchronized
  have hw : SX E s st s.heap [] := ⟨hP, va_S.rf⟩
  have hl := lv_entry ([.ref (E.2.2.1 0 (0)), .int a1]) (n := 3) (Nat.le_of_ble_eq_true rfl)
  rw [lg_entry_eq]
  generalize (lg_sl ([.ref (E.2.2.1 0 (0)), .int a1]) ++ List.replicate (3 - (lg_sl ([.ref (E.2.2.1 0 (0)), .int a1])).length) Slot.unset).toArray = ls at hl ⊢
  have hl : lv_has ls 3 [(0, .ref (E.2.2.1 0 (0))), (1, .int a1)] := hl
  unfold fX11_predict at h
  refine lv_aload_n hx hb dX11_predict_0 rfl (lv_at hl 0 rfl) ?_
  refine lv_iconst (v := 1) hx hb dX11_predict_1 (by decide) ?_
  refine lv_iload_n hx hb dX11_predict_2 rfl (lv_at hl 1 rfl) ?_
  obtain ⟨v1, hf2, h⟩ := bn_c h
  refine X_callV C0 hw (As := [.int (1 : Int32), .int a1]) (rest := []) (mX11_isThere l E hL st hf2) (cwV 2 C0.1.2.2.2.2 gX11_predict_X11_isThere rfl rfl rfl (by decide +kernel) ⟨Nat.le_of_ble_eq_true rfl, Nat.le_of_ble_eq_true rfl⟩) (X_recv_0 C0 hw (by decide)) rfl hl.1 rfl (Nat.le_of_ble_eq_true rfl) dX11_predict_3 ⟨Nat.zero_le _, Nat.zero_le _⟩ (fun H locs hw => ?_)
  refine W.eq (g2 := F0 m 6 ls [.int v1]) rfl ?_
  refine lv_if_ne (tgt := 15) hx hb dX11_predict_6 (by decide) (fun hc3 => ?_) (fun hc3 => ?_)
  · have h := ifn h hc3
    refine lv_aload_n hx hb dX11_predict_15 rfl (lv_at hl 0 rfl) ?_
    refine X_g0_14 C0 hw (fun w h => (List.mem_cons_of_mem _ (List.mem_append_left _ (List.mem_append_left _ (List.mem_append_left _ (List.mem_append_right _ h)))))) (by decide) ((List.mem_cons_of_mem _ (List.mem_append_left _ (List.mem_append_left _ (List.mem_append_left _ (List.mem_append_left _ (List.mem_append_left _ (List.mem_of_getElem? (i := 0) rfl)))))))) dX11_predict_16 ?_
    refine lv_aload_n hx hb dX11_predict_19 rfl (lv_at hl 0 rfl) ?_
    refine X_g0_5 C0 hw (fun w h => (List.mem_cons_of_mem _ (List.mem_append_left _ (List.mem_append_left _ (List.mem_append_left _ (List.mem_append_right _ h)))))) (by decide) ((List.mem_cons_of_mem _ (List.mem_append_left _ (List.mem_append_left _ (List.mem_append_left _ (List.mem_append_left _ (List.mem_append_left _ (List.mem_of_getElem? (i := 1) rfl)))))))) dX11_predict_20 ?_
    refine lv_iload_n hx hb dX11_predict_23 rfl (lv_at hl 1 rfl) ?_
    refine X_ald_5 C0 hw (by decide) h (k := a1.toNatClampNeg) rfl dX11_predict_24 (fun hk4 h => ?_)
    obtain ⟨t5, hf6, h⟩ := bn_c h
    refine X_callV C0 hw (As := [.ref (E.2.2.1 (6) (a1.toNatClampNeg))]) (rest := []) (mX6_begin l E hL st hf6) (cwV 1 C0.1.2.2.2.2 gX11_predict_X6_begin rfl rfl rfl (by decide +kernel) ⟨Nat.le_of_ble_eq_true rfl, Nat.le_of_ble_eq_true rfl⟩) (X_recv_15 C0 hw (by decide)) rfl hl.1 rfl (Nat.le_of_ble_eq_true rfl) dX11_predict_25 ⟨Nat.zero_le _, Nat.zero_le _⟩ (fun H locs hw => ?_)
    refine W.eq (g2 := F0 m 28 ls []) rfl ?_
    refine lv_iconst (v := 0) hx hb dX11_predict_28 (by decide) ?_
    refine lv_istore_n (lv' := [(2, .int (0 : Int32)), (0, .ref (E.2.2.1 0 (0))), (1, .int a1)]) hx hb dX11_predict_29 rfl hl (by decide) rfl (fun ls hl => ?_)
    refine lp_ind (fun q : (Int32 × Sto) => ∀ (H : Heap) (locs : List Loc), SX E s (q.2) H locs → ∀ ls : Array Slot, lv_has ls 3 [(2, .int (q.1)), (0, .ref (E.2.2.1 0 (0)))] → W p l e (headSpec wsX11_predict ({ frames := 3, cells := 0, slots := 0, locals := 82 })).room s m ([.ref (E.2.2.1 0 (0)), .int a1] : List Value).toArray below meth c H locs 0 0 (MQ below (QX E (some (.int r)) st1) ([.ref (E.2.2.1 0 (0)), .int a1] : List Value).toArray s 0 0 E.2.2.2) (F0 m 30 ls [])) (fun q o9 h hB8 hX7 => ?_) _ _ h _ _ hw _ (lv_sub hl [0, 1] rfl)
    intro H locs hw ls hl
    obtain ⟨v10, t11⟩ := q
    have h := un2_d h
    have hw : SX E s t11 H locs := hw
    have hl : lv_has ls 3 [(2, .int v10), (0, .ref (E.2.2.1 0 (0)))] := hl
    refine lv_iload_n hx hb dX11_predict_30 rfl (lv_at hl 0 rfl) ?_
    refine lv_aload_n hx hb dX11_predict_31 rfl (lv_at hl 1 rfl) ?_
    refine X_g0_11 C0 hw (fun w h => (List.mem_cons_of_mem _ (List.mem_append_left _ (List.mem_append_left _ (List.mem_append_left _ (List.mem_append_right _ h)))))) (by decide) ((List.mem_cons_of_mem _ (List.mem_append_left _ (List.mem_append_left _ (List.mem_append_left _ (List.mem_append_left _ (List.mem_append_left _ (List.mem_of_getElem? (i := 2) rfl)))))))) dX11_predict_32 ?_
    refine lv_icmp_ge (tgt := 73) hx hb dX11_predict_35 (by decide) (fun hc13 => ?_) (fun hc13 => ?_)
    · have h := ifp h hc13
      have h := hX7 _ (Option.some.inj h).symm
      have hl := lv_sub hl (l' := [(0, .ref (E.2.2.1 0 (0)))]) [1] rfl
      refine lv_aload_n hx hb dX11_predict_73 rfl (lv_at hl 0 rfl) ?_
      refine X_g0_14 C0 hw (fun w h => (List.mem_cons_of_mem _ (List.mem_append_left _ (List.mem_append_left _ (List.mem_append_left _ (List.mem_append_right _ h)))))) (by decide) ((List.mem_cons_of_mem _ (List.mem_append_left _ (List.mem_append_left _ (List.mem_append_left _ (List.mem_append_left _ (List.mem_append_left _ (List.mem_of_getElem? (i := 0) rfl)))))))) dX11_predict_74 ?_
      obtain ⟨⟨v14, t15⟩, hf16, h⟩ := bn_c h
      have h := un2_d h
      refine X_callV C0 hw (As := []) (rest := []) (mX6_result l E hL t11 hf16) (cwV 0 C0.1.2.2.2.2 gX11_predict_X6_result rfl rfl rfl (by decide +kernel) ⟨Nat.le_of_ble_eq_true rfl, Nat.le_of_ble_eq_true rfl⟩) (X_recv_15 C0 hw (by decide)) rfl hl.1 rfl (Nat.le_of_ble_eq_true rfl) dX11_predict_77 ⟨Nat.zero_le _, Nat.zero_le _⟩ (fun H locs hw => ?_)
      obtain ⟨qf17, qi18⟩ := v14
      have h := un2_d h
      refine W.eq (g2 := F0 m 80 ls (.ref (E.2.2.1 qf17 qi18) :: [])) rfl ?_
      refine lv_aload_n hx hb dX11_predict_80 rfl (lv_at hl 0 rfl) ?_
      refine X_g0_1 C0 hw (fun w h => (List.mem_cons_of_mem _ (List.mem_append_left _ (List.mem_append_left _ (List.mem_append_left _ (List.mem_append_right _ h)))))) (by decide) ((List.mem_cons_of_mem _ (List.mem_append_left _ (List.mem_append_left _ (List.mem_append_left _ (List.mem_append_left _ (List.mem_append_left _ (List.mem_of_getElem? (i := 4) rfl)))))))) dX11_predict_81 ?_
      obtain ⟨t19, hf20, h⟩ := bn_c h
      refine X_callS C0 hw (As := [.ref (E.2.2.1 qf17 qi18), .ref (E.2.2.1 (2) (0))]) (rest := []) (mX11_copyRow l E hL t15 hf20) (va_cwS 2 C0.1.2.2.2.2 gX11_predict_X11_copyRow rfl rfl rfl (by decide +kernel) ⟨Nat.le_of_ble_eq_true rfl, Nat.le_of_ble_eq_true rfl⟩) rfl hl.1 rfl (Nat.le_of_ble_eq_true rfl) dX11_predict_84 ⟨Nat.zero_le _, Nat.zero_le _⟩ (fun H locs hw => ?_)
      refine W.eq (g2 := F0 m 87 ls []) rfl ?_
      refine lv_aload_n hx hb dX11_predict_87 rfl (lv_at hl 0 rfl) ?_
      refine lv_iconst (v := 1) hx hb dX11_predict_88 (by decide) ?_
      refine X_p0_2 hL C0 hw (fun w h => (List.mem_cons_of_mem _ (List.mem_append_left _ (List.mem_append_left _ (List.mem_append_left _ (List.mem_append_right _ h)))))) (by decide) h rfl rfl ((List.mem_cons_of_mem _ (List.mem_append_left _ (List.mem_append_left _ (List.mem_append_left _ (List.mem_append_left _ (List.mem_append_left _ (List.mem_of_getElem? (i := 5) rfl)))))))) dX11_predict_89 (fun t21 H locs hw h => ?_)
      refine lv_aload_n hx hb dX11_predict_92 rfl (lv_at hl 0 rfl) ?_
      refine lv_iconst (v := 0) hx hb dX11_predict_93 (by decide) ?_
      refine X_p0_11 hL C0 hw (fun w h => (List.mem_cons_of_mem _ (List.mem_append_left _ (List.mem_append_left _ (List.mem_append_left _ (List.mem_append_right _ h)))))) (by decide) h ((List.mem_cons_of_mem _ (List.mem_append_left _ (List.mem_append_left _ (List.mem_append_left _ (List.mem_append_left _ (List.mem_append_left _ (List.mem_of_getElem? (i := 2) rfl)))))))) dX11_predict_94 (fun t22 H locs hw h => ?_)
      refine lv_aload_n hx hb dX11_predict_97 rfl (lv_at hl 0 rfl) ?_
      obtain ⟨⟨v23, t24⟩, hf25, h⟩ := bn_c h
      have h := un2_d h
      refine X_callV C0 hw (As := []) (rest := []) (mX11_accept l E hL t22 hf25) (cwV 0 C0.1.2.2.2.2 gX11_predict_X11_accept rfl rfl rfl (by decide +kernel) ⟨Nat.le_of_ble_eq_true rfl, Nat.le_of_ble_eq_true rfl⟩) (X_recv_0 C0 hw (by decide)) rfl hl.1 rfl (Nat.le_of_ble_eq_true rfl) dX11_predict_98 ⟨Nat.zero_le _, Nat.zero_le _⟩ (fun H locs hw => ?_)
      refine W.eq (g2 := F0 m 101 ls [.int v23]) rfl ?_
      obtain ⟨hz, h⟩ := ck_c h
      cases h
      exact W.zret hx hb hr (zz hz) (X_fin C0 hw) hw.2.2.2 dX11_predict_101 hlocks
    · have h := ifn h hc13
      refine lv_aload_n hx hb dX11_predict_38 rfl (lv_at hl 1 rfl) ?_
      refine lv_aload_n hx hb dX11_predict_39 rfl (lv_at hl 1 rfl) ?_
      refine X_g0_10 C0 hw (fun w h => (List.mem_cons_of_mem _ (List.mem_append_left _ (List.mem_append_left _ (List.mem_append_left _ (List.mem_append_right _ h)))))) (by decide) ((List.mem_cons_of_mem _ (List.mem_append_left _ (List.mem_append_left _ (List.mem_append_left _ (List.mem_append_left _ (List.mem_append_left _ (List.mem_of_getElem? (i := 3) rfl)))))))) dX11_predict_40 ?_
      refine lv_iload_n hx hb dX11_predict_43 rfl (lv_at hl 0 rfl) ?_
      refine X_ald_11 C0 hw (by decide) h (k := v10.toNatClampNeg) rfl dX11_predict_44 (fun hk26 h => ?_)
      refine lv_iconst (v := 0) hx hb dX11_predict_45 (by decide) ?_
      refine X_iald C0 hw h (k := 0) rfl dX11_predict_46 (fun h => ?_)
      refine lv_aload_n hx hb dX11_predict_47 rfl (lv_at hl 1 rfl) ?_
      refine X_g0_10 C0 hw (fun w h => (List.mem_cons_of_mem _ (List.mem_append_left _ (List.mem_append_left _ (List.mem_append_left _ (List.mem_append_right _ h)))))) (by decide) ((List.mem_cons_of_mem _ (List.mem_append_left _ (List.mem_append_left _ (List.mem_append_left _ (List.mem_append_left _ (List.mem_append_left _ (List.mem_of_getElem? (i := 3) rfl)))))))) dX11_predict_48 ?_
      refine lv_iload_n hx hb dX11_predict_51 rfl (lv_at hl 0 rfl) ?_
      refine X_ald_11 C0 hw (by decide) h (k := v10.toNatClampNeg) rfl dX11_predict_52 (fun hk27 h => ?_)
      refine lv_iconst (v := 1) hx hb dX11_predict_53 (by decide) ?_
      refine X_iald C0 hw h (k := 1) rfl dX11_predict_54 (fun h => ?_)
      refine lv_aload_n hx hb dX11_predict_55 rfl (lv_at hl 1 rfl) ?_
      refine X_g0_10 C0 hw (fun w h => (List.mem_cons_of_mem _ (List.mem_append_left _ (List.mem_append_left _ (List.mem_append_left _ (List.mem_append_right _ h)))))) (by decide) ((List.mem_cons_of_mem _ (List.mem_append_left _ (List.mem_append_left _ (List.mem_append_left _ (List.mem_append_left _ (List.mem_append_left _ (List.mem_of_getElem? (i := 3) rfl)))))))) dX11_predict_56 ?_
      refine lv_iload_n hx hb dX11_predict_59 rfl (lv_at hl 0 rfl) ?_
      refine X_ald_11 C0 hw (by decide) h (k := v10.toNatClampNeg) rfl dX11_predict_60 (fun hk28 h => ?_)
      refine lv_iconst (v := 2) hx hb dX11_predict_61 (by decide) ?_
      refine X_iald C0 hw h (k := 2) rfl dX11_predict_62 (fun h => ?_)
      refine lv_i2l hx hb dX11_predict_63 rfl ?_
      obtain ⟨t29, hf30, h⟩ := bn_c h
      refine X_callV C0 hw (As := [.int (gI t11 (12) (v10.toNatClampNeg) (0)), .int (gI t11 (12) (v10.toNatClampNeg) (1)), .long ((gI t11 (12) (v10.toNatClampNeg) (2)).toInt64)]) (rest := []) (mX11_mixPart l E hL t11 hf30) (cwV 3 C0.1.2.2.2.2 gX11_predict_X11_mixPart rfl rfl rfl (by decide +kernel) ⟨Nat.le_of_ble_eq_true rfl, Nat.le_of_ble_eq_true rfl⟩) (X_recv_0 C0 hw (by decide)) rfl hl.1 rfl (Nat.le_of_ble_eq_true rfl) dX11_predict_64 ⟨Nat.zero_le _, Nat.zero_le _⟩ (fun H locs hw => ?_)
      refine W.eq (g2 := F0 m 67 ls []) rfl ?_
      refine x_iinc hx hb h dX11_predict_67 hl (q := 0) rfl (fun v31 => [(2, .int v31), (0, .ref (E.2.2.1 0 (0)))]) (by decide) (fun _ => rfl) (fun v31 ls hl h => ?_)
      refine lv_goto (tgt := 30) hx hb dX11_predict_70 (by decide) ?_
      exact hB8 _ (Option.some.inj h).symm _ _ hw _ (lv_sub hl [0, 1] rfl)
  · have h := ifp h hc3
    refine lv_aload_n hx hb dX11_predict_9 rfl (lv_at hl 0 rfl) ?_
    refine lv_iconst (v := 2) hx hb dX11_predict_10 (by decide) ?_
    obtain ⟨⟨v44, t45⟩, hf46, h⟩ := bn_c h
    have h := un2_d h
    refine X_callV C0 hw (As := [.int (2 : Int32)]) (rest := []) (mX11_denied l E hL st hf46) (cwV 1 C0.1.2.2.2.2 gX11_predict_X11_denied rfl rfl rfl (by decide +kernel) ⟨Nat.le_of_ble_eq_true rfl, Nat.le_of_ble_eq_true rfl⟩) (X_recv_0 C0 hw (by decide)) rfl hl.1 rfl (Nat.le_of_ble_eq_true rfl) dX11_predict_11 ⟨Nat.zero_le _, Nat.zero_le _⟩ (fun H locs hw => ?_)
    refine W.eq (g2 := F0 m 14 ls [.int v44]) rfl ?_
    obtain ⟨hz, h⟩ := ck_c h
    cases h
    exact W.zret hx hb hr (zz hz) (X_fin C0 hw) hw.2.2.2 dX11_predict_14 hlocks

def fX11_light (a1 : Int32) (a2 : Int32) (a3 : Int32) (st : Sto) : Option (Int32 × Sto) :=
  (fX9_setLight a1 a2 a3 st).bind (un2 fun (v1 : Int32) (t2 : Sto) =>
   if v1 = 0 then (
    (fX11_denied (3 : Int32) t2).bind (un2 fun (v5 : Int32) (t6 : Sto) =>
     ck (v5 &&& 1 = v5) (
      some (v5, t6)))) else (
    (fX11_accept t2).bind (un2 fun (v8 : Int32) (t9 : Sto) =>
     ck (v8 &&& 1 = v8) (
      some (v8, t9)))))
set_option maxHeartbeats 4000000 in
set_option maxRecDepth 100000 in
theorem mX11_light (l : Launch) (E : XE) (hL : LX E) (st : Sto) {a1 : Int32} {a2 : Int32} {a3 : Int32} {r : Int32} {st1 : Sto} (h : fX11_light a1 a2 a3 st = some (r, st1)) : Met l yX11_light wsX11_light ({ frames := 2, cells := 0, slots := 0, locals := 44 }) (va_Pc [.ref (E.2.2.1 0 (0)), .int a1, .int a2, .int a3] (RX E st)) (QX E (some (.int r)) st1) 0 0 E.2.2.2 := by
  refine Met.ofW (cc := cX11_light) (maxL := 4) (ret := (some .boolean)) (by decide) rfl ?_
  intro p e s m args below meth c s₁ B hml hv
  obtain ⟨rfl, hP, hK⟩ := hv
  have hown : s.vm.findClass RX11 = some m.cls := findClass_of_methodNamed B.named
  have C0 : CX p m c cX11_light 4 s _ wsX11_light RX11 E := ⟨⟨B.exec, B.bytes, hml, hown, atoms_spec (ws := wsX11_light) B.pre⟩, hK⟩
  have hx := B.exec
  have hb := B.bytes
  have hr := B.returns
  have hlocks := B.notSynchronized
  have hw : SX E s st s.heap [] := ⟨hP, va_S.rf⟩
  have hl := lv_entry ([.ref (E.2.2.1 0 (0)), .int a1, .int a2, .int a3]) (n := 4) (Nat.le_of_ble_eq_true rfl)
  rw [lg_entry_eq]
  generalize (lg_sl ([.ref (E.2.2.1 0 (0)), .int a1, .int a2, .int a3]) ++ List.replicate (4 - (lg_sl ([.ref (E.2.2.1 0 (0)), .int a1, .int a2, .int a3])).length) Slot.unset).toArray = ls at hl ⊢
  have hl : lv_has ls 4 [(0, .ref (E.2.2.1 0 (0))), (1, .int a1), (2, .int a2), (3, .int a3)] := hl
  unfold fX11_light at h
  refine lv_aload_n hx hb dX11_light_0 rfl (lv_at hl 0 rfl) ?_
  refine X_g0_12 C0 hw (fun w h => (List.mem_cons_of_mem _ (List.mem_append_left _ (List.mem_append_right _ h)))) (by decide) ((List.mem_cons_of_mem _ (List.mem_append_left _ (List.mem_append_left _ (List.mem_of_getElem? (i := 0) rfl))))) dX11_light_1 ?_
  refine lv_iload_n hx hb dX11_light_4 rfl (lv_at hl 1 rfl) ?_
  refine lv_iload_n hx hb dX11_light_5 rfl (lv_at hl 2 rfl) ?_
  refine lv_iload_n hx hb dX11_light_6 rfl (lv_at hl 3 rfl) ?_
  obtain ⟨⟨v1, t2⟩, hf3, h⟩ := bn_c h
  have h := un2_d h
  refine X_callV C0 hw (As := [.int a1, .int a2, .int a3]) (rest := []) (mX9_setLight l E hL st hf3) (cwV 3 C0.1.2.2.2.2 gX11_light_X9_setLight rfl rfl rfl (by decide +kernel) ⟨Nat.le_of_ble_eq_true rfl, Nat.le_of_ble_eq_true rfl⟩) (X_recv_13 C0 hw (by decide)) rfl hl.1 rfl (Nat.le_of_ble_eq_true rfl) dX11_light_7 ⟨Nat.zero_le _, Nat.zero_le _⟩ (fun H locs hw => ?_)
  refine W.eq (g2 := F0 m 10 ls [.int v1]) rfl ?_
  refine lv_if_eq (tgt := 20) hx hb dX11_light_10 (by decide) (fun hc4 => ?_) (fun hc4 => ?_)
  · have h := ifp h hc4
    refine lv_aload_n hx hb dX11_light_20 rfl (lv_at hl 0 rfl) ?_
    refine lv_iconst (v := 3) hx hb dX11_light_21 (by decide) ?_
    obtain ⟨⟨v5, t6⟩, hf7, h⟩ := bn_c h
    have h := un2_d h
    refine X_callV C0 hw (As := [.int (3 : Int32)]) (rest := []) (mX11_denied l E hL t2 hf7) (cwV 1 C0.1.2.2.2.2 gX11_light_X11_denied rfl rfl rfl (by decide +kernel) ⟨Nat.le_of_ble_eq_true rfl, Nat.le_of_ble_eq_true rfl⟩) (X_recv_0 C0 hw (by decide)) rfl hl.1 rfl (Nat.le_of_ble_eq_true rfl) dX11_light_22 ⟨Nat.zero_le _, Nat.zero_le _⟩ (fun H locs hw => ?_)
    refine W.eq (g2 := F0 m 25 ls [.int v5]) rfl ?_
    obtain ⟨hz, h⟩ := ck_c h
    cases h
    exact W.zret hx hb hr (zz hz) (X_fin C0 hw) hw.2.2.2 dX11_light_25 hlocks
  · have h := ifn h hc4
    refine lv_aload_n hx hb dX11_light_13 rfl (lv_at hl 0 rfl) ?_
    obtain ⟨⟨v8, t9⟩, hf10, h⟩ := bn_c h
    have h := un2_d h
    refine X_callV C0 hw (As := []) (rest := []) (mX11_accept l E hL t2 hf10) (cwV 0 C0.1.2.2.2.2 gX11_light_X11_accept rfl rfl rfl (by decide +kernel) ⟨Nat.le_of_ble_eq_true rfl, Nat.le_of_ble_eq_true rfl⟩) (X_recv_0 C0 hw (by decide)) rfl hl.1 rfl (Nat.le_of_ble_eq_true rfl) dX11_light_14 ⟨Nat.zero_le _, Nat.zero_le _⟩ (fun H locs hw => ?_)
    refine W.eq (g2 := F0 m 17 ls [.int v8]) rfl ?_
    refine lv_goto (tgt := 25) hx hb dX11_light_17 (by decide) ?_
    obtain ⟨hz, h⟩ := ck_c h
    cases h
    exact W.zret hx hb hr (zz hz) (X_fin C0 hw) hw.2.2.2 dX11_light_25 hlocks

def fX11_eye (a1 : Int32) (a2 : Int32) (a3 : Int32) (a4 : Int32) (st : Sto) : Option (Int32 × Sto) :=
  (fX9_setEye a1 a2 a3 a4 st).bind (un2 fun (v1 : Int32) (t2 : Sto) =>
   if v1 = 0 then (
    (fX11_denied (3 : Int32) t2).bind (un2 fun (v5 : Int32) (t6 : Sto) =>
     ck (v5 &&& 1 = v5) (
      some (v5, t6)))) else (
    (fX11_accept t2).bind (un2 fun (v8 : Int32) (t9 : Sto) =>
     ck (v8 &&& 1 = v8) (
      some (v8, t9)))))
set_option maxHeartbeats 4000000 in
set_option maxRecDepth 100000 in
theorem mX11_eye (l : Launch) (E : XE) (hL : LX E) (st : Sto) {a1 : Int32} {a2 : Int32} {a3 : Int32} {a4 : Int32} {r : Int32} {st1 : Sto} (h : fX11_eye a1 a2 a3 a4 st = some (r, st1)) : Met l yX11_eye wsX11_eye ({ frames := 2, cells := 0, slots := 0, locals := 45 }) (va_Pc [.ref (E.2.2.1 0 (0)), .int a1, .int a2, .int a3, .int a4] (RX E st)) (QX E (some (.int r)) st1) 0 0 E.2.2.2 := by
  refine Met.ofW (cc := cX11_eye) (maxL := 5) (ret := (some .boolean)) (by decide) rfl ?_
  intro p e s m args below meth c s₁ B hml hv
  obtain ⟨rfl, hP, hK⟩ := hv
  have hown : s.vm.findClass RX11 = some m.cls := findClass_of_methodNamed B.named
  have C0 : CX p m c cX11_eye 5 s _ wsX11_eye RX11 E := ⟨⟨B.exec, B.bytes, hml, hown, atoms_spec (ws := wsX11_eye) B.pre⟩, hK⟩
  have hx := B.exec
  have hb := B.bytes
  have hr := B.returns
  have hlocks := B.notSynchronized
  have hw : SX E s st s.heap [] := ⟨hP, va_S.rf⟩
  have hl := lv_entry ([.ref (E.2.2.1 0 (0)), .int a1, .int a2, .int a3, .int a4]) (n := 5) (Nat.le_of_ble_eq_true rfl)
  rw [lg_entry_eq]
  generalize (lg_sl ([.ref (E.2.2.1 0 (0)), .int a1, .int a2, .int a3, .int a4]) ++ List.replicate (5 - (lg_sl ([.ref (E.2.2.1 0 (0)), .int a1, .int a2, .int a3, .int a4])).length) Slot.unset).toArray = ls at hl ⊢
  have hl : lv_has ls 5 [(0, .ref (E.2.2.1 0 (0))), (1, .int a1), (2, .int a2), (3, .int a3), (4, .int a4)] := hl
  unfold fX11_eye at h
  refine lv_aload_n hx hb dX11_eye_0 rfl (lv_at hl 0 rfl) ?_
  refine X_g0_12 C0 hw (fun w h => (List.mem_cons_of_mem _ (List.mem_append_left _ (List.mem_append_right _ h)))) (by decide) ((List.mem_cons_of_mem _ (List.mem_append_left _ (List.mem_append_left _ (List.mem_of_getElem? (i := 0) rfl))))) dX11_eye_1 ?_
  refine lv_iload_n hx hb dX11_eye_4 rfl (lv_at hl 1 rfl) ?_
  refine lv_iload_n hx hb dX11_eye_5 rfl (lv_at hl 2 rfl) ?_
  refine lv_iload_n hx hb dX11_eye_6 rfl (lv_at hl 3 rfl) ?_
  refine lv_iload hx hb dX11_eye_7 (lv_at hl 4 rfl) ?_
  obtain ⟨⟨v1, t2⟩, hf3, h⟩ := bn_c h
  have h := un2_d h
  refine X_callV C0 hw (As := [.int a1, .int a2, .int a3, .int a4]) (rest := []) (mX9_setEye l E hL st hf3) (cwV 4 C0.1.2.2.2.2 gX11_eye_X9_setEye rfl rfl rfl (by decide +kernel) ⟨Nat.le_of_ble_eq_true rfl, Nat.le_of_ble_eq_true rfl⟩) (X_recv_13 C0 hw (by decide)) rfl hl.1 rfl (Nat.le_of_ble_eq_true rfl) dX11_eye_9 ⟨Nat.zero_le _, Nat.zero_le _⟩ (fun H locs hw => ?_)
  refine W.eq (g2 := F0 m 12 ls [.int v1]) rfl ?_
  refine lv_if_eq (tgt := 22) hx hb dX11_eye_12 (by decide) (fun hc4 => ?_) (fun hc4 => ?_)
  · have h := ifp h hc4
    refine lv_aload_n hx hb dX11_eye_22 rfl (lv_at hl 0 rfl) ?_
    refine lv_iconst (v := 3) hx hb dX11_eye_23 (by decide) ?_
    obtain ⟨⟨v5, t6⟩, hf7, h⟩ := bn_c h
    have h := un2_d h
    refine X_callV C0 hw (As := [.int (3 : Int32)]) (rest := []) (mX11_denied l E hL t2 hf7) (cwV 1 C0.1.2.2.2.2 gX11_eye_X11_denied rfl rfl rfl (by decide +kernel) ⟨Nat.le_of_ble_eq_true rfl, Nat.le_of_ble_eq_true rfl⟩) (X_recv_0 C0 hw (by decide)) rfl hl.1 rfl (Nat.le_of_ble_eq_true rfl) dX11_eye_24 ⟨Nat.zero_le _, Nat.zero_le _⟩ (fun H locs hw => ?_)
    refine W.eq (g2 := F0 m 27 ls [.int v5]) rfl ?_
    obtain ⟨hz, h⟩ := ck_c h
    cases h
    exact W.zret hx hb hr (zz hz) (X_fin C0 hw) hw.2.2.2 dX11_eye_27 hlocks
  · have h := ifn h hc4
    refine lv_aload_n hx hb dX11_eye_15 rfl (lv_at hl 0 rfl) ?_
    obtain ⟨⟨v8, t9⟩, hf10, h⟩ := bn_c h
    have h := un2_d h
    refine X_callV C0 hw (As := []) (rest := []) (mX11_accept l E hL t2 hf10) (cwV 0 C0.1.2.2.2.2 gX11_eye_X11_accept rfl rfl rfl (by decide +kernel) ⟨Nat.le_of_ble_eq_true rfl, Nat.le_of_ble_eq_true rfl⟩) (X_recv_0 C0 hw (by decide)) rfl hl.1 rfl (Nat.le_of_ble_eq_true rfl) dX11_eye_16 ⟨Nat.zero_le _, Nat.zero_le _⟩ (fun H locs hw => ?_)
    refine W.eq (g2 := F0 m 19 ls [.int v8]) rfl ?_
    refine lv_goto (tgt := 27) hx hb dX11_eye_19 (by decide) ?_
    obtain ⟨hz, h⟩ := ck_c h
    cases h
    exact W.zret hx hb hr (zz hz) (X_fin C0 hw) hw.2.2.2 dX11_eye_27 hlocks

def fX11_measure (a1 : Int32) (a2 : Int32) (a3 : Int32) (st : Sto) : Option (Int32 × Sto) :=
  (fX11_isWithin a1 (1 : Int32) (100 : Int32)).bind (fun (v1 : Int32) =>
   if v1 = 0 then (
    (fX11_denied (3 : Int32) st).bind (un2 fun (v4 : Int32) (t5 : Sto) =>
     ck (v4 &&& 1 = v4) (
      some (v4, t5)))) else (
    (fX11_isWithin a2 (1 : Int32) (100 : Int32)).bind (fun (v7 : Int32) =>
     if v7 = 0 then (
      (fX11_denied (3 : Int32) st).bind (un2 fun (v10 : Int32) (t11 : Sto) =>
       ck (v10 &&& 1 = v10) (
        some (v10, t11)))) else (
      (fX11_isWithin a3 (1 : Int32) (100 : Int32)).bind (fun (v13 : Int32) =>
       if v13 = 0 then (
        (fX11_denied (3 : Int32) st).bind (un2 fun (v21 : Int32) (t22 : Sto) =>
         ck (v21 &&& 1 = v21) (
          some (v21, t22)))) else (
        (fX9_setMeasure a1 a2 a3 st).bind (fun (t16 : Sto) =>
         (fX11_accept t16).bind (un2 fun (v18 : Int32) (t19 : Sto) =>
          ck (v18 &&& 1 = v18) (
           some (v18, t19))))))))))
set_option maxHeartbeats 4000000 in
set_option maxRecDepth 100000 in
theorem mX11_measure (l : Launch) (E : XE) (hL : LX E) (st : Sto) {a1 : Int32} {a2 : Int32} {a3 : Int32} {r : Int32} {st1 : Sto} (h : fX11_measure a1 a2 a3 st = some (r, st1)) : Met l yX11_measure wsX11_measure ({ frames := 1, cells := 0, slots := 0, locals := 23 }) (va_Pc [.ref (E.2.2.1 0 (0)), .int a1, .int a2, .int a3] (RX E st)) (QX E (some (.int r)) st1) 0 0 E.2.2.2 := by
  refine Met.ofW (cc := cX11_measure) (maxL := 4) (ret := (some .boolean)) (by decide) rfl ?_
  intro p e s m args below meth c s₁ B hml hv
  obtain ⟨rfl, hP, hK⟩ := hv
  have hown : s.vm.findClass RX11 = some m.cls := findClass_of_methodNamed B.named
  have C0 : CX p m c cX11_measure 4 s _ wsX11_measure RX11 E := ⟨⟨B.exec, B.bytes, hml, hown, atoms_spec (ws := wsX11_measure) B.pre⟩, hK⟩
  have hx := B.exec
  have hb := B.bytes
  have hr := B.returns
  have hlocks := B.notSynchronized
  have hw : SX E s st s.heap [] := ⟨hP, va_S.rf⟩
  have hl := lv_entry ([.ref (E.2.2.1 0 (0)), .int a1, .int a2, .int a3]) (n := 4) (Nat.le_of_ble_eq_true rfl)
  rw [lg_entry_eq]
  generalize (lg_sl ([.ref (E.2.2.1 0 (0)), .int a1, .int a2, .int a3]) ++ List.replicate (4 - (lg_sl ([.ref (E.2.2.1 0 (0)), .int a1, .int a2, .int a3])).length) Slot.unset).toArray = ls at hl ⊢
  have hl : lv_has ls 4 [(0, .ref (E.2.2.1 0 (0))), (1, .int a1), (2, .int a2), (3, .int a3)] := hl
  unfold fX11_measure at h
  refine lv_iload_n hx hb dX11_measure_0 rfl (lv_at hl 1 rfl) ?_
  refine lv_iconst (v := 1) hx hb dX11_measure_1 (by decide) ?_
  refine lv_bipush (v := 100) hx hb dX11_measure_2 (by decide) ?_
  obtain ⟨v1, hf2, h⟩ := bn_c h
  refine X_callS C0 hw (As := [.int a1, .int (1 : Int32), .int (100 : Int32)]) (rest := []) (mX11_isWithin l E hL st hf2) (va_cwS 3 C0.1.2.2.2.2 gX11_measure_X11_isWithin rfl rfl rfl (by decide +kernel) ⟨Nat.le_of_ble_eq_true rfl, Nat.le_of_ble_eq_true rfl⟩) rfl hl.1 rfl (Nat.le_of_ble_eq_true rfl) dX11_measure_4 ⟨Nat.zero_le _, Nat.zero_le _⟩ (fun H locs hw => ?_)
  refine W.eq (g2 := F0 m 7 ls [.int v1]) rfl ?_
  refine lv_if_eq (tgt := 30) hx hb dX11_measure_7 (by decide) (fun hc3 => ?_) (fun hc3 => ?_)
  · have h := ifp h hc3
    refine lv_aload_n hx hb dX11_measure_30 rfl (lv_at hl 0 rfl) ?_
    refine lv_iconst (v := 3) hx hb dX11_measure_31 (by decide) ?_
    obtain ⟨⟨v4, t5⟩, hf6, h⟩ := bn_c h
    have h := un2_d h
    refine X_callV C0 hw (As := [.int (3 : Int32)]) (rest := []) (mX11_denied l E hL st hf6) (cwV 1 C0.1.2.2.2.2 gX11_measure_X11_denied rfl rfl rfl (by decide +kernel) ⟨Nat.le_of_ble_eq_true rfl, Nat.le_of_ble_eq_true rfl⟩) (X_recv_0 C0 hw (by decide)) rfl hl.1 rfl (Nat.le_of_ble_eq_true rfl) dX11_measure_32 ⟨Nat.zero_le _, Nat.zero_le _⟩ (fun H locs hw => ?_)
    refine W.eq (g2 := F0 m 35 ls [.int v4]) rfl ?_
    obtain ⟨hz, h⟩ := ck_c h
    cases h
    exact W.zret hx hb hr (zz hz) (X_fin C0 hw) hw.2.2.2 dX11_measure_35 hlocks
  · have h := ifn h hc3
    refine lv_iload_n hx hb dX11_measure_10 rfl (lv_at hl 2 rfl) ?_
    refine lv_iconst (v := 1) hx hb dX11_measure_11 (by decide) ?_
    refine lv_bipush (v := 100) hx hb dX11_measure_12 (by decide) ?_
    obtain ⟨v7, hf8, h⟩ := bn_c h
    refine X_callS C0 hw (As := [.int a2, .int (1 : Int32), .int (100 : Int32)]) (rest := []) (mX11_isWithin l E hL st hf8) (va_cwS 3 C0.1.2.2.2.2 gX11_measure_X11_isWithin rfl rfl rfl (by decide +kernel) ⟨Nat.le_of_ble_eq_true rfl, Nat.le_of_ble_eq_true rfl⟩) rfl hl.1 rfl (Nat.le_of_ble_eq_true rfl) dX11_measure_14 ⟨Nat.zero_le _, Nat.zero_le _⟩ (fun H locs hw => ?_)
    refine W.eq (g2 := F0 m 17 ls [.int v7]) rfl ?_
    refine lv_if_eq (tgt := 30) hx hb dX11_measure_17 (by decide) (fun hc9 => ?_) (fun hc9 => ?_)
    · have h := ifp h hc9
      refine lv_aload_n hx hb dX11_measure_30 rfl (lv_at hl 0 rfl) ?_
      refine lv_iconst (v := 3) hx hb dX11_measure_31 (by decide) ?_
      obtain ⟨⟨v10, t11⟩, hf12, h⟩ := bn_c h
      have h := un2_d h
      refine X_callV C0 hw (As := [.int (3 : Int32)]) (rest := []) (mX11_denied l E hL st hf12) (cwV 1 C0.1.2.2.2.2 gX11_measure_X11_denied rfl rfl rfl (by decide +kernel) ⟨Nat.le_of_ble_eq_true rfl, Nat.le_of_ble_eq_true rfl⟩) (X_recv_0 C0 hw (by decide)) rfl hl.1 rfl (Nat.le_of_ble_eq_true rfl) dX11_measure_32 ⟨Nat.zero_le _, Nat.zero_le _⟩ (fun H locs hw => ?_)
      refine W.eq (g2 := F0 m 35 ls [.int v10]) rfl ?_
      obtain ⟨hz, h⟩ := ck_c h
      cases h
      exact W.zret hx hb hr (zz hz) (X_fin C0 hw) hw.2.2.2 dX11_measure_35 hlocks
    · have h := ifn h hc9
      refine lv_iload_n hx hb dX11_measure_20 rfl (lv_at hl 3 rfl) ?_
      refine lv_iconst (v := 1) hx hb dX11_measure_21 (by decide) ?_
      refine lv_bipush (v := 100) hx hb dX11_measure_22 (by decide) ?_
      obtain ⟨v13, hf14, h⟩ := bn_c h
      refine X_callS C0 hw (As := [.int a3, .int (1 : Int32), .int (100 : Int32)]) (rest := []) (mX11_isWithin l E hL st hf14) (va_cwS 3 C0.1.2.2.2.2 gX11_measure_X11_isWithin rfl rfl rfl (by decide +kernel) ⟨Nat.le_of_ble_eq_true rfl, Nat.le_of_ble_eq_true rfl⟩) rfl hl.1 rfl (Nat.le_of_ble_eq_true rfl) dX11_measure_24 ⟨Nat.zero_le _, Nat.zero_le _⟩ (fun H locs hw => ?_)
      refine W.eq (g2 := F0 m 27 ls [.int v13]) rfl ?_
      refine lv_if_ne (tgt := 36) hx hb dX11_measure_27 (by decide) (fun hc15 => ?_) (fun hc15 => ?_)
      · have h := ifn h hc15
        refine lv_aload_n hx hb dX11_measure_36 rfl (lv_at hl 0 rfl) ?_
        refine X_g0_12 C0 hw (fun w h => (List.mem_cons_of_mem _ (List.mem_append_left _ (List.mem_append_right _ h)))) (by decide) ((List.mem_cons_of_mem _ (List.mem_append_left _ (List.mem_append_left _ (List.mem_of_getElem? (i := 0) rfl))))) dX11_measure_37 ?_
        refine lv_iload_n hx hb dX11_measure_40 rfl (lv_at hl 1 rfl) ?_
        refine lv_iload_n hx hb dX11_measure_41 rfl (lv_at hl 2 rfl) ?_
        refine lv_iload_n hx hb dX11_measure_42 rfl (lv_at hl 3 rfl) ?_
        obtain ⟨t16, hf17, h⟩ := bn_c h
        refine X_callV C0 hw (As := [.int a1, .int a2, .int a3]) (rest := []) (mX9_setMeasure l E hL st hf17) (cwV 3 C0.1.2.2.2.2 gX11_measure_X9_setMeasure rfl rfl rfl (by decide +kernel) ⟨Nat.le_of_ble_eq_true rfl, Nat.le_of_ble_eq_true rfl⟩) (X_recv_13 C0 hw (by decide)) rfl hl.1 rfl (Nat.le_of_ble_eq_true rfl) dX11_measure_43 ⟨Nat.zero_le _, Nat.zero_le _⟩ (fun H locs hw => ?_)
        refine W.eq (g2 := F0 m 46 ls []) rfl ?_
        refine lv_aload_n hx hb dX11_measure_46 rfl (lv_at hl 0 rfl) ?_
        obtain ⟨⟨v18, t19⟩, hf20, h⟩ := bn_c h
        have h := un2_d h
        refine X_callV C0 hw (As := []) (rest := []) (mX11_accept l E hL t16 hf20) (cwV 0 C0.1.2.2.2.2 gX11_measure_X11_accept rfl rfl rfl (by decide +kernel) ⟨Nat.le_of_ble_eq_true rfl, Nat.le_of_ble_eq_true rfl⟩) (X_recv_0 C0 hw (by decide)) rfl hl.1 rfl (Nat.le_of_ble_eq_true rfl) dX11_measure_47 ⟨Nat.zero_le _, Nat.zero_le _⟩ (fun H locs hw => ?_)
        refine W.eq (g2 := F0 m 50 ls [.int v18]) rfl ?_
        obtain ⟨hz, h⟩ := ck_c h
        cases h
        exact W.zret hx hb hr (zz hz) (X_fin C0 hw) hw.2.2.2 dX11_measure_50 hlocks
      · have h := ifp h hc15
        refine lv_aload_n hx hb dX11_measure_30 rfl (lv_at hl 0 rfl) ?_
        refine lv_iconst (v := 3) hx hb dX11_measure_31 (by decide) ?_
        obtain ⟨⟨v21, t22⟩, hf23, h⟩ := bn_c h
        have h := un2_d h
        refine X_callV C0 hw (As := [.int (3 : Int32)]) (rest := []) (mX11_denied l E hL st hf23) (cwV 1 C0.1.2.2.2.2 gX11_measure_X11_denied rfl rfl rfl (by decide +kernel) ⟨Nat.le_of_ble_eq_true rfl, Nat.le_of_ble_eq_true rfl⟩) (X_recv_0 C0 hw (by decide)) rfl hl.1 rfl (Nat.le_of_ble_eq_true rfl) dX11_measure_32 ⟨Nat.zero_le _, Nat.zero_le _⟩ (fun H locs hw => ?_)
        refine W.eq (g2 := F0 m 35 ls [.int v21]) rfl ?_
        obtain ⟨hz, h⟩ := ck_c h
        cases h
        exact W.zret hx hb hr (zz hz) (X_fin C0 hw) hw.2.2.2 dX11_measure_35 hlocks

def fX11_colour (a1 : Int32) (a2 : Int32) (a3 : Int32) (a4 : Int32) (a5 : Int32) (st : Sto) : Option (Int64 × Sto) :=
  (fX11_spectrumOf a1 a2 st).bind (fun (v1 : (Option (Nat × Nat))) => oq v1 (
    some ((0 : Int64), st)) fun (qf3 qi4 : Nat) =>
   (fX9_isOne a3 a4).bind (fun (v5 : Int32) =>
    if v5 = 0 then (
     some ((0 : Int64), st)) else (
     if a5 < 0 then (
      some ((0 : Int64), st)) else (
      if a5 < (3 : Int32) then (
       (fX9_aim a3 a4 st).bind (fun (t10 : Sto) =>
        (fX9_coloursOf qf3 qi4 t10).bind (un2 fun (v12 : (Nat × Nat)) (t13 : Sto) => un2 (fun (qf15 qi16 : Nat) =>
          ck (0 ≤ a5.toInt ∧ a5.toInt < (lDX qf15 qi16 : Int)) (
           (fX7_doubleBits (gD t13 qf15 qi16 (a5.toNatClampNeg))).bind (fun (v17 : Int64) =>
            some (v17, t13)))) v12))) else (
       some ((0 : Int64), st))))))
set_option maxHeartbeats 4000000 in
set_option maxRecDepth 100000 in
theorem mX11_colour (l : Launch) (E : XE) (hL : LX E) (st : Sto) {a1 : Int32} {a2 : Int32} {a3 : Int32} {a4 : Int32} {a5 : Int32} {r : Int64} {st1 : Sto} (h : fX11_colour a1 a2 a3 a4 a5 st = some (r, st1)) : Met l yX11_colour wsX11_colour ({ frames := 4, cells := 0, slots := 0, locals := 109 }) (va_Pc [.ref (E.2.2.1 0 (0)), .int a1, .int a2, .int a3, .int a4, .int a5] (RX E st)) (QX E (some (.long r)) st1) 0 0 E.2.2.2 := by
  refine Met.ofW (cc := cX11_colour) (maxL := 7) (ret := (some .long)) (by decide) rfl ?_
  intro p e s m args below meth c s₁ B hml hv
  obtain ⟨rfl, hP, hK⟩ := hv
  have hown : s.vm.findClass RX11 = some m.cls := findClass_of_methodNamed B.named
  have C0 : CX p m c cX11_colour 7 s _ wsX11_colour RX11 E := ⟨⟨B.exec, B.bytes, hml, hown, atoms_spec (ws := wsX11_colour) B.pre⟩, hK⟩
  have hx := B.exec
  have hb := B.bytes
  have hr := B.returns
  have hlocks := B.notSynchronized
  have hw : SX E s st s.heap [] := ⟨hP, va_S.rf⟩
  have hl := lv_entry ([.ref (E.2.2.1 0 (0)), .int a1, .int a2, .int a3, .int a4, .int a5]) (n := 7) (Nat.le_of_ble_eq_true rfl)
  rw [lg_entry_eq]
  generalize (lg_sl ([.ref (E.2.2.1 0 (0)), .int a1, .int a2, .int a3, .int a4, .int a5]) ++ List.replicate (7 - (lg_sl ([.ref (E.2.2.1 0 (0)), .int a1, .int a2, .int a3, .int a4, .int a5])).length) Slot.unset).toArray = ls at hl ⊢
  have hl : lv_has ls 7 [(0, .ref (E.2.2.1 0 (0))), (1, .int a1), (2, .int a2), (3, .int a3), (4, .int a4), (5, .int a5)] := hl
  unfold fX11_colour at h
  refine lv_aload_n hx hb dX11_colour_0 rfl (lv_at hl 0 rfl) ?_
  refine lv_iload_n hx hb dX11_colour_1 rfl (lv_at hl 1 rfl) ?_
  refine lv_iload_n hx hb dX11_colour_2 rfl (lv_at hl 2 rfl) ?_
  obtain ⟨v1, hf2, h⟩ := bn_c h
  refine X_callV C0 hw (As := [.int a1, .int a2]) (rest := []) (mX11_spectrumOf l E hL st hf2) (cwV 2 C0.1.2.2.2.2 gX11_colour_X11_spectrumOf rfl rfl rfl (by decide +kernel) ⟨Nat.le_of_ble_eq_true rfl, Nat.le_of_ble_eq_true rfl⟩) (X_recv_0 C0 hw (by decide)) rfl hl.1 rfl (Nat.le_of_ble_eq_true rfl) dX11_colour_3 ⟨Nat.zero_le _, Nat.zero_le _⟩ (fun H locs hw => ?_)
  rcases v1 with _ | ⟨qf3, qi4⟩
  · have h := oq_n h
    refine W.eq (g2 := F0 m 6 ls (.null :: [])) rfl ?_
    refine lv_astoreN (lv' := [(6, .null), (0, .ref (E.2.2.1 0 (0))), (1, .int a1), (2, .int a2), (3, .int a3), (4, .int a4), (5, .int a5)]) hx hb dX11_colour_6 hl (by decide) rfl (fun ls hl => ?_)
    refine lv_aloadN hx hb dX11_colour_8 (lv_at hl 0 rfl) ?_
    refine lv_ifnullN (tgt := 33) hx hb dX11_colour_10 (by decide) ?_
    refine lv_lconst (v := 0) hx hb dX11_colour_33 (by decide) ?_
    cases h
    exact W.lret hx hb hr (X_fin C0 hw) hw.2.2.2 dX11_colour_34 hlocks
  · have h := oq_s h
    refine W.eq (g2 := F0 m 6 ls (.ref (E.2.2.1 qf3 qi4) :: [])) rfl ?_
    refine lv_astore (lv' := [(6, .ref (E.2.2.1 qf3 qi4)), (0, .ref (E.2.2.1 0 (0))), (1, .int a1), (2, .int a2), (3, .int a3), (4, .int a4), (5, .int a5)]) hx hb dX11_colour_6 hl (by decide) rfl (fun ls hl => ?_)
    refine lv_aload hx hb dX11_colour_8 (lv_at hl 0 rfl) ?_
    refine lv_ifnull hx hb dX11_colour_10 ?_
    refine lv_iload_n hx hb dX11_colour_13 rfl (lv_at hl 4 rfl) ?_
    refine lv_iload hx hb dX11_colour_14 (lv_at hl 5 rfl) ?_
    obtain ⟨v5, hf6, h⟩ := bn_c h
    refine X_callS C0 hw (As := [.int a3, .int a4]) (rest := []) (mX9_isOne l E hL st hf6) (va_cwS 2 C0.1.2.2.2.2 gX11_colour_X9_isOne rfl rfl rfl (by decide +kernel) ⟨Nat.le_of_ble_eq_true rfl, Nat.le_of_ble_eq_true rfl⟩) rfl hl.1 rfl (Nat.le_of_ble_eq_true rfl) dX11_colour_16 ⟨Nat.zero_le _, Nat.zero_le _⟩ (fun H locs hw => ?_)
    refine W.eq (g2 := F0 m 19 ls [.int v5]) rfl ?_
    refine lv_if_eq (tgt := 33) hx hb dX11_colour_19 (by decide) (fun hc7 => ?_) (fun hc7 => ?_)
    · have h := ifp h hc7
      refine lv_lconst (v := 0) hx hb dX11_colour_33 (by decide) ?_
      cases h
      exact W.lret hx hb hr (X_fin C0 hw) hw.2.2.2 dX11_colour_34 hlocks
    · have h := ifn h hc7
      refine lv_iload hx hb dX11_colour_22 (lv_at hl 6 rfl) ?_
      refine lv_if_lt (tgt := 33) hx hb dX11_colour_24 (by decide) (fun hc8 => ?_) (fun hc8 => ?_)
      · have h := ifp h hc8
        refine lv_lconst (v := 0) hx hb dX11_colour_33 (by decide) ?_
        cases h
        exact W.lret hx hb hr (X_fin C0 hw) hw.2.2.2 dX11_colour_34 hlocks
      · have h := ifn h hc8
        refine lv_iload hx hb dX11_colour_27 (lv_at hl 6 rfl) ?_
        refine lv_iconst (v := 3) hx hb dX11_colour_29 (by decide) ?_
        refine lv_icmp_lt (tgt := 35) hx hb dX11_colour_30 (by decide) (fun hc9 => ?_) (fun hc9 => ?_)
        · have h := ifp h hc9
          refine lv_aload_n hx hb dX11_colour_35 rfl (lv_at hl 1 rfl) ?_
          refine X_g0_12 C0 hw (fun w h => (List.mem_cons_of_mem _ (List.mem_append_left _ (List.mem_append_left _ (List.mem_append_left _ (List.mem_append_right _ h)))))) (by decide) ((List.mem_cons_of_mem _ (List.mem_append_left _ (List.mem_append_left _ (List.mem_append_left _ (List.mem_append_left _ (List.mem_append_left _ (List.mem_of_getElem? (i := 0) rfl)))))))) dX11_colour_36 ?_
          refine lv_iload_n hx hb dX11_colour_39 rfl (lv_at hl 4 rfl) ?_
          refine lv_iload hx hb dX11_colour_40 (lv_at hl 5 rfl) ?_
          obtain ⟨t10, hf11, h⟩ := bn_c h
          refine X_callV C0 hw (As := [.int a3, .int a4]) (rest := []) (mX9_aim l E hL st hf11) (cwV 2 C0.1.2.2.2.2 gX11_colour_X9_aim rfl rfl rfl (by decide +kernel) ⟨Nat.le_of_ble_eq_true rfl, Nat.le_of_ble_eq_true rfl⟩) (X_recv_13 C0 hw (by decide)) rfl hl.1 rfl (Nat.le_of_ble_eq_true rfl) dX11_colour_42 ⟨Nat.zero_le _, Nat.zero_le _⟩ (fun H locs hw => ?_)
          refine W.eq (g2 := F0 m 45 ls []) rfl ?_
          refine lv_aload_n hx hb dX11_colour_45 rfl (lv_at hl 1 rfl) ?_
          refine X_g0_12 C0 hw (fun w h => (List.mem_cons_of_mem _ (List.mem_append_left _ (List.mem_append_left _ (List.mem_append_left _ (List.mem_append_right _ h)))))) (by decide) ((List.mem_cons_of_mem _ (List.mem_append_left _ (List.mem_append_left _ (List.mem_append_left _ (List.mem_append_left _ (List.mem_append_left _ (List.mem_of_getElem? (i := 0) rfl)))))))) dX11_colour_46 ?_
          refine lv_aload hx hb dX11_colour_49 (lv_at hl 0 rfl) ?_
          obtain ⟨⟨v12, t13⟩, hf14, h⟩ := bn_c h
          have h := un2_d h
          refine X_callV C0 hw (As := [.ref (E.2.2.1 qf3 qi4)]) (rest := []) (mX9_coloursOf l E hL t10 hf14) (cwV 1 C0.1.2.2.2.2 gX11_colour_X9_coloursOf rfl rfl rfl (by decide +kernel) ⟨Nat.le_of_ble_eq_true rfl, Nat.le_of_ble_eq_true rfl⟩) (X_recv_13 C0 hw (by decide)) rfl hl.1 rfl (Nat.le_of_ble_eq_true rfl) dX11_colour_51 ⟨Nat.zero_le _, Nat.zero_le _⟩ (fun H locs hw => ?_)
          obtain ⟨qf15, qi16⟩ := v12
          have h := un2_d h
          refine W.eq (g2 := F0 m 54 ls (.ref (E.2.2.1 qf15 qi16) :: [])) rfl ?_
          refine lv_iload hx hb dX11_colour_54 (lv_at hl 6 rfl) ?_
          refine X_dald C0 hw h (k := a5.toNatClampNeg) rfl dX11_colour_56 (fun h => ?_)
          obtain ⟨v17, hf18, h⟩ := bn_c h
          refine X_callS C0 hw (As := [.double (gD t13 qf15 qi16 (a5.toNatClampNeg))]) (rest := []) (mX7_doubleBits l E hL t13 hf18) (va_cwS 1 C0.1.2.2.2.2 gX11_colour_X7_doubleBits rfl rfl rfl (by decide +kernel) ⟨Nat.le_of_ble_eq_true rfl, Nat.le_of_ble_eq_true rfl⟩) rfl hl.1 rfl (Nat.le_of_ble_eq_true rfl) dX11_colour_57 ⟨Nat.zero_le _, Nat.zero_le _⟩ (fun H locs hw => ?_)
          refine W.eq (g2 := F0 m 60 ls [.long v17]) rfl ?_
          cases h
          exact W.lret hx hb hr (X_fin C0 hw) hw.2.2.2 dX11_colour_60 hlocks
        · have h := ifn h hc9
          refine lv_lconst (v := 0) hx hb dX11_colour_33 (by decide) ?_
          cases h
          exact W.lret hx hb hr (X_fin C0 hw) hw.2.2.2 dX11_colour_34 hlocks

def fX11_chipGap (a1 : Int32) (a2 : Int32) (a3 : Int32) (a4 : Int32) (st : Sto) : Option (UInt64 × Sto) :=
  (fX9_aim a3 a4 st).bind (fun (t1 : Sto) =>
   ck (0 ≤ a1.toInt ∧ a1.toInt < (40 : Int)) (
    (fX9_setGoal (20) (a1.toNatClampNeg) t1).bind (fun (t4 : Sto) =>
     ck (0 ≤ a2.toInt ∧ a2.toInt < (40 : Int)) (
      (fX9_gapTo (20) (a2.toNatClampNeg) t4).bind (un2 fun (v7 : UInt64) (t8 : Sto) =>
       some (v7, t8))))))
set_option maxHeartbeats 4000000 in
set_option maxRecDepth 100000 in
theorem mX11_chipGap (l : Launch) (E : XE) (hL : LX E) (st : Sto) {a1 : Int32} {a2 : Int32} {a3 : Int32} {a4 : Int32} {r : UInt64} {st1 : Sto} (h : fX11_chipGap a1 a2 a3 a4 st = some (r, st1)) : Met l yX11_chipGap wsX11_chipGap ({ frames := 5, cells := 0, slots := 0, locals := 136 }) (va_Pc [.ref (E.2.2.1 0 (0)), .int a1, .int a2, .int a3, .int a4] (RX E st)) (QX E (some (.double r)) st1) 0 0 E.2.2.2 := by
  refine Met.ofW (cc := cX11_chipGap) (maxL := 5) (ret := (some .double)) (by decide) rfl ?_
  intro p e s m args below meth c s₁ B hml hv
  obtain ⟨rfl, hP, hK⟩ := hv
  have hown : s.vm.findClass RX11 = some m.cls := findClass_of_methodNamed B.named
  have C0 : CX p m c cX11_chipGap 5 s _ wsX11_chipGap RX11 E := ⟨⟨B.exec, B.bytes, hml, hown, atoms_spec (ws := wsX11_chipGap) B.pre⟩, hK⟩
  have hx := B.exec
  have hb := B.bytes
  have hr := B.returns
  have hlocks := B.notSynchronized
  have hw : SX E s st s.heap [] := ⟨hP, va_S.rf⟩
  have hl := lv_entry ([.ref (E.2.2.1 0 (0)), .int a1, .int a2, .int a3, .int a4]) (n := 5) (Nat.le_of_ble_eq_true rfl)
  rw [lg_entry_eq]
  generalize (lg_sl ([.ref (E.2.2.1 0 (0)), .int a1, .int a2, .int a3, .int a4]) ++ List.replicate (5 - (lg_sl ([.ref (E.2.2.1 0 (0)), .int a1, .int a2, .int a3, .int a4])).length) Slot.unset).toArray = ls at hl ⊢
  have hl : lv_has ls 5 [(0, .ref (E.2.2.1 0 (0))), (1, .int a1), (2, .int a2), (3, .int a3), (4, .int a4)] := hl
  unfold fX11_chipGap at h
  refine lv_aload_n hx hb dX11_chipGap_0 rfl (lv_at hl 0 rfl) ?_
  refine X_g0_12 C0 hw (fun w h => (List.mem_cons_of_mem _ (List.mem_append_left _ (List.mem_append_left _ (List.mem_append_right _ h))))) (by decide) ((List.mem_cons_of_mem _ (List.mem_append_left _ (List.mem_append_left _ (List.mem_append_left _ (List.mem_append_left _ (List.mem_of_getElem? (i := 0) rfl))))))) dX11_chipGap_1 ?_
  refine lv_iload_n hx hb dX11_chipGap_4 rfl (lv_at hl 3 rfl) ?_
  refine lv_iload hx hb dX11_chipGap_5 (lv_at hl 4 rfl) ?_
  obtain ⟨t1, hf2, h⟩ := bn_c h
  refine X_callV C0 hw (As := [.int a3, .int a4]) (rest := []) (mX9_aim l E hL st hf2) (cwV 2 C0.1.2.2.2.2 gX11_chipGap_X9_aim rfl rfl rfl (by decide +kernel) ⟨Nat.le_of_ble_eq_true rfl, Nat.le_of_ble_eq_true rfl⟩) (X_recv_13 C0 hw (by decide)) rfl hl.1 rfl (Nat.le_of_ble_eq_true rfl) dX11_chipGap_7 ⟨Nat.zero_le _, Nat.zero_le _⟩ (fun H locs hw => ?_)
  refine W.eq (g2 := F0 m 10 ls []) rfl ?_
  refine lv_aload_n hx hb dX11_chipGap_10 rfl (lv_at hl 0 rfl) ?_
  refine X_g0_12 C0 hw (fun w h => (List.mem_cons_of_mem _ (List.mem_append_left _ (List.mem_append_left _ (List.mem_append_right _ h))))) (by decide) ((List.mem_cons_of_mem _ (List.mem_append_left _ (List.mem_append_left _ (List.mem_append_left _ (List.mem_append_left _ (List.mem_of_getElem? (i := 0) rfl))))))) dX11_chipGap_11 ?_
  refine lv_aload_n hx hb dX11_chipGap_14 rfl (lv_at hl 0 rfl) ?_
  refine X_g0_4 C0 hw (fun w h => (List.mem_cons_of_mem _ (List.mem_append_left _ (List.mem_append_left _ (List.mem_append_right _ h))))) (by decide) ((List.mem_cons_of_mem _ (List.mem_append_left _ (List.mem_append_left _ (List.mem_append_left _ (List.mem_append_left _ (List.mem_of_getElem? (i := 1) rfl))))))) dX11_chipGap_15 ?_
  refine lv_iload_n hx hb dX11_chipGap_18 rfl (lv_at hl 1 rfl) ?_
  refine X_ald_4 C0 hw (by decide) h (k := a1.toNatClampNeg) rfl dX11_chipGap_19 (fun hk3 h => ?_)
  refine X_g19_0 C0 hw (fun w h => (List.mem_cons_of_mem _ (List.mem_append_left _ (List.mem_append_right _ h)))) hk3 ((List.mem_cons_of_mem _ (List.mem_append_left _ (List.mem_append_left _ (List.mem_append_left _ (List.mem_append_left _ (List.mem_of_getElem? (i := 2) rfl))))))) dX11_chipGap_20 ?_
  obtain ⟨t4, hf5, h⟩ := bn_c h
  refine X_callV C0 hw (As := [.ref (E.2.2.1 (20) (a1.toNatClampNeg))]) (rest := []) (mX9_setGoal l E hL t1 hf5) (cwV 1 C0.1.2.2.2.2 gX11_chipGap_X9_setGoal rfl rfl rfl (by decide +kernel) ⟨Nat.le_of_ble_eq_true rfl, Nat.le_of_ble_eq_true rfl⟩) (X_recv_13 C0 hw (by decide)) rfl hl.1 rfl (Nat.le_of_ble_eq_true rfl) dX11_chipGap_23 ⟨Nat.zero_le _, Nat.zero_le _⟩ (fun H locs hw => ?_)
  refine W.eq (g2 := F0 m 26 ls []) rfl ?_
  refine lv_aload_n hx hb dX11_chipGap_26 rfl (lv_at hl 0 rfl) ?_
  refine X_g0_12 C0 hw (fun w h => (List.mem_cons_of_mem _ (List.mem_append_left _ (List.mem_append_left _ (List.mem_append_right _ h))))) (by decide) ((List.mem_cons_of_mem _ (List.mem_append_left _ (List.mem_append_left _ (List.mem_append_left _ (List.mem_append_left _ (List.mem_of_getElem? (i := 0) rfl))))))) dX11_chipGap_27 ?_
  refine lv_aload_n hx hb dX11_chipGap_30 rfl (lv_at hl 0 rfl) ?_
  refine X_g0_4 C0 hw (fun w h => (List.mem_cons_of_mem _ (List.mem_append_left _ (List.mem_append_left _ (List.mem_append_right _ h))))) (by decide) ((List.mem_cons_of_mem _ (List.mem_append_left _ (List.mem_append_left _ (List.mem_append_left _ (List.mem_append_left _ (List.mem_of_getElem? (i := 1) rfl))))))) dX11_chipGap_31 ?_
  refine lv_iload_n hx hb dX11_chipGap_34 rfl (lv_at hl 2 rfl) ?_
  refine X_ald_4 C0 hw (by decide) h (k := a2.toNatClampNeg) rfl dX11_chipGap_35 (fun hk6 h => ?_)
  refine X_g19_0 C0 hw (fun w h => (List.mem_cons_of_mem _ (List.mem_append_left _ (List.mem_append_right _ h)))) hk6 ((List.mem_cons_of_mem _ (List.mem_append_left _ (List.mem_append_left _ (List.mem_append_left _ (List.mem_append_left _ (List.mem_of_getElem? (i := 2) rfl))))))) dX11_chipGap_36 ?_
  obtain ⟨⟨v7, t8⟩, hf9, h⟩ := bn_c h
  have h := un2_d h
  refine X_callV C0 hw (As := [.ref (E.2.2.1 (20) (a2.toNatClampNeg))]) (rest := []) (mX9_gapTo l E hL t4 hf9) (cwV 1 C0.1.2.2.2.2 gX11_chipGap_X9_gapTo rfl rfl rfl (by decide +kernel) ⟨Nat.le_of_ble_eq_true rfl, Nat.le_of_ble_eq_true rfl⟩) (X_recv_13 C0 hw (by decide)) rfl hl.1 rfl (Nat.le_of_ble_eq_true rfl) dX11_chipGap_39 ⟨Nat.zero_le _, Nat.zero_le _⟩ (fun H locs hw => ?_)
  refine W.eq (g2 := F0 m 42 ls [.double v7]) rfl ?_
  cases h
  exact W.dret hx hb hr (X_fin C0 hw) hw.2.2.2 dX11_chipGap_42 hlocks

def fX11_distance (a1 : Int32) (a2 : Int32) (a3 : Int32) (a4 : Int32) (st : Sto) : Option (Int64 × Sto) :=
  (fX11_isThere (0 : Int32) a1 st).bind (fun (v1 : Int32) =>
   if v1 = 0 then (
    some ((-1 : Int64), st)) else (
    (fX11_isThere (0 : Int32) a2 st).bind (fun (v4 : Int32) =>
     if v4 = 0 then (
      some ((-1 : Int64), st)) else (
      (fX9_isOne a3 a4).bind (fun (v7 : Int32) =>
       if v7 = 0 then (
        some ((-1 : Int64), st)) else (
        (fX11_chipGap a1 a2 a3 a4 st).bind (un2 fun (v10 : UInt64) (t11 : Sto) =>
         (fX7_doubleBits v10).bind (fun (v13 : Int64) =>
          some (v13, t11)))))))))
set_option maxHeartbeats 4000000 in
set_option maxRecDepth 100000 in
theorem mX11_distance (l : Launch) (E : XE) (hL : LX E) (st : Sto) {a1 : Int32} {a2 : Int32} {a3 : Int32} {a4 : Int32} {r : Int64} {st1 : Sto} (h : fX11_distance a1 a2 a3 a4 st = some (r, st1)) : Met l yX11_distance wsX11_distance ({ frames := 6, cells := 0, slots := 0, locals := 160 }) (va_Pc [.ref (E.2.2.1 0 (0)), .int a1, .int a2, .int a3, .int a4] (RX E st)) (QX E (some (.long r)) st1) 0 0 E.2.2.2 := by
  refine Met.ofW (cc := cX11_distance) (maxL := 5) (ret := (some .long)) (by decide) rfl ?_
  intro p e s m args below meth c s₁ B hml hv
  obtain ⟨rfl, hP, hK⟩ := hv
  have hown : s.vm.findClass RX11 = some m.cls := findClass_of_methodNamed B.named
  have C0 : CX p m c cX11_distance 5 s _ wsX11_distance RX11 E := ⟨⟨B.exec, B.bytes, hml, hown, atoms_spec (ws := wsX11_distance) B.pre⟩, hK⟩
  have hx := B.exec
  have hb := B.bytes
  have hr := B.returns
  have hlocks := B.notSynchronized
  have hw : SX E s st s.heap [] := ⟨hP, va_S.rf⟩
  have hl := lv_entry ([.ref (E.2.2.1 0 (0)), .int a1, .int a2, .int a3, .int a4]) (n := 5) (Nat.le_of_ble_eq_true rfl)
  rw [lg_entry_eq]
  generalize (lg_sl ([.ref (E.2.2.1 0 (0)), .int a1, .int a2, .int a3, .int a4]) ++ List.replicate (5 - (lg_sl ([.ref (E.2.2.1 0 (0)), .int a1, .int a2, .int a3, .int a4])).length) Slot.unset).toArray = ls at hl ⊢
  have hl : lv_has ls 5 [(0, .ref (E.2.2.1 0 (0))), (1, .int a1), (2, .int a2), (3, .int a3), (4, .int a4)] := hl
  unfold fX11_distance at h
  refine lv_aload_n hx hb dX11_distance_0 rfl (lv_at hl 0 rfl) ?_
  refine lv_iconst (v := 0) hx hb dX11_distance_1 (by decide) ?_
  refine lv_iload_n hx hb dX11_distance_2 rfl (lv_at hl 1 rfl) ?_
  obtain ⟨v1, hf2, h⟩ := bn_c h
  refine X_callV C0 hw (As := [.int (0 : Int32), .int a1]) (rest := []) (mX11_isThere l E hL st hf2) (cwV 2 C0.1.2.2.2.2 gX11_distance_X11_isThere rfl rfl rfl (by decide +kernel) ⟨Nat.le_of_ble_eq_true rfl, Nat.le_of_ble_eq_true rfl⟩) (X_recv_0 C0 hw (by decide)) rfl hl.1 rfl (Nat.le_of_ble_eq_true rfl) dX11_distance_3 ⟨Nat.zero_le _, Nat.zero_le _⟩ (fun H locs hw => ?_)
  refine W.eq (g2 := F0 m 6 ls [.int v1]) rfl ?_
  refine lv_if_eq (tgt := 27) hx hb dX11_distance_6 (by decide) (fun hc3 => ?_) (fun hc3 => ?_)
  · have h := ifp h hc3
    refine lv_ldc2 hx hb hown (C0.1.2.2.2.2 _ (List.mem_cons_of_mem _ (List.mem_append_left _ (List.mem_append_left _ (List.mem_append_left _ (List.mem_append_left _ (List.mem_of_getElem? (i := 0) rfl))))))) dX11_distance_27 ?_
    cases h
    exact W.lret hx hb hr (X_fin C0 hw) hw.2.2.2 dX11_distance_30 hlocks
  · have h := ifn h hc3
    refine lv_aload_n hx hb dX11_distance_9 rfl (lv_at hl 0 rfl) ?_
    refine lv_iconst (v := 0) hx hb dX11_distance_10 (by decide) ?_
    refine lv_iload_n hx hb dX11_distance_11 rfl (lv_at hl 2 rfl) ?_
    obtain ⟨v4, hf5, h⟩ := bn_c h
    refine X_callV C0 hw (As := [.int (0 : Int32), .int a2]) (rest := []) (mX11_isThere l E hL st hf5) (cwV 2 C0.1.2.2.2.2 gX11_distance_X11_isThere rfl rfl rfl (by decide +kernel) ⟨Nat.le_of_ble_eq_true rfl, Nat.le_of_ble_eq_true rfl⟩) (X_recv_0 C0 hw (by decide)) rfl hl.1 rfl (Nat.le_of_ble_eq_true rfl) dX11_distance_12 ⟨Nat.zero_le _, Nat.zero_le _⟩ (fun H locs hw => ?_)
    refine W.eq (g2 := F0 m 15 ls [.int v4]) rfl ?_
    refine lv_if_eq (tgt := 27) hx hb dX11_distance_15 (by decide) (fun hc6 => ?_) (fun hc6 => ?_)
    · have h := ifp h hc6
      refine lv_ldc2 hx hb hown (C0.1.2.2.2.2 _ (List.mem_cons_of_mem _ (List.mem_append_left _ (List.mem_append_left _ (List.mem_append_left _ (List.mem_append_left _ (List.mem_of_getElem? (i := 0) rfl))))))) dX11_distance_27 ?_
      cases h
      exact W.lret hx hb hr (X_fin C0 hw) hw.2.2.2 dX11_distance_30 hlocks
    · have h := ifn h hc6
      refine lv_iload_n hx hb dX11_distance_18 rfl (lv_at hl 3 rfl) ?_
      refine lv_iload hx hb dX11_distance_19 (lv_at hl 4 rfl) ?_
      obtain ⟨v7, hf8, h⟩ := bn_c h
      refine X_callS C0 hw (As := [.int a3, .int a4]) (rest := []) (mX9_isOne l E hL st hf8) (va_cwS 2 C0.1.2.2.2.2 gX11_distance_X9_isOne rfl rfl rfl (by decide +kernel) ⟨Nat.le_of_ble_eq_true rfl, Nat.le_of_ble_eq_true rfl⟩) rfl hl.1 rfl (Nat.le_of_ble_eq_true rfl) dX11_distance_21 ⟨Nat.zero_le _, Nat.zero_le _⟩ (fun H locs hw => ?_)
      refine W.eq (g2 := F0 m 24 ls [.int v7]) rfl ?_
      refine lv_if_ne (tgt := 31) hx hb dX11_distance_24 (by decide) (fun hc9 => ?_) (fun hc9 => ?_)
      · have h := ifn h hc9
        refine lv_aload_n hx hb dX11_distance_31 rfl (lv_at hl 0 rfl) ?_
        refine lv_iload_n hx hb dX11_distance_32 rfl (lv_at hl 1 rfl) ?_
        refine lv_iload_n hx hb dX11_distance_33 rfl (lv_at hl 2 rfl) ?_
        refine lv_iload_n hx hb dX11_distance_34 rfl (lv_at hl 3 rfl) ?_
        refine lv_iload hx hb dX11_distance_35 (lv_at hl 4 rfl) ?_
        obtain ⟨⟨v10, t11⟩, hf12, h⟩ := bn_c h
        have h := un2_d h
        refine X_callV C0 hw (As := [.int a1, .int a2, .int a3, .int a4]) (rest := []) (mX11_chipGap l E hL st hf12) (cwV 4 C0.1.2.2.2.2 gX11_distance_X11_chipGap rfl rfl rfl (by decide +kernel) ⟨Nat.le_of_ble_eq_true rfl, Nat.le_of_ble_eq_true rfl⟩) (X_recv_0 C0 hw (by decide)) rfl hl.1 rfl (Nat.le_of_ble_eq_true rfl) dX11_distance_37 ⟨Nat.zero_le _, Nat.zero_le _⟩ (fun H locs hw => ?_)
        refine W.eq (g2 := F0 m 40 ls [.double v10]) rfl ?_
        obtain ⟨v13, hf14, h⟩ := bn_c h
        refine X_callS C0 hw (As := [.double v10]) (rest := []) (mX7_doubleBits l E hL t11 hf14) (va_cwS 1 C0.1.2.2.2.2 gX11_distance_X7_doubleBits rfl rfl rfl (by decide +kernel) ⟨Nat.le_of_ble_eq_true rfl, Nat.le_of_ble_eq_true rfl⟩) rfl hl.1 rfl (Nat.le_of_ble_eq_true rfl) dX11_distance_40 ⟨Nat.zero_le _, Nat.zero_le _⟩ (fun H locs hw => ?_)
        refine W.eq (g2 := F0 m 43 ls [.long v13]) rfl ?_
        cases h
        exact W.lret hx hb hr (X_fin C0 hw) hw.2.2.2 dX11_distance_43 hlocks
      · have h := ifp h hc9
        refine lv_ldc2 hx hb hown (C0.1.2.2.2.2 _ (List.mem_cons_of_mem _ (List.mem_append_left _ (List.mem_append_left _ (List.mem_append_left _ (List.mem_append_left _ (List.mem_of_getElem? (i := 0) rfl))))))) dX11_distance_27 ?_
        cases h
        exact W.lret hx hb hr (X_fin C0 hw) hw.2.2.2 dX11_distance_30 hlocks

def fX11_nearerThan (a1 : Int32) (st : Sto) : Option Int32 :=
  ((lp (σ := (Int32 × Int32)) (ρ := Int32) (un2 fun (v4 : Int32) (v5 : Int32) =>
     if gI st (3) (0) (0) ≤ v4 then (
      some (.inr v5)) else (
      ck (0 ≤ v4.toInt ∧ v4.toInt < (lDX (14) (0) : Int)) (
       ck (0 ≤ a1.toInt ∧ a1.toInt < (lDX (14) (0) : Int)) (
        if Op.cmpValue (FP.dcmp (gD st (14) (0) (v4.toNatClampNeg)) (gD st (14) (0) (a1.toNatClampNeg))) CmpOp.g < 0 then (
         lt1 (v5 + Int32.ofInt (1)) fun (v9 : Int32) =>
         lt1 (v4 + Int32.ofInt (1)) fun (v10 : Int32) =>
         some (.inl (v10, v9))) else (
         ck (0 ≤ v4.toInt ∧ v4.toInt < (lDX (14) (0) : Int)) (
          ck (0 ≤ a1.toInt ∧ a1.toInt < (lDX (14) (0) : Int)) (
           if Op.cmpValue (FP.dcmp (gD st (14) (0) (v4.toNatClampNeg)) (gD st (14) (0) (a1.toNatClampNeg))) CmpOp.l = 0 then (
            if a1 ≤ v4 then (
             lt1 (v4 + Int32.ofInt (1)) fun (v14 : Int32) =>
             some (.inl (v14, v5))) else (
             lt1 (v5 + Int32.ofInt (1)) fun (v15 : Int32) =>
             lt1 (v4 + Int32.ofInt (1)) fun (v16 : Int32) =>
             some (.inl (v16, v15)))) else (
            lt1 (v4 + Int32.ofInt (1)) fun (v12 : Int32) =>
            some (.inl (v12, v5)))))))))) 4000 ((0 : Int32), (0 : Int32))).bind
   (fun (v6 : Int32) =>
    some v6))
set_option maxHeartbeats 4000000 in
set_option maxRecDepth 100000 in
theorem mX11_nearerThan (l : Launch) (E : XE) (hL : LX E) (st : Sto) {a1 : Int32} {r : Int32} (h : fX11_nearerThan a1 st = some r) : Met l yX11_nearerThan wsX11_nearerThan ({ frames := 0, cells := 0, slots := 0, locals := 0 }) (va_Pc [.ref (E.2.2.1 0 (0)), .int a1] (RX E st)) (QX E (some (.int r)) st) 0 0 E.2.2.2 := by
  refine Met.ofW (cc := cX11_nearerThan) (maxL := 4) (ret := (some .int)) (by decide) rfl ?_
  intro p e s m args below meth c s₁ B hml hv
  obtain ⟨rfl, hP, hK⟩ := hv
  have hown : s.vm.findClass RX11 = some m.cls := findClass_of_methodNamed B.named
  have C0 : CX p m c cX11_nearerThan 4 s _ wsX11_nearerThan RX11 E := ⟨⟨B.exec, B.bytes, hml, hown, atoms_spec (ws := wsX11_nearerThan) B.pre⟩, hK⟩
  have hx := B.exec
  have hb := B.bytes
  have hr := B.returns
  have hlocks := B.notSynchronized
  have hw : SX E s st s.heap [] := ⟨hP, va_S.rf⟩
  have hl := lv_entry ([.ref (E.2.2.1 0 (0)), .int a1]) (n := 4) (Nat.le_of_ble_eq_true rfl)
  rw [lg_entry_eq]
  generalize (lg_sl ([.ref (E.2.2.1 0 (0)), .int a1]) ++ List.replicate (4 - (lg_sl ([.ref (E.2.2.1 0 (0)), .int a1])).length) Slot.unset).toArray = ls at hl ⊢
  have hl : lv_has ls 4 [(0, .ref (E.2.2.1 0 (0))), (1, .int a1)] := hl
  unfold fX11_nearerThan at h
  refine lv_iconst (v := 0) hx hb dX11_nearerThan_0 (by decide) ?_
  refine lv_istore_n (lv' := [(2, .int (0 : Int32)), (0, .ref (E.2.2.1 0 (0))), (1, .int a1)]) hx hb dX11_nearerThan_1 rfl hl (by decide) rfl (fun ls hl => ?_)
  refine lv_iconst (v := 0) hx hb dX11_nearerThan_2 (by decide) ?_
  refine lv_istore_n (lv' := [(3, .int (0 : Int32)), (2, .int (0 : Int32)), (0, .ref (E.2.2.1 0 (0))), (1, .int a1)]) hx hb dX11_nearerThan_3 rfl hl (by decide) rfl (fun ls hl => ?_)
  refine lp_ind (fun q : (Int32 × Int32) => ∀ (H : Heap) (locs : List Loc), SX E s st H locs → ∀ ls : Array Slot, lv_has ls 4 [(3, .int (q.1)), (2, .int (q.2)), (0, .ref (E.2.2.1 0 (0))), (1, .int a1)] → W p l e (headSpec wsX11_nearerThan ({ frames := 0, cells := 0, slots := 0, locals := 0 })).room s m ([.ref (E.2.2.1 0 (0)), .int a1] : List Value).toArray below meth c H locs 0 0 (MQ below (QX E (some (.int r)) st) ([.ref (E.2.2.1 0 (0)), .int a1] : List Value).toArray s 0 0 E.2.2.2) (F0 m 4 ls [])) (fun q o3 h hB2 hX1 => ?_) _ _ h _ _ hw _ (lv_sub hl [0, 1, 2, 3] rfl)
  intro H locs hw ls hl
  obtain ⟨v4, v5⟩ := q
  have h := un2_d h
  have hl : lv_has ls 4 [(3, .int v4), (2, .int v5), (0, .ref (E.2.2.1 0 (0))), (1, .int a1)] := hl
  refine lv_iload_n hx hb dX11_nearerThan_4 rfl (lv_at hl 0 rfl) ?_
  refine lv_aload_n hx hb dX11_nearerThan_5 rfl (lv_at hl 2 rfl) ?_
  refine X_g0_3 C0 hw (fun w h => (List.mem_cons_of_mem _ (List.mem_append_right _ h))) (by decide) ((List.mem_cons_of_mem _ (List.mem_append_left _ (List.mem_of_getElem? (i := 0) rfl)))) dX11_nearerThan_6 ?_
  refine lv_iconst (v := 0) hx hb dX11_nearerThan_9 (by decide) ?_
  refine X_ialdL C0 hw (vp_in_iff.mpr (by decide +kernel)) (k := 0) rfl dX11_nearerThan_10 ?_
  refine lv_icmp_ge (tgt := 60) hx hb dX11_nearerThan_11 (by decide) (fun hc7 => ?_) (fun hc7 => ?_)
  · have h := ifp h hc7
    have h := hX1 _ (Option.some.inj h).symm
    have hl := lv_sub hl (l' := [(2, .int v5)]) [1] rfl
    refine lv_iload_n hx hb dX11_nearerThan_60 rfl (lv_at hl 0 rfl) ?_
    cases h
    exact W.iret hx hb hr (X_fin C0 hw) hw.2.2.2 dX11_nearerThan_61 hlocks
  · have h := ifn h hc7
    refine lv_aload_n hx hb dX11_nearerThan_14 rfl (lv_at hl 2 rfl) ?_
    refine X_g0_13 C0 hw (fun w h => (List.mem_cons_of_mem _ (List.mem_append_right _ h))) (by decide) ((List.mem_cons_of_mem _ (List.mem_append_left _ (List.mem_of_getElem? (i := 1) rfl)))) dX11_nearerThan_15 ?_
    refine lv_iload_n hx hb dX11_nearerThan_18 rfl (lv_at hl 0 rfl) ?_
    refine X_dald C0 hw h (k := v4.toNatClampNeg) rfl dX11_nearerThan_19 (fun h => ?_)
    refine lv_aload_n hx hb dX11_nearerThan_20 rfl (lv_at hl 2 rfl) ?_
    refine X_g0_13 C0 hw (fun w h => (List.mem_cons_of_mem _ (List.mem_append_right _ h))) (by decide) ((List.mem_cons_of_mem _ (List.mem_append_left _ (List.mem_of_getElem? (i := 1) rfl)))) dX11_nearerThan_21 ?_
    refine lv_iload_n hx hb dX11_nearerThan_24 rfl (lv_at hl 3 rfl) ?_
    refine X_dald C0 hw h (k := a1.toNatClampNeg) rfl dX11_nearerThan_25 (fun h => ?_)
    refine lv_dcmp hx hb dX11_nearerThan_26 ?_
    refine lv_if_lt (tgt := 51) hx hb dX11_nearerThan_27 (by decide) (fun hc8 => ?_) (fun hc8 => ?_)
    · have h := ifp h hc8
      refine x_iinc hx hb h dX11_nearerThan_51 hl (q := 1) rfl (fun v9 => [(2, .int v9), (3, .int v4), (0, .ref (E.2.2.1 0 (0))), (1, .int a1)]) (by decide) (fun _ => rfl) (fun v9 ls hl h => ?_)
      refine x_iinc hx hb h dX11_nearerThan_54 hl (q := 1) rfl (fun v10 => [(3, .int v10), (2, .int v9), (0, .ref (E.2.2.1 0 (0))), (1, .int a1)]) (by decide) (fun _ => rfl) (fun v10 ls hl h => ?_)
      refine lv_goto (tgt := 4) hx hb dX11_nearerThan_57 (by decide) ?_
      exact hB2 _ (Option.some.inj h).symm _ _ hw _ (lv_sub hl [0, 1, 2, 3] rfl)
    · have h := ifn h hc8
      refine lv_aload_n hx hb dX11_nearerThan_30 rfl (lv_at hl 2 rfl) ?_
      refine X_g0_13 C0 hw (fun w h => (List.mem_cons_of_mem _ (List.mem_append_right _ h))) (by decide) ((List.mem_cons_of_mem _ (List.mem_append_left _ (List.mem_of_getElem? (i := 1) rfl)))) dX11_nearerThan_31 ?_
      refine lv_iload_n hx hb dX11_nearerThan_34 rfl (lv_at hl 0 rfl) ?_
      refine X_dald C0 hw h (k := v4.toNatClampNeg) rfl dX11_nearerThan_35 (fun h => ?_)
      refine lv_aload_n hx hb dX11_nearerThan_36 rfl (lv_at hl 2 rfl) ?_
      refine X_g0_13 C0 hw (fun w h => (List.mem_cons_of_mem _ (List.mem_append_right _ h))) (by decide) ((List.mem_cons_of_mem _ (List.mem_append_left _ (List.mem_of_getElem? (i := 1) rfl)))) dX11_nearerThan_37 ?_
      refine lv_iload_n hx hb dX11_nearerThan_40 rfl (lv_at hl 3 rfl) ?_
      refine X_dald C0 hw h (k := a1.toNatClampNeg) rfl dX11_nearerThan_41 (fun h => ?_)
      refine lv_dcmp hx hb dX11_nearerThan_42 ?_
      refine lv_if_ne (tgt := 54) hx hb dX11_nearerThan_43 (by decide) (fun hc11 => ?_) (fun hc11 => ?_)
      · have h := ifn h hc11
        refine x_iinc hx hb h dX11_nearerThan_54 hl (q := 0) rfl (fun v12 => [(3, .int v12), (2, .int v5), (0, .ref (E.2.2.1 0 (0))), (1, .int a1)]) (by decide) (fun _ => rfl) (fun v12 ls hl h => ?_)
        refine lv_goto (tgt := 4) hx hb dX11_nearerThan_57 (by decide) ?_
        exact hB2 _ (Option.some.inj h).symm _ _ hw _ (lv_sub hl [0, 1, 2, 3] rfl)
      · have h := ifp h hc11
        refine lv_iload_n hx hb dX11_nearerThan_46 rfl (lv_at hl 0 rfl) ?_
        refine lv_iload_n hx hb dX11_nearerThan_47 rfl (lv_at hl 3 rfl) ?_
        refine lv_icmp_ge (tgt := 54) hx hb dX11_nearerThan_48 (by decide) (fun hc13 => ?_) (fun hc13 => ?_)
        · have h := ifp h hc13
          refine x_iinc hx hb h dX11_nearerThan_54 hl (q := 0) rfl (fun v14 => [(3, .int v14), (2, .int v5), (0, .ref (E.2.2.1 0 (0))), (1, .int a1)]) (by decide) (fun _ => rfl) (fun v14 ls hl h => ?_)
          refine lv_goto (tgt := 4) hx hb dX11_nearerThan_57 (by decide) ?_
          exact hB2 _ (Option.some.inj h).symm _ _ hw _ (lv_sub hl [0, 1, 2, 3] rfl)
        · have h := ifn h hc13
          refine x_iinc hx hb h dX11_nearerThan_51 hl (q := 1) rfl (fun v15 => [(2, .int v15), (3, .int v4), (0, .ref (E.2.2.1 0 (0))), (1, .int a1)]) (by decide) (fun _ => rfl) (fun v15 ls hl h => ?_)
          refine x_iinc hx hb h dX11_nearerThan_54 hl (q := 1) rfl (fun v16 => [(3, .int v16), (2, .int v15), (0, .ref (E.2.2.1 0 (0))), (1, .int a1)]) (by decide) (fun _ => rfl) (fun v16 ls hl h => ?_)
          refine lv_goto (tgt := 4) hx hb dX11_nearerThan_57 (by decide) ?_
          exact hB2 _ (Option.some.inj h).symm _ _ hw _ (lv_sub hl [0, 1, 2, 3] rfl)

def fX11_nearest (a1 : Int32) (a2 : Int32) (a3 : Int32) (st : Sto) : Option (Int32 × Sto) :=
  if gI st 0 (0) 2 = 0 then (
   some ((-1 : Int32), st)) else (
   (fX9_isOne a1 a2).bind (fun (v2 : Int32) =>
    if v2 = 0 then (
     some ((-1 : Int32), st)) else (
     (fX9_aim a1 a2 st).bind (fun (t5 : Sto) =>
      (fX9_setGoal (2) (0) t5).bind (fun (t7 : Sto) =>
       ((lp (σ := (Int32 × Sto)) (ρ := Sto) (un2 fun (v12 : Int32) (t13 : Sto) =>
          if gI t13 (3) (0) (0) ≤ v12 then (
           some (.inr t13)) else (
           ck (0 ≤ v12.toInt ∧ v12.toInt < (40 : Int)) (
            (fX9_gapTo (20) (v12.toNatClampNeg) t13).bind (un2 fun (v26 : UInt64) (t27 : Sto) =>
             ck (0 ≤ v12.toInt ∧ v12.toInt < (lDX (14) (0) : Int)) (lt1 (sD t27 (14) (0) (v12.toNatClampNeg) v26) fun (t29 : Sto) =>
              lt1 (v12 + Int32.ofInt (1)) fun (v30 : Int32) =>
              some (.inl (v30, t29))))))) 4000 ((0 : Int32), t7)).bind
        (fun (t14 : Sto) =>
         ((lp (σ := Int32) (ρ := ((Int32 × Sto) ⊕ Unit)) (fun (v34 : Int32) =>
            if gI t14 (3) (0) (0) ≤ v34 then (
             some (.inr (.inr ()))) else (
             (fX11_nearerThan v34 t14).bind (fun (v36 : Int32) =>
              if v36 = a3 then (
               some (.inr (.inl (v34, t14)))) else (
               lt1 (v34 + Int32.ofInt (1)) fun (v39 : Int32) =>
               some (.inl v39))))) 4000 (0 : Int32)).bind
          (sm (fun (q : (Int32 × Sto)) => some q) (fun (_ : Unit) =>
            some ((-1 : Int32), t14)))))))))))
set_option maxHeartbeats 4000000 in
set_option maxRecDepth 100000 in
theorem mX11_nearest (l : Launch) (E : XE) (hL : LX E) (st : Sto) {a1 : Int32} {a2 : Int32} {a3 : Int32} {r : Int32} {st1 : Sto} (h : fX11_nearest a1 a2 a3 st = some (r, st1)) : Met l yX11_nearest wsX11_nearest ({ frames := 5, cells := 0, slots := 0, locals := 136 }) (va_Pc [.ref (E.2.2.1 0 (0)), .int a1, .int a2, .int a3] (RX E st)) (QX E (some (.int r)) st1) 0 0 E.2.2.2 := by
  refine Met.ofW (cc := cX11_nearest) (maxL := 5) (ret := (some .int)) (by decide) rfl ?_
  intro p e s m args below meth c s₁ B hml hv
  obtain ⟨rfl, hP, hK⟩ := hv
  have hown : s.vm.findClass RX11 = some m.cls := findClass_of_methodNamed B.named
  have C0 : CX p m c cX11_nearest 5 s _ wsX11_nearest RX11 E := ⟨⟨B.exec, B.bytes, hml, hown, atoms_spec (ws := wsX11_nearest) B.pre⟩, hK⟩
  have hx := B.exec
  have hb := B.bytes
  have hr := B.returns
  have hlocks := B.notSynchronized
  have hw : SX E s st s.heap [] := ⟨hP, va_S.rf⟩
  have hl := lv_entry ([.ref (E.2.2.1 0 (0)), .int a1, .int a2, .int a3]) (n := 5) (Nat.le_of_ble_eq_true rfl)
  rw [lg_entry_eq]
  generalize (lg_sl ([.ref (E.2.2.1 0 (0)), .int a1, .int a2, .int a3]) ++ List.replicate (5 - (lg_sl ([.ref (E.2.2.1 0 (0)), .int a1, .int a2, .int a3])).length) Slot.unset).toArray = ls at hl ⊢
  have hl : lv_has ls 5 [(0, .ref (E.2.2.1 0 (0))), (1, .int a1), (2, .int a2), (3, .int a3)] := hl
  unfold fX11_nearest at h
  refine lv_aload_n hx hb dX11_nearest_0 rfl (lv_at hl 0 rfl) ?_
  refine X_g0_2 C0 hw (fun w h => (List.mem_cons_of_mem _ (List.mem_append_left _ (List.mem_append_left _ (List.mem_append_right _ h))))) (by decide) ((List.mem_cons_of_mem _ (List.mem_append_left _ (List.mem_append_left _ (List.mem_append_left _ (List.mem_append_left _ (List.mem_of_getElem? (i := 0) rfl))))))) dX11_nearest_1 ?_
  refine lv_if_eq (tgt := 15) hx hb dX11_nearest_4 (by decide) (fun hc1 => ?_) (fun hc1 => ?_)
  · have h := ifp h hc1
    refine lv_iconst (v := -1) hx hb dX11_nearest_15 (by decide) ?_
    cases h
    exact W.iret hx hb hr (X_fin C0 hw) hw.2.2.2 dX11_nearest_16 hlocks
  · have h := ifn h hc1
    refine lv_iload_n hx hb dX11_nearest_7 rfl (lv_at hl 1 rfl) ?_
    refine lv_iload_n hx hb dX11_nearest_8 rfl (lv_at hl 2 rfl) ?_
    obtain ⟨v2, hf3, h⟩ := bn_c h
    refine X_callS C0 hw (As := [.int a1, .int a2]) (rest := []) (mX9_isOne l E hL st hf3) (va_cwS 2 C0.1.2.2.2.2 gX11_nearest_X9_isOne rfl rfl rfl (by decide +kernel) ⟨Nat.le_of_ble_eq_true rfl, Nat.le_of_ble_eq_true rfl⟩) rfl hl.1 rfl (Nat.le_of_ble_eq_true rfl) dX11_nearest_9 ⟨Nat.zero_le _, Nat.zero_le _⟩ (fun H locs hw => ?_)
    refine W.eq (g2 := F0 m 12 ls [.int v2]) rfl ?_
    refine lv_if_ne (tgt := 17) hx hb dX11_nearest_12 (by decide) (fun hc4 => ?_) (fun hc4 => ?_)
    · have h := ifn h hc4
      refine lv_aload_n hx hb dX11_nearest_17 rfl (lv_at hl 0 rfl) ?_
      refine X_g0_12 C0 hw (fun w h => (List.mem_cons_of_mem _ (List.mem_append_left _ (List.mem_append_left _ (List.mem_append_right _ h))))) (by decide) ((List.mem_cons_of_mem _ (List.mem_append_left _ (List.mem_append_left _ (List.mem_append_left _ (List.mem_append_left _ (List.mem_of_getElem? (i := 1) rfl))))))) dX11_nearest_18 ?_
      refine lv_iload_n hx hb dX11_nearest_21 rfl (lv_at hl 1 rfl) ?_
      refine lv_iload_n hx hb dX11_nearest_22 rfl (lv_at hl 2 rfl) ?_
      obtain ⟨t5, hf6, h⟩ := bn_c h
      refine X_callV C0 hw (As := [.int a1, .int a2]) (rest := []) (mX9_aim l E hL st hf6) (cwV 2 C0.1.2.2.2.2 gX11_nearest_X9_aim rfl rfl rfl (by decide +kernel) ⟨Nat.le_of_ble_eq_true rfl, Nat.le_of_ble_eq_true rfl⟩) (X_recv_13 C0 hw (by decide)) rfl hl.1 rfl (Nat.le_of_ble_eq_true rfl) dX11_nearest_23 ⟨Nat.zero_le _, Nat.zero_le _⟩ (fun H locs hw => ?_)
      refine W.eq (g2 := F0 m 26 ls []) rfl ?_
      refine lv_aload_n hx hb dX11_nearest_26 rfl (lv_at hl 0 rfl) ?_
      refine X_g0_12 C0 hw (fun w h => (List.mem_cons_of_mem _ (List.mem_append_left _ (List.mem_append_left _ (List.mem_append_right _ h))))) (by decide) ((List.mem_cons_of_mem _ (List.mem_append_left _ (List.mem_append_left _ (List.mem_append_left _ (List.mem_append_left _ (List.mem_of_getElem? (i := 1) rfl))))))) dX11_nearest_27 ?_
      refine lv_aload_n hx hb dX11_nearest_30 rfl (lv_at hl 0 rfl) ?_
      refine X_g0_1 C0 hw (fun w h => (List.mem_cons_of_mem _ (List.mem_append_left _ (List.mem_append_left _ (List.mem_append_right _ h))))) (by decide) ((List.mem_cons_of_mem _ (List.mem_append_left _ (List.mem_append_left _ (List.mem_append_left _ (List.mem_append_left _ (List.mem_of_getElem? (i := 2) rfl))))))) dX11_nearest_31 ?_
      obtain ⟨t7, hf8, h⟩ := bn_c h
      refine X_callV C0 hw (As := [.ref (E.2.2.1 (2) (0))]) (rest := []) (mX9_setGoal l E hL t5 hf8) (cwV 1 C0.1.2.2.2.2 gX11_nearest_X9_setGoal rfl rfl rfl (by decide +kernel) ⟨Nat.le_of_ble_eq_true rfl, Nat.le_of_ble_eq_true rfl⟩) (X_recv_13 C0 hw (by decide)) rfl hl.1 rfl (Nat.le_of_ble_eq_true rfl) dX11_nearest_34 ⟨Nat.zero_le _, Nat.zero_le _⟩ (fun H locs hw => ?_)
      refine W.eq (g2 := F0 m 37 ls []) rfl ?_
      refine lv_iconst (v := 0) hx hb dX11_nearest_37 (by decide) ?_
      refine lv_istore (lv' := [(4, .int (0 : Int32)), (0, .ref (E.2.2.1 0 (0))), (1, .int a1), (2, .int a2), (3, .int a3)]) hx hb dX11_nearest_38 hl (by decide) rfl (fun ls hl => ?_)
      refine lp_ind (fun q : (Int32 × Sto) => ∀ (H : Heap) (locs : List Loc), SX E s (q.2) H locs → ∀ ls : Array Slot, lv_has ls 5 [(4, .int (q.1)), (0, .ref (E.2.2.1 0 (0))), (3, .int a3)] → W p l e (headSpec wsX11_nearest ({ frames := 5, cells := 0, slots := 0, locals := 136 })).room s m ([.ref (E.2.2.1 0 (0)), .int a1, .int a2, .int a3] : List Value).toArray below meth c H locs 0 0 (MQ below (QX E (some (.int r)) st1) ([.ref (E.2.2.1 0 (0)), .int a1, .int a2, .int a3] : List Value).toArray s 0 0 E.2.2.2) (F0 m 40 ls [])) (fun q o11 h hB10 hX9 => ?_) _ _ h _ _ hw _ (lv_sub hl [0, 1, 4] rfl)
      intro H locs hw ls hl
      obtain ⟨v12, t13⟩ := q
      have h := un2_d h
      have hw : SX E s t13 H locs := hw
      have hl : lv_has ls 5 [(4, .int v12), (0, .ref (E.2.2.1 0 (0))), (3, .int a3)] := hl
      refine lv_iload hx hb dX11_nearest_40 (lv_at hl 0 rfl) ?_
      refine lv_aload_n hx hb dX11_nearest_42 rfl (lv_at hl 1 rfl) ?_
      refine X_g0_3 C0 hw (fun w h => (List.mem_cons_of_mem _ (List.mem_append_left _ (List.mem_append_left _ (List.mem_append_right _ h))))) (by decide) ((List.mem_cons_of_mem _ (List.mem_append_left _ (List.mem_append_left _ (List.mem_append_left _ (List.mem_append_left _ (List.mem_of_getElem? (i := 3) rfl))))))) dX11_nearest_43 ?_
      refine lv_iconst (v := 0) hx hb dX11_nearest_46 (by decide) ?_
      refine X_ialdL C0 hw (vp_in_iff.mpr (by decide +kernel)) (k := 0) rfl dX11_nearest_47 ?_
      refine lv_icmp_ge (tgt := 81) hx hb dX11_nearest_48 (by decide) (fun hc15 => ?_) (fun hc15 => ?_)
      · have h := ifp h hc15
        have h := hX9 _ (Option.some.inj h).symm
        have hl := lv_sub hl (l' := [(0, .ref (E.2.2.1 0 (0))), (3, .int a3)]) [1, 2] rfl
        refine lv_iconst (v := 0) hx hb dX11_nearest_81 (by decide) ?_
        refine lv_istore (lv' := [(4, .int (0 : Int32)), (0, .ref (E.2.2.1 0 (0))), (3, .int a3)]) hx hb dX11_nearest_82 hl (by decide) rfl (fun ls hl => ?_)
        refine lp_ind (fun q : Int32 => ∀ (H : Heap) (locs : List Loc), SX E s t13 H locs → ∀ ls : Array Slot, lv_has ls 5 [(4, .int q), (0, .ref (E.2.2.1 0 (0))), (3, .int a3)] → W p l e (headSpec wsX11_nearest ({ frames := 5, cells := 0, slots := 0, locals := 136 })).room s m ([.ref (E.2.2.1 0 (0)), .int a1, .int a2, .int a3] : List Value).toArray below meth c H locs 0 0 (MQ below (QX E (some (.int r)) st1) ([.ref (E.2.2.1 0 (0)), .int a1, .int a2, .int a3] : List Value).toArray s 0 0 E.2.2.2) (F0 m 84 ls [])) (fun q o18 h hB17 hX16 => ?_) _ _ h _ _ hw _ (lv_sub hl [0, 1, 2] rfl)
        intro H locs hw ls hl
        obtain ⟨v19, rfl⟩ : ∃ z, z = q := ⟨_, rfl⟩
        have hl : lv_has ls 5 [(4, .int v19), (0, .ref (E.2.2.1 0 (0))), (3, .int a3)] := hl
        refine lv_iload hx hb dX11_nearest_84 (lv_at hl 0 rfl) ?_
        refine lv_aload_n hx hb dX11_nearest_86 rfl (lv_at hl 1 rfl) ?_
        refine X_g0_3 C0 hw (fun w h => (List.mem_cons_of_mem _ (List.mem_append_left _ (List.mem_append_left _ (List.mem_append_right _ h))))) (by decide) ((List.mem_cons_of_mem _ (List.mem_append_left _ (List.mem_append_left _ (List.mem_append_left _ (List.mem_append_left _ (List.mem_of_getElem? (i := 3) rfl))))))) dX11_nearest_87 ?_
        refine lv_iconst (v := 0) hx hb dX11_nearest_90 (by decide) ?_
        refine X_ialdL C0 hw (vp_in_iff.mpr (by decide +kernel)) (k := 0) rfl dX11_nearest_91 ?_
        refine lv_icmp_ge (tgt := 114) hx hb dX11_nearest_92 (by decide) (fun hc20 => ?_) (fun hc20 => ?_)
        · have h := ifp h hc20
          have h := hX16 _ (Option.some.inj h).symm
          have h := sm_r h
          have hl := lv_sub hl (l' := []) [] rfl
          refine lv_iconst (v := -1) hx hb dX11_nearest_114 (by decide) ?_
          cases h
          exact W.iret hx hb hr (X_fin C0 hw) hw.2.2.2 dX11_nearest_115 hlocks
        · have h := ifn h hc20
          refine lv_aload_n hx hb dX11_nearest_95 rfl (lv_at hl 1 rfl) ?_
          refine lv_iload hx hb dX11_nearest_96 (lv_at hl 0 rfl) ?_
          obtain ⟨v21, hf22, h⟩ := bn_c h
          refine X_callV C0 hw (As := [.int v19]) (rest := []) (mX11_nearerThan l E hL t13 hf22) (cwV 1 C0.1.2.2.2.2 gX11_nearest_X11_nearerThan rfl rfl rfl (by decide +kernel) ⟨Nat.le_of_ble_eq_true rfl, Nat.le_of_ble_eq_true rfl⟩) (X_recv_0 C0 hw (by decide)) rfl hl.1 rfl (Nat.le_of_ble_eq_true rfl) dX11_nearest_98 ⟨Nat.zero_le _, Nat.zero_le _⟩ (fun H locs hw => ?_)
          refine W.eq (g2 := F0 m 101 ls [.int v21]) rfl ?_
          refine lv_iload_n hx hb dX11_nearest_101 rfl (lv_at hl 2 rfl) ?_
          refine lv_icmp_ne (tgt := 108) hx hb dX11_nearest_102 (by decide) (fun hc23 => ?_) (fun hc23 => ?_)
          · have h := ifn h hc23
            refine x_iinc hx hb h dX11_nearest_108 hl (q := 0) rfl (fun v24 => [(4, .int v24), (0, .ref (E.2.2.1 0 (0))), (3, .int a3)]) (by decide) (fun _ => rfl) (fun v24 ls hl h => ?_)
            refine lv_goto (tgt := 84) hx hb dX11_nearest_111 (by decide) ?_
            exact hB17 _ (Option.some.inj h).symm _ _ hw _ (lv_sub hl [0, 1, 2] rfl)
          · have h := ifp h hc23
            refine lv_iload hx hb dX11_nearest_105 (lv_at hl 0 rfl) ?_
            have h := hX16 _ (Option.some.inj h).symm
            have h := sm_l h
            cases h
            exact W.iret hx hb hr (X_fin C0 hw) hw.2.2.2 dX11_nearest_107 hlocks
      · have h := ifn h hc15
        refine lv_aload_n hx hb dX11_nearest_51 rfl (lv_at hl 1 rfl) ?_
        refine X_g0_13 C0 hw (fun w h => (List.mem_cons_of_mem _ (List.mem_append_left _ (List.mem_append_left _ (List.mem_append_right _ h))))) (by decide) ((List.mem_cons_of_mem _ (List.mem_append_left _ (List.mem_append_left _ (List.mem_append_left _ (List.mem_append_left _ (List.mem_of_getElem? (i := 4) rfl))))))) dX11_nearest_52 ?_
        refine lv_iload hx hb dX11_nearest_55 (lv_at hl 0 rfl) ?_
        refine lv_aload_n hx hb dX11_nearest_57 rfl (lv_at hl 1 rfl) ?_
        refine X_g0_12 C0 hw (fun w h => (List.mem_cons_of_mem _ (List.mem_append_left _ (List.mem_append_left _ (List.mem_append_right _ h))))) (by decide) ((List.mem_cons_of_mem _ (List.mem_append_left _ (List.mem_append_left _ (List.mem_append_left _ (List.mem_append_left _ (List.mem_of_getElem? (i := 1) rfl))))))) dX11_nearest_58 ?_
        refine lv_aload_n hx hb dX11_nearest_61 rfl (lv_at hl 1 rfl) ?_
        refine X_g0_4 C0 hw (fun w h => (List.mem_cons_of_mem _ (List.mem_append_left _ (List.mem_append_left _ (List.mem_append_right _ h))))) (by decide) ((List.mem_cons_of_mem _ (List.mem_append_left _ (List.mem_append_left _ (List.mem_append_left _ (List.mem_append_left _ (List.mem_of_getElem? (i := 5) rfl))))))) dX11_nearest_62 ?_
        refine lv_iload hx hb dX11_nearest_65 (lv_at hl 0 rfl) ?_
        refine X_ald_4 C0 hw (by decide) h (k := v12.toNatClampNeg) rfl dX11_nearest_67 (fun hk25 h => ?_)
        refine X_g19_0 C0 hw (fun w h => (List.mem_cons_of_mem _ (List.mem_append_left _ (List.mem_append_right _ h)))) hk25 ((List.mem_cons_of_mem _ (List.mem_append_left _ (List.mem_append_left _ (List.mem_append_left _ (List.mem_append_left _ (List.mem_of_getElem? (i := 6) rfl))))))) dX11_nearest_68 ?_
        obtain ⟨⟨v26, t27⟩, hf28, h⟩ := bn_c h
        have h := un2_d h
        refine X_callV C0 hw (As := [.ref (E.2.2.1 (20) (v12.toNatClampNeg))]) (rest := [.int v12, .ref (E.2.2.1 (14) (0))]) (mX9_gapTo l E hL t13 hf28) (cwV 1 C0.1.2.2.2.2 gX11_nearest_X9_gapTo rfl rfl rfl (by decide +kernel) ⟨Nat.le_of_ble_eq_true rfl, Nat.le_of_ble_eq_true rfl⟩) (X_recv_13 C0 hw (by decide)) rfl hl.1 rfl (Nat.le_of_ble_eq_true rfl) dX11_nearest_71 ⟨Nat.zero_le _, Nat.zero_le _⟩ (fun H locs hw => ?_)
        refine W.eq (g2 := F0 m 74 ls [.double v26, .int v12, .ref (E.2.2.1 (14) (0))]) rfl ?_
        refine X_dast hL C0 hw h (k := v12.toNatClampNeg) rfl dX11_nearest_74 (fun t29 H locs hw h => ?_)
        refine x_iinc hx hb h dX11_nearest_75 hl (q := 0) rfl (fun v30 => [(4, .int v30), (0, .ref (E.2.2.1 0 (0))), (3, .int a3)]) (by decide) (fun _ => rfl) (fun v30 ls hl h => ?_)
        refine lv_goto (tgt := 40) hx hb dX11_nearest_78 (by decide) ?_
        exact hB10 _ (Option.some.inj h).symm _ _ hw _ (lv_sub hl [0, 1, 2] rfl)
    · have h := ifp h hc4
      refine lv_iconst (v := -1) hx hb dX11_nearest_15 (by decide) ?_
      cases h
      exact W.iret hx hb hr (X_fin C0 hw) hw.2.2.2 dX11_nearest_16 hlocks
