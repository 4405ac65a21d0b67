def fX11_bathGap (a1i : Nat) (st : Sto) : Option (UInt64 × Sto) :=
  ck (0 ≤ (gI st 30 a1i 0).toInt ∧ (gI st 30 a1i 0).toInt < (8 : Int)) (
   (fX6_begin (6) ((gI st 30 a1i 0).toNatClampNeg) st).bind (fun (t2 : Sto) =>
    ((lp (σ := (Int32 × Sto)) (ρ := Sto) (un2 fun (v7 : Int32) (t8 : Sto) =>
       if gI t8 30 a1i 2 ≤ v7 then (
        some (.inr t8)) else (
        ck (0 ≤ v7.toInt ∧ v7.toInt < (lIX (31) a1i : Int)) (
         lt1 (gI t8 (31) a1i (v7.toNatClampNeg)) fun (v47 : Int32) =>
         ck (0 ≤ v7.toInt ∧ v7.toInt < (lIX (32) a1i : Int)) (
          (fX8_gramsOf (1) v47 t8).bind (fun (v48 : Int32) =>
           (fX1_share a1i ((gI t8 (32) a1i (v7.toNatClampNeg)) + v48) t8).bind (fun (v50 : Int64) =>
            (fX11_mixPart (4 : Int32) v47 v50 t8).bind (fun (t52 : Sto) =>
             lt1 (v7 + Int32.ofInt (1)) fun (v54 : Int32) =>
             some (.inl (v54, t52))))))))) 4000 ((0 : Int32), t2)).bind
     (fun (t9 : Sto) =>
      ((lp (σ := (Int32 × Sto)) (ρ := Sto) (un2 fun (v58 : Int32) (t59 : Sto) =>
         if gI t59 16 (1) 9 ≤ v58 then (
          some (.inr t59)) else (
          (fX8_nameAt (1) v58 t59).bind (fun (v62 : Int32) =>
           (fX1_placeOf a1i v62 t59).bind (fun (v64 : Int32) =>
            if v64 = (-1 : Int32) then (
             (fX8_gramsAt (1) v58 t59).bind (fun (v68 : Int32) =>
              (fX1_share a1i v68 t59).bind (fun (v70 : Int64) =>
               (fX11_mixPart (4 : Int32) v62 v70 t59).bind (fun (t72 : Sto) =>
                lt1 (v58 + Int32.ofInt (1)) fun (v74 : Int32) =>
                some (.inl (v74, t72)))))) else (
             lt1 (v58 + Int32.ofInt (1)) fun (v67 : Int32) =>
             some (.inl (v67, t59))))))) 4000 ((0 : Int32), t9)).bind
       (fun (t60 : Sto) =>
        (fX6_result t60).bind (un2 fun (v75 : (Nat × Nat)) (t76 : Sto) => un2 (fun (qf78 qi79 : Nat) =>
          (fX9_gapTo qf78 qi79 t76).bind (un2 fun (v80 : UInt64) (t81 : Sto) =>
           some (v80, t81))) v75)))))))
set_option maxHeartbeats 4000000 in
set_option maxRecDepth 100000 in
theorem mX11_bathGap (l : Launch) (E : XE) (hL : LX E) (st : Sto) {a1i : Nat} (ha1 : a1i < cntX 30) {r : UInt64} {st1 : Sto} (h : fX11_bathGap a1i st = some (r, st1)) : Met l yX11_bathGap wsX11_bathGap ({ frames := 5, cells := 0, slots := 0, locals := 136 }) (va_Pc [.ref (E.2.2.1 0 (0)), .ref (E.2.2.1 30 a1i)] (RX E st)) (QX E (some (.double r)) st1) 0 0 E.2.2.2 := by
  refine Met.ofW (cc := cX11_bathGap) (maxL := 4) (ret := (some .double)) (by decide) rfl ?_
  intro p e s m args below meth c s₁ B hml hv
  obtain ⟨rfl, hP, hK⟩ := hv
  have hown : s.vm.findClass RX11 = some m.cls := findClass_of_methodNamed B.named
  have C0 : CX p m c cX11_bathGap 4 s _ wsX11_bathGap RX11 E := ⟨⟨B.exec, B.bytes, hml, hown, atoms_spec (ws := wsX11_bathGap) B.pre⟩, hK⟩
  have hx := B.exec
  have hb := B.bytes
  have hr := B.returns
  have hlocks := B.notSynchronized
  have hw : SX E s st s.heap [] := ⟨hP, va_S.rf⟩
  have hl := lv_entry ([.ref (E.2.2.1 0 (0)), .ref (E.2.2.1 30 a1i)]) (n := 4) (Nat.le_of_ble_eq_true rfl)
  rw [lg_entry_eq]
  generalize (lg_sl ([.ref (E.2.2.1 0 (0)), .ref (E.2.2.1 30 a1i)]) ++ List.replicate (4 - (lg_sl ([.ref (E.2.2.1 0 (0)), .ref (E.2.2.1 30 a1i)])).length) Slot.unset).toArray = ls at hl ⊢
  have hl : lv_has ls 4 [(0, .ref (E.2.2.1 0 (0))), (1, .ref (E.2.2.1 30 a1i))] := hl
  unfold fX11_bathGap at h
  refine lv_aload_n hx hb dX11_bathGap_0 rfl (lv_at hl 0 rfl) ?_
  refine X_g0_14 C0 hw (fun w h => (List.mem_cons_of_mem _ (List.mem_append_left _ (List.mem_append_left _ (List.mem_append_left _ (List.mem_append_left _ (List.mem_append_left _ (List.mem_append_left _ (List.mem_append_right _ h))))))))) (by decide) ((List.mem_cons_of_mem _ (List.mem_append_left _ (List.mem_append_left _ (List.mem_append_left _ (List.mem_append_left _ (List.mem_append_left _ (List.mem_append_left _ (List.mem_append_left _ (List.mem_append_left _ (List.mem_of_getElem? (i := 0) rfl))))))))))) dX11_bathGap_1 ?_
  refine lv_aload_n hx hb dX11_bathGap_4 rfl (lv_at hl 0 rfl) ?_
  refine X_g0_5 C0 hw (fun w h => (List.mem_cons_of_mem _ (List.mem_append_left _ (List.mem_append_left _ (List.mem_append_left _ (List.mem_append_left _ (List.mem_append_left _ (List.mem_append_left _ (List.mem_append_right _ h))))))))) (by decide) ((List.mem_cons_of_mem _ (List.mem_append_left _ (List.mem_append_left _ (List.mem_append_left _ (List.mem_append_left _ (List.mem_append_left _ (List.mem_append_left _ (List.mem_append_left _ (List.mem_append_left _ (List.mem_of_getElem? (i := 1) rfl))))))))))) dX11_bathGap_5 ?_
  refine lv_aload_n hx hb dX11_bathGap_8 rfl (lv_at hl 1 rfl) ?_
  refine X_g30_0 C0 hw (fun w h => (List.mem_cons_of_mem _ (List.mem_append_left _ (List.mem_append_left _ (List.mem_append_left _ (List.mem_append_left _ (List.mem_append_left _ (List.mem_append_right _ h)))))))) ha1 ((List.mem_cons_of_mem _ (List.mem_append_left _ (List.mem_append_left _ (List.mem_append_left _ (List.mem_append_left _ (List.mem_append_left _ (List.mem_append_left _ (List.mem_append_left _ (List.mem_append_left _ (List.mem_of_getElem? (i := 2) rfl))))))))))) dX11_bathGap_9 ?_
  refine X_ald_5 C0 hw (by decide) h (k := (gI st 30 a1i 0).toNatClampNeg) rfl dX11_bathGap_12 (fun hk1 h => ?_)
  obtain ⟨t2, hf3, h⟩ := bn_c h
  refine X_callV C0 hw (As := [.ref (E.2.2.1 (6) ((gI st 30 a1i 0).toNatClampNeg))]) (rest := []) (mX6_begin l E hL st hf3) (cwV 1 C0.1.2.2.2.2 gX11_bathGap_X6_begin rfl rfl rfl (by decide +kernel) ⟨Nat.le_of_ble_eq_true rfl, Nat.le_of_ble_eq_true rfl⟩) (X_recv_15 C0 hw (by decide)) rfl hl.1 rfl (Nat.le_of_ble_eq_true rfl) dX11_bathGap_13 ⟨Nat.zero_le _, Nat.zero_le _⟩ (fun H locs hw => ?_)
  refine W.eq (g2 := F0 m 16 ls []) rfl ?_
  refine lv_iconst (v := 0) hx hb dX11_bathGap_16 (by decide) ?_
  refine lv_istore_n (lv' := [(2, .int (0 : Int32)), (0, .ref (E.2.2.1 0 (0))), (1, .ref (E.2.2.1 30 a1i))]) hx hb dX11_bathGap_17 rfl hl (by decide) rfl (fun ls hl => ?_)
  refine lp_ind (fun q : (Int32 × Sto) => ∀ (H : Heap) (locs : List Loc), SX E s (q.2) H locs → ∀ ls : Array Slot, lv_has ls 4 [(2, .int (q.1)), (0, .ref (E.2.2.1 0 (0))), (1, .ref (E.2.2.1 30 a1i))] → W p l e (headSpec wsX11_bathGap ({ frames := 5, cells := 0, slots := 0, locals := 136 })).room s m ([.ref (E.2.2.1 0 (0)), .ref (E.2.2.1 30 a1i)] : List Value).toArray below meth c H locs 0 0 (MQ below (QX E (some (.double r)) st1) ([.ref (E.2.2.1 0 (0)), .ref (E.2.2.1 30 a1i)] : List Value).toArray s 0 0 E.2.2.2) (F0 m 18 ls [])) (fun q o6 h hB5 hX4 => ?_) _ _ h _ _ hw _ (lv_sub hl [0, 1, 2] rfl)
  intro H locs hw ls hl
  obtain ⟨v7, t8⟩ := q
  have h := un2_d h
  have hw : SX E s t8 H locs := hw
  have hl : lv_has ls 4 [(2, .int v7), (0, .ref (E.2.2.1 0 (0))), (1, .ref (E.2.2.1 30 a1i))] := hl
  refine lv_iload_n hx hb dX11_bathGap_18 rfl (lv_at hl 0 rfl) ?_
  refine lv_aload_n hx hb dX11_bathGap_19 rfl (lv_at hl 2 rfl) ?_
  refine X_g30_2 C0 hw (fun w h => (List.mem_cons_of_mem _ (List.mem_append_left _ (List.mem_append_left _ (List.mem_append_left _ (List.mem_append_left _ (List.mem_append_left _ (List.mem_append_right _ h)))))))) ha1 ((List.mem_cons_of_mem _ (List.mem_append_left _ (List.mem_append_left _ (List.mem_append_left _ (List.mem_append_left _ (List.mem_append_left _ (List.mem_append_left _ (List.mem_append_left _ (List.mem_append_left _ (List.mem_of_getElem? (i := 3) rfl))))))))))) dX11_bathGap_20 ?_
  refine lv_icmp_ge (tgt := 64) hx hb dX11_bathGap_23 (by decide) (fun hc10 => ?_) (fun hc10 => ?_)
  · have h := ifp h hc10
    have h := hX4 _ (Option.some.inj h).symm
    have hl := lv_sub hl (l' := [(0, .ref (E.2.2.1 0 (0))), (1, .ref (E.2.2.1 30 a1i))]) [1, 2] rfl
    refine lv_iconst (v := 0) hx hb dX11_bathGap_64 (by decide) ?_
    refine lv_istore_n (lv' := [(2, .int (0 : Int32)), (0, .ref (E.2.2.1 0 (0))), (1, .ref (E.2.2.1 30 a1i))]) hx hb dX11_bathGap_65 rfl hl (by decide) rfl (fun ls hl => ?_)
    refine lp_ind (fun q : (Int32 × Sto) => ∀ (H : Heap) (locs : List Loc), SX E s (q.2) H locs → ∀ ls : Array Slot, lv_has ls 4 [(2, .int (q.1)), (0, .ref (E.2.2.1 0 (0))), (1, .ref (E.2.2.1 30 a1i))] → W p l e (headSpec wsX11_bathGap ({ frames := 5, cells := 0, slots := 0, locals := 136 })).room s m ([.ref (E.2.2.1 0 (0)), .ref (E.2.2.1 30 a1i)] : List Value).toArray below meth c H locs 0 0 (MQ below (QX E (some (.double r)) st1) ([.ref (E.2.2.1 0 (0)), .ref (E.2.2.1 30 a1i)] : List Value).toArray s 0 0 E.2.2.2) (F0 m 66 ls [])) (fun q o13 h hB12 hX11 => ?_) _ _ h _ _ hw _ (lv_sub hl [0, 1, 2] rfl)
    intro H locs hw ls hl
    obtain ⟨v14, t15⟩ := q
    have h := un2_d h
    have hw : SX E s t15 H locs := hw
    have hl : lv_has ls 4 [(2, .int v14), (0, .ref (E.2.2.1 0 (0))), (1, .ref (E.2.2.1 30 a1i))] := hl
    refine lv_iload_n hx hb dX11_bathGap_66 rfl (lv_at hl 0 rfl) ?_
    refine lv_aload_n hx hb dX11_bathGap_67 rfl (lv_at hl 1 rfl) ?_
    refine X_g0_16 C0 hw (fun w h => (List.mem_cons_of_mem _ (List.mem_append_left _ (List.mem_append_left _ (List.mem_append_left _ (List.mem_append_left _ (List.mem_append_left _ (List.mem_append_left _ (List.mem_append_right _ h))))))))) (by decide) ((List.mem_cons_of_mem _ (List.mem_append_left _ (List.mem_append_left _ (List.mem_append_left _ (List.mem_append_left _ (List.mem_append_left _ (List.mem_append_left _ (List.mem_append_left _ (List.mem_append_left _ (List.mem_of_getElem? (i := 6) rfl))))))))))) dX11_bathGap_68 ?_
    refine X_g16_9 C0 hw (fun w h => (List.mem_cons_of_mem _ (List.mem_append_left _ (List.mem_append_left _ (List.mem_append_left _ (List.mem_append_left _ (List.mem_append_right _ h))))))) (by decide) ((List.mem_cons_of_mem _ (List.mem_append_left _ (List.mem_append_left _ (List.mem_append_left _ (List.mem_append_left _ (List.mem_append_left _ (List.mem_append_left _ (List.mem_append_left _ (List.mem_append_left _ (List.mem_of_getElem? (i := 7) rfl))))))))))) dX11_bathGap_71 ?_
    refine lv_icmp_ge (tgt := 119) hx hb dX11_bathGap_74 (by decide) (fun hc17 => ?_) (fun hc17 => ?_)
    · have h := ifp h hc17
      have h := hX11 _ (Option.some.inj h).symm
      have hl := lv_sub hl (l' := [(0, .ref (E.2.2.1 0 (0)))]) [1] rfl
      refine lv_aload_n hx hb dX11_bathGap_119 rfl (lv_at hl 0 rfl) ?_
      refine X_g0_12 C0 hw (fun w h => (List.mem_cons_of_mem _ (List.mem_append_left _ (List.mem_append_left _ (List.mem_append_left _ (List.mem_append_left _ (List.mem_append_left _ (List.mem_append_left _ (List.mem_append_right _ h))))))))) (by decide) ((List.mem_cons_of_mem _ (List.mem_append_left _ (List.mem_append_left _ (List.mem_append_left _ (List.mem_append_left _ (List.mem_append_left _ (List.mem_append_left _ (List.mem_append_left _ (List.mem_append_left _ (List.mem_of_getElem? (i := 8) rfl))))))))))) dX11_bathGap_120 ?_
      refine lv_aload_n hx hb dX11_bathGap_123 rfl (lv_at hl 0 rfl) ?_
      refine X_g0_14 C0 hw (fun w h => (List.mem_cons_of_mem _ (List.mem_append_left _ (List.mem_append_left _ (List.mem_append_left _ (List.mem_append_left _ (List.mem_append_left _ (List.mem_append_left _ (List.mem_append_right _ h))))))))) (by decide) ((List.mem_cons_of_mem _ (List.mem_append_left _ (List.mem_append_left _ (List.mem_append_left _ (List.mem_append_left _ (List.mem_append_left _ (List.mem_append_left _ (List.mem_append_left _ (List.mem_append_left _ (List.mem_of_getElem? (i := 0) rfl))))))))))) dX11_bathGap_124 ?_
      obtain ⟨⟨v18, t19⟩, hf20, h⟩ := bn_c h
      have h := un2_d h
      refine X_callV C0 hw (As := []) (rest := [.ref (E.2.2.1 13 (0))]) (mX6_result l E hL t15 hf20) (cwV 0 C0.1.2.2.2.2 gX11_bathGap_X6_result rfl rfl rfl (by decide +kernel) ⟨Nat.le_of_ble_eq_true rfl, Nat.le_of_ble_eq_true rfl⟩) (X_recv_15 C0 hw (by decide)) rfl hl.1 rfl (Nat.le_of_ble_eq_true rfl) dX11_bathGap_127 ⟨Nat.zero_le _, Nat.zero_le _⟩ (fun H locs hw => ?_)
      obtain ⟨qf21, qi22⟩ := v18
      have h := un2_d h
      refine W.eq (g2 := F0 m 130 ls (.ref (E.2.2.1 qf21 qi22) :: [.ref (E.2.2.1 13 (0))])) rfl ?_
      obtain ⟨⟨v23, t24⟩, hf25, h⟩ := bn_c h
      have h := un2_d h
      refine X_callV C0 hw (As := [.ref (E.2.2.1 qf21 qi22)]) (rest := []) (mX9_gapTo l E hL t19 hf25) (cwV 1 C0.1.2.2.2.2 gX11_bathGap_X9_gapTo rfl rfl rfl (by decide +kernel) ⟨Nat.le_of_ble_eq_true rfl, Nat.le_of_ble_eq_true rfl⟩) (X_recv_13 C0 hw (by decide)) rfl hl.1 rfl (Nat.le_of_ble_eq_true rfl) dX11_bathGap_130 ⟨Nat.zero_le _, Nat.zero_le _⟩ (fun H locs hw => ?_)
      refine W.eq (g2 := F0 m 133 ls [.double v23]) rfl ?_
      cases h
      exact W.dret hx hb hr (X_fin C0 hw) hw.2.2.2 dX11_bathGap_133 hlocks
    · have h := ifn h hc17
      refine lv_aload_n hx hb dX11_bathGap_77 rfl (lv_at hl 1 rfl) ?_
      refine X_g0_16 C0 hw (fun w h => (List.mem_cons_of_mem _ (List.mem_append_left _ (List.mem_append_left _ (List.mem_append_left _ (List.mem_append_left _ (List.mem_append_left _ (List.mem_append_left _ (List.mem_append_right _ h))))))))) (by decide) ((List.mem_cons_of_mem _ (List.mem_append_left _ (List.mem_append_left _ (List.mem_append_left _ (List.mem_append_left _ (List.mem_append_left _ (List.mem_append_left _ (List.mem_append_left _ (List.mem_append_left _ (List.mem_of_getElem? (i := 6) rfl))))))))))) dX11_bathGap_78 ?_
      refine lv_iload_n hx hb dX11_bathGap_81 rfl (lv_at hl 0 rfl) ?_
      obtain ⟨v26, hf27, h⟩ := bn_c h
      refine X_callV C0 hw (As := [.int v14]) (rest := []) (mX8_nameAt l E hL t15 (by decide) hf27) (cwV 1 C0.1.2.2.2.2 gX11_bathGap_X8_nameAt rfl rfl rfl (by decide +kernel) ⟨Nat.le_of_ble_eq_true rfl, Nat.le_of_ble_eq_true rfl⟩) (X_recv_16 C0 hw (by decide)) rfl hl.1 rfl (Nat.le_of_ble_eq_true rfl) dX11_bathGap_82 ⟨Nat.zero_le _, Nat.zero_le _⟩ (fun H locs hw => ?_)
      refine W.eq (g2 := F0 m 85 ls [.int v26]) rfl ?_
      refine lv_istore_n (lv' := [(3, .int v26), (2, .int v14), (0, .ref (E.2.2.1 0 (0))), (1, .ref (E.2.2.1 30 a1i))]) hx hb dX11_bathGap_85 rfl hl (by decide) rfl (fun ls hl => ?_)
      refine lv_aload_n hx hb dX11_bathGap_86 rfl (lv_at hl 3 rfl) ?_
      refine lv_iload_n hx hb dX11_bathGap_87 rfl (lv_at hl 0 rfl) ?_
      obtain ⟨v28, hf29, h⟩ := bn_c h
      refine X_callV C0 hw (As := [.int v26]) (rest := []) (mX1_placeOf l E hL t15 ha1 hf29) (cwV 1 C0.1.2.2.2.2 gX11_bathGap_X1_placeOf rfl rfl rfl (by decide +kernel) ⟨Nat.le_of_ble_eq_true rfl, Nat.le_of_ble_eq_true rfl⟩) (X_recv_30 C0 hw ha1) rfl hl.1 rfl (Nat.le_of_ble_eq_true rfl) dX11_bathGap_88 ⟨Nat.zero_le _, Nat.zero_le _⟩ (fun H locs hw => ?_)
      refine W.eq (g2 := F0 m 91 ls [.int v28]) rfl ?_
      refine lv_iconst (v := -1) hx hb dX11_bathGap_91 (by decide) ?_
      refine lv_icmp_ne (tgt := 113) hx hb dX11_bathGap_92 (by decide) (fun hc30 => ?_) (fun hc30 => ?_)
      · have h := ifn h hc30
        refine x_iinc hx hb h dX11_bathGap_113 hl (q := 1) rfl (fun v31 => [(2, .int v31), (3, .int v26), (0, .ref (E.2.2.1 0 (0))), (1, .ref (E.2.2.1 30 a1i))]) (by decide) (fun _ => rfl) (fun v31 ls hl h => ?_)
        refine lv_goto (tgt := 66) hx hb dX11_bathGap_116 (by decide) ?_
        exact hB12 _ (Option.some.inj h).symm _ _ hw _ (lv_sub hl [0, 2, 3] rfl)
      · have h := ifp h hc30
        refine lv_aload_n hx hb dX11_bathGap_95 rfl (lv_at hl 2 rfl) ?_
        refine lv_iconst (v := 4) hx hb dX11_bathGap_96 (by decide) ?_
        refine lv_iload_n hx hb dX11_bathGap_97 rfl (lv_at hl 0 rfl) ?_
        refine lv_aload_n hx hb dX11_bathGap_98 rfl (lv_at hl 3 rfl) ?_
        refine lv_aload_n hx hb dX11_bathGap_99 rfl (lv_at hl 2 rfl) ?_
        refine X_g0_16 C0 hw (fun w h => (List.mem_cons_of_mem _ (List.mem_append_left _ (List.mem_append_left _ (List.mem_append_left _ (List.mem_append_left _ (List.mem_append_left _ (List.mem_append_left _ (List.mem_append_right _ h))))))))) (by decide) ((List.mem_cons_of_mem _ (List.mem_append_left _ (List.mem_append_left _ (List.mem_append_left _ (List.mem_append_left _ (List.mem_append_left _ (List.mem_append_left _ (List.mem_append_left _ (List.mem_append_left _ (List.mem_of_getElem? (i := 6) rfl))))))))))) dX11_bathGap_100 ?_
        refine lv_iload_n hx hb dX11_bathGap_103 rfl (lv_at hl 1 rfl) ?_
        obtain ⟨v32, hf33, h⟩ := bn_c h
        refine X_callV C0 hw (As := [.int v14]) (rest := [.ref (E.2.2.1 30 a1i), .int v26, .int (4 : Int32), .ref (E.2.2.1 0 (0))]) (mX8_gramsAt l E hL t15 (by decide) hf33) (cwV 1 C0.1.2.2.2.2 gX11_bathGap_X8_gramsAt rfl rfl rfl (by decide +kernel) ⟨Nat.le_of_ble_eq_true rfl, Nat.le_of_ble_eq_true rfl⟩) (X_recv_16 C0 hw (by decide)) rfl hl.1 rfl (Nat.le_of_ble_eq_true rfl) dX11_bathGap_104 ⟨Nat.zero_le _, Nat.zero_le _⟩ (fun H locs hw => ?_)
        refine W.eq (g2 := F0 m 107 ls [.int v32, .ref (E.2.2.1 30 a1i), .int v26, .int (4 : Int32), .ref (E.2.2.1 0 (0))]) rfl ?_
        obtain ⟨v34, hf35, h⟩ := bn_c h
        refine X_callV C0 hw (As := [.int v32]) (rest := [.int v26, .int (4 : Int32), .ref (E.2.2.1 0 (0))]) (mX1_share l E hL t15 ha1 hf35) (cwV 1 C0.1.2.2.2.2 gX11_bathGap_X1_share rfl rfl rfl (by decide +kernel) ⟨Nat.le_of_ble_eq_true rfl, Nat.le_of_ble_eq_true rfl⟩) (X_recv_30 C0 hw ha1) rfl hl.1 rfl (Nat.le_of_ble_eq_true rfl) dX11_bathGap_107 ⟨Nat.zero_le _, Nat.zero_le _⟩ (fun H locs hw => ?_)
        refine W.eq (g2 := F0 m 110 ls [.long v34, .int v26, .int (4 : Int32), .ref (E.2.2.1 0 (0))]) rfl ?_
        obtain ⟨t36, hf37, h⟩ := bn_c h
        refine X_callV C0 hw (As := [.int (4 : Int32), .int v26, .long v34]) (rest := []) (mX11_mixPart l E hL t15 hf37) (cwV 3 C0.1.2.2.2.2 gX11_bathGap_X11_mixPart rfl rfl rfl (by decide +kernel) ⟨Nat.le_of_ble_eq_true rfl, Nat.le_of_ble_eq_true rfl⟩) (X_recv_0 C0 hw (by decide)) rfl hl.1 rfl (Nat.le_of_ble_eq_true rfl) dX11_bathGap_110 ⟨Nat.zero_le _, Nat.zero_le _⟩ (fun H locs hw => ?_)
        refine W.eq (g2 := F0 m 113 ls []) rfl ?_
        refine x_iinc hx hb h dX11_bathGap_113 hl (q := 1) rfl (fun v38 => [(2, .int v38), (3, .int v26), (0, .ref (E.2.2.1 0 (0))), (1, .ref (E.2.2.1 30 a1i))]) (by decide) (fun _ => rfl) (fun v38 ls hl h => ?_)
        refine lv_goto (tgt := 66) hx hb dX11_bathGap_116 (by decide) ?_
        exact hB12 _ (Option.some.inj h).symm _ _ hw _ (lv_sub hl [0, 2, 3] rfl)
  · have h := ifn h hc10
    refine lv_aload_n hx hb dX11_bathGap_26 rfl (lv_at hl 2 rfl) ?_
    refine X_g30_3 C0 hw (fun w h => (List.mem_cons_of_mem _ (List.mem_append_left _ (List.mem_append_left _ (List.mem_append_left _ (List.mem_append_left _ (List.mem_append_left _ (List.mem_append_right _ h)))))))) ha1 ((List.mem_cons_of_mem _ (List.mem_append_left _ (List.mem_append_left _ (List.mem_append_left _ (List.mem_append_left _ (List.mem_append_left _ (List.mem_append_left _ (List.mem_append_left _ (List.mem_append_left _ (List.mem_of_getElem? (i := 4) rfl))))))))))) dX11_bathGap_27 ?_
    refine lv_iload_n hx hb dX11_bathGap_30 rfl (lv_at hl 0 rfl) ?_
    refine X_iald C0 hw h (k := v7.toNatClampNeg) rfl dX11_bathGap_31 (fun h => ?_)
    refine x_topi h (fun v47 h => ?_)
    refine lv_istore_n (lv' := [(3, .int v47), (2, .int v7), (0, .ref (E.2.2.1 0 (0))), (1, .ref (E.2.2.1 30 a1i))]) hx hb dX11_bathGap_32 rfl hl (by decide) rfl (fun ls hl => ?_)
    refine lv_aload_n hx hb dX11_bathGap_33 rfl (lv_at hl 2 rfl) ?_
    refine lv_iconst (v := 4) hx hb dX11_bathGap_34 (by decide) ?_
    refine lv_iload_n hx hb dX11_bathGap_35 rfl (lv_at hl 0 rfl) ?_
    refine lv_aload_n hx hb dX11_bathGap_36 rfl (lv_at hl 3 rfl) ?_
    refine lv_aload_n hx hb dX11_bathGap_37 rfl (lv_at hl 3 rfl) ?_
    refine X_g30_4 C0 hw (fun w h => (List.mem_cons_of_mem _ (List.mem_append_left _ (List.mem_append_left _ (List.mem_append_left _ (List.mem_append_left _ (List.mem_append_left _ (List.mem_append_right _ h)))))))) ha1 ((List.mem_cons_of_mem _ (List.mem_append_left _ (List.mem_append_left _ (List.mem_append_left _ (List.mem_append_left _ (List.mem_append_left _ (List.mem_append_left _ (List.mem_append_left _ (List.mem_append_left _ (List.mem_of_getElem? (i := 5) rfl))))))))))) dX11_bathGap_38 ?_
    refine lv_iload_n hx hb dX11_bathGap_41 rfl (lv_at hl 1 rfl) ?_
    refine X_iald C0 hw h (k := v7.toNatClampNeg) rfl dX11_bathGap_42 (fun h => ?_)
    refine lv_aload_n hx hb dX11_bathGap_43 rfl (lv_at hl 2 rfl) ?_
    refine X_g0_16 C0 hw (fun w h => (List.mem_cons_of_mem _ (List.mem_append_left _ (List.mem_append_left _ (List.mem_append_left _ (List.mem_append_left _ (List.mem_append_left _ (List.mem_append_left _ (List.mem_append_right _ h))))))))) (by decide) ((List.mem_cons_of_mem _ (List.mem_append_left _ (List.mem_append_left _ (List.mem_append_left _ (List.mem_append_left _ (List.mem_append_left _ (List.mem_append_left _ (List.mem_append_left _ (List.mem_append_left _ (List.mem_of_getElem? (i := 6) rfl))))))))))) dX11_bathGap_44 ?_
    refine lv_iload_n hx hb dX11_bathGap_47 rfl (lv_at hl 0 rfl) ?_
    obtain ⟨v48, hf49, h⟩ := bn_c h
    refine X_callV C0 hw (As := [.int v47]) (rest := [.int (gI t8 (32) a1i (v7.toNatClampNeg)), .ref (E.2.2.1 30 a1i), .int v47, .int (4 : Int32), .ref (E.2.2.1 0 (0))]) (mX8_gramsOf l E hL t8 (by decide) hf49) (cwV 1 C0.1.2.2.2.2 gX11_bathGap_X8_gramsOf rfl rfl rfl (by decide +kernel) ⟨Nat.le_of_ble_eq_true rfl, Nat.le_of_ble_eq_true rfl⟩) (X_recv_16 C0 hw (by decide)) rfl hl.1 rfl (Nat.le_of_ble_eq_true rfl) dX11_bathGap_48 ⟨Nat.zero_le _, Nat.zero_le _⟩ (fun H locs hw => ?_)
    refine W.eq (g2 := F0 m 51 ls [.int v48, .int (gI t8 (32) a1i (v7.toNatClampNeg)), .ref (E.2.2.1 30 a1i), .int v47, .int (4 : Int32), .ref (E.2.2.1 0 (0))]) rfl ?_
    refine lv_iadd hx hb dX11_bathGap_51 ?_
    obtain ⟨v50, hf51, h⟩ := bn_c h
    refine X_callV C0 hw (As := [.int ((gI t8 (32) a1i (v7.toNatClampNeg)) + v48)]) (rest := [.int v47, .int (4 : Int32), .ref (E.2.2.1 0 (0))]) (mX1_share l E hL t8 ha1 hf51) (cwV 1 C0.1.2.2.2.2 gX11_bathGap_X1_share rfl rfl rfl (by decide +kernel) ⟨Nat.le_of_ble_eq_true rfl, Nat.le_of_ble_eq_true rfl⟩) (X_recv_30 C0 hw ha1) rfl hl.1 rfl (Nat.le_of_ble_eq_true rfl) dX11_bathGap_52 ⟨Nat.zero_le _, Nat.zero_le _⟩ (fun H locs hw => ?_)
    refine W.eq (g2 := F0 m 55 ls [.long v50, .int v47, .int (4 : Int32), .ref (E.2.2.1 0 (0))]) rfl ?_
    obtain ⟨t52, hf53, h⟩ := bn_c h
    refine X_callV C0 hw (As := [.int (4 : Int32), .int v47, .long v50]) (rest := []) (mX11_mixPart l E hL t8 hf53) (cwV 3 C0.1.2.2.2.2 gX11_bathGap_X11_mixPart rfl rfl rfl (by decide +kernel) ⟨Nat.le_of_ble_eq_true rfl, Nat.le_of_ble_eq_true rfl⟩) (X_recv_0 C0 hw (by decide)) rfl hl.1 rfl (Nat.le_of_ble_eq_true rfl) dX11_bathGap_55 ⟨Nat.zero_le _, Nat.zero_le _⟩ (fun H locs hw => ?_)
    refine W.eq (g2 := F0 m 58 ls []) rfl ?_
    refine x_iinc hx hb h dX11_bathGap_58 hl (q := 1) rfl (fun v54 => [(2, .int v54), (3, .int v47), (0, .ref (E.2.2.1 0 (0))), (1, .ref (E.2.2.1 30 a1i))]) (by decide) (fun _ => rfl) (fun v54 ls hl h => ?_)
    refine lv_goto (tgt := 18) hx hb dX11_bathGap_61 (by decide) ?_
    exact hB5 _ (Option.some.inj h).symm _ _ hw _ (lv_sub hl [0, 2, 3] rfl)

def fX11_correct (a1 : Int32) (a2 : Int32) (a3 : Int32) (a4 : Int32) (a5 : Int32) (a6 : Int32) (st : Sto) : Option (Int32 × Sto) :=
  (fX11_isThere (5 : Int32) a1 st).bind (fun (v1 : Int32) =>
   if v1 = 0 then (
    (fX11_refused (2 : Int32) st).bind (un2 fun (v4 : Int32) (t5 : Sto) =>
     some (v4, t5))) else (
    (fX11_isThere (0 : Int32) a2 st).bind (fun (v7 : Int32) =>
     if v7 = 0 then (
      (fX11_refused (2 : Int32) st).bind (un2 fun (v113 : Int32) (t114 : Sto) =>
       some (v113, t114))) else (
      (fX9_isOne a3 a4).bind (fun (v10 : Int32) =>
       if v10 = 0 then (
        (fX11_refused (3 : Int32) st).bind (un2 fun (v13 : Int32) (t14 : Sto) =>
         some (v13, t14))) else (
        (fX11_isGrid a5 a6).bind (fun (v16 : Int32) =>
         if v16 = 0 then (
          (fX11_refused (3 : Int32) st).bind (un2 fun (v110 : Int32) (t111 : Sto) =>
           some (v110, t111))) else (
          ck (0 ≤ a1.toInt ∧ a1.toInt < (12 : Int)) (
           (fX8_begin (1) (2 : Int32) a5 ((8 : Int32) - (gI st 30 (a1.toNatClampNeg) 2)) st).bind (fun (t20 : Sto) =>
            ((lp (σ := (Int32 × Sto)) (ρ := Sto) (un2 fun (v25 : Int32) (t26 : Sto) =>
               if gI t26 (3) (0) (4) ≤ v25 then (
                some (.inr t26)) else (
                ck (0 ≤ v25.toInt ∧ v25.toInt < (20 : Int)) (
                 ck (¬ (1000 : Int32) = 0) (
                  ck (¬ a5 = 0) (
                   lt1 (if ((if ((gI t26 29 (v25.toNatClampNeg) 4) / (1000 : Int32)) < (100000 : Int32) then ((gI t26 29 (v25.toNatClampNeg) 4) / (1000 : Int32)) else (100000 : Int32)) / a5) < a6 then ((if ((gI t26 29 (v25.toNatClampNeg) 4) / (1000 : Int32)) < (100000 : Int32) then ((gI t26 29 (v25.toNatClampNeg) 4) / (1000 : Int32)) else (100000 : Int32)) / a5) else a6) fun (v65 : Int32) =>
                   (fX1_placeOf (a1.toNatClampNeg) v25 t26).bind (fun (v66 : Int32) =>
                    if v66 = (-1 : Int32) then (
                     (fX8_offer (1) v25 v65 (1 : Int32) t26).bind (fun (t72 : Sto) =>
                      lt1 (v25 + Int32.ofInt (1)) fun (v74 : Int32) =>
                      some (.inl (v74, t72)))) else (
                     (fX8_offer (1) v25 v65 (0 : Int32) t26).bind (fun (t69 : Sto) =>
                      lt1 (v25 + Int32.ofInt (1)) fun (v71 : Int32) =>
                      some (.inl (v71, t69)))))))))) 4000 ((0 : Int32), t20)).bind
             (fun (t27 : Sto) =>
              (fX9_aim a3 a4 t27).bind (fun (t75 : Sto) =>
               ck (0 ≤ a2.toInt ∧ a2.toInt < (40 : Int)) (
                (fX9_setGoal (20) (a2.toNatClampNeg) t75).bind (fun (t78 : Sto) =>
                 (fX11_bathGap (a1.toNatClampNeg) t78).bind (un2 fun (v80 : UInt64) (t81 : Sto) =>
                  (fX8_setBound (1) v80 t81).bind (fun (t83 : Sto) =>
                   ((lp (σ := (Int32 × Sto)) (ρ := Sto) (un2 fun (v88 : Int32) (t89 : Sto) =>
                      if (1000 : Int32) ≤ v88 then (
                       some (.inr t89)) else (
                       (fX8_advance (1) t89).bind (un2 fun (v100 : Int32) (t101 : Sto) =>
                        if v100 = 0 then (
                         some (.inr t101)) else (
                         (fX11_bathGap (a1.toNatClampNeg) t101).bind (un2 fun (v104 : UInt64) (t105 : Sto) =>
                          (fX8_judge (1) v104 (0 : Int64) t105).bind (fun (t107 : Sto) =>
                           lt1 (v88 + Int32.ofInt (1)) fun (v109 : Int32) =>
                           some (.inl (v109, t107)))))))) 4000 ((0 : Int32), t83)).bind
                    (fun (t90 : Sto) =>
                     (fX8_end (1) t90).bind (fun (t94 : Sto) =>
                      (fX11_accept t94).bind (un2 fun (v96 : Int32) (t97 : Sto) =>
                       some (gI t97 16 (1) 16, t97))))))))))))))))))))))
set_option maxHeartbeats 4000000 in
set_option maxRecDepth 100000 in
theorem mX11_correct (l : Launch) (E : XE) (hL : LX E) (st : Sto) {a1 : Int32} {a2 : Int32} {a3 : Int32} {a4 : Int32} {a5 : Int32} {a6 : Int32} {r : Int32} {st1 : Sto} (h : fX11_correct a1 a2 a3 a4 a5 a6 st = some (r, st1)) : Met l yX11_correct wsX11_correct ({ frames := 6, cells := 0, slots := 0, locals := 159 }) (va_Pc [.ref (E.2.2.1 0 (0)), .int a1, .int a2, .int a3, .int a4, .int a5, .int a6] (RX E st)) (QX E (some (.int r)) st1) 0 0 E.2.2.2 := by
  refine Met.ofW (cc := cX11_correct) (maxL := 10) (ret := (some .int)) (by decide) rfl ?_
  intro p e s m args below meth c s₁ B hml hv
  obtain ⟨rfl, hP, hK⟩ := hv
  have hown : s.vm.findClass RX11 = some m.cls := findClass_of_methodNamed B.named
  have C0 : CX p m c cX11_correct 10 s _ wsX11_correct RX11 E := ⟨⟨B.exec, B.bytes, hml, hown, atoms_spec (ws := wsX11_correct) B.pre⟩, hK⟩
  have hx := B.exec
  have hb := B.bytes
  have hr := B.returns
  have hlocks := B.notSynchronized
  have hw : SX E s st s.heap [] := ⟨hP, va_S.rf⟩
  have hl := lv_entry ([.ref (E.2.2.1 0 (0)), .int a1, .int a2, .int a3, .int a4, .int a5, .int a6]) (n := 10) (Nat.le_of_ble_eq_true rfl)
  rw [lg_entry_eq]
  generalize (lg_sl ([.ref (E.2.2.1 0 (0)), .int a1, .int a2, .int a3, .int a4, .int a5, .int a6]) ++ List.replicate (10 - (lg_sl ([.ref (E.2.2.1 0 (0)), .int a1, .int a2, .int a3, .int a4, .int a5, .int a6])).length) Slot.unset).toArray = ls at hl ⊢
  have hl : lv_has ls 10 [(0, .ref (E.2.2.1 0 (0))), (1, .int a1), (2, .int a2), (3, .int a3), (4, .int a4), (5, .int a5), (6, .int a6)] := hl
  unfold fX11_correct at h
  refine lv_aload_n hx hb dX11_correct_0 rfl (lv_at hl 0 rfl) ?_
  refine lv_iconst (v := 5) hx hb dX11_correct_1 (by decide) ?_
  refine lv_iload_n hx hb dX11_correct_2 rfl (lv_at hl 1 rfl) ?_
  obtain ⟨v1, hf2, h⟩ := bn_c h
  refine X_callV C0 hw (As := [.int (5 : Int32), .int a1]) (rest := []) (mX11_isThere l E hL st hf2) (cwV 2 C0.1.2.2.2.2 gX11_correct_X11_isThere rfl rfl rfl (by decide +kernel) ⟨Nat.le_of_ble_eq_true rfl, Nat.le_of_ble_eq_true rfl⟩) (X_recv_0 C0 hw (by decide)) rfl hl.1 rfl (Nat.le_of_ble_eq_true rfl) dX11_correct_3 ⟨Nat.zero_le _, Nat.zero_le _⟩ (fun H locs hw => ?_)
  refine W.eq (g2 := F0 m 6 ls [.int v1]) rfl ?_
  refine lv_if_eq (tgt := 18) hx hb dX11_correct_6 (by decide) (fun hc3 => ?_) (fun hc3 => ?_)
  · have h := ifp h hc3
    refine lv_aload_n hx hb dX11_correct_18 rfl (lv_at hl 0 rfl) ?_
    refine lv_iconst (v := 2) hx hb dX11_correct_19 (by decide) ?_
    obtain ⟨⟨v4, t5⟩, hf6, h⟩ := bn_c h
    have h := un2_d h
    refine X_callV C0 hw (As := [.int (2 : Int32)]) (rest := []) (mX11_refused l E hL st hf6) (cwV 1 C0.1.2.2.2.2 gX11_correct_X11_refused rfl rfl rfl (by decide +kernel) ⟨Nat.le_of_ble_eq_true rfl, Nat.le_of_ble_eq_true rfl⟩) (X_recv_0 C0 hw (by decide)) rfl hl.1 rfl (Nat.le_of_ble_eq_true rfl) dX11_correct_20 ⟨Nat.zero_le _, Nat.zero_le _⟩ (fun H locs hw => ?_)
    refine W.eq (g2 := F0 m 23 ls [.int v4]) rfl ?_
    cases h
    exact W.iret hx hb hr (X_fin C0 hw) hw.2.2.2 dX11_correct_23 hlocks
  · have h := ifn h hc3
    refine lv_aload_n hx hb dX11_correct_9 rfl (lv_at hl 0 rfl) ?_
    refine lv_iconst (v := 0) hx hb dX11_correct_10 (by decide) ?_
    refine lv_iload_n hx hb dX11_correct_11 rfl (lv_at hl 2 rfl) ?_
    obtain ⟨v7, hf8, h⟩ := bn_c h
    refine X_callV C0 hw (As := [.int (0 : Int32), .int a2]) (rest := []) (mX11_isThere l E hL st hf8) (cwV 2 C0.1.2.2.2.2 gX11_correct_X11_isThere rfl rfl rfl (by decide +kernel) ⟨Nat.le_of_ble_eq_true rfl, Nat.le_of_ble_eq_true rfl⟩) (X_recv_0 C0 hw (by decide)) rfl hl.1 rfl (Nat.le_of_ble_eq_true rfl) dX11_correct_12 ⟨Nat.zero_le _, Nat.zero_le _⟩ (fun H locs hw => ?_)
    refine W.eq (g2 := F0 m 15 ls [.int v7]) rfl ?_
    refine lv_if_ne (tgt := 24) hx hb dX11_correct_15 (by decide) (fun hc9 => ?_) (fun hc9 => ?_)
    · have h := ifn h hc9
      refine lv_iload_n hx hb dX11_correct_24 rfl (lv_at hl 3 rfl) ?_
      refine lv_iload hx hb dX11_correct_25 (lv_at hl 4 rfl) ?_
      obtain ⟨v10, hf11, h⟩ := bn_c h
      refine X_callS C0 hw (As := [.int a3, .int a4]) (rest := []) (mX9_isOne l E hL st hf11) (va_cwS 2 C0.1.2.2.2.2 gX11_correct_X9_isOne rfl rfl rfl (by decide +kernel) ⟨Nat.le_of_ble_eq_true rfl, Nat.le_of_ble_eq_true rfl⟩) rfl hl.1 rfl (Nat.le_of_ble_eq_true rfl) dX11_correct_27 ⟨Nat.zero_le _, Nat.zero_le _⟩ (fun H locs hw => ?_)
      refine W.eq (g2 := F0 m 30 ls [.int v10]) rfl ?_
      refine lv_if_eq (tgt := 43) hx hb dX11_correct_30 (by decide) (fun hc12 => ?_) (fun hc12 => ?_)
      · have h := ifp h hc12
        refine lv_aload_n hx hb dX11_correct_43 rfl (lv_at hl 0 rfl) ?_
        refine lv_iconst (v := 3) hx hb dX11_correct_44 (by decide) ?_
        obtain ⟨⟨v13, t14⟩, hf15, h⟩ := bn_c h
        have h := un2_d h
        refine X_callV C0 hw (As := [.int (3 : Int32)]) (rest := []) (mX11_refused l E hL st hf15) (cwV 1 C0.1.2.2.2.2 gX11_correct_X11_refused rfl rfl rfl (by decide +kernel) ⟨Nat.le_of_ble_eq_true rfl, Nat.le_of_ble_eq_true rfl⟩) (X_recv_0 C0 hw (by decide)) rfl hl.1 rfl (Nat.le_of_ble_eq_true rfl) dX11_correct_45 ⟨Nat.zero_le _, Nat.zero_le _⟩ (fun H locs hw => ?_)
        refine W.eq (g2 := F0 m 48 ls [.int v13]) rfl ?_
        cases h
        exact W.iret hx hb hr (X_fin C0 hw) hw.2.2.2 dX11_correct_48 hlocks
      · have h := ifn h hc12
        refine lv_iload hx hb dX11_correct_33 (lv_at hl 5 rfl) ?_
        refine lv_iload hx hb dX11_correct_35 (lv_at hl 6 rfl) ?_
        obtain ⟨v16, hf17, h⟩ := bn_c h
        refine X_callS C0 hw (As := [.int a5, .int a6]) (rest := []) (mX11_isGrid l E hL st hf17) (va_cwS 2 C0.1.2.2.2.2 gX11_correct_X11_isGrid rfl rfl rfl (by decide +kernel) ⟨Nat.le_of_ble_eq_true rfl, Nat.le_of_ble_eq_true rfl⟩) rfl hl.1 rfl (Nat.le_of_ble_eq_true rfl) dX11_correct_37 ⟨Nat.zero_le _, Nat.zero_le _⟩ (fun H locs hw => ?_)
        refine W.eq (g2 := F0 m 40 ls [.int v16]) rfl ?_
        refine lv_if_ne (tgt := 49) hx hb dX11_correct_40 (by decide) (fun hc18 => ?_) (fun hc18 => ?_)
        · have h := ifn h hc18
          refine lv_aload_n hx hb dX11_correct_49 rfl (lv_at hl 0 rfl) ?_
          refine X_g0_9 C0 hw (fun w h => (List.mem_cons_of_mem _ (List.mem_append_left _ (List.mem_append_left _ (List.mem_append_left _ (List.mem_append_left _ (List.mem_append_left _ (List.mem_append_left _ (List.mem_append_left _ (List.mem_append_right _ h)))))))))) (by decide) ((List.mem_cons_of_mem _ (List.mem_append_left _ (List.mem_append_left _ (List.mem_append_left _ (List.mem_append_left _ (List.mem_append_left _ (List.mem_append_left _ (List.mem_append_left _ (List.mem_append_left _ (List.mem_append_left _ (List.mem_of_getElem? (i := 0) rfl)))))))))))) dX11_correct_50 ?_
          refine lv_iload_n hx hb dX11_correct_53 rfl (lv_at hl 1 rfl) ?_
          refine X_ald_10 C0 hw (by decide) h (k := a1.toNatClampNeg) rfl dX11_correct_54 (fun hk19 h => ?_)
          refine lv_astore (lv' := [(7, .ref (E.2.2.1 30 (a1.toNatClampNeg))), (0, .ref (E.2.2.1 0 (0))), (1, .int a1), (2, .int a2), (3, .int a3), (4, .int a4), (5, .int a5), (6, .int a6)]) hx hb dX11_correct_55 hl (by decide) rfl (fun ls hl => ?_)
          refine lv_aload_n hx hb dX11_correct_57 rfl (lv_at hl 1 rfl) ?_
          refine X_g0_16 C0 hw (fun w h => (List.mem_cons_of_mem _ (List.mem_append_left _ (List.mem_append_left _ (List.mem_append_left _ (List.mem_append_left _ (List.mem_append_left _ (List.mem_append_left _ (List.mem_append_left _ (List.mem_append_right _ h)))))))))) (by decide) ((List.mem_cons_of_mem _ (List.mem_append_left _ (List.mem_append_left _ (List.mem_append_left _ (List.mem_append_left _ (List.mem_append_left _ (List.mem_append_left _ (List.mem_append_left _ (List.mem_append_left _ (List.mem_append_left _ (List.mem_of_getElem? (i := 1) rfl)))))))))))) dX11_correct_58 ?_
          refine lv_iconst (v := 2) hx hb dX11_correct_61 (by decide) ?_
          refine lv_iload hx hb dX11_correct_62 (lv_at hl 6 rfl) ?_
          refine lv_bipush (v := 8) hx hb dX11_correct_64 (by decide) ?_
          refine lv_aload hx hb dX11_correct_66 (lv_at hl 0 rfl) ?_
          refine X_g30_2 C0 hw (fun w h => (List.mem_cons_of_mem _ (List.mem_append_left _ (List.mem_append_left _ (List.mem_append_left _ (List.mem_append_left _ (List.mem_append_left _ (List.mem_append_left _ (List.mem_append_right _ h))))))))) hk19 ((List.mem_cons_of_mem _ (List.mem_append_left _ (List.mem_append_left _ (List.mem_append_left _ (List.mem_append_left _ (List.mem_append_left _ (List.mem_append_left _ (List.mem_append_left _ (List.mem_append_left _ (List.mem_append_left _ (List.mem_of_getElem? (i := 2) rfl)))))))))))) dX11_correct_68 ?_
          refine lv_isub hx hb dX11_correct_71 ?_
          obtain ⟨t20, hf21, h⟩ := bn_c h
          refine X_callV C0 hw (As := [.int (2 : Int32), .int a5, .int ((8 : Int32) - (gI st 30 (a1.toNatClampNeg) 2))]) (rest := []) (mX8_begin l E hL st (by decide) hf21) (cwV 3 C0.1.2.2.2.2 gX11_correct_X8_begin rfl rfl rfl (by decide +kernel) ⟨Nat.le_of_ble_eq_true rfl, Nat.le_of_ble_eq_true rfl⟩) (X_recv_16 C0 hw (by decide)) rfl hl.1 rfl (Nat.le_of_ble_eq_true rfl) dX11_correct_72 ⟨Nat.zero_le _, Nat.zero_le _⟩ (fun H locs hw => ?_)
          refine W.eq (g2 := F0 m 75 ls []) rfl ?_
          refine lv_iconst (v := 0) hx hb dX11_correct_75 (by decide) ?_
          refine lv_istore (lv' := [(8, .int (0 : Int32)), (7, .ref (E.2.2.1 30 (a1.toNatClampNeg))), (0, .ref (E.2.2.1 0 (0))), (1, .int a1), (2, .int a2), (3, .int a3), (4, .int a4), (5, .int a5), (6, .int a6)]) hx hb dX11_correct_76 hl (by decide) rfl (fun ls hl => ?_)
          refine lp_ind (fun q : (Int32 × Sto) => ∀ (H : Heap) (locs : List Loc), SX E s (q.2) H locs → ∀ ls : Array Slot, lv_has ls 10 [(8, .int (q.1)), (7, .ref (E.2.2.1 30 (a1.toNatClampNeg))), (0, .ref (E.2.2.1 0 (0))), (2, .int a2), (3, .int a3), (4, .int a4), (5, .int a5), (6, .int a6)] → W p l e (headSpec wsX11_correct ({ frames := 6, cells := 0, slots := 0, locals := 159 })).room s m ([.ref (E.2.2.1 0 (0)), .int a1, .int a2, .int a3, .int a4, .int a5, .int a6] : List Value).toArray below meth c H locs 0 0 (MQ below (QX E (some (.int r)) st1) ([.ref (E.2.2.1 0 (0)), .int a1, .int a2, .int a3, .int a4, .int a5, .int a6] : List Value).toArray s 0 0 E.2.2.2) (F0 m 78 ls [])) (fun q o24 h hB23 hX22 => ?_) _ _ h _ _ hw _ (lv_sub hl [0, 1, 2, 4, 5, 6, 7, 8] rfl)
          intro H locs hw ls hl
          obtain ⟨v25, t26⟩ := q
          have h := un2_d h
          have hw : SX E s t26 H locs := hw
          have hl : lv_has ls 10 [(8, .int v25), (7, .ref (E.2.2.1 30 (a1.toNatClampNeg))), (0, .ref (E.2.2.1 0 (0))), (2, .int a2), (3, .int a3), (4, .int a4), (5, .int a5), (6, .int a6)] := hl
          refine lv_iload hx hb dX11_correct_78 (lv_at hl 0 rfl) ?_
          refine lv_aload_n hx hb dX11_correct_80 rfl (lv_at hl 2 rfl) ?_
          refine X_g0_3 C0 hw (fun w h => (List.mem_cons_of_mem _ (List.mem_append_left _ (List.mem_append_left _ (List.mem_append_left _ (List.mem_append_left _ (List.mem_append_left _ (List.mem_append_left _ (List.mem_append_left _ (List.mem_append_right _ h)))))))))) (by decide) ((List.mem_cons_of_mem _ (List.mem_append_left _ (List.mem_append_left _ (List.mem_append_left _ (List.mem_append_left _ (List.mem_append_left _ (List.mem_append_left _ (List.mem_append_left _ (List.mem_append_left _ (List.mem_append_left _ (List.mem_of_getElem? (i := 3) rfl)))))))))))) dX11_correct_81 ?_
          refine lv_iconst (v := 4) hx hb dX11_correct_84 (by decide) ?_
          refine X_ialdL C0 hw (vp_in_iff.mpr (by decide +kernel)) (k := 4) rfl dX11_correct_85 ?_
          refine lv_icmp_ge (tgt := 151) hx hb dX11_correct_86 (by decide) (fun hc28 => ?_) (fun hc28 => ?_)
          · have h := ifp h hc28
            have h := hX22 _ (Option.some.inj h).symm
            have hl := lv_sub hl (l' := [(0, .ref (E.2.2.1 0 (0))), (2, .int a2), (3, .int a3), (4, .int a4), (7, .ref (E.2.2.1 30 (a1.toNatClampNeg)))]) [2, 3, 4, 5, 1] rfl
            refine lv_aload_n hx hb dX11_correct_151 rfl (lv_at hl 0 rfl) ?_
            refine X_g0_12 C0 hw (fun w h => (List.mem_cons_of_mem _ (List.mem_append_left _ (List.mem_append_left _ (List.mem_append_left _ (List.mem_append_left _ (List.mem_append_left _ (List.mem_append_left _ (List.mem_append_left _ (List.mem_append_right _ h)))))))))) (by decide) ((List.mem_cons_of_mem _ (List.mem_append_left _ (List.mem_append_left _ (List.mem_append_left _ (List.mem_append_left _ (List.mem_append_left _ (List.mem_append_left _ (List.mem_append_left _ (List.mem_append_left _ (List.mem_append_left _ (List.mem_of_getElem? (i := 11) rfl)))))))))))) dX11_correct_152 ?_
            refine lv_iload_n hx hb dX11_correct_155 rfl (lv_at hl 2 rfl) ?_
            refine lv_iload hx hb dX11_correct_156 (lv_at hl 3 rfl) ?_
            obtain ⟨t29, hf30, h⟩ := bn_c h
            refine X_callV C0 hw (As := [.int a3, .int a4]) (rest := []) (mX9_aim l E hL t26 hf30) (cwV 2 C0.1.2.2.2.2 gX11_correct_X9_aim rfl rfl rfl (by decide +kernel) ⟨Nat.le_of_ble_eq_true rfl, Nat.le_of_ble_eq_true rfl⟩) (X_recv_13 C0 hw (by decide)) rfl hl.1 rfl (Nat.le_of_ble_eq_true rfl) dX11_correct_158 ⟨Nat.zero_le _, Nat.zero_le _⟩ (fun H locs hw => ?_)
            refine W.eq (g2 := F0 m 161 ls []) rfl ?_
            refine lv_aload_n hx hb dX11_correct_161 rfl (lv_at hl 0 rfl) ?_
            refine X_g0_12 C0 hw (fun w h => (List.mem_cons_of_mem _ (List.mem_append_left _ (List.mem_append_left _ (List.mem_append_left _ (List.mem_append_left _ (List.mem_append_left _ (List.mem_append_left _ (List.mem_append_left _ (List.mem_append_right _ h)))))))))) (by decide) ((List.mem_cons_of_mem _ (List.mem_append_left _ (List.mem_append_left _ (List.mem_append_left _ (List.mem_append_left _ (List.mem_append_left _ (List.mem_append_left _ (List.mem_append_left _ (List.mem_append_left _ (List.mem_append_left _ (List.mem_of_getElem? (i := 11) rfl)))))))))))) dX11_correct_162 ?_
            refine lv_aload_n hx hb dX11_correct_165 rfl (lv_at hl 0 rfl) ?_
            refine X_g0_4 C0 hw (fun w h => (List.mem_cons_of_mem _ (List.mem_append_left _ (List.mem_append_left _ (List.mem_append_left _ (List.mem_append_left _ (List.mem_append_left _ (List.mem_append_left _ (List.mem_append_left _ (List.mem_append_right _ h)))))))))) (by decide) ((List.mem_cons_of_mem _ (List.mem_append_left _ (List.mem_append_left _ (List.mem_append_left _ (List.mem_append_left _ (List.mem_append_left _ (List.mem_append_left _ (List.mem_append_left _ (List.mem_append_left _ (List.mem_append_left _ (List.mem_of_getElem? (i := 12) rfl)))))))))))) dX11_correct_166 ?_
            refine lv_iload_n hx hb dX11_correct_169 rfl (lv_at hl 1 rfl) ?_
            refine X_ald_4 C0 hw (by decide) h (k := a2.toNatClampNeg) rfl dX11_correct_170 (fun hk31 h => ?_)
            refine X_g19_0 C0 hw (fun w h => (List.mem_cons_of_mem _ (List.mem_append_left _ (List.mem_append_left _ (List.mem_append_left _ (List.mem_append_left _ (List.mem_append_right _ h))))))) hk31 ((List.mem_cons_of_mem _ (List.mem_append_left _ (List.mem_append_left _ (List.mem_append_left _ (List.mem_append_left _ (List.mem_append_left _ (List.mem_append_left _ (List.mem_append_left _ (List.mem_append_left _ (List.mem_append_left _ (List.mem_of_getElem? (i := 13) rfl)))))))))))) dX11_correct_171 ?_
            obtain ⟨t32, hf33, h⟩ := bn_c h
            refine X_callV C0 hw (As := [.ref (E.2.2.1 (20) (a2.toNatClampNeg))]) (rest := []) (mX9_setGoal l E hL t29 hf33) (cwV 1 C0.1.2.2.2.2 gX11_correct_X9_setGoal rfl rfl rfl (by decide +kernel) ⟨Nat.le_of_ble_eq_true rfl, Nat.le_of_ble_eq_true rfl⟩) (X_recv_13 C0 hw (by decide)) rfl hl.1 rfl (Nat.le_of_ble_eq_true rfl) dX11_correct_174 ⟨Nat.zero_le _, Nat.zero_le _⟩ (fun H locs hw => ?_)
            refine W.eq (g2 := F0 m 177 ls []) rfl ?_
            refine lv_aload_n hx hb dX11_correct_177 rfl (lv_at hl 0 rfl) ?_
            refine X_g0_16 C0 hw (fun w h => (List.mem_cons_of_mem _ (List.mem_append_left _ (List.mem_append_left _ (List.mem_append_left _ (List.mem_append_left _ (List.mem_append_left _ (List.mem_append_left _ (List.mem_append_left _ (List.mem_append_right _ h)))))))))) (by decide) ((List.mem_cons_of_mem _ (List.mem_append_left _ (List.mem_append_left _ (List.mem_append_left _ (List.mem_append_left _ (List.mem_append_left _ (List.mem_append_left _ (List.mem_append_left _ (List.mem_append_left _ (List.mem_append_left _ (List.mem_of_getElem? (i := 1) rfl)))))))))))) dX11_correct_178 ?_
            refine lv_aload_n hx hb dX11_correct_181 rfl (lv_at hl 0 rfl) ?_
            refine lv_aload hx hb dX11_correct_182 (lv_at hl 4 rfl) ?_
            obtain ⟨⟨v34, t35⟩, hf36, h⟩ := bn_c h
            have h := un2_d h
            refine X_callV C0 hw (As := [.ref (E.2.2.1 30 (a1.toNatClampNeg))]) (rest := [.ref (E.2.2.1 16 (1))]) (mX11_bathGap l E hL t32 hk19 hf36) (cwV 1 C0.1.2.2.2.2 gX11_correct_X11_bathGap rfl rfl rfl (by decide +kernel) ⟨Nat.le_of_ble_eq_true rfl, Nat.le_of_ble_eq_true rfl⟩) (X_recv_0 C0 hw (by decide)) rfl hl.1 rfl (Nat.le_of_ble_eq_true rfl) dX11_correct_184 ⟨Nat.zero_le _, Nat.zero_le _⟩ (fun H locs hw => ?_)
            refine W.eq (g2 := F0 m 187 ls [.double v34, .ref (E.2.2.1 16 (1))]) rfl ?_
            obtain ⟨t37, hf38, h⟩ := bn_c h
            refine X_callV C0 hw (As := [.double v34]) (rest := []) (mX8_setBound l E hL t35 (by decide) hf38) (cwV 1 C0.1.2.2.2.2 gX11_correct_X8_setBound rfl rfl rfl (by decide +kernel) ⟨Nat.le_of_ble_eq_true rfl, Nat.le_of_ble_eq_true rfl⟩) (X_recv_16 C0 hw (by decide)) rfl hl.1 rfl (Nat.le_of_ble_eq_true rfl) dX11_correct_187 ⟨Nat.zero_le _, Nat.zero_le _⟩ (fun H locs hw => ?_)
            refine W.eq (g2 := F0 m 190 ls []) rfl ?_
            refine lv_iconst (v := 0) hx hb dX11_correct_190 (by decide) ?_
            refine lv_istore (lv' := [(8, .int (0 : Int32)), (0, .ref (E.2.2.1 0 (0))), (2, .int a2), (3, .int a3), (4, .int a4), (7, .ref (E.2.2.1 30 (a1.toNatClampNeg)))]) hx hb dX11_correct_191 hl (by decide) rfl (fun ls hl => ?_)
            refine bn_K h (fun K45 hK46 h => ?_)
            have HX47 : ∀ (t44 : Sto), K45 t44 = some (r, st1) → ∀ (H : Heap) (locs : List Loc), SX E s t44 H locs → ∀ ls : Array Slot, lv_has ls 10 [(0, .ref (E.2.2.1 0 (0)))] → W p l e (headSpec wsX11_correct ({ frames := 6, cells := 0, slots := 0, locals := 159 })).room s m ([.ref (E.2.2.1 0 (0)), .int a1, .int a2, .int a3, .int a4, .int a5, .int a6] : List Value).toArray below meth c H locs 0 0 (MQ below (QX E (some (.int r)) st1) ([.ref (E.2.2.1 0 (0)), .int a1, .int a2, .int a3, .int a4, .int a5, .int a6] : List Value).toArray s 0 0 E.2.2.2) (F0 m 231 ls []) := by
              intro t44 h H locs hw ls hl
              have h := kk1 h hK46
              refine lv_aload_n hx hb dX11_correct_231 rfl (lv_at hl 0 rfl) ?_
              refine X_g0_16 C0 hw (fun w h => (List.mem_cons_of_mem _ (List.mem_append_left _ (List.mem_append_left _ (List.mem_append_left _ (List.mem_append_left _ (List.mem_append_left _ (List.mem_append_left _ (List.mem_append_left _ (List.mem_append_right _ h)))))))))) (by decide) ((List.mem_cons_of_mem _ (List.mem_append_left _ (List.mem_append_left _ (List.mem_append_left _ (List.mem_append_left _ (List.mem_append_left _ (List.mem_append_left _ (List.mem_append_left _ (List.mem_append_left _ (List.mem_append_left _ (List.mem_of_getElem? (i := 1) rfl)))))))))))) dX11_correct_232 ?_
              obtain ⟨t48, hf49, h⟩ := bn_c h
              refine X_callV C0 hw (As := []) (rest := []) (mX8_end l E hL t44 (by decide) hf49) (cwV 0 C0.1.2.2.2.2 gX11_correct_X8_end rfl rfl rfl (by decide +kernel) ⟨Nat.le_of_ble_eq_true rfl, Nat.le_of_ble_eq_true rfl⟩) (X_recv_16 C0 hw (by decide)) rfl hl.1 rfl (Nat.le_of_ble_eq_true rfl) dX11_correct_235 ⟨Nat.zero_le _, Nat.zero_le _⟩ (fun H locs hw => ?_)
              refine W.eq (g2 := F0 m 238 ls []) rfl ?_
              refine lv_aload_n hx hb dX11_correct_238 rfl (lv_at hl 0 rfl) ?_
              obtain ⟨⟨v50, t51⟩, hf52, h⟩ := bn_c h
              have h := un2_d h
              refine X_callV C0 hw (As := []) (rest := []) (mX11_accept l E hL t48 hf52) (cwV 0 C0.1.2.2.2.2 gX11_correct_X11_accept rfl rfl rfl (by decide +kernel) ⟨Nat.le_of_ble_eq_true rfl, Nat.le_of_ble_eq_true rfl⟩) (X_recv_0 C0 hw (by decide)) rfl hl.1 rfl (Nat.le_of_ble_eq_true rfl) dX11_correct_239 ⟨Nat.zero_le _, Nat.zero_le _⟩ (fun H locs hw => ?_)
              refine W.eq (g2 := F0 m 242 ls [.int v50]) rfl ?_
              refine lv_pop hx hb dX11_correct_242 rfl ?_
              refine lv_aload_n hx hb dX11_correct_243 rfl (lv_at hl 0 rfl) ?_
              refine X_g0_16 C0 hw (fun w h => (List.mem_cons_of_mem _ (List.mem_append_left _ (List.mem_append_left _ (List.mem_append_left _ (List.mem_append_left _ (List.mem_append_left _ (List.mem_append_left _ (List.mem_append_left _ (List.mem_append_right _ h)))))))))) (by decide) ((List.mem_cons_of_mem _ (List.mem_append_left _ (List.mem_append_left _ (List.mem_append_left _ (List.mem_append_left _ (List.mem_append_left _ (List.mem_append_left _ (List.mem_append_left _ (List.mem_append_left _ (List.mem_append_left _ (List.mem_of_getElem? (i := 1) rfl)))))))))))) dX11_correct_244 ?_
              refine X_g16_16 C0 hw (fun w h => (List.mem_cons_of_mem _ (List.mem_append_left _ (List.mem_append_left _ (List.mem_append_left _ (List.mem_append_right _ h)))))) (by decide) ((List.mem_cons_of_mem _ (List.mem_append_left _ (List.mem_append_left _ (List.mem_append_left _ (List.mem_append_left _ (List.mem_append_left _ (List.mem_append_left _ (List.mem_append_left _ (List.mem_append_left _ (List.mem_append_left _ (List.mem_of_getElem? (i := 14) rfl)))))))))))) dX11_correct_247 ?_
              cases h
              exact W.iret hx hb hr (X_fin C0 hw) hw.2.2.2 dX11_correct_250 hlocks
            refine lp_ind (fun q : (Int32 × Sto) => ∀ (H : Heap) (locs : List Loc), SX E s (q.2) H locs → ∀ ls : Array Slot, lv_has ls 10 [(8, .int (q.1)), (0, .ref (E.2.2.1 0 (0))), (7, .ref (E.2.2.1 30 (a1.toNatClampNeg)))] → W p l e (headSpec wsX11_correct ({ frames := 6, cells := 0, slots := 0, locals := 159 })).room s m ([.ref (E.2.2.1 0 (0)), .int a1, .int a2, .int a3, .int a4, .int a5, .int a6] : List Value).toArray below meth c H locs 0 0 (MQ below (QX E (some (.int r)) st1) ([.ref (E.2.2.1 0 (0)), .int a1, .int a2, .int a3, .int a4, .int a5, .int a6] : List Value).toArray s 0 0 E.2.2.2) (F0 m 193 ls [])) (fun q o41 h hB40 hX39 => ?_) _ _ h _ _ hw _ (lv_sub hl [0, 1, 5] rfl)
            intro H locs hw ls hl
            obtain ⟨v42, t43⟩ := q
            have h := un2_d h
            have hw : SX E s t43 H locs := hw
            have hl : lv_has ls 10 [(8, .int v42), (0, .ref (E.2.2.1 0 (0))), (7, .ref (E.2.2.1 30 (a1.toNatClampNeg)))] := hl
            refine lv_iload hx hb dX11_correct_193 (lv_at hl 0 rfl) ?_
            refine lv_sipush (v := 1000) hx hb dX11_correct_195 (by decide) ?_
            refine lv_icmp_ge (tgt := 231) hx hb dX11_correct_198 (by decide) (fun hc53 => ?_) (fun hc53 => ?_)
            · have h := ifp h hc53
              have h := hX39 _ (Option.some.inj h).symm
              exact HX47 _ h _ _ hw _ (lv_sub hl [1] rfl)
            · have h := ifn h hc53
              refine lv_aload_n hx hb dX11_correct_201 rfl (lv_at hl 1 rfl) ?_
              refine X_g0_16 C0 hw (fun w h => (List.mem_cons_of_mem _ (List.mem_append_left _ (List.mem_append_left _ (List.mem_append_left _ (List.mem_append_left _ (List.mem_append_left _ (List.mem_append_left _ (List.mem_append_left _ (List.mem_append_right _ h)))))))))) (by decide) ((List.mem_cons_of_mem _ (List.mem_append_left _ (List.mem_append_left _ (List.mem_append_left _ (List.mem_append_left _ (List.mem_append_left _ (List.mem_append_left _ (List.mem_append_left _ (List.mem_append_left _ (List.mem_append_left _ (List.mem_of_getElem? (i := 1) rfl)))))))))))) dX11_correct_202 ?_
              obtain ⟨⟨v54, t55⟩, hf56, h⟩ := bn_c h
              have h := un2_d h
              refine X_callV C0 hw (As := []) (rest := []) (mX8_advance l E hL t43 (by decide) hf56) (cwV 0 C0.1.2.2.2.2 gX11_correct_X8_advance rfl rfl rfl (by decide +kernel) ⟨Nat.le_of_ble_eq_true rfl, Nat.le_of_ble_eq_true rfl⟩) (X_recv_16 C0 hw (by decide)) rfl hl.1 rfl (Nat.le_of_ble_eq_true rfl) dX11_correct_205 ⟨Nat.zero_le _, Nat.zero_le _⟩ (fun H locs hw => ?_)
              refine W.eq (g2 := F0 m 208 ls [.int v54]) rfl ?_
              refine lv_if_eq (tgt := 231) hx hb dX11_correct_208 (by decide) (fun hc57 => ?_) (fun hc57 => ?_)
              · have h := ifp h hc57
                have h := hX39 _ (Option.some.inj h).symm
                exact HX47 _ h _ _ hw _ (lv_sub hl [1] rfl)
              · have h := ifn h hc57
                refine lv_aload_n hx hb dX11_correct_211 rfl (lv_at hl 1 rfl) ?_
                refine X_g0_16 C0 hw (fun w h => (List.mem_cons_of_mem _ (List.mem_append_left _ (List.mem_append_left _ (List.mem_append_left _ (List.mem_append_left _ (List.mem_append_left _ (List.mem_append_left _ (List.mem_append_left _ (List.mem_append_right _ h)))))))))) (by decide) ((List.mem_cons_of_mem _ (List.mem_append_left _ (List.mem_append_left _ (List.mem_append_left _ (List.mem_append_left _ (List.mem_append_left _ (List.mem_append_left _ (List.mem_append_left _ (List.mem_append_left _ (List.mem_append_left _ (List.mem_of_getElem? (i := 1) rfl)))))))))))) dX11_correct_212 ?_
                refine lv_aload_n hx hb dX11_correct_215 rfl (lv_at hl 1 rfl) ?_
                refine lv_aload hx hb dX11_correct_216 (lv_at hl 2 rfl) ?_
                obtain ⟨⟨v58, t59⟩, hf60, h⟩ := bn_c h
                have h := un2_d h
                refine X_callV C0 hw (As := [.ref (E.2.2.1 30 (a1.toNatClampNeg))]) (rest := [.ref (E.2.2.1 16 (1))]) (mX11_bathGap l E hL t55 hk19 hf60) (cwV 1 C0.1.2.2.2.2 gX11_correct_X11_bathGap rfl rfl rfl (by decide +kernel) ⟨Nat.le_of_ble_eq_true rfl, Nat.le_of_ble_eq_true rfl⟩) (X_recv_0 C0 hw (by decide)) rfl hl.1 rfl (Nat.le_of_ble_eq_true rfl) dX11_correct_218 ⟨Nat.zero_le _, Nat.zero_le _⟩ (fun H locs hw => ?_)
                refine W.eq (g2 := F0 m 221 ls [.double v58, .ref (E.2.2.1 16 (1))]) rfl ?_
                refine lv_lconst (v := 0) hx hb dX11_correct_221 (by decide) ?_
                obtain ⟨t61, hf62, h⟩ := bn_c h
                refine X_callV C0 hw (As := [.double v58, .long (0 : Int64)]) (rest := []) (mX8_judge l E hL t59 (by decide) hf62) (cwV 2 C0.1.2.2.2.2 gX11_correct_X8_judge rfl rfl rfl (by decide +kernel) ⟨Nat.le_of_ble_eq_true rfl, Nat.le_of_ble_eq_true rfl⟩) (X_recv_16 C0 hw (by decide)) rfl hl.1 rfl (Nat.le_of_ble_eq_true rfl) dX11_correct_222 ⟨Nat.zero_le _, Nat.zero_le _⟩ (fun H locs hw => ?_)
                refine W.eq (g2 := F0 m 225 ls []) rfl ?_
                refine x_iinc hx hb h dX11_correct_225 hl (q := 0) rfl (fun v63 => [(8, .int v63), (0, .ref (E.2.2.1 0 (0))), (7, .ref (E.2.2.1 30 (a1.toNatClampNeg)))]) (by decide) (fun _ => rfl) (fun v63 ls hl h => ?_)
                refine lv_goto (tgt := 193) hx hb dX11_correct_228 (by decide) ?_
                exact hB40 _ (Option.some.inj h).symm _ _ hw _ (lv_sub hl [0, 1, 2] rfl)
          · have h := ifn h hc28
            refine lv_iload hx hb dX11_correct_89 (lv_at hl 7 rfl) ?_
            refine lv_ldc hx hb hown (C0.1.2.2.2.2 _ (List.mem_cons_of_mem _ (List.mem_append_left _ (List.mem_append_left _ (List.mem_append_left _ (List.mem_append_left _ (List.mem_append_left _ (List.mem_append_left _ (List.mem_append_left _ (List.mem_append_left _ (List.mem_append_left _ (List.mem_of_getElem? (i := 4) rfl)))))))))))) dX11_correct_91 ?_
            refine lv_aload_n hx hb dX11_correct_93 rfl (lv_at hl 2 rfl) ?_
            refine X_g0_8 C0 hw (fun w h => (List.mem_cons_of_mem _ (List.mem_append_left _ (List.mem_append_left _ (List.mem_append_left _ (List.mem_append_left _ (List.mem_append_left _ (List.mem_append_left _ (List.mem_append_left _ (List.mem_append_right _ h)))))))))) (by decide) ((List.mem_cons_of_mem _ (List.mem_append_left _ (List.mem_append_left _ (List.mem_append_left _ (List.mem_append_left _ (List.mem_append_left _ (List.mem_append_left _ (List.mem_append_left _ (List.mem_append_left _ (List.mem_append_left _ (List.mem_of_getElem? (i := 5) rfl)))))))))))) dX11_correct_94 ?_
            refine lv_iload hx hb dX11_correct_97 (lv_at hl 0 rfl) ?_
            refine X_ald_9 C0 hw (by decide) h (k := v25.toNatClampNeg) rfl dX11_correct_99 (fun hk64 h => ?_)
            refine X_g29_4 C0 hw (fun w h => (List.mem_cons_of_mem _ (List.mem_append_left _ (List.mem_append_left _ (List.mem_append_left _ (List.mem_append_left _ (List.mem_append_left _ (List.mem_append_right _ h)))))))) hk64 ((List.mem_cons_of_mem _ (List.mem_append_left _ (List.mem_append_left _ (List.mem_append_left _ (List.mem_append_left _ (List.mem_append_left _ (List.mem_append_left _ (List.mem_append_left _ (List.mem_append_left _ (List.mem_append_left _ (List.mem_of_getElem? (i := 6) rfl)))))))))))) dX11_correct_100 ?_
            refine lv_sipush (v := 1000) hx hb dX11_correct_103 (by decide) ?_
            refine x_idiv hx hb h dX11_correct_106 (fun h => ?_)
            refine va_mmin hx hb (hml.trans hl.1.symm) hown (C0.1.2.2.2.2 _ (List.mem_cons_of_mem _ (List.mem_append_left _ (List.mem_append_left _ (List.mem_append_left _ (List.mem_append_left _ (List.mem_append_left _ (List.mem_append_left _ (List.mem_append_left _ (List.mem_append_left _ (List.mem_append_left _ (List.mem_of_getElem? (i := 7) rfl)))))))))))) (C0.1.2.2.2.2 _ (List.mem_cons_of_mem _ (List.mem_append_left _ (List.mem_append_left _ (List.mem_append_left _ (List.mem_append_left _ (List.mem_append_left _ (List.mem_append_left _ (List.mem_append_left _ (List.mem_append_left _ (List.mem_append_left _ (List.mem_of_getElem? (i := 8) rfl)))))))))))) (C0.1.2.2.2.2 _ (List.mem_cons_of_mem _ (List.mem_append_left _ (List.mem_append_left _ (List.mem_append_left _ (List.mem_append_left _ (List.mem_append_left _ (List.mem_append_left _ (List.mem_append_left _ (List.mem_append_left _ (List.mem_append_left _ (List.mem_of_getElem? (i := 9) rfl)))))))))))) (C0.1.2.2.2.2 _ (List.mem_cons_of_mem _ (List.mem_append_left _ (List.mem_append_left _ (List.mem_append_left _ (List.mem_append_left _ (List.mem_append_left _ (List.mem_append_left _ (List.mem_append_left _ (List.mem_append_left _ (List.mem_append_left _ (List.mem_of_getElem? (i := 10) rfl)))))))))))) (Nat.le_of_ble_eq_true rfl) (Nat.le_of_ble_eq_true rfl) (Nat.zero_le _) (Nat.zero_le _) dX11_correct_107 ?_
            refine lv_iload hx hb dX11_correct_110 (lv_at hl 6 rfl) ?_
            refine x_idiv hx hb h dX11_correct_112 (fun h => ?_)
            refine va_mmin hx hb (hml.trans hl.1.symm) hown (C0.1.2.2.2.2 _ (List.mem_cons_of_mem _ (List.mem_append_left _ (List.mem_append_left _ (List.mem_append_left _ (List.mem_append_left _ (List.mem_append_left _ (List.mem_append_left _ (List.mem_append_left _ (List.mem_append_left _ (List.mem_append_left _ (List.mem_of_getElem? (i := 7) rfl)))))))))))) (C0.1.2.2.2.2 _ (List.mem_cons_of_mem _ (List.mem_append_left _ (List.mem_append_left _ (List.mem_append_left _ (List.mem_append_left _ (List.mem_append_left _ (List.mem_append_left _ (List.mem_append_left _ (List.mem_append_left _ (List.mem_append_left _ (List.mem_of_getElem? (i := 8) rfl)))))))))))) (C0.1.2.2.2.2 _ (List.mem_cons_of_mem _ (List.mem_append_left _ (List.mem_append_left _ (List.mem_append_left _ (List.mem_append_left _ (List.mem_append_left _ (List.mem_append_left _ (List.mem_append_left _ (List.mem_append_left _ (List.mem_append_left _ (List.mem_of_getElem? (i := 9) rfl)))))))))))) (C0.1.2.2.2.2 _ (List.mem_cons_of_mem _ (List.mem_append_left _ (List.mem_append_left _ (List.mem_append_left _ (List.mem_append_left _ (List.mem_append_left _ (List.mem_append_left _ (List.mem_append_left _ (List.mem_append_left _ (List.mem_append_left _ (List.mem_of_getElem? (i := 10) rfl)))))))))))) (Nat.le_of_ble_eq_true rfl) (Nat.le_of_ble_eq_true rfl) (Nat.zero_le _) (Nat.zero_le _) dX11_correct_113 ?_
            refine x_topi h (fun v65 h => ?_)
            refine lv_istore (lv' := [(9, .int v65), (8, .int v25), (7, .ref (E.2.2.1 30 (a1.toNatClampNeg))), (0, .ref (E.2.2.1 0 (0))), (2, .int a2), (3, .int a3), (4, .int a4), (5, .int a5), (6, .int a6)]) hx hb dX11_correct_116 hl (by decide) rfl (fun ls hl => ?_)
            refine lv_aload_n hx hb dX11_correct_118 rfl (lv_at hl 3 rfl) ?_
            refine X_g0_16 C0 hw (fun w h => (List.mem_cons_of_mem _ (List.mem_append_left _ (List.mem_append_left _ (List.mem_append_left _ (List.mem_append_left _ (List.mem_append_left _ (List.mem_append_left _ (List.mem_append_left _ (List.mem_append_right _ h)))))))))) (by decide) ((List.mem_cons_of_mem _ (List.mem_append_left _ (List.mem_append_left _ (List.mem_append_left _ (List.mem_append_left _ (List.mem_append_left _ (List.mem_append_left _ (List.mem_append_left _ (List.mem_append_left _ (List.mem_append_left _ (List.mem_of_getElem? (i := 1) rfl)))))))))))) dX11_correct_119 ?_
            refine lv_iload hx hb dX11_correct_122 (lv_at hl 1 rfl) ?_
            refine lv_iload hx hb dX11_correct_124 (lv_at hl 0 rfl) ?_
            refine lv_aload hx hb dX11_correct_126 (lv_at hl 2 rfl) ?_
            refine lv_iload hx hb dX11_correct_128 (lv_at hl 1 rfl) ?_
            obtain ⟨v66, hf67, h⟩ := bn_c h
            refine X_callV C0 hw (As := [.int v25]) (rest := [.int v65, .int v25, .ref (E.2.2.1 16 (1))]) (mX1_placeOf l E hL t26 hk19 hf67) (cwV 1 C0.1.2.2.2.2 gX11_correct_X1_placeOf rfl rfl rfl (by decide +kernel) ⟨Nat.le_of_ble_eq_true rfl, Nat.le_of_ble_eq_true rfl⟩) (X_recv_30 C0 hw hk19) rfl hl.1 rfl (Nat.le_of_ble_eq_true rfl) dX11_correct_130 ⟨Nat.zero_le _, Nat.zero_le _⟩ (fun H locs hw => ?_)
            refine W.eq (g2 := F0 m 133 ls [.int v66, .int v65, .int v25, .ref (E.2.2.1 16 (1))]) rfl ?_
            refine lv_iconst (v := -1) hx hb dX11_correct_133 (by decide) ?_
            refine lv_icmp_ne (tgt := 141) hx hb dX11_correct_134 (by decide) (fun hc68 => ?_) (fun hc68 => ?_)
            · have h := ifn h hc68
              refine lv_iconst (v := 0) hx hb dX11_correct_141 (by decide) ?_
              obtain ⟨t69, hf70, h⟩ := bn_c h
              refine X_callV C0 hw (As := [.int v25, .int v65, .int (0 : Int32)]) (rest := []) (mX8_offer l E hL t26 (by decide) hf70) (cwV 3 C0.1.2.2.2.2 gX11_correct_X8_offer rfl rfl rfl (by decide +kernel) ⟨Nat.le_of_ble_eq_true rfl, Nat.le_of_ble_eq_true rfl⟩) (X_recv_16 C0 hw (by decide)) rfl hl.1 rfl (Nat.le_of_ble_eq_true rfl) dX11_correct_142 ⟨Nat.zero_le _, Nat.zero_le _⟩ (fun H locs hw => ?_)
              refine W.eq (g2 := F0 m 145 ls []) rfl ?_
              refine x_iinc hx hb h dX11_correct_145 hl (q := 1) rfl (fun v71 => [(8, .int v71), (9, .int v65), (7, .ref (E.2.2.1 30 (a1.toNatClampNeg))), (0, .ref (E.2.2.1 0 (0))), (2, .int a2), (3, .int a3), (4, .int a4), (5, .int a5), (6, .int a6)]) (by decide) (fun _ => rfl) (fun v71 ls hl h => ?_)
              refine lv_goto (tgt := 78) hx hb dX11_correct_148 (by decide) ?_
              exact hB23 _ (Option.some.inj h).symm _ _ hw _ (lv_sub hl [0, 2, 3, 4, 5, 6, 7, 8] rfl)
            · have h := ifp h hc68
              refine lv_iconst (v := 1) hx hb dX11_correct_137 (by decide) ?_
              refine lv_goto (tgt := 142) hx hb dX11_correct_138 (by decide) ?_
              obtain ⟨t72, hf73, h⟩ := bn_c h
              refine X_callV C0 hw (As := [.int v25, .int v65, .int (1 : Int32)]) (rest := []) (mX8_offer l E hL t26 (by decide) hf73) (cwV 3 C0.1.2.2.2.2 gX11_correct_X8_offer rfl rfl rfl (by decide +kernel) ⟨Nat.le_of_ble_eq_true rfl, Nat.le_of_ble_eq_true rfl⟩) (X_recv_16 C0 hw (by decide)) rfl hl.1 rfl (Nat.le_of_ble_eq_true rfl) dX11_correct_142 ⟨Nat.zero_le _, Nat.zero_le _⟩ (fun H locs hw => ?_)
              refine W.eq (g2 := F0 m 145 ls []) rfl ?_
              refine x_iinc hx hb h dX11_correct_145 hl (q := 1) rfl (fun v74 => [(8, .int v74), (9, .int v65), (7, .ref (E.2.2.1 30 (a1.toNatClampNeg))), (0, .ref (E.2.2.1 0 (0))), (2, .int a2), (3, .int a3), (4, .int a4), (5, .int a5), (6, .int a6)]) (by decide) (fun _ => rfl) (fun v74 ls hl h => ?_)
              refine lv_goto (tgt := 78) hx hb dX11_correct_148 (by decide) ?_
              exact hB23 _ (Option.some.inj h).symm _ _ hw _ (lv_sub hl [0, 2, 3, 4, 5, 6, 7, 8] rfl)
        · have h := ifp h hc18
          refine lv_aload_n hx hb dX11_correct_43 rfl (lv_at hl 0 rfl) ?_
          refine lv_iconst (v := 3) hx hb dX11_correct_44 (by decide) ?_
          obtain ⟨⟨v110, t111⟩, hf112, h⟩ := bn_c h
          have h := un2_d h
          refine X_callV C0 hw (As := [.int (3 : Int32)]) (rest := []) (mX11_refused l E hL st hf112) (cwV 1 C0.1.2.2.2.2 gX11_correct_X11_refused rfl rfl rfl (by decide +kernel) ⟨Nat.le_of_ble_eq_true rfl, Nat.le_of_ble_eq_true rfl⟩) (X_recv_0 C0 hw (by decide)) rfl hl.1 rfl (Nat.le_of_ble_eq_true rfl) dX11_correct_45 ⟨Nat.zero_le _, Nat.zero_le _⟩ (fun H locs hw => ?_)
          refine W.eq (g2 := F0 m 48 ls [.int v110]) rfl ?_
          cases h
          exact W.iret hx hb hr (X_fin C0 hw) hw.2.2.2 dX11_correct_48 hlocks
    · have h := ifp h hc9
      refine lv_aload_n hx hb dX11_correct_18 rfl (lv_at hl 0 rfl) ?_
      refine lv_iconst (v := 2) hx hb dX11_correct_19 (by decide) ?_
      obtain ⟨⟨v113, t114⟩, hf115, h⟩ := bn_c h
      have h := un2_d h
      refine X_callV C0 hw (As := [.int (2 : Int32)]) (rest := []) (mX11_refused l E hL st hf115) (cwV 1 C0.1.2.2.2.2 gX11_correct_X11_refused rfl rfl rfl (by decide +kernel) ⟨Nat.le_of_ble_eq_true rfl, Nat.le_of_ble_eq_true rfl⟩) (X_recv_0 C0 hw (by decide)) rfl hl.1 rfl (Nat.le_of_ble_eq_true rfl) dX11_correct_20 ⟨Nat.zero_le _, Nat.zero_le _⟩ (fun H locs hw => ?_)
      refine W.eq (g2 := F0 m 23 ls [.int v113]) rfl ?_
      cases h
      exact W.iret hx hb hr (X_fin C0 hw) hw.2.2.2 dX11_correct_23 hlocks

def fX11_addition (a1 : Int32) (st : Sto) : Option Int32 :=
  (fX8_resultOf (1) a1 st).bind (fun (v1 : Int32) =>
   some v1)
set_option maxHeartbeats 4000000 in
set_option maxRecDepth 100000 in
theorem mX11_addition (l : Launch) (E : XE) (hL : LX E) (st : Sto) {a1 : Int32} {r : Int32} (h : fX11_addition a1 st = some r) : Met l yX11_addition wsX11_addition ({ frames := 1, cells := 0, slots := 0, locals := 22 }) (va_Pc [.ref (E.2.2.1 0 (0)), .int a1] (RX E st)) (QX E (some (.int r)) st) 0 0 E.2.2.2 := by
  refine Met.ofW (cc := cX11_addition) (maxL := 2) (ret := (some .int)) (by decide) rfl ?_
  intro p e s m args below meth c s₁ B hml hv
  obtain ⟨rfl, hP, hK⟩ := hv
  have hown : s.vm.findClass RX11 = some m.cls := findClass_of_methodNamed B.named
  have C0 : CX p m c cX11_addition 2 s _ wsX11_addition RX11 E := ⟨⟨B.exec, B.bytes, hml, hown, atoms_spec (ws := wsX11_addition) B.pre⟩, hK⟩
  have hx := B.exec
  have hb := B.bytes
  have hr := B.returns
  have hlocks := B.notSynchronized
  have hw : SX E s st s.heap [] := ⟨hP, va_S.rf⟩
  have hl := lv_entry ([.ref (E.2.2.1 0 (0)), .int a1]) (n := 2) (Nat.le_of_ble_eq_true rfl)
  rw [lg_entry_eq]
  generalize (lg_sl ([.ref (E.2.2.1 0 (0)), .int a1]) ++ List.replicate (2 - (lg_sl ([.ref (E.2.2.1 0 (0)), .int a1])).length) Slot.unset).toArray = ls at hl ⊢
  have hl : lv_has ls 2 [(0, .ref (E.2.2.1 0 (0))), (1, .int a1)] := hl
  unfold fX11_addition at h
  refine lv_aload_n hx hb dX11_addition_0 rfl (lv_at hl 0 rfl) ?_
  refine X_g0_16 C0 hw (fun w h => (List.mem_cons_of_mem _ (List.mem_append_left _ (List.mem_append_right _ h)))) (by decide) ((List.mem_cons_of_mem _ (List.mem_append_left _ (List.mem_append_left _ (List.mem_of_getElem? (i := 0) rfl))))) dX11_addition_1 ?_
  refine lv_iload_n hx hb dX11_addition_4 rfl (lv_at hl 1 rfl) ?_
  obtain ⟨v1, hf2, h⟩ := bn_c h
  refine X_callV C0 hw (As := [.int a1]) (rest := []) (mX8_resultOf l E hL st (by decide) hf2) (cwV 1 C0.1.2.2.2.2 gX11_addition_X8_resultOf rfl rfl rfl (by decide +kernel) ⟨Nat.le_of_ble_eq_true rfl, Nat.le_of_ble_eq_true rfl⟩) (X_recv_16 C0 hw (by decide)) rfl hl.1 rfl (Nat.le_of_ble_eq_true rfl) dX11_addition_5 ⟨Nat.zero_le _, Nat.zero_le _⟩ (fun H locs hw => ?_)
  refine W.eq (g2 := F0 m 8 ls [.int v1]) rfl ?_
  cases h
  exact W.iret hx hb hr (X_fin C0 hw) hw.2.2.2 dX11_addition_8 hlocks

def fX11_measured (a1 : Int32) (st : Sto) : Option (Int32 × Sto) :=
  (fX11_isThere (5 : Int32) a1 st).bind (fun (v1 : Int32) =>
   if v1 = 0 then (
    (fX11_denied (2 : Int32) st).bind (un2 fun (v23 : Int32) (t24 : Sto) =>
     ck (v23 &&& 1 = v23) (
      some (v23, t24)))) else (
    ck (0 ≤ a1.toInt ∧ a1.toInt < (12 : Int)) (
     jn (fun (v8 : Int32) =>
      (fX0_note (9 : Int32) a1 v8 (0 : Int32) st).bind (un2 fun (v9 : (Nat × Nat)) (t10 : Sto) => un2 (fun (qf12 qi13 : Nat) =>
        (fX11_copyRow (33) (a1.toNatClampNeg) qf12 qi13 t10).bind (fun (t14 : Sto) =>
         (fX11_copyRow (1) (0) (33) (a1.toNatClampNeg) t14).bind (fun (t16 : Sto) =>
          lt1 (sI t16 30 (a1.toNatClampNeg) 5 (1 : Int32)) fun (t18 : Sto) =>
          (fX11_accept t18).bind (un2 fun (v19 : Int32) (t20 : Sto) =>
           ck (v19 &&& 1 = v19) (
            some (v19, t20)))))) v9)) fun K5 =>
     if gI st 30 (a1.toNatClampNeg) 5 = 0 then (
      K5 (0 : Int32)) else (
      K5 (1 : Int32)))))
set_option maxHeartbeats 4000000 in
set_option maxRecDepth 100000 in
theorem mX11_measured (l : Launch) (E : XE) (hL : LX E) (st : Sto) {a1 : Int32} {r : Int32} {st1 : Sto} (h : fX11_measured a1 st = some (r, st1)) : Met l yX11_measured wsX11_measured ({ frames := 2, cells := 0, slots := 0, locals := 69 }) (va_Pc [.ref (E.2.2.1 0 (0)), .int a1] (RX E st)) (QX E (some (.int r)) st1) 0 0 E.2.2.2 := by
  refine Met.ofW (cc := cX11_measured) (maxL := 4) (ret := (some .boolean)) (by decide) rfl ?_
  intro p e s m args below meth c s₁ B hml hv
  obtain ⟨rfl, hP, hK⟩ := hv
  have hown : s.vm.findClass RX11 = some m.cls := findClass_of_methodNamed B.named
  have C0 : CX p m c cX11_measured 4 s _ wsX11_measured RX11 E := ⟨⟨B.exec, B.bytes, hml, hown, atoms_spec (ws := wsX11_measured) B.pre⟩, hK⟩
  have hx := B.exec
  have hb := B.bytes
  have hr := B.returns
  have hlocks := B.notSynchronized
  have hw : SX E s st s.heap [] := ⟨hP, va_S.rf⟩
  have hl := lv_entry ([.ref (E.2.2.1 0 (0)), .int a1]) (n := 4) (Nat.le_of_ble_eq_true rfl)
  rw [lg_entry_eq]
  generalize (lg_sl ([.ref (E.2.2.1 0 (0)), .int a1]) ++ List.replicate (4 - (lg_sl ([.ref (E.2.2.1 0 (0)), .int a1])).length) Slot.unset).toArray = ls at hl ⊢
  have hl : lv_has ls 4 [(0, .ref (E.2.2.1 0 (0))), (1, .int a1)] := hl
  unfold fX11_measured at h
  refine lv_aload_n hx hb dX11_measured_0 rfl (lv_at hl 0 rfl) ?_
  refine lv_iconst (v := 5) hx hb dX11_measured_1 (by decide) ?_
  refine lv_iload_n hx hb dX11_measured_2 rfl (lv_at hl 1 rfl) ?_
  obtain ⟨v1, hf2, h⟩ := bn_c h
  refine X_callV C0 hw (As := [.int (5 : Int32), .int a1]) (rest := []) (mX11_isThere l E hL st hf2) (cwV 2 C0.1.2.2.2.2 gX11_measured_X11_isThere rfl rfl rfl (by decide +kernel) ⟨Nat.le_of_ble_eq_true rfl, Nat.le_of_ble_eq_true rfl⟩) (X_recv_0 C0 hw (by decide)) rfl hl.1 rfl (Nat.le_of_ble_eq_true rfl) dX11_measured_3 ⟨Nat.zero_le _, Nat.zero_le _⟩ (fun H locs hw => ?_)
  refine W.eq (g2 := F0 m 6 ls [.int v1]) rfl ?_
  refine lv_if_ne (tgt := 15) hx hb dX11_measured_6 (by decide) (fun hc3 => ?_) (fun hc3 => ?_)
  · have h := ifn h hc3
    refine lv_aload_n hx hb dX11_measured_15 rfl (lv_at hl 0 rfl) ?_
    refine X_g0_9 C0 hw (fun w h => (List.mem_cons_of_mem _ (List.mem_append_left _ (List.mem_append_left _ (List.mem_append_right _ h))))) (by decide) ((List.mem_cons_of_mem _ (List.mem_append_left _ (List.mem_append_left _ (List.mem_append_left _ (List.mem_append_left _ (List.mem_of_getElem? (i := 0) rfl))))))) dX11_measured_16 ?_
    refine lv_iload_n hx hb dX11_measured_19 rfl (lv_at hl 1 rfl) ?_
    refine X_ald_10 C0 hw (by decide) h (k := a1.toNatClampNeg) rfl dX11_measured_20 (fun hk4 h => ?_)
    refine lv_astore_n (lv' := [(2, .ref (E.2.2.1 30 (a1.toNatClampNeg))), (0, .ref (E.2.2.1 0 (0))), (1, .int a1)]) hx hb dX11_measured_21 rfl hl (by decide) rfl (fun ls hl => ?_)
    refine lv_aload_n hx hb dX11_measured_22 rfl (lv_at hl 1 rfl) ?_
    refine X_g0_18 C0 hw (fun w h => (List.mem_cons_of_mem _ (List.mem_append_left _ (List.mem_append_left _ (List.mem_append_right _ h))))) (by decide) ((List.mem_cons_of_mem _ (List.mem_append_left _ (List.mem_append_left _ (List.mem_append_left _ (List.mem_append_left _ (List.mem_of_getElem? (i := 1) rfl))))))) dX11_measured_23 ?_
    refine lv_bipush (v := 9) hx hb dX11_measured_26 (by decide) ?_
    refine lv_iload_n hx hb dX11_measured_28 rfl (lv_at hl 2 rfl) ?_
    refine lv_aload_n hx hb dX11_measured_29 rfl (lv_at hl 0 rfl) ?_
    refine X_g30_5 C0 hw (fun w h => (List.mem_cons_of_mem _ (List.mem_append_left _ (List.mem_append_right _ h)))) hk4 ((List.mem_cons_of_mem _ (List.mem_append_left _ (List.mem_append_left _ (List.mem_append_left _ (List.mem_append_left _ (List.mem_of_getElem? (i := 2) rfl))))))) dX11_measured_30 ?_
    refine jn_c h (fun K5 hK7 h => ?_)
    have HJ6 : ∀ (v8 : Int32), K5 v8 = some (r, st1) → ∀ (H : Heap) (locs : List Loc), SX E s st H locs → ∀ ls : Array Slot, lv_has ls 4 [(2, .ref (E.2.2.1 30 (a1.toNatClampNeg))), (0, .ref (E.2.2.1 0 (0)))] → W p l e (headSpec wsX11_measured ({ frames := 2, cells := 0, slots := 0, locals := 69 })).room s m ([.ref (E.2.2.1 0 (0)), .int a1] : List Value).toArray below meth c H locs 0 0 (MQ below (QX E (some (.int r)) st1) ([.ref (E.2.2.1 0 (0)), .int a1] : List Value).toArray s 0 0 E.2.2.2) (F0 m 41 ls [.int v8, .int a1, .int (9 : Int32), .ref (E.2.2.1 18 (0))]) := by
      intro v8 h H locs hw ls hl
      have h := kk1 h hK7
      refine lv_iconst (v := 0) hx hb dX11_measured_41 (by decide) ?_
      obtain ⟨⟨v9, t10⟩, hf11, h⟩ := bn_c h
      have h := un2_d h
      refine X_callV C0 hw (As := [.int (9 : Int32), .int a1, .int v8, .int (0 : Int32)]) (rest := []) (mX0_note l E hL st hf11) (cwV 4 C0.1.2.2.2.2 gX11_measured_X0_note rfl rfl rfl (by decide +kernel) ⟨Nat.le_of_ble_eq_true rfl, Nat.le_of_ble_eq_true rfl⟩) (X_recv_18 C0 hw (by decide)) rfl hl.1 rfl (Nat.le_of_ble_eq_true rfl) dX11_measured_42 ⟨Nat.zero_le _, Nat.zero_le _⟩ (fun H locs hw => ?_)
      obtain ⟨qf12, qi13⟩ := v9
      have h := un2_d h
      refine W.eq (g2 := F0 m 45 ls (.ref (E.2.2.1 qf12 qi13) :: [])) rfl ?_
      refine lv_astore_n (lv' := [(3, .ref (E.2.2.1 qf12 qi13)), (2, .ref (E.2.2.1 30 (a1.toNatClampNeg))), (0, .ref (E.2.2.1 0 (0)))]) hx hb dX11_measured_45 rfl hl (by decide) rfl (fun ls hl => ?_)
      refine lv_aload_n hx hb dX11_measured_46 rfl (lv_at hl 1 rfl) ?_
      refine X_g30_6 C0 hw (fun w h => (List.mem_cons_of_mem _ (List.mem_append_left _ (List.mem_append_right _ h)))) hk4 ((List.mem_cons_of_mem _ (List.mem_append_left _ (List.mem_append_left _ (List.mem_append_left _ (List.mem_append_left _ (List.mem_of_getElem? (i := 3) rfl))))))) dX11_measured_47 ?_
      refine lv_aload_n hx hb dX11_measured_50 rfl (lv_at hl 0 rfl) ?_
      obtain ⟨t14, hf15, h⟩ := bn_c h
      refine X_callS C0 hw (As := [.ref (E.2.2.1 (33) (a1.toNatClampNeg)), .ref (E.2.2.1 qf12 qi13)]) (rest := []) (mX11_copyRow l E hL t10 hf15) (va_cwS 2 C0.1.2.2.2.2 gX11_measured_X11_copyRow rfl rfl rfl (by decide +kernel) ⟨Nat.le_of_ble_eq_true rfl, Nat.le_of_ble_eq_true rfl⟩) rfl hl.1 rfl (Nat.le_of_ble_eq_true rfl) dX11_measured_51 ⟨Nat.zero_le _, Nat.zero_le _⟩ (fun H locs hw => ?_)
      refine W.eq (g2 := F0 m 54 ls []) rfl ?_
      refine lv_aload_n hx hb dX11_measured_54 rfl (lv_at hl 2 rfl) ?_
      refine X_g0_0 C0 hw (fun w h => (List.mem_cons_of_mem _ (List.mem_append_left _ (List.mem_append_left _ (List.mem_append_right _ h))))) (by decide) ((List.mem_cons_of_mem _ (List.mem_append_left _ (List.mem_append_left _ (List.mem_append_left _ (List.mem_append_left _ (List.mem_of_getElem? (i := 4) rfl))))))) dX11_measured_55 ?_
      refine lv_aload_n hx hb dX11_measured_58 rfl (lv_at hl 1 rfl) ?_
      refine X_g30_6 C0 hw (fun w h => (List.mem_cons_of_mem _ (List.mem_append_left _ (List.mem_append_right _ h)))) hk4 ((List.mem_cons_of_mem _ (List.mem_append_left _ (List.mem_append_left _ (List.mem_append_left _ (List.mem_append_left _ (List.mem_of_getElem? (i := 3) rfl))))))) dX11_measured_59 ?_
      obtain ⟨t16, hf17, h⟩ := bn_c h
      refine X_callS C0 hw (As := [.ref (E.2.2.1 (1) (0)), .ref (E.2.2.1 (33) (a1.toNatClampNeg))]) (rest := []) (mX11_copyRow l E hL t14 hf17) (va_cwS 2 C0.1.2.2.2.2 gX11_measured_X11_copyRow rfl rfl rfl (by decide +kernel) ⟨Nat.le_of_ble_eq_true rfl, Nat.le_of_ble_eq_true rfl⟩) rfl hl.1 rfl (Nat.le_of_ble_eq_true rfl) dX11_measured_62 ⟨Nat.zero_le _, Nat.zero_le _⟩ (fun H locs hw => ?_)
      refine W.eq (g2 := F0 m 65 ls []) rfl ?_
      refine lv_aload_n hx hb dX11_measured_65 rfl (lv_at hl 1 rfl) ?_
      refine lv_iconst (v := 1) hx hb dX11_measured_66 (by decide) ?_
      refine X_p30_5 hL C0 hw (fun w h => (List.mem_cons_of_mem _ (List.mem_append_left _ (List.mem_append_right _ h)))) hk4 h rfl rfl ((List.mem_cons_of_mem _ (List.mem_append_left _ (List.mem_append_left _ (List.mem_append_left _ (List.mem_append_left _ (List.mem_of_getElem? (i := 2) rfl))))))) dX11_measured_67 (fun t18 H locs hw h => ?_)
      refine lv_aload_n hx hb dX11_measured_70 rfl (lv_at hl 2 rfl) ?_
      obtain ⟨⟨v19, t20⟩, hf21, h⟩ := bn_c h
      have h := un2_d h
      refine X_callV C0 hw (As := []) (rest := []) (mX11_accept l E hL t18 hf21) (cwV 0 C0.1.2.2.2.2 gX11_measured_X11_accept rfl rfl rfl (by decide +kernel) ⟨Nat.le_of_ble_eq_true rfl, Nat.le_of_ble_eq_true rfl⟩) (X_recv_0 C0 hw (by decide)) rfl hl.1 rfl (Nat.le_of_ble_eq_true rfl) dX11_measured_71 ⟨Nat.zero_le _, Nat.zero_le _⟩ (fun H locs hw => ?_)
      refine W.eq (g2 := F0 m 74 ls [.int v19]) rfl ?_
      obtain ⟨hz, h⟩ := ck_c h
      cases h
      exact W.zret hx hb hr (zz hz) (X_fin C0 hw) hw.2.2.2 dX11_measured_74 hlocks
    refine lv_if_eq (tgt := 40) hx hb dX11_measured_33 (by decide) (fun hc22 => ?_) (fun hc22 => ?_)
    · have h := ifp h hc22
      refine lv_iconst (v := 0) hx hb dX11_measured_40 (by decide) ?_
      exact HJ6 _ h _ _ hw _ (lv_sub hl [0, 1] rfl)
    · have h := ifn h hc22
      refine lv_iconst (v := 1) hx hb dX11_measured_36 (by decide) ?_
      refine lv_goto (tgt := 41) hx hb dX11_measured_37 (by decide) ?_
      exact HJ6 _ h _ _ hw _ (lv_sub hl [0, 1] rfl)
  · have h := ifp h hc3
    refine lv_aload_n hx hb dX11_measured_9 rfl (lv_at hl 0 rfl) ?_
    refine lv_iconst (v := 2) hx hb dX11_measured_10 (by decide) ?_
    obtain ⟨⟨v23, t24⟩, hf25, h⟩ := bn_c h
    have h := un2_d h
    refine X_callV C0 hw (As := [.int (2 : Int32)]) (rest := []) (mX11_denied l E hL st hf25) (cwV 1 C0.1.2.2.2.2 gX11_measured_X11_denied rfl rfl rfl (by decide +kernel) ⟨Nat.le_of_ble_eq_true rfl, Nat.le_of_ble_eq_true rfl⟩) (X_recv_0 C0 hw (by decide)) rfl hl.1 rfl (Nat.le_of_ble_eq_true rfl) dX11_measured_11 ⟨Nat.zero_le _, Nat.zero_le _⟩ (fun H locs hw => ?_)
    refine W.eq (g2 := F0 m 14 ls [.int v23]) rfl ?_
    obtain ⟨hz, h⟩ := ck_c h
    cases h
    exact W.zret hx hb hr (zz hz) (X_fin C0 hw) hw.2.2.2 dX11_measured_14 hlocks

def fX11_passes (a1 : Int32) (a2 : Int32) (st : Sto) : Option (Int32 × Sto) :=
  (fX11_isThere (5 : Int32) a1 st).bind (fun (v1 : Int32) =>
   if v1 = 0 then (
    some ((-1 : Int32), st)) else (
    (fX11_isThere (3 : Int32) a2 st).bind (fun (v4 : Int32) =>
     if v4 = 0 then (
      some ((-1 : Int32), st)) else (
      ck (0 ≤ a1.toInt ∧ a1.toInt < (12 : Int)) (
       if gI st 30 (a1.toNatClampNeg) 5 = 0 then (
        some ((-1 : Int32), st)) else (
        ck (0 ≤ a2.toInt ∧ a2.toInt < (12 : Int)) (
         ck (0 ≤ a1.toInt ∧ a1.toInt < (12 : Int)) (
          (fX11_sideOf (a2.toNatClampNeg) (33) (a1.toNatClampNeg) st).bind (un2 fun (v11 : Int32) (t12 : Sto) =>
           if v11 = 0 then (
            some ((0 : Int32), t12)) else (
            some ((1 : Int32), t12)))))))))))
set_option maxHeartbeats 4000000 in
set_option maxRecDepth 100000 in
theorem mX11_passes (l : Launch) (E : XE) (hL : LX E) (st : Sto) {a1 : Int32} {a2 : Int32} {r : Int32} {st1 : Sto} (h : fX11_passes a1 a2 st = some (r, st1)) : Met l yX11_passes wsX11_passes ({ frames := 5, cells := 0, slots := 0, locals := 131 }) (va_Pc [.ref (E.2.2.1 0 (0)), .int a1, .int a2] (RX E st)) (QX E (some (.int r)) st1) 0 0 E.2.2.2 := by
  refine Met.ofW (cc := cX11_passes) (maxL := 3) (ret := (some .int)) (by decide) rfl ?_
  intro p e s m args below meth c s₁ B hml hv
  obtain ⟨rfl, hP, hK⟩ := hv
  have hown : s.vm.findClass RX11 = some m.cls := findClass_of_methodNamed B.named
  have C0 : CX p m c cX11_passes 3 s _ wsX11_passes RX11 E := ⟨⟨B.exec, B.bytes, hml, hown, atoms_spec (ws := wsX11_passes) B.pre⟩, hK⟩
  have hx := B.exec
  have hb := B.bytes
  have hr := B.returns
  have hlocks := B.notSynchronized
  have hw : SX E s st s.heap [] := ⟨hP, va_S.rf⟩
  have hl := lv_entry ([.ref (E.2.2.1 0 (0)), .int a1, .int a2]) (n := 3) (Nat.le_of_ble_eq_true rfl)
  rw [lg_entry_eq]
  generalize (lg_sl ([.ref (E.2.2.1 0 (0)), .int a1, .int a2]) ++ List.replicate (3 - (lg_sl ([.ref (E.2.2.1 0 (0)), .int a1, .int a2])).length) Slot.unset).toArray = ls at hl ⊢
  have hl : lv_has ls 3 [(0, .ref (E.2.2.1 0 (0))), (1, .int a1), (2, .int a2)] := hl
  unfold fX11_passes at h
  refine lv_aload_n hx hb dX11_passes_0 rfl (lv_at hl 0 rfl) ?_
  refine lv_iconst (v := 5) hx hb dX11_passes_1 (by decide) ?_
  refine lv_iload_n hx hb dX11_passes_2 rfl (lv_at hl 1 rfl) ?_
  obtain ⟨v1, hf2, h⟩ := bn_c h
  refine X_callV C0 hw (As := [.int (5 : Int32), .int a1]) (rest := []) (mX11_isThere l E hL st hf2) (cwV 2 C0.1.2.2.2.2 gX11_passes_X11_isThere rfl rfl rfl (by decide +kernel) ⟨Nat.le_of_ble_eq_true rfl, Nat.le_of_ble_eq_true rfl⟩) (X_recv_0 C0 hw (by decide)) rfl hl.1 rfl (Nat.le_of_ble_eq_true rfl) dX11_passes_3 ⟨Nat.zero_le _, Nat.zero_le _⟩ (fun H locs hw => ?_)
  refine W.eq (g2 := F0 m 6 ls [.int v1]) rfl ?_
  refine lv_if_eq (tgt := 30) hx hb dX11_passes_6 (by decide) (fun hc3 => ?_) (fun hc3 => ?_)
  · have h := ifp h hc3
    refine lv_iconst (v := -1) hx hb dX11_passes_30 (by decide) ?_
    cases h
    exact W.iret hx hb hr (X_fin C0 hw) hw.2.2.2 dX11_passes_31 hlocks
  · have h := ifn h hc3
    refine lv_aload_n hx hb dX11_passes_9 rfl (lv_at hl 0 rfl) ?_
    refine lv_iconst (v := 3) hx hb dX11_passes_10 (by decide) ?_
    refine lv_iload_n hx hb dX11_passes_11 rfl (lv_at hl 2 rfl) ?_
    obtain ⟨v4, hf5, h⟩ := bn_c h
    refine X_callV C0 hw (As := [.int (3 : Int32), .int a2]) (rest := []) (mX11_isThere l E hL st hf5) (cwV 2 C0.1.2.2.2.2 gX11_passes_X11_isThere rfl rfl rfl (by decide +kernel) ⟨Nat.le_of_ble_eq_true rfl, Nat.le_of_ble_eq_true rfl⟩) (X_recv_0 C0 hw (by decide)) rfl hl.1 rfl (Nat.le_of_ble_eq_true rfl) dX11_passes_12 ⟨Nat.zero_le _, Nat.zero_le _⟩ (fun H locs hw => ?_)
    refine W.eq (g2 := F0 m 15 ls [.int v4]) rfl ?_
    refine lv_if_eq (tgt := 30) hx hb dX11_passes_15 (by decide) (fun hc6 => ?_) (fun hc6 => ?_)
    · have h := ifp h hc6
      refine lv_iconst (v := -1) hx hb dX11_passes_30 (by decide) ?_
      cases h
      exact W.iret hx hb hr (X_fin C0 hw) hw.2.2.2 dX11_passes_31 hlocks
    · have h := ifn h hc6
      refine lv_aload_n hx hb dX11_passes_18 rfl (lv_at hl 0 rfl) ?_
      refine X_g0_9 C0 hw (fun w h => (List.mem_cons_of_mem _ (List.mem_append_left _ (List.mem_append_left _ (List.mem_append_left _ (List.mem_append_right _ h)))))) (by decide) ((List.mem_cons_of_mem _ (List.mem_append_left _ (List.mem_append_left _ (List.mem_append_left _ (List.mem_append_left _ (List.mem_append_left _ (List.mem_of_getElem? (i := 0) rfl)))))))) dX11_passes_19 ?_
      refine lv_iload_n hx hb dX11_passes_22 rfl (lv_at hl 1 rfl) ?_
      refine X_ald_10 C0 hw (by decide) h (k := a1.toNatClampNeg) rfl dX11_passes_23 (fun hk7 h => ?_)
      refine X_g30_5 C0 hw (fun w h => (List.mem_cons_of_mem _ (List.mem_append_left _ (List.mem_append_left _ (List.mem_append_right _ h))))) hk7 ((List.mem_cons_of_mem _ (List.mem_append_left _ (List.mem_append_left _ (List.mem_append_left _ (List.mem_append_left _ (List.mem_append_left _ (List.mem_of_getElem? (i := 1) rfl)))))))) dX11_passes_24 ?_
      refine lv_if_ne (tgt := 32) hx hb dX11_passes_27 (by decide) (fun hc8 => ?_) (fun hc8 => ?_)
      · have h := ifn h hc8
        refine lv_aload_n hx hb dX11_passes_32 rfl (lv_at hl 0 rfl) ?_
        refine lv_aload_n hx hb dX11_passes_33 rfl (lv_at hl 0 rfl) ?_
        refine X_g0_7 C0 hw (fun w h => (List.mem_cons_of_mem _ (List.mem_append_left _ (List.mem_append_left _ (List.mem_append_left _ (List.mem_append_right _ h)))))) (by decide) ((List.mem_cons_of_mem _ (List.mem_append_left _ (List.mem_append_left _ (List.mem_append_left _ (List.mem_append_left _ (List.mem_append_left _ (List.mem_of_getElem? (i := 2) rfl)))))))) dX11_passes_34 ?_
        refine lv_iload_n hx hb dX11_passes_37 rfl (lv_at hl 2 rfl) ?_
        refine X_ald_8 C0 hw (by decide) h (k := a2.toNatClampNeg) rfl dX11_passes_38 (fun hk9 h => ?_)
        refine lv_aload_n hx hb dX11_passes_39 rfl (lv_at hl 0 rfl) ?_
        refine X_g0_9 C0 hw (fun w h => (List.mem_cons_of_mem _ (List.mem_append_left _ (List.mem_append_left _ (List.mem_append_left _ (List.mem_append_right _ h)))))) (by decide) ((List.mem_cons_of_mem _ (List.mem_append_left _ (List.mem_append_left _ (List.mem_append_left _ (List.mem_append_left _ (List.mem_append_left _ (List.mem_of_getElem? (i := 0) rfl)))))))) dX11_passes_40 ?_
        refine lv_iload_n hx hb dX11_passes_43 rfl (lv_at hl 1 rfl) ?_
        refine X_ald_10 C0 hw (by decide) h (k := a1.toNatClampNeg) rfl dX11_passes_44 (fun hk10 h => ?_)
        refine X_g30_6 C0 hw (fun w h => (List.mem_cons_of_mem _ (List.mem_append_left _ (List.mem_append_left _ (List.mem_append_right _ h))))) hk10 ((List.mem_cons_of_mem _ (List.mem_append_left _ (List.mem_append_left _ (List.mem_append_left _ (List.mem_append_left _ (List.mem_append_left _ (List.mem_of_getElem? (i := 3) rfl)))))))) dX11_passes_45 ?_
        obtain ⟨⟨v11, t12⟩, hf13, h⟩ := bn_c h
        have h := un2_d h
        refine X_callV C0 hw (As := [.ref (E.2.2.1 26 (a2.toNatClampNeg)), .ref (E.2.2.1 (33) (a1.toNatClampNeg))]) (rest := []) (mX11_sideOf l E hL st hk9 hf13) (cwV 2 C0.1.2.2.2.2 gX11_passes_X11_sideOf rfl rfl rfl (by decide +kernel) ⟨Nat.le_of_ble_eq_true rfl, Nat.le_of_ble_eq_true rfl⟩) (X_recv_0 C0 hw (by decide)) rfl hl.1 rfl (Nat.le_of_ble_eq_true rfl) dX11_passes_48 ⟨Nat.zero_le _, Nat.zero_le _⟩ (fun H locs hw => ?_)
        refine W.eq (g2 := F0 m 51 ls [.int v11]) rfl ?_
        refine lv_if_ne (tgt := 58) hx hb dX11_passes_51 (by decide) (fun hc14 => ?_) (fun hc14 => ?_)
        · have h := ifn h hc14
          refine lv_iconst (v := 1) hx hb dX11_passes_58 (by decide) ?_
          cases h
          exact W.iret hx hb hr (X_fin C0 hw) hw.2.2.2 dX11_passes_59 hlocks
        · have h := ifp h hc14
          refine lv_iconst (v := 0) hx hb dX11_passes_54 (by decide) ?_
          refine lv_goto (tgt := 59) hx hb dX11_passes_55 (by decide) ?_
          cases h
          exact W.iret hx hb hr (X_fin C0 hw) hw.2.2.2 dX11_passes_59 hlocks
      · have h := ifp h hc8
        refine lv_iconst (v := -1) hx hb dX11_passes_30 (by decide) ?_
        cases h
        exact W.iret hx hb hr (X_fin C0 hw) hw.2.2.2 dX11_passes_31 hlocks

def fX11_told (a1 : Int32) (a2 : Int32) (st : Sto) : Option Int32 :=
  jn (fun (_u : Unit) =>
   jn (fun (_u : Unit) =>
    if a2 < (9 : Int32) then (
     some (-1 : Int32)) else (
     if (11 : Int32) < a2 then (
      some (-1 : Int32)) else (
      (fX11_isThere (2 : Int32) a1 st).bind (fun (v9 : Int32) =>
       if v9 = 0 then (
        some (-1 : Int32)) else (
        ck (0 ≤ a1.toInt ∧ a1.toInt < (12 : Int)) (
         (fX3_tell (a1.toNatClampNeg) (a2 - (9 : Int32)) st).bind (fun (v13 : Int32) =>
          some v13))))))) fun K4 =>
   if a2 < (4 : Int32) then (
    K4 ()) else (
    if (8 : Int32) < a2 then (
     K4 ()) else (
     (fX11_isThere (5 : Int32) a1 st).bind (fun (v17 : Int32) =>
      if v17 = 0 then (
       some (-1 : Int32)) else (
       ck (0 ≤ a1.toInt ∧ a1.toInt < (12 : Int)) (
        (fX1_tell (a1.toNatClampNeg) (a2 - (4 : Int32)) st).bind (fun (v21 : Int32) =>
         some v21))))))) fun K1 =>
  if a2 < 0 then (
   K1 ()) else (
   if (3 : Int32) < a2 then (
    K1 ()) else (
    (fX11_isThere (4 : Int32) a1 st).bind (fun (v25 : Int32) =>
     if v25 = 0 then (
      some (-1 : Int32)) else (
      ck (0 ≤ a1.toInt ∧ a1.toInt < (20 : Int)) (
       (fX4_tell (a1.toNatClampNeg) a2 st).bind (fun (v29 : Int32) =>
        some v29))))))
set_option maxHeartbeats 4000000 in
set_option maxRecDepth 100000 in
theorem mX11_told (l : Launch) (E : XE) (hL : LX E) (st : Sto) {a1 : Int32} {a2 : Int32} {r : Int32} (h : fX11_told a1 a2 st = some r) : Met l yX11_told wsX11_told ({ frames := 2, cells := 0, slots := 0, locals := 43 }) (va_Pc [.ref (E.2.2.1 0 (0)), .int a1, .int a2] (RX E st)) (QX E (some (.int r)) st) 0 0 E.2.2.2 := by
  refine Met.ofW (cc := cX11_told) (maxL := 3) (ret := (some .int)) (by decide) rfl ?_
  intro p e s m args below meth c s₁ B hml hv
  obtain ⟨rfl, hP, hK⟩ := hv
  have hown : s.vm.findClass RX11 = some m.cls := findClass_of_methodNamed B.named
  have C0 : CX p m c cX11_told 3 s _ wsX11_told RX11 E := ⟨⟨B.exec, B.bytes, hml, hown, atoms_spec (ws := wsX11_told) B.pre⟩, hK⟩
  have hx := B.exec
  have hb := B.bytes
  have hr := B.returns
  have hlocks := B.notSynchronized
  have hw : SX E s st s.heap [] := ⟨hP, va_S.rf⟩
  have hl := lv_entry ([.ref (E.2.2.1 0 (0)), .int a1, .int a2]) (n := 3) (Nat.le_of_ble_eq_true rfl)
  rw [lg_entry_eq]
  generalize (lg_sl ([.ref (E.2.2.1 0 (0)), .int a1, .int a2]) ++ List.replicate (3 - (lg_sl ([.ref (E.2.2.1 0 (0)), .int a1, .int a2])).length) Slot.unset).toArray = ls at hl ⊢
  have hl : lv_has ls 3 [(0, .ref (E.2.2.1 0 (0))), (1, .int a1), (2, .int a2)] := hl
  unfold fX11_told at h
  refine lv_iload_n hx hb dX11_told_0 rfl (lv_at hl 2 rfl) ?_
  refine jn_c h (fun K1 hK3 h => ?_)
  have HJ2 : ∀ (_u : Unit), K1 _u = some r → ∀ (H : Heap) (locs : List Loc), SX E s st H locs → ∀ ls : Array Slot, lv_has ls 3 [(0, .ref (E.2.2.1 0 (0))), (1, .int a1), (2, .int a2)] → W p l e (headSpec wsX11_told ({ frames := 2, cells := 0, slots := 0, locals := 43 })).room s m ([.ref (E.2.2.1 0 (0)), .int a1, .int a2] : List Value).toArray below meth c H locs 0 0 (MQ below (QX E (some (.int r)) st) ([.ref (E.2.2.1 0 (0)), .int a1, .int a2] : List Value).toArray s 0 0 E.2.2.2) (F0 m 33 ls []) := by
    intro _u h H locs hw ls hl
    have h := kk1 h hK3
    refine lv_iload_n hx hb dX11_told_33 rfl (lv_at hl 2 rfl) ?_
    refine lv_iconst (v := 4) hx hb dX11_told_34 (by decide) ?_
    refine jn_c h (fun K4 hK6 h => ?_)
    have HJ5 : ∀ (_u : Unit), K4 _u = some r → ∀ (H : Heap) (locs : List Loc), SX E s st H locs → ∀ ls : Array Slot, lv_has ls 3 [(0, .ref (E.2.2.1 0 (0))), (1, .int a1), (2, .int a2)] → W p l e (headSpec wsX11_told ({ frames := 2, cells := 0, slots := 0, locals := 43 })).room s m ([.ref (E.2.2.1 0 (0)), .int a1, .int a2] : List Value).toArray below meth c H locs 0 0 (MQ below (QX E (some (.int r)) st) ([.ref (E.2.2.1 0 (0)), .int a1, .int a2] : List Value).toArray s 0 0 E.2.2.2) (F0 m 70 ls []) := by
      intro _u h H locs hw ls hl
      have h := kk1 h hK6
      refine lv_iload_n hx hb dX11_told_70 rfl (lv_at hl 2 rfl) ?_
      refine lv_bipush (v := 9) hx hb dX11_told_71 (by decide) ?_
      refine lv_icmp_lt (tgt := 109) hx hb dX11_told_73 (by decide) (fun hc7 => ?_) (fun hc7 => ?_)
      · have h := ifp h hc7
        refine lv_iconst (v := -1) hx hb dX11_told_109 (by decide) ?_
        cases h
        exact W.iret hx hb hr (X_fin C0 hw) hw.2.2.2 dX11_told_110 hlocks
      · have h := ifn h hc7
        refine lv_iload_n hx hb dX11_told_76 rfl (lv_at hl 2 rfl) ?_
        refine lv_bipush (v := 11) hx hb dX11_told_77 (by decide) ?_
        refine lv_icmp_gt (tgt := 109) hx hb dX11_told_79 (by decide) (fun hc8 => ?_) (fun hc8 => ?_)
        · have h := ifp h hc8
          refine lv_iconst (v := -1) hx hb dX11_told_109 (by decide) ?_
          cases h
          exact W.iret hx hb hr (X_fin C0 hw) hw.2.2.2 dX11_told_110 hlocks
        · have h := ifn h hc8
          refine lv_aload_n hx hb dX11_told_82 rfl (lv_at hl 0 rfl) ?_
          refine lv_iconst (v := 2) hx hb dX11_told_83 (by decide) ?_
          refine lv_iload_n hx hb dX11_told_84 rfl (lv_at hl 1 rfl) ?_
          obtain ⟨v9, hf10, h⟩ := bn_c h
          refine X_callV C0 hw (As := [.int (2 : Int32), .int a1]) (rest := []) (mX11_isThere l E hL st hf10) (cwV 2 C0.1.2.2.2.2 gX11_told_X11_isThere rfl rfl rfl (by decide +kernel) ⟨Nat.le_of_ble_eq_true rfl, Nat.le_of_ble_eq_true rfl⟩) (X_recv_0 C0 hw (by decide)) rfl hl.1 rfl (Nat.le_of_ble_eq_true rfl) dX11_told_85 ⟨Nat.zero_le _, Nat.zero_le _⟩ (fun H locs hw => ?_)
          refine W.eq (g2 := F0 m 88 ls [.int v9]) rfl ?_
          refine lv_if_eq (tgt := 107) hx hb dX11_told_88 (by decide) (fun hc11 => ?_) (fun hc11 => ?_)
          · have h := ifp h hc11
            refine lv_iconst (v := -1) hx hb dX11_told_107 (by decide) ?_
            cases h
            exact W.iret hx hb hr (X_fin C0 hw) hw.2.2.2 dX11_told_108 hlocks
          · have h := ifn h hc11
            refine lv_aload_n hx hb dX11_told_91 rfl (lv_at hl 0 rfl) ?_
            refine X_g0_6 C0 hw (fun w h => (List.mem_cons_of_mem _ (List.mem_append_left _ (List.mem_append_left _ (List.mem_append_left _ (List.mem_append_right _ h)))))) (by decide) ((List.mem_cons_of_mem _ (List.mem_append_left _ (List.mem_append_left _ (List.mem_append_left _ (List.mem_append_left _ (List.mem_append_left _ (List.mem_of_getElem? (i := 2) rfl)))))))) dX11_told_92 ?_
            refine lv_iload_n hx hb dX11_told_95 rfl (lv_at hl 1 rfl) ?_
            refine X_ald_7 C0 hw (by decide) h (k := a1.toNatClampNeg) rfl dX11_told_96 (fun hk12 h => ?_)
            refine lv_iload_n hx hb dX11_told_97 rfl (lv_at hl 2 rfl) ?_
            refine lv_bipush (v := 9) hx hb dX11_told_98 (by decide) ?_
            refine lv_isub hx hb dX11_told_100 ?_
            obtain ⟨v13, hf14, h⟩ := bn_c h
            refine X_callV C0 hw (As := [.int (a2 - (9 : Int32))]) (rest := []) (mX3_tell l E hL st hk12 hf14) (cwV 1 C0.1.2.2.2.2 gX11_told_X3_tell rfl rfl rfl (by decide +kernel) ⟨Nat.le_of_ble_eq_true rfl, Nat.le_of_ble_eq_true rfl⟩) (X_recv_22 C0 hw hk12) rfl hl.1 rfl (Nat.le_of_ble_eq_true rfl) dX11_told_101 ⟨Nat.zero_le _, Nat.zero_le _⟩ (fun H locs hw => ?_)
            refine W.eq (g2 := F0 m 104 ls [.int v13]) rfl ?_
            refine lv_goto (tgt := 108) hx hb dX11_told_104 (by decide) ?_
            cases h
            exact W.iret hx hb hr (X_fin C0 hw) hw.2.2.2 dX11_told_108 hlocks
    refine lv_icmp_lt (tgt := 70) hx hb dX11_told_35 (by decide) (fun hc15 => ?_) (fun hc15 => ?_)
    · have h := ifp h hc15
      exact HJ5 _ h _ _ hw _ (lv_sub hl [0, 1, 2] rfl)
    · have h := ifn h hc15
      refine lv_iload_n hx hb dX11_told_38 rfl (lv_at hl 2 rfl) ?_
      refine lv_bipush (v := 8) hx hb dX11_told_39 (by decide) ?_
      refine lv_icmp_gt (tgt := 70) hx hb dX11_told_41 (by decide) (fun hc16 => ?_) (fun hc16 => ?_)
      · have h := ifp h hc16
        exact HJ5 _ h _ _ hw _ (lv_sub hl [0, 1, 2] rfl)
      · have h := ifn h hc16
        refine lv_aload_n hx hb dX11_told_44 rfl (lv_at hl 0 rfl) ?_
        refine lv_iconst (v := 5) hx hb dX11_told_45 (by decide) ?_
        refine lv_iload_n hx hb dX11_told_46 rfl (lv_at hl 1 rfl) ?_
        obtain ⟨v17, hf18, h⟩ := bn_c h
        refine X_callV C0 hw (As := [.int (5 : Int32), .int a1]) (rest := []) (mX11_isThere l E hL st hf18) (cwV 2 C0.1.2.2.2.2 gX11_told_X11_isThere rfl rfl rfl (by decide +kernel) ⟨Nat.le_of_ble_eq_true rfl, Nat.le_of_ble_eq_true rfl⟩) (X_recv_0 C0 hw (by decide)) rfl hl.1 rfl (Nat.le_of_ble_eq_true rfl) dX11_told_47 ⟨Nat.zero_le _, Nat.zero_le _⟩ (fun H locs hw => ?_)
        refine W.eq (g2 := F0 m 50 ls [.int v17]) rfl ?_
        refine lv_if_eq (tgt := 68) hx hb dX11_told_50 (by decide) (fun hc19 => ?_) (fun hc19 => ?_)
        · have h := ifp h hc19
          refine lv_iconst (v := -1) hx hb dX11_told_68 (by decide) ?_
          cases h
          exact W.iret hx hb hr (X_fin C0 hw) hw.2.2.2 dX11_told_69 hlocks
        · have h := ifn h hc19
          refine lv_aload_n hx hb dX11_told_53 rfl (lv_at hl 0 rfl) ?_
          refine X_g0_9 C0 hw (fun w h => (List.mem_cons_of_mem _ (List.mem_append_left _ (List.mem_append_left _ (List.mem_append_left _ (List.mem_append_right _ h)))))) (by decide) ((List.mem_cons_of_mem _ (List.mem_append_left _ (List.mem_append_left _ (List.mem_append_left _ (List.mem_append_left _ (List.mem_append_left _ (List.mem_of_getElem? (i := 1) rfl)))))))) dX11_told_54 ?_
          refine lv_iload_n hx hb dX11_told_57 rfl (lv_at hl 1 rfl) ?_
          refine X_ald_10 C0 hw (by decide) h (k := a1.toNatClampNeg) rfl dX11_told_58 (fun hk20 h => ?_)
          refine lv_iload_n hx hb dX11_told_59 rfl (lv_at hl 2 rfl) ?_
          refine lv_iconst (v := 4) hx hb dX11_told_60 (by decide) ?_
          refine lv_isub hx hb dX11_told_61 ?_
          obtain ⟨v21, hf22, h⟩ := bn_c h
          refine X_callV C0 hw (As := [.int (a2 - (4 : Int32))]) (rest := []) (mX1_tell l E hL st hk20 hf22) (cwV 1 C0.1.2.2.2.2 gX11_told_X1_tell rfl rfl rfl (by decide +kernel) ⟨Nat.le_of_ble_eq_true rfl, Nat.le_of_ble_eq_true rfl⟩) (X_recv_30 C0 hw hk20) rfl hl.1 rfl (Nat.le_of_ble_eq_true rfl) dX11_told_62 ⟨Nat.zero_le _, Nat.zero_le _⟩ (fun H locs hw => ?_)
          refine W.eq (g2 := F0 m 65 ls [.int v21]) rfl ?_
          refine lv_goto (tgt := 69) hx hb dX11_told_65 (by decide) ?_
          cases h
          exact W.iret hx hb hr (X_fin C0 hw) hw.2.2.2 dX11_told_69 hlocks
  refine lv_if_lt (tgt := 33) hx hb dX11_told_1 (by decide) (fun hc23 => ?_) (fun hc23 => ?_)
  · have h := ifp h hc23
    exact HJ2 _ h _ _ hw _ (lv_sub hl [0, 1, 2] rfl)
  · have h := ifn h hc23
    refine lv_iload_n hx hb dX11_told_4 rfl (lv_at hl 2 rfl) ?_
    refine lv_iconst (v := 3) hx hb dX11_told_5 (by decide) ?_
    refine lv_icmp_gt (tgt := 33) hx hb dX11_told_6 (by decide) (fun hc24 => ?_) (fun hc24 => ?_)
    · have h := ifp h hc24
      exact HJ2 _ h _ _ hw _ (lv_sub hl [0, 1, 2] rfl)
    · have h := ifn h hc24
      refine lv_aload_n hx hb dX11_told_9 rfl (lv_at hl 0 rfl) ?_
      refine lv_iconst (v := 4) hx hb dX11_told_10 (by decide) ?_
      refine lv_iload_n hx hb dX11_told_11 rfl (lv_at hl 1 rfl) ?_
      obtain ⟨v25, hf26, h⟩ := bn_c h
      refine X_callV C0 hw (As := [.int (4 : Int32), .int a1]) (rest := []) (mX11_isThere l E hL st hf26) (cwV 2 C0.1.2.2.2.2 gX11_told_X11_isThere rfl rfl rfl (by decide +kernel) ⟨Nat.le_of_ble_eq_true rfl, Nat.le_of_ble_eq_true rfl⟩) (X_recv_0 C0 hw (by decide)) rfl hl.1 rfl (Nat.le_of_ble_eq_true rfl) dX11_told_12 ⟨Nat.zero_le _, Nat.zero_le _⟩ (fun H locs hw => ?_)
      refine W.eq (g2 := F0 m 15 ls [.int v25]) rfl ?_
      refine lv_if_eq (tgt := 31) hx hb dX11_told_15 (by decide) (fun hc27 => ?_) (fun hc27 => ?_)
      · have h := ifp h hc27
        refine lv_iconst (v := -1) hx hb dX11_told_31 (by decide) ?_
        cases h
        exact W.iret hx hb hr (X_fin C0 hw) hw.2.2.2 dX11_told_32 hlocks
      · have h := ifn h hc27
        refine lv_aload_n hx hb dX11_told_18 rfl (lv_at hl 0 rfl) ?_
        refine X_g0_8 C0 hw (fun w h => (List.mem_cons_of_mem _ (List.mem_append_left _ (List.mem_append_left _ (List.mem_append_left _ (List.mem_append_right _ h)))))) (by decide) ((List.mem_cons_of_mem _ (List.mem_append_left _ (List.mem_append_left _ (List.mem_append_left _ (List.mem_append_left _ (List.mem_append_left _ (List.mem_of_getElem? (i := 0) rfl)))))))) dX11_told_19 ?_
        refine lv_iload_n hx hb dX11_told_22 rfl (lv_at hl 1 rfl) ?_
        refine X_ald_9 C0 hw (by decide) h (k := a1.toNatClampNeg) rfl dX11_told_23 (fun hk28 h => ?_)
        refine lv_iload_n hx hb dX11_told_24 rfl (lv_at hl 2 rfl) ?_
        obtain ⟨v29, hf30, h⟩ := bn_c h
        refine X_callV C0 hw (As := [.int a2]) (rest := []) (mX4_tell l E hL st hk28 hf30) (cwV 1 C0.1.2.2.2.2 gX11_told_X4_tell rfl rfl rfl (by decide +kernel) ⟨Nat.le_of_ble_eq_true rfl, Nat.le_of_ble_eq_true rfl⟩) (X_recv_29 C0 hw hk28) rfl hl.1 rfl (Nat.le_of_ble_eq_true rfl) dX11_told_25 ⟨Nat.zero_le _, Nat.zero_le _⟩ (fun H locs hw => ?_)
        refine W.eq (g2 := F0 m 28 ls [.int v29]) rfl ?_
        refine lv_goto (tgt := 32) hx hb dX11_told_28 (by decide) ?_
        cases h
        exact W.iret hx hb hr (X_fin C0 hw) hw.2.2.2 dX11_told_32 hlocks

def fX11_weighed (a1 : Int32) (a2 : Int32) (a3 : Int32) (st : Sto) : Option Int32 :=
  (fX11_isThere (5 : Int32) a1 st).bind (fun (v1 : Int32) =>
   if v1 = 0 then (
    some (-1 : Int32)) else (
    if a2 < 0 then (
     some (-1 : Int32)) else (
     ck (0 ≤ a1.toInt ∧ a1.toInt < (12 : Int)) (
      if a2 < gI st 30 (a1.toNatClampNeg) 2 then (
       if a3 = 0 then (
        ck (0 ≤ a1.toInt ∧ a1.toInt < (12 : Int)) (
         ck (0 ≤ a2.toInt ∧ a2.toInt < (lIX (31) (a1.toNatClampNeg) : Int)) (
          some (gI st (31) (a1.toNatClampNeg) (a2.toNatClampNeg))))) else (
        ck (0 ≤ a1.toInt ∧ a1.toInt < (12 : Int)) (
         ck (0 ≤ a2.toInt ∧ a2.toInt < (lIX (32) (a1.toNatClampNeg) : Int)) (
          some (gI st (32) (a1.toNatClampNeg) (a2.toNatClampNeg)))))) else (
       some (-1 : Int32))))))
set_option maxHeartbeats 4000000 in
set_option maxRecDepth 100000 in
theorem mX11_weighed (l : Launch) (E : XE) (hL : LX E) (st : Sto) {a1 : Int32} {a2 : Int32} {a3 : Int32} {r : Int32} (h : fX11_weighed a1 a2 a3 st = some r) : Met l yX11_weighed wsX11_weighed ({ frames := 1, cells := 0, slots := 0, locals := 22 }) (va_Pc [.ref (E.2.2.1 0 (0)), .int a1, .int a2, .int a3] (RX E st)) (QX E (some (.int r)) st) 0 0 E.2.2.2 := by
  refine Met.ofW (cc := cX11_weighed) (maxL := 4) (ret := (some .int)) (by decide) rfl ?_
  intro p e s m args below meth c s₁ B hml hv
  obtain ⟨rfl, hP, hK⟩ := hv
  have hown : s.vm.findClass RX11 = some m.cls := findClass_of_methodNamed B.named
  have C0 : CX p m c cX11_weighed 4 s _ wsX11_weighed RX11 E := ⟨⟨B.exec, B.bytes, hml, hown, atoms_spec (ws := wsX11_weighed) B.pre⟩, hK⟩
  have hx := B.exec
  have hb := B.bytes
  have hr := B.returns
  have hlocks := B.notSynchronized
  have hw : SX E s st s.heap [] := ⟨hP, va_S.rf⟩
  have hl := lv_entry ([.ref (E.2.2.1 0 (0)), .int a1, .int a2, .int a3]) (n := 4) (Nat.le_of_ble_eq_true rfl)
  rw [lg_entry_eq]
  generalize (lg_sl ([.ref (E.2.2.1 0 (0)), .int a1, .int a2, .int a3]) ++ List.replicate (4 - (lg_sl ([.ref (E.2.2.1 0 (0)), .int a1, .int a2, .int a3])).length) Slot.unset).toArray = ls at hl ⊢
  have hl : lv_has ls 4 [(0, .ref (E.2.2.1 0 (0))), (1, .int a1), (2, .int a2), (3, .int a3)] := hl
  unfold fX11_weighed at h
  refine lv_aload_n hx hb dX11_weighed_0 rfl (lv_at hl 0 rfl) ?_
  refine lv_iconst (v := 5) hx hb dX11_weighed_1 (by decide) ?_
  refine lv_iload_n hx hb dX11_weighed_2 rfl (lv_at hl 1 rfl) ?_
  obtain ⟨v1, hf2, h⟩ := bn_c h
  refine X_callV C0 hw (As := [.int (5 : Int32), .int a1]) (rest := []) (mX11_isThere l E hL st hf2) (cwV 2 C0.1.2.2.2.2 gX11_weighed_X11_isThere rfl rfl rfl (by decide +kernel) ⟨Nat.le_of_ble_eq_true rfl, Nat.le_of_ble_eq_true rfl⟩) (X_recv_0 C0 hw (by decide)) rfl hl.1 rfl (Nat.le_of_ble_eq_true rfl) dX11_weighed_3 ⟨Nat.zero_le _, Nat.zero_le _⟩ (fun H locs hw => ?_)
  refine W.eq (g2 := F0 m 6 ls [.int v1]) rfl ?_
  refine lv_if_eq (tgt := 26) hx hb dX11_weighed_6 (by decide) (fun hc3 => ?_) (fun hc3 => ?_)
  · have h := ifp h hc3
    refine lv_iconst (v := -1) hx hb dX11_weighed_26 (by decide) ?_
    cases h
    exact W.iret hx hb hr (X_fin C0 hw) hw.2.2.2 dX11_weighed_27 hlocks
  · have h := ifn h hc3
    refine lv_iload_n hx hb dX11_weighed_9 rfl (lv_at hl 2 rfl) ?_
    refine lv_if_lt (tgt := 26) hx hb dX11_weighed_10 (by decide) (fun hc4 => ?_) (fun hc4 => ?_)
    · have h := ifp h hc4
      refine lv_iconst (v := -1) hx hb dX11_weighed_26 (by decide) ?_
      cases h
      exact W.iret hx hb hr (X_fin C0 hw) hw.2.2.2 dX11_weighed_27 hlocks
    · have h := ifn h hc4
      refine lv_iload_n hx hb dX11_weighed_13 rfl (lv_at hl 2 rfl) ?_
      refine lv_aload_n hx hb dX11_weighed_14 rfl (lv_at hl 0 rfl) ?_
      refine X_g0_9 C0 hw (fun w h => (List.mem_cons_of_mem _ (List.mem_append_left _ (List.mem_append_right _ h)))) (by decide) ((List.mem_cons_of_mem _ (List.mem_append_left _ (List.mem_append_left _ (List.mem_of_getElem? (i := 0) rfl))))) dX11_weighed_15 ?_
      refine lv_iload_n hx hb dX11_weighed_18 rfl (lv_at hl 1 rfl) ?_
      refine X_ald_10 C0 hw (by decide) h (k := a1.toNatClampNeg) rfl dX11_weighed_19 (fun hk5 h => ?_)
      refine X_g30_2 C0 hw (fun w h => (List.mem_cons_of_mem _ (List.mem_append_right _ h))) hk5 ((List.mem_cons_of_mem _ (List.mem_append_left _ (List.mem_append_left _ (List.mem_of_getElem? (i := 1) rfl))))) dX11_weighed_20 ?_
      refine lv_icmp_lt (tgt := 28) hx hb dX11_weighed_23 (by decide) (fun hc6 => ?_) (fun hc6 => ?_)
      · have h := ifp h hc6
        refine lv_iload_n hx hb dX11_weighed_28 rfl (lv_at hl 3 rfl) ?_
        refine lv_if_eq (tgt := 46) hx hb dX11_weighed_29 (by decide) (fun hc7 => ?_) (fun hc7 => ?_)
        · have h := ifp h hc7
          refine lv_aload_n hx hb dX11_weighed_46 rfl (lv_at hl 0 rfl) ?_
          refine X_g0_9 C0 hw (fun w h => (List.mem_cons_of_mem _ (List.mem_append_left _ (List.mem_append_right _ h)))) (by decide) ((List.mem_cons_of_mem _ (List.mem_append_left _ (List.mem_append_left _ (List.mem_of_getElem? (i := 0) rfl))))) dX11_weighed_47 ?_
          refine lv_iload_n hx hb dX11_weighed_50 rfl (lv_at hl 1 rfl) ?_
          refine X_ald_10 C0 hw (by decide) h (k := a1.toNatClampNeg) rfl dX11_weighed_51 (fun hk8 h => ?_)
          refine X_g30_3 C0 hw (fun w h => (List.mem_cons_of_mem _ (List.mem_append_right _ h))) hk8 ((List.mem_cons_of_mem _ (List.mem_append_left _ (List.mem_append_left _ (List.mem_of_getElem? (i := 3) rfl))))) dX11_weighed_52 ?_
          refine lv_iload_n hx hb dX11_weighed_55 rfl (lv_at hl 2 rfl) ?_
          refine X_iald C0 hw h (k := a2.toNatClampNeg) rfl dX11_weighed_56 (fun h => ?_)
          cases h
          exact W.iret hx hb hr (X_fin C0 hw) hw.2.2.2 dX11_weighed_57 hlocks
        · have h := ifn h hc7
          refine lv_aload_n hx hb dX11_weighed_32 rfl (lv_at hl 0 rfl) ?_
          refine X_g0_9 C0 hw (fun w h => (List.mem_cons_of_mem _ (List.mem_append_left _ (List.mem_append_right _ h)))) (by decide) ((List.mem_cons_of_mem _ (List.mem_append_left _ (List.mem_append_left _ (List.mem_of_getElem? (i := 0) rfl))))) dX11_weighed_33 ?_
          refine lv_iload_n hx hb dX11_weighed_36 rfl (lv_at hl 1 rfl) ?_
          refine X_ald_10 C0 hw (by decide) h (k := a1.toNatClampNeg) rfl dX11_weighed_37 (fun hk9 h => ?_)
          refine X_g30_4 C0 hw (fun w h => (List.mem_cons_of_mem _ (List.mem_append_right _ h))) hk9 ((List.mem_cons_of_mem _ (List.mem_append_left _ (List.mem_append_left _ (List.mem_of_getElem? (i := 2) rfl))))) dX11_weighed_38 ?_
          refine lv_iload_n hx hb dX11_weighed_41 rfl (lv_at hl 2 rfl) ?_
          refine X_iald C0 hw h (k := a2.toNatClampNeg) rfl dX11_weighed_42 (fun h => ?_)
          refine lv_goto (tgt := 57) hx hb dX11_weighed_43 (by decide) ?_
          cases h
          exact W.iret hx hb hr (X_fin C0 hw) hw.2.2.2 dX11_weighed_57 hlocks
      · have h := ifn h hc6
        refine lv_iconst (v := -1) hx hb dX11_weighed_26 (by decide) ?_
        cases h
        exact W.iret hx hb hr (X_fin C0 hw) hw.2.2.2 dX11_weighed_27 hlocks

def fX11_remeasure (a1 : Int32) (st : Sto) : Option (Int32 × Sto) :=
  (fX11_isThere (0 : Int32) a1 st).bind (fun (v1 : Int32) =>
   if v1 = 0 then (
    (fX11_denied (2 : Int32) st).bind (un2 fun (v18 : Int32) (t19 : Sto) =>
     ck (v18 &&& 1 = v18) (
      some (v18, t19)))) else (
    (fX0_note (10 : Int32) a1 (0 : Int32) (0 : Int32) st).bind (un2 fun (v4 : (Nat × Nat)) (t5 : Sto) => un2 (fun (qf7 qi8 : Nat) =>
      ck (0 ≤ a1.toInt ∧ a1.toInt < (40 : Int)) (
       (fX2_keepIn (a1.toNatClampNeg) qf7 qi8 t5).bind (fun (t10 : Sto) =>
        ck (0 ≤ a1.toInt ∧ a1.toInt < (40 : Int)) (
         (fX2_remeasureAs (a1.toNatClampNeg) (1) (0) t10).bind (fun (t13 : Sto) =>
          (fX11_accept t13).bind (un2 fun (v15 : Int32) (t16 : Sto) =>
           ck (v15 &&& 1 = v15) (
            some (v15, t16)))))))) v4)))
set_option maxHeartbeats 4000000 in
set_option maxRecDepth 100000 in
theorem mX11_remeasure (l : Launch) (E : XE) (hL : LX E) (st : Sto) {a1 : Int32} {r : Int32} {st1 : Sto} (h : fX11_remeasure a1 st = some (r, st1)) : Met l yX11_remeasure wsX11_remeasure ({ frames := 2, cells := 0, slots := 0, locals := 69 }) (va_Pc [.ref (E.2.2.1 0 (0)), .int a1] (RX E st)) (QX E (some (.int r)) st1) 0 0 E.2.2.2 := by
  refine Met.ofW (cc := cX11_remeasure) (maxL := 3) (ret := (some .boolean)) (by decide) rfl ?_
  intro p e s m args below meth c s₁ B hml hv
  obtain ⟨rfl, hP, hK⟩ := hv
  have hown : s.vm.findClass RX11 = some m.cls := findClass_of_methodNamed B.named
  have C0 : CX p m c cX11_remeasure 3 s _ wsX11_remeasure RX11 E := ⟨⟨B.exec, B.bytes, hml, hown, atoms_spec (ws := wsX11_remeasure) B.pre⟩, hK⟩
  have hx := B.exec
  have hb := B.bytes
  have hr := B.returns
  have hlocks := B.notSynchronized
  have hw : SX E s st s.heap [] := ⟨hP, va_S.rf⟩
  have hl := lv_entry ([.ref (E.2.2.1 0 (0)), .int a1]) (n := 3) (Nat.le_of_ble_eq_true rfl)
  rw [lg_entry_eq]
  generalize (lg_sl ([.ref (E.2.2.1 0 (0)), .int a1]) ++ List.replicate (3 - (lg_sl ([.ref (E.2.2.1 0 (0)), .int a1])).length) Slot.unset).toArray = ls at hl ⊢
  have hl : lv_has ls 3 [(0, .ref (E.2.2.1 0 (0))), (1, .int a1)] := hl
  unfold fX11_remeasure at h
  refine lv_aload_n hx hb dX11_remeasure_0 rfl (lv_at hl 0 rfl) ?_
  refine lv_iconst (v := 0) hx hb dX11_remeasure_1 (by decide) ?_
  refine lv_iload_n hx hb dX11_remeasure_2 rfl (lv_at hl 1 rfl) ?_
  obtain ⟨v1, hf2, h⟩ := bn_c h
  refine X_callV C0 hw (As := [.int (0 : Int32), .int a1]) (rest := []) (mX11_isThere l E hL st hf2) (cwV 2 C0.1.2.2.2.2 gX11_remeasure_X11_isThere rfl rfl rfl (by decide +kernel) ⟨Nat.le_of_ble_eq_true rfl, Nat.le_of_ble_eq_true rfl⟩) (X_recv_0 C0 hw (by decide)) rfl hl.1 rfl (Nat.le_of_ble_eq_true rfl) dX11_remeasure_3 ⟨Nat.zero_le _, Nat.zero_le _⟩ (fun H locs hw => ?_)
  refine W.eq (g2 := F0 m 6 ls [.int v1]) rfl ?_
  refine lv_if_ne (tgt := 15) hx hb dX11_remeasure_6 (by decide) (fun hc3 => ?_) (fun hc3 => ?_)
  · have h := ifn h hc3
    refine lv_aload_n hx hb dX11_remeasure_15 rfl (lv_at hl 0 rfl) ?_
    refine X_g0_18 C0 hw (fun w h => (List.mem_cons_of_mem _ (List.mem_append_left _ (List.mem_append_left _ (List.mem_append_right _ h))))) (by decide) ((List.mem_cons_of_mem _ (List.mem_append_left _ (List.mem_append_left _ (List.mem_append_left _ (List.mem_append_left _ (List.mem_of_getElem? (i := 0) rfl))))))) dX11_remeasure_16 ?_
    refine lv_bipush (v := 10) hx hb dX11_remeasure_19 (by decide) ?_
    refine lv_iload_n hx hb dX11_remeasure_21 rfl (lv_at hl 1 rfl) ?_
    refine lv_iconst (v := 0) hx hb dX11_remeasure_22 (by decide) ?_
    refine lv_iconst (v := 0) hx hb dX11_remeasure_23 (by decide) ?_
    obtain ⟨⟨v4, t5⟩, hf6, h⟩ := bn_c h
    have h := un2_d h
    refine X_callV C0 hw (As := [.int (10 : Int32), .int a1, .int (0 : Int32), .int (0 : Int32)]) (rest := []) (mX0_note l E hL st hf6) (cwV 4 C0.1.2.2.2.2 gX11_remeasure_X0_note rfl rfl rfl (by decide +kernel) ⟨Nat.le_of_ble_eq_true rfl, Nat.le_of_ble_eq_true rfl⟩) (X_recv_18 C0 hw (by decide)) rfl hl.1 rfl (Nat.le_of_ble_eq_true rfl) dX11_remeasure_24 ⟨Nat.zero_le _, Nat.zero_le _⟩ (fun H locs hw => ?_)
    obtain ⟨qf7, qi8⟩ := v4
    have h := un2_d h
    refine W.eq (g2 := F0 m 27 ls (.ref (E.2.2.1 qf7 qi8) :: [])) rfl ?_
    refine lv_astore_n (lv' := [(2, .ref (E.2.2.1 qf7 qi8)), (0, .ref (E.2.2.1 0 (0))), (1, .int a1)]) hx hb dX11_remeasure_27 rfl hl (by decide) rfl (fun ls hl => ?_)
    refine lv_aload_n hx hb dX11_remeasure_28 rfl (lv_at hl 1 rfl) ?_
    refine X_g0_4 C0 hw (fun w h => (List.mem_cons_of_mem _ (List.mem_append_left _ (List.mem_append_left _ (List.mem_append_right _ h))))) (by decide) ((List.mem_cons_of_mem _ (List.mem_append_left _ (List.mem_append_left _ (List.mem_append_left _ (List.mem_append_left _ (List.mem_of_getElem? (i := 1) rfl))))))) dX11_remeasure_29 ?_
    refine lv_iload_n hx hb dX11_remeasure_32 rfl (lv_at hl 2 rfl) ?_
    refine X_ald_4 C0 hw (by decide) h (k := a1.toNatClampNeg) rfl dX11_remeasure_33 (fun hk9 h => ?_)
    refine lv_aload_n hx hb dX11_remeasure_34 rfl (lv_at hl 0 rfl) ?_
    obtain ⟨t10, hf11, h⟩ := bn_c h
    refine X_callV C0 hw (As := [.ref (E.2.2.1 qf7 qi8)]) (rest := []) (mX2_keepIn l E hL t5 hk9 hf11) (cwV 1 C0.1.2.2.2.2 gX11_remeasure_X2_keepIn rfl rfl rfl (by decide +kernel) ⟨Nat.le_of_ble_eq_true rfl, Nat.le_of_ble_eq_true rfl⟩) (X_recv_19 C0 hw hk9) rfl hl.1 rfl (Nat.le_of_ble_eq_true rfl) dX11_remeasure_35 ⟨Nat.zero_le _, Nat.zero_le _⟩ (fun H locs hw => ?_)
    refine W.eq (g2 := F0 m 38 ls []) rfl ?_
    refine lv_aload_n hx hb dX11_remeasure_38 rfl (lv_at hl 1 rfl) ?_
    refine X_g0_4 C0 hw (fun w h => (List.mem_cons_of_mem _ (List.mem_append_left _ (List.mem_append_left _ (List.mem_append_right _ h))))) (by decide) ((List.mem_cons_of_mem _ (List.mem_append_left _ (List.mem_append_left _ (List.mem_append_left _ (List.mem_append_left _ (List.mem_of_getElem? (i := 1) rfl))))))) dX11_remeasure_39 ?_
    refine lv_iload_n hx hb dX11_remeasure_42 rfl (lv_at hl 2 rfl) ?_
    refine X_ald_4 C0 hw (by decide) h (k := a1.toNatClampNeg) rfl dX11_remeasure_43 (fun hk12 h => ?_)
    refine lv_aload_n hx hb dX11_remeasure_44 rfl (lv_at hl 1 rfl) ?_
    refine X_g0_0 C0 hw (fun w h => (List.mem_cons_of_mem _ (List.mem_append_left _ (List.mem_append_left _ (List.mem_append_right _ h))))) (by decide) ((List.mem_cons_of_mem _ (List.mem_append_left _ (List.mem_append_left _ (List.mem_append_left _ (List.mem_append_left _ (List.mem_of_getElem? (i := 2) rfl))))))) dX11_remeasure_45 ?_
    obtain ⟨t13, hf14, h⟩ := bn_c h
    refine X_callV C0 hw (As := [.ref (E.2.2.1 (1) (0))]) (rest := []) (mX2_remeasureAs l E hL t10 hk12 hf14) (cwV 1 C0.1.2.2.2.2 gX11_remeasure_X2_remeasureAs rfl rfl rfl (by decide +kernel) ⟨Nat.le_of_ble_eq_true rfl, Nat.le_of_ble_eq_true rfl⟩) (X_recv_19 C0 hw hk12) rfl hl.1 rfl (Nat.le_of_ble_eq_true rfl) dX11_remeasure_48 ⟨Nat.zero_le _, Nat.zero_le _⟩ (fun H locs hw => ?_)
    refine W.eq (g2 := F0 m 51 ls []) rfl ?_
    refine lv_aload_n hx hb dX11_remeasure_51 rfl (lv_at hl 1 rfl) ?_
    obtain ⟨⟨v15, t16⟩, hf17, h⟩ := bn_c h
    have h := un2_d h
    refine X_callV C0 hw (As := []) (rest := []) (mX11_accept l E hL t13 hf17) (cwV 0 C0.1.2.2.2.2 gX11_remeasure_X11_accept rfl rfl rfl (by decide +kernel) ⟨Nat.le_of_ble_eq_true rfl, Nat.le_of_ble_eq_true rfl⟩) (X_recv_0 C0 hw (by decide)) rfl hl.1 rfl (Nat.le_of_ble_eq_true rfl) dX11_remeasure_52 ⟨Nat.zero_le _, Nat.zero_le _⟩ (fun H locs hw => ?_)
    refine W.eq (g2 := F0 m 55 ls [.int v15]) rfl ?_
    obtain ⟨hz, h⟩ := ck_c h
    cases h
    exact W.zret hx hb hr (zz hz) (X_fin C0 hw) hw.2.2.2 dX11_remeasure_55 hlocks
  · have h := ifp h hc3
    refine lv_aload_n hx hb dX11_remeasure_9 rfl (lv_at hl 0 rfl) ?_
    refine lv_iconst (v := 2) hx hb dX11_remeasure_10 (by decide) ?_
    obtain ⟨⟨v18, t19⟩, hf20, h⟩ := bn_c h
    have h := un2_d h
    refine X_callV C0 hw (As := [.int (2 : Int32)]) (rest := []) (mX11_denied l E hL st hf20) (cwV 1 C0.1.2.2.2.2 gX11_remeasure_X11_denied rfl rfl rfl (by decide +kernel) ⟨Nat.le_of_ble_eq_true rfl, Nat.le_of_ble_eq_true rfl⟩) (X_recv_0 C0 hw (by decide)) rfl hl.1 rfl (Nat.le_of_ble_eq_true rfl) dX11_remeasure_11 ⟨Nat.zero_le _, Nat.zero_le _⟩ (fun H locs hw => ?_)
    refine W.eq (g2 := F0 m 14 ls [.int v18]) rfl ?_
    obtain ⟨hz, h⟩ := ck_c h
    cases h
    exact W.zret hx hb hr (zz hz) (X_fin C0 hw) hw.2.2.2 dX11_remeasure_14 hlocks

def fX11_drift (a1 : Int32) (st : Sto) : Option Int32 :=
  (fX11_driftOf a1 st).bind (fun (v1 : (Option (Nat × Nat))) => oq v1 (
    some (0 : Int32)) fun (qf3 qi4 : Nat) =>
   ((lp (σ := (Int32 × UInt64)) (ρ := UInt64) (un2 fun (v8 : Int32) (v9 : UInt64) =>
      if (16 : Int32) ≤ v8 then (
       some (.inr v9)) else (
       ck (0 ≤ v8.toInt ∧ v8.toInt < (lFX qf3 qi4 : Int)) (
        nd (FP.f2d (gF st qf3 qi4 (v8.toNatClampNeg))) fun (v15 : UInt64) =>
        nd (FP.dadd v9 v15) fun (v16 : UInt64) =>
        lt1 (v8 + Int32.ofInt (1)) fun (v17 : Int32) =>
        some (.inl (v17, v16))))) 4000 ((0 : Int32), FP.dconst0)).bind
    (fun (v10 : UInt64) =>
     nd (FP.ddiv v10 (4625196817309499392 : UInt64)) fun (v18 : UInt64) =>
     (fX7_floatBits v18).bind (fun (v19 : Int32) =>
      some v19))))
set_option maxHeartbeats 4000000 in
set_option maxRecDepth 100000 in
theorem mX11_drift (l : Launch) (E : XE) (hL : LX E) (st : Sto) {a1 : Int32} {r : Int32} (h : fX11_drift a1 st = some r) : Met l yX11_drift wsX11_drift ({ frames := 2, cells := 0, slots := 0, locals := 43 }) (va_Pc [.ref (E.2.2.1 0 (0)), .int a1] (RX E st)) (QX E (some (.int r)) st) 0 0 E.2.2.2 := by
  refine Met.ofW (cc := cX11_drift) (maxL := 6) (ret := (some .int)) (by decide) rfl ?_
  intro p e s m args below meth c s₁ B hml hv
  obtain ⟨rfl, hP, hK⟩ := hv
  have hown : s.vm.findClass RX11 = some m.cls := findClass_of_methodNamed B.named
  have C0 : CX p m c cX11_drift 6 s _ wsX11_drift RX11 E := ⟨⟨B.exec, B.bytes, hml, hown, atoms_spec (ws := wsX11_drift) B.pre⟩, hK⟩
  have hx := B.exec
  have hb := B.bytes
  have hr := B.returns
  have hlocks := B.notSynchronized
  have hw : SX E s st s.heap [] := ⟨hP, va_S.rf⟩
  have hl := lv_entry ([.ref (E.2.2.1 0 (0)), .int a1]) (n := 6) (Nat.le_of_ble_eq_true rfl)
  rw [lg_entry_eq]
  generalize (lg_sl ([.ref (E.2.2.1 0 (0)), .int a1]) ++ List.replicate (6 - (lg_sl ([.ref (E.2.2.1 0 (0)), .int a1])).length) Slot.unset).toArray = ls at hl ⊢
  have hl : lv_has ls 6 [(0, .ref (E.2.2.1 0 (0))), (1, .int a1)] := hl
  unfold fX11_drift at h
  refine lv_aload_n hx hb dX11_drift_0 rfl (lv_at hl 0 rfl) ?_
  refine lv_iload_n hx hb dX11_drift_1 rfl (lv_at hl 1 rfl) ?_
  obtain ⟨v1, hf2, h⟩ := bn_c h
  refine X_callV C0 hw (As := [.int a1]) (rest := []) (mX11_driftOf l E hL st hf2) (cwV 1 C0.1.2.2.2.2 gX11_drift_X11_driftOf rfl rfl rfl (by decide +kernel) ⟨Nat.le_of_ble_eq_true rfl, Nat.le_of_ble_eq_true rfl⟩) (X_recv_0 C0 hw (by decide)) rfl hl.1 rfl (Nat.le_of_ble_eq_true rfl) dX11_drift_2 ⟨Nat.zero_le _, Nat.zero_le _⟩ (fun H locs hw => ?_)
  rcases v1 with _ | ⟨qf3, qi4⟩
  · have h := oq_n h
    refine W.eq (g2 := F0 m 5 ls (.null :: [])) rfl ?_
    refine lv_astore_nN (lv' := [(2, .null), (0, .ref (E.2.2.1 0 (0))), (1, .int a1)]) hx hb dX11_drift_5 rfl hl (by decide) rfl (fun ls hl => ?_)
    refine lv_aload_nN hx hb dX11_drift_6 rfl (lv_at hl 0 rfl) ?_
    refine lv_ifnonnullN hx hb dX11_drift_7 ?_
    refine lv_iconst (v := 0) hx hb dX11_drift_10 (by decide) ?_
    cases h
    exact W.iret hx hb hr (X_fin C0 hw) hw.2.2.2 dX11_drift_11 hlocks
  · have h := oq_s h
    refine W.eq (g2 := F0 m 5 ls (.ref (E.2.2.1 qf3 qi4) :: [])) rfl ?_
    refine lv_astore_n (lv' := [(2, .ref (E.2.2.1 qf3 qi4)), (0, .ref (E.2.2.1 0 (0))), (1, .int a1)]) hx hb dX11_drift_5 rfl hl (by decide) rfl (fun ls hl => ?_)
    refine lv_aload_n hx hb dX11_drift_6 rfl (lv_at hl 0 rfl) ?_
    refine lv_ifnonnull (tgt := 12) hx hb dX11_drift_7 (by decide) ?_
    refine lv_dconst0 hx hb dX11_drift_12 ?_
    refine lv_dstore_n (lv' := [(3, .double FP.dconst0), (2, .ref (E.2.2.1 qf3 qi4)), (0, .ref (E.2.2.1 0 (0))), (1, .int a1)]) hx hb dX11_drift_13 rfl hl (by decide) rfl (fun ls hl => ?_)
    refine lv_iconst (v := 0) hx hb dX11_drift_14 (by decide) ?_
    refine lv_istore (lv' := [(5, .int (0 : Int32)), (3, .double FP.dconst0), (2, .ref (E.2.2.1 qf3 qi4)), (0, .ref (E.2.2.1 0 (0))), (1, .int a1)]) hx hb dX11_drift_15 hl (by decide) rfl (fun ls hl => ?_)
    refine lp_ind (fun q : (Int32 × UInt64) => ∀ (H : Heap) (locs : List Loc), SX E s st H locs → ∀ ls : Array Slot, lv_has ls 6 [(5, .int (q.1)), (3, .double (q.2)), (2, .ref (E.2.2.1 qf3 qi4))] → W p l e (headSpec wsX11_drift ({ frames := 2, cells := 0, slots := 0, locals := 43 })).room s m ([.ref (E.2.2.1 0 (0)), .int a1] : List Value).toArray below meth c H locs 0 0 (MQ below (QX E (some (.int r)) st) ([.ref (E.2.2.1 0 (0)), .int a1] : List Value).toArray s 0 0 E.2.2.2) (F0 m 17 ls [])) (fun q o7 h hB6 hX5 => ?_) _ _ h _ _ hw _ (lv_sub hl [0, 1, 2] rfl)
    intro H locs hw ls hl
    obtain ⟨v8, v9⟩ := q
    have h := un2_d h
    have hl : lv_has ls 6 [(5, .int v8), (3, .double v9), (2, .ref (E.2.2.1 qf3 qi4))] := hl
    refine lv_iload hx hb dX11_drift_17 (lv_at hl 0 rfl) ?_
    refine lv_bipush (v := 16) hx hb dX11_drift_19 (by decide) ?_
    refine lv_icmp_ge (tgt := 38) hx hb dX11_drift_21 (by decide) (fun hc11 => ?_) (fun hc11 => ?_)
    · have h := ifp h hc11
      have h := hX5 _ (Option.some.inj h).symm
      have hl := lv_sub hl (l' := [(3, .double v9)]) [1] rfl
      refine lv_dload_n hx hb dX11_drift_38 rfl (lv_at hl 0 rfl) ?_
      refine lv_ldc2d hx hb hown (C0.1.2.2.2.2 _ (List.mem_cons_of_mem _ (List.mem_append_left _ (List.mem_append_left _ (List.mem_of_getElem? (i := 0) rfl))))) dX11_drift_39 ?_
      refine x_ddiv hx hb h dX11_drift_42 (fun v12 h => ?_)
      obtain ⟨v13, hf14, h⟩ := bn_c h
      refine X_callS C0 hw (As := [.double v12]) (rest := []) (mX7_floatBits l E hL st hf14) (va_cwS 1 C0.1.2.2.2.2 gX11_drift_X7_floatBits rfl rfl rfl (by decide +kernel) ⟨Nat.le_of_ble_eq_true rfl, Nat.le_of_ble_eq_true rfl⟩) rfl hl.1 rfl (Nat.le_of_ble_eq_true rfl) dX11_drift_43 ⟨Nat.zero_le _, Nat.zero_le _⟩ (fun H locs hw => ?_)
      refine W.eq (g2 := F0 m 46 ls [.int v13]) rfl ?_
      cases h
      exact W.iret hx hb hr (X_fin C0 hw) hw.2.2.2 dX11_drift_46 hlocks
    · have h := ifn h hc11
      refine lv_dload_n hx hb dX11_drift_24 rfl (lv_at hl 1 rfl) ?_
      refine lv_aload_n hx hb dX11_drift_25 rfl (lv_at hl 2 rfl) ?_
      refine lv_iload hx hb dX11_drift_26 (lv_at hl 0 rfl) ?_
      refine X_fald C0 hw h (k := v8.toNatClampNeg) rfl dX11_drift_28 (fun h => ?_)
      refine x_f2d hx hb h dX11_drift_29 (fun v15 h => ?_)
      refine x_dadd hx hb h dX11_drift_30 (fun v16 h => ?_)
      refine lv_dstore_n (lv' := [(3, .double v16), (5, .int v8), (2, .ref (E.2.2.1 qf3 qi4))]) hx hb dX11_drift_31 rfl hl (by decide) rfl (fun ls hl => ?_)
      refine x_iinc hx hb h dX11_drift_32 hl (q := 1) rfl (fun v17 => [(5, .int v17), (3, .double v16), (2, .ref (E.2.2.1 qf3 qi4))]) (by decide) (fun _ => rfl) (fun v17 ls hl h => ?_)
      refine lv_goto (tgt := 17) hx hb dX11_drift_35 (by decide) ?_
      exact hB6 _ (Option.some.inj h).symm _ _ hw _ (lv_sub hl [0, 1, 2] rfl)

def fX11_pack (a1 : Int32) (a2 : Int32) (st : Sto) : Option (Int32 × Sto) :=
  (fX11_spectrumOf a1 a2 st).bind (fun (v1 : (Option (Nat × Nat))) => oq v1 (
    some ((-1 : Int32), st)) fun (qf3 qi4 : Nat) =>
   (fX5_write qf3 qi4 st).bind (un2 fun (v5 : Int32) (t6 : Sto) =>
    some (v5, t6)))
set_option maxHeartbeats 4000000 in
set_option maxRecDepth 100000 in
theorem mX11_pack (l : Launch) (E : XE) (hL : LX E) (st : Sto) {a1 : Int32} {a2 : Int32} {r : Int32} {st1 : Sto} (h : fX11_pack a1 a2 st = some (r, st1)) : Met l yX11_pack wsX11_pack ({ frames := 2, cells := 0, slots := 0, locals := 49 }) (va_Pc [.ref (E.2.2.1 0 (0)), .int a1, .int a2] (RX E st)) (QX E (some (.int r)) st1) 0 0 E.2.2.2 := by
  refine Met.ofW (cc := cX11_pack) (maxL := 4) (ret := (some .int)) (by decide) rfl ?_
  intro p e s m args below meth c s₁ B hml hv
  obtain ⟨rfl, hP, hK⟩ := hv
  have hown : s.vm.findClass RX11 = some m.cls := findClass_of_methodNamed B.named
  have C0 : CX p m c cX11_pack 4 s _ wsX11_pack RX11 E := ⟨⟨B.exec, B.bytes, hml, hown, atoms_spec (ws := wsX11_pack) B.pre⟩, hK⟩
  have hx := B.exec
  have hb := B.bytes
  have hr := B.returns
  have hlocks := B.notSynchronized
  have hw : SX E s st s.heap [] := ⟨hP, va_S.rf⟩
  have hl := lv_entry ([.ref (E.2.2.1 0 (0)), .int a1, .int a2]) (n := 4) (Nat.le_of_ble_eq_true rfl)
  rw [lg_entry_eq]
  generalize (lg_sl ([.ref (E.2.2.1 0 (0)), .int a1, .int a2]) ++ List.replicate (4 - (lg_sl ([.ref (E.2.2.1 0 (0)), .int a1, .int a2])).length) Slot.unset).toArray = ls at hl ⊢
  have hl : lv_has ls 4 [(0, .ref (E.2.2.1 0 (0))), (1, .int a1), (2, .int a2)] := hl
  unfold fX11_pack at h
  refine lv_aload_n hx hb dX11_pack_0 rfl (lv_at hl 0 rfl) ?_
  refine lv_iload_n hx hb dX11_pack_1 rfl (lv_at hl 1 rfl) ?_
  refine lv_iload_n hx hb dX11_pack_2 rfl (lv_at hl 2 rfl) ?_
  obtain ⟨v1, hf2, h⟩ := bn_c h
  refine X_callV C0 hw (As := [.int a1, .int a2]) (rest := []) (mX11_spectrumOf l E hL st hf2) (cwV 2 C0.1.2.2.2.2 gX11_pack_X11_spectrumOf rfl rfl rfl (by decide +kernel) ⟨Nat.le_of_ble_eq_true rfl, Nat.le_of_ble_eq_true rfl⟩) (X_recv_0 C0 hw (by decide)) rfl hl.1 rfl (Nat.le_of_ble_eq_true rfl) dX11_pack_3 ⟨Nat.zero_le _, Nat.zero_le _⟩ (fun H locs hw => ?_)
  rcases v1 with _ | ⟨qf3, qi4⟩
  · have h := oq_n h
    refine W.eq (g2 := F0 m 6 ls (.null :: [])) rfl ?_
    refine lv_astore_nN (lv' := [(3, .null), (0, .ref (E.2.2.1 0 (0))), (1, .int a1), (2, .int a2)]) hx hb dX11_pack_6 rfl hl (by decide) rfl (fun ls hl => ?_)
    refine lv_aload_nN hx hb dX11_pack_7 rfl (lv_at hl 0 rfl) ?_
    refine lv_ifnonnullN hx hb dX11_pack_8 ?_
    refine lv_iconst (v := -1) hx hb dX11_pack_11 (by decide) ?_
    cases h
    exact W.iret hx hb hr (X_fin C0 hw) hw.2.2.2 dX11_pack_12 hlocks
  · have h := oq_s h
    refine W.eq (g2 := F0 m 6 ls (.ref (E.2.2.1 qf3 qi4) :: [])) rfl ?_
    refine lv_astore_n (lv' := [(3, .ref (E.2.2.1 qf3 qi4)), (0, .ref (E.2.2.1 0 (0))), (1, .int a1), (2, .int a2)]) hx hb dX11_pack_6 rfl hl (by decide) rfl (fun ls hl => ?_)
    refine lv_aload_n hx hb dX11_pack_7 rfl (lv_at hl 0 rfl) ?_
    refine lv_ifnonnull (tgt := 13) hx hb dX11_pack_8 (by decide) ?_
    refine lv_aload_n hx hb dX11_pack_13 rfl (lv_at hl 1 rfl) ?_
    refine X_g0_17 C0 hw (fun w h => (List.mem_cons_of_mem _ (List.mem_append_left _ (List.mem_append_left _ (List.mem_append_left _ (List.mem_append_right _ h)))))) (by decide) ((List.mem_cons_of_mem _ (List.mem_append_left _ (List.mem_append_left _ (List.mem_append_left _ (List.mem_append_left _ (List.mem_append_left _ (List.mem_of_getElem? (i := 0) rfl)))))))) dX11_pack_14 ?_
    refine lv_aload_n hx hb dX11_pack_17 rfl (lv_at hl 0 rfl) ?_
    obtain ⟨⟨v5, t6⟩, hf7, h⟩ := bn_c h
    have h := un2_d h
    refine X_callV C0 hw (As := [.ref (E.2.2.1 qf3 qi4)]) (rest := []) (mX5_write l E hL st hf7) (cwV 1 C0.1.2.2.2.2 gX11_pack_X5_write rfl rfl rfl (by decide +kernel) ⟨Nat.le_of_ble_eq_true rfl, Nat.le_of_ble_eq_true rfl⟩) (X_recv_17 C0 hw (by decide)) rfl hl.1 rfl (Nat.le_of_ble_eq_true rfl) dX11_pack_18 ⟨Nat.zero_le _, Nat.zero_le _⟩ (fun H locs hw => ?_)
    refine W.eq (g2 := F0 m 21 ls [.int v5]) rfl ?_
    cases h
    exact W.iret hx hb hr (X_fin C0 hw) hw.2.2.2 dX11_pack_21 hlocks

def fX11_letter (a1 : Int32) (a2 : Int32) (st : Sto) : Option (Int32 × Sto) :=
  if a1 < 0 then (
   some ((0 : Int32), st)) else (
   if (68 : Int32) ≤ a1 then (
    some ((0 : Int32), st)) else (
    if a2 < 0 then (
     some ((0 : Int32), st)) else (
     if a2 ≤ (255 : Int32) then (
      ck (0 ≤ a1.toInt ∧ a1.toInt < (lIX (53) (0) : Int)) (lt1 (sI st (53) (0) (a1.toNatClampNeg) a2) fun (t5 : Sto) =>
       some ((1 : Int32), t5))) else (
      some ((0 : Int32), st)))))
set_option maxHeartbeats 4000000 in
set_option maxRecDepth 100000 in
theorem mX11_letter (l : Launch) (E : XE) (hL : LX E) (st : Sto) {a1 : Int32} {a2 : Int32} {r : Int32} {st1 : Sto} (h : fX11_letter a1 a2 st = some (r, st1)) : Met l yX11_letter wsX11_letter ({ frames := 0, cells := 0, slots := 0, locals := 0 }) (va_Pc [.ref (E.2.2.1 0 (0)), .int a1, .int a2] (RX E st)) (QX E (some (.int r)) st1) 0 0 E.2.2.2 := by
  refine Met.ofW (cc := cX11_letter) (maxL := 3) (ret := (some .boolean)) (by decide) rfl ?_
  intro p e s m args below meth c s₁ B hml hv
  obtain ⟨rfl, hP, hK⟩ := hv
  have hown : s.vm.findClass RX11 = some m.cls := findClass_of_methodNamed B.named
  have C0 : CX p m c cX11_letter 3 s _ wsX11_letter RX11 E := ⟨⟨B.exec, B.bytes, hml, hown, atoms_spec (ws := wsX11_letter) B.pre⟩, hK⟩
  have hx := B.exec
  have hb := B.bytes
  have hr := B.returns
  have hlocks := B.notSynchronized
  have hw : SX E s st s.heap [] := ⟨hP, va_S.rf⟩
  have hl := lv_entry ([.ref (E.2.2.1 0 (0)), .int a1, .int a2]) (n := 3) (Nat.le_of_ble_eq_true rfl)
  rw [lg_entry_eq]
  generalize (lg_sl ([.ref (E.2.2.1 0 (0)), .int a1, .int a2]) ++ List.replicate (3 - (lg_sl ([.ref (E.2.2.1 0 (0)), .int a1, .int a2])).length) Slot.unset).toArray = ls at hl ⊢
  have hl : lv_has ls 3 [(0, .ref (E.2.2.1 0 (0))), (1, .int a1), (2, .int a2)] := hl
  unfold fX11_letter at h
  refine lv_iload_n hx hb dX11_letter_0 rfl (lv_at hl 1 rfl) ?_
  refine lv_if_lt (tgt := 21) hx hb dX11_letter_1 (by decide) (fun hc1 => ?_) (fun hc1 => ?_)
  · have h := ifp h hc1
    refine lv_iconst (v := 0) hx hb dX11_letter_21 (by decide) ?_
    cases h
    exact W.zret hx hb hr rfl (X_fin C0 hw) hw.2.2.2 dX11_letter_22 hlocks
  · have h := ifn h hc1
    refine lv_iload_n hx hb dX11_letter_4 rfl (lv_at hl 1 rfl) ?_
    refine lv_bipush (v := 68) hx hb dX11_letter_5 (by decide) ?_
    refine lv_icmp_ge (tgt := 21) hx hb dX11_letter_7 (by decide) (fun hc2 => ?_) (fun hc2 => ?_)
    · have h := ifp h hc2
      refine lv_iconst (v := 0) hx hb dX11_letter_21 (by decide) ?_
      cases h
      exact W.zret hx hb hr rfl (X_fin C0 hw) hw.2.2.2 dX11_letter_22 hlocks
    · have h := ifn h hc2
      refine lv_iload_n hx hb dX11_letter_10 rfl (lv_at hl 2 rfl) ?_
      refine lv_if_lt (tgt := 21) hx hb dX11_letter_11 (by decide) (fun hc3 => ?_) (fun hc3 => ?_)
      · have h := ifp h hc3
        refine lv_iconst (v := 0) hx hb dX11_letter_21 (by decide) ?_
        cases h
        exact W.zret hx hb hr rfl (X_fin C0 hw) hw.2.2.2 dX11_letter_22 hlocks
      · have h := ifn h hc3
        refine lv_iload_n hx hb dX11_letter_14 rfl (lv_at hl 2 rfl) ?_
        refine lv_sipush (v := 255) hx hb dX11_letter_15 (by decide) ?_
        refine lv_icmp_le (tgt := 23) hx hb dX11_letter_18 (by decide) (fun hc4 => ?_) (fun hc4 => ?_)
        · have h := ifp h hc4
          refine lv_aload_n hx hb dX11_letter_23 rfl (lv_at hl 0 rfl) ?_
          refine X_g0_17 C0 hw (fun w h => (List.mem_cons_of_mem _ (List.mem_append_left _ (List.mem_append_right _ h)))) (by decide) ((List.mem_cons_of_mem _ (List.mem_append_left _ (List.mem_append_left _ (List.mem_of_getElem? (i := 0) rfl))))) dX11_letter_24 ?_
          refine X_g17_2 C0 hw (fun w h => (List.mem_cons_of_mem _ (List.mem_append_right _ h))) (by decide) ((List.mem_cons_of_mem _ (List.mem_append_left _ (List.mem_append_left _ (List.mem_of_getElem? (i := 1) rfl))))) dX11_letter_27 ?_
          refine lv_iload_n hx hb dX11_letter_30 rfl (lv_at hl 1 rfl) ?_
          refine lv_iload_n hx hb dX11_letter_31 rfl (lv_at hl 2 rfl) ?_
          refine X_iast hL C0 hw h (k := a1.toNatClampNeg) rfl dX11_letter_32 (fun t5 H locs hw h => ?_)
          refine lv_iconst (v := 1) hx hb dX11_letter_33 (by decide) ?_
          cases h
          exact W.zret hx hb hr rfl (X_fin C0 hw) hw.2.2.2 dX11_letter_34 hlocks
        · have h := ifn h hc4
          refine lv_iconst (v := 0) hx hb dX11_letter_21 (by decide) ?_
          cases h
          exact W.zret hx hb hr rfl (X_fin C0 hw) hw.2.2.2 dX11_letter_22 hlocks

def fX11_post (st : Sto) : Option (Int32 × Sto) :=
  if gI st 17 (0) 1 = (68 : Int32) then (
   ck (68 ≤ lIX (52) (0) ∧ 68 ≤ lIX (53) (0) ) (lt1 (cI st (52) (0) 0 (53) (0) 0 68) fun (t2 : Sto) =>
    some ((1 : Int32), t2))) else (
   some ((0 : Int32), st))
set_option maxHeartbeats 4000000 in
set_option maxRecDepth 100000 in
theorem mX11_post (l : Launch) (E : XE) (hL : LX E) (st : Sto) {r : Int32} {st1 : Sto} (h : fX11_post st = some (r, st1)) : Met l yX11_post wsX11_post ({ frames := 1, cells := 0, slots := 0, locals := 48 }) (va_Pc [.ref (E.2.2.1 0 (0))] (RX E st)) (QX E (some (.int r)) st1) 0 0 E.2.2.2 := by
  refine Met.ofW (cc := cX11_post) (maxL := 1) (ret := (some .boolean)) (by decide) rfl ?_
  intro p e s m args below meth c s₁ B hml hv
  obtain ⟨rfl, hP, hK⟩ := hv
  have hown : s.vm.findClass RX11 = some m.cls := findClass_of_methodNamed B.named
  have C0 : CX p m c cX11_post 1 s _ wsX11_post RX11 E := ⟨⟨B.exec, B.bytes, hml, hown, atoms_spec (ws := wsX11_post) B.pre⟩, hK⟩
  have hx := B.exec
  have hb := B.bytes
  have hr := B.returns
  have hlocks := B.notSynchronized
  have hw : SX E s st s.heap [] := ⟨hP, va_S.rf⟩
  have hl := lv_entry ([.ref (E.2.2.1 0 (0))]) (n := 1) (Nat.le_of_ble_eq_true rfl)
  rw [lg_entry_eq]
  generalize (lg_sl ([.ref (E.2.2.1 0 (0))]) ++ List.replicate (1 - (lg_sl ([.ref (E.2.2.1 0 (0))])).length) Slot.unset).toArray = ls at hl ⊢
  have hl : lv_has ls 1 [(0, .ref (E.2.2.1 0 (0)))] := hl
  unfold fX11_post at h
  refine lv_aload_n hx hb dX11_post_0 rfl (lv_at hl 0 rfl) ?_
  refine X_g0_17 C0 hw (fun w h => (List.mem_cons_of_mem _ (List.mem_append_left _ (List.mem_append_right _ h)))) (by decide) ((List.mem_cons_of_mem _ (List.mem_append_left _ (List.mem_append_left _ (List.mem_of_getElem? (i := 0) rfl))))) dX11_post_1 ?_
  refine X_g17_1 C0 hw (fun w h => (List.mem_cons_of_mem _ (List.mem_append_right _ h))) (by decide) ((List.mem_cons_of_mem _ (List.mem_append_left _ (List.mem_append_left _ (List.mem_of_getElem? (i := 1) rfl))))) dX11_post_4 ?_
  refine lv_bipush (v := 68) hx hb dX11_post_7 (by decide) ?_
  refine lv_icmp_eq (tgt := 14) hx hb dX11_post_9 (by decide) (fun hc1 => ?_) (fun hc1 => ?_)
  · have h := ifp h hc1
    refine lv_aload_n hx hb dX11_post_14 rfl (lv_at hl 0 rfl) ?_
    refine X_g0_17 C0 hw (fun w h => (List.mem_cons_of_mem _ (List.mem_append_left _ (List.mem_append_right _ h)))) (by decide) ((List.mem_cons_of_mem _ (List.mem_append_left _ (List.mem_append_left _ (List.mem_of_getElem? (i := 0) rfl))))) dX11_post_15 ?_
    refine X_g17_0 C0 hw (fun w h => (List.mem_cons_of_mem _ (List.mem_append_right _ h))) (by decide) ((List.mem_cons_of_mem _ (List.mem_append_left _ (List.mem_append_left _ (List.mem_of_getElem? (i := 2) rfl))))) dX11_post_18 ?_
    refine lv_iconst (v := 0) hx hb dX11_post_21 (by decide) ?_
    refine lv_aload_n hx hb dX11_post_22 rfl (lv_at hl 0 rfl) ?_
    refine X_g0_17 C0 hw (fun w h => (List.mem_cons_of_mem _ (List.mem_append_left _ (List.mem_append_right _ h)))) (by decide) ((List.mem_cons_of_mem _ (List.mem_append_left _ (List.mem_append_left _ (List.mem_of_getElem? (i := 0) rfl))))) dX11_post_23 ?_
    refine X_g17_2 C0 hw (fun w h => (List.mem_cons_of_mem _ (List.mem_append_right _ h))) (by decide) ((List.mem_cons_of_mem _ (List.mem_append_left _ (List.mem_append_left _ (List.mem_of_getElem? (i := 3) rfl))))) dX11_post_26 ?_
    refine lv_iconst (v := 0) hx hb dX11_post_29 (by decide) ?_
    refine lv_bipush (v := 68) hx hb dX11_post_30 (by decide) ?_
    refine X_cpi hL C0 hw h (sp := 0) (dp := 0) (n := 68) rfl rfl rfl (by decide) (by decide) ⟨by decide, by decide⟩ (hml.trans hl.1.symm) hown (C0.1.2.2.2.2 _ (List.mem_cons_of_mem _ (List.mem_append_left _ (List.mem_append_left _ (List.mem_of_getElem? (i := 4) rfl))))) (C0.1.2.2.2.2 _ (List.mem_cons_of_mem _ (List.mem_append_left _ (List.mem_append_left _ (List.mem_of_getElem? (i := 5) rfl))))) (C0.1.2.2.2.2 _ (List.mem_cons_of_mem _ (List.mem_append_left _ (List.mem_append_left _ (List.mem_of_getElem? (i := 6) rfl))))) (C0.1.2.2.2.2 _ (List.mem_cons_of_mem _ (List.mem_append_left _ (List.mem_append_left _ (List.mem_of_getElem? (i := 7) rfl))))) (Nat.le_of_ble_eq_true rfl) (Nat.le_of_ble_eq_true rfl) dX11_post_32 (fun t2 H locs hw h => ?_)
    refine lv_iconst (v := 1) hx hb dX11_post_35 (by decide) ?_
    cases h
    exact W.zret hx hb hr rfl (X_fin C0 hw) hw.2.2.2 dX11_post_36 hlocks
  · have h := ifn h hc1
    refine lv_iconst (v := 0) hx hb dX11_post_12 (by decide) ?_
    cases h
    exact W.zret hx hb hr rfl (X_fin C0 hw) hw.2.2.2 dX11_post_13 hlocks

def fX11_unpack (st : Sto) : Option (Int32 × Sto) :=
  (fX5_hasRightSum st).bind (fun (v1 : Int32) =>
   if v1 = 0 then (
    (fX11_denied (5 : Int32) st).bind (un2 fun (v15 : Int32) (t16 : Sto) =>
     ck (v15 &&& 1 = v15) (
      some (v15, t16)))) else (
    (fX5_isTakenAll st).bind (fun (v4 : Int32) =>
     if v4 = 0 then (
      (fX11_denied (3 : Int32) st).bind (un2 fun (v12 : Int32) (t13 : Sto) =>
       ck (v12 &&& 1 = v12) (
        some (v12, t13)))) else (
      (fX5_read (1) (0) st).bind (fun (t7 : Sto) =>
       (fX11_accept t7).bind (un2 fun (v9 : Int32) (t10 : Sto) =>
        ck (v9 &&& 1 = v9) (
         some (v9, t10))))))))
set_option maxHeartbeats 4000000 in
set_option maxRecDepth 100000 in
theorem mX11_unpack (l : Launch) (E : XE) (hL : LX E) (st : Sto) {r : Int32} {st1 : Sto} (h : fX11_unpack st = some (r, st1)) : Met l yX11_unpack wsX11_unpack ({ frames := 3, cells := 0, slots := 0, locals := 71 }) (va_Pc [.ref (E.2.2.1 0 (0))] (RX E st)) (QX E (some (.int r)) st1) 0 0 E.2.2.2 := by
  refine Met.ofW (cc := cX11_unpack) (maxL := 1) (ret := (some .boolean)) (by decide) rfl ?_
  intro p e s m args below meth c s₁ B hml hv
  obtain ⟨rfl, hP, hK⟩ := hv
  have hown : s.vm.findClass RX11 = some m.cls := findClass_of_methodNamed B.named
  have C0 : CX p m c cX11_unpack 1 s _ wsX11_unpack RX11 E := ⟨⟨B.exec, B.bytes, hml, hown, atoms_spec (ws := wsX11_unpack) B.pre⟩, hK⟩
  have hx := B.exec
  have hb := B.bytes
  have hr := B.returns
  have hlocks := B.notSynchronized
  have hw : SX E s st s.heap [] := ⟨hP, va_S.rf⟩
  have hl := lv_entry ([.ref (E.2.2.1 0 (0))]) (n := 1) (Nat.le_of_ble_eq_true rfl)
  rw [lg_entry_eq]
  generalize (lg_sl ([.ref (E.2.2.1 0 (0))]) ++ List.replicate (1 - (lg_sl ([.ref (E.2.2.1 0 (0))])).length) Slot.unset).toArray = ls at hl ⊢
  have hl : lv_has ls 1 [(0, .ref (E.2.2.1 0 (0)))] := hl
  unfold fX11_unpack at h
  refine lv_aload_n hx hb dX11_unpack_0 rfl (lv_at hl 0 rfl) ?_
  refine X_g0_17 C0 hw (fun w h => (List.mem_cons_of_mem _ (List.mem_append_left _ (List.mem_append_right _ h)))) (by decide) ((List.mem_cons_of_mem _ (List.mem_append_left _ (List.mem_append_left _ (List.mem_append_left _ (List.mem_of_getElem? (i := 0) rfl)))))) dX11_unpack_1 ?_
  obtain ⟨v1, hf2, h⟩ := bn_c h
  refine X_callV C0 hw (As := []) (rest := []) (mX5_hasRightSum l E hL st hf2) (cwV 0 C0.1.2.2.2.2 gX11_unpack_X5_hasRightSum rfl rfl rfl (by decide +kernel) ⟨Nat.le_of_ble_eq_true rfl, Nat.le_of_ble_eq_true rfl⟩) (X_recv_17 C0 hw (by decide)) rfl hl.1 rfl (Nat.le_of_ble_eq_true rfl) dX11_unpack_4 ⟨Nat.zero_le _, Nat.zero_le _⟩ (fun H locs hw => ?_)
  refine W.eq (g2 := F0 m 7 ls [.int v1]) rfl ?_
  refine lv_if_ne (tgt := 16) hx hb dX11_unpack_7 (by decide) (fun hc3 => ?_) (fun hc3 => ?_)
  · have h := ifn h hc3
    refine lv_aload_n hx hb dX11_unpack_16 rfl (lv_at hl 0 rfl) ?_
    refine X_g0_17 C0 hw (fun w h => (List.mem_cons_of_mem _ (List.mem_append_left _ (List.mem_append_right _ h)))) (by decide) ((List.mem_cons_of_mem _ (List.mem_append_left _ (List.mem_append_left _ (List.mem_append_left _ (List.mem_of_getElem? (i := 0) rfl)))))) dX11_unpack_17 ?_
    obtain ⟨v4, hf5, h⟩ := bn_c h
    refine X_callV C0 hw (As := []) (rest := []) (mX5_isTakenAll l E hL st hf5) (cwV 0 C0.1.2.2.2.2 gX11_unpack_X5_isTakenAll rfl rfl rfl (by decide +kernel) ⟨Nat.le_of_ble_eq_true rfl, Nat.le_of_ble_eq_true rfl⟩) (X_recv_17 C0 hw (by decide)) rfl hl.1 rfl (Nat.le_of_ble_eq_true rfl) dX11_unpack_20 ⟨Nat.zero_le _, Nat.zero_le _⟩ (fun H locs hw => ?_)
    refine W.eq (g2 := F0 m 23 ls [.int v4]) rfl ?_
    refine lv_if_ne (tgt := 32) hx hb dX11_unpack_23 (by decide) (fun hc6 => ?_) (fun hc6 => ?_)
    · have h := ifn h hc6
      refine lv_aload_n hx hb dX11_unpack_32 rfl (lv_at hl 0 rfl) ?_
      refine X_g0_17 C0 hw (fun w h => (List.mem_cons_of_mem _ (List.mem_append_left _ (List.mem_append_right _ h)))) (by decide) ((List.mem_cons_of_mem _ (List.mem_append_left _ (List.mem_append_left _ (List.mem_append_left _ (List.mem_of_getElem? (i := 0) rfl)))))) dX11_unpack_33 ?_
      refine lv_aload_n hx hb dX11_unpack_36 rfl (lv_at hl 0 rfl) ?_
      refine X_g0_0 C0 hw (fun w h => (List.mem_cons_of_mem _ (List.mem_append_left _ (List.mem_append_right _ h)))) (by decide) ((List.mem_cons_of_mem _ (List.mem_append_left _ (List.mem_append_left _ (List.mem_append_left _ (List.mem_of_getElem? (i := 1) rfl)))))) dX11_unpack_37 ?_
      obtain ⟨t7, hf8, h⟩ := bn_c h
      refine X_callV C0 hw (As := [.ref (E.2.2.1 (1) (0))]) (rest := []) (mX5_read l E hL st hf8) (cwV 1 C0.1.2.2.2.2 gX11_unpack_X5_read rfl rfl rfl (by decide +kernel) ⟨Nat.le_of_ble_eq_true rfl, Nat.le_of_ble_eq_true rfl⟩) (X_recv_17 C0 hw (by decide)) rfl hl.1 rfl (Nat.le_of_ble_eq_true rfl) dX11_unpack_40 ⟨Nat.zero_le _, Nat.zero_le _⟩ (fun H locs hw => ?_)
      refine W.eq (g2 := F0 m 43 ls []) rfl ?_
      refine lv_aload_n hx hb dX11_unpack_43 rfl (lv_at hl 0 rfl) ?_
      obtain ⟨⟨v9, t10⟩, hf11, h⟩ := bn_c h
      have h := un2_d h
      refine X_callV C0 hw (As := []) (rest := []) (mX11_accept l E hL t7 hf11) (cwV 0 C0.1.2.2.2.2 gX11_unpack_X11_accept rfl rfl rfl (by decide +kernel) ⟨Nat.le_of_ble_eq_true rfl, Nat.le_of_ble_eq_true rfl⟩) (X_recv_0 C0 hw (by decide)) rfl hl.1 rfl (Nat.le_of_ble_eq_true rfl) dX11_unpack_44 ⟨Nat.zero_le _, Nat.zero_le _⟩ (fun H locs hw => ?_)
      refine W.eq (g2 := F0 m 47 ls [.int v9]) rfl ?_
      obtain ⟨hz, h⟩ := ck_c h
      cases h
      exact W.zret hx hb hr (zz hz) (X_fin C0 hw) hw.2.2.2 dX11_unpack_47 hlocks
    · have h := ifp h hc6
      refine lv_aload_n hx hb dX11_unpack_26 rfl (lv_at hl 0 rfl) ?_
      refine lv_iconst (v := 3) hx hb dX11_unpack_27 (by decide) ?_
      obtain ⟨⟨v12, t13⟩, hf14, h⟩ := bn_c h
      have h := un2_d h
      refine X_callV C0 hw (As := [.int (3 : Int32)]) (rest := []) (mX11_denied l E hL st hf14) (cwV 1 C0.1.2.2.2.2 gX11_unpack_X11_denied rfl rfl rfl (by decide +kernel) ⟨Nat.le_of_ble_eq_true rfl, Nat.le_of_ble_eq_true rfl⟩) (X_recv_0 C0 hw (by decide)) rfl hl.1 rfl (Nat.le_of_ble_eq_true rfl) dX11_unpack_28 ⟨Nat.zero_le _, Nat.zero_le _⟩ (fun H locs hw => ?_)
      refine W.eq (g2 := F0 m 31 ls [.int v12]) rfl ?_
      obtain ⟨hz, h⟩ := ck_c h
      cases h
      exact W.zret hx hb hr (zz hz) (X_fin C0 hw) hw.2.2.2 dX11_unpack_31 hlocks
  · have h := ifp h hc3
    refine lv_aload_n hx hb dX11_unpack_10 rfl (lv_at hl 0 rfl) ?_
    refine lv_iconst (v := 5) hx hb dX11_unpack_11 (by decide) ?_
    obtain ⟨⟨v15, t16⟩, hf17, h⟩ := bn_c h
    have h := un2_d h
    refine X_callV C0 hw (As := [.int (5 : Int32)]) (rest := []) (mX11_denied l E hL st hf17) (cwV 1 C0.1.2.2.2.2 gX11_unpack_X11_denied rfl rfl rfl (by decide +kernel) ⟨Nat.le_of_ble_eq_true rfl, Nat.le_of_ble_eq_true rfl⟩) (X_recv_0 C0 hw (by decide)) rfl hl.1 rfl (Nat.le_of_ble_eq_true rfl) dX11_unpack_12 ⟨Nat.zero_le _, Nat.zero_le _⟩ (fun H locs hw => ?_)
    refine W.eq (g2 := F0 m 15 ls [.int v15]) rfl ?_
    obtain ⟨hz, h⟩ := ck_c h
    cases h
    exact W.zret hx hb hr (zz hz) (X_fin C0 hw) hw.2.2.2 dX11_unpack_15 hlocks
