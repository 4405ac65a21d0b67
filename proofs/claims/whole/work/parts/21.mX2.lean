def fX5_write (a1f : Nat) (a1i : Nat) (st : Sto) : Option (Int32 × Sto) :=
  ((lp (σ := (Int32 × Sto)) (ρ := Sto) (un2 fun (v4 : Int32) (t5 : Sto) =>
     if (16 : Int32) ≤ v4 then (
      some (.inr t5)) else (
      ck (0 ≤ v4.toInt ∧ v4.toInt < (lFX a1f a1i : Int)) (
       nd (FP.f2d (gF t5 a1f a1i (v4.toNatClampNeg))) fun (v13 : UInt64) =>
       (fX7_floatBits v13).bind (fun (v14 : Int32) =>
        (fX5_put ((4 : Int32) * v4) v14 t5).bind (fun (t16 : Sto) =>
         lt1 (v4 + Int32.ofInt (1)) fun (v18 : Int32) =>
         some (.inl (v18, t16))))))) 4000 ((0 : Int32), st)).bind
   (fun (t6 : Sto) =>
    (fX5_sumOf (52) (0) t6).bind (fun (v19 : Int32) =>
     (fX5_put (64 : Int32) v19 t6).bind (fun (t21 : Sto) =>
      lt1 (sI t21 17 (0) 1 (68 : Int32)) fun (t23 : Sto) =>
      some ((68 : Int32), t23)))))
set_option maxHeartbeats 4000000 in
set_option maxRecDepth 100000 in
theorem mX5_write (l : Launch) (E : XE) (hL : LX E) (st : Sto) {a1f : Nat} {a1i : Nat} {r : Int32} {st1 : Sto} (h : fX5_write a1f a1i st = some (r, st1)) : Met l yX5_write wsX5_write ({ frames := 1, cells := 0, slots := 0, locals := 27 }) (va_Pc [.ref (E.2.2.1 17 (0)), .ref (E.2.2.1 a1f a1i)] (RX E st)) (QX E (some (.int r)) st1) 0 0 E.2.2.2 := by
  refine Met.ofW (cc := cX5_write) (maxL := 3) (ret := (some .int)) (by decide) rfl ?_
  intro p e s m args below meth c s₁ B hml hv
  obtain ⟨rfl, hP, hK⟩ := hv
  have hown : s.vm.findClass RX5 = some m.cls := findClass_of_methodNamed B.named
  have C0 : CX p m c cX5_write 3 s _ wsX5_write RX5 E := ⟨⟨B.exec, B.bytes, hml, hown, atoms_spec (ws := wsX5_write) B.pre⟩, hK⟩
  have hx := B.exec
  have hb := B.bytes
  have hr := B.returns
  have hlocks := B.notSynchronized
  have hw : SX E s st s.heap [] := ⟨hP, va_S.rf⟩
  have hl := lv_entry ([.ref (E.2.2.1 17 (0)), .ref (E.2.2.1 a1f a1i)]) (n := 3) (Nat.le_of_ble_eq_true rfl)
  rw [lg_entry_eq]
  generalize (lg_sl ([.ref (E.2.2.1 17 (0)), .ref (E.2.2.1 a1f a1i)]) ++ List.replicate (3 - (lg_sl ([.ref (E.2.2.1 17 (0)), .ref (E.2.2.1 a1f a1i)])).length) Slot.unset).toArray = ls at hl ⊢
  have hl : lv_has ls 3 [(0, .ref (E.2.2.1 17 (0))), (1, .ref (E.2.2.1 a1f a1i))] := hl
  unfold fX5_write at h
  refine lv_iconst (v := 0) hx hb dX5_write_0 (by decide) ?_
  refine lv_istore_n (lv' := [(2, .int (0 : Int32)), (0, .ref (E.2.2.1 17 (0))), (1, .ref (E.2.2.1 a1f a1i))]) hx hb dX5_write_1 rfl hl (by decide) rfl (fun ls hl => ?_)
  refine lp_ind (fun q : (Int32 × Sto) => ∀ (H : Heap) (locs : List Loc), SX E s (q.2) H locs → ∀ ls : Array Slot, lv_has ls 3 [(2, .int (q.1)), (0, .ref (E.2.2.1 17 (0))), (1, .ref (E.2.2.1 a1f a1i))] → W p l e (headSpec wsX5_write ({ frames := 1, cells := 0, slots := 0, locals := 27 })).room s m ([.ref (E.2.2.1 17 (0)), .ref (E.2.2.1 a1f a1i)] : List Value).toArray below meth c H locs 0 0 (MQ below (QX E (some (.int r)) st1) ([.ref (E.2.2.1 17 (0)), .ref (E.2.2.1 a1f a1i)] : List Value).toArray s 0 0 E.2.2.2) (F0 m 2 ls [])) (fun q o3 h hB2 hX1 => ?_) _ _ h _ _ hw _ (lv_sub hl [0, 1, 2] rfl)
  intro H locs hw ls hl
  obtain ⟨v4, t5⟩ := q
  have h := un2_d h
  have hw : SX E s t5 H locs := hw
  have hl : lv_has ls 3 [(2, .int v4), (0, .ref (E.2.2.1 17 (0))), (1, .ref (E.2.2.1 a1f a1i))] := hl
  refine lv_iload_n hx hb dX5_write_2 rfl (lv_at hl 0 rfl) ?_
  refine lv_bipush (v := 16) hx hb dX5_write_3 (by decide) ?_
  refine lv_icmp_ge (tgt := 28) hx hb dX5_write_5 (by decide) (fun hc7 => ?_) (fun hc7 => ?_)
  · have h := ifp h hc7
    have h := hX1 _ (Option.some.inj h).symm
    have hl := lv_sub hl (l' := [(0, .ref (E.2.2.1 17 (0)))]) [1] rfl
    refine lv_aload_n hx hb dX5_write_28 rfl (lv_at hl 0 rfl) ?_
    refine lv_bipush (v := 64) hx hb dX5_write_29 (by decide) ?_
    refine lv_aload_n hx hb dX5_write_31 rfl (lv_at hl 0 rfl) ?_
    refine X_g17_0 C0 hw (fun w h => (List.mem_cons_of_mem _ (List.mem_append_right _ h))) (by decide) ((List.mem_cons_of_mem _ (List.mem_append_left _ (List.mem_of_getElem? (i := 0) rfl)))) dX5_write_32 ?_
    obtain ⟨v8, hf9, h⟩ := bn_c h
    refine X_callS C0 hw (As := [.ref (E.2.2.1 (52) (0))]) (rest := [.int (64 : Int32), .ref (E.2.2.1 17 (0))]) (mX5_sumOf l E hL t5 hf9) (va_cwS 1 C0.1.2.2.2.2 gX5_write_X5_sumOf rfl rfl rfl (by decide +kernel) ⟨Nat.le_of_ble_eq_true rfl, Nat.le_of_ble_eq_true rfl⟩) rfl hl.1 rfl (Nat.le_of_ble_eq_true rfl) dX5_write_35 ⟨Nat.zero_le _, Nat.zero_le _⟩ (fun H locs hw => ?_)
    refine W.eq (g2 := F0 m 38 ls [.int v8, .int (64 : Int32), .ref (E.2.2.1 17 (0))]) rfl ?_
    obtain ⟨t10, hf11, h⟩ := bn_c h
    refine X_callV C0 hw (As := [.int (64 : Int32), .int v8]) (rest := []) (mX5_put l E hL t5 hf11) (cwV 2 C0.1.2.2.2.2 gX5_write_X5_put rfl rfl rfl (by decide +kernel) ⟨Nat.le_of_ble_eq_true rfl, Nat.le_of_ble_eq_true rfl⟩) (X_recv_17 C0 hw (by decide)) rfl hl.1 rfl (Nat.le_of_ble_eq_true rfl) dX5_write_38 ⟨Nat.zero_le _, Nat.zero_le _⟩ (fun H locs hw => ?_)
    refine W.eq (g2 := F0 m 41 ls []) rfl ?_
    refine lv_aload_n hx hb dX5_write_41 rfl (lv_at hl 0 rfl) ?_
    refine lv_bipush (v := 68) hx hb dX5_write_42 (by decide) ?_
    refine X_p17_1 hL C0 hw (fun w h => (List.mem_cons_of_mem _ (List.mem_append_right _ h))) (by decide) h ((List.mem_cons_of_mem _ (List.mem_append_left _ (List.mem_of_getElem? (i := 1) rfl)))) dX5_write_44 (fun t12 H locs hw h => ?_)
    refine lv_bipush (v := 68) hx hb dX5_write_47 (by decide) ?_
    cases h
    exact W.iret hx hb hr (X_fin C0 hw) hw.2.2.2 dX5_write_49 hlocks
  · have h := ifn h hc7
    refine lv_aload_n hx hb dX5_write_8 rfl (lv_at hl 1 rfl) ?_
    refine lv_iconst (v := 4) hx hb dX5_write_9 (by decide) ?_
    refine lv_iload_n hx hb dX5_write_10 rfl (lv_at hl 0 rfl) ?_
    refine lv_imul hx hb dX5_write_11 ?_
    refine lv_aload_n hx hb dX5_write_12 rfl (lv_at hl 2 rfl) ?_
    refine lv_iload_n hx hb dX5_write_13 rfl (lv_at hl 0 rfl) ?_
    refine X_fald C0 hw h (k := v4.toNatClampNeg) rfl dX5_write_14 (fun h => ?_)
    refine x_f2d hx hb h dX5_write_15 (fun v13 h => ?_)
    obtain ⟨v14, hf15, h⟩ := bn_c h
    refine X_callS C0 hw (As := [.double v13]) (rest := [.int ((4 : Int32) * v4), .ref (E.2.2.1 17 (0))]) (mX7_floatBits l E hL t5 hf15) (va_cwS 1 C0.1.2.2.2.2 gX5_write_X7_floatBits rfl rfl rfl (by decide +kernel) ⟨Nat.le_of_ble_eq_true rfl, Nat.le_of_ble_eq_true rfl⟩) rfl hl.1 rfl (Nat.le_of_ble_eq_true rfl) dX5_write_16 ⟨Nat.zero_le _, Nat.zero_le _⟩ (fun H locs hw => ?_)
    refine W.eq (g2 := F0 m 19 ls [.int v14, .int ((4 : Int32) * v4), .ref (E.2.2.1 17 (0))]) rfl ?_
    obtain ⟨t16, hf17, h⟩ := bn_c h
    refine X_callV C0 hw (As := [.int ((4 : Int32) * v4), .int v14]) (rest := []) (mX5_put l E hL t5 hf17) (cwV 2 C0.1.2.2.2.2 gX5_write_X5_put rfl rfl rfl (by decide +kernel) ⟨Nat.le_of_ble_eq_true rfl, Nat.le_of_ble_eq_true rfl⟩) (X_recv_17 C0 hw (by decide)) rfl hl.1 rfl (Nat.le_of_ble_eq_true rfl) dX5_write_19 ⟨Nat.zero_le _, Nat.zero_le _⟩ (fun H locs hw => ?_)
    refine W.eq (g2 := F0 m 22 ls []) rfl ?_
    refine x_iinc hx hb h dX5_write_22 hl (q := 0) rfl (fun v18 => [(2, .int v18), (0, .ref (E.2.2.1 17 (0))), (1, .ref (E.2.2.1 a1f a1i))]) (by decide) (fun _ => rfl) (fun v18 ls hl h => ?_)
    refine lv_goto (tgt := 2) hx hb dX5_write_25 (by decide) ?_
    exact hB2 _ (Option.some.inj h).symm _ _ hw _ (lv_sub hl [0, 1, 2] rfl)

def fX5_wordAt (a1 : Int32) (st : Sto) : Option Int32 :=
  ((lp (σ := (Int32 × Int32)) (ρ := Int32) (un2 fun (v4 : Int32) (v5 : Int32) =>
     if (4 : Int32) ≤ v4 then (
      some (.inr v5)) else (
      ck (0 ≤ (a1 + v4).toInt ∧ (a1 + v4).toInt < (lIX (53) (0) : Int)) (
       lt1 ((v5 <<< ((8 : Int32) &&& 31)) ||| (gI st (53) (0) ((a1 + v4).toNatClampNeg))) fun (v8 : Int32) =>
       lt1 (v4 + Int32.ofInt (1)) fun (v9 : Int32) =>
       some (.inl (v9, v8))))) 4000 ((0 : Int32), (0 : Int32))).bind
   (fun (v6 : Int32) =>
    some v6))
set_option maxHeartbeats 4000000 in
set_option maxRecDepth 100000 in
theorem mX5_wordAt (l : Launch) (E : XE) (hL : LX E) (st : Sto) {a1 : Int32} {r : Int32} (h : fX5_wordAt a1 st = some r) : Met l yX5_wordAt wsX5_wordAt ({ frames := 0, cells := 0, slots := 0, locals := 0 }) (va_Pc [.ref (E.2.2.1 17 (0)), .int a1] (RX E st)) (QX E (some (.int r)) st) 0 0 E.2.2.2 := by
  refine Met.ofW (cc := cX5_wordAt) (maxL := 4) (ret := (some .int)) (by decide) rfl ?_
  intro p e s m args below meth c s₁ B hml hv
  obtain ⟨rfl, hP, hK⟩ := hv
  have hown : s.vm.findClass RX5 = some m.cls := findClass_of_methodNamed B.named
  have C0 : CX p m c cX5_wordAt 4 s _ wsX5_wordAt RX5 E := ⟨⟨B.exec, B.bytes, hml, hown, atoms_spec (ws := wsX5_wordAt) B.pre⟩, hK⟩
  have hx := B.exec
  have hb := B.bytes
  have hr := B.returns
  have hlocks := B.notSynchronized
  have hw : SX E s st s.heap [] := ⟨hP, va_S.rf⟩
  have hl := lv_entry ([.ref (E.2.2.1 17 (0)), .int a1]) (n := 4) (Nat.le_of_ble_eq_true rfl)
  rw [lg_entry_eq]
  generalize (lg_sl ([.ref (E.2.2.1 17 (0)), .int a1]) ++ List.replicate (4 - (lg_sl ([.ref (E.2.2.1 17 (0)), .int a1])).length) Slot.unset).toArray = ls at hl ⊢
  have hl : lv_has ls 4 [(0, .ref (E.2.2.1 17 (0))), (1, .int a1)] := hl
  unfold fX5_wordAt at h
  refine lv_iconst (v := 0) hx hb dX5_wordAt_0 (by decide) ?_
  refine lv_istore_n (lv' := [(2, .int (0 : Int32)), (0, .ref (E.2.2.1 17 (0))), (1, .int a1)]) hx hb dX5_wordAt_1 rfl hl (by decide) rfl (fun ls hl => ?_)
  refine lv_iconst (v := 0) hx hb dX5_wordAt_2 (by decide) ?_
  refine lv_istore_n (lv' := [(3, .int (0 : Int32)), (2, .int (0 : Int32)), (0, .ref (E.2.2.1 17 (0))), (1, .int a1)]) hx hb dX5_wordAt_3 rfl hl (by decide) rfl (fun ls hl => ?_)
  refine lp_ind (fun q : (Int32 × Int32) => ∀ (H : Heap) (locs : List Loc), SX E s st H locs → ∀ ls : Array Slot, lv_has ls 4 [(3, .int (q.1)), (2, .int (q.2)), (0, .ref (E.2.2.1 17 (0))), (1, .int a1)] → W p l e (headSpec wsX5_wordAt ({ frames := 0, cells := 0, slots := 0, locals := 0 })).room s m ([.ref (E.2.2.1 17 (0)), .int a1] : List Value).toArray below meth c H locs 0 0 (MQ below (QX E (some (.int r)) st) ([.ref (E.2.2.1 17 (0)), .int a1] : List Value).toArray s 0 0 E.2.2.2) (F0 m 4 ls [])) (fun q o3 h hB2 hX1 => ?_) _ _ h _ _ hw _ (lv_sub hl [0, 1, 2, 3] rfl)
  intro H locs hw ls hl
  obtain ⟨v4, v5⟩ := q
  have h := un2_d h
  have hl : lv_has ls 4 [(3, .int v4), (2, .int v5), (0, .ref (E.2.2.1 17 (0))), (1, .int a1)] := hl
  refine lv_iload_n hx hb dX5_wordAt_4 rfl (lv_at hl 0 rfl) ?_
  refine lv_iconst (v := 4) hx hb dX5_wordAt_5 (by decide) ?_
  refine lv_icmp_ge (tgt := 29) hx hb dX5_wordAt_6 (by decide) (fun hc7 => ?_) (fun hc7 => ?_)
  · have h := ifp h hc7
    have h := hX1 _ (Option.some.inj h).symm
    have hl := lv_sub hl (l' := [(2, .int v5)]) [1] rfl
    refine lv_iload_n hx hb dX5_wordAt_29 rfl (lv_at hl 0 rfl) ?_
    cases h
    exact W.iret hx hb hr (X_fin C0 hw) hw.2.2.2 dX5_wordAt_30 hlocks
  · have h := ifn h hc7
    refine lv_iload_n hx hb dX5_wordAt_9 rfl (lv_at hl 1 rfl) ?_
    refine lv_bipush (v := 8) hx hb dX5_wordAt_10 (by decide) ?_
    refine lv_ishl hx hb dX5_wordAt_12 ?_
    refine lv_aload_n hx hb dX5_wordAt_13 rfl (lv_at hl 2 rfl) ?_
    refine X_g17_2 C0 hw (fun w h => (List.mem_cons_of_mem _ (List.mem_append_right _ h))) (by decide) ((List.mem_cons_of_mem _ (List.mem_append_left _ (List.mem_of_getElem? (i := 0) rfl)))) dX5_wordAt_14 ?_
    refine lv_iload_n hx hb dX5_wordAt_17 rfl (lv_at hl 3 rfl) ?_
    refine lv_iload_n hx hb dX5_wordAt_18 rfl (lv_at hl 0 rfl) ?_
    refine lv_iadd hx hb dX5_wordAt_19 ?_
    refine X_iald C0 hw h (k := (a1 + v4).toNatClampNeg) rfl dX5_wordAt_20 (fun h => ?_)
    refine lv_ior hx hb dX5_wordAt_21 ?_
    refine x_topi h (fun v8 h => ?_)
    refine lv_istore_n (lv' := [(2, .int v8), (3, .int v4), (0, .ref (E.2.2.1 17 (0))), (1, .int a1)]) hx hb dX5_wordAt_22 rfl hl (by decide) rfl (fun ls hl => ?_)
    refine x_iinc hx hb h dX5_wordAt_23 hl (q := 1) rfl (fun v9 => [(3, .int v9), (2, .int v8), (0, .ref (E.2.2.1 17 (0))), (1, .int a1)]) (by decide) (fun _ => rfl) (fun v9 ls hl h => ?_)
    refine lv_goto (tgt := 4) hx hb dX5_wordAt_26 (by decide) ?_
    exact hB2 _ (Option.some.inj h).symm _ _ hw _ (lv_sub hl [0, 1, 2, 3] rfl)

def fX5_hasRightSum (st : Sto) : Option Int32 :=
  (fX5_wordAt (64 : Int32) st).bind (fun (v1 : Int32) =>
   (fX5_sumOf (53) (0) st).bind (fun (v3 : Int32) =>
    if v1 = v3 then (
     some (1 : Int32)) else (
     some (0 : Int32))))
set_option maxHeartbeats 4000000 in
set_option maxRecDepth 100000 in
theorem mX5_hasRightSum (l : Launch) (E : XE) (hL : LX E) (st : Sto) {r : Int32} (h : fX5_hasRightSum st = some r) : Met l yX5_hasRightSum wsX5_hasRightSum ({ frames := 1, cells := 0, slots := 0, locals := 23 }) (va_Pc [.ref (E.2.2.1 17 (0))] (RX E st)) (QX E (some (.int r)) st) 0 0 E.2.2.2 := by
  refine Met.ofW (cc := cX5_hasRightSum) (maxL := 1) (ret := (some .boolean)) (by decide) rfl ?_
  intro p e s m args below meth c s₁ B hml hv
  obtain ⟨rfl, hP, hK⟩ := hv
  have hown : s.vm.findClass RX5 = some m.cls := findClass_of_methodNamed B.named
  have C0 : CX p m c cX5_hasRightSum 1 s _ wsX5_hasRightSum RX5 E := ⟨⟨B.exec, B.bytes, hml, hown, atoms_spec (ws := wsX5_hasRightSum) B.pre⟩, hK⟩
  have hx := B.exec
  have hb := B.bytes
  have hr := B.returns
  have hlocks := B.notSynchronized
  have hw : SX E s st s.heap [] := ⟨hP, va_S.rf⟩
  have hl := lv_entry ([.ref (E.2.2.1 17 (0))]) (n := 1) (Nat.le_of_ble_eq_true rfl)
  rw [lg_entry_eq]
  generalize (lg_sl ([.ref (E.2.2.1 17 (0))]) ++ List.replicate (1 - (lg_sl ([.ref (E.2.2.1 17 (0))])).length) Slot.unset).toArray = ls at hl ⊢
  have hl : lv_has ls 1 [(0, .ref (E.2.2.1 17 (0)))] := hl
  unfold fX5_hasRightSum at h
  refine lv_aload_n hx hb dX5_hasRightSum_0 rfl (lv_at hl 0 rfl) ?_
  refine lv_bipush (v := 64) hx hb dX5_hasRightSum_1 (by decide) ?_
  obtain ⟨v1, hf2, h⟩ := bn_c h
  refine X_callV C0 hw (As := [.int (64 : Int32)]) (rest := []) (mX5_wordAt l E hL st hf2) (cwV 1 C0.1.2.2.2.2 gX5_hasRightSum_X5_wordAt rfl rfl rfl (by decide +kernel) ⟨Nat.le_of_ble_eq_true rfl, Nat.le_of_ble_eq_true rfl⟩) (X_recv_17 C0 hw (by decide)) rfl hl.1 rfl (Nat.le_of_ble_eq_true rfl) dX5_hasRightSum_3 ⟨Nat.zero_le _, Nat.zero_le _⟩ (fun H locs hw => ?_)
  refine W.eq (g2 := F0 m 6 ls [.int v1]) rfl ?_
  refine lv_aload_n hx hb dX5_hasRightSum_6 rfl (lv_at hl 0 rfl) ?_
  refine X_g17_2 C0 hw (fun w h => (List.mem_cons_of_mem _ (List.mem_append_right _ h))) (by decide) ((List.mem_cons_of_mem _ (List.mem_append_left _ (List.mem_of_getElem? (i := 0) rfl)))) dX5_hasRightSum_7 ?_
  obtain ⟨v3, hf4, h⟩ := bn_c h
  refine X_callS C0 hw (As := [.ref (E.2.2.1 (53) (0))]) (rest := [.int v1]) (mX5_sumOf l E hL st hf4) (va_cwS 1 C0.1.2.2.2.2 gX5_hasRightSum_X5_sumOf rfl rfl rfl (by decide +kernel) ⟨Nat.le_of_ble_eq_true rfl, Nat.le_of_ble_eq_true rfl⟩) rfl hl.1 rfl (Nat.le_of_ble_eq_true rfl) dX5_hasRightSum_10 ⟨Nat.zero_le _, Nat.zero_le _⟩ (fun H locs hw => ?_)
  refine W.eq (g2 := F0 m 13 ls [.int v3, .int v1]) rfl ?_
  refine lv_icmp_ne (tgt := 20) hx hb dX5_hasRightSum_13 (by decide) (fun hc5 => ?_) (fun hc5 => ?_)
  · have h := ifn h hc5
    refine lv_iconst (v := 0) hx hb dX5_hasRightSum_20 (by decide) ?_
    cases h
    exact W.zret hx hb hr rfl (X_fin C0 hw) hw.2.2.2 dX5_hasRightSum_21 hlocks
  · have h := ifp h hc5
    refine lv_iconst (v := 1) hx hb dX5_hasRightSum_16 (by decide) ?_
    refine lv_goto (tgt := 21) hx hb dX5_hasRightSum_17 (by decide) ?_
    cases h
    exact W.zret hx hb hr rfl (X_fin C0 hw) hw.2.2.2 dX5_hasRightSum_21 hlocks

def fX7_isTaken (a1 : Int32) : Option Int32 :=
  if a1 < 0 then (
   some (0 : Int32)) else (
   if (1073741824 : Int32) < a1 then (
    some (0 : Int32)) else (
    some (1 : Int32)))
set_option maxHeartbeats 4000000 in
set_option maxRecDepth 100000 in
theorem mX7_isTaken (l : Launch) (E : XE) (hL : LX E) (st : Sto) {a1 : Int32} {r : Int32} (h : fX7_isTaken a1 = some r) : Met l yX7_isTaken wsX7_isTaken ({ frames := 0, cells := 0, slots := 0, locals := 0 }) (va_Pc [.int a1] (RX E st)) (QX E (some (.int r)) st) 0 0 E.2.2.2 := by
  refine Met.ofW (cc := cX7_isTaken) (maxL := 1) (ret := (some .boolean)) (by decide) rfl ?_
  intro p e s m args below meth c s₁ B hml hv
  obtain ⟨rfl, hP, hK⟩ := hv
  have hown : s.vm.findClass RX7 = some m.cls := findClass_of_methodNamed B.named
  have C0 : CX p m c cX7_isTaken 1 s _ wsX7_isTaken RX7 E := ⟨⟨B.exec, B.bytes, hml, hown, atoms_spec (ws := wsX7_isTaken) B.pre⟩, hK⟩
  have hx := B.exec
  have hb := B.bytes
  have hr := B.returns
  have hlocks := B.notSynchronized
  have hw : SX E s st s.heap [] := ⟨hP, va_S.rf⟩
  have hl := lv_entry ([.int a1]) (n := 1) (Nat.le_of_ble_eq_true rfl)
  rw [lg_entry_eq]
  generalize (lg_sl ([.int a1]) ++ List.replicate (1 - (lg_sl ([.int a1])).length) Slot.unset).toArray = ls at hl ⊢
  have hl : lv_has ls 1 [(0, .int a1)] := hl
  unfold fX7_isTaken at h
  refine lv_iload_n hx hb dX7_isTaken_0 rfl (lv_at hl 0 rfl) ?_
  refine lv_if_lt (tgt := 14) hx hb dX7_isTaken_1 (by decide) (fun hc1 => ?_) (fun hc1 => ?_)
  · have h := ifp h hc1
    refine lv_iconst (v := 0) hx hb dX7_isTaken_14 (by decide) ?_
    cases h
    exact W.zret hx hb hr rfl (X_fin C0 hw) hw.2.2.2 dX7_isTaken_15 hlocks
  · have h := ifn h hc1
    refine lv_iload_n hx hb dX7_isTaken_4 rfl (lv_at hl 0 rfl) ?_
    refine lv_ldc hx hb hown (C0.1.2.2.2.2 _ (List.mem_cons_of_mem _ (List.mem_of_getElem? (i := 0) rfl))) dX7_isTaken_5 ?_
    refine lv_icmp_gt (tgt := 14) hx hb dX7_isTaken_7 (by decide) (fun hc2 => ?_) (fun hc2 => ?_)
    · have h := ifp h hc2
      refine lv_iconst (v := 0) hx hb dX7_isTaken_14 (by decide) ?_
      cases h
      exact W.zret hx hb hr rfl (X_fin C0 hw) hw.2.2.2 dX7_isTaken_15 hlocks
    · have h := ifn h hc2
      refine lv_iconst (v := 1) hx hb dX7_isTaken_10 (by decide) ?_
      refine lv_goto (tgt := 15) hx hb dX7_isTaken_11 (by decide) ?_
      cases h
      exact W.zret hx hb hr rfl (X_fin C0 hw) hw.2.2.2 dX7_isTaken_15 hlocks

def fX5_isTakenAll (st : Sto) : Option Int32 :=
  ((lp (σ := Int32) (ρ := (Int32 ⊕ Unit)) (fun (v4 : Int32) =>
     if (16 : Int32) ≤ v4 then (
      some (.inr (.inr ()))) else (
      (fX5_wordAt ((4 : Int32) * v4) st).bind (fun (v6 : Int32) =>
       (fX7_isTaken v6).bind (fun (v8 : Int32) =>
        if v8 = 0 then (
         some (.inr (.inl (0 : Int32)))) else (
         lt1 (v4 + Int32.ofInt (1)) fun (v11 : Int32) =>
         some (.inl v11)))))) 4000 (0 : Int32)).bind
   (sm (fun (q : Int32) => some q) (fun (_ : Unit) =>
     some (1 : Int32))))
set_option maxHeartbeats 4000000 in
set_option maxRecDepth 100000 in
theorem mX5_isTakenAll (l : Launch) (E : XE) (hL : LX E) (st : Sto) {r : Int32} (h : fX5_isTakenAll st = some r) : Met l yX5_isTakenAll wsX5_isTakenAll ({ frames := 1, cells := 0, slots := 0, locals := 23 }) (va_Pc [.ref (E.2.2.1 17 (0))] (RX E st)) (QX E (some (.int r)) st) 0 0 E.2.2.2 := by
  refine Met.ofW (cc := cX5_isTakenAll) (maxL := 2) (ret := (some .boolean)) (by decide) rfl ?_
  intro p e s m args below meth c s₁ B hml hv
  obtain ⟨rfl, hP, hK⟩ := hv
  have hown : s.vm.findClass RX5 = some m.cls := findClass_of_methodNamed B.named
  have C0 : CX p m c cX5_isTakenAll 2 s _ wsX5_isTakenAll RX5 E := ⟨⟨B.exec, B.bytes, hml, hown, atoms_spec (ws := wsX5_isTakenAll) B.pre⟩, hK⟩
  have hx := B.exec
  have hb := B.bytes
  have hr := B.returns
  have hlocks := B.notSynchronized
  have hw : SX E s st s.heap [] := ⟨hP, va_S.rf⟩
  have hl := lv_entry ([.ref (E.2.2.1 17 (0))]) (n := 2) (Nat.le_of_ble_eq_true rfl)
  rw [lg_entry_eq]
  generalize (lg_sl ([.ref (E.2.2.1 17 (0))]) ++ List.replicate (2 - (lg_sl ([.ref (E.2.2.1 17 (0))])).length) Slot.unset).toArray = ls at hl ⊢
  have hl : lv_has ls 2 [(0, .ref (E.2.2.1 17 (0)))] := hl
  unfold fX5_isTakenAll at h
  refine lv_iconst (v := 0) hx hb dX5_isTakenAll_0 (by decide) ?_
  refine lv_istore_n (lv' := [(1, .int (0 : Int32)), (0, .ref (E.2.2.1 17 (0)))]) hx hb dX5_isTakenAll_1 rfl hl (by decide) rfl (fun ls hl => ?_)
  refine lp_ind (fun q : Int32 => ∀ (H : Heap) (locs : List Loc), SX E s st H locs → ∀ ls : Array Slot, lv_has ls 2 [(1, .int q), (0, .ref (E.2.2.1 17 (0)))] → W p l e (headSpec wsX5_isTakenAll ({ frames := 1, cells := 0, slots := 0, locals := 23 })).room s m ([.ref (E.2.2.1 17 (0))] : List Value).toArray below meth c H locs 0 0 (MQ below (QX E (some (.int r)) st) ([.ref (E.2.2.1 17 (0))] : List Value).toArray s 0 0 E.2.2.2) (F0 m 2 ls [])) (fun q o3 h hB2 hX1 => ?_) _ _ h _ _ hw _ (lv_sub hl [0, 1] rfl)
  intro H locs hw ls hl
  obtain ⟨v4, rfl⟩ : ∃ z, z = q := ⟨_, rfl⟩
  have hl : lv_has ls 2 [(1, .int v4), (0, .ref (E.2.2.1 17 (0)))] := hl
  refine lv_iload_n hx hb dX5_isTakenAll_2 rfl (lv_at hl 0 rfl) ?_
  refine lv_bipush (v := 16) hx hb dX5_isTakenAll_3 (by decide) ?_
  refine lv_icmp_ge (tgt := 29) hx hb dX5_isTakenAll_5 (by decide) (fun hc5 => ?_) (fun hc5 => ?_)
  · have h := ifp h hc5
    have h := hX1 _ (Option.some.inj h).symm
    have h := sm_r h
    have hl := lv_sub hl (l' := []) [] rfl
    refine lv_iconst (v := 1) hx hb dX5_isTakenAll_29 (by decide) ?_
    cases h
    exact W.zret hx hb hr rfl (X_fin C0 hw) hw.2.2.2 dX5_isTakenAll_30 hlocks
  · have h := ifn h hc5
    refine lv_aload_n hx hb dX5_isTakenAll_8 rfl (lv_at hl 1 rfl) ?_
    refine lv_iconst (v := 4) hx hb dX5_isTakenAll_9 (by decide) ?_
    refine lv_iload_n hx hb dX5_isTakenAll_10 rfl (lv_at hl 0 rfl) ?_
    refine lv_imul hx hb dX5_isTakenAll_11 ?_
    obtain ⟨v6, hf7, h⟩ := bn_c h
    refine X_callV C0 hw (As := [.int ((4 : Int32) * v4)]) (rest := []) (mX5_wordAt l E hL st hf7) (cwV 1 C0.1.2.2.2.2 gX5_isTakenAll_X5_wordAt rfl rfl rfl (by decide +kernel) ⟨Nat.le_of_ble_eq_true rfl, Nat.le_of_ble_eq_true rfl⟩) (X_recv_17 C0 hw (by decide)) rfl hl.1 rfl (Nat.le_of_ble_eq_true rfl) dX5_isTakenAll_12 ⟨Nat.zero_le _, Nat.zero_le _⟩ (fun H locs hw => ?_)
    refine W.eq (g2 := F0 m 15 ls [.int v6]) rfl ?_
    obtain ⟨v8, hf9, h⟩ := bn_c h
    refine X_callS C0 hw (As := [.int v6]) (rest := []) (mX7_isTaken l E hL st hf9) (va_cwS 1 C0.1.2.2.2.2 gX5_isTakenAll_X7_isTaken rfl rfl rfl (by decide +kernel) ⟨Nat.le_of_ble_eq_true rfl, Nat.le_of_ble_eq_true rfl⟩) rfl hl.1 rfl (Nat.le_of_ble_eq_true rfl) dX5_isTakenAll_15 ⟨Nat.zero_le _, Nat.zero_le _⟩ (fun H locs hw => ?_)
    refine W.eq (g2 := F0 m 18 ls [.int v8]) rfl ?_
    refine lv_if_ne (tgt := 23) hx hb dX5_isTakenAll_18 (by decide) (fun hc10 => ?_) (fun hc10 => ?_)
    · have h := ifn h hc10
      refine x_iinc hx hb h dX5_isTakenAll_23 hl (q := 0) rfl (fun v11 => [(1, .int v11), (0, .ref (E.2.2.1 17 (0)))]) (by decide) (fun _ => rfl) (fun v11 ls hl h => ?_)
      refine lv_goto (tgt := 2) hx hb dX5_isTakenAll_26 (by decide) ?_
      exact hB2 _ (Option.some.inj h).symm _ _ hw _ (lv_sub hl [0, 1] rfl)
    · have h := ifp h hc10
      refine lv_iconst (v := 0) hx hb dX5_isTakenAll_21 (by decide) ?_
      have h := hX1 _ (Option.some.inj h).symm
      have h := sm_l h
      cases h
      exact W.zret hx hb hr rfl (X_fin C0 hw) hw.2.2.2 dX5_isTakenAll_22 hlocks

def fX7_floatOf (a1 : Int32) : Option UInt32 :=
  lt1 ((a1.toUInt32 >>> ((23 : Int32).toUInt32 &&& Int32.toUInt32 31)).toInt32) fun (v1 : Int32) =>
  lt1 (a1 &&& (8388607 : Int32)) fun (v2 : Int32) =>
  jn (fun (v6 : UInt64) =>
   lt1 ((150 : Int32) - (if v1 < (1 : Int32) then (1 : Int32) else v1)) fun (v7 : Int32) =>
   ((lp (σ := (Int32 × UInt64)) (ρ := UInt64) (un2 fun (v11 : Int32) (v12 : UInt64) =>
      if v7 ≤ v11 then (
       some (.inr v12)) else (
       nd (FP.dmul v12 (4602678819172646912 : UInt64)) fun (v16 : UInt64) =>
       lt1 (v11 + Int32.ofInt (1)) fun (v17 : Int32) =>
       some (.inl (v17, v16)))) 4000 ((0 : Int32), v6)).bind
    (fun (v13 : UInt64) =>
     nf (FP.d2f v13) fun (v18 : UInt32) =>
     some v18))) fun K3 =>
  if v1 = 0 then (
   K3 (FP.i2d v2)) else (
   K3 (FP.i2d (v2 + (8388608 : Int32))))
set_option maxHeartbeats 4000000 in
set_option maxRecDepth 100000 in
theorem mX7_floatOf (l : Launch) (E : XE) (hL : LX E) (st : Sto) {a1 : Int32} {r : UInt32} (h : fX7_floatOf a1 = some r) : Met l yX7_floatOf wsX7_floatOf ({ frames := 1, cells := 0, slots := 0, locals := 23 }) (va_Pc [.int a1] (RX E st)) (QX E (some (.float r)) st) 0 0 E.2.2.2 := by
  refine Met.ofW (cc := cX7_floatOf) (maxL := 7) (ret := (some .float)) (by decide) rfl ?_
  intro p e s m args below meth c s₁ B hml hv
  obtain ⟨rfl, hP, hK⟩ := hv
  have hown : s.vm.findClass RX7 = some m.cls := findClass_of_methodNamed B.named
  have C0 : CX p m c cX7_floatOf 7 s _ wsX7_floatOf RX7 E := ⟨⟨B.exec, B.bytes, hml, hown, atoms_spec (ws := wsX7_floatOf) B.pre⟩, hK⟩
  have hx := B.exec
  have hb := B.bytes
  have hr := B.returns
  have hlocks := B.notSynchronized
  have hw : SX E s st s.heap [] := ⟨hP, va_S.rf⟩
  have hl := lv_entry ([.int a1]) (n := 7) (Nat.le_of_ble_eq_true rfl)
  rw [lg_entry_eq]
  generalize (lg_sl ([.int a1]) ++ List.replicate (7 - (lg_sl ([.int a1])).length) Slot.unset).toArray = ls at hl ⊢
  have hl : lv_has ls 7 [(0, .int a1)] := hl
  unfold fX7_floatOf at h
  refine lv_iload_n hx hb dX7_floatOf_0 rfl (lv_at hl 0 rfl) ?_
  refine lv_bipush (v := 23) hx hb dX7_floatOf_1 (by decide) ?_
  refine lv_iushr hx hb dX7_floatOf_3 rfl ?_
  refine x_topi h (fun v1 h => ?_)
  refine lv_istore_n (lv' := [(1, .int v1), (0, .int a1)]) hx hb dX7_floatOf_4 rfl hl (by decide) rfl (fun ls hl => ?_)
  refine lv_iload_n hx hb dX7_floatOf_5 rfl (lv_at hl 1 rfl) ?_
  refine lv_ldc hx hb hown (C0.1.2.2.2.2 _ (List.mem_cons_of_mem _ (List.mem_of_getElem? (i := 0) rfl))) dX7_floatOf_6 ?_
  refine lv_iand hx hb dX7_floatOf_8 ?_
  refine x_topi h (fun v2 h => ?_)
  refine lv_istore_n (lv' := [(2, .int v2), (1, .int v1), (0, .int a1)]) hx hb dX7_floatOf_9 rfl hl (by decide) rfl (fun ls hl => ?_)
  refine lv_iload_n hx hb dX7_floatOf_10 rfl (lv_at hl 1 rfl) ?_
  refine jn_c h (fun K3 hK5 h => ?_)
  have HJ4 : ∀ (v6 : UInt64), K3 v6 = some r → ∀ (H : Heap) (locs : List Loc), SX E s st H locs → ∀ ls : Array Slot, lv_has ls 7 [(1, .int v1)] → W p l e (headSpec wsX7_floatOf ({ frames := 1, cells := 0, slots := 0, locals := 23 })).room s m ([.int a1] : List Value).toArray below meth c H locs 0 0 (MQ below (QX E (some (.float r)) st) ([.int a1] : List Value).toArray s 0 0 E.2.2.2) (F0 m 24 ls [.double v6]) := by
    intro v6 h H locs hw ls hl
    have h := kk1 h hK5
    refine lv_dstore_n (lv' := [(3, .double v6), (1, .int v1)]) hx hb dX7_floatOf_24 rfl hl (by decide) rfl (fun ls hl => ?_)
    refine lv_sipush (v := 150) hx hb dX7_floatOf_25 (by decide) ?_
    refine lv_iload_n hx hb dX7_floatOf_28 rfl (lv_at hl 1 rfl) ?_
    refine lv_iconst (v := 1) hx hb dX7_floatOf_29 (by decide) ?_
    refine va_mmax hx hb (hml.trans hl.1.symm) hown (C0.1.2.2.2.2 _ (List.mem_cons_of_mem _ (List.mem_of_getElem? (i := 2) rfl))) (C0.1.2.2.2.2 _ (List.mem_cons_of_mem _ (List.mem_of_getElem? (i := 3) rfl))) (C0.1.2.2.2.2 _ (List.mem_cons_of_mem _ (List.mem_of_getElem? (i := 4) rfl))) (C0.1.2.2.2.2 _ (List.mem_cons_of_mem _ (List.mem_of_getElem? (i := 5) rfl))) (Nat.le_of_ble_eq_true rfl) (Nat.le_of_ble_eq_true rfl) (Nat.zero_le _) (Nat.zero_le _) dX7_floatOf_30 ?_
    refine lv_isub hx hb dX7_floatOf_33 ?_
    refine x_topi h (fun v7 h => ?_)
    refine lv_istore (lv' := [(5, .int v7), (3, .double v6), (1, .int v1)]) hx hb dX7_floatOf_34 hl (by decide) rfl (fun ls hl => ?_)
    refine lv_iconst (v := 0) hx hb dX7_floatOf_36 (by decide) ?_
    refine lv_istore (lv' := [(6, .int (0 : Int32)), (5, .int v7), (3, .double v6), (1, .int v1)]) hx hb dX7_floatOf_37 hl (by decide) rfl (fun ls hl => ?_)
    refine lp_ind (fun q : (Int32 × UInt64) => ∀ (H : Heap) (locs : List Loc), SX E s st H locs → ∀ ls : Array Slot, lv_has ls 7 [(6, .int (q.1)), (5, .int v7), (3, .double (q.2))] → W p l e (headSpec wsX7_floatOf ({ frames := 1, cells := 0, slots := 0, locals := 23 })).room s m ([.int a1] : List Value).toArray below meth c H locs 0 0 (MQ below (QX E (some (.float r)) st) ([.int a1] : List Value).toArray s 0 0 E.2.2.2) (F0 m 39 ls [])) (fun q o10 h hB9 hX8 => ?_) _ _ h _ _ hw _ (lv_sub hl [0, 1, 2] rfl)
    intro H locs hw ls hl
    obtain ⟨v11, v12⟩ := q
    have h := un2_d h
    have hl : lv_has ls 7 [(6, .int v11), (5, .int v7), (3, .double v12)] := hl
    refine lv_iload hx hb dX7_floatOf_39 (lv_at hl 0 rfl) ?_
    refine lv_iload hx hb dX7_floatOf_41 (lv_at hl 1 rfl) ?_
    refine lv_icmp_ge (tgt := 58) hx hb dX7_floatOf_43 (by decide) (fun hc14 => ?_) (fun hc14 => ?_)
    · have h := ifp h hc14
      have h := hX8 _ (Option.some.inj h).symm
      have hl := lv_sub hl (l' := [(3, .double v12)]) [2] rfl
      refine lv_dload_n hx hb dX7_floatOf_58 rfl (lv_at hl 0 rfl) ?_
      refine x_d2f hx hb h dX7_floatOf_59 (fun v15 h => ?_)
      cases h
      exact W.fret hx hb hr (X_fin C0 hw) hw.2.2.2 dX7_floatOf_60 hlocks
    · have h := ifn h hc14
      refine lv_dload_n hx hb dX7_floatOf_46 rfl (lv_at hl 2 rfl) ?_
      refine lv_ldc2d hx hb hown (C0.1.2.2.2.2 _ (List.mem_cons_of_mem _ (List.mem_of_getElem? (i := 6) rfl))) dX7_floatOf_47 ?_
      refine x_dmul hx hb h dX7_floatOf_50 (fun v16 h => ?_)
      refine lv_dstore_n (lv' := [(3, .double v16), (6, .int v11), (5, .int v7)]) hx hb dX7_floatOf_51 rfl hl (by decide) rfl (fun ls hl => ?_)
      refine x_iinc hx hb h dX7_floatOf_52 hl (q := 1) rfl (fun v17 => [(6, .int v17), (3, .double v16), (5, .int v7)]) (by decide) (fun _ => rfl) (fun v17 ls hl h => ?_)
      refine lv_goto (tgt := 39) hx hb dX7_floatOf_55 (by decide) ?_
      exact hB9 _ (Option.some.inj h).symm _ _ hw _ (lv_sub hl [0, 2, 1] rfl)
  refine lv_if_ne (tgt := 19) hx hb dX7_floatOf_11 (by decide) (fun hc19 => ?_) (fun hc19 => ?_)
  · have h := ifn h hc19
    refine lv_iload_n hx hb dX7_floatOf_19 rfl (lv_at hl 0 rfl) ?_
    refine lv_ldc hx hb hown (C0.1.2.2.2.2 _ (List.mem_cons_of_mem _ (List.mem_of_getElem? (i := 1) rfl))) dX7_floatOf_20 ?_
    refine lv_iadd hx hb dX7_floatOf_22 ?_
    refine lv_i2d hx hb dX7_floatOf_23 ?_
    exact HJ4 _ h _ _ hw _ (lv_sub hl [1] rfl)
  · have h := ifp h hc19
    refine lv_iload_n hx hb dX7_floatOf_14 rfl (lv_at hl 0 rfl) ?_
    refine lv_i2d hx hb dX7_floatOf_15 ?_
    refine lv_goto (tgt := 24) hx hb dX7_floatOf_16 (by decide) ?_
    exact HJ4 _ h _ _ hw _ (lv_sub hl [1] rfl)

def fX5_read (a1f : Nat) (a1i : Nat) (st : Sto) : Option Sto :=
  ((lp (σ := (Int32 × Sto)) (ρ := Sto) (un2 fun (v4 : Int32) (t5 : Sto) =>
     if (16 : Int32) ≤ v4 then (
      some (.inr t5)) else (
      (fX5_wordAt ((4 : Int32) * v4) t5).bind (fun (v8 : Int32) =>
       (fX7_floatOf v8).bind (fun (v10 : UInt32) =>
        ck (0 ≤ v4.toInt ∧ v4.toInt < (lFX a1f a1i : Int)) (lt1 (sF t5 a1f a1i (v4.toNatClampNeg) v10) fun (t12 : Sto) =>
         lt1 (v4 + Int32.ofInt (1)) fun (v13 : Int32) =>
         some (.inl (v13, t12))))))) 4000 ((0 : Int32), st)).bind
   (fun (t6 : Sto) =>
    some t6))
set_option maxHeartbeats 4000000 in
set_option maxRecDepth 100000 in
theorem mX5_read (l : Launch) (E : XE) (hL : LX E) (st : Sto) {a1f : Nat} {a1i : Nat} {st1 : Sto} (h : fX5_read a1f a1i st = some st1) : Met l yX5_read wsX5_read ({ frames := 2, cells := 0, slots := 0, locals := 49 }) (va_Pc [.ref (E.2.2.1 17 (0)), .ref (E.2.2.1 a1f a1i)] (RX E st)) (QX E none st1) 0 0 E.2.2.2 := by
  refine Met.ofW (cc := cX5_read) (maxL := 3) (ret := none) (by decide) rfl ?_
  intro p e s m args below meth c s₁ B hml hv
  obtain ⟨rfl, hP, hK⟩ := hv
  have hown : s.vm.findClass RX5 = some m.cls := findClass_of_methodNamed B.named
  have C0 : CX p m c cX5_read 3 s _ wsX5_read RX5 E := ⟨⟨B.exec, B.bytes, hml, hown, atoms_spec (ws := wsX5_read) B.pre⟩, hK⟩
  have hx := B.exec
  have hb := B.bytes
  have hr := B.returns
  have hlocks := B.notSynchronized
  have hw : SX E s st s.heap [] := ⟨hP, va_S.rf⟩
  have hl := lv_entry ([.ref (E.2.2.1 17 (0)), .ref (E.2.2.1 a1f a1i)]) (n := 3) (Nat.le_of_ble_eq_true rfl)
  rw [lg_entry_eq]
  generalize (lg_sl ([.ref (E.2.2.1 17 (0)), .ref (E.2.2.1 a1f a1i)]) ++ List.replicate (3 - (lg_sl ([.ref (E.2.2.1 17 (0)), .ref (E.2.2.1 a1f a1i)])).length) Slot.unset).toArray = ls at hl ⊢
  have hl : lv_has ls 3 [(0, .ref (E.2.2.1 17 (0))), (1, .ref (E.2.2.1 a1f a1i))] := hl
  unfold fX5_read at h
  refine lv_iconst (v := 0) hx hb dX5_read_0 (by decide) ?_
  refine lv_istore_n (lv' := [(2, .int (0 : Int32)), (0, .ref (E.2.2.1 17 (0))), (1, .ref (E.2.2.1 a1f a1i))]) hx hb dX5_read_1 rfl hl (by decide) rfl (fun ls hl => ?_)
  refine lp_ind (fun q : (Int32 × Sto) => ∀ (H : Heap) (locs : List Loc), SX E s (q.2) H locs → ∀ ls : Array Slot, lv_has ls 3 [(2, .int (q.1)), (0, .ref (E.2.2.1 17 (0))), (1, .ref (E.2.2.1 a1f a1i))] → W p l e (headSpec wsX5_read ({ frames := 2, cells := 0, slots := 0, locals := 49 })).room s m ([.ref (E.2.2.1 17 (0)), .ref (E.2.2.1 a1f a1i)] : List Value).toArray below meth c H locs 0 0 (MQ below (QX E none st1) ([.ref (E.2.2.1 17 (0)), .ref (E.2.2.1 a1f a1i)] : List Value).toArray s 0 0 E.2.2.2) (F0 m 2 ls [])) (fun q o3 h hB2 hX1 => ?_) _ _ h _ _ hw _ (lv_sub hl [0, 1, 2] rfl)
  intro H locs hw ls hl
  obtain ⟨v4, t5⟩ := q
  have h := un2_d h
  have hw : SX E s t5 H locs := hw
  have hl : lv_has ls 3 [(2, .int v4), (0, .ref (E.2.2.1 17 (0))), (1, .ref (E.2.2.1 a1f a1i))] := hl
  refine lv_iload_n hx hb dX5_read_2 rfl (lv_at hl 0 rfl) ?_
  refine lv_bipush (v := 16) hx hb dX5_read_3 (by decide) ?_
  refine lv_icmp_ge (tgt := 27) hx hb dX5_read_5 (by decide) (fun hc7 => ?_) (fun hc7 => ?_)
  · have h := ifp h hc7
    have h := hX1 _ (Option.some.inj h).symm
    have hl := lv_sub hl (l' := []) [] rfl
    cases h
    exact W.vret hx hb hr (X_fin C0 hw) hw.2.2.2 dX5_read_27 hlocks
  · have h := ifn h hc7
    refine lv_aload_n hx hb dX5_read_8 rfl (lv_at hl 2 rfl) ?_
    refine lv_iload_n hx hb dX5_read_9 rfl (lv_at hl 0 rfl) ?_
    refine lv_aload_n hx hb dX5_read_10 rfl (lv_at hl 1 rfl) ?_
    refine lv_iconst (v := 4) hx hb dX5_read_11 (by decide) ?_
    refine lv_iload_n hx hb dX5_read_12 rfl (lv_at hl 0 rfl) ?_
    refine lv_imul hx hb dX5_read_13 ?_
    obtain ⟨v8, hf9, h⟩ := bn_c h
    refine X_callV C0 hw (As := [.int ((4 : Int32) * v4)]) (rest := [.int v4, .ref (E.2.2.1 a1f a1i)]) (mX5_wordAt l E hL t5 hf9) (cwV 1 C0.1.2.2.2.2 gX5_read_X5_wordAt rfl rfl rfl (by decide +kernel) ⟨Nat.le_of_ble_eq_true rfl, Nat.le_of_ble_eq_true rfl⟩) (X_recv_17 C0 hw (by decide)) rfl hl.1 rfl (Nat.le_of_ble_eq_true rfl) dX5_read_14 ⟨Nat.zero_le _, Nat.zero_le _⟩ (fun H locs hw => ?_)
    refine W.eq (g2 := F0 m 17 ls [.int v8, .int v4, .ref (E.2.2.1 a1f a1i)]) rfl ?_
    obtain ⟨v10, hf11, h⟩ := bn_c h
    refine X_callS C0 hw (As := [.int v8]) (rest := [.int v4, .ref (E.2.2.1 a1f a1i)]) (mX7_floatOf l E hL t5 hf11) (va_cwS 1 C0.1.2.2.2.2 gX5_read_X7_floatOf rfl rfl rfl (by decide +kernel) ⟨Nat.le_of_ble_eq_true rfl, Nat.le_of_ble_eq_true rfl⟩) rfl hl.1 rfl (Nat.le_of_ble_eq_true rfl) dX5_read_17 ⟨Nat.zero_le _, Nat.zero_le _⟩ (fun H locs hw => ?_)
    refine W.eq (g2 := F0 m 20 ls [.float v10, .int v4, .ref (E.2.2.1 a1f a1i)]) rfl ?_
    refine X_fast hL C0 hw h (k := v4.toNatClampNeg) rfl dX5_read_20 (fun t12 H locs hw h => ?_)
    refine x_iinc hx hb h dX5_read_21 hl (q := 0) rfl (fun v13 => [(2, .int v13), (0, .ref (E.2.2.1 17 (0))), (1, .ref (E.2.2.1 a1f a1i))]) (by decide) (fun _ => rfl) (fun v13 ls hl h => ?_)
    refine lv_goto (tgt := 2) hx hb dX5_read_24 (by decide) ?_
    exact hB2 _ (Option.some.inj h).symm _ _ hw _ (lv_sub hl [0, 1, 2] rfl)

def fX6_begin (a1f : Nat) (a1i : Nat) (st : Sto) : Option Sto :=
  ((lp (σ := (Int32 × Sto)) (ρ := Sto) (un2 fun (v4 : Int32) (t5 : Sto) =>
     if (16 : Int32) ≤ v4 then (
      some (.inr t5)) else (
      ck (0 ≤ v4.toInt ∧ v4.toInt < (lFX a1f a1i : Int)) (
       (fX6_quotientOf (gF t5 a1f a1i (v4.toNatClampNeg))).bind (fun (v8 : UInt64) =>
        ck (0 ≤ v4.toInt ∧ v4.toInt < (lDX (43) (0) : Int)) (lt1 (sD t5 (43) (0) (v4.toNatClampNeg) v8) fun (t10 : Sto) =>
         lt1 (v4 + Int32.ofInt (1)) fun (v11 : Int32) =>
         some (.inl (v11, t10))))))) 4000 ((0 : Int32), st)).bind
   (fun (t6 : Sto) =>
    some t6))
set_option maxHeartbeats 4000000 in
set_option maxRecDepth 100000 in
theorem mX6_begin (l : Launch) (E : XE) (hL : LX E) (st : Sto) {a1f : Nat} {a1i : Nat} {st1 : Sto} (h : fX6_begin a1f a1i st = some st1) : Met l yX6_begin wsX6_begin ({ frames := 1, cells := 0, slots := 0, locals := 24 }) (va_Pc [.ref (E.2.2.1 15 (0)), .ref (E.2.2.1 a1f a1i)] (RX E st)) (QX E none st1) 0 0 E.2.2.2 := by
  refine Met.ofW (cc := cX6_begin) (maxL := 3) (ret := none) (by decide) rfl ?_
  intro p e s m args below meth c s₁ B hml hv
  obtain ⟨rfl, hP, hK⟩ := hv
  have hown : s.vm.findClass RX6 = some m.cls := findClass_of_methodNamed B.named
  have C0 : CX p m c cX6_begin 3 s _ wsX6_begin RX6 E := ⟨⟨B.exec, B.bytes, hml, hown, atoms_spec (ws := wsX6_begin) B.pre⟩, hK⟩
  have hx := B.exec
  have hb := B.bytes
  have hr := B.returns
  have hlocks := B.notSynchronized
  have hw : SX E s st s.heap [] := ⟨hP, va_S.rf⟩
  have hl := lv_entry ([.ref (E.2.2.1 15 (0)), .ref (E.2.2.1 a1f a1i)]) (n := 3) (Nat.le_of_ble_eq_true rfl)
  rw [lg_entry_eq]
  generalize (lg_sl ([.ref (E.2.2.1 15 (0)), .ref (E.2.2.1 a1f a1i)]) ++ List.replicate (3 - (lg_sl ([.ref (E.2.2.1 15 (0)), .ref (E.2.2.1 a1f a1i)])).length) Slot.unset).toArray = ls at hl ⊢
  have hl : lv_has ls 3 [(0, .ref (E.2.2.1 15 (0))), (1, .ref (E.2.2.1 a1f a1i))] := hl
  unfold fX6_begin at h
  refine lv_iconst (v := 0) hx hb dX6_begin_0 (by decide) ?_
  refine lv_istore_n (lv' := [(2, .int (0 : Int32)), (0, .ref (E.2.2.1 15 (0))), (1, .ref (E.2.2.1 a1f a1i))]) hx hb dX6_begin_1 rfl hl (by decide) rfl (fun ls hl => ?_)
  refine lp_ind (fun q : (Int32 × Sto) => ∀ (H : Heap) (locs : List Loc), SX E s (q.2) H locs → ∀ ls : Array Slot, lv_has ls 3 [(2, .int (q.1)), (0, .ref (E.2.2.1 15 (0))), (1, .ref (E.2.2.1 a1f a1i))] → W p l e (headSpec wsX6_begin ({ frames := 1, cells := 0, slots := 0, locals := 24 })).room s m ([.ref (E.2.2.1 15 (0)), .ref (E.2.2.1 a1f a1i)] : List Value).toArray below meth c H locs 0 0 (MQ below (QX E none st1) ([.ref (E.2.2.1 15 (0)), .ref (E.2.2.1 a1f a1i)] : List Value).toArray s 0 0 E.2.2.2) (F0 m 2 ls [])) (fun q o3 h hB2 hX1 => ?_) _ _ h _ _ hw _ (lv_sub hl [0, 1, 2] rfl)
  intro H locs hw ls hl
  obtain ⟨v4, t5⟩ := q
  have h := un2_d h
  have hw : SX E s t5 H locs := hw
  have hl : lv_has ls 3 [(2, .int v4), (0, .ref (E.2.2.1 15 (0))), (1, .ref (E.2.2.1 a1f a1i))] := hl
  refine lv_iload_n hx hb dX6_begin_2 rfl (lv_at hl 0 rfl) ?_
  refine lv_bipush (v := 16) hx hb dX6_begin_3 (by decide) ?_
  refine lv_icmp_ge (tgt := 26) hx hb dX6_begin_5 (by decide) (fun hc7 => ?_) (fun hc7 => ?_)
  · have h := ifp h hc7
    have h := hX1 _ (Option.some.inj h).symm
    have hl := lv_sub hl (l' := []) [] rfl
    cases h
    exact W.vret hx hb hr (X_fin C0 hw) hw.2.2.2 dX6_begin_26 hlocks
  · have h := ifn h hc7
    refine lv_aload_n hx hb dX6_begin_8 rfl (lv_at hl 1 rfl) ?_
    refine X_g15_0 C0 hw (fun w h => (List.mem_cons_of_mem _ (List.mem_append_right _ h))) (by decide) ((List.mem_cons_of_mem _ (List.mem_append_left _ (List.mem_of_getElem? (i := 0) rfl)))) dX6_begin_9 ?_
    refine lv_iload_n hx hb dX6_begin_12 rfl (lv_at hl 0 rfl) ?_
    refine lv_aload_n hx hb dX6_begin_13 rfl (lv_at hl 2 rfl) ?_
    refine lv_iload_n hx hb dX6_begin_14 rfl (lv_at hl 0 rfl) ?_
    refine X_fald C0 hw h (k := v4.toNatClampNeg) rfl dX6_begin_15 (fun h => ?_)
    obtain ⟨v8, hf9, h⟩ := bn_c h
    refine X_callS C0 hw (As := [.float (gF t5 a1f a1i (v4.toNatClampNeg))]) (rest := [.int v4, .ref (E.2.2.1 (43) (0))]) (mX6_quotientOf l E hL t5 hf9) (va_cwS 1 C0.1.2.2.2.2 gX6_begin_X6_quotientOf rfl rfl rfl (by decide +kernel) ⟨Nat.le_of_ble_eq_true rfl, Nat.le_of_ble_eq_true rfl⟩) rfl hl.1 rfl (Nat.le_of_ble_eq_true rfl) dX6_begin_16 ⟨Nat.zero_le _, Nat.zero_le _⟩ (fun H locs hw => ?_)
    refine W.eq (g2 := F0 m 19 ls [.double v8, .int v4, .ref (E.2.2.1 (43) (0))]) rfl ?_
    refine X_dast hL C0 hw h (k := v4.toNatClampNeg) rfl dX6_begin_19 (fun t10 H locs hw h => ?_)
    refine x_iinc hx hb h dX6_begin_20 hl (q := 0) rfl (fun v11 => [(2, .int v11), (0, .ref (E.2.2.1 15 (0))), (1, .ref (E.2.2.1 a1f a1i))]) (by decide) (fun _ => rfl) (fun v11 ls hl h => ?_)
    refine lv_goto (tgt := 2) hx hb dX6_begin_23 (by decide) ?_
    exact hB2 _ (Option.some.inj h).symm _ _ hw _ (lv_sub hl [0, 1, 2] rfl)

def fX6_addInRatio (a1f : Nat) (a1i : Nat) (a2 : UInt64) (st : Sto) : Option Sto :=
  ((lp (σ := (Int32 × Sto)) (ρ := Sto) (un2 fun (v4 : Int32) (t5 : Sto) =>
     if (16 : Int32) ≤ v4 then (
      some (.inr t5)) else (
      ck (0 ≤ v4.toInt ∧ v4.toInt < (lDX (43) (0) : Int)) (
       ck (0 ≤ v4.toInt ∧ v4.toInt < (lDX a1f a1i : Int)) (
        nd (FP.dmul (gD t5 a1f a1i (v4.toNatClampNeg)) a2) fun (v8 : UInt64) =>
        nd (FP.dadd (gD t5 (43) (0) (v4.toNatClampNeg)) v8) fun (v9 : UInt64) =>
        ck (0 ≤ v4.toInt ∧ v4.toInt < (lDX (43) (0) : Int)) (lt1 (sD t5 (43) (0) (v4.toNatClampNeg) v9) fun (t10 : Sto) =>
         lt1 (v4 + Int32.ofInt (1)) fun (v11 : Int32) =>
         some (.inl (v11, t10))))))) 4000 ((0 : Int32), st)).bind
   (fun (t6 : Sto) =>
    some t6))
set_option maxHeartbeats 4000000 in
set_option maxRecDepth 100000 in
theorem mX6_addInRatio (l : Launch) (E : XE) (hL : LX E) (st : Sto) {a1f : Nat} {a1i : Nat} {a2 : UInt64} {st1 : Sto} (h : fX6_addInRatio a1f a1i a2 st = some st1) : Met l yX6_addInRatio wsX6_addInRatio ({ frames := 0, cells := 0, slots := 0, locals := 0 }) (va_Pc [.ref (E.2.2.1 15 (0)), .ref (E.2.2.1 a1f a1i), .double a2] (RX E st)) (QX E none st1) 0 0 E.2.2.2 := by
  refine Met.ofW (cc := cX6_addInRatio) (maxL := 5) (ret := none) (by decide) rfl ?_
  intro p e s m args below meth c s₁ B hml hv
  obtain ⟨rfl, hP, hK⟩ := hv
  have hown : s.vm.findClass RX6 = some m.cls := findClass_of_methodNamed B.named
  have C0 : CX p m c cX6_addInRatio 5 s _ wsX6_addInRatio RX6 E := ⟨⟨B.exec, B.bytes, hml, hown, atoms_spec (ws := wsX6_addInRatio) B.pre⟩, hK⟩
  have hx := B.exec
  have hb := B.bytes
  have hr := B.returns
  have hlocks := B.notSynchronized
  have hw : SX E s st s.heap [] := ⟨hP, va_S.rf⟩
  have hl := lv_entry ([.ref (E.2.2.1 15 (0)), .ref (E.2.2.1 a1f a1i), .double a2]) (n := 5) (Nat.le_of_ble_eq_true rfl)
  rw [lg_entry_eq]
  generalize (lg_sl ([.ref (E.2.2.1 15 (0)), .ref (E.2.2.1 a1f a1i), .double a2]) ++ List.replicate (5 - (lg_sl ([.ref (E.2.2.1 15 (0)), .ref (E.2.2.1 a1f a1i), .double a2])).length) Slot.unset).toArray = ls at hl ⊢
  have hl : lv_has ls 5 [(0, .ref (E.2.2.1 15 (0))), (1, .ref (E.2.2.1 a1f a1i)), (2, .double a2)] := hl
  unfold fX6_addInRatio at h
  refine lv_iconst (v := 0) hx hb dX6_addInRatio_0 (by decide) ?_
  refine lv_istore (lv' := [(4, .int (0 : Int32)), (0, .ref (E.2.2.1 15 (0))), (1, .ref (E.2.2.1 a1f a1i)), (2, .double a2)]) hx hb dX6_addInRatio_1 hl (by decide) rfl (fun ls hl => ?_)
  refine lp_ind (fun q : (Int32 × Sto) => ∀ (H : Heap) (locs : List Loc), SX E s (q.2) H locs → ∀ ls : Array Slot, lv_has ls 5 [(4, .int (q.1)), (0, .ref (E.2.2.1 15 (0))), (1, .ref (E.2.2.1 a1f a1i)), (2, .double a2)] → W p l e (headSpec wsX6_addInRatio ({ frames := 0, cells := 0, slots := 0, locals := 0 })).room s m ([.ref (E.2.2.1 15 (0)), .ref (E.2.2.1 a1f a1i), .double a2] : List Value).toArray below meth c H locs 0 0 (MQ below (QX E none st1) ([.ref (E.2.2.1 15 (0)), .ref (E.2.2.1 a1f a1i), .double a2] : List Value).toArray s 0 0 E.2.2.2) (F0 m 3 ls [])) (fun q o3 h hB2 hX1 => ?_) _ _ h _ _ hw _ (lv_sub hl [0, 1, 2, 3] rfl)
  intro H locs hw ls hl
  obtain ⟨v4, t5⟩ := q
  have h := un2_d h
  have hw : SX E s t5 H locs := hw
  have hl : lv_has ls 5 [(4, .int v4), (0, .ref (E.2.2.1 15 (0))), (1, .ref (E.2.2.1 a1f a1i)), (2, .double a2)] := hl
  refine lv_iload hx hb dX6_addInRatio_3 (lv_at hl 0 rfl) ?_
  refine lv_bipush (v := 16) hx hb dX6_addInRatio_5 (by decide) ?_
  refine lv_icmp_ge (tgt := 37) hx hb dX6_addInRatio_7 (by decide) (fun hc7 => ?_) (fun hc7 => ?_)
  · have h := ifp h hc7
    have h := hX1 _ (Option.some.inj h).symm
    have hl := lv_sub hl (l' := []) [] rfl
    cases h
    exact W.vret hx hb hr (X_fin C0 hw) hw.2.2.2 dX6_addInRatio_37 hlocks
  · have h := ifn h hc7
    refine lv_aload_n hx hb dX6_addInRatio_10 rfl (lv_at hl 1 rfl) ?_
    refine X_g15_0 C0 hw (fun w h => (List.mem_cons_of_mem _ (List.mem_append_right _ h))) (by decide) ((List.mem_cons_of_mem _ (List.mem_append_left _ (List.mem_of_getElem? (i := 0) rfl)))) dX6_addInRatio_11 ?_
    refine lv_iload hx hb dX6_addInRatio_14 (lv_at hl 0 rfl) ?_
    refine lv_aload_n hx hb dX6_addInRatio_16 rfl (lv_at hl 1 rfl) ?_
    refine X_g15_0 C0 hw (fun w h => (List.mem_cons_of_mem _ (List.mem_append_right _ h))) (by decide) ((List.mem_cons_of_mem _ (List.mem_append_left _ (List.mem_of_getElem? (i := 0) rfl)))) dX6_addInRatio_17 ?_
    refine lv_iload hx hb dX6_addInRatio_20 (lv_at hl 0 rfl) ?_
    refine X_dald C0 hw h (k := v4.toNatClampNeg) rfl dX6_addInRatio_22 (fun h => ?_)
    refine lv_aload_n hx hb dX6_addInRatio_23 rfl (lv_at hl 2 rfl) ?_
    refine lv_iload hx hb dX6_addInRatio_24 (lv_at hl 0 rfl) ?_
    refine X_dald C0 hw h (k := v4.toNatClampNeg) rfl dX6_addInRatio_26 (fun h => ?_)
    refine lv_dload_n hx hb dX6_addInRatio_27 rfl (lv_at hl 3 rfl) ?_
    refine x_dmul hx hb h dX6_addInRatio_28 (fun v8 h => ?_)
    refine x_dadd hx hb h dX6_addInRatio_29 (fun v9 h => ?_)
    refine X_dast hL C0 hw h (k := v4.toNatClampNeg) rfl dX6_addInRatio_30 (fun t10 H locs hw h => ?_)
    refine x_iinc hx hb h dX6_addInRatio_31 hl (q := 0) rfl (fun v11 => [(4, .int v11), (0, .ref (E.2.2.1 15 (0))), (1, .ref (E.2.2.1 a1f a1i)), (2, .double a2)]) (by decide) (fun _ => rfl) (fun v11 ls hl h => ?_)
    refine lv_goto (tgt := 3) hx hb dX6_addInRatio_34 (by decide) ?_
    exact hB2 _ (Option.some.inj h).symm _ _ hw _ (lv_sub hl [0, 1, 2, 3] rfl)

def fX6_addBetween (a1f : Nat) (a1i : Nat) (a2f : Nat) (a2i : Nat) (a3 : UInt64) (st : Sto) : Option Sto :=
  ((lp (σ := (Int32 × Sto)) (ρ := Sto) (un2 fun (v4 : Int32) (t5 : Sto) =>
     if (16 : Int32) ≤ v4 then (
      some (.inr t5)) else (
      ck (0 ≤ v4.toInt ∧ v4.toInt < (lDX (43) (0) : Int)) (
       ck (0 ≤ v4.toInt ∧ v4.toInt < (lDX a1f a1i : Int)) (
        ck (0 ≤ v4.toInt ∧ v4.toInt < (lDX a2f a2i : Int)) (
         ck (0 ≤ v4.toInt ∧ v4.toInt < (lDX a1f a1i : Int)) (
          nd (FP.dsub (gD t5 a2f a2i (v4.toNatClampNeg)) (gD t5 a1f a1i (v4.toNatClampNeg))) fun (v8 : UInt64) =>
          nd (FP.dmul v8 a3) fun (v9 : UInt64) =>
          nd (FP.dadd (gD t5 a1f a1i (v4.toNatClampNeg)) v9) fun (v10 : UInt64) =>
          nd (FP.dadd (gD t5 (43) (0) (v4.toNatClampNeg)) v10) fun (v11 : UInt64) =>
          ck (0 ≤ v4.toInt ∧ v4.toInt < (lDX (43) (0) : Int)) (lt1 (sD t5 (43) (0) (v4.toNatClampNeg) v11) fun (t12 : Sto) =>
           lt1 (v4 + Int32.ofInt (1)) fun (v13 : Int32) =>
           some (.inl (v13, t12))))))))) 4000 ((0 : Int32), st)).bind
   (fun (t6 : Sto) =>
    some t6))
set_option maxHeartbeats 4000000 in
set_option maxRecDepth 100000 in
theorem mX6_addBetween (l : Launch) (E : XE) (hL : LX E) (st : Sto) {a1f : Nat} {a1i : Nat} {a2f : Nat} {a2i : Nat} {a3 : UInt64} {st1 : Sto} (h : fX6_addBetween a1f a1i a2f a2i a3 st = some st1) : Met l yX6_addBetween wsX6_addBetween ({ frames := 0, cells := 0, slots := 0, locals := 0 }) (va_Pc [.ref (E.2.2.1 15 (0)), .ref (E.2.2.1 a1f a1i), .ref (E.2.2.1 a2f a2i), .double a3] (RX E st)) (QX E none st1) 0 0 E.2.2.2 := by
  refine Met.ofW (cc := cX6_addBetween) (maxL := 6) (ret := none) (by decide) rfl ?_
  intro p e s m args below meth c s₁ B hml hv
  obtain ⟨rfl, hP, hK⟩ := hv
  have hown : s.vm.findClass RX6 = some m.cls := findClass_of_methodNamed B.named
  have C0 : CX p m c cX6_addBetween 6 s _ wsX6_addBetween RX6 E := ⟨⟨B.exec, B.bytes, hml, hown, atoms_spec (ws := wsX6_addBetween) B.pre⟩, hK⟩
  have hx := B.exec
  have hb := B.bytes
  have hr := B.returns
  have hlocks := B.notSynchronized
  have hw : SX E s st s.heap [] := ⟨hP, va_S.rf⟩
  have hl := lv_entry ([.ref (E.2.2.1 15 (0)), .ref (E.2.2.1 a1f a1i), .ref (E.2.2.1 a2f a2i), .double a3]) (n := 6) (Nat.le_of_ble_eq_true rfl)
  rw [lg_entry_eq]
  generalize (lg_sl ([.ref (E.2.2.1 15 (0)), .ref (E.2.2.1 a1f a1i), .ref (E.2.2.1 a2f a2i), .double a3]) ++ List.replicate (6 - (lg_sl ([.ref (E.2.2.1 15 (0)), .ref (E.2.2.1 a1f a1i), .ref (E.2.2.1 a2f a2i), .double a3])).length) Slot.unset).toArray = ls at hl ⊢
  have hl : lv_has ls 6 [(0, .ref (E.2.2.1 15 (0))), (1, .ref (E.2.2.1 a1f a1i)), (2, .ref (E.2.2.1 a2f a2i)), (3, .double a3)] := hl
  unfold fX6_addBetween at h
  refine lv_iconst (v := 0) hx hb dX6_addBetween_0 (by decide) ?_
  refine lv_istore (lv' := [(5, .int (0 : Int32)), (0, .ref (E.2.2.1 15 (0))), (1, .ref (E.2.2.1 a1f a1i)), (2, .ref (E.2.2.1 a2f a2i)), (3, .double a3)]) hx hb dX6_addBetween_1 hl (by decide) rfl (fun ls hl => ?_)
  refine lp_ind (fun q : (Int32 × Sto) => ∀ (H : Heap) (locs : List Loc), SX E s (q.2) H locs → ∀ ls : Array Slot, lv_has ls 6 [(5, .int (q.1)), (0, .ref (E.2.2.1 15 (0))), (1, .ref (E.2.2.1 a1f a1i)), (2, .ref (E.2.2.1 a2f a2i)), (3, .double a3)] → W p l e (headSpec wsX6_addBetween ({ frames := 0, cells := 0, slots := 0, locals := 0 })).room s m ([.ref (E.2.2.1 15 (0)), .ref (E.2.2.1 a1f a1i), .ref (E.2.2.1 a2f a2i), .double a3] : List Value).toArray below meth c H locs 0 0 (MQ below (QX E none st1) ([.ref (E.2.2.1 15 (0)), .ref (E.2.2.1 a1f a1i), .ref (E.2.2.1 a2f a2i), .double a3] : List Value).toArray s 0 0 E.2.2.2) (F0 m 3 ls [])) (fun q o3 h hB2 hX1 => ?_) _ _ h _ _ hw _ (lv_sub hl [0, 1, 2, 3, 4] rfl)
  intro H locs hw ls hl
  obtain ⟨v4, t5⟩ := q
  have h := un2_d h
  have hw : SX E s t5 H locs := hw
  have hl : lv_has ls 6 [(5, .int v4), (0, .ref (E.2.2.1 15 (0))), (1, .ref (E.2.2.1 a1f a1i)), (2, .ref (E.2.2.1 a2f a2i)), (3, .double a3)] := hl
  refine lv_iload hx hb dX6_addBetween_3 (lv_at hl 0 rfl) ?_
  refine lv_bipush (v := 16) hx hb dX6_addBetween_5 (by decide) ?_
  refine lv_icmp_ge (tgt := 47) hx hb dX6_addBetween_7 (by decide) (fun hc7 => ?_) (fun hc7 => ?_)
  · have h := ifp h hc7
    have h := hX1 _ (Option.some.inj h).symm
    have hl := lv_sub hl (l' := []) [] rfl
    cases h
    exact W.vret hx hb hr (X_fin C0 hw) hw.2.2.2 dX6_addBetween_47 hlocks
  · have h := ifn h hc7
    refine lv_aload_n hx hb dX6_addBetween_10 rfl (lv_at hl 1 rfl) ?_
    refine X_g15_0 C0 hw (fun w h => (List.mem_cons_of_mem _ (List.mem_append_right _ h))) (by decide) ((List.mem_cons_of_mem _ (List.mem_append_left _ (List.mem_of_getElem? (i := 0) rfl)))) dX6_addBetween_11 ?_
    refine lv_iload hx hb dX6_addBetween_14 (lv_at hl 0 rfl) ?_
    refine lv_aload_n hx hb dX6_addBetween_16 rfl (lv_at hl 1 rfl) ?_
    refine X_g15_0 C0 hw (fun w h => (List.mem_cons_of_mem _ (List.mem_append_right _ h))) (by decide) ((List.mem_cons_of_mem _ (List.mem_append_left _ (List.mem_of_getElem? (i := 0) rfl)))) dX6_addBetween_17 ?_
    refine lv_iload hx hb dX6_addBetween_20 (lv_at hl 0 rfl) ?_
    refine X_dald C0 hw h (k := v4.toNatClampNeg) rfl dX6_addBetween_22 (fun h => ?_)
    refine lv_aload_n hx hb dX6_addBetween_23 rfl (lv_at hl 2 rfl) ?_
    refine lv_iload hx hb dX6_addBetween_24 (lv_at hl 0 rfl) ?_
    refine X_dald C0 hw h (k := v4.toNatClampNeg) rfl dX6_addBetween_26 (fun h => ?_)
    refine lv_aload_n hx hb dX6_addBetween_27 rfl (lv_at hl 3 rfl) ?_
    refine lv_iload hx hb dX6_addBetween_28 (lv_at hl 0 rfl) ?_
    refine X_dald C0 hw h (k := v4.toNatClampNeg) rfl dX6_addBetween_30 (fun h => ?_)
    refine lv_aload_n hx hb dX6_addBetween_31 rfl (lv_at hl 2 rfl) ?_
    refine lv_iload hx hb dX6_addBetween_32 (lv_at hl 0 rfl) ?_
    refine X_dald C0 hw h (k := v4.toNatClampNeg) rfl dX6_addBetween_34 (fun h => ?_)
    refine x_dsub hx hb h dX6_addBetween_35 (fun v8 h => ?_)
    refine lv_dload_n hx hb dX6_addBetween_36 rfl (lv_at hl 4 rfl) ?_
    refine x_dmul hx hb h dX6_addBetween_37 (fun v9 h => ?_)
    refine x_dadd hx hb h dX6_addBetween_38 (fun v10 h => ?_)
    refine x_dadd hx hb h dX6_addBetween_39 (fun v11 h => ?_)
    refine X_dast hL C0 hw h (k := v4.toNatClampNeg) rfl dX6_addBetween_40 (fun t12 H locs hw h => ?_)
    refine x_iinc hx hb h dX6_addBetween_41 hl (q := 0) rfl (fun v13 => [(5, .int v13), (0, .ref (E.2.2.1 15 (0))), (1, .ref (E.2.2.1 a1f a1i)), (2, .ref (E.2.2.1 a2f a2i)), (3, .double a3)]) (by decide) (fun _ => rfl) (fun v13 ls hl h => ?_)
    refine lv_goto (tgt := 3) hx hb dX6_addBetween_44 (by decide) ?_
    exact hB2 _ (Option.some.inj h).symm _ _ hw _ (lv_sub hl [0, 1, 2, 3, 4] rfl)

def fX6_add (a1i : Nat) (a2 : UInt64) (st : Sto) : Option Sto :=
  if gI st 22 a1i 2 = 0 then (
   some st) else (
   if 0 < Op.cmpValue (FP.dcmp a2 FP.dconst0) CmpOp.g then (
    (fX3_firstFrom a1i a2 st).bind (fun (v3 : Int32) =>
     if v3 = 0 then (
      ck (0 ≤ (0 : Int32).toInt ∧ (0 : Int32).toInt < (lIX (23) a1i : Int)) (
       nd (FP.ddiv a2 (FP.i2d (gI st (23) a1i (0)))) fun (v21 : UInt64) =>
       (fX6_addInRatio (25) (6 * a1i + 0) v21 st).bind (fun (t22 : Sto) =>
        some t22))) else (
      if v3 = gI st 22 a1i 2 then (
       ck (0 ≤ (v3 - (1 : Int32)).toInt ∧ (v3 - (1 : Int32)).toInt < (6 : Int)) (
        ck (0 ≤ (v3 - (1 : Int32)).toInt ∧ (v3 - (1 : Int32)).toInt < (lIX (23) a1i : Int)) (
         nd (FP.ddiv a2 (FP.i2d (gI st (23) a1i ((v3 - (1 : Int32)).toNatClampNeg)))) fun (v17 : UInt64) =>
         (fX6_addInRatio (25) (6 * a1i + (v3 - (1 : Int32)).toNatClampNeg) v17 st).bind (fun (t18 : Sto) =>
          some t18)))) else (
       ck (0 ≤ (v3 - (1 : Int32)).toInt ∧ (v3 - (1 : Int32)).toInt < (lIX (23) a1i : Int)) (
        lt1 (FP.i2d (gI st (23) a1i ((v3 - (1 : Int32)).toNatClampNeg))) fun (v7 : UInt64) =>
        ck (0 ≤ v3.toInt ∧ v3.toInt < (lIX (23) a1i : Int)) (
         lt1 (FP.i2d (gI st (23) a1i (v3.toNatClampNeg))) fun (v8 : UInt64) =>
         ck (0 ≤ (v3 - (1 : Int32)).toInt ∧ (v3 - (1 : Int32)).toInt < (6 : Int)) (
          ck (0 ≤ v3.toInt ∧ v3.toInt < (6 : Int)) (
           nd (FP.dsub a2 v7) fun (v11 : UInt64) =>
           nd (FP.dsub v8 v7) fun (v12 : UInt64) =>
           nd (FP.ddiv v11 v12) fun (v13 : UInt64) =>
           (fX6_addBetween (25) (6 * a1i + (v3 - (1 : Int32)).toNatClampNeg) (25) (6 * a1i + v3.toNatClampNeg) v13 st).bind (fun (t14 : Sto) =>
            some t14))))))))) else (
    some st))
set_option maxHeartbeats 4000000 in
set_option maxRecDepth 100000 in
theorem mX6_add (l : Launch) (E : XE) (hL : LX E) (st : Sto) {a1i : Nat} {a2 : UInt64} (ha1 : a1i < cntX 22) {st1 : Sto} (h : fX6_add a1i a2 st = some st1) : Met l yX6_add wsX6_add ({ frames := 1, cells := 0, slots := 0, locals := 25 }) (va_Pc [.ref (E.2.2.1 15 (0)), .ref (E.2.2.1 22 a1i), .double a2] (RX E st)) (QX E none st1) 0 0 E.2.2.2 := by
  refine Met.ofW (cc := cX6_add) (maxL := 9) (ret := none) (by decide) rfl ?_
  intro p e s m args below meth c s₁ B hml hv
  obtain ⟨rfl, hP, hK⟩ := hv
  have hown : s.vm.findClass RX6 = some m.cls := findClass_of_methodNamed B.named
  have C0 : CX p m c cX6_add 9 s _ wsX6_add RX6 E := ⟨⟨B.exec, B.bytes, hml, hown, atoms_spec (ws := wsX6_add) B.pre⟩, hK⟩
  have hx := B.exec
  have hb := B.bytes
  have hr := B.returns
  have hlocks := B.notSynchronized
  have hw : SX E s st s.heap [] := ⟨hP, va_S.rf⟩
  have hl := lv_entry ([.ref (E.2.2.1 15 (0)), .ref (E.2.2.1 22 a1i), .double a2]) (n := 9) (Nat.le_of_ble_eq_true rfl)
  rw [lg_entry_eq]
  generalize (lg_sl ([.ref (E.2.2.1 15 (0)), .ref (E.2.2.1 22 a1i), .double a2]) ++ List.replicate (9 - (lg_sl ([.ref (E.2.2.1 15 (0)), .ref (E.2.2.1 22 a1i), .double a2])).length) Slot.unset).toArray = ls at hl ⊢
  have hl : lv_has ls 9 [(0, .ref (E.2.2.1 15 (0))), (1, .ref (E.2.2.1 22 a1i)), (2, .double a2)] := hl
  unfold fX6_add at h
  refine lv_aload_n hx hb dX6_add_0 rfl (lv_at hl 1 rfl) ?_
  refine X_g22_2 C0 hw (fun w h => (List.mem_cons_of_mem _ (List.mem_append_left _ (List.mem_append_right _ h)))) ha1 ((List.mem_cons_of_mem _ (List.mem_append_left _ (List.mem_append_left _ (List.mem_of_getElem? (i := 0) rfl))))) dX6_add_1 ?_
  refine lv_if_eq (tgt := 13) hx hb dX6_add_4 (by decide) (fun hc1 => ?_) (fun hc1 => ?_)
  · have h := ifp h hc1
    cases h
    exact W.vret hx hb hr (X_fin C0 hw) hw.2.2.2 dX6_add_13 hlocks
  · have h := ifn h hc1
    refine lv_dload_n hx hb dX6_add_7 rfl (lv_at hl 2 rfl) ?_
    refine lv_dconst0 hx hb dX6_add_8 ?_
    refine lv_dcmp hx hb dX6_add_9 ?_
    refine lv_if_gt (tgt := 14) hx hb dX6_add_10 (by decide) (fun hc2 => ?_) (fun hc2 => ?_)
    · have h := ifp h hc2
      refine lv_aload_n hx hb dX6_add_14 rfl (lv_at hl 1 rfl) ?_
      refine lv_dload_n hx hb dX6_add_15 rfl (lv_at hl 2 rfl) ?_
      obtain ⟨v3, hf4, h⟩ := bn_c h
      refine X_callV C0 hw (As := [.double a2]) (rest := []) (mX3_firstFrom l E hL st ha1 hf4) (cwV 1 C0.1.2.2.2.2 gX6_add_X3_firstFrom rfl rfl rfl (by decide +kernel) ⟨Nat.le_of_ble_eq_true rfl, Nat.le_of_ble_eq_true rfl⟩) (X_recv_22 C0 hw ha1) rfl hl.1 rfl (Nat.le_of_ble_eq_true rfl) dX6_add_16 ⟨Nat.zero_le _, Nat.zero_le _⟩ (fun H locs hw => ?_)
      refine W.eq (g2 := F0 m 19 ls [.int v3]) rfl ?_
      refine lv_istore (lv' := [(4, .int v3), (0, .ref (E.2.2.1 15 (0))), (1, .ref (E.2.2.1 22 a1i)), (2, .double a2)]) hx hb dX6_add_19 hl (by decide) rfl (fun ls hl => ?_)
      refine lv_iload hx hb dX6_add_21 (lv_at hl 0 rfl) ?_
      refine lv_if_ne (tgt := 48) hx hb dX6_add_23 (by decide) (fun hc5 => ?_) (fun hc5 => ?_)
      · have h := ifn h hc5
        refine lv_iload hx hb dX6_add_48 (lv_at hl 0 rfl) ?_
        refine lv_aload_n hx hb dX6_add_50 rfl (lv_at hl 2 rfl) ?_
        refine X_g22_2 C0 hw (fun w h => (List.mem_cons_of_mem _ (List.mem_append_left _ (List.mem_append_right _ h)))) ha1 ((List.mem_cons_of_mem _ (List.mem_append_left _ (List.mem_append_left _ (List.mem_of_getElem? (i := 0) rfl))))) dX6_add_51 ?_
        refine lv_icmp_ne (tgt := 85) hx hb dX6_add_54 (by decide) (fun hc6 => ?_) (fun hc6 => ?_)
        · have h := ifn h hc6
          refine lv_aload_n hx hb dX6_add_85 rfl (lv_at hl 2 rfl) ?_
          refine X_g22_3 C0 hw (fun w h => (List.mem_cons_of_mem _ (List.mem_append_left _ (List.mem_append_right _ h)))) ha1 ((List.mem_cons_of_mem _ (List.mem_append_left _ (List.mem_append_left _ (List.mem_of_getElem? (i := 2) rfl))))) dX6_add_86 ?_
          refine lv_iload hx hb dX6_add_89 (lv_at hl 0 rfl) ?_
          refine lv_iconst (v := 1) hx hb dX6_add_91 (by decide) ?_
          refine lv_isub hx hb dX6_add_92 ?_
          refine X_iald C0 hw h (k := (v3 - (1 : Int32)).toNatClampNeg) rfl dX6_add_93 (fun h => ?_)
          refine lv_i2d hx hb dX6_add_94 ?_
          refine x_topd h (fun v7 h => ?_)
          refine lv_dstore (lv' := [(5, .double v7), (4, .int v3), (0, .ref (E.2.2.1 15 (0))), (1, .ref (E.2.2.1 22 a1i)), (2, .double a2)]) hx hb dX6_add_95 hl (by decide) rfl (fun ls hl => ?_)
          refine lv_aload_n hx hb dX6_add_97 rfl (lv_at hl 3 rfl) ?_
          refine X_g22_3 C0 hw (fun w h => (List.mem_cons_of_mem _ (List.mem_append_left _ (List.mem_append_right _ h)))) ha1 ((List.mem_cons_of_mem _ (List.mem_append_left _ (List.mem_append_left _ (List.mem_of_getElem? (i := 2) rfl))))) dX6_add_98 ?_
          refine lv_iload hx hb dX6_add_101 (lv_at hl 1 rfl) ?_
          refine X_iald C0 hw h (k := v3.toNatClampNeg) rfl dX6_add_103 (fun h => ?_)
          refine lv_i2d hx hb dX6_add_104 ?_
          refine x_topd h (fun v8 h => ?_)
          refine lv_dstore (lv' := [(7, .double v8), (5, .double v7), (4, .int v3), (0, .ref (E.2.2.1 15 (0))), (1, .ref (E.2.2.1 22 a1i)), (2, .double a2)]) hx hb dX6_add_105 hl (by decide) rfl (fun ls hl => ?_)
          refine lv_aload_n hx hb dX6_add_107 rfl (lv_at hl 3 rfl) ?_
          refine lv_aload_n hx hb dX6_add_108 rfl (lv_at hl 4 rfl) ?_
          refine X_g22_4 C0 hw (fun w h => (List.mem_cons_of_mem _ (List.mem_append_left _ (List.mem_append_right _ h)))) ha1 ((List.mem_cons_of_mem _ (List.mem_append_left _ (List.mem_append_left _ (List.mem_of_getElem? (i := 1) rfl))))) dX6_add_109 ?_
          refine lv_iload hx hb dX6_add_112 (lv_at hl 2 rfl) ?_
          refine lv_iconst (v := 1) hx hb dX6_add_114 (by decide) ?_
          refine lv_isub hx hb dX6_add_115 ?_
          refine X_ald_24 C0 hw ha1 h (k := (v3 - (1 : Int32)).toNatClampNeg) rfl dX6_add_116 (fun hk9 h => ?_)
          refine lv_aload_n hx hb dX6_add_117 rfl (lv_at hl 4 rfl) ?_
          refine X_g22_4 C0 hw (fun w h => (List.mem_cons_of_mem _ (List.mem_append_left _ (List.mem_append_right _ h)))) ha1 ((List.mem_cons_of_mem _ (List.mem_append_left _ (List.mem_append_left _ (List.mem_of_getElem? (i := 1) rfl))))) dX6_add_118 ?_
          refine lv_iload hx hb dX6_add_121 (lv_at hl 2 rfl) ?_
          refine X_ald_24 C0 hw ha1 h (k := v3.toNatClampNeg) rfl dX6_add_123 (fun hk10 h => ?_)
          refine lv_dload_n hx hb dX6_add_124 rfl (lv_at hl 5 rfl) ?_
          refine lv_dload hx hb dX6_add_125 (lv_at hl 1 rfl) ?_
          refine x_dsub hx hb h dX6_add_127 (fun v11 h => ?_)
          refine lv_dload hx hb dX6_add_128 (lv_at hl 0 rfl) ?_
          refine lv_dload hx hb dX6_add_130 (lv_at hl 1 rfl) ?_
          refine x_dsub hx hb h dX6_add_132 (fun v12 h => ?_)
          refine x_ddiv hx hb h dX6_add_133 (fun v13 h => ?_)
          obtain ⟨t14, hf15, h⟩ := bn_c h
          refine X_callV C0 hw (As := [.ref (E.2.2.1 (25) (6 * a1i + (v3 - (1 : Int32)).toNatClampNeg)), .ref (E.2.2.1 (25) (6 * a1i + v3.toNatClampNeg)), .double v13]) (rest := []) (mX6_addBetween l E hL st hf15) (cwV 3 C0.1.2.2.2.2 gX6_add_X6_addBetween rfl rfl rfl (by decide +kernel) ⟨Nat.le_of_ble_eq_true rfl, Nat.le_of_ble_eq_true rfl⟩) (X_recv_15 C0 hw (by decide)) rfl hl.1 rfl (Nat.le_of_ble_eq_true rfl) dX6_add_134 ⟨Nat.zero_le _, Nat.zero_le _⟩ (fun H locs hw => ?_)
          refine W.eq (g2 := F0 m 137 ls []) rfl ?_
          cases h
          exact W.vret hx hb hr (X_fin C0 hw) hw.2.2.2 dX6_add_137 hlocks
        · have h := ifp h hc6
          refine lv_aload_n hx hb dX6_add_57 rfl (lv_at hl 1 rfl) ?_
          refine lv_aload_n hx hb dX6_add_58 rfl (lv_at hl 2 rfl) ?_
          refine X_g22_4 C0 hw (fun w h => (List.mem_cons_of_mem _ (List.mem_append_left _ (List.mem_append_right _ h)))) ha1 ((List.mem_cons_of_mem _ (List.mem_append_left _ (List.mem_append_left _ (List.mem_of_getElem? (i := 1) rfl))))) dX6_add_59 ?_
          refine lv_iload hx hb dX6_add_62 (lv_at hl 0 rfl) ?_
          refine lv_iconst (v := 1) hx hb dX6_add_64 (by decide) ?_
          refine lv_isub hx hb dX6_add_65 ?_
          refine X_ald_24 C0 hw ha1 h (k := (v3 - (1 : Int32)).toNatClampNeg) rfl dX6_add_66 (fun hk16 h => ?_)
          refine lv_dload_n hx hb dX6_add_67 rfl (lv_at hl 3 rfl) ?_
          refine lv_aload_n hx hb dX6_add_68 rfl (lv_at hl 2 rfl) ?_
          refine X_g22_3 C0 hw (fun w h => (List.mem_cons_of_mem _ (List.mem_append_left _ (List.mem_append_right _ h)))) ha1 ((List.mem_cons_of_mem _ (List.mem_append_left _ (List.mem_append_left _ (List.mem_of_getElem? (i := 2) rfl))))) dX6_add_69 ?_
          refine lv_iload hx hb dX6_add_72 (lv_at hl 0 rfl) ?_
          refine lv_iconst (v := 1) hx hb dX6_add_74 (by decide) ?_
          refine lv_isub hx hb dX6_add_75 ?_
          refine X_iald C0 hw h (k := (v3 - (1 : Int32)).toNatClampNeg) rfl dX6_add_76 (fun h => ?_)
          refine lv_i2d hx hb dX6_add_77 ?_
          refine x_ddiv hx hb h dX6_add_78 (fun v17 h => ?_)
          obtain ⟨t18, hf19, h⟩ := bn_c h
          refine X_callV C0 hw (As := [.ref (E.2.2.1 (25) (6 * a1i + (v3 - (1 : Int32)).toNatClampNeg)), .double v17]) (rest := []) (mX6_addInRatio l E hL st hf19) (cwV 2 C0.1.2.2.2.2 gX6_add_X6_addInRatio rfl rfl rfl (by decide +kernel) ⟨Nat.le_of_ble_eq_true rfl, Nat.le_of_ble_eq_true rfl⟩) (X_recv_15 C0 hw (by decide)) rfl hl.1 rfl (Nat.le_of_ble_eq_true rfl) dX6_add_79 ⟨Nat.zero_le _, Nat.zero_le _⟩ (fun H locs hw => ?_)
          refine W.eq (g2 := F0 m 82 ls []) rfl ?_
          refine lv_goto (tgt := 137) hx hb dX6_add_82 (by decide) ?_
          cases h
          exact W.vret hx hb hr (X_fin C0 hw) hw.2.2.2 dX6_add_137 hlocks
      · have h := ifp h hc5
        refine lv_aload_n hx hb dX6_add_26 rfl (lv_at hl 1 rfl) ?_
        refine lv_aload_n hx hb dX6_add_27 rfl (lv_at hl 2 rfl) ?_
        refine X_g22_4 C0 hw (fun w h => (List.mem_cons_of_mem _ (List.mem_append_left _ (List.mem_append_right _ h)))) ha1 ((List.mem_cons_of_mem _ (List.mem_append_left _ (List.mem_append_left _ (List.mem_of_getElem? (i := 1) rfl))))) dX6_add_28 ?_
        refine lv_iconst (v := 0) hx hb dX6_add_31 (by decide) ?_
        refine X_aldL_24 C0 hw ha1 (vp_in_iff.mpr (by decide +kernel)) (k := 0) rfl dX6_add_32 (fun hk20 => ?_)
        refine lv_dload_n hx hb dX6_add_33 rfl (lv_at hl 3 rfl) ?_
        refine lv_aload_n hx hb dX6_add_34 rfl (lv_at hl 2 rfl) ?_
        refine X_g22_3 C0 hw (fun w h => (List.mem_cons_of_mem _ (List.mem_append_left _ (List.mem_append_right _ h)))) ha1 ((List.mem_cons_of_mem _ (List.mem_append_left _ (List.mem_append_left _ (List.mem_of_getElem? (i := 2) rfl))))) dX6_add_35 ?_
        refine lv_iconst (v := 0) hx hb dX6_add_38 (by decide) ?_
        refine X_iald C0 hw h (k := 0) rfl dX6_add_39 (fun h => ?_)
        refine lv_i2d hx hb dX6_add_40 ?_
        refine x_ddiv hx hb h dX6_add_41 (fun v21 h => ?_)
        obtain ⟨t22, hf23, h⟩ := bn_c h
        refine X_callV C0 hw (As := [.ref (E.2.2.1 (25) (6 * a1i + 0)), .double v21]) (rest := []) (mX6_addInRatio l E hL st hf23) (cwV 2 C0.1.2.2.2.2 gX6_add_X6_addInRatio rfl rfl rfl (by decide +kernel) ⟨Nat.le_of_ble_eq_true rfl, Nat.le_of_ble_eq_true rfl⟩) (X_recv_15 C0 hw (by decide)) rfl hl.1 rfl (Nat.le_of_ble_eq_true rfl) dX6_add_42 ⟨Nat.zero_le _, Nat.zero_le _⟩ (fun H locs hw => ?_)
        refine W.eq (g2 := F0 m 45 ls []) rfl ?_
        refine lv_goto (tgt := 137) hx hb dX6_add_45 (by decide) ?_
        cases h
        exact W.vret hx hb hr (X_fin C0 hw) hw.2.2.2 dX6_add_137 hlocks
    · have h := ifn h hc2
      cases h
      exact W.vret hx hb hr (X_fin C0 hw) hw.2.2.2 dX6_add_13 hlocks

def fX7_nearestRoot (a1 : Int64) (a2 : Int64) : Option Int64 :=
  ((lp (σ := (Int32 × Int64)) (ρ := (Int64 ⊕ Int64)) (un2 fun (v4 : Int32) (v5 : Int64) =>
     if (16 : Int32) ≤ v4 then (
      some (.inr (.inr v5))) else (
      lt1 ((a1 <<< ((52 : Int32).toInt64 &&& 63)) - (v5 * v5)) fun (v8 : Int64) =>
      if lg_cmp v8 v5 ≤ 0 then (
       if 0 < lg_cmp v8 (-v5) then (
        some (.inr (.inl v5))) else (
        lt1 (v5 - (1 : Int64)) fun (v11 : Int64) =>
        lt1 (v4 + Int32.ofInt (1)) fun (v12 : Int32) =>
        some (.inl (v12, v11)))) else (
       lt1 (v5 + (1 : Int64)) fun (v13 : Int64) =>
       lt1 (v4 + Int32.ofInt (1)) fun (v14 : Int32) =>
       some (.inl (v14, v13))))) 4000 ((0 : Int32), a2)).bind
   (sm (fun (q : Int64) => some q) (fun (v6 : Int64) =>
     some v6)))
set_option maxHeartbeats 4000000 in
set_option maxRecDepth 100000 in
theorem mX7_nearestRoot (l : Launch) (E : XE) (hL : LX E) (st : Sto) {a1 : Int64} {a2 : Int64} {r : Int64} (h : fX7_nearestRoot a1 a2 = some r) : Met l yX7_nearestRoot wsX7_nearestRoot ({ frames := 0, cells := 0, slots := 0, locals := 0 }) (va_Pc [.long a1, .long a2] (RX E st)) (QX E (some (.long r)) st) 0 0 E.2.2.2 := by
  refine Met.ofW (cc := cX7_nearestRoot) (maxL := 9) (ret := (some .long)) (by decide) rfl ?_
  intro p e s m args below meth c s₁ B hml hv
  obtain ⟨rfl, hP, hK⟩ := hv
  have hown : s.vm.findClass RX7 = some m.cls := findClass_of_methodNamed B.named
  have C0 : CX p m c cX7_nearestRoot 9 s _ wsX7_nearestRoot RX7 E := ⟨⟨B.exec, B.bytes, hml, hown, atoms_spec (ws := wsX7_nearestRoot) B.pre⟩, hK⟩
  have hx := B.exec
  have hb := B.bytes
  have hr := B.returns
  have hlocks := B.notSynchronized
  have hw : SX E s st s.heap [] := ⟨hP, va_S.rf⟩
  have hl := lv_entry ([.long a1, .long a2]) (n := 9) (Nat.le_of_ble_eq_true rfl)
  rw [lg_entry_eq]
  generalize (lg_sl ([.long a1, .long a2]) ++ List.replicate (9 - (lg_sl ([.long a1, .long a2])).length) Slot.unset).toArray = ls at hl ⊢
  have hl : lv_has ls 9 [(0, .long a1), (2, .long a2)] := hl
  unfold fX7_nearestRoot at h
  refine lv_lload_n hx hb dX7_nearestRoot_0 rfl (lv_at hl 1 rfl) ?_
  refine lv_lstore (lv' := [(4, .long a2), (0, .long a1), (2, .long a2)]) hx hb dX7_nearestRoot_1 hl (by decide) rfl (fun ls hl => ?_)
  refine lv_iconst (v := 0) hx hb dX7_nearestRoot_3 (by decide) ?_
  refine lv_istore (lv' := [(6, .int (0 : Int32)), (4, .long a2), (0, .long a1), (2, .long a2)]) hx hb dX7_nearestRoot_4 hl (by decide) rfl (fun ls hl => ?_)
  refine lp_ind (fun q : (Int32 × Int64) => ∀ (H : Heap) (locs : List Loc), SX E s st H locs → ∀ ls : Array Slot, lv_has ls 9 [(6, .int (q.1)), (4, .long (q.2)), (0, .long a1)] → W p l e (headSpec wsX7_nearestRoot ({ frames := 0, cells := 0, slots := 0, locals := 0 })).room s m ([.long a1, .long a2] : List Value).toArray below meth c H locs 0 0 (MQ below (QX E (some (.long r)) st) ([.long a1, .long a2] : List Value).toArray s 0 0 E.2.2.2) (F0 m 6 ls [])) (fun q o3 h hB2 hX1 => ?_) _ _ h _ _ hw _ (lv_sub hl [0, 1, 2] rfl)
  intro H locs hw ls hl
  obtain ⟨v4, v5⟩ := q
  have h := un2_d h
  have hl : lv_has ls 9 [(6, .int v4), (4, .long v5), (0, .long a1)] := hl
  refine lv_iload hx hb dX7_nearestRoot_6 (lv_at hl 0 rfl) ?_
  refine lv_bipush (v := 16) hx hb dX7_nearestRoot_8 (by decide) ?_
  refine lv_icmp_ge (tgt := 69) hx hb dX7_nearestRoot_10 (by decide) (fun hc7 => ?_) (fun hc7 => ?_)
  · have h := ifp h hc7
    have h := hX1 _ (Option.some.inj h).symm
    have h := sm_r h
    have hl := lv_sub hl (l' := [(4, .long v5)]) [1] rfl
    refine lv_lload hx hb dX7_nearestRoot_69 (lv_at hl 0 rfl) ?_
    cases h
    exact W.lret hx hb hr (X_fin C0 hw) hw.2.2.2 dX7_nearestRoot_71 hlocks
  · have h := ifn h hc7
    refine lv_lload_n hx hb dX7_nearestRoot_13 rfl (lv_at hl 2 rfl) ?_
    refine lv_bipush (v := 52) hx hb dX7_nearestRoot_14 (by decide) ?_
    refine lv_lshl hx hb dX7_nearestRoot_16 rfl ?_
    refine lv_lload hx hb dX7_nearestRoot_17 (lv_at hl 1 rfl) ?_
    refine lv_lload hx hb dX7_nearestRoot_19 (lv_at hl 1 rfl) ?_
    refine lv_lmul hx hb dX7_nearestRoot_21 ?_
    refine lv_lsub hx hb dX7_nearestRoot_22 ?_
    refine x_topl h (fun v8 h => ?_)
    refine lv_lstore (lv' := [(7, .long v8), (6, .int v4), (4, .long v5), (0, .long a1)]) hx hb dX7_nearestRoot_23 hl (by decide) rfl (fun ls hl => ?_)
    refine lv_lload hx hb dX7_nearestRoot_25 (lv_at hl 0 rfl) ?_
    refine lv_lload hx hb dX7_nearestRoot_27 (lv_at hl 2 rfl) ?_
    refine W.lcmp hx hb dX7_nearestRoot_29 ?_
    refine lv_if_le (tgt := 42) hx hb dX7_nearestRoot_30 (by decide) (fun hc9 => ?_) (fun hc9 => ?_)
    · have h := ifp h hc9
      refine lv_lload hx hb dX7_nearestRoot_42 (lv_at hl 0 rfl) ?_
      refine lv_lload hx hb dX7_nearestRoot_44 (lv_at hl 2 rfl) ?_
      refine lv_lneg hx hb dX7_nearestRoot_46 ?_
      refine W.lcmp hx hb dX7_nearestRoot_47 ?_
      refine lv_if_gt (tgt := 60) hx hb dX7_nearestRoot_48 (by decide) (fun hc10 => ?_) (fun hc10 => ?_)
      · have h := ifp h hc10
        refine lv_lload hx hb dX7_nearestRoot_60 (lv_at hl 2 rfl) ?_
        have h := hX1 _ (Option.some.inj h).symm
        have h := sm_l h
        cases h
        exact W.lret hx hb hr (X_fin C0 hw) hw.2.2.2 dX7_nearestRoot_62 hlocks
      · have h := ifn h hc10
        refine lv_lload hx hb dX7_nearestRoot_51 (lv_at hl 2 rfl) ?_
        refine lv_lconst (v := 1) hx hb dX7_nearestRoot_53 (by decide) ?_
        refine lv_lsub hx hb dX7_nearestRoot_54 ?_
        refine x_topl h (fun v11 h => ?_)
        refine lv_lstore (lv' := [(4, .long v11), (7, .long v8), (6, .int v4), (0, .long a1)]) hx hb dX7_nearestRoot_55 hl (by decide) rfl (fun ls hl => ?_)
        refine lv_goto (tgt := 63) hx hb dX7_nearestRoot_57 (by decide) ?_
        refine x_iinc hx hb h dX7_nearestRoot_63 hl (q := 2) rfl (fun v12 => [(6, .int v12), (4, .long v11), (7, .long v8), (0, .long a1)]) (by decide) (fun _ => rfl) (fun v12 ls hl h => ?_)
        refine lv_goto (tgt := 6) hx hb dX7_nearestRoot_66 (by decide) ?_
        exact hB2 _ (Option.some.inj h).symm _ _ hw _ (lv_sub hl [0, 1, 3] rfl)
    · have h := ifn h hc9
      refine lv_lload hx hb dX7_nearestRoot_33 (lv_at hl 2 rfl) ?_
      refine lv_lconst (v := 1) hx hb dX7_nearestRoot_35 (by decide) ?_
      refine lv_ladd hx hb dX7_nearestRoot_36 ?_
      refine x_topl h (fun v13 h => ?_)
      refine lv_lstore (lv' := [(4, .long v13), (7, .long v8), (6, .int v4), (0, .long a1)]) hx hb dX7_nearestRoot_37 hl (by decide) rfl (fun ls hl => ?_)
      refine lv_goto (tgt := 63) hx hb dX7_nearestRoot_39 (by decide) ?_
      refine x_iinc hx hb h dX7_nearestRoot_63 hl (q := 2) rfl (fun v14 => [(6, .int v14), (4, .long v13), (7, .long v8), (0, .long a1)]) (by decide) (fun _ => rfl) (fun v14 ls hl h => ?_)
      refine lv_goto (tgt := 6) hx hb dX7_nearestRoot_66 (by decide) ?_
      exact hB2 _ (Option.some.inj h).symm _ _ hw _ (lv_sub hl [0, 1, 3] rfl)

def fX7_rootOf (a1 : UInt64) : Option UInt64 :=
  if 0 < Op.cmpValue (FP.dcmp a1 FP.dconst0) CmpOp.l then (
   ((lp (σ := (Int32 × UInt64 × UInt64)) (ρ := (UInt64 × UInt64)) (un3 fun (v5 : Int32) (v6 : UInt64) (v7 : UInt64) =>
      if (1100 : Int32) ≤ v5 then (
       some (.inr (v7, v6))) else (
       if Op.cmpValue (FP.dcmp v7 (4616189618054758400 : UInt64)) CmpOp.l < 0 then (
        some (.inr (v7, v6))) else (
        nd (FP.dmul v7 (4598175219545276416 : UInt64)) fun (v56 : UInt64) =>
        nd (FP.dmul v6 (4611686018427387904 : UInt64)) fun (v57 : UInt64) =>
        lt1 (v5 + Int32.ofInt (1)) fun (v58 : Int32) =>
        some (.inl (v58, v57, v56))))) 4000 ((0 : Int32), FP.dconst1, a1)).bind
    (un2 fun (v8 : UInt64) (v9 : UInt64) =>
     ((lp (σ := (Int32 × UInt64 × UInt64)) (ρ := (UInt64 × UInt64)) (un3 fun (v16 : Int32) (v17 : UInt64) (v18 : UInt64) =>
        if (1100 : Int32) ≤ v16 then (
         some (.inr (v17, v18))) else (
         if 0 ≤ Op.cmpValue (FP.dcmp v17 FP.dconst1) CmpOp.g then (
          some (.inr (v17, v18))) else (
          nd (FP.dmul v17 (4616189618054758400 : UInt64)) fun (v51 : UInt64) =>
          nd (FP.dmul v18 (4602678819172646912 : UInt64)) fun (v52 : UInt64) =>
          lt1 (v16 + Int32.ofInt (1)) fun (v53 : Int32) =>
          some (.inl (v53, v51, v52))))) 4000 ((0 : Int32), v8, v9)).bind
      (un2 fun (v19 : UInt64) (v20 : UInt64) =>
       nd (FP.dmul v19 (4599616371426034975 : UInt64)) fun (v24 : UInt64) =>
       nd (FP.dadd (4604390187031047700 : UInt64) v24) fun (v25 : UInt64) =>
       ((lp (σ := (Int32 × UInt64)) (ρ := UInt64) (un2 fun (v29 : Int32) (v30 : UInt64) =>
          if (4 : Int32) ≤ v29 then (
           some (.inr v30)) else (
           nd (FP.ddiv v19 v30) fun (v39 : UInt64) =>
           nd (FP.dadd v30 v39) fun (v40 : UInt64) =>
           nd (FP.dmul v40 (4602678819172646912 : UInt64)) fun (v41 : UInt64) =>
           lt1 (v29 + Int32.ofInt (1)) fun (v42 : Int32) =>
           some (.inl (v42, v41)))) 4000 ((0 : Int32), v25)).bind
        (fun (v31 : UInt64) =>
         nd (FP.dmul v19 (4841369599423283200 : UInt64)) fun (v43 : UInt64) =>
         nd (FP.dmul v31 (4841369599423283200 : UInt64)) fun (v44 : UInt64) =>
         (fX7_nearestRoot (FP.d2l v43) (FP.d2l v44)).bind (fun (v45 : Int64) =>
          nd (FP.ddiv (FP.l2d v45) (4841369599423283200 : UInt64)) fun (v47 : UInt64) =>
          nd (FP.dmul v47 v20) fun (v48 : UInt64) =>
          some v48)))))))) else (
   some FP.dconst0)
set_option maxHeartbeats 4000000 in
set_option maxRecDepth 100000 in
theorem mX7_rootOf (l : Launch) (E : XE) (hL : LX E) (st : Sto) {a1 : UInt64} {r : UInt64} (h : fX7_rootOf a1 = some r) : Met l yX7_rootOf wsX7_rootOf ({ frames := 1, cells := 0, slots := 0, locals := 28 }) (va_Pc [.double a1] (RX E st)) (QX E (some (.double r)) st) 0 0 E.2.2.2 := by
  refine Met.ofW (cc := cX7_rootOf) (maxL := 10) (ret := (some .double)) (by decide) rfl ?_
  intro p e s m args below meth c s₁ B hml hv
  obtain ⟨rfl, hP, hK⟩ := hv
  have hown : s.vm.findClass RX7 = some m.cls := findClass_of_methodNamed B.named
  have C0 : CX p m c cX7_rootOf 10 s _ wsX7_rootOf RX7 E := ⟨⟨B.exec, B.bytes, hml, hown, atoms_spec (ws := wsX7_rootOf) B.pre⟩, hK⟩
  have hx := B.exec
  have hb := B.bytes
  have hr := B.returns
  have hlocks := B.notSynchronized
  have hw : SX E s st s.heap [] := ⟨hP, va_S.rf⟩
  have hl := lv_entry ([.double a1]) (n := 10) (Nat.le_of_ble_eq_true rfl)
  rw [lg_entry_eq]
  generalize (lg_sl ([.double a1]) ++ List.replicate (10 - (lg_sl ([.double a1])).length) Slot.unset).toArray = ls at hl ⊢
  have hl : lv_has ls 10 [(0, .double a1)] := hl
  unfold fX7_rootOf at h
  refine lv_dload_n hx hb dX7_rootOf_0 rfl (lv_at hl 0 rfl) ?_
  refine lv_dconst0 hx hb dX7_rootOf_1 ?_
  refine lv_dcmp hx hb dX7_rootOf_2 ?_
  refine lv_if_gt (tgt := 8) hx hb dX7_rootOf_3 (by decide) (fun hc1 => ?_) (fun hc1 => ?_)
  · have h := ifp h hc1
    refine lv_dload_n hx hb dX7_rootOf_8 rfl (lv_at hl 0 rfl) ?_
    refine lv_dstore_n (lv' := [(2, .double a1), (0, .double a1)]) hx hb dX7_rootOf_9 rfl hl (by decide) rfl (fun ls hl => ?_)
    refine lv_dconst1 hx hb dX7_rootOf_10 ?_
    refine lv_dstore (lv' := [(4, .double FP.dconst1), (2, .double a1), (0, .double a1)]) hx hb dX7_rootOf_11 hl (by decide) rfl (fun ls hl => ?_)
    refine lv_iconst (v := 0) hx hb dX7_rootOf_13 (by decide) ?_
    refine lv_istore (lv' := [(6, .int (0 : Int32)), (4, .double FP.dconst1), (2, .double a1), (0, .double a1)]) hx hb dX7_rootOf_14 hl (by decide) rfl (fun ls hl => ?_)
    refine bn_K h (fun K10 hK11 h => ?_)
    have HX12 : ∀ (v8 : UInt64) (v9 : UInt64), K10 (v8, v9) = some r → ∀ (H : Heap) (locs : List Loc), SX E s st H locs → ∀ ls : Array Slot, lv_has ls 10 [(2, .double v8), (4, .double v9)] → W p l e (headSpec wsX7_rootOf ({ frames := 1, cells := 0, slots := 0, locals := 28 })).room s m ([.double a1] : List Value).toArray below meth c H locs 0 0 (MQ below (QX E (some (.double r)) st) ([.double a1] : List Value).toArray s 0 0 E.2.2.2) (F0 m 52 ls []) := by
      intro v8 v9 h H locs hw ls hl
      have h := kk1 h hK11
      have h := un2_d h
      refine lv_iconst (v := 0) hx hb dX7_rootOf_52 (by decide) ?_
      refine lv_istore (lv' := [(6, .int (0 : Int32)), (2, .double v8), (4, .double v9)]) hx hb dX7_rootOf_53 hl (by decide) rfl (fun ls hl => ?_)
      refine bn_K h (fun K21 hK22 h => ?_)
      have HX23 : ∀ (v19 : UInt64) (v20 : UInt64), K21 (v19, v20) = some r → ∀ (H : Heap) (locs : List Loc), SX E s st H locs → ∀ ls : Array Slot, lv_has ls 10 [(2, .double v19), (4, .double v20)] → W p l e (headSpec wsX7_rootOf ({ frames := 1, cells := 0, slots := 0, locals := 28 })).room s m ([.double a1] : List Value).toArray below meth c H locs 0 0 (MQ below (QX E (some (.double r)) st) ([.double a1] : List Value).toArray s 0 0 E.2.2.2) (F0 m 89 ls []) := by
        intro v19 v20 h H locs hw ls hl
        have h := kk1 h hK22
        have h := un2_d h
        refine lv_ldc2d hx hb hown (C0.1.2.2.2.2 _ (List.mem_cons_of_mem _ (List.mem_of_getElem? (i := 4) rfl))) dX7_rootOf_89 ?_
        refine lv_dload_n hx hb dX7_rootOf_92 rfl (lv_at hl 0 rfl) ?_
        refine lv_ldc2d hx hb hown (C0.1.2.2.2.2 _ (List.mem_cons_of_mem _ (List.mem_of_getElem? (i := 5) rfl))) dX7_rootOf_93 ?_
        refine x_dmul hx hb h dX7_rootOf_96 (fun v24 h => ?_)
        refine x_dadd hx hb h dX7_rootOf_97 (fun v25 h => ?_)
        refine lv_dstore (lv' := [(6, .double v25), (2, .double v19), (4, .double v20)]) hx hb dX7_rootOf_98 hl (by decide) rfl (fun ls hl => ?_)
        refine lv_iconst (v := 0) hx hb dX7_rootOf_100 (by decide) ?_
        refine lv_istore (lv' := [(8, .int (0 : Int32)), (6, .double v25), (2, .double v19), (4, .double v20)]) hx hb dX7_rootOf_101 hl (by decide) rfl (fun ls hl => ?_)
        refine lp_ind (fun q : (Int32 × UInt64) => ∀ (H : Heap) (locs : List Loc), SX E s st H locs → ∀ ls : Array Slot, lv_has ls 10 [(8, .int (q.1)), (6, .double (q.2)), (2, .double v19), (4, .double v20)] → W p l e (headSpec wsX7_rootOf ({ frames := 1, cells := 0, slots := 0, locals := 28 })).room s m ([.double a1] : List Value).toArray below meth c H locs 0 0 (MQ below (QX E (some (.double r)) st) ([.double a1] : List Value).toArray s 0 0 E.2.2.2) (F0 m 103 ls [])) (fun q o28 h hB27 hX26 => ?_) _ _ h _ _ hw _ (lv_sub hl [0, 1, 2, 3] rfl)
        intro H locs hw ls hl
        obtain ⟨v29, v30⟩ := q
        have h := un2_d h
        have hl : lv_has ls 10 [(8, .int v29), (6, .double v30), (2, .double v19), (4, .double v20)] := hl
        refine lv_iload hx hb dX7_rootOf_103 (lv_at hl 0 rfl) ?_
        refine lv_iconst (v := 4) hx hb dX7_rootOf_105 (by decide) ?_
        refine lv_icmp_ge (tgt := 128) hx hb dX7_rootOf_106 (by decide) (fun hc32 => ?_) (fun hc32 => ?_)
        · have h := ifp h hc32
          have h := hX26 _ (Option.some.inj h).symm
          have hl := lv_sub hl (l' := [(2, .double v19), (4, .double v20), (6, .double v30)]) [2, 3, 1] rfl
          refine lv_dload_n hx hb dX7_rootOf_128 rfl (lv_at hl 0 rfl) ?_
          refine lv_ldc2d hx hb hown (C0.1.2.2.2.2 _ (List.mem_cons_of_mem _ (List.mem_of_getElem? (i := 6) rfl))) dX7_rootOf_129 ?_
          refine x_dmul hx hb h dX7_rootOf_132 (fun v33 h => ?_)
          refine lv_d2l hx hb dX7_rootOf_133 ?_
          refine lv_dload hx hb dX7_rootOf_134 (lv_at hl 2 rfl) ?_
          refine lv_ldc2d hx hb hown (C0.1.2.2.2.2 _ (List.mem_cons_of_mem _ (List.mem_of_getElem? (i := 6) rfl))) dX7_rootOf_136 ?_
          refine x_dmul hx hb h dX7_rootOf_139 (fun v34 h => ?_)
          refine lv_d2l hx hb dX7_rootOf_140 ?_
          obtain ⟨v35, hf36, h⟩ := bn_c h
          refine X_callS C0 hw (As := [.long (FP.d2l v33), .long (FP.d2l v34)]) (rest := []) (mX7_nearestRoot l E hL st hf36) (va_cwS 2 C0.1.2.2.2.2 gX7_rootOf_X7_nearestRoot rfl rfl rfl (by decide +kernel) ⟨Nat.le_of_ble_eq_true rfl, Nat.le_of_ble_eq_true rfl⟩) rfl hl.1 rfl (Nat.le_of_ble_eq_true rfl) dX7_rootOf_141 ⟨Nat.zero_le _, Nat.zero_le _⟩ (fun H locs hw => ?_)
          refine W.eq (g2 := F0 m 144 ls [.long v35]) rfl ?_
          refine lv_lstore (lv' := [(8, .long v35), (2, .double v19), (4, .double v20), (6, .double v30)]) hx hb dX7_rootOf_144 hl (by decide) rfl (fun ls hl => ?_)
          refine lv_lload hx hb dX7_rootOf_146 (lv_at hl 0 rfl) ?_
          refine lv_l2d hx hb dX7_rootOf_148 ?_
          refine lv_ldc2d hx hb hown (C0.1.2.2.2.2 _ (List.mem_cons_of_mem _ (List.mem_of_getElem? (i := 6) rfl))) dX7_rootOf_149 ?_
          refine x_ddiv hx hb h dX7_rootOf_152 (fun v37 h => ?_)
          refine lv_dload hx hb dX7_rootOf_153 (lv_at hl 2 rfl) ?_
          refine x_dmul hx hb h dX7_rootOf_155 (fun v38 h => ?_)
          cases h
          exact W.dret hx hb hr (X_fin C0 hw) hw.2.2.2 dX7_rootOf_156 hlocks
        · have h := ifn h hc32
          refine lv_dload hx hb dX7_rootOf_109 (lv_at hl 1 rfl) ?_
          refine lv_dload_n hx hb dX7_rootOf_111 rfl (lv_at hl 2 rfl) ?_
          refine lv_dload hx hb dX7_rootOf_112 (lv_at hl 1 rfl) ?_
          refine x_ddiv hx hb h dX7_rootOf_114 (fun v39 h => ?_)
          refine x_dadd hx hb h dX7_rootOf_115 (fun v40 h => ?_)
          refine lv_ldc2d hx hb hown (C0.1.2.2.2.2 _ (List.mem_cons_of_mem _ (List.mem_of_getElem? (i := 3) rfl))) dX7_rootOf_116 ?_
          refine x_dmul hx hb h dX7_rootOf_119 (fun v41 h => ?_)
          refine lv_dstore (lv' := [(6, .double v41), (8, .int v29), (2, .double v19), (4, .double v20)]) hx hb dX7_rootOf_120 hl (by decide) rfl (fun ls hl => ?_)
          refine x_iinc hx hb h dX7_rootOf_122 hl (q := 1) rfl (fun v42 => [(8, .int v42), (6, .double v41), (2, .double v19), (4, .double v20)]) (by decide) (fun _ => rfl) (fun v42 ls hl h => ?_)
          refine lv_goto (tgt := 103) hx hb dX7_rootOf_125 (by decide) ?_
          exact hB27 _ (Option.some.inj h).symm _ _ hw _ (lv_sub hl [0, 1, 2, 3] rfl)
      refine lp_ind (fun q : (Int32 × UInt64 × UInt64) => ∀ (H : Heap) (locs : List Loc), SX E s st H locs → ∀ ls : Array Slot, lv_has ls 10 [(6, .int (q.1)), (2, .double (q.2.1)), (4, .double (q.2.2))] → W p l e (headSpec wsX7_rootOf ({ frames := 1, cells := 0, slots := 0, locals := 28 })).room s m ([.double a1] : List Value).toArray below meth c H locs 0 0 (MQ below (QX E (some (.double r)) st) ([.double a1] : List Value).toArray s 0 0 E.2.2.2) (F0 m 55 ls [])) (fun q o15 h hB14 hX13 => ?_) _ _ h _ _ hw _ (lv_sub hl [0, 1, 2] rfl)
      intro H locs hw ls hl
      obtain ⟨v16, v17, v18⟩ := q
      have h := un3_d h
      have hl : lv_has ls 10 [(6, .int v16), (2, .double v17), (4, .double v18)] := hl
      refine lv_iload hx hb dX7_rootOf_55 (lv_at hl 0 rfl) ?_
      refine lv_sipush (v := 1100) hx hb dX7_rootOf_57 (by decide) ?_
      refine lv_icmp_ge (tgt := 89) hx hb dX7_rootOf_60 (by decide) (fun hc49 => ?_) (fun hc49 => ?_)
      · have h := ifp h hc49
        have h := hX13 _ (Option.some.inj h).symm
        exact HX23 _ _ h _ _ hw _ (lv_sub hl [1, 2] rfl)
      · have h := ifn h hc49
        refine lv_dload_n hx hb dX7_rootOf_63 rfl (lv_at hl 1 rfl) ?_
        refine lv_dconst1 hx hb dX7_rootOf_64 ?_
        refine lv_dcmp hx hb dX7_rootOf_65 ?_
        refine lv_if_ge (tgt := 89) hx hb dX7_rootOf_66 (by decide) (fun hc50 => ?_) (fun hc50 => ?_)
        · have h := ifp h hc50
          have h := hX13 _ (Option.some.inj h).symm
          exact HX23 _ _ h _ _ hw _ (lv_sub hl [1, 2] rfl)
        · have h := ifn h hc50
          refine lv_dload_n hx hb dX7_rootOf_69 rfl (lv_at hl 1 rfl) ?_
          refine lv_ldc2d hx hb hown (C0.1.2.2.2.2 _ (List.mem_cons_of_mem _ (List.mem_of_getElem? (i := 0) rfl))) dX7_rootOf_70 ?_
          refine x_dmul hx hb h dX7_rootOf_73 (fun v51 h => ?_)
          refine lv_dstore_n (lv' := [(2, .double v51), (6, .int v16), (4, .double v18)]) hx hb dX7_rootOf_74 rfl hl (by decide) rfl (fun ls hl => ?_)
          refine lv_dload hx hb dX7_rootOf_75 (lv_at hl 2 rfl) ?_
          refine lv_ldc2d hx hb hown (C0.1.2.2.2.2 _ (List.mem_cons_of_mem _ (List.mem_of_getElem? (i := 3) rfl))) dX7_rootOf_77 ?_
          refine x_dmul hx hb h dX7_rootOf_80 (fun v52 h => ?_)
          refine lv_dstore (lv' := [(4, .double v52), (2, .double v51), (6, .int v16)]) hx hb dX7_rootOf_81 hl (by decide) rfl (fun ls hl => ?_)
          refine x_iinc hx hb h dX7_rootOf_83 hl (q := 2) rfl (fun v53 => [(6, .int v53), (4, .double v52), (2, .double v51)]) (by decide) (fun _ => rfl) (fun v53 ls hl h => ?_)
          refine lv_goto (tgt := 55) hx hb dX7_rootOf_86 (by decide) ?_
          exact hB14 _ (Option.some.inj h).symm _ _ hw _ (lv_sub hl [0, 2, 1] rfl)
    refine lp_ind (fun q : (Int32 × UInt64 × UInt64) => ∀ (H : Heap) (locs : List Loc), SX E s st H locs → ∀ ls : Array Slot, lv_has ls 10 [(6, .int (q.1)), (4, .double (q.2.1)), (2, .double (q.2.2))] → W p l e (headSpec wsX7_rootOf ({ frames := 1, cells := 0, slots := 0, locals := 28 })).room s m ([.double a1] : List Value).toArray below meth c H locs 0 0 (MQ below (QX E (some (.double r)) st) ([.double a1] : List Value).toArray s 0 0 E.2.2.2) (F0 m 16 ls [])) (fun q o4 h hB3 hX2 => ?_) _ _ h _ _ hw _ (lv_sub hl [0, 1, 2] rfl)
    intro H locs hw ls hl
    obtain ⟨v5, v6, v7⟩ := q
    have h := un3_d h
    have hl : lv_has ls 10 [(6, .int v5), (4, .double v6), (2, .double v7)] := hl
    refine lv_iload hx hb dX7_rootOf_16 (lv_at hl 0 rfl) ?_
    refine lv_sipush (v := 1100) hx hb dX7_rootOf_18 (by decide) ?_
    refine lv_icmp_ge (tgt := 52) hx hb dX7_rootOf_21 (by decide) (fun hc54 => ?_) (fun hc54 => ?_)
    · have h := ifp h hc54
      have h := hX2 _ (Option.some.inj h).symm
      exact HX12 _ _ h _ _ hw _ (lv_sub hl [2, 1] rfl)
    · have h := ifn h hc54
      refine lv_dload_n hx hb dX7_rootOf_24 rfl (lv_at hl 2 rfl) ?_
      refine lv_ldc2d hx hb hown (C0.1.2.2.2.2 _ (List.mem_cons_of_mem _ (List.mem_of_getElem? (i := 0) rfl))) dX7_rootOf_25 ?_
      refine lv_dcmp hx hb dX7_rootOf_28 ?_
      refine lv_if_lt (tgt := 52) hx hb dX7_rootOf_29 (by decide) (fun hc55 => ?_) (fun hc55 => ?_)
      · have h := ifp h hc55
        have h := hX2 _ (Option.some.inj h).symm
        exact HX12 _ _ h _ _ hw _ (lv_sub hl [2, 1] rfl)
      · have h := ifn h hc55
        refine lv_dload_n hx hb dX7_rootOf_32 rfl (lv_at hl 2 rfl) ?_
        refine lv_ldc2d hx hb hown (C0.1.2.2.2.2 _ (List.mem_cons_of_mem _ (List.mem_of_getElem? (i := 1) rfl))) dX7_rootOf_33 ?_
        refine x_dmul hx hb h dX7_rootOf_36 (fun v56 h => ?_)
        refine lv_dstore_n (lv' := [(2, .double v56), (6, .int v5), (4, .double v6)]) hx hb dX7_rootOf_37 rfl hl (by decide) rfl (fun ls hl => ?_)
        refine lv_dload hx hb dX7_rootOf_38 (lv_at hl 2 rfl) ?_
        refine lv_ldc2d hx hb hown (C0.1.2.2.2.2 _ (List.mem_cons_of_mem _ (List.mem_of_getElem? (i := 2) rfl))) dX7_rootOf_40 ?_
        refine x_dmul hx hb h dX7_rootOf_43 (fun v57 h => ?_)
        refine lv_dstore (lv' := [(4, .double v57), (2, .double v56), (6, .int v5)]) hx hb dX7_rootOf_44 hl (by decide) rfl (fun ls hl => ?_)
        refine x_iinc hx hb h dX7_rootOf_46 hl (q := 2) rfl (fun v58 => [(6, .int v58), (4, .double v57), (2, .double v56)]) (by decide) (fun _ => rfl) (fun v58 ls hl h => ?_)
        refine lv_goto (tgt := 16) hx hb dX7_rootOf_49 (by decide) ?_
        exact hB3 _ (Option.some.inj h).symm _ _ hw _ (lv_sub hl [0, 1, 2] rfl)
  · have h := ifn h hc1
    refine lv_dconst0 hx hb dX7_rootOf_6 ?_
    cases h
    exact W.dret hx hb hr (X_fin C0 hw) hw.2.2.2 dX7_rootOf_7 hlocks

def fX6_result (st : Sto) : Option ((Nat × Nat) × Sto) :=
  ((lp (σ := (Int32 × Sto)) (ρ := Sto) (un2 fun (v4 : Int32) (t5 : Sto) =>
     if (16 : Int32) ≤ v4 then (
      some (.inr t5)) else (
      ck (0 ≤ v4.toInt ∧ v4.toInt < (lDX (43) (0) : Int)) (
       lt1 (gD t5 (43) (0) (v4.toNatClampNeg)) fun (v8 : UInt64) =>
       nd (FP.dadd FP.dconst1 v8) fun (v9 : UInt64) =>
       nd (FP.dmul v8 v8) fun (v10 : UInt64) =>
       nd (FP.dmul (4611686018427387904 : UInt64) v8) fun (v11 : UInt64) =>
       nd (FP.dadd v10 v11) fun (v12 : UInt64) =>
       (fX7_rootOf v12).bind (fun (v13 : UInt64) =>
        nd (FP.dsub v9 v13) fun (v15 : UInt64) =>
        if 0 ≤ Op.cmpValue (FP.dcmp v15 FP.dconst0) CmpOp.g then (
         nf (FP.d2f v15) fun (v17 : UInt32) =>
         ck (0 ≤ v4.toInt ∧ v4.toInt < (lFX (44) (0) : Int)) (lt1 (sF t5 (44) (0) (v4.toNatClampNeg) v17) fun (t18 : Sto) =>
          lt1 (v4 + Int32.ofInt (1)) fun (v19 : Int32) =>
          some (.inl (v19, t18)))) else (
         nf (FP.d2f FP.dconst0) fun (v20 : UInt32) =>
         ck (0 ≤ v4.toInt ∧ v4.toInt < (lFX (44) (0) : Int)) (lt1 (sF t5 (44) (0) (v4.toNatClampNeg) v20) fun (t21 : Sto) =>
          lt1 (v4 + Int32.ofInt (1)) fun (v22 : Int32) =>
          some (.inl (v22, t21)))))))) 4000 ((0 : Int32), st)).bind
   (fun (t6 : Sto) =>
    some ((44, 0), t6)))
set_option maxHeartbeats 4000000 in
set_option maxRecDepth 100000 in
theorem mX6_result (l : Launch) (E : XE) (hL : LX E) (st : Sto) {r : (Nat × Nat)} {st1 : Sto} (h : fX6_result st = some (r, st1)) : Met l yX6_result wsX6_result ({ frames := 2, cells := 0, slots := 0, locals := 57 }) (va_Pc [.ref (E.2.2.1 15 (0))] (RX E st)) (QX E (some (.ref (E.2.2.1 r.1 r.2))) st1) 0 0 E.2.2.2 := by
  refine Met.ofW (cc := cX6_result) (maxL := 6) (ret := (some (.array .float))) (by decide) rfl ?_
  intro p e s m args below meth c s₁ B hml hv
  obtain ⟨rfl, hP, hK⟩ := hv
  have hown : s.vm.findClass RX6 = some m.cls := findClass_of_methodNamed B.named
  have C0 : CX p m c cX6_result 6 s _ wsX6_result RX6 E := ⟨⟨B.exec, B.bytes, hml, hown, atoms_spec (ws := wsX6_result) B.pre⟩, hK⟩
  have hx := B.exec
  have hb := B.bytes
  have hr := B.returns
  have hlocks := B.notSynchronized
  have hw : SX E s st s.heap [] := ⟨hP, va_S.rf⟩
  have hl := lv_entry ([.ref (E.2.2.1 15 (0))]) (n := 6) (Nat.le_of_ble_eq_true rfl)
  rw [lg_entry_eq]
  generalize (lg_sl ([.ref (E.2.2.1 15 (0))]) ++ List.replicate (6 - (lg_sl ([.ref (E.2.2.1 15 (0))])).length) Slot.unset).toArray = ls at hl ⊢
  have hl : lv_has ls 6 [(0, .ref (E.2.2.1 15 (0)))] := hl
  unfold fX6_result at h
  refine lv_iconst (v := 0) hx hb dX6_result_0 (by decide) ?_
  refine lv_istore_n (lv' := [(1, .int (0 : Int32)), (0, .ref (E.2.2.1 15 (0)))]) hx hb dX6_result_1 rfl hl (by decide) rfl (fun ls hl => ?_)
  refine lp_ind (fun q : (Int32 × Sto) => ∀ (H : Heap) (locs : List Loc), SX E s (q.2) H locs → ∀ ls : Array Slot, lv_has ls 6 [(1, .int (q.1)), (0, .ref (E.2.2.1 15 (0)))] → W p l e (headSpec wsX6_result ({ frames := 2, cells := 0, slots := 0, locals := 57 })).room s m ([.ref (E.2.2.1 15 (0))] : List Value).toArray below meth c H locs 0 0 (MQ below (QX E (some (.ref (E.2.2.1 r.1 r.2))) st1) ([.ref (E.2.2.1 15 (0))] : List Value).toArray s 0 0 E.2.2.2) (F0 m 2 ls [])) (fun q o3 h hB2 hX1 => ?_) _ _ h _ _ hw _ (lv_sub hl [0, 1] rfl)
  intro H locs hw ls hl
  obtain ⟨v4, t5⟩ := q
  have h := un2_d h
  have hw : SX E s t5 H locs := hw
  have hl : lv_has ls 6 [(1, .int v4), (0, .ref (E.2.2.1 15 (0)))] := hl
  refine lv_iload_n hx hb dX6_result_2 rfl (lv_at hl 0 rfl) ?_
  refine lv_bipush (v := 16) hx hb dX6_result_3 (by decide) ?_
  refine lv_icmp_ge (tgt := 59) hx hb dX6_result_5 (by decide) (fun hc7 => ?_) (fun hc7 => ?_)
  · have h := ifp h hc7
    have h := hX1 _ (Option.some.inj h).symm
    have hl := lv_sub hl (l' := [(0, .ref (E.2.2.1 15 (0)))]) [1] rfl
    refine lv_aload_n hx hb dX6_result_59 rfl (lv_at hl 0 rfl) ?_
    refine X_g15_1 C0 hw (fun w h => (List.mem_cons_of_mem _ (List.mem_append_right _ h))) (by decide) ((List.mem_cons_of_mem _ (List.mem_append_left _ (List.mem_of_getElem? (i := 2) rfl)))) dX6_result_60 ?_
    cases h
    exact W.aret hx hb hr (Or.inr ⟨_, rfl⟩) (Or.inr ⟨_, rfl⟩) (X_fin C0 hw) hw.2.2.2 dX6_result_63 hlocks
  · have h := ifn h hc7
    refine lv_aload_n hx hb dX6_result_8 rfl (lv_at hl 1 rfl) ?_
    refine X_g15_0 C0 hw (fun w h => (List.mem_cons_of_mem _ (List.mem_append_right _ h))) (by decide) ((List.mem_cons_of_mem _ (List.mem_append_left _ (List.mem_of_getElem? (i := 0) rfl)))) dX6_result_9 ?_
    refine lv_iload_n hx hb dX6_result_12 rfl (lv_at hl 0 rfl) ?_
    refine X_dald C0 hw h (k := v4.toNatClampNeg) rfl dX6_result_13 (fun h => ?_)
    refine x_topd h (fun v8 h => ?_)
    refine lv_dstore_n (lv' := [(2, .double v8), (1, .int v4), (0, .ref (E.2.2.1 15 (0)))]) hx hb dX6_result_14 rfl hl (by decide) rfl (fun ls hl => ?_)
    refine lv_dconst1 hx hb dX6_result_15 ?_
    refine lv_dload_n hx hb dX6_result_16 rfl (lv_at hl 0 rfl) ?_
    refine x_dadd hx hb h dX6_result_17 (fun v9 h => ?_)
    refine lv_dload_n hx hb dX6_result_18 rfl (lv_at hl 0 rfl) ?_
    refine lv_dload_n hx hb dX6_result_19 rfl (lv_at hl 0 rfl) ?_
    refine x_dmul hx hb h dX6_result_20 (fun v10 h => ?_)
    refine lv_ldc2d hx hb hown (C0.1.2.2.2.2 _ (List.mem_cons_of_mem _ (List.mem_append_left _ (List.mem_of_getElem? (i := 1) rfl)))) dX6_result_21 ?_
    refine lv_dload_n hx hb dX6_result_24 rfl (lv_at hl 0 rfl) ?_
    refine x_dmul hx hb h dX6_result_25 (fun v11 h => ?_)
    refine x_dadd hx hb h dX6_result_26 (fun v12 h => ?_)
    obtain ⟨v13, hf14, h⟩ := bn_c h
    refine X_callS C0 hw (As := [.double v12]) (rest := [.double v9]) (mX7_rootOf l E hL t5 hf14) (va_cwS 1 C0.1.2.2.2.2 gX6_result_X7_rootOf rfl rfl rfl (by decide +kernel) ⟨Nat.le_of_ble_eq_true rfl, Nat.le_of_ble_eq_true rfl⟩) rfl hl.1 rfl (Nat.le_of_ble_eq_true rfl) dX6_result_27 ⟨Nat.zero_le _, Nat.zero_le _⟩ (fun H locs hw => ?_)
    refine W.eq (g2 := F0 m 30 ls [.double v13, .double v9]) rfl ?_
    refine x_dsub hx hb h dX6_result_30 (fun v15 h => ?_)
    refine lv_dstore (lv' := [(4, .double v15), (2, .double v8), (1, .int v4), (0, .ref (E.2.2.1 15 (0)))]) hx hb dX6_result_31 hl (by decide) rfl (fun ls hl => ?_)
    refine lv_aload_n hx hb dX6_result_33 rfl (lv_at hl 3 rfl) ?_
    refine X_g15_1 C0 hw (fun w h => (List.mem_cons_of_mem _ (List.mem_append_right _ h))) (by decide) ((List.mem_cons_of_mem _ (List.mem_append_left _ (List.mem_of_getElem? (i := 2) rfl)))) dX6_result_34 ?_
    refine lv_iload_n hx hb dX6_result_37 rfl (lv_at hl 2 rfl) ?_
    refine lv_dload hx hb dX6_result_38 (lv_at hl 0 rfl) ?_
    refine lv_dconst0 hx hb dX6_result_40 ?_
    refine lv_dcmp hx hb dX6_result_41 ?_
    refine lv_if_ge (tgt := 49) hx hb dX6_result_42 (by decide) (fun hc16 => ?_) (fun hc16 => ?_)
    · have h := ifp h hc16
      refine lv_dload hx hb dX6_result_49 (lv_at hl 0 rfl) ?_
      refine x_d2f hx hb h dX6_result_51 (fun v17 h => ?_)
      refine X_fast hL C0 hw h (k := v4.toNatClampNeg) rfl dX6_result_52 (fun t18 H locs hw h => ?_)
      refine x_iinc hx hb h dX6_result_53 hl (q := 2) rfl (fun v19 => [(1, .int v19), (4, .double v15), (2, .double v8), (0, .ref (E.2.2.1 15 (0)))]) (by decide) (fun _ => rfl) (fun v19 ls hl h => ?_)
      refine lv_goto (tgt := 2) hx hb dX6_result_56 (by decide) ?_
      exact hB2 _ (Option.some.inj h).symm _ _ hw _ (lv_sub hl [0, 3] rfl)
    · have h := ifn h hc16
      refine lv_dconst0 hx hb dX6_result_45 ?_
      refine lv_goto (tgt := 51) hx hb dX6_result_46 (by decide) ?_
      refine x_d2f hx hb h dX6_result_51 (fun v20 h => ?_)
      refine X_fast hL C0 hw h (k := v4.toNatClampNeg) rfl dX6_result_52 (fun t21 H locs hw h => ?_)
      refine x_iinc hx hb h dX6_result_53 hl (q := 2) rfl (fun v22 => [(1, .int v22), (4, .double v15), (2, .double v8), (0, .ref (E.2.2.1 15 (0)))]) (by decide) (fun _ => rfl) (fun v22 ls hl h => ?_)
      refine lv_goto (tgt := 2) hx hb dX6_result_56 (by decide) ?_
      exact hB2 _ (Option.some.inj h).symm _ _ hw _ (lv_sub hl [0, 3] rfl)

def fX7_doubleBits (a1 : UInt64) : Option Int64 :=
  if Op.cmpValue (FP.dcmp a1 FP.dconst0) CmpOp.l = 0 then (
   some (0 : Int64)) else (
   jn (fun (v5 : Int64) =>
    jn (fun (v9 : UInt64) =>
     nd (FP.dmul v9 (4841369599423283200 : UInt64)) fun (v10 : UInt64) =>
     ((lp (σ := (Int32 × Int64 × UInt64)) (ρ := (UInt64 × Int64)) (un3 fun (v14 : Int32) (v15 : Int64) (v16 : UInt64) =>
        if (1100 : Int32) ≤ v14 then (
         some (.inr (v16, v15))) else (
         if Op.cmpValue (FP.dcmp v16 (4845873199050653696 : UInt64)) CmpOp.l < 0 then (
          some (.inr (v16, v15))) else (
          nd (FP.dmul v16 (4602678819172646912 : UInt64)) fun (v41 : UInt64) =>
          lt1 (v15 + (1 : Int64)) fun (v42 : Int64) =>
          lt1 (v14 + Int32.ofInt (1)) fun (v43 : Int32) =>
          some (.inl (v43, v42, v41))))) 4000 ((0 : Int32), (1023 : Int64), v10)).bind
      (un2 fun (v17 : UInt64) (v18 : Int64) =>
       ((lp (σ := (Int32 × UInt64 × Int64)) (ρ := (UInt64 × Int64)) (un3 fun (v25 : Int32) (v26 : UInt64) (v27 : Int64) =>
          if (1100 : Int32) ≤ v25 then (
           some (.inr (v26, v27))) else (
           if 0 ≤ Op.cmpValue (FP.dcmp v26 (4841369599423283200 : UInt64)) CmpOp.g then (
            some (.inr (v26, v27))) else (
            if lg_cmp v27 (1 : Int64) ≤ 0 then (
             some (.inr (v26, v27))) else (
             nd (FP.dmul v26 (4611686018427387904 : UInt64)) fun (v36 : UInt64) =>
             lt1 (v27 - (1 : Int64)) fun (v37 : Int64) =>
             lt1 (v25 + Int32.ofInt (1)) fun (v38 : Int32) =>
             some (.inl (v38, v36, v37)))))) 4000 ((0 : Int32), v17, v18)).bind
        (un2 fun (v28 : UInt64) (v29 : Int64) =>
         some (v5 ||| (((v29 - (1 : Int64)) <<< ((52 : Int32).toInt64 &&& 63)) + (FP.d2l v28)))))))) fun K6 =>
    if 0 ≤ Op.cmpValue (FP.dcmp a1 FP.dconst0) CmpOp.g then (
     K6 a1) else (
     K6 (FP.dneg a1))) fun K2 =>
   if 0 ≤ Op.cmpValue (FP.dcmp a1 FP.dconst0) CmpOp.g then (
    K2 (0 : Int64)) else (
    K2 (-9223372036854775808 : Int64)))
set_option maxHeartbeats 4000000 in
set_option maxRecDepth 100000 in
theorem mX7_doubleBits (l : Launch) (E : XE) (hL : LX E) (st : Sto) {a1 : UInt64} {r : Int64} (h : fX7_doubleBits a1 = some r) : Met l yX7_doubleBits wsX7_doubleBits ({ frames := 0, cells := 0, slots := 0, locals := 0 }) (va_Pc [.double a1] (RX E st)) (QX E (some (.long r)) st) 0 0 E.2.2.2 := by
  refine Met.ofW (cc := cX7_doubleBits) (maxL := 9) (ret := (some .long)) (by decide) rfl ?_
  intro p e s m args below meth c s₁ B hml hv
  obtain ⟨rfl, hP, hK⟩ := hv
  have hown : s.vm.findClass RX7 = some m.cls := findClass_of_methodNamed B.named
  have C0 : CX p m c cX7_doubleBits 9 s _ wsX7_doubleBits RX7 E := ⟨⟨B.exec, B.bytes, hml, hown, atoms_spec (ws := wsX7_doubleBits) B.pre⟩, hK⟩
  have hx := B.exec
  have hb := B.bytes
  have hr := B.returns
  have hlocks := B.notSynchronized
  have hw : SX E s st s.heap [] := ⟨hP, va_S.rf⟩
  have hl := lv_entry ([.double a1]) (n := 9) (Nat.le_of_ble_eq_true rfl)
  rw [lg_entry_eq]
  generalize (lg_sl ([.double a1]) ++ List.replicate (9 - (lg_sl ([.double a1])).length) Slot.unset).toArray = ls at hl ⊢
  have hl : lv_has ls 9 [(0, .double a1)] := hl
  unfold fX7_doubleBits at h
  refine lv_dload_n hx hb dX7_doubleBits_0 rfl (lv_at hl 0 rfl) ?_
  refine lv_dconst0 hx hb dX7_doubleBits_1 ?_
  refine lv_dcmp hx hb dX7_doubleBits_2 ?_
  refine lv_if_ne (tgt := 8) hx hb dX7_doubleBits_3 (by decide) (fun hc1 => ?_) (fun hc1 => ?_)
  · have h := ifn h hc1
    refine lv_dload_n hx hb dX7_doubleBits_8 rfl (lv_at hl 0 rfl) ?_
    refine lv_dconst0 hx hb dX7_doubleBits_9 ?_
    refine lv_dcmp hx hb dX7_doubleBits_10 ?_
    refine jn_c h (fun K2 hK4 h => ?_)
    have HJ3 : ∀ (v5 : Int64), K2 v5 = some r → ∀ (H : Heap) (locs : List Loc), SX E s st H locs → ∀ ls : Array Slot, lv_has ls 9 [(0, .double a1)] → W p l e (headSpec wsX7_doubleBits ({ frames := 0, cells := 0, slots := 0, locals := 0 })).room s m ([.double a1] : List Value).toArray below meth c H locs 0 0 (MQ below (QX E (some (.long r)) st) ([.double a1] : List Value).toArray s 0 0 E.2.2.2) (F0 m 21 ls [.long v5]) := by
      intro v5 h H locs hw ls hl
      have h := kk1 h hK4
      refine lv_lstore_n (lv' := [(2, .long v5), (0, .double a1)]) hx hb dX7_doubleBits_21 rfl hl (by decide) rfl (fun ls hl => ?_)
      refine lv_dload_n hx hb dX7_doubleBits_22 rfl (lv_at hl 1 rfl) ?_
      refine lv_dconst0 hx hb dX7_doubleBits_23 ?_
      refine lv_dcmp hx hb dX7_doubleBits_24 ?_
      refine jn_c h (fun K6 hK8 h => ?_)
      have HJ7 : ∀ (v9 : UInt64), K6 v9 = some r → ∀ (H : Heap) (locs : List Loc), SX E s st H locs → ∀ ls : Array Slot, lv_has ls 9 [(2, .long v5)] → W p l e (headSpec wsX7_doubleBits ({ frames := 0, cells := 0, slots := 0, locals := 0 })).room s m ([.double a1] : List Value).toArray below meth c H locs 0 0 (MQ below (QX E (some (.long r)) st) ([.double a1] : List Value).toArray s 0 0 E.2.2.2) (F0 m 34 ls [.double v9]) := by
        intro v9 h H locs hw ls hl
        have h := kk1 h hK8
        refine lv_ldc2d hx hb hown (C0.1.2.2.2.2 _ (List.mem_cons_of_mem _ (List.mem_of_getElem? (i := 1) rfl))) dX7_doubleBits_34 ?_
        refine x_dmul hx hb h dX7_doubleBits_37 (fun v10 h => ?_)
        refine lv_dstore (lv' := [(4, .double v10), (2, .long v5)]) hx hb dX7_doubleBits_38 hl (by decide) rfl (fun ls hl => ?_)
        refine lv_ldc2 hx hb hown (C0.1.2.2.2.2 _ (List.mem_cons_of_mem _ (List.mem_of_getElem? (i := 2) rfl))) dX7_doubleBits_40 ?_
        refine lv_lstore (lv' := [(6, .long (1023 : Int64)), (4, .double v10), (2, .long v5)]) hx hb dX7_doubleBits_43 hl (by decide) rfl (fun ls hl => ?_)
        refine lv_iconst (v := 0) hx hb dX7_doubleBits_45 (by decide) ?_
        refine lv_istore (lv' := [(8, .int (0 : Int32)), (6, .long (1023 : Int64)), (4, .double v10), (2, .long v5)]) hx hb dX7_doubleBits_46 hl (by decide) rfl (fun ls hl => ?_)
        refine bn_K h (fun K19 hK20 h => ?_)
        have HX21 : ∀ (v17 : UInt64) (v18 : Int64), K19 (v17, v18) = some r → ∀ (H : Heap) (locs : List Loc), SX E s st H locs → ∀ ls : Array Slot, lv_has ls 9 [(2, .long v5), (4, .double v17), (6, .long v18)] → W p l e (headSpec wsX7_doubleBits ({ frames := 0, cells := 0, slots := 0, locals := 0 })).room s m ([.double a1] : List Value).toArray below meth c H locs 0 0 (MQ below (QX E (some (.long r)) st) ([.double a1] : List Value).toArray s 0 0 E.2.2.2) (F0 m 85 ls []) := by
          intro v17 v18 h H locs hw ls hl
          have h := kk1 h hK20
          have h := un2_d h
          refine lv_iconst (v := 0) hx hb dX7_doubleBits_85 (by decide) ?_
          refine lv_istore (lv' := [(8, .int (0 : Int32)), (2, .long v5), (4, .double v17), (6, .long v18)]) hx hb dX7_doubleBits_86 hl (by decide) rfl (fun ls hl => ?_)
          refine bn_K h (fun K30 hK31 h => ?_)
          have HX32 : ∀ (v28 : UInt64) (v29 : Int64), K30 (v28, v29) = some r → ∀ (H : Heap) (locs : List Loc), SX E s st H locs → ∀ ls : Array Slot, lv_has ls 9 [(2, .long v5), (4, .double v28), (6, .long v29)] → W p l e (headSpec wsX7_doubleBits ({ frames := 0, cells := 0, slots := 0, locals := 0 })).room s m ([.double a1] : List Value).toArray below meth c H locs 0 0 (MQ below (QX E (some (.long r)) st) ([.double a1] : List Value).toArray s 0 0 E.2.2.2) (F0 m 132 ls []) := by
            intro v28 v29 h H locs hw ls hl
            have h := kk1 h hK31
            have h := un2_d h
            refine lv_lload_n hx hb dX7_doubleBits_132 rfl (lv_at hl 0 rfl) ?_
            refine lv_lload hx hb dX7_doubleBits_133 (lv_at hl 2 rfl) ?_
            refine lv_lconst (v := 1) hx hb dX7_doubleBits_135 (by decide) ?_
            refine lv_lsub hx hb dX7_doubleBits_136 ?_
            refine lv_bipush (v := 52) hx hb dX7_doubleBits_137 (by decide) ?_
            refine lv_lshl hx hb dX7_doubleBits_139 rfl ?_
            refine lv_dload hx hb dX7_doubleBits_140 (lv_at hl 1 rfl) ?_
            refine lv_d2l hx hb dX7_doubleBits_142 ?_
            refine lv_ladd hx hb dX7_doubleBits_143 ?_
            refine lv_lor hx hb dX7_doubleBits_144 ?_
            cases h
            exact W.lret hx hb hr (X_fin C0 hw) hw.2.2.2 dX7_doubleBits_145 hlocks
          refine lp_ind (fun q : (Int32 × UInt64 × Int64) => ∀ (H : Heap) (locs : List Loc), SX E s st H locs → ∀ ls : Array Slot, lv_has ls 9 [(8, .int (q.1)), (2, .long v5), (4, .double (q.2.1)), (6, .long (q.2.2))] → W p l e (headSpec wsX7_doubleBits ({ frames := 0, cells := 0, slots := 0, locals := 0 })).room s m ([.double a1] : List Value).toArray below meth c H locs 0 0 (MQ below (QX E (some (.long r)) st) ([.double a1] : List Value).toArray s 0 0 E.2.2.2) (F0 m 88 ls [])) (fun q o24 h hB23 hX22 => ?_) _ _ h _ _ hw _ (lv_sub hl [0, 1, 2, 3] rfl)
          intro H locs hw ls hl
          obtain ⟨v25, v26, v27⟩ := q
          have h := un3_d h
          have hl : lv_has ls 9 [(8, .int v25), (2, .long v5), (4, .double v26), (6, .long v27)] := hl
          refine lv_iload hx hb dX7_doubleBits_88 (lv_at hl 0 rfl) ?_
          refine lv_sipush (v := 1100) hx hb dX7_doubleBits_90 (by decide) ?_
          refine lv_icmp_ge (tgt := 132) hx hb dX7_doubleBits_93 (by decide) (fun hc33 => ?_) (fun hc33 => ?_)
          · have h := ifp h hc33
            have h := hX22 _ (Option.some.inj h).symm
            exact HX32 _ _ h _ _ hw _ (lv_sub hl [1, 2, 3] rfl)
          · have h := ifn h hc33
            refine lv_dload hx hb dX7_doubleBits_96 (lv_at hl 2 rfl) ?_
            refine lv_ldc2d hx hb hown (C0.1.2.2.2.2 _ (List.mem_cons_of_mem _ (List.mem_of_getElem? (i := 1) rfl))) dX7_doubleBits_98 ?_
            refine lv_dcmp hx hb dX7_doubleBits_101 ?_
            refine lv_if_ge (tgt := 132) hx hb dX7_doubleBits_102 (by decide) (fun hc34 => ?_) (fun hc34 => ?_)
            · have h := ifp h hc34
              have h := hX22 _ (Option.some.inj h).symm
              exact HX32 _ _ h _ _ hw _ (lv_sub hl [1, 2, 3] rfl)
            · have h := ifn h hc34
              refine lv_lload hx hb dX7_doubleBits_105 (lv_at hl 3 rfl) ?_
              refine lv_lconst (v := 1) hx hb dX7_doubleBits_107 (by decide) ?_
              refine W.lcmp hx hb dX7_doubleBits_108 ?_
              refine lv_if_le (tgt := 132) hx hb dX7_doubleBits_109 (by decide) (fun hc35 => ?_) (fun hc35 => ?_)
              · have h := ifp h hc35
                have h := hX22 _ (Option.some.inj h).symm
                exact HX32 _ _ h _ _ hw _ (lv_sub hl [1, 2, 3] rfl)
              · have h := ifn h hc35
                refine lv_dload hx hb dX7_doubleBits_112 (lv_at hl 2 rfl) ?_
                refine lv_ldc2d hx hb hown (C0.1.2.2.2.2 _ (List.mem_cons_of_mem _ (List.mem_of_getElem? (i := 5) rfl))) dX7_doubleBits_114 ?_
                refine x_dmul hx hb h dX7_doubleBits_117 (fun v36 h => ?_)
                refine lv_dstore (lv' := [(4, .double v36), (8, .int v25), (2, .long v5), (6, .long v27)]) hx hb dX7_doubleBits_118 hl (by decide) rfl (fun ls hl => ?_)
                refine lv_lload hx hb dX7_doubleBits_120 (lv_at hl 3 rfl) ?_
                refine lv_lconst (v := 1) hx hb dX7_doubleBits_122 (by decide) ?_
                refine lv_lsub hx hb dX7_doubleBits_123 ?_
                refine x_topl h (fun v37 h => ?_)
                refine lv_lstore (lv' := [(6, .long v37), (4, .double v36), (8, .int v25), (2, .long v5)]) hx hb dX7_doubleBits_124 hl (by decide) rfl (fun ls hl => ?_)
                refine x_iinc hx hb h dX7_doubleBits_126 hl (q := 2) rfl (fun v38 => [(8, .int v38), (6, .long v37), (4, .double v36), (2, .long v5)]) (by decide) (fun _ => rfl) (fun v38 ls hl h => ?_)
                refine lv_goto (tgt := 88) hx hb dX7_doubleBits_129 (by decide) ?_
                exact hB23 _ (Option.some.inj h).symm _ _ hw _ (lv_sub hl [0, 3, 2, 1] rfl)
        refine lp_ind (fun q : (Int32 × Int64 × UInt64) => ∀ (H : Heap) (locs : List Loc), SX E s st H locs → ∀ ls : Array Slot, lv_has ls 9 [(8, .int (q.1)), (6, .long (q.2.1)), (4, .double (q.2.2)), (2, .long v5)] → W p l e (headSpec wsX7_doubleBits ({ frames := 0, cells := 0, slots := 0, locals := 0 })).room s m ([.double a1] : List Value).toArray below meth c H locs 0 0 (MQ below (QX E (some (.long r)) st) ([.double a1] : List Value).toArray s 0 0 E.2.2.2) (F0 m 48 ls [])) (fun q o13 h hB12 hX11 => ?_) _ _ h _ _ hw _ (lv_sub hl [0, 1, 2, 3] rfl)
        intro H locs hw ls hl
        obtain ⟨v14, v15, v16⟩ := q
        have h := un3_d h
        have hl : lv_has ls 9 [(8, .int v14), (6, .long v15), (4, .double v16), (2, .long v5)] := hl
        refine lv_iload hx hb dX7_doubleBits_48 (lv_at hl 0 rfl) ?_
        refine lv_sipush (v := 1100) hx hb dX7_doubleBits_50 (by decide) ?_
        refine lv_icmp_ge (tgt := 85) hx hb dX7_doubleBits_53 (by decide) (fun hc39 => ?_) (fun hc39 => ?_)
        · have h := ifp h hc39
          have h := hX11 _ (Option.some.inj h).symm
          exact HX21 _ _ h _ _ hw _ (lv_sub hl [3, 2, 1] rfl)
        · have h := ifn h hc39
          refine lv_dload hx hb dX7_doubleBits_56 (lv_at hl 2 rfl) ?_
          refine lv_ldc2d hx hb hown (C0.1.2.2.2.2 _ (List.mem_cons_of_mem _ (List.mem_of_getElem? (i := 3) rfl))) dX7_doubleBits_58 ?_
          refine lv_dcmp hx hb dX7_doubleBits_61 ?_
          refine lv_if_lt (tgt := 85) hx hb dX7_doubleBits_62 (by decide) (fun hc40 => ?_) (fun hc40 => ?_)
          · have h := ifp h hc40
            have h := hX11 _ (Option.some.inj h).symm
            exact HX21 _ _ h _ _ hw _ (lv_sub hl [3, 2, 1] rfl)
          · have h := ifn h hc40
            refine lv_dload hx hb dX7_doubleBits_65 (lv_at hl 2 rfl) ?_
            refine lv_ldc2d hx hb hown (C0.1.2.2.2.2 _ (List.mem_cons_of_mem _ (List.mem_of_getElem? (i := 4) rfl))) dX7_doubleBits_67 ?_
            refine x_dmul hx hb h dX7_doubleBits_70 (fun v41 h => ?_)
            refine lv_dstore (lv' := [(4, .double v41), (8, .int v14), (6, .long v15), (2, .long v5)]) hx hb dX7_doubleBits_71 hl (by decide) rfl (fun ls hl => ?_)
            refine lv_lload hx hb dX7_doubleBits_73 (lv_at hl 2 rfl) ?_
            refine lv_lconst (v := 1) hx hb dX7_doubleBits_75 (by decide) ?_
            refine lv_ladd hx hb dX7_doubleBits_76 ?_
            refine x_topl h (fun v42 h => ?_)
            refine lv_lstore (lv' := [(6, .long v42), (4, .double v41), (8, .int v14), (2, .long v5)]) hx hb dX7_doubleBits_77 hl (by decide) rfl (fun ls hl => ?_)
            refine x_iinc hx hb h dX7_doubleBits_79 hl (q := 2) rfl (fun v43 => [(8, .int v43), (6, .long v42), (4, .double v41), (2, .long v5)]) (by decide) (fun _ => rfl) (fun v43 ls hl h => ?_)
            refine lv_goto (tgt := 48) hx hb dX7_doubleBits_82 (by decide) ?_
            exact hB12 _ (Option.some.inj h).symm _ _ hw _ (lv_sub hl [0, 1, 2, 3] rfl)
      refine lv_if_ge (tgt := 33) hx hb dX7_doubleBits_25 (by decide) (fun hc44 => ?_) (fun hc44 => ?_)
      · have h := ifp h hc44
        refine lv_dload_n hx hb dX7_doubleBits_33 rfl (lv_at hl 1 rfl) ?_
        exact HJ7 _ h _ _ hw _ (lv_sub hl [0] rfl)
      · have h := ifn h hc44
        refine lv_dload_n hx hb dX7_doubleBits_28 rfl (lv_at hl 1 rfl) ?_
        refine lv_dneg hx hb dX7_doubleBits_29 ?_
        refine lv_goto (tgt := 34) hx hb dX7_doubleBits_30 (by decide) ?_
        exact HJ7 _ h _ _ hw _ (lv_sub hl [0] rfl)
    refine lv_if_ge (tgt := 20) hx hb dX7_doubleBits_11 (by decide) (fun hc45 => ?_) (fun hc45 => ?_)
    · have h := ifp h hc45
      refine lv_lconst (v := 0) hx hb dX7_doubleBits_20 (by decide) ?_
      exact HJ3 _ h _ _ hw _ (lv_sub hl [0] rfl)
    · have h := ifn h hc45
      refine lv_ldc2 hx hb hown (C0.1.2.2.2.2 _ (List.mem_cons_of_mem _ (List.mem_of_getElem? (i := 0) rfl))) dX7_doubleBits_14 ?_
      refine lv_goto (tgt := 21) hx hb dX7_doubleBits_17 (by decide) ?_
      exact HJ3 _ h _ _ hw _ (lv_sub hl [0] rfl)
  · have h := ifp h hc1
    refine lv_lconst (v := 0) hx hb dX7_doubleBits_6 (by decide) ?_
    cases h
    exact W.lret hx hb hr (X_fin C0 hw) hw.2.2.2 dX7_doubleBits_7 hlocks

def fX8_begin (oi : Nat) (a1 : Int32) (a2 : Int32) (a3 : Int32) (st : Sto) : Option Sto :=
  lt1 (sI st 16 oi 3 (0 : Int32)) fun (t1 : Sto) =>
  lt1 (sI t1 16 oi 4 a1) fun (t2 : Sto) =>
  lt1 (sI t2 16 oi 5 a2) fun (t3 : Sto) =>
  lt1 (sI t3 16 oi 6 a3) fun (t4 : Sto) =>
  lt1 (sI t4 16 oi 9 (0 : Int32)) fun (t5 : Sto) =>
  lt1 (sI t5 16 oi 10 (0 : Int32)) fun (t6 : Sto) =>
  lt1 (sI t6 16 oi 13 (0 : Int32)) fun (t7 : Sto) =>
  some t7
set_option maxHeartbeats 4000000 in
set_option maxRecDepth 100000 in
theorem mX8_begin (l : Launch) (E : XE) (hL : LX E) (st : Sto) {oi : Nat} {a1 : Int32} {a2 : Int32} {a3 : Int32} (ho : oi < cntX 16) {st1 : Sto} (h : fX8_begin oi a1 a2 a3 st = some st1) : Met l yX8_begin wsX8_begin ({ frames := 0, cells := 0, slots := 0, locals := 0 }) (va_Pc [.ref (E.2.2.1 16 oi), .int a1, .int a2, .int a3] (RX E st)) (QX E none st1) 0 0 E.2.2.2 := by
  refine Met.ofW (cc := cX8_begin) (maxL := 4) (ret := none) (by decide) rfl ?_
  intro p e s m args below meth c s₁ B hml hv
  obtain ⟨rfl, hP, hK⟩ := hv
  have hown : s.vm.findClass RX8 = some m.cls := findClass_of_methodNamed B.named
  have C0 : CX p m c cX8_begin 4 s _ wsX8_begin RX8 E := ⟨⟨B.exec, B.bytes, hml, hown, atoms_spec (ws := wsX8_begin) B.pre⟩, hK⟩
  have hx := B.exec
  have hb := B.bytes
  have hr := B.returns
  have hlocks := B.notSynchronized
  have hw : SX E s st s.heap [] := ⟨hP, va_S.rf⟩
  have hl := lv_entry ([.ref (E.2.2.1 16 oi), .int a1, .int a2, .int a3]) (n := 4) (Nat.le_of_ble_eq_true rfl)
  rw [lg_entry_eq]
  generalize (lg_sl ([.ref (E.2.2.1 16 oi), .int a1, .int a2, .int a3]) ++ List.replicate (4 - (lg_sl ([.ref (E.2.2.1 16 oi), .int a1, .int a2, .int a3])).length) Slot.unset).toArray = ls at hl ⊢
  have hl : lv_has ls 4 [(0, .ref (E.2.2.1 16 oi)), (1, .int a1), (2, .int a2), (3, .int a3)] := hl
  unfold fX8_begin at h
  refine lv_aload_n hx hb dX8_begin_0 rfl (lv_at hl 0 rfl) ?_
  refine lv_iconst (v := 0) hx hb dX8_begin_1 (by decide) ?_
  refine X_p16_3 hL C0 hw (fun w h => (List.mem_cons_of_mem _ (List.mem_append_right _ h))) ho h ((List.mem_cons_of_mem _ (List.mem_append_left _ (List.mem_of_getElem? (i := 0) rfl)))) dX8_begin_2 (fun t1 H locs hw h => ?_)
  refine lv_aload_n hx hb dX8_begin_5 rfl (lv_at hl 0 rfl) ?_
  refine lv_iload_n hx hb dX8_begin_6 rfl (lv_at hl 1 rfl) ?_
  refine X_p16_4 hL C0 hw (fun w h => (List.mem_cons_of_mem _ (List.mem_append_right _ h))) ho h ((List.mem_cons_of_mem _ (List.mem_append_left _ (List.mem_of_getElem? (i := 1) rfl)))) dX8_begin_7 (fun t2 H locs hw h => ?_)
  refine lv_aload_n hx hb dX8_begin_10 rfl (lv_at hl 0 rfl) ?_
  refine lv_iload_n hx hb dX8_begin_11 rfl (lv_at hl 2 rfl) ?_
  refine X_p16_5 hL C0 hw (fun w h => (List.mem_cons_of_mem _ (List.mem_append_right _ h))) ho h ((List.mem_cons_of_mem _ (List.mem_append_left _ (List.mem_of_getElem? (i := 2) rfl)))) dX8_begin_12 (fun t3 H locs hw h => ?_)
  refine lv_aload_n hx hb dX8_begin_15 rfl (lv_at hl 0 rfl) ?_
  refine lv_iload_n hx hb dX8_begin_16 rfl (lv_at hl 3 rfl) ?_
  refine X_p16_6 hL C0 hw (fun w h => (List.mem_cons_of_mem _ (List.mem_append_right _ h))) ho h ((List.mem_cons_of_mem _ (List.mem_append_left _ (List.mem_of_getElem? (i := 3) rfl)))) dX8_begin_17 (fun t4 H locs hw h => ?_)
  refine lv_aload_n hx hb dX8_begin_20 rfl (lv_at hl 0 rfl) ?_
  refine lv_iconst (v := 0) hx hb dX8_begin_21 (by decide) ?_
  refine X_p16_9 hL C0 hw (fun w h => (List.mem_cons_of_mem _ (List.mem_append_right _ h))) ho h ((List.mem_cons_of_mem _ (List.mem_append_left _ (List.mem_of_getElem? (i := 4) rfl)))) dX8_begin_22 (fun t5 H locs hw h => ?_)
  refine lv_aload_n hx hb dX8_begin_25 rfl (lv_at hl 0 rfl) ?_
  refine lv_iconst (v := 0) hx hb dX8_begin_26 (by decide) ?_
  refine X_p16_10 hL C0 hw (fun w h => (List.mem_cons_of_mem _ (List.mem_append_right _ h))) ho h ((List.mem_cons_of_mem _ (List.mem_append_left _ (List.mem_of_getElem? (i := 5) rfl)))) dX8_begin_27 (fun t6 H locs hw h => ?_)
  refine lv_aload_n hx hb dX8_begin_30 rfl (lv_at hl 0 rfl) ?_
  refine lv_iconst (v := 0) hx hb dX8_begin_31 (by decide) ?_
  refine X_p16_13 hL C0 hw (fun w h => (List.mem_cons_of_mem _ (List.mem_append_right _ h))) ho h rfl rfl ((List.mem_cons_of_mem _ (List.mem_append_left _ (List.mem_of_getElem? (i := 6) rfl)))) dX8_begin_32 (fun t7 H locs hw h => ?_)
  cases h
  exact W.vret hx hb hr (X_fin C0 hw) hw.2.2.2 dX8_begin_35 hlocks
