def fX12_thrown (st : Sto) : Option Int32 :=
  some (gI st 0 (0) 10)
set_option maxHeartbeats 4000000 in
set_option maxRecDepth 100000 in
theorem mX12_thrown (l : Launch) (E : XE) (hL : LM E) (st : Sto) {r : Int32} (h : fX12_thrown st = some r) : Met l yX12_thrown wsX12_thrown ({ frames := 0, cells := 0, slots := 0, locals := 0 }) (va_Pc [.ref (E.2.2.1 0 (0))] (RM E st)) (QM E (some (.int r)) st) 0 0 E.2.2.2 := by
  refine Met.ofW (cc := cX12_thrown) (maxL := 1) (ret := (some .int)) (by decide) rfl ?_
  intro p e s m args below meth c s₁ B hml hv
  obtain ⟨rfl, hP, hK⟩ := hv
  have hown : s.vm.findClass RX12 = some m.cls := findClass_of_methodNamed B.named
  have C0 : CX p m c cX12_thrown 1 s _ wsX12_thrown RX12 E := ⟨⟨B.exec, B.bytes, hml, hown, atoms_spec (ws := wsX12_thrown) B.pre⟩, hK⟩
  have hx := B.exec
  have hb := B.bytes
  have hr := B.returns
  have hlocks := B.notSynchronized
  have hw : SM E s st s.heap [] := ⟨hP, va_S.rf⟩
  have hl := lv_entry ([.ref (E.2.2.1 0 (0))]) (n := 1) (Nat.le_of_ble_eq_true rfl)
  rw [lg_entry_eq]
  generalize (lg_sl ([.ref (E.2.2.1 0 (0))]) ++ List.replicate (1 - (lg_sl ([.ref (E.2.2.1 0 (0))])).length) Slot.unset).toArray = ls at hl ⊢
  have hl : lv_has ls 1 [(0, .ref (E.2.2.1 0 (0)))] := hl
  unfold fX12_thrown at h
  refine lv_aload_n hx hb dX12_thrown_0 rfl (lv_at hl 0 rfl) ?_
  refine M_g0_10 C0 hw (fun w h => (List.mem_cons_of_mem _ (List.mem_append_right _ h))) (by decide) ((List.mem_cons_of_mem _ (List.mem_append_left _ (List.mem_of_getElem? (i := 0) rfl)))) dX12_thrown_1 ?_
  cases h
  exact W.iret hx hb hr (M_fin C0 hw) hw.2.2.2 dX12_thrown_4 hlocks

def fX12_is (a1 : Int32) (a2 : Int32) : Option Int32 :=
  if a1 < 0 then (
   some (0 : Int32)) else (
   if a2 ≤ a1 then (
    some (0 : Int32)) else (
    some (1 : Int32)))
set_option maxHeartbeats 4000000 in
set_option maxRecDepth 100000 in
theorem mX12_is (l : Launch) (E : XE) (hL : LM E) (st : Sto) {a1 : Int32} {a2 : Int32} {r : Int32} (h : fX12_is a1 a2 = some r) : Met l yX12_is wsX12_is ({ frames := 0, cells := 0, slots := 0, locals := 0 }) (va_Pc [.ref (E.2.2.1 0 (0)), .int a1, .int a2] (RM E st)) (QM E (some (.int r)) st) 0 0 E.2.2.2 := by
  refine Met.ofW (cc := cX12_is) (maxL := 3) (ret := (some .boolean)) (by decide) rfl ?_
  intro p e s m args below meth c s₁ B hml hv
  obtain ⟨rfl, hP, hK⟩ := hv
  have hown : s.vm.findClass RX12 = some m.cls := findClass_of_methodNamed B.named
  have C0 : CX p m c cX12_is 3 s _ wsX12_is RX12 E := ⟨⟨B.exec, B.bytes, hml, hown, atoms_spec (ws := wsX12_is) B.pre⟩, hK⟩
  have hx := B.exec
  have hb := B.bytes
  have hr := B.returns
  have hlocks := B.notSynchronized
  have hw : SM E s st s.heap [] := ⟨hP, va_S.rf⟩
  have hl := lv_entry ([.ref (E.2.2.1 0 (0)), .int a1, .int a2]) (n := 3) (Nat.le_of_ble_eq_true rfl)
  rw [lg_entry_eq]
  generalize (lg_sl ([.ref (E.2.2.1 0 (0)), .int a1, .int a2]) ++ List.replicate (3 - (lg_sl ([.ref (E.2.2.1 0 (0)), .int a1, .int a2])).length) Slot.unset).toArray = ls at hl ⊢
  have hl : lv_has ls 3 [(0, .ref (E.2.2.1 0 (0))), (1, .int a1), (2, .int a2)] := hl
  unfold fX12_is at h
  refine lv_iload_n hx hb dX12_is_0 rfl (lv_at hl 1 rfl) ?_
  refine lv_if_lt (tgt := 13) hx hb dX12_is_1 (by decide) (fun hc1 => ?_) (fun hc1 => ?_)
  · have h := ifp h hc1
    refine lv_iconst (v := 0) hx hb dX12_is_13 (by decide) ?_
    cases h
    exact W.zret hx hb hr rfl (M_fin C0 hw) hw.2.2.2 dX12_is_14 hlocks
  · have h := ifn h hc1
    refine lv_iload_n hx hb dX12_is_4 rfl (lv_at hl 1 rfl) ?_
    refine lv_iload_n hx hb dX12_is_5 rfl (lv_at hl 2 rfl) ?_
    refine lv_icmp_ge (tgt := 13) hx hb dX12_is_6 (by decide) (fun hc2 => ?_) (fun hc2 => ?_)
    · have h := ifp h hc2
      refine lv_iconst (v := 0) hx hb dX12_is_13 (by decide) ?_
      cases h
      exact W.zret hx hb hr rfl (M_fin C0 hw) hw.2.2.2 dX12_is_14 hlocks
    · have h := ifn h hc2
      refine lv_iconst (v := 1) hx hb dX12_is_9 (by decide) ?_
      refine lv_goto (tgt := 14) hx hb dX12_is_10 (by decide) ?_
      cases h
      exact W.zret hx hb hr rfl (M_fin C0 hw) hw.2.2.2 dX12_is_14 hlocks

def fX12_no (a1 : Int32) (st : Sto) : Option (Int32 × Sto) :=
  lt1 (sI st 0 (0) 9 a1) fun (t1 : Sto) =>
  some ((-1 : Int32), t1)
set_option maxHeartbeats 4000000 in
set_option maxRecDepth 100000 in
theorem mX12_no (l : Launch) (E : XE) (hL : LM E) (st : Sto) {a1 : Int32} {r : Int32} {st1 : Sto} (h : fX12_no a1 st = some (r, st1)) : Met l yX12_no wsX12_no ({ frames := 0, cells := 0, slots := 0, locals := 0 }) (va_Pc [.ref (E.2.2.1 0 (0)), .int a1] (RM E st)) (QM E (some (.int r)) st1) 0 0 E.2.2.2 := by
  refine Met.ofW (cc := cX12_no) (maxL := 2) (ret := (some .int)) (by decide) rfl ?_
  intro p e s m args below meth c s₁ B hml hv
  obtain ⟨rfl, hP, hK⟩ := hv
  have hown : s.vm.findClass RX12 = some m.cls := findClass_of_methodNamed B.named
  have C0 : CX p m c cX12_no 2 s _ wsX12_no RX12 E := ⟨⟨B.exec, B.bytes, hml, hown, atoms_spec (ws := wsX12_no) B.pre⟩, hK⟩
  have hx := B.exec
  have hb := B.bytes
  have hr := B.returns
  have hlocks := B.notSynchronized
  have hw : SM E s st s.heap [] := ⟨hP, va_S.rf⟩
  have hl := lv_entry ([.ref (E.2.2.1 0 (0)), .int a1]) (n := 2) (Nat.le_of_ble_eq_true rfl)
  rw [lg_entry_eq]
  generalize (lg_sl ([.ref (E.2.2.1 0 (0)), .int a1]) ++ List.replicate (2 - (lg_sl ([.ref (E.2.2.1 0 (0)), .int a1])).length) Slot.unset).toArray = ls at hl ⊢
  have hl : lv_has ls 2 [(0, .ref (E.2.2.1 0 (0))), (1, .int a1)] := hl
  unfold fX12_no at h
  refine lv_aload_n hx hb dX12_no_0 rfl (lv_at hl 0 rfl) ?_
  refine lv_iload_n hx hb dX12_no_1 rfl (lv_at hl 1 rfl) ?_
  refine M_p0_9 hL C0 hw (fun w h => (List.mem_cons_of_mem _ (List.mem_append_right _ h))) (by decide) h ((List.mem_cons_of_mem _ (List.mem_append_left _ (List.mem_of_getElem? (i := 0) rfl)))) dX12_no_2 (fun t1 H locs hw h => ?_)
  refine lv_iconst (v := -1) hx hb dX12_no_5 (by decide) ?_
  cases h
  exact W.iret hx hb hr (M_fin C0 hw) hw.2.2.2 dX12_no_6 hlocks

def fX12_not (a1 : Int32) (st : Sto) : Option (Int32 × Sto) :=
  lt1 (sI st 0 (0) 9 a1) fun (t1 : Sto) =>
  some ((0 : Int32), t1)
set_option maxHeartbeats 4000000 in
set_option maxRecDepth 100000 in
theorem mX12_not (l : Launch) (E : XE) (hL : LM E) (st : Sto) {a1 : Int32} {r : Int32} {st1 : Sto} (h : fX12_not a1 st = some (r, st1)) : Met l yX12_not wsX12_not ({ frames := 0, cells := 0, slots := 0, locals := 0 }) (va_Pc [.ref (E.2.2.1 0 (0)), .int a1] (RM E st)) (QM E (some (.int r)) st1) 0 0 E.2.2.2 := by
  refine Met.ofW (cc := cX12_not) (maxL := 2) (ret := (some .boolean)) (by decide) rfl ?_
  intro p e s m args below meth c s₁ B hml hv
  obtain ⟨rfl, hP, hK⟩ := hv
  have hown : s.vm.findClass RX12 = some m.cls := findClass_of_methodNamed B.named
  have C0 : CX p m c cX12_not 2 s _ wsX12_not RX12 E := ⟨⟨B.exec, B.bytes, hml, hown, atoms_spec (ws := wsX12_not) B.pre⟩, hK⟩
  have hx := B.exec
  have hb := B.bytes
  have hr := B.returns
  have hlocks := B.notSynchronized
  have hw : SM E s st s.heap [] := ⟨hP, va_S.rf⟩
  have hl := lv_entry ([.ref (E.2.2.1 0 (0)), .int a1]) (n := 2) (Nat.le_of_ble_eq_true rfl)
  rw [lg_entry_eq]
  generalize (lg_sl ([.ref (E.2.2.1 0 (0)), .int a1]) ++ List.replicate (2 - (lg_sl ([.ref (E.2.2.1 0 (0)), .int a1])).length) Slot.unset).toArray = ls at hl ⊢
  have hl : lv_has ls 2 [(0, .ref (E.2.2.1 0 (0))), (1, .int a1)] := hl
  unfold fX12_not at h
  refine lv_aload_n hx hb dX12_not_0 rfl (lv_at hl 0 rfl) ?_
  refine lv_iload_n hx hb dX12_not_1 rfl (lv_at hl 1 rfl) ?_
  refine M_p0_9 hL C0 hw (fun w h => (List.mem_cons_of_mem _ (List.mem_append_right _ h))) (by decide) h ((List.mem_cons_of_mem _ (List.mem_append_left _ (List.mem_of_getElem? (i := 0) rfl)))) dX12_not_2 (fun t1 H locs hw h => ?_)
  refine lv_iconst (v := 0) hx hb dX12_not_5 (by decide) ?_
  cases h
  exact W.zret hx hb hr rfl (M_fin C0 hw) hw.2.2.2 dX12_not_6 hlocks

def fX12_copy (a1 : Int32) (a2 : Int32) (st : Sto) : Option Sto :=
  ((lp (σ := (Int32 × Sto)) (ρ := Sto) (un2 fun (v4 : Int32) (t5 : Sto) =>
     if (16 : Int32) ≤ v4 then (
      some (.inr t5)) else (
      ck (0 ≤ (((16 : Int32) * a1) + v4).toInt ∧ (((16 : Int32) * a1) + v4).toInt < (lFM (1) (0) : Int)) (
       ck (0 ≤ (((16 : Int32) * a2) + v4).toInt ∧ (((16 : Int32) * a2) + v4).toInt < (lFM (1) (0) : Int)) (lt1 (sF t5 (1) (0) ((((16 : Int32) * a2) + v4).toNatClampNeg) (gF t5 (1) (0) ((((16 : Int32) * a1) + v4).toNatClampNeg))) fun (t8 : Sto) =>
        lt1 (v4 + Int32.ofInt (1)) fun (v9 : Int32) =>
        some (.inl (v9, t8)))))) 4000 ((0 : Int32), st)).bind
   (fun (t6 : Sto) =>
    some t6))
set_option maxHeartbeats 4000000 in
set_option maxRecDepth 100000 in
theorem mX12_copy (l : Launch) (E : XE) (hL : LM E) (st : Sto) {a1 : Int32} {a2 : Int32} {st1 : Sto} (h : fX12_copy a1 a2 st = some st1) : Met l yX12_copy wsX12_copy ({ frames := 0, cells := 0, slots := 0, locals := 0 }) (va_Pc [.ref (E.2.2.1 0 (0)), .int a1, .int a2] (RM E st)) (QM E none st1) 0 0 E.2.2.2 := by
  refine Met.ofW (cc := cX12_copy) (maxL := 4) (ret := none) (by decide) rfl ?_
  intro p e s m args below meth c s₁ B hml hv
  obtain ⟨rfl, hP, hK⟩ := hv
  have hown : s.vm.findClass RX12 = some m.cls := findClass_of_methodNamed B.named
  have C0 : CX p m c cX12_copy 4 s _ wsX12_copy RX12 E := ⟨⟨B.exec, B.bytes, hml, hown, atoms_spec (ws := wsX12_copy) B.pre⟩, hK⟩
  have hx := B.exec
  have hb := B.bytes
  have hr := B.returns
  have hlocks := B.notSynchronized
  have hw : SM E s st s.heap [] := ⟨hP, va_S.rf⟩
  have hl := lv_entry ([.ref (E.2.2.1 0 (0)), .int a1, .int a2]) (n := 4) (Nat.le_of_ble_eq_true rfl)
  rw [lg_entry_eq]
  generalize (lg_sl ([.ref (E.2.2.1 0 (0)), .int a1, .int a2]) ++ List.replicate (4 - (lg_sl ([.ref (E.2.2.1 0 (0)), .int a1, .int a2])).length) Slot.unset).toArray = ls at hl ⊢
  have hl : lv_has ls 4 [(0, .ref (E.2.2.1 0 (0))), (1, .int a1), (2, .int a2)] := hl
  unfold fX12_copy at h
  refine lv_iconst (v := 0) hx hb dX12_copy_0 (by decide) ?_
  refine lv_istore_n (lv' := [(3, .int (0 : Int32)), (0, .ref (E.2.2.1 0 (0))), (1, .int a1), (2, .int a2)]) hx hb dX12_copy_1 rfl hl (by decide) rfl (fun ls hl => ?_)
  refine lp_ind (fun q : (Int32 × Sto) => ∀ (H : Heap) (locs : List Loc), SM E s (q.2) H locs → ∀ ls : Array Slot, lv_has ls 4 [(3, .int (q.1)), (0, .ref (E.2.2.1 0 (0))), (1, .int a1), (2, .int a2)] → W p l e (headSpec wsX12_copy ({ frames := 0, cells := 0, slots := 0, locals := 0 })).room s m ([.ref (E.2.2.1 0 (0)), .int a1, .int a2] : List Value).toArray below meth c H locs 0 0 (MQ below (QM E none st1) ([.ref (E.2.2.1 0 (0)), .int a1, .int a2] : List Value).toArray s 0 0 E.2.2.2) (F0 m 2 ls [])) (fun q o3 h hB2 hX1 => ?_) _ _ h _ _ hw _ (lv_sub hl [0, 1, 2, 3] rfl)
  intro H locs hw ls hl
  obtain ⟨v4, t5⟩ := q
  have h := un2_d h
  have hw : SM E s t5 H locs := hw
  have hl : lv_has ls 4 [(3, .int v4), (0, .ref (E.2.2.1 0 (0))), (1, .int a1), (2, .int a2)] := hl
  refine lv_iload_n hx hb dX12_copy_2 rfl (lv_at hl 0 rfl) ?_
  refine lv_bipush (v := 16) hx hb dX12_copy_3 (by decide) ?_
  refine lv_icmp_ge (tgt := 36) hx hb dX12_copy_5 (by decide) (fun hc7 => ?_) (fun hc7 => ?_)
  · have h := ifp h hc7
    have h := hX1 _ (Option.some.inj h).symm
    have hl := lv_sub hl (l' := []) [] rfl
    cases h
    exact W.vret hx hb hr (M_fin C0 hw) hw.2.2.2 dX12_copy_36 hlocks
  · have h := ifn h hc7
    refine lv_aload_n hx hb dX12_copy_8 rfl (lv_at hl 1 rfl) ?_
    refine M_g0_0 C0 hw (fun w h => (List.mem_cons_of_mem _ (List.mem_append_right _ h))) (by decide) ((List.mem_cons_of_mem _ (List.mem_append_left _ (List.mem_of_getElem? (i := 0) rfl)))) dX12_copy_9 ?_
    refine lv_bipush (v := 16) hx hb dX12_copy_12 (by decide) ?_
    refine lv_iload_n hx hb dX12_copy_14 rfl (lv_at hl 3 rfl) ?_
    refine lv_imul hx hb dX12_copy_15 ?_
    refine lv_iload_n hx hb dX12_copy_16 rfl (lv_at hl 0 rfl) ?_
    refine lv_iadd hx hb dX12_copy_17 ?_
    refine lv_aload_n hx hb dX12_copy_18 rfl (lv_at hl 1 rfl) ?_
    refine M_g0_0 C0 hw (fun w h => (List.mem_cons_of_mem _ (List.mem_append_right _ h))) (by decide) ((List.mem_cons_of_mem _ (List.mem_append_left _ (List.mem_of_getElem? (i := 0) rfl)))) dX12_copy_19 ?_
    refine lv_bipush (v := 16) hx hb dX12_copy_22 (by decide) ?_
    refine lv_iload_n hx hb dX12_copy_24 rfl (lv_at hl 2 rfl) ?_
    refine lv_imul hx hb dX12_copy_25 ?_
    refine lv_iload_n hx hb dX12_copy_26 rfl (lv_at hl 0 rfl) ?_
    refine lv_iadd hx hb dX12_copy_27 ?_
    refine M_fald C0 hw h (k := (((16 : Int32) * a1) + v4).toNatClampNeg) rfl dX12_copy_28 (fun h => ?_)
    refine M_fast hL C0 hw h (k := (((16 : Int32) * a2) + v4).toNatClampNeg) rfl dX12_copy_29 (fun t8 H locs hw h => ?_)
    refine x_iinc hx hb h dX12_copy_30 hl (q := 0) rfl (fun v9 => [(3, .int v9), (0, .ref (E.2.2.1 0 (0))), (1, .int a1), (2, .int a2)]) (by decide) (fun _ => rfl) (fun v9 ls hl h => ?_)
    refine lv_goto (tgt := 2) hx hb dX12_copy_33 (by decide) ?_
    exact hB2 _ (Option.some.inj h).symm _ _ hw _ (lv_sub hl [0, 1, 2, 3] rfl)

def fX12_isFloat (a1 : Int32) : Option Int32 :=
  if a1 < 0 then (
   some (0 : Int32)) else (
   if (1073741824 : Int32) < a1 then (
    some (0 : Int32)) else (
    some (1 : Int32)))
set_option maxHeartbeats 4000000 in
set_option maxRecDepth 100000 in
theorem mX12_isFloat (l : Launch) (E : XE) (hL : LM E) (st : Sto) {a1 : Int32} {r : Int32} (h : fX12_isFloat a1 = some r) : Met l yX12_isFloat wsX12_isFloat ({ frames := 0, cells := 0, slots := 0, locals := 0 }) (va_Pc [.ref (E.2.2.1 0 (0)), .int a1] (RM E st)) (QM E (some (.int r)) st) 0 0 E.2.2.2 := by
  refine Met.ofW (cc := cX12_isFloat) (maxL := 2) (ret := (some .boolean)) (by decide) rfl ?_
  intro p e s m args below meth c s₁ B hml hv
  obtain ⟨rfl, hP, hK⟩ := hv
  have hown : s.vm.findClass RX12 = some m.cls := findClass_of_methodNamed B.named
  have C0 : CX p m c cX12_isFloat 2 s _ wsX12_isFloat RX12 E := ⟨⟨B.exec, B.bytes, hml, hown, atoms_spec (ws := wsX12_isFloat) B.pre⟩, hK⟩
  have hx := B.exec
  have hb := B.bytes
  have hr := B.returns
  have hlocks := B.notSynchronized
  have hw : SM E s st s.heap [] := ⟨hP, va_S.rf⟩
  have hl := lv_entry ([.ref (E.2.2.1 0 (0)), .int a1]) (n := 2) (Nat.le_of_ble_eq_true rfl)
  rw [lg_entry_eq]
  generalize (lg_sl ([.ref (E.2.2.1 0 (0)), .int a1]) ++ List.replicate (2 - (lg_sl ([.ref (E.2.2.1 0 (0)), .int a1])).length) Slot.unset).toArray = ls at hl ⊢
  have hl : lv_has ls 2 [(0, .ref (E.2.2.1 0 (0))), (1, .int a1)] := hl
  unfold fX12_isFloat at h
  refine lv_iload_n hx hb dX12_isFloat_0 rfl (lv_at hl 1 rfl) ?_
  refine lv_if_lt (tgt := 14) hx hb dX12_isFloat_1 (by decide) (fun hc1 => ?_) (fun hc1 => ?_)
  · have h := ifp h hc1
    refine lv_iconst (v := 0) hx hb dX12_isFloat_14 (by decide) ?_
    cases h
    exact W.zret hx hb hr rfl (M_fin C0 hw) hw.2.2.2 dX12_isFloat_15 hlocks
  · have h := ifn h hc1
    refine lv_iload_n hx hb dX12_isFloat_4 rfl (lv_at hl 1 rfl) ?_
    refine lv_ldc hx hb hown (C0.1.2.2.2.2 _ (List.mem_cons_of_mem _ (List.mem_of_getElem? (i := 0) rfl))) dX12_isFloat_5 ?_
    refine lv_icmp_gt (tgt := 14) hx hb dX12_isFloat_7 (by decide) (fun hc2 => ?_) (fun hc2 => ?_)
    · have h := ifp h hc2
      refine lv_iconst (v := 0) hx hb dX12_isFloat_14 (by decide) ?_
      cases h
      exact W.zret hx hb hr rfl (M_fin C0 hw) hw.2.2.2 dX12_isFloat_15 hlocks
    · have h := ifn h hc2
      refine lv_iconst (v := 1) hx hb dX12_isFloat_10 (by decide) ?_
      refine lv_goto (tgt := 15) hx hb dX12_isFloat_11 (by decide) ?_
      cases h
      exact W.zret hx hb hr rfl (M_fin C0 hw) hw.2.2.2 dX12_isFloat_15 hlocks

def fX12_act (a1 : Int32) (a2 : Int32) (a3 : Int32) (a4 : Int32) (st : Sto) : Option Sto :=
  jn (fun (t4 : Sto) =>
   ck (0 ≤ (gI t4 0 (0) 44).toInt ∧ (gI t4 0 (0) 44).toInt < (lIM (39) (0) : Int)) (lt1 (sI t4 (39) (0) ((gI t4 0 (0) 44).toNatClampNeg) a1) fun (t5 : Sto) =>
    ck (0 ≤ (gI t5 0 (0) 44).toInt ∧ (gI t5 0 (0) 44).toInt < (lIM (40) (0) : Int)) (lt1 (sI t5 (40) (0) ((gI t5 0 (0) 44).toNatClampNeg) a2) fun (t6 : Sto) =>
     ck (0 ≤ (gI t6 0 (0) 44).toInt ∧ (gI t6 0 (0) 44).toInt < (lIM (41) (0) : Int)) (lt1 (sI t6 (41) (0) ((gI t6 0 (0) 44).toNatClampNeg) a3) fun (t7 : Sto) =>
      ck (0 ≤ (gI t7 0 (0) 44).toInt ∧ (gI t7 0 (0) 44).toInt < (lIM (42) (0) : Int)) (lt1 (sI t7 (42) (0) ((gI t7 0 (0) 44).toNatClampNeg) a4) fun (t8 : Sto) =>
       lt1 (sI t8 0 (0) 44 ((gI t8 0 (0) 44) + (1 : Int32))) fun (t9 : Sto) =>
       lt1 (sI t9 0 (0) 9 (0 : Int32)) fun (t10 : Sto) =>
       some t10))))) fun K1 =>
  if gI st 0 (0) 44 = (60 : Int32) then (
   ((lp (σ := (Int32 × Sto)) (ρ := Sto) (un2 fun (v15 : Int32) (t16 : Sto) =>
      if (60 : Int32) ≤ v15 then (
       some (.inr t16)) else (
       ck (0 ≤ v15.toInt ∧ v15.toInt < (lIM (39) (0) : Int)) (
        ck (0 ≤ (v15 - (1 : Int32)).toInt ∧ (v15 - (1 : Int32)).toInt < (lIM (39) (0) : Int)) (lt1 (sI t16 (39) (0) ((v15 - (1 : Int32)).toNatClampNeg) (gI t16 (39) (0) (v15.toNatClampNeg))) fun (t31 : Sto) =>
         ck (0 ≤ v15.toInt ∧ v15.toInt < (lIM (40) (0) : Int)) (
          ck (0 ≤ (v15 - (1 : Int32)).toInt ∧ (v15 - (1 : Int32)).toInt < (lIM (40) (0) : Int)) (lt1 (sI t31 (40) (0) ((v15 - (1 : Int32)).toNatClampNeg) (gI t31 (40) (0) (v15.toNatClampNeg))) fun (t32 : Sto) =>
           ck (0 ≤ v15.toInt ∧ v15.toInt < (lIM (41) (0) : Int)) (
            ck (0 ≤ (v15 - (1 : Int32)).toInt ∧ (v15 - (1 : Int32)).toInt < (lIM (41) (0) : Int)) (lt1 (sI t32 (41) (0) ((v15 - (1 : Int32)).toNatClampNeg) (gI t32 (41) (0) (v15.toNatClampNeg))) fun (t33 : Sto) =>
             ck (0 ≤ v15.toInt ∧ v15.toInt < (lIM (42) (0) : Int)) (
              ck (0 ≤ (v15 - (1 : Int32)).toInt ∧ (v15 - (1 : Int32)).toInt < (lIM (42) (0) : Int)) (lt1 (sI t33 (42) (0) ((v15 - (1 : Int32)).toNatClampNeg) (gI t33 (42) (0) (v15.toNatClampNeg))) fun (t34 : Sto) =>
               lt1 (v15 + Int32.ofInt (1)) fun (v35 : Int32) =>
               some (.inl (v35, t34)))))))))))) 4000 ((1 : Int32), st)).bind
    (fun (t17 : Sto) =>
     ((lp (σ := (Int32 × Sto)) (ρ := Sto) (un2 fun (v39 : Int32) (t40 : Sto) =>
        if (960 : Int32) ≤ v39 then (
         some (.inr t40)) else (
         ck (0 ≤ v39.toInt ∧ v39.toInt < (lFM (43) (0) : Int)) (
          ck (0 ≤ (v39 - (16 : Int32)).toInt ∧ (v39 - (16 : Int32)).toInt < (lFM (43) (0) : Int)) (lt1 (sF t40 (43) (0) ((v39 - (16 : Int32)).toNatClampNeg) (gF t40 (43) (0) (v39.toNatClampNeg))) fun (t43 : Sto) =>
           ck (0 ≤ v39.toInt ∧ v39.toInt < (lFM (44) (0) : Int)) (
            ck (0 ≤ (v39 - (16 : Int32)).toInt ∧ (v39 - (16 : Int32)).toInt < (lFM (44) (0) : Int)) (lt1 (sF t43 (44) (0) ((v39 - (16 : Int32)).toNatClampNeg) (gF t43 (44) (0) (v39.toNatClampNeg))) fun (t44 : Sto) =>
             lt1 (v39 + Int32.ofInt (1)) fun (v45 : Int32) =>
             some (.inl (v45, t44)))))))) 4000 ((16 : Int32), t17)).bind
      (fun (t41 : Sto) =>
       lt1 (sI t41 0 (0) 44 ((gI t41 0 (0) 44) - (1 : Int32))) fun (t46 : Sto) =>
       K1 t46))))) else (
   K1 st)
set_option maxHeartbeats 4000000 in
set_option maxRecDepth 100000 in
theorem mX12_act (l : Launch) (E : XE) (hL : LM E) (st : Sto) {a1 : Int32} {a2 : Int32} {a3 : Int32} {a4 : Int32} {st1 : Sto} (h : fX12_act a1 a2 a3 a4 st = some st1) : Met l yX12_act wsX12_act ({ frames := 0, cells := 0, slots := 0, locals := 0 }) (va_Pc [.ref (E.2.2.1 0 (0)), .int a1, .int a2, .int a3, .int a4] (RM E st)) (QM E none st1) 0 0 E.2.2.2 := by
  refine Met.ofW (cc := cX12_act) (maxL := 6) (ret := none) (by decide) rfl ?_
  intro p e s m args below meth c s₁ B hml hv
  obtain ⟨rfl, hP, hK⟩ := hv
  have hown : s.vm.findClass RX12 = some m.cls := findClass_of_methodNamed B.named
  have C0 : CX p m c cX12_act 6 s _ wsX12_act RX12 E := ⟨⟨B.exec, B.bytes, hml, hown, atoms_spec (ws := wsX12_act) B.pre⟩, hK⟩
  have hx := B.exec
  have hb := B.bytes
  have hr := B.returns
  have hlocks := B.notSynchronized
  have hw : SM E s st s.heap [] := ⟨hP, va_S.rf⟩
  have hl := lv_entry ([.ref (E.2.2.1 0 (0)), .int a1, .int a2, .int a3, .int a4]) (n := 6) (Nat.le_of_ble_eq_true rfl)
  rw [lg_entry_eq]
  generalize (lg_sl ([.ref (E.2.2.1 0 (0)), .int a1, .int a2, .int a3, .int a4]) ++ List.replicate (6 - (lg_sl ([.ref (E.2.2.1 0 (0)), .int a1, .int a2, .int a3, .int a4])).length) Slot.unset).toArray = ls at hl ⊢
  have hl : lv_has ls 6 [(0, .ref (E.2.2.1 0 (0))), (1, .int a1), (2, .int a2), (3, .int a3), (4, .int a4)] := hl
  unfold fX12_act at h
  refine lv_aload_n hx hb dX12_act_0 rfl (lv_at hl 0 rfl) ?_
  refine M_g0_44 C0 hw (fun w h => (List.mem_cons_of_mem _ (List.mem_append_right _ h))) (by decide) ((List.mem_cons_of_mem _ (List.mem_append_left _ (List.mem_of_getElem? (i := 0) rfl)))) dX12_act_1 ?_
  refine lv_bipush (v := 60) hx hb dX12_act_4 (by decide) ?_
  refine jn_c h (fun K1 hK3 h => ?_)
  have HJ2 : ∀ (t4 : Sto), K1 t4 = some st1 → ∀ (H : Heap) (locs : List Loc), SM E s t4 H locs → ∀ ls : Array Slot, lv_has ls 6 [(0, .ref (E.2.2.1 0 (0))), (1, .int a1), (2, .int a2), (3, .int a3), (4, .int a4)] → W p l e (headSpec wsX12_act ({ frames := 0, cells := 0, slots := 0, locals := 0 })).room s m ([.ref (E.2.2.1 0 (0)), .int a1, .int a2, .int a3, .int a4] : List Value).toArray below meth c H locs 0 0 (MQ below (QM E none st1) ([.ref (E.2.2.1 0 (0)), .int a1, .int a2, .int a3, .int a4] : List Value).toArray s 0 0 E.2.2.2) (F0 m 151 ls []) := by
    intro t4 h H locs hw ls hl
    have h := kk1 h hK3
    refine lv_aload_n hx hb dX12_act_151 rfl (lv_at hl 0 rfl) ?_
    refine M_g0_38 C0 hw (fun w h => (List.mem_cons_of_mem _ (List.mem_append_right _ h))) (by decide) ((List.mem_cons_of_mem _ (List.mem_append_left _ (List.mem_of_getElem? (i := 1) rfl)))) dX12_act_152 ?_
    refine lv_aload_n hx hb dX12_act_155 rfl (lv_at hl 0 rfl) ?_
    refine M_g0_44 C0 hw (fun w h => (List.mem_cons_of_mem _ (List.mem_append_right _ h))) (by decide) ((List.mem_cons_of_mem _ (List.mem_append_left _ (List.mem_of_getElem? (i := 0) rfl)))) dX12_act_156 ?_
    refine lv_iload_n hx hb dX12_act_159 rfl (lv_at hl 1 rfl) ?_
    refine M_iast hL C0 hw h (k := (gI t4 0 (0) 44).toNatClampNeg) rfl dX12_act_160 (fun t5 H locs hw h => ?_)
    refine lv_aload_n hx hb dX12_act_161 rfl (lv_at hl 0 rfl) ?_
    refine M_g0_39 C0 hw (fun w h => (List.mem_cons_of_mem _ (List.mem_append_right _ h))) (by decide) ((List.mem_cons_of_mem _ (List.mem_append_left _ (List.mem_of_getElem? (i := 2) rfl)))) dX12_act_162 ?_
    refine lv_aload_n hx hb dX12_act_165 rfl (lv_at hl 0 rfl) ?_
    refine M_g0_44 C0 hw (fun w h => (List.mem_cons_of_mem _ (List.mem_append_right _ h))) (by decide) ((List.mem_cons_of_mem _ (List.mem_append_left _ (List.mem_of_getElem? (i := 0) rfl)))) dX12_act_166 ?_
    refine lv_iload_n hx hb dX12_act_169 rfl (lv_at hl 2 rfl) ?_
    refine M_iast hL C0 hw h (k := (gI t5 0 (0) 44).toNatClampNeg) rfl dX12_act_170 (fun t6 H locs hw h => ?_)
    refine lv_aload_n hx hb dX12_act_171 rfl (lv_at hl 0 rfl) ?_
    refine M_g0_40 C0 hw (fun w h => (List.mem_cons_of_mem _ (List.mem_append_right _ h))) (by decide) ((List.mem_cons_of_mem _ (List.mem_append_left _ (List.mem_of_getElem? (i := 3) rfl)))) dX12_act_172 ?_
    refine lv_aload_n hx hb dX12_act_175 rfl (lv_at hl 0 rfl) ?_
    refine M_g0_44 C0 hw (fun w h => (List.mem_cons_of_mem _ (List.mem_append_right _ h))) (by decide) ((List.mem_cons_of_mem _ (List.mem_append_left _ (List.mem_of_getElem? (i := 0) rfl)))) dX12_act_176 ?_
    refine lv_iload_n hx hb dX12_act_179 rfl (lv_at hl 3 rfl) ?_
    refine M_iast hL C0 hw h (k := (gI t6 0 (0) 44).toNatClampNeg) rfl dX12_act_180 (fun t7 H locs hw h => ?_)
    refine lv_aload_n hx hb dX12_act_181 rfl (lv_at hl 0 rfl) ?_
    refine M_g0_41 C0 hw (fun w h => (List.mem_cons_of_mem _ (List.mem_append_right _ h))) (by decide) ((List.mem_cons_of_mem _ (List.mem_append_left _ (List.mem_of_getElem? (i := 4) rfl)))) dX12_act_182 ?_
    refine lv_aload_n hx hb dX12_act_185 rfl (lv_at hl 0 rfl) ?_
    refine M_g0_44 C0 hw (fun w h => (List.mem_cons_of_mem _ (List.mem_append_right _ h))) (by decide) ((List.mem_cons_of_mem _ (List.mem_append_left _ (List.mem_of_getElem? (i := 0) rfl)))) dX12_act_186 ?_
    refine lv_iload hx hb dX12_act_189 (lv_at hl 4 rfl) ?_
    refine M_iast hL C0 hw h (k := (gI t7 0 (0) 44).toNatClampNeg) rfl dX12_act_191 (fun t8 H locs hw h => ?_)
    refine lv_aload_n hx hb dX12_act_192 rfl (lv_at hl 0 rfl) ?_
    refine lv_dup hx hb dX12_act_193 rfl ?_
    refine M_g0_44 C0 hw (fun w h => (List.mem_cons_of_mem _ (List.mem_append_right _ h))) (by decide) ((List.mem_cons_of_mem _ (List.mem_append_left _ (List.mem_of_getElem? (i := 0) rfl)))) dX12_act_194 ?_
    refine lv_iconst (v := 1) hx hb dX12_act_197 (by decide) ?_
    refine lv_iadd hx hb dX12_act_198 ?_
    refine M_p0_44 hL C0 hw (fun w h => (List.mem_cons_of_mem _ (List.mem_append_right _ h))) (by decide) h ((List.mem_cons_of_mem _ (List.mem_append_left _ (List.mem_of_getElem? (i := 0) rfl)))) dX12_act_199 (fun t9 H locs hw h => ?_)
    refine lv_aload_n hx hb dX12_act_202 rfl (lv_at hl 0 rfl) ?_
    refine lv_iconst (v := 0) hx hb dX12_act_203 (by decide) ?_
    refine M_p0_9 hL C0 hw (fun w h => (List.mem_cons_of_mem _ (List.mem_append_right _ h))) (by decide) h ((List.mem_cons_of_mem _ (List.mem_append_left _ (List.mem_of_getElem? (i := 7) rfl)))) dX12_act_204 (fun t10 H locs hw h => ?_)
    cases h
    exact W.vret hx hb hr (M_fin C0 hw) hw.2.2.2 dX12_act_207 hlocks
  refine lv_icmp_ne (tgt := 151) hx hb dX12_act_6 (by decide) (fun hc11 => ?_) (fun hc11 => ?_)
  · have h := ifn h hc11
    exact HJ2 _ h _ _ hw _ (lv_sub hl [0, 1, 2, 3, 4] rfl)
  · have h := ifp h hc11
    refine lv_iconst (v := 1) hx hb dX12_act_9 (by decide) ?_
    refine lv_istore (lv' := [(5, .int (1 : Int32)), (0, .ref (E.2.2.1 0 (0))), (1, .int a1), (2, .int a2), (3, .int a3), (4, .int a4)]) hx hb dX12_act_10 hl (by decide) rfl (fun ls hl => ?_)
    refine lp_ind (fun q : (Int32 × Sto) => ∀ (H : Heap) (locs : List Loc), SM E s (q.2) H locs → ∀ ls : Array Slot, lv_has ls 6 [(5, .int (q.1)), (0, .ref (E.2.2.1 0 (0))), (1, .int a1), (2, .int a2), (3, .int a3), (4, .int a4)] → W p l e (headSpec wsX12_act ({ frames := 0, cells := 0, slots := 0, locals := 0 })).room s m ([.ref (E.2.2.1 0 (0)), .int a1, .int a2, .int a3, .int a4] : List Value).toArray below meth c H locs 0 0 (MQ below (QM E none st1) ([.ref (E.2.2.1 0 (0)), .int a1, .int a2, .int a3, .int a4] : List Value).toArray s 0 0 E.2.2.2) (F0 m 12 ls [])) (fun q o14 h hB13 hX12 => ?_) _ _ h _ _ hw _ (lv_sub hl [0, 1, 2, 3, 4, 5] rfl)
    intro H locs hw ls hl
    obtain ⟨v15, t16⟩ := q
    have h := un2_d h
    have hw : SM E s t16 H locs := hw
    have hl : lv_has ls 6 [(5, .int v15), (0, .ref (E.2.2.1 0 (0))), (1, .int a1), (2, .int a2), (3, .int a3), (4, .int a4)] := hl
    refine lv_iload hx hb dX12_act_12 (lv_at hl 0 rfl) ?_
    refine lv_bipush (v := 60) hx hb dX12_act_14 (by decide) ?_
    refine lv_icmp_ge (tgt := 89) hx hb dX12_act_16 (by decide) (fun hc18 => ?_) (fun hc18 => ?_)
    · have h := ifp h hc18
      have h := hX12 _ (Option.some.inj h).symm
      have hl := lv_sub hl (l' := [(0, .ref (E.2.2.1 0 (0))), (1, .int a1), (2, .int a2), (3, .int a3), (4, .int a4)]) [1, 2, 3, 4, 5] rfl
      refine lv_bipush (v := 16) hx hb dX12_act_89 (by decide) ?_
      refine lv_istore (lv' := [(5, .int (16 : Int32)), (0, .ref (E.2.2.1 0 (0))), (1, .int a1), (2, .int a2), (3, .int a3), (4, .int a4)]) hx hb dX12_act_91 hl (by decide) rfl (fun ls hl => ?_)
      refine lp_ind (fun q : (Int32 × Sto) => ∀ (H : Heap) (locs : List Loc), SM E s (q.2) H locs → ∀ ls : Array Slot, lv_has ls 6 [(5, .int (q.1)), (0, .ref (E.2.2.1 0 (0))), (1, .int a1), (2, .int a2), (3, .int a3), (4, .int a4)] → W p l e (headSpec wsX12_act ({ frames := 0, cells := 0, slots := 0, locals := 0 })).room s m ([.ref (E.2.2.1 0 (0)), .int a1, .int a2, .int a3, .int a4] : List Value).toArray below meth c H locs 0 0 (MQ below (QM E none st1) ([.ref (E.2.2.1 0 (0)), .int a1, .int a2, .int a3, .int a4] : List Value).toArray s 0 0 E.2.2.2) (F0 m 93 ls [])) (fun q o21 h hB20 hX19 => ?_) _ _ h _ _ hw _ (lv_sub hl [0, 1, 2, 3, 4, 5] rfl)
      intro H locs hw ls hl
      obtain ⟨v22, t23⟩ := q
      have h := un2_d h
      have hw : SM E s t23 H locs := hw
      have hl : lv_has ls 6 [(5, .int v22), (0, .ref (E.2.2.1 0 (0))), (1, .int a1), (2, .int a2), (3, .int a3), (4, .int a4)] := hl
      refine lv_iload hx hb dX12_act_93 (lv_at hl 0 rfl) ?_
      refine lv_sipush (v := 960) hx hb dX12_act_95 (by decide) ?_
      refine lv_icmp_ge (tgt := 141) hx hb dX12_act_98 (by decide) (fun hc25 => ?_) (fun hc25 => ?_)
      · have h := ifp h hc25
        have h := hX19 _ (Option.some.inj h).symm
        have hl := lv_sub hl (l' := [(0, .ref (E.2.2.1 0 (0))), (1, .int a1), (2, .int a2), (3, .int a3), (4, .int a4)]) [1, 2, 3, 4, 5] rfl
        refine lv_aload_n hx hb dX12_act_141 rfl (lv_at hl 0 rfl) ?_
        refine lv_dup hx hb dX12_act_142 rfl ?_
        refine M_g0_44 C0 hw (fun w h => (List.mem_cons_of_mem _ (List.mem_append_right _ h))) (by decide) ((List.mem_cons_of_mem _ (List.mem_append_left _ (List.mem_of_getElem? (i := 0) rfl)))) dX12_act_143 ?_
        refine lv_iconst (v := 1) hx hb dX12_act_146 (by decide) ?_
        refine lv_isub hx hb dX12_act_147 ?_
        refine M_p0_44 hL C0 hw (fun w h => (List.mem_cons_of_mem _ (List.mem_append_right _ h))) (by decide) h ((List.mem_cons_of_mem _ (List.mem_append_left _ (List.mem_of_getElem? (i := 0) rfl)))) dX12_act_148 (fun t26 H locs hw h => ?_)
        exact HJ2 _ h _ _ hw _ (lv_sub hl [0, 1, 2, 3, 4] rfl)
      · have h := ifn h hc25
        refine lv_aload_n hx hb dX12_act_101 rfl (lv_at hl 1 rfl) ?_
        refine M_g0_42 C0 hw (fun w h => (List.mem_cons_of_mem _ (List.mem_append_right _ h))) (by decide) ((List.mem_cons_of_mem _ (List.mem_append_left _ (List.mem_of_getElem? (i := 5) rfl)))) dX12_act_102 ?_
        refine lv_iload hx hb dX12_act_105 (lv_at hl 0 rfl) ?_
        refine lv_bipush (v := 16) hx hb dX12_act_107 (by decide) ?_
        refine lv_isub hx hb dX12_act_109 ?_
        refine lv_aload_n hx hb dX12_act_110 rfl (lv_at hl 1 rfl) ?_
        refine M_g0_42 C0 hw (fun w h => (List.mem_cons_of_mem _ (List.mem_append_right _ h))) (by decide) ((List.mem_cons_of_mem _ (List.mem_append_left _ (List.mem_of_getElem? (i := 5) rfl)))) dX12_act_111 ?_
        refine lv_iload hx hb dX12_act_114 (lv_at hl 0 rfl) ?_
        refine M_fald C0 hw h (k := v22.toNatClampNeg) rfl dX12_act_116 (fun h => ?_)
        refine M_fast hL C0 hw h (k := (v22 - (16 : Int32)).toNatClampNeg) rfl dX12_act_117 (fun t27 H locs hw h => ?_)
        refine lv_aload_n hx hb dX12_act_118 rfl (lv_at hl 1 rfl) ?_
        refine M_g0_43 C0 hw (fun w h => (List.mem_cons_of_mem _ (List.mem_append_right _ h))) (by decide) ((List.mem_cons_of_mem _ (List.mem_append_left _ (List.mem_of_getElem? (i := 6) rfl)))) dX12_act_119 ?_
        refine lv_iload hx hb dX12_act_122 (lv_at hl 0 rfl) ?_
        refine lv_bipush (v := 16) hx hb dX12_act_124 (by decide) ?_
        refine lv_isub hx hb dX12_act_126 ?_
        refine lv_aload_n hx hb dX12_act_127 rfl (lv_at hl 1 rfl) ?_
        refine M_g0_43 C0 hw (fun w h => (List.mem_cons_of_mem _ (List.mem_append_right _ h))) (by decide) ((List.mem_cons_of_mem _ (List.mem_append_left _ (List.mem_of_getElem? (i := 6) rfl)))) dX12_act_128 ?_
        refine lv_iload hx hb dX12_act_131 (lv_at hl 0 rfl) ?_
        refine M_fald C0 hw h (k := v22.toNatClampNeg) rfl dX12_act_133 (fun h => ?_)
        refine M_fast hL C0 hw h (k := (v22 - (16 : Int32)).toNatClampNeg) rfl dX12_act_134 (fun t28 H locs hw h => ?_)
        refine x_iinc hx hb h dX12_act_135 hl (q := 0) rfl (fun v29 => [(5, .int v29), (0, .ref (E.2.2.1 0 (0))), (1, .int a1), (2, .int a2), (3, .int a3), (4, .int a4)]) (by decide) (fun _ => rfl) (fun v29 ls hl h => ?_)
        refine lv_goto (tgt := 93) hx hb dX12_act_138 (by decide) ?_
        exact hB20 _ (Option.some.inj h).symm _ _ hw _ (lv_sub hl [0, 1, 2, 3, 4, 5] rfl)
    · have h := ifn h hc18
      refine lv_aload_n hx hb dX12_act_19 rfl (lv_at hl 1 rfl) ?_
      refine M_g0_38 C0 hw (fun w h => (List.mem_cons_of_mem _ (List.mem_append_right _ h))) (by decide) ((List.mem_cons_of_mem _ (List.mem_append_left _ (List.mem_of_getElem? (i := 1) rfl)))) dX12_act_20 ?_
      refine lv_iload hx hb dX12_act_23 (lv_at hl 0 rfl) ?_
      refine lv_iconst (v := 1) hx hb dX12_act_25 (by decide) ?_
      refine lv_isub hx hb dX12_act_26 ?_
      refine lv_aload_n hx hb dX12_act_27 rfl (lv_at hl 1 rfl) ?_
      refine M_g0_38 C0 hw (fun w h => (List.mem_cons_of_mem _ (List.mem_append_right _ h))) (by decide) ((List.mem_cons_of_mem _ (List.mem_append_left _ (List.mem_of_getElem? (i := 1) rfl)))) dX12_act_28 ?_
      refine lv_iload hx hb dX12_act_31 (lv_at hl 0 rfl) ?_
      refine M_iald C0 hw h (k := v15.toNatClampNeg) rfl dX12_act_33 (fun h => ?_)
      refine M_iast hL C0 hw h (k := (v15 - (1 : Int32)).toNatClampNeg) rfl dX12_act_34 (fun t31 H locs hw h => ?_)
      refine lv_aload_n hx hb dX12_act_35 rfl (lv_at hl 1 rfl) ?_
      refine M_g0_39 C0 hw (fun w h => (List.mem_cons_of_mem _ (List.mem_append_right _ h))) (by decide) ((List.mem_cons_of_mem _ (List.mem_append_left _ (List.mem_of_getElem? (i := 2) rfl)))) dX12_act_36 ?_
      refine lv_iload hx hb dX12_act_39 (lv_at hl 0 rfl) ?_
      refine lv_iconst (v := 1) hx hb dX12_act_41 (by decide) ?_
      refine lv_isub hx hb dX12_act_42 ?_
      refine lv_aload_n hx hb dX12_act_43 rfl (lv_at hl 1 rfl) ?_
      refine M_g0_39 C0 hw (fun w h => (List.mem_cons_of_mem _ (List.mem_append_right _ h))) (by decide) ((List.mem_cons_of_mem _ (List.mem_append_left _ (List.mem_of_getElem? (i := 2) rfl)))) dX12_act_44 ?_
      refine lv_iload hx hb dX12_act_47 (lv_at hl 0 rfl) ?_
      refine M_iald C0 hw h (k := v15.toNatClampNeg) rfl dX12_act_49 (fun h => ?_)
      refine M_iast hL C0 hw h (k := (v15 - (1 : Int32)).toNatClampNeg) rfl dX12_act_50 (fun t32 H locs hw h => ?_)
      refine lv_aload_n hx hb dX12_act_51 rfl (lv_at hl 1 rfl) ?_
      refine M_g0_40 C0 hw (fun w h => (List.mem_cons_of_mem _ (List.mem_append_right _ h))) (by decide) ((List.mem_cons_of_mem _ (List.mem_append_left _ (List.mem_of_getElem? (i := 3) rfl)))) dX12_act_52 ?_
      refine lv_iload hx hb dX12_act_55 (lv_at hl 0 rfl) ?_
      refine lv_iconst (v := 1) hx hb dX12_act_57 (by decide) ?_
      refine lv_isub hx hb dX12_act_58 ?_
      refine lv_aload_n hx hb dX12_act_59 rfl (lv_at hl 1 rfl) ?_
      refine M_g0_40 C0 hw (fun w h => (List.mem_cons_of_mem _ (List.mem_append_right _ h))) (by decide) ((List.mem_cons_of_mem _ (List.mem_append_left _ (List.mem_of_getElem? (i := 3) rfl)))) dX12_act_60 ?_
      refine lv_iload hx hb dX12_act_63 (lv_at hl 0 rfl) ?_
      refine M_iald C0 hw h (k := v15.toNatClampNeg) rfl dX12_act_65 (fun h => ?_)
      refine M_iast hL C0 hw h (k := (v15 - (1 : Int32)).toNatClampNeg) rfl dX12_act_66 (fun t33 H locs hw h => ?_)
      refine lv_aload_n hx hb dX12_act_67 rfl (lv_at hl 1 rfl) ?_
      refine M_g0_41 C0 hw (fun w h => (List.mem_cons_of_mem _ (List.mem_append_right _ h))) (by decide) ((List.mem_cons_of_mem _ (List.mem_append_left _ (List.mem_of_getElem? (i := 4) rfl)))) dX12_act_68 ?_
      refine lv_iload hx hb dX12_act_71 (lv_at hl 0 rfl) ?_
      refine lv_iconst (v := 1) hx hb dX12_act_73 (by decide) ?_
      refine lv_isub hx hb dX12_act_74 ?_
      refine lv_aload_n hx hb dX12_act_75 rfl (lv_at hl 1 rfl) ?_
      refine M_g0_41 C0 hw (fun w h => (List.mem_cons_of_mem _ (List.mem_append_right _ h))) (by decide) ((List.mem_cons_of_mem _ (List.mem_append_left _ (List.mem_of_getElem? (i := 4) rfl)))) dX12_act_76 ?_
      refine lv_iload hx hb dX12_act_79 (lv_at hl 0 rfl) ?_
      refine M_iald C0 hw h (k := v15.toNatClampNeg) rfl dX12_act_81 (fun h => ?_)
      refine M_iast hL C0 hw h (k := (v15 - (1 : Int32)).toNatClampNeg) rfl dX12_act_82 (fun t34 H locs hw h => ?_)
      refine x_iinc hx hb h dX12_act_83 hl (q := 0) rfl (fun v35 => [(5, .int v35), (0, .ref (E.2.2.1 0 (0))), (1, .int a1), (2, .int a2), (3, .int a3), (4, .int a4)]) (by decide) (fun _ => rfl) (fun v35 ls hl h => ?_)
      refine lv_goto (tgt := 12) hx hb dX12_act_86 (by decide) ?_
      exact hB13 _ (Option.some.inj h).symm _ _ hw _ (lv_sub hl [0, 1, 2, 3, 4, 5] rfl)

def fX12_note (a1 : Int32) (a2 : Int32) (st : Sto) : Option Sto :=
  ((lp (σ := (Int32 × Sto)) (ρ := Sto) (un2 fun (v4 : Int32) (t5 : Sto) =>
     if (16 : Int32) ≤ v4 then (
      some (.inr t5)) else (
      ck (0 ≤ (((16 : Int32) * a1) + v4).toInt ∧ (((16 : Int32) * a1) + v4).toInt < (lFM (1) (0) : Int)) (
       ck (0 ≤ (((16 : Int32) * ((gI t5 0 (0) 44) - (1 : Int32))) + v4).toInt ∧ (((16 : Int32) * ((gI t5 0 (0) 44) - (1 : Int32))) + v4).toInt < (lFM (43) (0) : Int)) (lt1 (sF t5 (43) (0) ((((16 : Int32) * ((gI t5 0 (0) 44) - (1 : Int32))) + v4).toNatClampNeg) (gF t5 (1) (0) ((((16 : Int32) * a1) + v4).toNatClampNeg))) fun (t8 : Sto) =>
        if a2 < 0 then (
         lt1 (v4 + Int32.ofInt (1)) fun (v10 : Int32) =>
         some (.inl (v10, t8))) else (
         ck (0 ≤ (((16 : Int32) * a2) + v4).toInt ∧ (((16 : Int32) * a2) + v4).toInt < (lFM (2) (0) : Int)) (
          ck (0 ≤ (((16 : Int32) * ((gI t8 0 (0) 44) - (1 : Int32))) + v4).toInt ∧ (((16 : Int32) * ((gI t8 0 (0) 44) - (1 : Int32))) + v4).toInt < (lFM (44) (0) : Int)) (lt1 (sF t8 (44) (0) ((((16 : Int32) * ((gI t8 0 (0) 44) - (1 : Int32))) + v4).toNatClampNeg) (gF t8 (2) (0) ((((16 : Int32) * a2) + v4).toNatClampNeg))) fun (t11 : Sto) =>
           lt1 (v4 + Int32.ofInt (1)) fun (v12 : Int32) =>
           some (.inl (v12, t11))))))))) 4000 ((0 : Int32), st)).bind
   (fun (t6 : Sto) =>
    some t6))
set_option maxHeartbeats 4000000 in
set_option maxRecDepth 100000 in
theorem mX12_note (l : Launch) (E : XE) (hL : LM E) (st : Sto) {a1 : Int32} {a2 : Int32} {st1 : Sto} (h : fX12_note a1 a2 st = some st1) : Met l yX12_note wsX12_note ({ frames := 0, cells := 0, slots := 0, locals := 0 }) (va_Pc [.ref (E.2.2.1 0 (0)), .int a1, .int a2] (RM E st)) (QM E none st1) 0 0 E.2.2.2 := by
  refine Met.ofW (cc := cX12_note) (maxL := 4) (ret := none) (by decide) rfl ?_
  intro p e s m args below meth c s₁ B hml hv
  obtain ⟨rfl, hP, hK⟩ := hv
  have hown : s.vm.findClass RX12 = some m.cls := findClass_of_methodNamed B.named
  have C0 : CX p m c cX12_note 4 s _ wsX12_note RX12 E := ⟨⟨B.exec, B.bytes, hml, hown, atoms_spec (ws := wsX12_note) B.pre⟩, hK⟩
  have hx := B.exec
  have hb := B.bytes
  have hr := B.returns
  have hlocks := B.notSynchronized
  have hw : SM E s st s.heap [] := ⟨hP, va_S.rf⟩
  have hl := lv_entry ([.ref (E.2.2.1 0 (0)), .int a1, .int a2]) (n := 4) (Nat.le_of_ble_eq_true rfl)
  rw [lg_entry_eq]
  generalize (lg_sl ([.ref (E.2.2.1 0 (0)), .int a1, .int a2]) ++ List.replicate (4 - (lg_sl ([.ref (E.2.2.1 0 (0)), .int a1, .int a2])).length) Slot.unset).toArray = ls at hl ⊢
  have hl : lv_has ls 4 [(0, .ref (E.2.2.1 0 (0))), (1, .int a1), (2, .int a2)] := hl
  unfold fX12_note at h
  refine lv_iconst (v := 0) hx hb dX12_note_0 (by decide) ?_
  refine lv_istore_n (lv' := [(3, .int (0 : Int32)), (0, .ref (E.2.2.1 0 (0))), (1, .int a1), (2, .int a2)]) hx hb dX12_note_1 rfl hl (by decide) rfl (fun ls hl => ?_)
  refine lp_ind (fun q : (Int32 × Sto) => ∀ (H : Heap) (locs : List Loc), SM E s (q.2) H locs → ∀ ls : Array Slot, lv_has ls 4 [(3, .int (q.1)), (0, .ref (E.2.2.1 0 (0))), (1, .int a1), (2, .int a2)] → W p l e (headSpec wsX12_note ({ frames := 0, cells := 0, slots := 0, locals := 0 })).room s m ([.ref (E.2.2.1 0 (0)), .int a1, .int a2] : List Value).toArray below meth c H locs 0 0 (MQ below (QM E none st1) ([.ref (E.2.2.1 0 (0)), .int a1, .int a2] : List Value).toArray s 0 0 E.2.2.2) (F0 m 2 ls [])) (fun q o3 h hB2 hX1 => ?_) _ _ h _ _ hw _ (lv_sub hl [0, 1, 2, 3] rfl)
  intro H locs hw ls hl
  obtain ⟨v4, t5⟩ := q
  have h := un2_d h
  have hw : SM E s t5 H locs := hw
  have hl : lv_has ls 4 [(3, .int v4), (0, .ref (E.2.2.1 0 (0))), (1, .int a1), (2, .int a2)] := hl
  refine lv_iload_n hx hb dX12_note_2 rfl (lv_at hl 0 rfl) ?_
  refine lv_bipush (v := 16) hx hb dX12_note_3 (by decide) ?_
  refine lv_icmp_ge (tgt := 72) hx hb dX12_note_5 (by decide) (fun hc7 => ?_) (fun hc7 => ?_)
  · have h := ifp h hc7
    have h := hX1 _ (Option.some.inj h).symm
    have hl := lv_sub hl (l' := []) [] rfl
    cases h
    exact W.vret hx hb hr (M_fin C0 hw) hw.2.2.2 dX12_note_72 hlocks
  · have h := ifn h hc7
    refine lv_aload_n hx hb dX12_note_8 rfl (lv_at hl 1 rfl) ?_
    refine M_g0_42 C0 hw (fun w h => (List.mem_cons_of_mem _ (List.mem_append_right _ h))) (by decide) ((List.mem_cons_of_mem _ (List.mem_append_left _ (List.mem_of_getElem? (i := 0) rfl)))) dX12_note_9 ?_
    refine lv_bipush (v := 16) hx hb dX12_note_12 (by decide) ?_
    refine lv_aload_n hx hb dX12_note_14 rfl (lv_at hl 1 rfl) ?_
    refine M_g0_44 C0 hw (fun w h => (List.mem_cons_of_mem _ (List.mem_append_right _ h))) (by decide) ((List.mem_cons_of_mem _ (List.mem_append_left _ (List.mem_of_getElem? (i := 1) rfl)))) dX12_note_15 ?_
    refine lv_iconst (v := 1) hx hb dX12_note_18 (by decide) ?_
    refine lv_isub hx hb dX12_note_19 ?_
    refine lv_imul hx hb dX12_note_20 ?_
    refine lv_iload_n hx hb dX12_note_21 rfl (lv_at hl 0 rfl) ?_
    refine lv_iadd hx hb dX12_note_22 ?_
    refine lv_aload_n hx hb dX12_note_23 rfl (lv_at hl 1 rfl) ?_
    refine M_g0_0 C0 hw (fun w h => (List.mem_cons_of_mem _ (List.mem_append_right _ h))) (by decide) ((List.mem_cons_of_mem _ (List.mem_append_left _ (List.mem_of_getElem? (i := 2) rfl)))) dX12_note_24 ?_
    refine lv_bipush (v := 16) hx hb dX12_note_27 (by decide) ?_
    refine lv_iload_n hx hb dX12_note_29 rfl (lv_at hl 2 rfl) ?_
    refine lv_imul hx hb dX12_note_30 ?_
    refine lv_iload_n hx hb dX12_note_31 rfl (lv_at hl 0 rfl) ?_
    refine lv_iadd hx hb dX12_note_32 ?_
    refine M_fald C0 hw h (k := (((16 : Int32) * a1) + v4).toNatClampNeg) rfl dX12_note_33 (fun h => ?_)
    refine M_fast hL C0 hw h (k := (((16 : Int32) * ((gI t5 0 (0) 44) - (1 : Int32))) + v4).toNatClampNeg) rfl dX12_note_34 (fun t8 H locs hw h => ?_)
    refine lv_iload_n hx hb dX12_note_35 rfl (lv_at hl 3 rfl) ?_
    refine lv_if_lt (tgt := 66) hx hb dX12_note_36 (by decide) (fun hc9 => ?_) (fun hc9 => ?_)
    · have h := ifp h hc9
      refine x_iinc hx hb h dX12_note_66 hl (q := 0) rfl (fun v10 => [(3, .int v10), (0, .ref (E.2.2.1 0 (0))), (1, .int a1), (2, .int a2)]) (by decide) (fun _ => rfl) (fun v10 ls hl h => ?_)
      refine lv_goto (tgt := 2) hx hb dX12_note_69 (by decide) ?_
      exact hB2 _ (Option.some.inj h).symm _ _ hw _ (lv_sub hl [0, 1, 2, 3] rfl)
    · have h := ifn h hc9
      refine lv_aload_n hx hb dX12_note_39 rfl (lv_at hl 1 rfl) ?_
      refine M_g0_43 C0 hw (fun w h => (List.mem_cons_of_mem _ (List.mem_append_right _ h))) (by decide) ((List.mem_cons_of_mem _ (List.mem_append_left _ (List.mem_of_getElem? (i := 3) rfl)))) dX12_note_40 ?_
      refine lv_bipush (v := 16) hx hb dX12_note_43 (by decide) ?_
      refine lv_aload_n hx hb dX12_note_45 rfl (lv_at hl 1 rfl) ?_
      refine M_g0_44 C0 hw (fun w h => (List.mem_cons_of_mem _ (List.mem_append_right _ h))) (by decide) ((List.mem_cons_of_mem _ (List.mem_append_left _ (List.mem_of_getElem? (i := 1) rfl)))) dX12_note_46 ?_
      refine lv_iconst (v := 1) hx hb dX12_note_49 (by decide) ?_
      refine lv_isub hx hb dX12_note_50 ?_
      refine lv_imul hx hb dX12_note_51 ?_
      refine lv_iload_n hx hb dX12_note_52 rfl (lv_at hl 0 rfl) ?_
      refine lv_iadd hx hb dX12_note_53 ?_
      refine lv_aload_n hx hb dX12_note_54 rfl (lv_at hl 1 rfl) ?_
      refine M_g0_1 C0 hw (fun w h => (List.mem_cons_of_mem _ (List.mem_append_right _ h))) (by decide) ((List.mem_cons_of_mem _ (List.mem_append_left _ (List.mem_of_getElem? (i := 4) rfl)))) dX12_note_55 ?_
      refine lv_bipush (v := 16) hx hb dX12_note_58 (by decide) ?_
      refine lv_iload_n hx hb dX12_note_60 rfl (lv_at hl 3 rfl) ?_
      refine lv_imul hx hb dX12_note_61 ?_
      refine lv_iload_n hx hb dX12_note_62 rfl (lv_at hl 0 rfl) ?_
      refine lv_iadd hx hb dX12_note_63 ?_
      refine M_fald C0 hw h (k := (((16 : Int32) * a2) + v4).toNatClampNeg) rfl dX12_note_64 (fun h => ?_)
      refine M_fast hL C0 hw h (k := (((16 : Int32) * ((gI t8 0 (0) 44) - (1 : Int32))) + v4).toNatClampNeg) rfl dX12_note_65 (fun t11 H locs hw h => ?_)
      refine x_iinc hx hb h dX12_note_66 hl (q := 0) rfl (fun v12 => [(3, .int v12), (0, .ref (E.2.2.1 0 (0))), (1, .int a1), (2, .int a2)]) (by decide) (fun _ => rfl) (fun v12 ls hl h => ?_)
      refine lv_goto (tgt := 2) hx hb dX12_note_69 (by decide) ?_
      exact hB2 _ (Option.some.inj h).symm _ _ hw _ (lv_sub hl [0, 1, 2, 3] rfl)

def fX12_slotOf (a1 : Int32) (a2 : Int32) (st : Sto) : Option Int32 :=
  ((lp (σ := Int32) (ρ := Int32) (fun (v4 : Int32) =>
     ck (0 ≤ a1.toInt ∧ a1.toInt < (lIM (23) (0) : Int)) (
      if gI st (23) (0) (a1.toNatClampNeg) ≤ v4 then (
       some (.inr v4)) else (
       ck (0 ≤ (((8 : Int32) * a1) + v4).toInt ∧ (((8 : Int32) * a1) + v4).toInt < (lIM (24) (0) : Int)) (
        if gI st (24) (0) ((((8 : Int32) * a1) + v4).toNatClampNeg) = a2 then (
         some (.inr v4)) else (
         lt1 (v4 + Int32.ofInt (1)) fun (v11 : Int32) =>
         some (.inl v11)))))) 4000 (0 : Int32)).bind
   (fun (v5 : Int32) =>
    some v5))
set_option maxHeartbeats 4000000 in
set_option maxRecDepth 100000 in
theorem mX12_slotOf (l : Launch) (E : XE) (hL : LM E) (st : Sto) {a1 : Int32} {a2 : Int32} {r : Int32} (h : fX12_slotOf a1 a2 st = some r) : Met l yX12_slotOf wsX12_slotOf ({ frames := 0, cells := 0, slots := 0, locals := 0 }) (va_Pc [.ref (E.2.2.1 0 (0)), .int a1, .int a2] (RM E st)) (QM E (some (.int r)) st) 0 0 E.2.2.2 := by
  refine Met.ofW (cc := cX12_slotOf) (maxL := 4) (ret := (some .int)) (by decide) rfl ?_
  intro p e s m args below meth c s₁ B hml hv
  obtain ⟨rfl, hP, hK⟩ := hv
  have hown : s.vm.findClass RX12 = some m.cls := findClass_of_methodNamed B.named
  have C0 : CX p m c cX12_slotOf 4 s _ wsX12_slotOf RX12 E := ⟨⟨B.exec, B.bytes, hml, hown, atoms_spec (ws := wsX12_slotOf) B.pre⟩, hK⟩
  have hx := B.exec
  have hb := B.bytes
  have hr := B.returns
  have hlocks := B.notSynchronized
  have hw : SM E s st s.heap [] := ⟨hP, va_S.rf⟩
  have hl := lv_entry ([.ref (E.2.2.1 0 (0)), .int a1, .int a2]) (n := 4) (Nat.le_of_ble_eq_true rfl)
  rw [lg_entry_eq]
  generalize (lg_sl ([.ref (E.2.2.1 0 (0)), .int a1, .int a2]) ++ List.replicate (4 - (lg_sl ([.ref (E.2.2.1 0 (0)), .int a1, .int a2])).length) Slot.unset).toArray = ls at hl ⊢
  have hl : lv_has ls 4 [(0, .ref (E.2.2.1 0 (0))), (1, .int a1), (2, .int a2)] := hl
  unfold fX12_slotOf at h
  refine lv_iconst (v := 0) hx hb dX12_slotOf_0 (by decide) ?_
  refine lv_istore_n (lv' := [(3, .int (0 : Int32)), (0, .ref (E.2.2.1 0 (0))), (1, .int a1), (2, .int a2)]) hx hb dX12_slotOf_1 rfl hl (by decide) rfl (fun ls hl => ?_)
  refine bn_K h (fun K6 hK7 h => ?_)
  have HX8 : ∀ (v5 : Int32), K6 v5 = some r → ∀ (H : Heap) (locs : List Loc), SM E s st H locs → ∀ ls : Array Slot, lv_has ls 4 [(3, .int v5)] → W p l e (headSpec wsX12_slotOf ({ frames := 0, cells := 0, slots := 0, locals := 0 })).room s m ([.ref (E.2.2.1 0 (0)), .int a1, .int a2] : List Value).toArray below meth c H locs 0 0 (MQ below (QM E (some (.int r)) st) ([.ref (E.2.2.1 0 (0)), .int a1, .int a2] : List Value).toArray s 0 0 E.2.2.2) (F0 m 33 ls []) := by
    intro v5 h H locs hw ls hl
    have h := kk1 h hK7
    refine lv_iload_n hx hb dX12_slotOf_33 rfl (lv_at hl 0 rfl) ?_
    cases h
    exact W.iret hx hb hr (M_fin C0 hw) hw.2.2.2 dX12_slotOf_34 hlocks
  refine lp_ind (fun q : Int32 => ∀ (H : Heap) (locs : List Loc), SM E s st H locs → ∀ ls : Array Slot, lv_has ls 4 [(3, .int q), (0, .ref (E.2.2.1 0 (0))), (1, .int a1), (2, .int a2)] → W p l e (headSpec wsX12_slotOf ({ frames := 0, cells := 0, slots := 0, locals := 0 })).room s m ([.ref (E.2.2.1 0 (0)), .int a1, .int a2] : List Value).toArray below meth c H locs 0 0 (MQ below (QM E (some (.int r)) st) ([.ref (E.2.2.1 0 (0)), .int a1, .int a2] : List Value).toArray s 0 0 E.2.2.2) (F0 m 2 ls [])) (fun q o3 h hB2 hX1 => ?_) _ _ h _ _ hw _ (lv_sub hl [0, 1, 2, 3] rfl)
  intro H locs hw ls hl
  obtain ⟨v4, rfl⟩ : ∃ z, z = q := ⟨_, rfl⟩
  have hl : lv_has ls 4 [(3, .int v4), (0, .ref (E.2.2.1 0 (0))), (1, .int a1), (2, .int a2)] := hl
  refine lv_iload_n hx hb dX12_slotOf_2 rfl (lv_at hl 0 rfl) ?_
  refine lv_aload_n hx hb dX12_slotOf_3 rfl (lv_at hl 1 rfl) ?_
  refine M_g0_22 C0 hw (fun w h => (List.mem_cons_of_mem _ (List.mem_append_right _ h))) (by decide) ((List.mem_cons_of_mem _ (List.mem_append_left _ (List.mem_of_getElem? (i := 0) rfl)))) dX12_slotOf_4 ?_
  refine lv_iload_n hx hb dX12_slotOf_7 rfl (lv_at hl 2 rfl) ?_
  refine M_iald C0 hw h (k := a1.toNatClampNeg) rfl dX12_slotOf_8 (fun h => ?_)
  refine lv_icmp_ge (tgt := 33) hx hb dX12_slotOf_9 (by decide) (fun hc9 => ?_) (fun hc9 => ?_)
  · have h := ifp h hc9
    have h := hX1 _ (Option.some.inj h).symm
    exact HX8 _ h _ _ hw _ (lv_sub hl [0] rfl)
  · have h := ifn h hc9
    refine lv_aload_n hx hb dX12_slotOf_12 rfl (lv_at hl 1 rfl) ?_
    refine M_g0_23 C0 hw (fun w h => (List.mem_cons_of_mem _ (List.mem_append_right _ h))) (by decide) ((List.mem_cons_of_mem _ (List.mem_append_left _ (List.mem_of_getElem? (i := 1) rfl)))) dX12_slotOf_13 ?_
    refine lv_bipush (v := 8) hx hb dX12_slotOf_16 (by decide) ?_
    refine lv_iload_n hx hb dX12_slotOf_18 rfl (lv_at hl 2 rfl) ?_
    refine lv_imul hx hb dX12_slotOf_19 ?_
    refine lv_iload_n hx hb dX12_slotOf_20 rfl (lv_at hl 0 rfl) ?_
    refine lv_iadd hx hb dX12_slotOf_21 ?_
    refine M_iald C0 hw h (k := (((8 : Int32) * a1) + v4).toNatClampNeg) rfl dX12_slotOf_22 (fun h => ?_)
    refine lv_iload_n hx hb dX12_slotOf_23 rfl (lv_at hl 3 rfl) ?_
    refine lv_icmp_eq (tgt := 33) hx hb dX12_slotOf_24 (by decide) (fun hc10 => ?_) (fun hc10 => ?_)
    · have h := ifp h hc10
      have h := hX1 _ (Option.some.inj h).symm
      exact HX8 _ h _ _ hw _ (lv_sub hl [0] rfl)
    · have h := ifn h hc10
      refine x_iinc hx hb h dX12_slotOf_27 hl (q := 0) rfl (fun v11 => [(3, .int v11), (0, .ref (E.2.2.1 0 (0))), (1, .int a1), (2, .int a2)]) (by decide) (fun _ => rfl) (fun v11 ls hl h => ?_)
      refine lv_goto (tgt := 2) hx hb dX12_slotOf_30 (by decide) ?_
      exact hB2 _ (Option.some.inj h).symm _ _ hw _ (lv_sub hl [0, 1, 2, 3] rfl)

def fX12_unweigh (a1 : Int32) (a2 : Int32) (a3 : Int32) (st : Sto) : Option Sto :=
  ck (0 ≤ a2.toInt ∧ a2.toInt < (lIM (20) (0) : Int)) (
   ck (0 ≤ a2.toInt ∧ a2.toInt < (lIM (20) (0) : Int)) (lt1 (sI st (20) (0) (a2.toNatClampNeg) ((gI st (20) (0) (a2.toNatClampNeg)) + ((1000 : Int32) * a3))) fun (t1 : Sto) =>
    (fX12_slotOf a1 a2 t1).bind (fun (v2 : Int32) =>
     ck (0 ≤ (((8 : Int32) * a1) + v2).toInt ∧ (((8 : Int32) * a1) + v2).toInt < (lIM (25) (0) : Int)) (
      ck (0 ≤ (((8 : Int32) * a1) + v2).toInt ∧ (((8 : Int32) * a1) + v2).toInt < (lIM (25) (0) : Int)) (lt1 (sI t1 (25) (0) ((((8 : Int32) * a1) + v2).toNatClampNeg) ((gI t1 (25) (0) ((((8 : Int32) * a1) + v2).toNatClampNeg)) - a3)) fun (t4 : Sto) =>
       ck (0 ≤ (((8 : Int32) * a1) + v2).toInt ∧ (((8 : Int32) * a1) + v2).toInt < (lIM (25) (0) : Int)) (
        if gI t4 (25) (0) ((((8 : Int32) * a1) + v2).toNatClampNeg) = 0 then (
         ck (0 ≤ a1.toInt ∧ a1.toInt < (lIM (23) (0) : Int)) (
          ck (0 ≤ a1.toInt ∧ a1.toInt < (lIM (23) (0) : Int)) (lt1 (sI t4 (23) (0) (a1.toNatClampNeg) ((gI t4 (23) (0) (a1.toNatClampNeg)) - (1 : Int32))) fun (t6 : Sto) =>
           some t6))) else (
         some t4)))))))
set_option maxHeartbeats 4000000 in
set_option maxRecDepth 100000 in
theorem mX12_unweigh (l : Launch) (E : XE) (hL : LM E) (st : Sto) {a1 : Int32} {a2 : Int32} {a3 : Int32} {st1 : Sto} (h : fX12_unweigh a1 a2 a3 st = some st1) : Met l yX12_unweigh wsX12_unweigh ({ frames := 1, cells := 0, slots := 0, locals := 23 }) (va_Pc [.ref (E.2.2.1 0 (0)), .int a1, .int a2, .int a3] (RM E st)) (QM E none st1) 0 0 E.2.2.2 := by
  refine Met.ofW (cc := cX12_unweigh) (maxL := 5) (ret := none) (by decide) rfl ?_
  intro p e s m args below meth c s₁ B hml hv
  obtain ⟨rfl, hP, hK⟩ := hv
  have hown : s.vm.findClass RX12 = some m.cls := findClass_of_methodNamed B.named
  have C0 : CX p m c cX12_unweigh 5 s _ wsX12_unweigh RX12 E := ⟨⟨B.exec, B.bytes, hml, hown, atoms_spec (ws := wsX12_unweigh) B.pre⟩, hK⟩
  have hx := B.exec
  have hb := B.bytes
  have hr := B.returns
  have hlocks := B.notSynchronized
  have hw : SM E s st s.heap [] := ⟨hP, va_S.rf⟩
  have hl := lv_entry ([.ref (E.2.2.1 0 (0)), .int a1, .int a2, .int a3]) (n := 5) (Nat.le_of_ble_eq_true rfl)
  rw [lg_entry_eq]
  generalize (lg_sl ([.ref (E.2.2.1 0 (0)), .int a1, .int a2, .int a3]) ++ List.replicate (5 - (lg_sl ([.ref (E.2.2.1 0 (0)), .int a1, .int a2, .int a3])).length) Slot.unset).toArray = ls at hl ⊢
  have hl : lv_has ls 5 [(0, .ref (E.2.2.1 0 (0))), (1, .int a1), (2, .int a2), (3, .int a3)] := hl
  unfold fX12_unweigh at h
  refine lv_aload_n hx hb dX12_unweigh_0 rfl (lv_at hl 0 rfl) ?_
  refine M_g0_19 C0 hw (fun w h => (List.mem_cons_of_mem _ (List.mem_append_right _ h))) (by decide) ((List.mem_cons_of_mem _ (List.mem_append_left _ (List.mem_of_getElem? (i := 0) rfl)))) dX12_unweigh_1 ?_
  refine lv_iload_n hx hb dX12_unweigh_4 rfl (lv_at hl 2 rfl) ?_
  refine lv_dup2_11 hx hb dX12_unweigh_5 rfl rfl ?_
  refine M_iald C0 hw h (k := a2.toNatClampNeg) rfl dX12_unweigh_6 (fun h => ?_)
  refine lv_sipush (v := 1000) hx hb dX12_unweigh_7 (by decide) ?_
  refine lv_iload_n hx hb dX12_unweigh_10 rfl (lv_at hl 3 rfl) ?_
  refine lv_imul hx hb dX12_unweigh_11 ?_
  refine lv_iadd hx hb dX12_unweigh_12 ?_
  refine M_iast hL C0 hw h (k := a2.toNatClampNeg) rfl dX12_unweigh_13 (fun t1 H locs hw h => ?_)
  refine lv_aload_n hx hb dX12_unweigh_14 rfl (lv_at hl 0 rfl) ?_
  refine lv_iload_n hx hb dX12_unweigh_15 rfl (lv_at hl 1 rfl) ?_
  refine lv_iload_n hx hb dX12_unweigh_16 rfl (lv_at hl 2 rfl) ?_
  obtain ⟨v2, hf3, h⟩ := bn_c h
  refine M_callV C0 hw (As := [.int a1, .int a2]) (rest := []) (mX12_slotOf l E hL t1 hf3) (cwV 2 C0.1.2.2.2.2 gX12_unweigh_X12_slotOf rfl rfl rfl (by decide +kernel) ⟨Nat.le_of_ble_eq_true rfl, Nat.le_of_ble_eq_true rfl⟩) (M_recv_0 C0 hw (by decide)) rfl hl.1 rfl (Nat.le_of_ble_eq_true rfl) dX12_unweigh_17 ⟨Nat.zero_le _, Nat.zero_le _⟩ (fun H locs hw => ?_)
  refine W.eq (g2 := F0 m 20 ls [.int v2]) rfl ?_
  refine lv_istore (lv' := [(4, .int v2), (0, .ref (E.2.2.1 0 (0))), (1, .int a1), (2, .int a2), (3, .int a3)]) hx hb dX12_unweigh_20 hl (by decide) rfl (fun ls hl => ?_)
  refine lv_aload_n hx hb dX12_unweigh_22 rfl (lv_at hl 1 rfl) ?_
  refine M_g0_24 C0 hw (fun w h => (List.mem_cons_of_mem _ (List.mem_append_right _ h))) (by decide) ((List.mem_cons_of_mem _ (List.mem_append_left _ (List.mem_of_getElem? (i := 1) rfl)))) dX12_unweigh_23 ?_
  refine lv_bipush (v := 8) hx hb dX12_unweigh_26 (by decide) ?_
  refine lv_iload_n hx hb dX12_unweigh_28 rfl (lv_at hl 2 rfl) ?_
  refine lv_imul hx hb dX12_unweigh_29 ?_
  refine lv_iload hx hb dX12_unweigh_30 (lv_at hl 0 rfl) ?_
  refine lv_iadd hx hb dX12_unweigh_32 ?_
  refine lv_dup2_11 hx hb dX12_unweigh_33 rfl rfl ?_
  refine M_iald C0 hw h (k := (((8 : Int32) * a1) + v2).toNatClampNeg) rfl dX12_unweigh_34 (fun h => ?_)
  refine lv_iload_n hx hb dX12_unweigh_35 rfl (lv_at hl 4 rfl) ?_
  refine lv_isub hx hb dX12_unweigh_36 ?_
  refine M_iast hL C0 hw h (k := (((8 : Int32) * a1) + v2).toNatClampNeg) rfl dX12_unweigh_37 (fun t4 H locs hw h => ?_)
  refine lv_aload_n hx hb dX12_unweigh_38 rfl (lv_at hl 1 rfl) ?_
  refine M_g0_24 C0 hw (fun w h => (List.mem_cons_of_mem _ (List.mem_append_right _ h))) (by decide) ((List.mem_cons_of_mem _ (List.mem_append_left _ (List.mem_of_getElem? (i := 1) rfl)))) dX12_unweigh_39 ?_
  refine lv_bipush (v := 8) hx hb dX12_unweigh_42 (by decide) ?_
  refine lv_iload_n hx hb dX12_unweigh_44 rfl (lv_at hl 2 rfl) ?_
  refine lv_imul hx hb dX12_unweigh_45 ?_
  refine lv_iload hx hb dX12_unweigh_46 (lv_at hl 0 rfl) ?_
  refine lv_iadd hx hb dX12_unweigh_48 ?_
  refine M_iald C0 hw h (k := (((8 : Int32) * a1) + v2).toNatClampNeg) rfl dX12_unweigh_49 (fun h => ?_)
  refine lv_if_ne (tgt := 63) hx hb dX12_unweigh_50 (by decide) (fun hc5 => ?_) (fun hc5 => ?_)
  · have h := ifn h hc5
    cases h
    exact W.vret hx hb hr (M_fin C0 hw) hw.2.2.2 dX12_unweigh_63 hlocks
  · have h := ifp h hc5
    refine lv_aload_n hx hb dX12_unweigh_53 rfl (lv_at hl 1 rfl) ?_
    refine M_g0_22 C0 hw (fun w h => (List.mem_cons_of_mem _ (List.mem_append_right _ h))) (by decide) ((List.mem_cons_of_mem _ (List.mem_append_left _ (List.mem_of_getElem? (i := 2) rfl)))) dX12_unweigh_54 ?_
    refine lv_iload_n hx hb dX12_unweigh_57 rfl (lv_at hl 2 rfl) ?_
    refine lv_dup2_11 hx hb dX12_unweigh_58 rfl rfl ?_
    refine M_iald C0 hw h (k := a1.toNatClampNeg) rfl dX12_unweigh_59 (fun h => ?_)
    refine lv_iconst (v := 1) hx hb dX12_unweigh_60 (by decide) ?_
    refine lv_isub hx hb dX12_unweigh_61 ?_
    refine M_iast hL C0 hw h (k := a1.toNatClampNeg) rfl dX12_unweigh_62 (fun t6 H locs hw h => ?_)
    cases h
    exact W.vret hx hb hr (M_fin C0 hw) hw.2.2.2 dX12_unweigh_63 hlocks

def fX12_undo (st : Sto) : Option (Int32 × Sto) :=
  lt1 (sI st 0 (0) 10 (0 : Int32)) fun (t1 : Sto) =>
  if gI t1 0 (0) 44 = 0 then (
   some ((0 : Int32), t1)) else (
   lt1 (sI t1 0 (0) 44 ((gI t1 0 (0) 44) - (1 : Int32))) fun (t3 : Sto) =>
   ck (0 ≤ (gI t3 0 (0) 44).toInt ∧ (gI t3 0 (0) 44).toInt < (lIM (40) (0) : Int)) (
    lt1 (gI t3 (40) (0) ((gI t3 0 (0) 44).toNatClampNeg)) fun (v4 : Int32) =>
    ck (0 ≤ (gI t3 0 (0) 44).toInt ∧ (gI t3 0 (0) 44).toInt < (lIM (41) (0) : Int)) (
     lt1 (gI t3 (41) (0) ((gI t3 0 (0) 44).toNatClampNeg)) fun (v5 : Int32) =>
     ck (0 ≤ (gI t3 0 (0) 44).toInt ∧ (gI t3 0 (0) 44).toInt < (lIM (42) (0) : Int)) (
      lt1 (gI t3 (42) (0) ((gI t3 0 (0) 44).toNatClampNeg)) fun (v6 : Int32) =>
      ck (0 ≤ (gI t3 0 (0) 44).toInt ∧ (gI t3 0 (0) 44).toInt < (lIM (39) (0) : Int)) (
       lt1 (gI t3 (39) (0) ((gI t3 0 (0) 44).toNatClampNeg)) fun (v7 : Int32) =>
       if v7 = 0 then (
        lt1 (sI t3 0 (0) 2 ((gI t3 0 (0) 2) - (1 : Int32))) fun (t8 : Sto) =>
        some ((1 : Int32), t8)) else if v7 = 1 then (
        lt1 (sI t3 0 (0) 3 ((gI t3 0 (0) 3) - (1 : Int32))) fun (t9 : Sto) =>
        some ((1 : Int32), t9)) else if v7 = 2 then (
        lt1 (sI t3 0 (0) 4 ((gI t3 0 (0) 4) - (1 : Int32))) fun (t10 : Sto) =>
        some ((1 : Int32), t10)) else if v7 = 3 then (
        ck (0 ≤ v4.toInt ∧ v4.toInt < (lIM (13) (0) : Int)) (
         ck (0 ≤ v4.toInt ∧ v4.toInt < (lIM (13) (0) : Int)) (lt1 (sI t3 (13) (0) (v4.toNatClampNeg) ((gI t3 (13) (0) (v4.toNatClampNeg)) - (1 : Int32))) fun (t11 : Sto) =>
          some ((1 : Int32), t11)))) else if v7 = 4 then (
        ck (0 ≤ v4.toInt ∧ v4.toInt < (lIM (15) (0) : Int)) (lt1 (sI t3 (15) (0) (v4.toNatClampNeg) v5) fun (t12 : Sto) =>
         some ((1 : Int32), t12))) else if v7 = 5 then (
        lt1 (sI t3 0 (0) 5 ((gI t3 0 (0) 5) - (1 : Int32))) fun (t13 : Sto) =>
        some ((1 : Int32), t13)) else if v7 = 6 then (
        lt1 (sI t3 0 (0) 6 ((gI t3 0 (0) 6) - (1 : Int32))) fun (t14 : Sto) =>
        some ((1 : Int32), t14)) else if v7 = 7 then (
        lt1 (sI t3 0 (0) 7 ((gI t3 0 (0) 7) - (1 : Int32))) fun (t15 : Sto) =>
        some ((1 : Int32), t15)) else if v7 = 8 then (
        (fX12_unweigh v4 v5 v6 t3).bind (fun (t16 : Sto) =>
         some ((1 : Int32), t16))) else if v7 = 9 then (
        jn (fun (v21 : Int32) =>
         ck (0 ≤ v4.toInt ∧ v4.toInt < (lZM (26) (0) : Int)) (lt1 (sI t3 (26) (0) (v4.toNatClampNeg) (vp_nar .boolean v21)) fun (t22 : Sto) =>
          ((lp (σ := (Int32 × Sto)) (ρ := Sto) (un2 fun (v26 : Int32) (t27 : Sto) =>
             if (16 : Int32) ≤ v26 then (
              some (.inr t27)) else (
              ck (0 ≤ (((16 : Int32) * (gI t27 0 (0) 44)) + v26).toInt ∧ (((16 : Int32) * (gI t27 0 (0) 44)) + v26).toInt < (lFM (43) (0) : Int)) (
               ck (0 ≤ (((16 : Int32) * ((50 : Int32) + v4)) + v26).toInt ∧ (((16 : Int32) * ((50 : Int32) + v4)) + v26).toInt < (lFM (1) (0) : Int)) (lt1 (sF t27 (1) (0) ((((16 : Int32) * ((50 : Int32) + v4)) + v26).toNatClampNeg) (gF t27 (43) (0) ((((16 : Int32) * (gI t27 0 (0) 44)) + v26).toNatClampNeg))) fun (t30 : Sto) =>
                lt1 (v26 + Int32.ofInt (1)) fun (v31 : Int32) =>
                some (.inl (v31, t30)))))) 4000 ((0 : Int32), t22)).bind
           (fun (t28 : Sto) =>
            some ((1 : Int32), t28))))) fun K18 =>
        if v5 = (1 : Int32) then (
         K18 (1 : Int32)) else (
         K18 (0 : Int32))) else (
        ((lp (σ := (Int32 × Sto)) (ρ := Sto) (un2 fun (v36 : Int32) (t37 : Sto) =>
           if (16 : Int32) ≤ v36 then (
            some (.inr t37)) else (
            ck (0 ≤ (((16 : Int32) * (gI t37 0 (0) 44)) + v36).toInt ∧ (((16 : Int32) * (gI t37 0 (0) 44)) + v36).toInt < (lFM (43) (0) : Int)) (
             ck (0 ≤ (((16 : Int32) * ((1 : Int32) + v4)) + v36).toInt ∧ (((16 : Int32) * ((1 : Int32) + v4)) + v36).toInt < (lFM (1) (0) : Int)) (lt1 (sF t37 (1) (0) ((((16 : Int32) * ((1 : Int32) + v4)) + v36).toNatClampNeg) (gF t37 (43) (0) ((((16 : Int32) * (gI t37 0 (0) 44)) + v36).toNatClampNeg))) fun (t40 : Sto) =>
              ck (0 ≤ (((16 : Int32) * (gI t40 0 (0) 44)) + v36).toInt ∧ (((16 : Int32) * (gI t40 0 (0) 44)) + v36).toInt < (lFM (44) (0) : Int)) (
               ck (0 ≤ (((16 : Int32) * v4) + v36).toInt ∧ (((16 : Int32) * v4) + v36).toInt < (lFM (2) (0) : Int)) (lt1 (sF t40 (2) (0) ((((16 : Int32) * v4) + v36).toNatClampNeg) (gF t40 (44) (0) ((((16 : Int32) * (gI t40 0 (0) 44)) + v36).toNatClampNeg))) fun (t41 : Sto) =>
                lt1 (v36 + Int32.ofInt (1)) fun (v42 : Int32) =>
                some (.inl (v42, t41)))))))) 4000 ((0 : Int32), t3)).bind
         (fun (t38 : Sto) =>
          some ((1 : Int32), t38)))))))))
set_option maxHeartbeats 4000000 in
set_option maxRecDepth 100000 in
theorem mX12_undo (l : Launch) (E : XE) (hL : LM E) (st : Sto) {r : Int32} {st1 : Sto} (h : fX12_undo st = some (r, st1)) : Met l yX12_undo wsX12_undo ({ frames := 2, cells := 0, slots := 0, locals := 47 }) (va_Pc [.ref (E.2.2.1 0 (0))] (RM E st)) (QM E (some (.int r)) st1) 0 0 E.2.2.2 := by
  refine Met.ofW (cc := cX12_undo) (maxL := 5) (ret := (some .int)) (by decide) rfl ?_
  intro p e s m args below meth c s₁ B hml hv
  obtain ⟨rfl, hP, hK⟩ := hv
  have hown : s.vm.findClass RX12 = some m.cls := findClass_of_methodNamed B.named
  have C0 : CX p m c cX12_undo 5 s _ wsX12_undo RX12 E := ⟨⟨B.exec, B.bytes, hml, hown, atoms_spec (ws := wsX12_undo) B.pre⟩, hK⟩
  have hx := B.exec
  have hb := B.bytes
  have hr := B.returns
  have hlocks := B.notSynchronized
  have hw : SM E s st s.heap [] := ⟨hP, va_S.rf⟩
  have hl := lv_entry ([.ref (E.2.2.1 0 (0))]) (n := 5) (Nat.le_of_ble_eq_true rfl)
  rw [lg_entry_eq]
  generalize (lg_sl ([.ref (E.2.2.1 0 (0))]) ++ List.replicate (5 - (lg_sl ([.ref (E.2.2.1 0 (0))])).length) Slot.unset).toArray = ls at hl ⊢
  have hl : lv_has ls 5 [(0, .ref (E.2.2.1 0 (0)))] := hl
  unfold fX12_undo at h
  refine lv_aload_n hx hb dX12_undo_0 rfl (lv_at hl 0 rfl) ?_
  refine lv_iconst (v := 0) hx hb dX12_undo_1 (by decide) ?_
  refine M_p0_10 hL C0 hw (fun w h => (List.mem_cons_of_mem _ (List.mem_append_right _ h))) (by decide) h ((List.mem_cons_of_mem _ (List.mem_append_left _ (List.mem_append_left _ (List.mem_of_getElem? (i := 0) rfl))))) dX12_undo_2 (fun t1 H locs hw h => ?_)
  refine lv_aload_n hx hb dX12_undo_5 rfl (lv_at hl 0 rfl) ?_
  refine M_g0_44 C0 hw (fun w h => (List.mem_cons_of_mem _ (List.mem_append_right _ h))) (by decide) ((List.mem_cons_of_mem _ (List.mem_append_left _ (List.mem_append_left _ (List.mem_of_getElem? (i := 1) rfl))))) dX12_undo_6 ?_
  refine lv_if_ne (tgt := 14) hx hb dX12_undo_9 (by decide) (fun hc2 => ?_) (fun hc2 => ?_)
  · have h := ifn h hc2
    refine lv_aload_n hx hb dX12_undo_14 rfl (lv_at hl 0 rfl) ?_
    refine lv_dup hx hb dX12_undo_15 rfl ?_
    refine M_g0_44 C0 hw (fun w h => (List.mem_cons_of_mem _ (List.mem_append_right _ h))) (by decide) ((List.mem_cons_of_mem _ (List.mem_append_left _ (List.mem_append_left _ (List.mem_of_getElem? (i := 1) rfl))))) dX12_undo_16 ?_
    refine lv_iconst (v := 1) hx hb dX12_undo_19 (by decide) ?_
    refine lv_isub hx hb dX12_undo_20 ?_
    refine M_p0_44 hL C0 hw (fun w h => (List.mem_cons_of_mem _ (List.mem_append_right _ h))) (by decide) h ((List.mem_cons_of_mem _ (List.mem_append_left _ (List.mem_append_left _ (List.mem_of_getElem? (i := 1) rfl))))) dX12_undo_21 (fun t3 H locs hw h => ?_)
    refine lv_aload_n hx hb dX12_undo_24 rfl (lv_at hl 0 rfl) ?_
    refine M_g0_39 C0 hw (fun w h => (List.mem_cons_of_mem _ (List.mem_append_right _ h))) (by decide) ((List.mem_cons_of_mem _ (List.mem_append_left _ (List.mem_append_left _ (List.mem_of_getElem? (i := 2) rfl))))) dX12_undo_25 ?_
    refine lv_aload_n hx hb dX12_undo_28 rfl (lv_at hl 0 rfl) ?_
    refine M_g0_44 C0 hw (fun w h => (List.mem_cons_of_mem _ (List.mem_append_right _ h))) (by decide) ((List.mem_cons_of_mem _ (List.mem_append_left _ (List.mem_append_left _ (List.mem_of_getElem? (i := 1) rfl))))) dX12_undo_29 ?_
    refine M_iald C0 hw h (k := (gI t3 0 (0) 44).toNatClampNeg) rfl dX12_undo_32 (fun h => ?_)
    refine x_topi h (fun v4 h => ?_)
    refine lv_istore_n (lv' := [(1, .int v4), (0, .ref (E.2.2.1 0 (0)))]) hx hb dX12_undo_33 rfl hl (by decide) rfl (fun ls hl => ?_)
    refine lv_aload_n hx hb dX12_undo_34 rfl (lv_at hl 1 rfl) ?_
    refine M_g0_40 C0 hw (fun w h => (List.mem_cons_of_mem _ (List.mem_append_right _ h))) (by decide) ((List.mem_cons_of_mem _ (List.mem_append_left _ (List.mem_append_left _ (List.mem_of_getElem? (i := 3) rfl))))) dX12_undo_35 ?_
    refine lv_aload_n hx hb dX12_undo_38 rfl (lv_at hl 1 rfl) ?_
    refine M_g0_44 C0 hw (fun w h => (List.mem_cons_of_mem _ (List.mem_append_right _ h))) (by decide) ((List.mem_cons_of_mem _ (List.mem_append_left _ (List.mem_append_left _ (List.mem_of_getElem? (i := 1) rfl))))) dX12_undo_39 ?_
    refine M_iald C0 hw h (k := (gI t3 0 (0) 44).toNatClampNeg) rfl dX12_undo_42 (fun h => ?_)
    refine x_topi h (fun v5 h => ?_)
    refine lv_istore_n (lv' := [(2, .int v5), (1, .int v4), (0, .ref (E.2.2.1 0 (0)))]) hx hb dX12_undo_43 rfl hl (by decide) rfl (fun ls hl => ?_)
    refine lv_aload_n hx hb dX12_undo_44 rfl (lv_at hl 2 rfl) ?_
    refine M_g0_41 C0 hw (fun w h => (List.mem_cons_of_mem _ (List.mem_append_right _ h))) (by decide) ((List.mem_cons_of_mem _ (List.mem_append_left _ (List.mem_append_left _ (List.mem_of_getElem? (i := 4) rfl))))) dX12_undo_45 ?_
    refine lv_aload_n hx hb dX12_undo_48 rfl (lv_at hl 2 rfl) ?_
    refine M_g0_44 C0 hw (fun w h => (List.mem_cons_of_mem _ (List.mem_append_right _ h))) (by decide) ((List.mem_cons_of_mem _ (List.mem_append_left _ (List.mem_append_left _ (List.mem_of_getElem? (i := 1) rfl))))) dX12_undo_49 ?_
    refine M_iald C0 hw h (k := (gI t3 0 (0) 44).toNatClampNeg) rfl dX12_undo_52 (fun h => ?_)
    refine x_topi h (fun v6 h => ?_)
    refine lv_istore_n (lv' := [(3, .int v6), (2, .int v5), (1, .int v4), (0, .ref (E.2.2.1 0 (0)))]) hx hb dX12_undo_53 rfl hl (by decide) rfl (fun ls hl => ?_)
    refine lv_aload_n hx hb dX12_undo_54 rfl (lv_at hl 3 rfl) ?_
    refine M_g0_38 C0 hw (fun w h => (List.mem_cons_of_mem _ (List.mem_append_right _ h))) (by decide) ((List.mem_cons_of_mem _ (List.mem_append_left _ (List.mem_append_left _ (List.mem_of_getElem? (i := 5) rfl))))) dX12_undo_55 ?_
    refine lv_aload_n hx hb dX12_undo_58 rfl (lv_at hl 3 rfl) ?_
    refine M_g0_44 C0 hw (fun w h => (List.mem_cons_of_mem _ (List.mem_append_right _ h))) (by decide) ((List.mem_cons_of_mem _ (List.mem_append_left _ (List.mem_append_left _ (List.mem_of_getElem? (i := 1) rfl))))) dX12_undo_59 ?_
    refine M_iald C0 hw h (k := (gI t3 0 (0) 44).toNatClampNeg) rfl dX12_undo_62 (fun h => ?_)
    refine x_topi h (fun v7 h => ?_)
    by_cases hc0 : v7 = 0
    · have h := ifp h hc0
      refine lv_tableIn (tgt := 116) hx hb dX12_undo_63 (by rw [hc0]; decide) (by rw [hc0]; decide) (by rw [hc0]; rfl) (by decide) ?_
      refine lv_aload_n hx hb dX12_undo_116 rfl (lv_at hl 3 rfl) ?_
      refine lv_dup hx hb dX12_undo_117 rfl ?_
      refine M_g0_2 C0 hw (fun w h => (List.mem_cons_of_mem _ (List.mem_append_right _ h))) (by decide) ((List.mem_cons_of_mem _ (List.mem_append_left _ (List.mem_append_left _ (List.mem_of_getElem? (i := 6) rfl))))) dX12_undo_118 ?_
      refine lv_iconst (v := 1) hx hb dX12_undo_121 (by decide) ?_
      refine lv_isub hx hb dX12_undo_122 ?_
      refine M_p0_2 hL C0 hw (fun w h => (List.mem_cons_of_mem _ (List.mem_append_right _ h))) (by decide) h ((List.mem_cons_of_mem _ (List.mem_append_left _ (List.mem_append_left _ (List.mem_of_getElem? (i := 6) rfl))))) dX12_undo_123 (fun t8 H locs hw h => ?_)
      refine lv_goto (tgt := 364) hx hb dX12_undo_126 (by decide) ?_
      refine lv_iconst (v := 1) hx hb dX12_undo_364 (by decide) ?_
      cases h
      exact W.iret hx hb hr (M_fin C0 hw) hw.2.2.2 dX12_undo_365 hlocks
    have h := ifn h hc0
    by_cases hc1 : v7 = 1
    · have h := ifp h hc1
      refine lv_tableIn (tgt := 129) hx hb dX12_undo_63 (by rw [hc1]; decide) (by rw [hc1]; decide) (by rw [hc1]; rfl) (by decide) ?_
      refine lv_aload_n hx hb dX12_undo_129 rfl (lv_at hl 3 rfl) ?_
      refine lv_dup hx hb dX12_undo_130 rfl ?_
      refine M_g0_3 C0 hw (fun w h => (List.mem_cons_of_mem _ (List.mem_append_right _ h))) (by decide) ((List.mem_cons_of_mem _ (List.mem_append_left _ (List.mem_append_left _ (List.mem_of_getElem? (i := 7) rfl))))) dX12_undo_131 ?_
      refine lv_iconst (v := 1) hx hb dX12_undo_134 (by decide) ?_
      refine lv_isub hx hb dX12_undo_135 ?_
      refine M_p0_3 hL C0 hw (fun w h => (List.mem_cons_of_mem _ (List.mem_append_right _ h))) (by decide) h ((List.mem_cons_of_mem _ (List.mem_append_left _ (List.mem_append_left _ (List.mem_of_getElem? (i := 7) rfl))))) dX12_undo_136 (fun t9 H locs hw h => ?_)
      refine lv_goto (tgt := 364) hx hb dX12_undo_139 (by decide) ?_
      refine lv_iconst (v := 1) hx hb dX12_undo_364 (by decide) ?_
      cases h
      exact W.iret hx hb hr (M_fin C0 hw) hw.2.2.2 dX12_undo_365 hlocks
    have h := ifn h hc1
    by_cases hc2 : v7 = 2
    · have h := ifp h hc2
      refine lv_tableIn (tgt := 142) hx hb dX12_undo_63 (by rw [hc2]; decide) (by rw [hc2]; decide) (by rw [hc2]; rfl) (by decide) ?_
      refine lv_aload_n hx hb dX12_undo_142 rfl (lv_at hl 3 rfl) ?_
      refine lv_dup hx hb dX12_undo_143 rfl ?_
      refine M_g0_4 C0 hw (fun w h => (List.mem_cons_of_mem _ (List.mem_append_right _ h))) (by decide) ((List.mem_cons_of_mem _ (List.mem_append_left _ (List.mem_append_left _ (List.mem_of_getElem? (i := 8) rfl))))) dX12_undo_144 ?_
      refine lv_iconst (v := 1) hx hb dX12_undo_147 (by decide) ?_
      refine lv_isub hx hb dX12_undo_148 ?_
      refine M_p0_4 hL C0 hw (fun w h => (List.mem_cons_of_mem _ (List.mem_append_right _ h))) (by decide) h ((List.mem_cons_of_mem _ (List.mem_append_left _ (List.mem_append_left _ (List.mem_of_getElem? (i := 8) rfl))))) dX12_undo_149 (fun t10 H locs hw h => ?_)
      refine lv_goto (tgt := 364) hx hb dX12_undo_152 (by decide) ?_
      refine lv_iconst (v := 1) hx hb dX12_undo_364 (by decide) ?_
      cases h
      exact W.iret hx hb hr (M_fin C0 hw) hw.2.2.2 dX12_undo_365 hlocks
    have h := ifn h hc2
    by_cases hc3 : v7 = 3
    · have h := ifp h hc3
      refine lv_tableIn (tgt := 155) hx hb dX12_undo_63 (by rw [hc3]; decide) (by rw [hc3]; decide) (by rw [hc3]; rfl) (by decide) ?_
      refine lv_aload_n hx hb dX12_undo_155 rfl (lv_at hl 3 rfl) ?_
      refine M_g0_12 C0 hw (fun w h => (List.mem_cons_of_mem _ (List.mem_append_right _ h))) (by decide) ((List.mem_cons_of_mem _ (List.mem_append_left _ (List.mem_append_left _ (List.mem_of_getElem? (i := 9) rfl))))) dX12_undo_156 ?_
      refine lv_iload_n hx hb dX12_undo_159 rfl (lv_at hl 2 rfl) ?_
      refine lv_dup2_11 hx hb dX12_undo_160 rfl rfl ?_
      refine M_iald C0 hw h (k := v4.toNatClampNeg) rfl dX12_undo_161 (fun h => ?_)
      refine lv_iconst (v := 1) hx hb dX12_undo_162 (by decide) ?_
      refine lv_isub hx hb dX12_undo_163 ?_
      refine M_iast hL C0 hw h (k := v4.toNatClampNeg) rfl dX12_undo_164 (fun t11 H locs hw h => ?_)
      refine lv_goto (tgt := 364) hx hb dX12_undo_165 (by decide) ?_
      refine lv_iconst (v := 1) hx hb dX12_undo_364 (by decide) ?_
      cases h
      exact W.iret hx hb hr (M_fin C0 hw) hw.2.2.2 dX12_undo_365 hlocks
    have h := ifn h hc3
    by_cases hc4 : v7 = 4
    · have h := ifp h hc4
      refine lv_tableIn (tgt := 168) hx hb dX12_undo_63 (by rw [hc4]; decide) (by rw [hc4]; decide) (by rw [hc4]; rfl) (by decide) ?_
      refine lv_aload_n hx hb dX12_undo_168 rfl (lv_at hl 3 rfl) ?_
      refine M_g0_14 C0 hw (fun w h => (List.mem_cons_of_mem _ (List.mem_append_right _ h))) (by decide) ((List.mem_cons_of_mem _ (List.mem_append_left _ (List.mem_append_left _ (List.mem_of_getElem? (i := 10) rfl))))) dX12_undo_169 ?_
      refine lv_iload_n hx hb dX12_undo_172 rfl (lv_at hl 2 rfl) ?_
      refine lv_iload_n hx hb dX12_undo_173 rfl (lv_at hl 1 rfl) ?_
      refine M_iast hL C0 hw h (k := v4.toNatClampNeg) rfl dX12_undo_174 (fun t12 H locs hw h => ?_)
      refine lv_goto (tgt := 364) hx hb dX12_undo_175 (by decide) ?_
      refine lv_iconst (v := 1) hx hb dX12_undo_364 (by decide) ?_
      cases h
      exact W.iret hx hb hr (M_fin C0 hw) hw.2.2.2 dX12_undo_365 hlocks
    have h := ifn h hc4
    by_cases hc5 : v7 = 5
    · have h := ifp h hc5
      refine lv_tableIn (tgt := 178) hx hb dX12_undo_63 (by rw [hc5]; decide) (by rw [hc5]; decide) (by rw [hc5]; rfl) (by decide) ?_
      refine lv_aload_n hx hb dX12_undo_178 rfl (lv_at hl 3 rfl) ?_
      refine lv_dup hx hb dX12_undo_179 rfl ?_
      refine M_g0_5 C0 hw (fun w h => (List.mem_cons_of_mem _ (List.mem_append_right _ h))) (by decide) ((List.mem_cons_of_mem _ (List.mem_append_left _ (List.mem_append_left _ (List.mem_of_getElem? (i := 11) rfl))))) dX12_undo_180 ?_
      refine lv_iconst (v := 1) hx hb dX12_undo_183 (by decide) ?_
      refine lv_isub hx hb dX12_undo_184 ?_
      refine M_p0_5 hL C0 hw (fun w h => (List.mem_cons_of_mem _ (List.mem_append_right _ h))) (by decide) h ((List.mem_cons_of_mem _ (List.mem_append_left _ (List.mem_append_left _ (List.mem_of_getElem? (i := 11) rfl))))) dX12_undo_185 (fun t13 H locs hw h => ?_)
      refine lv_goto (tgt := 364) hx hb dX12_undo_188 (by decide) ?_
      refine lv_iconst (v := 1) hx hb dX12_undo_364 (by decide) ?_
      cases h
      exact W.iret hx hb hr (M_fin C0 hw) hw.2.2.2 dX12_undo_365 hlocks
    have h := ifn h hc5
    by_cases hc6 : v7 = 6
    · have h := ifp h hc6
      refine lv_tableIn (tgt := 191) hx hb dX12_undo_63 (by rw [hc6]; decide) (by rw [hc6]; decide) (by rw [hc6]; rfl) (by decide) ?_
      refine lv_aload_n hx hb dX12_undo_191 rfl (lv_at hl 3 rfl) ?_
      refine lv_dup hx hb dX12_undo_192 rfl ?_
      refine M_g0_6 C0 hw (fun w h => (List.mem_cons_of_mem _ (List.mem_append_right _ h))) (by decide) ((List.mem_cons_of_mem _ (List.mem_append_left _ (List.mem_append_left _ (List.mem_of_getElem? (i := 12) rfl))))) dX12_undo_193 ?_
      refine lv_iconst (v := 1) hx hb dX12_undo_196 (by decide) ?_
      refine lv_isub hx hb dX12_undo_197 ?_
      refine M_p0_6 hL C0 hw (fun w h => (List.mem_cons_of_mem _ (List.mem_append_right _ h))) (by decide) h ((List.mem_cons_of_mem _ (List.mem_append_left _ (List.mem_append_left _ (List.mem_of_getElem? (i := 12) rfl))))) dX12_undo_198 (fun t14 H locs hw h => ?_)
      refine lv_goto (tgt := 364) hx hb dX12_undo_201 (by decide) ?_
      refine lv_iconst (v := 1) hx hb dX12_undo_364 (by decide) ?_
      cases h
      exact W.iret hx hb hr (M_fin C0 hw) hw.2.2.2 dX12_undo_365 hlocks
    have h := ifn h hc6
    by_cases hc7 : v7 = 7
    · have h := ifp h hc7
      refine lv_tableIn (tgt := 204) hx hb dX12_undo_63 (by rw [hc7]; decide) (by rw [hc7]; decide) (by rw [hc7]; rfl) (by decide) ?_
      refine lv_aload_n hx hb dX12_undo_204 rfl (lv_at hl 3 rfl) ?_
      refine lv_dup hx hb dX12_undo_205 rfl ?_
      refine M_g0_7 C0 hw (fun w h => (List.mem_cons_of_mem _ (List.mem_append_right _ h))) (by decide) ((List.mem_cons_of_mem _ (List.mem_append_left _ (List.mem_append_left _ (List.mem_of_getElem? (i := 13) rfl))))) dX12_undo_206 ?_
      refine lv_iconst (v := 1) hx hb dX12_undo_209 (by decide) ?_
      refine lv_isub hx hb dX12_undo_210 ?_
      refine M_p0_7 hL C0 hw (fun w h => (List.mem_cons_of_mem _ (List.mem_append_right _ h))) (by decide) h ((List.mem_cons_of_mem _ (List.mem_append_left _ (List.mem_append_left _ (List.mem_of_getElem? (i := 13) rfl))))) dX12_undo_211 (fun t15 H locs hw h => ?_)
      refine lv_goto (tgt := 364) hx hb dX12_undo_214 (by decide) ?_
      refine lv_iconst (v := 1) hx hb dX12_undo_364 (by decide) ?_
      cases h
      exact W.iret hx hb hr (M_fin C0 hw) hw.2.2.2 dX12_undo_365 hlocks
    have h := ifn h hc7
    by_cases hc8 : v7 = 8
    · have h := ifp h hc8
      refine lv_tableIn (tgt := 217) hx hb dX12_undo_63 (by rw [hc8]; decide) (by rw [hc8]; decide) (by rw [hc8]; rfl) (by decide) ?_
      refine lv_aload_n hx hb dX12_undo_217 rfl (lv_at hl 3 rfl) ?_
      refine lv_iload_n hx hb dX12_undo_218 rfl (lv_at hl 2 rfl) ?_
      refine lv_iload_n hx hb dX12_undo_219 rfl (lv_at hl 1 rfl) ?_
      refine lv_iload_n hx hb dX12_undo_220 rfl (lv_at hl 0 rfl) ?_
      obtain ⟨t16, hf17, h⟩ := bn_c h
      refine M_callV C0 hw (As := [.int v4, .int v5, .int v6]) (rest := []) (mX12_unweigh l E hL t3 hf17) (cwV 3 C0.1.2.2.2.2 gX12_undo_X12_unweigh rfl rfl rfl (by decide +kernel) ⟨Nat.le_of_ble_eq_true rfl, Nat.le_of_ble_eq_true rfl⟩) (M_recv_0 C0 hw (by decide)) rfl hl.1 rfl (Nat.le_of_ble_eq_true rfl) dX12_undo_221 ⟨Nat.zero_le _, Nat.zero_le _⟩ (fun H locs hw => ?_)
      refine W.eq (g2 := F0 m 224 ls []) rfl ?_
      refine lv_goto (tgt := 364) hx hb dX12_undo_224 (by decide) ?_
      refine lv_iconst (v := 1) hx hb dX12_undo_364 (by decide) ?_
      cases h
      exact W.iret hx hb hr (M_fin C0 hw) hw.2.2.2 dX12_undo_365 hlocks
    have h := ifn h hc8
    by_cases hc9 : v7 = 9
    · have h := ifp h hc9
      refine lv_tableIn (tgt := 227) hx hb dX12_undo_63 (by rw [hc9]; decide) (by rw [hc9]; decide) (by rw [hc9]; rfl) (by decide) ?_
      refine lv_aload_n hx hb dX12_undo_227 rfl (lv_at hl 3 rfl) ?_
      refine M_g0_25 C0 hw (fun w h => (List.mem_cons_of_mem _ (List.mem_append_right _ h))) (by decide) ((List.mem_cons_of_mem _ (List.mem_append_left _ (List.mem_append_left _ (List.mem_of_getElem? (i := 14) rfl))))) dX12_undo_228 ?_
      refine lv_iload_n hx hb dX12_undo_231 rfl (lv_at hl 2 rfl) ?_
      refine lv_iload_n hx hb dX12_undo_232 rfl (lv_at hl 1 rfl) ?_
      refine lv_iconst (v := 1) hx hb dX12_undo_233 (by decide) ?_
      refine jn_c h (fun K18 hK20 h => ?_)
      have HJ19 : ∀ (v21 : Int32), K18 v21 = some (r, st1) → ∀ (H : Heap) (locs : List Loc), SM E s t3 H locs → ∀ ls : Array Slot, lv_has ls 5 [(1, .int v4), (0, .ref (E.2.2.1 0 (0)))] → W p l e (headSpec wsX12_undo ({ frames := 2, cells := 0, slots := 0, locals := 47 })).room s m ([.ref (E.2.2.1 0 (0))] : List Value).toArray below meth c H locs 0 0 (MQ below (QM E (some (.int r)) st1) ([.ref (E.2.2.1 0 (0))] : List Value).toArray s 0 0 E.2.2.2) (F0 m 242 ls [.int v21, .int v4, .ref (E.2.2.1 (26) (0))]) := by
        intro v21 h H locs hw ls hl
        have h := kk1 h hK20
        refine M_zast hL C0 hw h (k := v4.toNatClampNeg) rfl dX12_undo_242 (fun t22 H locs hw h => ?_)
        refine lv_iconst (v := 0) hx hb dX12_undo_243 (by decide) ?_
        refine lv_istore (lv' := [(4, .int (0 : Int32)), (1, .int v4), (0, .ref (E.2.2.1 0 (0)))]) hx hb dX12_undo_244 hl (by decide) rfl (fun ls hl => ?_)
        refine lp_ind (fun q : (Int32 × Sto) => ∀ (H : Heap) (locs : List Loc), SM E s (q.2) H locs → ∀ ls : Array Slot, lv_has ls 5 [(4, .int (q.1)), (1, .int v4), (0, .ref (E.2.2.1 0 (0)))] → W p l e (headSpec wsX12_undo ({ frames := 2, cells := 0, slots := 0, locals := 47 })).room s m ([.ref (E.2.2.1 0 (0))] : List Value).toArray below meth c H locs 0 0 (MQ below (QM E (some (.int r)) st1) ([.ref (E.2.2.1 0 (0))] : List Value).toArray s 0 0 E.2.2.2) (F0 m 246 ls [])) (fun q o25 h hB24 hX23 => ?_) _ _ h _ _ hw _ (lv_sub hl [0, 1, 2] rfl)
        intro H locs hw ls hl
        obtain ⟨v26, t27⟩ := q
        have h := un2_d h
        have hw : SM E s t27 H locs := hw
        have hl : lv_has ls 5 [(4, .int v26), (1, .int v4), (0, .ref (E.2.2.1 0 (0)))] := hl
        refine lv_iload hx hb dX12_undo_246 (lv_at hl 0 rfl) ?_
        refine lv_bipush (v := 16) hx hb dX12_undo_248 (by decide) ?_
        refine lv_icmp_ge (tgt := 289) hx hb dX12_undo_250 (by decide) (fun hc29 => ?_) (fun hc29 => ?_)
        · have h := ifp h hc29
          have h := hX23 _ (Option.some.inj h).symm
          have hl := lv_sub hl (l' := []) [] rfl
          refine lv_goto (tgt := 364) hx hb dX12_undo_289 (by decide) ?_
          refine lv_iconst (v := 1) hx hb dX12_undo_364 (by decide) ?_
          cases h
          exact W.iret hx hb hr (M_fin C0 hw) hw.2.2.2 dX12_undo_365 hlocks
        · have h := ifn h hc29
          refine lv_aload_n hx hb dX12_undo_253 rfl (lv_at hl 2 rfl) ?_
          refine M_g0_0 C0 hw (fun w h => (List.mem_cons_of_mem _ (List.mem_append_right _ h))) (by decide) ((List.mem_cons_of_mem _ (List.mem_append_left _ (List.mem_append_left _ (List.mem_of_getElem? (i := 15) rfl))))) dX12_undo_254 ?_
          refine lv_bipush (v := 16) hx hb dX12_undo_257 (by decide) ?_
          refine lv_bipush (v := 50) hx hb dX12_undo_259 (by decide) ?_
          refine lv_iload_n hx hb dX12_undo_261 rfl (lv_at hl 1 rfl) ?_
          refine lv_iadd hx hb dX12_undo_262 ?_
          refine lv_imul hx hb dX12_undo_263 ?_
          refine lv_iload hx hb dX12_undo_264 (lv_at hl 0 rfl) ?_
          refine lv_iadd hx hb dX12_undo_266 ?_
          refine lv_aload_n hx hb dX12_undo_267 rfl (lv_at hl 2 rfl) ?_
          refine M_g0_42 C0 hw (fun w h => (List.mem_cons_of_mem _ (List.mem_append_right _ h))) (by decide) ((List.mem_cons_of_mem _ (List.mem_append_left _ (List.mem_append_left _ (List.mem_of_getElem? (i := 16) rfl))))) dX12_undo_268 ?_
          refine lv_bipush (v := 16) hx hb dX12_undo_271 (by decide) ?_
          refine lv_aload_n hx hb dX12_undo_273 rfl (lv_at hl 2 rfl) ?_
          refine M_g0_44 C0 hw (fun w h => (List.mem_cons_of_mem _ (List.mem_append_right _ h))) (by decide) ((List.mem_cons_of_mem _ (List.mem_append_left _ (List.mem_append_left _ (List.mem_of_getElem? (i := 1) rfl))))) dX12_undo_274 ?_
          refine lv_imul hx hb dX12_undo_277 ?_
          refine lv_iload hx hb dX12_undo_278 (lv_at hl 0 rfl) ?_
          refine lv_iadd hx hb dX12_undo_280 ?_
          refine M_fald C0 hw h (k := (((16 : Int32) * (gI t27 0 (0) 44)) + v26).toNatClampNeg) rfl dX12_undo_281 (fun h => ?_)
          refine M_fast hL C0 hw h (k := (((16 : Int32) * ((50 : Int32) + v4)) + v26).toNatClampNeg) rfl dX12_undo_282 (fun t30 H locs hw h => ?_)
          refine x_iinc hx hb h dX12_undo_283 hl (q := 0) rfl (fun v31 => [(4, .int v31), (1, .int v4), (0, .ref (E.2.2.1 0 (0)))]) (by decide) (fun _ => rfl) (fun v31 ls hl h => ?_)
          refine lv_goto (tgt := 246) hx hb dX12_undo_286 (by decide) ?_
          exact hB24 _ (Option.some.inj h).symm _ _ hw _ (lv_sub hl [0, 1, 2] rfl)
      refine lv_icmp_ne (tgt := 241) hx hb dX12_undo_234 (by decide) (fun hc32 => ?_) (fun hc32 => ?_)
      · have h := ifn h hc32
        refine lv_iconst (v := 0) hx hb dX12_undo_241 (by decide) ?_
        exact HJ19 _ h _ _ hw _ (lv_sub hl [2, 3] rfl)
      · have h := ifp h hc32
        refine lv_iconst (v := 1) hx hb dX12_undo_237 (by decide) ?_
        refine lv_goto (tgt := 242) hx hb dX12_undo_238 (by decide) ?_
        exact HJ19 _ h _ _ hw _ (lv_sub hl [2, 3] rfl)
    have h := ifn h hc9
    refine lv_tableOut (tgt := 292) hx hb dX12_undo_63 (by have := sw_ne (n := 0) hc0 (by decide); have := sw_ne (n := 1) hc1 (by decide); have := sw_ne (n := 2) hc2 (by decide); have := sw_ne (n := 3) hc3 (by decide); have := sw_ne (n := 4) hc4 (by decide); have := sw_ne (n := 5) hc5 (by decide); have := sw_ne (n := 6) hc6 (by decide); have := sw_ne (n := 7) hc7 (by decide); have := sw_ne (n := 8) hc8 (by decide); have := sw_ne (n := 9) hc9 (by decide); omega) (by decide) ?_
    refine lv_iconst (v := 0) hx hb dX12_undo_292 (by decide) ?_
    refine lv_istore (lv' := [(4, .int (0 : Int32)), (3, .int v6), (2, .int v5), (1, .int v4), (0, .ref (E.2.2.1 0 (0)))]) hx hb dX12_undo_293 hl (by decide) rfl (fun ls hl => ?_)
    refine lp_ind (fun q : (Int32 × Sto) => ∀ (H : Heap) (locs : List Loc), SM E s (q.2) H locs → ∀ ls : Array Slot, lv_has ls 5 [(4, .int (q.1)), (1, .int v4), (0, .ref (E.2.2.1 0 (0)))] → W p l e (headSpec wsX12_undo ({ frames := 2, cells := 0, slots := 0, locals := 47 })).room s m ([.ref (E.2.2.1 0 (0))] : List Value).toArray below meth c H locs 0 0 (MQ below (QM E (some (.int r)) st1) ([.ref (E.2.2.1 0 (0))] : List Value).toArray s 0 0 E.2.2.2) (F0 m 295 ls [])) (fun q o35 h hB34 hX33 => ?_) _ _ h _ _ hw _ (lv_sub hl [0, 3, 4] rfl)
    intro H locs hw ls hl
    obtain ⟨v36, t37⟩ := q
    have h := un2_d h
    have hw : SM E s t37 H locs := hw
    have hl : lv_has ls 5 [(4, .int v36), (1, .int v4), (0, .ref (E.2.2.1 0 (0)))] := hl
    refine lv_iload hx hb dX12_undo_295 (lv_at hl 0 rfl) ?_
    refine lv_bipush (v := 16) hx hb dX12_undo_297 (by decide) ?_
    refine lv_icmp_ge (tgt := 364) hx hb dX12_undo_299 (by decide) (fun hc39 => ?_) (fun hc39 => ?_)
    · have h := ifp h hc39
      have h := hX33 _ (Option.some.inj h).symm
      have hl := lv_sub hl (l' := []) [] rfl
      refine lv_iconst (v := 1) hx hb dX12_undo_364 (by decide) ?_
      cases h
      exact W.iret hx hb hr (M_fin C0 hw) hw.2.2.2 dX12_undo_365 hlocks
    · have h := ifn h hc39
      refine lv_aload_n hx hb dX12_undo_302 rfl (lv_at hl 2 rfl) ?_
      refine M_g0_0 C0 hw (fun w h => (List.mem_cons_of_mem _ (List.mem_append_right _ h))) (by decide) ((List.mem_cons_of_mem _ (List.mem_append_left _ (List.mem_append_left _ (List.mem_of_getElem? (i := 15) rfl))))) dX12_undo_303 ?_
      refine lv_bipush (v := 16) hx hb dX12_undo_306 (by decide) ?_
      refine lv_iconst (v := 1) hx hb dX12_undo_308 (by decide) ?_
      refine lv_iload_n hx hb dX12_undo_309 rfl (lv_at hl 1 rfl) ?_
      refine lv_iadd hx hb dX12_undo_310 ?_
      refine lv_imul hx hb dX12_undo_311 ?_
      refine lv_iload hx hb dX12_undo_312 (lv_at hl 0 rfl) ?_
      refine lv_iadd hx hb dX12_undo_314 ?_
      refine lv_aload_n hx hb dX12_undo_315 rfl (lv_at hl 2 rfl) ?_
      refine M_g0_42 C0 hw (fun w h => (List.mem_cons_of_mem _ (List.mem_append_right _ h))) (by decide) ((List.mem_cons_of_mem _ (List.mem_append_left _ (List.mem_append_left _ (List.mem_of_getElem? (i := 16) rfl))))) dX12_undo_316 ?_
      refine lv_bipush (v := 16) hx hb dX12_undo_319 (by decide) ?_
      refine lv_aload_n hx hb dX12_undo_321 rfl (lv_at hl 2 rfl) ?_
      refine M_g0_44 C0 hw (fun w h => (List.mem_cons_of_mem _ (List.mem_append_right _ h))) (by decide) ((List.mem_cons_of_mem _ (List.mem_append_left _ (List.mem_append_left _ (List.mem_of_getElem? (i := 1) rfl))))) dX12_undo_322 ?_
      refine lv_imul hx hb dX12_undo_325 ?_
      refine lv_iload hx hb dX12_undo_326 (lv_at hl 0 rfl) ?_
      refine lv_iadd hx hb dX12_undo_328 ?_
      refine M_fald C0 hw h (k := (((16 : Int32) * (gI t37 0 (0) 44)) + v36).toNatClampNeg) rfl dX12_undo_329 (fun h => ?_)
      refine M_fast hL C0 hw h (k := (((16 : Int32) * ((1 : Int32) + v4)) + v36).toNatClampNeg) rfl dX12_undo_330 (fun t40 H locs hw h => ?_)
      refine lv_aload_n hx hb dX12_undo_331 rfl (lv_at hl 2 rfl) ?_
      refine M_g0_1 C0 hw (fun w h => (List.mem_cons_of_mem _ (List.mem_append_right _ h))) (by decide) ((List.mem_cons_of_mem _ (List.mem_append_left _ (List.mem_append_left _ (List.mem_of_getElem? (i := 17) rfl))))) dX12_undo_332 ?_
      refine lv_bipush (v := 16) hx hb dX12_undo_335 (by decide) ?_
      refine lv_iload_n hx hb dX12_undo_337 rfl (lv_at hl 1 rfl) ?_
      refine lv_imul hx hb dX12_undo_338 ?_
      refine lv_iload hx hb dX12_undo_339 (lv_at hl 0 rfl) ?_
      refine lv_iadd hx hb dX12_undo_341 ?_
      refine lv_aload_n hx hb dX12_undo_342 rfl (lv_at hl 2 rfl) ?_
      refine M_g0_43 C0 hw (fun w h => (List.mem_cons_of_mem _ (List.mem_append_right _ h))) (by decide) ((List.mem_cons_of_mem _ (List.mem_append_left _ (List.mem_append_left _ (List.mem_of_getElem? (i := 18) rfl))))) dX12_undo_343 ?_
      refine lv_bipush (v := 16) hx hb dX12_undo_346 (by decide) ?_
      refine lv_aload_n hx hb dX12_undo_348 rfl (lv_at hl 2 rfl) ?_
      refine M_g0_44 C0 hw (fun w h => (List.mem_cons_of_mem _ (List.mem_append_right _ h))) (by decide) ((List.mem_cons_of_mem _ (List.mem_append_left _ (List.mem_append_left _ (List.mem_of_getElem? (i := 1) rfl))))) dX12_undo_349 ?_
      refine lv_imul hx hb dX12_undo_352 ?_
      refine lv_iload hx hb dX12_undo_353 (lv_at hl 0 rfl) ?_
      refine lv_iadd hx hb dX12_undo_355 ?_
      refine M_fald C0 hw h (k := (((16 : Int32) * (gI t40 0 (0) 44)) + v36).toNatClampNeg) rfl dX12_undo_356 (fun h => ?_)
      refine M_fast hL C0 hw h (k := (((16 : Int32) * v4) + v36).toNatClampNeg) rfl dX12_undo_357 (fun t41 H locs hw h => ?_)
      refine x_iinc hx hb h dX12_undo_358 hl (q := 0) rfl (fun v42 => [(4, .int v42), (1, .int v4), (0, .ref (E.2.2.1 0 (0)))]) (by decide) (fun _ => rfl) (fun v42 ls hl h => ?_)
      refine lv_goto (tgt := 295) hx hb dX12_undo_361 (by decide) ?_
      exact hB34 _ (Option.some.inj h).symm _ _ hw _ (lv_sub hl [0, 1, 2] rfl)
  · have h := ifp h hc2
    refine lv_iconst (v := 0) hx hb dX12_undo_12 (by decide) ?_
    cases h
    exact W.iret hx hb hr (M_fin C0 hw) hw.2.2.2 dX12_undo_13 hlocks

def fX12_bands (a1 : Int32) (a2 : Int32) (a3 : Int32) (a4 : Int32) (a5 : Int32) (st : Sto) : Option (Int32 × Sto) :=
  lt1 (sI st 0 (0) 10 (0 : Int32)) fun (t1 : Sto) =>
  (fX12_is a1 (4 : Int32)).bind (fun (v2 : Int32) =>
   if v2 = 0 then (
    some ((0 : Int32), t1)) else (
    (fX12_isFloat a2).bind (fun (v5 : Int32) =>
     if v5 = 0 then (
      some ((0 : Int32), t1)) else (
      (fX12_isFloat a3).bind (fun (v8 : Int32) =>
       if v8 = 0 then (
        some ((0 : Int32), t1)) else (
        (fX12_isFloat a4).bind (fun (v11 : Int32) =>
         if v11 = 0 then (
          some ((0 : Int32), t1)) else (
          (fX12_isFloat a5).bind (fun (v14 : Int32) =>
           if v14 = 0 then (
            some ((0 : Int32), t1)) else (
            ck (vn_sni2f a2 = false) (
             ck (0 ≤ ((4 : Int32) * a1).toInt ∧ ((4 : Int32) * a1).toInt < (lFM (1) (0) : Int)) (lt1 (sF t1 (1) (0) (((4 : Int32) * a1).toNatClampNeg) (a2.toUInt32)) fun (t17 : Sto) =>
              ck (vn_sni2f a3 = false) (
               ck (0 ≤ (((4 : Int32) * a1) + (1 : Int32)).toInt ∧ (((4 : Int32) * a1) + (1 : Int32)).toInt < (lFM (1) (0) : Int)) (lt1 (sF t17 (1) (0) ((((4 : Int32) * a1) + (1 : Int32)).toNatClampNeg) (a3.toUInt32)) fun (t18 : Sto) =>
                ck (vn_sni2f a4 = false) (
                 ck (0 ≤ (((4 : Int32) * a1) + (2 : Int32)).toInt ∧ (((4 : Int32) * a1) + (2 : Int32)).toInt < (lFM (1) (0) : Int)) (lt1 (sF t18 (1) (0) ((((4 : Int32) * a1) + (2 : Int32)).toNatClampNeg) (a4.toUInt32)) fun (t19 : Sto) =>
                  ck (vn_sni2f a5 = false) (
                   ck (0 ≤ (((4 : Int32) * a1) + (3 : Int32)).toInt ∧ (((4 : Int32) * a1) + (3 : Int32)).toInt < (lFM (1) (0) : Int)) (lt1 (sF t19 (1) (0) ((((4 : Int32) * a1) + (3 : Int32)).toNatClampNeg) (a5.toUInt32)) fun (t20 : Sto) =>
                    some ((1 : Int32), t20)))))))))))))))))))
set_option maxHeartbeats 4000000 in
set_option maxRecDepth 100000 in
theorem mX12_bands (l : Launch) (E : XE) (hL : LM E) (st : Sto) {a1 : Int32} {a2 : Int32} {a3 : Int32} {a4 : Int32} {a5 : Int32} {r : Int32} {st1 : Sto} (h : fX12_bands a1 a2 a3 a4 a5 st = some (r, st1)) : Met l yX12_bands wsX12_bands ({ frames := 1, cells := 0, slots := 0, locals := 23 }) (va_Pc [.ref (E.2.2.1 0 (0)), .int a1, .int a2, .int a3, .int a4, .int a5] (RM E st)) (QM E (some (.int r)) st1) 0 0 E.2.2.2 := by
  refine Met.ofW (cc := cX12_bands) (maxL := 6) (ret := (some .boolean)) (by decide) rfl ?_
  intro p e s m args below meth c s₁ B hml hv
  obtain ⟨rfl, hP, hK⟩ := hv
  have hown : s.vm.findClass RX12 = some m.cls := findClass_of_methodNamed B.named
  have C0 : CX p m c cX12_bands 6 s _ wsX12_bands RX12 E := ⟨⟨B.exec, B.bytes, hml, hown, atoms_spec (ws := wsX12_bands) B.pre⟩, hK⟩
  have hx := B.exec
  have hb := B.bytes
  have hr := B.returns
  have hlocks := B.notSynchronized
  have hw : SM E s st s.heap [] := ⟨hP, va_S.rf⟩
  have hl := lv_entry ([.ref (E.2.2.1 0 (0)), .int a1, .int a2, .int a3, .int a4, .int a5]) (n := 6) (Nat.le_of_ble_eq_true rfl)
  rw [lg_entry_eq]
  generalize (lg_sl ([.ref (E.2.2.1 0 (0)), .int a1, .int a2, .int a3, .int a4, .int a5]) ++ List.replicate (6 - (lg_sl ([.ref (E.2.2.1 0 (0)), .int a1, .int a2, .int a3, .int a4, .int a5])).length) Slot.unset).toArray = ls at hl ⊢
  have hl : lv_has ls 6 [(0, .ref (E.2.2.1 0 (0))), (1, .int a1), (2, .int a2), (3, .int a3), (4, .int a4), (5, .int a5)] := hl
  unfold fX12_bands at h
  refine lv_aload_n hx hb dX12_bands_0 rfl (lv_at hl 0 rfl) ?_
  refine lv_iconst (v := 0) hx hb dX12_bands_1 (by decide) ?_
  refine M_p0_10 hL C0 hw (fun w h => (List.mem_cons_of_mem _ (List.mem_append_right _ h))) (by decide) h ((List.mem_cons_of_mem _ (List.mem_append_left _ (List.mem_of_getElem? (i := 0) rfl)))) dX12_bands_2 (fun t1 H locs hw h => ?_)
  refine lv_aload_n hx hb dX12_bands_5 rfl (lv_at hl 0 rfl) ?_
  refine lv_iload_n hx hb dX12_bands_6 rfl (lv_at hl 1 rfl) ?_
  refine lv_iconst (v := 4) hx hb dX12_bands_7 (by decide) ?_
  obtain ⟨v2, hf3, h⟩ := bn_c h
  refine M_callV C0 hw (As := [.int a1, .int (4 : Int32)]) (rest := []) (mX12_is l E hL t1 hf3) (cwV 2 C0.1.2.2.2.2 gX12_bands_X12_is rfl rfl rfl (by decide +kernel) ⟨Nat.le_of_ble_eq_true rfl, Nat.le_of_ble_eq_true rfl⟩) (M_recv_0 C0 hw (by decide)) rfl hl.1 rfl (Nat.le_of_ble_eq_true rfl) dX12_bands_8 ⟨Nat.zero_le _, Nat.zero_le _⟩ (fun H locs hw => ?_)
  refine W.eq (g2 := F0 m 11 ls [.int v2]) rfl ?_
  refine lv_if_eq (tgt := 48) hx hb dX12_bands_11 (by decide) (fun hc4 => ?_) (fun hc4 => ?_)
  · have h := ifp h hc4
    refine lv_iconst (v := 0) hx hb dX12_bands_48 (by decide) ?_
    cases h
    exact W.zret hx hb hr rfl (M_fin C0 hw) hw.2.2.2 dX12_bands_49 hlocks
  · have h := ifn h hc4
    refine lv_aload_n hx hb dX12_bands_14 rfl (lv_at hl 0 rfl) ?_
    refine lv_iload_n hx hb dX12_bands_15 rfl (lv_at hl 2 rfl) ?_
    obtain ⟨v5, hf6, h⟩ := bn_c h
    refine M_callV C0 hw (As := [.int a2]) (rest := []) (mX12_isFloat l E hL t1 hf6) (cwV 1 C0.1.2.2.2.2 gX12_bands_X12_isFloat rfl rfl rfl (by decide +kernel) ⟨Nat.le_of_ble_eq_true rfl, Nat.le_of_ble_eq_true rfl⟩) (M_recv_0 C0 hw (by decide)) rfl hl.1 rfl (Nat.le_of_ble_eq_true rfl) dX12_bands_16 ⟨Nat.zero_le _, Nat.zero_le _⟩ (fun H locs hw => ?_)
    refine W.eq (g2 := F0 m 19 ls [.int v5]) rfl ?_
    refine lv_if_eq (tgt := 48) hx hb dX12_bands_19 (by decide) (fun hc7 => ?_) (fun hc7 => ?_)
    · have h := ifp h hc7
      refine lv_iconst (v := 0) hx hb dX12_bands_48 (by decide) ?_
      cases h
      exact W.zret hx hb hr rfl (M_fin C0 hw) hw.2.2.2 dX12_bands_49 hlocks
    · have h := ifn h hc7
      refine lv_aload_n hx hb dX12_bands_22 rfl (lv_at hl 0 rfl) ?_
      refine lv_iload_n hx hb dX12_bands_23 rfl (lv_at hl 3 rfl) ?_
      obtain ⟨v8, hf9, h⟩ := bn_c h
      refine M_callV C0 hw (As := [.int a3]) (rest := []) (mX12_isFloat l E hL t1 hf9) (cwV 1 C0.1.2.2.2.2 gX12_bands_X12_isFloat rfl rfl rfl (by decide +kernel) ⟨Nat.le_of_ble_eq_true rfl, Nat.le_of_ble_eq_true rfl⟩) (M_recv_0 C0 hw (by decide)) rfl hl.1 rfl (Nat.le_of_ble_eq_true rfl) dX12_bands_24 ⟨Nat.zero_le _, Nat.zero_le _⟩ (fun H locs hw => ?_)
      refine W.eq (g2 := F0 m 27 ls [.int v8]) rfl ?_
      refine lv_if_eq (tgt := 48) hx hb dX12_bands_27 (by decide) (fun hc10 => ?_) (fun hc10 => ?_)
      · have h := ifp h hc10
        refine lv_iconst (v := 0) hx hb dX12_bands_48 (by decide) ?_
        cases h
        exact W.zret hx hb hr rfl (M_fin C0 hw) hw.2.2.2 dX12_bands_49 hlocks
      · have h := ifn h hc10
        refine lv_aload_n hx hb dX12_bands_30 rfl (lv_at hl 0 rfl) ?_
        refine lv_iload hx hb dX12_bands_31 (lv_at hl 4 rfl) ?_
        obtain ⟨v11, hf12, h⟩ := bn_c h
        refine M_callV C0 hw (As := [.int a4]) (rest := []) (mX12_isFloat l E hL t1 hf12) (cwV 1 C0.1.2.2.2.2 gX12_bands_X12_isFloat rfl rfl rfl (by decide +kernel) ⟨Nat.le_of_ble_eq_true rfl, Nat.le_of_ble_eq_true rfl⟩) (M_recv_0 C0 hw (by decide)) rfl hl.1 rfl (Nat.le_of_ble_eq_true rfl) dX12_bands_33 ⟨Nat.zero_le _, Nat.zero_le _⟩ (fun H locs hw => ?_)
        refine W.eq (g2 := F0 m 36 ls [.int v11]) rfl ?_
        refine lv_if_eq (tgt := 48) hx hb dX12_bands_36 (by decide) (fun hc13 => ?_) (fun hc13 => ?_)
        · have h := ifp h hc13
          refine lv_iconst (v := 0) hx hb dX12_bands_48 (by decide) ?_
          cases h
          exact W.zret hx hb hr rfl (M_fin C0 hw) hw.2.2.2 dX12_bands_49 hlocks
        · have h := ifn h hc13
          refine lv_aload_n hx hb dX12_bands_39 rfl (lv_at hl 0 rfl) ?_
          refine lv_iload hx hb dX12_bands_40 (lv_at hl 5 rfl) ?_
          obtain ⟨v14, hf15, h⟩ := bn_c h
          refine M_callV C0 hw (As := [.int a5]) (rest := []) (mX12_isFloat l E hL t1 hf15) (cwV 1 C0.1.2.2.2.2 gX12_bands_X12_isFloat rfl rfl rfl (by decide +kernel) ⟨Nat.le_of_ble_eq_true rfl, Nat.le_of_ble_eq_true rfl⟩) (M_recv_0 C0 hw (by decide)) rfl hl.1 rfl (Nat.le_of_ble_eq_true rfl) dX12_bands_42 ⟨Nat.zero_le _, Nat.zero_le _⟩ (fun H locs hw => ?_)
          refine W.eq (g2 := F0 m 45 ls [.int v14]) rfl ?_
          refine lv_if_ne (tgt := 50) hx hb dX12_bands_45 (by decide) (fun hc16 => ?_) (fun hc16 => ?_)
          · have h := ifn h hc16
            refine lv_aload_n hx hb dX12_bands_50 rfl (lv_at hl 0 rfl) ?_
            refine M_g0_0 C0 hw (fun w h => (List.mem_cons_of_mem _ (List.mem_append_right _ h))) (by decide) ((List.mem_cons_of_mem _ (List.mem_append_left _ (List.mem_of_getElem? (i := 1) rfl)))) dX12_bands_51 ?_
            refine lv_iconst (v := 4) hx hb dX12_bands_54 (by decide) ?_
            refine lv_iload_n hx hb dX12_bands_55 rfl (lv_at hl 1 rfl) ?_
            refine lv_imul hx hb dX12_bands_56 ?_
            refine lv_iload_n hx hb dX12_bands_57 rfl (lv_at hl 2 rfl) ?_
            obtain ⟨hg, h⟩ := ck_c h
            refine vn_i2f hx hb (hml.trans hl.1.symm) hown (C0.1.2.2.2.2 _ (List.mem_cons_of_mem _ (List.mem_append_left _ (List.mem_of_getElem? (i := 2) rfl)))) (C0.1.2.2.2.2 _ (List.mem_cons_of_mem _ (List.mem_append_left _ (List.mem_of_getElem? (i := 3) rfl)))) (C0.1.2.2.2.2 _ (List.mem_cons_of_mem _ (List.mem_append_left _ (List.mem_of_getElem? (i := 4) rfl)))) (C0.1.2.2.2.2 _ (List.mem_cons_of_mem _ (List.mem_append_left _ (List.mem_of_getElem? (i := 5) rfl)))) hg (Nat.le_of_ble_eq_true rfl) (Nat.le_of_ble_eq_true rfl) dX12_bands_58 ?_
            refine M_fast hL C0 hw h (k := ((4 : Int32) * a1).toNatClampNeg) rfl dX12_bands_61 (fun t17 H locs hw h => ?_)
            refine lv_aload_n hx hb dX12_bands_62 rfl (lv_at hl 0 rfl) ?_
            refine M_g0_0 C0 hw (fun w h => (List.mem_cons_of_mem _ (List.mem_append_right _ h))) (by decide) ((List.mem_cons_of_mem _ (List.mem_append_left _ (List.mem_of_getElem? (i := 1) rfl)))) dX12_bands_63 ?_
            refine lv_iconst (v := 4) hx hb dX12_bands_66 (by decide) ?_
            refine lv_iload_n hx hb dX12_bands_67 rfl (lv_at hl 1 rfl) ?_
            refine lv_imul hx hb dX12_bands_68 ?_
            refine lv_iconst (v := 1) hx hb dX12_bands_69 (by decide) ?_
            refine lv_iadd hx hb dX12_bands_70 ?_
            refine lv_iload_n hx hb dX12_bands_71 rfl (lv_at hl 3 rfl) ?_
            obtain ⟨hg, h⟩ := ck_c h
            refine vn_i2f hx hb (hml.trans hl.1.symm) hown (C0.1.2.2.2.2 _ (List.mem_cons_of_mem _ (List.mem_append_left _ (List.mem_of_getElem? (i := 2) rfl)))) (C0.1.2.2.2.2 _ (List.mem_cons_of_mem _ (List.mem_append_left _ (List.mem_of_getElem? (i := 3) rfl)))) (C0.1.2.2.2.2 _ (List.mem_cons_of_mem _ (List.mem_append_left _ (List.mem_of_getElem? (i := 4) rfl)))) (C0.1.2.2.2.2 _ (List.mem_cons_of_mem _ (List.mem_append_left _ (List.mem_of_getElem? (i := 5) rfl)))) hg (Nat.le_of_ble_eq_true rfl) (Nat.le_of_ble_eq_true rfl) dX12_bands_72 ?_
            refine M_fast hL C0 hw h (k := (((4 : Int32) * a1) + (1 : Int32)).toNatClampNeg) rfl dX12_bands_75 (fun t18 H locs hw h => ?_)
            refine lv_aload_n hx hb dX12_bands_76 rfl (lv_at hl 0 rfl) ?_
            refine M_g0_0 C0 hw (fun w h => (List.mem_cons_of_mem _ (List.mem_append_right _ h))) (by decide) ((List.mem_cons_of_mem _ (List.mem_append_left _ (List.mem_of_getElem? (i := 1) rfl)))) dX12_bands_77 ?_
            refine lv_iconst (v := 4) hx hb dX12_bands_80 (by decide) ?_
            refine lv_iload_n hx hb dX12_bands_81 rfl (lv_at hl 1 rfl) ?_
            refine lv_imul hx hb dX12_bands_82 ?_
            refine lv_iconst (v := 2) hx hb dX12_bands_83 (by decide) ?_
            refine lv_iadd hx hb dX12_bands_84 ?_
            refine lv_iload hx hb dX12_bands_85 (lv_at hl 4 rfl) ?_
            obtain ⟨hg, h⟩ := ck_c h
            refine vn_i2f hx hb (hml.trans hl.1.symm) hown (C0.1.2.2.2.2 _ (List.mem_cons_of_mem _ (List.mem_append_left _ (List.mem_of_getElem? (i := 2) rfl)))) (C0.1.2.2.2.2 _ (List.mem_cons_of_mem _ (List.mem_append_left _ (List.mem_of_getElem? (i := 3) rfl)))) (C0.1.2.2.2.2 _ (List.mem_cons_of_mem _ (List.mem_append_left _ (List.mem_of_getElem? (i := 4) rfl)))) (C0.1.2.2.2.2 _ (List.mem_cons_of_mem _ (List.mem_append_left _ (List.mem_of_getElem? (i := 5) rfl)))) hg (Nat.le_of_ble_eq_true rfl) (Nat.le_of_ble_eq_true rfl) dX12_bands_87 ?_
            refine M_fast hL C0 hw h (k := (((4 : Int32) * a1) + (2 : Int32)).toNatClampNeg) rfl dX12_bands_90 (fun t19 H locs hw h => ?_)
            refine lv_aload_n hx hb dX12_bands_91 rfl (lv_at hl 0 rfl) ?_
            refine M_g0_0 C0 hw (fun w h => (List.mem_cons_of_mem _ (List.mem_append_right _ h))) (by decide) ((List.mem_cons_of_mem _ (List.mem_append_left _ (List.mem_of_getElem? (i := 1) rfl)))) dX12_bands_92 ?_
            refine lv_iconst (v := 4) hx hb dX12_bands_95 (by decide) ?_
            refine lv_iload_n hx hb dX12_bands_96 rfl (lv_at hl 1 rfl) ?_
            refine lv_imul hx hb dX12_bands_97 ?_
            refine lv_iconst (v := 3) hx hb dX12_bands_98 (by decide) ?_
            refine lv_iadd hx hb dX12_bands_99 ?_
            refine lv_iload hx hb dX12_bands_100 (lv_at hl 5 rfl) ?_
            obtain ⟨hg, h⟩ := ck_c h
            refine vn_i2f hx hb (hml.trans hl.1.symm) hown (C0.1.2.2.2.2 _ (List.mem_cons_of_mem _ (List.mem_append_left _ (List.mem_of_getElem? (i := 2) rfl)))) (C0.1.2.2.2.2 _ (List.mem_cons_of_mem _ (List.mem_append_left _ (List.mem_of_getElem? (i := 3) rfl)))) (C0.1.2.2.2.2 _ (List.mem_cons_of_mem _ (List.mem_append_left _ (List.mem_of_getElem? (i := 4) rfl)))) (C0.1.2.2.2.2 _ (List.mem_cons_of_mem _ (List.mem_append_left _ (List.mem_of_getElem? (i := 5) rfl)))) hg (Nat.le_of_ble_eq_true rfl) (Nat.le_of_ble_eq_true rfl) dX12_bands_102 ?_
            refine M_fast hL C0 hw h (k := (((4 : Int32) * a1) + (3 : Int32)).toNatClampNeg) rfl dX12_bands_105 (fun t20 H locs hw h => ?_)
            refine lv_iconst (v := 1) hx hb dX12_bands_106 (by decide) ?_
            cases h
            exact W.zret hx hb hr rfl (M_fin C0 hw) hw.2.2.2 dX12_bands_107 hlocks
          · have h := ifp h hc16
            refine lv_iconst (v := 0) hx hb dX12_bands_48 (by decide) ?_
            cases h
            exact W.zret hx hb hr rfl (M_fin C0 hw) hw.2.2.2 dX12_bands_49 hlocks

def fX12_newChip (a1 : Int32) (st : Sto) : Option (Int32 × Sto) :=
  lt1 (gI st 0 (0) 2) fun (v1 : Int32) =>
  (fX12_copy a1 ((1 : Int32) + v1) st).bind (fun (t2 : Sto) =>
   ((lp (σ := (Int32 × Sto)) (ρ := Sto) (un2 fun (v7 : Int32) (t8 : Sto) =>
      if (16 : Int32) ≤ v7 then (
       some (.inr t8)) else (
       ck (0 ≤ (((16 : Int32) * v1) + v7).toInt ∧ (((16 : Int32) * v1) + v7).toInt < (lFM (2) (0) : Int)) (lt1 (sF t8 (2) (0) ((((16 : Int32) * v1) + v7).toNatClampNeg) FP.fconst0) fun (t14 : Sto) =>
        lt1 (v7 + Int32.ofInt (1)) fun (v15 : Int32) =>
        some (.inl (v15, t14))))) 4000 ((0 : Int32), t2)).bind
    (fun (t9 : Sto) =>
     lt1 (sI t9 0 (0) 2 ((gI t9 0 (0) 2) + (1 : Int32))) fun (t16 : Sto) =>
     (fX12_act (0 : Int32) v1 (0 : Int32) (0 : Int32) t16).bind (fun (t17 : Sto) =>
      some (v1, t17)))))
set_option maxHeartbeats 4000000 in
set_option maxRecDepth 100000 in
theorem mX12_newChip (l : Launch) (E : XE) (hL : LM E) (st : Sto) {a1 : Int32} {r : Int32} {st1 : Sto} (h : fX12_newChip a1 st = some (r, st1)) : Met l yX12_newChip wsX12_newChip ({ frames := 1, cells := 0, slots := 0, locals := 25 }) (va_Pc [.ref (E.2.2.1 0 (0)), .int a1] (RM E st)) (QM E (some (.int r)) st1) 0 0 E.2.2.2 := by
  refine Met.ofW (cc := cX12_newChip) (maxL := 4) (ret := (some .int)) (by decide) rfl ?_
  intro p e s m args below meth c s₁ B hml hv
  obtain ⟨rfl, hP, hK⟩ := hv
  have hown : s.vm.findClass RX12 = some m.cls := findClass_of_methodNamed B.named
  have C0 : CX p m c cX12_newChip 4 s _ wsX12_newChip RX12 E := ⟨⟨B.exec, B.bytes, hml, hown, atoms_spec (ws := wsX12_newChip) B.pre⟩, hK⟩
  have hx := B.exec
  have hb := B.bytes
  have hr := B.returns
  have hlocks := B.notSynchronized
  have hw : SM E s st s.heap [] := ⟨hP, va_S.rf⟩
  have hl := lv_entry ([.ref (E.2.2.1 0 (0)), .int a1]) (n := 4) (Nat.le_of_ble_eq_true rfl)
  rw [lg_entry_eq]
  generalize (lg_sl ([.ref (E.2.2.1 0 (0)), .int a1]) ++ List.replicate (4 - (lg_sl ([.ref (E.2.2.1 0 (0)), .int a1])).length) Slot.unset).toArray = ls at hl ⊢
  have hl : lv_has ls 4 [(0, .ref (E.2.2.1 0 (0))), (1, .int a1)] := hl
  unfold fX12_newChip at h
  refine lv_aload_n hx hb dX12_newChip_0 rfl (lv_at hl 0 rfl) ?_
  refine M_g0_2 C0 hw (fun w h => (List.mem_cons_of_mem _ (List.mem_append_right _ h))) (by decide) ((List.mem_cons_of_mem _ (List.mem_append_left _ (List.mem_of_getElem? (i := 0) rfl)))) dX12_newChip_1 ?_
  refine x_topi h (fun v1 h => ?_)
  refine lv_istore_n (lv' := [(2, .int v1), (0, .ref (E.2.2.1 0 (0))), (1, .int a1)]) hx hb dX12_newChip_4 rfl hl (by decide) rfl (fun ls hl => ?_)
  refine lv_aload_n hx hb dX12_newChip_5 rfl (lv_at hl 1 rfl) ?_
  refine lv_iload_n hx hb dX12_newChip_6 rfl (lv_at hl 2 rfl) ?_
  refine lv_iconst (v := 1) hx hb dX12_newChip_7 (by decide) ?_
  refine lv_iload_n hx hb dX12_newChip_8 rfl (lv_at hl 0 rfl) ?_
  refine lv_iadd hx hb dX12_newChip_9 ?_
  obtain ⟨t2, hf3, h⟩ := bn_c h
  refine M_callV C0 hw (As := [.int a1, .int ((1 : Int32) + v1)]) (rest := []) (mX12_copy l E hL st hf3) (cwV 2 C0.1.2.2.2.2 gX12_newChip_X12_copy rfl rfl rfl (by decide +kernel) ⟨Nat.le_of_ble_eq_true rfl, Nat.le_of_ble_eq_true rfl⟩) (M_recv_0 C0 hw (by decide)) rfl hl.1 rfl (Nat.le_of_ble_eq_true rfl) dX12_newChip_10 ⟨Nat.zero_le _, Nat.zero_le _⟩ (fun H locs hw => ?_)
  refine W.eq (g2 := F0 m 13 ls []) rfl ?_
  refine lv_iconst (v := 0) hx hb dX12_newChip_13 (by decide) ?_
  refine lv_istore_n (lv' := [(3, .int (0 : Int32)), (2, .int v1), (0, .ref (E.2.2.1 0 (0))), (1, .int a1)]) hx hb dX12_newChip_14 rfl hl (by decide) rfl (fun ls hl => ?_)
  refine lp_ind (fun q : (Int32 × Sto) => ∀ (H : Heap) (locs : List Loc), SM E s (q.2) H locs → ∀ ls : Array Slot, lv_has ls 4 [(3, .int (q.1)), (2, .int v1), (0, .ref (E.2.2.1 0 (0)))] → W p l e (headSpec wsX12_newChip ({ frames := 1, cells := 0, slots := 0, locals := 25 })).room s m ([.ref (E.2.2.1 0 (0)), .int a1] : List Value).toArray below meth c H locs 0 0 (MQ below (QM E (some (.int r)) st1) ([.ref (E.2.2.1 0 (0)), .int a1] : List Value).toArray s 0 0 E.2.2.2) (F0 m 15 ls [])) (fun q o6 h hB5 hX4 => ?_) _ _ h _ _ hw _ (lv_sub hl [0, 1, 2] rfl)
  intro H locs hw ls hl
  obtain ⟨v7, t8⟩ := q
  have h := un2_d h
  have hw : SM E s t8 H locs := hw
  have hl : lv_has ls 4 [(3, .int v7), (2, .int v1), (0, .ref (E.2.2.1 0 (0)))] := hl
  refine lv_iload_n hx hb dX12_newChip_15 rfl (lv_at hl 0 rfl) ?_
  refine lv_bipush (v := 16) hx hb dX12_newChip_16 (by decide) ?_
  refine lv_icmp_ge (tgt := 39) hx hb dX12_newChip_18 (by decide) (fun hc10 => ?_) (fun hc10 => ?_)
  · have h := ifp h hc10
    have h := hX4 _ (Option.some.inj h).symm
    have hl := lv_sub hl (l' := [(0, .ref (E.2.2.1 0 (0))), (2, .int v1)]) [2, 1] rfl
    refine lv_aload_n hx hb dX12_newChip_39 rfl (lv_at hl 0 rfl) ?_
    refine lv_dup hx hb dX12_newChip_40 rfl ?_
    refine M_g0_2 C0 hw (fun w h => (List.mem_cons_of_mem _ (List.mem_append_right _ h))) (by decide) ((List.mem_cons_of_mem _ (List.mem_append_left _ (List.mem_of_getElem? (i := 0) rfl)))) dX12_newChip_41 ?_
    refine lv_iconst (v := 1) hx hb dX12_newChip_44 (by decide) ?_
    refine lv_iadd hx hb dX12_newChip_45 ?_
    refine M_p0_2 hL C0 hw (fun w h => (List.mem_cons_of_mem _ (List.mem_append_right _ h))) (by decide) h ((List.mem_cons_of_mem _ (List.mem_append_left _ (List.mem_of_getElem? (i := 0) rfl)))) dX12_newChip_46 (fun t11 H locs hw h => ?_)
    refine lv_aload_n hx hb dX12_newChip_49 rfl (lv_at hl 0 rfl) ?_
    refine lv_iconst (v := 0) hx hb dX12_newChip_50 (by decide) ?_
    refine lv_iload_n hx hb dX12_newChip_51 rfl (lv_at hl 1 rfl) ?_
    refine lv_iconst (v := 0) hx hb dX12_newChip_52 (by decide) ?_
    refine lv_iconst (v := 0) hx hb dX12_newChip_53 (by decide) ?_
    obtain ⟨t12, hf13, h⟩ := bn_c h
    refine M_callV C0 hw (As := [.int (0 : Int32), .int v1, .int (0 : Int32), .int (0 : Int32)]) (rest := []) (mX12_act l E hL t11 hf13) (cwV 4 C0.1.2.2.2.2 gX12_newChip_X12_act rfl rfl rfl (by decide +kernel) ⟨Nat.le_of_ble_eq_true rfl, Nat.le_of_ble_eq_true rfl⟩) (M_recv_0 C0 hw (by decide)) rfl hl.1 rfl (Nat.le_of_ble_eq_true rfl) dX12_newChip_54 ⟨Nat.zero_le _, Nat.zero_le _⟩ (fun H locs hw => ?_)
    refine W.eq (g2 := F0 m 57 ls []) rfl ?_
    refine lv_iload_n hx hb dX12_newChip_57 rfl (lv_at hl 1 rfl) ?_
    cases h
    exact W.iret hx hb hr (M_fin C0 hw) hw.2.2.2 dX12_newChip_58 hlocks
  · have h := ifn h hc10
    refine lv_aload_n hx hb dX12_newChip_21 rfl (lv_at hl 2 rfl) ?_
    refine M_g0_1 C0 hw (fun w h => (List.mem_cons_of_mem _ (List.mem_append_right _ h))) (by decide) ((List.mem_cons_of_mem _ (List.mem_append_left _ (List.mem_of_getElem? (i := 1) rfl)))) dX12_newChip_22 ?_
    refine lv_bipush (v := 16) hx hb dX12_newChip_25 (by decide) ?_
    refine lv_iload_n hx hb dX12_newChip_27 rfl (lv_at hl 1 rfl) ?_
    refine lv_imul hx hb dX12_newChip_28 ?_
    refine lv_iload_n hx hb dX12_newChip_29 rfl (lv_at hl 0 rfl) ?_
    refine lv_iadd hx hb dX12_newChip_30 ?_
    refine lv_fconst0 hx hb dX12_newChip_31 ?_
    refine M_fast hL C0 hw h (k := (((16 : Int32) * v1) + v7).toNatClampNeg) rfl dX12_newChip_32 (fun t14 H locs hw h => ?_)
    refine x_iinc hx hb h dX12_newChip_33 hl (q := 0) rfl (fun v15 => [(3, .int v15), (2, .int v1), (0, .ref (E.2.2.1 0 (0)))]) (by decide) (fun _ => rfl) (fun v15 ls hl h => ?_)
    refine lv_goto (tgt := 15) hx hb dX12_newChip_36 (by decide) ?_
    exact hB5 _ (Option.some.inj h).symm _ _ hw _ (lv_sub hl [0, 1, 2] rfl)

def fX12_chip (st : Sto) : Option (Int32 × Sto) :=
  lt1 (sI st 0 (0) 10 (0 : Int32)) fun (t1 : Sto) =>
  if gI t1 0 (0) 2 = (40 : Int32) then (
   (fX12_no (1 : Int32) t1).bind (un2 fun (v6 : Int32) (t7 : Sto) =>
    some (v6, t7))) else (
   (fX12_newChip (0 : Int32) t1).bind (un2 fun (v3 : Int32) (t4 : Sto) =>
    some (v3, t4)))
set_option maxHeartbeats 4000000 in
set_option maxRecDepth 100000 in
theorem mX12_chip (l : Launch) (E : XE) (hL : LM E) (st : Sto) {r : Int32} {st1 : Sto} (h : fX12_chip st = some (r, st1)) : Met l yX12_chip wsX12_chip ({ frames := 2, cells := 0, slots := 0, locals := 48 }) (va_Pc [.ref (E.2.2.1 0 (0))] (RM E st)) (QM E (some (.int r)) st1) 0 0 E.2.2.2 := by
  refine Met.ofW (cc := cX12_chip) (maxL := 1) (ret := (some .int)) (by decide) rfl ?_
  intro p e s m args below meth c s₁ B hml hv
  obtain ⟨rfl, hP, hK⟩ := hv
  have hown : s.vm.findClass RX12 = some m.cls := findClass_of_methodNamed B.named
  have C0 : CX p m c cX12_chip 1 s _ wsX12_chip RX12 E := ⟨⟨B.exec, B.bytes, hml, hown, atoms_spec (ws := wsX12_chip) B.pre⟩, hK⟩
  have hx := B.exec
  have hb := B.bytes
  have hr := B.returns
  have hlocks := B.notSynchronized
  have hw : SM E s st s.heap [] := ⟨hP, va_S.rf⟩
  have hl := lv_entry ([.ref (E.2.2.1 0 (0))]) (n := 1) (Nat.le_of_ble_eq_true rfl)
  rw [lg_entry_eq]
  generalize (lg_sl ([.ref (E.2.2.1 0 (0))]) ++ List.replicate (1 - (lg_sl ([.ref (E.2.2.1 0 (0))])).length) Slot.unset).toArray = ls at hl ⊢
  have hl : lv_has ls 1 [(0, .ref (E.2.2.1 0 (0)))] := hl
  unfold fX12_chip at h
  refine lv_aload_n hx hb dX12_chip_0 rfl (lv_at hl 0 rfl) ?_
  refine lv_iconst (v := 0) hx hb dX12_chip_1 (by decide) ?_
  refine M_p0_10 hL C0 hw (fun w h => (List.mem_cons_of_mem _ (List.mem_append_right _ h))) (by decide) h ((List.mem_cons_of_mem _ (List.mem_append_left _ (List.mem_append_left _ (List.mem_of_getElem? (i := 0) rfl))))) dX12_chip_2 (fun t1 H locs hw h => ?_)
  refine lv_aload_n hx hb dX12_chip_5 rfl (lv_at hl 0 rfl) ?_
  refine M_g0_2 C0 hw (fun w h => (List.mem_cons_of_mem _ (List.mem_append_right _ h))) (by decide) ((List.mem_cons_of_mem _ (List.mem_append_left _ (List.mem_append_left _ (List.mem_of_getElem? (i := 1) rfl))))) dX12_chip_6 ?_
  refine lv_bipush (v := 40) hx hb dX12_chip_9 (by decide) ?_
  refine lv_icmp_ne (tgt := 22) hx hb dX12_chip_11 (by decide) (fun hc2 => ?_) (fun hc2 => ?_)
  · have h := ifn h hc2
    refine lv_aload_n hx hb dX12_chip_22 rfl (lv_at hl 0 rfl) ?_
    refine lv_iconst (v := 0) hx hb dX12_chip_23 (by decide) ?_
    obtain ⟨⟨v3, t4⟩, hf5, h⟩ := bn_c h
    have h := un2_d h
    refine M_callV C0 hw (As := [.int (0 : Int32)]) (rest := []) (mX12_newChip l E hL t1 hf5) (cwV 1 C0.1.2.2.2.2 gX12_chip_X12_newChip rfl rfl rfl (by decide +kernel) ⟨Nat.le_of_ble_eq_true rfl, Nat.le_of_ble_eq_true rfl⟩) (M_recv_0 C0 hw (by decide)) rfl hl.1 rfl (Nat.le_of_ble_eq_true rfl) dX12_chip_24 ⟨Nat.zero_le _, Nat.zero_le _⟩ (fun H locs hw => ?_)
    refine W.eq (g2 := F0 m 27 ls [.int v3]) rfl ?_
    cases h
    exact W.iret hx hb hr (M_fin C0 hw) hw.2.2.2 dX12_chip_27 hlocks
  · have h := ifp h hc2
    refine lv_aload_n hx hb dX12_chip_14 rfl (lv_at hl 0 rfl) ?_
    refine lv_iconst (v := 1) hx hb dX12_chip_15 (by decide) ?_
    obtain ⟨⟨v6, t7⟩, hf8, h⟩ := bn_c h
    have h := un2_d h
    refine M_callV C0 hw (As := [.int (1 : Int32)]) (rest := []) (mX12_no l E hL t1 hf8) (cwV 1 C0.1.2.2.2.2 gX12_chip_X12_no rfl rfl rfl (by decide +kernel) ⟨Nat.le_of_ble_eq_true rfl, Nat.le_of_ble_eq_true rfl⟩) (M_recv_0 C0 hw (by decide)) rfl hl.1 rfl (Nat.le_of_ble_eq_true rfl) dX12_chip_16 ⟨Nat.zero_le _, Nat.zero_le _⟩ (fun H locs hw => ?_)
    refine W.eq (g2 := F0 m 19 ls [.int v6]) rfl ?_
    refine lv_goto (tgt := 27) hx hb dX12_chip_19 (by decide) ?_
    cases h
    exact W.iret hx hb hr (M_fin C0 hw) hw.2.2.2 dX12_chip_27 hlocks

def fX12_cloth (st : Sto) : Option (Int32 × Sto) :=
  lt1 (sI st 0 (0) 10 (0 : Int32)) fun (t1 : Sto) =>
  if gI t1 0 (0) 3 = (8 : Int32) then (
   (fX12_no (1 : Int32) t1).bind (un2 fun (v8 : Int32) (t9 : Sto) =>
    some (v8, t9))) else (
   (fX12_copy (0 : Int32) ((41 : Int32) + (gI t1 0 (0) 3)) t1).bind (fun (t3 : Sto) =>
    lt1 (sI t3 0 (0) 3 ((gI t3 0 (0) 3) + (1 : Int32))) fun (t5 : Sto) =>
    (fX12_act (1 : Int32) (0 : Int32) (0 : Int32) (0 : Int32) t5).bind (fun (t6 : Sto) =>
     some ((gI t6 0 (0) 3) - (1 : Int32), t6))))
set_option maxHeartbeats 4000000 in
set_option maxRecDepth 100000 in
theorem mX12_cloth (l : Launch) (E : XE) (hL : LM E) (st : Sto) {r : Int32} {st1 : Sto} (h : fX12_cloth st = some (r, st1)) : Met l yX12_cloth wsX12_cloth ({ frames := 1, cells := 0, slots := 0, locals := 25 }) (va_Pc [.ref (E.2.2.1 0 (0))] (RM E st)) (QM E (some (.int r)) st1) 0 0 E.2.2.2 := by
  refine Met.ofW (cc := cX12_cloth) (maxL := 1) (ret := (some .int)) (by decide) rfl ?_
  intro p e s m args below meth c s₁ B hml hv
  obtain ⟨rfl, hP, hK⟩ := hv
  have hown : s.vm.findClass RX12 = some m.cls := findClass_of_methodNamed B.named
  have C0 : CX p m c cX12_cloth 1 s _ wsX12_cloth RX12 E := ⟨⟨B.exec, B.bytes, hml, hown, atoms_spec (ws := wsX12_cloth) B.pre⟩, hK⟩
  have hx := B.exec
  have hb := B.bytes
  have hr := B.returns
  have hlocks := B.notSynchronized
  have hw : SM E s st s.heap [] := ⟨hP, va_S.rf⟩
  have hl := lv_entry ([.ref (E.2.2.1 0 (0))]) (n := 1) (Nat.le_of_ble_eq_true rfl)
  rw [lg_entry_eq]
  generalize (lg_sl ([.ref (E.2.2.1 0 (0))]) ++ List.replicate (1 - (lg_sl ([.ref (E.2.2.1 0 (0))])).length) Slot.unset).toArray = ls at hl ⊢
  have hl : lv_has ls 1 [(0, .ref (E.2.2.1 0 (0)))] := hl
  unfold fX12_cloth at h
  refine lv_aload_n hx hb dX12_cloth_0 rfl (lv_at hl 0 rfl) ?_
  refine lv_iconst (v := 0) hx hb dX12_cloth_1 (by decide) ?_
  refine M_p0_10 hL C0 hw (fun w h => (List.mem_cons_of_mem _ (List.mem_append_right _ h))) (by decide) h ((List.mem_cons_of_mem _ (List.mem_append_left _ (List.mem_of_getElem? (i := 0) rfl)))) dX12_cloth_2 (fun t1 H locs hw h => ?_)
  refine lv_aload_n hx hb dX12_cloth_5 rfl (lv_at hl 0 rfl) ?_
  refine M_g0_3 C0 hw (fun w h => (List.mem_cons_of_mem _ (List.mem_append_right _ h))) (by decide) ((List.mem_cons_of_mem _ (List.mem_append_left _ (List.mem_of_getElem? (i := 1) rfl)))) dX12_cloth_6 ?_
  refine lv_bipush (v := 8) hx hb dX12_cloth_9 (by decide) ?_
  refine lv_icmp_ne (tgt := 20) hx hb dX12_cloth_11 (by decide) (fun hc2 => ?_) (fun hc2 => ?_)
  · have h := ifn h hc2
    refine lv_aload_n hx hb dX12_cloth_20 rfl (lv_at hl 0 rfl) ?_
    refine lv_iconst (v := 0) hx hb dX12_cloth_21 (by decide) ?_
    refine lv_bipush (v := 41) hx hb dX12_cloth_22 (by decide) ?_
    refine lv_aload_n hx hb dX12_cloth_24 rfl (lv_at hl 0 rfl) ?_
    refine M_g0_3 C0 hw (fun w h => (List.mem_cons_of_mem _ (List.mem_append_right _ h))) (by decide) ((List.mem_cons_of_mem _ (List.mem_append_left _ (List.mem_of_getElem? (i := 1) rfl)))) dX12_cloth_25 ?_
    refine lv_iadd hx hb dX12_cloth_28 ?_
    obtain ⟨t3, hf4, h⟩ := bn_c h
    refine M_callV C0 hw (As := [.int (0 : Int32), .int ((41 : Int32) + (gI t1 0 (0) 3))]) (rest := []) (mX12_copy l E hL t1 hf4) (cwV 2 C0.1.2.2.2.2 gX12_cloth_X12_copy rfl rfl rfl (by decide +kernel) ⟨Nat.le_of_ble_eq_true rfl, Nat.le_of_ble_eq_true rfl⟩) (M_recv_0 C0 hw (by decide)) rfl hl.1 rfl (Nat.le_of_ble_eq_true rfl) dX12_cloth_29 ⟨Nat.zero_le _, Nat.zero_le _⟩ (fun H locs hw => ?_)
    refine W.eq (g2 := F0 m 32 ls []) rfl ?_
    refine lv_aload_n hx hb dX12_cloth_32 rfl (lv_at hl 0 rfl) ?_
    refine lv_dup hx hb dX12_cloth_33 rfl ?_
    refine M_g0_3 C0 hw (fun w h => (List.mem_cons_of_mem _ (List.mem_append_right _ h))) (by decide) ((List.mem_cons_of_mem _ (List.mem_append_left _ (List.mem_of_getElem? (i := 1) rfl)))) dX12_cloth_34 ?_
    refine lv_iconst (v := 1) hx hb dX12_cloth_37 (by decide) ?_
    refine lv_iadd hx hb dX12_cloth_38 ?_
    refine M_p0_3 hL C0 hw (fun w h => (List.mem_cons_of_mem _ (List.mem_append_right _ h))) (by decide) h ((List.mem_cons_of_mem _ (List.mem_append_left _ (List.mem_of_getElem? (i := 1) rfl)))) dX12_cloth_39 (fun t5 H locs hw h => ?_)
    refine lv_aload_n hx hb dX12_cloth_42 rfl (lv_at hl 0 rfl) ?_
    refine lv_iconst (v := 1) hx hb dX12_cloth_43 (by decide) ?_
    refine lv_iconst (v := 0) hx hb dX12_cloth_44 (by decide) ?_
    refine lv_iconst (v := 0) hx hb dX12_cloth_45 (by decide) ?_
    refine lv_iconst (v := 0) hx hb dX12_cloth_46 (by decide) ?_
    obtain ⟨t6, hf7, h⟩ := bn_c h
    refine M_callV C0 hw (As := [.int (1 : Int32), .int (0 : Int32), .int (0 : Int32), .int (0 : Int32)]) (rest := []) (mX12_act l E hL t5 hf7) (cwV 4 C0.1.2.2.2.2 gX12_cloth_X12_act rfl rfl rfl (by decide +kernel) ⟨Nat.le_of_ble_eq_true rfl, Nat.le_of_ble_eq_true rfl⟩) (M_recv_0 C0 hw (by decide)) rfl hl.1 rfl (Nat.le_of_ble_eq_true rfl) dX12_cloth_47 ⟨Nat.zero_le _, Nat.zero_le _⟩ (fun H locs hw => ?_)
    refine W.eq (g2 := F0 m 50 ls []) rfl ?_
    refine lv_aload_n hx hb dX12_cloth_50 rfl (lv_at hl 0 rfl) ?_
    refine M_g0_3 C0 hw (fun w h => (List.mem_cons_of_mem _ (List.mem_append_right _ h))) (by decide) ((List.mem_cons_of_mem _ (List.mem_append_left _ (List.mem_of_getElem? (i := 1) rfl)))) dX12_cloth_51 ?_
    refine lv_iconst (v := 1) hx hb dX12_cloth_54 (by decide) ?_
    refine lv_isub hx hb dX12_cloth_55 ?_
    cases h
    exact W.iret hx hb hr (M_fin C0 hw) hw.2.2.2 dX12_cloth_56 hlocks
  · have h := ifp h hc2
    refine lv_aload_n hx hb dX12_cloth_14 rfl (lv_at hl 0 rfl) ?_
    refine lv_iconst (v := 1) hx hb dX12_cloth_15 (by decide) ?_
    obtain ⟨⟨v8, t9⟩, hf10, h⟩ := bn_c h
    have h := un2_d h
    refine M_callV C0 hw (As := [.int (1 : Int32)]) (rest := []) (mX12_no l E hL t1 hf10) (cwV 1 C0.1.2.2.2.2 gX12_cloth_X12_no rfl rfl rfl (by decide +kernel) ⟨Nat.le_of_ble_eq_true rfl, Nat.le_of_ble_eq_true rfl⟩) (M_recv_0 C0 hw (by decide)) rfl hl.1 rfl (Nat.le_of_ble_eq_true rfl) dX12_cloth_16 ⟨Nat.zero_le _, Nat.zero_le _⟩ (fun H locs hw => ?_)
    refine W.eq (g2 := F0 m 19 ls [.int v8]) rfl ?_
    cases h
    exact W.iret hx hb hr (M_fin C0 hw) hw.2.2.2 dX12_cloth_19 hlocks
