def fX8_offer (oi : Nat) (a1 : Int32) (a2 : Int32) (a3 : Int32) (st : Sto) : Option Sto :=
  if a2 < (1 : Int32) then (
   some st) else (
   if gI st 16 oi 3 < (20 : Int32) then (
    ck (0 ≤ (gI st 16 oi 3).toInt ∧ (gI st 16 oi 3).toInt < (lIX (45) oi : Int)) (lt1 (sI st (45) oi ((gI st 16 oi 3).toNatClampNeg) a1) fun (t3 : Sto) =>
     ck (0 ≤ (gI t3 16 oi 3).toInt ∧ (gI t3 16 oi 3).toInt < (lIX (46) oi : Int)) (lt1 (sI t3 (46) oi ((gI t3 16 oi 3).toNatClampNeg) a2) fun (t4 : Sto) =>
      ck (0 ≤ (gI t4 16 oi 3).toInt ∧ (gI t4 16 oi 3).toInt < (lIX (47) oi : Int)) (lt1 (sI t4 (47) oi ((gI t4 16 oi 3).toNatClampNeg) a3) fun (t5 : Sto) =>
       lt1 (sI t5 16 oi 3 ((gI t5 16 oi 3) + (1 : Int32))) fun (t6 : Sto) =>
       some t6)))) else (
    some st))
set_option maxHeartbeats 4000000 in
set_option maxRecDepth 100000 in
theorem mX8_offer (l : Launch) (E : XE) (hL : LX E) (st : Sto) {oi : Nat} {a1 : Int32} {a2 : Int32} {a3 : Int32} (ho : oi < cntX 16) {st1 : Sto} (h : fX8_offer oi a1 a2 a3 st = some st1) : Met l yX8_offer wsX8_offer ({ frames := 0, cells := 0, slots := 0, locals := 0 }) (va_Pc [.ref (E.2.2.1 16 oi), .int a1, .int a2, .int a3] (RX E st)) (QX E none st1) 0 0 E.2.2.2 := by
  refine Met.ofW (cc := cX8_offer) (maxL := 4) (ret := none) (by decide) rfl ?_
  intro p e s m args below meth c s₁ B hml hv
  obtain ⟨rfl, hP, hK⟩ := hv
  have hown : s.vm.findClass RX8 = some m.cls := findClass_of_methodNamed B.named
  have C0 : CX p m c cX8_offer 4 s _ wsX8_offer RX8 E := ⟨⟨B.exec, B.bytes, hml, hown, atoms_spec (ws := wsX8_offer) B.pre⟩, hK⟩
  have hx := B.exec
  have hb := B.bytes
  have hr := B.returns
  have hlocks := B.notSynchronized
  have hw : SX E s st s.heap [] := ⟨hP, va_S.rf⟩
  have hl := lv_entry ([.ref (E.2.2.1 16 oi), .int a1, .int a2, .int a3]) (n := 4) (Nat.le_of_ble_eq_true rfl)
  rw [lg_entry_eq]
  generalize (lg_sl ([.ref (E.2.2.1 16 oi), .int a1, .int a2, .int a3]) ++ List.replicate (4 - (lg_sl ([.ref (E.2.2.1 16 oi), .int a1, .int a2, .int a3])).length) Slot.unset).toArray = ls at hl ⊢
  have hl : lv_has ls 4 [(0, .ref (E.2.2.1 16 oi)), (1, .int a1), (2, .int a2), (3, .int a3)] := hl
  unfold fX8_offer at h
  refine lv_iload_n hx hb dX8_offer_0 rfl (lv_at hl 2 rfl) ?_
  refine lv_iconst (v := 1) hx hb dX8_offer_1 (by decide) ?_
  refine lv_icmp_lt (tgt := 14) hx hb dX8_offer_2 (by decide) (fun hc1 => ?_) (fun hc1 => ?_)
  · have h := ifp h hc1
    cases h
    exact W.vret hx hb hr (X_fin C0 hw) hw.2.2.2 dX8_offer_14 hlocks
  · have h := ifn h hc1
    refine lv_aload_n hx hb dX8_offer_5 rfl (lv_at hl 0 rfl) ?_
    refine X_g16_3 C0 hw (fun w h => (List.mem_cons_of_mem _ (List.mem_append_right _ h))) ho ((List.mem_cons_of_mem _ (List.mem_append_left _ (List.mem_of_getElem? (i := 0) rfl)))) dX8_offer_6 ?_
    refine lv_bipush (v := 20) hx hb dX8_offer_9 (by decide) ?_
    refine lv_icmp_lt (tgt := 15) hx hb dX8_offer_11 (by decide) (fun hc2 => ?_) (fun hc2 => ?_)
    · have h := ifp h hc2
      refine lv_aload_n hx hb dX8_offer_15 rfl (lv_at hl 0 rfl) ?_
      refine X_g16_0 C0 hw (fun w h => (List.mem_cons_of_mem _ (List.mem_append_right _ h))) ho ((List.mem_cons_of_mem _ (List.mem_append_left _ (List.mem_of_getElem? (i := 1) rfl)))) dX8_offer_16 ?_
      refine lv_aload_n hx hb dX8_offer_19 rfl (lv_at hl 0 rfl) ?_
      refine X_g16_3 C0 hw (fun w h => (List.mem_cons_of_mem _ (List.mem_append_right _ h))) ho ((List.mem_cons_of_mem _ (List.mem_append_left _ (List.mem_of_getElem? (i := 0) rfl)))) dX8_offer_20 ?_
      refine lv_iload_n hx hb dX8_offer_23 rfl (lv_at hl 1 rfl) ?_
      refine X_iast hL C0 hw h (k := (gI st 16 oi 3).toNatClampNeg) rfl dX8_offer_24 (fun t3 H locs hw h => ?_)
      refine lv_aload_n hx hb dX8_offer_25 rfl (lv_at hl 0 rfl) ?_
      refine X_g16_1 C0 hw (fun w h => (List.mem_cons_of_mem _ (List.mem_append_right _ h))) ho ((List.mem_cons_of_mem _ (List.mem_append_left _ (List.mem_of_getElem? (i := 2) rfl)))) dX8_offer_26 ?_
      refine lv_aload_n hx hb dX8_offer_29 rfl (lv_at hl 0 rfl) ?_
      refine X_g16_3 C0 hw (fun w h => (List.mem_cons_of_mem _ (List.mem_append_right _ h))) ho ((List.mem_cons_of_mem _ (List.mem_append_left _ (List.mem_of_getElem? (i := 0) rfl)))) dX8_offer_30 ?_
      refine lv_iload_n hx hb dX8_offer_33 rfl (lv_at hl 2 rfl) ?_
      refine X_iast hL C0 hw h (k := (gI t3 16 oi 3).toNatClampNeg) rfl dX8_offer_34 (fun t4 H locs hw h => ?_)
      refine lv_aload_n hx hb dX8_offer_35 rfl (lv_at hl 0 rfl) ?_
      refine X_g16_2 C0 hw (fun w h => (List.mem_cons_of_mem _ (List.mem_append_right _ h))) ho ((List.mem_cons_of_mem _ (List.mem_append_left _ (List.mem_of_getElem? (i := 3) rfl)))) dX8_offer_36 ?_
      refine lv_aload_n hx hb dX8_offer_39 rfl (lv_at hl 0 rfl) ?_
      refine X_g16_3 C0 hw (fun w h => (List.mem_cons_of_mem _ (List.mem_append_right _ h))) ho ((List.mem_cons_of_mem _ (List.mem_append_left _ (List.mem_of_getElem? (i := 0) rfl)))) dX8_offer_40 ?_
      refine lv_iload_n hx hb dX8_offer_43 rfl (lv_at hl 3 rfl) ?_
      refine X_iast hL C0 hw h (k := (gI t4 16 oi 3).toNatClampNeg) rfl dX8_offer_44 (fun t5 H locs hw h => ?_)
      refine lv_aload_n hx hb dX8_offer_45 rfl (lv_at hl 0 rfl) ?_
      refine lv_dup hx hb dX8_offer_46 rfl ?_
      refine X_g16_3 C0 hw (fun w h => (List.mem_cons_of_mem _ (List.mem_append_right _ h))) ho ((List.mem_cons_of_mem _ (List.mem_append_left _ (List.mem_of_getElem? (i := 0) rfl)))) dX8_offer_47 ?_
      refine lv_iconst (v := 1) hx hb dX8_offer_50 (by decide) ?_
      refine lv_iadd hx hb dX8_offer_51 ?_
      refine X_p16_3 hL C0 hw (fun w h => (List.mem_cons_of_mem _ (List.mem_append_right _ h))) ho h ((List.mem_cons_of_mem _ (List.mem_append_left _ (List.mem_of_getElem? (i := 0) rfl)))) dX8_offer_52 (fun t6 H locs hw h => ?_)
      cases h
      exact W.vret hx hb hr (X_fin C0 hw) hw.2.2.2 dX8_offer_55 hlocks
    · have h := ifn h hc2
      cases h
      exact W.vret hx hb hr (X_fin C0 hw) hw.2.2.2 dX8_offer_14 hlocks

def fX8_nameAt (oi : Nat) (a1 : Int32) (st : Sto) : Option Int32 :=
  ck (0 ≤ a1.toInt ∧ a1.toInt < (lIX (48) oi : Int)) (
   ck (0 ≤ (gI st (48) oi (a1.toNatClampNeg)).toInt ∧ (gI st (48) oi (a1.toNatClampNeg)).toInt < (lIX (45) oi : Int)) (
    some (gI st (45) oi ((gI st (48) oi (a1.toNatClampNeg)).toNatClampNeg))))
set_option maxHeartbeats 4000000 in
set_option maxRecDepth 100000 in
theorem mX8_nameAt (l : Launch) (E : XE) (hL : LX E) (st : Sto) {oi : Nat} {a1 : Int32} (ho : oi < cntX 16) {r : Int32} (h : fX8_nameAt oi a1 st = some r) : Met l yX8_nameAt wsX8_nameAt ({ frames := 0, cells := 0, slots := 0, locals := 0 }) (va_Pc [.ref (E.2.2.1 16 oi), .int a1] (RX E st)) (QX E (some (.int r)) st) 0 0 E.2.2.2 := by
  refine Met.ofW (cc := cX8_nameAt) (maxL := 2) (ret := (some .int)) (by decide) rfl ?_
  intro p e s m args below meth c s₁ B hml hv
  obtain ⟨rfl, hP, hK⟩ := hv
  have hown : s.vm.findClass RX8 = some m.cls := findClass_of_methodNamed B.named
  have C0 : CX p m c cX8_nameAt 2 s _ wsX8_nameAt RX8 E := ⟨⟨B.exec, B.bytes, hml, hown, atoms_spec (ws := wsX8_nameAt) B.pre⟩, hK⟩
  have hx := B.exec
  have hb := B.bytes
  have hr := B.returns
  have hlocks := B.notSynchronized
  have hw : SX E s st s.heap [] := ⟨hP, va_S.rf⟩
  have hl := lv_entry ([.ref (E.2.2.1 16 oi), .int a1]) (n := 2) (Nat.le_of_ble_eq_true rfl)
  rw [lg_entry_eq]
  generalize (lg_sl ([.ref (E.2.2.1 16 oi), .int a1]) ++ List.replicate (2 - (lg_sl ([.ref (E.2.2.1 16 oi), .int a1])).length) Slot.unset).toArray = ls at hl ⊢
  have hl : lv_has ls 2 [(0, .ref (E.2.2.1 16 oi)), (1, .int a1)] := hl
  unfold fX8_nameAt at h
  refine lv_aload_n hx hb dX8_nameAt_0 rfl (lv_at hl 0 rfl) ?_
  refine X_g16_0 C0 hw (fun w h => (List.mem_cons_of_mem _ (List.mem_append_right _ h))) ho ((List.mem_cons_of_mem _ (List.mem_append_left _ (List.mem_of_getElem? (i := 0) rfl)))) dX8_nameAt_1 ?_
  refine lv_aload_n hx hb dX8_nameAt_4 rfl (lv_at hl 0 rfl) ?_
  refine X_g16_7 C0 hw (fun w h => (List.mem_cons_of_mem _ (List.mem_append_right _ h))) ho ((List.mem_cons_of_mem _ (List.mem_append_left _ (List.mem_of_getElem? (i := 1) rfl)))) dX8_nameAt_5 ?_
  refine lv_iload_n hx hb dX8_nameAt_8 rfl (lv_at hl 1 rfl) ?_
  refine X_iald C0 hw h (k := a1.toNatClampNeg) rfl dX8_nameAt_9 (fun h => ?_)
  refine X_iald C0 hw h (k := (gI st (48) oi (a1.toNatClampNeg)).toNatClampNeg) rfl dX8_nameAt_10 (fun h => ?_)
  cases h
  exact W.iret hx hb hr (X_fin C0 hw) hw.2.2.2 dX8_nameAt_11 hlocks

def fX8_gramsAt (oi : Nat) (a1 : Int32) (st : Sto) : Option Int32 :=
  ck (0 ≤ a1.toInt ∧ a1.toInt < (lIX (49) oi : Int)) (
   some ((gI st (49) oi (a1.toNatClampNeg)) * (gI st 16 oi 5)))
set_option maxHeartbeats 4000000 in
set_option maxRecDepth 100000 in
theorem mX8_gramsAt (l : Launch) (E : XE) (hL : LX E) (st : Sto) {oi : Nat} {a1 : Int32} (ho : oi < cntX 16) {r : Int32} (h : fX8_gramsAt oi a1 st = some r) : Met l yX8_gramsAt wsX8_gramsAt ({ frames := 0, cells := 0, slots := 0, locals := 0 }) (va_Pc [.ref (E.2.2.1 16 oi), .int a1] (RX E st)) (QX E (some (.int r)) st) 0 0 E.2.2.2 := by
  refine Met.ofW (cc := cX8_gramsAt) (maxL := 2) (ret := (some .int)) (by decide) rfl ?_
  intro p e s m args below meth c s₁ B hml hv
  obtain ⟨rfl, hP, hK⟩ := hv
  have hown : s.vm.findClass RX8 = some m.cls := findClass_of_methodNamed B.named
  have C0 : CX p m c cX8_gramsAt 2 s _ wsX8_gramsAt RX8 E := ⟨⟨B.exec, B.bytes, hml, hown, atoms_spec (ws := wsX8_gramsAt) B.pre⟩, hK⟩
  have hx := B.exec
  have hb := B.bytes
  have hr := B.returns
  have hlocks := B.notSynchronized
  have hw : SX E s st s.heap [] := ⟨hP, va_S.rf⟩
  have hl := lv_entry ([.ref (E.2.2.1 16 oi), .int a1]) (n := 2) (Nat.le_of_ble_eq_true rfl)
  rw [lg_entry_eq]
  generalize (lg_sl ([.ref (E.2.2.1 16 oi), .int a1]) ++ List.replicate (2 - (lg_sl ([.ref (E.2.2.1 16 oi), .int a1])).length) Slot.unset).toArray = ls at hl ⊢
  have hl : lv_has ls 2 [(0, .ref (E.2.2.1 16 oi)), (1, .int a1)] := hl
  unfold fX8_gramsAt at h
  refine lv_aload_n hx hb dX8_gramsAt_0 rfl (lv_at hl 0 rfl) ?_
  refine X_g16_8 C0 hw (fun w h => (List.mem_cons_of_mem _ (List.mem_append_right _ h))) ho ((List.mem_cons_of_mem _ (List.mem_append_left _ (List.mem_of_getElem? (i := 0) rfl)))) dX8_gramsAt_1 ?_
  refine lv_iload_n hx hb dX8_gramsAt_4 rfl (lv_at hl 1 rfl) ?_
  refine X_iald C0 hw h (k := a1.toNatClampNeg) rfl dX8_gramsAt_5 (fun h => ?_)
  refine lv_aload_n hx hb dX8_gramsAt_6 rfl (lv_at hl 0 rfl) ?_
  refine X_g16_5 C0 hw (fun w h => (List.mem_cons_of_mem _ (List.mem_append_right _ h))) ho ((List.mem_cons_of_mem _ (List.mem_append_left _ (List.mem_of_getElem? (i := 1) rfl)))) dX8_gramsAt_7 ?_
  refine lv_imul hx hb dX8_gramsAt_10 ?_
  cases h
  exact W.iret hx hb hr (X_fin C0 hw) hw.2.2.2 dX8_gramsAt_11 hlocks

def fX8_gramsOf (oi : Nat) (a1 : Int32) (st : Sto) : Option Int32 :=
  ((lp (σ := Int32) (ρ := (Int32 ⊕ Unit)) (fun (v4 : Int32) =>
     if gI st 16 oi 9 ≤ v4 then (
      some (.inr (.inr ()))) else (
      (fX8_nameAt oi v4 st).bind (fun (v6 : Int32) =>
       if v6 = a1 then (
        (fX8_gramsAt oi v4 st).bind (fun (v10 : Int32) =>
         some (.inr (.inl v10)))) else (
        lt1 (v4 + Int32.ofInt (1)) fun (v9 : Int32) =>
        some (.inl v9))))) 4000 (0 : Int32)).bind
   (sm (fun (q : Int32) => some q) (fun (_ : Unit) =>
     some (0 : Int32))))
set_option maxHeartbeats 4000000 in
set_option maxRecDepth 100000 in
theorem mX8_gramsOf (l : Launch) (E : XE) (hL : LX E) (st : Sto) {oi : Nat} {a1 : Int32} (ho : oi < cntX 16) {r : Int32} (h : fX8_gramsOf oi a1 st = some r) : Met l yX8_gramsOf wsX8_gramsOf ({ frames := 1, cells := 0, slots := 0, locals := 21 }) (va_Pc [.ref (E.2.2.1 16 oi), .int a1] (RX E st)) (QX E (some (.int r)) st) 0 0 E.2.2.2 := by
  refine Met.ofW (cc := cX8_gramsOf) (maxL := 3) (ret := (some .int)) (by decide) rfl ?_
  intro p e s m args below meth c s₁ B hml hv
  obtain ⟨rfl, hP, hK⟩ := hv
  have hown : s.vm.findClass RX8 = some m.cls := findClass_of_methodNamed B.named
  have C0 : CX p m c cX8_gramsOf 3 s _ wsX8_gramsOf RX8 E := ⟨⟨B.exec, B.bytes, hml, hown, atoms_spec (ws := wsX8_gramsOf) B.pre⟩, hK⟩
  have hx := B.exec
  have hb := B.bytes
  have hr := B.returns
  have hlocks := B.notSynchronized
  have hw : SX E s st s.heap [] := ⟨hP, va_S.rf⟩
  have hl := lv_entry ([.ref (E.2.2.1 16 oi), .int a1]) (n := 3) (Nat.le_of_ble_eq_true rfl)
  rw [lg_entry_eq]
  generalize (lg_sl ([.ref (E.2.2.1 16 oi), .int a1]) ++ List.replicate (3 - (lg_sl ([.ref (E.2.2.1 16 oi), .int a1])).length) Slot.unset).toArray = ls at hl ⊢
  have hl : lv_has ls 3 [(0, .ref (E.2.2.1 16 oi)), (1, .int a1)] := hl
  unfold fX8_gramsOf at h
  refine lv_iconst (v := 0) hx hb dX8_gramsOf_0 (by decide) ?_
  refine lv_istore_n (lv' := [(2, .int (0 : Int32)), (0, .ref (E.2.2.1 16 oi)), (1, .int a1)]) hx hb dX8_gramsOf_1 rfl hl (by decide) rfl (fun ls hl => ?_)
  refine lp_ind (fun q : Int32 => ∀ (H : Heap) (locs : List Loc), SX E s st H locs → ∀ ls : Array Slot, lv_has ls 3 [(2, .int q), (0, .ref (E.2.2.1 16 oi)), (1, .int a1)] → W p l e (headSpec wsX8_gramsOf ({ frames := 1, cells := 0, slots := 0, locals := 21 })).room s m ([.ref (E.2.2.1 16 oi), .int a1] : List Value).toArray below meth c H locs 0 0 (MQ below (QX E (some (.int r)) st) ([.ref (E.2.2.1 16 oi), .int a1] : List Value).toArray s 0 0 E.2.2.2) (F0 m 2 ls [])) (fun q o3 h hB2 hX1 => ?_) _ _ h _ _ hw _ (lv_sub hl [0, 1, 2] rfl)
  intro H locs hw ls hl
  obtain ⟨v4, rfl⟩ : ∃ z, z = q := ⟨_, rfl⟩
  have hl : lv_has ls 3 [(2, .int v4), (0, .ref (E.2.2.1 16 oi)), (1, .int a1)] := hl
  refine lv_iload_n hx hb dX8_gramsOf_2 rfl (lv_at hl 0 rfl) ?_
  refine lv_aload_n hx hb dX8_gramsOf_3 rfl (lv_at hl 1 rfl) ?_
  refine X_g16_9 C0 hw (fun w h => (List.mem_cons_of_mem _ (List.mem_append_right _ h))) ho ((List.mem_cons_of_mem _ (List.mem_append_left _ (List.mem_of_getElem? (i := 0) rfl)))) dX8_gramsOf_4 ?_
  refine lv_icmp_ge (tgt := 31) hx hb dX8_gramsOf_7 (by decide) (fun hc5 => ?_) (fun hc5 => ?_)
  · have h := ifp h hc5
    have h := hX1 _ (Option.some.inj h).symm
    have h := sm_r h
    have hl := lv_sub hl (l' := []) [] rfl
    refine lv_iconst (v := 0) hx hb dX8_gramsOf_31 (by decide) ?_
    cases h
    exact W.iret hx hb hr (X_fin C0 hw) hw.2.2.2 dX8_gramsOf_32 hlocks
  · have h := ifn h hc5
    refine lv_aload_n hx hb dX8_gramsOf_10 rfl (lv_at hl 1 rfl) ?_
    refine lv_iload_n hx hb dX8_gramsOf_11 rfl (lv_at hl 0 rfl) ?_
    obtain ⟨v6, hf7, h⟩ := bn_c h
    refine X_callV C0 hw (As := [.int v4]) (rest := []) (mX8_nameAt l E hL st ho hf7) (cwV 1 C0.1.2.2.2.2 gX8_gramsOf_X8_nameAt rfl rfl rfl (by decide +kernel) ⟨Nat.le_of_ble_eq_true rfl, Nat.le_of_ble_eq_true rfl⟩) (X_recv_16 C0 hw ho) rfl hl.1 rfl (Nat.le_of_ble_eq_true rfl) dX8_gramsOf_12 ⟨Nat.zero_le _, Nat.zero_le _⟩ (fun H locs hw => ?_)
    refine W.eq (g2 := F0 m 15 ls [.int v6]) rfl ?_
    refine lv_iload_n hx hb dX8_gramsOf_15 rfl (lv_at hl 2 rfl) ?_
    refine lv_icmp_ne (tgt := 25) hx hb dX8_gramsOf_16 (by decide) (fun hc8 => ?_) (fun hc8 => ?_)
    · have h := ifn h hc8
      refine x_iinc hx hb h dX8_gramsOf_25 hl (q := 0) rfl (fun v9 => [(2, .int v9), (0, .ref (E.2.2.1 16 oi)), (1, .int a1)]) (by decide) (fun _ => rfl) (fun v9 ls hl h => ?_)
      refine lv_goto (tgt := 2) hx hb dX8_gramsOf_28 (by decide) ?_
      exact hB2 _ (Option.some.inj h).symm _ _ hw _ (lv_sub hl [0, 1, 2] rfl)
    · have h := ifp h hc8
      refine lv_aload_n hx hb dX8_gramsOf_19 rfl (lv_at hl 1 rfl) ?_
      refine lv_iload_n hx hb dX8_gramsOf_20 rfl (lv_at hl 0 rfl) ?_
      obtain ⟨v10, hf11, h⟩ := bn_c h
      refine X_callV C0 hw (As := [.int v4]) (rest := []) (mX8_gramsAt l E hL st ho hf11) (cwV 1 C0.1.2.2.2.2 gX8_gramsOf_X8_gramsAt rfl rfl rfl (by decide +kernel) ⟨Nat.le_of_ble_eq_true rfl, Nat.le_of_ble_eq_true rfl⟩) (X_recv_16 C0 hw ho) rfl hl.1 rfl (Nat.le_of_ble_eq_true rfl) dX8_gramsOf_21 ⟨Nat.zero_le _, Nat.zero_le _⟩ (fun H locs hw => ?_)
      refine W.eq (g2 := F0 m 24 ls [.int v10]) rfl ?_
      have h := hX1 _ (Option.some.inj h).symm
      have h := sm_l h
      cases h
      exact W.iret hx hb hr (X_fin C0 hw) hw.2.2.2 dX8_gramsOf_24 hlocks

def fX8_fillFrom (oi : Nat) (a1 : Int32) (a2 : Int32) (st : Sto) : Option Sto :=
  ((lp (σ := (Int32 × Sto)) (ρ := Sto) (un2 fun (v4 : Int32) (t5 : Sto) =>
     if gI t5 16 oi 9 ≤ v4 then (
      some (.inr t5)) else (
      ck (0 ≤ v4.toInt ∧ v4.toInt < (lIX (48) oi : Int)) (lt1 (sI t5 (48) oi (v4.toNatClampNeg) ((a2 + v4) - a1)) fun (t17 : Sto) =>
       lt1 (v4 + Int32.ofInt (1)) fun (v18 : Int32) =>
       some (.inl (v18, t17))))) 4000 (a1, st)).bind
   (fun (t6 : Sto) =>
    ((lp (σ := (Int32 × Sto)) (ρ := Sto) (un2 fun (v22 : Int32) (t23 : Sto) =>
       if gI t23 16 oi 9 ≤ v22 then (
        some (.inr t23)) else (
        ck (0 ≤ v22.toInt ∧ v22.toInt < (lIX (49) oi : Int)) (lt1 (sI t23 (49) oi (v22.toNatClampNeg) (1 : Int32)) fun (t26 : Sto) =>
         lt1 (v22 + Int32.ofInt (1)) fun (v27 : Int32) =>
         some (.inl (v27, t26))))) 4000 ((0 : Int32), t6)).bind
     (fun (t24 : Sto) =>
      some t24))))
set_option maxHeartbeats 4000000 in
set_option maxRecDepth 100000 in
theorem mX8_fillFrom (l : Launch) (E : XE) (hL : LX E) (st : Sto) {oi : Nat} {a1 : Int32} {a2 : Int32} (ho : oi < cntX 16) {st1 : Sto} (h : fX8_fillFrom oi a1 a2 st = some st1) : Met l yX8_fillFrom wsX8_fillFrom ({ frames := 0, cells := 0, slots := 0, locals := 0 }) (va_Pc [.ref (E.2.2.1 16 oi), .int a1, .int a2] (RX E st)) (QX E none st1) 0 0 E.2.2.2 := by
  refine Met.ofW (cc := cX8_fillFrom) (maxL := 4) (ret := none) (by decide) rfl ?_
  intro p e s m args below meth c s₁ B hml hv
  obtain ⟨rfl, hP, hK⟩ := hv
  have hown : s.vm.findClass RX8 = some m.cls := findClass_of_methodNamed B.named
  have C0 : CX p m c cX8_fillFrom 4 s _ wsX8_fillFrom RX8 E := ⟨⟨B.exec, B.bytes, hml, hown, atoms_spec (ws := wsX8_fillFrom) B.pre⟩, hK⟩
  have hx := B.exec
  have hb := B.bytes
  have hr := B.returns
  have hlocks := B.notSynchronized
  have hw : SX E s st s.heap [] := ⟨hP, va_S.rf⟩
  have hl := lv_entry ([.ref (E.2.2.1 16 oi), .int a1, .int a2]) (n := 4) (Nat.le_of_ble_eq_true rfl)
  rw [lg_entry_eq]
  generalize (lg_sl ([.ref (E.2.2.1 16 oi), .int a1, .int a2]) ++ List.replicate (4 - (lg_sl ([.ref (E.2.2.1 16 oi), .int a1, .int a2])).length) Slot.unset).toArray = ls at hl ⊢
  have hl : lv_has ls 4 [(0, .ref (E.2.2.1 16 oi)), (1, .int a1), (2, .int a2)] := hl
  unfold fX8_fillFrom at h
  refine lv_iload_n hx hb dX8_fillFrom_0 rfl (lv_at hl 1 rfl) ?_
  refine lv_istore_n (lv' := [(3, .int a1), (0, .ref (E.2.2.1 16 oi)), (1, .int a1), (2, .int a2)]) hx hb dX8_fillFrom_1 rfl hl (by decide) rfl (fun ls hl => ?_)
  refine lp_ind (fun q : (Int32 × Sto) => ∀ (H : Heap) (locs : List Loc), SX E s (q.2) H locs → ∀ ls : Array Slot, lv_has ls 4 [(3, .int (q.1)), (0, .ref (E.2.2.1 16 oi)), (1, .int a1), (2, .int a2)] → W p l e (headSpec wsX8_fillFrom ({ frames := 0, cells := 0, slots := 0, locals := 0 })).room s m ([.ref (E.2.2.1 16 oi), .int a1, .int a2] : List Value).toArray below meth c H locs 0 0 (MQ below (QX E none st1) ([.ref (E.2.2.1 16 oi), .int a1, .int a2] : List Value).toArray s 0 0 E.2.2.2) (F0 m 2 ls [])) (fun q o3 h hB2 hX1 => ?_) _ _ h _ _ hw _ (lv_sub hl [0, 1, 2, 3] rfl)
  intro H locs hw ls hl
  obtain ⟨v4, t5⟩ := q
  have h := un2_d h
  have hw : SX E s t5 H locs := hw
  have hl : lv_has ls 4 [(3, .int v4), (0, .ref (E.2.2.1 16 oi)), (1, .int a1), (2, .int a2)] := hl
  refine lv_iload_n hx hb dX8_fillFrom_2 rfl (lv_at hl 0 rfl) ?_
  refine lv_aload_n hx hb dX8_fillFrom_3 rfl (lv_at hl 1 rfl) ?_
  refine X_g16_9 C0 hw (fun w h => (List.mem_cons_of_mem _ (List.mem_append_right _ h))) ho ((List.mem_cons_of_mem _ (List.mem_append_left _ (List.mem_of_getElem? (i := 0) rfl)))) dX8_fillFrom_4 ?_
  refine lv_icmp_ge (tgt := 27) hx hb dX8_fillFrom_7 (by decide) (fun hc7 => ?_) (fun hc7 => ?_)
  · have h := ifp h hc7
    have h := hX1 _ (Option.some.inj h).symm
    have hl := lv_sub hl (l' := [(0, .ref (E.2.2.1 16 oi))]) [1] rfl
    refine lv_iconst (v := 0) hx hb dX8_fillFrom_27 (by decide) ?_
    refine lv_istore_n (lv' := [(3, .int (0 : Int32)), (0, .ref (E.2.2.1 16 oi))]) hx hb dX8_fillFrom_28 rfl hl (by decide) rfl (fun ls hl => ?_)
    refine lp_ind (fun q : (Int32 × Sto) => ∀ (H : Heap) (locs : List Loc), SX E s (q.2) H locs → ∀ ls : Array Slot, lv_has ls 4 [(3, .int (q.1)), (0, .ref (E.2.2.1 16 oi))] → W p l e (headSpec wsX8_fillFrom ({ frames := 0, cells := 0, slots := 0, locals := 0 })).room s m ([.ref (E.2.2.1 16 oi), .int a1, .int a2] : List Value).toArray below meth c H locs 0 0 (MQ below (QX E none st1) ([.ref (E.2.2.1 16 oi), .int a1, .int a2] : List Value).toArray s 0 0 E.2.2.2) (F0 m 29 ls [])) (fun q o10 h hB9 hX8 => ?_) _ _ h _ _ hw _ (lv_sub hl [0, 1] rfl)
    intro H locs hw ls hl
    obtain ⟨v11, t12⟩ := q
    have h := un2_d h
    have hw : SX E s t12 H locs := hw
    have hl : lv_has ls 4 [(3, .int v11), (0, .ref (E.2.2.1 16 oi))] := hl
    refine lv_iload_n hx hb dX8_fillFrom_29 rfl (lv_at hl 0 rfl) ?_
    refine lv_aload_n hx hb dX8_fillFrom_30 rfl (lv_at hl 1 rfl) ?_
    refine X_g16_9 C0 hw (fun w h => (List.mem_cons_of_mem _ (List.mem_append_right _ h))) ho ((List.mem_cons_of_mem _ (List.mem_append_left _ (List.mem_of_getElem? (i := 0) rfl)))) dX8_fillFrom_31 ?_
    refine lv_icmp_ge (tgt := 50) hx hb dX8_fillFrom_34 (by decide) (fun hc14 => ?_) (fun hc14 => ?_)
    · have h := ifp h hc14
      have h := hX8 _ (Option.some.inj h).symm
      have hl := lv_sub hl (l' := []) [] rfl
      cases h
      exact W.vret hx hb hr (X_fin C0 hw) hw.2.2.2 dX8_fillFrom_50 hlocks
    · have h := ifn h hc14
      refine lv_aload_n hx hb dX8_fillFrom_37 rfl (lv_at hl 1 rfl) ?_
      refine X_g16_8 C0 hw (fun w h => (List.mem_cons_of_mem _ (List.mem_append_right _ h))) ho ((List.mem_cons_of_mem _ (List.mem_append_left _ (List.mem_of_getElem? (i := 2) rfl)))) dX8_fillFrom_38 ?_
      refine lv_iload_n hx hb dX8_fillFrom_41 rfl (lv_at hl 0 rfl) ?_
      refine lv_iconst (v := 1) hx hb dX8_fillFrom_42 (by decide) ?_
      refine X_iast hL C0 hw h (k := v11.toNatClampNeg) rfl dX8_fillFrom_43 (fun t15 H locs hw h => ?_)
      refine x_iinc hx hb h dX8_fillFrom_44 hl (q := 0) rfl (fun v16 => [(3, .int v16), (0, .ref (E.2.2.1 16 oi))]) (by decide) (fun _ => rfl) (fun v16 ls hl h => ?_)
      refine lv_goto (tgt := 29) hx hb dX8_fillFrom_47 (by decide) ?_
      exact hB9 _ (Option.some.inj h).symm _ _ hw _ (lv_sub hl [0, 1] rfl)
  · have h := ifn h hc7
    refine lv_aload_n hx hb dX8_fillFrom_10 rfl (lv_at hl 1 rfl) ?_
    refine X_g16_7 C0 hw (fun w h => (List.mem_cons_of_mem _ (List.mem_append_right _ h))) ho ((List.mem_cons_of_mem _ (List.mem_append_left _ (List.mem_of_getElem? (i := 1) rfl)))) dX8_fillFrom_11 ?_
    refine lv_iload_n hx hb dX8_fillFrom_14 rfl (lv_at hl 0 rfl) ?_
    refine lv_iload_n hx hb dX8_fillFrom_15 rfl (lv_at hl 3 rfl) ?_
    refine lv_iload_n hx hb dX8_fillFrom_16 rfl (lv_at hl 0 rfl) ?_
    refine lv_iadd hx hb dX8_fillFrom_17 ?_
    refine lv_iload_n hx hb dX8_fillFrom_18 rfl (lv_at hl 2 rfl) ?_
    refine lv_isub hx hb dX8_fillFrom_19 ?_
    refine X_iast hL C0 hw h (k := v4.toNatClampNeg) rfl dX8_fillFrom_20 (fun t17 H locs hw h => ?_)
    refine x_iinc hx hb h dX8_fillFrom_21 hl (q := 0) rfl (fun v18 => [(3, .int v18), (0, .ref (E.2.2.1 16 oi)), (1, .int a1), (2, .int a2)]) (by decide) (fun _ => rfl) (fun v18 ls hl h => ?_)
    refine lv_goto (tgt := 2) hx hb dX8_fillFrom_24 (by decide) ?_
    exact hB2 _ (Option.some.inj h).symm _ _ hw _ (lv_sub hl [0, 1, 2, 3] rfl)

def fX8_nextSet (oi : Nat) (st : Sto) : Option (Int32 × Sto) :=
  lt1 ((gI st 16 oi 9) - (1 : Int32)) fun (v1 : Int32) =>
  ((lp (σ := Int32) (ρ := ((Int32 × Sto) ⊕ Unit)) (fun (v5 : Int32) =>
     if v5 < 0 then (
      some (.inr (.inr ()))) else (
      ck (0 ≤ v5.toInt ∧ v5.toInt < (lIX (48) oi : Int)) (
       if ((gI st 16 oi 3) - (gI st 16 oi 9)) + v5 ≤ gI st (48) oi (v5.toNatClampNeg) then (
        lt1 (v5 + Int32.ofInt (-1)) fun (v13 : Int32) =>
        some (.inl v13)) else (
        ck (0 ≤ v5.toInt ∧ v5.toInt < (lIX (48) oi : Int)) (
         (fX8_fillFrom oi v5 ((gI st (48) oi (v5.toNatClampNeg)) + (1 : Int32)) st).bind (fun (t14 : Sto) =>
          some (.inr (.inl ((1 : Int32), t14))))))))) 4000 v1).bind
   (sm (fun (q : (Int32 × Sto)) => some q) (fun (_ : Unit) =>
     if gI st 16 oi 4 ≤ gI st 16 oi 9 then (
      some ((0 : Int32), st)) else (
      if gI st 16 oi 9 < gI st 16 oi 3 then (
       lt1 (sI st 16 oi 9 ((gI st 16 oi 9) + (1 : Int32))) fun (t18 : Sto) =>
       (fX8_fillFrom oi (0 : Int32) (0 : Int32) t18).bind (fun (t19 : Sto) =>
        some ((1 : Int32), t19))) else (
       some ((0 : Int32), st))))))
set_option maxHeartbeats 4000000 in
set_option maxRecDepth 100000 in
theorem mX8_nextSet (l : Launch) (E : XE) (hL : LX E) (st : Sto) {oi : Nat} (ho : oi < cntX 16) {r : Int32} {st1 : Sto} (h : fX8_nextSet oi st = some (r, st1)) : Met l yX8_nextSet wsX8_nextSet ({ frames := 1, cells := 0, slots := 0, locals := 23 }) (va_Pc [.ref (E.2.2.1 16 oi)] (RX E st)) (QX E (some (.int r)) st1) 0 0 E.2.2.2 := by
  refine Met.ofW (cc := cX8_nextSet) (maxL := 2) (ret := (some .boolean)) (by decide) rfl ?_
  intro p e s m args below meth c s₁ B hml hv
  obtain ⟨rfl, hP, hK⟩ := hv
  have hown : s.vm.findClass RX8 = some m.cls := findClass_of_methodNamed B.named
  have C0 : CX p m c cX8_nextSet 2 s _ wsX8_nextSet RX8 E := ⟨⟨B.exec, B.bytes, hml, hown, atoms_spec (ws := wsX8_nextSet) B.pre⟩, hK⟩
  have hx := B.exec
  have hb := B.bytes
  have hr := B.returns
  have hlocks := B.notSynchronized
  have hw : SX E s st s.heap [] := ⟨hP, va_S.rf⟩
  have hl := lv_entry ([.ref (E.2.2.1 16 oi)]) (n := 2) (Nat.le_of_ble_eq_true rfl)
  rw [lg_entry_eq]
  generalize (lg_sl ([.ref (E.2.2.1 16 oi)]) ++ List.replicate (2 - (lg_sl ([.ref (E.2.2.1 16 oi)])).length) Slot.unset).toArray = ls at hl ⊢
  have hl : lv_has ls 2 [(0, .ref (E.2.2.1 16 oi))] := hl
  unfold fX8_nextSet at h
  refine lv_aload_n hx hb dX8_nextSet_0 rfl (lv_at hl 0 rfl) ?_
  refine X_g16_9 C0 hw (fun w h => (List.mem_cons_of_mem _ (List.mem_append_right _ h))) ho ((List.mem_cons_of_mem _ (List.mem_append_left _ (List.mem_of_getElem? (i := 0) rfl)))) dX8_nextSet_1 ?_
  refine lv_iconst (v := 1) hx hb dX8_nextSet_4 (by decide) ?_
  refine lv_isub hx hb dX8_nextSet_5 ?_
  refine x_topi h (fun v1 h => ?_)
  refine lv_istore_n (lv' := [(1, .int v1), (0, .ref (E.2.2.1 16 oi))]) hx hb dX8_nextSet_6 rfl hl (by decide) rfl (fun ls hl => ?_)
  refine lp_ind (fun q : Int32 => ∀ (H : Heap) (locs : List Loc), SX E s st H locs → ∀ ls : Array Slot, lv_has ls 2 [(1, .int q), (0, .ref (E.2.2.1 16 oi))] → W p l e (headSpec wsX8_nextSet ({ frames := 1, cells := 0, slots := 0, locals := 23 })).room s m ([.ref (E.2.2.1 16 oi)] : List Value).toArray below meth c H locs 0 0 (MQ below (QX E (some (.int r)) st1) ([.ref (E.2.2.1 16 oi)] : List Value).toArray s 0 0 E.2.2.2) (F0 m 7 ls [])) (fun q o4 h hB3 hX2 => ?_) _ _ h _ _ hw _ (lv_sub hl [0, 1] rfl)
  intro H locs hw ls hl
  obtain ⟨v5, rfl⟩ : ∃ z, z = q := ⟨_, rfl⟩
  have hl : lv_has ls 2 [(1, .int v5), (0, .ref (E.2.2.1 16 oi))] := hl
  refine lv_iload_n hx hb dX8_nextSet_7 rfl (lv_at hl 0 rfl) ?_
  refine lv_if_lt (tgt := 52) hx hb dX8_nextSet_8 (by decide) (fun hc6 => ?_) (fun hc6 => ?_)
  · have h := ifp h hc6
    have h := hX2 _ (Option.some.inj h).symm
    have h := sm_r h
    have hl := lv_sub hl (l' := [(0, .ref (E.2.2.1 16 oi))]) [1] rfl
    refine lv_aload_n hx hb dX8_nextSet_52 rfl (lv_at hl 0 rfl) ?_
    refine X_g16_9 C0 hw (fun w h => (List.mem_cons_of_mem _ (List.mem_append_right _ h))) ho ((List.mem_cons_of_mem _ (List.mem_append_left _ (List.mem_of_getElem? (i := 0) rfl)))) dX8_nextSet_53 ?_
    refine lv_aload_n hx hb dX8_nextSet_56 rfl (lv_at hl 0 rfl) ?_
    refine X_g16_4 C0 hw (fun w h => (List.mem_cons_of_mem _ (List.mem_append_right _ h))) ho ((List.mem_cons_of_mem _ (List.mem_append_left _ (List.mem_of_getElem? (i := 3) rfl)))) dX8_nextSet_57 ?_
    refine lv_icmp_ge (tgt := 74) hx hb dX8_nextSet_60 (by decide) (fun hc7 => ?_) (fun hc7 => ?_)
    · have h := ifp h hc7
      refine lv_iconst (v := 0) hx hb dX8_nextSet_74 (by decide) ?_
      cases h
      exact W.zret hx hb hr rfl (X_fin C0 hw) hw.2.2.2 dX8_nextSet_75 hlocks
    · have h := ifn h hc7
      refine lv_aload_n hx hb dX8_nextSet_63 rfl (lv_at hl 0 rfl) ?_
      refine X_g16_9 C0 hw (fun w h => (List.mem_cons_of_mem _ (List.mem_append_right _ h))) ho ((List.mem_cons_of_mem _ (List.mem_append_left _ (List.mem_of_getElem? (i := 0) rfl)))) dX8_nextSet_64 ?_
      refine lv_aload_n hx hb dX8_nextSet_67 rfl (lv_at hl 0 rfl) ?_
      refine X_g16_3 C0 hw (fun w h => (List.mem_cons_of_mem _ (List.mem_append_right _ h))) ho ((List.mem_cons_of_mem _ (List.mem_append_left _ (List.mem_of_getElem? (i := 2) rfl)))) dX8_nextSet_68 ?_
      refine lv_icmp_lt (tgt := 76) hx hb dX8_nextSet_71 (by decide) (fun hc8 => ?_) (fun hc8 => ?_)
      · have h := ifp h hc8
        refine lv_aload_n hx hb dX8_nextSet_76 rfl (lv_at hl 0 rfl) ?_
        refine lv_dup hx hb dX8_nextSet_77 rfl ?_
        refine X_g16_9 C0 hw (fun w h => (List.mem_cons_of_mem _ (List.mem_append_right _ h))) ho ((List.mem_cons_of_mem _ (List.mem_append_left _ (List.mem_of_getElem? (i := 0) rfl)))) dX8_nextSet_78 ?_
        refine lv_iconst (v := 1) hx hb dX8_nextSet_81 (by decide) ?_
        refine lv_iadd hx hb dX8_nextSet_82 ?_
        refine X_p16_9 hL C0 hw (fun w h => (List.mem_cons_of_mem _ (List.mem_append_right _ h))) ho h ((List.mem_cons_of_mem _ (List.mem_append_left _ (List.mem_of_getElem? (i := 0) rfl)))) dX8_nextSet_83 (fun t9 H locs hw h => ?_)
        refine lv_aload_n hx hb dX8_nextSet_86 rfl (lv_at hl 0 rfl) ?_
        refine lv_iconst (v := 0) hx hb dX8_nextSet_87 (by decide) ?_
        refine lv_iconst (v := 0) hx hb dX8_nextSet_88 (by decide) ?_
        obtain ⟨t10, hf11, h⟩ := bn_c h
        refine X_callV C0 hw (As := [.int (0 : Int32), .int (0 : Int32)]) (rest := []) (mX8_fillFrom l E hL t9 ho hf11) (cwV 2 C0.1.2.2.2.2 gX8_nextSet_X8_fillFrom rfl rfl rfl (by decide +kernel) ⟨Nat.le_of_ble_eq_true rfl, Nat.le_of_ble_eq_true rfl⟩) (X_recv_16 C0 hw ho) rfl hl.1 rfl (Nat.le_of_ble_eq_true rfl) dX8_nextSet_89 ⟨Nat.zero_le _, Nat.zero_le _⟩ (fun H locs hw => ?_)
        refine W.eq (g2 := F0 m 92 ls []) rfl ?_
        refine lv_iconst (v := 1) hx hb dX8_nextSet_92 (by decide) ?_
        cases h
        exact W.zret hx hb hr rfl (X_fin C0 hw) hw.2.2.2 dX8_nextSet_93 hlocks
      · have h := ifn h hc8
        refine lv_iconst (v := 0) hx hb dX8_nextSet_74 (by decide) ?_
        cases h
        exact W.zret hx hb hr rfl (X_fin C0 hw) hw.2.2.2 dX8_nextSet_75 hlocks
  · have h := ifn h hc6
    refine lv_aload_n hx hb dX8_nextSet_11 rfl (lv_at hl 1 rfl) ?_
    refine X_g16_7 C0 hw (fun w h => (List.mem_cons_of_mem _ (List.mem_append_right _ h))) ho ((List.mem_cons_of_mem _ (List.mem_append_left _ (List.mem_of_getElem? (i := 1) rfl)))) dX8_nextSet_12 ?_
    refine lv_iload_n hx hb dX8_nextSet_15 rfl (lv_at hl 0 rfl) ?_
    refine X_iald C0 hw h (k := v5.toNatClampNeg) rfl dX8_nextSet_16 (fun h => ?_)
    refine lv_aload_n hx hb dX8_nextSet_17 rfl (lv_at hl 1 rfl) ?_
    refine X_g16_3 C0 hw (fun w h => (List.mem_cons_of_mem _ (List.mem_append_right _ h))) ho ((List.mem_cons_of_mem _ (List.mem_append_left _ (List.mem_of_getElem? (i := 2) rfl)))) dX8_nextSet_18 ?_
    refine lv_aload_n hx hb dX8_nextSet_21 rfl (lv_at hl 1 rfl) ?_
    refine X_g16_9 C0 hw (fun w h => (List.mem_cons_of_mem _ (List.mem_append_right _ h))) ho ((List.mem_cons_of_mem _ (List.mem_append_left _ (List.mem_of_getElem? (i := 0) rfl)))) dX8_nextSet_22 ?_
    refine lv_isub hx hb dX8_nextSet_25 ?_
    refine lv_iload_n hx hb dX8_nextSet_26 rfl (lv_at hl 0 rfl) ?_
    refine lv_iadd hx hb dX8_nextSet_27 ?_
    refine lv_icmp_ge (tgt := 46) hx hb dX8_nextSet_28 (by decide) (fun hc12 => ?_) (fun hc12 => ?_)
    · have h := ifp h hc12
      refine x_iinc hx hb h dX8_nextSet_46 hl (q := 0) rfl (fun v13 => [(1, .int v13), (0, .ref (E.2.2.1 16 oi))]) (by decide) (fun _ => rfl) (fun v13 ls hl h => ?_)
      refine lv_goto (tgt := 7) hx hb dX8_nextSet_49 (by decide) ?_
      exact hB3 _ (Option.some.inj h).symm _ _ hw _ (lv_sub hl [0, 1] rfl)
    · have h := ifn h hc12
      refine lv_aload_n hx hb dX8_nextSet_31 rfl (lv_at hl 1 rfl) ?_
      refine lv_iload_n hx hb dX8_nextSet_32 rfl (lv_at hl 0 rfl) ?_
      refine lv_aload_n hx hb dX8_nextSet_33 rfl (lv_at hl 1 rfl) ?_
      refine X_g16_7 C0 hw (fun w h => (List.mem_cons_of_mem _ (List.mem_append_right _ h))) ho ((List.mem_cons_of_mem _ (List.mem_append_left _ (List.mem_of_getElem? (i := 1) rfl)))) dX8_nextSet_34 ?_
      refine lv_iload_n hx hb dX8_nextSet_37 rfl (lv_at hl 0 rfl) ?_
      refine X_iald C0 hw h (k := v5.toNatClampNeg) rfl dX8_nextSet_38 (fun h => ?_)
      refine lv_iconst (v := 1) hx hb dX8_nextSet_39 (by decide) ?_
      refine lv_iadd hx hb dX8_nextSet_40 ?_
      obtain ⟨t14, hf15, h⟩ := bn_c h
      refine X_callV C0 hw (As := [.int v5, .int ((gI st (48) oi (v5.toNatClampNeg)) + (1 : Int32))]) (rest := []) (mX8_fillFrom l E hL st ho hf15) (cwV 2 C0.1.2.2.2.2 gX8_nextSet_X8_fillFrom rfl rfl rfl (by decide +kernel) ⟨Nat.le_of_ble_eq_true rfl, Nat.le_of_ble_eq_true rfl⟩) (X_recv_16 C0 hw ho) rfl hl.1 rfl (Nat.le_of_ble_eq_true rfl) dX8_nextSet_41 ⟨Nat.zero_le _, Nat.zero_le _⟩ (fun H locs hw => ?_)
      refine W.eq (g2 := F0 m 44 ls []) rfl ?_
      refine lv_iconst (v := 1) hx hb dX8_nextSet_44 (by decide) ?_
      have h := hX2 _ (Option.some.inj h).symm
      have h := sm_l h
      cases h
      exact W.zret hx hb hr rfl (X_fin C0 hw) hw.2.2.2 dX8_nextSet_45 hlocks

def fX8_hasRoom (oi : Nat) (st : Sto) : Option Int32 :=
  ((lp (σ := (Int32 × Int32)) (ρ := Int32) (un2 fun (v4 : Int32) (v5 : Int32) =>
     if gI st 16 oi 9 ≤ v4 then (
      some (.inr v5)) else (
      ck (0 ≤ v4.toInt ∧ v4.toInt < (lIX (48) oi : Int)) (
       ck (0 ≤ (gI st (48) oi (v4.toNatClampNeg)).toInt ∧ (gI st (48) oi (v4.toNatClampNeg)).toInt < (lIX (47) oi : Int)) (
        lt1 (v5 + (gI st (47) oi ((gI st (48) oi (v4.toNatClampNeg)).toNatClampNeg))) fun (v9 : Int32) =>
        lt1 (v4 + Int32.ofInt (1)) fun (v10 : Int32) =>
        some (.inl (v10, v9)))))) 4000 ((0 : Int32), (0 : Int32))).bind
   (fun (v6 : Int32) =>
    if gI st 16 oi 6 < v6 then (
     some (0 : Int32)) else (
     some (1 : Int32))))
set_option maxHeartbeats 4000000 in
set_option maxRecDepth 100000 in
theorem mX8_hasRoom (l : Launch) (E : XE) (hL : LX E) (st : Sto) {oi : Nat} (ho : oi < cntX 16) {r : Int32} (h : fX8_hasRoom oi st = some r) : Met l yX8_hasRoom wsX8_hasRoom ({ frames := 0, cells := 0, slots := 0, locals := 0 }) (va_Pc [.ref (E.2.2.1 16 oi)] (RX E st)) (QX E (some (.int r)) st) 0 0 E.2.2.2 := by
  refine Met.ofW (cc := cX8_hasRoom) (maxL := 3) (ret := (some .boolean)) (by decide) rfl ?_
  intro p e s m args below meth c s₁ B hml hv
  obtain ⟨rfl, hP, hK⟩ := hv
  have hown : s.vm.findClass RX8 = some m.cls := findClass_of_methodNamed B.named
  have C0 : CX p m c cX8_hasRoom 3 s _ wsX8_hasRoom RX8 E := ⟨⟨B.exec, B.bytes, hml, hown, atoms_spec (ws := wsX8_hasRoom) B.pre⟩, hK⟩
  have hx := B.exec
  have hb := B.bytes
  have hr := B.returns
  have hlocks := B.notSynchronized
  have hw : SX E s st s.heap [] := ⟨hP, va_S.rf⟩
  have hl := lv_entry ([.ref (E.2.2.1 16 oi)]) (n := 3) (Nat.le_of_ble_eq_true rfl)
  rw [lg_entry_eq]
  generalize (lg_sl ([.ref (E.2.2.1 16 oi)]) ++ List.replicate (3 - (lg_sl ([.ref (E.2.2.1 16 oi)])).length) Slot.unset).toArray = ls at hl ⊢
  have hl : lv_has ls 3 [(0, .ref (E.2.2.1 16 oi))] := hl
  unfold fX8_hasRoom at h
  refine lv_iconst (v := 0) hx hb dX8_hasRoom_0 (by decide) ?_
  refine lv_istore_n (lv' := [(1, .int (0 : Int32)), (0, .ref (E.2.2.1 16 oi))]) hx hb dX8_hasRoom_1 rfl hl (by decide) rfl (fun ls hl => ?_)
  refine lv_iconst (v := 0) hx hb dX8_hasRoom_2 (by decide) ?_
  refine lv_istore_n (lv' := [(2, .int (0 : Int32)), (1, .int (0 : Int32)), (0, .ref (E.2.2.1 16 oi))]) hx hb dX8_hasRoom_3 rfl hl (by decide) rfl (fun ls hl => ?_)
  refine lp_ind (fun q : (Int32 × Int32) => ∀ (H : Heap) (locs : List Loc), SX E s st H locs → ∀ ls : Array Slot, lv_has ls 3 [(2, .int (q.1)), (1, .int (q.2)), (0, .ref (E.2.2.1 16 oi))] → W p l e (headSpec wsX8_hasRoom ({ frames := 0, cells := 0, slots := 0, locals := 0 })).room s m ([.ref (E.2.2.1 16 oi)] : List Value).toArray below meth c H locs 0 0 (MQ below (QX E (some (.int r)) st) ([.ref (E.2.2.1 16 oi)] : List Value).toArray s 0 0 E.2.2.2) (F0 m 4 ls [])) (fun q o3 h hB2 hX1 => ?_) _ _ h _ _ hw _ (lv_sub hl [0, 1, 2] rfl)
  intro H locs hw ls hl
  obtain ⟨v4, v5⟩ := q
  have h := un2_d h
  have hl : lv_has ls 3 [(2, .int v4), (1, .int v5), (0, .ref (E.2.2.1 16 oi))] := hl
  refine lv_iload_n hx hb dX8_hasRoom_4 rfl (lv_at hl 0 rfl) ?_
  refine lv_aload_n hx hb dX8_hasRoom_5 rfl (lv_at hl 2 rfl) ?_
  refine X_g16_9 C0 hw (fun w h => (List.mem_cons_of_mem _ (List.mem_append_right _ h))) ho ((List.mem_cons_of_mem _ (List.mem_append_left _ (List.mem_of_getElem? (i := 0) rfl)))) dX8_hasRoom_6 ?_
  refine lv_icmp_ge (tgt := 32) hx hb dX8_hasRoom_9 (by decide) (fun hc7 => ?_) (fun hc7 => ?_)
  · have h := ifp h hc7
    have h := hX1 _ (Option.some.inj h).symm
    have hl := lv_sub hl (l' := [(0, .ref (E.2.2.1 16 oi)), (1, .int v5)]) [2, 1] rfl
    refine lv_iload_n hx hb dX8_hasRoom_32 rfl (lv_at hl 1 rfl) ?_
    refine lv_aload_n hx hb dX8_hasRoom_33 rfl (lv_at hl 0 rfl) ?_
    refine X_g16_6 C0 hw (fun w h => (List.mem_cons_of_mem _ (List.mem_append_right _ h))) ho ((List.mem_cons_of_mem _ (List.mem_append_left _ (List.mem_of_getElem? (i := 3) rfl)))) dX8_hasRoom_34 ?_
    refine lv_icmp_gt (tgt := 44) hx hb dX8_hasRoom_37 (by decide) (fun hc8 => ?_) (fun hc8 => ?_)
    · have h := ifp h hc8
      refine lv_iconst (v := 0) hx hb dX8_hasRoom_44 (by decide) ?_
      cases h
      exact W.zret hx hb hr rfl (X_fin C0 hw) hw.2.2.2 dX8_hasRoom_45 hlocks
    · have h := ifn h hc8
      refine lv_iconst (v := 1) hx hb dX8_hasRoom_40 (by decide) ?_
      refine lv_goto (tgt := 45) hx hb dX8_hasRoom_41 (by decide) ?_
      cases h
      exact W.zret hx hb hr rfl (X_fin C0 hw) hw.2.2.2 dX8_hasRoom_45 hlocks
  · have h := ifn h hc7
    refine lv_iload_n hx hb dX8_hasRoom_12 rfl (lv_at hl 1 rfl) ?_
    refine lv_aload_n hx hb dX8_hasRoom_13 rfl (lv_at hl 2 rfl) ?_
    refine X_g16_2 C0 hw (fun w h => (List.mem_cons_of_mem _ (List.mem_append_right _ h))) ho ((List.mem_cons_of_mem _ (List.mem_append_left _ (List.mem_of_getElem? (i := 1) rfl)))) dX8_hasRoom_14 ?_
    refine lv_aload_n hx hb dX8_hasRoom_17 rfl (lv_at hl 2 rfl) ?_
    refine X_g16_7 C0 hw (fun w h => (List.mem_cons_of_mem _ (List.mem_append_right _ h))) ho ((List.mem_cons_of_mem _ (List.mem_append_left _ (List.mem_of_getElem? (i := 2) rfl)))) dX8_hasRoom_18 ?_
    refine lv_iload_n hx hb dX8_hasRoom_21 rfl (lv_at hl 0 rfl) ?_
    refine X_iald C0 hw h (k := v4.toNatClampNeg) rfl dX8_hasRoom_22 (fun h => ?_)
    refine X_iald C0 hw h (k := (gI st (48) oi (v4.toNatClampNeg)).toNatClampNeg) rfl dX8_hasRoom_23 (fun h => ?_)
    refine lv_iadd hx hb dX8_hasRoom_24 ?_
    refine x_topi h (fun v9 h => ?_)
    refine lv_istore_n (lv' := [(1, .int v9), (2, .int v4), (0, .ref (E.2.2.1 16 oi))]) hx hb dX8_hasRoom_25 rfl hl (by decide) rfl (fun ls hl => ?_)
    refine x_iinc hx hb h dX8_hasRoom_26 hl (q := 1) rfl (fun v10 => [(2, .int v10), (1, .int v9), (0, .ref (E.2.2.1 16 oi))]) (by decide) (fun _ => rfl) (fun v10 ls hl h => ?_)
    refine lv_goto (tgt := 4) hx hb dX8_hasRoom_29 (by decide) ?_
    exact hB2 _ (Option.some.inj h).symm _ _ hw _ (lv_sub hl [0, 1, 2] rfl)

def fX8_advance (oi : Nat) (st : Sto) : Option (Int32 × Sto) :=
  lt1 ((gI st 16 oi 9) - (1 : Int32)) fun (v1 : Int32) =>
  ((lp (σ := (Int32 × Sto)) (ρ := ((Int32 × Sto) ⊕ Sto)) (un2 fun (v5 : Int32) (t6 : Sto) =>
     if v5 < 0 then (
      some (.inr (.inr t6))) else (
      ck (0 ≤ v5.toInt ∧ v5.toInt < (lIX (49) oi : Int)) (
       ck (0 ≤ v5.toInt ∧ v5.toInt < (lIX (48) oi : Int)) (
        ck (0 ≤ (gI t6 (48) oi (v5.toNatClampNeg)).toInt ∧ (gI t6 (48) oi (v5.toNatClampNeg)).toInt < (lIX (46) oi : Int)) (
         if gI t6 (46) oi ((gI t6 (48) oi (v5.toNatClampNeg)).toNatClampNeg) ≤ gI t6 (49) oi (v5.toNatClampNeg) then (
          ck (0 ≤ v5.toInt ∧ v5.toInt < (lIX (49) oi : Int)) (lt1 (sI t6 (49) oi (v5.toNatClampNeg) (1 : Int32)) fun (t25 : Sto) =>
           lt1 (v5 + Int32.ofInt (-1)) fun (v26 : Int32) =>
           some (.inl (v26, t25)))) else (
          ck (0 ≤ v5.toInt ∧ v5.toInt < (lIX (49) oi : Int)) (
           ck (0 ≤ v5.toInt ∧ v5.toInt < (lIX (49) oi : Int)) (lt1 (sI t6 (49) oi (v5.toNatClampNeg) ((gI t6 (49) oi (v5.toNatClampNeg)) + (1 : Int32))) fun (t27 : Sto) =>
            some (.inr (.inl ((1 : Int32), t27))))))))))) 4000 (v1, st)).bind
   (sm (fun (q : (Int32 × Sto)) => some q) (fun (t7 : Sto) =>
     ((lp (σ := (Int32 × Sto)) (ρ := ((Int32 × Sto) ⊕ Sto)) (un2 fun (v31 : Int32) (t32 : Sto) =>
        if (1000 : Int32) ≤ v31 then (
         some (.inr (.inr t32))) else (
         (fX8_nextSet oi t32).bind (un2 fun (v35 : Int32) (t36 : Sto) =>
          if v35 = 0 then (
           some (.inr (.inl ((0 : Int32), t36)))) else (
           (fX8_hasRoom oi t36).bind (fun (v39 : Int32) =>
            if v39 = 0 then (
             lt1 (v31 + Int32.ofInt (1)) fun (v42 : Int32) =>
             some (.inl (v42, t36))) else (
             some (.inr (.inl ((1 : Int32), t36))))))))) 4000 ((0 : Int32), t7)).bind
      (sm (fun (q : (Int32 × Sto)) => some q) (fun (t33 : Sto) =>
        some ((0 : Int32), t33)))))))
set_option maxHeartbeats 4000000 in
set_option maxRecDepth 100000 in
theorem mX8_advance (l : Launch) (E : XE) (hL : LX E) (st : Sto) {oi : Nat} (ho : oi < cntX 16) {r : Int32} {st1 : Sto} (h : fX8_advance oi st = some (r, st1)) : Met l yX8_advance wsX8_advance ({ frames := 2, cells := 0, slots := 0, locals := 44 }) (va_Pc [.ref (E.2.2.1 16 oi)] (RX E st)) (QX E (some (.int r)) st1) 0 0 E.2.2.2 := by
  refine Met.ofW (cc := cX8_advance) (maxL := 2) (ret := (some .boolean)) (by decide) rfl ?_
  intro p e s m args below meth c s₁ B hml hv
  obtain ⟨rfl, hP, hK⟩ := hv
  have hown : s.vm.findClass RX8 = some m.cls := findClass_of_methodNamed B.named
  have C0 : CX p m c cX8_advance 2 s _ wsX8_advance RX8 E := ⟨⟨B.exec, B.bytes, hml, hown, atoms_spec (ws := wsX8_advance) B.pre⟩, hK⟩
  have hx := B.exec
  have hb := B.bytes
  have hr := B.returns
  have hlocks := B.notSynchronized
  have hw : SX E s st s.heap [] := ⟨hP, va_S.rf⟩
  have hl := lv_entry ([.ref (E.2.2.1 16 oi)]) (n := 2) (Nat.le_of_ble_eq_true rfl)
  rw [lg_entry_eq]
  generalize (lg_sl ([.ref (E.2.2.1 16 oi)]) ++ List.replicate (2 - (lg_sl ([.ref (E.2.2.1 16 oi)])).length) Slot.unset).toArray = ls at hl ⊢
  have hl : lv_has ls 2 [(0, .ref (E.2.2.1 16 oi))] := hl
  unfold fX8_advance at h
  refine lv_aload_n hx hb dX8_advance_0 rfl (lv_at hl 0 rfl) ?_
  refine X_g16_9 C0 hw (fun w h => (List.mem_cons_of_mem _ (List.mem_append_right _ h))) ho ((List.mem_cons_of_mem _ (List.mem_append_left _ (List.mem_of_getElem? (i := 0) rfl)))) dX8_advance_1 ?_
  refine lv_iconst (v := 1) hx hb dX8_advance_4 (by decide) ?_
  refine lv_isub hx hb dX8_advance_5 ?_
  refine x_topi h (fun v1 h => ?_)
  refine lv_istore_n (lv' := [(1, .int v1), (0, .ref (E.2.2.1 16 oi))]) hx hb dX8_advance_6 rfl hl (by decide) rfl (fun ls hl => ?_)
  refine lp_ind (fun q : (Int32 × Sto) => ∀ (H : Heap) (locs : List Loc), SX E s (q.2) H locs → ∀ ls : Array Slot, lv_has ls 2 [(1, .int (q.1)), (0, .ref (E.2.2.1 16 oi))] → W p l e (headSpec wsX8_advance ({ frames := 2, cells := 0, slots := 0, locals := 44 })).room s m ([.ref (E.2.2.1 16 oi)] : List Value).toArray below meth c H locs 0 0 (MQ below (QX E (some (.int r)) st1) ([.ref (E.2.2.1 16 oi)] : List Value).toArray s 0 0 E.2.2.2) (F0 m 7 ls [])) (fun q o4 h hB3 hX2 => ?_) _ _ h _ _ hw _ (lv_sub hl [0, 1] rfl)
  intro H locs hw ls hl
  obtain ⟨v5, t6⟩ := q
  have h := un2_d h
  have hw : SX E s t6 H locs := hw
  have hl : lv_has ls 2 [(1, .int v5), (0, .ref (E.2.2.1 16 oi))] := hl
  refine lv_iload_n hx hb dX8_advance_7 rfl (lv_at hl 0 rfl) ?_
  refine lv_if_lt (tgt := 56) hx hb dX8_advance_8 (by decide) (fun hc8 => ?_) (fun hc8 => ?_)
  · have h := ifp h hc8
    have h := hX2 _ (Option.some.inj h).symm
    have h := sm_r h
    have hl := lv_sub hl (l' := [(0, .ref (E.2.2.1 16 oi))]) [1] rfl
    refine lv_iconst (v := 0) hx hb dX8_advance_56 (by decide) ?_
    refine lv_istore_n (lv' := [(1, .int (0 : Int32)), (0, .ref (E.2.2.1 16 oi))]) hx hb dX8_advance_57 rfl hl (by decide) rfl (fun ls hl => ?_)
    refine lp_ind (fun q : (Int32 × Sto) => ∀ (H : Heap) (locs : List Loc), SX E s (q.2) H locs → ∀ ls : Array Slot, lv_has ls 2 [(1, .int (q.1)), (0, .ref (E.2.2.1 16 oi))] → W p l e (headSpec wsX8_advance ({ frames := 2, cells := 0, slots := 0, locals := 44 })).room s m ([.ref (E.2.2.1 16 oi)] : List Value).toArray below meth c H locs 0 0 (MQ below (QX E (some (.int r)) st1) ([.ref (E.2.2.1 16 oi)] : List Value).toArray s 0 0 E.2.2.2) (F0 m 58 ls [])) (fun q o11 h hB10 hX9 => ?_) _ _ h _ _ hw _ (lv_sub hl [0, 1] rfl)
    intro H locs hw ls hl
    obtain ⟨v12, t13⟩ := q
    have h := un2_d h
    have hw : SX E s t13 H locs := hw
    have hl : lv_has ls 2 [(1, .int v12), (0, .ref (E.2.2.1 16 oi))] := hl
    refine lv_iload_n hx hb dX8_advance_58 rfl (lv_at hl 0 rfl) ?_
    refine lv_sipush (v := 1000) hx hb dX8_advance_59 (by decide) ?_
    refine lv_icmp_ge (tgt := 89) hx hb dX8_advance_62 (by decide) (fun hc15 => ?_) (fun hc15 => ?_)
    · have h := ifp h hc15
      have h := hX9 _ (Option.some.inj h).symm
      have h := sm_r h
      have hl := lv_sub hl (l' := []) [] rfl
      refine lv_iconst (v := 0) hx hb dX8_advance_89 (by decide) ?_
      cases h
      exact W.zret hx hb hr rfl (X_fin C0 hw) hw.2.2.2 dX8_advance_90 hlocks
    · have h := ifn h hc15
      refine lv_aload_n hx hb dX8_advance_65 rfl (lv_at hl 1 rfl) ?_
      obtain ⟨⟨v16, t17⟩, hf18, h⟩ := bn_c h
      have h := un2_d h
      refine X_callV C0 hw (As := []) (rest := []) (mX8_nextSet l E hL t13 ho hf18) (cwV 0 C0.1.2.2.2.2 gX8_advance_X8_nextSet rfl rfl rfl (by decide +kernel) ⟨Nat.le_of_ble_eq_true rfl, Nat.le_of_ble_eq_true rfl⟩) (X_recv_16 C0 hw ho) rfl hl.1 rfl (Nat.le_of_ble_eq_true rfl) dX8_advance_66 ⟨Nat.zero_le _, Nat.zero_le _⟩ (fun H locs hw => ?_)
      refine W.eq (g2 := F0 m 69 ls [.int v16]) rfl ?_
      refine lv_if_ne (tgt := 74) hx hb dX8_advance_69 (by decide) (fun hc19 => ?_) (fun hc19 => ?_)
      · have h := ifn h hc19
        refine lv_aload_n hx hb dX8_advance_74 rfl (lv_at hl 1 rfl) ?_
        obtain ⟨v20, hf21, h⟩ := bn_c h
        refine X_callV C0 hw (As := []) (rest := []) (mX8_hasRoom l E hL t17 ho hf21) (cwV 0 C0.1.2.2.2.2 gX8_advance_X8_hasRoom rfl rfl rfl (by decide +kernel) ⟨Nat.le_of_ble_eq_true rfl, Nat.le_of_ble_eq_true rfl⟩) (X_recv_16 C0 hw ho) rfl hl.1 rfl (Nat.le_of_ble_eq_true rfl) dX8_advance_75 ⟨Nat.zero_le _, Nat.zero_le _⟩ (fun H locs hw => ?_)
        refine W.eq (g2 := F0 m 78 ls [.int v20]) rfl ?_
        refine lv_if_eq (tgt := 83) hx hb dX8_advance_78 (by decide) (fun hc22 => ?_) (fun hc22 => ?_)
        · have h := ifp h hc22
          refine x_iinc hx hb h dX8_advance_83 hl (q := 0) rfl (fun v23 => [(1, .int v23), (0, .ref (E.2.2.1 16 oi))]) (by decide) (fun _ => rfl) (fun v23 ls hl h => ?_)
          refine lv_goto (tgt := 58) hx hb dX8_advance_86 (by decide) ?_
          exact hB10 _ (Option.some.inj h).symm _ _ hw _ (lv_sub hl [0, 1] rfl)
        · have h := ifn h hc22
          refine lv_iconst (v := 1) hx hb dX8_advance_81 (by decide) ?_
          have h := hX9 _ (Option.some.inj h).symm
          have h := sm_l h
          cases h
          exact W.zret hx hb hr rfl (X_fin C0 hw) hw.2.2.2 dX8_advance_82 hlocks
      · have h := ifp h hc19
        refine lv_iconst (v := 0) hx hb dX8_advance_72 (by decide) ?_
        have h := hX9 _ (Option.some.inj h).symm
        have h := sm_l h
        cases h
        exact W.zret hx hb hr rfl (X_fin C0 hw) hw.2.2.2 dX8_advance_73 hlocks
  · have h := ifn h hc8
    refine lv_aload_n hx hb dX8_advance_11 rfl (lv_at hl 1 rfl) ?_
    refine X_g16_8 C0 hw (fun w h => (List.mem_cons_of_mem _ (List.mem_append_right _ h))) ho ((List.mem_cons_of_mem _ (List.mem_append_left _ (List.mem_of_getElem? (i := 1) rfl)))) dX8_advance_12 ?_
    refine lv_iload_n hx hb dX8_advance_15 rfl (lv_at hl 0 rfl) ?_
    refine X_iald C0 hw h (k := v5.toNatClampNeg) rfl dX8_advance_16 (fun h => ?_)
    refine lv_aload_n hx hb dX8_advance_17 rfl (lv_at hl 1 rfl) ?_
    refine X_g16_1 C0 hw (fun w h => (List.mem_cons_of_mem _ (List.mem_append_right _ h))) ho ((List.mem_cons_of_mem _ (List.mem_append_left _ (List.mem_of_getElem? (i := 2) rfl)))) dX8_advance_18 ?_
    refine lv_aload_n hx hb dX8_advance_21 rfl (lv_at hl 1 rfl) ?_
    refine X_g16_7 C0 hw (fun w h => (List.mem_cons_of_mem _ (List.mem_append_right _ h))) ho ((List.mem_cons_of_mem _ (List.mem_append_left _ (List.mem_of_getElem? (i := 3) rfl)))) dX8_advance_22 ?_
    refine lv_iload_n hx hb dX8_advance_25 rfl (lv_at hl 0 rfl) ?_
    refine X_iald C0 hw h (k := v5.toNatClampNeg) rfl dX8_advance_26 (fun h => ?_)
    refine X_iald C0 hw h (k := (gI t6 (48) oi (v5.toNatClampNeg)).toNatClampNeg) rfl dX8_advance_27 (fun h => ?_)
    refine lv_icmp_ge (tgt := 43) hx hb dX8_advance_28 (by decide) (fun hc24 => ?_) (fun hc24 => ?_)
    · have h := ifp h hc24
      refine lv_aload_n hx hb dX8_advance_43 rfl (lv_at hl 1 rfl) ?_
      refine X_g16_8 C0 hw (fun w h => (List.mem_cons_of_mem _ (List.mem_append_right _ h))) ho ((List.mem_cons_of_mem _ (List.mem_append_left _ (List.mem_of_getElem? (i := 1) rfl)))) dX8_advance_44 ?_
      refine lv_iload_n hx hb dX8_advance_47 rfl (lv_at hl 0 rfl) ?_
      refine lv_iconst (v := 1) hx hb dX8_advance_48 (by decide) ?_
      refine X_iast hL C0 hw h (k := v5.toNatClampNeg) rfl dX8_advance_49 (fun t25 H locs hw h => ?_)
      refine x_iinc hx hb h dX8_advance_50 hl (q := 0) rfl (fun v26 => [(1, .int v26), (0, .ref (E.2.2.1 16 oi))]) (by decide) (fun _ => rfl) (fun v26 ls hl h => ?_)
      refine lv_goto (tgt := 7) hx hb dX8_advance_53 (by decide) ?_
      exact hB3 _ (Option.some.inj h).symm _ _ hw _ (lv_sub hl [0, 1] rfl)
    · have h := ifn h hc24
      refine lv_aload_n hx hb dX8_advance_31 rfl (lv_at hl 1 rfl) ?_
      refine X_g16_8 C0 hw (fun w h => (List.mem_cons_of_mem _ (List.mem_append_right _ h))) ho ((List.mem_cons_of_mem _ (List.mem_append_left _ (List.mem_of_getElem? (i := 1) rfl)))) dX8_advance_32 ?_
      refine lv_iload_n hx hb dX8_advance_35 rfl (lv_at hl 0 rfl) ?_
      refine lv_dup2_11 hx hb dX8_advance_36 rfl rfl ?_
      refine X_iald C0 hw h (k := v5.toNatClampNeg) rfl dX8_advance_37 (fun h => ?_)
      refine lv_iconst (v := 1) hx hb dX8_advance_38 (by decide) ?_
      refine lv_iadd hx hb dX8_advance_39 ?_
      refine X_iast hL C0 hw h (k := v5.toNatClampNeg) rfl dX8_advance_40 (fun t27 H locs hw h => ?_)
      refine lv_iconst (v := 1) hx hb dX8_advance_41 (by decide) ?_
      have h := hX2 _ (Option.some.inj h).symm
      have h := sm_l h
      cases h
      exact W.zret hx hb hr rfl (X_fin C0 hw) hw.2.2.2 dX8_advance_42 hlocks

def fX8_keep (oi : Nat) (a1 : UInt64) (a2 : Int64) (st : Sto) : Option Sto :=
  lt1 (sI st 16 oi 13 (1 : Int32)) fun (t1 : Sto) =>
  lt1 (sD t1 16 oi 17 a1) fun (t2 : Sto) =>
  lt1 (sL t2 16 oi 18 a2) fun (t3 : Sto) =>
  lt1 (sI t3 16 oi 16 (gI t3 16 oi 9)) fun (t4 : Sto) =>
  ((lp (σ := (Int32 × Sto)) (ρ := Sto) (un2 fun (v8 : Int32) (t9 : Sto) =>
     if gI t9 16 oi 9 ≤ v8 then (
      some (.inr t9)) else (
      (fX8_nameAt oi v8 t9).bind (fun (v12 : Int32) =>
       ck (0 ≤ v8.toInt ∧ v8.toInt < (lIX (50) oi : Int)) (lt1 (sI t9 (50) oi (v8.toNatClampNeg) v12) fun (t14 : Sto) =>
        (fX8_gramsAt oi v8 t14).bind (fun (v15 : Int32) =>
         ck (0 ≤ v8.toInt ∧ v8.toInt < (lIX (51) oi : Int)) (lt1 (sI t14 (51) oi (v8.toNatClampNeg) v15) fun (t17 : Sto) =>
          lt1 (v8 + Int32.ofInt (1)) fun (v18 : Int32) =>
          some (.inl (v18, t17)))))))) 4000 ((0 : Int32), t4)).bind
   (fun (t10 : Sto) =>
    some t10))
set_option maxHeartbeats 4000000 in
set_option maxRecDepth 100000 in
theorem mX8_keep (l : Launch) (E : XE) (hL : LX E) (st : Sto) {oi : Nat} {a1 : UInt64} {a2 : Int64} (ho : oi < cntX 16) {st1 : Sto} (h : fX8_keep oi a1 a2 st = some st1) : Met l yX8_keep wsX8_keep ({ frames := 1, cells := 0, slots := 0, locals := 21 }) (va_Pc [.ref (E.2.2.1 16 oi), .double a1, .long a2] (RX E st)) (QX E none st1) 0 0 E.2.2.2 := by
  refine Met.ofW (cc := cX8_keep) (maxL := 6) (ret := none) (by decide) rfl ?_
  intro p e s m args below meth c s₁ B hml hv
  obtain ⟨rfl, hP, hK⟩ := hv
  have hown : s.vm.findClass RX8 = some m.cls := findClass_of_methodNamed B.named
  have C0 : CX p m c cX8_keep 6 s _ wsX8_keep RX8 E := ⟨⟨B.exec, B.bytes, hml, hown, atoms_spec (ws := wsX8_keep) B.pre⟩, hK⟩
  have hx := B.exec
  have hb := B.bytes
  have hr := B.returns
  have hlocks := B.notSynchronized
  have hw : SX E s st s.heap [] := ⟨hP, va_S.rf⟩
  have hl := lv_entry ([.ref (E.2.2.1 16 oi), .double a1, .long a2]) (n := 6) (Nat.le_of_ble_eq_true rfl)
  rw [lg_entry_eq]
  generalize (lg_sl ([.ref (E.2.2.1 16 oi), .double a1, .long a2]) ++ List.replicate (6 - (lg_sl ([.ref (E.2.2.1 16 oi), .double a1, .long a2])).length) Slot.unset).toArray = ls at hl ⊢
  have hl : lv_has ls 6 [(0, .ref (E.2.2.1 16 oi)), (1, .double a1), (3, .long a2)] := hl
  unfold fX8_keep at h
  refine lv_aload_n hx hb dX8_keep_0 rfl (lv_at hl 0 rfl) ?_
  refine lv_iconst (v := 1) hx hb dX8_keep_1 (by decide) ?_
  refine X_p16_13 hL C0 hw (fun w h => (List.mem_cons_of_mem _ (List.mem_append_right _ h))) ho h rfl rfl ((List.mem_cons_of_mem _ (List.mem_append_left _ (List.mem_of_getElem? (i := 0) rfl)))) dX8_keep_2 (fun t1 H locs hw h => ?_)
  refine lv_aload_n hx hb dX8_keep_5 rfl (lv_at hl 0 rfl) ?_
  refine lv_dload_n hx hb dX8_keep_6 rfl (lv_at hl 1 rfl) ?_
  refine X_p16_17 hL C0 hw (fun w h => (List.mem_cons_of_mem _ (List.mem_append_right _ h))) ho h ((List.mem_cons_of_mem _ (List.mem_append_left _ (List.mem_of_getElem? (i := 1) rfl)))) dX8_keep_7 (fun t2 H locs hw h => ?_)
  refine lv_aload_n hx hb dX8_keep_10 rfl (lv_at hl 0 rfl) ?_
  refine lv_lload_n hx hb dX8_keep_11 rfl (lv_at hl 2 rfl) ?_
  refine X_p16_18 hL C0 hw (fun w h => (List.mem_cons_of_mem _ (List.mem_append_right _ h))) ho h ((List.mem_cons_of_mem _ (List.mem_append_left _ (List.mem_of_getElem? (i := 2) rfl)))) dX8_keep_12 (fun t3 H locs hw h => ?_)
  refine lv_aload_n hx hb dX8_keep_15 rfl (lv_at hl 0 rfl) ?_
  refine lv_aload_n hx hb dX8_keep_16 rfl (lv_at hl 0 rfl) ?_
  refine X_g16_9 C0 hw (fun w h => (List.mem_cons_of_mem _ (List.mem_append_right _ h))) ho ((List.mem_cons_of_mem _ (List.mem_append_left _ (List.mem_of_getElem? (i := 3) rfl)))) dX8_keep_17 ?_
  refine X_p16_16 hL C0 hw (fun w h => (List.mem_cons_of_mem _ (List.mem_append_right _ h))) ho h ((List.mem_cons_of_mem _ (List.mem_append_left _ (List.mem_of_getElem? (i := 4) rfl)))) dX8_keep_20 (fun t4 H locs hw h => ?_)
  refine lv_iconst (v := 0) hx hb dX8_keep_23 (by decide) ?_
  refine lv_istore (lv' := [(5, .int (0 : Int32)), (0, .ref (E.2.2.1 16 oi)), (1, .double a1), (3, .long a2)]) hx hb dX8_keep_24 hl (by decide) rfl (fun ls hl => ?_)
  refine lp_ind (fun q : (Int32 × Sto) => ∀ (H : Heap) (locs : List Loc), SX E s (q.2) H locs → ∀ ls : Array Slot, lv_has ls 6 [(5, .int (q.1)), (0, .ref (E.2.2.1 16 oi))] → W p l e (headSpec wsX8_keep ({ frames := 1, cells := 0, slots := 0, locals := 21 })).room s m ([.ref (E.2.2.1 16 oi), .double a1, .long a2] : List Value).toArray below meth c H locs 0 0 (MQ below (QX E none st1) ([.ref (E.2.2.1 16 oi), .double a1, .long a2] : List Value).toArray s 0 0 E.2.2.2) (F0 m 26 ls [])) (fun q o7 h hB6 hX5 => ?_) _ _ h _ _ hw _ (lv_sub hl [0, 1] rfl)
  intro H locs hw ls hl
  obtain ⟨v8, t9⟩ := q
  have h := un2_d h
  have hw : SX E s t9 H locs := hw
  have hl : lv_has ls 6 [(5, .int v8), (0, .ref (E.2.2.1 16 oi))] := hl
  refine lv_iload hx hb dX8_keep_26 (lv_at hl 0 rfl) ?_
  refine lv_aload_n hx hb dX8_keep_28 rfl (lv_at hl 1 rfl) ?_
  refine X_g16_9 C0 hw (fun w h => (List.mem_cons_of_mem _ (List.mem_append_right _ h))) ho ((List.mem_cons_of_mem _ (List.mem_append_left _ (List.mem_of_getElem? (i := 3) rfl)))) dX8_keep_29 ?_
  refine lv_icmp_ge (tgt := 67) hx hb dX8_keep_32 (by decide) (fun hc11 => ?_) (fun hc11 => ?_)
  · have h := ifp h hc11
    have h := hX5 _ (Option.some.inj h).symm
    have hl := lv_sub hl (l' := []) [] rfl
    cases h
    exact W.vret hx hb hr (X_fin C0 hw) hw.2.2.2 dX8_keep_67 hlocks
  · have h := ifn h hc11
    refine lv_aload_n hx hb dX8_keep_35 rfl (lv_at hl 1 rfl) ?_
    refine X_g16_14 C0 hw (fun w h => (List.mem_cons_of_mem _ (List.mem_append_right _ h))) ho ((List.mem_cons_of_mem _ (List.mem_append_left _ (List.mem_of_getElem? (i := 5) rfl)))) dX8_keep_36 ?_
    refine lv_iload hx hb dX8_keep_39 (lv_at hl 0 rfl) ?_
    refine lv_aload_n hx hb dX8_keep_41 rfl (lv_at hl 1 rfl) ?_
    refine lv_iload hx hb dX8_keep_42 (lv_at hl 0 rfl) ?_
    obtain ⟨v12, hf13, h⟩ := bn_c h
    refine X_callV C0 hw (As := [.int v8]) (rest := [.int v8, .ref (E.2.2.1 (50) oi)]) (mX8_nameAt l E hL t9 ho hf13) (cwV 1 C0.1.2.2.2.2 gX8_keep_X8_nameAt rfl rfl rfl (by decide +kernel) ⟨Nat.le_of_ble_eq_true rfl, Nat.le_of_ble_eq_true rfl⟩) (X_recv_16 C0 hw ho) rfl hl.1 rfl (Nat.le_of_ble_eq_true rfl) dX8_keep_44 ⟨Nat.zero_le _, Nat.zero_le _⟩ (fun H locs hw => ?_)
    refine W.eq (g2 := F0 m 47 ls [.int v12, .int v8, .ref (E.2.2.1 (50) oi)]) rfl ?_
    refine X_iast hL C0 hw h (k := v8.toNatClampNeg) rfl dX8_keep_47 (fun t14 H locs hw h => ?_)
    refine lv_aload_n hx hb dX8_keep_48 rfl (lv_at hl 1 rfl) ?_
    refine X_g16_15 C0 hw (fun w h => (List.mem_cons_of_mem _ (List.mem_append_right _ h))) ho ((List.mem_cons_of_mem _ (List.mem_append_left _ (List.mem_of_getElem? (i := 6) rfl)))) dX8_keep_49 ?_
    refine lv_iload hx hb dX8_keep_52 (lv_at hl 0 rfl) ?_
    refine lv_aload_n hx hb dX8_keep_54 rfl (lv_at hl 1 rfl) ?_
    refine lv_iload hx hb dX8_keep_55 (lv_at hl 0 rfl) ?_
    obtain ⟨v15, hf16, h⟩ := bn_c h
    refine X_callV C0 hw (As := [.int v8]) (rest := [.int v8, .ref (E.2.2.1 (51) oi)]) (mX8_gramsAt l E hL t14 ho hf16) (cwV 1 C0.1.2.2.2.2 gX8_keep_X8_gramsAt rfl rfl rfl (by decide +kernel) ⟨Nat.le_of_ble_eq_true rfl, Nat.le_of_ble_eq_true rfl⟩) (X_recv_16 C0 hw ho) rfl hl.1 rfl (Nat.le_of_ble_eq_true rfl) dX8_keep_57 ⟨Nat.zero_le _, Nat.zero_le _⟩ (fun H locs hw => ?_)
    refine W.eq (g2 := F0 m 60 ls [.int v15, .int v8, .ref (E.2.2.1 (51) oi)]) rfl ?_
    refine X_iast hL C0 hw h (k := v8.toNatClampNeg) rfl dX8_keep_60 (fun t17 H locs hw h => ?_)
    refine x_iinc hx hb h dX8_keep_61 hl (q := 0) rfl (fun v18 => [(5, .int v18), (0, .ref (E.2.2.1 16 oi))]) (by decide) (fun _ => rfl) (fun v18 ls hl h => ?_)
    refine lv_goto (tgt := 26) hx hb dX8_keep_64 (by decide) ?_
    exact hB6 _ (Option.some.inj h).symm _ _ hw _ (lv_sub hl [0, 1] rfl)

def fX8_setBound (oi : Nat) (a1 : UInt64) (st : Sto) : Option Sto :=
  (fX8_keep oi a1 (0 : Int64) st).bind (fun (t1 : Sto) =>
   some t1)
set_option maxHeartbeats 4000000 in
set_option maxRecDepth 100000 in
theorem mX8_setBound (l : Launch) (E : XE) (hL : LX E) (st : Sto) {oi : Nat} {a1 : UInt64} (ho : oi < cntX 16) {st1 : Sto} (h : fX8_setBound oi a1 st = some st1) : Met l yX8_setBound wsX8_setBound ({ frames := 2, cells := 0, slots := 0, locals := 46 }) (va_Pc [.ref (E.2.2.1 16 oi), .double a1] (RX E st)) (QX E none st1) 0 0 E.2.2.2 := by
  refine Met.ofW (cc := cX8_setBound) (maxL := 3) (ret := none) (by decide) rfl ?_
  intro p e s m args below meth c s₁ B hml hv
  obtain ⟨rfl, hP, hK⟩ := hv
  have hown : s.vm.findClass RX8 = some m.cls := findClass_of_methodNamed B.named
  have C0 : CX p m c cX8_setBound 3 s _ wsX8_setBound RX8 E := ⟨⟨B.exec, B.bytes, hml, hown, atoms_spec (ws := wsX8_setBound) B.pre⟩, hK⟩
  have hx := B.exec
  have hb := B.bytes
  have hr := B.returns
  have hlocks := B.notSynchronized
  have hw : SX E s st s.heap [] := ⟨hP, va_S.rf⟩
  have hl := lv_entry ([.ref (E.2.2.1 16 oi), .double a1]) (n := 3) (Nat.le_of_ble_eq_true rfl)
  rw [lg_entry_eq]
  generalize (lg_sl ([.ref (E.2.2.1 16 oi), .double a1]) ++ List.replicate (3 - (lg_sl ([.ref (E.2.2.1 16 oi), .double a1])).length) Slot.unset).toArray = ls at hl ⊢
  have hl : lv_has ls 3 [(0, .ref (E.2.2.1 16 oi)), (1, .double a1)] := hl
  unfold fX8_setBound at h
  refine lv_aload_n hx hb dX8_setBound_0 rfl (lv_at hl 0 rfl) ?_
  refine lv_dload_n hx hb dX8_setBound_1 rfl (lv_at hl 1 rfl) ?_
  refine lv_lconst (v := 0) hx hb dX8_setBound_2 (by decide) ?_
  obtain ⟨t1, hf2, h⟩ := bn_c h
  refine X_callV C0 hw (As := [.double a1, .long (0 : Int64)]) (rest := []) (mX8_keep l E hL st ho hf2) (cwV 2 C0.1.2.2.2.2 gX8_setBound_X8_keep rfl rfl rfl (by decide +kernel) ⟨Nat.le_of_ble_eq_true rfl, Nat.le_of_ble_eq_true rfl⟩) (X_recv_16 C0 hw ho) rfl hl.1 rfl (Nat.le_of_ble_eq_true rfl) dX8_setBound_3 ⟨Nat.zero_le _, Nat.zero_le _⟩ (fun H locs hw => ?_)
  refine W.eq (g2 := F0 m 6 ls []) rfl ?_
  cases h
  exact W.vret hx hb hr (X_fin C0 hw) hw.2.2.2 dX8_setBound_6 hlocks

def fX8_judge (oi : Nat) (a1 : UInt64) (a2 : Int64) (st : Sto) : Option Sto :=
  lt1 (sI st 16 oi 10 ((gI st 16 oi 10) + (1 : Int32))) fun (t1 : Sto) =>
  if gI t1 16 oi 13 = 0 then (
   (fX8_keep oi a1 a2 t1).bind (fun (t3 : Sto) =>
    some t3)) else (
   if Op.cmpValue (FP.dcmp a1 (gD t1 16 oi 17)) CmpOp.g < 0 then (
    (fX8_keep oi a1 a2 t1).bind (fun (t6 : Sto) =>
     some t6)) else (
    if Op.cmpValue (FP.dcmp a1 (gD t1 16 oi 17)) CmpOp.l = 0 then (
     if 0 ≤ lg_cmp a2 (gL t1 16 oi 18) then (
      some t1) else (
      (fX8_keep oi a1 a2 t1).bind (fun (t10 : Sto) =>
       some t10))) else (
     some t1)))
set_option maxHeartbeats 4000000 in
set_option maxRecDepth 100000 in
theorem mX8_judge (l : Launch) (E : XE) (hL : LX E) (st : Sto) {oi : Nat} {a1 : UInt64} {a2 : Int64} (ho : oi < cntX 16) {st1 : Sto} (h : fX8_judge oi a1 a2 st = some st1) : Met l yX8_judge wsX8_judge ({ frames := 2, cells := 0, slots := 0, locals := 46 }) (va_Pc [.ref (E.2.2.1 16 oi), .double a1, .long a2] (RX E st)) (QX E none st1) 0 0 E.2.2.2 := by
  refine Met.ofW (cc := cX8_judge) (maxL := 5) (ret := none) (by decide) rfl ?_
  intro p e s m args below meth c s₁ B hml hv
  obtain ⟨rfl, hP, hK⟩ := hv
  have hown : s.vm.findClass RX8 = some m.cls := findClass_of_methodNamed B.named
  have C0 : CX p m c cX8_judge 5 s _ wsX8_judge RX8 E := ⟨⟨B.exec, B.bytes, hml, hown, atoms_spec (ws := wsX8_judge) B.pre⟩, hK⟩
  have hx := B.exec
  have hb := B.bytes
  have hr := B.returns
  have hlocks := B.notSynchronized
  have hw : SX E s st s.heap [] := ⟨hP, va_S.rf⟩
  have hl := lv_entry ([.ref (E.2.2.1 16 oi), .double a1, .long a2]) (n := 5) (Nat.le_of_ble_eq_true rfl)
  rw [lg_entry_eq]
  generalize (lg_sl ([.ref (E.2.2.1 16 oi), .double a1, .long a2]) ++ List.replicate (5 - (lg_sl ([.ref (E.2.2.1 16 oi), .double a1, .long a2])).length) Slot.unset).toArray = ls at hl ⊢
  have hl : lv_has ls 5 [(0, .ref (E.2.2.1 16 oi)), (1, .double a1), (3, .long a2)] := hl
  unfold fX8_judge at h
  refine lv_aload_n hx hb dX8_judge_0 rfl (lv_at hl 0 rfl) ?_
  refine lv_dup hx hb dX8_judge_1 rfl ?_
  refine X_g16_10 C0 hw (fun w h => (List.mem_cons_of_mem _ (List.mem_append_right _ h))) ho ((List.mem_cons_of_mem _ (List.mem_append_left _ (List.mem_append_left _ (List.mem_of_getElem? (i := 0) rfl))))) dX8_judge_2 ?_
  refine lv_iconst (v := 1) hx hb dX8_judge_5 (by decide) ?_
  refine lv_iadd hx hb dX8_judge_6 ?_
  refine X_p16_10 hL C0 hw (fun w h => (List.mem_cons_of_mem _ (List.mem_append_right _ h))) ho h ((List.mem_cons_of_mem _ (List.mem_append_left _ (List.mem_append_left _ (List.mem_of_getElem? (i := 0) rfl))))) dX8_judge_7 (fun t1 H locs hw h => ?_)
  refine lv_aload_n hx hb dX8_judge_10 rfl (lv_at hl 0 rfl) ?_
  refine X_g16_13 C0 hw (fun w h => (List.mem_cons_of_mem _ (List.mem_append_right _ h))) ho ((List.mem_cons_of_mem _ (List.mem_append_left _ (List.mem_append_left _ (List.mem_of_getElem? (i := 1) rfl))))) dX8_judge_11 ?_
  refine lv_if_eq (tgt := 44) hx hb dX8_judge_14 (by decide) (fun hc2 => ?_) (fun hc2 => ?_)
  · have h := ifp h hc2
    refine lv_aload_n hx hb dX8_judge_44 rfl (lv_at hl 0 rfl) ?_
    refine lv_dload_n hx hb dX8_judge_45 rfl (lv_at hl 1 rfl) ?_
    refine lv_lload_n hx hb dX8_judge_46 rfl (lv_at hl 2 rfl) ?_
    obtain ⟨t3, hf4, h⟩ := bn_c h
    refine X_callV C0 hw (As := [.double a1, .long a2]) (rest := []) (mX8_keep l E hL t1 ho hf4) (cwV 2 C0.1.2.2.2.2 gX8_judge_X8_keep rfl rfl rfl (by decide +kernel) ⟨Nat.le_of_ble_eq_true rfl, Nat.le_of_ble_eq_true rfl⟩) (X_recv_16 C0 hw ho) rfl hl.1 rfl (Nat.le_of_ble_eq_true rfl) dX8_judge_47 ⟨Nat.zero_le _, Nat.zero_le _⟩ (fun H locs hw => ?_)
    refine W.eq (g2 := F0 m 50 ls []) rfl ?_
    cases h
    exact W.vret hx hb hr (X_fin C0 hw) hw.2.2.2 dX8_judge_50 hlocks
  · have h := ifn h hc2
    refine lv_dload_n hx hb dX8_judge_17 rfl (lv_at hl 1 rfl) ?_
    refine lv_aload_n hx hb dX8_judge_18 rfl (lv_at hl 0 rfl) ?_
    refine X_g16_17 C0 hw (fun w h => (List.mem_cons_of_mem _ (List.mem_append_right _ h))) ho ((List.mem_cons_of_mem _ (List.mem_append_left _ (List.mem_append_left _ (List.mem_of_getElem? (i := 2) rfl))))) dX8_judge_19 ?_
    refine lv_dcmp hx hb dX8_judge_22 ?_
    refine lv_if_lt (tgt := 44) hx hb dX8_judge_23 (by decide) (fun hc5 => ?_) (fun hc5 => ?_)
    · have h := ifp h hc5
      refine lv_aload_n hx hb dX8_judge_44 rfl (lv_at hl 0 rfl) ?_
      refine lv_dload_n hx hb dX8_judge_45 rfl (lv_at hl 1 rfl) ?_
      refine lv_lload_n hx hb dX8_judge_46 rfl (lv_at hl 2 rfl) ?_
      obtain ⟨t6, hf7, h⟩ := bn_c h
      refine X_callV C0 hw (As := [.double a1, .long a2]) (rest := []) (mX8_keep l E hL t1 ho hf7) (cwV 2 C0.1.2.2.2.2 gX8_judge_X8_keep rfl rfl rfl (by decide +kernel) ⟨Nat.le_of_ble_eq_true rfl, Nat.le_of_ble_eq_true rfl⟩) (X_recv_16 C0 hw ho) rfl hl.1 rfl (Nat.le_of_ble_eq_true rfl) dX8_judge_47 ⟨Nat.zero_le _, Nat.zero_le _⟩ (fun H locs hw => ?_)
      refine W.eq (g2 := F0 m 50 ls []) rfl ?_
      cases h
      exact W.vret hx hb hr (X_fin C0 hw) hw.2.2.2 dX8_judge_50 hlocks
    · have h := ifn h hc5
      refine lv_dload_n hx hb dX8_judge_26 rfl (lv_at hl 1 rfl) ?_
      refine lv_aload_n hx hb dX8_judge_27 rfl (lv_at hl 0 rfl) ?_
      refine X_g16_17 C0 hw (fun w h => (List.mem_cons_of_mem _ (List.mem_append_right _ h))) ho ((List.mem_cons_of_mem _ (List.mem_append_left _ (List.mem_append_left _ (List.mem_of_getElem? (i := 2) rfl))))) dX8_judge_28 ?_
      refine lv_dcmp hx hb dX8_judge_31 ?_
      refine lv_if_ne (tgt := 50) hx hb dX8_judge_32 (by decide) (fun hc8 => ?_) (fun hc8 => ?_)
      · have h := ifn h hc8
        cases h
        exact W.vret hx hb hr (X_fin C0 hw) hw.2.2.2 dX8_judge_50 hlocks
      · have h := ifp h hc8
        refine lv_lload_n hx hb dX8_judge_35 rfl (lv_at hl 2 rfl) ?_
        refine lv_aload_n hx hb dX8_judge_36 rfl (lv_at hl 0 rfl) ?_
        refine X_g16_18 C0 hw (fun w h => (List.mem_cons_of_mem _ (List.mem_append_right _ h))) ho ((List.mem_cons_of_mem _ (List.mem_append_left _ (List.mem_append_left _ (List.mem_of_getElem? (i := 3) rfl))))) dX8_judge_37 ?_
        refine W.lcmp hx hb dX8_judge_40 ?_
        refine lv_if_ge (tgt := 50) hx hb dX8_judge_41 (by decide) (fun hc9 => ?_) (fun hc9 => ?_)
        · have h := ifp h hc9
          cases h
          exact W.vret hx hb hr (X_fin C0 hw) hw.2.2.2 dX8_judge_50 hlocks
        · have h := ifn h hc9
          refine lv_aload_n hx hb dX8_judge_44 rfl (lv_at hl 0 rfl) ?_
          refine lv_dload_n hx hb dX8_judge_45 rfl (lv_at hl 1 rfl) ?_
          refine lv_lload_n hx hb dX8_judge_46 rfl (lv_at hl 2 rfl) ?_
          obtain ⟨t10, hf11, h⟩ := bn_c h
          refine X_callV C0 hw (As := [.double a1, .long a2]) (rest := []) (mX8_keep l E hL t1 ho hf11) (cwV 2 C0.1.2.2.2.2 gX8_judge_X8_keep rfl rfl rfl (by decide +kernel) ⟨Nat.le_of_ble_eq_true rfl, Nat.le_of_ble_eq_true rfl⟩) (X_recv_16 C0 hw ho) rfl hl.1 rfl (Nat.le_of_ble_eq_true rfl) dX8_judge_47 ⟨Nat.zero_le _, Nat.zero_le _⟩ (fun H locs hw => ?_)
          refine W.eq (g2 := F0 m 50 ls []) rfl ?_
          cases h
          exact W.vret hx hb hr (X_fin C0 hw) hw.2.2.2 dX8_judge_50 hlocks

def fX8_end (oi : Nat) (st : Sto) : Option Sto :=
  if gI st 16 oi 10 < (1000 : Int32) then (
   lt1 (sI st 16 oi 11 (1 : Int32)) fun (t2 : Sto) =>
   lt1 (sI t2 16 oi 12 (1 : Int32)) fun (t3 : Sto) =>
   some t3) else (
   (fX8_advance oi st).bind (un2 fun (v4 : Int32) (t5 : Sto) =>
    if v4 = 0 then (
     lt1 (sI t5 16 oi 11 (1 : Int32)) fun (t10 : Sto) =>
     lt1 (sI t10 16 oi 12 (1 : Int32)) fun (t11 : Sto) =>
     some t11) else (
     lt1 (sI t5 16 oi 11 (0 : Int32)) fun (t8 : Sto) =>
     lt1 (sI t8 16 oi 12 (1 : Int32)) fun (t9 : Sto) =>
     some t9)))
set_option maxHeartbeats 4000000 in
set_option maxRecDepth 100000 in
theorem mX8_end (l : Launch) (E : XE) (hL : LX E) (st : Sto) {oi : Nat} (ho : oi < cntX 16) {st1 : Sto} (h : fX8_end oi st = some st1) : Met l yX8_end wsX8_end ({ frames := 3, cells := 0, slots := 0, locals := 65 }) (va_Pc [.ref (E.2.2.1 16 oi)] (RX E st)) (QX E none st1) 0 0 E.2.2.2 := by
  refine Met.ofW (cc := cX8_end) (maxL := 1) (ret := none) (by decide) rfl ?_
  intro p e s m args below meth c s₁ B hml hv
  obtain ⟨rfl, hP, hK⟩ := hv
  have hown : s.vm.findClass RX8 = some m.cls := findClass_of_methodNamed B.named
  have C0 : CX p m c cX8_end 1 s _ wsX8_end RX8 E := ⟨⟨B.exec, B.bytes, hml, hown, atoms_spec (ws := wsX8_end) B.pre⟩, hK⟩
  have hx := B.exec
  have hb := B.bytes
  have hr := B.returns
  have hlocks := B.notSynchronized
  have hw : SX E s st s.heap [] := ⟨hP, va_S.rf⟩
  have hl := lv_entry ([.ref (E.2.2.1 16 oi)]) (n := 1) (Nat.le_of_ble_eq_true rfl)
  rw [lg_entry_eq]
  generalize (lg_sl ([.ref (E.2.2.1 16 oi)]) ++ List.replicate (1 - (lg_sl ([.ref (E.2.2.1 16 oi)])).length) Slot.unset).toArray = ls at hl ⊢
  have hl : lv_has ls 1 [(0, .ref (E.2.2.1 16 oi))] := hl
  unfold fX8_end at h
  refine lv_aload_n hx hb dX8_end_0 rfl (lv_at hl 0 rfl) ?_
  refine lv_aload_n hx hb dX8_end_1 rfl (lv_at hl 0 rfl) ?_
  refine X_g16_10 C0 hw (fun w h => (List.mem_cons_of_mem _ (List.mem_append_right _ h))) ho ((List.mem_cons_of_mem _ (List.mem_append_left _ (List.mem_append_left _ (List.mem_of_getElem? (i := 0) rfl))))) dX8_end_2 ?_
  refine lv_sipush (v := 1000) hx hb dX8_end_5 (by decide) ?_
  refine lv_icmp_lt (tgt := 18) hx hb dX8_end_8 (by decide) (fun hc1 => ?_) (fun hc1 => ?_)
  · have h := ifp h hc1
    refine lv_iconst (v := 1) hx hb dX8_end_18 (by decide) ?_
    refine lv_goto (tgt := 23) hx hb dX8_end_19 (by decide) ?_
    refine X_p16_11 hL C0 hw (fun w h => (List.mem_cons_of_mem _ (List.mem_append_right _ h))) ho h rfl rfl ((List.mem_cons_of_mem _ (List.mem_append_left _ (List.mem_append_left _ (List.mem_of_getElem? (i := 1) rfl))))) dX8_end_23 (fun t2 H locs hw h => ?_)
    refine lv_aload_n hx hb dX8_end_26 rfl (lv_at hl 0 rfl) ?_
    refine lv_iconst (v := 1) hx hb dX8_end_27 (by decide) ?_
    refine X_p16_12 hL C0 hw (fun w h => (List.mem_cons_of_mem _ (List.mem_append_right _ h))) ho h rfl rfl ((List.mem_cons_of_mem _ (List.mem_append_left _ (List.mem_append_left _ (List.mem_of_getElem? (i := 2) rfl))))) dX8_end_28 (fun t3 H locs hw h => ?_)
    cases h
    exact W.vret hx hb hr (X_fin C0 hw) hw.2.2.2 dX8_end_31 hlocks
  · have h := ifn h hc1
    refine lv_aload_n hx hb dX8_end_11 rfl (lv_at hl 0 rfl) ?_
    obtain ⟨⟨v4, t5⟩, hf6, h⟩ := bn_c h
    have h := un2_d h
    refine X_callV C0 hw (As := []) (rest := [.ref (E.2.2.1 16 oi)]) (mX8_advance l E hL st ho hf6) (cwV 0 C0.1.2.2.2.2 gX8_end_X8_advance rfl rfl rfl (by decide +kernel) ⟨Nat.le_of_ble_eq_true rfl, Nat.le_of_ble_eq_true rfl⟩) (X_recv_16 C0 hw ho) rfl hl.1 rfl (Nat.le_of_ble_eq_true rfl) dX8_end_12 ⟨Nat.zero_le _, Nat.zero_le _⟩ (fun H locs hw => ?_)
    refine W.eq (g2 := F0 m 15 ls [.int v4, .ref (E.2.2.1 16 oi)]) rfl ?_
    refine lv_if_ne (tgt := 22) hx hb dX8_end_15 (by decide) (fun hc7 => ?_) (fun hc7 => ?_)
    · have h := ifn h hc7
      refine lv_iconst (v := 0) hx hb dX8_end_22 (by decide) ?_
      refine X_p16_11 hL C0 hw (fun w h => (List.mem_cons_of_mem _ (List.mem_append_right _ h))) ho h rfl rfl ((List.mem_cons_of_mem _ (List.mem_append_left _ (List.mem_append_left _ (List.mem_of_getElem? (i := 1) rfl))))) dX8_end_23 (fun t8 H locs hw h => ?_)
      refine lv_aload_n hx hb dX8_end_26 rfl (lv_at hl 0 rfl) ?_
      refine lv_iconst (v := 1) hx hb dX8_end_27 (by decide) ?_
      refine X_p16_12 hL C0 hw (fun w h => (List.mem_cons_of_mem _ (List.mem_append_right _ h))) ho h rfl rfl ((List.mem_cons_of_mem _ (List.mem_append_left _ (List.mem_append_left _ (List.mem_of_getElem? (i := 2) rfl))))) dX8_end_28 (fun t9 H locs hw h => ?_)
      cases h
      exact W.vret hx hb hr (X_fin C0 hw) hw.2.2.2 dX8_end_31 hlocks
    · have h := ifp h hc7
      refine lv_iconst (v := 1) hx hb dX8_end_18 (by decide) ?_
      refine lv_goto (tgt := 23) hx hb dX8_end_19 (by decide) ?_
      refine X_p16_11 hL C0 hw (fun w h => (List.mem_cons_of_mem _ (List.mem_append_right _ h))) ho h rfl rfl ((List.mem_cons_of_mem _ (List.mem_append_left _ (List.mem_append_left _ (List.mem_of_getElem? (i := 1) rfl))))) dX8_end_23 (fun t10 H locs hw h => ?_)
      refine lv_aload_n hx hb dX8_end_26 rfl (lv_at hl 0 rfl) ?_
      refine lv_iconst (v := 1) hx hb dX8_end_27 (by decide) ?_
      refine X_p16_12 hL C0 hw (fun w h => (List.mem_cons_of_mem _ (List.mem_append_right _ h))) ho h rfl rfl ((List.mem_cons_of_mem _ (List.mem_append_left _ (List.mem_append_left _ (List.mem_of_getElem? (i := 2) rfl))))) dX8_end_28 (fun t11 H locs hw h => ?_)
      cases h
      exact W.vret hx hb hr (X_fin C0 hw) hw.2.2.2 dX8_end_31 hlocks

def fX8_resultOf (oi : Nat) (a1 : Int32) (st : Sto) : Option Int32 :=
  if gI st 16 oi 12 = 0 then (
   some (-1 : Int32)) else (
   if 0 ≤ a1 then (
    if a1 = 0 then (
     some (gI st 16 oi 10)) else (
     if a1 = (1 : Int32) then (
      if gI st 16 oi 11 = 0 then (
       some (0 : Int32)) else (
       some (1 : Int32))) else (
      ck (¬ (2 : Int32) = 0) (
       lt1 ((a1 / (2 : Int32)) - (1 : Int32)) fun (v5 : Int32) =>
       if v5 < gI st 16 oi 16 then (
        ck (¬ (2 : Int32) = 0) (
         if a1 - a1 / (2 : Int32) * (2 : Int32) = 0 then (
          ck (0 ≤ v5.toInt ∧ v5.toInt < (lIX (50) oi : Int)) (
           some (gI st (50) oi (v5.toNatClampNeg)))) else (
          ck (0 ≤ v5.toInt ∧ v5.toInt < (lIX (51) oi : Int)) (
           some (gI st (51) oi (v5.toNatClampNeg)))))) else (
        some (-1 : Int32)))))) else (
    some (-1 : Int32)))
set_option maxHeartbeats 4000000 in
set_option maxRecDepth 100000 in
theorem mX8_resultOf (l : Launch) (E : XE) (hL : LX E) (st : Sto) {oi : Nat} {a1 : Int32} (ho : oi < cntX 16) {r : Int32} (h : fX8_resultOf oi a1 st = some r) : Met l yX8_resultOf wsX8_resultOf ({ frames := 0, cells := 0, slots := 0, locals := 0 }) (va_Pc [.ref (E.2.2.1 16 oi), .int a1] (RX E st)) (QX E (some (.int r)) st) 0 0 E.2.2.2 := by
  refine Met.ofW (cc := cX8_resultOf) (maxL := 3) (ret := (some .int)) (by decide) rfl ?_
  intro p e s m args below meth c s₁ B hml hv
  obtain ⟨rfl, hP, hK⟩ := hv
  have hown : s.vm.findClass RX8 = some m.cls := findClass_of_methodNamed B.named
  have C0 : CX p m c cX8_resultOf 3 s _ wsX8_resultOf RX8 E := ⟨⟨B.exec, B.bytes, hml, hown, atoms_spec (ws := wsX8_resultOf) B.pre⟩, hK⟩
  have hx := B.exec
  have hb := B.bytes
  have hr := B.returns
  have hlocks := B.notSynchronized
  have hw : SX E s st s.heap [] := ⟨hP, va_S.rf⟩
  have hl := lv_entry ([.ref (E.2.2.1 16 oi), .int a1]) (n := 3) (Nat.le_of_ble_eq_true rfl)
  rw [lg_entry_eq]
  generalize (lg_sl ([.ref (E.2.2.1 16 oi), .int a1]) ++ List.replicate (3 - (lg_sl ([.ref (E.2.2.1 16 oi), .int a1])).length) Slot.unset).toArray = ls at hl ⊢
  have hl : lv_has ls 3 [(0, .ref (E.2.2.1 16 oi)), (1, .int a1)] := hl
  unfold fX8_resultOf at h
  refine lv_aload_n hx hb dX8_resultOf_0 rfl (lv_at hl 0 rfl) ?_
  refine X_g16_12 C0 hw (fun w h => (List.mem_cons_of_mem _ (List.mem_append_right _ h))) ho ((List.mem_cons_of_mem _ (List.mem_append_left _ (List.mem_of_getElem? (i := 0) rfl)))) dX8_resultOf_1 ?_
  refine lv_if_eq (tgt := 11) hx hb dX8_resultOf_4 (by decide) (fun hc1 => ?_) (fun hc1 => ?_)
  · have h := ifp h hc1
    refine lv_iconst (v := -1) hx hb dX8_resultOf_11 (by decide) ?_
    cases h
    exact W.iret hx hb hr (X_fin C0 hw) hw.2.2.2 dX8_resultOf_12 hlocks
  · have h := ifn h hc1
    refine lv_iload_n hx hb dX8_resultOf_7 rfl (lv_at hl 1 rfl) ?_
    refine lv_if_ge (tgt := 13) hx hb dX8_resultOf_8 (by decide) (fun hc2 => ?_) (fun hc2 => ?_)
    · have h := ifp h hc2
      refine lv_iload_n hx hb dX8_resultOf_13 rfl (lv_at hl 1 rfl) ?_
      refine lv_if_ne (tgt := 22) hx hb dX8_resultOf_14 (by decide) (fun hc3 => ?_) (fun hc3 => ?_)
      · have h := ifn h hc3
        refine lv_iload_n hx hb dX8_resultOf_22 rfl (lv_at hl 1 rfl) ?_
        refine lv_iconst (v := 1) hx hb dX8_resultOf_23 (by decide) ?_
        refine lv_icmp_ne (tgt := 40) hx hb dX8_resultOf_24 (by decide) (fun hc4 => ?_) (fun hc4 => ?_)
        · have h := ifn h hc4
          refine lv_iload_n hx hb dX8_resultOf_40 rfl (lv_at hl 1 rfl) ?_
          refine lv_iconst (v := 2) hx hb dX8_resultOf_41 (by decide) ?_
          refine x_idiv hx hb h dX8_resultOf_42 (fun h => ?_)
          refine lv_iconst (v := 1) hx hb dX8_resultOf_43 (by decide) ?_
          refine lv_isub hx hb dX8_resultOf_44 ?_
          refine x_topi h (fun v5 h => ?_)
          refine lv_istore_n (lv' := [(2, .int v5), (0, .ref (E.2.2.1 16 oi)), (1, .int a1)]) hx hb dX8_resultOf_45 rfl hl (by decide) rfl (fun ls hl => ?_)
          refine lv_iload_n hx hb dX8_resultOf_46 rfl (lv_at hl 0 rfl) ?_
          refine lv_aload_n hx hb dX8_resultOf_47 rfl (lv_at hl 1 rfl) ?_
          refine X_g16_16 C0 hw (fun w h => (List.mem_cons_of_mem _ (List.mem_append_right _ h))) ho ((List.mem_cons_of_mem _ (List.mem_append_left _ (List.mem_of_getElem? (i := 3) rfl)))) dX8_resultOf_48 ?_
          refine lv_icmp_lt (tgt := 56) hx hb dX8_resultOf_51 (by decide) (fun hc6 => ?_) (fun hc6 => ?_)
          · have h := ifp h hc6
            refine lv_iload_n hx hb dX8_resultOf_56 rfl (lv_at hl 2 rfl) ?_
            refine lv_iconst (v := 2) hx hb dX8_resultOf_57 (by decide) ?_
            refine x_irem hx hb h dX8_resultOf_58 (fun h => ?_)
            refine lv_if_ne (tgt := 71) hx hb dX8_resultOf_59 (by decide) (fun hc7 => ?_) (fun hc7 => ?_)
            · have h := ifn h hc7
              refine lv_aload_n hx hb dX8_resultOf_71 rfl (lv_at hl 1 rfl) ?_
              refine X_g16_15 C0 hw (fun w h => (List.mem_cons_of_mem _ (List.mem_append_right _ h))) ho ((List.mem_cons_of_mem _ (List.mem_append_left _ (List.mem_of_getElem? (i := 5) rfl)))) dX8_resultOf_72 ?_
              refine lv_iload_n hx hb dX8_resultOf_75 rfl (lv_at hl 0 rfl) ?_
              refine X_iald C0 hw h (k := v5.toNatClampNeg) rfl dX8_resultOf_76 (fun h => ?_)
              cases h
              exact W.iret hx hb hr (X_fin C0 hw) hw.2.2.2 dX8_resultOf_77 hlocks
            · have h := ifp h hc7
              refine lv_aload_n hx hb dX8_resultOf_62 rfl (lv_at hl 1 rfl) ?_
              refine X_g16_14 C0 hw (fun w h => (List.mem_cons_of_mem _ (List.mem_append_right _ h))) ho ((List.mem_cons_of_mem _ (List.mem_append_left _ (List.mem_of_getElem? (i := 4) rfl)))) dX8_resultOf_63 ?_
              refine lv_iload_n hx hb dX8_resultOf_66 rfl (lv_at hl 0 rfl) ?_
              refine X_iald C0 hw h (k := v5.toNatClampNeg) rfl dX8_resultOf_67 (fun h => ?_)
              refine lv_goto (tgt := 77) hx hb dX8_resultOf_68 (by decide) ?_
              cases h
              exact W.iret hx hb hr (X_fin C0 hw) hw.2.2.2 dX8_resultOf_77 hlocks
          · have h := ifn h hc6
            refine lv_iconst (v := -1) hx hb dX8_resultOf_54 (by decide) ?_
            cases h
            exact W.iret hx hb hr (X_fin C0 hw) hw.2.2.2 dX8_resultOf_55 hlocks
        · have h := ifp h hc4
          refine lv_aload_n hx hb dX8_resultOf_27 rfl (lv_at hl 0 rfl) ?_
          refine X_g16_11 C0 hw (fun w h => (List.mem_cons_of_mem _ (List.mem_append_right _ h))) ho ((List.mem_cons_of_mem _ (List.mem_append_left _ (List.mem_of_getElem? (i := 2) rfl)))) dX8_resultOf_28 ?_
          refine lv_if_eq (tgt := 38) hx hb dX8_resultOf_31 (by decide) (fun hc8 => ?_) (fun hc8 => ?_)
          · have h := ifp h hc8
            refine lv_iconst (v := 0) hx hb dX8_resultOf_38 (by decide) ?_
            cases h
            exact W.iret hx hb hr (X_fin C0 hw) hw.2.2.2 dX8_resultOf_39 hlocks
          · have h := ifn h hc8
            refine lv_iconst (v := 1) hx hb dX8_resultOf_34 (by decide) ?_
            refine lv_goto (tgt := 39) hx hb dX8_resultOf_35 (by decide) ?_
            cases h
            exact W.iret hx hb hr (X_fin C0 hw) hw.2.2.2 dX8_resultOf_39 hlocks
      · have h := ifp h hc3
        refine lv_aload_n hx hb dX8_resultOf_17 rfl (lv_at hl 0 rfl) ?_
        refine X_g16_10 C0 hw (fun w h => (List.mem_cons_of_mem _ (List.mem_append_right _ h))) ho ((List.mem_cons_of_mem _ (List.mem_append_left _ (List.mem_of_getElem? (i := 1) rfl)))) dX8_resultOf_18 ?_
        cases h
        exact W.iret hx hb hr (X_fin C0 hw) hw.2.2.2 dX8_resultOf_21 hlocks
    · have h := ifn h hc2
      refine lv_iconst (v := -1) hx hb dX8_resultOf_11 (by decide) ?_
      cases h
      exact W.iret hx hb hr (X_fin C0 hw) hw.2.2.2 dX8_resultOf_12 hlocks

def fX9_isOne (a1 : Int32) (a2 : Int32) : Option Int32 :=
  if a1 < 0 then (
   some (0 : Int32)) else (
   if (6 : Int32) ≤ a1 then (
    some (0 : Int32)) else (
    if a2 < 0 then (
     some (0 : Int32)) else (
     if (2 : Int32) ≤ a2 then (
      some (0 : Int32)) else (
      some (1 : Int32)))))
set_option maxHeartbeats 4000000 in
set_option maxRecDepth 100000 in
theorem mX9_isOne (l : Launch) (E : XE) (hL : LX E) (st : Sto) {a1 : Int32} {a2 : Int32} {r : Int32} (h : fX9_isOne a1 a2 = some r) : Met l yX9_isOne wsX9_isOne ({ frames := 0, cells := 0, slots := 0, locals := 0 }) (va_Pc [.int a1, .int a2] (RX E st)) (QX E (some (.int r)) st) 0 0 E.2.2.2 := by
  refine Met.ofW (cc := cX9_isOne) (maxL := 2) (ret := (some .boolean)) (by decide) rfl ?_
  intro p e s m args below meth c s₁ B hml hv
  obtain ⟨rfl, hP, hK⟩ := hv
  have hown : s.vm.findClass RX9 = some m.cls := findClass_of_methodNamed B.named
  have C0 : CX p m c cX9_isOne 2 s _ wsX9_isOne RX9 E := ⟨⟨B.exec, B.bytes, hml, hown, atoms_spec (ws := wsX9_isOne) B.pre⟩, hK⟩
  have hx := B.exec
  have hb := B.bytes
  have hr := B.returns
  have hlocks := B.notSynchronized
  have hw : SX E s st s.heap [] := ⟨hP, va_S.rf⟩
  have hl := lv_entry ([.int a1, .int a2]) (n := 2) (Nat.le_of_ble_eq_true rfl)
  rw [lg_entry_eq]
  generalize (lg_sl ([.int a1, .int a2]) ++ List.replicate (2 - (lg_sl ([.int a1, .int a2])).length) Slot.unset).toArray = ls at hl ⊢
  have hl : lv_has ls 2 [(0, .int a1), (1, .int a2)] := hl
  unfold fX9_isOne at h
  refine lv_iload_n hx hb dX9_isOne_0 rfl (lv_at hl 0 rfl) ?_
  refine lv_if_lt (tgt := 23) hx hb dX9_isOne_1 (by decide) (fun hc1 => ?_) (fun hc1 => ?_)
  · have h := ifp h hc1
    refine lv_iconst (v := 0) hx hb dX9_isOne_23 (by decide) ?_
    cases h
    exact W.zret hx hb hr rfl (X_fin C0 hw) hw.2.2.2 dX9_isOne_24 hlocks
  · have h := ifn h hc1
    refine lv_iload_n hx hb dX9_isOne_4 rfl (lv_at hl 0 rfl) ?_
    refine lv_bipush (v := 6) hx hb dX9_isOne_5 (by decide) ?_
    refine lv_icmp_ge (tgt := 23) hx hb dX9_isOne_7 (by decide) (fun hc2 => ?_) (fun hc2 => ?_)
    · have h := ifp h hc2
      refine lv_iconst (v := 0) hx hb dX9_isOne_23 (by decide) ?_
      cases h
      exact W.zret hx hb hr rfl (X_fin C0 hw) hw.2.2.2 dX9_isOne_24 hlocks
    · have h := ifn h hc2
      refine lv_iload_n hx hb dX9_isOne_10 rfl (lv_at hl 1 rfl) ?_
      refine lv_if_lt (tgt := 23) hx hb dX9_isOne_11 (by decide) (fun hc3 => ?_) (fun hc3 => ?_)
      · have h := ifp h hc3
        refine lv_iconst (v := 0) hx hb dX9_isOne_23 (by decide) ?_
        cases h
        exact W.zret hx hb hr rfl (X_fin C0 hw) hw.2.2.2 dX9_isOne_24 hlocks
      · have h := ifn h hc3
        refine lv_iload_n hx hb dX9_isOne_14 rfl (lv_at hl 1 rfl) ?_
        refine lv_iconst (v := 2) hx hb dX9_isOne_15 (by decide) ?_
        refine lv_icmp_ge (tgt := 23) hx hb dX9_isOne_16 (by decide) (fun hc4 => ?_) (fun hc4 => ?_)
        · have h := ifp h hc4
          refine lv_iconst (v := 0) hx hb dX9_isOne_23 (by decide) ?_
          cases h
          exact W.zret hx hb hr rfl (X_fin C0 hw) hw.2.2.2 dX9_isOne_24 hlocks
        · have h := ifn h hc4
          refine lv_iconst (v := 1) hx hb dX9_isOne_19 (by decide) ?_
          refine lv_goto (tgt := 24) hx hb dX9_isOne_20 (by decide) ?_
          cases h
          exact W.zret hx hb hr rfl (X_fin C0 hw) hw.2.2.2 dX9_isOne_24 hlocks

def fX9_isWeight (a1 : Int32) (a2 : Int32) : Option Int32 :=
  if a1 < 0 then (
   some (0 : Int32)) else (
   if (16 : Int32) ≤ a1 then (
    some (0 : Int32)) else (
    if a2 < 0 then (
     some (0 : Int32)) else (
     if (1000000 : Int32) < a2 then (
      some (0 : Int32)) else (
      some (1 : Int32)))))
set_option maxHeartbeats 4000000 in
set_option maxRecDepth 100000 in
theorem mX9_isWeight (l : Launch) (E : XE) (hL : LX E) (st : Sto) {a1 : Int32} {a2 : Int32} {r : Int32} (h : fX9_isWeight a1 a2 = some r) : Met l yX9_isWeight wsX9_isWeight ({ frames := 0, cells := 0, slots := 0, locals := 0 }) (va_Pc [.int a1, .int a2] (RX E st)) (QX E (some (.int r)) st) 0 0 E.2.2.2 := by
  refine Met.ofW (cc := cX9_isWeight) (maxL := 2) (ret := (some .boolean)) (by decide) rfl ?_
  intro p e s m args below meth c s₁ B hml hv
  obtain ⟨rfl, hP, hK⟩ := hv
  have hown : s.vm.findClass RX9 = some m.cls := findClass_of_methodNamed B.named
  have C0 : CX p m c cX9_isWeight 2 s _ wsX9_isWeight RX9 E := ⟨⟨B.exec, B.bytes, hml, hown, atoms_spec (ws := wsX9_isWeight) B.pre⟩, hK⟩
  have hx := B.exec
  have hb := B.bytes
  have hr := B.returns
  have hlocks := B.notSynchronized
  have hw : SX E s st s.heap [] := ⟨hP, va_S.rf⟩
  have hl := lv_entry ([.int a1, .int a2]) (n := 2) (Nat.le_of_ble_eq_true rfl)
  rw [lg_entry_eq]
  generalize (lg_sl ([.int a1, .int a2]) ++ List.replicate (2 - (lg_sl ([.int a1, .int a2])).length) Slot.unset).toArray = ls at hl ⊢
  have hl : lv_has ls 2 [(0, .int a1), (1, .int a2)] := hl
  unfold fX9_isWeight at h
  refine lv_iload_n hx hb dX9_isWeight_0 rfl (lv_at hl 0 rfl) ?_
  refine lv_if_lt (tgt := 24) hx hb dX9_isWeight_1 (by decide) (fun hc1 => ?_) (fun hc1 => ?_)
  · have h := ifp h hc1
    refine lv_iconst (v := 0) hx hb dX9_isWeight_24 (by decide) ?_
    cases h
    exact W.zret hx hb hr rfl (X_fin C0 hw) hw.2.2.2 dX9_isWeight_25 hlocks
  · have h := ifn h hc1
    refine lv_iload_n hx hb dX9_isWeight_4 rfl (lv_at hl 0 rfl) ?_
    refine lv_bipush (v := 16) hx hb dX9_isWeight_5 (by decide) ?_
    refine lv_icmp_ge (tgt := 24) hx hb dX9_isWeight_7 (by decide) (fun hc2 => ?_) (fun hc2 => ?_)
    · have h := ifp h hc2
      refine lv_iconst (v := 0) hx hb dX9_isWeight_24 (by decide) ?_
      cases h
      exact W.zret hx hb hr rfl (X_fin C0 hw) hw.2.2.2 dX9_isWeight_25 hlocks
    · have h := ifn h hc2
      refine lv_iload_n hx hb dX9_isWeight_10 rfl (lv_at hl 1 rfl) ?_
      refine lv_if_lt (tgt := 24) hx hb dX9_isWeight_11 (by decide) (fun hc3 => ?_) (fun hc3 => ?_)
      · have h := ifp h hc3
        refine lv_iconst (v := 0) hx hb dX9_isWeight_24 (by decide) ?_
        cases h
        exact W.zret hx hb hr rfl (X_fin C0 hw) hw.2.2.2 dX9_isWeight_25 hlocks
      · have h := ifn h hc3
        refine lv_iload_n hx hb dX9_isWeight_14 rfl (lv_at hl 1 rfl) ?_
        refine lv_ldc hx hb hown (C0.1.2.2.2.2 _ (List.mem_cons_of_mem _ (List.mem_of_getElem? (i := 0) rfl))) dX9_isWeight_15 ?_
        refine lv_icmp_gt (tgt := 24) hx hb dX9_isWeight_17 (by decide) (fun hc4 => ?_) (fun hc4 => ?_)
        · have h := ifp h hc4
          refine lv_iconst (v := 0) hx hb dX9_isWeight_24 (by decide) ?_
          cases h
          exact W.zret hx hb hr rfl (X_fin C0 hw) hw.2.2.2 dX9_isWeight_25 hlocks
        · have h := ifn h hc4
          refine lv_iconst (v := 1) hx hb dX9_isWeight_20 (by decide) ?_
          refine lv_goto (tgt := 25) hx hb dX9_isWeight_21 (by decide) ?_
          cases h
          exact W.zret hx hb hr rfl (X_fin C0 hw) hw.2.2.2 dX9_isWeight_25 hlocks

def fX9_setLight (a1 : Int32) (a2 : Int32) (a3 : Int32) (st : Sto) : Option (Int32 × Sto) :=
  if a1 < 0 then (
   some ((0 : Int32), st)) else (
   if (6 : Int32) ≤ a1 then (
    some ((0 : Int32), st)) else (
    (fX9_isWeight a2 a3).bind (fun (v3 : Int32) =>
     if v3 = 0 then (
      some ((0 : Int32), st)) else (
      ck (0 ≤ a1.toInt ∧ a1.toInt < (6 : Int)) (
       ck (0 ≤ a2.toInt ∧ a2.toInt < (lIX (35) (a1.toNatClampNeg) : Int)) (lt1 (sI st (35) (a1.toNatClampNeg) (a2.toNatClampNeg) a3) fun (t7 : Sto) =>
        some ((1 : Int32), t7)))))))
set_option maxHeartbeats 4000000 in
set_option maxRecDepth 100000 in
theorem mX9_setLight (l : Launch) (E : XE) (hL : LX E) (st : Sto) {a1 : Int32} {a2 : Int32} {a3 : Int32} {r : Int32} {st1 : Sto} (h : fX9_setLight a1 a2 a3 st = some (r, st1)) : Met l yX9_setLight wsX9_setLight ({ frames := 1, cells := 0, slots := 0, locals := 21 }) (va_Pc [.ref (E.2.2.1 13 (0)), .int a1, .int a2, .int a3] (RX E st)) (QX E (some (.int r)) st1) 0 0 E.2.2.2 := by
  refine Met.ofW (cc := cX9_setLight) (maxL := 4) (ret := (some .boolean)) (by decide) rfl ?_
  intro p e s m args below meth c s₁ B hml hv
  obtain ⟨rfl, hP, hK⟩ := hv
  have hown : s.vm.findClass RX9 = some m.cls := findClass_of_methodNamed B.named
  have C0 : CX p m c cX9_setLight 4 s _ wsX9_setLight RX9 E := ⟨⟨B.exec, B.bytes, hml, hown, atoms_spec (ws := wsX9_setLight) B.pre⟩, hK⟩
  have hx := B.exec
  have hb := B.bytes
  have hr := B.returns
  have hlocks := B.notSynchronized
  have hw : SX E s st s.heap [] := ⟨hP, va_S.rf⟩
  have hl := lv_entry ([.ref (E.2.2.1 13 (0)), .int a1, .int a2, .int a3]) (n := 4) (Nat.le_of_ble_eq_true rfl)
  rw [lg_entry_eq]
  generalize (lg_sl ([.ref (E.2.2.1 13 (0)), .int a1, .int a2, .int a3]) ++ List.replicate (4 - (lg_sl ([.ref (E.2.2.1 13 (0)), .int a1, .int a2, .int a3])).length) Slot.unset).toArray = ls at hl ⊢
  have hl : lv_has ls 4 [(0, .ref (E.2.2.1 13 (0))), (1, .int a1), (2, .int a2), (3, .int a3)] := hl
  unfold fX9_setLight at h
  refine lv_iload_n hx hb dX9_setLight_0 rfl (lv_at hl 1 rfl) ?_
  refine lv_if_lt (tgt := 18) hx hb dX9_setLight_1 (by decide) (fun hc1 => ?_) (fun hc1 => ?_)
  · have h := ifp h hc1
    refine lv_iconst (v := 0) hx hb dX9_setLight_18 (by decide) ?_
    cases h
    exact W.zret hx hb hr rfl (X_fin C0 hw) hw.2.2.2 dX9_setLight_19 hlocks
  · have h := ifn h hc1
    refine lv_iload_n hx hb dX9_setLight_4 rfl (lv_at hl 1 rfl) ?_
    refine lv_bipush (v := 6) hx hb dX9_setLight_5 (by decide) ?_
    refine lv_icmp_ge (tgt := 18) hx hb dX9_setLight_7 (by decide) (fun hc2 => ?_) (fun hc2 => ?_)
    · have h := ifp h hc2
      refine lv_iconst (v := 0) hx hb dX9_setLight_18 (by decide) ?_
      cases h
      exact W.zret hx hb hr rfl (X_fin C0 hw) hw.2.2.2 dX9_setLight_19 hlocks
    · have h := ifn h hc2
      refine lv_iload_n hx hb dX9_setLight_10 rfl (lv_at hl 2 rfl) ?_
      refine lv_iload_n hx hb dX9_setLight_11 rfl (lv_at hl 3 rfl) ?_
      obtain ⟨v3, hf4, h⟩ := bn_c h
      refine X_callS C0 hw (As := [.int a2, .int a3]) (rest := []) (mX9_isWeight l E hL st hf4) (va_cwS 2 C0.1.2.2.2.2 gX9_setLight_X9_isWeight rfl rfl rfl (by decide +kernel) ⟨Nat.le_of_ble_eq_true rfl, Nat.le_of_ble_eq_true rfl⟩) rfl hl.1 rfl (Nat.le_of_ble_eq_true rfl) dX9_setLight_12 ⟨Nat.zero_le _, Nat.zero_le _⟩ (fun H locs hw => ?_)
      refine W.eq (g2 := F0 m 15 ls [.int v3]) rfl ?_
      refine lv_if_ne (tgt := 20) hx hb dX9_setLight_15 (by decide) (fun hc5 => ?_) (fun hc5 => ?_)
      · have h := ifn h hc5
        refine lv_aload_n hx hb dX9_setLight_20 rfl (lv_at hl 0 rfl) ?_
        refine X_g13_0 C0 hw (fun w h => (List.mem_cons_of_mem _ (List.mem_append_right _ h))) (by decide) ((List.mem_cons_of_mem _ (List.mem_append_left _ (List.mem_of_getElem? (i := 0) rfl)))) dX9_setLight_21 ?_
        refine lv_iload_n hx hb dX9_setLight_24 rfl (lv_at hl 1 rfl) ?_
        refine X_ald_34 C0 hw (by decide) h (k := a1.toNatClampNeg) rfl dX9_setLight_25 (fun hk6 h => ?_)
        refine lv_iload_n hx hb dX9_setLight_26 rfl (lv_at hl 2 rfl) ?_
        refine lv_iload_n hx hb dX9_setLight_27 rfl (lv_at hl 3 rfl) ?_
        refine X_iast hL C0 hw h (k := a2.toNatClampNeg) rfl dX9_setLight_28 (fun t7 H locs hw h => ?_)
        refine lv_iconst (v := 1) hx hb dX9_setLight_29 (by decide) ?_
        cases h
        exact W.zret hx hb hr rfl (X_fin C0 hw) hw.2.2.2 dX9_setLight_30 hlocks
      · have h := ifp h hc5
        refine lv_iconst (v := 0) hx hb dX9_setLight_18 (by decide) ?_
        cases h
        exact W.zret hx hb hr rfl (X_fin C0 hw) hw.2.2.2 dX9_setLight_19 hlocks

def fX9_setEye (a1 : Int32) (a2 : Int32) (a3 : Int32) (a4 : Int32) (st : Sto) : Option (Int32 × Sto) :=
  if a1 < 0 then (
   some ((0 : Int32), st)) else (
   if (2 : Int32) ≤ a1 then (
    some ((0 : Int32), st)) else (
    if a2 < 0 then (
     some ((0 : Int32), st)) else (
     if (3 : Int32) ≤ a2 then (
      some ((0 : Int32), st)) else (
      (fX9_isWeight a3 a4).bind (fun (v5 : Int32) =>
       if v5 = 0 then (
        some ((0 : Int32), st)) else (
        ck (0 ≤ ((a1 * (3 : Int32)) + a2).toInt ∧ ((a1 * (3 : Int32)) + a2).toInt < (6 : Int)) (
         ck (0 ≤ a3.toInt ∧ a3.toInt < (lIX (37) (((a1 * (3 : Int32)) + a2).toNatClampNeg) : Int)) (lt1 (sI st (37) (((a1 * (3 : Int32)) + a2).toNatClampNeg) (a3.toNatClampNeg) a4) fun (t9 : Sto) =>
          some ((1 : Int32), t9)))))))))
set_option maxHeartbeats 4000000 in
set_option maxRecDepth 100000 in
theorem mX9_setEye (l : Launch) (E : XE) (hL : LX E) (st : Sto) {a1 : Int32} {a2 : Int32} {a3 : Int32} {a4 : Int32} {r : Int32} {st1 : Sto} (h : fX9_setEye a1 a2 a3 a4 st = some (r, st1)) : Met l yX9_setEye wsX9_setEye ({ frames := 1, cells := 0, slots := 0, locals := 21 }) (va_Pc [.ref (E.2.2.1 13 (0)), .int a1, .int a2, .int a3, .int a4] (RX E st)) (QX E (some (.int r)) st1) 0 0 E.2.2.2 := by
  refine Met.ofW (cc := cX9_setEye) (maxL := 5) (ret := (some .boolean)) (by decide) rfl ?_
  intro p e s m args below meth c s₁ B hml hv
  obtain ⟨rfl, hP, hK⟩ := hv
  have hown : s.vm.findClass RX9 = some m.cls := findClass_of_methodNamed B.named
  have C0 : CX p m c cX9_setEye 5 s _ wsX9_setEye RX9 E := ⟨⟨B.exec, B.bytes, hml, hown, atoms_spec (ws := wsX9_setEye) B.pre⟩, hK⟩
  have hx := B.exec
  have hb := B.bytes
  have hr := B.returns
  have hlocks := B.notSynchronized
  have hw : SX E s st s.heap [] := ⟨hP, va_S.rf⟩
  have hl := lv_entry ([.ref (E.2.2.1 13 (0)), .int a1, .int a2, .int a3, .int a4]) (n := 5) (Nat.le_of_ble_eq_true rfl)
  rw [lg_entry_eq]
  generalize (lg_sl ([.ref (E.2.2.1 13 (0)), .int a1, .int a2, .int a3, .int a4]) ++ List.replicate (5 - (lg_sl ([.ref (E.2.2.1 13 (0)), .int a1, .int a2, .int a3, .int a4])).length) Slot.unset).toArray = ls at hl ⊢
  have hl : lv_has ls 5 [(0, .ref (E.2.2.1 13 (0))), (1, .int a1), (2, .int a2), (3, .int a3), (4, .int a4)] := hl
  unfold fX9_setEye at h
  refine lv_iload_n hx hb dX9_setEye_0 rfl (lv_at hl 1 rfl) ?_
  refine lv_if_lt (tgt := 27) hx hb dX9_setEye_1 (by decide) (fun hc1 => ?_) (fun hc1 => ?_)
  · have h := ifp h hc1
    refine lv_iconst (v := 0) hx hb dX9_setEye_27 (by decide) ?_
    cases h
    exact W.zret hx hb hr rfl (X_fin C0 hw) hw.2.2.2 dX9_setEye_28 hlocks
  · have h := ifn h hc1
    refine lv_iload_n hx hb dX9_setEye_4 rfl (lv_at hl 1 rfl) ?_
    refine lv_iconst (v := 2) hx hb dX9_setEye_5 (by decide) ?_
    refine lv_icmp_ge (tgt := 27) hx hb dX9_setEye_6 (by decide) (fun hc2 => ?_) (fun hc2 => ?_)
    · have h := ifp h hc2
      refine lv_iconst (v := 0) hx hb dX9_setEye_27 (by decide) ?_
      cases h
      exact W.zret hx hb hr rfl (X_fin C0 hw) hw.2.2.2 dX9_setEye_28 hlocks
    · have h := ifn h hc2
      refine lv_iload_n hx hb dX9_setEye_9 rfl (lv_at hl 2 rfl) ?_
      refine lv_if_lt (tgt := 27) hx hb dX9_setEye_10 (by decide) (fun hc3 => ?_) (fun hc3 => ?_)
      · have h := ifp h hc3
        refine lv_iconst (v := 0) hx hb dX9_setEye_27 (by decide) ?_
        cases h
        exact W.zret hx hb hr rfl (X_fin C0 hw) hw.2.2.2 dX9_setEye_28 hlocks
      · have h := ifn h hc3
        refine lv_iload_n hx hb dX9_setEye_13 rfl (lv_at hl 2 rfl) ?_
        refine lv_iconst (v := 3) hx hb dX9_setEye_14 (by decide) ?_
        refine lv_icmp_ge (tgt := 27) hx hb dX9_setEye_15 (by decide) (fun hc4 => ?_) (fun hc4 => ?_)
        · have h := ifp h hc4
          refine lv_iconst (v := 0) hx hb dX9_setEye_27 (by decide) ?_
          cases h
          exact W.zret hx hb hr rfl (X_fin C0 hw) hw.2.2.2 dX9_setEye_28 hlocks
        · have h := ifn h hc4
          refine lv_iload_n hx hb dX9_setEye_18 rfl (lv_at hl 3 rfl) ?_
          refine lv_iload hx hb dX9_setEye_19 (lv_at hl 4 rfl) ?_
          obtain ⟨v5, hf6, h⟩ := bn_c h
          refine X_callS C0 hw (As := [.int a3, .int a4]) (rest := []) (mX9_isWeight l E hL st hf6) (va_cwS 2 C0.1.2.2.2.2 gX9_setEye_X9_isWeight rfl rfl rfl (by decide +kernel) ⟨Nat.le_of_ble_eq_true rfl, Nat.le_of_ble_eq_true rfl⟩) rfl hl.1 rfl (Nat.le_of_ble_eq_true rfl) dX9_setEye_21 ⟨Nat.zero_le _, Nat.zero_le _⟩ (fun H locs hw => ?_)
          refine W.eq (g2 := F0 m 24 ls [.int v5]) rfl ?_
          refine lv_if_ne (tgt := 29) hx hb dX9_setEye_24 (by decide) (fun hc7 => ?_) (fun hc7 => ?_)
          · have h := ifn h hc7
            refine lv_aload_n hx hb dX9_setEye_29 rfl (lv_at hl 0 rfl) ?_
            refine X_g13_1 C0 hw (fun w h => (List.mem_cons_of_mem _ (List.mem_append_right _ h))) (by decide) ((List.mem_cons_of_mem _ (List.mem_append_left _ (List.mem_of_getElem? (i := 0) rfl)))) dX9_setEye_30 ?_
            refine lv_iload_n hx hb dX9_setEye_33 rfl (lv_at hl 1 rfl) ?_
            refine lv_iconst (v := 3) hx hb dX9_setEye_34 (by decide) ?_
            refine lv_imul hx hb dX9_setEye_35 ?_
            refine lv_iload_n hx hb dX9_setEye_36 rfl (lv_at hl 2 rfl) ?_
            refine lv_iadd hx hb dX9_setEye_37 ?_
            refine X_ald_36 C0 hw (by decide) h (k := ((a1 * (3 : Int32)) + a2).toNatClampNeg) rfl dX9_setEye_38 (fun hk8 h => ?_)
            refine lv_iload_n hx hb dX9_setEye_39 rfl (lv_at hl 3 rfl) ?_
            refine lv_iload hx hb dX9_setEye_40 (lv_at hl 4 rfl) ?_
            refine X_iast hL C0 hw h (k := a3.toNatClampNeg) rfl dX9_setEye_42 (fun t9 H locs hw h => ?_)
            refine lv_iconst (v := 1) hx hb dX9_setEye_43 (by decide) ?_
            cases h
            exact W.zret hx hb hr rfl (X_fin C0 hw) hw.2.2.2 dX9_setEye_44 hlocks
          · have h := ifp h hc7
            refine lv_iconst (v := 0) hx hb dX9_setEye_27 (by decide) ?_
            cases h
            exact W.zret hx hb hr rfl (X_fin C0 hw) hw.2.2.2 dX9_setEye_28 hlocks

def fX9_setMeasure (a1 : Int32) (a2 : Int32) (a3 : Int32) (st : Sto) : Option Sto :=
  lt1 (sD st 13 (0) 2 (FP.i2d a1)) fun (t1 : Sto) =>
  lt1 (sD t1 13 (0) 3 (FP.i2d a2)) fun (t2 : Sto) =>
  lt1 (sD t2 13 (0) 4 (FP.i2d a3)) fun (t3 : Sto) =>
  some t3
set_option maxHeartbeats 4000000 in
set_option maxRecDepth 100000 in
theorem mX9_setMeasure (l : Launch) (E : XE) (hL : LX E) (st : Sto) {a1 : Int32} {a2 : Int32} {a3 : Int32} {st1 : Sto} (h : fX9_setMeasure a1 a2 a3 st = some st1) : Met l yX9_setMeasure wsX9_setMeasure ({ frames := 0, cells := 0, slots := 0, locals := 0 }) (va_Pc [.ref (E.2.2.1 13 (0)), .int a1, .int a2, .int a3] (RX E st)) (QX E none st1) 0 0 E.2.2.2 := by
  refine Met.ofW (cc := cX9_setMeasure) (maxL := 4) (ret := none) (by decide) rfl ?_
  intro p e s m args below meth c s₁ B hml hv
  obtain ⟨rfl, hP, hK⟩ := hv
  have hown : s.vm.findClass RX9 = some m.cls := findClass_of_methodNamed B.named
  have C0 : CX p m c cX9_setMeasure 4 s _ wsX9_setMeasure RX9 E := ⟨⟨B.exec, B.bytes, hml, hown, atoms_spec (ws := wsX9_setMeasure) B.pre⟩, hK⟩
  have hx := B.exec
  have hb := B.bytes
  have hr := B.returns
  have hlocks := B.notSynchronized
  have hw : SX E s st s.heap [] := ⟨hP, va_S.rf⟩
  have hl := lv_entry ([.ref (E.2.2.1 13 (0)), .int a1, .int a2, .int a3]) (n := 4) (Nat.le_of_ble_eq_true rfl)
  rw [lg_entry_eq]
  generalize (lg_sl ([.ref (E.2.2.1 13 (0)), .int a1, .int a2, .int a3]) ++ List.replicate (4 - (lg_sl ([.ref (E.2.2.1 13 (0)), .int a1, .int a2, .int a3])).length) Slot.unset).toArray = ls at hl ⊢
  have hl : lv_has ls 4 [(0, .ref (E.2.2.1 13 (0))), (1, .int a1), (2, .int a2), (3, .int a3)] := hl
  unfold fX9_setMeasure at h
  refine lv_aload_n hx hb dX9_setMeasure_0 rfl (lv_at hl 0 rfl) ?_
  refine lv_iload_n hx hb dX9_setMeasure_1 rfl (lv_at hl 1 rfl) ?_
  refine lv_i2d hx hb dX9_setMeasure_2 ?_
  refine X_p13_2 hL C0 hw (fun w h => (List.mem_cons_of_mem _ (List.mem_append_right _ h))) (by decide) h ((List.mem_cons_of_mem _ (List.mem_append_left _ (List.mem_of_getElem? (i := 0) rfl)))) dX9_setMeasure_3 (fun t1 H locs hw h => ?_)
  refine lv_aload_n hx hb dX9_setMeasure_6 rfl (lv_at hl 0 rfl) ?_
  refine lv_iload_n hx hb dX9_setMeasure_7 rfl (lv_at hl 2 rfl) ?_
  refine lv_i2d hx hb dX9_setMeasure_8 ?_
  refine X_p13_3 hL C0 hw (fun w h => (List.mem_cons_of_mem _ (List.mem_append_right _ h))) (by decide) h ((List.mem_cons_of_mem _ (List.mem_append_left _ (List.mem_of_getElem? (i := 1) rfl)))) dX9_setMeasure_9 (fun t2 H locs hw h => ?_)
  refine lv_aload_n hx hb dX9_setMeasure_12 rfl (lv_at hl 0 rfl) ?_
  refine lv_iload_n hx hb dX9_setMeasure_13 rfl (lv_at hl 3 rfl) ?_
  refine lv_i2d hx hb dX9_setMeasure_14 ?_
  refine X_p13_4 hL C0 hw (fun w h => (List.mem_cons_of_mem _ (List.mem_append_right _ h))) (by decide) h ((List.mem_cons_of_mem _ (List.mem_append_left _ (List.mem_of_getElem? (i := 2) rfl)))) dX9_setMeasure_15 (fun t3 H locs hw h => ?_)
  cases h
  exact W.vret hx hb hr (X_fin C0 hw) hw.2.2.2 dX9_setMeasure_18 hlocks

def fX9_aim (a1 : Int32) (a2 : Int32) (st : Sto) : Option Sto :=
  ((lp (σ := (Int32 × Sto)) (ρ := Sto) (un2 fun (v4 : Int32) (t5 : Sto) =>
     if (3 : Int32) ≤ v4 then (
      some (.inr t5)) else (
      ((lp (σ := (Int32 × Int64 × Sto)) (ρ := (Int64 × Sto)) (un3 fun (v11 : Int32) (v12 : Int64) (t13 : Sto) =>
         if (16 : Int32) ≤ v11 then (
          some (.inr (v12, t13))) else (
          ck (0 ≤ a1.toInt ∧ a1.toInt < (6 : Int)) (
           ck (0 ≤ v11.toInt ∧ v11.toInt < (lIX (35) (a1.toNatClampNeg) : Int)) (
            ck (0 ≤ ((a2 * (3 : Int32)) + v4).toInt ∧ ((a2 * (3 : Int32)) + v4).toInt < (6 : Int)) (
             ck (0 ≤ v11.toInt ∧ v11.toInt < (lIX (37) (((a2 * (3 : Int32)) + v4).toNatClampNeg) : Int)) (
              lt1 (((gI t13 (35) (a1.toNatClampNeg) (v11.toNatClampNeg)).toInt64) * ((gI t13 (37) (((a2 * (3 : Int32)) + v4).toNatClampNeg) (v11.toNatClampNeg)).toInt64)) fun (v21 : Int64) =>
              ck (0 ≤ v4.toInt ∧ v4.toInt < (3 : Int)) (
               ck (0 ≤ v11.toInt ∧ v11.toInt < (lDX (39) (v4.toNatClampNeg) : Int)) (lt1 (sD t13 (39) (v4.toNatClampNeg) (v11.toNatClampNeg) (FP.l2d v21)) fun (t23 : Sto) =>
                lt1 (v12 + v21) fun (v24 : Int64) =>
                lt1 (v11 + Int32.ofInt (1)) fun (v25 : Int32) =>
                some (.inl (v25, v24, t23)))))))))) 4000 ((0 : Int32), (0 : Int64), t5)).bind
       (un2 fun (v14 : Int64) (t15 : Sto) =>
        ck (0 ≤ v4.toInt ∧ v4.toInt < (lDX (40) (0) : Int)) (lt1 (sD t15 (40) (0) (v4.toNatClampNeg) (FP.l2d v14)) fun (t26 : Sto) =>
         lt1 (v4 + Int32.ofInt (1)) fun (v27 : Int32) =>
         some (.inl (v27, t26))))))) 4000 ((0 : Int32), st)).bind
   (fun (t6 : Sto) =>
    some t6))
set_option maxHeartbeats 4000000 in
set_option maxRecDepth 100000 in
theorem mX9_aim (l : Launch) (E : XE) (hL : LX E) (st : Sto) {a1 : Int32} {a2 : Int32} {st1 : Sto} (h : fX9_aim a1 a2 st = some st1) : Met l yX9_aim wsX9_aim ({ frames := 0, cells := 0, slots := 0, locals := 0 }) (va_Pc [.ref (E.2.2.1 13 (0)), .int a1, .int a2] (RX E st)) (QX E none st1) 0 0 E.2.2.2 := by
  refine Met.ofW (cc := cX9_aim) (maxL := 9) (ret := none) (by decide) rfl ?_
  intro p e s m args below meth c s₁ B hml hv
  obtain ⟨rfl, hP, hK⟩ := hv
  have hown : s.vm.findClass RX9 = some m.cls := findClass_of_methodNamed B.named
  have C0 : CX p m c cX9_aim 9 s _ wsX9_aim RX9 E := ⟨⟨B.exec, B.bytes, hml, hown, atoms_spec (ws := wsX9_aim) B.pre⟩, hK⟩
  have hx := B.exec
  have hb := B.bytes
  have hr := B.returns
  have hlocks := B.notSynchronized
  have hw : SX E s st s.heap [] := ⟨hP, va_S.rf⟩
  have hl := lv_entry ([.ref (E.2.2.1 13 (0)), .int a1, .int a2]) (n := 9) (Nat.le_of_ble_eq_true rfl)
  rw [lg_entry_eq]
  generalize (lg_sl ([.ref (E.2.2.1 13 (0)), .int a1, .int a2]) ++ List.replicate (9 - (lg_sl ([.ref (E.2.2.1 13 (0)), .int a1, .int a2])).length) Slot.unset).toArray = ls at hl ⊢
  have hl : lv_has ls 9 [(0, .ref (E.2.2.1 13 (0))), (1, .int a1), (2, .int a2)] := hl
  unfold fX9_aim at h
  refine lv_iconst (v := 0) hx hb dX9_aim_0 (by decide) ?_
  refine lv_istore_n (lv' := [(3, .int (0 : Int32)), (0, .ref (E.2.2.1 13 (0))), (1, .int a1), (2, .int a2)]) hx hb dX9_aim_1 rfl hl (by decide) rfl (fun ls hl => ?_)
  refine lp_ind (fun q : (Int32 × Sto) => ∀ (H : Heap) (locs : List Loc), SX E s (q.2) H locs → ∀ ls : Array Slot, lv_has ls 9 [(3, .int (q.1)), (0, .ref (E.2.2.1 13 (0))), (1, .int a1), (2, .int a2)] → W p l e (headSpec wsX9_aim ({ frames := 0, cells := 0, slots := 0, locals := 0 })).room s m ([.ref (E.2.2.1 13 (0)), .int a1, .int a2] : List Value).toArray below meth c H locs 0 0 (MQ below (QX E none st1) ([.ref (E.2.2.1 13 (0)), .int a1, .int a2] : List Value).toArray s 0 0 E.2.2.2) (F0 m 2 ls [])) (fun q o3 h hB2 hX1 => ?_) _ _ h _ _ hw _ (lv_sub hl [0, 1, 2, 3] rfl)
  intro H locs hw ls hl
  obtain ⟨v4, t5⟩ := q
  have h := un2_d h
  have hw : SX E s t5 H locs := hw
  have hl : lv_has ls 9 [(3, .int v4), (0, .ref (E.2.2.1 13 (0))), (1, .int a1), (2, .int a2)] := hl
  refine lv_iload_n hx hb dX9_aim_2 rfl (lv_at hl 0 rfl) ?_
  refine lv_iconst (v := 3) hx hb dX9_aim_3 (by decide) ?_
  refine lv_icmp_ge (tgt := 87) hx hb dX9_aim_4 (by decide) (fun hc7 => ?_) (fun hc7 => ?_)
  · have h := ifp h hc7
    have h := hX1 _ (Option.some.inj h).symm
    have hl := lv_sub hl (l' := []) [] rfl
    cases h
    exact W.vret hx hb hr (X_fin C0 hw) hw.2.2.2 dX9_aim_87 hlocks
  · have h := ifn h hc7
    refine lv_lconst (v := 0) hx hb dX9_aim_7 (by decide) ?_
    refine lv_lstore (lv' := [(4, .long (0 : Int64)), (3, .int v4), (0, .ref (E.2.2.1 13 (0))), (1, .int a1), (2, .int a2)]) hx hb dX9_aim_8 hl (by decide) rfl (fun ls hl => ?_)
    refine lv_iconst (v := 0) hx hb dX9_aim_10 (by decide) ?_
    refine lv_istore (lv' := [(6, .int (0 : Int32)), (4, .long (0 : Int64)), (3, .int v4), (0, .ref (E.2.2.1 13 (0))), (1, .int a1), (2, .int a2)]) hx hb dX9_aim_11 hl (by decide) rfl (fun ls hl => ?_)
    refine lp_ind (fun q : (Int32 × Int64 × Sto) => ∀ (H : Heap) (locs : List Loc), SX E s (q.2.2) H locs → ∀ ls : Array Slot, lv_has ls 9 [(6, .int (q.1)), (4, .long (q.2.1)), (3, .int v4), (0, .ref (E.2.2.1 13 (0))), (1, .int a1), (2, .int a2)] → W p l e (headSpec wsX9_aim ({ frames := 0, cells := 0, slots := 0, locals := 0 })).room s m ([.ref (E.2.2.1 13 (0)), .int a1, .int a2] : List Value).toArray below meth c H locs 0 0 (MQ below (QX E none st1) ([.ref (E.2.2.1 13 (0)), .int a1, .int a2] : List Value).toArray s 0 0 E.2.2.2) (F0 m 13 ls [])) (fun q o10 h hB9 hX8 => ?_) _ _ h _ _ hw _ (lv_sub hl [0, 1, 2, 3, 4, 5] rfl)
    intro H locs hw ls hl
    obtain ⟨v11, v12, t13⟩ := q
    have h := un3_d h
    have hw : SX E s t13 H locs := hw
    have hl : lv_has ls 9 [(6, .int v11), (4, .long v12), (3, .int v4), (0, .ref (E.2.2.1 13 (0))), (1, .int a1), (2, .int a2)] := hl
    refine lv_iload hx hb dX9_aim_13 (lv_at hl 0 rfl) ?_
    refine lv_bipush (v := 16) hx hb dX9_aim_15 (by decide) ?_
    refine lv_icmp_ge (tgt := 72) hx hb dX9_aim_17 (by decide) (fun hc16 => ?_) (fun hc16 => ?_)
    · have h := ifp h hc16
      have h := hX8 _ (Option.some.inj h).symm
      have h := un2_d h
      have hl := lv_sub hl (l' := [(0, .ref (E.2.2.1 13 (0))), (1, .int a1), (2, .int a2), (3, .int v4), (4, .long v12)]) [3, 4, 5, 2, 1] rfl
      refine lv_aload_n hx hb dX9_aim_72 rfl (lv_at hl 0 rfl) ?_
      refine X_g13_6 C0 hw (fun w h => (List.mem_cons_of_mem _ (List.mem_append_right _ h))) (by decide) ((List.mem_cons_of_mem _ (List.mem_append_left _ (List.mem_of_getElem? (i := 3) rfl)))) dX9_aim_73 ?_
      refine lv_iload_n hx hb dX9_aim_76 rfl (lv_at hl 3 rfl) ?_
      refine lv_lload hx hb dX9_aim_77 (lv_at hl 4 rfl) ?_
      refine lv_l2d hx hb dX9_aim_79 ?_
      refine X_dast hL C0 hw h (k := v4.toNatClampNeg) rfl dX9_aim_80 (fun t17 H locs hw h => ?_)
      refine x_iinc hx hb h dX9_aim_81 hl (q := 3) rfl (fun v18 => [(3, .int v18), (0, .ref (E.2.2.1 13 (0))), (1, .int a1), (2, .int a2), (4, .long v12)]) (by decide) (fun _ => rfl) (fun v18 ls hl h => ?_)
      refine lv_goto (tgt := 2) hx hb dX9_aim_84 (by decide) ?_
      exact hB2 _ (Option.some.inj h).symm _ _ hw _ (lv_sub hl [0, 1, 2, 3] rfl)
    · have h := ifn h hc16
      refine lv_aload_n hx hb dX9_aim_20 rfl (lv_at hl 3 rfl) ?_
      refine X_g13_0 C0 hw (fun w h => (List.mem_cons_of_mem _ (List.mem_append_right _ h))) (by decide) ((List.mem_cons_of_mem _ (List.mem_append_left _ (List.mem_of_getElem? (i := 0) rfl)))) dX9_aim_21 ?_
      refine lv_iload_n hx hb dX9_aim_24 rfl (lv_at hl 4 rfl) ?_
      refine X_ald_34 C0 hw (by decide) h (k := a1.toNatClampNeg) rfl dX9_aim_25 (fun hk19 h => ?_)
      refine lv_iload hx hb dX9_aim_26 (lv_at hl 0 rfl) ?_
      refine X_iald C0 hw h (k := v11.toNatClampNeg) rfl dX9_aim_28 (fun h => ?_)
      refine lv_i2l hx hb dX9_aim_29 rfl ?_
      refine lv_aload_n hx hb dX9_aim_30 rfl (lv_at hl 3 rfl) ?_
      refine X_g13_1 C0 hw (fun w h => (List.mem_cons_of_mem _ (List.mem_append_right _ h))) (by decide) ((List.mem_cons_of_mem _ (List.mem_append_left _ (List.mem_of_getElem? (i := 1) rfl)))) dX9_aim_31 ?_
      refine lv_iload_n hx hb dX9_aim_34 rfl (lv_at hl 5 rfl) ?_
      refine lv_iconst (v := 3) hx hb dX9_aim_35 (by decide) ?_
      refine lv_imul hx hb dX9_aim_36 ?_
      refine lv_iload_n hx hb dX9_aim_37 rfl (lv_at hl 2 rfl) ?_
      refine lv_iadd hx hb dX9_aim_38 ?_
      refine X_ald_36 C0 hw (by decide) h (k := ((a2 * (3 : Int32)) + v4).toNatClampNeg) rfl dX9_aim_39 (fun hk20 h => ?_)
      refine lv_iload hx hb dX9_aim_40 (lv_at hl 0 rfl) ?_
      refine X_iald C0 hw h (k := v11.toNatClampNeg) rfl dX9_aim_42 (fun h => ?_)
      refine lv_i2l hx hb dX9_aim_43 rfl ?_
      refine lv_lmul hx hb dX9_aim_44 ?_
      refine x_topl h (fun v21 h => ?_)
      refine lv_lstore (lv' := [(7, .long v21), (6, .int v11), (4, .long v12), (3, .int v4), (0, .ref (E.2.2.1 13 (0))), (1, .int a1), (2, .int a2)]) hx hb dX9_aim_45 hl (by decide) rfl (fun ls hl => ?_)
      refine lv_aload_n hx hb dX9_aim_47 rfl (lv_at hl 4 rfl) ?_
      refine X_g13_5 C0 hw (fun w h => (List.mem_cons_of_mem _ (List.mem_append_right _ h))) (by decide) ((List.mem_cons_of_mem _ (List.mem_append_left _ (List.mem_of_getElem? (i := 2) rfl)))) dX9_aim_48 ?_
      refine lv_iload_n hx hb dX9_aim_51 rfl (lv_at hl 3 rfl) ?_
      refine X_ald_38 C0 hw (by decide) h (k := v4.toNatClampNeg) rfl dX9_aim_52 (fun hk22 h => ?_)
      refine lv_iload hx hb dX9_aim_53 (lv_at hl 1 rfl) ?_
      refine lv_lload hx hb dX9_aim_55 (lv_at hl 0 rfl) ?_
      refine lv_l2d hx hb dX9_aim_57 ?_
      refine X_dast hL C0 hw h (k := v11.toNatClampNeg) rfl dX9_aim_58 (fun t23 H locs hw h => ?_)
      refine lv_lload hx hb dX9_aim_59 (lv_at hl 2 rfl) ?_
      refine lv_lload hx hb dX9_aim_61 (lv_at hl 0 rfl) ?_
      refine lv_ladd hx hb dX9_aim_63 ?_
      refine x_topl h (fun v24 h => ?_)
      refine lv_lstore (lv' := [(4, .long v24), (7, .long v21), (6, .int v11), (3, .int v4), (0, .ref (E.2.2.1 13 (0))), (1, .int a1), (2, .int a2)]) hx hb dX9_aim_64 hl (by decide) rfl (fun ls hl => ?_)
      refine x_iinc hx hb h dX9_aim_66 hl (q := 2) rfl (fun v25 => [(6, .int v25), (4, .long v24), (7, .long v21), (3, .int v4), (0, .ref (E.2.2.1 13 (0))), (1, .int a1), (2, .int a2)]) (by decide) (fun _ => rfl) (fun v25 ls hl h => ?_)
      refine lv_goto (tgt := 13) hx hb dX9_aim_69 (by decide) ?_
      exact hB9 _ (Option.some.inj h).symm _ _ hw _ (lv_sub hl [0, 1, 3, 4, 5, 6] rfl)

def fX9_rootOfRatio (a1f : Nat) (a1i : Nat) (a2 : Int32) (st : Sto) : Option UInt64 :=
  ck (0 ≤ a2.toInt ∧ a2.toInt < (lDX (40) (0) : Int)) (
   if Op.cmpValue (FP.dcmp (gD st (40) (0) (a2.toNatClampNeg)) FP.dconst0) CmpOp.l = 0 then (
    some FP.dconst0) else (
    ((lp (σ := (Int32 × UInt64)) (ρ := UInt64) (un2 fun (v5 : Int32) (v6 : UInt64) =>
       if (16 : Int32) ≤ v5 then (
        some (.inr v6)) else (
        ck (0 ≤ v5.toInt ∧ v5.toInt < (lFX a1f a1i : Int)) (
         nd (FP.f2d (gF st a1f a1i (v5.toNatClampNeg))) fun (v12 : UInt64) =>
         ck (0 ≤ a2.toInt ∧ a2.toInt < (3 : Int)) (
          ck (0 ≤ v5.toInt ∧ v5.toInt < (lDX (39) (a2.toNatClampNeg) : Int)) (
           nd (FP.dmul v12 (gD st (39) (a2.toNatClampNeg) (v5.toNatClampNeg))) fun (v14 : UInt64) =>
           nd (FP.dadd v6 v14) fun (v15 : UInt64) =>
           lt1 (v5 + Int32.ofInt (1)) fun (v16 : Int32) =>
           some (.inl (v16, v15))))))) 4000 ((0 : Int32), FP.dconst0)).bind
     (fun (v7 : UInt64) =>
      ck (0 ≤ a2.toInt ∧ a2.toInt < (lDX (40) (0) : Int)) (
       nd (FP.ddiv v7 (gD st (40) (0) (a2.toNatClampNeg))) fun (v17 : UInt64) =>
       (fX7_rootOf v17).bind (fun (v18 : UInt64) =>
        some v18))))))
set_option maxHeartbeats 4000000 in
set_option maxRecDepth 100000 in
theorem mX9_rootOfRatio (l : Launch) (E : XE) (hL : LX E) (st : Sto) {a1f : Nat} {a1i : Nat} {a2 : Int32} {r : UInt64} (h : fX9_rootOfRatio a1f a1i a2 st = some r) : Met l yX9_rootOfRatio wsX9_rootOfRatio ({ frames := 2, cells := 0, slots := 0, locals := 57 }) (va_Pc [.ref (E.2.2.1 13 (0)), .ref (E.2.2.1 a1f a1i), .int a2] (RX E st)) (QX E (some (.double r)) st) 0 0 E.2.2.2 := by
  refine Met.ofW (cc := cX9_rootOfRatio) (maxL := 6) (ret := (some .double)) (by decide) rfl ?_
  intro p e s m args below meth c s₁ B hml hv
  obtain ⟨rfl, hP, hK⟩ := hv
  have hown : s.vm.findClass RX9 = some m.cls := findClass_of_methodNamed B.named
  have C0 : CX p m c cX9_rootOfRatio 6 s _ wsX9_rootOfRatio RX9 E := ⟨⟨B.exec, B.bytes, hml, hown, atoms_spec (ws := wsX9_rootOfRatio) B.pre⟩, hK⟩
  have hx := B.exec
  have hb := B.bytes
  have hr := B.returns
  have hlocks := B.notSynchronized
  have hw : SX E s st s.heap [] := ⟨hP, va_S.rf⟩
  have hl := lv_entry ([.ref (E.2.2.1 13 (0)), .ref (E.2.2.1 a1f a1i), .int a2]) (n := 6) (Nat.le_of_ble_eq_true rfl)
  rw [lg_entry_eq]
  generalize (lg_sl ([.ref (E.2.2.1 13 (0)), .ref (E.2.2.1 a1f a1i), .int a2]) ++ List.replicate (6 - (lg_sl ([.ref (E.2.2.1 13 (0)), .ref (E.2.2.1 a1f a1i), .int a2])).length) Slot.unset).toArray = ls at hl ⊢
  have hl : lv_has ls 6 [(0, .ref (E.2.2.1 13 (0))), (1, .ref (E.2.2.1 a1f a1i)), (2, .int a2)] := hl
  unfold fX9_rootOfRatio at h
  refine lv_aload_n hx hb dX9_rootOfRatio_0 rfl (lv_at hl 0 rfl) ?_
  refine X_g13_6 C0 hw (fun w h => (List.mem_cons_of_mem _ (List.mem_append_right _ h))) (by decide) ((List.mem_cons_of_mem _ (List.mem_append_left _ (List.mem_of_getElem? (i := 0) rfl)))) dX9_rootOfRatio_1 ?_
  refine lv_iload_n hx hb dX9_rootOfRatio_4 rfl (lv_at hl 2 rfl) ?_
  refine X_dald C0 hw h (k := a2.toNatClampNeg) rfl dX9_rootOfRatio_5 (fun h => ?_)
  refine lv_dconst0 hx hb dX9_rootOfRatio_6 ?_
  refine lv_dcmp hx hb dX9_rootOfRatio_7 ?_
  refine lv_if_ne (tgt := 13) hx hb dX9_rootOfRatio_8 (by decide) (fun hc1 => ?_) (fun hc1 => ?_)
  · have h := ifn h hc1
    refine lv_dconst0 hx hb dX9_rootOfRatio_13 ?_
    refine lv_dstore_n (lv' := [(3, .double FP.dconst0), (0, .ref (E.2.2.1 13 (0))), (1, .ref (E.2.2.1 a1f a1i)), (2, .int a2)]) hx hb dX9_rootOfRatio_14 rfl hl (by decide) rfl (fun ls hl => ?_)
    refine lv_iconst (v := 0) hx hb dX9_rootOfRatio_15 (by decide) ?_
    refine lv_istore (lv' := [(5, .int (0 : Int32)), (3, .double FP.dconst0), (0, .ref (E.2.2.1 13 (0))), (1, .ref (E.2.2.1 a1f a1i)), (2, .int a2)]) hx hb dX9_rootOfRatio_16 hl (by decide) rfl (fun ls hl => ?_)
    refine lp_ind (fun q : (Int32 × UInt64) => ∀ (H : Heap) (locs : List Loc), SX E s st H locs → ∀ ls : Array Slot, lv_has ls 6 [(5, .int (q.1)), (3, .double (q.2)), (0, .ref (E.2.2.1 13 (0))), (1, .ref (E.2.2.1 a1f a1i)), (2, .int a2)] → W p l e (headSpec wsX9_rootOfRatio ({ frames := 2, cells := 0, slots := 0, locals := 57 })).room s m ([.ref (E.2.2.1 13 (0)), .ref (E.2.2.1 a1f a1i), .int a2] : List Value).toArray below meth c H locs 0 0 (MQ below (QX E (some (.double r)) st) ([.ref (E.2.2.1 13 (0)), .ref (E.2.2.1 a1f a1i), .int a2] : List Value).toArray s 0 0 E.2.2.2) (F0 m 18 ls [])) (fun q o4 h hB3 hX2 => ?_) _ _ h _ _ hw _ (lv_sub hl [0, 1, 2, 3, 4] rfl)
    intro H locs hw ls hl
    obtain ⟨v5, v6⟩ := q
    have h := un2_d h
    have hl : lv_has ls 6 [(5, .int v5), (3, .double v6), (0, .ref (E.2.2.1 13 (0))), (1, .ref (E.2.2.1 a1f a1i)), (2, .int a2)] := hl
    refine lv_iload hx hb dX9_rootOfRatio_18 (lv_at hl 0 rfl) ?_
    refine lv_bipush (v := 16) hx hb dX9_rootOfRatio_20 (by decide) ?_
    refine lv_icmp_ge (tgt := 49) hx hb dX9_rootOfRatio_22 (by decide) (fun hc8 => ?_) (fun hc8 => ?_)
    · have h := ifp h hc8
      have h := hX2 _ (Option.some.inj h).symm
      have hl := lv_sub hl (l' := [(0, .ref (E.2.2.1 13 (0))), (2, .int a2), (3, .double v6)]) [2, 4, 1] rfl
      refine lv_dload_n hx hb dX9_rootOfRatio_49 rfl (lv_at hl 2 rfl) ?_
      refine lv_aload_n hx hb dX9_rootOfRatio_50 rfl (lv_at hl 0 rfl) ?_
      refine X_g13_6 C0 hw (fun w h => (List.mem_cons_of_mem _ (List.mem_append_right _ h))) (by decide) ((List.mem_cons_of_mem _ (List.mem_append_left _ (List.mem_of_getElem? (i := 0) rfl)))) dX9_rootOfRatio_51 ?_
      refine lv_iload_n hx hb dX9_rootOfRatio_54 rfl (lv_at hl 1 rfl) ?_
      refine X_dald C0 hw h (k := a2.toNatClampNeg) rfl dX9_rootOfRatio_55 (fun h => ?_)
      refine x_ddiv hx hb h dX9_rootOfRatio_56 (fun v9 h => ?_)
      obtain ⟨v10, hf11, h⟩ := bn_c h
      refine X_callS C0 hw (As := [.double v9]) (rest := []) (mX7_rootOf l E hL st hf11) (va_cwS 1 C0.1.2.2.2.2 gX9_rootOfRatio_X7_rootOf rfl rfl rfl (by decide +kernel) ⟨Nat.le_of_ble_eq_true rfl, Nat.le_of_ble_eq_true rfl⟩) rfl hl.1 rfl (Nat.le_of_ble_eq_true rfl) dX9_rootOfRatio_57 ⟨Nat.zero_le _, Nat.zero_le _⟩ (fun H locs hw => ?_)
      refine W.eq (g2 := F0 m 60 ls [.double v10]) rfl ?_
      cases h
      exact W.dret hx hb hr (X_fin C0 hw) hw.2.2.2 dX9_rootOfRatio_60 hlocks
    · have h := ifn h hc8
      refine lv_dload_n hx hb dX9_rootOfRatio_25 rfl (lv_at hl 1 rfl) ?_
      refine lv_aload_n hx hb dX9_rootOfRatio_26 rfl (lv_at hl 3 rfl) ?_
      refine lv_iload hx hb dX9_rootOfRatio_27 (lv_at hl 0 rfl) ?_
      refine X_fald C0 hw h (k := v5.toNatClampNeg) rfl dX9_rootOfRatio_29 (fun h => ?_)
      refine x_f2d hx hb h dX9_rootOfRatio_30 (fun v12 h => ?_)
      refine lv_aload_n hx hb dX9_rootOfRatio_31 rfl (lv_at hl 2 rfl) ?_
      refine X_g13_5 C0 hw (fun w h => (List.mem_cons_of_mem _ (List.mem_append_right _ h))) (by decide) ((List.mem_cons_of_mem _ (List.mem_append_left _ (List.mem_of_getElem? (i := 1) rfl)))) dX9_rootOfRatio_32 ?_
      refine lv_iload_n hx hb dX9_rootOfRatio_35 rfl (lv_at hl 4 rfl) ?_
      refine X_ald_38 C0 hw (by decide) h (k := a2.toNatClampNeg) rfl dX9_rootOfRatio_36 (fun hk13 h => ?_)
      refine lv_iload hx hb dX9_rootOfRatio_37 (lv_at hl 0 rfl) ?_
      refine X_dald C0 hw h (k := v5.toNatClampNeg) rfl dX9_rootOfRatio_39 (fun h => ?_)
      refine x_dmul hx hb h dX9_rootOfRatio_40 (fun v14 h => ?_)
      refine x_dadd hx hb h dX9_rootOfRatio_41 (fun v15 h => ?_)
      refine lv_dstore_n (lv' := [(3, .double v15), (5, .int v5), (0, .ref (E.2.2.1 13 (0))), (1, .ref (E.2.2.1 a1f a1i)), (2, .int a2)]) hx hb dX9_rootOfRatio_42 rfl hl (by decide) rfl (fun ls hl => ?_)
      refine x_iinc hx hb h dX9_rootOfRatio_43 hl (q := 1) rfl (fun v16 => [(5, .int v16), (3, .double v15), (0, .ref (E.2.2.1 13 (0))), (1, .ref (E.2.2.1 a1f a1i)), (2, .int a2)]) (by decide) (fun _ => rfl) (fun v16 ls hl h => ?_)
      refine lv_goto (tgt := 18) hx hb dX9_rootOfRatio_46 (by decide) ?_
      exact hB3 _ (Option.some.inj h).symm _ _ hw _ (lv_sub hl [0, 1, 2, 3, 4] rfl)
  · have h := ifp h hc1
    refine lv_dconst0 hx hb dX9_rootOfRatio_11 ?_
    cases h
    exact W.dret hx hb hr (X_fin C0 hw) hw.2.2.2 dX9_rootOfRatio_12 hlocks
