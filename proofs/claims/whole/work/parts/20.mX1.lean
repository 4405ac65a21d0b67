def fX0_note (a1 : Int32) (a2 : Int32) (a3 : Int32) (a4 : Int32) (st : Sto) : Option ((Nat × Nat) × Sto) :=
  ck (¬ (60 : Int32) = 0) (
   lt1 (sI st 18 (0) 2 (((gI st 18 (0) 2) + (1 : Int32)) - ((gI st 18 (0) 2) + (1 : Int32)) / (60 : Int32) * (60 : Int32))) fun (t1 : Sto) =>
   lt1 (sI t1 18 (0) 3 (if (60 : Int32) < ((gI t1 18 (0) 3) + (1 : Int32)) then (60 : Int32) else ((gI t1 18 (0) 3) + (1 : Int32)))) fun (t2 : Sto) =>
   ck (0 ≤ (gI t2 18 (0) 2).toInt ∧ (gI t2 18 (0) 2).toInt < (60 : Int)) (
    ck (0 ≤ (0 : Int32).toInt ∧ (0 : Int32).toInt < (lIX (55) ((gI t2 18 (0) 2).toNatClampNeg) : Int)) (lt1 (sI t2 (55) ((gI t2 18 (0) 2).toNatClampNeg) (0) a1) fun (t4 : Sto) =>
     ck (0 ≤ (gI t4 18 (0) 2).toInt ∧ (gI t4 18 (0) 2).toInt < (60 : Int)) (
      ck (0 ≤ (1 : Int32).toInt ∧ (1 : Int32).toInt < (lIX (55) ((gI t4 18 (0) 2).toNatClampNeg) : Int)) (lt1 (sI t4 (55) ((gI t4 18 (0) 2).toNatClampNeg) (1) a2) fun (t6 : Sto) =>
       ck (0 ≤ (gI t6 18 (0) 2).toInt ∧ (gI t6 18 (0) 2).toInt < (60 : Int)) (
        ck (0 ≤ (2 : Int32).toInt ∧ (2 : Int32).toInt < (lIX (55) ((gI t6 18 (0) 2).toNatClampNeg) : Int)) (lt1 (sI t6 (55) ((gI t6 18 (0) 2).toNatClampNeg) (2) a3) fun (t8 : Sto) =>
         ck (0 ≤ (gI t8 18 (0) 2).toInt ∧ (gI t8 18 (0) 2).toInt < (60 : Int)) (
          ck (0 ≤ (3 : Int32).toInt ∧ (3 : Int32).toInt < (lIX (55) ((gI t8 18 (0) 2).toNatClampNeg) : Int)) (lt1 (sI t8 (55) ((gI t8 18 (0) 2).toNatClampNeg) (3) a4) fun (t10 : Sto) =>
           ck (0 ≤ (gI t10 18 (0) 2).toInt ∧ (gI t10 18 (0) 2).toInt < (60 : Int)) (
            some ((57, (gI t10 18 (0) 2).toNatClampNeg), t10)))))))))))
set_option maxHeartbeats 4000000 in
set_option maxRecDepth 100000 in
theorem mX0_note (l : Launch) (E : XE) (hL : LX E) (st : Sto) {a1 : Int32} {a2 : Int32} {a3 : Int32} {a4 : Int32} {r : (Nat × Nat)} {st1 : Sto} (h : fX0_note a1 a2 a3 a4 st = some (r, st1)) : Met l yX0_note wsX0_note ({ frames := 1, cells := 0, slots := 0, locals := 23 }) (va_Pc [.ref (E.2.2.1 18 (0)), .int a1, .int a2, .int a3, .int a4] (RX E st)) (QX E (some (.ref (E.2.2.1 r.1 r.2))) st1) 0 0 E.2.2.2 := by
  refine Met.ofW (cc := cX0_note) (maxL := 5) (ret := (some (.array .float))) (by decide) rfl ?_
  intro p e s m args below meth c s₁ B hml hv
  obtain ⟨rfl, hP, hK⟩ := hv
  have hown : s.vm.findClass RX0 = some m.cls := findClass_of_methodNamed B.named
  have C0 : CX p m c cX0_note 5 s _ wsX0_note RX0 E := ⟨⟨B.exec, B.bytes, hml, hown, atoms_spec (ws := wsX0_note) B.pre⟩, hK⟩
  have hx := B.exec
  have hb := B.bytes
  have hr := B.returns
  have hlocks := B.notSynchronized
  have hw : SX E s st s.heap [] := ⟨hP, va_S.rf⟩
  have hl := lv_entry ([.ref (E.2.2.1 18 (0)), .int a1, .int a2, .int a3, .int a4]) (n := 5) (Nat.le_of_ble_eq_true rfl)
  rw [lg_entry_eq]
  generalize (lg_sl ([.ref (E.2.2.1 18 (0)), .int a1, .int a2, .int a3, .int a4]) ++ List.replicate (5 - (lg_sl ([.ref (E.2.2.1 18 (0)), .int a1, .int a2, .int a3, .int a4])).length) Slot.unset).toArray = ls at hl ⊢
  have hl : lv_has ls 5 [(0, .ref (E.2.2.1 18 (0))), (1, .int a1), (2, .int a2), (3, .int a3), (4, .int a4)] := hl
  unfold fX0_note at h
  refine lv_aload_n hx hb dX0_note_0 rfl (lv_at hl 0 rfl) ?_
  refine lv_aload_n hx hb dX0_note_1 rfl (lv_at hl 0 rfl) ?_
  refine X_g18_2 C0 hw (fun w h => (List.mem_cons_of_mem _ (List.mem_append_right _ h))) (by decide) ((List.mem_cons_of_mem _ (List.mem_append_left _ (List.mem_of_getElem? (i := 0) rfl)))) dX0_note_2 ?_
  refine lv_iconst (v := 1) hx hb dX0_note_5 (by decide) ?_
  refine lv_iadd hx hb dX0_note_6 ?_
  refine lv_bipush (v := 60) hx hb dX0_note_7 (by decide) ?_
  refine x_irem hx hb h dX0_note_9 (fun h => ?_)
  refine X_p18_2 hL C0 hw (fun w h => (List.mem_cons_of_mem _ (List.mem_append_right _ h))) (by decide) h ((List.mem_cons_of_mem _ (List.mem_append_left _ (List.mem_of_getElem? (i := 0) rfl)))) dX0_note_10 (fun t1 H locs hw h => ?_)
  refine lv_aload_n hx hb dX0_note_13 rfl (lv_at hl 0 rfl) ?_
  refine lv_aload_n hx hb dX0_note_14 rfl (lv_at hl 0 rfl) ?_
  refine X_g18_3 C0 hw (fun w h => (List.mem_cons_of_mem _ (List.mem_append_right _ h))) (by decide) ((List.mem_cons_of_mem _ (List.mem_append_left _ (List.mem_of_getElem? (i := 1) rfl)))) dX0_note_15 ?_
  refine lv_iconst (v := 1) hx hb dX0_note_18 (by decide) ?_
  refine lv_iadd hx hb dX0_note_19 ?_
  refine lv_bipush (v := 60) hx hb dX0_note_20 (by decide) ?_
  refine va_mmin hx hb (hml.trans hl.1.symm) hown (C0.1.2.2.2.2 _ (List.mem_cons_of_mem _ (List.mem_append_left _ (List.mem_of_getElem? (i := 2) rfl)))) (C0.1.2.2.2.2 _ (List.mem_cons_of_mem _ (List.mem_append_left _ (List.mem_of_getElem? (i := 3) rfl)))) (C0.1.2.2.2.2 _ (List.mem_cons_of_mem _ (List.mem_append_left _ (List.mem_of_getElem? (i := 4) rfl)))) (C0.1.2.2.2.2 _ (List.mem_cons_of_mem _ (List.mem_append_left _ (List.mem_of_getElem? (i := 5) rfl)))) (Nat.le_of_ble_eq_true rfl) (Nat.le_of_ble_eq_true rfl) (Nat.zero_le _) (Nat.zero_le _) dX0_note_22 ?_
  refine X_p18_3 hL C0 hw (fun w h => (List.mem_cons_of_mem _ (List.mem_append_right _ h))) (by decide) h ((List.mem_cons_of_mem _ (List.mem_append_left _ (List.mem_of_getElem? (i := 1) rfl)))) dX0_note_25 (fun t2 H locs hw h => ?_)
  refine lv_aload_n hx hb dX0_note_28 rfl (lv_at hl 0 rfl) ?_
  refine X_g18_0 C0 hw (fun w h => (List.mem_cons_of_mem _ (List.mem_append_right _ h))) (by decide) ((List.mem_cons_of_mem _ (List.mem_append_left _ (List.mem_of_getElem? (i := 6) rfl)))) dX0_note_29 ?_
  refine lv_aload_n hx hb dX0_note_32 rfl (lv_at hl 0 rfl) ?_
  refine X_g18_2 C0 hw (fun w h => (List.mem_cons_of_mem _ (List.mem_append_right _ h))) (by decide) ((List.mem_cons_of_mem _ (List.mem_append_left _ (List.mem_of_getElem? (i := 0) rfl)))) dX0_note_33 ?_
  refine X_ald_54 C0 hw (by decide) h (k := (gI t2 18 (0) 2).toNatClampNeg) rfl dX0_note_36 (fun hk3 h => ?_)
  refine lv_iconst (v := 0) hx hb dX0_note_37 (by decide) ?_
  refine lv_iload_n hx hb dX0_note_38 rfl (lv_at hl 1 rfl) ?_
  refine X_iast hL C0 hw h (k := 0) rfl dX0_note_39 (fun t4 H locs hw h => ?_)
  refine lv_aload_n hx hb dX0_note_40 rfl (lv_at hl 0 rfl) ?_
  refine X_g18_0 C0 hw (fun w h => (List.mem_cons_of_mem _ (List.mem_append_right _ h))) (by decide) ((List.mem_cons_of_mem _ (List.mem_append_left _ (List.mem_of_getElem? (i := 6) rfl)))) dX0_note_41 ?_
  refine lv_aload_n hx hb dX0_note_44 rfl (lv_at hl 0 rfl) ?_
  refine X_g18_2 C0 hw (fun w h => (List.mem_cons_of_mem _ (List.mem_append_right _ h))) (by decide) ((List.mem_cons_of_mem _ (List.mem_append_left _ (List.mem_of_getElem? (i := 0) rfl)))) dX0_note_45 ?_
  refine X_ald_54 C0 hw (by decide) h (k := (gI t4 18 (0) 2).toNatClampNeg) rfl dX0_note_48 (fun hk5 h => ?_)
  refine lv_iconst (v := 1) hx hb dX0_note_49 (by decide) ?_
  refine lv_iload_n hx hb dX0_note_50 rfl (lv_at hl 2 rfl) ?_
  refine X_iast hL C0 hw h (k := 1) rfl dX0_note_51 (fun t6 H locs hw h => ?_)
  refine lv_aload_n hx hb dX0_note_52 rfl (lv_at hl 0 rfl) ?_
  refine X_g18_0 C0 hw (fun w h => (List.mem_cons_of_mem _ (List.mem_append_right _ h))) (by decide) ((List.mem_cons_of_mem _ (List.mem_append_left _ (List.mem_of_getElem? (i := 6) rfl)))) dX0_note_53 ?_
  refine lv_aload_n hx hb dX0_note_56 rfl (lv_at hl 0 rfl) ?_
  refine X_g18_2 C0 hw (fun w h => (List.mem_cons_of_mem _ (List.mem_append_right _ h))) (by decide) ((List.mem_cons_of_mem _ (List.mem_append_left _ (List.mem_of_getElem? (i := 0) rfl)))) dX0_note_57 ?_
  refine X_ald_54 C0 hw (by decide) h (k := (gI t6 18 (0) 2).toNatClampNeg) rfl dX0_note_60 (fun hk7 h => ?_)
  refine lv_iconst (v := 2) hx hb dX0_note_61 (by decide) ?_
  refine lv_iload_n hx hb dX0_note_62 rfl (lv_at hl 3 rfl) ?_
  refine X_iast hL C0 hw h (k := 2) rfl dX0_note_63 (fun t8 H locs hw h => ?_)
  refine lv_aload_n hx hb dX0_note_64 rfl (lv_at hl 0 rfl) ?_
  refine X_g18_0 C0 hw (fun w h => (List.mem_cons_of_mem _ (List.mem_append_right _ h))) (by decide) ((List.mem_cons_of_mem _ (List.mem_append_left _ (List.mem_of_getElem? (i := 6) rfl)))) dX0_note_65 ?_
  refine lv_aload_n hx hb dX0_note_68 rfl (lv_at hl 0 rfl) ?_
  refine X_g18_2 C0 hw (fun w h => (List.mem_cons_of_mem _ (List.mem_append_right _ h))) (by decide) ((List.mem_cons_of_mem _ (List.mem_append_left _ (List.mem_of_getElem? (i := 0) rfl)))) dX0_note_69 ?_
  refine X_ald_54 C0 hw (by decide) h (k := (gI t8 18 (0) 2).toNatClampNeg) rfl dX0_note_72 (fun hk9 h => ?_)
  refine lv_iconst (v := 3) hx hb dX0_note_73 (by decide) ?_
  refine lv_iload hx hb dX0_note_74 (lv_at hl 4 rfl) ?_
  refine X_iast hL C0 hw h (k := 3) rfl dX0_note_76 (fun t10 H locs hw h => ?_)
  refine lv_aload_n hx hb dX0_note_77 rfl (lv_at hl 0 rfl) ?_
  refine X_g18_1 C0 hw (fun w h => (List.mem_cons_of_mem _ (List.mem_append_right _ h))) (by decide) ((List.mem_cons_of_mem _ (List.mem_append_left _ (List.mem_of_getElem? (i := 7) rfl)))) dX0_note_78 ?_
  refine lv_aload_n hx hb dX0_note_81 rfl (lv_at hl 0 rfl) ?_
  refine X_g18_2 C0 hw (fun w h => (List.mem_cons_of_mem _ (List.mem_append_right _ h))) (by decide) ((List.mem_cons_of_mem _ (List.mem_append_left _ (List.mem_of_getElem? (i := 0) rfl)))) dX0_note_82 ?_
  refine X_ald_56 C0 hw (by decide) h (k := (gI t10 18 (0) 2).toNatClampNeg) rfl dX0_note_85 (fun hk11 h => ?_)
  cases h
  exact W.aret hx hb hr (Or.inr ⟨_, rfl⟩) (Or.inr ⟨_, rfl⟩) (X_fin C0 hw) hw.2.2.2 dX0_note_86 hlocks

def fX0_latest (st : Sto) : Option (Nat × Nat) :=
  ck (0 ≤ (gI st 18 (0) 2).toInt ∧ (gI st 18 (0) 2).toInt < (60 : Int)) (
   some (55, (gI st 18 (0) 2).toNatClampNeg))
set_option maxHeartbeats 4000000 in
set_option maxRecDepth 100000 in
theorem mX0_latest (l : Launch) (E : XE) (hL : LX E) (st : Sto) {r : (Nat × Nat)} (h : fX0_latest st = some r) : Met l yX0_latest wsX0_latest ({ frames := 0, cells := 0, slots := 0, locals := 0 }) (va_Pc [.ref (E.2.2.1 18 (0))] (RX E st)) (QX E (some (.ref (E.2.2.1 r.1 r.2))) st) 0 0 E.2.2.2 := by
  refine Met.ofW (cc := cX0_latest) (maxL := 1) (ret := (some (.array .int))) (by decide) rfl ?_
  intro p e s m args below meth c s₁ B hml hv
  obtain ⟨rfl, hP, hK⟩ := hv
  have hown : s.vm.findClass RX0 = some m.cls := findClass_of_methodNamed B.named
  have C0 : CX p m c cX0_latest 1 s _ wsX0_latest RX0 E := ⟨⟨B.exec, B.bytes, hml, hown, atoms_spec (ws := wsX0_latest) B.pre⟩, hK⟩
  have hx := B.exec
  have hb := B.bytes
  have hr := B.returns
  have hlocks := B.notSynchronized
  have hw : SX E s st s.heap [] := ⟨hP, va_S.rf⟩
  have hl := lv_entry ([.ref (E.2.2.1 18 (0))]) (n := 1) (Nat.le_of_ble_eq_true rfl)
  rw [lg_entry_eq]
  generalize (lg_sl ([.ref (E.2.2.1 18 (0))]) ++ List.replicate (1 - (lg_sl ([.ref (E.2.2.1 18 (0))])).length) Slot.unset).toArray = ls at hl ⊢
  have hl : lv_has ls 1 [(0, .ref (E.2.2.1 18 (0)))] := hl
  unfold fX0_latest at h
  refine lv_aload_n hx hb dX0_latest_0 rfl (lv_at hl 0 rfl) ?_
  refine X_g18_0 C0 hw (fun w h => (List.mem_cons_of_mem _ (List.mem_append_right _ h))) (by decide) ((List.mem_cons_of_mem _ (List.mem_append_left _ (List.mem_of_getElem? (i := 0) rfl)))) dX0_latest_1 ?_
  refine lv_aload_n hx hb dX0_latest_4 rfl (lv_at hl 0 rfl) ?_
  refine X_g18_2 C0 hw (fun w h => (List.mem_cons_of_mem _ (List.mem_append_right _ h))) (by decide) ((List.mem_cons_of_mem _ (List.mem_append_left _ (List.mem_of_getElem? (i := 1) rfl)))) dX0_latest_5 ?_
  refine X_ald_54 C0 hw (by decide) h (k := (gI st 18 (0) 2).toNatClampNeg) rfl dX0_latest_8 (fun hk1 h => ?_)
  cases h
  exact W.aret hx hb hr (Or.inr ⟨_, rfl⟩) (Or.inr ⟨_, rfl⟩) (X_fin C0 hw) hw.2.2.2 dX0_latest_9 hlocks

def fX0_keptOfLatest (st : Sto) : Option (Nat × Nat) :=
  ck (0 ≤ (gI st 18 (0) 2).toInt ∧ (gI st 18 (0) 2).toInt < (60 : Int)) (
   some (57, (gI st 18 (0) 2).toNatClampNeg))
set_option maxHeartbeats 4000000 in
set_option maxRecDepth 100000 in
theorem mX0_keptOfLatest (l : Launch) (E : XE) (hL : LX E) (st : Sto) {r : (Nat × Nat)} (h : fX0_keptOfLatest st = some r) : Met l yX0_keptOfLatest wsX0_keptOfLatest ({ frames := 0, cells := 0, slots := 0, locals := 0 }) (va_Pc [.ref (E.2.2.1 18 (0))] (RX E st)) (QX E (some (.ref (E.2.2.1 r.1 r.2))) st) 0 0 E.2.2.2 := by
  refine Met.ofW (cc := cX0_keptOfLatest) (maxL := 1) (ret := (some (.array .float))) (by decide) rfl ?_
  intro p e s m args below meth c s₁ B hml hv
  obtain ⟨rfl, hP, hK⟩ := hv
  have hown : s.vm.findClass RX0 = some m.cls := findClass_of_methodNamed B.named
  have C0 : CX p m c cX0_keptOfLatest 1 s _ wsX0_keptOfLatest RX0 E := ⟨⟨B.exec, B.bytes, hml, hown, atoms_spec (ws := wsX0_keptOfLatest) B.pre⟩, hK⟩
  have hx := B.exec
  have hb := B.bytes
  have hr := B.returns
  have hlocks := B.notSynchronized
  have hw : SX E s st s.heap [] := ⟨hP, va_S.rf⟩
  have hl := lv_entry ([.ref (E.2.2.1 18 (0))]) (n := 1) (Nat.le_of_ble_eq_true rfl)
  rw [lg_entry_eq]
  generalize (lg_sl ([.ref (E.2.2.1 18 (0))]) ++ List.replicate (1 - (lg_sl ([.ref (E.2.2.1 18 (0))])).length) Slot.unset).toArray = ls at hl ⊢
  have hl : lv_has ls 1 [(0, .ref (E.2.2.1 18 (0)))] := hl
  unfold fX0_keptOfLatest at h
  refine lv_aload_n hx hb dX0_keptOfLatest_0 rfl (lv_at hl 0 rfl) ?_
  refine X_g18_1 C0 hw (fun w h => (List.mem_cons_of_mem _ (List.mem_append_right _ h))) (by decide) ((List.mem_cons_of_mem _ (List.mem_append_left _ (List.mem_of_getElem? (i := 0) rfl)))) dX0_keptOfLatest_1 ?_
  refine lv_aload_n hx hb dX0_keptOfLatest_4 rfl (lv_at hl 0 rfl) ?_
  refine X_g18_2 C0 hw (fun w h => (List.mem_cons_of_mem _ (List.mem_append_right _ h))) (by decide) ((List.mem_cons_of_mem _ (List.mem_append_left _ (List.mem_of_getElem? (i := 1) rfl)))) dX0_keptOfLatest_5 ?_
  refine X_ald_56 C0 hw (by decide) h (k := (gI st 18 (0) 2).toNatClampNeg) rfl dX0_keptOfLatest_8 (fun hk1 h => ?_)
  cases h
  exact W.aret hx hb hr (Or.inr ⟨_, rfl⟩) (Or.inr ⟨_, rfl⟩) (X_fin C0 hw) hw.2.2.2 dX0_keptOfLatest_9 hlocks

def fX0_drop (st : Sto) : Option Sto :=
  ck (¬ (60 : Int32) = 0) (
   lt1 (sI st 18 (0) 2 ((((gI st 18 (0) 2) + (60 : Int32)) - (1 : Int32)) - (((gI st 18 (0) 2) + (60 : Int32)) - (1 : Int32)) / (60 : Int32) * (60 : Int32))) fun (t1 : Sto) =>
   lt1 (sI t1 18 (0) 3 ((gI t1 18 (0) 3) - (1 : Int32))) fun (t2 : Sto) =>
   some t2)
set_option maxHeartbeats 4000000 in
set_option maxRecDepth 100000 in
theorem mX0_drop (l : Launch) (E : XE) (hL : LX E) (st : Sto) {st1 : Sto} (h : fX0_drop st = some st1) : Met l yX0_drop wsX0_drop ({ frames := 0, cells := 0, slots := 0, locals := 0 }) (va_Pc [.ref (E.2.2.1 18 (0))] (RX E st)) (QX E none st1) 0 0 E.2.2.2 := by
  refine Met.ofW (cc := cX0_drop) (maxL := 1) (ret := none) (by decide) rfl ?_
  intro p e s m args below meth c s₁ B hml hv
  obtain ⟨rfl, hP, hK⟩ := hv
  have hown : s.vm.findClass RX0 = some m.cls := findClass_of_methodNamed B.named
  have C0 : CX p m c cX0_drop 1 s _ wsX0_drop RX0 E := ⟨⟨B.exec, B.bytes, hml, hown, atoms_spec (ws := wsX0_drop) B.pre⟩, hK⟩
  have hx := B.exec
  have hb := B.bytes
  have hr := B.returns
  have hlocks := B.notSynchronized
  have hw : SX E s st s.heap [] := ⟨hP, va_S.rf⟩
  have hl := lv_entry ([.ref (E.2.2.1 18 (0))]) (n := 1) (Nat.le_of_ble_eq_true rfl)
  rw [lg_entry_eq]
  generalize (lg_sl ([.ref (E.2.2.1 18 (0))]) ++ List.replicate (1 - (lg_sl ([.ref (E.2.2.1 18 (0))])).length) Slot.unset).toArray = ls at hl ⊢
  have hl : lv_has ls 1 [(0, .ref (E.2.2.1 18 (0)))] := hl
  unfold fX0_drop at h
  refine lv_aload_n hx hb dX0_drop_0 rfl (lv_at hl 0 rfl) ?_
  refine lv_aload_n hx hb dX0_drop_1 rfl (lv_at hl 0 rfl) ?_
  refine X_g18_2 C0 hw (fun w h => (List.mem_cons_of_mem _ (List.mem_append_right _ h))) (by decide) ((List.mem_cons_of_mem _ (List.mem_append_left _ (List.mem_of_getElem? (i := 0) rfl)))) dX0_drop_2 ?_
  refine lv_bipush (v := 60) hx hb dX0_drop_5 (by decide) ?_
  refine lv_iadd hx hb dX0_drop_7 ?_
  refine lv_iconst (v := 1) hx hb dX0_drop_8 (by decide) ?_
  refine lv_isub hx hb dX0_drop_9 ?_
  refine lv_bipush (v := 60) hx hb dX0_drop_10 (by decide) ?_
  refine x_irem hx hb h dX0_drop_12 (fun h => ?_)
  refine X_p18_2 hL C0 hw (fun w h => (List.mem_cons_of_mem _ (List.mem_append_right _ h))) (by decide) h ((List.mem_cons_of_mem _ (List.mem_append_left _ (List.mem_of_getElem? (i := 0) rfl)))) dX0_drop_13 (fun t1 H locs hw h => ?_)
  refine lv_aload_n hx hb dX0_drop_16 rfl (lv_at hl 0 rfl) ?_
  refine lv_dup hx hb dX0_drop_17 rfl ?_
  refine X_g18_3 C0 hw (fun w h => (List.mem_cons_of_mem _ (List.mem_append_right _ h))) (by decide) ((List.mem_cons_of_mem _ (List.mem_append_left _ (List.mem_of_getElem? (i := 1) rfl)))) dX0_drop_18 ?_
  refine lv_iconst (v := 1) hx hb dX0_drop_21 (by decide) ?_
  refine lv_isub hx hb dX0_drop_22 ?_
  refine X_p18_3 hL C0 hw (fun w h => (List.mem_cons_of_mem _ (List.mem_append_right _ h))) (by decide) h ((List.mem_cons_of_mem _ (List.mem_append_left _ (List.mem_of_getElem? (i := 1) rfl)))) dX0_drop_23 (fun t2 H locs hw h => ?_)
  cases h
  exact W.vret hx hb hr (X_fin C0 hw) hw.2.2.2 dX0_drop_26 hlocks

def fX1_begin (oi : Nat) (a1 : Int32) (a2 : Int32) (st : Sto) : Option Sto :=
  lt1 (sI st 30 oi 0 a1) fun (t1 : Sto) =>
  lt1 (sI t1 30 oi 1 a2) fun (t2 : Sto) =>
  lt1 (sI t2 30 oi 2 (0 : Int32)) fun (t3 : Sto) =>
  lt1 (sI t3 30 oi 5 (0 : Int32)) fun (t4 : Sto) =>
  some t4
set_option maxHeartbeats 4000000 in
set_option maxRecDepth 100000 in
theorem mX1_begin (l : Launch) (E : XE) (hL : LX E) (st : Sto) {oi : Nat} {a1 : Int32} {a2 : Int32} (ho : oi < cntX 30) {st1 : Sto} (h : fX1_begin oi a1 a2 st = some st1) : Met l yX1_begin wsX1_begin ({ frames := 0, cells := 0, slots := 0, locals := 0 }) (va_Pc [.ref (E.2.2.1 30 oi), .int a1, .int a2] (RX E st)) (QX E none st1) 0 0 E.2.2.2 := by
  refine Met.ofW (cc := cX1_begin) (maxL := 3) (ret := none) (by decide) rfl ?_
  intro p e s m args below meth c s₁ B hml hv
  obtain ⟨rfl, hP, hK⟩ := hv
  have hown : s.vm.findClass RX1 = some m.cls := findClass_of_methodNamed B.named
  have C0 : CX p m c cX1_begin 3 s _ wsX1_begin RX1 E := ⟨⟨B.exec, B.bytes, hml, hown, atoms_spec (ws := wsX1_begin) B.pre⟩, hK⟩
  have hx := B.exec
  have hb := B.bytes
  have hr := B.returns
  have hlocks := B.notSynchronized
  have hw : SX E s st s.heap [] := ⟨hP, va_S.rf⟩
  have hl := lv_entry ([.ref (E.2.2.1 30 oi), .int a1, .int a2]) (n := 3) (Nat.le_of_ble_eq_true rfl)
  rw [lg_entry_eq]
  generalize (lg_sl ([.ref (E.2.2.1 30 oi), .int a1, .int a2]) ++ List.replicate (3 - (lg_sl ([.ref (E.2.2.1 30 oi), .int a1, .int a2])).length) Slot.unset).toArray = ls at hl ⊢
  have hl : lv_has ls 3 [(0, .ref (E.2.2.1 30 oi)), (1, .int a1), (2, .int a2)] := hl
  unfold fX1_begin at h
  refine lv_aload_n hx hb dX1_begin_0 rfl (lv_at hl 0 rfl) ?_
  refine lv_iload_n hx hb dX1_begin_1 rfl (lv_at hl 1 rfl) ?_
  refine X_p30_0 hL C0 hw (fun w h => (List.mem_cons_of_mem _ (List.mem_append_right _ h))) ho h ((List.mem_cons_of_mem _ (List.mem_append_left _ (List.mem_of_getElem? (i := 0) rfl)))) dX1_begin_2 (fun t1 H locs hw h => ?_)
  refine lv_aload_n hx hb dX1_begin_5 rfl (lv_at hl 0 rfl) ?_
  refine lv_iload_n hx hb dX1_begin_6 rfl (lv_at hl 2 rfl) ?_
  refine X_p30_1 hL C0 hw (fun w h => (List.mem_cons_of_mem _ (List.mem_append_right _ h))) ho h ((List.mem_cons_of_mem _ (List.mem_append_left _ (List.mem_of_getElem? (i := 1) rfl)))) dX1_begin_7 (fun t2 H locs hw h => ?_)
  refine lv_aload_n hx hb dX1_begin_10 rfl (lv_at hl 0 rfl) ?_
  refine lv_iconst (v := 0) hx hb dX1_begin_11 (by decide) ?_
  refine X_p30_2 hL C0 hw (fun w h => (List.mem_cons_of_mem _ (List.mem_append_right _ h))) ho h ((List.mem_cons_of_mem _ (List.mem_append_left _ (List.mem_of_getElem? (i := 2) rfl)))) dX1_begin_12 (fun t3 H locs hw h => ?_)
  refine lv_aload_n hx hb dX1_begin_15 rfl (lv_at hl 0 rfl) ?_
  refine lv_iconst (v := 0) hx hb dX1_begin_16 (by decide) ?_
  refine X_p30_5 hL C0 hw (fun w h => (List.mem_cons_of_mem _ (List.mem_append_right _ h))) ho h rfl rfl ((List.mem_cons_of_mem _ (List.mem_append_left _ (List.mem_of_getElem? (i := 3) rfl)))) dX1_begin_17 (fun t4 H locs hw h => ?_)
  cases h
  exact W.vret hx hb hr (X_fin C0 hw) hw.2.2.2 dX1_begin_20 hlocks

def fX1_placeOf (oi : Nat) (a1 : Int32) (st : Sto) : Option Int32 :=
  ((lp (σ := Int32) (ρ := (Int32 ⊕ Unit)) (fun (v4 : Int32) =>
     if gI st 30 oi 2 ≤ v4 then (
      some (.inr (.inr ()))) else (
      ck (0 ≤ v4.toInt ∧ v4.toInt < (lIX (31) oi : Int)) (
       if gI st (31) oi (v4.toNatClampNeg) = a1 then (
        some (.inr (.inl v4))) else (
        lt1 (v4 + Int32.ofInt (1)) fun (v7 : Int32) =>
        some (.inl v7))))) 4000 (0 : Int32)).bind
   (sm (fun (q : Int32) => some q) (fun (_ : Unit) =>
     some (-1 : Int32))))
set_option maxHeartbeats 4000000 in
set_option maxRecDepth 100000 in
theorem mX1_placeOf (l : Launch) (E : XE) (hL : LX E) (st : Sto) {oi : Nat} {a1 : Int32} (ho : oi < cntX 30) {r : Int32} (h : fX1_placeOf oi a1 st = some r) : Met l yX1_placeOf wsX1_placeOf ({ frames := 0, cells := 0, slots := 0, locals := 0 }) (va_Pc [.ref (E.2.2.1 30 oi), .int a1] (RX E st)) (QX E (some (.int r)) st) 0 0 E.2.2.2 := by
  refine Met.ofW (cc := cX1_placeOf) (maxL := 3) (ret := (some .int)) (by decide) rfl ?_
  intro p e s m args below meth c s₁ B hml hv
  obtain ⟨rfl, hP, hK⟩ := hv
  have hown : s.vm.findClass RX1 = some m.cls := findClass_of_methodNamed B.named
  have C0 : CX p m c cX1_placeOf 3 s _ wsX1_placeOf RX1 E := ⟨⟨B.exec, B.bytes, hml, hown, atoms_spec (ws := wsX1_placeOf) B.pre⟩, hK⟩
  have hx := B.exec
  have hb := B.bytes
  have hr := B.returns
  have hlocks := B.notSynchronized
  have hw : SX E s st s.heap [] := ⟨hP, va_S.rf⟩
  have hl := lv_entry ([.ref (E.2.2.1 30 oi), .int a1]) (n := 3) (Nat.le_of_ble_eq_true rfl)
  rw [lg_entry_eq]
  generalize (lg_sl ([.ref (E.2.2.1 30 oi), .int a1]) ++ List.replicate (3 - (lg_sl ([.ref (E.2.2.1 30 oi), .int a1])).length) Slot.unset).toArray = ls at hl ⊢
  have hl : lv_has ls 3 [(0, .ref (E.2.2.1 30 oi)), (1, .int a1)] := hl
  unfold fX1_placeOf at h
  refine lv_iconst (v := 0) hx hb dX1_placeOf_0 (by decide) ?_
  refine lv_istore_n (lv' := [(2, .int (0 : Int32)), (0, .ref (E.2.2.1 30 oi)), (1, .int a1)]) hx hb dX1_placeOf_1 rfl hl (by decide) rfl (fun ls hl => ?_)
  refine lp_ind (fun q : Int32 => ∀ (H : Heap) (locs : List Loc), SX E s st H locs → ∀ ls : Array Slot, lv_has ls 3 [(2, .int q), (0, .ref (E.2.2.1 30 oi)), (1, .int a1)] → W p l e (headSpec wsX1_placeOf ({ frames := 0, cells := 0, slots := 0, locals := 0 })).room s m ([.ref (E.2.2.1 30 oi), .int a1] : List Value).toArray below meth c H locs 0 0 (MQ below (QX E (some (.int r)) st) ([.ref (E.2.2.1 30 oi), .int a1] : List Value).toArray s 0 0 E.2.2.2) (F0 m 2 ls [])) (fun q o3 h hB2 hX1 => ?_) _ _ h _ _ hw _ (lv_sub hl [0, 1, 2] rfl)
  intro H locs hw ls hl
  obtain ⟨v4, rfl⟩ : ∃ z, z = q := ⟨_, rfl⟩
  have hl : lv_has ls 3 [(2, .int v4), (0, .ref (E.2.2.1 30 oi)), (1, .int a1)] := hl
  refine lv_iload_n hx hb dX1_placeOf_2 rfl (lv_at hl 0 rfl) ?_
  refine lv_aload_n hx hb dX1_placeOf_3 rfl (lv_at hl 1 rfl) ?_
  refine X_g30_2 C0 hw (fun w h => (List.mem_cons_of_mem _ (List.mem_append_right _ h))) ho ((List.mem_cons_of_mem _ (List.mem_append_left _ (List.mem_of_getElem? (i := 0) rfl)))) dX1_placeOf_4 ?_
  refine lv_icmp_ge (tgt := 28) hx hb dX1_placeOf_7 (by decide) (fun hc5 => ?_) (fun hc5 => ?_)
  · have h := ifp h hc5
    have h := hX1 _ (Option.some.inj h).symm
    have h := sm_r h
    have hl := lv_sub hl (l' := []) [] rfl
    refine lv_iconst (v := -1) hx hb dX1_placeOf_28 (by decide) ?_
    cases h
    exact W.iret hx hb hr (X_fin C0 hw) hw.2.2.2 dX1_placeOf_29 hlocks
  · have h := ifn h hc5
    refine lv_aload_n hx hb dX1_placeOf_10 rfl (lv_at hl 1 rfl) ?_
    refine X_g30_3 C0 hw (fun w h => (List.mem_cons_of_mem _ (List.mem_append_right _ h))) ho ((List.mem_cons_of_mem _ (List.mem_append_left _ (List.mem_of_getElem? (i := 1) rfl)))) dX1_placeOf_11 ?_
    refine lv_iload_n hx hb dX1_placeOf_14 rfl (lv_at hl 0 rfl) ?_
    refine X_iald C0 hw h (k := v4.toNatClampNeg) rfl dX1_placeOf_15 (fun h => ?_)
    refine lv_iload_n hx hb dX1_placeOf_16 rfl (lv_at hl 2 rfl) ?_
    refine lv_icmp_ne (tgt := 22) hx hb dX1_placeOf_17 (by decide) (fun hc6 => ?_) (fun hc6 => ?_)
    · have h := ifn h hc6
      refine x_iinc hx hb h dX1_placeOf_22 hl (q := 0) rfl (fun v7 => [(2, .int v7), (0, .ref (E.2.2.1 30 oi)), (1, .int a1)]) (by decide) (fun _ => rfl) (fun v7 ls hl h => ?_)
      refine lv_goto (tgt := 2) hx hb dX1_placeOf_25 (by decide) ?_
      exact hB2 _ (Option.some.inj h).symm _ _ hw _ (lv_sub hl [0, 1, 2] rfl)
    · have h := ifp h hc6
      refine lv_iload_n hx hb dX1_placeOf_20 rfl (lv_at hl 0 rfl) ?_
      have h := hX1 _ (Option.some.inj h).symm
      have h := sm_l h
      cases h
      exact W.iret hx hb hr (X_fin C0 hw) hw.2.2.2 dX1_placeOf_21 hlocks

def fX1_hasRoomFor (oi : Nat) (a1 : Int32) (st : Sto) : Option Int32 :=
  if gI st 30 oi 2 < (8 : Int32) then (
   some (1 : Int32)) else (
   (fX1_placeOf oi a1 st).bind (fun (v2 : Int32) =>
    if v2 = (-1 : Int32) then (
     some (0 : Int32)) else (
     some (1 : Int32))))
set_option maxHeartbeats 4000000 in
set_option maxRecDepth 100000 in
theorem mX1_hasRoomFor (l : Launch) (E : XE) (hL : LX E) (st : Sto) {oi : Nat} {a1 : Int32} (ho : oi < cntX 30) {r : Int32} (h : fX1_hasRoomFor oi a1 st = some r) : Met l yX1_hasRoomFor wsX1_hasRoomFor ({ frames := 1, cells := 0, slots := 0, locals := 22 }) (va_Pc [.ref (E.2.2.1 30 oi), .int a1] (RX E st)) (QX E (some (.int r)) st) 0 0 E.2.2.2 := by
  refine Met.ofW (cc := cX1_hasRoomFor) (maxL := 2) (ret := (some .boolean)) (by decide) rfl ?_
  intro p e s m args below meth c s₁ B hml hv
  obtain ⟨rfl, hP, hK⟩ := hv
  have hown : s.vm.findClass RX1 = some m.cls := findClass_of_methodNamed B.named
  have C0 : CX p m c cX1_hasRoomFor 2 s _ wsX1_hasRoomFor RX1 E := ⟨⟨B.exec, B.bytes, hml, hown, atoms_spec (ws := wsX1_hasRoomFor) B.pre⟩, hK⟩
  have hx := B.exec
  have hb := B.bytes
  have hr := B.returns
  have hlocks := B.notSynchronized
  have hw : SX E s st s.heap [] := ⟨hP, va_S.rf⟩
  have hl := lv_entry ([.ref (E.2.2.1 30 oi), .int a1]) (n := 2) (Nat.le_of_ble_eq_true rfl)
  rw [lg_entry_eq]
  generalize (lg_sl ([.ref (E.2.2.1 30 oi), .int a1]) ++ List.replicate (2 - (lg_sl ([.ref (E.2.2.1 30 oi), .int a1])).length) Slot.unset).toArray = ls at hl ⊢
  have hl : lv_has ls 2 [(0, .ref (E.2.2.1 30 oi)), (1, .int a1)] := hl
  unfold fX1_hasRoomFor at h
  refine lv_aload_n hx hb dX1_hasRoomFor_0 rfl (lv_at hl 0 rfl) ?_
  refine X_g30_2 C0 hw (fun w h => (List.mem_cons_of_mem _ (List.mem_append_right _ h))) ho ((List.mem_cons_of_mem _ (List.mem_append_left _ (List.mem_of_getElem? (i := 0) rfl)))) dX1_hasRoomFor_1 ?_
  refine lv_bipush (v := 8) hx hb dX1_hasRoomFor_4 (by decide) ?_
  refine lv_icmp_lt (tgt := 18) hx hb dX1_hasRoomFor_6 (by decide) (fun hc1 => ?_) (fun hc1 => ?_)
  · have h := ifp h hc1
    refine lv_iconst (v := 1) hx hb dX1_hasRoomFor_18 (by decide) ?_
    refine lv_goto (tgt := 23) hx hb dX1_hasRoomFor_19 (by decide) ?_
    cases h
    exact W.zret hx hb hr rfl (X_fin C0 hw) hw.2.2.2 dX1_hasRoomFor_23 hlocks
  · have h := ifn h hc1
    refine lv_aload_n hx hb dX1_hasRoomFor_9 rfl (lv_at hl 0 rfl) ?_
    refine lv_iload_n hx hb dX1_hasRoomFor_10 rfl (lv_at hl 1 rfl) ?_
    obtain ⟨v2, hf3, h⟩ := bn_c h
    refine X_callV C0 hw (As := [.int a1]) (rest := []) (mX1_placeOf l E hL st ho hf3) (cwV 1 C0.1.2.2.2.2 gX1_hasRoomFor_X1_placeOf rfl rfl rfl (by decide +kernel) ⟨Nat.le_of_ble_eq_true rfl, Nat.le_of_ble_eq_true rfl⟩) (X_recv_30 C0 hw ho) rfl hl.1 rfl (Nat.le_of_ble_eq_true rfl) dX1_hasRoomFor_11 ⟨Nat.zero_le _, Nat.zero_le _⟩ (fun H locs hw => ?_)
    refine W.eq (g2 := F0 m 14 ls [.int v2]) rfl ?_
    refine lv_iconst (v := -1) hx hb dX1_hasRoomFor_14 (by decide) ?_
    refine lv_icmp_eq (tgt := 22) hx hb dX1_hasRoomFor_15 (by decide) (fun hc4 => ?_) (fun hc4 => ?_)
    · have h := ifp h hc4
      refine lv_iconst (v := 0) hx hb dX1_hasRoomFor_22 (by decide) ?_
      cases h
      exact W.zret hx hb hr rfl (X_fin C0 hw) hw.2.2.2 dX1_hasRoomFor_23 hlocks
    · have h := ifn h hc4
      refine lv_iconst (v := 1) hx hb dX1_hasRoomFor_18 (by decide) ?_
      refine lv_goto (tgt := 23) hx hb dX1_hasRoomFor_19 (by decide) ?_
      cases h
      exact W.zret hx hb hr rfl (X_fin C0 hw) hw.2.2.2 dX1_hasRoomFor_23 hlocks

def fX1_addGrams (oi : Nat) (a1 : Int32) (a2 : Int32) (st : Sto) : Option (Int32 × Sto) :=
  (fX1_placeOf oi a1 st).bind (fun (v1 : Int32) =>
   jn (fun (v6 : Int32) (t7 : Sto) =>
    ck (0 ≤ v6.toInt ∧ v6.toInt < (lIX (32) oi : Int)) (
     ck (0 ≤ v6.toInt ∧ v6.toInt < (lIX (32) oi : Int)) (lt1 (sI t7 (32) oi (v6.toNatClampNeg) ((gI t7 (32) oi (v6.toNatClampNeg)) + a2)) fun (t8 : Sto) =>
      ck (0 ≤ v6.toInt ∧ v6.toInt < (lIX (32) oi : Int)) (
       some (gI t8 (32) oi (v6.toNatClampNeg), t8))))) fun K3 =>
   if v1 = (-1 : Int32) then (
    lt1 (gI st 30 oi 2) fun (v10 : Int32) =>
    lt1 (sI st 30 oi 2 ((gI st 30 oi 2) + (1 : Int32))) fun (t11 : Sto) =>
    ck (0 ≤ v10.toInt ∧ v10.toInt < (lIX (31) oi : Int)) (lt1 (sI t11 (31) oi (v10.toNatClampNeg) a1) fun (t12 : Sto) =>
     ck (0 ≤ v10.toInt ∧ v10.toInt < (lIX (32) oi : Int)) (lt1 (sI t12 (32) oi (v10.toNatClampNeg) (0 : Int32)) fun (t13 : Sto) =>
      K3 v10 t13))) else (
    K3 v1 st))
set_option maxHeartbeats 4000000 in
set_option maxRecDepth 100000 in
theorem mX1_addGrams (l : Launch) (E : XE) (hL : LX E) (st : Sto) {oi : Nat} {a1 : Int32} {a2 : Int32} (ho : oi < cntX 30) {r : Int32} {st1 : Sto} (h : fX1_addGrams oi a1 a2 st = some (r, st1)) : Met l yX1_addGrams wsX1_addGrams ({ frames := 1, cells := 0, slots := 0, locals := 22 }) (va_Pc [.ref (E.2.2.1 30 oi), .int a1, .int a2] (RX E st)) (QX E (some (.int r)) st1) 0 0 E.2.2.2 := by
  refine Met.ofW (cc := cX1_addGrams) (maxL := 4) (ret := (some .int)) (by decide) rfl ?_
  intro p e s m args below meth c s₁ B hml hv
  obtain ⟨rfl, hP, hK⟩ := hv
  have hown : s.vm.findClass RX1 = some m.cls := findClass_of_methodNamed B.named
  have C0 : CX p m c cX1_addGrams 4 s _ wsX1_addGrams RX1 E := ⟨⟨B.exec, B.bytes, hml, hown, atoms_spec (ws := wsX1_addGrams) B.pre⟩, hK⟩
  have hx := B.exec
  have hb := B.bytes
  have hr := B.returns
  have hlocks := B.notSynchronized
  have hw : SX E s st s.heap [] := ⟨hP, va_S.rf⟩
  have hl := lv_entry ([.ref (E.2.2.1 30 oi), .int a1, .int a2]) (n := 4) (Nat.le_of_ble_eq_true rfl)
  rw [lg_entry_eq]
  generalize (lg_sl ([.ref (E.2.2.1 30 oi), .int a1, .int a2]) ++ List.replicate (4 - (lg_sl ([.ref (E.2.2.1 30 oi), .int a1, .int a2])).length) Slot.unset).toArray = ls at hl ⊢
  have hl : lv_has ls 4 [(0, .ref (E.2.2.1 30 oi)), (1, .int a1), (2, .int a2)] := hl
  unfold fX1_addGrams at h
  refine lv_aload_n hx hb dX1_addGrams_0 rfl (lv_at hl 0 rfl) ?_
  refine lv_iload_n hx hb dX1_addGrams_1 rfl (lv_at hl 1 rfl) ?_
  obtain ⟨v1, hf2, h⟩ := bn_c h
  refine X_callV C0 hw (As := [.int a1]) (rest := []) (mX1_placeOf l E hL st ho hf2) (cwV 1 C0.1.2.2.2.2 gX1_addGrams_X1_placeOf rfl rfl rfl (by decide +kernel) ⟨Nat.le_of_ble_eq_true rfl, Nat.le_of_ble_eq_true rfl⟩) (X_recv_30 C0 hw ho) rfl hl.1 rfl (Nat.le_of_ble_eq_true rfl) dX1_addGrams_2 ⟨Nat.zero_le _, Nat.zero_le _⟩ (fun H locs hw => ?_)
  refine W.eq (g2 := F0 m 5 ls [.int v1]) rfl ?_
  refine lv_istore_n (lv' := [(3, .int v1), (0, .ref (E.2.2.1 30 oi)), (1, .int a1), (2, .int a2)]) hx hb dX1_addGrams_5 rfl hl (by decide) rfl (fun ls hl => ?_)
  refine lv_iload_n hx hb dX1_addGrams_6 rfl (lv_at hl 0 rfl) ?_
  refine lv_iconst (v := -1) hx hb dX1_addGrams_7 (by decide) ?_
  refine jn_c h (fun K3 hK5 h => ?_)
  have HJ4 : ∀ (v6 : Int32) (t7 : Sto), K3 v6 t7 = some (r, st1) → ∀ (H : Heap) (locs : List Loc), SX E s t7 H locs → ∀ ls : Array Slot, lv_has ls 4 [(3, .int v6), (0, .ref (E.2.2.1 30 oi)), (2, .int a2)] → W p l e (headSpec wsX1_addGrams ({ frames := 1, cells := 0, slots := 0, locals := 22 })).room s m ([.ref (E.2.2.1 30 oi), .int a1, .int a2] : List Value).toArray below meth c H locs 0 0 (MQ below (QX E (some (.int r)) st1) ([.ref (E.2.2.1 30 oi), .int a1, .int a2] : List Value).toArray s 0 0 E.2.2.2) (F0 m 40 ls []) := by
    intro v6 t7 h H locs hw ls hl
    have h := kk2 h hK5
    refine lv_aload_n hx hb dX1_addGrams_40 rfl (lv_at hl 1 rfl) ?_
    refine X_g30_4 C0 hw (fun w h => (List.mem_cons_of_mem _ (List.mem_append_right _ h))) ho ((List.mem_cons_of_mem _ (List.mem_append_left _ (List.mem_of_getElem? (i := 2) rfl)))) dX1_addGrams_41 ?_
    refine lv_iload_n hx hb dX1_addGrams_44 rfl (lv_at hl 0 rfl) ?_
    refine lv_dup2_11 hx hb dX1_addGrams_45 rfl rfl ?_
    refine X_iald C0 hw h (k := v6.toNatClampNeg) rfl dX1_addGrams_46 (fun h => ?_)
    refine lv_iload_n hx hb dX1_addGrams_47 rfl (lv_at hl 2 rfl) ?_
    refine lv_iadd hx hb dX1_addGrams_48 ?_
    refine X_iast hL C0 hw h (k := v6.toNatClampNeg) rfl dX1_addGrams_49 (fun t8 H locs hw h => ?_)
    refine lv_aload_n hx hb dX1_addGrams_50 rfl (lv_at hl 1 rfl) ?_
    refine X_g30_4 C0 hw (fun w h => (List.mem_cons_of_mem _ (List.mem_append_right _ h))) ho ((List.mem_cons_of_mem _ (List.mem_append_left _ (List.mem_of_getElem? (i := 2) rfl)))) dX1_addGrams_51 ?_
    refine lv_iload_n hx hb dX1_addGrams_54 rfl (lv_at hl 0 rfl) ?_
    refine X_iald C0 hw h (k := v6.toNatClampNeg) rfl dX1_addGrams_55 (fun h => ?_)
    cases h
    exact W.iret hx hb hr (X_fin C0 hw) hw.2.2.2 dX1_addGrams_56 hlocks
  refine lv_icmp_ne (tgt := 40) hx hb dX1_addGrams_8 (by decide) (fun hc9 => ?_) (fun hc9 => ?_)
  · have h := ifn h hc9
    exact HJ4 _ _ h _ _ hw _ (lv_sub hl [0, 1, 3] rfl)
  · have h := ifp h hc9
    refine lv_aload_n hx hb dX1_addGrams_11 rfl (lv_at hl 1 rfl) ?_
    refine X_g30_2 C0 hw (fun w h => (List.mem_cons_of_mem _ (List.mem_append_right _ h))) ho ((List.mem_cons_of_mem _ (List.mem_append_left _ (List.mem_of_getElem? (i := 0) rfl)))) dX1_addGrams_12 ?_
    refine x_topi h (fun v10 h => ?_)
    refine lv_istore_n (lv' := [(3, .int v10), (0, .ref (E.2.2.1 30 oi)), (1, .int a1), (2, .int a2)]) hx hb dX1_addGrams_15 rfl hl (by decide) rfl (fun ls hl => ?_)
    refine lv_aload_n hx hb dX1_addGrams_16 rfl (lv_at hl 1 rfl) ?_
    refine lv_dup hx hb dX1_addGrams_17 rfl ?_
    refine X_g30_2 C0 hw (fun w h => (List.mem_cons_of_mem _ (List.mem_append_right _ h))) ho ((List.mem_cons_of_mem _ (List.mem_append_left _ (List.mem_of_getElem? (i := 0) rfl)))) dX1_addGrams_18 ?_
    refine lv_iconst (v := 1) hx hb dX1_addGrams_21 (by decide) ?_
    refine lv_iadd hx hb dX1_addGrams_22 ?_
    refine X_p30_2 hL C0 hw (fun w h => (List.mem_cons_of_mem _ (List.mem_append_right _ h))) ho h ((List.mem_cons_of_mem _ (List.mem_append_left _ (List.mem_of_getElem? (i := 0) rfl)))) dX1_addGrams_23 (fun t11 H locs hw h => ?_)
    refine lv_aload_n hx hb dX1_addGrams_26 rfl (lv_at hl 1 rfl) ?_
    refine X_g30_3 C0 hw (fun w h => (List.mem_cons_of_mem _ (List.mem_append_right _ h))) ho ((List.mem_cons_of_mem _ (List.mem_append_left _ (List.mem_of_getElem? (i := 1) rfl)))) dX1_addGrams_27 ?_
    refine lv_iload_n hx hb dX1_addGrams_30 rfl (lv_at hl 0 rfl) ?_
    refine lv_iload_n hx hb dX1_addGrams_31 rfl (lv_at hl 2 rfl) ?_
    refine X_iast hL C0 hw h (k := v10.toNatClampNeg) rfl dX1_addGrams_32 (fun t12 H locs hw h => ?_)
    refine lv_aload_n hx hb dX1_addGrams_33 rfl (lv_at hl 1 rfl) ?_
    refine X_g30_4 C0 hw (fun w h => (List.mem_cons_of_mem _ (List.mem_append_right _ h))) ho ((List.mem_cons_of_mem _ (List.mem_append_left _ (List.mem_of_getElem? (i := 2) rfl)))) dX1_addGrams_34 ?_
    refine lv_iload_n hx hb dX1_addGrams_37 rfl (lv_at hl 0 rfl) ?_
    refine lv_iconst (v := 0) hx hb dX1_addGrams_38 (by decide) ?_
    refine X_iast hL C0 hw h (k := v10.toNatClampNeg) rfl dX1_addGrams_39 (fun t13 H locs hw h => ?_)
    exact HJ4 _ _ h _ _ hw _ (lv_sub hl [0, 1, 3] rfl)

def fX1_takeGrams (oi : Nat) (a1 : Int32) (a2 : Int32) (st : Sto) : Option Sto :=
  (fX1_placeOf oi a1 st).bind (fun (v1 : Int32) =>
   if v1 = (-1 : Int32) then (
    some st) else (
    ck (0 ≤ v1.toInt ∧ v1.toInt < (lIX (32) oi : Int)) (
     ck (0 ≤ v1.toInt ∧ v1.toInt < (lIX (32) oi : Int)) (lt1 (sI st (32) oi (v1.toNatClampNeg) ((gI st (32) oi (v1.toNatClampNeg)) - a2)) fun (t4 : Sto) =>
      ck (0 ≤ v1.toInt ∧ v1.toInt < (lIX (32) oi : Int)) (
       if gI t4 (32) oi (v1.toNatClampNeg) = 0 then (
        lt1 (sI t4 30 oi 2 ((gI t4 30 oi 2) - (1 : Int32))) fun (t6 : Sto) =>
        some t6) else (
        some t4))))))
set_option maxHeartbeats 4000000 in
set_option maxRecDepth 100000 in
theorem mX1_takeGrams (l : Launch) (E : XE) (hL : LX E) (st : Sto) {oi : Nat} {a1 : Int32} {a2 : Int32} (ho : oi < cntX 30) {st1 : Sto} (h : fX1_takeGrams oi a1 a2 st = some st1) : Met l yX1_takeGrams wsX1_takeGrams ({ frames := 1, cells := 0, slots := 0, locals := 22 }) (va_Pc [.ref (E.2.2.1 30 oi), .int a1, .int a2] (RX E st)) (QX E none st1) 0 0 E.2.2.2 := by
  refine Met.ofW (cc := cX1_takeGrams) (maxL := 4) (ret := none) (by decide) rfl ?_
  intro p e s m args below meth c s₁ B hml hv
  obtain ⟨rfl, hP, hK⟩ := hv
  have hown : s.vm.findClass RX1 = some m.cls := findClass_of_methodNamed B.named
  have C0 : CX p m c cX1_takeGrams 4 s _ wsX1_takeGrams RX1 E := ⟨⟨B.exec, B.bytes, hml, hown, atoms_spec (ws := wsX1_takeGrams) B.pre⟩, hK⟩
  have hx := B.exec
  have hb := B.bytes
  have hr := B.returns
  have hlocks := B.notSynchronized
  have hw : SX E s st s.heap [] := ⟨hP, va_S.rf⟩
  have hl := lv_entry ([.ref (E.2.2.1 30 oi), .int a1, .int a2]) (n := 4) (Nat.le_of_ble_eq_true rfl)
  rw [lg_entry_eq]
  generalize (lg_sl ([.ref (E.2.2.1 30 oi), .int a1, .int a2]) ++ List.replicate (4 - (lg_sl ([.ref (E.2.2.1 30 oi), .int a1, .int a2])).length) Slot.unset).toArray = ls at hl ⊢
  have hl : lv_has ls 4 [(0, .ref (E.2.2.1 30 oi)), (1, .int a1), (2, .int a2)] := hl
  unfold fX1_takeGrams at h
  refine lv_aload_n hx hb dX1_takeGrams_0 rfl (lv_at hl 0 rfl) ?_
  refine lv_iload_n hx hb dX1_takeGrams_1 rfl (lv_at hl 1 rfl) ?_
  obtain ⟨v1, hf2, h⟩ := bn_c h
  refine X_callV C0 hw (As := [.int a1]) (rest := []) (mX1_placeOf l E hL st ho hf2) (cwV 1 C0.1.2.2.2.2 gX1_takeGrams_X1_placeOf rfl rfl rfl (by decide +kernel) ⟨Nat.le_of_ble_eq_true rfl, Nat.le_of_ble_eq_true rfl⟩) (X_recv_30 C0 hw ho) rfl hl.1 rfl (Nat.le_of_ble_eq_true rfl) dX1_takeGrams_2 ⟨Nat.zero_le _, Nat.zero_le _⟩ (fun H locs hw => ?_)
  refine W.eq (g2 := F0 m 5 ls [.int v1]) rfl ?_
  refine lv_istore_n (lv' := [(3, .int v1), (0, .ref (E.2.2.1 30 oi)), (1, .int a1), (2, .int a2)]) hx hb dX1_takeGrams_5 rfl hl (by decide) rfl (fun ls hl => ?_)
  refine lv_iload_n hx hb dX1_takeGrams_6 rfl (lv_at hl 0 rfl) ?_
  refine lv_iconst (v := -1) hx hb dX1_takeGrams_7 (by decide) ?_
  refine lv_icmp_ne (tgt := 12) hx hb dX1_takeGrams_8 (by decide) (fun hc3 => ?_) (fun hc3 => ?_)
  · have h := ifn h hc3
    refine lv_aload_n hx hb dX1_takeGrams_12 rfl (lv_at hl 1 rfl) ?_
    refine X_g30_4 C0 hw (fun w h => (List.mem_cons_of_mem _ (List.mem_append_right _ h))) ho ((List.mem_cons_of_mem _ (List.mem_append_left _ (List.mem_of_getElem? (i := 0) rfl)))) dX1_takeGrams_13 ?_
    refine lv_iload_n hx hb dX1_takeGrams_16 rfl (lv_at hl 0 rfl) ?_
    refine lv_dup2_11 hx hb dX1_takeGrams_17 rfl rfl ?_
    refine X_iald C0 hw h (k := v1.toNatClampNeg) rfl dX1_takeGrams_18 (fun h => ?_)
    refine lv_iload_n hx hb dX1_takeGrams_19 rfl (lv_at hl 3 rfl) ?_
    refine lv_isub hx hb dX1_takeGrams_20 ?_
    refine X_iast hL C0 hw h (k := v1.toNatClampNeg) rfl dX1_takeGrams_21 (fun t4 H locs hw h => ?_)
    refine lv_aload_n hx hb dX1_takeGrams_22 rfl (lv_at hl 1 rfl) ?_
    refine X_g30_4 C0 hw (fun w h => (List.mem_cons_of_mem _ (List.mem_append_right _ h))) ho ((List.mem_cons_of_mem _ (List.mem_append_left _ (List.mem_of_getElem? (i := 0) rfl)))) dX1_takeGrams_23 ?_
    refine lv_iload_n hx hb dX1_takeGrams_26 rfl (lv_at hl 0 rfl) ?_
    refine X_iald C0 hw h (k := v1.toNatClampNeg) rfl dX1_takeGrams_27 (fun h => ?_)
    refine lv_if_ne (tgt := 41) hx hb dX1_takeGrams_28 (by decide) (fun hc5 => ?_) (fun hc5 => ?_)
    · have h := ifn h hc5
      cases h
      exact W.vret hx hb hr (X_fin C0 hw) hw.2.2.2 dX1_takeGrams_41 hlocks
    · have h := ifp h hc5
      refine lv_aload_n hx hb dX1_takeGrams_31 rfl (lv_at hl 1 rfl) ?_
      refine lv_dup hx hb dX1_takeGrams_32 rfl ?_
      refine X_g30_2 C0 hw (fun w h => (List.mem_cons_of_mem _ (List.mem_append_right _ h))) ho ((List.mem_cons_of_mem _ (List.mem_append_left _ (List.mem_of_getElem? (i := 1) rfl)))) dX1_takeGrams_33 ?_
      refine lv_iconst (v := 1) hx hb dX1_takeGrams_36 (by decide) ?_
      refine lv_isub hx hb dX1_takeGrams_37 ?_
      refine X_p30_2 hL C0 hw (fun w h => (List.mem_cons_of_mem _ (List.mem_append_right _ h))) ho h ((List.mem_cons_of_mem _ (List.mem_append_left _ (List.mem_of_getElem? (i := 1) rfl)))) dX1_takeGrams_38 (fun t6 H locs hw h => ?_)
      cases h
      exact W.vret hx hb hr (X_fin C0 hw) hw.2.2.2 dX1_takeGrams_41 hlocks
  · have h := ifp h hc3
    cases h
    exact W.vret hx hb hr (X_fin C0 hw) hw.2.2.2 dX1_takeGrams_11 hlocks

def fX1_share (oi : Nat) (a1 : Int32) (st : Sto) : Option Int64 :=
  ck (¬ ((gI st 30 oi 1).toInt64) = 0) (
   some (((a1.toInt64) * (10 : Int64)) / ((gI st 30 oi 1).toInt64)))
set_option maxHeartbeats 4000000 in
set_option maxRecDepth 100000 in
theorem mX1_share (l : Launch) (E : XE) (hL : LX E) (st : Sto) {oi : Nat} {a1 : Int32} (ho : oi < cntX 30) {r : Int64} (h : fX1_share oi a1 st = some r) : Met l yX1_share wsX1_share ({ frames := 0, cells := 0, slots := 0, locals := 0 }) (va_Pc [.ref (E.2.2.1 30 oi), .int a1] (RX E st)) (QX E (some (.long r)) st) 0 0 E.2.2.2 := by
  refine Met.ofW (cc := cX1_share) (maxL := 2) (ret := (some .long)) (by decide) rfl ?_
  intro p e s m args below meth c s₁ B hml hv
  obtain ⟨rfl, hP, hK⟩ := hv
  have hown : s.vm.findClass RX1 = some m.cls := findClass_of_methodNamed B.named
  have C0 : CX p m c cX1_share 2 s _ wsX1_share RX1 E := ⟨⟨B.exec, B.bytes, hml, hown, atoms_spec (ws := wsX1_share) B.pre⟩, hK⟩
  have hx := B.exec
  have hb := B.bytes
  have hr := B.returns
  have hlocks := B.notSynchronized
  have hw : SX E s st s.heap [] := ⟨hP, va_S.rf⟩
  have hl := lv_entry ([.ref (E.2.2.1 30 oi), .int a1]) (n := 2) (Nat.le_of_ble_eq_true rfl)
  rw [lg_entry_eq]
  generalize (lg_sl ([.ref (E.2.2.1 30 oi), .int a1]) ++ List.replicate (2 - (lg_sl ([.ref (E.2.2.1 30 oi), .int a1])).length) Slot.unset).toArray = ls at hl ⊢
  have hl : lv_has ls 2 [(0, .ref (E.2.2.1 30 oi)), (1, .int a1)] := hl
  unfold fX1_share at h
  refine lv_iload_n hx hb dX1_share_0 rfl (lv_at hl 1 rfl) ?_
  refine lv_i2l hx hb dX1_share_1 rfl ?_
  refine lv_ldc2 hx hb hown (C0.1.2.2.2.2 _ (List.mem_cons_of_mem _ (List.mem_append_left _ (List.mem_of_getElem? (i := 0) rfl)))) dX1_share_2 ?_
  refine lv_lmul hx hb dX1_share_5 ?_
  refine lv_aload_n hx hb dX1_share_6 rfl (lv_at hl 0 rfl) ?_
  refine X_g30_1 C0 hw (fun w h => (List.mem_cons_of_mem _ (List.mem_append_right _ h))) ho ((List.mem_cons_of_mem _ (List.mem_append_left _ (List.mem_of_getElem? (i := 1) rfl)))) dX1_share_7 ?_
  refine lv_i2l hx hb dX1_share_10 rfl ?_
  refine x_ldiv hx hb h dX1_share_11 (fun h => ?_)
  cases h
  exact W.lret hx hb hr (X_fin C0 hw) hw.2.2.2 dX1_share_12 hlocks

def fX1_gramsInAll (oi : Nat) (st : Sto) : Option Int32 :=
  ((lp (σ := (Int32 × Int32)) (ρ := Int32) (un2 fun (v4 : Int32) (v5 : Int32) =>
     if gI st 30 oi 2 ≤ v4 then (
      some (.inr v5)) else (
      ck (0 ≤ v4.toInt ∧ v4.toInt < (lIX (32) oi : Int)) (
       lt1 (v5 + (gI st (32) oi (v4.toNatClampNeg))) fun (v8 : Int32) =>
       lt1 (v4 + Int32.ofInt (1)) fun (v9 : Int32) =>
       some (.inl (v9, v8))))) 4000 ((0 : Int32), (0 : Int32))).bind
   (fun (v6 : Int32) =>
    some v6))
set_option maxHeartbeats 4000000 in
set_option maxRecDepth 100000 in
theorem mX1_gramsInAll (l : Launch) (E : XE) (hL : LX E) (st : Sto) {oi : Nat} (ho : oi < cntX 30) {r : Int32} (h : fX1_gramsInAll oi st = some r) : Met l yX1_gramsInAll wsX1_gramsInAll ({ frames := 0, cells := 0, slots := 0, locals := 0 }) (va_Pc [.ref (E.2.2.1 30 oi)] (RX E st)) (QX E (some (.int r)) st) 0 0 E.2.2.2 := by
  refine Met.ofW (cc := cX1_gramsInAll) (maxL := 3) (ret := (some .int)) (by decide) rfl ?_
  intro p e s m args below meth c s₁ B hml hv
  obtain ⟨rfl, hP, hK⟩ := hv
  have hown : s.vm.findClass RX1 = some m.cls := findClass_of_methodNamed B.named
  have C0 : CX p m c cX1_gramsInAll 3 s _ wsX1_gramsInAll RX1 E := ⟨⟨B.exec, B.bytes, hml, hown, atoms_spec (ws := wsX1_gramsInAll) B.pre⟩, hK⟩
  have hx := B.exec
  have hb := B.bytes
  have hr := B.returns
  have hlocks := B.notSynchronized
  have hw : SX E s st s.heap [] := ⟨hP, va_S.rf⟩
  have hl := lv_entry ([.ref (E.2.2.1 30 oi)]) (n := 3) (Nat.le_of_ble_eq_true rfl)
  rw [lg_entry_eq]
  generalize (lg_sl ([.ref (E.2.2.1 30 oi)]) ++ List.replicate (3 - (lg_sl ([.ref (E.2.2.1 30 oi)])).length) Slot.unset).toArray = ls at hl ⊢
  have hl : lv_has ls 3 [(0, .ref (E.2.2.1 30 oi))] := hl
  unfold fX1_gramsInAll at h
  refine lv_iconst (v := 0) hx hb dX1_gramsInAll_0 (by decide) ?_
  refine lv_istore_n (lv' := [(1, .int (0 : Int32)), (0, .ref (E.2.2.1 30 oi))]) hx hb dX1_gramsInAll_1 rfl hl (by decide) rfl (fun ls hl => ?_)
  refine lv_iconst (v := 0) hx hb dX1_gramsInAll_2 (by decide) ?_
  refine lv_istore_n (lv' := [(2, .int (0 : Int32)), (1, .int (0 : Int32)), (0, .ref (E.2.2.1 30 oi))]) hx hb dX1_gramsInAll_3 rfl hl (by decide) rfl (fun ls hl => ?_)
  refine lp_ind (fun q : (Int32 × Int32) => ∀ (H : Heap) (locs : List Loc), SX E s st H locs → ∀ ls : Array Slot, lv_has ls 3 [(2, .int (q.1)), (1, .int (q.2)), (0, .ref (E.2.2.1 30 oi))] → W p l e (headSpec wsX1_gramsInAll ({ frames := 0, cells := 0, slots := 0, locals := 0 })).room s m ([.ref (E.2.2.1 30 oi)] : List Value).toArray below meth c H locs 0 0 (MQ below (QX E (some (.int r)) st) ([.ref (E.2.2.1 30 oi)] : List Value).toArray s 0 0 E.2.2.2) (F0 m 4 ls [])) (fun q o3 h hB2 hX1 => ?_) _ _ h _ _ hw _ (lv_sub hl [0, 1, 2] rfl)
  intro H locs hw ls hl
  obtain ⟨v4, v5⟩ := q
  have h := un2_d h
  have hl : lv_has ls 3 [(2, .int v4), (1, .int v5), (0, .ref (E.2.2.1 30 oi))] := hl
  refine lv_iload_n hx hb dX1_gramsInAll_4 rfl (lv_at hl 0 rfl) ?_
  refine lv_aload_n hx hb dX1_gramsInAll_5 rfl (lv_at hl 2 rfl) ?_
  refine X_g30_2 C0 hw (fun w h => (List.mem_cons_of_mem _ (List.mem_append_right _ h))) ho ((List.mem_cons_of_mem _ (List.mem_append_left _ (List.mem_of_getElem? (i := 0) rfl)))) dX1_gramsInAll_6 ?_
  refine lv_icmp_ge (tgt := 27) hx hb dX1_gramsInAll_9 (by decide) (fun hc7 => ?_) (fun hc7 => ?_)
  · have h := ifp h hc7
    have h := hX1 _ (Option.some.inj h).symm
    have hl := lv_sub hl (l' := [(1, .int v5)]) [1] rfl
    refine lv_iload_n hx hb dX1_gramsInAll_27 rfl (lv_at hl 0 rfl) ?_
    cases h
    exact W.iret hx hb hr (X_fin C0 hw) hw.2.2.2 dX1_gramsInAll_28 hlocks
  · have h := ifn h hc7
    refine lv_iload_n hx hb dX1_gramsInAll_12 rfl (lv_at hl 1 rfl) ?_
    refine lv_aload_n hx hb dX1_gramsInAll_13 rfl (lv_at hl 2 rfl) ?_
    refine X_g30_4 C0 hw (fun w h => (List.mem_cons_of_mem _ (List.mem_append_right _ h))) ho ((List.mem_cons_of_mem _ (List.mem_append_left _ (List.mem_of_getElem? (i := 1) rfl)))) dX1_gramsInAll_14 ?_
    refine lv_iload_n hx hb dX1_gramsInAll_17 rfl (lv_at hl 0 rfl) ?_
    refine X_iald C0 hw h (k := v4.toNatClampNeg) rfl dX1_gramsInAll_18 (fun h => ?_)
    refine lv_iadd hx hb dX1_gramsInAll_19 ?_
    refine x_topi h (fun v8 h => ?_)
    refine lv_istore_n (lv' := [(1, .int v8), (2, .int v4), (0, .ref (E.2.2.1 30 oi))]) hx hb dX1_gramsInAll_20 rfl hl (by decide) rfl (fun ls hl => ?_)
    refine x_iinc hx hb h dX1_gramsInAll_21 hl (q := 1) rfl (fun v9 => [(2, .int v9), (1, .int v8), (0, .ref (E.2.2.1 30 oi))]) (by decide) (fun _ => rfl) (fun v9 ls hl h => ?_)
    refine lv_goto (tgt := 4) hx hb dX1_gramsInAll_24 (by decide) ?_
    exact hB2 _ (Option.some.inj h).symm _ _ hw _ (lv_sub hl [0, 1, 2] rfl)

def fX1_tell (oi : Nat) (a1 : Int32) (st : Sto) : Option Int32 :=
  if a1 = 0 then (
   some (gI st 30 oi 0)) else if a1 = 1 then (
   some (gI st 30 oi 1)) else if a1 = 2 then (
   some (gI st 30 oi 2)) else if a1 = 3 then (
   (fX1_gramsInAll oi st).bind (fun (v1 : Int32) =>
    some v1)) else (
   if gI st 30 oi 5 = 0 then (
    some (0 : Int32)) else (
    some (1 : Int32)))
set_option maxHeartbeats 4000000 in
set_option maxRecDepth 100000 in
theorem mX1_tell (l : Launch) (E : XE) (hL : LX E) (st : Sto) {oi : Nat} {a1 : Int32} (ho : oi < cntX 30) {r : Int32} (h : fX1_tell oi a1 st = some r) : Met l yX1_tell wsX1_tell ({ frames := 1, cells := 0, slots := 0, locals := 22 }) (va_Pc [.ref (E.2.2.1 30 oi), .int a1] (RX E st)) (QX E (some (.int r)) st) 0 0 E.2.2.2 := by
  refine Met.ofW (cc := cX1_tell) (maxL := 2) (ret := (some .int)) (by decide) rfl ?_
  intro p e s m args below meth c s₁ B hml hv
  obtain ⟨rfl, hP, hK⟩ := hv
  have hown : s.vm.findClass RX1 = some m.cls := findClass_of_methodNamed B.named
  have C0 : CX p m c cX1_tell 2 s _ wsX1_tell RX1 E := ⟨⟨B.exec, B.bytes, hml, hown, atoms_spec (ws := wsX1_tell) B.pre⟩, hK⟩
  have hx := B.exec
  have hb := B.bytes
  have hr := B.returns
  have hlocks := B.notSynchronized
  have hw : SX E s st s.heap [] := ⟨hP, va_S.rf⟩
  have hl := lv_entry ([.ref (E.2.2.1 30 oi), .int a1]) (n := 2) (Nat.le_of_ble_eq_true rfl)
  rw [lg_entry_eq]
  generalize (lg_sl ([.ref (E.2.2.1 30 oi), .int a1]) ++ List.replicate (2 - (lg_sl ([.ref (E.2.2.1 30 oi), .int a1])).length) Slot.unset).toArray = ls at hl ⊢
  have hl : lv_has ls 2 [(0, .ref (E.2.2.1 30 oi)), (1, .int a1)] := hl
  unfold fX1_tell at h
  refine lv_iload_n hx hb dX1_tell_0 rfl (lv_at hl 1 rfl) ?_
  by_cases hc0 : a1 = 0
  · have h := ifp h hc0
    refine lv_tableIn (tgt := 32) hx hb dX1_tell_1 (by rw [hc0]; decide) (by rw [hc0]; decide) (by rw [hc0]; rfl) (by decide) ?_
    refine lv_aload_n hx hb dX1_tell_32 rfl (lv_at hl 0 rfl) ?_
    refine X_g30_0 C0 hw (fun w h => (List.mem_cons_of_mem _ (List.mem_append_right _ h))) ho ((List.mem_cons_of_mem _ (List.mem_append_left _ (List.mem_of_getElem? (i := 0) rfl)))) dX1_tell_33 ?_
    cases h
    exact W.iret hx hb hr (X_fin C0 hw) hw.2.2.2 dX1_tell_36 hlocks
  have h := ifn h hc0
  by_cases hc1 : a1 = 1
  · have h := ifp h hc1
    refine lv_tableIn (tgt := 37) hx hb dX1_tell_1 (by rw [hc1]; decide) (by rw [hc1]; decide) (by rw [hc1]; rfl) (by decide) ?_
    refine lv_aload_n hx hb dX1_tell_37 rfl (lv_at hl 0 rfl) ?_
    refine X_g30_1 C0 hw (fun w h => (List.mem_cons_of_mem _ (List.mem_append_right _ h))) ho ((List.mem_cons_of_mem _ (List.mem_append_left _ (List.mem_of_getElem? (i := 1) rfl)))) dX1_tell_38 ?_
    cases h
    exact W.iret hx hb hr (X_fin C0 hw) hw.2.2.2 dX1_tell_41 hlocks
  have h := ifn h hc1
  by_cases hc2 : a1 = 2
  · have h := ifp h hc2
    refine lv_tableIn (tgt := 42) hx hb dX1_tell_1 (by rw [hc2]; decide) (by rw [hc2]; decide) (by rw [hc2]; rfl) (by decide) ?_
    refine lv_aload_n hx hb dX1_tell_42 rfl (lv_at hl 0 rfl) ?_
    refine X_g30_2 C0 hw (fun w h => (List.mem_cons_of_mem _ (List.mem_append_right _ h))) ho ((List.mem_cons_of_mem _ (List.mem_append_left _ (List.mem_of_getElem? (i := 2) rfl)))) dX1_tell_43 ?_
    cases h
    exact W.iret hx hb hr (X_fin C0 hw) hw.2.2.2 dX1_tell_46 hlocks
  have h := ifn h hc2
  by_cases hc3 : a1 = 3
  · have h := ifp h hc3
    refine lv_tableIn (tgt := 47) hx hb dX1_tell_1 (by rw [hc3]; decide) (by rw [hc3]; decide) (by rw [hc3]; rfl) (by decide) ?_
    refine lv_aload_n hx hb dX1_tell_47 rfl (lv_at hl 0 rfl) ?_
    obtain ⟨v1, hf2, h⟩ := bn_c h
    refine X_callV C0 hw (As := []) (rest := []) (mX1_gramsInAll l E hL st ho hf2) (cwV 0 C0.1.2.2.2.2 gX1_tell_X1_gramsInAll rfl rfl rfl (by decide +kernel) ⟨Nat.le_of_ble_eq_true rfl, Nat.le_of_ble_eq_true rfl⟩) (X_recv_30 C0 hw ho) rfl hl.1 rfl (Nat.le_of_ble_eq_true rfl) dX1_tell_48 ⟨Nat.zero_le _, Nat.zero_le _⟩ (fun H locs hw => ?_)
    refine W.eq (g2 := F0 m 51 ls [.int v1]) rfl ?_
    cases h
    exact W.iret hx hb hr (X_fin C0 hw) hw.2.2.2 dX1_tell_51 hlocks
  have h := ifn h hc3
  refine lv_tableOut (tgt := 52) hx hb dX1_tell_1 (by have := sw_ne (n := 0) hc0 (by decide); have := sw_ne (n := 1) hc1 (by decide); have := sw_ne (n := 2) hc2 (by decide); have := sw_ne (n := 3) hc3 (by decide); omega) (by decide) ?_
  refine lv_aload_n hx hb dX1_tell_52 rfl (lv_at hl 0 rfl) ?_
  refine X_g30_5 C0 hw (fun w h => (List.mem_cons_of_mem _ (List.mem_append_right _ h))) ho ((List.mem_cons_of_mem _ (List.mem_append_left _ (List.mem_of_getElem? (i := 3) rfl)))) dX1_tell_53 ?_
  refine lv_if_eq (tgt := 63) hx hb dX1_tell_56 (by decide) (fun hc3 => ?_) (fun hc3 => ?_)
  · have h := ifp h hc3
    refine lv_iconst (v := 0) hx hb dX1_tell_63 (by decide) ?_
    cases h
    exact W.iret hx hb hr (X_fin C0 hw) hw.2.2.2 dX1_tell_64 hlocks
  · have h := ifn h hc3
    refine lv_iconst (v := 1) hx hb dX1_tell_59 (by decide) ?_
    refine lv_goto (tgt := 64) hx hb dX1_tell_60 (by decide) ?_
    cases h
    exact W.iret hx hb hr (X_fin C0 hw) hw.2.2.2 dX1_tell_64 hlocks

def fX2_become (oi : Nat) (a1i : Nat) (a2i : Nat) (a3 : Int32) (a4 : Int32) (st : Sto) : Option Sto :=
  ((lp (σ := (Int32 × Sto)) (ρ := Sto) (un2 fun (v4 : Int32) (t5 : Sto) =>
     if (16 : Int32) ≤ v4 then (
      some (.inr t5)) else (
      ck (0 ≤ v4.toInt ∧ v4.toInt < (lFX (20) a1i : Int)) (
       nd (FP.f2d (gF t5 (20) a1i (v4.toNatClampNeg))) fun (v8 : UInt64) =>
       nd (FP.dmul v8 (FP.i2d a3)) fun (v9 : UInt64) =>
       ck (0 ≤ v4.toInt ∧ v4.toInt < (lFX (20) a2i : Int)) (
        nd (FP.f2d (gF t5 (20) a2i (v4.toNatClampNeg))) fun (v10 : UInt64) =>
        nd (FP.dmul v10 (FP.i2d (a4 - a3))) fun (v11 : UInt64) =>
        nd (FP.dadd v9 v11) fun (v12 : UInt64) =>
        nd (FP.ddiv v12 (FP.i2d a4)) fun (v13 : UInt64) =>
        nf (FP.d2f v13) fun (v14 : UInt32) =>
        ck (0 ≤ v4.toInt ∧ v4.toInt < (lFX (20) oi : Int)) (lt1 (sF t5 (20) oi (v4.toNatClampNeg) v14) fun (t15 : Sto) =>
         lt1 (v4 + Int32.ofInt (1)) fun (v16 : Int32) =>
         some (.inl (v16, t15))))))) 4000 ((0 : Int32), st)).bind
   (fun (t6 : Sto) =>
    some t6))
set_option maxHeartbeats 4000000 in
set_option maxRecDepth 100000 in
theorem mX2_become (l : Launch) (E : XE) (hL : LX E) (st : Sto) {oi : Nat} {a1i : Nat} {a2i : Nat} {a3 : Int32} {a4 : Int32} (ho : oi < cntX 19) (ha1 : a1i < cntX 19) (ha2 : a2i < cntX 19) {st1 : Sto} (h : fX2_become oi a1i a2i a3 a4 st = some st1) : Met l yX2_become wsX2_become ({ frames := 0, cells := 0, slots := 0, locals := 0 }) (va_Pc [.ref (E.2.2.1 19 oi), .ref (E.2.2.1 19 a1i), .ref (E.2.2.1 19 a2i), .int a3, .int a4] (RX E st)) (QX E none st1) 0 0 E.2.2.2 := by
  refine Met.ofW (cc := cX2_become) (maxL := 6) (ret := none) (by decide) rfl ?_
  intro p e s m args below meth c s₁ B hml hv
  obtain ⟨rfl, hP, hK⟩ := hv
  have hown : s.vm.findClass RX2 = some m.cls := findClass_of_methodNamed B.named
  have C0 : CX p m c cX2_become 6 s _ wsX2_become RX2 E := ⟨⟨B.exec, B.bytes, hml, hown, atoms_spec (ws := wsX2_become) B.pre⟩, hK⟩
  have hx := B.exec
  have hb := B.bytes
  have hr := B.returns
  have hlocks := B.notSynchronized
  have hw : SX E s st s.heap [] := ⟨hP, va_S.rf⟩
  have hl := lv_entry ([.ref (E.2.2.1 19 oi), .ref (E.2.2.1 19 a1i), .ref (E.2.2.1 19 a2i), .int a3, .int a4]) (n := 6) (Nat.le_of_ble_eq_true rfl)
  rw [lg_entry_eq]
  generalize (lg_sl ([.ref (E.2.2.1 19 oi), .ref (E.2.2.1 19 a1i), .ref (E.2.2.1 19 a2i), .int a3, .int a4]) ++ List.replicate (6 - (lg_sl ([.ref (E.2.2.1 19 oi), .ref (E.2.2.1 19 a1i), .ref (E.2.2.1 19 a2i), .int a3, .int a4])).length) Slot.unset).toArray = ls at hl ⊢
  have hl : lv_has ls 6 [(0, .ref (E.2.2.1 19 oi)), (1, .ref (E.2.2.1 19 a1i)), (2, .ref (E.2.2.1 19 a2i)), (3, .int a3), (4, .int a4)] := hl
  unfold fX2_become at h
  refine lv_iconst (v := 0) hx hb dX2_become_0 (by decide) ?_
  refine lv_istore (lv' := [(5, .int (0 : Int32)), (0, .ref (E.2.2.1 19 oi)), (1, .ref (E.2.2.1 19 a1i)), (2, .ref (E.2.2.1 19 a2i)), (3, .int a3), (4, .int a4)]) hx hb dX2_become_1 hl (by decide) rfl (fun ls hl => ?_)
  refine lp_ind (fun q : (Int32 × Sto) => ∀ (H : Heap) (locs : List Loc), SX E s (q.2) H locs → ∀ ls : Array Slot, lv_has ls 6 [(5, .int (q.1)), (0, .ref (E.2.2.1 19 oi)), (1, .ref (E.2.2.1 19 a1i)), (2, .ref (E.2.2.1 19 a2i)), (3, .int a3), (4, .int a4)] → W p l e (headSpec wsX2_become ({ frames := 0, cells := 0, slots := 0, locals := 0 })).room s m ([.ref (E.2.2.1 19 oi), .ref (E.2.2.1 19 a1i), .ref (E.2.2.1 19 a2i), .int a3, .int a4] : List Value).toArray below meth c H locs 0 0 (MQ below (QX E none st1) ([.ref (E.2.2.1 19 oi), .ref (E.2.2.1 19 a1i), .ref (E.2.2.1 19 a2i), .int a3, .int a4] : List Value).toArray s 0 0 E.2.2.2) (F0 m 3 ls [])) (fun q o3 h hB2 hX1 => ?_) _ _ h _ _ hw _ (lv_sub hl [0, 1, 2, 3, 4, 5] rfl)
  intro H locs hw ls hl
  obtain ⟨v4, t5⟩ := q
  have h := un2_d h
  have hw : SX E s t5 H locs := hw
  have hl : lv_has ls 6 [(5, .int v4), (0, .ref (E.2.2.1 19 oi)), (1, .ref (E.2.2.1 19 a1i)), (2, .ref (E.2.2.1 19 a2i)), (3, .int a3), (4, .int a4)] := hl
  refine lv_iload hx hb dX2_become_3 (lv_at hl 0 rfl) ?_
  refine lv_bipush (v := 16) hx hb dX2_become_5 (by decide) ?_
  refine lv_icmp_ge (tgt := 54) hx hb dX2_become_7 (by decide) (fun hc7 => ?_) (fun hc7 => ?_)
  · have h := ifp h hc7
    have h := hX1 _ (Option.some.inj h).symm
    have hl := lv_sub hl (l' := []) [] rfl
    cases h
    exact W.vret hx hb hr (X_fin C0 hw) hw.2.2.2 dX2_become_54 hlocks
  · have h := ifn h hc7
    refine lv_aload_n hx hb dX2_become_10 rfl (lv_at hl 1 rfl) ?_
    refine X_g19_0 C0 hw (fun w h => (List.mem_cons_of_mem _ (List.mem_append_right _ h))) ho ((List.mem_cons_of_mem _ (List.mem_append_left _ (List.mem_of_getElem? (i := 0) rfl)))) dX2_become_11 ?_
    refine lv_iload hx hb dX2_become_14 (lv_at hl 0 rfl) ?_
    refine lv_aload_n hx hb dX2_become_16 rfl (lv_at hl 2 rfl) ?_
    refine X_g19_0 C0 hw (fun w h => (List.mem_cons_of_mem _ (List.mem_append_right _ h))) ha1 ((List.mem_cons_of_mem _ (List.mem_append_left _ (List.mem_of_getElem? (i := 0) rfl)))) dX2_become_17 ?_
    refine lv_iload hx hb dX2_become_20 (lv_at hl 0 rfl) ?_
    refine X_fald C0 hw h (k := v4.toNatClampNeg) rfl dX2_become_22 (fun h => ?_)
    refine x_f2d hx hb h dX2_become_23 (fun v8 h => ?_)
    refine lv_iload_n hx hb dX2_become_24 rfl (lv_at hl 4 rfl) ?_
    refine lv_i2d hx hb dX2_become_25 ?_
    refine x_dmul hx hb h dX2_become_26 (fun v9 h => ?_)
    refine lv_aload_n hx hb dX2_become_27 rfl (lv_at hl 3 rfl) ?_
    refine X_g19_0 C0 hw (fun w h => (List.mem_cons_of_mem _ (List.mem_append_right _ h))) ha2 ((List.mem_cons_of_mem _ (List.mem_append_left _ (List.mem_of_getElem? (i := 0) rfl)))) dX2_become_28 ?_
    refine lv_iload hx hb dX2_become_31 (lv_at hl 0 rfl) ?_
    refine X_fald C0 hw h (k := v4.toNatClampNeg) rfl dX2_become_33 (fun h => ?_)
    refine x_f2d hx hb h dX2_become_34 (fun v10 h => ?_)
    refine lv_iload hx hb dX2_become_35 (lv_at hl 5 rfl) ?_
    refine lv_iload_n hx hb dX2_become_37 rfl (lv_at hl 4 rfl) ?_
    refine lv_isub hx hb dX2_become_38 ?_
    refine lv_i2d hx hb dX2_become_39 ?_
    refine x_dmul hx hb h dX2_become_40 (fun v11 h => ?_)
    refine x_dadd hx hb h dX2_become_41 (fun v12 h => ?_)
    refine lv_iload hx hb dX2_become_42 (lv_at hl 5 rfl) ?_
    refine lv_i2d hx hb dX2_become_44 ?_
    refine x_ddiv hx hb h dX2_become_45 (fun v13 h => ?_)
    refine x_d2f hx hb h dX2_become_46 (fun v14 h => ?_)
    refine X_fast hL C0 hw h (k := v4.toNatClampNeg) rfl dX2_become_47 (fun t15 H locs hw h => ?_)
    refine x_iinc hx hb h dX2_become_48 hl (q := 0) rfl (fun v16 => [(5, .int v16), (0, .ref (E.2.2.1 19 oi)), (1, .ref (E.2.2.1 19 a1i)), (2, .ref (E.2.2.1 19 a2i)), (3, .int a3), (4, .int a4)]) (by decide) (fun _ => rfl) (fun v16 ls hl h => ?_)
    refine lv_goto (tgt := 3) hx hb dX2_become_51 (by decide) ?_
    exact hB2 _ (Option.some.inj h).symm _ _ hw _ (lv_sub hl [0, 1, 2, 3, 4, 5] rfl)

def fX2_remeasureAs (oi : Nat) (a1f : Nat) (a1i : Nat) (st : Sto) : Option Sto :=
  ((lp (σ := (Int32 × Sto)) (ρ := Sto) (un2 fun (v4 : Int32) (t5 : Sto) =>
     if (16 : Int32) ≤ v4 then (
      some (.inr t5)) else (
      ck (0 ≤ v4.toInt ∧ v4.toInt < (lFX a1f a1i : Int)) (
       ck (0 ≤ v4.toInt ∧ v4.toInt < (lFX (20) oi : Int)) (
        nf (FP.fsub (gF t5 a1f a1i (v4.toNatClampNeg)) (gF t5 (20) oi (v4.toNatClampNeg))) fun (v8 : UInt32) =>
        ck (0 ≤ v4.toInt ∧ v4.toInt < (lFX (21) oi : Int)) (lt1 (sF t5 (21) oi (v4.toNatClampNeg) v8) fun (t9 : Sto) =>
         ck (0 ≤ v4.toInt ∧ v4.toInt < (lFX a1f a1i : Int)) (
          ck (0 ≤ v4.toInt ∧ v4.toInt < (lFX (20) oi : Int)) (lt1 (sF t9 (20) oi (v4.toNatClampNeg) (gF t9 a1f a1i (v4.toNatClampNeg))) fun (t10 : Sto) =>
           lt1 (v4 + Int32.ofInt (1)) fun (v11 : Int32) =>
           some (.inl (v11, t10))))))))) 4000 ((0 : Int32), st)).bind
   (fun (t6 : Sto) =>
    some t6))
set_option maxHeartbeats 4000000 in
set_option maxRecDepth 100000 in
theorem mX2_remeasureAs (l : Launch) (E : XE) (hL : LX E) (st : Sto) {oi : Nat} {a1f : Nat} {a1i : Nat} (ho : oi < cntX 19) {st1 : Sto} (h : fX2_remeasureAs oi a1f a1i st = some st1) : Met l yX2_remeasureAs wsX2_remeasureAs ({ frames := 0, cells := 0, slots := 0, locals := 0 }) (va_Pc [.ref (E.2.2.1 19 oi), .ref (E.2.2.1 a1f a1i)] (RX E st)) (QX E none st1) 0 0 E.2.2.2 := by
  refine Met.ofW (cc := cX2_remeasureAs) (maxL := 3) (ret := none) (by decide) rfl ?_
  intro p e s m args below meth c s₁ B hml hv
  obtain ⟨rfl, hP, hK⟩ := hv
  have hown : s.vm.findClass RX2 = some m.cls := findClass_of_methodNamed B.named
  have C0 : CX p m c cX2_remeasureAs 3 s _ wsX2_remeasureAs RX2 E := ⟨⟨B.exec, B.bytes, hml, hown, atoms_spec (ws := wsX2_remeasureAs) B.pre⟩, hK⟩
  have hx := B.exec
  have hb := B.bytes
  have hr := B.returns
  have hlocks := B.notSynchronized
  have hw : SX E s st s.heap [] := ⟨hP, va_S.rf⟩
  have hl := lv_entry ([.ref (E.2.2.1 19 oi), .ref (E.2.2.1 a1f a1i)]) (n := 3) (Nat.le_of_ble_eq_true rfl)
  rw [lg_entry_eq]
  generalize (lg_sl ([.ref (E.2.2.1 19 oi), .ref (E.2.2.1 a1f a1i)]) ++ List.replicate (3 - (lg_sl ([.ref (E.2.2.1 19 oi), .ref (E.2.2.1 a1f a1i)])).length) Slot.unset).toArray = ls at hl ⊢
  have hl : lv_has ls 3 [(0, .ref (E.2.2.1 19 oi)), (1, .ref (E.2.2.1 a1f a1i))] := hl
  unfold fX2_remeasureAs at h
  refine lv_iconst (v := 0) hx hb dX2_remeasureAs_0 (by decide) ?_
  refine lv_istore_n (lv' := [(2, .int (0 : Int32)), (0, .ref (E.2.2.1 19 oi)), (1, .ref (E.2.2.1 a1f a1i))]) hx hb dX2_remeasureAs_1 rfl hl (by decide) rfl (fun ls hl => ?_)
  refine lp_ind (fun q : (Int32 × Sto) => ∀ (H : Heap) (locs : List Loc), SX E s (q.2) H locs → ∀ ls : Array Slot, lv_has ls 3 [(2, .int (q.1)), (0, .ref (E.2.2.1 19 oi)), (1, .ref (E.2.2.1 a1f a1i))] → W p l e (headSpec wsX2_remeasureAs ({ frames := 0, cells := 0, slots := 0, locals := 0 })).room s m ([.ref (E.2.2.1 19 oi), .ref (E.2.2.1 a1f a1i)] : List Value).toArray below meth c H locs 0 0 (MQ below (QX E none st1) ([.ref (E.2.2.1 19 oi), .ref (E.2.2.1 a1f a1i)] : List Value).toArray s 0 0 E.2.2.2) (F0 m 2 ls [])) (fun q o3 h hB2 hX1 => ?_) _ _ h _ _ hw _ (lv_sub hl [0, 1, 2] rfl)
  intro H locs hw ls hl
  obtain ⟨v4, t5⟩ := q
  have h := un2_d h
  have hw : SX E s t5 H locs := hw
  have hl : lv_has ls 3 [(2, .int v4), (0, .ref (E.2.2.1 19 oi)), (1, .ref (E.2.2.1 a1f a1i))] := hl
  refine lv_iload_n hx hb dX2_remeasureAs_2 rfl (lv_at hl 0 rfl) ?_
  refine lv_bipush (v := 16) hx hb dX2_remeasureAs_3 (by decide) ?_
  refine lv_icmp_ge (tgt := 39) hx hb dX2_remeasureAs_5 (by decide) (fun hc7 => ?_) (fun hc7 => ?_)
  · have h := ifp h hc7
    have h := hX1 _ (Option.some.inj h).symm
    have hl := lv_sub hl (l' := []) [] rfl
    cases h
    exact W.vret hx hb hr (X_fin C0 hw) hw.2.2.2 dX2_remeasureAs_39 hlocks
  · have h := ifn h hc7
    refine lv_aload_n hx hb dX2_remeasureAs_8 rfl (lv_at hl 1 rfl) ?_
    refine X_g19_1 C0 hw (fun w h => (List.mem_cons_of_mem _ (List.mem_append_right _ h))) ho ((List.mem_cons_of_mem _ (List.mem_append_left _ (List.mem_of_getElem? (i := 0) rfl)))) dX2_remeasureAs_9 ?_
    refine lv_iload_n hx hb dX2_remeasureAs_12 rfl (lv_at hl 0 rfl) ?_
    refine lv_aload_n hx hb dX2_remeasureAs_13 rfl (lv_at hl 2 rfl) ?_
    refine lv_iload_n hx hb dX2_remeasureAs_14 rfl (lv_at hl 0 rfl) ?_
    refine X_fald C0 hw h (k := v4.toNatClampNeg) rfl dX2_remeasureAs_15 (fun h => ?_)
    refine lv_aload_n hx hb dX2_remeasureAs_16 rfl (lv_at hl 1 rfl) ?_
    refine X_g19_0 C0 hw (fun w h => (List.mem_cons_of_mem _ (List.mem_append_right _ h))) ho ((List.mem_cons_of_mem _ (List.mem_append_left _ (List.mem_of_getElem? (i := 1) rfl)))) dX2_remeasureAs_17 ?_
    refine lv_iload_n hx hb dX2_remeasureAs_20 rfl (lv_at hl 0 rfl) ?_
    refine X_fald C0 hw h (k := v4.toNatClampNeg) rfl dX2_remeasureAs_21 (fun h => ?_)
    refine x_fsub hx hb h dX2_remeasureAs_22 (fun v8 h => ?_)
    refine X_fast hL C0 hw h (k := v4.toNatClampNeg) rfl dX2_remeasureAs_23 (fun t9 H locs hw h => ?_)
    refine lv_aload_n hx hb dX2_remeasureAs_24 rfl (lv_at hl 1 rfl) ?_
    refine X_g19_0 C0 hw (fun w h => (List.mem_cons_of_mem _ (List.mem_append_right _ h))) ho ((List.mem_cons_of_mem _ (List.mem_append_left _ (List.mem_of_getElem? (i := 1) rfl)))) dX2_remeasureAs_25 ?_
    refine lv_iload_n hx hb dX2_remeasureAs_28 rfl (lv_at hl 0 rfl) ?_
    refine lv_aload_n hx hb dX2_remeasureAs_29 rfl (lv_at hl 2 rfl) ?_
    refine lv_iload_n hx hb dX2_remeasureAs_30 rfl (lv_at hl 0 rfl) ?_
    refine X_fald C0 hw h (k := v4.toNatClampNeg) rfl dX2_remeasureAs_31 (fun h => ?_)
    refine X_fast hL C0 hw h (k := v4.toNatClampNeg) rfl dX2_remeasureAs_32 (fun t10 H locs hw h => ?_)
    refine x_iinc hx hb h dX2_remeasureAs_33 hl (q := 0) rfl (fun v11 => [(2, .int v11), (0, .ref (E.2.2.1 19 oi)), (1, .ref (E.2.2.1 a1f a1i))]) (by decide) (fun _ => rfl) (fun v11 ls hl h => ?_)
    refine lv_goto (tgt := 2) hx hb dX2_remeasureAs_36 (by decide) ?_
    exact hB2 _ (Option.some.inj h).symm _ _ hw _ (lv_sub hl [0, 1, 2] rfl)

def fX2_keepIn (oi : Nat) (a1f : Nat) (a1i : Nat) (st : Sto) : Option Sto :=
  ck (16 ≤ lFX (20) oi ∧ 16 ≤ lFX a1f a1i ) (lt1 (cF st (20) oi 0 a1f a1i 0 16) fun (t1 : Sto) =>
   ck (16 ≤ lFX (21) oi ∧ 32 ≤ lFX a1f a1i ) (lt1 (cF t1 (21) oi 0 a1f a1i 16 16) fun (t2 : Sto) =>
    some t2))
set_option maxHeartbeats 4000000 in
set_option maxRecDepth 100000 in
theorem mX2_keepIn (l : Launch) (E : XE) (hL : LX E) (st : Sto) {oi : Nat} {a1f : Nat} {a1i : Nat} (ho : oi < cntX 19) {st1 : Sto} (h : fX2_keepIn oi a1f a1i st = some st1) : Met l yX2_keepIn wsX2_keepIn ({ frames := 1, cells := 0, slots := 0, locals := 48 }) (va_Pc [.ref (E.2.2.1 19 oi), .ref (E.2.2.1 a1f a1i)] (RX E st)) (QX E none st1) 0 0 E.2.2.2 := by
  refine Met.ofW (cc := cX2_keepIn) (maxL := 2) (ret := none) (by decide) rfl ?_
  intro p e s m args below meth c s₁ B hml hv
  obtain ⟨rfl, hP, hK⟩ := hv
  have hown : s.vm.findClass RX2 = some m.cls := findClass_of_methodNamed B.named
  have C0 : CX p m c cX2_keepIn 2 s _ wsX2_keepIn RX2 E := ⟨⟨B.exec, B.bytes, hml, hown, atoms_spec (ws := wsX2_keepIn) B.pre⟩, hK⟩
  have hx := B.exec
  have hb := B.bytes
  have hr := B.returns
  have hlocks := B.notSynchronized
  have hw : SX E s st s.heap [] := ⟨hP, va_S.rf⟩
  have hl := lv_entry ([.ref (E.2.2.1 19 oi), .ref (E.2.2.1 a1f a1i)]) (n := 2) (Nat.le_of_ble_eq_true rfl)
  rw [lg_entry_eq]
  generalize (lg_sl ([.ref (E.2.2.1 19 oi), .ref (E.2.2.1 a1f a1i)]) ++ List.replicate (2 - (lg_sl ([.ref (E.2.2.1 19 oi), .ref (E.2.2.1 a1f a1i)])).length) Slot.unset).toArray = ls at hl ⊢
  have hl : lv_has ls 2 [(0, .ref (E.2.2.1 19 oi)), (1, .ref (E.2.2.1 a1f a1i))] := hl
  unfold fX2_keepIn at h
  refine lv_aload_n hx hb dX2_keepIn_0 rfl (lv_at hl 0 rfl) ?_
  refine X_g19_0 C0 hw (fun w h => (List.mem_cons_of_mem _ (List.mem_append_right _ h))) ho ((List.mem_cons_of_mem _ (List.mem_append_left _ (List.mem_of_getElem? (i := 0) rfl)))) dX2_keepIn_1 ?_
  refine lv_iconst (v := 0) hx hb dX2_keepIn_4 (by decide) ?_
  refine lv_aload_n hx hb dX2_keepIn_5 rfl (lv_at hl 1 rfl) ?_
  refine lv_iconst (v := 0) hx hb dX2_keepIn_6 (by decide) ?_
  refine lv_bipush (v := 16) hx hb dX2_keepIn_7 (by decide) ?_
  refine X_cpf hL C0 hw h (sp := 0) (dp := 0) (n := 16) rfl rfl rfl (by decide) (by decide) ⟨by decide, by decide⟩ (hml.trans hl.1.symm) hown (C0.1.2.2.2.2 _ (List.mem_cons_of_mem _ (List.mem_append_left _ (List.mem_of_getElem? (i := 1) rfl)))) (C0.1.2.2.2.2 _ (List.mem_cons_of_mem _ (List.mem_append_left _ (List.mem_of_getElem? (i := 2) rfl)))) (C0.1.2.2.2.2 _ (List.mem_cons_of_mem _ (List.mem_append_left _ (List.mem_of_getElem? (i := 3) rfl)))) (C0.1.2.2.2.2 _ (List.mem_cons_of_mem _ (List.mem_append_left _ (List.mem_of_getElem? (i := 4) rfl)))) (Nat.le_of_ble_eq_true rfl) (Nat.le_of_ble_eq_true rfl) dX2_keepIn_9 (fun t1 H locs hw h => ?_)
  refine lv_aload_n hx hb dX2_keepIn_12 rfl (lv_at hl 0 rfl) ?_
  refine X_g19_1 C0 hw (fun w h => (List.mem_cons_of_mem _ (List.mem_append_right _ h))) ho ((List.mem_cons_of_mem _ (List.mem_append_left _ (List.mem_of_getElem? (i := 5) rfl)))) dX2_keepIn_13 ?_
  refine lv_iconst (v := 0) hx hb dX2_keepIn_16 (by decide) ?_
  refine lv_aload_n hx hb dX2_keepIn_17 rfl (lv_at hl 1 rfl) ?_
  refine lv_bipush (v := 16) hx hb dX2_keepIn_18 (by decide) ?_
  refine lv_bipush (v := 16) hx hb dX2_keepIn_20 (by decide) ?_
  refine X_cpf hL C0 hw h (sp := 0) (dp := 16) (n := 16) rfl rfl rfl (by decide) (by decide) ⟨by decide, by decide⟩ (hml.trans hl.1.symm) hown (C0.1.2.2.2.2 _ (List.mem_cons_of_mem _ (List.mem_append_left _ (List.mem_of_getElem? (i := 1) rfl)))) (C0.1.2.2.2.2 _ (List.mem_cons_of_mem _ (List.mem_append_left _ (List.mem_of_getElem? (i := 2) rfl)))) (C0.1.2.2.2.2 _ (List.mem_cons_of_mem _ (List.mem_append_left _ (List.mem_of_getElem? (i := 3) rfl)))) (C0.1.2.2.2.2 _ (List.mem_cons_of_mem _ (List.mem_append_left _ (List.mem_of_getElem? (i := 4) rfl)))) (Nat.le_of_ble_eq_true rfl) (Nat.le_of_ble_eq_true rfl) dX2_keepIn_22 (fun t2 H locs hw h => ?_)
  cases h
  exact W.vret hx hb hr (X_fin C0 hw) hw.2.2.2 dX2_keepIn_25 hlocks

def fX2_restoreFrom (oi : Nat) (a1f : Nat) (a1i : Nat) (st : Sto) : Option Sto :=
  ck (16 ≤ lFX a1f a1i ∧ 16 ≤ lFX (20) oi ) (lt1 (cF st a1f a1i 0 (20) oi 0 16) fun (t1 : Sto) =>
   ck (32 ≤ lFX a1f a1i ∧ 16 ≤ lFX (21) oi ) (lt1 (cF t1 a1f a1i 16 (21) oi 0 16) fun (t2 : Sto) =>
    some t2))
set_option maxHeartbeats 4000000 in
set_option maxRecDepth 100000 in
theorem mX2_restoreFrom (l : Launch) (E : XE) (hL : LX E) (st : Sto) {oi : Nat} {a1f : Nat} {a1i : Nat} (ho : oi < cntX 19) {st1 : Sto} (h : fX2_restoreFrom oi a1f a1i st = some st1) : Met l yX2_restoreFrom wsX2_restoreFrom ({ frames := 1, cells := 0, slots := 0, locals := 48 }) (va_Pc [.ref (E.2.2.1 19 oi), .ref (E.2.2.1 a1f a1i)] (RX E st)) (QX E none st1) 0 0 E.2.2.2 := by
  refine Met.ofW (cc := cX2_restoreFrom) (maxL := 2) (ret := none) (by decide) rfl ?_
  intro p e s m args below meth c s₁ B hml hv
  obtain ⟨rfl, hP, hK⟩ := hv
  have hown : s.vm.findClass RX2 = some m.cls := findClass_of_methodNamed B.named
  have C0 : CX p m c cX2_restoreFrom 2 s _ wsX2_restoreFrom RX2 E := ⟨⟨B.exec, B.bytes, hml, hown, atoms_spec (ws := wsX2_restoreFrom) B.pre⟩, hK⟩
  have hx := B.exec
  have hb := B.bytes
  have hr := B.returns
  have hlocks := B.notSynchronized
  have hw : SX E s st s.heap [] := ⟨hP, va_S.rf⟩
  have hl := lv_entry ([.ref (E.2.2.1 19 oi), .ref (E.2.2.1 a1f a1i)]) (n := 2) (Nat.le_of_ble_eq_true rfl)
  rw [lg_entry_eq]
  generalize (lg_sl ([.ref (E.2.2.1 19 oi), .ref (E.2.2.1 a1f a1i)]) ++ List.replicate (2 - (lg_sl ([.ref (E.2.2.1 19 oi), .ref (E.2.2.1 a1f a1i)])).length) Slot.unset).toArray = ls at hl ⊢
  have hl : lv_has ls 2 [(0, .ref (E.2.2.1 19 oi)), (1, .ref (E.2.2.1 a1f a1i))] := hl
  unfold fX2_restoreFrom at h
  refine lv_aload_n hx hb dX2_restoreFrom_0 rfl (lv_at hl 1 rfl) ?_
  refine lv_iconst (v := 0) hx hb dX2_restoreFrom_1 (by decide) ?_
  refine lv_aload_n hx hb dX2_restoreFrom_2 rfl (lv_at hl 0 rfl) ?_
  refine X_g19_0 C0 hw (fun w h => (List.mem_cons_of_mem _ (List.mem_append_right _ h))) ho ((List.mem_cons_of_mem _ (List.mem_append_left _ (List.mem_of_getElem? (i := 0) rfl)))) dX2_restoreFrom_3 ?_
  refine lv_iconst (v := 0) hx hb dX2_restoreFrom_6 (by decide) ?_
  refine lv_bipush (v := 16) hx hb dX2_restoreFrom_7 (by decide) ?_
  refine X_cpf hL C0 hw h (sp := 0) (dp := 0) (n := 16) rfl rfl rfl (by decide) (by decide) ⟨by decide, by decide⟩ (hml.trans hl.1.symm) hown (C0.1.2.2.2.2 _ (List.mem_cons_of_mem _ (List.mem_append_left _ (List.mem_of_getElem? (i := 1) rfl)))) (C0.1.2.2.2.2 _ (List.mem_cons_of_mem _ (List.mem_append_left _ (List.mem_of_getElem? (i := 2) rfl)))) (C0.1.2.2.2.2 _ (List.mem_cons_of_mem _ (List.mem_append_left _ (List.mem_of_getElem? (i := 3) rfl)))) (C0.1.2.2.2.2 _ (List.mem_cons_of_mem _ (List.mem_append_left _ (List.mem_of_getElem? (i := 4) rfl)))) (Nat.le_of_ble_eq_true rfl) (Nat.le_of_ble_eq_true rfl) dX2_restoreFrom_9 (fun t1 H locs hw h => ?_)
  refine lv_aload_n hx hb dX2_restoreFrom_12 rfl (lv_at hl 1 rfl) ?_
  refine lv_bipush (v := 16) hx hb dX2_restoreFrom_13 (by decide) ?_
  refine lv_aload_n hx hb dX2_restoreFrom_15 rfl (lv_at hl 0 rfl) ?_
  refine X_g19_1 C0 hw (fun w h => (List.mem_cons_of_mem _ (List.mem_append_right _ h))) ho ((List.mem_cons_of_mem _ (List.mem_append_left _ (List.mem_of_getElem? (i := 5) rfl)))) dX2_restoreFrom_16 ?_
  refine lv_iconst (v := 0) hx hb dX2_restoreFrom_19 (by decide) ?_
  refine lv_bipush (v := 16) hx hb dX2_restoreFrom_20 (by decide) ?_
  refine X_cpf hL C0 hw h (sp := 16) (dp := 0) (n := 16) rfl rfl rfl (by decide) (by decide) ⟨by decide, by decide⟩ (hml.trans hl.1.symm) hown (C0.1.2.2.2.2 _ (List.mem_cons_of_mem _ (List.mem_append_left _ (List.mem_of_getElem? (i := 1) rfl)))) (C0.1.2.2.2.2 _ (List.mem_cons_of_mem _ (List.mem_append_left _ (List.mem_of_getElem? (i := 2) rfl)))) (C0.1.2.2.2.2 _ (List.mem_cons_of_mem _ (List.mem_append_left _ (List.mem_of_getElem? (i := 3) rfl)))) (C0.1.2.2.2.2 _ (List.mem_cons_of_mem _ (List.mem_append_left _ (List.mem_of_getElem? (i := 4) rfl)))) (Nat.le_of_ble_eq_true rfl) (Nat.le_of_ble_eq_true rfl) dX2_restoreFrom_22 (fun t2 H locs hw h => ?_)
  cases h
  exact W.vret hx hb hr (X_fin C0 hw) hw.2.2.2 dX2_restoreFrom_25 hlocks

def fX3_begin (oi : Nat) (a1 : Int32) (st : Sto) : Option Sto :=
  lt1 (sI st 22 oi 0 a1) fun (t1 : Sto) =>
  lt1 (sI t1 22 oi 1 (0 : Int32)) fun (t2 : Sto) =>
  lt1 (sI t2 22 oi 2 (0 : Int32)) fun (t3 : Sto) =>
  some t3
set_option maxHeartbeats 4000000 in
set_option maxRecDepth 100000 in
theorem mX3_begin (l : Launch) (E : XE) (hL : LX E) (st : Sto) {oi : Nat} {a1 : Int32} (ho : oi < cntX 22) {st1 : Sto} (h : fX3_begin oi a1 st = some st1) : Met l yX3_begin wsX3_begin ({ frames := 0, cells := 0, slots := 0, locals := 0 }) (va_Pc [.ref (E.2.2.1 22 oi), .int a1] (RX E st)) (QX E none st1) 0 0 E.2.2.2 := by
  refine Met.ofW (cc := cX3_begin) (maxL := 2) (ret := none) (by decide) rfl ?_
  intro p e s m args below meth c s₁ B hml hv
  obtain ⟨rfl, hP, hK⟩ := hv
  have hown : s.vm.findClass RX3 = some m.cls := findClass_of_methodNamed B.named
  have C0 : CX p m c cX3_begin 2 s _ wsX3_begin RX3 E := ⟨⟨B.exec, B.bytes, hml, hown, atoms_spec (ws := wsX3_begin) B.pre⟩, hK⟩
  have hx := B.exec
  have hb := B.bytes
  have hr := B.returns
  have hlocks := B.notSynchronized
  have hw : SX E s st s.heap [] := ⟨hP, va_S.rf⟩
  have hl := lv_entry ([.ref (E.2.2.1 22 oi), .int a1]) (n := 2) (Nat.le_of_ble_eq_true rfl)
  rw [lg_entry_eq]
  generalize (lg_sl ([.ref (E.2.2.1 22 oi), .int a1]) ++ List.replicate (2 - (lg_sl ([.ref (E.2.2.1 22 oi), .int a1])).length) Slot.unset).toArray = ls at hl ⊢
  have hl : lv_has ls 2 [(0, .ref (E.2.2.1 22 oi)), (1, .int a1)] := hl
  unfold fX3_begin at h
  refine lv_aload_n hx hb dX3_begin_0 rfl (lv_at hl 0 rfl) ?_
  refine lv_iload_n hx hb dX3_begin_1 rfl (lv_at hl 1 rfl) ?_
  refine X_p22_0 hL C0 hw (fun w h => (List.mem_cons_of_mem _ (List.mem_append_right _ h))) ho h ((List.mem_cons_of_mem _ (List.mem_append_left _ (List.mem_of_getElem? (i := 0) rfl)))) dX3_begin_2 (fun t1 H locs hw h => ?_)
  refine lv_aload_n hx hb dX3_begin_5 rfl (lv_at hl 0 rfl) ?_
  refine lv_iconst (v := 0) hx hb dX3_begin_6 (by decide) ?_
  refine X_p22_1 hL C0 hw (fun w h => (List.mem_cons_of_mem _ (List.mem_append_right _ h))) ho h ((List.mem_cons_of_mem _ (List.mem_append_left _ (List.mem_of_getElem? (i := 1) rfl)))) dX3_begin_7 (fun t2 H locs hw h => ?_)
  refine lv_aload_n hx hb dX3_begin_10 rfl (lv_at hl 0 rfl) ?_
  refine lv_iconst (v := 0) hx hb dX3_begin_11 (by decide) ?_
  refine X_p22_2 hL C0 hw (fun w h => (List.mem_cons_of_mem _ (List.mem_append_right _ h))) ho h ((List.mem_cons_of_mem _ (List.mem_append_left _ (List.mem_of_getElem? (i := 2) rfl)))) dX3_begin_12 (fun t3 H locs hw h => ?_)
  cases h
  exact W.vret hx hb hr (X_fin C0 hw) hw.2.2.2 dX3_begin_15 hlocks

def fX3_lastGrams (oi : Nat) (st : Sto) : Option Int32 :=
  if gI st 22 oi 2 = 0 then (
   some (0 : Int32)) else (
   ck (0 ≤ ((gI st 22 oi 2) - (1 : Int32)).toInt ∧ ((gI st 22 oi 2) - (1 : Int32)).toInt < (lIX (23) oi : Int)) (
    some (gI st (23) oi (((gI st 22 oi 2) - (1 : Int32)).toNatClampNeg))))
set_option maxHeartbeats 4000000 in
set_option maxRecDepth 100000 in
theorem mX3_lastGrams (l : Launch) (E : XE) (hL : LX E) (st : Sto) {oi : Nat} (ho : oi < cntX 22) {r : Int32} (h : fX3_lastGrams oi st = some r) : Met l yX3_lastGrams wsX3_lastGrams ({ frames := 0, cells := 0, slots := 0, locals := 0 }) (va_Pc [.ref (E.2.2.1 22 oi)] (RX E st)) (QX E (some (.int r)) st) 0 0 E.2.2.2 := by
  refine Met.ofW (cc := cX3_lastGrams) (maxL := 1) (ret := (some .int)) (by decide) rfl ?_
  intro p e s m args below meth c s₁ B hml hv
  obtain ⟨rfl, hP, hK⟩ := hv
  have hown : s.vm.findClass RX3 = some m.cls := findClass_of_methodNamed B.named
  have C0 : CX p m c cX3_lastGrams 1 s _ wsX3_lastGrams RX3 E := ⟨⟨B.exec, B.bytes, hml, hown, atoms_spec (ws := wsX3_lastGrams) B.pre⟩, hK⟩
  have hx := B.exec
  have hb := B.bytes
  have hr := B.returns
  have hlocks := B.notSynchronized
  have hw : SX E s st s.heap [] := ⟨hP, va_S.rf⟩
  have hl := lv_entry ([.ref (E.2.2.1 22 oi)]) (n := 1) (Nat.le_of_ble_eq_true rfl)
  rw [lg_entry_eq]
  generalize (lg_sl ([.ref (E.2.2.1 22 oi)]) ++ List.replicate (1 - (lg_sl ([.ref (E.2.2.1 22 oi)])).length) Slot.unset).toArray = ls at hl ⊢
  have hl : lv_has ls 1 [(0, .ref (E.2.2.1 22 oi))] := hl
  unfold fX3_lastGrams at h
  refine lv_aload_n hx hb dX3_lastGrams_0 rfl (lv_at hl 0 rfl) ?_
  refine X_g22_2 C0 hw (fun w h => (List.mem_cons_of_mem _ (List.mem_append_right _ h))) ho ((List.mem_cons_of_mem _ (List.mem_append_left _ (List.mem_of_getElem? (i := 0) rfl)))) dX3_lastGrams_1 ?_
  refine lv_if_ne (tgt := 11) hx hb dX3_lastGrams_4 (by decide) (fun hc1 => ?_) (fun hc1 => ?_)
  · have h := ifn h hc1
    refine lv_aload_n hx hb dX3_lastGrams_11 rfl (lv_at hl 0 rfl) ?_
    refine X_g22_3 C0 hw (fun w h => (List.mem_cons_of_mem _ (List.mem_append_right _ h))) ho ((List.mem_cons_of_mem _ (List.mem_append_left _ (List.mem_of_getElem? (i := 1) rfl)))) dX3_lastGrams_12 ?_
    refine lv_aload_n hx hb dX3_lastGrams_15 rfl (lv_at hl 0 rfl) ?_
    refine X_g22_2 C0 hw (fun w h => (List.mem_cons_of_mem _ (List.mem_append_right _ h))) ho ((List.mem_cons_of_mem _ (List.mem_append_left _ (List.mem_of_getElem? (i := 0) rfl)))) dX3_lastGrams_16 ?_
    refine lv_iconst (v := 1) hx hb dX3_lastGrams_19 (by decide) ?_
    refine lv_isub hx hb dX3_lastGrams_20 ?_
    refine X_iald C0 hw h (k := ((gI st 22 oi 2) - (1 : Int32)).toNatClampNeg) rfl dX3_lastGrams_21 (fun h => ?_)
    cases h
    exact W.iret hx hb hr (X_fin C0 hw) hw.2.2.2 dX3_lastGrams_22 hlocks
  · have h := ifp h hc1
    refine lv_iconst (v := 0) hx hb dX3_lastGrams_7 (by decide) ?_
    refine lv_goto (tgt := 22) hx hb dX3_lastGrams_8 (by decide) ?_
    cases h
    exact W.iret hx hb hr (X_fin C0 hw) hw.2.2.2 dX3_lastGrams_22 hlocks

def fX3_firstFrom (oi : Nat) (a1 : UInt64) (st : Sto) : Option Int32 :=
  ((lp (σ := Int32) (ρ := (Int32 ⊕ Unit)) (fun (v4 : Int32) =>
     if gI st 22 oi 2 ≤ v4 then (
      some (.inr (.inr ()))) else (
      ck (0 ≤ v4.toInt ∧ v4.toInt < (lIX (23) oi : Int)) (
       if Op.cmpValue (FP.dcmp (FP.i2d (gI st (23) oi (v4.toNatClampNeg))) a1) CmpOp.l < 0 then (
        lt1 (v4 + Int32.ofInt (1)) fun (v7 : Int32) =>
        some (.inl v7)) else (
        some (.inr (.inl v4)))))) 4000 (0 : Int32)).bind
   (sm (fun (q : Int32) => some q) (fun (_ : Unit) =>
     some (gI st 22 oi 2))))
set_option maxHeartbeats 4000000 in
set_option maxRecDepth 100000 in
theorem mX3_firstFrom (l : Launch) (E : XE) (hL : LX E) (st : Sto) {oi : Nat} {a1 : UInt64} (ho : oi < cntX 22) {r : Int32} (h : fX3_firstFrom oi a1 st = some r) : Met l yX3_firstFrom wsX3_firstFrom ({ frames := 0, cells := 0, slots := 0, locals := 0 }) (va_Pc [.ref (E.2.2.1 22 oi), .double a1] (RX E st)) (QX E (some (.int r)) st) 0 0 E.2.2.2 := by
  refine Met.ofW (cc := cX3_firstFrom) (maxL := 4) (ret := (some .int)) (by decide) rfl ?_
  intro p e s m args below meth c s₁ B hml hv
  obtain ⟨rfl, hP, hK⟩ := hv
  have hown : s.vm.findClass RX3 = some m.cls := findClass_of_methodNamed B.named
  have C0 : CX p m c cX3_firstFrom 4 s _ wsX3_firstFrom RX3 E := ⟨⟨B.exec, B.bytes, hml, hown, atoms_spec (ws := wsX3_firstFrom) B.pre⟩, hK⟩
  have hx := B.exec
  have hb := B.bytes
  have hr := B.returns
  have hlocks := B.notSynchronized
  have hw : SX E s st s.heap [] := ⟨hP, va_S.rf⟩
  have hl := lv_entry ([.ref (E.2.2.1 22 oi), .double a1]) (n := 4) (Nat.le_of_ble_eq_true rfl)
  rw [lg_entry_eq]
  generalize (lg_sl ([.ref (E.2.2.1 22 oi), .double a1]) ++ List.replicate (4 - (lg_sl ([.ref (E.2.2.1 22 oi), .double a1])).length) Slot.unset).toArray = ls at hl ⊢
  have hl : lv_has ls 4 [(0, .ref (E.2.2.1 22 oi)), (1, .double a1)] := hl
  unfold fX3_firstFrom at h
  refine lv_iconst (v := 0) hx hb dX3_firstFrom_0 (by decide) ?_
  refine lv_istore_n (lv' := [(3, .int (0 : Int32)), (0, .ref (E.2.2.1 22 oi)), (1, .double a1)]) hx hb dX3_firstFrom_1 rfl hl (by decide) rfl (fun ls hl => ?_)
  refine lp_ind (fun q : Int32 => ∀ (H : Heap) (locs : List Loc), SX E s st H locs → ∀ ls : Array Slot, lv_has ls 4 [(3, .int q), (0, .ref (E.2.2.1 22 oi)), (1, .double a1)] → W p l e (headSpec wsX3_firstFrom ({ frames := 0, cells := 0, slots := 0, locals := 0 })).room s m ([.ref (E.2.2.1 22 oi), .double a1] : List Value).toArray below meth c H locs 0 0 (MQ below (QX E (some (.int r)) st) ([.ref (E.2.2.1 22 oi), .double a1] : List Value).toArray s 0 0 E.2.2.2) (F0 m 2 ls [])) (fun q o3 h hB2 hX1 => ?_) _ _ h _ _ hw _ (lv_sub hl [0, 1, 2] rfl)
  intro H locs hw ls hl
  obtain ⟨v4, rfl⟩ : ∃ z, z = q := ⟨_, rfl⟩
  have hl : lv_has ls 4 [(3, .int v4), (0, .ref (E.2.2.1 22 oi)), (1, .double a1)] := hl
  refine lv_iload_n hx hb dX3_firstFrom_2 rfl (lv_at hl 0 rfl) ?_
  refine lv_aload_n hx hb dX3_firstFrom_3 rfl (lv_at hl 1 rfl) ?_
  refine X_g22_2 C0 hw (fun w h => (List.mem_cons_of_mem _ (List.mem_append_right _ h))) ho ((List.mem_cons_of_mem _ (List.mem_append_left _ (List.mem_of_getElem? (i := 0) rfl)))) dX3_firstFrom_4 ?_
  refine lv_icmp_ge (tgt := 30) hx hb dX3_firstFrom_7 (by decide) (fun hc5 => ?_) (fun hc5 => ?_)
  · have h := ifp h hc5
    have h := hX1 _ (Option.some.inj h).symm
    have h := sm_r h
    have hl := lv_sub hl (l' := [(0, .ref (E.2.2.1 22 oi))]) [1] rfl
    refine lv_aload_n hx hb dX3_firstFrom_30 rfl (lv_at hl 0 rfl) ?_
    refine X_g22_2 C0 hw (fun w h => (List.mem_cons_of_mem _ (List.mem_append_right _ h))) ho ((List.mem_cons_of_mem _ (List.mem_append_left _ (List.mem_of_getElem? (i := 0) rfl)))) dX3_firstFrom_31 ?_
    cases h
    exact W.iret hx hb hr (X_fin C0 hw) hw.2.2.2 dX3_firstFrom_34 hlocks
  · have h := ifn h hc5
    refine lv_aload_n hx hb dX3_firstFrom_10 rfl (lv_at hl 1 rfl) ?_
    refine X_g22_3 C0 hw (fun w h => (List.mem_cons_of_mem _ (List.mem_append_right _ h))) ho ((List.mem_cons_of_mem _ (List.mem_append_left _ (List.mem_of_getElem? (i := 1) rfl)))) dX3_firstFrom_11 ?_
    refine lv_iload_n hx hb dX3_firstFrom_14 rfl (lv_at hl 0 rfl) ?_
    refine X_iald C0 hw h (k := v4.toNatClampNeg) rfl dX3_firstFrom_15 (fun h => ?_)
    refine lv_i2d hx hb dX3_firstFrom_16 ?_
    refine lv_dload_n hx hb dX3_firstFrom_17 rfl (lv_at hl 2 rfl) ?_
    refine lv_dcmp hx hb dX3_firstFrom_18 ?_
    refine lv_if_lt (tgt := 24) hx hb dX3_firstFrom_19 (by decide) (fun hc6 => ?_) (fun hc6 => ?_)
    · have h := ifp h hc6
      refine x_iinc hx hb h dX3_firstFrom_24 hl (q := 0) rfl (fun v7 => [(3, .int v7), (0, .ref (E.2.2.1 22 oi)), (1, .double a1)]) (by decide) (fun _ => rfl) (fun v7 ls hl h => ?_)
      refine lv_goto (tgt := 2) hx hb dX3_firstFrom_27 (by decide) ?_
      exact hB2 _ (Option.some.inj h).symm _ _ hw _ (lv_sub hl [0, 1, 2] rfl)
    · have h := ifn h hc6
      refine lv_iload_n hx hb dX3_firstFrom_22 rfl (lv_at hl 0 rfl) ?_
      have h := hX1 _ (Option.some.inj h).symm
      have h := sm_l h
      cases h
      exact W.iret hx hb hr (X_fin C0 hw) hw.2.2.2 dX3_firstFrom_23 hlocks

def fX6_quotientOf (a1 : UInt32) : Option UInt64 :=
  nd (FP.f2d a1) fun (v1 : UInt64) =>
  jn (fun (v5 : UInt64) =>
   nd (FP.dsub FP.dconst1 v5) fun (v6 : UInt64) =>
   nd (FP.dsub FP.dconst1 v5) fun (v7 : UInt64) =>
   nd (FP.dmul v6 v7) fun (v8 : UInt64) =>
   nd (FP.dmul (4611686018427387904 : UInt64) v5) fun (v9 : UInt64) =>
   nd (FP.ddiv v8 v9) fun (v10 : UInt64) =>
   some v10) fun K2 =>
  if Op.cmpValue (FP.dcmp v1 (4557750909289998844 : UInt64)) CmpOp.l ≤ 0 then (
   K2 (4557750909289998844 : UInt64)) else (
   K2 v1)
set_option maxHeartbeats 4000000 in
set_option maxRecDepth 100000 in
theorem mX6_quotientOf (l : Launch) (E : XE) (hL : LX E) (st : Sto) {a1 : UInt32} {r : UInt64} (h : fX6_quotientOf a1 = some r) : Met l yX6_quotientOf wsX6_quotientOf ({ frames := 0, cells := 0, slots := 0, locals := 0 }) (va_Pc [.float a1] (RX E st)) (QX E (some (.double r)) st) 0 0 E.2.2.2 := by
  refine Met.ofW (cc := cX6_quotientOf) (maxL := 5) (ret := (some .double)) (by decide) rfl ?_
  intro p e s m args below meth c s₁ B hml hv
  obtain ⟨rfl, hP, hK⟩ := hv
  have hown : s.vm.findClass RX6 = some m.cls := findClass_of_methodNamed B.named
  have C0 : CX p m c cX6_quotientOf 5 s _ wsX6_quotientOf RX6 E := ⟨⟨B.exec, B.bytes, hml, hown, atoms_spec (ws := wsX6_quotientOf) B.pre⟩, hK⟩
  have hx := B.exec
  have hb := B.bytes
  have hr := B.returns
  have hlocks := B.notSynchronized
  have hw : SX E s st s.heap [] := ⟨hP, va_S.rf⟩
  have hl := lv_entry ([.float a1]) (n := 5) (Nat.le_of_ble_eq_true rfl)
  rw [lg_entry_eq]
  generalize (lg_sl ([.float a1]) ++ List.replicate (5 - (lg_sl ([.float a1])).length) Slot.unset).toArray = ls at hl ⊢
  have hl : lv_has ls 5 [(0, .float a1)] := hl
  unfold fX6_quotientOf at h
  refine lv_fload_n hx hb dX6_quotientOf_0 rfl (lv_at hl 0 rfl) ?_
  refine x_f2d hx hb h dX6_quotientOf_1 (fun v1 h => ?_)
  refine lv_dstore_n (lv' := [(1, .double v1), (0, .float a1)]) hx hb dX6_quotientOf_2 rfl hl (by decide) rfl (fun ls hl => ?_)
  refine lv_dload_n hx hb dX6_quotientOf_3 rfl (lv_at hl 0 rfl) ?_
  refine lv_ldc2d hx hb hown (C0.1.2.2.2.2 _ (List.mem_cons_of_mem _ (List.mem_of_getElem? (i := 0) rfl))) dX6_quotientOf_4 ?_
  refine lv_dcmp hx hb dX6_quotientOf_7 ?_
  refine jn_c h (fun K2 hK4 h => ?_)
  have HJ3 : ∀ (v5 : UInt64), K2 v5 = some r → ∀ (H : Heap) (locs : List Loc), SX E s st H locs → ∀ ls : Array Slot, lv_has ls 5 [] → W p l e (headSpec wsX6_quotientOf ({ frames := 0, cells := 0, slots := 0, locals := 0 })).room s m ([.float a1] : List Value).toArray below meth c H locs 0 0 (MQ below (QX E (some (.double r)) st) ([.float a1] : List Value).toArray s 0 0 E.2.2.2) (F0 m 18 ls [.double v5]) := by
    intro v5 h H locs hw ls hl
    have h := kk1 h hK4
    refine lv_dstore_n (lv' := [(3, .double v5)]) hx hb dX6_quotientOf_18 rfl hl (by decide) rfl (fun ls hl => ?_)
    refine lv_dconst1 hx hb dX6_quotientOf_19 ?_
    refine lv_dload_n hx hb dX6_quotientOf_20 rfl (lv_at hl 0 rfl) ?_
    refine x_dsub hx hb h dX6_quotientOf_21 (fun v6 h => ?_)
    refine lv_dconst1 hx hb dX6_quotientOf_22 ?_
    refine lv_dload_n hx hb dX6_quotientOf_23 rfl (lv_at hl 0 rfl) ?_
    refine x_dsub hx hb h dX6_quotientOf_24 (fun v7 h => ?_)
    refine x_dmul hx hb h dX6_quotientOf_25 (fun v8 h => ?_)
    refine lv_ldc2d hx hb hown (C0.1.2.2.2.2 _ (List.mem_cons_of_mem _ (List.mem_of_getElem? (i := 1) rfl))) dX6_quotientOf_26 ?_
    refine lv_dload_n hx hb dX6_quotientOf_29 rfl (lv_at hl 0 rfl) ?_
    refine x_dmul hx hb h dX6_quotientOf_30 (fun v9 h => ?_)
    refine x_ddiv hx hb h dX6_quotientOf_31 (fun v10 h => ?_)
    cases h
    exact W.dret hx hb hr (X_fin C0 hw) hw.2.2.2 dX6_quotientOf_32 hlocks
  refine lv_if_le (tgt := 15) hx hb dX6_quotientOf_8 (by decide) (fun hc11 => ?_) (fun hc11 => ?_)
  · have h := ifp h hc11
    refine lv_ldc2d hx hb hown (C0.1.2.2.2.2 _ (List.mem_cons_of_mem _ (List.mem_of_getElem? (i := 0) rfl))) dX6_quotientOf_15 ?_
    exact HJ3 _ h _ _ hw _ (lv_sub hl [] rfl)
  · have h := ifn h hc11
    refine lv_dload_n hx hb dX6_quotientOf_11 rfl (lv_at hl 0 rfl) ?_
    refine lv_goto (tgt := 18) hx hb dX6_quotientOf_12 (by decide) ?_
    exact HJ3 _ h _ _ hw _ (lv_sub hl [] rfl)

def fX3_strengthen (oi : Nat) (a1 : Int32) (a2f : Nat) (a2i : Nat) (a3f : Nat) (a3i : Nat) (st : Sto) : Option Sto :=
  ((lp (σ := (Int32 × Sto)) (ρ := Sto) (un2 fun (v4 : Int32) (t5 : Sto) =>
     if (16 : Int32) ≤ v4 then (
      some (.inr t5)) else (
      ck (0 ≤ v4.toInt ∧ v4.toInt < (lFX a2f a2i : Int)) (
       (fX6_quotientOf (gF t5 a2f a2i (v4.toNatClampNeg))).bind (fun (v10 : UInt64) =>
        ck (0 ≤ v4.toInt ∧ v4.toInt < (lFX a3f a3i : Int)) (
         (fX6_quotientOf (gF t5 a3f a3i (v4.toNatClampNeg))).bind (fun (v12 : UInt64) =>
          nd (FP.dsub v10 v12) fun (v14 : UInt64) =>
          ck (0 ≤ (gI t5 22 oi 2).toInt ∧ (gI t5 22 oi 2).toInt < (6 : Int)) (
           if 0 ≤ Op.cmpValue (FP.dcmp v14 FP.dconst0) CmpOp.g then (
            ck (0 ≤ v4.toInt ∧ v4.toInt < (lDX (25) (6 * oi + (gI t5 22 oi 2).toNatClampNeg) : Int)) (lt1 (sD t5 (25) (6 * oi + (gI t5 22 oi 2).toNatClampNeg) (v4.toNatClampNeg) v14) fun (t17 : Sto) =>
             lt1 (v4 + Int32.ofInt (1)) fun (v18 : Int32) =>
             some (.inl (v18, t17)))) else (
            ck (0 ≤ v4.toInt ∧ v4.toInt < (lDX (25) (6 * oi + (gI t5 22 oi 2).toNatClampNeg) : Int)) (lt1 (sD t5 (25) (6 * oi + (gI t5 22 oi 2).toNatClampNeg) (v4.toNatClampNeg) FP.dconst0) fun (t19 : Sto) =>
             lt1 (v4 + Int32.ofInt (1)) fun (v20 : Int32) =>
             some (.inl (v20, t19))))))))))) 4000 ((0 : Int32), st)).bind
   (fun (t6 : Sto) =>
    ck (0 ≤ (gI t6 22 oi 2).toInt ∧ (gI t6 22 oi 2).toInt < (lIX (23) oi : Int)) (lt1 (sI t6 (23) oi ((gI t6 22 oi 2).toNatClampNeg) a1) fun (t21 : Sto) =>
     lt1 (sI t21 22 oi 2 ((gI t21 22 oi 2) + (1 : Int32))) fun (t22 : Sto) =>
     some t22)))
set_option maxHeartbeats 4000000 in
set_option maxRecDepth 100000 in
theorem mX3_strengthen (l : Launch) (E : XE) (hL : LX E) (st : Sto) {oi : Nat} {a1 : Int32} {a2f : Nat} {a2i : Nat} {a3f : Nat} {a3i : Nat} (ho : oi < cntX 22) {st1 : Sto} (h : fX3_strengthen oi a1 a2f a2i a3f a3i st = some st1) : Met l yX3_strengthen wsX3_strengthen ({ frames := 1, cells := 0, slots := 0, locals := 24 }) (va_Pc [.ref (E.2.2.1 22 oi), .int a1, .ref (E.2.2.1 a2f a2i), .ref (E.2.2.1 a3f a3i)] (RX E st)) (QX E none st1) 0 0 E.2.2.2 := by
  refine Met.ofW (cc := cX3_strengthen) (maxL := 7) (ret := none) (by decide) rfl ?_
  intro p e s m args below meth c s₁ B hml hv
  obtain ⟨rfl, hP, hK⟩ := hv
  have hown : s.vm.findClass RX3 = some m.cls := findClass_of_methodNamed B.named
  have C0 : CX p m c cX3_strengthen 7 s _ wsX3_strengthen RX3 E := ⟨⟨B.exec, B.bytes, hml, hown, atoms_spec (ws := wsX3_strengthen) B.pre⟩, hK⟩
  have hx := B.exec
  have hb := B.bytes
  have hr := B.returns
  have hlocks := B.notSynchronized
  have hw : SX E s st s.heap [] := ⟨hP, va_S.rf⟩
  have hl := lv_entry ([.ref (E.2.2.1 22 oi), .int a1, .ref (E.2.2.1 a2f a2i), .ref (E.2.2.1 a3f a3i)]) (n := 7) (Nat.le_of_ble_eq_true rfl)
  rw [lg_entry_eq]
  generalize (lg_sl ([.ref (E.2.2.1 22 oi), .int a1, .ref (E.2.2.1 a2f a2i), .ref (E.2.2.1 a3f a3i)]) ++ List.replicate (7 - (lg_sl ([.ref (E.2.2.1 22 oi), .int a1, .ref (E.2.2.1 a2f a2i), .ref (E.2.2.1 a3f a3i)])).length) Slot.unset).toArray = ls at hl ⊢
  have hl : lv_has ls 7 [(0, .ref (E.2.2.1 22 oi)), (1, .int a1), (2, .ref (E.2.2.1 a2f a2i)), (3, .ref (E.2.2.1 a3f a3i))] := hl
  unfold fX3_strengthen at h
  refine lv_iconst (v := 0) hx hb dX3_strengthen_0 (by decide) ?_
  refine lv_istore (lv' := [(4, .int (0 : Int32)), (0, .ref (E.2.2.1 22 oi)), (1, .int a1), (2, .ref (E.2.2.1 a2f a2i)), (3, .ref (E.2.2.1 a3f a3i))]) hx hb dX3_strengthen_1 hl (by decide) rfl (fun ls hl => ?_)
  refine lp_ind (fun q : (Int32 × Sto) => ∀ (H : Heap) (locs : List Loc), SX E s (q.2) H locs → ∀ ls : Array Slot, lv_has ls 7 [(4, .int (q.1)), (0, .ref (E.2.2.1 22 oi)), (1, .int a1), (2, .ref (E.2.2.1 a2f a2i)), (3, .ref (E.2.2.1 a3f a3i))] → W p l e (headSpec wsX3_strengthen ({ frames := 1, cells := 0, slots := 0, locals := 24 })).room s m ([.ref (E.2.2.1 22 oi), .int a1, .ref (E.2.2.1 a2f a2i), .ref (E.2.2.1 a3f a3i)] : List Value).toArray below meth c H locs 0 0 (MQ below (QX E none st1) ([.ref (E.2.2.1 22 oi), .int a1, .ref (E.2.2.1 a2f a2i), .ref (E.2.2.1 a3f a3i)] : List Value).toArray s 0 0 E.2.2.2) (F0 m 3 ls [])) (fun q o3 h hB2 hX1 => ?_) _ _ h _ _ hw _ (lv_sub hl [0, 1, 2, 3, 4] rfl)
  intro H locs hw ls hl
  obtain ⟨v4, t5⟩ := q
  have h := un2_d h
  have hw : SX E s t5 H locs := hw
  have hl : lv_has ls 7 [(4, .int v4), (0, .ref (E.2.2.1 22 oi)), (1, .int a1), (2, .ref (E.2.2.1 a2f a2i)), (3, .ref (E.2.2.1 a3f a3i))] := hl
  refine lv_iload hx hb dX3_strengthen_3 (lv_at hl 0 rfl) ?_
  refine lv_bipush (v := 16) hx hb dX3_strengthen_5 (by decide) ?_
  refine lv_icmp_ge (tgt := 58) hx hb dX3_strengthen_7 (by decide) (fun hc7 => ?_) (fun hc7 => ?_)
  · have h := ifp h hc7
    have h := hX1 _ (Option.some.inj h).symm
    have hl := lv_sub hl (l' := [(0, .ref (E.2.2.1 22 oi)), (1, .int a1)]) [1, 2] rfl
    refine lv_aload_n hx hb dX3_strengthen_58 rfl (lv_at hl 0 rfl) ?_
    refine X_g22_3 C0 hw (fun w h => (List.mem_cons_of_mem _ (List.mem_append_right _ h))) ho ((List.mem_cons_of_mem _ (List.mem_append_left _ (List.mem_of_getElem? (i := 2) rfl)))) dX3_strengthen_59 ?_
    refine lv_aload_n hx hb dX3_strengthen_62 rfl (lv_at hl 0 rfl) ?_
    refine X_g22_2 C0 hw (fun w h => (List.mem_cons_of_mem _ (List.mem_append_right _ h))) ho ((List.mem_cons_of_mem _ (List.mem_append_left _ (List.mem_of_getElem? (i := 1) rfl)))) dX3_strengthen_63 ?_
    refine lv_iload_n hx hb dX3_strengthen_66 rfl (lv_at hl 1 rfl) ?_
    refine X_iast hL C0 hw h (k := (gI t5 22 oi 2).toNatClampNeg) rfl dX3_strengthen_67 (fun t8 H locs hw h => ?_)
    refine lv_aload_n hx hb dX3_strengthen_68 rfl (lv_at hl 0 rfl) ?_
    refine lv_dup hx hb dX3_strengthen_69 rfl ?_
    refine X_g22_2 C0 hw (fun w h => (List.mem_cons_of_mem _ (List.mem_append_right _ h))) ho ((List.mem_cons_of_mem _ (List.mem_append_left _ (List.mem_of_getElem? (i := 1) rfl)))) dX3_strengthen_70 ?_
    refine lv_iconst (v := 1) hx hb dX3_strengthen_73 (by decide) ?_
    refine lv_iadd hx hb dX3_strengthen_74 ?_
    refine X_p22_2 hL C0 hw (fun w h => (List.mem_cons_of_mem _ (List.mem_append_right _ h))) ho h ((List.mem_cons_of_mem _ (List.mem_append_left _ (List.mem_of_getElem? (i := 1) rfl)))) dX3_strengthen_75 (fun t9 H locs hw h => ?_)
    cases h
    exact W.vret hx hb hr (X_fin C0 hw) hw.2.2.2 dX3_strengthen_78 hlocks
  · have h := ifn h hc7
    refine lv_aload_n hx hb dX3_strengthen_10 rfl (lv_at hl 3 rfl) ?_
    refine lv_iload hx hb dX3_strengthen_11 (lv_at hl 0 rfl) ?_
    refine X_fald C0 hw h (k := v4.toNatClampNeg) rfl dX3_strengthen_13 (fun h => ?_)
    obtain ⟨v10, hf11, h⟩ := bn_c h
    refine X_callS C0 hw (As := [.float (gF t5 a2f a2i (v4.toNatClampNeg))]) (rest := []) (mX6_quotientOf l E hL t5 hf11) (va_cwS 1 C0.1.2.2.2.2 gX3_strengthen_X6_quotientOf rfl rfl rfl (by decide +kernel) ⟨Nat.le_of_ble_eq_true rfl, Nat.le_of_ble_eq_true rfl⟩) rfl hl.1 rfl (Nat.le_of_ble_eq_true rfl) dX3_strengthen_14 ⟨Nat.zero_le _, Nat.zero_le _⟩ (fun H locs hw => ?_)
    refine W.eq (g2 := F0 m 17 ls [.double v10]) rfl ?_
    refine lv_aload_n hx hb dX3_strengthen_17 rfl (lv_at hl 4 rfl) ?_
    refine lv_iload hx hb dX3_strengthen_18 (lv_at hl 0 rfl) ?_
    refine X_fald C0 hw h (k := v4.toNatClampNeg) rfl dX3_strengthen_20 (fun h => ?_)
    obtain ⟨v12, hf13, h⟩ := bn_c h
    refine X_callS C0 hw (As := [.float (gF t5 a3f a3i (v4.toNatClampNeg))]) (rest := [.double v10]) (mX6_quotientOf l E hL t5 hf13) (va_cwS 1 C0.1.2.2.2.2 gX3_strengthen_X6_quotientOf rfl rfl rfl (by decide +kernel) ⟨Nat.le_of_ble_eq_true rfl, Nat.le_of_ble_eq_true rfl⟩) rfl hl.1 rfl (Nat.le_of_ble_eq_true rfl) dX3_strengthen_21 ⟨Nat.zero_le _, Nat.zero_le _⟩ (fun H locs hw => ?_)
    refine W.eq (g2 := F0 m 24 ls [.double v12, .double v10]) rfl ?_
    refine x_dsub hx hb h dX3_strengthen_24 (fun v14 h => ?_)
    refine lv_dstore (lv' := [(5, .double v14), (4, .int v4), (0, .ref (E.2.2.1 22 oi)), (1, .int a1), (2, .ref (E.2.2.1 a2f a2i)), (3, .ref (E.2.2.1 a3f a3i))]) hx hb dX3_strengthen_25 hl (by decide) rfl (fun ls hl => ?_)
    refine lv_aload_n hx hb dX3_strengthen_27 rfl (lv_at hl 2 rfl) ?_
    refine X_g22_4 C0 hw (fun w h => (List.mem_cons_of_mem _ (List.mem_append_right _ h))) ho ((List.mem_cons_of_mem _ (List.mem_append_left _ (List.mem_of_getElem? (i := 0) rfl)))) dX3_strengthen_28 ?_
    refine lv_aload_n hx hb dX3_strengthen_31 rfl (lv_at hl 2 rfl) ?_
    refine X_g22_2 C0 hw (fun w h => (List.mem_cons_of_mem _ (List.mem_append_right _ h))) ho ((List.mem_cons_of_mem _ (List.mem_append_left _ (List.mem_of_getElem? (i := 1) rfl)))) dX3_strengthen_32 ?_
    refine X_ald_24 C0 hw ho h (k := (gI t5 22 oi 2).toNatClampNeg) rfl dX3_strengthen_35 (fun hk15 h => ?_)
    refine lv_iload hx hb dX3_strengthen_36 (lv_at hl 1 rfl) ?_
    refine lv_dload hx hb dX3_strengthen_38 (lv_at hl 0 rfl) ?_
    refine lv_dconst0 hx hb dX3_strengthen_40 ?_
    refine lv_dcmp hx hb dX3_strengthen_41 ?_
    refine lv_if_ge (tgt := 49) hx hb dX3_strengthen_42 (by decide) (fun hc16 => ?_) (fun hc16 => ?_)
    · have h := ifp h hc16
      refine lv_dload hx hb dX3_strengthen_49 (lv_at hl 0 rfl) ?_
      refine X_dast hL C0 hw h (k := v4.toNatClampNeg) rfl dX3_strengthen_51 (fun t17 H locs hw h => ?_)
      refine x_iinc hx hb h dX3_strengthen_52 hl (q := 1) rfl (fun v18 => [(4, .int v18), (5, .double v14), (0, .ref (E.2.2.1 22 oi)), (1, .int a1), (2, .ref (E.2.2.1 a2f a2i)), (3, .ref (E.2.2.1 a3f a3i))]) (by decide) (fun _ => rfl) (fun v18 ls hl h => ?_)
      refine lv_goto (tgt := 3) hx hb dX3_strengthen_55 (by decide) ?_
      exact hB2 _ (Option.some.inj h).symm _ _ hw _ (lv_sub hl [0, 2, 3, 4, 5] rfl)
    · have h := ifn h hc16
      refine lv_dconst0 hx hb dX3_strengthen_45 ?_
      refine lv_goto (tgt := 51) hx hb dX3_strengthen_46 (by decide) ?_
      refine X_dast hL C0 hw h (k := v4.toNatClampNeg) rfl dX3_strengthen_51 (fun t19 H locs hw h => ?_)
      refine x_iinc hx hb h dX3_strengthen_52 hl (q := 1) rfl (fun v20 => [(4, .int v20), (5, .double v14), (0, .ref (E.2.2.1 22 oi)), (1, .int a1), (2, .ref (E.2.2.1 a2f a2i)), (3, .ref (E.2.2.1 a3f a3i))]) (by decide) (fun _ => rfl) (fun v20 ls hl h => ?_)
      refine lv_goto (tgt := 3) hx hb dX3_strengthen_55 (by decide) ?_
      exact hB2 _ (Option.some.inj h).symm _ _ hw _ (lv_sub hl [0, 2, 3, 4, 5] rfl)

def fX3_tell (oi : Nat) (a1 : Int32) (st : Sto) : Option Int32 :=
  if a1 = 0 then (
   some (gI st 22 oi 0)) else (
   if a1 = (1 : Int32) then (
    some (gI st 22 oi 2)) else (
    some (gI st 22 oi 1)))
set_option maxHeartbeats 4000000 in
set_option maxRecDepth 100000 in
theorem mX3_tell (l : Launch) (E : XE) (hL : LX E) (st : Sto) {oi : Nat} {a1 : Int32} (ho : oi < cntX 22) {r : Int32} (h : fX3_tell oi a1 st = some r) : Met l yX3_tell wsX3_tell ({ frames := 0, cells := 0, slots := 0, locals := 0 }) (va_Pc [.ref (E.2.2.1 22 oi), .int a1] (RX E st)) (QX E (some (.int r)) st) 0 0 E.2.2.2 := by
  refine Met.ofW (cc := cX3_tell) (maxL := 2) (ret := (some .int)) (by decide) rfl ?_
  intro p e s m args below meth c s₁ B hml hv
  obtain ⟨rfl, hP, hK⟩ := hv
  have hown : s.vm.findClass RX3 = some m.cls := findClass_of_methodNamed B.named
  have C0 : CX p m c cX3_tell 2 s _ wsX3_tell RX3 E := ⟨⟨B.exec, B.bytes, hml, hown, atoms_spec (ws := wsX3_tell) B.pre⟩, hK⟩
  have hx := B.exec
  have hb := B.bytes
  have hr := B.returns
  have hlocks := B.notSynchronized
  have hw : SX E s st s.heap [] := ⟨hP, va_S.rf⟩
  have hl := lv_entry ([.ref (E.2.2.1 22 oi), .int a1]) (n := 2) (Nat.le_of_ble_eq_true rfl)
  rw [lg_entry_eq]
  generalize (lg_sl ([.ref (E.2.2.1 22 oi), .int a1]) ++ List.replicate (2 - (lg_sl ([.ref (E.2.2.1 22 oi), .int a1])).length) Slot.unset).toArray = ls at hl ⊢
  have hl : lv_has ls 2 [(0, .ref (E.2.2.1 22 oi)), (1, .int a1)] := hl
  unfold fX3_tell at h
  refine lv_iload_n hx hb dX3_tell_0 rfl (lv_at hl 1 rfl) ?_
  refine lv_if_ne (tgt := 11) hx hb dX3_tell_1 (by decide) (fun hc1 => ?_) (fun hc1 => ?_)
  · have h := ifn h hc1
    refine lv_iload_n hx hb dX3_tell_11 rfl (lv_at hl 1 rfl) ?_
    refine lv_iconst (v := 1) hx hb dX3_tell_12 (by decide) ?_
    refine lv_icmp_ne (tgt := 23) hx hb dX3_tell_13 (by decide) (fun hc2 => ?_) (fun hc2 => ?_)
    · have h := ifn h hc2
      refine lv_aload_n hx hb dX3_tell_23 rfl (lv_at hl 0 rfl) ?_
      refine X_g22_1 C0 hw (fun w h => (List.mem_cons_of_mem _ (List.mem_append_right _ h))) ho ((List.mem_cons_of_mem _ (List.mem_append_left _ (List.mem_of_getElem? (i := 2) rfl)))) dX3_tell_24 ?_
      cases h
      exact W.iret hx hb hr (X_fin C0 hw) hw.2.2.2 dX3_tell_27 hlocks
    · have h := ifp h hc2
      refine lv_aload_n hx hb dX3_tell_16 rfl (lv_at hl 0 rfl) ?_
      refine X_g22_2 C0 hw (fun w h => (List.mem_cons_of_mem _ (List.mem_append_right _ h))) ho ((List.mem_cons_of_mem _ (List.mem_append_left _ (List.mem_of_getElem? (i := 1) rfl)))) dX3_tell_17 ?_
      refine lv_goto (tgt := 27) hx hb dX3_tell_20 (by decide) ?_
      cases h
      exact W.iret hx hb hr (X_fin C0 hw) hw.2.2.2 dX3_tell_27 hlocks
  · have h := ifp h hc1
    refine lv_aload_n hx hb dX3_tell_4 rfl (lv_at hl 0 rfl) ?_
    refine X_g22_0 C0 hw (fun w h => (List.mem_cons_of_mem _ (List.mem_append_right _ h))) ho ((List.mem_cons_of_mem _ (List.mem_append_left _ (List.mem_of_getElem? (i := 0) rfl)))) dX3_tell_5 ?_
    refine lv_goto (tgt := 27) hx hb dX3_tell_8 (by decide) ?_
    cases h
    exact W.iret hx hb hr (X_fin C0 hw) hw.2.2.2 dX3_tell_27 hlocks

def fX4_begin (oi : Nat) (a1 : Int32) (a2 : Int32) (a3 : Int32) (a4 : Int32) (st : Sto) : Option Sto :=
  lt1 (sI st 29 oi 0 a1) fun (t1 : Sto) =>
  lt1 (sI t1 29 oi 1 a2) fun (t2 : Sto) =>
  lt1 (sI t2 29 oi 2 a3) fun (t3 : Sto) =>
  lt1 (sI t3 29 oi 3 a4) fun (t4 : Sto) =>
  lt1 (sI t4 29 oi 4 a4) fun (t5 : Sto) =>
  some t5
set_option maxHeartbeats 4000000 in
set_option maxRecDepth 100000 in
theorem mX4_begin (l : Launch) (E : XE) (hL : LX E) (st : Sto) {oi : Nat} {a1 : Int32} {a2 : Int32} {a3 : Int32} {a4 : Int32} (ho : oi < cntX 29) {st1 : Sto} (h : fX4_begin oi a1 a2 a3 a4 st = some st1) : Met l yX4_begin wsX4_begin ({ frames := 0, cells := 0, slots := 0, locals := 0 }) (va_Pc [.ref (E.2.2.1 29 oi), .int a1, .int a2, .int a3, .int a4] (RX E st)) (QX E none st1) 0 0 E.2.2.2 := by
  refine Met.ofW (cc := cX4_begin) (maxL := 5) (ret := none) (by decide) rfl ?_
  intro p e s m args below meth c s₁ B hml hv
  obtain ⟨rfl, hP, hK⟩ := hv
  have hown : s.vm.findClass RX4 = some m.cls := findClass_of_methodNamed B.named
  have C0 : CX p m c cX4_begin 5 s _ wsX4_begin RX4 E := ⟨⟨B.exec, B.bytes, hml, hown, atoms_spec (ws := wsX4_begin) B.pre⟩, hK⟩
  have hx := B.exec
  have hb := B.bytes
  have hr := B.returns
  have hlocks := B.notSynchronized
  have hw : SX E s st s.heap [] := ⟨hP, va_S.rf⟩
  have hl := lv_entry ([.ref (E.2.2.1 29 oi), .int a1, .int a2, .int a3, .int a4]) (n := 5) (Nat.le_of_ble_eq_true rfl)
  rw [lg_entry_eq]
  generalize (lg_sl ([.ref (E.2.2.1 29 oi), .int a1, .int a2, .int a3, .int a4]) ++ List.replicate (5 - (lg_sl ([.ref (E.2.2.1 29 oi), .int a1, .int a2, .int a3, .int a4])).length) Slot.unset).toArray = ls at hl ⊢
  have hl : lv_has ls 5 [(0, .ref (E.2.2.1 29 oi)), (1, .int a1), (2, .int a2), (3, .int a3), (4, .int a4)] := hl
  unfold fX4_begin at h
  refine lv_aload_n hx hb dX4_begin_0 rfl (lv_at hl 0 rfl) ?_
  refine lv_iload_n hx hb dX4_begin_1 rfl (lv_at hl 1 rfl) ?_
  refine X_p29_0 hL C0 hw (fun w h => (List.mem_cons_of_mem _ (List.mem_append_right _ h))) ho h ((List.mem_cons_of_mem _ (List.mem_append_left _ (List.mem_of_getElem? (i := 0) rfl)))) dX4_begin_2 (fun t1 H locs hw h => ?_)
  refine lv_aload_n hx hb dX4_begin_5 rfl (lv_at hl 0 rfl) ?_
  refine lv_iload_n hx hb dX4_begin_6 rfl (lv_at hl 2 rfl) ?_
  refine X_p29_1 hL C0 hw (fun w h => (List.mem_cons_of_mem _ (List.mem_append_right _ h))) ho h ((List.mem_cons_of_mem _ (List.mem_append_left _ (List.mem_of_getElem? (i := 1) rfl)))) dX4_begin_7 (fun t2 H locs hw h => ?_)
  refine lv_aload_n hx hb dX4_begin_10 rfl (lv_at hl 0 rfl) ?_
  refine lv_iload_n hx hb dX4_begin_11 rfl (lv_at hl 3 rfl) ?_
  refine X_p29_2 hL C0 hw (fun w h => (List.mem_cons_of_mem _ (List.mem_append_right _ h))) ho h ((List.mem_cons_of_mem _ (List.mem_append_left _ (List.mem_of_getElem? (i := 2) rfl)))) dX4_begin_12 (fun t3 H locs hw h => ?_)
  refine lv_aload_n hx hb dX4_begin_15 rfl (lv_at hl 0 rfl) ?_
  refine lv_iload hx hb dX4_begin_16 (lv_at hl 4 rfl) ?_
  refine X_p29_3 hL C0 hw (fun w h => (List.mem_cons_of_mem _ (List.mem_append_right _ h))) ho h ((List.mem_cons_of_mem _ (List.mem_append_left _ (List.mem_of_getElem? (i := 3) rfl)))) dX4_begin_18 (fun t4 H locs hw h => ?_)
  refine lv_aload_n hx hb dX4_begin_21 rfl (lv_at hl 0 rfl) ?_
  refine lv_iload hx hb dX4_begin_22 (lv_at hl 4 rfl) ?_
  refine X_p29_4 hL C0 hw (fun w h => (List.mem_cons_of_mem _ (List.mem_append_right _ h))) ho h ((List.mem_cons_of_mem _ (List.mem_append_left _ (List.mem_of_getElem? (i := 4) rfl)))) dX4_begin_24 (fun t5 H locs hw h => ?_)
  cases h
  exact W.vret hx hb hr (X_fin C0 hw) hw.2.2.2 dX4_begin_27 hlocks

def fX4_worthOf (oi : Nat) (a1 : Int64) (st : Sto) : Option UInt64 :=
  nd (FP.dmul (FP.l2d a1) (FP.i2d (gI st 29 oi 1))) fun (v1 : UInt64) =>
  nd (FP.ddiv v1 (FP.i2d (gI st 29 oi 2))) fun (v2 : UInt64) =>
  some v2
set_option maxHeartbeats 4000000 in
set_option maxRecDepth 100000 in
theorem mX4_worthOf (l : Launch) (E : XE) (hL : LX E) (st : Sto) {oi : Nat} {a1 : Int64} (ho : oi < cntX 29) {r : UInt64} (h : fX4_worthOf oi a1 st = some r) : Met l yX4_worthOf wsX4_worthOf ({ frames := 0, cells := 0, slots := 0, locals := 0 }) (va_Pc [.ref (E.2.2.1 29 oi), .long a1] (RX E st)) (QX E (some (.double r)) st) 0 0 E.2.2.2 := by
  refine Met.ofW (cc := cX4_worthOf) (maxL := 3) (ret := (some .double)) (by decide) rfl ?_
  intro p e s m args below meth c s₁ B hml hv
  obtain ⟨rfl, hP, hK⟩ := hv
  have hown : s.vm.findClass RX4 = some m.cls := findClass_of_methodNamed B.named
  have C0 : CX p m c cX4_worthOf 3 s _ wsX4_worthOf RX4 E := ⟨⟨B.exec, B.bytes, hml, hown, atoms_spec (ws := wsX4_worthOf) B.pre⟩, hK⟩
  have hx := B.exec
  have hb := B.bytes
  have hr := B.returns
  have hlocks := B.notSynchronized
  have hw : SX E s st s.heap [] := ⟨hP, va_S.rf⟩
  have hl := lv_entry ([.ref (E.2.2.1 29 oi), .long a1]) (n := 3) (Nat.le_of_ble_eq_true rfl)
  rw [lg_entry_eq]
  generalize (lg_sl ([.ref (E.2.2.1 29 oi), .long a1]) ++ List.replicate (3 - (lg_sl ([.ref (E.2.2.1 29 oi), .long a1])).length) Slot.unset).toArray = ls at hl ⊢
  have hl : lv_has ls 3 [(0, .ref (E.2.2.1 29 oi)), (1, .long a1)] := hl
  unfold fX4_worthOf at h
  refine lv_lload_n hx hb dX4_worthOf_0 rfl (lv_at hl 1 rfl) ?_
  refine lv_l2d hx hb dX4_worthOf_1 ?_
  refine lv_aload_n hx hb dX4_worthOf_2 rfl (lv_at hl 0 rfl) ?_
  refine X_g29_1 C0 hw (fun w h => (List.mem_cons_of_mem _ (List.mem_append_right _ h))) ho ((List.mem_cons_of_mem _ (List.mem_append_left _ (List.mem_of_getElem? (i := 0) rfl)))) dX4_worthOf_3 ?_
  refine lv_i2d hx hb dX4_worthOf_6 ?_
  refine x_dmul hx hb h dX4_worthOf_7 (fun v1 h => ?_)
  refine lv_aload_n hx hb dX4_worthOf_8 rfl (lv_at hl 0 rfl) ?_
  refine X_g29_2 C0 hw (fun w h => (List.mem_cons_of_mem _ (List.mem_append_right _ h))) ho ((List.mem_cons_of_mem _ (List.mem_append_left _ (List.mem_of_getElem? (i := 1) rfl)))) dX4_worthOf_9 ?_
  refine lv_i2d hx hb dX4_worthOf_12 ?_
  refine x_ddiv hx hb h dX4_worthOf_13 (fun v2 h => ?_)
  cases h
  exact W.dret hx hb hr (X_fin C0 hw) hw.2.2.2 dX4_worthOf_14 hlocks

def fX4_tell (oi : Nat) (a1 : Int32) (st : Sto) : Option Int32 :=
  if a1 = 0 then (
   some (gI st 29 oi 0)) else if a1 = 1 then (
   some (gI st 29 oi 4)) else if a1 = 2 then (
   some ((gI st 29 oi 3) - (gI st 29 oi 4))) else (
   some (gI st 29 oi 3))
set_option maxHeartbeats 4000000 in
set_option maxRecDepth 100000 in
theorem mX4_tell (l : Launch) (E : XE) (hL : LX E) (st : Sto) {oi : Nat} {a1 : Int32} (ho : oi < cntX 29) {r : Int32} (h : fX4_tell oi a1 st = some r) : Met l yX4_tell wsX4_tell ({ frames := 0, cells := 0, slots := 0, locals := 0 }) (va_Pc [.ref (E.2.2.1 29 oi), .int a1] (RX E st)) (QX E (some (.int r)) st) 0 0 E.2.2.2 := by
  refine Met.ofW (cc := cX4_tell) (maxL := 2) (ret := (some .int)) (by decide) rfl ?_
  intro p e s m args below meth c s₁ B hml hv
  obtain ⟨rfl, hP, hK⟩ := hv
  have hown : s.vm.findClass RX4 = some m.cls := findClass_of_methodNamed B.named
  have C0 : CX p m c cX4_tell 2 s _ wsX4_tell RX4 E := ⟨⟨B.exec, B.bytes, hml, hown, atoms_spec (ws := wsX4_tell) B.pre⟩, hK⟩
  have hx := B.exec
  have hb := B.bytes
  have hr := B.returns
  have hlocks := B.notSynchronized
  have hw : SX E s st s.heap [] := ⟨hP, va_S.rf⟩
  have hl := lv_entry ([.ref (E.2.2.1 29 oi), .int a1]) (n := 2) (Nat.le_of_ble_eq_true rfl)
  rw [lg_entry_eq]
  generalize (lg_sl ([.ref (E.2.2.1 29 oi), .int a1]) ++ List.replicate (2 - (lg_sl ([.ref (E.2.2.1 29 oi), .int a1])).length) Slot.unset).toArray = ls at hl ⊢
  have hl : lv_has ls 2 [(0, .ref (E.2.2.1 29 oi)), (1, .int a1)] := hl
  unfold fX4_tell at h
  refine lv_iload_n hx hb dX4_tell_0 rfl (lv_at hl 1 rfl) ?_
  by_cases hc0 : a1 = 0
  · have h := ifp h hc0
    refine lv_tableIn (tgt := 28) hx hb dX4_tell_1 (by rw [hc0]; decide) (by rw [hc0]; decide) (by rw [hc0]; rfl) (by decide) ?_
    refine lv_aload_n hx hb dX4_tell_28 rfl (lv_at hl 0 rfl) ?_
    refine X_g29_0 C0 hw (fun w h => (List.mem_cons_of_mem _ (List.mem_append_right _ h))) ho ((List.mem_cons_of_mem _ (List.mem_append_left _ (List.mem_of_getElem? (i := 0) rfl)))) dX4_tell_29 ?_
    cases h
    exact W.iret hx hb hr (X_fin C0 hw) hw.2.2.2 dX4_tell_32 hlocks
  have h := ifn h hc0
  by_cases hc1 : a1 = 1
  · have h := ifp h hc1
    refine lv_tableIn (tgt := 33) hx hb dX4_tell_1 (by rw [hc1]; decide) (by rw [hc1]; decide) (by rw [hc1]; rfl) (by decide) ?_
    refine lv_aload_n hx hb dX4_tell_33 rfl (lv_at hl 0 rfl) ?_
    refine X_g29_4 C0 hw (fun w h => (List.mem_cons_of_mem _ (List.mem_append_right _ h))) ho ((List.mem_cons_of_mem _ (List.mem_append_left _ (List.mem_of_getElem? (i := 1) rfl)))) dX4_tell_34 ?_
    cases h
    exact W.iret hx hb hr (X_fin C0 hw) hw.2.2.2 dX4_tell_37 hlocks
  have h := ifn h hc1
  by_cases hc2 : a1 = 2
  · have h := ifp h hc2
    refine lv_tableIn (tgt := 38) hx hb dX4_tell_1 (by rw [hc2]; decide) (by rw [hc2]; decide) (by rw [hc2]; rfl) (by decide) ?_
    refine lv_aload_n hx hb dX4_tell_38 rfl (lv_at hl 0 rfl) ?_
    refine X_g29_3 C0 hw (fun w h => (List.mem_cons_of_mem _ (List.mem_append_right _ h))) ho ((List.mem_cons_of_mem _ (List.mem_append_left _ (List.mem_of_getElem? (i := 2) rfl)))) dX4_tell_39 ?_
    refine lv_aload_n hx hb dX4_tell_42 rfl (lv_at hl 0 rfl) ?_
    refine X_g29_4 C0 hw (fun w h => (List.mem_cons_of_mem _ (List.mem_append_right _ h))) ho ((List.mem_cons_of_mem _ (List.mem_append_left _ (List.mem_of_getElem? (i := 1) rfl)))) dX4_tell_43 ?_
    refine lv_isub hx hb dX4_tell_46 ?_
    cases h
    exact W.iret hx hb hr (X_fin C0 hw) hw.2.2.2 dX4_tell_47 hlocks
  have h := ifn h hc2
  refine lv_tableOut (tgt := 48) hx hb dX4_tell_1 (by have := sw_ne (n := 0) hc0 (by decide); have := sw_ne (n := 1) hc1 (by decide); have := sw_ne (n := 2) hc2 (by decide); omega) (by decide) ?_
  refine lv_aload_n hx hb dX4_tell_48 rfl (lv_at hl 0 rfl) ?_
  refine X_g29_3 C0 hw (fun w h => (List.mem_cons_of_mem _ (List.mem_append_right _ h))) ho ((List.mem_cons_of_mem _ (List.mem_append_left _ (List.mem_of_getElem? (i := 2) rfl)))) dX4_tell_49 ?_
  cases h
  exact W.iret hx hb hr (X_fin C0 hw) hw.2.2.2 dX4_tell_52 hlocks

def fX7_floatBits (a1 : UInt64) : Option Int32 :=
  jn (fun (v4 : Int32) =>
   jn (fun (v8 : UInt64) =>
    nf (FP.d2f v8) fun (v9 : UInt32) =>
    if Op.cmpValue (FP.fcmp v9 FP.fconst0) CmpOp.l = 0 then (
     some v4) else (
     nd (FP.f2d v9) fun (v11 : UInt64) =>
     nd (FP.dmul v11 (4710765210229538816 : UInt64)) fun (v12 : UInt64) =>
     ((lp (σ := (Int32 × Int32 × UInt64)) (ρ := (UInt64 × Int32)) (un3 fun (v16 : Int32) (v17 : Int32) (v18 : UInt64) =>
        if (1100 : Int32) ≤ v16 then (
         some (.inr (v18, v17))) else (
         if Op.cmpValue (FP.dcmp v18 (4715268809856909312 : UInt64)) CmpOp.l < 0 then (
          some (.inr (v18, v17))) else (
          nd (FP.dmul v18 (4602678819172646912 : UInt64)) fun (v43 : UInt64) =>
          lt1 (v17 + Int32.ofInt (1)) fun (v44 : Int32) =>
          lt1 (v16 + Int32.ofInt (1)) fun (v45 : Int32) =>
          some (.inl (v45, v44, v43))))) 4000 ((0 : Int32), (127 : Int32), v12)).bind
      (un2 fun (v19 : UInt64) (v20 : Int32) =>
       ((lp (σ := (Int32 × UInt64 × Int32)) (ρ := (UInt64 × Int32)) (un3 fun (v27 : Int32) (v28 : UInt64) (v29 : Int32) =>
          if (1100 : Int32) ≤ v27 then (
           some (.inr (v28, v29))) else (
           if 0 ≤ Op.cmpValue (FP.dcmp v28 (4710765210229538816 : UInt64)) CmpOp.g then (
            some (.inr (v28, v29))) else (
            if v29 ≤ (1 : Int32) then (
             some (.inr (v28, v29))) else (
             nd (FP.dmul v28 (4611686018427387904 : UInt64)) fun (v38 : UInt64) =>
             lt1 (v29 + Int32.ofInt (-1)) fun (v39 : Int32) =>
             lt1 (v27 + Int32.ofInt (1)) fun (v40 : Int32) =>
             some (.inl (v40, v38, v39)))))) 4000 ((0 : Int32), v19, v20)).bind
        (un2 fun (v30 : UInt64) (v31 : Int32) =>
         some (v4 ||| (((v31 - (1 : Int32)) <<< ((23 : Int32) &&& 31)) + (FP.d2i v30))))))))) fun K5 =>
   if 0 ≤ Op.cmpValue (FP.dcmp a1 FP.dconst0) CmpOp.g then (
    K5 a1) else (
    K5 (FP.dneg a1))) fun K1 =>
  if 0 ≤ Op.cmpValue (FP.dcmp a1 FP.dconst0) CmpOp.g then (
   K1 (0 : Int32)) else (
   K1 (-2147483648 : Int32))
set_option maxHeartbeats 4000000 in
set_option maxRecDepth 100000 in
theorem mX7_floatBits (l : Launch) (E : XE) (hL : LX E) (st : Sto) {a1 : UInt64} {r : Int32} (h : fX7_floatBits a1 = some r) : Met l yX7_floatBits wsX7_floatBits ({ frames := 0, cells := 0, slots := 0, locals := 0 }) (va_Pc [.double a1] (RX E st)) (QX E (some (.int r)) st) 0 0 E.2.2.2 := by
  refine Met.ofW (cc := cX7_floatBits) (maxL := 8) (ret := (some .int)) (by decide) rfl ?_
  intro p e s m args below meth c s₁ B hml hv
  obtain ⟨rfl, hP, hK⟩ := hv
  have hown : s.vm.findClass RX7 = some m.cls := findClass_of_methodNamed B.named
  have C0 : CX p m c cX7_floatBits 8 s _ wsX7_floatBits RX7 E := ⟨⟨B.exec, B.bytes, hml, hown, atoms_spec (ws := wsX7_floatBits) B.pre⟩, hK⟩
  have hx := B.exec
  have hb := B.bytes
  have hr := B.returns
  have hlocks := B.notSynchronized
  have hw : SX E s st s.heap [] := ⟨hP, va_S.rf⟩
  have hl := lv_entry ([.double a1]) (n := 8) (Nat.le_of_ble_eq_true rfl)
  rw [lg_entry_eq]
  generalize (lg_sl ([.double a1]) ++ List.replicate (8 - (lg_sl ([.double a1])).length) Slot.unset).toArray = ls at hl ⊢
  have hl : lv_has ls 8 [(0, .double a1)] := hl
  unfold fX7_floatBits at h
  refine lv_dload_n hx hb dX7_floatBits_0 rfl (lv_at hl 0 rfl) ?_
  refine lv_dconst0 hx hb dX7_floatBits_1 ?_
  refine lv_dcmp hx hb dX7_floatBits_2 ?_
  refine jn_c h (fun K1 hK3 h => ?_)
  have HJ2 : ∀ (v4 : Int32), K1 v4 = some r → ∀ (H : Heap) (locs : List Loc), SX E s st H locs → ∀ ls : Array Slot, lv_has ls 8 [(0, .double a1)] → W p l e (headSpec wsX7_floatBits ({ frames := 0, cells := 0, slots := 0, locals := 0 })).room s m ([.double a1] : List Value).toArray below meth c H locs 0 0 (MQ below (QX E (some (.int r)) st) ([.double a1] : List Value).toArray s 0 0 E.2.2.2) (F0 m 12 ls [.int v4]) := by
    intro v4 h H locs hw ls hl
    have h := kk1 h hK3
    refine lv_istore_n (lv' := [(2, .int v4), (0, .double a1)]) hx hb dX7_floatBits_12 rfl hl (by decide) rfl (fun ls hl => ?_)
    refine lv_dload_n hx hb dX7_floatBits_13 rfl (lv_at hl 1 rfl) ?_
    refine lv_dconst0 hx hb dX7_floatBits_14 ?_
    refine lv_dcmp hx hb dX7_floatBits_15 ?_
    refine jn_c h (fun K5 hK7 h => ?_)
    have HJ6 : ∀ (v8 : UInt64), K5 v8 = some r → ∀ (H : Heap) (locs : List Loc), SX E s st H locs → ∀ ls : Array Slot, lv_has ls 8 [(2, .int v4)] → W p l e (headSpec wsX7_floatBits ({ frames := 0, cells := 0, slots := 0, locals := 0 })).room s m ([.double a1] : List Value).toArray below meth c H locs 0 0 (MQ below (QX E (some (.int r)) st) ([.double a1] : List Value).toArray s 0 0 E.2.2.2) (F0 m 25 ls [.double v8]) := by
      intro v8 h H locs hw ls hl
      have h := kk1 h hK7
      refine x_d2f hx hb h dX7_floatBits_25 (fun v9 h => ?_)
      refine lv_fstore_n (lv' := [(3, .float v9), (2, .int v4)]) hx hb dX7_floatBits_26 rfl hl (by decide) rfl (fun ls hl => ?_)
      refine lv_fload_n hx hb dX7_floatBits_27 rfl (lv_at hl 0 rfl) ?_
      refine lv_fconst0 hx hb dX7_floatBits_28 ?_
      refine lv_fcmp hx hb dX7_floatBits_29 ?_
      refine lv_if_ne (tgt := 35) hx hb dX7_floatBits_30 (by decide) (fun hc10 => ?_) (fun hc10 => ?_)
      · have h := ifn h hc10
        refine lv_fload_n hx hb dX7_floatBits_35 rfl (lv_at hl 0 rfl) ?_
        refine x_f2d hx hb h dX7_floatBits_36 (fun v11 h => ?_)
        refine lv_ldc2d hx hb hown (C0.1.2.2.2.2 _ (List.mem_cons_of_mem _ (List.mem_of_getElem? (i := 1) rfl))) dX7_floatBits_37 ?_
        refine x_dmul hx hb h dX7_floatBits_40 (fun v12 h => ?_)
        refine lv_dstore (lv' := [(4, .double v12), (3, .float v9), (2, .int v4)]) hx hb dX7_floatBits_41 hl (by decide) rfl (fun ls hl => ?_)
        refine lv_bipush (v := 127) hx hb dX7_floatBits_43 (by decide) ?_
        refine lv_istore (lv' := [(6, .int (127 : Int32)), (4, .double v12), (3, .float v9), (2, .int v4)]) hx hb dX7_floatBits_45 hl (by decide) rfl (fun ls hl => ?_)
        refine lv_iconst (v := 0) hx hb dX7_floatBits_47 (by decide) ?_
        refine lv_istore (lv' := [(7, .int (0 : Int32)), (6, .int (127 : Int32)), (4, .double v12), (3, .float v9), (2, .int v4)]) hx hb dX7_floatBits_48 hl (by decide) rfl (fun ls hl => ?_)
        refine bn_K h (fun K21 hK22 h => ?_)
        have HX23 : ∀ (v19 : UInt64) (v20 : Int32), K21 (v19, v20) = some r → ∀ (H : Heap) (locs : List Loc), SX E s st H locs → ∀ ls : Array Slot, lv_has ls 8 [(2, .int v4), (4, .double v19), (6, .int v20)] → W p l e (headSpec wsX7_floatBits ({ frames := 0, cells := 0, slots := 0, locals := 0 })).room s m ([.double a1] : List Value).toArray below meth c H locs 0 0 (MQ below (QX E (some (.int r)) st) ([.double a1] : List Value).toArray s 0 0 E.2.2.2) (F0 m 84 ls []) := by
          intro v19 v20 h H locs hw ls hl
          have h := kk1 h hK22
          have h := un2_d h
          refine lv_iconst (v := 0) hx hb dX7_floatBits_84 (by decide) ?_
          refine lv_istore (lv' := [(7, .int (0 : Int32)), (2, .int v4), (4, .double v19), (6, .int v20)]) hx hb dX7_floatBits_85 hl (by decide) rfl (fun ls hl => ?_)
          refine bn_K h (fun K32 hK33 h => ?_)
          have HX34 : ∀ (v30 : UInt64) (v31 : Int32), K32 (v30, v31) = some r → ∀ (H : Heap) (locs : List Loc), SX E s st H locs → ∀ ls : Array Slot, lv_has ls 8 [(2, .int v4), (4, .double v30), (6, .int v31)] → W p l e (headSpec wsX7_floatBits ({ frames := 0, cells := 0, slots := 0, locals := 0 })).room s m ([.double a1] : List Value).toArray below meth c H locs 0 0 (MQ below (QX E (some (.int r)) st) ([.double a1] : List Value).toArray s 0 0 E.2.2.2) (F0 m 127 ls []) := by
            intro v30 v31 h H locs hw ls hl
            have h := kk1 h hK33
            have h := un2_d h
            refine lv_iload_n hx hb dX7_floatBits_127 rfl (lv_at hl 0 rfl) ?_
            refine lv_iload hx hb dX7_floatBits_128 (lv_at hl 2 rfl) ?_
            refine lv_iconst (v := 1) hx hb dX7_floatBits_130 (by decide) ?_
            refine lv_isub hx hb dX7_floatBits_131 ?_
            refine lv_bipush (v := 23) hx hb dX7_floatBits_132 (by decide) ?_
            refine lv_ishl hx hb dX7_floatBits_134 ?_
            refine lv_dload hx hb dX7_floatBits_135 (lv_at hl 1 rfl) ?_
            refine lv_d2i hx hb dX7_floatBits_137 ?_
            refine lv_iadd hx hb dX7_floatBits_138 ?_
            refine lv_ior hx hb dX7_floatBits_139 ?_
            cases h
            exact W.iret hx hb hr (X_fin C0 hw) hw.2.2.2 dX7_floatBits_140 hlocks
          refine lp_ind (fun q : (Int32 × UInt64 × Int32) => ∀ (H : Heap) (locs : List Loc), SX E s st H locs → ∀ ls : Array Slot, lv_has ls 8 [(7, .int (q.1)), (2, .int v4), (4, .double (q.2.1)), (6, .int (q.2.2))] → W p l e (headSpec wsX7_floatBits ({ frames := 0, cells := 0, slots := 0, locals := 0 })).room s m ([.double a1] : List Value).toArray below meth c H locs 0 0 (MQ below (QX E (some (.int r)) st) ([.double a1] : List Value).toArray s 0 0 E.2.2.2) (F0 m 87 ls [])) (fun q o26 h hB25 hX24 => ?_) _ _ h _ _ hw _ (lv_sub hl [0, 1, 2, 3] rfl)
          intro H locs hw ls hl
          obtain ⟨v27, v28, v29⟩ := q
          have h := un3_d h
          have hl : lv_has ls 8 [(7, .int v27), (2, .int v4), (4, .double v28), (6, .int v29)] := hl
          refine lv_iload hx hb dX7_floatBits_87 (lv_at hl 0 rfl) ?_
          refine lv_sipush (v := 1100) hx hb dX7_floatBits_89 (by decide) ?_
          refine lv_icmp_ge (tgt := 127) hx hb dX7_floatBits_92 (by decide) (fun hc35 => ?_) (fun hc35 => ?_)
          · have h := ifp h hc35
            have h := hX24 _ (Option.some.inj h).symm
            exact HX34 _ _ h _ _ hw _ (lv_sub hl [1, 2, 3] rfl)
          · have h := ifn h hc35
            refine lv_dload hx hb dX7_floatBits_95 (lv_at hl 2 rfl) ?_
            refine lv_ldc2d hx hb hown (C0.1.2.2.2.2 _ (List.mem_cons_of_mem _ (List.mem_of_getElem? (i := 1) rfl))) dX7_floatBits_97 ?_
            refine lv_dcmp hx hb dX7_floatBits_100 ?_
            refine lv_if_ge (tgt := 127) hx hb dX7_floatBits_101 (by decide) (fun hc36 => ?_) (fun hc36 => ?_)
            · have h := ifp h hc36
              have h := hX24 _ (Option.some.inj h).symm
              exact HX34 _ _ h _ _ hw _ (lv_sub hl [1, 2, 3] rfl)
            · have h := ifn h hc36
              refine lv_iload hx hb dX7_floatBits_104 (lv_at hl 3 rfl) ?_
              refine lv_iconst (v := 1) hx hb dX7_floatBits_106 (by decide) ?_
              refine lv_icmp_le (tgt := 127) hx hb dX7_floatBits_107 (by decide) (fun hc37 => ?_) (fun hc37 => ?_)
              · have h := ifp h hc37
                have h := hX24 _ (Option.some.inj h).symm
                exact HX34 _ _ h _ _ hw _ (lv_sub hl [1, 2, 3] rfl)
              · have h := ifn h hc37
                refine lv_dload hx hb dX7_floatBits_110 (lv_at hl 2 rfl) ?_
                refine lv_ldc2d hx hb hown (C0.1.2.2.2.2 _ (List.mem_cons_of_mem _ (List.mem_of_getElem? (i := 4) rfl))) dX7_floatBits_112 ?_
                refine x_dmul hx hb h dX7_floatBits_115 (fun v38 h => ?_)
                refine lv_dstore (lv' := [(4, .double v38), (7, .int v27), (2, .int v4), (6, .int v29)]) hx hb dX7_floatBits_116 hl (by decide) rfl (fun ls hl => ?_)
                refine x_iinc hx hb h dX7_floatBits_118 hl (q := 3) rfl (fun v39 => [(6, .int v39), (4, .double v38), (7, .int v27), (2, .int v4)]) (by decide) (fun _ => rfl) (fun v39 ls hl h => ?_)
                refine x_iinc hx hb h dX7_floatBits_121 hl (q := 2) rfl (fun v40 => [(7, .int v40), (6, .int v39), (4, .double v38), (2, .int v4)]) (by decide) (fun _ => rfl) (fun v40 ls hl h => ?_)
                refine lv_goto (tgt := 87) hx hb dX7_floatBits_124 (by decide) ?_
                exact hB25 _ (Option.some.inj h).symm _ _ hw _ (lv_sub hl [0, 3, 2, 1] rfl)
        refine lp_ind (fun q : (Int32 × Int32 × UInt64) => ∀ (H : Heap) (locs : List Loc), SX E s st H locs → ∀ ls : Array Slot, lv_has ls 8 [(7, .int (q.1)), (6, .int (q.2.1)), (4, .double (q.2.2)), (2, .int v4)] → W p l e (headSpec wsX7_floatBits ({ frames := 0, cells := 0, slots := 0, locals := 0 })).room s m ([.double a1] : List Value).toArray below meth c H locs 0 0 (MQ below (QX E (some (.int r)) st) ([.double a1] : List Value).toArray s 0 0 E.2.2.2) (F0 m 50 ls [])) (fun q o15 h hB14 hX13 => ?_) _ _ h _ _ hw _ (lv_sub hl [0, 1, 2, 4] rfl)
        intro H locs hw ls hl
        obtain ⟨v16, v17, v18⟩ := q
        have h := un3_d h
        have hl : lv_has ls 8 [(7, .int v16), (6, .int v17), (4, .double v18), (2, .int v4)] := hl
        refine lv_iload hx hb dX7_floatBits_50 (lv_at hl 0 rfl) ?_
        refine lv_sipush (v := 1100) hx hb dX7_floatBits_52 (by decide) ?_
        refine lv_icmp_ge (tgt := 84) hx hb dX7_floatBits_55 (by decide) (fun hc41 => ?_) (fun hc41 => ?_)
        · have h := ifp h hc41
          have h := hX13 _ (Option.some.inj h).symm
          exact HX23 _ _ h _ _ hw _ (lv_sub hl [3, 2, 1] rfl)
        · have h := ifn h hc41
          refine lv_dload hx hb dX7_floatBits_58 (lv_at hl 2 rfl) ?_
          refine lv_ldc2d hx hb hown (C0.1.2.2.2.2 _ (List.mem_cons_of_mem _ (List.mem_of_getElem? (i := 2) rfl))) dX7_floatBits_60 ?_
          refine lv_dcmp hx hb dX7_floatBits_63 ?_
          refine lv_if_lt (tgt := 84) hx hb dX7_floatBits_64 (by decide) (fun hc42 => ?_) (fun hc42 => ?_)
          · have h := ifp h hc42
            have h := hX13 _ (Option.some.inj h).symm
            exact HX23 _ _ h _ _ hw _ (lv_sub hl [3, 2, 1] rfl)
          · have h := ifn h hc42
            refine lv_dload hx hb dX7_floatBits_67 (lv_at hl 2 rfl) ?_
            refine lv_ldc2d hx hb hown (C0.1.2.2.2.2 _ (List.mem_cons_of_mem _ (List.mem_of_getElem? (i := 3) rfl))) dX7_floatBits_69 ?_
            refine x_dmul hx hb h dX7_floatBits_72 (fun v43 h => ?_)
            refine lv_dstore (lv' := [(4, .double v43), (7, .int v16), (6, .int v17), (2, .int v4)]) hx hb dX7_floatBits_73 hl (by decide) rfl (fun ls hl => ?_)
            refine x_iinc hx hb h dX7_floatBits_75 hl (q := 2) rfl (fun v44 => [(6, .int v44), (4, .double v43), (7, .int v16), (2, .int v4)]) (by decide) (fun _ => rfl) (fun v44 ls hl h => ?_)
            refine x_iinc hx hb h dX7_floatBits_78 hl (q := 2) rfl (fun v45 => [(7, .int v45), (6, .int v44), (4, .double v43), (2, .int v4)]) (by decide) (fun _ => rfl) (fun v45 ls hl h => ?_)
            refine lv_goto (tgt := 50) hx hb dX7_floatBits_81 (by decide) ?_
            exact hB14 _ (Option.some.inj h).symm _ _ hw _ (lv_sub hl [0, 1, 2, 3] rfl)
      · have h := ifp h hc10
        refine lv_iload_n hx hb dX7_floatBits_33 rfl (lv_at hl 1 rfl) ?_
        cases h
        exact W.iret hx hb hr (X_fin C0 hw) hw.2.2.2 dX7_floatBits_34 hlocks
    refine lv_if_ge (tgt := 24) hx hb dX7_floatBits_16 (by decide) (fun hc46 => ?_) (fun hc46 => ?_)
    · have h := ifp h hc46
      refine lv_dload_n hx hb dX7_floatBits_24 rfl (lv_at hl 1 rfl) ?_
      exact HJ6 _ h _ _ hw _ (lv_sub hl [0] rfl)
    · have h := ifn h hc46
      refine lv_dload_n hx hb dX7_floatBits_19 rfl (lv_at hl 1 rfl) ?_
      refine lv_dneg hx hb dX7_floatBits_20 ?_
      refine lv_goto (tgt := 25) hx hb dX7_floatBits_21 (by decide) ?_
      exact HJ6 _ h _ _ hw _ (lv_sub hl [0] rfl)
  refine lv_if_ge (tgt := 11) hx hb dX7_floatBits_3 (by decide) (fun hc47 => ?_) (fun hc47 => ?_)
  · have h := ifp h hc47
    refine lv_iconst (v := 0) hx hb dX7_floatBits_11 (by decide) ?_
    exact HJ2 _ h _ _ hw _ (lv_sub hl [0] rfl)
  · have h := ifn h hc47
    refine lv_ldc hx hb hown (C0.1.2.2.2.2 _ (List.mem_cons_of_mem _ (List.mem_of_getElem? (i := 0) rfl))) dX7_floatBits_6 ?_
    refine lv_goto (tgt := 12) hx hb dX7_floatBits_8 (by decide) ?_
    exact HJ2 _ h _ _ hw _ (lv_sub hl [0] rfl)

def fX5_put (a1 : Int32) (a2 : Int32) (st : Sto) : Option Sto :=
  ((lp (σ := (Int32 × Sto)) (ρ := Sto) (un2 fun (v4 : Int32) (t5 : Sto) =>
     if (4 : Int32) ≤ v4 then (
      some (.inr t5)) else (
      ck (0 ≤ (a1 + v4).toInt ∧ (a1 + v4).toInt < (lIX (52) (0) : Int)) (lt1 (sI t5 (52) (0) ((a1 + v4).toNatClampNeg) (((a2.toUInt32 >>> (((24 : Int32) - ((8 : Int32) * v4)).toUInt32 &&& Int32.toUInt32 31)).toInt32) &&& (255 : Int32))) fun (t8 : Sto) =>
       lt1 (v4 + Int32.ofInt (1)) fun (v9 : Int32) =>
       some (.inl (v9, t8))))) 4000 ((0 : Int32), st)).bind
   (fun (t6 : Sto) =>
    some t6))
set_option maxHeartbeats 4000000 in
set_option maxRecDepth 100000 in
theorem mX5_put (l : Launch) (E : XE) (hL : LX E) (st : Sto) {a1 : Int32} {a2 : Int32} {st1 : Sto} (h : fX5_put a1 a2 st = some st1) : Met l yX5_put wsX5_put ({ frames := 0, cells := 0, slots := 0, locals := 0 }) (va_Pc [.ref (E.2.2.1 17 (0)), .int a1, .int a2] (RX E st)) (QX E none st1) 0 0 E.2.2.2 := by
  refine Met.ofW (cc := cX5_put) (maxL := 4) (ret := none) (by decide) rfl ?_
  intro p e s m args below meth c s₁ B hml hv
  obtain ⟨rfl, hP, hK⟩ := hv
  have hown : s.vm.findClass RX5 = some m.cls := findClass_of_methodNamed B.named
  have C0 : CX p m c cX5_put 4 s _ wsX5_put RX5 E := ⟨⟨B.exec, B.bytes, hml, hown, atoms_spec (ws := wsX5_put) B.pre⟩, hK⟩
  have hx := B.exec
  have hb := B.bytes
  have hr := B.returns
  have hlocks := B.notSynchronized
  have hw : SX E s st s.heap [] := ⟨hP, va_S.rf⟩
  have hl := lv_entry ([.ref (E.2.2.1 17 (0)), .int a1, .int a2]) (n := 4) (Nat.le_of_ble_eq_true rfl)
  rw [lg_entry_eq]
  generalize (lg_sl ([.ref (E.2.2.1 17 (0)), .int a1, .int a2]) ++ List.replicate (4 - (lg_sl ([.ref (E.2.2.1 17 (0)), .int a1, .int a2])).length) Slot.unset).toArray = ls at hl ⊢
  have hl : lv_has ls 4 [(0, .ref (E.2.2.1 17 (0))), (1, .int a1), (2, .int a2)] := hl
  unfold fX5_put at h
  refine lv_iconst (v := 0) hx hb dX5_put_0 (by decide) ?_
  refine lv_istore_n (lv' := [(3, .int (0 : Int32)), (0, .ref (E.2.2.1 17 (0))), (1, .int a1), (2, .int a2)]) hx hb dX5_put_1 rfl hl (by decide) rfl (fun ls hl => ?_)
  refine lp_ind (fun q : (Int32 × Sto) => ∀ (H : Heap) (locs : List Loc), SX E s (q.2) H locs → ∀ ls : Array Slot, lv_has ls 4 [(3, .int (q.1)), (0, .ref (E.2.2.1 17 (0))), (1, .int a1), (2, .int a2)] → W p l e (headSpec wsX5_put ({ frames := 0, cells := 0, slots := 0, locals := 0 })).room s m ([.ref (E.2.2.1 17 (0)), .int a1, .int a2] : List Value).toArray below meth c H locs 0 0 (MQ below (QX E none st1) ([.ref (E.2.2.1 17 (0)), .int a1, .int a2] : List Value).toArray s 0 0 E.2.2.2) (F0 m 2 ls [])) (fun q o3 h hB2 hX1 => ?_) _ _ h _ _ hw _ (lv_sub hl [0, 1, 2, 3] rfl)
  intro H locs hw ls hl
  obtain ⟨v4, t5⟩ := q
  have h := un2_d h
  have hw : SX E s t5 H locs := hw
  have hl : lv_has ls 4 [(3, .int v4), (0, .ref (E.2.2.1 17 (0))), (1, .int a1), (2, .int a2)] := hl
  refine lv_iload_n hx hb dX5_put_2 rfl (lv_at hl 0 rfl) ?_
  refine lv_iconst (v := 4) hx hb dX5_put_3 (by decide) ?_
  refine lv_icmp_ge (tgt := 34) hx hb dX5_put_4 (by decide) (fun hc7 => ?_) (fun hc7 => ?_)
  · have h := ifp h hc7
    have h := hX1 _ (Option.some.inj h).symm
    have hl := lv_sub hl (l' := []) [] rfl
    cases h
    exact W.vret hx hb hr (X_fin C0 hw) hw.2.2.2 dX5_put_34 hlocks
  · have h := ifn h hc7
    refine lv_aload_n hx hb dX5_put_7 rfl (lv_at hl 1 rfl) ?_
    refine X_g17_0 C0 hw (fun w h => (List.mem_cons_of_mem _ (List.mem_append_right _ h))) (by decide) ((List.mem_cons_of_mem _ (List.mem_append_left _ (List.mem_of_getElem? (i := 0) rfl)))) dX5_put_8 ?_
    refine lv_iload_n hx hb dX5_put_11 rfl (lv_at hl 2 rfl) ?_
    refine lv_iload_n hx hb dX5_put_12 rfl (lv_at hl 0 rfl) ?_
    refine lv_iadd hx hb dX5_put_13 ?_
    refine lv_iload_n hx hb dX5_put_14 rfl (lv_at hl 3 rfl) ?_
    refine lv_bipush (v := 24) hx hb dX5_put_15 (by decide) ?_
    refine lv_bipush (v := 8) hx hb dX5_put_17 (by decide) ?_
    refine lv_iload_n hx hb dX5_put_19 rfl (lv_at hl 0 rfl) ?_
    refine lv_imul hx hb dX5_put_20 ?_
    refine lv_isub hx hb dX5_put_21 ?_
    refine lv_iushr hx hb dX5_put_22 rfl ?_
    refine lv_sipush (v := 255) hx hb dX5_put_23 (by decide) ?_
    refine lv_iand hx hb dX5_put_26 ?_
    refine X_iast hL C0 hw h (k := (a1 + v4).toNatClampNeg) rfl dX5_put_27 (fun t8 H locs hw h => ?_)
    refine x_iinc hx hb h dX5_put_28 hl (q := 0) rfl (fun v9 => [(3, .int v9), (0, .ref (E.2.2.1 17 (0))), (1, .int a1), (2, .int a2)]) (by decide) (fun _ => rfl) (fun v9 ls hl h => ?_)
    refine lv_goto (tgt := 2) hx hb dX5_put_31 (by decide) ?_
    exact hB2 _ (Option.some.inj h).symm _ _ hw _ (lv_sub hl [0, 1, 2, 3] rfl)

def fX5_sumOf (a1f : Nat) (a1i : Nat) (st : Sto) : Option Int32 :=
  ((lp (σ := (Int32 × Int32)) (ρ := Int32) (un2 fun (v4 : Int32) (v5 : Int32) =>
     if (64 : Int32) ≤ v4 then (
      some (.inr v5)) else (
      ck (0 ≤ v4.toInt ∧ v4.toInt < (lIX a1f a1i : Int)) (
       lt1 ((v5 * (31 : Int32)) + (gI st a1f a1i (v4.toNatClampNeg))) fun (v8 : Int32) =>
       lt1 (v4 + Int32.ofInt (1)) fun (v9 : Int32) =>
       some (.inl (v9, v8))))) 4000 ((0 : Int32), (17 : Int32))).bind
   (fun (v6 : Int32) =>
    some v6))
set_option maxHeartbeats 4000000 in
set_option maxRecDepth 100000 in
theorem mX5_sumOf (l : Launch) (E : XE) (hL : LX E) (st : Sto) {a1f : Nat} {a1i : Nat} {r : Int32} (h : fX5_sumOf a1f a1i st = some r) : Met l yX5_sumOf wsX5_sumOf ({ frames := 0, cells := 0, slots := 0, locals := 0 }) (va_Pc [.ref (E.2.2.1 a1f a1i)] (RX E st)) (QX E (some (.int r)) st) 0 0 E.2.2.2 := by
  refine Met.ofW (cc := cX5_sumOf) (maxL := 3) (ret := (some .int)) (by decide) rfl ?_
  intro p e s m args below meth c s₁ B hml hv
  obtain ⟨rfl, hP, hK⟩ := hv
  have hown : s.vm.findClass RX5 = some m.cls := findClass_of_methodNamed B.named
  have C0 : CX p m c cX5_sumOf 3 s _ wsX5_sumOf RX5 E := ⟨⟨B.exec, B.bytes, hml, hown, atoms_spec (ws := wsX5_sumOf) B.pre⟩, hK⟩
  have hx := B.exec
  have hb := B.bytes
  have hr := B.returns
  have hlocks := B.notSynchronized
  have hw : SX E s st s.heap [] := ⟨hP, va_S.rf⟩
  have hl := lv_entry ([.ref (E.2.2.1 a1f a1i)]) (n := 3) (Nat.le_of_ble_eq_true rfl)
  rw [lg_entry_eq]
  generalize (lg_sl ([.ref (E.2.2.1 a1f a1i)]) ++ List.replicate (3 - (lg_sl ([.ref (E.2.2.1 a1f a1i)])).length) Slot.unset).toArray = ls at hl ⊢
  have hl : lv_has ls 3 [(0, .ref (E.2.2.1 a1f a1i))] := hl
  unfold fX5_sumOf at h
  refine lv_bipush (v := 17) hx hb dX5_sumOf_0 (by decide) ?_
  refine lv_istore_n (lv' := [(1, .int (17 : Int32)), (0, .ref (E.2.2.1 a1f a1i))]) hx hb dX5_sumOf_2 rfl hl (by decide) rfl (fun ls hl => ?_)
  refine lv_iconst (v := 0) hx hb dX5_sumOf_3 (by decide) ?_
  refine lv_istore_n (lv' := [(2, .int (0 : Int32)), (1, .int (17 : Int32)), (0, .ref (E.2.2.1 a1f a1i))]) hx hb dX5_sumOf_4 rfl hl (by decide) rfl (fun ls hl => ?_)
  refine lp_ind (fun q : (Int32 × Int32) => ∀ (H : Heap) (locs : List Loc), SX E s st H locs → ∀ ls : Array Slot, lv_has ls 3 [(2, .int (q.1)), (1, .int (q.2)), (0, .ref (E.2.2.1 a1f a1i))] → W p l e (headSpec wsX5_sumOf ({ frames := 0, cells := 0, slots := 0, locals := 0 })).room s m ([.ref (E.2.2.1 a1f a1i)] : List Value).toArray below meth c H locs 0 0 (MQ below (QX E (some (.int r)) st) ([.ref (E.2.2.1 a1f a1i)] : List Value).toArray s 0 0 E.2.2.2) (F0 m 5 ls [])) (fun q o3 h hB2 hX1 => ?_) _ _ h _ _ hw _ (lv_sub hl [0, 1, 2] rfl)
  intro H locs hw ls hl
  obtain ⟨v4, v5⟩ := q
  have h := un2_d h
  have hl : lv_has ls 3 [(2, .int v4), (1, .int v5), (0, .ref (E.2.2.1 a1f a1i))] := hl
  refine lv_iload_n hx hb dX5_sumOf_5 rfl (lv_at hl 0 rfl) ?_
  refine lv_bipush (v := 64) hx hb dX5_sumOf_6 (by decide) ?_
  refine lv_icmp_ge (tgt := 26) hx hb dX5_sumOf_8 (by decide) (fun hc7 => ?_) (fun hc7 => ?_)
  · have h := ifp h hc7
    have h := hX1 _ (Option.some.inj h).symm
    have hl := lv_sub hl (l' := [(1, .int v5)]) [1] rfl
    refine lv_iload_n hx hb dX5_sumOf_26 rfl (lv_at hl 0 rfl) ?_
    cases h
    exact W.iret hx hb hr (X_fin C0 hw) hw.2.2.2 dX5_sumOf_27 hlocks
  · have h := ifn h hc7
    refine lv_iload_n hx hb dX5_sumOf_11 rfl (lv_at hl 1 rfl) ?_
    refine lv_bipush (v := 31) hx hb dX5_sumOf_12 (by decide) ?_
    refine lv_imul hx hb dX5_sumOf_14 ?_
    refine lv_aload_n hx hb dX5_sumOf_15 rfl (lv_at hl 2 rfl) ?_
    refine lv_iload_n hx hb dX5_sumOf_16 rfl (lv_at hl 0 rfl) ?_
    refine X_iald C0 hw h (k := v4.toNatClampNeg) rfl dX5_sumOf_17 (fun h => ?_)
    refine lv_iadd hx hb dX5_sumOf_18 ?_
    refine x_topi h (fun v8 h => ?_)
    refine lv_istore_n (lv' := [(1, .int v8), (2, .int v4), (0, .ref (E.2.2.1 a1f a1i))]) hx hb dX5_sumOf_19 rfl hl (by decide) rfl (fun ls hl => ?_)
    refine x_iinc hx hb h dX5_sumOf_20 hl (q := 1) rfl (fun v9 => [(2, .int v9), (1, .int v8), (0, .ref (E.2.2.1 a1f a1i))]) (by decide) (fun _ => rfl) (fun v9 ls hl h => ?_)
    refine lv_goto (tgt := 5) hx hb dX5_sumOf_23 (by decide) ?_
    exact hB2 _ (Option.some.inj h).symm _ _ hw _ (lv_sub hl [0, 1, 2] rfl)
