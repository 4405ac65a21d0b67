def fX12_trouble (st : Sto) : Option (Int32 × Sto) :=
  lt1 (sI st 0 (0) 10 (0 : Int32)) fun (t1 : Sto) =>
  some (gI t1 0 (0) 9, t1)
set_option maxHeartbeats 4000000 in
set_option maxRecDepth 100000 in
theorem mX12_trouble (l : Launch) (E : XE) (hL : LM E) (st : Sto) {r : Int32} {st1 : Sto} (h : fX12_trouble st = some (r, st1)) : Met l yX12_trouble wsX12_trouble ({ frames := 0, cells := 0, slots := 0, locals := 0 }) (va_Pc [.ref (E.2.2.1 0 (0))] (RM E st)) (QM E (some (.int r)) st1) 0 0 E.2.2.2 := by
  refine Met.ofW (cc := cX12_trouble) (maxL := 1) (ret := (some .int)) (by decide) rfl ?_
  intro p e s m args below meth c s₁ B hml hv
  obtain ⟨rfl, hP, hK⟩ := hv
  have hown : s.vm.findClass RX12 = some m.cls := findClass_of_methodNamed B.named
  have C0 : CX p m c cX12_trouble 1 s _ wsX12_trouble RX12 E := ⟨⟨B.exec, B.bytes, hml, hown, atoms_spec (ws := wsX12_trouble) B.pre⟩, hK⟩
  have hx := B.exec
  have hb := B.bytes
  have hr := B.returns
  have hlocks := B.notSynchronized
  have hw : SM E s st s.heap [] := ⟨hP, va_S.rf⟩
  have hl := lv_entry ([.ref (E.2.2.1 0 (0))]) (n := 1) (Nat.le_of_ble_eq_true rfl)
  rw [lg_entry_eq]
  generalize (lg_sl ([.ref (E.2.2.1 0 (0))]) ++ List.replicate (1 - (lg_sl ([.ref (E.2.2.1 0 (0))])).length) Slot.unset).toArray = ls at hl ⊢
  have hl : lv_has ls 1 [(0, .ref (E.2.2.1 0 (0)))] := hl
  unfold fX12_trouble at h
  refine lv_aload_n hx hb dX12_trouble_0 rfl (lv_at hl 0 rfl) ?_
  refine lv_iconst (v := 0) hx hb dX12_trouble_1 (by decide) ?_
  refine M_p0_10 hL C0 hw (fun w h => (List.mem_cons_of_mem _ (List.mem_append_right _ h))) (by decide) h ((List.mem_cons_of_mem _ (List.mem_append_left _ (List.mem_of_getElem? (i := 0) rfl)))) dX12_trouble_2 (fun t1 H locs hw h => ?_)
  refine lv_aload_n hx hb dX12_trouble_5 rfl (lv_at hl 0 rfl) ?_
  refine M_g0_9 C0 hw (fun w h => (List.mem_cons_of_mem _ (List.mem_append_right _ h))) (by decide) ((List.mem_cons_of_mem _ (List.mem_append_left _ (List.mem_of_getElem? (i := 1) rfl)))) dX12_trouble_6 ?_
  cases h
  exact W.iret hx hb hr (M_fin C0 hw) hw.2.2.2 dX12_trouble_9 hlocks

def fX12_count (a1 : Int32) (st : Sto) : Option (Int32 × Sto) :=
  lt1 (sI st 0 (0) 10 (0 : Int32)) fun (t1 : Sto) =>
  if a1 = 0 then (
   some (gI t1 0 (0) 2, t1)) else if a1 = 1 then (
   some (gI t1 0 (0) 3, t1)) else if a1 = 2 then (
   some (gI t1 0 (0) 4, t1)) else if a1 = 3 then (
   some (gI t1 0 (0) 5, t1)) else if a1 = 4 then (
   some (gI t1 0 (0) 6, t1)) else if a1 = 5 then (
   some (gI t1 0 (0) 7, t1)) else if a1 = 6 then (
   some (gI t1 0 (0) 8, t1)) else if a1 = 7 then (
   some (gI t1 0 (0) 44, t1)) else if a1 = 8 then (
   some (gI t1 0 (0) 75, t1)) else (
   some ((-1 : Int32), t1))
set_option maxHeartbeats 4000000 in
set_option maxRecDepth 100000 in
theorem mX12_count (l : Launch) (E : XE) (hL : LM E) (st : Sto) {a1 : Int32} {r : Int32} {st1 : Sto} (h : fX12_count a1 st = some (r, st1)) : Met l yX12_count wsX12_count ({ frames := 0, cells := 0, slots := 0, locals := 0 }) (va_Pc [.ref (E.2.2.1 0 (0)), .int a1] (RM E st)) (QM E (some (.int r)) st1) 0 0 E.2.2.2 := by
  refine Met.ofW (cc := cX12_count) (maxL := 2) (ret := (some .int)) (by decide) rfl ?_
  intro p e s m args below meth c s₁ B hml hv
  obtain ⟨rfl, hP, hK⟩ := hv
  have hown : s.vm.findClass RX12 = some m.cls := findClass_of_methodNamed B.named
  have C0 : CX p m c cX12_count 2 s _ wsX12_count RX12 E := ⟨⟨B.exec, B.bytes, hml, hown, atoms_spec (ws := wsX12_count) B.pre⟩, hK⟩
  have hx := B.exec
  have hb := B.bytes
  have hr := B.returns
  have hlocks := B.notSynchronized
  have hw : SM E s st s.heap [] := ⟨hP, va_S.rf⟩
  have hl := lv_entry ([.ref (E.2.2.1 0 (0)), .int a1]) (n := 2) (Nat.le_of_ble_eq_true rfl)
  rw [lg_entry_eq]
  generalize (lg_sl ([.ref (E.2.2.1 0 (0)), .int a1]) ++ List.replicate (2 - (lg_sl ([.ref (E.2.2.1 0 (0)), .int a1])).length) Slot.unset).toArray = ls at hl ⊢
  have hl : lv_has ls 2 [(0, .ref (E.2.2.1 0 (0))), (1, .int a1)] := hl
  unfold fX12_count at h
  refine lv_aload_n hx hb dX12_count_0 rfl (lv_at hl 0 rfl) ?_
  refine lv_iconst (v := 0) hx hb dX12_count_1 (by decide) ?_
  refine M_p0_10 hL C0 hw (fun w h => (List.mem_cons_of_mem _ (List.mem_append_right _ h))) (by decide) h ((List.mem_cons_of_mem _ (List.mem_append_left _ (List.mem_of_getElem? (i := 0) rfl)))) dX12_count_2 (fun t1 H locs hw h => ?_)
  refine lv_iload_n hx hb dX12_count_5 rfl (lv_at hl 1 rfl) ?_
  by_cases hc0 : a1 = 0
  · have h := ifp h hc0
    refine lv_tableIn (tgt := 56) hx hb dX12_count_6 (by rw [hc0]; decide) (by rw [hc0]; decide) (by rw [hc0]; rfl) (by decide) ?_
    refine lv_aload_n hx hb dX12_count_56 rfl (lv_at hl 0 rfl) ?_
    refine M_g0_2 C0 hw (fun w h => (List.mem_cons_of_mem _ (List.mem_append_right _ h))) (by decide) ((List.mem_cons_of_mem _ (List.mem_append_left _ (List.mem_of_getElem? (i := 1) rfl)))) dX12_count_57 ?_
    cases h
    exact W.iret hx hb hr (M_fin C0 hw) hw.2.2.2 dX12_count_60 hlocks
  have h := ifn h hc0
  by_cases hc1 : a1 = 1
  · have h := ifp h hc1
    refine lv_tableIn (tgt := 61) hx hb dX12_count_6 (by rw [hc1]; decide) (by rw [hc1]; decide) (by rw [hc1]; rfl) (by decide) ?_
    refine lv_aload_n hx hb dX12_count_61 rfl (lv_at hl 0 rfl) ?_
    refine M_g0_3 C0 hw (fun w h => (List.mem_cons_of_mem _ (List.mem_append_right _ h))) (by decide) ((List.mem_cons_of_mem _ (List.mem_append_left _ (List.mem_of_getElem? (i := 2) rfl)))) dX12_count_62 ?_
    cases h
    exact W.iret hx hb hr (M_fin C0 hw) hw.2.2.2 dX12_count_65 hlocks
  have h := ifn h hc1
  by_cases hc2 : a1 = 2
  · have h := ifp h hc2
    refine lv_tableIn (tgt := 66) hx hb dX12_count_6 (by rw [hc2]; decide) (by rw [hc2]; decide) (by rw [hc2]; rfl) (by decide) ?_
    refine lv_aload_n hx hb dX12_count_66 rfl (lv_at hl 0 rfl) ?_
    refine M_g0_4 C0 hw (fun w h => (List.mem_cons_of_mem _ (List.mem_append_right _ h))) (by decide) ((List.mem_cons_of_mem _ (List.mem_append_left _ (List.mem_of_getElem? (i := 3) rfl)))) dX12_count_67 ?_
    cases h
    exact W.iret hx hb hr (M_fin C0 hw) hw.2.2.2 dX12_count_70 hlocks
  have h := ifn h hc2
  by_cases hc3 : a1 = 3
  · have h := ifp h hc3
    refine lv_tableIn (tgt := 71) hx hb dX12_count_6 (by rw [hc3]; decide) (by rw [hc3]; decide) (by rw [hc3]; rfl) (by decide) ?_
    refine lv_aload_n hx hb dX12_count_71 rfl (lv_at hl 0 rfl) ?_
    refine M_g0_5 C0 hw (fun w h => (List.mem_cons_of_mem _ (List.mem_append_right _ h))) (by decide) ((List.mem_cons_of_mem _ (List.mem_append_left _ (List.mem_of_getElem? (i := 4) rfl)))) dX12_count_72 ?_
    cases h
    exact W.iret hx hb hr (M_fin C0 hw) hw.2.2.2 dX12_count_75 hlocks
  have h := ifn h hc3
  by_cases hc4 : a1 = 4
  · have h := ifp h hc4
    refine lv_tableIn (tgt := 76) hx hb dX12_count_6 (by rw [hc4]; decide) (by rw [hc4]; decide) (by rw [hc4]; rfl) (by decide) ?_
    refine lv_aload_n hx hb dX12_count_76 rfl (lv_at hl 0 rfl) ?_
    refine M_g0_6 C0 hw (fun w h => (List.mem_cons_of_mem _ (List.mem_append_right _ h))) (by decide) ((List.mem_cons_of_mem _ (List.mem_append_left _ (List.mem_of_getElem? (i := 5) rfl)))) dX12_count_77 ?_
    cases h
    exact W.iret hx hb hr (M_fin C0 hw) hw.2.2.2 dX12_count_80 hlocks
  have h := ifn h hc4
  by_cases hc5 : a1 = 5
  · have h := ifp h hc5
    refine lv_tableIn (tgt := 81) hx hb dX12_count_6 (by rw [hc5]; decide) (by rw [hc5]; decide) (by rw [hc5]; rfl) (by decide) ?_
    refine lv_aload_n hx hb dX12_count_81 rfl (lv_at hl 0 rfl) ?_
    refine M_g0_7 C0 hw (fun w h => (List.mem_cons_of_mem _ (List.mem_append_right _ h))) (by decide) ((List.mem_cons_of_mem _ (List.mem_append_left _ (List.mem_of_getElem? (i := 6) rfl)))) dX12_count_82 ?_
    cases h
    exact W.iret hx hb hr (M_fin C0 hw) hw.2.2.2 dX12_count_85 hlocks
  have h := ifn h hc5
  by_cases hc6 : a1 = 6
  · have h := ifp h hc6
    refine lv_tableIn (tgt := 86) hx hb dX12_count_6 (by rw [hc6]; decide) (by rw [hc6]; decide) (by rw [hc6]; rfl) (by decide) ?_
    refine lv_aload_n hx hb dX12_count_86 rfl (lv_at hl 0 rfl) ?_
    refine M_g0_8 C0 hw (fun w h => (List.mem_cons_of_mem _ (List.mem_append_right _ h))) (by decide) ((List.mem_cons_of_mem _ (List.mem_append_left _ (List.mem_of_getElem? (i := 7) rfl)))) dX12_count_87 ?_
    cases h
    exact W.iret hx hb hr (M_fin C0 hw) hw.2.2.2 dX12_count_90 hlocks
  have h := ifn h hc6
  by_cases hc7 : a1 = 7
  · have h := ifp h hc7
    refine lv_tableIn (tgt := 91) hx hb dX12_count_6 (by rw [hc7]; decide) (by rw [hc7]; decide) (by rw [hc7]; rfl) (by decide) ?_
    refine lv_aload_n hx hb dX12_count_91 rfl (lv_at hl 0 rfl) ?_
    refine M_g0_44 C0 hw (fun w h => (List.mem_cons_of_mem _ (List.mem_append_right _ h))) (by decide) ((List.mem_cons_of_mem _ (List.mem_append_left _ (List.mem_of_getElem? (i := 8) rfl)))) dX12_count_92 ?_
    cases h
    exact W.iret hx hb hr (M_fin C0 hw) hw.2.2.2 dX12_count_95 hlocks
  have h := ifn h hc7
  by_cases hc8 : a1 = 8
  · have h := ifp h hc8
    refine lv_tableIn (tgt := 96) hx hb dX12_count_6 (by rw [hc8]; decide) (by rw [hc8]; decide) (by rw [hc8]; rfl) (by decide) ?_
    refine lv_aload_n hx hb dX12_count_96 rfl (lv_at hl 0 rfl) ?_
    refine M_g0_75 C0 hw (fun w h => (List.mem_cons_of_mem _ (List.mem_append_right _ h))) (by decide) ((List.mem_cons_of_mem _ (List.mem_append_left _ (List.mem_of_getElem? (i := 9) rfl)))) dX12_count_97 ?_
    cases h
    exact W.iret hx hb hr (M_fin C0 hw) hw.2.2.2 dX12_count_100 hlocks
  have h := ifn h hc8
  refine lv_tableOut (tgt := 101) hx hb dX12_count_6 (by have := sw_ne (n := 0) hc0 (by decide); have := sw_ne (n := 1) hc1 (by decide); have := sw_ne (n := 2) hc2 (by decide); have := sw_ne (n := 3) hc3 (by decide); have := sw_ne (n := 4) hc4 (by decide); have := sw_ne (n := 5) hc5 (by decide); have := sw_ne (n := 6) hc6 (by decide); have := sw_ne (n := 7) hc7 (by decide); have := sw_ne (n := 8) hc8 (by decide); omega) (by decide) ?_
  refine lv_iconst (v := -1) hx hb dX12_count_101 (by decide) ?_
  cases h
  exact W.iret hx hb hr (M_fin C0 hw) hw.2.2.2 dX12_count_102 hlocks
