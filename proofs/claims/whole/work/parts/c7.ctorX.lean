/-! ===== what the constructor of the class makes ===== -/
def NestX (U : State) : Prop := va_Nw (.methodLinkNest RX11 70 yX9_init RX11) U ∧ va_Nw (.methodLinkNest RX11 81 yX6_init RX11) U ∧ va_Nw (.methodLinkNest RX11 88 yX8_init RX11) U ∧ va_Nw (.methodLinkNest RX11 98 yX5_init RX11) U ∧ va_Nw (.methodLinkNest RX11 105 yX0_init RX11) U ∧ va_Nw (.methodLinkNest RX11 113 yX2_init RX11) U ∧ va_Nw (.methodLinkNest RX11 114 yX3_init RX11) U ∧ va_Nw (.methodLinkNest RX11 115 yX10_init RX11) U ∧ va_Nw (.methodLinkNest RX11 116 yX4_init RX11) U ∧ va_Nw (.methodLinkNest RX11 117 yX1_init RX11) U
def AOH (U : State) : Prop := AOX U ∧ NestX U
theorem AOH_m (u U : State) (hw : u.WarmedH U.vm) (k : AOH u) : AOH U := ⟨AOX_m u U hw k.1, va_Nw.warmM hw k.2.1, va_Nw.warmM hw k.2.2.1, va_Nw.warmM hw k.2.2.2.1, va_Nw.warmM hw k.2.2.2.2.1, va_Nw.warmM hw k.2.2.2.2.2.1, va_Nw.warmM hw k.2.2.2.2.2.2.1, va_Nw.warmM hw k.2.2.2.2.2.2.2.1, va_Nw.warmM hw k.2.2.2.2.2.2.2.2.1, va_Nw.warmM hw k.2.2.2.2.2.2.2.2.2.1, va_Nw.warmM hw k.2.2.2.2.2.2.2.2.2.2⟩
set_option maxHeartbeats 16000000 in
set_option maxRecDepth 100000 in
theorem ctX11 (l : Launch) (E : XE) (h : Nat) (hlay : ∀ f i, E.2.2.1 f i = h + offH f i) : CT l yX11_init wsX11_init ({ frames := 2, cells := 524, slots := 6662, locals := 40 }) E.1 E.2.1 AOH 10 [.null, .null, .int 0, .null, .null, .null, .null, .null, .null, .null, .null, .int 0, .null, .null, .null, .null, .null, .null, .null, .int 0] h (fun k => cX0 E (fmH k) (ixH k)) 525 524 6662 := by
  refine Met.ofW (cc := cX11_init) (maxL := 2) (ret := none) (by decide) rfl ?_
  intro p e s m args below meth c s₁ B hml hv
  obtain ⟨rfl, ⟨hsz, hP⟩, hK, hA⟩ := hv
  have hx := B.exec
  have hb := B.bytes
  have hr := B.returns
  have hts := atoms_spec (ws := wsX11_init) B.pre
  have hown : s.vm.findClass RX11 = some m.cls := findClass_of_methodNamed B.named
  have hlocks := B.notSynchronized
  have hin : meth.name = "<init>" := (name_of_methodNamed B.named B.method).1
  have hl := lv_entry ([.ref h]) (n := 2) (Nat.le_of_ble_eq_true rfl)
  rw [lg_entry_eq]
  generalize (lg_sl ([.ref h]) ++ List.replicate (2 - (lg_sl ([.ref h])).length) Slot.unset).toArray = ls at hl ⊢
  have hl : lv_has ls 2 [(0, .ref h)] := hl
  obtain ⟨locs, hlocs⟩ : ∃ q : List Loc, q = [] := ⟨_, rfl⟩
  have hc : CS E.1 h 1 (GU E (.inr (10, [.null, .null, .int 0, .null, .null, .null, .null, .null, .null, .null, .null, .int 0, .null, .null, .null, .null, .null, .null, .null, .int 0])) (arR E 6 40 19 0) (arR E 7 12 22 0) (arR E 8 12 26 0) (arR E 9 20 29 0) (arR E 10 12 30 0)) s.heap s.heap locs := ⟨hsz, fun k hk => by rw [show k = 0 by omega]; exact hP, fun _ _ => rfl, by rw [hlocs]; exact fun z hz => by cases hz⟩
  rw [← hlocs]
  clear hlocs
  refine lv_aload_n hx hb dX11_init_0 rfl (lv_at hl 0 rfl) ?_
  refine W.objInit hx hb hown (hts (.methodLink RX11 1 objectInit) (by decide +kernel)) (hts (.instanceMethod objectInit) (by decide +kernel)) (hts _ (List.mem_of_getElem? (i := 3) rfl)) rfl (by rw [hml]; exact hl.1) rfl dX11_init_1 (Nat.le_of_ble_eq_true rfl) (Nat.le_of_ble_eq_true rfl) ?_
  refine W.eq (g2 := F0 m 4 ls []) rfl ?_
  refine lv_aload_n hx hb dX11_init_4 rfl (lv_at hl 0 rfl) ?_
  refine lv_bipush (v := 16) hx hb dX11_init_5 (by decide) ?_
  refine cs_newaT (atype := .float) (ty := .float) (cA := E.2.1 1) (N' := 16) (a0 := (16, .inr (.inr (.inl (fun _ => 0))))) hx hb (hts (.arrayClass .float) (by decide +kernel)) rfl ((hK.2 1 (E.2.1 1, .float) rfl).2) hc (GU_g (by decide)) (fun _ => rfl) (by decide) (by decide) (Nat.le_of_ble_eq_true rfl) (Nat.le_of_ble_eq_true rfl) (Nat.le_of_ble_eq_true rfl) dX11_init_7 (fun H hc => ?_)
  have hc : CS E.1 h 2 (GU E (.inr (10, [.null, .null, .int 0, .null, .null, .null, .null, .null, .null, .null, .null, .int 0, .null, .null, .null, .null, .null, .null, .null, .int 0])) (arR E 6 40 19 0) (arR E 7 12 22 0) (arR E 8 12 26 0) (arR E 9 20 29 0) (arR E 10 12 30 0)) s.heap H locs := hc
  refine W.widen (k := 1) (n := 16) (by omega) (by omega) ?_
  refine cs_putF (D := E.1) (i := 0) (ci := 10) (v := .ref (h + 1)) (ty := .array .float) (C := RX11) (T := TX11) (N := 20) hx hb hts (by decide +kernel) tyX11 tyX11_ok nmX11 hown hK hc (by decide) rfl rfl 0 (by decide) (hts (.fieldLink RX11 9 "ColourHouse" "row" "[F") (by decide +kernel)) (fun _ h9 => h9) rfl hin rfl (by decide +kernel) rfl rfl (Nat.le_of_ble_eq_true rfl) dX11_init_9 (fun H locs hc => ?_)
  rw [GU_0] at hc
  have hc : CS E.1 h 2 (GU E (.inr (10, [.ref (h + 1), .null, .int 0, .null, .null, .null, .null, .null, .null, .null, .null, .int 0, .null, .null, .null, .null, .null, .null, .null, .int 0])) (arR E 6 40 19 0) (arR E 7 12 22 0) (arR E 8 12 26 0) (arR E 9 20 29 0) (arR E 10 12 30 0)) s.heap H locs := hc
  refine lv_aload_n hx hb dX11_init_12 rfl (lv_at hl 0 rfl) ?_
  refine lv_bipush (v := 16) hx hb dX11_init_13 (by decide) ?_
  refine cs_newaT (atype := .float) (ty := .float) (cA := E.2.1 1) (N' := 16) (a0 := (16, .inr (.inr (.inl (fun _ => 0))))) hx hb (hts (.arrayClass .float) (by decide +kernel)) rfl ((hK.2 1 (E.2.1 1, .float) rfl).2) hc (GU_g (by decide)) (fun _ => rfl) (by decide) (by decide) (Nat.le_of_ble_eq_true rfl) (Nat.le_of_ble_eq_true rfl) (Nat.le_of_ble_eq_true rfl) dX11_init_15 (fun H hc => ?_)
  have hc : CS E.1 h 3 (GU E (.inr (10, [.ref (h + 1), .null, .int 0, .null, .null, .null, .null, .null, .null, .null, .null, .int 0, .null, .null, .null, .null, .null, .null, .null, .int 0])) (arR E 6 40 19 0) (arR E 7 12 22 0) (arR E 8 12 26 0) (arR E 9 20 29 0) (arR E 10 12 30 0)) s.heap H locs := hc
  refine W.widen (k := 2) (n := 32) (by omega) (by omega) ?_
  refine cs_putF (D := E.1) (i := 0) (ci := 10) (v := .ref (h + 2)) (ty := .array .float) (C := RX11) (T := TX11) (N := 20) hx hb hts (by decide +kernel) tyX11 tyX11_ok nmX11 hown hK hc (by decide) rfl rfl 1 (by decide) (hts (.fieldLink RX11 13 "ColourHouse" "prediction" "[F") (by decide +kernel)) (fun _ h9 => h9) rfl hin rfl (by decide +kernel) rfl rfl (Nat.le_of_ble_eq_true rfl) dX11_init_17 (fun H locs hc => ?_)
  rw [GU_0] at hc
  have hc : CS E.1 h 3 (GU E (.inr (10, [.ref (h + 1), .ref (h + 2), .int 0, .null, .null, .null, .null, .null, .null, .null, .null, .int 0, .null, .null, .null, .null, .null, .null, .null, .int 0])) (arR E 6 40 19 0) (arR E 7 12 22 0) (arR E 8 12 26 0) (arR E 9 20 29 0) (arR E 10 12 30 0)) s.heap H locs := hc
  refine lv_aload_n hx hb dX11_init_20 rfl (lv_at hl 0 rfl) ?_
  refine lv_iconst (v := 0) hx hb dX11_init_21 (by decide) ?_
  refine cs_put (D := E.1) (i := 0) (ci := 10) (v := .int 0) (ty := .boolean) (C := RX11) (T := TX11) (N := 20) hx hb hts (by decide +kernel) tyX11 tyX11_ok nmX11 hown hK hc (by decide) rfl rfl 2 (by decide) (hts (.fieldLink RX11 16 "ColourHouse" "predicted" "Z") (by decide +kernel)) (fun _ h9 => h9) rfl (by decide +kernel) rfl rfl (Nat.le_of_ble_eq_true rfl) dX11_init_22 (fun H locs hc => ?_)
  rw [GU_0] at hc
  have hc : CS E.1 h 3 (GU E (.inr (10, [.ref (h + 1), .ref (h + 2), .int 0, .null, .null, .null, .null, .null, .null, .null, .null, .int 0, .null, .null, .null, .null, .null, .null, .null, .int 0])) (arR E 6 40 19 0) (arR E 7 12 22 0) (arR E 8 12 26 0) (arR E 9 20 29 0) (arR E 10 12 30 0)) s.heap H locs := hc
  refine lv_aload_n hx hb dX11_init_25 rfl (lv_at hl 0 rfl) ?_
  refine lv_bipush (v := 6) hx hb dX11_init_26 (by decide) ?_
  refine cs_newaT (atype := .int) (ty := .int) (cA := E.2.1 0) (N' := 6) (a0 := (6, .inl (fun _ => 0))) hx hb (hts (.arrayClass .int) (by decide +kernel)) rfl ((hK.2 0 (E.2.1 0, .int) rfl).2) hc (GU_g (by decide)) (fun _ => rfl) (by decide) (by decide) (Nat.le_of_ble_eq_true rfl) (Nat.le_of_ble_eq_true rfl) (Nat.le_of_ble_eq_true rfl) dX11_init_28 (fun H hc => ?_)
  have hc : CS E.1 h 4 (GU E (.inr (10, [.ref (h + 1), .ref (h + 2), .int 0, .null, .null, .null, .null, .null, .null, .null, .null, .int 0, .null, .null, .null, .null, .null, .null, .null, .int 0])) (arR E 6 40 19 0) (arR E 7 12 22 0) (arR E 8 12 26 0) (arR E 9 20 29 0) (arR E 10 12 30 0)) s.heap H locs := hc
  refine W.widen (k := 3) (n := 38) (by omega) (by omega) ?_
  refine cs_putF (D := E.1) (i := 0) (ci := 10) (v := .ref (h + 3)) (ty := .array .int) (C := RX11) (T := TX11) (N := 20) hx hb hts (by decide +kernel) tyX11 tyX11_ok nmX11 hown hK hc (by decide) rfl rfl 3 (by decide) (hts (.fieldLink RX11 20 "ColourHouse" "made" "[I") (by decide +kernel)) (fun _ h9 => h9) rfl hin rfl (by decide +kernel) rfl rfl (Nat.le_of_ble_eq_true rfl) dX11_init_30 (fun H locs hc => ?_)
  rw [GU_0] at hc
  have hc : CS E.1 h 4 (GU E (.inr (10, [.ref (h + 1), .ref (h + 2), .int 0, .ref (h + 3), .null, .null, .null, .null, .null, .null, .null, .int 0, .null, .null, .null, .null, .null, .null, .null, .int 0])) (arR E 6 40 19 0) (arR E 7 12 22 0) (arR E 8 12 26 0) (arR E 9 20 29 0) (arR E 10 12 30 0)) s.heap H locs := hc
  refine lv_aload_n hx hb dX11_init_33 rfl (lv_at hl 0 rfl) ?_
  refine lv_bipush (v := 40) hx hb dX11_init_34 (by decide) ?_
  obtain ⟨_, _, _, _, _, hq6⟩ := (hK.2 6 (E.2.1 6, .object "ColourHouse$Chip") rfl).2
  refine cs_anewaT (C := "ColourHouse$Chip") (cA := E.2.1 6) (N' := 40) hx hb hown (hts (.classLink RX11 24 "ColourHouse$Chip") (by decide +kernel)) hA.1.2.2.2.1 hq6 hc (arR_0 E 6 40 19) (by decide) (by decide) (Nat.le_of_ble_eq_true rfl) (Nat.le_of_ble_eq_true rfl) (Nat.le_of_ble_eq_true rfl) dX11_init_36 (fun H hc => ?_)
  have hc : CS E.1 h 5 (GU E (.inr (10, [.ref (h + 1), .ref (h + 2), .int 0, .ref (h + 3), .null, .null, .null, .null, .null, .null, .null, .int 0, .null, .null, .null, .null, .null, .null, .null, .int 0])) (arR E 6 40 19 0) (arR E 7 12 22 0) (arR E 8 12 26 0) (arR E 9 20 29 0) (arR E 10 12 30 0)) s.heap H locs := hc
  refine W.widen (k := 4) (n := 78) (by omega) (by omega) ?_
  refine cs_putF (D := E.1) (i := 0) (ci := 10) (v := .ref (h + 4)) (ty := .array (.object "ColourHouse$Chip")) (C := RX11) (T := TX11) (N := 20) hx hb hts (by decide +kernel) tyX11 tyX11_ok nmX11 hown hK hc (by decide) rfl rfl 4 (by decide) (hts (.fieldLink RX11 26 "ColourHouse" "chips" "[LColourHouse$Chip;") (by decide +kernel)) (fun _ h9 => h9) rfl hin rfl (by decide +kernel) rfl rfl (Nat.le_of_ble_eq_true rfl) dX11_init_39 (fun H locs hc => ?_)
  rw [GU_0] at hc
  have hc : CS E.1 h 5 (GU E (.inr (10, [.ref (h + 1), .ref (h + 2), .int 0, .ref (h + 3), .ref (h + 4), .null, .null, .null, .null, .null, .null, .int 0, .null, .null, .null, .null, .null, .null, .null, .int 0])) (arR E 6 40 19 0) (arR E 7 12 22 0) (arR E 8 12 26 0) (arR E 9 20 29 0) (arR E 10 12 30 0)) s.heap H locs := hc
  refine lv_aload_n hx hb dX11_init_42 rfl (lv_at hl 0 rfl) ?_
  refine lv_bipush (v := 8) hx hb dX11_init_43 (by decide) ?_
  refine lv_bipush (v := 16) hx hb dX11_init_45 (by decide) ?_
  refine cs_mnaT (ty := .float) (cy := E.2.1 1) (cA := E.2.1 4) (N' := 8) (K' := 16) (z := (16, .inr (.inr (.inl (fun _ => 0))))) hx hb hown (hts (.classLink RX11 30 ("[" ++ (FieldType.array .float).toString)) (by decide +kernel)) hA.1.2.1 (hts (.arrayClass .float) (by decide +kernel)) ((hK.2 1 (E.2.1 1, .float) rfl).2) ((hK.2 4 (E.2.1 4, .array .float) rfl).2) hc (GU_g (by decide)) (fun j hj => ?_) (fun j hj => ?_) (by decide) (by decide) (by decide) (by decide) (Nat.le_of_ble_eq_true rfl) (Nat.le_of_ble_eq_true rfl) (Nat.le_of_ble_eq_true rfl) rfl rfl (Nat.le_of_ble_eq_true rfl) (Nat.le_of_ble_eq_true rfl) (fun c9 => by rw [show Jvm.Free.Multi.innerC c9 16 (defaultValue .float) = ({ cls := c9, slots := Array.replicate 16 (defaultValue .float), vm := .none } : Cell) from rfl, arrV_new]; rfl) dX11_init_47 (fun H hc => ?_)
  · show some (E.2.2.1 6 j) = _
    rw [hlay]
    show some (h + (6 + j)) = _
    congr 1
    omega
  · rw [GU_g (by omega)]
    have q1 : fmH (5 + 1 + j) = 6 := by unfold fmH; repeat (first | rw [if_pos (by omega)] | rw [if_neg (by omega)])
    rw [q1]
    rfl
  have hc : CS E.1 h 14 (GU E (.inr (10, [.ref (h + 1), .ref (h + 2), .int 0, .ref (h + 3), .ref (h + 4), .null, .null, .null, .null, .null, .null, .int 0, .null, .null, .null, .null, .null, .null, .null, .int 0])) (arR E 6 40 19 0) (arR E 7 12 22 0) (arR E 8 12 26 0) (arR E 9 20 29 0) (arR E 10 12 30 0)) s.heap H locs := hc
  refine W.widen (k := 13) (n := 214) (by omega) (by omega) ?_
  refine cs_putF (D := E.1) (i := 0) (ci := 10) (v := .ref (h + 5)) (ty := .array (.array .float)) (C := RX11) (T := TX11) (N := 20) hx hb hts (by decide +kernel) tyX11 tyX11_ok nmX11 hown hK hc (by decide) rfl rfl 5 (by decide) (hts (.fieldLink RX11 32 "ColourHouse" "cloths" "[[F") (by decide +kernel)) (fun _ h9 => h9) rfl hin rfl (by decide +kernel) rfl rfl (Nat.le_of_ble_eq_true rfl) dX11_init_51 (fun H locs hc => ?_)
  rw [GU_0] at hc
  have hc : CS E.1 h 14 (GU E (.inr (10, [.ref (h + 1), .ref (h + 2), .int 0, .ref (h + 3), .ref (h + 4), .ref (h + 5), .null, .null, .null, .null, .null, .int 0, .null, .null, .null, .null, .null, .null, .null, .int 0])) (arR E 6 40 19 0) (arR E 7 12 22 0) (arR E 8 12 26 0) (arR E 9 20 29 0) (arR E 10 12 30 0)) s.heap H locs := hc
  refine lv_aload_n hx hb dX11_init_54 rfl (lv_at hl 0 rfl) ?_
  refine lv_bipush (v := 12) hx hb dX11_init_55 (by decide) ?_
  obtain ⟨_, _, _, _, _, hq7⟩ := (hK.2 7 (E.2.1 7, .object "ColourHouse$Dye") rfl).2
  refine cs_anewaT (C := "ColourHouse$Dye") (cA := E.2.1 7) (N' := 12) hx hb hown (hts (.classLink RX11 35 "ColourHouse$Dye") (by decide +kernel)) hA.1.2.2.2.2.1 hq7 hc (arR_0 E 7 12 22) (by decide) (by decide) (Nat.le_of_ble_eq_true rfl) (Nat.le_of_ble_eq_true rfl) (Nat.le_of_ble_eq_true rfl) dX11_init_57 (fun H hc => ?_)
  have hc : CS E.1 h 15 (GU E (.inr (10, [.ref (h + 1), .ref (h + 2), .int 0, .ref (h + 3), .ref (h + 4), .ref (h + 5), .null, .null, .null, .null, .null, .int 0, .null, .null, .null, .null, .null, .null, .null, .int 0])) (arR E 6 40 19 0) (arR E 7 12 22 0) (arR E 8 12 26 0) (arR E 9 20 29 0) (arR E 10 12 30 0)) s.heap H locs := hc
  refine W.widen (k := 14) (n := 226) (by omega) (by omega) ?_
  refine cs_putF (D := E.1) (i := 0) (ci := 10) (v := .ref (h + 14)) (ty := .array (.object "ColourHouse$Dye")) (C := RX11) (T := TX11) (N := 20) hx hb hts (by decide +kernel) tyX11 tyX11_ok nmX11 hown hK hc (by decide) rfl rfl 6 (by decide) (hts (.fieldLink RX11 37 "ColourHouse" "dyes" "[LColourHouse$Dye;") (by decide +kernel)) (fun _ h9 => h9) rfl hin rfl (by decide +kernel) rfl rfl (Nat.le_of_ble_eq_true rfl) dX11_init_60 (fun H locs hc => ?_)
  rw [GU_0] at hc
  have hc : CS E.1 h 15 (GU E (.inr (10, [.ref (h + 1), .ref (h + 2), .int 0, .ref (h + 3), .ref (h + 4), .ref (h + 5), .ref (h + 14), .null, .null, .null, .null, .int 0, .null, .null, .null, .null, .null, .null, .null, .int 0])) (arR E 6 40 19 0) (arR E 7 12 22 0) (arR E 8 12 26 0) (arR E 9 20 29 0) (arR E 10 12 30 0)) s.heap H locs := hc
  refine lv_aload_n hx hb dX11_init_63 rfl (lv_at hl 0 rfl) ?_
  refine lv_bipush (v := 12) hx hb dX11_init_64 (by decide) ?_
  obtain ⟨_, _, _, _, _, hq8⟩ := (hK.2 8 (E.2.1 8, .object "ColourHouse$Solid") rfl).2
  refine cs_anewaT (C := "ColourHouse$Solid") (cA := E.2.1 8) (N' := 12) hx hb hown (hts (.classLink RX11 41 "ColourHouse$Solid") (by decide +kernel)) hA.1.2.2.2.2.2.1 hq8 hc (arR_0 E 8 12 26) (by decide) (by decide) (Nat.le_of_ble_eq_true rfl) (Nat.le_of_ble_eq_true rfl) (Nat.le_of_ble_eq_true rfl) dX11_init_66 (fun H hc => ?_)
  have hc : CS E.1 h 16 (GU E (.inr (10, [.ref (h + 1), .ref (h + 2), .int 0, .ref (h + 3), .ref (h + 4), .ref (h + 5), .ref (h + 14), .null, .null, .null, .null, .int 0, .null, .null, .null, .null, .null, .null, .null, .int 0])) (arR E 6 40 19 0) (arR E 7 12 22 0) (arR E 8 12 26 0) (arR E 9 20 29 0) (arR E 10 12 30 0)) s.heap H locs := hc
  refine W.widen (k := 15) (n := 238) (by omega) (by omega) ?_
  refine cs_putF (D := E.1) (i := 0) (ci := 10) (v := .ref (h + 15)) (ty := .array (.object "ColourHouse$Solid")) (C := RX11) (T := TX11) (N := 20) hx hb hts (by decide +kernel) tyX11 tyX11_ok nmX11 hown hK hc (by decide) rfl rfl 7 (by decide) (hts (.fieldLink RX11 43 "ColourHouse" "solids" "[LColourHouse$Solid;") (by decide +kernel)) (fun _ h9 => h9) rfl hin rfl (by decide +kernel) rfl rfl (Nat.le_of_ble_eq_true rfl) dX11_init_69 (fun H locs hc => ?_)
  rw [GU_0] at hc
  have hc : CS E.1 h 16 (GU E (.inr (10, [.ref (h + 1), .ref (h + 2), .int 0, .ref (h + 3), .ref (h + 4), .ref (h + 5), .ref (h + 14), .ref (h + 15), .null, .null, .null, .int 0, .null, .null, .null, .null, .null, .null, .null, .int 0])) (arR E 6 40 19 0) (arR E 7 12 22 0) (arR E 8 12 26 0) (arR E 9 20 29 0) (arR E 10 12 30 0)) s.heap H locs := hc
  refine lv_aload_n hx hb dX11_init_72 rfl (lv_at hl 0 rfl) ?_
  refine lv_bipush (v := 20) hx hb dX11_init_73 (by decide) ?_
  obtain ⟨_, _, _, _, _, hq9⟩ := (hK.2 9 (E.2.1 9, .object "ColourHouse$Lot") rfl).2
  refine cs_anewaT (C := "ColourHouse$Lot") (cA := E.2.1 9) (N' := 20) hx hb hown (hts (.classLink RX11 47 "ColourHouse$Lot") (by decide +kernel)) hA.1.2.2.2.2.2.2.1 hq9 hc (arR_0 E 9 20 29) (by decide) (by decide) (Nat.le_of_ble_eq_true rfl) (Nat.le_of_ble_eq_true rfl) (Nat.le_of_ble_eq_true rfl) dX11_init_75 (fun H hc => ?_)
  have hc : CS E.1 h 17 (GU E (.inr (10, [.ref (h + 1), .ref (h + 2), .int 0, .ref (h + 3), .ref (h + 4), .ref (h + 5), .ref (h + 14), .ref (h + 15), .null, .null, .null, .int 0, .null, .null, .null, .null, .null, .null, .null, .int 0])) (arR E 6 40 19 0) (arR E 7 12 22 0) (arR E 8 12 26 0) (arR E 9 20 29 0) (arR E 10 12 30 0)) s.heap H locs := hc
  refine W.widen (k := 16) (n := 258) (by omega) (by omega) ?_
  refine cs_putF (D := E.1) (i := 0) (ci := 10) (v := .ref (h + 16)) (ty := .array (.object "ColourHouse$Lot")) (C := RX11) (T := TX11) (N := 20) hx hb hts (by decide +kernel) tyX11 tyX11_ok nmX11 hown hK hc (by decide) rfl rfl 8 (by decide) (hts (.fieldLink RX11 49 "ColourHouse" "lots" "[LColourHouse$Lot;") (by decide +kernel)) (fun _ h9 => h9) rfl hin rfl (by decide +kernel) rfl rfl (Nat.le_of_ble_eq_true rfl) dX11_init_78 (fun H locs hc => ?_)
  rw [GU_0] at hc
  have hc : CS E.1 h 17 (GU E (.inr (10, [.ref (h + 1), .ref (h + 2), .int 0, .ref (h + 3), .ref (h + 4), .ref (h + 5), .ref (h + 14), .ref (h + 15), .ref (h + 16), .null, .null, .int 0, .null, .null, .null, .null, .null, .null, .null, .int 0])) (arR E 6 40 19 0) (arR E 7 12 22 0) (arR E 8 12 26 0) (arR E 9 20 29 0) (arR E 10 12 30 0)) s.heap H locs := hc
  refine lv_aload_n hx hb dX11_init_81 rfl (lv_at hl 0 rfl) ?_
  refine lv_bipush (v := 12) hx hb dX11_init_82 (by decide) ?_
  obtain ⟨_, _, _, _, _, hq10⟩ := (hK.2 10 (E.2.1 10, .object "ColourHouse$Batch") rfl).2
  refine cs_anewaT (C := "ColourHouse$Batch") (cA := E.2.1 10) (N' := 12) hx hb hown (hts (.classLink RX11 53 "ColourHouse$Batch") (by decide +kernel)) hA.1.2.2.2.2.2.2.2 hq10 hc (arR_0 E 10 12 30) (by decide) (by decide) (Nat.le_of_ble_eq_true rfl) (Nat.le_of_ble_eq_true rfl) (Nat.le_of_ble_eq_true rfl) dX11_init_84 (fun H hc => ?_)
  have hc : CS E.1 h 18 (GU E (.inr (10, [.ref (h + 1), .ref (h + 2), .int 0, .ref (h + 3), .ref (h + 4), .ref (h + 5), .ref (h + 14), .ref (h + 15), .ref (h + 16), .null, .null, .int 0, .null, .null, .null, .null, .null, .null, .null, .int 0])) (arR E 6 40 19 0) (arR E 7 12 22 0) (arR E 8 12 26 0) (arR E 9 20 29 0) (arR E 10 12 30 0)) s.heap H locs := hc
  refine W.widen (k := 17) (n := 270) (by omega) (by omega) ?_
  refine cs_putF (D := E.1) (i := 0) (ci := 10) (v := .ref (h + 17)) (ty := .array (.object "ColourHouse$Batch")) (C := RX11) (T := TX11) (N := 20) hx hb hts (by decide +kernel) tyX11 tyX11_ok nmX11 hown hK hc (by decide) rfl rfl 9 (by decide) (hts (.fieldLink RX11 55 "ColourHouse" "batches" "[LColourHouse$Batch;") (by decide +kernel)) (fun _ h9 => h9) rfl hin rfl (by decide +kernel) rfl rfl (Nat.le_of_ble_eq_true rfl) dX11_init_87 (fun H locs hc => ?_)
  rw [GU_0] at hc
  have hc : CS E.1 h 18 (GU E (.inr (10, [.ref (h + 1), .ref (h + 2), .int 0, .ref (h + 3), .ref (h + 4), .ref (h + 5), .ref (h + 14), .ref (h + 15), .ref (h + 16), .ref (h + 17), .null, .int 0, .null, .null, .null, .null, .null, .null, .null, .int 0])) (arR E 6 40 19 0) (arR E 7 12 22 0) (arR E 8 12 26 0) (arR E 9 20 29 0) (arR E 10 12 30 0)) s.heap H locs := hc
  refine lv_aload_n hx hb dX11_init_90 rfl (lv_at hl 0 rfl) ?_
  refine lv_bipush (v := 6) hx hb dX11_init_91 (by decide) ?_
  refine lv_iconst (v := 3) hx hb dX11_init_93 (by decide) ?_
  refine cs_mnaT (ty := .int) (cy := E.2.1 0) (cA := E.2.1 3) (N' := 6) (K' := 3) (z := (3, .inl (fun _ => 0))) hx hb hown (hts (.classLink RX11 59 ("[" ++ (FieldType.array .int).toString)) (by decide +kernel)) hA.1.1 (hts (.arrayClass .int) (by decide +kernel)) ((hK.2 0 (E.2.1 0, .int) rfl).2) ((hK.2 3 (E.2.1 3, .array .int) rfl).2) hc (GU_g (by decide)) (fun j hj => ?_) (fun j hj => ?_) (by decide) (by decide) (by decide) (by decide) (Nat.le_of_ble_eq_true rfl) (Nat.le_of_ble_eq_true rfl) (Nat.le_of_ble_eq_true rfl) rfl rfl (Nat.le_of_ble_eq_true rfl) (Nat.le_of_ble_eq_true rfl) (fun c9 => by rw [show Jvm.Free.Multi.innerC c9 3 (defaultValue .int) = ({ cls := c9, slots := Array.replicate 3 (defaultValue .int), vm := .none } : Cell) from rfl, arrV_new]; rfl) dX11_init_94 (fun H hc => ?_)
  · show some (E.2.2.1 12 j) = _
    rw [hlay]
    show some (h + (19 + j)) = _
    congr 1
    omega
  · rw [GU_g (by omega)]
    have q1 : fmH (18 + 1 + j) = 12 := by unfold fmH; repeat (first | rw [if_pos (by omega)] | rw [if_neg (by omega)])
    rw [q1]
    rfl
  have hc : CS E.1 h 25 (GU E (.inr (10, [.ref (h + 1), .ref (h + 2), .int 0, .ref (h + 3), .ref (h + 4), .ref (h + 5), .ref (h + 14), .ref (h + 15), .ref (h + 16), .ref (h + 17), .null, .int 0, .null, .null, .null, .null, .null, .null, .null, .int 0])) (arR E 6 40 19 0) (arR E 7 12 22 0) (arR E 8 12 26 0) (arR E 9 20 29 0) (arR E 10 12 30 0)) s.heap H locs := hc
  refine W.widen (k := 24) (n := 294) (by omega) (by omega) ?_
  refine cs_putF (D := E.1) (i := 0) (ci := 10) (v := .ref (h + 18)) (ty := .array (.array .int)) (C := RX11) (T := TX11) (N := 20) hx hb hts (by decide +kernel) tyX11 tyX11_ok nmX11 hown hK hc (by decide) rfl rfl 10 (by decide) (hts (.fieldLink RX11 61 "ColourHouse" "parts" "[[I") (by decide +kernel)) (fun _ h9 => h9) rfl hin rfl (by decide +kernel) rfl rfl (Nat.le_of_ble_eq_true rfl) dX11_init_98 (fun H locs hc => ?_)
  rw [GU_0] at hc
  have hc : CS E.1 h 25 (GU E (.inr (10, [.ref (h + 1), .ref (h + 2), .int 0, .ref (h + 3), .ref (h + 4), .ref (h + 5), .ref (h + 14), .ref (h + 15), .ref (h + 16), .ref (h + 17), .ref (h + 18), .int 0, .null, .null, .null, .null, .null, .null, .null, .int 0])) (arR E 6 40 19 0) (arR E 7 12 22 0) (arR E 8 12 26 0) (arR E 9 20 29 0) (arR E 10 12 30 0)) s.heap H locs := hc
  refine lv_aload_n hx hb dX11_init_101 rfl (lv_at hl 0 rfl) ?_
  refine lv_iconst (v := 0) hx hb dX11_init_102 (by decide) ?_
  refine cs_put (D := E.1) (i := 0) (ci := 10) (v := .int 0) (ty := .int) (C := RX11) (T := TX11) (N := 20) hx hb hts (by decide +kernel) tyX11 tyX11_ok nmX11 hown hK hc (by decide) rfl rfl 11 (by decide) (hts (.fieldLink RX11 64 "ColourHouse" "partCount" "I") (by decide +kernel)) (fun _ h9 => h9) rfl (by decide +kernel) rfl rfl (Nat.le_of_ble_eq_true rfl) dX11_init_103 (fun H locs hc => ?_)
  rw [GU_0] at hc
  have hc : CS E.1 h 25 (GU E (.inr (10, [.ref (h + 1), .ref (h + 2), .int 0, .ref (h + 3), .ref (h + 4), .ref (h + 5), .ref (h + 14), .ref (h + 15), .ref (h + 16), .ref (h + 17), .ref (h + 18), .int 0, .null, .null, .null, .null, .null, .null, .null, .int 0])) (arR E 6 40 19 0) (arR E 7 12 22 0) (arR E 8 12 26 0) (arR E 9 20 29 0) (arR E 10 12 30 0)) s.heap H locs := hc
  refine lv_aload_n hx hb dX11_init_106 rfl (lv_at hl 0 rfl) ?_
  refine cs_new (ci := 8) (fs := [.null, .null, .double 0, .double 0, .double 0, .null, .null, .null, .null]) (C := RX9) (T := TX9) (N := 9) hx hb hts (by decide +kernel) tyX9 tyX9_ok hown (hts (.classLink RX11 68 RX9) (by decide +kernel)) (hts (.instantiable RX9 9) (by decide +kernel)) (hts (.initialized RX9) (by decide +kernel)) hK hc rfl (fun j hj => by rcases (show j = 0 ∨ j = 1 ∨ j = 2 ∨ j = 3 ∨ j = 4 ∨ j = 5 ∨ j = 6 ∨ j = 7 ∨ j = 8 by omega) with rfl | rfl | rfl | rfl | rfl | rfl | rfl | rfl | rfl <;> rfl) (Nat.le_of_ble_eq_true rfl) (Nat.le_of_ble_eq_true rfl) dX11_init_107 (fun H hc => ?_)
  refine W.widen (k := 25) (n := 303) (by omega) (by omega) ?_
  refine lv_dup hx hb dX11_init_110 rfl ?_
  refine cs_callNT (n := 25) (rest := [.ref (h + 25), .ref h]) (ci := 8) AOX_m (ctX9 l E 0 (h + 25) (fun k hk => by rw [hlay, (layX9_25 k hk).2, Nat.add_assoc])) ⟨hx, hb, hml, hown, hts⟩ ⟨va_cnB 0 hts gX11_init_X9_init_n70 rfl rfl rfl hA.2.1 (hts (.initialized RX9) (by decide +kernel)) (by decide +kernel) ⟨Nat.le_of_ble_eq_true rfl, Nat.le_of_ble_eq_true rfl⟩, rfl, hts (.instanceMethod yX9_init) (by decide +kernel)⟩ hK hA.1 hc (fun k hk => by rw [GU_g (by omega), (layX9_25 k hk).1.1, (layX9_25 k hk).1.2]) hl.1 (lv_room (Nat.le_of_ble_eq_true rfl)) dX11_init_111 ⟨Nat.le_of_ble_eq_true rfl, Nat.le_of_ble_eq_true rfl⟩ (by rw [hsz]; omega) (fun H locs hc => ?_)
  have hc : CS E.1 h 47 (GU E (.inr (10, [.ref (h + 1), .ref (h + 2), .int 0, .ref (h + 3), .ref (h + 4), .ref (h + 5), .ref (h + 14), .ref (h + 15), .ref (h + 16), .ref (h + 17), .ref (h + 18), .int 0, .null, .null, .null, .null, .null, .null, .null, .int 0])) (arR E 6 40 19 0) (arR E 7 12 22 0) (arR E 8 12 26 0) (arR E 9 20 29 0) (arR E 10 12 30 0)) s.heap H locs := hc
  refine W.widen (k := 46) (n := 567) (by omega) (by omega) ?_
  refine cs_putF (D := E.1) (i := 0) (ci := 10) (v := .ref (h + 25)) (ty := .object "ColourHouse$Sight") (C := RX11) (T := TX11) (N := 20) hx hb hts (by decide +kernel) tyX11 tyX11_ok nmX11 hown hK hc (by decide) rfl rfl 12 (by decide) (hts (.fieldLink RX11 71 "ColourHouse" "sight" "LColourHouse$Sight;") (by decide +kernel)) (fun _ h9 => h9) rfl hin rfl (by decide +kernel) rfl rfl (Nat.le_of_ble_eq_true rfl) dX11_init_114 (fun H locs hc => ?_)
  rw [GU_0] at hc
  have hc : CS E.1 h 47 (GU E (.inr (10, [.ref (h + 1), .ref (h + 2), .int 0, .ref (h + 3), .ref (h + 4), .ref (h + 5), .ref (h + 14), .ref (h + 15), .ref (h + 16), .ref (h + 17), .ref (h + 18), .int 0, .ref (h + 25), .null, .null, .null, .null, .null, .null, .int 0])) (arR E 6 40 19 0) (arR E 7 12 22 0) (arR E 8 12 26 0) (arR E 9 20 29 0) (arR E 10 12 30 0)) s.heap H locs := hc
  refine lv_aload_n hx hb dX11_init_117 rfl (lv_at hl 0 rfl) ?_
  refine lv_bipush (v := 40) hx hb dX11_init_118 (by decide) ?_
  refine cs_newaT (atype := .double) (ty := .double) (cA := E.2.1 2) (N' := 40) (a0 := (40, .inr (.inr (.inr (.inl (fun _ => 0)))))) hx hb (hts (.arrayClass .double) (by decide +kernel)) rfl ((hK.2 2 (E.2.1 2, .double) rfl).2) hc (GU_g (by decide)) (fun _ => rfl) (by decide) (by decide) (Nat.le_of_ble_eq_true rfl) (Nat.le_of_ble_eq_true rfl) (Nat.le_of_ble_eq_true rfl) dX11_init_120 (fun H hc => ?_)
  have hc : CS E.1 h 48 (GU E (.inr (10, [.ref (h + 1), .ref (h + 2), .int 0, .ref (h + 3), .ref (h + 4), .ref (h + 5), .ref (h + 14), .ref (h + 15), .ref (h + 16), .ref (h + 17), .ref (h + 18), .int 0, .ref (h + 25), .null, .null, .null, .null, .null, .null, .int 0])) (arR E 6 40 19 0) (arR E 7 12 22 0) (arR E 8 12 26 0) (arR E 9 20 29 0) (arR E 10 12 30 0)) s.heap H locs := hc
  refine W.widen (k := 47) (n := 607) (by omega) (by omega) ?_
  refine cs_putF (D := E.1) (i := 0) (ci := 10) (v := .ref (h + 47)) (ty := .array .double) (C := RX11) (T := TX11) (N := 20) hx hb hts (by decide +kernel) tyX11 tyX11_ok nmX11 hown hK hc (by decide) rfl rfl 13 (by decide) (hts (.fieldLink RX11 75 "ColourHouse" "gaps" "[D") (by decide +kernel)) (fun _ h9 => h9) rfl hin rfl (by decide +kernel) rfl rfl (Nat.le_of_ble_eq_true rfl) dX11_init_122 (fun H locs hc => ?_)
  rw [GU_0] at hc
  have hc : CS E.1 h 48 (GU E (.inr (10, [.ref (h + 1), .ref (h + 2), .int 0, .ref (h + 3), .ref (h + 4), .ref (h + 5), .ref (h + 14), .ref (h + 15), .ref (h + 16), .ref (h + 17), .ref (h + 18), .int 0, .ref (h + 25), .ref (h + 47), .null, .null, .null, .null, .null, .int 0])) (arR E 6 40 19 0) (arR E 7 12 22 0) (arR E 8 12 26 0) (arR E 9 20 29 0) (arR E 10 12 30 0)) s.heap H locs := hc
  refine lv_aload_n hx hb dX11_init_125 rfl (lv_at hl 0 rfl) ?_
  refine cs_new (ci := 6) (fs := [.null, .null]) (C := RX6) (T := TX6) (N := 2) hx hb hts (by decide +kernel) tyX6 tyX6_ok hown (hts (.classLink RX11 79 RX6) (by decide +kernel)) (hts (.instantiable RX6 2) (by decide +kernel)) (hts (.initialized RX6) (by decide +kernel)) hK hc rfl (fun j hj => by rcases (show j = 0 ∨ j = 1 by omega) with rfl | rfl <;> rfl) (Nat.le_of_ble_eq_true rfl) (Nat.le_of_ble_eq_true rfl) dX11_init_126 (fun H hc => ?_)
  refine W.widen (k := 48) (n := 609) (by omega) (by omega) ?_
  refine lv_dup hx hb dX11_init_129 rfl ?_
  refine cs_callNT (n := 48) (rest := [.ref (h + 48), .ref h]) (ci := 6) AOX_m (ctX6 l E 0 (h + 48) (fun k hk => by rw [hlay, (layX6_48 k hk).2, Nat.add_assoc])) ⟨hx, hb, hml, hown, hts⟩ ⟨va_cnB 0 hts gX11_init_X6_init_n81 rfl rfl rfl hA.2.2.1 (hts (.initialized RX6) (by decide +kernel)) (by decide +kernel) ⟨Nat.le_of_ble_eq_true rfl, Nat.le_of_ble_eq_true rfl⟩, rfl, hts (.instanceMethod yX6_init) (by decide +kernel)⟩ hK hA.1 hc (fun k hk => by rw [GU_g (by omega), (layX6_48 k hk).1.1, (layX6_48 k hk).1.2]) hl.1 (lv_room (Nat.le_of_ble_eq_true rfl)) dX11_init_130 ⟨Nat.le_of_ble_eq_true rfl, Nat.le_of_ble_eq_true rfl⟩ (by rw [hsz]; omega) (fun H locs hc => ?_)
  have hc : CS E.1 h 51 (GU E (.inr (10, [.ref (h + 1), .ref (h + 2), .int 0, .ref (h + 3), .ref (h + 4), .ref (h + 5), .ref (h + 14), .ref (h + 15), .ref (h + 16), .ref (h + 17), .ref (h + 18), .int 0, .ref (h + 25), .ref (h + 47), .null, .null, .null, .null, .null, .int 0])) (arR E 6 40 19 0) (arR E 7 12 22 0) (arR E 8 12 26 0) (arR E 9 20 29 0) (arR E 10 12 30 0)) s.heap H locs := hc
  refine W.widen (k := 50) (n := 641) (by omega) (by omega) ?_
  refine cs_putF (D := E.1) (i := 0) (ci := 10) (v := .ref (h + 48)) (ty := .object "ColourHouse$Mix") (C := RX11) (T := TX11) (N := 20) hx hb hts (by decide +kernel) tyX11 tyX11_ok nmX11 hown hK hc (by decide) rfl rfl 14 (by decide) (hts (.fieldLink RX11 82 "ColourHouse" "mix" "LColourHouse$Mix;") (by decide +kernel)) (fun _ h9 => h9) rfl hin rfl (by decide +kernel) rfl rfl (Nat.le_of_ble_eq_true rfl) dX11_init_133 (fun H locs hc => ?_)
  rw [GU_0] at hc
  have hc : CS E.1 h 51 (GU E (.inr (10, [.ref (h + 1), .ref (h + 2), .int 0, .ref (h + 3), .ref (h + 4), .ref (h + 5), .ref (h + 14), .ref (h + 15), .ref (h + 16), .ref (h + 17), .ref (h + 18), .int 0, .ref (h + 25), .ref (h + 47), .ref (h + 48), .null, .null, .null, .null, .int 0])) (arR E 6 40 19 0) (arR E 7 12 22 0) (arR E 8 12 26 0) (arR E 9 20 29 0) (arR E 10 12 30 0)) s.heap H locs := hc
  refine lv_aload_n hx hb dX11_init_136 rfl (lv_at hl 0 rfl) ?_
  refine cs_new (ci := 7) (fs := [.null, .null, .null, .int 0, .int 0, .int 0, .int 0, .null, .null, .int 0, .int 0, .int 0, .int 0, .int 0, .null, .null, .int 0, .double 0, .long 0]) (C := RX8) (T := TX8) (N := 19) hx hb hts (by decide +kernel) tyX8 tyX8_ok hown (hts (.classLink RX11 86 RX8) (by decide +kernel)) (hts (.instantiable RX8 19) (by decide +kernel)) (hts (.initialized RX8) (by decide +kernel)) hK hc rfl (fun j hj => by rcases (show j = 0 ∨ j = 1 ∨ j = 2 ∨ j = 3 ∨ j = 4 ∨ j = 5 ∨ j = 6 ∨ j = 7 ∨ j = 8 ∨ j = 9 ∨ j = 10 ∨ j = 11 ∨ j = 12 ∨ j = 13 ∨ j = 14 ∨ j = 15 ∨ j = 16 ∨ j = 17 ∨ j = 18 by omega) with rfl | rfl | rfl | rfl | rfl | rfl | rfl | rfl | rfl | rfl | rfl | rfl | rfl | rfl | rfl | rfl | rfl | rfl | rfl <;> rfl) (Nat.le_of_ble_eq_true rfl) (Nat.le_of_ble_eq_true rfl) dX11_init_137 (fun H hc => ?_)
  refine W.widen (k := 51) (n := 660) (by omega) (by omega) ?_
  refine lv_dup hx hb dX11_init_140 rfl ?_
  refine cs_callNT (n := 51) (rest := [.ref (h + 51), .ref h]) (ci := 7) AOX_m (ctX8 l E 0 (h + 51) (fun k hk => by rw [hlay, (layX8_51 k hk).2, Nat.add_assoc])) ⟨hx, hb, hml, hown, hts⟩ ⟨va_cnB 0 hts gX11_init_X8_init_n88 rfl rfl rfl hA.2.2.2.1 (hts (.initialized RX8) (by decide +kernel)) (by decide +kernel) ⟨Nat.le_of_ble_eq_true rfl, Nat.le_of_ble_eq_true rfl⟩, rfl, hts (.instanceMethod yX8_init) (by decide +kernel)⟩ hK hA.1 hc (fun k hk => by rw [GU_g (by omega), (layX8_51 k hk).1.1, (layX8_51 k hk).1.2]) hl.1 (lv_room (Nat.le_of_ble_eq_true rfl)) dX11_init_141 ⟨Nat.le_of_ble_eq_true rfl, Nat.le_of_ble_eq_true rfl⟩ (by rw [hsz]; omega) (fun H locs hc => ?_)
  have hc : CS E.1 h 59 (GU E (.inr (10, [.ref (h + 1), .ref (h + 2), .int 0, .ref (h + 3), .ref (h + 4), .ref (h + 5), .ref (h + 14), .ref (h + 15), .ref (h + 16), .ref (h + 17), .ref (h + 18), .int 0, .ref (h + 25), .ref (h + 47), .ref (h + 48), .null, .null, .null, .null, .int 0])) (arR E 6 40 19 0) (arR E 7 12 22 0) (arR E 8 12 26 0) (arR E 9 20 29 0) (arR E 10 12 30 0)) s.heap H locs := hc
  refine W.widen (k := 58) (n := 732) (by omega) (by omega) ?_
  refine cs_putF (D := E.1) (i := 0) (ci := 10) (v := .ref (h + 51)) (ty := .object "ColourHouse$Search") (C := RX11) (T := TX11) (N := 20) hx hb hts (by decide +kernel) tyX11 tyX11_ok nmX11 hown hK hc (by decide) rfl rfl 15 (by decide) (hts (.fieldLink RX11 89 "ColourHouse" "recipes" "LColourHouse$Search;") (by decide +kernel)) (fun _ h9 => h9) rfl hin rfl (by decide +kernel) rfl rfl (Nat.le_of_ble_eq_true rfl) dX11_init_144 (fun H locs hc => ?_)
  rw [GU_0] at hc
  have hc : CS E.1 h 59 (GU E (.inr (10, [.ref (h + 1), .ref (h + 2), .int 0, .ref (h + 3), .ref (h + 4), .ref (h + 5), .ref (h + 14), .ref (h + 15), .ref (h + 16), .ref (h + 17), .ref (h + 18), .int 0, .ref (h + 25), .ref (h + 47), .ref (h + 48), .ref (h + 51), .null, .null, .null, .int 0])) (arR E 6 40 19 0) (arR E 7 12 22 0) (arR E 8 12 26 0) (arR E 9 20 29 0) (arR E 10 12 30 0)) s.heap H locs := hc
  refine lv_aload_n hx hb dX11_init_147 rfl (lv_at hl 0 rfl) ?_
  refine cs_new (ci := 7) (fs := [.null, .null, .null, .int 0, .int 0, .int 0, .int 0, .null, .null, .int 0, .int 0, .int 0, .int 0, .int 0, .null, .null, .int 0, .double 0, .long 0]) (C := RX8) (T := TX8) (N := 19) hx hb hts (by decide +kernel) tyX8 tyX8_ok hown (hts (.classLink RX11 86 RX8) (by decide +kernel)) (hts (.instantiable RX8 19) (by decide +kernel)) (hts (.initialized RX8) (by decide +kernel)) hK hc rfl (fun j hj => by rcases (show j = 0 ∨ j = 1 ∨ j = 2 ∨ j = 3 ∨ j = 4 ∨ j = 5 ∨ j = 6 ∨ j = 7 ∨ j = 8 ∨ j = 9 ∨ j = 10 ∨ j = 11 ∨ j = 12 ∨ j = 13 ∨ j = 14 ∨ j = 15 ∨ j = 16 ∨ j = 17 ∨ j = 18 by omega) with rfl | rfl | rfl | rfl | rfl | rfl | rfl | rfl | rfl | rfl | rfl | rfl | rfl | rfl | rfl | rfl | rfl | rfl | rfl <;> rfl) (Nat.le_of_ble_eq_true rfl) (Nat.le_of_ble_eq_true rfl) dX11_init_148 (fun H hc => ?_)
  refine W.widen (k := 59) (n := 751) (by omega) (by omega) ?_
  refine lv_dup hx hb dX11_init_151 rfl ?_
  refine cs_callNT (n := 59) (rest := [.ref (h + 59), .ref h]) (ci := 7) AOX_m (ctX8 l E 1 (h + 59) (fun k hk => by rw [hlay, (layX8_59 k hk).2, Nat.add_assoc])) ⟨hx, hb, hml, hown, hts⟩ ⟨va_cnB 0 hts gX11_init_X8_init_n88 rfl rfl rfl hA.2.2.2.1 (hts (.initialized RX8) (by decide +kernel)) (by decide +kernel) ⟨Nat.le_of_ble_eq_true rfl, Nat.le_of_ble_eq_true rfl⟩, rfl, hts (.instanceMethod yX8_init) (by decide +kernel)⟩ hK hA.1 hc (fun k hk => by rw [GU_g (by omega), (layX8_59 k hk).1.1, (layX8_59 k hk).1.2]) hl.1 (lv_room (Nat.le_of_ble_eq_true rfl)) dX11_init_152 ⟨Nat.le_of_ble_eq_true rfl, Nat.le_of_ble_eq_true rfl⟩ (by rw [hsz]; omega) (fun H locs hc => ?_)
  have hc : CS E.1 h 67 (GU E (.inr (10, [.ref (h + 1), .ref (h + 2), .int 0, .ref (h + 3), .ref (h + 4), .ref (h + 5), .ref (h + 14), .ref (h + 15), .ref (h + 16), .ref (h + 17), .ref (h + 18), .int 0, .ref (h + 25), .ref (h + 47), .ref (h + 48), .ref (h + 51), .null, .null, .null, .int 0])) (arR E 6 40 19 0) (arR E 7 12 22 0) (arR E 8 12 26 0) (arR E 9 20 29 0) (arR E 10 12 30 0)) s.heap H locs := hc
  refine W.widen (k := 66) (n := 823) (by omega) (by omega) ?_
  refine cs_putF (D := E.1) (i := 0) (ci := 10) (v := .ref (h + 59)) (ty := .object "ColourHouse$Search") (C := RX11) (T := TX11) (N := 20) hx hb hts (by decide +kernel) tyX11 tyX11_ok nmX11 hown hK hc (by decide) rfl rfl 16 (by decide) (hts (.fieldLink RX11 93 "ColourHouse" "additions" "LColourHouse$Search;") (by decide +kernel)) (fun _ h9 => h9) rfl hin rfl (by decide +kernel) rfl rfl (Nat.le_of_ble_eq_true rfl) dX11_init_155 (fun H locs hc => ?_)
  rw [GU_0] at hc
  have hc : CS E.1 h 67 (GU E (.inr (10, [.ref (h + 1), .ref (h + 2), .int 0, .ref (h + 3), .ref (h + 4), .ref (h + 5), .ref (h + 14), .ref (h + 15), .ref (h + 16), .ref (h + 17), .ref (h + 18), .int 0, .ref (h + 25), .ref (h + 47), .ref (h + 48), .ref (h + 51), .ref (h + 59), .null, .null, .int 0])) (arR E 6 40 19 0) (arR E 7 12 22 0) (arR E 8 12 26 0) (arR E 9 20 29 0) (arR E 10 12 30 0)) s.heap H locs := hc
  refine lv_aload_n hx hb dX11_init_158 rfl (lv_at hl 0 rfl) ?_
  refine cs_new (ci := 5) (fs := [.null, .int 0, .null]) (C := RX5) (T := TX5) (N := 3) hx hb hts (by decide +kernel) tyX5 tyX5_ok hown (hts (.classLink RX11 96 RX5) (by decide +kernel)) (hts (.instantiable RX5 3) (by decide +kernel)) (hts (.initialized RX5) (by decide +kernel)) hK hc rfl (fun j hj => by rcases (show j = 0 ∨ j = 1 ∨ j = 2 by omega) with rfl | rfl | rfl <;> rfl) (Nat.le_of_ble_eq_true rfl) (Nat.le_of_ble_eq_true rfl) dX11_init_159 (fun H hc => ?_)
  refine W.widen (k := 67) (n := 826) (by omega) (by omega) ?_
  refine lv_dup hx hb dX11_init_162 rfl ?_
  refine cs_callNT (n := 67) (rest := [.ref (h + 67), .ref h]) (ci := 5) AOX_m (ctX5 l E 0 (h + 67) (fun k hk => by rw [hlay, (layX5_67 k hk).2, Nat.add_assoc])) ⟨hx, hb, hml, hown, hts⟩ ⟨va_cnB 0 hts gX11_init_X5_init_n98 rfl rfl rfl hA.2.2.2.2.1 (hts (.initialized RX5) (by decide +kernel)) (by decide +kernel) ⟨Nat.le_of_ble_eq_true rfl, Nat.le_of_ble_eq_true rfl⟩, rfl, hts (.instanceMethod yX5_init) (by decide +kernel)⟩ hK hA.1 hc (fun k hk => by rw [GU_g (by omega), (layX5_67 k hk).1.1, (layX5_67 k hk).1.2]) hl.1 (lv_room (Nat.le_of_ble_eq_true rfl)) dX11_init_163 ⟨Nat.le_of_ble_eq_true rfl, Nat.le_of_ble_eq_true rfl⟩ (by rw [hsz]; omega) (fun H locs hc => ?_)
  have hc : CS E.1 h 70 (GU E (.inr (10, [.ref (h + 1), .ref (h + 2), .int 0, .ref (h + 3), .ref (h + 4), .ref (h + 5), .ref (h + 14), .ref (h + 15), .ref (h + 16), .ref (h + 17), .ref (h + 18), .int 0, .ref (h + 25), .ref (h + 47), .ref (h + 48), .ref (h + 51), .ref (h + 59), .null, .null, .int 0])) (arR E 6 40 19 0) (arR E 7 12 22 0) (arR E 8 12 26 0) (arR E 9 20 29 0) (arR E 10 12 30 0)) s.heap H locs := hc
  refine W.widen (k := 69) (n := 962) (by omega) (by omega) ?_
  refine cs_putF (D := E.1) (i := 0) (ci := 10) (v := .ref (h + 67)) (ty := .object "ColourHouse$Mail") (C := RX11) (T := TX11) (N := 20) hx hb hts (by decide +kernel) tyX11 tyX11_ok nmX11 hown hK hc (by decide) rfl rfl 17 (by decide) (hts (.fieldLink RX11 99 "ColourHouse" "mail" "LColourHouse$Mail;") (by decide +kernel)) (fun _ h9 => h9) rfl hin rfl (by decide +kernel) rfl rfl (Nat.le_of_ble_eq_true rfl) dX11_init_166 (fun H locs hc => ?_)
  rw [GU_0] at hc
  have hc : CS E.1 h 70 (GU E (.inr (10, [.ref (h + 1), .ref (h + 2), .int 0, .ref (h + 3), .ref (h + 4), .ref (h + 5), .ref (h + 14), .ref (h + 15), .ref (h + 16), .ref (h + 17), .ref (h + 18), .int 0, .ref (h + 25), .ref (h + 47), .ref (h + 48), .ref (h + 51), .ref (h + 59), .ref (h + 67), .null, .int 0])) (arR E 6 40 19 0) (arR E 7 12 22 0) (arR E 8 12 26 0) (arR E 9 20 29 0) (arR E 10 12 30 0)) s.heap H locs := hc
  refine lv_aload_n hx hb dX11_init_169 rfl (lv_at hl 0 rfl) ?_
  refine cs_new (ci := 0) (fs := [.null, .null, .int 0, .int 0]) (C := RX0) (T := TX0) (N := 4) hx hb hts (by decide +kernel) tyX0 tyX0_ok hown (hts (.classLink RX11 103 RX0) (by decide +kernel)) (hts (.instantiable RX0 4) (by decide +kernel)) (hts (.initialized RX0) (by decide +kernel)) hK hc rfl (fun j hj => by rcases (show j = 0 ∨ j = 1 ∨ j = 2 ∨ j = 3 by omega) with rfl | rfl | rfl | rfl <;> rfl) (Nat.le_of_ble_eq_true rfl) (Nat.le_of_ble_eq_true rfl) dX11_init_170 (fun H hc => ?_)
  refine W.widen (k := 70) (n := 966) (by omega) (by omega) ?_
  refine lv_dup hx hb dX11_init_173 rfl ?_
  refine cs_callNT (n := 70) (rest := [.ref (h + 70), .ref h]) (ci := 0) AOX_m (ctX0 l E 0 (h + 70) (fun k hk => by rw [hlay, (layX0_70 k hk).2, Nat.add_assoc])) ⟨hx, hb, hml, hown, hts⟩ ⟨va_cnB 0 hts gX11_init_X0_init_n105 rfl rfl rfl hA.2.2.2.2.2.1 (hts (.initialized RX0) (by decide +kernel)) (by decide +kernel) ⟨Nat.le_of_ble_eq_true rfl, Nat.le_of_ble_eq_true rfl⟩, rfl, hts (.instanceMethod yX0_init) (by decide +kernel)⟩ hK hA.1 hc (fun k hk => by rw [GU_g (by omega), (layX0_70 k hk).1.1, (layX0_70 k hk).1.2]) hl.1 (lv_room (Nat.le_of_ble_eq_true rfl)) dX11_init_174 ⟨Nat.le_of_ble_eq_true rfl, Nat.le_of_ble_eq_true rfl⟩ (by rw [hsz]; omega) (fun H locs hc => ?_)
  have hc : CS E.1 h 193 (GU E (.inr (10, [.ref (h + 1), .ref (h + 2), .int 0, .ref (h + 3), .ref (h + 4), .ref (h + 5), .ref (h + 14), .ref (h + 15), .ref (h + 16), .ref (h + 17), .ref (h + 18), .int 0, .ref (h + 25), .ref (h + 47), .ref (h + 48), .ref (h + 51), .ref (h + 59), .ref (h + 67), .null, .int 0])) (arR E 6 40 19 0) (arR E 7 12 22 0) (arR E 8 12 26 0) (arR E 9 20 29 0) (arR E 10 12 30 0)) s.heap H locs := hc
  refine W.widen (k := 192) (n := 3246) (by omega) (by omega) ?_
  refine cs_putF (D := E.1) (i := 0) (ci := 10) (v := .ref (h + 70)) (ty := .object "ColourHouse$Acts") (C := RX11) (T := TX11) (N := 20) hx hb hts (by decide +kernel) tyX11 tyX11_ok nmX11 hown hK hc (by decide) rfl rfl 18 (by decide) (hts (.fieldLink RX11 106 "ColourHouse" "acts" "LColourHouse$Acts;") (by decide +kernel)) (fun _ h9 => h9) rfl hin rfl (by decide +kernel) rfl rfl (Nat.le_of_ble_eq_true rfl) dX11_init_177 (fun H locs hc => ?_)
  rw [GU_0] at hc
  have hc : CS E.1 h 193 (GU E (.inr (10, [.ref (h + 1), .ref (h + 2), .int 0, .ref (h + 3), .ref (h + 4), .ref (h + 5), .ref (h + 14), .ref (h + 15), .ref (h + 16), .ref (h + 17), .ref (h + 18), .int 0, .ref (h + 25), .ref (h + 47), .ref (h + 48), .ref (h + 51), .ref (h + 59), .ref (h + 67), .ref (h + 70), .int 0])) (arR E 6 40 19 0) (arR E 7 12 22 0) (arR E 8 12 26 0) (arR E 9 20 29 0) (arR E 10 12 30 0)) s.heap H locs := hc
  refine lv_aload_n hx hb dX11_init_180 rfl (lv_at hl 0 rfl) ?_
  refine lv_iconst (v := 0) hx hb dX11_init_181 (by decide) ?_
  refine cs_put (D := E.1) (i := 0) (ci := 10) (v := .int 0) (ty := .int) (C := RX11) (T := TX11) (N := 20) hx hb hts (by decide +kernel) tyX11 tyX11_ok nmX11 hown hK hc (by decide) rfl rfl 19 (by decide) (hts (.fieldLink RX11 110 "ColourHouse" "why" "I") (by decide +kernel)) (fun _ h9 => h9) rfl (by decide +kernel) rfl rfl (Nat.le_of_ble_eq_true rfl) dX11_init_182 (fun H locs hc => ?_)
  rw [GU_0] at hc
  have hc : CS E.1 h 193 (GU E (.inr (10, [.ref (h + 1), .ref (h + 2), .int 0, .ref (h + 3), .ref (h + 4), .ref (h + 5), .ref (h + 14), .ref (h + 15), .ref (h + 16), .ref (h + 17), .ref (h + 18), .int 0, .ref (h + 25), .ref (h + 47), .ref (h + 48), .ref (h + 51), .ref (h + 59), .ref (h + 67), .ref (h + 70), .int 0])) (arR E 6 40 19 0) (arR E 7 12 22 0) (arR E 8 12 26 0) (arR E 9 20 29 0) (arR E 10 12 30 0)) s.heap H locs := hc
  have LX2 : (∀ (H : Heap) (locs : List Loc) (ls : Array Slot), lv_has ls 2 [(1, .int (nI 40)), (0, .ref h)] → CS E.1 h (193 + 3 * 40) (GU E (.inr (10, [.ref (h + 1), .ref (h + 2), .int 0, .ref (h + 3), .ref (h + 4), .ref (h + 5), .ref (h + 14), .ref (h + 15), .ref (h + 16), .ref (h + 17), .ref (h + 18), .int 0, .ref (h + 25), .ref (h + 47), .ref (h + 48), .ref (h + 51), .ref (h + 59), .ref (h + 67), .ref (h + 70), .int 0])) (arR E 6 40 19 40) (arR E 7 12 22 0) (arR E 8 12 26 0) (arR E 9 20 29 0) (arR E 10 12 30 0)) s.heap H locs → W p l e ({ frames := 2, cells := 524, slots := 6662, locals := 40 } : Room) s m #[.ref h] below meth c H locs 312 4606 (MQ below (va_Qv (fun _ : Unit => True) (fun _ t => t.heap.size = h + 525 ∧ ∀ k, k < 525 → va_at E.1 vwC (h + k, cX0 E (fmH k) (ixH k)) t.heap) (fun q => h ≤ q)) #[.ref h] s 524 6662 (fun q => h ≤ q)) (F0 m 212 ls [])) → ∀ (k i : Nat) (H : Heap) (locs : List Loc) (ls : Array Slot), i + k = 40 → lv_has ls 2 [(1, .int (nI i)), (0, .ref h)] → CS E.1 h (193 + 3 * i) (GU E (.inr (10, [.ref (h + 1), .ref (h + 2), .int 0, .ref (h + 3), .ref (h + 4), .ref (h + 5), .ref (h + 14), .ref (h + 15), .ref (h + 16), .ref (h + 17), .ref (h + 18), .int 0, .ref (h + 25), .ref (h + 47), .ref (h + 48), .ref (h + 51), .ref (h + 59), .ref (h + 67), .ref (h + 70), .int 0])) (arR E 6 40 19 i) (arR E 7 12 22 0) (arR E 8 12 26 0) (arR E 9 20 29 0) (arR E 10 12 30 0)) s.heap H locs → W p l e ({ frames := 2, cells := 524, slots := 6662, locals := 40 } : Room) s m #[.ref h] below meth c H locs (192 + 3 * i) (3246 + 34 * i) (MQ below (va_Qv (fun _ : Unit => True) (fun _ t => t.heap.size = h + 525 ∧ ∀ k, k < 525 → va_at E.1 vwC (h + k, cX0 E (fmH k) (ixH k)) t.heap) (fun q => h ≤ q)) #[.ref h] s 524 6662 (fun q => h ≤ q)) (F0 m 187 ls []) := by
    intro kk k
    induction k with
    | zero =>
      intro i H locs ls hi hl hc
      obtain rfl : i = 40 := by omega
      refine lv_iload_n hx hb dX11_init_187 rfl (lv_at hl 0 rfl) ?_
      refine lv_bipush (v := 40) hx hb dX11_init_188 (by decide) ?_
      refine lv_icmp_ge (tgt := 212) hx hb dX11_init_190 (by decide) (fun hcc => ?_) (fun hcc => ?_)
      · exact kk H locs ls hl hc
      · exact absurd (show (40 : Int32) ≤ nI 40 by decide) hcc
    | succ k ih =>
      intro i H locs ls hi hl hc
      refine lv_iload_n hx hb dX11_init_187 rfl (lv_at hl 0 rfl) ?_
      refine lv_bipush (v := 40) hx hb dX11_init_188 (by decide) ?_
      refine lv_icmp_ge (tgt := 212) hx hb dX11_init_190 (by decide) (fun hcc => ?_) (fun hcc => ?_)
      · exact absurd hcc (nI_gt (N := 40) (n := i) (by decide) (by omega))
      · refine lv_aload_n hx hb dX11_init_193 rfl (lv_at hl 1 rfl) ?_
        refine va_get (D := E.1) (ci := 10) (v := .ref (h + 4)) (C := RX11) (T := TX11) (N := 20) hx hb hts (by decide +kernel) hown hK (CS_P hc (i := 0) (by omega)) 0 rfl rfl 4 (by decide) (hts (.fieldLink RX11 26 "ColourHouse" "chips" "[LColourHouse$Chip;") (by decide +kernel)) (fun _ h9 => h9) rfl dX11_init_194 ?_
        refine lv_iload_n hx hb dX11_init_197 rfl (lv_at hl 0 rfl) ?_
        refine cs_new (ci := 2) (fs := [.null, .null]) (C := RX2) (T := TX2) (N := 2) hx hb hts (by decide +kernel) tyX2 tyX2_ok hown (hts (.classLink RX11 24 RX2) (by decide +kernel)) (hts (.instantiable RX2 2) (by decide +kernel)) (hts (.initialized RX2) (by decide +kernel)) hK hc rfl (fun j hj => by rcases (show j = 0 ∨ j = 1 by omega) with rfl | rfl <;> rfl) (by show _ ≤ 524; omega) (by show _ ≤ 6662; omega) dX11_init_198 (fun H hc => ?_)
        refine lv_dup hx hb dX11_init_201 rfl ?_
        refine cs_callNT (n := 193 + 3 * i) (rest := [.ref (h + (193 + 3 * i)), .int (nI i), .ref (h + 4)]) (ci := 2) AOX_m (ctX2 l E i (h + (193 + 3 * i)) (fun k hk => by rw [hlay, (layX2 i (by omega) k hk).2]; omega)) ⟨hx, hb, hml, hown, hts⟩ ⟨va_cnB 0 hts gX11_init_X2_init_n113 rfl rfl rfl hA.2.2.2.2.2.2.1 (hts (.initialized RX2) (by decide +kernel)) (by decide +kernel) ⟨Nat.le_of_ble_eq_true rfl, Nat.le_of_ble_eq_true rfl⟩, rfl, hts (.instanceMethod yX2_init) (by decide +kernel)⟩ hK hA.1 hc (fun k hk => by rw [GU_g (by omega), (layX2 i (by omega) k hk).1.1, (layX2 i (by omega) k hk).1.2]) hl.1 (lv_room (Nat.le_of_ble_eq_true rfl)) dX11_init_202 ⟨by show _ ≤ 524; omega, by show _ ≤ 6662; omega⟩ (by rw [hsz]; omega) (fun H locs hc => ?_)
        have g0 : GU E (.inr (10, [.ref (h + 1), .ref (h + 2), .int 0, .ref (h + 3), .ref (h + 4), .ref (h + 5), .ref (h + 14), .ref (h + 15), .ref (h + 16), .ref (h + 17), .ref (h + 18), .int 0, .ref (h + 25), .ref (h + 47), .ref (h + 48), .ref (h + 51), .ref (h + 59), .ref (h + 67), .ref (h + 70), .int 0])) (arR E 6 40 19 i) (arR E 7 12 22 0) (arR E 8 12 26 0) (arR E 9 20 29 0) (arR E 10 12 30 0) (193 + 3 * i) = cX0 E 19 i := by rw [GU_g (by omega), show (193 + 3 * i) = (193 + 3 * i + 0) from rfl, (layX2 i (by omega) 0 (by decide)).1.1, (layX2 i (by omega) 0 (by decide)).1.2]; rfl
        refine cs_ast (i := 4) (j := 193 + 3 * i) hx hb hK hc 6 2 (by omega) (by omega) rfl rfl (g0.trans rfl) rfl (vp_in_nI (by omega) (by decide)) dX11_init_205 (fun H locs hc => ?_)
        rw [nI_cl (n := i) (by omega), GU_4, arR_s E 6 40 19 i (h + (193 + 3 * i)) (by rw [hlay, show offH 19 i = 193 + 3 * i from (show (193 + 3 * i : Nat) = _ by omega)])] at hc
        refine lv_iinc (k := 0) (v := nI (i + 1)) (lv' := [(1, .int (nI (i + 1))), (0, .ref h)]) hx hb dX11_init_206 hl rfl (nI_s i) (by decide) rfl (fun ls hl => ?_)
        refine lv_goto (tgt := 187) hx hb dX11_init_209 (by decide) ?_
        refine W.widen (k := 192 + 3 * (i + 1)) (n := 3246 + 34 * (i + 1)) (by omega) (by omega) ?_
        exact ih (i + 1) H locs ls (by omega) hl (by rw [show 193 + 3 * (i + 1) = 193 + 3 * i + 3 by omega]; exact hc)
  refine lv_iconst (v := 0) hx hb dX11_init_185 (by decide) ?_
  refine lv_istore_n (lv' := [(1, .int (nI 0)), (0, .ref h)]) hx hb dX11_init_186 rfl hl (by decide) rfl (fun ls hl => ?_)
  refine LX2 (fun H locs ls hl hc => ?_) 40 0 H locs ls rfl hl hc
  have hc : CS E.1 h 313 (GU E (.inr (10, [.ref (h + 1), .ref (h + 2), .int 0, .ref (h + 3), .ref (h + 4), .ref (h + 5), .ref (h + 14), .ref (h + 15), .ref (h + 16), .ref (h + 17), .ref (h + 18), .int 0, .ref (h + 25), .ref (h + 47), .ref (h + 48), .ref (h + 51), .ref (h + 59), .ref (h + 67), .ref (h + 70), .int 0])) (arR E 6 40 19 40) (arR E 7 12 22 0) (arR E 8 12 26 0) (arR E 9 20 29 0) (arR E 10 12 30 0)) s.heap H locs := hc
  have LX3 : (∀ (H : Heap) (locs : List Loc) (ls : Array Slot), lv_has ls 2 [(1, .int (nI 12)), (0, .ref h)] → CS E.1 h (313 + 9 * 12) (GU E (.inr (10, [.ref (h + 1), .ref (h + 2), .int 0, .ref (h + 3), .ref (h + 4), .ref (h + 5), .ref (h + 14), .ref (h + 15), .ref (h + 16), .ref (h + 17), .ref (h + 18), .int 0, .ref (h + 25), .ref (h + 47), .ref (h + 48), .ref (h + 51), .ref (h + 59), .ref (h + 67), .ref (h + 70), .int 0])) (arR E 6 40 19 40) (arR E 7 12 22 12) (arR E 8 12 26 0) (arR E 9 20 29 0) (arR E 10 12 30 0)) s.heap H locs → W p l e ({ frames := 2, cells := 524, slots := 6662, locals := 40 } : Room) s m #[.ref h] below meth c H locs 420 5962 (MQ below (va_Qv (fun _ : Unit => True) (fun _ t => t.heap.size = h + 525 ∧ ∀ k, k < 525 → va_at E.1 vwC (h + k, cX0 E (fmH k) (ixH k)) t.heap) (fun q => h ≤ q)) #[.ref h] s 524 6662 (fun q => h ≤ q)) (F0 m 239 ls [])) → ∀ (k i : Nat) (H : Heap) (locs : List Loc) (ls : Array Slot), i + k = 12 → lv_has ls 2 [(1, .int (nI i)), (0, .ref h)] → CS E.1 h (313 + 9 * i) (GU E (.inr (10, [.ref (h + 1), .ref (h + 2), .int 0, .ref (h + 3), .ref (h + 4), .ref (h + 5), .ref (h + 14), .ref (h + 15), .ref (h + 16), .ref (h + 17), .ref (h + 18), .int 0, .ref (h + 25), .ref (h + 47), .ref (h + 48), .ref (h + 51), .ref (h + 59), .ref (h + 67), .ref (h + 70), .int 0])) (arR E 6 40 19 40) (arR E 7 12 22 i) (arR E 8 12 26 0) (arR E 9 20 29 0) (arR E 10 12 30 0)) s.heap H locs → W p l e ({ frames := 2, cells := 524, slots := 6662, locals := 40 } : Room) s m #[.ref h] below meth c H locs (312 + 9 * i) (4606 + 113 * i) (MQ below (va_Qv (fun _ : Unit => True) (fun _ t => t.heap.size = h + 525 ∧ ∀ k, k < 525 → va_at E.1 vwC (h + k, cX0 E (fmH k) (ixH k)) t.heap) (fun q => h ≤ q)) #[.ref h] s 524 6662 (fun q => h ≤ q)) (F0 m 214 ls []) := by
    intro kk k
    induction k with
    | zero =>
      intro i H locs ls hi hl hc
      obtain rfl : i = 12 := by omega
      refine lv_iload_n hx hb dX11_init_214 rfl (lv_at hl 0 rfl) ?_
      refine lv_bipush (v := 12) hx hb dX11_init_215 (by decide) ?_
      refine lv_icmp_ge (tgt := 239) hx hb dX11_init_217 (by decide) (fun hcc => ?_) (fun hcc => ?_)
      · exact kk H locs ls hl hc
      · exact absurd (show (12 : Int32) ≤ nI 12 by decide) hcc
    | succ k ih =>
      intro i H locs ls hi hl hc
      refine lv_iload_n hx hb dX11_init_214 rfl (lv_at hl 0 rfl) ?_
      refine lv_bipush (v := 12) hx hb dX11_init_215 (by decide) ?_
      refine lv_icmp_ge (tgt := 239) hx hb dX11_init_217 (by decide) (fun hcc => ?_) (fun hcc => ?_)
      · exact absurd hcc (nI_gt (N := 12) (n := i) (by decide) (by omega))
      · refine lv_aload_n hx hb dX11_init_220 rfl (lv_at hl 1 rfl) ?_
        refine va_get (D := E.1) (ci := 10) (v := .ref (h + 14)) (C := RX11) (T := TX11) (N := 20) hx hb hts (by decide +kernel) hown hK (CS_P hc (i := 0) (by omega)) 0 rfl rfl 6 (by decide) (hts (.fieldLink RX11 37 "ColourHouse" "dyes" "[LColourHouse$Dye;") (by decide +kernel)) (fun _ h9 => h9) rfl dX11_init_221 ?_
        refine lv_iload_n hx hb dX11_init_224 rfl (lv_at hl 0 rfl) ?_
        refine cs_new (ci := 3) (fs := [.int 0, .int 0, .int 0, .null, .null]) (C := RX3) (T := TX3) (N := 5) hx hb hts (by decide +kernel) tyX3 tyX3_ok hown (hts (.classLink RX11 35 RX3) (by decide +kernel)) (hts (.instantiable RX3 5) (by decide +kernel)) (hts (.initialized RX3) (by decide +kernel)) hK hc rfl (fun j hj => by rcases (show j = 0 ∨ j = 1 ∨ j = 2 ∨ j = 3 ∨ j = 4 by omega) with rfl | rfl | rfl | rfl | rfl <;> rfl) (by show _ ≤ 524; omega) (by show _ ≤ 6662; omega) dX11_init_225 (fun H hc => ?_)
        refine lv_dup hx hb dX11_init_228 rfl ?_
        refine cs_callNT (n := 313 + 9 * i) (rest := [.ref (h + (313 + 9 * i)), .int (nI i), .ref (h + 14)]) (ci := 3) AOX_m (ctX3 l E i (h + (313 + 9 * i)) (fun k hk => by rw [hlay, (layX3 i (by omega) k hk).2]; omega)) ⟨hx, hb, hml, hown, hts⟩ ⟨va_cnB 0 hts gX11_init_X3_init_n114 rfl rfl rfl hA.2.2.2.2.2.2.2.1 (hts (.initialized RX3) (by decide +kernel)) (by decide +kernel) ⟨Nat.le_of_ble_eq_true rfl, Nat.le_of_ble_eq_true rfl⟩, rfl, hts (.instanceMethod yX3_init) (by decide +kernel)⟩ hK hA.1 hc (fun k hk => by rw [GU_g (by omega), (layX3 i (by omega) k hk).1.1, (layX3 i (by omega) k hk).1.2]) hl.1 (lv_room (Nat.le_of_ble_eq_true rfl)) dX11_init_229 ⟨by show _ ≤ 524; omega, by show _ ≤ 6662; omega⟩ (by rw [hsz]; omega) (fun H locs hc => ?_)
        have g0 : GU E (.inr (10, [.ref (h + 1), .ref (h + 2), .int 0, .ref (h + 3), .ref (h + 4), .ref (h + 5), .ref (h + 14), .ref (h + 15), .ref (h + 16), .ref (h + 17), .ref (h + 18), .int 0, .ref (h + 25), .ref (h + 47), .ref (h + 48), .ref (h + 51), .ref (h + 59), .ref (h + 67), .ref (h + 70), .int 0])) (arR E 6 40 19 40) (arR E 7 12 22 i) (arR E 8 12 26 0) (arR E 9 20 29 0) (arR E 10 12 30 0) (313 + 9 * i) = cX0 E 22 i := by rw [GU_g (by omega), show (313 + 9 * i) = (313 + 9 * i + 0) from rfl, (layX3 i (by omega) 0 (by decide)).1.1, (layX3 i (by omega) 0 (by decide)).1.2]; rfl
        refine cs_ast (i := 14) (j := 313 + 9 * i) hx hb hK hc 7 3 (by omega) (by omega) rfl rfl (g0.trans rfl) rfl (vp_in_nI (by omega) (by decide)) dX11_init_232 (fun H locs hc => ?_)
        rw [nI_cl (n := i) (by omega), GU_14, arR_s E 7 12 22 i (h + (313 + 9 * i)) (by rw [hlay, show offH 22 i = 313 + 9 * i from (show (313 + 9 * i : Nat) = _ by omega)])] at hc
        refine lv_iinc (k := 0) (v := nI (i + 1)) (lv' := [(1, .int (nI (i + 1))), (0, .ref h)]) hx hb dX11_init_233 hl rfl (nI_s i) (by decide) rfl (fun ls hl => ?_)
        refine lv_goto (tgt := 214) hx hb dX11_init_236 (by decide) ?_
        refine W.widen (k := 312 + 9 * (i + 1)) (n := 4606 + 113 * (i + 1)) (by omega) (by omega) ?_
        exact ih (i + 1) H locs ls (by omega) hl (by rw [show 313 + 9 * (i + 1) = 313 + 9 * i + 9 by omega]; exact hc)
  refine lv_iconst (v := 0) hx hb dX11_init_212 (by decide) ?_
  refine lv_istore_n (lv' := [(1, .int (nI 0)), (0, .ref h)]) hx hb dX11_init_213 rfl hl (by decide) rfl (fun ls hl => ?_)
  refine LX3 (fun H locs ls hl hc => ?_) 12 0 H locs ls rfl hl hc
  have hc : CS E.1 h 421 (GU E (.inr (10, [.ref (h + 1), .ref (h + 2), .int 0, .ref (h + 3), .ref (h + 4), .ref (h + 5), .ref (h + 14), .ref (h + 15), .ref (h + 16), .ref (h + 17), .ref (h + 18), .int 0, .ref (h + 25), .ref (h + 47), .ref (h + 48), .ref (h + 51), .ref (h + 59), .ref (h + 67), .ref (h + 70), .int 0])) (arR E 6 40 19 40) (arR E 7 12 22 12) (arR E 8 12 26 0) (arR E 9 20 29 0) (arR E 10 12 30 0)) s.heap H locs := hc
  have LX10 : (∀ (H : Heap) (locs : List Loc) (ls : Array Slot), lv_has ls 2 [(1, .int (nI 12)), (0, .ref h)] → CS E.1 h (421 + 3 * 12) (GU E (.inr (10, [.ref (h + 1), .ref (h + 2), .int 0, .ref (h + 3), .ref (h + 4), .ref (h + 5), .ref (h + 14), .ref (h + 15), .ref (h + 16), .ref (h + 17), .ref (h + 18), .int 0, .ref (h + 25), .ref (h + 47), .ref (h + 48), .ref (h + 51), .ref (h + 59), .ref (h + 67), .ref (h + 70), .int 0])) (arR E 6 40 19 40) (arR E 7 12 22 12) (arR E 8 12 26 12) (arR E 9 20 29 0) (arR E 10 12 30 0)) s.heap H locs → W p l e ({ frames := 2, cells := 524, slots := 6662, locals := 40 } : Room) s m #[.ref h] below meth c H locs 456 6094 (MQ below (va_Qv (fun _ : Unit => True) (fun _ t => t.heap.size = h + 525 ∧ ∀ k, k < 525 → va_at E.1 vwC (h + k, cX0 E (fmH k) (ixH k)) t.heap) (fun q => h ≤ q)) #[.ref h] s 524 6662 (fun q => h ≤ q)) (F0 m 266 ls [])) → ∀ (k i : Nat) (H : Heap) (locs : List Loc) (ls : Array Slot), i + k = 12 → lv_has ls 2 [(1, .int (nI i)), (0, .ref h)] → CS E.1 h (421 + 3 * i) (GU E (.inr (10, [.ref (h + 1), .ref (h + 2), .int 0, .ref (h + 3), .ref (h + 4), .ref (h + 5), .ref (h + 14), .ref (h + 15), .ref (h + 16), .ref (h + 17), .ref (h + 18), .int 0, .ref (h + 25), .ref (h + 47), .ref (h + 48), .ref (h + 51), .ref (h + 59), .ref (h + 67), .ref (h + 70), .int 0])) (arR E 6 40 19 40) (arR E 7 12 22 12) (arR E 8 12 26 i) (arR E 9 20 29 0) (arR E 10 12 30 0)) s.heap H locs → W p l e ({ frames := 2, cells := 524, slots := 6662, locals := 40 } : Room) s m #[.ref h] below meth c H locs (420 + 3 * i) (5962 + 11 * i) (MQ below (va_Qv (fun _ : Unit => True) (fun _ t => t.heap.size = h + 525 ∧ ∀ k, k < 525 → va_at E.1 vwC (h + k, cX0 E (fmH k) (ixH k)) t.heap) (fun q => h ≤ q)) #[.ref h] s 524 6662 (fun q => h ≤ q)) (F0 m 241 ls []) := by
    intro kk k
    induction k with
    | zero =>
      intro i H locs ls hi hl hc
      obtain rfl : i = 12 := by omega
      refine lv_iload_n hx hb dX11_init_241 rfl (lv_at hl 0 rfl) ?_
      refine lv_bipush (v := 12) hx hb dX11_init_242 (by decide) ?_
      refine lv_icmp_ge (tgt := 266) hx hb dX11_init_244 (by decide) (fun hcc => ?_) (fun hcc => ?_)
      · exact kk H locs ls hl hc
      · exact absurd (show (12 : Int32) ≤ nI 12 by decide) hcc
    | succ k ih =>
      intro i H locs ls hi hl hc
      refine lv_iload_n hx hb dX11_init_241 rfl (lv_at hl 0 rfl) ?_
      refine lv_bipush (v := 12) hx hb dX11_init_242 (by decide) ?_
      refine lv_icmp_ge (tgt := 266) hx hb dX11_init_244 (by decide) (fun hcc => ?_) (fun hcc => ?_)
      · exact absurd hcc (nI_gt (N := 12) (n := i) (by decide) (by omega))
      · refine lv_aload_n hx hb dX11_init_247 rfl (lv_at hl 1 rfl) ?_
        refine va_get (D := E.1) (ci := 10) (v := .ref (h + 15)) (C := RX11) (T := TX11) (N := 20) hx hb hts (by decide +kernel) hown hK (CS_P hc (i := 0) (by omega)) 0 rfl rfl 7 (by decide) (hts (.fieldLink RX11 43 "ColourHouse" "solids" "[LColourHouse$Solid;") (by decide +kernel)) (fun _ h9 => h9) rfl dX11_init_248 ?_
        refine lv_iload_n hx hb dX11_init_251 rfl (lv_at hl 0 rfl) ?_
        refine cs_new (ci := 9) (fs := [.int 0, .int 0, .int 0, .null, .null]) (C := RX10) (T := TX10) (N := 5) hx hb hts (by decide +kernel) tyX10 tyX10_ok hown (hts (.classLink RX11 41 RX10) (by decide +kernel)) (hts (.instantiable RX10 5) (by decide +kernel)) (hts (.initialized RX10) (by decide +kernel)) hK hc rfl (fun j hj => by rcases (show j = 0 ∨ j = 1 ∨ j = 2 ∨ j = 3 ∨ j = 4 by omega) with rfl | rfl | rfl | rfl | rfl <;> rfl) (by show _ ≤ 524; omega) (by show _ ≤ 6662; omega) dX11_init_252 (fun H hc => ?_)
        refine lv_dup hx hb dX11_init_255 rfl ?_
        refine cs_callNT (n := 421 + 3 * i) (rest := [.ref (h + (421 + 3 * i)), .int (nI i), .ref (h + 15)]) (ci := 9) AOX_m (ctX10 l E i (h + (421 + 3 * i)) (fun k hk => by rw [hlay, (layX10 i (by omega) k hk).2]; omega)) ⟨hx, hb, hml, hown, hts⟩ ⟨va_cnB 0 hts gX11_init_X10_init_n115 rfl rfl rfl hA.2.2.2.2.2.2.2.2.1 (hts (.initialized RX10) (by decide +kernel)) (by decide +kernel) ⟨Nat.le_of_ble_eq_true rfl, Nat.le_of_ble_eq_true rfl⟩, rfl, hts (.instanceMethod yX10_init) (by decide +kernel)⟩ hK hA.1 hc (fun k hk => by rw [GU_g (by omega), (layX10 i (by omega) k hk).1.1, (layX10 i (by omega) k hk).1.2]) hl.1 (lv_room (Nat.le_of_ble_eq_true rfl)) dX11_init_256 ⟨by show _ ≤ 524; omega, by show _ ≤ 6662; omega⟩ (by rw [hsz]; omega) (fun H locs hc => ?_)
        have g0 : GU E (.inr (10, [.ref (h + 1), .ref (h + 2), .int 0, .ref (h + 3), .ref (h + 4), .ref (h + 5), .ref (h + 14), .ref (h + 15), .ref (h + 16), .ref (h + 17), .ref (h + 18), .int 0, .ref (h + 25), .ref (h + 47), .ref (h + 48), .ref (h + 51), .ref (h + 59), .ref (h + 67), .ref (h + 70), .int 0])) (arR E 6 40 19 40) (arR E 7 12 22 12) (arR E 8 12 26 i) (arR E 9 20 29 0) (arR E 10 12 30 0) (421 + 3 * i) = cX0 E 26 i := by rw [GU_g (by omega), show (421 + 3 * i) = (421 + 3 * i + 0) from rfl, (layX10 i (by omega) 0 (by decide)).1.1, (layX10 i (by omega) 0 (by decide)).1.2]; rfl
        refine cs_ast (i := 15) (j := 421 + 3 * i) hx hb hK hc 8 9 (by omega) (by omega) rfl rfl (g0.trans rfl) rfl (vp_in_nI (by omega) (by decide)) dX11_init_259 (fun H locs hc => ?_)
        rw [nI_cl (n := i) (by omega), GU_15, arR_s E 8 12 26 i (h + (421 + 3 * i)) (by rw [hlay, show offH 26 i = 421 + 3 * i from (show (421 + 3 * i : Nat) = _ by omega)])] at hc
        refine lv_iinc (k := 0) (v := nI (i + 1)) (lv' := [(1, .int (nI (i + 1))), (0, .ref h)]) hx hb dX11_init_260 hl rfl (nI_s i) (by decide) rfl (fun ls hl => ?_)
        refine lv_goto (tgt := 241) hx hb dX11_init_263 (by decide) ?_
        refine W.widen (k := 420 + 3 * (i + 1)) (n := 5962 + 11 * (i + 1)) (by omega) (by omega) ?_
        exact ih (i + 1) H locs ls (by omega) hl (by rw [show 421 + 3 * (i + 1) = 421 + 3 * i + 3 by omega]; exact hc)
  refine lv_iconst (v := 0) hx hb dX11_init_239 (by decide) ?_
  refine lv_istore_n (lv' := [(1, .int (nI 0)), (0, .ref h)]) hx hb dX11_init_240 rfl hl (by decide) rfl (fun ls hl => ?_)
  refine LX10 (fun H locs ls hl hc => ?_) 12 0 H locs ls rfl hl hc
  have hc : CS E.1 h 457 (GU E (.inr (10, [.ref (h + 1), .ref (h + 2), .int 0, .ref (h + 3), .ref (h + 4), .ref (h + 5), .ref (h + 14), .ref (h + 15), .ref (h + 16), .ref (h + 17), .ref (h + 18), .int 0, .ref (h + 25), .ref (h + 47), .ref (h + 48), .ref (h + 51), .ref (h + 59), .ref (h + 67), .ref (h + 70), .int 0])) (arR E 6 40 19 40) (arR E 7 12 22 12) (arR E 8 12 26 12) (arR E 9 20 29 0) (arR E 10 12 30 0)) s.heap H locs := hc
  have LX4 : (∀ (H : Heap) (locs : List Loc) (ls : Array Slot), lv_has ls 2 [(1, .int (nI 20)), (0, .ref h)] → CS E.1 h (457 + 1 * 20) (GU E (.inr (10, [.ref (h + 1), .ref (h + 2), .int 0, .ref (h + 3), .ref (h + 4), .ref (h + 5), .ref (h + 14), .ref (h + 15), .ref (h + 16), .ref (h + 17), .ref (h + 18), .int 0, .ref (h + 25), .ref (h + 47), .ref (h + 48), .ref (h + 51), .ref (h + 59), .ref (h + 67), .ref (h + 70), .int 0])) (arR E 6 40 19 40) (arR E 7 12 22 12) (arR E 8 12 26 12) (arR E 9 20 29 20) (arR E 10 12 30 0)) s.heap H locs → W p l e ({ frames := 2, cells := 524, slots := 6662, locals := 40 } : Room) s m #[.ref h] below meth c H locs 476 6194 (MQ below (va_Qv (fun _ : Unit => True) (fun _ t => t.heap.size = h + 525 ∧ ∀ k, k < 525 → va_at E.1 vwC (h + k, cX0 E (fmH k) (ixH k)) t.heap) (fun q => h ≤ q)) #[.ref h] s 524 6662 (fun q => h ≤ q)) (F0 m 293 ls [])) → ∀ (k i : Nat) (H : Heap) (locs : List Loc) (ls : Array Slot), i + k = 20 → lv_has ls 2 [(1, .int (nI i)), (0, .ref h)] → CS E.1 h (457 + 1 * i) (GU E (.inr (10, [.ref (h + 1), .ref (h + 2), .int 0, .ref (h + 3), .ref (h + 4), .ref (h + 5), .ref (h + 14), .ref (h + 15), .ref (h + 16), .ref (h + 17), .ref (h + 18), .int 0, .ref (h + 25), .ref (h + 47), .ref (h + 48), .ref (h + 51), .ref (h + 59), .ref (h + 67), .ref (h + 70), .int 0])) (arR E 6 40 19 40) (arR E 7 12 22 12) (arR E 8 12 26 12) (arR E 9 20 29 i) (arR E 10 12 30 0)) s.heap H locs → W p l e ({ frames := 2, cells := 524, slots := 6662, locals := 40 } : Room) s m #[.ref h] below meth c H locs (456 + 1 * i) (6094 + 5 * i) (MQ below (va_Qv (fun _ : Unit => True) (fun _ t => t.heap.size = h + 525 ∧ ∀ k, k < 525 → va_at E.1 vwC (h + k, cX0 E (fmH k) (ixH k)) t.heap) (fun q => h ≤ q)) #[.ref h] s 524 6662 (fun q => h ≤ q)) (F0 m 268 ls []) := by
    intro kk k
    induction k with
    | zero =>
      intro i H locs ls hi hl hc
      obtain rfl : i = 20 := by omega
      refine lv_iload_n hx hb dX11_init_268 rfl (lv_at hl 0 rfl) ?_
      refine lv_bipush (v := 20) hx hb dX11_init_269 (by decide) ?_
      refine lv_icmp_ge (tgt := 293) hx hb dX11_init_271 (by decide) (fun hcc => ?_) (fun hcc => ?_)
      · exact kk H locs ls hl hc
      · exact absurd (show (20 : Int32) ≤ nI 20 by decide) hcc
    | succ k ih =>
      intro i H locs ls hi hl hc
      refine lv_iload_n hx hb dX11_init_268 rfl (lv_at hl 0 rfl) ?_
      refine lv_bipush (v := 20) hx hb dX11_init_269 (by decide) ?_
      refine lv_icmp_ge (tgt := 293) hx hb dX11_init_271 (by decide) (fun hcc => ?_) (fun hcc => ?_)
      · exact absurd hcc (nI_gt (N := 20) (n := i) (by decide) (by omega))
      · refine lv_aload_n hx hb dX11_init_274 rfl (lv_at hl 1 rfl) ?_
        refine va_get (D := E.1) (ci := 10) (v := .ref (h + 16)) (C := RX11) (T := TX11) (N := 20) hx hb hts (by decide +kernel) hown hK (CS_P hc (i := 0) (by omega)) 0 rfl rfl 8 (by decide) (hts (.fieldLink RX11 49 "ColourHouse" "lots" "[LColourHouse$Lot;") (by decide +kernel)) (fun _ h9 => h9) rfl dX11_init_275 ?_
        refine lv_iload_n hx hb dX11_init_278 rfl (lv_at hl 0 rfl) ?_
        refine cs_new (ci := 4) (fs := [.int 0, .int 0, .int 0, .int 0, .int 0]) (C := RX4) (T := TX4) (N := 5) hx hb hts (by decide +kernel) tyX4 tyX4_ok hown (hts (.classLink RX11 47 RX4) (by decide +kernel)) (hts (.instantiable RX4 5) (by decide +kernel)) (hts (.initialized RX4) (by decide +kernel)) hK hc rfl (fun j hj => by rcases (show j = 0 ∨ j = 1 ∨ j = 2 ∨ j = 3 ∨ j = 4 by omega) with rfl | rfl | rfl | rfl | rfl <;> rfl) (by show _ ≤ 524; omega) (by show _ ≤ 6662; omega) dX11_init_279 (fun H hc => ?_)
        refine lv_dup hx hb dX11_init_282 rfl ?_
        refine cs_callNT (n := 457 + 1 * i) (rest := [.ref (h + (457 + 1 * i)), .int (nI i), .ref (h + 16)]) (ci := 4) AOX_m (ctX4 l E i (h + (457 + 1 * i)) (fun k hk => by rw [hlay, (layX4 i (by omega) k hk).2]; omega)) ⟨hx, hb, hml, hown, hts⟩ ⟨va_cnB 0 hts gX11_init_X4_init_n116 rfl rfl rfl hA.2.2.2.2.2.2.2.2.2.1 (hts (.initialized RX4) (by decide +kernel)) (by decide +kernel) ⟨Nat.le_of_ble_eq_true rfl, Nat.le_of_ble_eq_true rfl⟩, rfl, hts (.instanceMethod yX4_init) (by decide +kernel)⟩ hK hA.1 hc (fun k hk => by rw [GU_g (by omega), (layX4 i (by omega) k hk).1.1, (layX4 i (by omega) k hk).1.2]) hl.1 (lv_room (Nat.le_of_ble_eq_true rfl)) dX11_init_283 ⟨by show _ ≤ 524; omega, by show _ ≤ 6662; omega⟩ (by rw [hsz]; omega) (fun H locs hc => ?_)
        have g0 : GU E (.inr (10, [.ref (h + 1), .ref (h + 2), .int 0, .ref (h + 3), .ref (h + 4), .ref (h + 5), .ref (h + 14), .ref (h + 15), .ref (h + 16), .ref (h + 17), .ref (h + 18), .int 0, .ref (h + 25), .ref (h + 47), .ref (h + 48), .ref (h + 51), .ref (h + 59), .ref (h + 67), .ref (h + 70), .int 0])) (arR E 6 40 19 40) (arR E 7 12 22 12) (arR E 8 12 26 12) (arR E 9 20 29 i) (arR E 10 12 30 0) (457 + 1 * i) = cX0 E 29 i := by rw [GU_g (by omega), show (457 + 1 * i) = (457 + 1 * i + 0) from rfl, (layX4 i (by omega) 0 (by decide)).1.1, (layX4 i (by omega) 0 (by decide)).1.2]; rfl
        refine cs_ast (i := 16) (j := 457 + 1 * i) hx hb hK hc 9 4 (by omega) (by omega) rfl rfl (g0.trans rfl) rfl (vp_in_nI (by omega) (by decide)) dX11_init_286 (fun H locs hc => ?_)
        rw [nI_cl (n := i) (by omega), GU_16, arR_s E 9 20 29 i (h + (457 + 1 * i)) (by rw [hlay, show offH 29 i = 457 + 1 * i from (show (457 + i : Nat) = _ by omega)])] at hc
        refine lv_iinc (k := 0) (v := nI (i + 1)) (lv' := [(1, .int (nI (i + 1))), (0, .ref h)]) hx hb dX11_init_287 hl rfl (nI_s i) (by decide) rfl (fun ls hl => ?_)
        refine lv_goto (tgt := 268) hx hb dX11_init_290 (by decide) ?_
        refine W.widen (k := 456 + 1 * (i + 1)) (n := 6094 + 5 * (i + 1)) (by omega) (by omega) ?_
        exact ih (i + 1) H locs ls (by omega) hl (by rw [show 457 + 1 * (i + 1) = 457 + 1 * i + 1 by omega]; exact hc)
  refine lv_iconst (v := 0) hx hb dX11_init_266 (by decide) ?_
  refine lv_istore_n (lv' := [(1, .int (nI 0)), (0, .ref h)]) hx hb dX11_init_267 rfl hl (by decide) rfl (fun ls hl => ?_)
  refine LX4 (fun H locs ls hl hc => ?_) 20 0 H locs ls rfl hl hc
  have hc : CS E.1 h 477 (GU E (.inr (10, [.ref (h + 1), .ref (h + 2), .int 0, .ref (h + 3), .ref (h + 4), .ref (h + 5), .ref (h + 14), .ref (h + 15), .ref (h + 16), .ref (h + 17), .ref (h + 18), .int 0, .ref (h + 25), .ref (h + 47), .ref (h + 48), .ref (h + 51), .ref (h + 59), .ref (h + 67), .ref (h + 70), .int 0])) (arR E 6 40 19 40) (arR E 7 12 22 12) (arR E 8 12 26 12) (arR E 9 20 29 20) (arR E 10 12 30 0)) s.heap H locs := hc
  have LX1 : (∀ (H : Heap) (locs : List Loc) (ls : Array Slot), lv_has ls 2 [(1, .int (nI 12)), (0, .ref h)] → CS E.1 h (477 + 4 * 12) (GU E (.inr (10, [.ref (h + 1), .ref (h + 2), .int 0, .ref (h + 3), .ref (h + 4), .ref (h + 5), .ref (h + 14), .ref (h + 15), .ref (h + 16), .ref (h + 17), .ref (h + 18), .int 0, .ref (h + 25), .ref (h + 47), .ref (h + 48), .ref (h + 51), .ref (h + 59), .ref (h + 67), .ref (h + 70), .int 0])) (arR E 6 40 19 40) (arR E 7 12 22 12) (arR E 8 12 26 12) (arR E 9 20 29 20) (arR E 10 12 30 12)) s.heap H locs → W p l e ({ frames := 2, cells := 524, slots := 6662, locals := 40 } : Room) s m #[.ref h] below meth c H locs 524 6662 (MQ below (va_Qv (fun _ : Unit => True) (fun _ t => t.heap.size = h + 525 ∧ ∀ k, k < 525 → va_at E.1 vwC (h + k, cX0 E (fmH k) (ixH k)) t.heap) (fun q => h ≤ q)) #[.ref h] s 524 6662 (fun q => h ≤ q)) (F0 m 320 ls [])) → ∀ (k i : Nat) (H : Heap) (locs : List Loc) (ls : Array Slot), i + k = 12 → lv_has ls 2 [(1, .int (nI i)), (0, .ref h)] → CS E.1 h (477 + 4 * i) (GU E (.inr (10, [.ref (h + 1), .ref (h + 2), .int 0, .ref (h + 3), .ref (h + 4), .ref (h + 5), .ref (h + 14), .ref (h + 15), .ref (h + 16), .ref (h + 17), .ref (h + 18), .int 0, .ref (h + 25), .ref (h + 47), .ref (h + 48), .ref (h + 51), .ref (h + 59), .ref (h + 67), .ref (h + 70), .int 0])) (arR E 6 40 19 40) (arR E 7 12 22 12) (arR E 8 12 26 12) (arR E 9 20 29 20) (arR E 10 12 30 i)) s.heap H locs → W p l e ({ frames := 2, cells := 524, slots := 6662, locals := 40 } : Room) s m #[.ref h] below meth c H locs (476 + 4 * i) (6194 + 39 * i) (MQ below (va_Qv (fun _ : Unit => True) (fun _ t => t.heap.size = h + 525 ∧ ∀ k, k < 525 → va_at E.1 vwC (h + k, cX0 E (fmH k) (ixH k)) t.heap) (fun q => h ≤ q)) #[.ref h] s 524 6662 (fun q => h ≤ q)) (F0 m 295 ls []) := by
    intro kk k
    induction k with
    | zero =>
      intro i H locs ls hi hl hc
      obtain rfl : i = 12 := by omega
      refine lv_iload_n hx hb dX11_init_295 rfl (lv_at hl 0 rfl) ?_
      refine lv_bipush (v := 12) hx hb dX11_init_296 (by decide) ?_
      refine lv_icmp_ge (tgt := 320) hx hb dX11_init_298 (by decide) (fun hcc => ?_) (fun hcc => ?_)
      · exact kk H locs ls hl hc
      · exact absurd (show (12 : Int32) ≤ nI 12 by decide) hcc
    | succ k ih =>
      intro i H locs ls hi hl hc
      refine lv_iload_n hx hb dX11_init_295 rfl (lv_at hl 0 rfl) ?_
      refine lv_bipush (v := 12) hx hb dX11_init_296 (by decide) ?_
      refine lv_icmp_ge (tgt := 320) hx hb dX11_init_298 (by decide) (fun hcc => ?_) (fun hcc => ?_)
      · exact absurd hcc (nI_gt (N := 12) (n := i) (by decide) (by omega))
      · refine lv_aload_n hx hb dX11_init_301 rfl (lv_at hl 1 rfl) ?_
        refine va_get (D := E.1) (ci := 10) (v := .ref (h + 17)) (C := RX11) (T := TX11) (N := 20) hx hb hts (by decide +kernel) hown hK (CS_P hc (i := 0) (by omega)) 0 rfl rfl 9 (by decide) (hts (.fieldLink RX11 55 "ColourHouse" "batches" "[LColourHouse$Batch;") (by decide +kernel)) (fun _ h9 => h9) rfl dX11_init_302 ?_
        refine lv_iload_n hx hb dX11_init_305 rfl (lv_at hl 0 rfl) ?_
        refine cs_new (ci := 1) (fs := [.int 0, .int 0, .int 0, .null, .null, .int 0, .null]) (C := RX1) (T := TX1) (N := 7) hx hb hts (by decide +kernel) tyX1 tyX1_ok hown (hts (.classLink RX11 53 RX1) (by decide +kernel)) (hts (.instantiable RX1 7) (by decide +kernel)) (hts (.initialized RX1) (by decide +kernel)) hK hc rfl (fun j hj => by rcases (show j = 0 ∨ j = 1 ∨ j = 2 ∨ j = 3 ∨ j = 4 ∨ j = 5 ∨ j = 6 by omega) with rfl | rfl | rfl | rfl | rfl | rfl | rfl <;> rfl) (by show _ ≤ 524; omega) (by show _ ≤ 6662; omega) dX11_init_306 (fun H hc => ?_)
        refine lv_dup hx hb dX11_init_309 rfl ?_
        refine cs_callNT (n := 477 + 4 * i) (rest := [.ref (h + (477 + 4 * i)), .int (nI i), .ref (h + 17)]) (ci := 1) AOX_m (ctX1 l E i (h + (477 + 4 * i)) (fun k hk => by rw [hlay, (layX1 i (by omega) k hk).2]; omega)) ⟨hx, hb, hml, hown, hts⟩ ⟨va_cnB 0 hts gX11_init_X1_init_n117 rfl rfl rfl hA.2.2.2.2.2.2.2.2.2.2 (hts (.initialized RX1) (by decide +kernel)) (by decide +kernel) ⟨Nat.le_of_ble_eq_true rfl, Nat.le_of_ble_eq_true rfl⟩, rfl, hts (.instanceMethod yX1_init) (by decide +kernel)⟩ hK hA.1 hc (fun k hk => by rw [GU_g (by omega), (layX1 i (by omega) k hk).1.1, (layX1 i (by omega) k hk).1.2]) hl.1 (lv_room (Nat.le_of_ble_eq_true rfl)) dX11_init_310 ⟨by show _ ≤ 524; omega, by show _ ≤ 6662; omega⟩ (by rw [hsz]; omega) (fun H locs hc => ?_)
        have g0 : GU E (.inr (10, [.ref (h + 1), .ref (h + 2), .int 0, .ref (h + 3), .ref (h + 4), .ref (h + 5), .ref (h + 14), .ref (h + 15), .ref (h + 16), .ref (h + 17), .ref (h + 18), .int 0, .ref (h + 25), .ref (h + 47), .ref (h + 48), .ref (h + 51), .ref (h + 59), .ref (h + 67), .ref (h + 70), .int 0])) (arR E 6 40 19 40) (arR E 7 12 22 12) (arR E 8 12 26 12) (arR E 9 20 29 20) (arR E 10 12 30 i) (477 + 4 * i) = cX0 E 30 i := by rw [GU_g (by omega), show (477 + 4 * i) = (477 + 4 * i + 0) from rfl, (layX1 i (by omega) 0 (by decide)).1.1, (layX1 i (by omega) 0 (by decide)).1.2]; rfl
        refine cs_ast (i := 17) (j := 477 + 4 * i) hx hb hK hc 10 1 (by omega) (by omega) rfl rfl (g0.trans rfl) rfl (vp_in_nI (by omega) (by decide)) dX11_init_313 (fun H locs hc => ?_)
        rw [nI_cl (n := i) (by omega), GU_17, arR_s E 10 12 30 i (h + (477 + 4 * i)) (by rw [hlay, show offH 30 i = 477 + 4 * i from (show (477 + 4 * i : Nat) = _ by omega)])] at hc
        refine lv_iinc (k := 0) (v := nI (i + 1)) (lv' := [(1, .int (nI (i + 1))), (0, .ref h)]) hx hb dX11_init_314 hl rfl (nI_s i) (by decide) rfl (fun ls hl => ?_)
        refine lv_goto (tgt := 295) hx hb dX11_init_317 (by decide) ?_
        refine W.widen (k := 476 + 4 * (i + 1)) (n := 6194 + 39 * (i + 1)) (by omega) (by omega) ?_
        exact ih (i + 1) H locs ls (by omega) hl (by rw [show 477 + 4 * (i + 1) = 477 + 4 * i + 4 by omega]; exact hc)
  refine lv_iconst (v := 0) hx hb dX11_init_293 (by decide) ?_
  refine lv_istore_n (lv' := [(1, .int (nI 0)), (0, .ref h)]) hx hb dX11_init_294 rfl hl (by decide) rfl (fun ls hl => ?_)
  refine LX1 (fun H locs ls hl hc => ?_) 12 0 H locs ls rfl hl hc
  have hc : CS E.1 h 525 (GU E (.inr (10, [.ref (h + 1), .ref (h + 2), .int 0, .ref (h + 3), .ref (h + 4), .ref (h + 5), .ref (h + 14), .ref (h + 15), .ref (h + 16), .ref (h + 17), .ref (h + 18), .int 0, .ref (h + 25), .ref (h + 47), .ref (h + 48), .ref (h + 51), .ref (h + 59), .ref (h + 67), .ref (h + 70), .int 0])) (arR E 6 40 19 40) (arR E 7 12 22 12) (arR E 8 12 26 12) (arR E 9 20 29 20) (arR E 10 12 30 12)) s.heap H locs := hc
  have hfin : CS E.1 h 525 (fun k => cX0 E (fmH k) (ixH k)) s.heap H locs := by
    refine CS_e hc (fun k hk h0 => ?_)
    by_cases z : k = 0 ∨ k = 4 ∨ (14 ≤ k ∧ k ≤ 17)
    · rcases (show k = 0 ∨ k = 4 ∨ k = 14 ∨ k = 15 ∨ k = 16 ∨ k = 17 by omega) with rfl | rfl | rfl | rfl | rfl | rfl
      · have e : cX0 E (fmH 0) (ixH 0) = .inr (10, [.ref (h + 1), .ref (h + 2), .int 0, .ref (h + 3), .ref (h + 4), .ref (h + 5), .ref (h + 14), .ref (h + 15), .ref (h + 16), .ref (h + 17), .ref (h + 18), .int 0, .ref (h + 25), .ref (h + 47), .ref (h + 48), .ref (h + 51), .ref (h + 59), .ref (h + 67), .ref (h + 70), .int 0]) := by
          show cX0 E 0 0 = _
          unfold cX0 cellX
          simp only [hlay]
          rfl
        rw [e]; exact h0
      all_goals exact va_at_q h0 (fun j hj => if_pos hj)
    · rw [GU_g z] at h0; exact h0
  exact W.vret hx hb hr (fun t ht hW => ⟨⟨(), rfl, trivial, by rw [ht]; exact hfin.1, fun k hk => by rw [ht]; exact hfin.2.1 k hk⟩, by rw [ht, hfin.1, hsz]; omega, fun q h1 h2 => by rw [ht]; exact hfin.2.2.1 q (by omega)⟩) (fun z hz => hfin.2.2.2 z hz) dX11_init_320 hlocks
