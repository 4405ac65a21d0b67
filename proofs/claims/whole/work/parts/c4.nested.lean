/-! ===== what the constructors of the nested classes make ===== -/
def fmX2 (k : Nat) : Nat := if k < 1 then 19 else if k < 2 then 20 else 21
def ixX2 (i k : Nat) : Nat := if k < 1 then i else if k < 2 then i else i

set_option maxHeartbeats 4000000 in
set_option maxRecDepth 100000 in
theorem ctX2 (l : Launch) (E : XE) (i h : Nat) (hlay : ∀ k, k < 3 → E.2.2.1 (fmX2 k) (ixX2 i k) = h + k) : CT l yX2_init wsX2_init ({ frames := 1, cells := 2, slots := 32, locals := 12 }) E.1 E.2.1 AOX 2 [.null, .null] h (fun k => cX0 E (fmX2 k) (ixX2 i k)) 3 2 32 := by
  refine Met.ofW (cc := cX2_init) (maxL := 1) (ret := none) (by decide) rfl ?_
  intro p e s m args below meth c s₁ B hml hv
  obtain ⟨rfl, ⟨hsz, hP⟩, hK, hA⟩ := hv
  have hx := B.exec
  have hb := B.bytes
  have hr := B.returns
  have hts := atoms_spec (ws := wsX2_init) B.pre
  have hown : s.vm.findClass RX2 = some m.cls := findClass_of_methodNamed B.named
  have hlocks := B.notSynchronized
  have hin : meth.name = "<init>" := (name_of_methodNamed B.named B.method).1
  have hl := lv_entry ([.ref h]) (n := 1) (Nat.le_of_ble_eq_true rfl)
  rw [lg_entry_eq]
  generalize (lg_sl ([.ref h]) ++ List.replicate (1 - (lg_sl ([.ref h])).length) Slot.unset).toArray = ls at hl ⊢
  have hl : lv_has ls 1 [(0, .ref h)] := hl
  obtain ⟨locs, hlocs⟩ : ∃ q : List Loc, q = [] := ⟨_, rfl⟩
  have hc : CS E.1 h 1 (va_up (fun k => cX0 E (fmX2 k) (ixX2 i k)) 0 (.inr (2, [.null, .null]))) s.heap s.heap locs := ⟨hsz, fun k hk => by rw [show k = 0 by omega]; exact hP, fun _ _ => rfl, by rw [hlocs]; exact fun z hz => by cases hz⟩
  rw [← hlocs]
  clear hlocs
  refine lv_aload_n hx hb dX2_init_0 rfl (lv_at hl 0 rfl) ?_
  refine W.objInit hx hb hown (hts (.methodLink RX2 3 objectInit) (by decide +kernel)) (hts (.instanceMethod objectInit) (by decide +kernel)) (hts _ (List.mem_of_getElem? (i := 3) rfl)) rfl (by rw [hml]; exact hl.1) rfl dX2_init_1 (Nat.le_of_ble_eq_true rfl) (Nat.le_of_ble_eq_true rfl) ?_
  refine W.eq (g2 := F0 m 4 ls []) rfl ?_
  refine lv_aload_n hx hb dX2_init_4 rfl (lv_at hl 0 rfl) ?_
  refine lv_bipush (v := 16) hx hb dX2_init_5 (by decide) ?_
  refine cs_newaT (atype := .float) (ty := .float) (cA := E.2.1 1) (N' := 16) (a0 := (16, .inr (.inr (.inl (fun _ => 0))))) hx hb (hts (.arrayClass .float) (by decide +kernel)) rfl ((hK.2 1 (E.2.1 1, .float) rfl).2) hc rfl (fun _ => rfl) (by decide) (by decide) (Nat.le_of_ble_eq_true rfl) (Nat.le_of_ble_eq_true rfl) (Nat.le_of_ble_eq_true rfl) dX2_init_7 (fun H hc => ?_)
  have hc : CS E.1 h 2 (va_up (fun k => cX0 E (fmX2 k) (ixX2 i k)) 0 (.inr (2, [.null, .null]))) s.heap H locs := hc
  refine W.widen (k := 1) (n := 16) (by omega) (by omega) ?_
  refine cs_putF (D := E.1) (i := 0) (ci := 2) (v := .ref (h + 1)) (ty := .array .float) (C := RX2) (T := TX2) (N := 2) hx hb hts (by decide +kernel) tyX2 tyX2_ok nmX2 hown hK hc (by decide) rfl rfl 0 (by decide) (hts (.fieldLink RX2 9 "ColourHouse$Chip" "bands" "[F") (by decide +kernel)) (fun _ h9 => h9) rfl hin rfl (by decide +kernel) rfl rfl (Nat.le_of_ble_eq_true rfl) dX2_init_9 (fun H locs hc => ?_)
  rw [va_up_up] at hc
  have hc : CS E.1 h 2 (va_up (fun k => cX0 E (fmX2 k) (ixX2 i k)) 0 (.inr (2, [.ref (h + 1), .null]))) s.heap H locs := hc
  refine lv_aload_n hx hb dX2_init_12 rfl (lv_at hl 0 rfl) ?_
  refine lv_bipush (v := 16) hx hb dX2_init_13 (by decide) ?_
  refine cs_newaT (atype := .float) (ty := .float) (cA := E.2.1 1) (N' := 16) (a0 := (16, .inr (.inr (.inl (fun _ => 0))))) hx hb (hts (.arrayClass .float) (by decide +kernel)) rfl ((hK.2 1 (E.2.1 1, .float) rfl).2) hc rfl (fun _ => rfl) (by decide) (by decide) (Nat.le_of_ble_eq_true rfl) (Nat.le_of_ble_eq_true rfl) (Nat.le_of_ble_eq_true rfl) dX2_init_15 (fun H hc => ?_)
  have hc : CS E.1 h 3 (va_up (fun k => cX0 E (fmX2 k) (ixX2 i k)) 0 (.inr (2, [.ref (h + 1), .null]))) s.heap H locs := hc
  refine W.widen (k := 2) (n := 32) (by omega) (by omega) ?_
  refine cs_putF (D := E.1) (i := 0) (ci := 2) (v := .ref (h + 2)) (ty := .array .float) (C := RX2) (T := TX2) (N := 2) hx hb hts (by decide +kernel) tyX2 tyX2_ok nmX2 hown hK hc (by decide) rfl rfl 1 (by decide) (hts (.fieldLink RX2 15 "ColourHouse$Chip" "moved" "[F") (by decide +kernel)) (fun _ h9 => h9) rfl hin rfl (by decide +kernel) rfl rfl (Nat.le_of_ble_eq_true rfl) dX2_init_17 (fun H locs hc => ?_)
  rw [va_up_up] at hc
  have hc : CS E.1 h 3 (va_up (fun k => cX0 E (fmX2 k) (ixX2 i k)) 0 (.inr (2, [.ref (h + 1), .ref (h + 2)]))) s.heap H locs := hc
  have hfin : cX0 E (fmX2 0) (ixX2 i 0) = .inr (2, [.ref (h + 1), .ref (h + 2)]) := by
    show cX0 E 19 i = _
    unfold cX0 cellX
    dsimp only
    rw [show E.2.2.1 20 i = h + 1 from hlay 1 (by decide), show E.2.2.1 21 i = h + 2 from hlay 2 (by decide)]
    rfl
  rw [va_up_id hfin] at hc
  exact W.vret hx hb hr (fun t ht hW => ⟨⟨(), rfl, trivial, by rw [ht]; exact hc.1, fun k hk => by rw [ht]; exact hc.2.1 k hk⟩, by rw [ht, hc.1, hsz]; omega, fun q h1 h2 => by rw [ht]; exact hc.2.2.1 q (by omega)⟩) (fun z hz => hc.2.2.2 z hz) dX2_init_20 hlocks
def fmX4 (k : Nat) : Nat := 29
def ixX4 (i k : Nat) : Nat := i

set_option maxHeartbeats 4000000 in
set_option maxRecDepth 100000 in
theorem ctX4 (l : Launch) (E : XE) (i h : Nat) (hlay : ∀ k, k < 1 → E.2.2.1 (fmX4 k) (ixX4 i k) = h + k) : CT l yX4_init wsX4_init ({ frames := 1, cells := 0, slots := 0, locals := 12 }) E.1 E.2.1 AOX 4 [.int 0, .int 0, .int 0, .int 0, .int 0] h (fun k => cX0 E (fmX4 k) (ixX4 i k)) 1 0 0 := by
  refine Met.ofW (cc := cX4_init) (maxL := 1) (ret := none) (by decide) rfl ?_
  intro p e s m args below meth c s₁ B hml hv
  obtain ⟨rfl, ⟨hsz, hP⟩, hK, hA⟩ := hv
  have hx := B.exec
  have hb := B.bytes
  have hr := B.returns
  have hts := atoms_spec (ws := wsX4_init) B.pre
  have hown : s.vm.findClass RX4 = some m.cls := findClass_of_methodNamed B.named
  have hlocks := B.notSynchronized
  have hin : meth.name = "<init>" := (name_of_methodNamed B.named B.method).1
  have hl := lv_entry ([.ref h]) (n := 1) (Nat.le_of_ble_eq_true rfl)
  rw [lg_entry_eq]
  generalize (lg_sl ([.ref h]) ++ List.replicate (1 - (lg_sl ([.ref h])).length) Slot.unset).toArray = ls at hl ⊢
  have hl : lv_has ls 1 [(0, .ref h)] := hl
  obtain ⟨locs, hlocs⟩ : ∃ q : List Loc, q = [] := ⟨_, rfl⟩
  have hc : CS E.1 h 1 (va_up (fun k => cX0 E (fmX4 k) (ixX4 i k)) 0 (.inr (4, [.int 0, .int 0, .int 0, .int 0, .int 0]))) s.heap s.heap locs := ⟨hsz, fun k hk => by rw [show k = 0 by omega]; exact hP, fun _ _ => rfl, by rw [hlocs]; exact fun z hz => by cases hz⟩
  rw [← hlocs]
  clear hlocs
  refine lv_aload_n hx hb dX4_init_0 rfl (lv_at hl 0 rfl) ?_
  refine W.objInit hx hb hown (hts (.methodLink RX4 1 objectInit) (by decide +kernel)) (hts (.instanceMethod objectInit) (by decide +kernel)) (hts _ (List.mem_of_getElem? (i := 3) rfl)) rfl (by rw [hml]; exact hl.1) rfl dX4_init_1 (Nat.le_of_ble_eq_true rfl) (Nat.le_of_ble_eq_true rfl) ?_
  refine W.eq (g2 := F0 m 4 ls []) rfl ?_
  refine lv_aload_n hx hb dX4_init_4 rfl (lv_at hl 0 rfl) ?_
  refine lv_iconst (v := 0) hx hb dX4_init_5 (by decide) ?_
  refine cs_put (D := E.1) (i := 0) (ci := 4) (v := .int 0) (ty := .int) (C := RX4) (T := TX4) (N := 5) hx hb hts (by decide +kernel) tyX4 tyX4_ok nmX4 hown hK hc (by decide) rfl rfl 0 (by decide) (hts (.fieldLink RX4 7 "ColourHouse$Lot" "dye" "I") (by decide +kernel)) (fun _ h9 => h9) rfl (by decide +kernel) rfl rfl (Nat.le_of_ble_eq_true rfl) dX4_init_6 (fun H locs hc => ?_)
  rw [va_up_up] at hc
  have hc : CS E.1 h 1 (va_up (fun k => cX0 E (fmX4 k) (ixX4 i k)) 0 (.inr (4, [.int 0, .int 0, .int 0, .int 0, .int 0]))) s.heap H locs := hc
  refine lv_aload_n hx hb dX4_init_9 rfl (lv_at hl 0 rfl) ?_
  refine lv_iconst (v := 1) hx hb dX4_init_10 (by decide) ?_
  refine cs_put (D := E.1) (i := 0) (ci := 4) (v := .int 1) (ty := .int) (C := RX4) (T := TX4) (N := 5) hx hb hts (by decide +kernel) tyX4 tyX4_ok nmX4 hown hK hc (by decide) rfl rfl 1 (by decide) (hts (.fieldLink RX4 13 "ColourHouse$Lot" "up" "I") (by decide +kernel)) (fun _ h9 => h9) rfl (by decide +kernel) rfl rfl (Nat.le_of_ble_eq_true rfl) dX4_init_11 (fun H locs hc => ?_)
  rw [va_up_up] at hc
  have hc : CS E.1 h 1 (va_up (fun k => cX0 E (fmX4 k) (ixX4 i k)) 0 (.inr (4, [.int 0, .int 1, .int 0, .int 0, .int 0]))) s.heap H locs := hc
  refine lv_aload_n hx hb dX4_init_14 rfl (lv_at hl 0 rfl) ?_
  refine lv_iconst (v := 1) hx hb dX4_init_15 (by decide) ?_
  refine cs_put (D := E.1) (i := 0) (ci := 4) (v := .int 1) (ty := .int) (C := RX4) (T := TX4) (N := 5) hx hb hts (by decide +kernel) tyX4 tyX4_ok nmX4 hown hK hc (by decide) rfl rfl 2 (by decide) (hts (.fieldLink RX4 16 "ColourHouse$Lot" "down" "I") (by decide +kernel)) (fun _ h9 => h9) rfl (by decide +kernel) rfl rfl (Nat.le_of_ble_eq_true rfl) dX4_init_16 (fun H locs hc => ?_)
  rw [va_up_up] at hc
  have hc : CS E.1 h 1 (va_up (fun k => cX0 E (fmX4 k) (ixX4 i k)) 0 (.inr (4, [.int 0, .int 1, .int 1, .int 0, .int 0]))) s.heap H locs := hc
  refine lv_aload_n hx hb dX4_init_19 rfl (lv_at hl 0 rfl) ?_
  refine lv_iconst (v := 0) hx hb dX4_init_20 (by decide) ?_
  refine cs_put (D := E.1) (i := 0) (ci := 4) (v := .int 0) (ty := .int) (C := RX4) (T := TX4) (N := 5) hx hb hts (by decide +kernel) tyX4 tyX4_ok nmX4 hown hK hc (by decide) rfl rfl 3 (by decide) (hts (.fieldLink RX4 19 "ColourHouse$Lot" "cameIn" "I") (by decide +kernel)) (fun _ h9 => h9) rfl (by decide +kernel) rfl rfl (Nat.le_of_ble_eq_true rfl) dX4_init_21 (fun H locs hc => ?_)
  rw [va_up_up] at hc
  have hc : CS E.1 h 1 (va_up (fun k => cX0 E (fmX4 k) (ixX4 i k)) 0 (.inr (4, [.int 0, .int 1, .int 1, .int 0, .int 0]))) s.heap H locs := hc
  refine lv_aload_n hx hb dX4_init_24 rfl (lv_at hl 0 rfl) ?_
  refine lv_iconst (v := 0) hx hb dX4_init_25 (by decide) ?_
  refine cs_put (D := E.1) (i := 0) (ci := 4) (v := .int 0) (ty := .int) (C := RX4) (T := TX4) (N := 5) hx hb hts (by decide +kernel) tyX4 tyX4_ok nmX4 hown hK hc (by decide) rfl rfl 4 (by decide) (hts (.fieldLink RX4 22 "ColourHouse$Lot" "left" "I") (by decide +kernel)) (fun _ h9 => h9) rfl (by decide +kernel) rfl rfl (Nat.le_of_ble_eq_true rfl) dX4_init_26 (fun H locs hc => ?_)
  rw [va_up_up] at hc
  have hc : CS E.1 h 1 (va_up (fun k => cX0 E (fmX4 k) (ixX4 i k)) 0 (.inr (4, [.int 0, .int 1, .int 1, .int 0, .int 0]))) s.heap H locs := hc
  have hfin : cX0 E (fmX4 0) (ixX4 i 0) = .inr (4, [.int 0, .int 1, .int 1, .int 0, .int 0]) := by
    show cX0 E 29 i = _
    unfold cX0 cellX
    dsimp only
    rfl
  rw [va_up_id hfin] at hc
  exact W.vret hx hb hr (fun t ht hW => ⟨⟨(), rfl, trivial, by rw [ht]; exact hc.1, fun k hk => by rw [ht]; exact hc.2.1 k hk⟩, by rw [ht, hc.1, hsz]; omega, fun q h1 h2 => by rw [ht]; exact hc.2.2.1 q (by omega)⟩) (fun z hz => hc.2.2.2 z hz) dX4_init_29 hlocks
def fmX9 (k : Nat) : Nat := if k < 1 then 13 else if k < 2 then 34 else if k < 8 then 35 else if k < 9 then 36 else if k < 15 then 37 else if k < 16 then 38 else if k < 19 then 39 else if k < 20 then 40 else if k < 21 then 41 else 42
def ixX9 (i k : Nat) : Nat := if k < 1 then 0 else if k < 2 then 0 else if k < 8 then k - 2 else if k < 9 then 0 else if k < 15 then k - 9 else if k < 16 then 0 else if k < 19 then k - 16 else if k < 20 then 0 else if k < 21 then 0 else 0

set_option maxHeartbeats 4000000 in
set_option maxRecDepth 100000 in
theorem ctX9 (l : Launch) (E : XE) (i h : Nat) (hlay : ∀ k, k < 22 → E.2.2.1 (fmX9 k) (ixX9 i k) = h + k) : CT l yX9_init wsX9_init ({ frames := 1, cells := 21, slots := 264, locals := 12 }) E.1 E.2.1 AOX 8 [.null, .null, .double 0, .double 0, .double 0, .null, .null, .null, .null] h (fun k => cX0 E (fmX9 k) (ixX9 i k)) 22 21 264 := by
  refine Met.ofW (cc := cX9_init) (maxL := 1) (ret := none) (by decide) rfl ?_
  intro p e s m args below meth c s₁ B hml hv
  obtain ⟨rfl, ⟨hsz, hP⟩, hK, hA⟩ := hv
  have hx := B.exec
  have hb := B.bytes
  have hr := B.returns
  have hts := atoms_spec (ws := wsX9_init) B.pre
  have hown : s.vm.findClass RX9 = some m.cls := findClass_of_methodNamed B.named
  have hlocks := B.notSynchronized
  have hin : meth.name = "<init>" := (name_of_methodNamed B.named B.method).1
  have hl := lv_entry ([.ref h]) (n := 1) (Nat.le_of_ble_eq_true rfl)
  rw [lg_entry_eq]
  generalize (lg_sl ([.ref h]) ++ List.replicate (1 - (lg_sl ([.ref h])).length) Slot.unset).toArray = ls at hl ⊢
  have hl : lv_has ls 1 [(0, .ref h)] := hl
  obtain ⟨locs, hlocs⟩ : ∃ q : List Loc, q = [] := ⟨_, rfl⟩
  have hc : CS E.1 h 1 (va_up (fun k => cX0 E (fmX9 k) (ixX9 i k)) 0 (.inr (8, [.null, .null, .double 0, .double 0, .double 0, .null, .null, .null, .null]))) s.heap s.heap locs := ⟨hsz, fun k hk => by rw [show k = 0 by omega]; exact hP, fun _ _ => rfl, by rw [hlocs]; exact fun z hz => by cases hz⟩
  rw [← hlocs]
  clear hlocs
  refine lv_aload_n hx hb dX9_init_0 rfl (lv_at hl 0 rfl) ?_
  refine W.objInit hx hb hown (hts (.methodLink RX9 3 objectInit) (by decide +kernel)) (hts (.instanceMethod objectInit) (by decide +kernel)) (hts _ (List.mem_of_getElem? (i := 3) rfl)) rfl (by rw [hml]; exact hl.1) rfl dX9_init_1 (Nat.le_of_ble_eq_true rfl) (Nat.le_of_ble_eq_true rfl) ?_
  refine W.eq (g2 := F0 m 4 ls []) rfl ?_
  refine lv_aload_n hx hb dX9_init_4 rfl (lv_at hl 0 rfl) ?_
  refine lv_bipush (v := 6) hx hb dX9_init_5 (by decide) ?_
  refine lv_bipush (v := 16) hx hb dX9_init_7 (by decide) ?_
  refine cs_mnaT (ty := .int) (cy := E.2.1 0) (cA := E.2.1 3) (N' := 6) (K' := 16) (z := (16, .inl (fun _ => 0))) hx hb hown (hts (.classLink RX9 9 ("[" ++ (FieldType.array .int).toString)) (by decide +kernel)) hA.1 (hts (.arrayClass .int) (by decide +kernel)) ((hK.2 0 (E.2.1 0, .int) rfl).2) ((hK.2 3 (E.2.1 3, .array .int) rfl).2) hc rfl (fun j hj => ?_) (fun j hj => ?_) (by decide) (by decide) (by decide) (by decide) (Nat.le_of_ble_eq_true rfl) (Nat.le_of_ble_eq_true rfl) (Nat.le_of_ble_eq_true rfl) rfl rfl (Nat.le_of_ble_eq_true rfl) (Nat.le_of_ble_eq_true rfl) (fun c9 => by rw [show Jvm.Free.Multi.innerC c9 16 (defaultValue .int) = ({ cls := c9, slots := Array.replicate 16 (defaultValue .int), vm := .none } : Cell) from rfl, arrV_new]; rfl) dX9_init_9 (fun H hc => ?_)
  · have q1 : fmX9 (2 + j) = 35 := by unfold fmX9; repeat (first | rw [if_pos (by omega)] | rw [if_neg (by omega)])
    have q2 : ixX9 i (2 + j) = j := by unfold ixX9; repeat (first | rw [if_pos (by omega)] | rw [if_neg (by omega)])
                                                       try omega
    have q3 := hlay (2 + j) (by omega)
    rw [q1, q2] at q3
    show some (E.2.2.1 35 (j)) = _
    rw [q3, Nat.add_assoc, Nat.add_assoc]
  · have q1 : fmX9 (2 + j) = 35 := by unfold fmX9; repeat (first | rw [if_pos (by omega)] | rw [if_neg (by omega)])
    rw [show 1 + 1 + j = 2 + j from rfl, va_up_ne _ _ (by omega), q1]
    rfl
  have hc : CS E.1 h 8 (va_up (fun k => cX0 E (fmX9 k) (ixX9 i k)) 0 (.inr (8, [.null, .null, .double 0, .double 0, .double 0, .null, .null, .null, .null]))) s.heap H locs := hc
  refine W.widen (k := 7) (n := 102) (by omega) (by omega) ?_
  refine cs_putF (D := E.1) (i := 0) (ci := 8) (v := .ref (h + 1)) (ty := .array (.array .int)) (C := RX9) (T := TX9) (N := 9) hx hb hts (by decide +kernel) tyX9 tyX9_ok nmX9 hown hK hc (by decide) rfl rfl 0 (by decide) (hts (.fieldLink RX9 11 "ColourHouse$Sight" "lights" "[[I") (by decide +kernel)) (fun _ h9 => h9) rfl hin rfl (by decide +kernel) rfl rfl (Nat.le_of_ble_eq_true rfl) dX9_init_13 (fun H locs hc => ?_)
  rw [va_up_up] at hc
  have hc : CS E.1 h 8 (va_up (fun k => cX0 E (fmX9 k) (ixX9 i k)) 0 (.inr (8, [.ref (h + 1), .null, .double 0, .double 0, .double 0, .null, .null, .null, .null]))) s.heap H locs := hc
  refine lv_aload_n hx hb dX9_init_16 rfl (lv_at hl 0 rfl) ?_
  refine lv_bipush (v := 6) hx hb dX9_init_17 (by decide) ?_
  refine lv_bipush (v := 16) hx hb dX9_init_19 (by decide) ?_
  refine cs_mnaT (ty := .int) (cy := E.2.1 0) (cA := E.2.1 3) (N' := 6) (K' := 16) (z := (16, .inl (fun _ => 0))) hx hb hown (hts (.classLink RX9 9 ("[" ++ (FieldType.array .int).toString)) (by decide +kernel)) hA.1 (hts (.arrayClass .int) (by decide +kernel)) ((hK.2 0 (E.2.1 0, .int) rfl).2) ((hK.2 3 (E.2.1 3, .array .int) rfl).2) hc rfl (fun j hj => ?_) (fun j hj => ?_) (by decide) (by decide) (by decide) (by decide) (Nat.le_of_ble_eq_true rfl) (Nat.le_of_ble_eq_true rfl) (Nat.le_of_ble_eq_true rfl) rfl rfl (Nat.le_of_ble_eq_true rfl) (Nat.le_of_ble_eq_true rfl) (fun c9 => by rw [show Jvm.Free.Multi.innerC c9 16 (defaultValue .int) = ({ cls := c9, slots := Array.replicate 16 (defaultValue .int), vm := .none } : Cell) from rfl, arrV_new]; rfl) dX9_init_21 (fun H hc => ?_)
  · have q1 : fmX9 (9 + j) = 37 := by unfold fmX9; repeat (first | rw [if_pos (by omega)] | rw [if_neg (by omega)])
    have q2 : ixX9 i (9 + j) = j := by unfold ixX9; repeat (first | rw [if_pos (by omega)] | rw [if_neg (by omega)])
                                                       try omega
    have q3 := hlay (9 + j) (by omega)
    rw [q1, q2] at q3
    show some (E.2.2.1 37 (j)) = _
    rw [q3, Nat.add_assoc, Nat.add_assoc]
  · have q1 : fmX9 (9 + j) = 37 := by unfold fmX9; repeat (first | rw [if_pos (by omega)] | rw [if_neg (by omega)])
    rw [show 8 + 1 + j = 9 + j from rfl, va_up_ne _ _ (by omega), q1]
    rfl
  have hc : CS E.1 h 15 (va_up (fun k => cX0 E (fmX9 k) (ixX9 i k)) 0 (.inr (8, [.ref (h + 1), .null, .double 0, .double 0, .double 0, .null, .null, .null, .null]))) s.heap H locs := hc
  refine W.widen (k := 14) (n := 204) (by omega) (by omega) ?_
  refine cs_putF (D := E.1) (i := 0) (ci := 8) (v := .ref (h + 8)) (ty := .array (.array .int)) (C := RX9) (T := TX9) (N := 9) hx hb hts (by decide +kernel) tyX9 tyX9_ok nmX9 hown hK hc (by decide) rfl rfl 1 (by decide) (hts (.fieldLink RX9 16 "ColourHouse$Sight" "eyes" "[[I") (by decide +kernel)) (fun _ h9 => h9) rfl hin rfl (by decide +kernel) rfl rfl (Nat.le_of_ble_eq_true rfl) dX9_init_25 (fun H locs hc => ?_)
  rw [va_up_up] at hc
  have hc : CS E.1 h 15 (va_up (fun k => cX0 E (fmX9 k) (ixX9 i k)) 0 (.inr (8, [.ref (h + 1), .ref (h + 8), .double 0, .double 0, .double 0, .null, .null, .null, .null]))) s.heap H locs := hc
  refine lv_aload_n hx hb dX9_init_28 rfl (lv_at hl 0 rfl) ?_
  refine lv_dconst1 hx hb dX9_init_29 ?_
  refine cs_put (D := E.1) (i := 0) (ci := 8) (v := .double FP.dconst1) (ty := .double) (C := RX9) (T := TX9) (N := 9) hx hb hts (by decide +kernel) tyX9 tyX9_ok nmX9 hown hK hc (by decide) rfl rfl 2 (by decide) (hts (.fieldLink RX9 19 "ColourHouse$Sight" "a" "D") (by decide +kernel)) (fun _ h9 => h9) rfl (by decide +kernel) rfl rfl (Nat.le_of_ble_eq_true rfl) dX9_init_30 (fun H locs hc => ?_)
  rw [va_up_up] at hc
  have hc : CS E.1 h 15 (va_up (fun k => cX0 E (fmX9 k) (ixX9 i k)) 0 (.inr (8, [.ref (h + 1), .ref (h + 8), .double FP.dconst1, .double 0, .double 0, .null, .null, .null, .null]))) s.heap H locs := hc
  refine lv_aload_n hx hb dX9_init_33 rfl (lv_at hl 0 rfl) ?_
  refine lv_dconst1 hx hb dX9_init_34 ?_
  refine cs_put (D := E.1) (i := 0) (ci := 8) (v := .double FP.dconst1) (ty := .double) (C := RX9) (T := TX9) (N := 9) hx hb hts (by decide +kernel) tyX9 tyX9_ok nmX9 hown hK hc (by decide) rfl rfl 3 (by decide) (hts (.fieldLink RX9 23 "ColourHouse$Sight" "b" "D") (by decide +kernel)) (fun _ h9 => h9) rfl (by decide +kernel) rfl rfl (Nat.le_of_ble_eq_true rfl) dX9_init_35 (fun H locs hc => ?_)
  rw [va_up_up] at hc
  have hc : CS E.1 h 15 (va_up (fun k => cX0 E (fmX9 k) (ixX9 i k)) 0 (.inr (8, [.ref (h + 1), .ref (h + 8), .double FP.dconst1, .double FP.dconst1, .double 0, .null, .null, .null, .null]))) s.heap H locs := hc
  refine lv_aload_n hx hb dX9_init_38 rfl (lv_at hl 0 rfl) ?_
  refine lv_dconst1 hx hb dX9_init_39 ?_
  refine cs_put (D := E.1) (i := 0) (ci := 8) (v := .double FP.dconst1) (ty := .double) (C := RX9) (T := TX9) (N := 9) hx hb hts (by decide +kernel) tyX9 tyX9_ok nmX9 hown hK hc (by decide) rfl rfl 4 (by decide) (hts (.fieldLink RX9 26 "ColourHouse$Sight" "c" "D") (by decide +kernel)) (fun _ h9 => h9) rfl (by decide +kernel) rfl rfl (Nat.le_of_ble_eq_true rfl) dX9_init_40 (fun H locs hc => ?_)
  rw [va_up_up] at hc
  have hc : CS E.1 h 15 (va_up (fun k => cX0 E (fmX9 k) (ixX9 i k)) 0 (.inr (8, [.ref (h + 1), .ref (h + 8), .double FP.dconst1, .double FP.dconst1, .double FP.dconst1, .null, .null, .null, .null]))) s.heap H locs := hc
  refine lv_aload_n hx hb dX9_init_43 rfl (lv_at hl 0 rfl) ?_
  refine lv_iconst (v := 3) hx hb dX9_init_44 (by decide) ?_
  refine lv_bipush (v := 16) hx hb dX9_init_45 (by decide) ?_
  refine cs_mnaT (ty := .double) (cy := E.2.1 2) (cA := E.2.1 5) (N' := 3) (K' := 16) (z := (16, .inr (.inr (.inr (.inl (fun _ => 0)))))) hx hb hown (hts (.classLink RX9 29 ("[" ++ (FieldType.array .double).toString)) (by decide +kernel)) hA.2.2.1 (hts (.arrayClass .double) (by decide +kernel)) ((hK.2 2 (E.2.1 2, .double) rfl).2) ((hK.2 5 (E.2.1 5, .array .double) rfl).2) hc rfl (fun j hj => ?_) (fun j hj => ?_) (by decide) (by decide) (by decide) (by decide) (Nat.le_of_ble_eq_true rfl) (Nat.le_of_ble_eq_true rfl) (Nat.le_of_ble_eq_true rfl) rfl rfl (Nat.le_of_ble_eq_true rfl) (Nat.le_of_ble_eq_true rfl) (fun c9 => by rw [show Jvm.Free.Multi.innerC c9 16 (defaultValue .double) = ({ cls := c9, slots := Array.replicate 16 (defaultValue .double), vm := .none } : Cell) from rfl, arrV_new]; rfl) dX9_init_47 (fun H hc => ?_)
  · have q1 : fmX9 (16 + j) = 39 := by unfold fmX9; repeat (first | rw [if_pos (by omega)] | rw [if_neg (by omega)])
    have q2 : ixX9 i (16 + j) = j := by unfold ixX9; repeat (first | rw [if_pos (by omega)] | rw [if_neg (by omega)])
                                                       try omega
    have q3 := hlay (16 + j) (by omega)
    rw [q1, q2] at q3
    show some (E.2.2.1 39 (j)) = _
    rw [q3, Nat.add_assoc, Nat.add_assoc]
  · have q1 : fmX9 (16 + j) = 39 := by unfold fmX9; repeat (first | rw [if_pos (by omega)] | rw [if_neg (by omega)])
    rw [show 15 + 1 + j = 16 + j from rfl, va_up_ne _ _ (by omega), q1]
    rfl
  have hc : CS E.1 h 19 (va_up (fun k => cX0 E (fmX9 k) (ixX9 i k)) 0 (.inr (8, [.ref (h + 1), .ref (h + 8), .double FP.dconst1, .double FP.dconst1, .double FP.dconst1, .null, .null, .null, .null]))) s.heap H locs := hc
  refine W.widen (k := 18) (n := 255) (by omega) (by omega) ?_
  refine cs_putF (D := E.1) (i := 0) (ci := 8) (v := .ref (h + 15)) (ty := .array (.array .double)) (C := RX9) (T := TX9) (N := 9) hx hb hts (by decide +kernel) tyX9 tyX9_ok nmX9 hown hK hc (by decide) rfl rfl 5 (by decide) (hts (.fieldLink RX9 31 "ColourHouse$Sight" "weights" "[[D") (by decide +kernel)) (fun _ h9 => h9) rfl hin rfl (by decide +kernel) rfl rfl (Nat.le_of_ble_eq_true rfl) dX9_init_51 (fun H locs hc => ?_)
  rw [va_up_up] at hc
  have hc : CS E.1 h 19 (va_up (fun k => cX0 E (fmX9 k) (ixX9 i k)) 0 (.inr (8, [.ref (h + 1), .ref (h + 8), .double FP.dconst1, .double FP.dconst1, .double FP.dconst1, .ref (h + 15), .null, .null, .null]))) s.heap H locs := hc
  refine lv_aload_n hx hb dX9_init_54 rfl (lv_at hl 0 rfl) ?_
  refine lv_iconst (v := 3) hx hb dX9_init_55 (by decide) ?_
  refine cs_newaT (atype := .double) (ty := .double) (cA := E.2.1 2) (N' := 3) (a0 := (3, .inr (.inr (.inr (.inl (fun _ => 0)))))) hx hb (hts (.arrayClass .double) (by decide +kernel)) rfl ((hK.2 2 (E.2.1 2, .double) rfl).2) hc rfl (fun _ => rfl) (by decide) (by decide) (Nat.le_of_ble_eq_true rfl) (Nat.le_of_ble_eq_true rfl) (Nat.le_of_ble_eq_true rfl) dX9_init_56 (fun H hc => ?_)
  have hc : CS E.1 h 20 (va_up (fun k => cX0 E (fmX9 k) (ixX9 i k)) 0 (.inr (8, [.ref (h + 1), .ref (h + 8), .double FP.dconst1, .double FP.dconst1, .double FP.dconst1, .ref (h + 15), .null, .null, .null]))) s.heap H locs := hc
  refine W.widen (k := 19) (n := 258) (by omega) (by omega) ?_
  refine cs_putF (D := E.1) (i := 0) (ci := 8) (v := .ref (h + 19)) (ty := .array .double) (C := RX9) (T := TX9) (N := 9) hx hb hts (by decide +kernel) tyX9 tyX9_ok nmX9 hown hK hc (by decide) rfl rfl 6 (by decide) (hts (.fieldLink RX9 34 "ColourHouse$Sight" "totals" "[D") (by decide +kernel)) (fun _ h9 => h9) rfl hin rfl (by decide +kernel) rfl rfl (Nat.le_of_ble_eq_true rfl) dX9_init_58 (fun H locs hc => ?_)
  rw [va_up_up] at hc
  have hc : CS E.1 h 20 (va_up (fun k => cX0 E (fmX9 k) (ixX9 i k)) 0 (.inr (8, [.ref (h + 1), .ref (h + 8), .double FP.dconst1, .double FP.dconst1, .double FP.dconst1, .ref (h + 15), .ref (h + 19), .null, .null]))) s.heap H locs := hc
  refine lv_aload_n hx hb dX9_init_61 rfl (lv_at hl 0 rfl) ?_
  refine lv_iconst (v := 3) hx hb dX9_init_62 (by decide) ?_
  refine cs_newaT (atype := .double) (ty := .double) (cA := E.2.1 2) (N' := 3) (a0 := (3, .inr (.inr (.inr (.inl (fun _ => 0)))))) hx hb (hts (.arrayClass .double) (by decide +kernel)) rfl ((hK.2 2 (E.2.1 2, .double) rfl).2) hc rfl (fun _ => rfl) (by decide) (by decide) (Nat.le_of_ble_eq_true rfl) (Nat.le_of_ble_eq_true rfl) (Nat.le_of_ble_eq_true rfl) dX9_init_63 (fun H hc => ?_)
  have hc : CS E.1 h 21 (va_up (fun k => cX0 E (fmX9 k) (ixX9 i k)) 0 (.inr (8, [.ref (h + 1), .ref (h + 8), .double FP.dconst1, .double FP.dconst1, .double FP.dconst1, .ref (h + 15), .ref (h + 19), .null, .null]))) s.heap H locs := hc
  refine W.widen (k := 20) (n := 261) (by omega) (by omega) ?_
  refine cs_putF (D := E.1) (i := 0) (ci := 8) (v := .ref (h + 20)) (ty := .array .double) (C := RX9) (T := TX9) (N := 9) hx hb hts (by decide +kernel) tyX9 tyX9_ok nmX9 hown hK hc (by decide) rfl rfl 7 (by decide) (hts (.fieldLink RX9 38 "ColourHouse$Sight" "goal" "[D") (by decide +kernel)) (fun _ h9 => h9) rfl hin rfl (by decide +kernel) rfl rfl (Nat.le_of_ble_eq_true rfl) dX9_init_65 (fun H locs hc => ?_)
  rw [va_up_up] at hc
  have hc : CS E.1 h 21 (va_up (fun k => cX0 E (fmX9 k) (ixX9 i k)) 0 (.inr (8, [.ref (h + 1), .ref (h + 8), .double FP.dconst1, .double FP.dconst1, .double FP.dconst1, .ref (h + 15), .ref (h + 19), .ref (h + 20), .null]))) s.heap H locs := hc
  refine lv_aload_n hx hb dX9_init_68 rfl (lv_at hl 0 rfl) ?_
  refine lv_iconst (v := 3) hx hb dX9_init_69 (by decide) ?_
  refine cs_newaT (atype := .double) (ty := .double) (cA := E.2.1 2) (N' := 3) (a0 := (3, .inr (.inr (.inr (.inl (fun _ => 0)))))) hx hb (hts (.arrayClass .double) (by decide +kernel)) rfl ((hK.2 2 (E.2.1 2, .double) rfl).2) hc rfl (fun _ => rfl) (by decide) (by decide) (Nat.le_of_ble_eq_true rfl) (Nat.le_of_ble_eq_true rfl) (Nat.le_of_ble_eq_true rfl) dX9_init_70 (fun H hc => ?_)
  have hc : CS E.1 h 22 (va_up (fun k => cX0 E (fmX9 k) (ixX9 i k)) 0 (.inr (8, [.ref (h + 1), .ref (h + 8), .double FP.dconst1, .double FP.dconst1, .double FP.dconst1, .ref (h + 15), .ref (h + 19), .ref (h + 20), .null]))) s.heap H locs := hc
  refine W.widen (k := 21) (n := 264) (by omega) (by omega) ?_
  refine cs_putF (D := E.1) (i := 0) (ci := 8) (v := .ref (h + 21)) (ty := .array .double) (C := RX9) (T := TX9) (N := 9) hx hb hts (by decide +kernel) tyX9 tyX9_ok nmX9 hown hK hc (by decide) rfl rfl 8 (by decide) (hts (.fieldLink RX9 41 "ColourHouse$Sight" "seen" "[D") (by decide +kernel)) (fun _ h9 => h9) rfl hin rfl (by decide +kernel) rfl rfl (Nat.le_of_ble_eq_true rfl) dX9_init_72 (fun H locs hc => ?_)
  rw [va_up_up] at hc
  have hc : CS E.1 h 22 (va_up (fun k => cX0 E (fmX9 k) (ixX9 i k)) 0 (.inr (8, [.ref (h + 1), .ref (h + 8), .double FP.dconst1, .double FP.dconst1, .double FP.dconst1, .ref (h + 15), .ref (h + 19), .ref (h + 20), .ref (h + 21)]))) s.heap H locs := hc
  have hfin : cX0 E (fmX9 0) (ixX9 i 0) = .inr (8, [.ref (h + 1), .ref (h + 8), .double FP.dconst1, .double FP.dconst1, .double FP.dconst1, .ref (h + 15), .ref (h + 19), .ref (h + 20), .ref (h + 21)]) := by
    show cX0 E 13 0 = _
    unfold cX0 cellX
    dsimp only
    rw [show E.2.2.1 34 0 = h + 1 from hlay 1 (by decide), show E.2.2.1 36 0 = h + 8 from hlay 8 (by decide), show E.2.2.1 38 0 = h + 15 from hlay 15 (by decide), show E.2.2.1 40 0 = h + 19 from hlay 19 (by decide), show E.2.2.1 41 0 = h + 20 from hlay 20 (by decide), show E.2.2.1 42 0 = h + 21 from hlay 21 (by decide)]
    rfl
  rw [va_up_id hfin] at hc
  exact W.vret hx hb hr (fun t ht hW => ⟨⟨(), rfl, trivial, by rw [ht]; exact hc.1, fun k hk => by rw [ht]; exact hc.2.1 k hk⟩, by rw [ht, hc.1, hsz]; omega, fun q h1 h2 => by rw [ht]; exact hc.2.2.1 q (by omega)⟩) (fun z hz => hc.2.2.2 z hz) dX9_init_75 hlocks

