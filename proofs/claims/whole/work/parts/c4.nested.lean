/-! ===== what the constructors of the nested classes make ===== -/
def fmX2 (k : Nat) : Nat := if k < 1 then 19 else if k < 2 then 20 else 21
def ixX2 (i k : Nat) : Nat := if k < 1 then i else if k < 2 then i else i

set_option maxHeartbeats 4000000 in
set_option maxRecDepth 100000 in
theorem ctX2 (l : Launch) (E : XE) (i h : Nat) (hlay : ∀ k, k < 3 → E.2.2.1 (fmX2 k) (ixX2 i k) = h + k) : CT l yX2_init wsX2_init ({ frames := 1, cells := 2, slots := 32, locals := 12 }) E.1 E.2.1 AOX 2 [.null, .null] h (fun k => cX0 E (fmX2 k) (ixX2 i k)) 3 2 32 := by
  refine Met.ofW (cc := cX2_init) (maxL := 1) (ret := none) (by decide) rfl ?_
  intro p e s m args below meth c s₁ B hml hv
  obtain ⟨rfl, ⟨hsz, hP⟩, hK, hA⟩ := hv
  have hx := B.exec
  have hb := B.bytes
  have hr := B.returns
  have hts := atoms_spec (ws := wsX2_init) B.pre
  have hown : s.vm.findClass RX2 = some m.cls := findClass_of_methodNamed B.named
  have hlocks := B.notSynchronized
  have hin : meth.name = "<init>" := (name_of_methodNamed B.named B.method).1
  have hl := lv_entry ([.ref h]) (n := 1) (Nat.le_of_ble_eq_true rfl)
  rw [lg_entry_eq]
  generalize (lg_sl ([.ref h]) ++ List.replicate (1 - (lg_sl ([.ref h])).length) Slot.unset).toArray = ls at hl ⊢
  have hl : lv_has ls 1 [(0, .ref h)] := hl
  obtain ⟨locs, hlocs⟩ : ∃ q : List Loc, q = [] := ⟨_, rfl⟩
  have hc : CS E.1 h 1 (va_up (fun k => cX0 E (fmX2 k) (ixX2 i k)) 0 (.inr (2, [.null, .null]))) s.heap s.heap locs := ⟨hsz, fun k hk => by rw [show k = 0 by omega]; exact hP, fun _ _ => rfl, by rw [hlocs]; exact fun z hz => by cases hz⟩
  rw [← hlocs]
  clear hlocs
  refine lv_aload_n hx hb dX2_init_0 rfl (lv_at hl 0 rfl) ?_
  refine W.objInit hx hb hown (hts (.methodLink RX2 3 objectInit) (by decide +kernel)) (hts (.instanceMethod objectInit) (by decide +kernel)) (hts _ (List.mem_of_getElem? (i := 3) rfl)) rfl (by rw [hml]; exact hl.1) rfl dX2_init_1 (Nat.le_of_ble_eq_true rfl) (Nat.le_of_ble_eq_true rfl) ?_
  refine W.eq (g2 := F0 m 4 ls []) rfl ?_
  refine lv_aload_n hx hb dX2_init_4 rfl (lv_at hl 0 rfl) ?_
  refine lv_bipush (v := 16) hx hb dX2_init_5 (by decide) ?_
  refine cs_newaT (atype := .float) (ty := .float) (cA := E.2.1 1) (N' := 16) (a0 := (16, .inr (.inr (.inl (fun _ => 0))))) hx hb (hts (.arrayClass .float) (by decide +kernel)) rfl ((hK.2 1 (E.2.1 1, .float) rfl).2) hc rfl (fun _ => rfl) (by decide) (by decide) (Nat.le_of_ble_eq_true rfl) (Nat.le_of_ble_eq_true rfl) (Nat.le_of_ble_eq_true rfl) dX2_init_7 (fun H hc => ?_)
  have hc : CS E.1 h 2 (va_up (fun k => cX0 E (fmX2 k) (ixX2 i k)) 0 (.inr (2, [.null, .null]))) s.heap H locs := hc
  refine W.widen (k := 1) (n := 16) (by omega) (by omega) ?_
  refine cs_putF (D := E.1) (i := 0) (ci := 2) (v := .ref (h + 1)) (ty := .array .float) (C := RX2) (T := TX2) (N := 2) hx hb hts (by decide +kernel) tyX2 tyX2_ok nmX2 hown hK hc (by decide) rfl rfl 0 (by decide) (hts (.fieldLink RX2 9 "ColourHouse$Chip" "bands" "[F") (by decide +kernel)) (fun _ h9 => h9) rfl hin rfl (by decide +kernel) rfl rfl (Nat.le_of_ble_eq_true rfl) dX2_init_9 (fun H locs hc => ?_)
  rw [va_up_up] at hc
  have hc : CS E.1 h 2 (va_up (fun k => cX0 E (fmX2 k) (ixX2 i k)) 0 (.inr (2, [.ref (h + 1), .null]))) s.heap H locs := hc
  refine lv_aload_n hx hb dX2_init_12 rfl (lv_at hl 0 rfl) ?_
  refine lv_bipush (v := 16) hx hb dX2_init_13 (by decide) ?_
  refine cs_newaT (atype := .float) (ty := .float) (cA := E.2.1 1) (N' := 16) (a0 := (16, .inr (.inr (.inl (fun _ => 0))))) hx hb (hts (.arrayClass .float) (by decide +kernel)) rfl ((hK.2 1 (E.2.1 1, .float) rfl).2) hc rfl (fun _ => rfl) (by decide) (by decide) (Nat.le_of_ble_eq_true rfl) (Nat.le_of_ble_eq_true rfl) (Nat.le_of_ble_eq_true rfl) dX2_init_15 (fun H hc => ?_)
  have hc : CS E.1 h 3 (va_up (fun k => cX0 E (fmX2 k) (ixX2 i k)) 0 (.inr (2, [.ref (h + 1), .null]))) s.heap H locs := hc
  refine W.widen (k := 2) (n := 32) (by omega) (by omega) ?_
  refine cs_putF (D := E.1) (i := 0) (ci := 2) (v := .ref (h + 2)) (ty := .array .float) (C := RX2) (T := TX2) (N := 2) hx hb hts (by decide +kernel) tyX2 tyX2_ok nmX2 hown hK hc (by decide) rfl rfl 1 (by decide) (hts (.fieldLink RX2 15 "ColourHouse$Chip" "moved" "[F") (by decide +kernel)) (fun _ h9 => h9) rfl hin rfl (by decide +kernel) rfl rfl (Nat.le_of_ble_eq_true rfl) dX2_init_17 (fun H locs hc => ?_)
  rw [va_up_up] at hc
  have hc : CS E.1 h 3 (va_up (fun k => cX0 E (fmX2 k) (ixX2 i k)) 0 (.inr (2, [.ref (h + 1), .ref (h + 2)]))) s.heap H locs := hc
  have hfin : cX0 E (fmX2 0) (ixX2 i 0) = .inr (2, [.ref (h + 1), .ref (h + 2)]) := by
    show cX0 E 19 i = _
    unfold cX0 cellX
    rw [show E.2.2.1 20 i = h + 1 from hlay 1 (by decide), show E.2.2.1 21 i = h + 2 from hlay 2 (by decide)]
    rfl
  rw [va_up_id (f := fun k => cX0 E (fmX2 k) (ixX2 i k)) (k := 0) hfin] at hc
  exact W.vret hx hb hr (fun t ht hW => ⟨⟨(), rfl, trivial, by rw [ht]; exact hc.1, fun k hk => by rw [ht]; exact hc.2.1 k hk⟩, by rw [ht, hc.1, hsz]; omega, fun q h1 h2 => by rw [ht]; exact hc.2.2.1 q (by omega)⟩) (fun z hz => hc.2.2.2 z hz) dX2_init_20 hlocks
def fmX4 (k : Nat) : Nat := 29
def ixX4 (i k : Nat) : Nat := i

set_option maxHeartbeats 4000000 in
set_option maxRecDepth 100000 in
theorem ctX4 (l : Launch) (E : XE) (i h : Nat) (hlay : ∀ k, k < 1 → E.2.2.1 (fmX4 k) (ixX4 i k) = h + k) : CT l yX4_init wsX4_init ({ frames := 1, cells := 0, slots := 0, locals := 12 }) E.1 E.2.1 AOX 4 [.int 0, .int 0, .int 0, .int 0, .int 0] h (fun k => cX0 E (fmX4 k) (ixX4 i k)) 1 0 0 := by
  refine Met.ofW (cc := cX4_init) (maxL := 1) (ret := none) (by decide) rfl ?_
  intro p e s m args below meth c s₁ B hml hv
  obtain ⟨rfl, ⟨hsz, hP⟩, hK, hA⟩ := hv
  have hx := B.exec
  have hb := B.bytes
  have hr := B.returns
  have hts := atoms_spec (ws := wsX4_init) B.pre
  have hown : s.vm.findClass RX4 = some m.cls := findClass_of_methodNamed B.named
  have hlocks := B.notSynchronized
  have hin : meth.name = "<init>" := (name_of_methodNamed B.named B.method).1
  have hl := lv_entry ([.ref h]) (n := 1) (Nat.le_of_ble_eq_true rfl)
  rw [lg_entry_eq]
  generalize (lg_sl ([.ref h]) ++ List.replicate (1 - (lg_sl ([.ref h])).length) Slot.unset).toArray = ls at hl ⊢
  have hl : lv_has ls 1 [(0, .ref h)] := hl
  obtain ⟨locs, hlocs⟩ : ∃ q : List Loc, q = [] := ⟨_, rfl⟩
  have hc : CS E.1 h 1 (va_up (fun k => cX0 E (fmX4 k) (ixX4 i k)) 0 (.inr (4, [.int 0, .int 0, .int 0, .int 0, .int 0]))) s.heap s.heap locs := ⟨hsz, fun k hk => by rw [show k = 0 by omega]; exact hP, fun _ _ => rfl, by rw [hlocs]; exact fun z hz => by cases hz⟩
  rw [← hlocs]
  clear hlocs
  refine lv_aload_n hx hb dX4_init_0 rfl (lv_at hl 0 rfl) ?_
  refine W.objInit hx hb hown (hts (.methodLink RX4 1 objectInit) (by decide +kernel)) (hts (.instanceMethod objectInit) (by decide +kernel)) (hts _ (List.mem_of_getElem? (i := 3) rfl)) rfl (by rw [hml]; exact hl.1) rfl dX4_init_1 (Nat.le_of_ble_eq_true rfl) (Nat.le_of_ble_eq_true rfl) ?_
  refine W.eq (g2 := F0 m 4 ls []) rfl ?_
  refine lv_aload_n hx hb dX4_init_4 rfl (lv_at hl 0 rfl) ?_
  refine lv_iconst (v := 0) hx hb dX4_init_5 (by decide) ?_
  refine cs_put (D := E.1) (i := 0) (ci := 4) (v := .int 0) (ty := .int) (C := RX4) (T := TX4) (N := 5) hx hb hts (by decide +kernel) tyX4 tyX4_ok nmX4 hown hK hc (by decide) rfl rfl 0 (by decide) (hts (.fieldLink RX4 7 "ColourHouse$Lot" "dye" "I") (by decide +kernel)) (fun _ h9 => h9) rfl (by decide +kernel) rfl rfl (Nat.le_of_ble_eq_true rfl) dX4_init_6 (fun H locs hc => ?_)
  rw [va_up_up] at hc
  have hc : CS E.1 h 1 (va_up (fun k => cX0 E (fmX4 k) (ixX4 i k)) 0 (.inr (4, [.int 0, .int 0, .int 0, .int 0, .int 0]))) s.heap H locs := hc
  refine lv_aload_n hx hb dX4_init_9 rfl (lv_at hl 0 rfl) ?_
  refine lv_iconst (v := 1) hx hb dX4_init_10 (by decide) ?_
  refine cs_put (D := E.1) (i := 0) (ci := 4) (v := .int 1) (ty := .int) (C := RX4) (T := TX4) (N := 5) hx hb hts (by decide +kernel) tyX4 tyX4_ok nmX4 hown hK hc (by decide) rfl rfl 1 (by decide) (hts (.fieldLink RX4 13 "ColourHouse$Lot" "up" "I") (by decide +kernel)) (fun _ h9 => h9) rfl (by decide +kernel) rfl rfl (Nat.le_of_ble_eq_true rfl) dX4_init_11 (fun H locs hc => ?_)
  rw [va_up_up] at hc
  have hc : CS E.1 h 1 (va_up (fun k => cX0 E (fmX4 k) (ixX4 i k)) 0 (.inr (4, [.int 0, .int 1, .int 0, .int 0, .int 0]))) s.heap H locs := hc
  refine lv_aload_n hx hb dX4_init_14 rfl (lv_at hl 0 rfl) ?_
  refine lv_iconst (v := 1) hx hb dX4_init_15 (by decide) ?_
  refine cs_put (D := E.1) (i := 0) (ci := 4) (v := .int 1) (ty := .int) (C := RX4) (T := TX4) (N := 5) hx hb hts (by decide +kernel) tyX4 tyX4_ok nmX4 hown hK hc (by decide) rfl rfl 2 (by decide) (hts (.fieldLink RX4 16 "ColourHouse$Lot" "down" "I") (by decide +kernel)) (fun _ h9 => h9) rfl (by decide +kernel) rfl rfl (Nat.le_of_ble_eq_true rfl) dX4_init_16 (fun H locs hc => ?_)
  rw [va_up_up] at hc
  have hc : CS E.1 h 1 (va_up (fun k => cX0 E (fmX4 k) (ixX4 i k)) 0 (.inr (4, [.int 0, .int 1, .int 1, .int 0, .int 0]))) s.heap H locs := hc
  refine lv_aload_n hx hb dX4_init_19 rfl (lv_at hl 0 rfl) ?_
  refine lv_iconst (v := 0) hx hb dX4_init_20 (by decide) ?_
  refine cs_put (D := E.1) (i := 0) (ci := 4) (v := .int 0) (ty := .int) (C := RX4) (T := TX4) (N := 5) hx hb hts (by decide +kernel) tyX4 tyX4_ok nmX4 hown hK hc (by decide) rfl rfl 3 (by decide) (hts (.fieldLink RX4 19 "ColourHouse$Lot" "cameIn" "I") (by decide +kernel)) (fun _ h9 => h9) rfl (by decide +kernel) rfl rfl (Nat.le_of_ble_eq_true rfl) dX4_init_21 (fun H locs hc => ?_)
  rw [va_up_up] at hc
  have hc : CS E.1 h 1 (va_up (fun k => cX0 E (fmX4 k) (ixX4 i k)) 0 (.inr (4, [.int 0, .int 1, .int 1, .int 0, .int 0]))) s.heap H locs := hc
  refine lv_aload_n hx hb dX4_init_24 rfl (lv_at hl 0 rfl) ?_
  refine lv_iconst (v := 0) hx hb dX4_init_25 (by decide) ?_
  refine cs_put (D := E.1) (i := 0) (ci := 4) (v := .int 0) (ty := .int) (C := RX4) (T := TX4) (N := 5) hx hb hts (by decide +kernel) tyX4 tyX4_ok nmX4 hown hK hc (by decide) rfl rfl 4 (by decide) (hts (.fieldLink RX4 22 "ColourHouse$Lot" "left" "I") (by decide +kernel)) (fun _ h9 => h9) rfl (by decide +kernel) rfl rfl (Nat.le_of_ble_eq_true rfl) dX4_init_26 (fun H locs hc => ?_)
  rw [va_up_up] at hc
  have hc : CS E.1 h 1 (va_up (fun k => cX0 E (fmX4 k) (ixX4 i k)) 0 (.inr (4, [.int 0, .int 1, .int 1, .int 0, .int 0]))) s.heap H locs := hc
  have hfin : cX0 E (fmX4 0) (ixX4 i 0) = .inr (4, [.int 0, .int 1, .int 1, .int 0, .int 0]) := by
    show cX0 E 29 i = _
    unfold cX0 cellX
    rfl
  rw [va_up_id (f := fun k => cX0 E (fmX4 k) (ixX4 i k)) (k := 0) hfin] at hc
  exact W.vret hx hb hr (fun t ht hW => ⟨⟨(), rfl, trivial, by rw [ht]; exact hc.1, fun k hk => by rw [ht]; exact hc.2.1 k hk⟩, by rw [ht, hc.1, hsz]; omega, fun q h1 h2 => by rw [ht]; exact hc.2.2.1 q (by omega)⟩) (fun z hz => hc.2.2.2 z hz) dX4_init_29 hlocks
def fmX9 (k : Nat) : Nat := if k < 1 then 13 else if k < 2 then 34 else if k < 8 then 35 else if k < 9 then 36 else if k < 15 then 37 else if k < 16 then 38 else if k < 19 then 39 else if k < 20 then 40 else if k < 21 then 41 else 42
def ixX9 (i k : Nat) : Nat := if k < 1 then 0 else if k < 2 then 0 else if k < 8 then k - 2 else if k < 9 then 0 else if k < 15 then k - 9 else if k < 16 then 0 else if k < 19 then k - 16 else if k < 20 then 0 else if k < 21 then 0 else 0

set_option maxHeartbeats 4000000 in
set_option maxRecDepth 100000 in
theorem ctX9 (l : Launch) (E : XE) (i h : Nat) (hlay : ∀ k, k < 22 → E.2.2.1 (fmX9 k) (ixX9 i k) = h + k) : CT l yX9_init wsX9_init ({ frames := 1, cells := 21, slots := 264, locals := 12 }) E.1 E.2.1 AOX 8 [.null, .null, .double 0, .double 0, .double 0, .null, .null, .null, .null] h (fun k => cX0 E (fmX9 k) (ixX9 i k)) 22 21 264 := by
  refine Met.ofW (cc := cX9_init) (maxL := 1) (ret := none) (by decide) rfl ?_
  intro p e s m args below meth c s₁ B hml hv
  obtain ⟨rfl, ⟨hsz, hP⟩, hK, hA⟩ := hv
  have hx := B.exec
  have hb := B.bytes
  have hr := B.returns
  have hts := atoms_spec (ws := wsX9_init) B.pre
  have hown : s.vm.findClass RX9 = some m.cls := findClass_of_methodNamed B.named
  have hlocks := B.notSynchronized
  have hin : meth.name = "<init>" := (name_of_methodNamed B.named B.method).1
  have hl := lv_entry ([.ref h]) (n := 1) (Nat.le_of_ble_eq_true rfl)
  rw [lg_entry_eq]
  generalize (lg_sl ([.ref h]) ++ List.replicate (1 - (lg_sl ([.ref h])).length) Slot.unset).toArray = ls at hl ⊢
  have hl : lv_has ls 1 [(0, .ref h)] := hl
  obtain ⟨locs, hlocs⟩ : ∃ q : List Loc, q = [] := ⟨_, rfl⟩
  have hc : CS E.1 h 1 (va_up (fun k => cX0 E (fmX9 k) (ixX9 i k)) 0 (.inr (8, [.null, .null, .double 0, .double 0, .double 0, .null, .null, .null, .null]))) s.heap s.heap locs := ⟨hsz, fun k hk => by rw [show k = 0 by omega]; exact hP, fun _ _ => rfl, by rw [hlocs]; exact fun z hz => by cases hz⟩
  rw [← hlocs]
  clear hlocs
  refine lv_aload_n hx hb dX9_init_0 rfl (lv_at hl 0 rfl) ?_
  refine W.objInit hx hb hown (hts (.methodLink RX9 3 objectInit) (by decide +kernel)) (hts (.instanceMethod objectInit) (by decide +kernel)) (hts _ (List.mem_of_getElem? (i := 3) rfl)) rfl (by rw [hml]; exact hl.1) rfl dX9_init_1 (Nat.le_of_ble_eq_true rfl) (Nat.le_of_ble_eq_true rfl) ?_
  refine W.eq (g2 := F0 m 4 ls []) rfl ?_
  refine lv_aload_n hx hb dX9_init_4 rfl (lv_at hl 0 rfl) ?_
  refine lv_bipush (v := 6) hx hb dX9_init_5 (by decide) ?_
  refine lv_bipush (v := 16) hx hb dX9_init_7 (by decide) ?_
  refine cs_mnaT (ty := .int) (cy := E.2.1 0) (cA := E.2.1 3) (N' := 6) (K' := 16) (z := (16, .inl (fun _ => 0))) hx hb hown (hts (.classLink RX9 9 ("[" ++ (FieldType.array .int).toString)) (by decide +kernel)) hA.1 (hts (.arrayClass .int) (by decide +kernel)) ((hK.2 0 (E.2.1 0, .int) rfl).2) ((hK.2 3 (E.2.1 3, .array .int) rfl).2) hc rfl (fun j hj => ?_) (fun j hj => ?_) (by decide) (by decide) (by decide) (by decide) (Nat.le_of_ble_eq_true rfl) (Nat.le_of_ble_eq_true rfl) (Nat.le_of_ble_eq_true rfl) rfl rfl (Nat.le_of_ble_eq_true rfl) (Nat.le_of_ble_eq_true rfl) (fun c9 => by rw [show Jvm.Free.Multi.innerC c9 16 (defaultValue .int) = ({ cls := c9, slots := Array.replicate 16 (defaultValue .int), vm := .none } : Cell) from rfl, arrV_new]; rfl) dX9_init_9 (fun H hc => ?_)
  · have q1 : fmX9 (2 + j) = 35 := by unfold fmX9; repeat (first | rw [if_pos (by omega)] | rw [if_neg (by omega)])
    have q2 : ixX9 i (2 + j) = j := by unfold ixX9; (repeat (first | rw [if_pos (by omega)] | rw [if_neg (by omega)])); (all_goals omega)
    have q3 := hlay (2 + j) (by omega)
    rw [q1, q2] at q3
    show some (E.2.2.1 35 (j)) = _
    rw [q3]
    congr 1
    omega
  · have q1 : fmX9 (2 + j) = 35 := by unfold fmX9; repeat (first | rw [if_pos (by omega)] | rw [if_neg (by omega)])
    rw [show 1 + 1 + j = 2 + j from rfl, va_up_ne _ _ (by omega), q1]
    rfl
  have hc : CS E.1 h 8 (va_up (fun k => cX0 E (fmX9 k) (ixX9 i k)) 0 (.inr (8, [.null, .null, .double 0, .double 0, .double 0, .null, .null, .null, .null]))) s.heap H locs := hc
  refine W.widen (k := 7) (n := 102) (by omega) (by omega) ?_
  refine cs_putF (D := E.1) (i := 0) (ci := 8) (v := .ref (h + 1)) (ty := .array (.array .int)) (C := RX9) (T := TX9) (N := 9) hx hb hts (by decide +kernel) tyX9 tyX9_ok nmX9 hown hK hc (by decide) rfl rfl 0 (by decide) (hts (.fieldLink RX9 11 "ColourHouse$Sight" "lights" "[[I") (by decide +kernel)) (fun _ h9 => h9) rfl hin rfl (by decide +kernel) rfl rfl (Nat.le_of_ble_eq_true rfl) dX9_init_13 (fun H locs hc => ?_)
  rw [va_up_up] at hc
  have hc : CS E.1 h 8 (va_up (fun k => cX0 E (fmX9 k) (ixX9 i k)) 0 (.inr (8, [.ref (h + 1), .null, .double 0, .double 0, .double 0, .null, .null, .null, .null]))) s.heap H locs := hc
  refine lv_aload_n hx hb dX9_init_16 rfl (lv_at hl 0 rfl) ?_
  refine lv_bipush (v := 6) hx hb dX9_init_17 (by decide) ?_
  refine lv_bipush (v := 16) hx hb dX9_init_19 (by decide) ?_
  refine cs_mnaT (ty := .int) (cy := E.2.1 0) (cA := E.2.1 3) (N' := 6) (K' := 16) (z := (16, .inl (fun _ => 0))) hx hb hown (hts (.classLink RX9 9 ("[" ++ (FieldType.array .int).toString)) (by decide +kernel)) hA.1 (hts (.arrayClass .int) (by decide +kernel)) ((hK.2 0 (E.2.1 0, .int) rfl).2) ((hK.2 3 (E.2.1 3, .array .int) rfl).2) hc rfl (fun j hj => ?_) (fun j hj => ?_) (by decide) (by decide) (by decide) (by decide) (Nat.le_of_ble_eq_true rfl) (Nat.le_of_ble_eq_true rfl) (Nat.le_of_ble_eq_true rfl) rfl rfl (Nat.le_of_ble_eq_true rfl) (Nat.le_of_ble_eq_true rfl) (fun c9 => by rw [show Jvm.Free.Multi.innerC c9 16 (defaultValue .int) = ({ cls := c9, slots := Array.replicate 16 (defaultValue .int), vm := .none } : Cell) from rfl, arrV_new]; rfl) dX9_init_21 (fun H hc => ?_)
  · have q1 : fmX9 (9 + j) = 37 := by unfold fmX9; repeat (first | rw [if_pos (by omega)] | rw [if_neg (by omega)])
    have q2 : ixX9 i (9 + j) = j := by unfold ixX9; (repeat (first | rw [if_pos (by omega)] | rw [if_neg (by omega)])); (all_goals omega)
    have q3 := hlay (9 + j) (by omega)
    rw [q1, q2] at q3
    show some (E.2.2.1 37 (j)) = _
    rw [q3]
    congr 1
    omega
  · have q1 : fmX9 (9 + j) = 37 := by unfold fmX9; repeat (first | rw [if_pos (by omega)] | rw [if_neg (by omega)])
    rw [show 8 + 1 + j = 9 + j from rfl, va_up_ne _ _ (by omega), q1]
    rfl
  have hc : CS E.1 h 15 (va_up (fun k => cX0 E (fmX9 k) (ixX9 i k)) 0 (.inr (8, [.ref (h + 1), .null, .double 0, .double 0, .double 0, .null, .null, .null, .null]))) s.heap H locs := hc
  refine W.widen (k := 14) (n := 204) (by omega) (by omega) ?_
  refine cs_putF (D := E.1) (i := 0) (ci := 8) (v := .ref (h + 8)) (ty := .array (.array .int)) (C := RX9) (T := TX9) (N := 9) hx hb hts (by decide +kernel) tyX9 tyX9_ok nmX9 hown hK hc (by decide) rfl rfl 1 (by decide) (hts (.fieldLink RX9 16 "ColourHouse$Sight" "eyes" "[[I") (by decide +kernel)) (fun _ h9 => h9) rfl hin rfl (by decide +kernel) rfl rfl (Nat.le_of_ble_eq_true rfl) dX9_init_25 (fun H locs hc => ?_)
  rw [va_up_up] at hc
  have hc : CS E.1 h 15 (va_up (fun k => cX0 E (fmX9 k) (ixX9 i k)) 0 (.inr (8, [.ref (h + 1), .ref (h + 8), .double 0, .double 0, .double 0, .null, .null, .null, .null]))) s.heap H locs := hc
  refine lv_aload_n hx hb dX9_init_28 rfl (lv_at hl 0 rfl) ?_
  refine lv_dconst1 hx hb dX9_init_29 ?_
  refine cs_put (D := E.1) (i := 0) (ci := 8) (v := .double FP.dconst1) (ty := .double) (C := RX9) (T := TX9) (N := 9) hx hb hts (by decide +kernel) tyX9 tyX9_ok nmX9 hown hK hc (by decide) rfl rfl 2 (by decide) (hts (.fieldLink RX9 19 "ColourHouse$Sight" "a" "D") (by decide +kernel)) (fun _ h9 => h9) rfl (by decide +kernel) rfl rfl (Nat.le_of_ble_eq_true rfl) dX9_init_30 (fun H locs hc => ?_)
  rw [va_up_up] at hc
  have hc : CS E.1 h 15 (va_up (fun k => cX0 E (fmX9 k) (ixX9 i k)) 0 (.inr (8, [.ref (h + 1), .ref (h + 8), .double FP.dconst1, .double 0, .double 0, .null, .null, .null, .null]))) s.heap H locs := hc
  refine lv_aload_n hx hb dX9_init_33 rfl (lv_at hl 0 rfl) ?_
  refine lv_dconst1 hx hb dX9_init_34 ?_
  refine cs_put (D := E.1) (i := 0) (ci := 8) (v := .double FP.dconst1) (ty := .double) (C := RX9) (T := TX9) (N := 9) hx hb hts (by decide +kernel) tyX9 tyX9_ok nmX9 hown hK hc (by decide) rfl rfl 3 (by decide) (hts (.fieldLink RX9 23 "ColourHouse$Sight" "b" "D") (by decide +kernel)) (fun _ h9 => h9) rfl (by decide +kernel) rfl rfl (Nat.le_of_ble_eq_true rfl) dX9_init_35 (fun H locs hc => ?_)
  rw [va_up_up] at hc
  have hc : CS E.1 h 15 (va_up (fun k => cX0 E (fmX9 k) (ixX9 i k)) 0 (.inr (8, [.ref (h + 1), .ref (h + 8), .double FP.dconst1, .double FP.dconst1, .double 0, .null, .null, .null, .null]))) s.heap H locs := hc
  refine lv_aload_n hx hb dX9_init_38 rfl (lv_at hl 0 rfl) ?_
  refine lv_dconst1 hx hb dX9_init_39 ?_
  refine cs_put (D := E.1) (i := 0) (ci := 8) (v := .double FP.dconst1) (ty := .double) (C := RX9) (T := TX9) (N := 9) hx hb hts (by decide +kernel) tyX9 tyX9_ok nmX9 hown hK hc (by decide) rfl rfl 4 (by decide) (hts (.fieldLink RX9 26 "ColourHouse$Sight" "c" "D") (by decide +kernel)) (fun _ h9 => h9) rfl (by decide +kernel) rfl rfl (Nat.le_of_ble_eq_true rfl) dX9_init_40 (fun H locs hc => ?_)
  rw [va_up_up] at hc
  have hc : CS E.1 h 15 (va_up (fun k => cX0 E (fmX9 k) (ixX9 i k)) 0 (.inr (8, [.ref (h + 1), .ref (h + 8), .double FP.dconst1, .double FP.dconst1, .double FP.dconst1, .null, .null, .null, .null]))) s.heap H locs := hc
  refine lv_aload_n hx hb dX9_init_43 rfl (lv_at hl 0 rfl) ?_
  refine lv_iconst (v := 3) hx hb dX9_init_44 (by decide) ?_
  refine lv_bipush (v := 16) hx hb dX9_init_45 (by decide) ?_
  refine cs_mnaT (ty := .double) (cy := E.2.1 2) (cA := E.2.1 5) (N' := 3) (K' := 16) (z := (16, .inr (.inr (.inr (.inl (fun _ => 0)))))) hx hb hown (hts (.classLink RX9 29 ("[" ++ (FieldType.array .double).toString)) (by decide +kernel)) hA.2.2.1 (hts (.arrayClass .double) (by decide +kernel)) ((hK.2 2 (E.2.1 2, .double) rfl).2) ((hK.2 5 (E.2.1 5, .array .double) rfl).2) hc rfl (fun j hj => ?_) (fun j hj => ?_) (by decide) (by decide) (by decide) (by decide) (Nat.le_of_ble_eq_true rfl) (Nat.le_of_ble_eq_true rfl) (Nat.le_of_ble_eq_true rfl) rfl rfl (Nat.le_of_ble_eq_true rfl) (Nat.le_of_ble_eq_true rfl) (fun c9 => by rw [show Jvm.Free.Multi.innerC c9 16 (defaultValue .double) = ({ cls := c9, slots := Array.replicate 16 (defaultValue .double), vm := .none } : Cell) from rfl, arrV_new]; rfl) dX9_init_47 (fun H hc => ?_)
  · have q1 : fmX9 (16 + j) = 39 := by unfold fmX9; repeat (first | rw [if_pos (by omega)] | rw [if_neg (by omega)])
    have q2 : ixX9 i (16 + j) = j := by unfold ixX9; (repeat (first | rw [if_pos (by omega)] | rw [if_neg (by omega)])); (all_goals omega)
    have q3 := hlay (16 + j) (by omega)
    rw [q1, q2] at q3
    show some (E.2.2.1 39 (j)) = _
    rw [q3]
    congr 1
    omega
  · have q1 : fmX9 (16 + j) = 39 := by unfold fmX9; repeat (first | rw [if_pos (by omega)] | rw [if_neg (by omega)])
    rw [show 15 + 1 + j = 16 + j from rfl, va_up_ne _ _ (by omega), q1]
    rfl
  have hc : CS E.1 h 19 (va_up (fun k => cX0 E (fmX9 k) (ixX9 i k)) 0 (.inr (8, [.ref (h + 1), .ref (h + 8), .double FP.dconst1, .double FP.dconst1, .double FP.dconst1, .null, .null, .null, .null]))) s.heap H locs := hc
  refine W.widen (k := 18) (n := 255) (by omega) (by omega) ?_
  refine cs_putF (D := E.1) (i := 0) (ci := 8) (v := .ref (h + 15)) (ty := .array (.array .double)) (C := RX9) (T := TX9) (N := 9) hx hb hts (by decide +kernel) tyX9 tyX9_ok nmX9 hown hK hc (by decide) rfl rfl 5 (by decide) (hts (.fieldLink RX9 31 "ColourHouse$Sight" "weights" "[[D") (by decide +kernel)) (fun _ h9 => h9) rfl hin rfl (by decide +kernel) rfl rfl (Nat.le_of_ble_eq_true rfl) dX9_init_51 (fun H locs hc => ?_)
  rw [va_up_up] at hc
  have hc : CS E.1 h 19 (va_up (fun k => cX0 E (fmX9 k) (ixX9 i k)) 0 (.inr (8, [.ref (h + 1), .ref (h + 8), .double FP.dconst1, .double FP.dconst1, .double FP.dconst1, .ref (h + 15), .null, .null, .null]))) s.heap H locs := hc
  refine lv_aload_n hx hb dX9_init_54 rfl (lv_at hl 0 rfl) ?_
  refine lv_iconst (v := 3) hx hb dX9_init_55 (by decide) ?_
  refine cs_newaT (atype := .double) (ty := .double) (cA := E.2.1 2) (N' := 3) (a0 := (3, .inr (.inr (.inr (.inl (fun _ => 0)))))) hx hb (hts (.arrayClass .double) (by decide +kernel)) rfl ((hK.2 2 (E.2.1 2, .double) rfl).2) hc rfl (fun _ => rfl) (by decide) (by decide) (Nat.le_of_ble_eq_true rfl) (Nat.le_of_ble_eq_true rfl) (Nat.le_of_ble_eq_true rfl) dX9_init_56 (fun H hc => ?_)
  have hc : CS E.1 h 20 (va_up (fun k => cX0 E (fmX9 k) (ixX9 i k)) 0 (.inr (8, [.ref (h + 1), .ref (h + 8), .double FP.dconst1, .double FP.dconst1, .double FP.dconst1, .ref (h + 15), .null, .null, .null]))) s.heap H locs := hc
  refine W.widen (k := 19) (n := 258) (by omega) (by omega) ?_
  refine cs_putF (D := E.1) (i := 0) (ci := 8) (v := .ref (h + 19)) (ty := .array .double) (C := RX9) (T := TX9) (N := 9) hx hb hts (by decide +kernel) tyX9 tyX9_ok nmX9 hown hK hc (by decide) rfl rfl 6 (by decide) (hts (.fieldLink RX9 34 "ColourHouse$Sight" "totals" "[D") (by decide +kernel)) (fun _ h9 => h9) rfl hin rfl (by decide +kernel) rfl rfl (Nat.le_of_ble_eq_true rfl) dX9_init_58 (fun H locs hc => ?_)
  rw [va_up_up] at hc
  have hc : CS E.1 h 20 (va_up (fun k => cX0 E (fmX9 k) (ixX9 i k)) 0 (.inr (8, [.ref (h + 1), .ref (h + 8), .double FP.dconst1, .double FP.dconst1, .double FP.dconst1, .ref (h + 15), .ref (h + 19), .null, .null]))) s.heap H locs := hc
  refine lv_aload_n hx hb dX9_init_61 rfl (lv_at hl 0 rfl) ?_
  refine lv_iconst (v := 3) hx hb dX9_init_62 (by decide) ?_
  refine cs_newaT (atype := .double) (ty := .double) (cA := E.2.1 2) (N' := 3) (a0 := (3, .inr (.inr (.inr (.inl (fun _ => 0)))))) hx hb (hts (.arrayClass .double) (by decide +kernel)) rfl ((hK.2 2 (E.2.1 2, .double) rfl).2) hc rfl (fun _ => rfl) (by decide) (by decide) (Nat.le_of_ble_eq_true rfl) (Nat.le_of_ble_eq_true rfl) (Nat.le_of_ble_eq_true rfl) dX9_init_63 (fun H hc => ?_)
  have hc : CS E.1 h 21 (va_up (fun k => cX0 E (fmX9 k) (ixX9 i k)) 0 (.inr (8, [.ref (h + 1), .ref (h + 8), .double FP.dconst1, .double FP.dconst1, .double FP.dconst1, .ref (h + 15), .ref (h + 19), .null, .null]))) s.heap H locs := hc
  refine W.widen (k := 20) (n := 261) (by omega) (by omega) ?_
  refine cs_putF (D := E.1) (i := 0) (ci := 8) (v := .ref (h + 20)) (ty := .array .double) (C := RX9) (T := TX9) (N := 9) hx hb hts (by decide +kernel) tyX9 tyX9_ok nmX9 hown hK hc (by decide) rfl rfl 7 (by decide) (hts (.fieldLink RX9 38 "ColourHouse$Sight" "goal" "[D") (by decide +kernel)) (fun _ h9 => h9) rfl hin rfl (by decide +kernel) rfl rfl (Nat.le_of_ble_eq_true rfl) dX9_init_65 (fun H locs hc => ?_)
  rw [va_up_up] at hc
  have hc : CS E.1 h 21 (va_up (fun k => cX0 E (fmX9 k) (ixX9 i k)) 0 (.inr (8, [.ref (h + 1), .ref (h + 8), .double FP.dconst1, .double FP.dconst1, .double FP.dconst1, .ref (h + 15), .ref (h + 19), .ref (h + 20), .null]))) s.heap H locs := hc
  refine lv_aload_n hx hb dX9_init_68 rfl (lv_at hl 0 rfl) ?_
  refine lv_iconst (v := 3) hx hb dX9_init_69 (by decide) ?_
  refine cs_newaT (atype := .double) (ty := .double) (cA := E.2.1 2) (N' := 3) (a0 := (3, .inr (.inr (.inr (.inl (fun _ => 0)))))) hx hb (hts (.arrayClass .double) (by decide +kernel)) rfl ((hK.2 2 (E.2.1 2, .double) rfl).2) hc rfl (fun _ => rfl) (by decide) (by decide) (Nat.le_of_ble_eq_true rfl) (Nat.le_of_ble_eq_true rfl) (Nat.le_of_ble_eq_true rfl) dX9_init_70 (fun H hc => ?_)
  have hc : CS E.1 h 22 (va_up (fun k => cX0 E (fmX9 k) (ixX9 i k)) 0 (.inr (8, [.ref (h + 1), .ref (h + 8), .double FP.dconst1, .double FP.dconst1, .double FP.dconst1, .ref (h + 15), .ref (h + 19), .ref (h + 20), .null]))) s.heap H locs := hc
  refine W.widen (k := 21) (n := 264) (by omega) (by omega) ?_
  refine cs_putF (D := E.1) (i := 0) (ci := 8) (v := .ref (h + 21)) (ty := .array .double) (C := RX9) (T := TX9) (N := 9) hx hb hts (by decide +kernel) tyX9 tyX9_ok nmX9 hown hK hc (by decide) rfl rfl 8 (by decide) (hts (.fieldLink RX9 41 "ColourHouse$Sight" "seen" "[D") (by decide +kernel)) (fun _ h9 => h9) rfl hin rfl (by decide +kernel) rfl rfl (Nat.le_of_ble_eq_true rfl) dX9_init_72 (fun H locs hc => ?_)
  rw [va_up_up] at hc
  have hc : CS E.1 h 22 (va_up (fun k => cX0 E (fmX9 k) (ixX9 i k)) 0 (.inr (8, [.ref (h + 1), .ref (h + 8), .double FP.dconst1, .double FP.dconst1, .double FP.dconst1, .ref (h + 15), .ref (h + 19), .ref (h + 20), .ref (h + 21)]))) s.heap H locs := hc
  have hfin : cX0 E (fmX9 0) (ixX9 i 0) = .inr (8, [.ref (h + 1), .ref (h + 8), .double FP.dconst1, .double FP.dconst1, .double FP.dconst1, .ref (h + 15), .ref (h + 19), .ref (h + 20), .ref (h + 21)]) := by
    show cX0 E 13 0 = _
    unfold cX0 cellX
    rw [show E.2.2.1 34 0 = h + 1 from hlay 1 (by decide), show E.2.2.1 36 0 = h + 8 from hlay 8 (by decide), show E.2.2.1 38 0 = h + 15 from hlay 15 (by decide), show E.2.2.1 40 0 = h + 19 from hlay 19 (by decide), show E.2.2.1 41 0 = h + 20 from hlay 20 (by decide), show E.2.2.1 42 0 = h + 21 from hlay 21 (by decide)]
    rfl
  rw [va_up_id (f := fun k => cX0 E (fmX9 k) (ixX9 i k)) (k := 0) hfin] at hc
  exact W.vret hx hb hr (fun t ht hW => ⟨⟨(), rfl, trivial, by rw [ht]; exact hc.1, fun k hk => by rw [ht]; exact hc.2.1 k hk⟩, by rw [ht, hc.1, hsz]; omega, fun q h1 h2 => by rw [ht]; exact hc.2.2.1 q (by omega)⟩) (fun z hz => hc.2.2.2 z hz) dX9_init_75 hlocks
def fmX0 (k : Nat) : Nat := if k < 1 then 18 else if k < 2 then 54 else if k < 62 then 55 else if k < 63 then 56 else 57
def ixX0 (i k : Nat) : Nat := if k < 1 then 0 else if k < 2 then 0 else if k < 62 then k - 2 else if k < 63 then 0 else k - 63

set_option maxHeartbeats 4000000 in
set_option maxRecDepth 100000 in
theorem ctX0 (l : Launch) (E : XE) (i h : Nat) (hlay : ∀ k, k < 123 → E.2.2.1 (fmX0 k) (ixX0 i k) = h + k) : CT l yX0_init wsX0_init ({ frames := 1, cells := 122, slots := 2280, locals := 12 }) E.1 E.2.1 AOX 0 [.null, .null, .int 0, .int 0] h (fun k => cX0 E (fmX0 k) (ixX0 i k)) 123 122 2280 := by
  refine Met.ofW (cc := cX0_init) (maxL := 1) (ret := none) (by decide) rfl ?_
  intro p e s m args below meth c s₁ B hml hv
  obtain ⟨rfl, ⟨hsz, hP⟩, hK, hA⟩ := hv
  have hx := B.exec
  have hb := B.bytes
  have hr := B.returns
  have hts := atoms_spec (ws := wsX0_init) B.pre
  have hown : s.vm.findClass RX0 = some m.cls := findClass_of_methodNamed B.named
  have hlocks := B.notSynchronized
  have hin : meth.name = "<init>" := (name_of_methodNamed B.named B.method).1
  have hl := lv_entry ([.ref h]) (n := 1) (Nat.le_of_ble_eq_true rfl)
  rw [lg_entry_eq]
  generalize (lg_sl ([.ref h]) ++ List.replicate (1 - (lg_sl ([.ref h])).length) Slot.unset).toArray = ls at hl ⊢
  have hl : lv_has ls 1 [(0, .ref h)] := hl
  obtain ⟨locs, hlocs⟩ : ∃ q : List Loc, q = [] := ⟨_, rfl⟩
  have hc : CS E.1 h 1 (va_up (fun k => cX0 E (fmX0 k) (ixX0 i k)) 0 (.inr (0, [.null, .null, .int 0, .int 0]))) s.heap s.heap locs := ⟨hsz, fun k hk => by rw [show k = 0 by omega]; exact hP, fun _ _ => rfl, by rw [hlocs]; exact fun z hz => by cases hz⟩
  rw [← hlocs]
  clear hlocs
  refine lv_aload_n hx hb dX0_init_0 rfl (lv_at hl 0 rfl) ?_
  refine W.objInit hx hb hown (hts (.methodLink RX0 3 objectInit) (by decide +kernel)) (hts (.instanceMethod objectInit) (by decide +kernel)) (hts _ (List.mem_of_getElem? (i := 3) rfl)) rfl (by rw [hml]; exact hl.1) rfl dX0_init_1 (Nat.le_of_ble_eq_true rfl) (Nat.le_of_ble_eq_true rfl) ?_
  refine W.eq (g2 := F0 m 4 ls []) rfl ?_
  refine lv_aload_n hx hb dX0_init_4 rfl (lv_at hl 0 rfl) ?_
  refine lv_bipush (v := 60) hx hb dX0_init_5 (by decide) ?_
  refine lv_iconst (v := 4) hx hb dX0_init_7 (by decide) ?_
  refine cs_mnaT (ty := .int) (cy := E.2.1 0) (cA := E.2.1 3) (N' := 60) (K' := 4) (z := (4, .inl (fun _ => 0))) hx hb hown (hts (.classLink RX0 9 ("[" ++ (FieldType.array .int).toString)) (by decide +kernel)) hA.1 (hts (.arrayClass .int) (by decide +kernel)) ((hK.2 0 (E.2.1 0, .int) rfl).2) ((hK.2 3 (E.2.1 3, .array .int) rfl).2) hc rfl (fun j hj => ?_) (fun j hj => ?_) (by decide) (by decide) (by decide) (by decide) (Nat.le_of_ble_eq_true rfl) (Nat.le_of_ble_eq_true rfl) (Nat.le_of_ble_eq_true rfl) rfl rfl (Nat.le_of_ble_eq_true rfl) (Nat.le_of_ble_eq_true rfl) (fun c9 => by rw [show Jvm.Free.Multi.innerC c9 4 (defaultValue .int) = ({ cls := c9, slots := Array.replicate 4 (defaultValue .int), vm := .none } : Cell) from rfl, arrV_new]; rfl) dX0_init_8 (fun H hc => ?_)
  · have q1 : fmX0 (2 + j) = 55 := by unfold fmX0; repeat (first | rw [if_pos (by omega)] | rw [if_neg (by omega)])
    have q2 : ixX0 i (2 + j) = j := by unfold ixX0; (repeat (first | rw [if_pos (by omega)] | rw [if_neg (by omega)])); (all_goals omega)
    have q3 := hlay (2 + j) (by omega)
    rw [q1, q2] at q3
    show some (E.2.2.1 55 (j)) = _
    rw [q3]
    congr 1
    omega
  · have q1 : fmX0 (2 + j) = 55 := by unfold fmX0; repeat (first | rw [if_pos (by omega)] | rw [if_neg (by omega)])
    rw [show 1 + 1 + j = 2 + j from rfl, va_up_ne _ _ (by omega), q1]
    rfl
  have hc : CS E.1 h 62 (va_up (fun k => cX0 E (fmX0 k) (ixX0 i k)) 0 (.inr (0, [.null, .null, .int 0, .int 0]))) s.heap H locs := hc
  refine W.widen (k := 61) (n := 300) (by omega) (by omega) ?_
  refine cs_putF (D := E.1) (i := 0) (ci := 0) (v := .ref (h + 1)) (ty := .array (.array .int)) (C := RX0) (T := TX0) (N := 4) hx hb hts (by decide +kernel) tyX0 tyX0_ok nmX0 hown hK hc (by decide) rfl rfl 0 (by decide) (hts (.fieldLink RX0 11 "ColourHouse$Acts" "told" "[[I") (by decide +kernel)) (fun _ h9 => h9) rfl hin rfl (by decide +kernel) rfl rfl (Nat.le_of_ble_eq_true rfl) dX0_init_12 (fun H locs hc => ?_)
  rw [va_up_up] at hc
  have hc : CS E.1 h 62 (va_up (fun k => cX0 E (fmX0 k) (ixX0 i k)) 0 (.inr (0, [.ref (h + 1), .null, .int 0, .int 0]))) s.heap H locs := hc
  refine lv_aload_n hx hb dX0_init_15 rfl (lv_at hl 0 rfl) ?_
  refine lv_bipush (v := 60) hx hb dX0_init_16 (by decide) ?_
  refine lv_bipush (v := 32) hx hb dX0_init_18 (by decide) ?_
  refine cs_mnaT (ty := .float) (cy := E.2.1 1) (cA := E.2.1 4) (N' := 60) (K' := 32) (z := (32, .inr (.inr (.inl (fun _ => 0))))) hx hb hown (hts (.classLink RX0 16 ("[" ++ (FieldType.array .float).toString)) (by decide +kernel)) hA.2.1 (hts (.arrayClass .float) (by decide +kernel)) ((hK.2 1 (E.2.1 1, .float) rfl).2) ((hK.2 4 (E.2.1 4, .array .float) rfl).2) hc rfl (fun j hj => ?_) (fun j hj => ?_) (by decide) (by decide) (by decide) (by decide) (Nat.le_of_ble_eq_true rfl) (Nat.le_of_ble_eq_true rfl) (Nat.le_of_ble_eq_true rfl) rfl rfl (Nat.le_of_ble_eq_true rfl) (Nat.le_of_ble_eq_true rfl) (fun c9 => by rw [show Jvm.Free.Multi.innerC c9 32 (defaultValue .float) = ({ cls := c9, slots := Array.replicate 32 (defaultValue .float), vm := .none } : Cell) from rfl, arrV_new]; rfl) dX0_init_20 (fun H hc => ?_)
  · have q1 : fmX0 (63 + j) = 57 := by unfold fmX0; repeat (first | rw [if_pos (by omega)] | rw [if_neg (by omega)])
    have q2 : ixX0 i (63 + j) = j := by unfold ixX0; (repeat (first | rw [if_pos (by omega)] | rw [if_neg (by omega)])); (all_goals omega)
    have q3 := hlay (63 + j) (by omega)
    rw [q1, q2] at q3
    show some (E.2.2.1 57 (j)) = _
    rw [q3]
    congr 1
    omega
  · have q1 : fmX0 (63 + j) = 57 := by unfold fmX0; repeat (first | rw [if_pos (by omega)] | rw [if_neg (by omega)])
    rw [show 62 + 1 + j = 63 + j from rfl, va_up_ne _ _ (by omega), q1]
    rfl
  have hc : CS E.1 h 123 (va_up (fun k => cX0 E (fmX0 k) (ixX0 i k)) 0 (.inr (0, [.ref (h + 1), .null, .int 0, .int 0]))) s.heap H locs := hc
  refine W.widen (k := 122) (n := 2280) (by omega) (by omega) ?_
  refine cs_putF (D := E.1) (i := 0) (ci := 0) (v := .ref (h + 62)) (ty := .array (.array .float)) (C := RX0) (T := TX0) (N := 4) hx hb hts (by decide +kernel) tyX0 tyX0_ok nmX0 hown hK hc (by decide) rfl rfl 1 (by decide) (hts (.fieldLink RX0 18 "ColourHouse$Acts" "kept" "[[F") (by decide +kernel)) (fun _ h9 => h9) rfl hin rfl (by decide +kernel) rfl rfl (Nat.le_of_ble_eq_true rfl) dX0_init_24 (fun H locs hc => ?_)
  rw [va_up_up] at hc
  have hc : CS E.1 h 123 (va_up (fun k => cX0 E (fmX0 k) (ixX0 i k)) 0 (.inr (0, [.ref (h + 1), .ref (h + 62), .int 0, .int 0]))) s.heap H locs := hc
  refine lv_aload_n hx hb dX0_init_27 rfl (lv_at hl 0 rfl) ?_
  refine lv_iconst (v := 0) hx hb dX0_init_28 (by decide) ?_
  refine cs_put (D := E.1) (i := 0) (ci := 0) (v := .int 0) (ty := .int) (C := RX0) (T := TX0) (N := 4) hx hb hts (by decide +kernel) tyX0 tyX0_ok nmX0 hown hK hc (by decide) rfl rfl 2 (by decide) (hts (.fieldLink RX0 21 "ColourHouse$Acts" "newest" "I") (by decide +kernel)) (fun _ h9 => h9) rfl (by decide +kernel) rfl rfl (Nat.le_of_ble_eq_true rfl) dX0_init_29 (fun H locs hc => ?_)
  rw [va_up_up] at hc
  have hc : CS E.1 h 123 (va_up (fun k => cX0 E (fmX0 k) (ixX0 i k)) 0 (.inr (0, [.ref (h + 1), .ref (h + 62), .int 0, .int 0]))) s.heap H locs := hc
  refine lv_aload_n hx hb dX0_init_32 rfl (lv_at hl 0 rfl) ?_
  refine lv_iconst (v := 0) hx hb dX0_init_33 (by decide) ?_
  refine cs_put (D := E.1) (i := 0) (ci := 0) (v := .int 0) (ty := .int) (C := RX0) (T := TX0) (N := 4) hx hb hts (by decide +kernel) tyX0 tyX0_ok nmX0 hown hK hc (by decide) rfl rfl 3 (by decide) (hts (.fieldLink RX0 25 "ColourHouse$Acts" "size" "I") (by decide +kernel)) (fun _ h9 => h9) rfl (by decide +kernel) rfl rfl (Nat.le_of_ble_eq_true rfl) dX0_init_34 (fun H locs hc => ?_)
  rw [va_up_up] at hc
  have hc : CS E.1 h 123 (va_up (fun k => cX0 E (fmX0 k) (ixX0 i k)) 0 (.inr (0, [.ref (h + 1), .ref (h + 62), .int 0, .int 0]))) s.heap H locs := hc
  have hfin : cX0 E (fmX0 0) (ixX0 i 0) = .inr (0, [.ref (h + 1), .ref (h + 62), .int 0, .int 0]) := by
    show cX0 E 18 0 = _
    unfold cX0 cellX
    rw [show E.2.2.1 54 0 = h + 1 from hlay 1 (by decide), show E.2.2.1 56 0 = h + 62 from hlay 62 (by decide)]
    rfl
  rw [va_up_id (f := fun k => cX0 E (fmX0 k) (ixX0 i k)) (k := 0) hfin] at hc
  exact W.vret hx hb hr (fun t ht hW => ⟨⟨(), rfl, trivial, by rw [ht]; exact hc.1, fun k hk => by rw [ht]; exact hc.2.1 k hk⟩, by rw [ht, hc.1, hsz]; omega, fun q h1 h2 => by rw [ht]; exact hc.2.2.1 q (by omega)⟩) (fun z hz => hc.2.2.2 z hz) dX0_init_37 hlocks
def fmX1 (k : Nat) : Nat := if k < 1 then 30 else if k < 2 then 31 else if k < 3 then 32 else 33
def ixX1 (i k : Nat) : Nat := if k < 1 then i else if k < 2 then i else if k < 3 then i else i

set_option maxHeartbeats 4000000 in
set_option maxRecDepth 100000 in
theorem ctX1 (l : Launch) (E : XE) (i h : Nat) (hlay : ∀ k, k < 4 → E.2.2.1 (fmX1 k) (ixX1 i k) = h + k) : CT l yX1_init wsX1_init ({ frames := 1, cells := 3, slots := 32, locals := 12 }) E.1 E.2.1 AOX 1 [.int 0, .int 0, .int 0, .null, .null, .int 0, .null] h (fun k => cX0 E (fmX1 k) (ixX1 i k)) 4 3 32 := by
  refine Met.ofW (cc := cX1_init) (maxL := 1) (ret := none) (by decide) rfl ?_
  intro p e s m args below meth c s₁ B hml hv
  obtain ⟨rfl, ⟨hsz, hP⟩, hK, hA⟩ := hv
  have hx := B.exec
  have hb := B.bytes
  have hr := B.returns
  have hts := atoms_spec (ws := wsX1_init) B.pre
  have hown : s.vm.findClass RX1 = some m.cls := findClass_of_methodNamed B.named
  have hlocks := B.notSynchronized
  have hin : meth.name = "<init>" := (name_of_methodNamed B.named B.method).1
  have hl := lv_entry ([.ref h]) (n := 1) (Nat.le_of_ble_eq_true rfl)
  rw [lg_entry_eq]
  generalize (lg_sl ([.ref h]) ++ List.replicate (1 - (lg_sl ([.ref h])).length) Slot.unset).toArray = ls at hl ⊢
  have hl : lv_has ls 1 [(0, .ref h)] := hl
  obtain ⟨locs, hlocs⟩ : ∃ q : List Loc, q = [] := ⟨_, rfl⟩
  have hc : CS E.1 h 1 (va_up (fun k => cX0 E (fmX1 k) (ixX1 i k)) 0 (.inr (1, [.int 0, .int 0, .int 0, .null, .null, .int 0, .null]))) s.heap s.heap locs := ⟨hsz, fun k hk => by rw [show k = 0 by omega]; exact hP, fun _ _ => rfl, by rw [hlocs]; exact fun z hz => by cases hz⟩
  rw [← hlocs]
  clear hlocs
  refine lv_aload_n hx hb dX1_init_0 rfl (lv_at hl 0 rfl) ?_
  refine W.objInit hx hb hown (hts (.methodLink RX1 3 objectInit) (by decide +kernel)) (hts (.instanceMethod objectInit) (by decide +kernel)) (hts _ (List.mem_of_getElem? (i := 3) rfl)) rfl (by rw [hml]; exact hl.1) rfl dX1_init_1 (Nat.le_of_ble_eq_true rfl) (Nat.le_of_ble_eq_true rfl) ?_
  refine W.eq (g2 := F0 m 4 ls []) rfl ?_
  refine lv_aload_n hx hb dX1_init_4 rfl (lv_at hl 0 rfl) ?_
  refine lv_iconst (v := 0) hx hb dX1_init_5 (by decide) ?_
  refine cs_put (D := E.1) (i := 0) (ci := 1) (v := .int 0) (ty := .int) (C := RX1) (T := TX1) (N := 7) hx hb hts (by decide +kernel) tyX1 tyX1_ok nmX1 hown hK hc (by decide) rfl rfl 0 (by decide) (hts (.fieldLink RX1 9 "ColourHouse$Batch" "cloth" "I") (by decide +kernel)) (fun _ h9 => h9) rfl (by decide +kernel) rfl rfl (Nat.le_of_ble_eq_true rfl) dX1_init_6 (fun H locs hc => ?_)
  rw [va_up_up] at hc
  have hc : CS E.1 h 1 (va_up (fun k => cX0 E (fmX1 k) (ixX1 i k)) 0 (.inr (1, [.int 0, .int 0, .int 0, .null, .null, .int 0, .null]))) s.heap H locs := hc
  refine lv_aload_n hx hb dX1_init_9 rfl (lv_at hl 0 rfl) ?_
  refine lv_iconst (v := 1) hx hb dX1_init_10 (by decide) ?_
  refine cs_put (D := E.1) (i := 0) (ci := 1) (v := .int 1) (ty := .int) (C := RX1) (T := TX1) (N := 7) hx hb hts (by decide +kernel) tyX1 tyX1_ok nmX1 hown hK hc (by decide) rfl rfl 1 (by decide) (hts (.fieldLink RX1 15 "ColourHouse$Batch" "kilos" "I") (by decide +kernel)) (fun _ h9 => h9) rfl (by decide +kernel) rfl rfl (Nat.le_of_ble_eq_true rfl) dX1_init_11 (fun H locs hc => ?_)
  rw [va_up_up] at hc
  have hc : CS E.1 h 1 (va_up (fun k => cX0 E (fmX1 k) (ixX1 i k)) 0 (.inr (1, [.int 0, .int 1, .int 0, .null, .null, .int 0, .null]))) s.heap H locs := hc
  refine lv_aload_n hx hb dX1_init_14 rfl (lv_at hl 0 rfl) ?_
  refine lv_iconst (v := 0) hx hb dX1_init_15 (by decide) ?_
  refine cs_put (D := E.1) (i := 0) (ci := 1) (v := .int 0) (ty := .int) (C := RX1) (T := TX1) (N := 7) hx hb hts (by decide +kernel) tyX1 tyX1_ok nmX1 hown hK hc (by decide) rfl rfl 2 (by decide) (hts (.fieldLink RX1 18 "ColourHouse$Batch" "lotCount" "I") (by decide +kernel)) (fun _ h9 => h9) rfl (by decide +kernel) rfl rfl (Nat.le_of_ble_eq_true rfl) dX1_init_16 (fun H locs hc => ?_)
  rw [va_up_up] at hc
  have hc : CS E.1 h 1 (va_up (fun k => cX0 E (fmX1 k) (ixX1 i k)) 0 (.inr (1, [.int 0, .int 1, .int 0, .null, .null, .int 0, .null]))) s.heap H locs := hc
  refine lv_aload_n hx hb dX1_init_19 rfl (lv_at hl 0 rfl) ?_
  refine lv_bipush (v := 8) hx hb dX1_init_20 (by decide) ?_
  refine cs_newaT (atype := .int) (ty := .int) (cA := E.2.1 0) (N' := 8) (a0 := (8, .inl (fun _ => 0))) hx hb (hts (.arrayClass .int) (by decide +kernel)) rfl ((hK.2 0 (E.2.1 0, .int) rfl).2) hc rfl (fun _ => rfl) (by decide) (by decide) (Nat.le_of_ble_eq_true rfl) (Nat.le_of_ble_eq_true rfl) (Nat.le_of_ble_eq_true rfl) dX1_init_22 (fun H hc => ?_)
  have hc : CS E.1 h 2 (va_up (fun k => cX0 E (fmX1 k) (ixX1 i k)) 0 (.inr (1, [.int 0, .int 1, .int 0, .null, .null, .int 0, .null]))) s.heap H locs := hc
  refine W.widen (k := 1) (n := 8) (by omega) (by omega) ?_
  refine cs_putF (D := E.1) (i := 0) (ci := 1) (v := .ref (h + 1)) (ty := .array .int) (C := RX1) (T := TX1) (N := 7) hx hb hts (by decide +kernel) tyX1 tyX1_ok nmX1 hown hK hc (by decide) rfl rfl 3 (by decide) (hts (.fieldLink RX1 21 "ColourHouse$Batch" "lots" "[I") (by decide +kernel)) (fun _ h9 => h9) rfl hin rfl (by decide +kernel) rfl rfl (Nat.le_of_ble_eq_true rfl) dX1_init_24 (fun H locs hc => ?_)
  rw [va_up_up] at hc
  have hc : CS E.1 h 2 (va_up (fun k => cX0 E (fmX1 k) (ixX1 i k)) 0 (.inr (1, [.int 0, .int 1, .int 0, .ref (h + 1), .null, .int 0, .null]))) s.heap H locs := hc
  refine lv_aload_n hx hb dX1_init_27 rfl (lv_at hl 0 rfl) ?_
  refine lv_bipush (v := 8) hx hb dX1_init_28 (by decide) ?_
  refine cs_newaT (atype := .int) (ty := .int) (cA := E.2.1 0) (N' := 8) (a0 := (8, .inl (fun _ => 0))) hx hb (hts (.arrayClass .int) (by decide +kernel)) rfl ((hK.2 0 (E.2.1 0, .int) rfl).2) hc rfl (fun _ => rfl) (by decide) (by decide) (Nat.le_of_ble_eq_true rfl) (Nat.le_of_ble_eq_true rfl) (Nat.le_of_ble_eq_true rfl) dX1_init_30 (fun H hc => ?_)
  have hc : CS E.1 h 3 (va_up (fun k => cX0 E (fmX1 k) (ixX1 i k)) 0 (.inr (1, [.int 0, .int 1, .int 0, .ref (h + 1), .null, .int 0, .null]))) s.heap H locs := hc
  refine W.widen (k := 2) (n := 16) (by omega) (by omega) ?_
  refine cs_putF (D := E.1) (i := 0) (ci := 1) (v := .ref (h + 2)) (ty := .array .int) (C := RX1) (T := TX1) (N := 7) hx hb hts (by decide +kernel) tyX1 tyX1_ok nmX1 hown hK hc (by decide) rfl rfl 4 (by decide) (hts (.fieldLink RX1 25 "ColourHouse$Batch" "grams" "[I") (by decide +kernel)) (fun _ h9 => h9) rfl hin rfl (by decide +kernel) rfl rfl (Nat.le_of_ble_eq_true rfl) dX1_init_32 (fun H locs hc => ?_)
  rw [va_up_up] at hc
  have hc : CS E.1 h 3 (va_up (fun k => cX0 E (fmX1 k) (ixX1 i k)) 0 (.inr (1, [.int 0, .int 1, .int 0, .ref (h + 1), .ref (h + 2), .int 0, .null]))) s.heap H locs := hc
  refine lv_aload_n hx hb dX1_init_35 rfl (lv_at hl 0 rfl) ?_
  refine lv_iconst (v := 0) hx hb dX1_init_36 (by decide) ?_
  refine cs_put (D := E.1) (i := 0) (ci := 1) (v := .int 0) (ty := .boolean) (C := RX1) (T := TX1) (N := 7) hx hb hts (by decide +kernel) tyX1 tyX1_ok nmX1 hown hK hc (by decide) rfl rfl 5 (by decide) (hts (.fieldLink RX1 28 "ColourHouse$Batch" "isMeasured" "Z") (by decide +kernel)) (fun _ h9 => h9) rfl (by decide +kernel) rfl rfl (Nat.le_of_ble_eq_true rfl) dX1_init_37 (fun H locs hc => ?_)
  rw [va_up_up] at hc
  have hc : CS E.1 h 3 (va_up (fun k => cX0 E (fmX1 k) (ixX1 i k)) 0 (.inr (1, [.int 0, .int 1, .int 0, .ref (h + 1), .ref (h + 2), .int 0, .null]))) s.heap H locs := hc
  refine lv_aload_n hx hb dX1_init_40 rfl (lv_at hl 0 rfl) ?_
  refine lv_bipush (v := 16) hx hb dX1_init_41 (by decide) ?_
  refine cs_newaT (atype := .float) (ty := .float) (cA := E.2.1 1) (N' := 16) (a0 := (16, .inr (.inr (.inl (fun _ => 0))))) hx hb (hts (.arrayClass .float) (by decide +kernel)) rfl ((hK.2 1 (E.2.1 1, .float) rfl).2) hc rfl (fun _ => rfl) (by decide) (by decide) (Nat.le_of_ble_eq_true rfl) (Nat.le_of_ble_eq_true rfl) (Nat.le_of_ble_eq_true rfl) dX1_init_43 (fun H hc => ?_)
  have hc : CS E.1 h 4 (va_up (fun k => cX0 E (fmX1 k) (ixX1 i k)) 0 (.inr (1, [.int 0, .int 1, .int 0, .ref (h + 1), .ref (h + 2), .int 0, .null]))) s.heap H locs := hc
  refine W.widen (k := 3) (n := 32) (by omega) (by omega) ?_
  refine cs_putF (D := E.1) (i := 0) (ci := 1) (v := .ref (h + 3)) (ty := .array .float) (C := RX1) (T := TX1) (N := 7) hx hb hts (by decide +kernel) tyX1 tyX1_ok nmX1 hown hK hc (by decide) rfl rfl 6 (by decide) (hts (.fieldLink RX1 32 "ColourHouse$Batch" "cameTo" "[F") (by decide +kernel)) (fun _ h9 => h9) rfl hin rfl (by decide +kernel) rfl rfl (Nat.le_of_ble_eq_true rfl) dX1_init_45 (fun H locs hc => ?_)
  rw [va_up_up] at hc
  have hc : CS E.1 h 4 (va_up (fun k => cX0 E (fmX1 k) (ixX1 i k)) 0 (.inr (1, [.int 0, .int 1, .int 0, .ref (h + 1), .ref (h + 2), .int 0, .ref (h + 3)]))) s.heap H locs := hc
  have hfin : cX0 E (fmX1 0) (ixX1 i 0) = .inr (1, [.int 0, .int 1, .int 0, .ref (h + 1), .ref (h + 2), .int 0, .ref (h + 3)]) := by
    show cX0 E 30 i = _
    unfold cX0 cellX
    rw [show E.2.2.1 31 i = h + 1 from hlay 1 (by decide), show E.2.2.1 32 i = h + 2 from hlay 2 (by decide), show E.2.2.1 33 i = h + 3 from hlay 3 (by decide)]
    rfl
  rw [va_up_id (f := fun k => cX0 E (fmX1 k) (ixX1 i k)) (k := 0) hfin] at hc
  exact W.vret hx hb hr (fun t ht hW => ⟨⟨(), rfl, trivial, by rw [ht]; exact hc.1, fun k hk => by rw [ht]; exact hc.2.1 k hk⟩, by rw [ht, hc.1, hsz]; omega, fun q h1 h2 => by rw [ht]; exact hc.2.2.1 q (by omega)⟩) (fun z hz => hc.2.2.2 z hz) dX1_init_48 hlocks
def fmX3 (k : Nat) : Nat := if k < 1 then 22 else if k < 2 then 23 else if k < 3 then 24 else 25
def ixX3 (i k : Nat) : Nat := if k < 1 then i else if k < 2 then i else if k < 3 then i else 6 * i + (k - 3)

set_option maxHeartbeats 4000000 in
set_option maxRecDepth 100000 in
theorem ctX3 (l : Launch) (E : XE) (i h : Nat) (hlay : ∀ k, k < 9 → E.2.2.1 (fmX3 k) (ixX3 i k) = h + k) : CT l yX3_init wsX3_init ({ frames := 1, cells := 8, slots := 108, locals := 12 }) E.1 E.2.1 AOX 3 [.int 0, .int 0, .int 0, .null, .null] h (fun k => cX0 E (fmX3 k) (ixX3 i k)) 9 8 108 := by
  refine Met.ofW (cc := cX3_init) (maxL := 1) (ret := none) (by decide) rfl ?_
  intro p e s m args below meth c s₁ B hml hv
  obtain ⟨rfl, ⟨hsz, hP⟩, hK, hA⟩ := hv
  have hx := B.exec
  have hb := B.bytes
  have hr := B.returns
  have hts := atoms_spec (ws := wsX3_init) B.pre
  have hown : s.vm.findClass RX3 = some m.cls := findClass_of_methodNamed B.named
  have hlocks := B.notSynchronized
  have hin : meth.name = "<init>" := (name_of_methodNamed B.named B.method).1
  have hl := lv_entry ([.ref h]) (n := 1) (Nat.le_of_ble_eq_true rfl)
  rw [lg_entry_eq]
  generalize (lg_sl ([.ref h]) ++ List.replicate (1 - (lg_sl ([.ref h])).length) Slot.unset).toArray = ls at hl ⊢
  have hl : lv_has ls 1 [(0, .ref h)] := hl
  obtain ⟨locs, hlocs⟩ : ∃ q : List Loc, q = [] := ⟨_, rfl⟩
  have hc : CS E.1 h 1 (va_up (fun k => cX0 E (fmX3 k) (ixX3 i k)) 0 (.inr (3, [.int 0, .int 0, .int 0, .null, .null]))) s.heap s.heap locs := ⟨hsz, fun k hk => by rw [show k = 0 by omega]; exact hP, fun _ _ => rfl, by rw [hlocs]; exact fun z hz => by cases hz⟩
  rw [← hlocs]
  clear hlocs
  refine lv_aload_n hx hb dX3_init_0 rfl (lv_at hl 0 rfl) ?_
  refine W.objInit hx hb hown (hts (.methodLink RX3 3 objectInit) (by decide +kernel)) (hts (.instanceMethod objectInit) (by decide +kernel)) (hts _ (List.mem_of_getElem? (i := 3) rfl)) rfl (by rw [hml]; exact hl.1) rfl dX3_init_1 (Nat.le_of_ble_eq_true rfl) (Nat.le_of_ble_eq_true rfl) ?_
  refine W.eq (g2 := F0 m 4 ls []) rfl ?_
  refine lv_aload_n hx hb dX3_init_4 rfl (lv_at hl 0 rfl) ?_
  refine lv_iconst (v := 0) hx hb dX3_init_5 (by decide) ?_
  refine cs_put (D := E.1) (i := 0) (ci := 3) (v := .int 0) (ty := .int) (C := RX3) (T := TX3) (N := 5) hx hb hts (by decide +kernel) tyX3 tyX3_ok nmX3 hown hK hc (by decide) rfl rfl 0 (by decide) (hts (.fieldLink RX3 9 "ColourHouse$Dye" "cloth" "I") (by decide +kernel)) (fun _ h9 => h9) rfl (by decide +kernel) rfl rfl (Nat.le_of_ble_eq_true rfl) dX3_init_6 (fun H locs hc => ?_)
  rw [va_up_up] at hc
  have hc : CS E.1 h 1 (va_up (fun k => cX0 E (fmX3 k) (ixX3 i k)) 0 (.inr (3, [.int 0, .int 0, .int 0, .null, .null]))) s.heap H locs := hc
  refine lv_aload_n hx hb dX3_init_9 rfl (lv_at hl 0 rfl) ?_
  refine lv_iconst (v := 0) hx hb dX3_init_10 (by decide) ?_
  refine cs_put (D := E.1) (i := 0) (ci := 3) (v := .int 0) (ty := .int) (C := RX3) (T := TX3) (N := 5) hx hb hts (by decide +kernel) tyX3 tyX3_ok nmX3 hown hK hc (by decide) rfl rfl 1 (by decide) (hts (.fieldLink RX3 15 "ColourHouse$Dye" "cents" "I") (by decide +kernel)) (fun _ h9 => h9) rfl (by decide +kernel) rfl rfl (Nat.le_of_ble_eq_true rfl) dX3_init_11 (fun H locs hc => ?_)
  rw [va_up_up] at hc
  have hc : CS E.1 h 1 (va_up (fun k => cX0 E (fmX3 k) (ixX3 i k)) 0 (.inr (3, [.int 0, .int 0, .int 0, .null, .null]))) s.heap H locs := hc
  refine lv_aload_n hx hb dX3_init_14 rfl (lv_at hl 0 rfl) ?_
  refine lv_iconst (v := 0) hx hb dX3_init_15 (by decide) ?_
  refine cs_put (D := E.1) (i := 0) (ci := 3) (v := .int 0) (ty := .int) (C := RX3) (T := TX3) (N := 5) hx hb hts (by decide +kernel) tyX3 tyX3_ok nmX3 hown hK hc (by decide) rfl rfl 2 (by decide) (hts (.fieldLink RX3 18 "ColourHouse$Dye" "strengths" "I") (by decide +kernel)) (fun _ h9 => h9) rfl (by decide +kernel) rfl rfl (Nat.le_of_ble_eq_true rfl) dX3_init_16 (fun H locs hc => ?_)
  rw [va_up_up] at hc
  have hc : CS E.1 h 1 (va_up (fun k => cX0 E (fmX3 k) (ixX3 i k)) 0 (.inr (3, [.int 0, .int 0, .int 0, .null, .null]))) s.heap H locs := hc
  refine lv_aload_n hx hb dX3_init_19 rfl (lv_at hl 0 rfl) ?_
  refine lv_bipush (v := 6) hx hb dX3_init_20 (by decide) ?_
  refine cs_newaT (atype := .int) (ty := .int) (cA := E.2.1 0) (N' := 6) (a0 := (6, .inl (fun _ => 0))) hx hb (hts (.arrayClass .int) (by decide +kernel)) rfl ((hK.2 0 (E.2.1 0, .int) rfl).2) hc rfl (fun _ => rfl) (by decide) (by decide) (Nat.le_of_ble_eq_true rfl) (Nat.le_of_ble_eq_true rfl) (Nat.le_of_ble_eq_true rfl) dX3_init_22 (fun H hc => ?_)
  have hc : CS E.1 h 2 (va_up (fun k => cX0 E (fmX3 k) (ixX3 i k)) 0 (.inr (3, [.int 0, .int 0, .int 0, .null, .null]))) s.heap H locs := hc
  refine W.widen (k := 1) (n := 6) (by omega) (by omega) ?_
  refine cs_putF (D := E.1) (i := 0) (ci := 3) (v := .ref (h + 1)) (ty := .array .int) (C := RX3) (T := TX3) (N := 5) hx hb hts (by decide +kernel) tyX3 tyX3_ok nmX3 hown hK hc (by decide) rfl rfl 3 (by decide) (hts (.fieldLink RX3 21 "ColourHouse$Dye" "grams" "[I") (by decide +kernel)) (fun _ h9 => h9) rfl hin rfl (by decide +kernel) rfl rfl (Nat.le_of_ble_eq_true rfl) dX3_init_24 (fun H locs hc => ?_)
  rw [va_up_up] at hc
  have hc : CS E.1 h 2 (va_up (fun k => cX0 E (fmX3 k) (ixX3 i k)) 0 (.inr (3, [.int 0, .int 0, .int 0, .ref (h + 1), .null]))) s.heap H locs := hc
  refine lv_aload_n hx hb dX3_init_27 rfl (lv_at hl 0 rfl) ?_
  refine lv_bipush (v := 6) hx hb dX3_init_28 (by decide) ?_
  refine lv_bipush (v := 16) hx hb dX3_init_30 (by decide) ?_
  refine cs_mnaT (ty := .double) (cy := E.2.1 2) (cA := E.2.1 5) (N' := 6) (K' := 16) (z := (16, .inr (.inr (.inr (.inl (fun _ => 0)))))) hx hb hown (hts (.classLink RX3 25 ("[" ++ (FieldType.array .double).toString)) (by decide +kernel)) hA.2.2.1 (hts (.arrayClass .double) (by decide +kernel)) ((hK.2 2 (E.2.1 2, .double) rfl).2) ((hK.2 5 (E.2.1 5, .array .double) rfl).2) hc rfl (fun j hj => ?_) (fun j hj => ?_) (by decide) (by decide) (by decide) (by decide) (Nat.le_of_ble_eq_true rfl) (Nat.le_of_ble_eq_true rfl) (Nat.le_of_ble_eq_true rfl) rfl rfl (Nat.le_of_ble_eq_true rfl) (Nat.le_of_ble_eq_true rfl) (fun c9 => by rw [show Jvm.Free.Multi.innerC c9 16 (defaultValue .double) = ({ cls := c9, slots := Array.replicate 16 (defaultValue .double), vm := .none } : Cell) from rfl, arrV_new]; rfl) dX3_init_32 (fun H hc => ?_)
  · have q1 : fmX3 (3 + j) = 25 := by unfold fmX3; repeat (first | rw [if_pos (by omega)] | rw [if_neg (by omega)])
    have q2 : ixX3 i (3 + j) = 6 * i + j := by unfold ixX3; (repeat (first | rw [if_pos (by omega)] | rw [if_neg (by omega)])); (all_goals omega)
    have q3 := hlay (3 + j) (by omega)
    rw [q1, q2] at q3
    show some (E.2.2.1 25 (6 * i + j)) = _
    rw [q3]
    congr 1
    omega
  · have q1 : fmX3 (3 + j) = 25 := by unfold fmX3; repeat (first | rw [if_pos (by omega)] | rw [if_neg (by omega)])
    rw [show 2 + 1 + j = 3 + j from rfl, va_up_ne _ _ (by omega), q1]
    rfl
  have hc : CS E.1 h 9 (va_up (fun k => cX0 E (fmX3 k) (ixX3 i k)) 0 (.inr (3, [.int 0, .int 0, .int 0, .ref (h + 1), .null]))) s.heap H locs := hc
  refine W.widen (k := 8) (n := 108) (by omega) (by omega) ?_
  refine cs_putF (D := E.1) (i := 0) (ci := 3) (v := .ref (h + 2)) (ty := .array (.array .double)) (C := RX3) (T := TX3) (N := 5) hx hb hts (by decide +kernel) tyX3 tyX3_ok nmX3 hown hK hc (by decide) rfl rfl 4 (by decide) (hts (.fieldLink RX3 27 "ColourHouse$Dye" "own" "[[D") (by decide +kernel)) (fun _ h9 => h9) rfl hin rfl (by decide +kernel) rfl rfl (Nat.le_of_ble_eq_true rfl) dX3_init_36 (fun H locs hc => ?_)
  rw [va_up_up] at hc
  have hc : CS E.1 h 9 (va_up (fun k => cX0 E (fmX3 k) (ixX3 i k)) 0 (.inr (3, [.int 0, .int 0, .int 0, .ref (h + 1), .ref (h + 2)]))) s.heap H locs := hc
  have hfin : cX0 E (fmX3 0) (ixX3 i 0) = .inr (3, [.int 0, .int 0, .int 0, .ref (h + 1), .ref (h + 2)]) := by
    show cX0 E 22 i = _
    unfold cX0 cellX
    rw [show E.2.2.1 23 i = h + 1 from hlay 1 (by decide), show E.2.2.1 24 i = h + 2 from hlay 2 (by decide)]
    rfl
  rw [va_up_id (f := fun k => cX0 E (fmX3 k) (ixX3 i k)) (k := 0) hfin] at hc
  exact W.vret hx hb hr (fun t ht hW => ⟨⟨(), rfl, trivial, by rw [ht]; exact hc.1, fun k hk => by rw [ht]; exact hc.2.1 k hk⟩, by rw [ht, hc.1, hsz]; omega, fun q h1 h2 => by rw [ht]; exact hc.2.2.1 q (by omega)⟩) (fun z hz => hc.2.2.2 z hz) dX3_init_39 hlocks
def fmX5 (k : Nat) : Nat := if k < 1 then 17 else if k < 2 then 52 else 53
def ixX5 (i k : Nat) : Nat := if k < 1 then 0 else if k < 2 then 0 else 0

set_option maxHeartbeats 4000000 in
set_option maxRecDepth 100000 in
theorem ctX5 (l : Launch) (E : XE) (i h : Nat) (hlay : ∀ k, k < 3 → E.2.2.1 (fmX5 k) (ixX5 i k) = h + k) : CT l yX5_init wsX5_init ({ frames := 1, cells := 2, slots := 136, locals := 12 }) E.1 E.2.1 AOX 5 [.null, .int 0, .null] h (fun k => cX0 E (fmX5 k) (ixX5 i k)) 3 2 136 := by
  refine Met.ofW (cc := cX5_init) (maxL := 1) (ret := none) (by decide) rfl ?_
  intro p e s m args below meth c s₁ B hml hv
  obtain ⟨rfl, ⟨hsz, hP⟩, hK, hA⟩ := hv
  have hx := B.exec
  have hb := B.bytes
  have hr := B.returns
  have hts := atoms_spec (ws := wsX5_init) B.pre
  have hown : s.vm.findClass RX5 = some m.cls := findClass_of_methodNamed B.named
  have hlocks := B.notSynchronized
  have hin : meth.name = "<init>" := (name_of_methodNamed B.named B.method).1
  have hl := lv_entry ([.ref h]) (n := 1) (Nat.le_of_ble_eq_true rfl)
  rw [lg_entry_eq]
  generalize (lg_sl ([.ref h]) ++ List.replicate (1 - (lg_sl ([.ref h])).length) Slot.unset).toArray = ls at hl ⊢
  have hl : lv_has ls 1 [(0, .ref h)] := hl
  obtain ⟨locs, hlocs⟩ : ∃ q : List Loc, q = [] := ⟨_, rfl⟩
  have hc : CS E.1 h 1 (va_up (fun k => cX0 E (fmX5 k) (ixX5 i k)) 0 (.inr (5, [.null, .int 0, .null]))) s.heap s.heap locs := ⟨hsz, fun k hk => by rw [show k = 0 by omega]; exact hP, fun _ _ => rfl, by rw [hlocs]; exact fun z hz => by cases hz⟩
  rw [← hlocs]
  clear hlocs
  refine lv_aload_n hx hb dX5_init_0 rfl (lv_at hl 0 rfl) ?_
  refine W.objInit hx hb hown (hts (.methodLink RX5 3 objectInit) (by decide +kernel)) (hts (.instanceMethod objectInit) (by decide +kernel)) (hts _ (List.mem_of_getElem? (i := 3) rfl)) rfl (by rw [hml]; exact hl.1) rfl dX5_init_1 (Nat.le_of_ble_eq_true rfl) (Nat.le_of_ble_eq_true rfl) ?_
  refine W.eq (g2 := F0 m 4 ls []) rfl ?_
  refine lv_aload_n hx hb dX5_init_4 rfl (lv_at hl 0 rfl) ?_
  refine lv_bipush (v := 68) hx hb dX5_init_5 (by decide) ?_
  refine cs_newaT (atype := .int) (ty := .int) (cA := E.2.1 0) (N' := 68) (a0 := (68, .inl (fun _ => 0))) hx hb (hts (.arrayClass .int) (by decide +kernel)) rfl ((hK.2 0 (E.2.1 0, .int) rfl).2) hc rfl (fun _ => rfl) (by decide) (by decide) (Nat.le_of_ble_eq_true rfl) (Nat.le_of_ble_eq_true rfl) (Nat.le_of_ble_eq_true rfl) dX5_init_7 (fun H hc => ?_)
  have hc : CS E.1 h 2 (va_up (fun k => cX0 E (fmX5 k) (ixX5 i k)) 0 (.inr (5, [.null, .int 0, .null]))) s.heap H locs := hc
  refine W.widen (k := 1) (n := 68) (by omega) (by omega) ?_
  refine cs_putF (D := E.1) (i := 0) (ci := 5) (v := .ref (h + 1)) (ty := .array .int) (C := RX5) (T := TX5) (N := 3) hx hb hts (by decide +kernel) tyX5 tyX5_ok nmX5 hown hK hc (by decide) rfl rfl 0 (by decide) (hts (.fieldLink RX5 11 "ColourHouse$Mail" "outBytes" "[I") (by decide +kernel)) (fun _ h9 => h9) rfl hin rfl (by decide +kernel) rfl rfl (Nat.le_of_ble_eq_true rfl) dX5_init_9 (fun H locs hc => ?_)
  rw [va_up_up] at hc
  have hc : CS E.1 h 2 (va_up (fun k => cX0 E (fmX5 k) (ixX5 i k)) 0 (.inr (5, [.ref (h + 1), .int 0, .null]))) s.heap H locs := hc
  refine lv_aload_n hx hb dX5_init_12 rfl (lv_at hl 0 rfl) ?_
  refine lv_iconst (v := 0) hx hb dX5_init_13 (by decide) ?_
  refine cs_put (D := E.1) (i := 0) (ci := 5) (v := .int 0) (ty := .int) (C := RX5) (T := TX5) (N := 3) hx hb hts (by decide +kernel) tyX5 tyX5_ok nmX5 hown hK hc (by decide) rfl rfl 1 (by decide) (hts (.fieldLink RX5 15 "ColourHouse$Mail" "outSize" "I") (by decide +kernel)) (fun _ h9 => h9) rfl (by decide +kernel) rfl rfl (Nat.le_of_ble_eq_true rfl) dX5_init_14 (fun H locs hc => ?_)
  rw [va_up_up] at hc
  have hc : CS E.1 h 2 (va_up (fun k => cX0 E (fmX5 k) (ixX5 i k)) 0 (.inr (5, [.ref (h + 1), .int 0, .null]))) s.heap H locs := hc
  refine lv_aload_n hx hb dX5_init_17 rfl (lv_at hl 0 rfl) ?_
  refine lv_bipush (v := 68) hx hb dX5_init_18 (by decide) ?_
  refine cs_newaT (atype := .int) (ty := .int) (cA := E.2.1 0) (N' := 68) (a0 := (68, .inl (fun _ => 0))) hx hb (hts (.arrayClass .int) (by decide +kernel)) rfl ((hK.2 0 (E.2.1 0, .int) rfl).2) hc rfl (fun _ => rfl) (by decide) (by decide) (Nat.le_of_ble_eq_true rfl) (Nat.le_of_ble_eq_true rfl) (Nat.le_of_ble_eq_true rfl) dX5_init_20 (fun H hc => ?_)
  have hc : CS E.1 h 3 (va_up (fun k => cX0 E (fmX5 k) (ixX5 i k)) 0 (.inr (5, [.ref (h + 1), .int 0, .null]))) s.heap H locs := hc
  refine W.widen (k := 2) (n := 136) (by omega) (by omega) ?_
  refine cs_putF (D := E.1) (i := 0) (ci := 5) (v := .ref (h + 2)) (ty := .array .int) (C := RX5) (T := TX5) (N := 3) hx hb hts (by decide +kernel) tyX5 tyX5_ok nmX5 hown hK hc (by decide) rfl rfl 2 (by decide) (hts (.fieldLink RX5 19 "ColourHouse$Mail" "letterBytes" "[I") (by decide +kernel)) (fun _ h9 => h9) rfl hin rfl (by decide +kernel) rfl rfl (Nat.le_of_ble_eq_true rfl) dX5_init_22 (fun H locs hc => ?_)
  rw [va_up_up] at hc
  have hc : CS E.1 h 3 (va_up (fun k => cX0 E (fmX5 k) (ixX5 i k)) 0 (.inr (5, [.ref (h + 1), .int 0, .ref (h + 2)]))) s.heap H locs := hc
  have hfin : cX0 E (fmX5 0) (ixX5 i 0) = .inr (5, [.ref (h + 1), .int 0, .ref (h + 2)]) := by
    show cX0 E 17 0 = _
    unfold cX0 cellX
    rw [show E.2.2.1 52 0 = h + 1 from hlay 1 (by decide), show E.2.2.1 53 0 = h + 2 from hlay 2 (by decide)]
    rfl
  rw [va_up_id (f := fun k => cX0 E (fmX5 k) (ixX5 i k)) (k := 0) hfin] at hc
  exact W.vret hx hb hr (fun t ht hW => ⟨⟨(), rfl, trivial, by rw [ht]; exact hc.1, fun k hk => by rw [ht]; exact hc.2.1 k hk⟩, by rw [ht, hc.1, hsz]; omega, fun q h1 h2 => by rw [ht]; exact hc.2.2.1 q (by omega)⟩) (fun z hz => hc.2.2.2 z hz) dX5_init_25 hlocks
def fmX6 (k : Nat) : Nat := if k < 1 then 15 else if k < 2 then 43 else 44
def ixX6 (i k : Nat) : Nat := if k < 1 then 0 else if k < 2 then 0 else 0

set_option maxHeartbeats 4000000 in
set_option maxRecDepth 100000 in
theorem ctX6 (l : Launch) (E : XE) (i h : Nat) (hlay : ∀ k, k < 3 → E.2.2.1 (fmX6 k) (ixX6 i k) = h + k) : CT l yX6_init wsX6_init ({ frames := 1, cells := 2, slots := 32, locals := 12 }) E.1 E.2.1 AOX 6 [.null, .null] h (fun k => cX0 E (fmX6 k) (ixX6 i k)) 3 2 32 := by
  refine Met.ofW (cc := cX6_init) (maxL := 1) (ret := none) (by decide) rfl ?_
  intro p e s m args below meth c s₁ B hml hv
  obtain ⟨rfl, ⟨hsz, hP⟩, hK, hA⟩ := hv
  have hx := B.exec
  have hb := B.bytes
  have hr := B.returns
  have hts := atoms_spec (ws := wsX6_init) B.pre
  have hown : s.vm.findClass RX6 = some m.cls := findClass_of_methodNamed B.named
  have hlocks := B.notSynchronized
  have hin : meth.name = "<init>" := (name_of_methodNamed B.named B.method).1
  have hl := lv_entry ([.ref h]) (n := 1) (Nat.le_of_ble_eq_true rfl)
  rw [lg_entry_eq]
  generalize (lg_sl ([.ref h]) ++ List.replicate (1 - (lg_sl ([.ref h])).length) Slot.unset).toArray = ls at hl ⊢
  have hl : lv_has ls 1 [(0, .ref h)] := hl
  obtain ⟨locs, hlocs⟩ : ∃ q : List Loc, q = [] := ⟨_, rfl⟩
  have hc : CS E.1 h 1 (va_up (fun k => cX0 E (fmX6 k) (ixX6 i k)) 0 (.inr (6, [.null, .null]))) s.heap s.heap locs := ⟨hsz, fun k hk => by rw [show k = 0 by omega]; exact hP, fun _ _ => rfl, by rw [hlocs]; exact fun z hz => by cases hz⟩
  rw [← hlocs]
  clear hlocs
  refine lv_aload_n hx hb dX6_init_0 rfl (lv_at hl 0 rfl) ?_
  refine W.objInit hx hb hown (hts (.methodLink RX6 3 objectInit) (by decide +kernel)) (hts (.instanceMethod objectInit) (by decide +kernel)) (hts _ (List.mem_of_getElem? (i := 3) rfl)) rfl (by rw [hml]; exact hl.1) rfl dX6_init_1 (Nat.le_of_ble_eq_true rfl) (Nat.le_of_ble_eq_true rfl) ?_
  refine W.eq (g2 := F0 m 4 ls []) rfl ?_
  refine lv_aload_n hx hb dX6_init_4 rfl (lv_at hl 0 rfl) ?_
  refine lv_bipush (v := 16) hx hb dX6_init_5 (by decide) ?_
  refine cs_newaT (atype := .double) (ty := .double) (cA := E.2.1 2) (N' := 16) (a0 := (16, .inr (.inr (.inr (.inl (fun _ => 0)))))) hx hb (hts (.arrayClass .double) (by decide +kernel)) rfl ((hK.2 2 (E.2.1 2, .double) rfl).2) hc rfl (fun _ => rfl) (by decide) (by decide) (Nat.le_of_ble_eq_true rfl) (Nat.le_of_ble_eq_true rfl) (Nat.le_of_ble_eq_true rfl) dX6_init_7 (fun H hc => ?_)
  have hc : CS E.1 h 2 (va_up (fun k => cX0 E (fmX6 k) (ixX6 i k)) 0 (.inr (6, [.null, .null]))) s.heap H locs := hc
  refine W.widen (k := 1) (n := 16) (by omega) (by omega) ?_
  refine cs_putF (D := E.1) (i := 0) (ci := 6) (v := .ref (h + 1)) (ty := .array .double) (C := RX6) (T := TX6) (N := 2) hx hb hts (by decide +kernel) tyX6 tyX6_ok nmX6 hown hK hc (by decide) rfl rfl 0 (by decide) (hts (.fieldLink RX6 9 "ColourHouse$Mix" "quotients" "[D") (by decide +kernel)) (fun _ h9 => h9) rfl hin rfl (by decide +kernel) rfl rfl (Nat.le_of_ble_eq_true rfl) dX6_init_9 (fun H locs hc => ?_)
  rw [va_up_up] at hc
  have hc : CS E.1 h 2 (va_up (fun k => cX0 E (fmX6 k) (ixX6 i k)) 0 (.inr (6, [.ref (h + 1), .null]))) s.heap H locs := hc
  refine lv_aload_n hx hb dX6_init_12 rfl (lv_at hl 0 rfl) ?_
  refine lv_bipush (v := 16) hx hb dX6_init_13 (by decide) ?_
  refine cs_newaT (atype := .float) (ty := .float) (cA := E.2.1 1) (N' := 16) (a0 := (16, .inr (.inr (.inl (fun _ => 0))))) hx hb (hts (.arrayClass .float) (by decide +kernel)) rfl ((hK.2 1 (E.2.1 1, .float) rfl).2) hc rfl (fun _ => rfl) (by decide) (by decide) (Nat.le_of_ble_eq_true rfl) (Nat.le_of_ble_eq_true rfl) (Nat.le_of_ble_eq_true rfl) dX6_init_15 (fun H hc => ?_)
  have hc : CS E.1 h 3 (va_up (fun k => cX0 E (fmX6 k) (ixX6 i k)) 0 (.inr (6, [.ref (h + 1), .null]))) s.heap H locs := hc
  refine W.widen (k := 2) (n := 32) (by omega) (by omega) ?_
  refine cs_putF (D := E.1) (i := 0) (ci := 6) (v := .ref (h + 2)) (ty := .array .float) (C := RX6) (T := TX6) (N := 2) hx hb hts (by decide +kernel) tyX6 tyX6_ok nmX6 hown hK hc (by decide) rfl rfl 1 (by decide) (hts (.fieldLink RX6 15 "ColourHouse$Mix" "made" "[F") (by decide +kernel)) (fun _ h9 => h9) rfl hin rfl (by decide +kernel) rfl rfl (Nat.le_of_ble_eq_true rfl) dX6_init_17 (fun H locs hc => ?_)
  rw [va_up_up] at hc
  have hc : CS E.1 h 3 (va_up (fun k => cX0 E (fmX6 k) (ixX6 i k)) 0 (.inr (6, [.ref (h + 1), .ref (h + 2)]))) s.heap H locs := hc
  have hfin : cX0 E (fmX6 0) (ixX6 i 0) = .inr (6, [.ref (h + 1), .ref (h + 2)]) := by
    show cX0 E 15 0 = _
    unfold cX0 cellX
    rw [show E.2.2.1 43 0 = h + 1 from hlay 1 (by decide), show E.2.2.1 44 0 = h + 2 from hlay 2 (by decide)]
    rfl
  rw [va_up_id (f := fun k => cX0 E (fmX6 k) (ixX6 i k)) (k := 0) hfin] at hc
  exact W.vret hx hb hr (fun t ht hW => ⟨⟨(), rfl, trivial, by rw [ht]; exact hc.1, fun k hk => by rw [ht]; exact hc.2.1 k hk⟩, by rw [ht, hc.1, hsz]; omega, fun q h1 h2 => by rw [ht]; exact hc.2.2.1 q (by omega)⟩) (fun z hz => hc.2.2.2 z hz) dX6_init_20 hlocks
def fmX8 (k : Nat) : Nat := if k < 1 then 16 else if k < 2 then 45 else if k < 3 then 46 else if k < 4 then 47 else if k < 5 then 48 else if k < 6 then 49 else if k < 7 then 50 else 51
def ixX8 (i k : Nat) : Nat := if k < 1 then i else if k < 2 then i else if k < 3 then i else if k < 4 then i else if k < 5 then i else if k < 6 then i else if k < 7 then i else i

set_option maxHeartbeats 4000000 in
set_option maxRecDepth 100000 in
theorem ctX8 (l : Launch) (E : XE) (i h : Nat) (hlay : ∀ k, k < 8 → E.2.2.1 (fmX8 k) (ixX8 i k) = h + k) : CT l yX8_init wsX8_init ({ frames := 1, cells := 7, slots := 72, locals := 12 }) E.1 E.2.1 AOX 7 [.null, .null, .null, .int 0, .int 0, .int 0, .int 0, .null, .null, .int 0, .int 0, .int 0, .int 0, .int 0, .null, .null, .int 0, .double 0, .long 0] h (fun k => cX0 E (fmX8 k) (ixX8 i k)) 8 7 72 := by
  refine Met.ofW (cc := cX8_init) (maxL := 1) (ret := none) (by decide) rfl ?_
  intro p e s m args below meth c s₁ B hml hv
  obtain ⟨rfl, ⟨hsz, hP⟩, hK, hA⟩ := hv
  have hx := B.exec
  have hb := B.bytes
  have hr := B.returns
  have hts := atoms_spec (ws := wsX8_init) B.pre
  have hown : s.vm.findClass RX8 = some m.cls := findClass_of_methodNamed B.named
  have hlocks := B.notSynchronized
  have hin : meth.name = "<init>" := (name_of_methodNamed B.named B.method).1
  have hl := lv_entry ([.ref h]) (n := 1) (Nat.le_of_ble_eq_true rfl)
  rw [lg_entry_eq]
  generalize (lg_sl ([.ref h]) ++ List.replicate (1 - (lg_sl ([.ref h])).length) Slot.unset).toArray = ls at hl ⊢
  have hl : lv_has ls 1 [(0, .ref h)] := hl
  obtain ⟨locs, hlocs⟩ : ∃ q : List Loc, q = [] := ⟨_, rfl⟩
  have hc : CS E.1 h 1 (va_up (fun k => cX0 E (fmX8 k) (ixX8 i k)) 0 (.inr (7, [.null, .null, .null, .int 0, .int 0, .int 0, .int 0, .null, .null, .int 0, .int 0, .int 0, .int 0, .int 0, .null, .null, .int 0, .double 0, .long 0]))) s.heap s.heap locs := ⟨hsz, fun k hk => by rw [show k = 0 by omega]; exact hP, fun _ _ => rfl, by rw [hlocs]; exact fun z hz => by cases hz⟩
  rw [← hlocs]
  clear hlocs
  refine lv_aload_n hx hb dX8_init_0 rfl (lv_at hl 0 rfl) ?_
  refine W.objInit hx hb hown (hts (.methodLink RX8 3 objectInit) (by decide +kernel)) (hts (.instanceMethod objectInit) (by decide +kernel)) (hts _ (List.mem_of_getElem? (i := 3) rfl)) rfl (by rw [hml]; exact hl.1) rfl dX8_init_1 (Nat.le_of_ble_eq_true rfl) (Nat.le_of_ble_eq_true rfl) ?_
  refine W.eq (g2 := F0 m 4 ls []) rfl ?_
  refine lv_aload_n hx hb dX8_init_4 rfl (lv_at hl 0 rfl) ?_
  refine lv_bipush (v := 20) hx hb dX8_init_5 (by decide) ?_
  refine cs_newaT (atype := .int) (ty := .int) (cA := E.2.1 0) (N' := 20) (a0 := (20, .inl (fun _ => 0))) hx hb (hts (.arrayClass .int) (by decide +kernel)) rfl ((hK.2 0 (E.2.1 0, .int) rfl).2) hc rfl (fun _ => rfl) (by decide) (by decide) (Nat.le_of_ble_eq_true rfl) (Nat.le_of_ble_eq_true rfl) (Nat.le_of_ble_eq_true rfl) dX8_init_7 (fun H hc => ?_)
  have hc : CS E.1 h 2 (va_up (fun k => cX0 E (fmX8 k) (ixX8 i k)) 0 (.inr (7, [.null, .null, .null, .int 0, .int 0, .int 0, .int 0, .null, .null, .int 0, .int 0, .int 0, .int 0, .int 0, .null, .null, .int 0, .double 0, .long 0]))) s.heap H locs := hc
  refine W.widen (k := 1) (n := 20) (by omega) (by omega) ?_
  refine cs_putF (D := E.1) (i := 0) (ci := 7) (v := .ref (h + 1)) (ty := .array .int) (C := RX8) (T := TX8) (N := 19) hx hb hts (by decide +kernel) tyX8 tyX8_ok nmX8 hown hK hc (by decide) rfl rfl 0 (by decide) (hts (.fieldLink RX8 9 "ColourHouse$Search" "names" "[I") (by decide +kernel)) (fun _ h9 => h9) rfl hin rfl (by decide +kernel) rfl rfl (Nat.le_of_ble_eq_true rfl) dX8_init_9 (fun H locs hc => ?_)
  rw [va_up_up] at hc
  have hc : CS E.1 h 2 (va_up (fun k => cX0 E (fmX8 k) (ixX8 i k)) 0 (.inr (7, [.ref (h + 1), .null, .null, .int 0, .int 0, .int 0, .int 0, .null, .null, .int 0, .int 0, .int 0, .int 0, .int 0, .null, .null, .int 0, .double 0, .long 0]))) s.heap H locs := hc
  refine lv_aload_n hx hb dX8_init_12 rfl (lv_at hl 0 rfl) ?_
  refine lv_bipush (v := 20) hx hb dX8_init_13 (by decide) ?_
  refine cs_newaT (atype := .int) (ty := .int) (cA := E.2.1 0) (N' := 20) (a0 := (20, .inl (fun _ => 0))) hx hb (hts (.arrayClass .int) (by decide +kernel)) rfl ((hK.2 0 (E.2.1 0, .int) rfl).2) hc rfl (fun _ => rfl) (by decide) (by decide) (Nat.le_of_ble_eq_true rfl) (Nat.le_of_ble_eq_true rfl) (Nat.le_of_ble_eq_true rfl) dX8_init_15 (fun H hc => ?_)
  have hc : CS E.1 h 3 (va_up (fun k => cX0 E (fmX8 k) (ixX8 i k)) 0 (.inr (7, [.ref (h + 1), .null, .null, .int 0, .int 0, .int 0, .int 0, .null, .null, .int 0, .int 0, .int 0, .int 0, .int 0, .null, .null, .int 0, .double 0, .long 0]))) s.heap H locs := hc
  refine W.widen (k := 2) (n := 40) (by omega) (by omega) ?_
  refine cs_putF (D := E.1) (i := 0) (ci := 7) (v := .ref (h + 2)) (ty := .array .int) (C := RX8) (T := TX8) (N := 19) hx hb hts (by decide +kernel) tyX8 tyX8_ok nmX8 hown hK hc (by decide) rfl rfl 1 (by decide) (hts (.fieldLink RX8 15 "ColourHouse$Search" "limits" "[I") (by decide +kernel)) (fun _ h9 => h9) rfl hin rfl (by decide +kernel) rfl rfl (Nat.le_of_ble_eq_true rfl) dX8_init_17 (fun H locs hc => ?_)
  rw [va_up_up] at hc
  have hc : CS E.1 h 3 (va_up (fun k => cX0 E (fmX8 k) (ixX8 i k)) 0 (.inr (7, [.ref (h + 1), .ref (h + 2), .null, .int 0, .int 0, .int 0, .int 0, .null, .null, .int 0, .int 0, .int 0, .int 0, .int 0, .null, .null, .int 0, .double 0, .long 0]))) s.heap H locs := hc
  refine lv_aload_n hx hb dX8_init_20 rfl (lv_at hl 0 rfl) ?_
  refine lv_bipush (v := 20) hx hb dX8_init_21 (by decide) ?_
  refine cs_newaT (atype := .int) (ty := .int) (cA := E.2.1 0) (N' := 20) (a0 := (20, .inl (fun _ => 0))) hx hb (hts (.arrayClass .int) (by decide +kernel)) rfl ((hK.2 0 (E.2.1 0, .int) rfl).2) hc rfl (fun _ => rfl) (by decide) (by decide) (Nat.le_of_ble_eq_true rfl) (Nat.le_of_ble_eq_true rfl) (Nat.le_of_ble_eq_true rfl) dX8_init_23 (fun H hc => ?_)
  have hc : CS E.1 h 4 (va_up (fun k => cX0 E (fmX8 k) (ixX8 i k)) 0 (.inr (7, [.ref (h + 1), .ref (h + 2), .null, .int 0, .int 0, .int 0, .int 0, .null, .null, .int 0, .int 0, .int 0, .int 0, .int 0, .null, .null, .int 0, .double 0, .long 0]))) s.heap H locs := hc
  refine W.widen (k := 3) (n := 60) (by omega) (by omega) ?_
  refine cs_putF (D := E.1) (i := 0) (ci := 7) (v := .ref (h + 3)) (ty := .array .int) (C := RX8) (T := TX8) (N := 19) hx hb hts (by decide +kernel) tyX8 tyX8_ok nmX8 hown hK hc (by decide) rfl rfl 2 (by decide) (hts (.fieldLink RX8 18 "ColourHouse$Search" "needs" "[I") (by decide +kernel)) (fun _ h9 => h9) rfl hin rfl (by decide +kernel) rfl rfl (Nat.le_of_ble_eq_true rfl) dX8_init_25 (fun H locs hc => ?_)
  rw [va_up_up] at hc
  have hc : CS E.1 h 4 (va_up (fun k => cX0 E (fmX8 k) (ixX8 i k)) 0 (.inr (7, [.ref (h + 1), .ref (h + 2), .ref (h + 3), .int 0, .int 0, .int 0, .int 0, .null, .null, .int 0, .int 0, .int 0, .int 0, .int 0, .null, .null, .int 0, .double 0, .long 0]))) s.heap H locs := hc
  refine lv_aload_n hx hb dX8_init_28 rfl (lv_at hl 0 rfl) ?_
  refine lv_iconst (v := 0) hx hb dX8_init_29 (by decide) ?_
  refine cs_put (D := E.1) (i := 0) (ci := 7) (v := .int 0) (ty := .int) (C := RX8) (T := TX8) (N := 19) hx hb hts (by decide +kernel) tyX8 tyX8_ok nmX8 hown hK hc (by decide) rfl rfl 3 (by decide) (hts (.fieldLink RX8 21 "ColourHouse$Search" "offered" "I") (by decide +kernel)) (fun _ h9 => h9) rfl (by decide +kernel) rfl rfl (Nat.le_of_ble_eq_true rfl) dX8_init_30 (fun H locs hc => ?_)
  rw [va_up_up] at hc
  have hc : CS E.1 h 4 (va_up (fun k => cX0 E (fmX8 k) (ixX8 i k)) 0 (.inr (7, [.ref (h + 1), .ref (h + 2), .ref (h + 3), .int 0, .int 0, .int 0, .int 0, .null, .null, .int 0, .int 0, .int 0, .int 0, .int 0, .null, .null, .int 0, .double 0, .long 0]))) s.heap H locs := hc
  refine lv_aload_n hx hb dX8_init_33 rfl (lv_at hl 0 rfl) ?_
  refine lv_iconst (v := 0) hx hb dX8_init_34 (by decide) ?_
  refine cs_put (D := E.1) (i := 0) (ci := 7) (v := .int 0) (ty := .int) (C := RX8) (T := TX8) (N := 19) hx hb hts (by decide +kernel) tyX8 tyX8_ok nmX8 hown hK hc (by decide) rfl rfl 4 (by decide) (hts (.fieldLink RX8 25 "ColourHouse$Search" "most" "I") (by decide +kernel)) (fun _ h9 => h9) rfl (by decide +kernel) rfl rfl (Nat.le_of_ble_eq_true rfl) dX8_init_35 (fun H locs hc => ?_)
  rw [va_up_up] at hc
  have hc : CS E.1 h 4 (va_up (fun k => cX0 E (fmX8 k) (ixX8 i k)) 0 (.inr (7, [.ref (h + 1), .ref (h + 2), .ref (h + 3), .int 0, .int 0, .int 0, .int 0, .null, .null, .int 0, .int 0, .int 0, .int 0, .int 0, .null, .null, .int 0, .double 0, .long 0]))) s.heap H locs := hc
  refine lv_aload_n hx hb dX8_init_38 rfl (lv_at hl 0 rfl) ?_
  refine lv_iconst (v := 0) hx hb dX8_init_39 (by decide) ?_
  refine cs_put (D := E.1) (i := 0) (ci := 7) (v := .int 0) (ty := .int) (C := RX8) (T := TX8) (N := 19) hx hb hts (by decide +kernel) tyX8 tyX8_ok nmX8 hown hK hc (by decide) rfl rfl 5 (by decide) (hts (.fieldLink RX8 28 "ColourHouse$Search" "step" "I") (by decide +kernel)) (fun _ h9 => h9) rfl (by decide +kernel) rfl rfl (Nat.le_of_ble_eq_true rfl) dX8_init_40 (fun H locs hc => ?_)
  rw [va_up_up] at hc
  have hc : CS E.1 h 4 (va_up (fun k => cX0 E (fmX8 k) (ixX8 i k)) 0 (.inr (7, [.ref (h + 1), .ref (h + 2), .ref (h + 3), .int 0, .int 0, .int 0, .int 0, .null, .null, .int 0, .int 0, .int 0, .int 0, .int 0, .null, .null, .int 0, .double 0, .long 0]))) s.heap H locs := hc
  refine lv_aload_n hx hb dX8_init_43 rfl (lv_at hl 0 rfl) ?_
  refine lv_iconst (v := 0) hx hb dX8_init_44 (by decide) ?_
  refine cs_put (D := E.1) (i := 0) (ci := 7) (v := .int 0) (ty := .int) (C := RX8) (T := TX8) (N := 19) hx hb hts (by decide +kernel) tyX8 tyX8_ok nmX8 hown hK hc (by decide) rfl rfl 6 (by decide) (hts (.fieldLink RX8 31 "ColourHouse$Search" "room" "I") (by decide +kernel)) (fun _ h9 => h9) rfl (by decide +kernel) rfl rfl (Nat.le_of_ble_eq_true rfl) dX8_init_45 (fun H locs hc => ?_)
  rw [va_up_up] at hc
  have hc : CS E.1 h 4 (va_up (fun k => cX0 E (fmX8 k) (ixX8 i k)) 0 (.inr (7, [.ref (h + 1), .ref (h + 2), .ref (h + 3), .int 0, .int 0, .int 0, .int 0, .null, .null, .int 0, .int 0, .int 0, .int 0, .int 0, .null, .null, .int 0, .double 0, .long 0]))) s.heap H locs := hc
  refine lv_aload_n hx hb dX8_init_48 rfl (lv_at hl 0 rfl) ?_
  refine lv_iconst (v := 3) hx hb dX8_init_49 (by decide) ?_
  refine cs_newaT (atype := .int) (ty := .int) (cA := E.2.1 0) (N' := 3) (a0 := (3, .inl (fun _ => 0))) hx hb (hts (.arrayClass .int) (by decide +kernel)) rfl ((hK.2 0 (E.2.1 0, .int) rfl).2) hc rfl (fun _ => rfl) (by decide) (by decide) (Nat.le_of_ble_eq_true rfl) (Nat.le_of_ble_eq_true rfl) (Nat.le_of_ble_eq_true rfl) dX8_init_50 (fun H hc => ?_)
  have hc : CS E.1 h 5 (va_up (fun k => cX0 E (fmX8 k) (ixX8 i k)) 0 (.inr (7, [.ref (h + 1), .ref (h + 2), .ref (h + 3), .int 0, .int 0, .int 0, .int 0, .null, .null, .int 0, .int 0, .int 0, .int 0, .int 0, .null, .null, .int 0, .double 0, .long 0]))) s.heap H locs := hc
  refine W.widen (k := 4) (n := 63) (by omega) (by omega) ?_
  refine cs_putF (D := E.1) (i := 0) (ci := 7) (v := .ref (h + 4)) (ty := .array .int) (C := RX8) (T := TX8) (N := 19) hx hb hts (by decide +kernel) tyX8 tyX8_ok nmX8 hown hK hc (by decide) rfl rfl 7 (by decide) (hts (.fieldLink RX8 34 "ColourHouse$Search" "set" "[I") (by decide +kernel)) (fun _ h9 => h9) rfl hin rfl (by decide +kernel) rfl rfl (Nat.le_of_ble_eq_true rfl) dX8_init_52 (fun H locs hc => ?_)
  rw [va_up_up] at hc
  have hc : CS E.1 h 5 (va_up (fun k => cX0 E (fmX8 k) (ixX8 i k)) 0 (.inr (7, [.ref (h + 1), .ref (h + 2), .ref (h + 3), .int 0, .int 0, .int 0, .int 0, .ref (h + 4), .null, .int 0, .int 0, .int 0, .int 0, .int 0, .null, .null, .int 0, .double 0, .long 0]))) s.heap H locs := hc
  refine lv_aload_n hx hb dX8_init_55 rfl (lv_at hl 0 rfl) ?_
  refine lv_iconst (v := 3) hx hb dX8_init_56 (by decide) ?_
  refine cs_newaT (atype := .int) (ty := .int) (cA := E.2.1 0) (N' := 3) (a0 := (3, .inl (fun _ => 0))) hx hb (hts (.arrayClass .int) (by decide +kernel)) rfl ((hK.2 0 (E.2.1 0, .int) rfl).2) hc rfl (fun _ => rfl) (by decide) (by decide) (Nat.le_of_ble_eq_true rfl) (Nat.le_of_ble_eq_true rfl) (Nat.le_of_ble_eq_true rfl) dX8_init_57 (fun H hc => ?_)
  have hc : CS E.1 h 6 (va_up (fun k => cX0 E (fmX8 k) (ixX8 i k)) 0 (.inr (7, [.ref (h + 1), .ref (h + 2), .ref (h + 3), .int 0, .int 0, .int 0, .int 0, .ref (h + 4), .null, .int 0, .int 0, .int 0, .int 0, .int 0, .null, .null, .int 0, .double 0, .long 0]))) s.heap H locs := hc
  refine W.widen (k := 5) (n := 66) (by omega) (by omega) ?_
  refine cs_putF (D := E.1) (i := 0) (ci := 7) (v := .ref (h + 5)) (ty := .array .int) (C := RX8) (T := TX8) (N := 19) hx hb hts (by decide +kernel) tyX8 tyX8_ok nmX8 hown hK hc (by decide) rfl rfl 8 (by decide) (hts (.fieldLink RX8 37 "ColourHouse$Search" "times" "[I") (by decide +kernel)) (fun _ h9 => h9) rfl hin rfl (by decide +kernel) rfl rfl (Nat.le_of_ble_eq_true rfl) dX8_init_59 (fun H locs hc => ?_)
  rw [va_up_up] at hc
  have hc : CS E.1 h 6 (va_up (fun k => cX0 E (fmX8 k) (ixX8 i k)) 0 (.inr (7, [.ref (h + 1), .ref (h + 2), .ref (h + 3), .int 0, .int 0, .int 0, .int 0, .ref (h + 4), .ref (h + 5), .int 0, .int 0, .int 0, .int 0, .int 0, .null, .null, .int 0, .double 0, .long 0]))) s.heap H locs := hc
  refine lv_aload_n hx hb dX8_init_62 rfl (lv_at hl 0 rfl) ?_
  refine lv_iconst (v := 0) hx hb dX8_init_63 (by decide) ?_
  refine cs_put (D := E.1) (i := 0) (ci := 7) (v := .int 0) (ty := .int) (C := RX8) (T := TX8) (N := 19) hx hb hts (by decide +kernel) tyX8 tyX8_ok nmX8 hown hK hc (by decide) rfl rfl 9 (by decide) (hts (.fieldLink RX8 40 "ColourHouse$Search" "size" "I") (by decide +kernel)) (fun _ h9 => h9) rfl (by decide +kernel) rfl rfl (Nat.le_of_ble_eq_true rfl) dX8_init_64 (fun H locs hc => ?_)
  rw [va_up_up] at hc
  have hc : CS E.1 h 6 (va_up (fun k => cX0 E (fmX8 k) (ixX8 i k)) 0 (.inr (7, [.ref (h + 1), .ref (h + 2), .ref (h + 3), .int 0, .int 0, .int 0, .int 0, .ref (h + 4), .ref (h + 5), .int 0, .int 0, .int 0, .int 0, .int 0, .null, .null, .int 0, .double 0, .long 0]))) s.heap H locs := hc
  refine lv_aload_n hx hb dX8_init_67 rfl (lv_at hl 0 rfl) ?_
  refine lv_iconst (v := 0) hx hb dX8_init_68 (by decide) ?_
  refine cs_put (D := E.1) (i := 0) (ci := 7) (v := .int 0) (ty := .int) (C := RX8) (T := TX8) (N := 19) hx hb hts (by decide +kernel) tyX8 tyX8_ok nmX8 hown hK hc (by decide) rfl rfl 10 (by decide) (hts (.fieldLink RX8 43 "ColourHouse$Search" "tries" "I") (by decide +kernel)) (fun _ h9 => h9) rfl (by decide +kernel) rfl rfl (Nat.le_of_ble_eq_true rfl) dX8_init_69 (fun H locs hc => ?_)
  rw [va_up_up] at hc
  have hc : CS E.1 h 6 (va_up (fun k => cX0 E (fmX8 k) (ixX8 i k)) 0 (.inr (7, [.ref (h + 1), .ref (h + 2), .ref (h + 3), .int 0, .int 0, .int 0, .int 0, .ref (h + 4), .ref (h + 5), .int 0, .int 0, .int 0, .int 0, .int 0, .null, .null, .int 0, .double 0, .long 0]))) s.heap H locs := hc
  refine lv_aload_n hx hb dX8_init_72 rfl (lv_at hl 0 rfl) ?_
  refine lv_iconst (v := 0) hx hb dX8_init_73 (by decide) ?_
  refine cs_put (D := E.1) (i := 0) (ci := 7) (v := .int 0) (ty := .boolean) (C := RX8) (T := TX8) (N := 19) hx hb hts (by decide +kernel) tyX8 tyX8_ok nmX8 hown hK hc (by decide) rfl rfl 11 (by decide) (hts (.fieldLink RX8 46 "ColourHouse$Search" "isWhole" "Z") (by decide +kernel)) (fun _ h9 => h9) rfl (by decide +kernel) rfl rfl (Nat.le_of_ble_eq_true rfl) dX8_init_74 (fun H locs hc => ?_)
  rw [va_up_up] at hc
  have hc : CS E.1 h 6 (va_up (fun k => cX0 E (fmX8 k) (ixX8 i k)) 0 (.inr (7, [.ref (h + 1), .ref (h + 2), .ref (h + 3), .int 0, .int 0, .int 0, .int 0, .ref (h + 4), .ref (h + 5), .int 0, .int 0, .int 0, .int 0, .int 0, .null, .null, .int 0, .double 0, .long 0]))) s.heap H locs := hc
  refine lv_aload_n hx hb dX8_init_77 rfl (lv_at hl 0 rfl) ?_
  refine lv_iconst (v := 0) hx hb dX8_init_78 (by decide) ?_
  refine cs_put (D := E.1) (i := 0) (ci := 7) (v := .int 0) (ty := .boolean) (C := RX8) (T := TX8) (N := 19) hx hb hts (by decide +kernel) tyX8 tyX8_ok nmX8 hown hK hc (by decide) rfl rfl 12 (by decide) (hts (.fieldLink RX8 50 "ColourHouse$Search" "ended" "Z") (by decide +kernel)) (fun _ h9 => h9) rfl (by decide +kernel) rfl rfl (Nat.le_of_ble_eq_true rfl) dX8_init_79 (fun H locs hc => ?_)
  rw [va_up_up] at hc
  have hc : CS E.1 h 6 (va_up (fun k => cX0 E (fmX8 k) (ixX8 i k)) 0 (.inr (7, [.ref (h + 1), .ref (h + 2), .ref (h + 3), .int 0, .int 0, .int 0, .int 0, .ref (h + 4), .ref (h + 5), .int 0, .int 0, .int 0, .int 0, .int 0, .null, .null, .int 0, .double 0, .long 0]))) s.heap H locs := hc
  refine lv_aload_n hx hb dX8_init_82 rfl (lv_at hl 0 rfl) ?_
  refine lv_iconst (v := 0) hx hb dX8_init_83 (by decide) ?_
  refine cs_put (D := E.1) (i := 0) (ci := 7) (v := .int 0) (ty := .boolean) (C := RX8) (T := TX8) (N := 19) hx hb hts (by decide +kernel) tyX8 tyX8_ok nmX8 hown hK hc (by decide) rfl rfl 13 (by decide) (hts (.fieldLink RX8 53 "ColourHouse$Search" "hasBest" "Z") (by decide +kernel)) (fun _ h9 => h9) rfl (by decide +kernel) rfl rfl (Nat.le_of_ble_eq_true rfl) dX8_init_84 (fun H locs hc => ?_)
  rw [va_up_up] at hc
  have hc : CS E.1 h 6 (va_up (fun k => cX0 E (fmX8 k) (ixX8 i k)) 0 (.inr (7, [.ref (h + 1), .ref (h + 2), .ref (h + 3), .int 0, .int 0, .int 0, .int 0, .ref (h + 4), .ref (h + 5), .int 0, .int 0, .int 0, .int 0, .int 0, .null, .null, .int 0, .double 0, .long 0]))) s.heap H locs := hc
  refine lv_aload_n hx hb dX8_init_87 rfl (lv_at hl 0 rfl) ?_
  refine lv_iconst (v := 3) hx hb dX8_init_88 (by decide) ?_
  refine cs_newaT (atype := .int) (ty := .int) (cA := E.2.1 0) (N' := 3) (a0 := (3, .inl (fun _ => 0))) hx hb (hts (.arrayClass .int) (by decide +kernel)) rfl ((hK.2 0 (E.2.1 0, .int) rfl).2) hc rfl (fun _ => rfl) (by decide) (by decide) (Nat.le_of_ble_eq_true rfl) (Nat.le_of_ble_eq_true rfl) (Nat.le_of_ble_eq_true rfl) dX8_init_89 (fun H hc => ?_)
  have hc : CS E.1 h 7 (va_up (fun k => cX0 E (fmX8 k) (ixX8 i k)) 0 (.inr (7, [.ref (h + 1), .ref (h + 2), .ref (h + 3), .int 0, .int 0, .int 0, .int 0, .ref (h + 4), .ref (h + 5), .int 0, .int 0, .int 0, .int 0, .int 0, .null, .null, .int 0, .double 0, .long 0]))) s.heap H locs := hc
  refine W.widen (k := 6) (n := 69) (by omega) (by omega) ?_
  refine cs_putF (D := E.1) (i := 0) (ci := 7) (v := .ref (h + 6)) (ty := .array .int) (C := RX8) (T := TX8) (N := 19) hx hb hts (by decide +kernel) tyX8 tyX8_ok nmX8 hown hK hc (by decide) rfl rfl 14 (by decide) (hts (.fieldLink RX8 56 "ColourHouse$Search" "bestNames" "[I") (by decide +kernel)) (fun _ h9 => h9) rfl hin rfl (by decide +kernel) rfl rfl (Nat.le_of_ble_eq_true rfl) dX8_init_91 (fun H locs hc => ?_)
  rw [va_up_up] at hc
  have hc : CS E.1 h 7 (va_up (fun k => cX0 E (fmX8 k) (ixX8 i k)) 0 (.inr (7, [.ref (h + 1), .ref (h + 2), .ref (h + 3), .int 0, .int 0, .int 0, .int 0, .ref (h + 4), .ref (h + 5), .int 0, .int 0, .int 0, .int 0, .int 0, .ref (h + 6), .null, .int 0, .double 0, .long 0]))) s.heap H locs := hc
  refine lv_aload_n hx hb dX8_init_94 rfl (lv_at hl 0 rfl) ?_
  refine lv_iconst (v := 3) hx hb dX8_init_95 (by decide) ?_
  refine cs_newaT (atype := .int) (ty := .int) (cA := E.2.1 0) (N' := 3) (a0 := (3, .inl (fun _ => 0))) hx hb (hts (.arrayClass .int) (by decide +kernel)) rfl ((hK.2 0 (E.2.1 0, .int) rfl).2) hc rfl (fun _ => rfl) (by decide) (by decide) (Nat.le_of_ble_eq_true rfl) (Nat.le_of_ble_eq_true rfl) (Nat.le_of_ble_eq_true rfl) dX8_init_96 (fun H hc => ?_)
  have hc : CS E.1 h 8 (va_up (fun k => cX0 E (fmX8 k) (ixX8 i k)) 0 (.inr (7, [.ref (h + 1), .ref (h + 2), .ref (h + 3), .int 0, .int 0, .int 0, .int 0, .ref (h + 4), .ref (h + 5), .int 0, .int 0, .int 0, .int 0, .int 0, .ref (h + 6), .null, .int 0, .double 0, .long 0]))) s.heap H locs := hc
  refine W.widen (k := 7) (n := 72) (by omega) (by omega) ?_
  refine cs_putF (D := E.1) (i := 0) (ci := 7) (v := .ref (h + 7)) (ty := .array .int) (C := RX8) (T := TX8) (N := 19) hx hb hts (by decide +kernel) tyX8 tyX8_ok nmX8 hown hK hc (by decide) rfl rfl 15 (by decide) (hts (.fieldLink RX8 59 "ColourHouse$Search" "bestGrams" "[I") (by decide +kernel)) (fun _ h9 => h9) rfl hin rfl (by decide +kernel) rfl rfl (Nat.le_of_ble_eq_true rfl) dX8_init_98 (fun H locs hc => ?_)
  rw [va_up_up] at hc
  have hc : CS E.1 h 8 (va_up (fun k => cX0 E (fmX8 k) (ixX8 i k)) 0 (.inr (7, [.ref (h + 1), .ref (h + 2), .ref (h + 3), .int 0, .int 0, .int 0, .int 0, .ref (h + 4), .ref (h + 5), .int 0, .int 0, .int 0, .int 0, .int 0, .ref (h + 6), .ref (h + 7), .int 0, .double 0, .long 0]))) s.heap H locs := hc
  refine lv_aload_n hx hb dX8_init_101 rfl (lv_at hl 0 rfl) ?_
  refine lv_iconst (v := 0) hx hb dX8_init_102 (by decide) ?_
  refine cs_put (D := E.1) (i := 0) (ci := 7) (v := .int 0) (ty := .int) (C := RX8) (T := TX8) (N := 19) hx hb hts (by decide +kernel) tyX8 tyX8_ok nmX8 hown hK hc (by decide) rfl rfl 16 (by decide) (hts (.fieldLink RX8 62 "ColourHouse$Search" "bestSize" "I") (by decide +kernel)) (fun _ h9 => h9) rfl (by decide +kernel) rfl rfl (Nat.le_of_ble_eq_true rfl) dX8_init_103 (fun H locs hc => ?_)
  rw [va_up_up] at hc
  have hc : CS E.1 h 8 (va_up (fun k => cX0 E (fmX8 k) (ixX8 i k)) 0 (.inr (7, [.ref (h + 1), .ref (h + 2), .ref (h + 3), .int 0, .int 0, .int 0, .int 0, .ref (h + 4), .ref (h + 5), .int 0, .int 0, .int 0, .int 0, .int 0, .ref (h + 6), .ref (h + 7), .int 0, .double 0, .long 0]))) s.heap H locs := hc
  refine lv_aload_n hx hb dX8_init_106 rfl (lv_at hl 0 rfl) ?_
  refine lv_dconst0 hx hb dX8_init_107 ?_
  refine cs_put (D := E.1) (i := 0) (ci := 7) (v := .double FP.dconst0) (ty := .double) (C := RX8) (T := TX8) (N := 19) hx hb hts (by decide +kernel) tyX8 tyX8_ok nmX8 hown hK hc (by decide) rfl rfl 17 (by decide) (hts (.fieldLink RX8 65 "ColourHouse$Search" "bestGap" "D") (by decide +kernel)) (fun _ h9 => h9) rfl (by decide +kernel) rfl rfl (Nat.le_of_ble_eq_true rfl) dX8_init_108 (fun H locs hc => ?_)
  rw [va_up_up] at hc
  have hc : CS E.1 h 8 (va_up (fun k => cX0 E (fmX8 k) (ixX8 i k)) 0 (.inr (7, [.ref (h + 1), .ref (h + 2), .ref (h + 3), .int 0, .int 0, .int 0, .int 0, .ref (h + 4), .ref (h + 5), .int 0, .int 0, .int 0, .int 0, .int 0, .ref (h + 6), .ref (h + 7), .int 0, .double FP.dconst0, .long 0]))) s.heap H locs := hc
  refine lv_aload_n hx hb dX8_init_111 rfl (lv_at hl 0 rfl) ?_
  refine lv_lconst (v := 0) hx hb dX8_init_112 (by decide) ?_
  refine cs_put (D := E.1) (i := 0) (ci := 7) (v := .long 0) (ty := .long) (C := RX8) (T := TX8) (N := 19) hx hb hts (by decide +kernel) tyX8 tyX8_ok nmX8 hown hK hc (by decide) rfl rfl 18 (by decide) (hts (.fieldLink RX8 69 "ColourHouse$Search" "bestCost" "J") (by decide +kernel)) (fun _ h9 => h9) rfl (by decide +kernel) rfl rfl (Nat.le_of_ble_eq_true rfl) dX8_init_113 (fun H locs hc => ?_)
  rw [va_up_up] at hc
  have hc : CS E.1 h 8 (va_up (fun k => cX0 E (fmX8 k) (ixX8 i k)) 0 (.inr (7, [.ref (h + 1), .ref (h + 2), .ref (h + 3), .int 0, .int 0, .int 0, .int 0, .ref (h + 4), .ref (h + 5), .int 0, .int 0, .int 0, .int 0, .int 0, .ref (h + 6), .ref (h + 7), .int 0, .double FP.dconst0, .long 0]))) s.heap H locs := hc
  have hfin : cX0 E (fmX8 0) (ixX8 i 0) = .inr (7, [.ref (h + 1), .ref (h + 2), .ref (h + 3), .int 0, .int 0, .int 0, .int 0, .ref (h + 4), .ref (h + 5), .int 0, .int 0, .int 0, .int 0, .int 0, .ref (h + 6), .ref (h + 7), .int 0, .double FP.dconst0, .long 0]) := by
    show cX0 E 16 i = _
    unfold cX0 cellX
    rw [show E.2.2.1 45 i = h + 1 from hlay 1 (by decide), show E.2.2.1 46 i = h + 2 from hlay 2 (by decide), show E.2.2.1 47 i = h + 3 from hlay 3 (by decide), show E.2.2.1 48 i = h + 4 from hlay 4 (by decide), show E.2.2.1 49 i = h + 5 from hlay 5 (by decide), show E.2.2.1 50 i = h + 6 from hlay 6 (by decide), show E.2.2.1 51 i = h + 7 from hlay 7 (by decide)]
    rfl
  rw [va_up_id (f := fun k => cX0 E (fmX8 k) (ixX8 i k)) (k := 0) hfin] at hc
  exact W.vret hx hb hr (fun t ht hW => ⟨⟨(), rfl, trivial, by rw [ht]; exact hc.1, fun k hk => by rw [ht]; exact hc.2.1 k hk⟩, by rw [ht, hc.1, hsz]; omega, fun q h1 h2 => by rw [ht]; exact hc.2.2.1 q (by omega)⟩) (fun z hz => hc.2.2.2 z hz) dX8_init_116 hlocks
def fmX10 (k : Nat) : Nat := if k < 1 then 26 else if k < 2 then 27 else 28
def ixX10 (i k : Nat) : Nat := if k < 1 then i else if k < 2 then i else i

set_option maxHeartbeats 4000000 in
set_option maxRecDepth 100000 in
theorem ctX10 (l : Launch) (E : XE) (i h : Nat) (hlay : ∀ k, k < 3 → E.2.2.1 (fmX10 k) (ixX10 i k) = h + k) : CT l yX10_init wsX10_init ({ frames := 1, cells := 2, slots := 6, locals := 12 }) E.1 E.2.1 AOX 9 [.int 0, .int 0, .int 0, .null, .null] h (fun k => cX0 E (fmX10 k) (ixX10 i k)) 3 2 6 := by
  refine Met.ofW (cc := cX10_init) (maxL := 1) (ret := none) (by decide) rfl ?_
  intro p e s m args below meth c s₁ B hml hv
  obtain ⟨rfl, ⟨hsz, hP⟩, hK, hA⟩ := hv
  have hx := B.exec
  have hb := B.bytes
  have hr := B.returns
  have hts := atoms_spec (ws := wsX10_init) B.pre
  have hown : s.vm.findClass RX10 = some m.cls := findClass_of_methodNamed B.named
  have hlocks := B.notSynchronized
  have hin : meth.name = "<init>" := (name_of_methodNamed B.named B.method).1
  have hl := lv_entry ([.ref h]) (n := 1) (Nat.le_of_ble_eq_true rfl)
  rw [lg_entry_eq]
  generalize (lg_sl ([.ref h]) ++ List.replicate (1 - (lg_sl ([.ref h])).length) Slot.unset).toArray = ls at hl ⊢
  have hl : lv_has ls 1 [(0, .ref h)] := hl
  obtain ⟨locs, hlocs⟩ : ∃ q : List Loc, q = [] := ⟨_, rfl⟩
  have hc : CS E.1 h 1 (va_up (fun k => cX0 E (fmX10 k) (ixX10 i k)) 0 (.inr (9, [.int 0, .int 0, .int 0, .null, .null]))) s.heap s.heap locs := ⟨hsz, fun k hk => by rw [show k = 0 by omega]; exact hP, fun _ _ => rfl, by rw [hlocs]; exact fun z hz => by cases hz⟩
  rw [← hlocs]
  clear hlocs
  refine lv_aload_n hx hb dX10_init_0 rfl (lv_at hl 0 rfl) ?_
  refine W.objInit hx hb hown (hts (.methodLink RX10 3 objectInit) (by decide +kernel)) (hts (.instanceMethod objectInit) (by decide +kernel)) (hts _ (List.mem_of_getElem? (i := 3) rfl)) rfl (by rw [hml]; exact hl.1) rfl dX10_init_1 (Nat.le_of_ble_eq_true rfl) (Nat.le_of_ble_eq_true rfl) ?_
  refine W.eq (g2 := F0 m 4 ls []) rfl ?_
  refine lv_aload_n hx hb dX10_init_4 rfl (lv_at hl 0 rfl) ?_
  refine lv_iconst (v := 0) hx hb dX10_init_5 (by decide) ?_
  refine cs_put (D := E.1) (i := 0) (ci := 9) (v := .int 0) (ty := .int) (C := RX10) (T := TX10) (N := 5) hx hb hts (by decide +kernel) tyX10 tyX10_ok nmX10 hown hK hc (by decide) rfl rfl 0 (by decide) (hts (.fieldLink RX10 9 "ColourHouse$Solid" "sort" "I") (by decide +kernel)) (fun _ h9 => h9) rfl (by decide +kernel) rfl rfl (Nat.le_of_ble_eq_true rfl) dX10_init_6 (fun H locs hc => ?_)
  rw [va_up_up] at hc
  have hc : CS E.1 h 1 (va_up (fun k => cX0 E (fmX10 k) (ixX10 i k)) 0 (.inr (9, [.int 0, .int 0, .int 0, .null, .null]))) s.heap H locs := hc
  refine lv_aload_n hx hb dX10_init_9 rfl (lv_at hl 0 rfl) ?_
  refine lv_iconst (v := 0) hx hb dX10_init_10 (by decide) ?_
  refine cs_put (D := E.1) (i := 0) (ci := 9) (v := .int 0) (ty := .int) (C := RX10) (T := TX10) (N := 5) hx hb hts (by decide +kernel) tyX10 tyX10_ok nmX10 hown hK hc (by decide) rfl rfl 1 (by decide) (hts (.fieldLink RX10 15 "ColourHouse$Solid" "light" "I") (by decide +kernel)) (fun _ h9 => h9) rfl (by decide +kernel) rfl rfl (Nat.le_of_ble_eq_true rfl) dX10_init_11 (fun H locs hc => ?_)
  rw [va_up_up] at hc
  have hc : CS E.1 h 1 (va_up (fun k => cX0 E (fmX10 k) (ixX10 i k)) 0 (.inr (9, [.int 0, .int 0, .int 0, .null, .null]))) s.heap H locs := hc
  refine lv_aload_n hx hb dX10_init_14 rfl (lv_at hl 0 rfl) ?_
  refine lv_iconst (v := 0) hx hb dX10_init_15 (by decide) ?_
  refine cs_put (D := E.1) (i := 0) (ci := 9) (v := .int 0) (ty := .int) (C := RX10) (T := TX10) (N := 5) hx hb hts (by decide +kernel) tyX10 tyX10_ok nmX10 hown hK hc (by decide) rfl rfl 2 (by decide) (hts (.fieldLink RX10 18 "ColourHouse$Solid" "eye" "I") (by decide +kernel)) (fun _ h9 => h9) rfl (by decide +kernel) rfl rfl (Nat.le_of_ble_eq_true rfl) dX10_init_16 (fun H locs hc => ?_)
  rw [va_up_up] at hc
  have hc : CS E.1 h 1 (va_up (fun k => cX0 E (fmX10 k) (ixX10 i k)) 0 (.inr (9, [.int 0, .int 0, .int 0, .null, .null]))) s.heap H locs := hc
  refine lv_aload_n hx hb dX10_init_19 rfl (lv_at hl 0 rfl) ?_
  refine lv_iconst (v := 3) hx hb dX10_init_20 (by decide) ?_
  refine cs_newaT (atype := .double) (ty := .double) (cA := E.2.1 2) (N' := 3) (a0 := (3, .inr (.inr (.inr (.inl (fun _ => 0)))))) hx hb (hts (.arrayClass .double) (by decide +kernel)) rfl ((hK.2 2 (E.2.1 2, .double) rfl).2) hc rfl (fun _ => rfl) (by decide) (by decide) (Nat.le_of_ble_eq_true rfl) (Nat.le_of_ble_eq_true rfl) (Nat.le_of_ble_eq_true rfl) dX10_init_21 (fun H hc => ?_)
  have hc : CS E.1 h 2 (va_up (fun k => cX0 E (fmX10 k) (ixX10 i k)) 0 (.inr (9, [.int 0, .int 0, .int 0, .null, .null]))) s.heap H locs := hc
  refine W.widen (k := 1) (n := 3) (by omega) (by omega) ?_
  refine cs_putF (D := E.1) (i := 0) (ci := 9) (v := .ref (h + 1)) (ty := .array .double) (C := RX10) (T := TX10) (N := 5) hx hb hts (by decide +kernel) tyX10 tyX10_ok nmX10 hown hK hc (by decide) rfl rfl 3 (by decide) (hts (.fieldLink RX10 21 "ColourHouse$Solid" "middle" "[D") (by decide +kernel)) (fun _ h9 => h9) rfl hin rfl (by decide +kernel) rfl rfl (Nat.le_of_ble_eq_true rfl) dX10_init_23 (fun H locs hc => ?_)
  rw [va_up_up] at hc
  have hc : CS E.1 h 2 (va_up (fun k => cX0 E (fmX10 k) (ixX10 i k)) 0 (.inr (9, [.int 0, .int 0, .int 0, .ref (h + 1), .null]))) s.heap H locs := hc
  refine lv_aload_n hx hb dX10_init_26 rfl (lv_at hl 0 rfl) ?_
  refine lv_iconst (v := 3) hx hb dX10_init_27 (by decide) ?_
  refine cs_newaT (atype := .double) (ty := .double) (cA := E.2.1 2) (N' := 3) (a0 := (3, .inr (.inr (.inr (.inl (fun _ => 0)))))) hx hb (hts (.arrayClass .double) (by decide +kernel)) rfl ((hK.2 2 (E.2.1 2, .double) rfl).2) hc rfl (fun _ => rfl) (by decide) (by decide) (Nat.le_of_ble_eq_true rfl) (Nat.le_of_ble_eq_true rfl) (Nat.le_of_ble_eq_true rfl) dX10_init_28 (fun H hc => ?_)
  have hc : CS E.1 h 3 (va_up (fun k => cX0 E (fmX10 k) (ixX10 i k)) 0 (.inr (9, [.int 0, .int 0, .int 0, .ref (h + 1), .null]))) s.heap H locs := hc
  refine W.widen (k := 2) (n := 6) (by omega) (by omega) ?_
  refine cs_putF (D := E.1) (i := 0) (ci := 9) (v := .ref (h + 2)) (ty := .array .double) (C := RX10) (T := TX10) (N := 5) hx hb hts (by decide +kernel) tyX10 tyX10_ok nmX10 hown hK hc (by decide) rfl rfl 4 (by decide) (hts (.fieldLink RX10 25 "ColourHouse$Solid" "sizes" "[D") (by decide +kernel)) (fun _ h9 => h9) rfl hin rfl (by decide +kernel) rfl rfl (Nat.le_of_ble_eq_true rfl) dX10_init_30 (fun H locs hc => ?_)
  rw [va_up_up] at hc
  have hc : CS E.1 h 3 (va_up (fun k => cX0 E (fmX10 k) (ixX10 i k)) 0 (.inr (9, [.int 0, .int 0, .int 0, .ref (h + 1), .ref (h + 2)]))) s.heap H locs := hc
  have hfin : cX0 E (fmX10 0) (ixX10 i 0) = .inr (9, [.int 0, .int 0, .int 0, .ref (h + 1), .ref (h + 2)]) := by
    show cX0 E 26 i = _
    unfold cX0 cellX
    rw [show E.2.2.1 27 i = h + 1 from hlay 1 (by decide), show E.2.2.1 28 i = h + 2 from hlay 2 (by decide)]
    rfl
  rw [va_up_id (f := fun k => cX0 E (fmX10 k) (ixX10 i k)) (k := 0) hfin] at hc
  exact W.vret hx hb hr (fun t ht hW => ⟨⟨(), rfl, trivial, by rw [ht]; exact hc.1, fun k hk => by rw [ht]; exact hc.2.1 k hk⟩, by rw [ht, hc.1, hsz]; omega, fun q h1 h2 => by rw [ht]; exact hc.2.2.1 q (by omega)⟩) (fun z hz => hc.2.2.2 z hz) dX10_init_33 hlocks

