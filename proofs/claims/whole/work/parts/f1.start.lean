/-! ===== the start: classes, arrays, places ===== -/
theorem known12 {args : Array Value} {s : State} (hts : ∀ w ∈ lw_tbl, w.before args s = true) : ∃ D : va_G, ∀ (c : Nat) (q : vw_C), vwC[c]? = some q → u_Kn s q.1 q.2.1 q.2.2 (D.1 c) (D.2 c) := by
  have h : ∀ q ∈ vwC, ∃ (cC : ClassId) (iS : Nat → Nat), u_Kn s q.1 q.2.1 q.2.2 cC iS := by
    refine List.forall_mem_cons.mpr ⟨?_, List.forall_mem_cons.mpr ⟨?_, List.forall_mem_cons.mpr ⟨?_, List.forall_mem_cons.mpr ⟨?_, List.forall_mem_cons.mpr ⟨?_, List.forall_mem_cons.mpr ⟨?_, List.forall_mem_cons.mpr ⟨?_, List.forall_mem_cons.mpr ⟨?_, List.forall_mem_cons.mpr ⟨?_, List.forall_mem_cons.mpr ⟨?_, List.forall_mem_cons.mpr ⟨?_, List.forall_mem_cons.mpr ⟨?_, fun _ h => nomatch h⟩⟩⟩⟩⟩⟩⟩⟩⟩⟩⟩⟩
    · exact u_known hts (fun w h => (wsL_in0_X00 w h).1) (hts (.instantiable RX0 4) (by decide +kernel))
    · exact u_known hts (fun w h => (wsL_in0_X10 w h).1) (hts (.instantiable RX1 7) (by decide +kernel))
    · exact u_known hts (fun w h => (wsL_in0_X20 w h).1) (hts (.instantiable RX2 2) (by decide +kernel))
    · exact u_known hts (fun w h => (wsL_in0_X30 w h).1) (hts (.instantiable RX3 5) (by decide +kernel))
    · exact u_known hts (fun w h => (wsL_in0_X40 w h).1) (hts (.instantiable RX4 5) (by decide +kernel))
    · exact u_known hts (fun w h => (wsL_in0_X50 w h).1) (hts (.instantiable RX5 3) (by decide +kernel))
    · exact u_known hts (fun w h => (wsL_in0_X60 w h).1) (hts (.instantiable RX6 2) (by decide +kernel))
    · exact u_known hts (fun w h => (wsL_in0_X80 w h).1) (hts (.instantiable RX8 19) (by decide +kernel))
    · exact u_known hts (fun w h => (wsL_in0_X90 w h).1) (hts (.instantiable RX9 9) (by decide +kernel))
    · exact u_known hts (fun w h => (wsL_in0_X100 w h).1) (hts (.instantiable RX10 5) (by decide +kernel))
    · exact u_known hts (fun w h => (wsL_in0_X110 w h).1) (hts (.instantiable RX11 20) (by decide +kernel))
    · exact u_known hts (fun w h => (wsL_in0_X120 w h).1) (hts (.instantiable RX12 76) (by decide +kernel))
  have h2 : ∀ c : Nat, ∃ p : ClassId × (Nat → Nat), ∀ q : vw_C, vwC[c]? = some q → u_Kn s q.1 q.2.1 q.2.2 p.1 p.2 := fun c => by
    rcases hc : vwC[c]? with _ | q
    · exact ⟨(default, fun _ => 0), fun q h => nomatch h⟩
    · obtain ⟨cC, iS, hk⟩ := h q (List.mem_of_getElem? hc)
      exact ⟨(cC, iS), fun q' h' => by cases h'; exact hk⟩
  exact ⟨(fun c => (Classical.choose (h2 c)).1, fun c => (Classical.choose (h2 c)).2), fun c q hq => Classical.choose_spec (h2 c) q hq⟩
def RArr (s : State) (ty : FieldType) (c : ClassId) : Prop := ArrOfT s c ty ∧ va_RA s c ty
theorem rArr_p {args : Array Value} {s : State} {ty : FieldType} (ho : ∀ C, ty ≠ .object C) (h : (Cond.arrayClass ty).before args s = true) : ∃ c, RArr s ty c := by
  obtain ⟨c, k, comp, h1, h2, h3⟩ := Cond.arrayClass_spec h
  refine ⟨c, fun N z => ⟨(fun q hq => by cases hq), k, h2, comp, h3⟩, ?_⟩
  cases ty with
  | object C => exact absurd rfl (ho C)
  | _ => exact h1
theorem rArr_a {args : Array Value} {s : State} {t : FieldType} (h : (Cond.arrayOver (.array t)).before args s = true) : ∃ c, RArr s (.array t) c := by
  obtain ⟨comp, c, k, h1, h2, h3, h4, h5⟩ := arrayOverA_spec h
  exact ⟨c, fun N z => ⟨(fun q hq => by cases hq), k, h3, comp, h4⟩, h5⟩
theorem rArr_o {args : Array Value} {s : State} {C : String} (h : (Cond.arrayOver (.object C)).before args s = true) : ∃ c, RArr s (.object C) c := by
  obtain ⟨comp, c, k, h1, h2, h3, h4, h5⟩ := Cond.arrayOver_spec h
  exact ⟨c, fun N z => ⟨(fun q hq => by cases hq), k, h3, comp, h4⟩, k, comp, h3, h4, h1, h5⟩
theorem known13 {args : Array Value} {s : State} (hts : ∀ w ∈ lw_tbl, w.before args s = true) : ∃ aC : Nat → ClassId, ∀ (k : Nat) (q : ClassId × FieldType), (tysA aC)[k]? = some q → ArrOfT s q.1 q.2 ∧ va_RA s q.1 q.2 := by
  obtain ⟨a0, h0⟩ := rArr_p (fun C h => by cases h) (hts (.arrayClass .int) (by decide +kernel))
  obtain ⟨a1, h1⟩ := rArr_p (fun C h => by cases h) (hts (.arrayClass .float) (by decide +kernel))
  obtain ⟨a2, h2⟩ := rArr_p (fun C h => by cases h) (hts (.arrayClass .double) (by decide +kernel))
  obtain ⟨a3, h3⟩ := rArr_a (hts (.arrayOver (.array .int)) (by decide +kernel))
  obtain ⟨a4, h4⟩ := rArr_a (hts (.arrayOver (.array .float)) (by decide +kernel))
  obtain ⟨a5, h5⟩ := rArr_a (hts (.arrayOver (.array .double)) (by decide +kernel))
  obtain ⟨a6, h6⟩ := rArr_o (hts (.arrayOver (.object "ColourHouse$Chip")) (by decide +kernel))
  obtain ⟨a7, h7⟩ := rArr_o (hts (.arrayOver (.object "ColourHouse$Dye")) (by decide +kernel))
  obtain ⟨a8, h8⟩ := rArr_o (hts (.arrayOver (.object "ColourHouse$Solid")) (by decide +kernel))
  obtain ⟨a9, h9⟩ := rArr_o (hts (.arrayOver (.object "ColourHouse$Lot")) (by decide +kernel))
  obtain ⟨a10, h10⟩ := rArr_o (hts (.arrayOver (.object "ColourHouse$Batch")) (by decide +kernel))
  obtain ⟨a11, h11⟩ := rArr_p (fun C h => by cases h) (hts (.arrayClass .byte) (by decide +kernel))
  obtain ⟨a12, h12⟩ := rArr_p (fun C h => by cases h) (hts (.arrayClass .boolean) (by decide +kernel))
  refine ⟨fun k => [a0, a1, a2, a3, a4, a5, a6, a7, a8, a9, a10, a11, a12].getD k default, fun k q hq => ?_⟩
  have hm := List.mem_of_getElem? hq
  simp only [tysA, List.mem_cons, List.not_mem_nil, or_false] at hm
  rcases hm with rfl | rfl | rfl | rfl | rfl | rfl | rfl | rfl | rfl | rfl | rfl | rfl | rfl
  · exact h0
  · exact h1
  · exact h2
  · exact h3
  · exact h4
  · exact h5
  · exact h6
  · exact h7
  · exact h8
  · exact h9
  · exact h10
  · exact h11
  · exact h12
theorem aoh0 {args : Array Value} {s : State} (hts : ∀ w ∈ lw_tbl, w.before args s = true) : AOH s :=
  ⟨⟨va_AOA.of (hts _ (by decide +kernel)), va_AOA.of (hts _ (by decide +kernel)), va_AOA.of (hts _ (by decide +kernel)), va_AO.of (hts _ (by decide +kernel)), va_AO.of (hts _ (by decide +kernel)), va_AO.of (hts _ (by decide +kernel)), va_AO.of (hts _ (by decide +kernel)), va_AO.of (hts _ (by decide +kernel))⟩,
   va_Nw.of rfl (hts _ (by decide +kernel)), va_Nw.of rfl (hts _ (by decide +kernel)), va_Nw.of rfl (hts _ (by decide +kernel)), va_Nw.of rfl (hts _ (by decide +kernel)), va_Nw.of rfl (hts _ (by decide +kernel)), va_Nw.of rfl (hts _ (by decide +kernel)), va_Nw.of rfl (hts _ (by decide +kernel)), va_Nw.of rfl (hts _ (by decide +kernel)), va_Nw.of rfl (hts _ (by decide +kernel)), va_Nw.of rfl (hts _ (by decide +kernel))⟩
theorem tz0 {args : Array Value} {s : State} {cur : ClassId} (hts : ∀ w ∈ lw_tbl, w.before args s = true) (hgv : (Jvm.Cond.and given_1 narrow_1).before args s = true) (hX : s.vm.findClass RX11 = some cur) : Tz s.heap.size s := by
  have hf := flat_of_before _ hgv
  refine ⟨fun w hw => va_Nw.of (thrB_t w hw) (hts w ?_), vx_Zqof (hts _ (by decide +kernel)) (hts _ (by decide +kernel)) (hf _ (by decide +kernel)) (fun a ha => Nat.not_le_of_lt ha), vx_Zqof (hts _ (by decide +kernel)) (hts _ (by decide +kernel)) (hf _ (by decide +kernel)) (fun a ha => Nat.not_le_of_lt ha), ?_⟩
  · exact (by decide +kernel : ∀ w ∈ thrB, w ∈ lw_tbl) w hw
  · have h1 := hts (.stringRef RX11 369 "OUT has no such byte") (by decide +kernel)
    obtain ⟨-, -, -, sa, -, -, -, -, -, hev⟩ := Cond.stringRef_spec hX h1
    exact ⟨sa, vk_R.of h1 hev⟩
def ExW (D : va_G) (aC : Nat → ClassId) (h : Nat) : XE := (D, aC, fun f i => h + offH f i, fun q => h ≤ q ∧ q < h + 525)
def EmW (D : va_G) (aC : Nat → ClassId) (h : Nat) : XE := (D, aC, fun f _ => h + 525 + offM f, fun q => h + 525 ≤ q ∧ q < h + 571)
theorem LX_lay {D : va_G} {aC : Nat → ClassId} {h : Nat} : LX (ExW D aC h) := fun cell => by
  refine ⟨fun i j p q hp hq he => ?_, fun k q hq => ?_⟩
  · obtain ⟨f, i1, h1, h2, h3, rfl⟩ := wlA_inv hp
    obtain ⟨f', i2, k1, k2, k3, rfl⟩ := wlA_inv hq
    have e : h + offH f i1 = h + offH f' i2 := he
    have e : offH f i1 = offH f' i2 := by omega
    obtain ⟨⟨a1, a2⟩, -⟩ := offH_ok f h1 i1 h2
    obtain ⟨⟨b1, b2⟩, -⟩ := offH_ok f' k1 i2 k2
    rw [e] at a1 a2
    rw [h3, k3, ← a1, b1, ← a2, b2]
  · obtain ⟨f, i1, h1, h2, h3, rfl⟩ := wlA_inv hq
    have := (offH_ok f h1 i1 h2).2
    exact ⟨Nat.le_add_right _ _, by show h + offH f i1 < h + 525; omega⟩
theorem LM_lay {D : va_G} {aC : Nat → ClassId} {h : Nat} : LM (EmW D aC h) := fun cell => by
  refine ⟨fun i j p q hp hq he => ?_, fun k q hq => ?_⟩
  · obtain ⟨f, i1, h1, h2, h3, rfl⟩ := wlA_inv hp
    obtain ⟨f', i2, k1, k2, k3, rfl⟩ := wlA_inv hq
    have e : h + 525 + offM f = h + 525 + offM f' := he
    have e : offM f = offM f' := by omega
    obtain ⟨⟨a1, a2⟩, -⟩ := offM_ok f h1 i1 h2
    obtain ⟨⟨b1, b2⟩, -⟩ := offM_ok f' k1 i2 k2
    rw [e] at a1
    rw [h3, k3, ← a1, b1, a2, b2]
  · obtain ⟨f, i1, h1, h2, h3, rfl⟩ := wlA_inv hq
    have := (offM_ok f h1 i1 h2).2
    exact ⟨by show h + 525 ≤ h + 525 + offM f; omega, by show h + 525 + offM f < h + 571; omega⟩
theorem wX_lay {D : va_G} {aC : Nat → ClassId} {h : Nat} {H : Heap} (hc : ∀ k, k < 525 → va_at D vwC (h + k, cX0 (ExW D aC h) (fmH k) (ixH k)) H) : va_P D vwC (wX (ExW D aC h) x0) H := fun k q hq => by
  obtain ⟨f, i, h1, h2, h3, rfl⟩ := wlA_inv hq
  obtain ⟨⟨a1, a2⟩, a3⟩ := offH_ok f h1 i h2
  have := hc (offH f i) a3
  rw [a1, a2] at this
  exact this
theorem wM_lay {D : va_G} {aC : Nat → ClassId} {h : Nat} {H : Heap} (hc : ∀ k, k < 46 → va_at D vwC (h + 525 + k, cM0 (EmW D aC h) (fmM k)) H) : va_P D vwC (wM (EmW D aC h) m0) H := fun k q hq => by
  obtain ⟨f, i, h1, h2, h3, rfl⟩ := wlA_inv hq
  obtain ⟨⟨a1, a2⟩, a3⟩ := offM_ok f h1 i h2
  have := hc (offM f) a3
  rw [a1] at this
  rw [a2]
  exact this
theorem geo_lay {D : va_G} {aC : Nat → ClassId} {h : Nat} : Geo (ExW D aC h) (EmW D aC h) h (h + 571) := by
  refine ⟨fun q hq => hq.1, fun q hq => by have := hq.1; omega, fun f i hf hi hq => ?_, fun f i hf hi hq => ?_, fun hq => ?_, fun hq => ?_, fun f i hf hi => ?_, fun f i hf hi => ?_, Nat.le_add_right _ _⟩
  · have h2 : h + 525 + offM f < h + 525 := hq.2
    omega
  · have h2 : h + 525 ≤ h + offH f i := hq.1
    have := (offH_ok f hf i hi).2
    omega
  · have h2 : h + 571 < h + 525 := hq.2
    omega
  · have h2 : h + 571 < h + 571 := hq.2
    omega
  · have := (offH_ok f hf i hi).2
    show ¬ h + offH f i = h + 571
    omega
  · have := (offM_ok f hf i hi).2
    show ¬ h + 525 + offM f = h + 571
    omega
