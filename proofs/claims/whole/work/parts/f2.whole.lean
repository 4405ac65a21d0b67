/-! ===== from the start to the end ===== -/
def bl11 : List Value := [.null, .null, .int 0, .null, .null, .null, .null, .null, .null, .null, .null, .int 0, .null, .null, .null, .null, .null, .null, .null, .int 0]
def bl12 : List Value := [.null, .null, .int 0, .int 0, .int 0, .int 0, .int 0, .int 0, .int 0, .int 0, .int 0, .null, .null, .null, .null, .null, .null, .null, .null, .null, .null, .null, .null, .null, .null, .null, .null, .null, .null, .null, .null, .null, .int 0, .null, .null, .null, .null, .null, .null, .null, .null, .null, .null, .null, .int 0, .null, .null, .null, .null, .int 0, .int 0, .int 0, .int 0, .double 0, .long 0, .int 0, .int 0, .int 0, .int 0, .int 0, .int 0, .int 0, .int 0, .null, .double 0, .long 0, .null, .null, .int 0, .null, .null, .int 0, .double 0, .null, .null, .int 0]
theorem bl11_d : ∀ j, j < 20 → defaultValue (tyX11 j) = vp_V bl11 j := fun j hj => by
  rcases (show j = 0 ∨ j = 1 ∨ j = 2 ∨ j = 3 ∨ j = 4 ∨ j = 5 ∨ j = 6 ∨ j = 7 ∨ j = 8 ∨ j = 9 ∨ j = 10 ∨ j = 11 ∨ j = 12 ∨ j = 13 ∨ j = 14 ∨ j = 15 ∨ j = 16 ∨ j = 17 ∨ j = 18 ∨ j = 19 by omega) with rfl | rfl | rfl | rfl | rfl | rfl | rfl | rfl | rfl | rfl | rfl | rfl | rfl | rfl | rfl | rfl | rfl | rfl | rfl | rfl <;> rfl
theorem bl12_d : ∀ j, j < 76 → defaultValue (tyX12 j) = vp_V bl12 j := fun j hj => by
  rcases (show j = 0 ∨ j = 1 ∨ j = 2 ∨ j = 3 ∨ j = 4 ∨ j = 5 ∨ j = 6 ∨ j = 7 ∨ j = 8 ∨ j = 9 ∨ j = 10 ∨ j = 11 ∨ j = 12 ∨ j = 13 ∨ j = 14 ∨ j = 15 ∨ j = 16 ∨ j = 17 ∨ j = 18 ∨ j = 19 ∨ j = 20 ∨ j = 21 ∨ j = 22 ∨ j = 23 ∨ j = 24 ∨ j = 25 ∨ j = 26 ∨ j = 27 ∨ j = 28 ∨ j = 29 ∨ j = 30 ∨ j = 31 ∨ j = 32 ∨ j = 33 ∨ j = 34 ∨ j = 35 ∨ j = 36 ∨ j = 37 ∨ j = 38 ∨ j = 39 ∨ j = 40 ∨ j = 41 ∨ j = 42 ∨ j = 43 ∨ j = 44 ∨ j = 45 ∨ j = 46 ∨ j = 47 ∨ j = 48 ∨ j = 49 ∨ j = 50 ∨ j = 51 ∨ j = 52 ∨ j = 53 ∨ j = 54 ∨ j = 55 ∨ j = 56 ∨ j = 57 ∨ j = 58 ∨ j = 59 ∨ j = 60 ∨ j = 61 ∨ j = 62 ∨ j = 63 ∨ j = 64 ∨ j = 65 ∨ j = 66 ∨ j = 67 ∨ j = 68 ∨ j = 69 ∨ j = 70 ∨ j = 71 ∨ j = 72 ∨ j = 73 ∨ j = 74 ∨ j = 75 by omega) with rfl | rfl | rfl | rfl | rfl | rfl | rfl | rfl | rfl | rfl | rfl | rfl | rfl | rfl | rfl | rfl | rfl | rfl | rfl | rfl | rfl | rfl | rfl | rfl | rfl | rfl | rfl | rfl | rfl | rfl | rfl | rfl | rfl | rfl | rfl | rfl | rfl | rfl | rfl | rfl | rfl | rfl | rfl | rfl | rfl | rfl | rfl | rfl | rfl | rfl | rfl | rfl | rfl | rfl | rfl | rfl | rfl | rfl | rfl | rfl | rfl | rfl | rfl | rfl | rfl | rfl | rfl | rfl | rfl | rfl | rfl | rfl | rfl | rfl | rfl | rfl <;> rfl
theorem vpz : ∀ cA : ClassId, vp_cell cA (1, .inr (.inl (fun _ => 0))) = arrV cA 1 (fun _ => defaultValue .long) := fun _ => rfl
-- ===== end of PART A; then your names; then what follows =====
/-! THE CLAIM OUT OF ONE WALK OF THE LAW'S BODY. Your part is whole_start (and what it stands on); all else here is the same for every law, but numbers. -/
def R_law : String := "ColourHouseLaw"
def lw_P (b : Addr) (xs : List Int32) (args : Array Value) (s : State) : Prop := args = #[.ref b] ∧ s.IntsAt b xs ∧ xs.length ≤ 4608 ∧ (Jvm.Cond.and given_1 narrow_1).before args s = true
/-- what a walk over the start with the record d0 says of its end, said of the start itself -/
theorem lw_closed {s t : State} {o : Outcome} {d0 : Drawn} {L : List Loc} {k n : Nat} (hd0 : s.drawn.sameBut d0 lw_cs) (hv : ∃ v, o = .returned v) (hW : (s.setDrawn d0).WarmedH t.vm) (hs : (s.setDrawn d0).sameButNew ({ t with vm := s.vm } : State) L k n) : State.butDraws s t lw_cs (fun t1 => Framed s o t1 L k n) := by
  have h2 : t.drawn = d0 := congrArg State.drawn hs.1
  refine ⟨⟨hv, hW, State.sameButNew.setDrawn hs s.drawn⟩, ?_, by decide⟩
  rw [h2]
  exact hd0
def lw_Q (_ : Array Value) (s : State) (o : Outcome) (t : State) : Prop := o = .returned (some (.int 1)) ∧ State.butDraws s t lw_cs (fun t1 => Framed s o t1 [] 601024 7293034)
def lw_Z (below : List Frame) (a : Array Value) (s : State) : State → Prop := fun t => ∃ o, t.status = .running ∧ Ended t below o ∧ lw_Q a s o t
/-- the law's own end, with 1 on the stack, nothing written that was there before, its room as the claim has it; d0: the record of draws at this point (at the entry s.drawn: begin with 'refine W.base ?_' and 'have hd0 := Drawn.sameBut.refl s.drawn lw_cs') -/
theorem lw_ret {p : Program} {l : Launch} {e : Jvm.Env} {s : State} {m : MethodId} {below : List Frame} {meth : Method} {c : Code} {b : Nat} {d0 : Drawn} (hd0 : s.drawn.sameBut d0 lw_cs) (hx : p.tables.exec = Jvm.exec) (hb : c.code = code) (hr : meth.sig.returnType = ret) (hlocks : meth.locks = false) {pc : Nat} {H : Heap} {ls : Array Slot} (hdg : decode code pc = .ok (.ireturn, 1)) : W p l e room_1 (s.setDrawn d0) m #[Value.ref b] below meth c H [] 601024 7293034 (lw_Z below #[Value.ref b] s) (F0 m pc ls [.int 1]) := by
  intro T hT X
  obtain ⟨fs, hret, hrun, hended, hW, hframe⟩ := X.leave (v := some (.int 1)) (hlocks := hlocks) (fun h => by rw [hr] at h; cases h)
  have hmeth' : T.vm.method? m = some meth := X.method'
  refine ⟨T.setFrames fs, ?_, .returned (some (.int 1)), hrun, hended, rfl, lw_closed hd0 ⟨_, rfl⟩ hW hframe⟩
  jvm_step X.here [X.here.top, hx, hb, hdg, hmeth', hr, ret, narrow_b1]
  (try refine ⟨rfl, ?_⟩); (try refine ⟨rfl, ?_⟩)
  first | (intro acts; rw [hret _ acts rfl rfl rfl]) | rw [hret _ _ rfl rfl rfl]
  exact Steps.refl _
/-- what holds at the law's entry: the machine, the code, the tables' words (any of lw_tbl by 'hts w (by decide +kernel)'), the script of L ints xs at the cell b, what the Statement gives of the start (any of its parts by flat_of_before) -/
def lw_At (p : Program) (s : State) (m : MethodId) (meth : Method) (c : Code) (b L : Nat) (xs : Nat → Int32) : Prop :=
  p.tables.exec = Jvm.exec ∧ c.code = code ∧ meth.sig.returnType = ret ∧ c.maxLocals = 7 ∧ s.vm.findClass R_law = some m.cls ∧ (∀ w ∈ lw_tbl, w.before #[Value.ref b] s = true) ∧ va_X b L xs s s.heap ∧ b < s.heap.size ∧ meth.locks = false ∧ (Jvm.Cond.and given_1 narrow_1).before #[Value.ref b] s = true

set_option maxHeartbeats 8000000 in
set_option maxRecDepth 100000 in
theorem whole_start {p : Program} {e : Jvm.Env} {s : State} {m : MethodId} {below : List Frame} {meth : Method} {c : Code} (l : Launch) (hflags : l.flags = flags0) {b L : Nat} {xs : Nat → Int32} (hL : L ≤ 4608) (C0 : lw_At p s m meth c b L xs) : W p l e room_1 s m #[Value.ref b] below meth c s.heap [] 0 0 (lw_Z below #[Value.ref b] s) (entryFrame m ([Value.ref b] : List Value).toArray 7) := by
  obtain ⟨hx, hb, hr, hml, hown, hts, hX, hbl, hlocks, hgv⟩ := C0
  have hfl : l.stackTraces = false := by
    unfold Launch.stackTraces
    rw [hflags]
    decide +kernel
  have hd0 := Drawn.sameBut.refl s.drawn lw_cs
  obtain ⟨D, hD⟩ := known12 hts
  obtain ⟨aC, hC⟩ := known13 hts
  obtain ⟨aL, hAr, hRA⟩ := rArr_p (ty := .long) (fun C h => by cases h) (hts (.arrayClass .long) (by decide +kernel))
  have hK : va_K D vwC (tysA aC) s := ⟨hD, hC⟩
  have hown : s.vm.findClass RL = some m.cls := hown
  have hW : ∀ w ∈ wsL_law, w.before #[Value.ref b] s = true := fun w hw => hts w (wsL_law_in w hw)
  have S : CallFix p m c cL_law 7 s #[Value.ref b] wsL_law RL := ⟨hx, hb, hml, hown, hW⟩
  obtain ⟨h, hh⟩ : ∃ h, h = s.heap.size := ⟨_, rfl⟩
  have hT : Tz h s := by
    rw [hh]
    exact tz0 hts hgv ((hD 10 _ rfl).2.1)
  have hA : AOH s := aoh0 hts
  have hl := lv_entry ([.ref b]) (n := 7) (Nat.le_of_ble_eq_true rfl)
  refine W.base ?_
  rw [lg_entry_eq]
  generalize (lg_sl ([.ref b]) ++ List.replicate (7 - (lg_sl ([.ref b])).length) Slot.unset).toArray = ls at hl ⊢
  have hl : lv_has ls 7 [(0, .ref b)] := hl
  have hc : CS D h 0 (fun k => if k < 525 then cX0 (ExW D aC h) (fmH k) (ixH k) else if k < 571 then cM0 (EmW D aC h) (fmM (k - 525)) else .inl (aL, 1, .inr (.inl (fun _ => 0)))) s.heap s.heap [] := ⟨hh.symm, fun k hk => absurd hk (Nat.not_lt_zero _), fun _ _ => rfl, fun z hz => nomatch hz⟩
  refine cs_new (ci := 10) (fs := bl11) (C := RX11) (T := TX11) (N := 20) hx hb hts (fun w h => (wsL_in0_X110 w h).1) tyX11 tyX11_ok hown (hts (.classLink RL 8 RX11) (by decide +kernel)) (hts (.instantiable RX11 20) (by decide +kernel)) (hts (.initialized RX11) (by decide +kernel)) hK hc rfl bl11_d (by decide) (by decide) dL_law_0 (fun H hc => ?_)
  refine lv_dup hx hb dL_law_3 rfl ?_
  refine cs_callT (n := 0) (rest := [.ref (h + 0)]) (ci := 10) AOH_m (ctX11 l (ExW D aC h) (h + 0) (fun f i => rfl)) S (cwI 0 hW gL_law_X11_init rfl rfl rfl (hts (.initialized RX11) (by decide +kernel)) (hts (.methodLink RL 15 yX11_init) (by decide +kernel)) (hts (.instanceMethod yX11_init) (by decide +kernel)) rfl (by decide +kernel) ⟨Nat.le_of_ble_eq_true rfl, Nat.le_of_ble_eq_true rfl⟩) hK hA hc (fun k hk => by rw [Nat.zero_add]; exact (if_pos hk).symm) hl.1 (lv_room (Nat.le_of_ble_eq_true rfl)) dL_law_4 ⟨by decide, by decide⟩ (by omega) (fun H locs hc => ?_)
  refine lv_astore_n hx hb dL_law_7 rfl hl (by decide) rfl (fun ls1 hl1 => ?_)
  refine cs_new (ci := 11) (fs := bl12) (C := RX12) (T := TX12) (N := 76) hx hb hts (fun w h => (wsL_in0_X120 w h).1) tyX12 tyX12_ok hown (hts (.classLink RL 16 RX12) (by decide +kernel)) (hts (.instantiable RX12 76) (by decide +kernel)) (hts (.initialized RX12) (by decide +kernel)) hK hc rfl bl12_d (by decide) (by decide) dL_law_8 (fun H hc => ?_)
  refine lv_dup hx hb dL_law_11 rfl ?_
  refine cs_callT (n := 0 + 525) (rest := [.ref (h + (0 + 525))]) (ci := 11) (AO := fun _ => True) (fun _ _ _ _ => trivial) (ctX12 l (EmW D aC h) (h + (0 + 525)) (fun f i => by show h + 525 + offM f = h + (0 + 525) + offM f; omega)) S (cwI 0 hW gL_law_X12_init rfl rfl rfl (hts (.initialized RX12) (by decide +kernel)) (hts (.methodLink RL 18 yX12_init) (by decide +kernel)) (hts (.instanceMethod yX12_init) (by decide +kernel)) rfl (by decide +kernel) ⟨Nat.le_of_ble_eq_true rfl, Nat.le_of_ble_eq_true rfl⟩) hK trivial hc (fun k hk => by rw [if_neg (by omega), if_pos (by omega)]; rw [show 0 + 525 + k - 525 = k by omega]) hl1.1 (lv_room (Nat.le_of_ble_eq_true rfl)) dL_law_12 ⟨by decide, by decide⟩ (by omega) (fun H locs hc => ?_)
  refine lv_astore_n hx hb dL_law_15 rfl hl1 (by decide) rfl (fun ls2 hl2 => ?_)
  refine lv_iconst (v := 1) hx hb dL_law_16 (by decide) ?_
  refine cs_newaT (atype := .long) (ty := .long) (cA := aL) (N' := 1) (a0 := (1, .inr (.inl (fun _ => 0)))) hx hb (hts (.arrayClass .long) (by decide +kernel)) rfl hRA hc (by rfl) vpz (by decide) (by decide) (Nat.le_of_ble_eq_true rfl) (by decide) (by decide) dL_law_17 (fun H hc => ?_)
  refine lv_astore_n hx hb dL_law_19 rfl hl2 (by decide) rfl (fun ls3 hl3 => ?_)
  refine lv_iconst (v := 0) hx hb dL_law_20 (by decide) ?_
  refine lv_istore hx hb dL_law_21 hl3 (by decide) rfl (fun ls4 hl4 => ?_)
  have hl5 : lv_has ls4 7 (LawV (ExW D aC h) (EmW D aC h) (h + 571) b 0) := lv_sub hl4 [0, 4, 3, 2, 1] rfl
  have hP : LSt (ExW D aC h) (EmW D aC h) (h + 571) aL h x0 m0 (fun _ => 0) s H locs := by
    refine ⟨wX_lay (fun k hk => ?_), wM_lay (fun k hk => ?_), ?_, by rw [hc.1, ← hh]; exact Nat.le_add_right _ _, fun q _ h2 => hc.2.2.1 q (Nat.lt_of_not_le h2), hc.2.2.2⟩
    · have := hc.2.1 k (by omega)
      dsimp only at this
      rw [if_pos hk] at this
      exact this
    · have := hc.2.1 (525 + k) (by omega)
      dsimp only at this
      rw [if_neg (by omega), if_pos (by omega), show 525 + k - 525 = k by omega, ← Nat.add_assoc] at this
      exact this
    · have := hc.2.1 571 (by decide)
      exact this
  have F : LawFix p l s m c (ExW D aC h) (EmW D aC h) (h + 571) aL h b L xs := ⟨hx, S, hK, hK, geo_lay, LX_lay, LM_lay, hX, hbl, by omega, hL, hfl, hh.symm, hAr⟩
  refine law_loop F hT (fun st1 sm1 w1 H1 locs1 ls1 cells1 slots1 hw1 h1 h2 => ?_) L 0 (Nat.zero_le _) (by omega) (by omega) (by omega) hl5 rel0 hP
  refine w_widen h1 h2 (va_forget (fun q hq => by rw [← hh]; exact hw1.2.2.2.2.2 q hq) ?_)
  refine lv_iconst (v := 1) hx hb dL_law_2042 (by decide) ?_
  exact lw_ret hd0 hx hb hr hlocks dL_law_2043
