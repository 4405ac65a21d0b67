/-! ===== the law's out: it catches what ColourHouse.out throws ===== -/
theorem dL_out_0 : decode cL_out 0 = .ok (.aload_n 2, 1) := by decide +kernel
theorem dL_out_1 : decode cL_out 1 = .ok (.iconst 0, 1) := by decide +kernel
theorem dL_out_2 : decode cL_out 2 = .ok (.aload_n 0, 1) := by decide +kernel
theorem dL_out_3 : decode cL_out 3 = .ok (.iload_n 1, 1) := by decide +kernel
theorem dL_out_4 : decode cL_out 4 = .ok (.invokevirtual 7, 3) := by decide +kernel
theorem dL_out_7 : decode cL_out 7 = .ok (.i2l, 1) := by decide +kernel
theorem dL_out_8 : decode cL_out 8 = .ok (.lastore, 1) := by decide +kernel
theorem dL_out_9 : decode cL_out 9 = .ok (.goto 6, 3) := by decide +kernel
theorem dL_out_12 : decode cL_out 12 = .ok (.astore_n 3, 1) := by decide +kernel
theorem dL_out_13 : decode cL_out 13 = .ok (.iconst 1, 1) := by decide +kernel
theorem dL_out_14 : decode cL_out 14 = .ok (.ireturn, 1) := by decide +kernel
theorem dL_out_15 : decode cL_out 15 = .ok (.iconst 0, 1) := by decide +kernel
theorem dL_out_16 : decode cL_out 16 = .ok (.ireturn, 1) := by decide +kernel
def wsOL : List Cond := .codeWith yL_out cL_out 4 (some .int) [(0, 9, 12, 13)] :: (Cond.classLink RL 13 nseN :: wsV RL 7 RX11 yX11_out wsO)
set_option maxRecDepth 100000 in
theorem gO_out : GoodIn wsOL (wsV RL 7 RX11 yX11_out wsO) := goodIn_of _ (by decide +kernel)
def OA (oA : Nat) (aL : ClassId) (w : Nat → Int64) (H : Heap) : Prop := H[oA]? = some (vp_cell aL (1, .inr (.inl w)))
theorem o_last {p : Program} {l : Launch} {e : Jvm.Env} {R : Room} {s : State} {m : MethodId} {args : Array Value} {below : List Frame} {meth : Method} {c : Code} {H : Heap} {locs : List Loc} {cells slots : Nat} {Q : State → Prop} {cc : ByteArray} {pc oA : Nat} {aL : ClassId} {w : Nat → Int64} {ls : Array Slot} {rest : List Value} {x : Int64} (hx : p.tables.exec = Jvm.exec) (hb : c.code = cc) (hO : OA oA aL w H) (hA : ArrOfT s aL .long) (hdg : decode cc pc = .ok (.lastore, 1))
    (kk : ∀ (H1 : Heap), OA oA aL (vp_updL w 0 x) H1 → H1.size = H.size → (∀ q, q ≠ oA → H1[q]? = H[q]?) → W p l e R s m args below meth c H1 (locs ++ [⟨oA, 0⟩]) cells slots Q (F0 m (pc + 1) ls rest)) : W p l e R s m args below meth c H locs cells slots Q (F0 m pc ls (.long x :: .int 0 :: .ref oA :: rest)) := by
  refine W.last hx hb hO (hA 1 (fun j => .long (w j))) (fun q => by cases q) (by show ¬ ((0 : Int32) < 0 ∨ (arrV aL 1 (fun j => .long (w j))).slots.size ≤ _); rw [arrV_size]; decide) rfl rfl hdg fun H1 e z oq => ?_
  refine kk H1 ?_ z oq
  show H1[oA]? = some (vp_cell _ _)
  rw [e]
  rw [vp_cell_l, vp_cell_l, arrV_store]
  congr 2
  funext q
  by_cases hq : q = (0 : Int32).toNatClampNeg
  · have h0 : q = 0 := hq
    subst h0
    simp [updV, vp_updL]
  · have h0 : ¬ q = 0 := hq
    simp [updV, vp_updL, hq, h0]
theorem Tz.blind {h : Nat} {V : State} {g : JFrame} {mk : MethodId} {a : Array Value} (q : Tz h V) : Tz h (V.calling g mk a) := ⟨fun w hw => va_Nw.same (thrB_t w hw) (u := V) rfl (q.1 w hw), vx_Zq.moved (u := V) (Vm.Alike.refl V.vm) q.2.1, vx_Zq.moved (u := V) (Vm.Alike.refl V.vm) q.2.2.1, q.2.2.2.elim fun sa hs => ⟨sa, vk_R.same (u := V) rfl hs⟩⟩
theorem PO_blind {E : XE} {st : Sto} {h : Nat} {as : List Value} : FrameBlind (va_Pc as (PO E st h)) := fun a V g mk q => ⟨q.1, ⟨q.2.1.1, va_K.moved (u := V) (U := V.calling g mk a) (Vm.Alike.refl V.vm) q.2.1.2⟩, q.2.2.blind⟩
def PL (E : XE) (st : Sto) (h oA : Nat) (aL : ClassId) (w : Nat → Int64) (V : State) : Prop := PO E st h V ∧ OA oA aL w V.heap ∧ ArrOfT V aL .long
def QL (E : XE) (st : Sto) (oA : Nat) (aL : ClassId) (w : Nat → Int64) (a : Int32) : Array Value → State → Outcome → State → Prop := va_Qi (fun (r : Int32) (w1 : Nat → Int64) => (r = 0 ∧ (¬ a < 0 ∧ a < gI st 17 0 1) ∧ w1 = vp_updL w 0 (gI st 52 0 a.toNatClampNeg).toInt64) ∨ (r = 1 ∧ (a < 0 ∨ ¬ a < gI st 17 0 1) ∧ w1 = w)) (fun w1 V => RX E st V ∧ OA oA aL w1 V.heap) (fun q => E.2.2.2 q ∨ q = oA)
set_option maxHeartbeats 4000000 in
set_option maxRecDepth 100000 in
theorem mL_out (l : Launch) (hfl : l.stackTraces = false) (E : XE) (st : Sto) (h oA : Nat) (aL : ClassId) (w : Nat → Int64) (a : Int32) (hz : gI st 17 0 1 = 0 ∨ gI st 17 0 1 = 68) (hEh : ∀ q, E.2.2.2 q → h ≤ q) (hoE : ¬ E.2.2.2 oA) (hox : ∀ f i, f < nX → i < cntX f → E.2.2.1 f i ≠ oA) : vx_Met l yL_out wsOL { frames := 7, cells := 1, slots := 6, locals := 111 } (va_Pc [.ref (E.2.2.1 0 0), .int a, .ref oA] (PL E st h oA aL w)) (QL E st oA aL w a) (fun _ _ _ => False) 1 6 (fun q => E.2.2.2 q ∨ q = oA) := by
  refine vx_ofWH (cc := cL_out) (maxL := 4) (ret := some .int) (hh := [(0, 9, 12, 13)]) (by decide) rfl ?_
  intro p e s m args below meth c s₁ B hml hv
  obtain ⟨rfl, ⟨⟨hP, hK⟩, hTz⟩, hO, hA⟩ := hv
  have hown : s.vm.findClass RL = some m.cls := findClass_of_methodNamed B.named
  have hall := atoms_spec (ws := wsOL) B.pre
  have S : CallFix p m c cL_out 4 s _ wsOL RL := ⟨B.exec, B.bytes, hml, hown, hall⟩
  have htab : c.exceptionTable.toList = tableOf [(0, 9, 12, 13)] := vx_table (x := yL_out) B (hall _ List.mem_cons_self)
  have hx := B.exec
  have hb := B.bytes
  have hr := B.returns
  have hlocks := B.notSynchronized
  have hl := lv_entry ([.ref (E.2.2.1 0 0), .int a, .ref oA]) (n := 4) (Nat.le_of_ble_eq_true rfl)
  rw [lg_entry_eq]
  generalize (lg_sl ([.ref (E.2.2.1 0 0), .int a, .ref oA]) ++ List.replicate (4 - (lg_sl ([.ref (E.2.2.1 0 0), .int a, .ref oA])).length) Slot.unset).toArray = ls at hl ⊢
  have hl : lv_has ls 4 [(0, .ref (E.2.2.1 0 0)), (1, .int a), (2, .ref oA)] := hl
  have hkeep : ∀ H1 : Heap, s.heap.size ≤ H1.size → (∀ q : Nat, q < s.heap.size → ¬ E.2.2.2 q → H1[q]? = s.heap[q]?) → OA oA aL w H1 := fun H1 _ hk => (hk oA (Array.getElem?_eq_some_iff.mp hO).1 hoE).trans hO
  refine lv_aload_n hx hb dL_out_0 rfl (lv_at hl 2 rfl) ?_
  refine lv_iconst (v := 0) hx hb dL_out_1 (by decide) ?_
  refine lv_aload_n hx hb dL_out_2 rfl (lv_at hl 0 rfl) ?_
  refine lv_iload_n hx hb dL_out_3 rfl (lv_at hl 1 rfl) ?_
  have hrun := vx_runV (e := e) (H := s.heap) (locs := []) (cells := 0) (slots := 0) (R := (headSpec wsOL { frames := 7, cells := 1, slots := 6, locals := 111 }).room) (below := below) (meth := meth) (rest := [.int 0, .ref oA]) (As := [.int a]) (g := F0 m 4 ls (.int a :: .ref (E.2.2.1 0 0) :: .int 0 :: .ref oA :: [])) S (mX11_outT l hfl E st h a hz) (cwV 1 hall gO_out rfl rfl rfl (by decide +kernel) ⟨Nat.le_of_ble_eq_true rfl, Nat.le_of_ble_eq_true rfl⟩) ⟨PO_blind, va_recv hK hP (ci := 10) (q0 := offA cntX 0 + 0) (q := (RX11, TX11, 20)) rfl (wX_at (by decide) (by decide)), fun V hV hW => ⟨rfl, ⟨by rw [hV]; exact hP, va_K.moved hW.alike hK⟩, thrB_warm hW hTz.1, by rw [hV]; exact vx_Zq.moved hW.alike hTz.2.1, by rw [hV]; exact vx_Zq.moved hW.alike hTz.2.2.1, hTz.2.2.2.elim fun sa hs => ⟨sa, vk_R.warm hW hs⟩⟩⟩ rfl rfl hl.1 rfl (Nat.le_of_ble_eq_true rfl) dL_out_4 ⟨by decide, by decide⟩
  refine vx_calli (A0 := fun q => E.2.2.2 q ∨ q = oA) (H0 := s.heap) hrun va_S.rf (fun q _ h => Or.inl h) (fun q h => Or.inl h) (fun q _ h => Or.inl h) (fun nm ce q9 u t H1 locs1 ht hal hpx hbx hz1 hk1 hS1 hce hcv hcl => ?_) (fun r u t H1 locs1 ht hal hpost hB hz1 hk1 hS1 => ?_)
  · obtain ⟨rfl, hR1⟩ := hbx
    have hR1 : va_P E.1 vwC (wX E st) H1 := by rw [← ht]; exact hR1.1
    refine vx_catch hown [] ⟨0, 9, 12, 13⟩ [] htab (fun z hz => nomatch hz) rfl (by decide) (hall _ (List.mem_cons_of_mem _ List.mem_cons_self)) (va_Nw.use rfl (hTz.1 _ (by decide +kernel))) hce hcv hcl ?_
    refine lv_astore_n hx hb dL_out_12 rfl hl (by decide) rfl (fun ls' hl' => ?_)
    refine lv_iconst (v := 1) hx hb dL_out_13 (by decide) ?_
    refine vx_ret ?_
    exact W.iret hx hb hr (fun t ht hW => ⟨⟨_, w, rfl, Or.inr ⟨rfl, hpx, rfl⟩, ⟨(by rw [ht]; exact hR1 : va_P E.1 vwC (wX E st) t.heap), va_K.moved hW.alike hK⟩, by rw [ht]; exact hkeep H1 hz1 hk1⟩, hS1.F ht⟩) hS1.2.2 dL_out_14 hlocks
  · obtain ⟨p1, p2, rfl⟩ := hpost
    have hR1 : va_P E.1 vwC (wX E st) H1 := by rw [← ht]; exact hB.1
    refine lv_i2l hx hb dL_out_7 rfl ?_
    refine o_last hx hb (hkeep H1 hz1 hk1) hA dL_out_8 (fun H2 hO2 hz2 hk2 => ?_)
    have hR2 : va_P E.1 vwC (wX E st) H2 := hR1.kept (fun k q hq => by
      obtain ⟨f, i, h1, h2, h3, h4⟩ := wlA_inv hq
      refine hk2 q.1 ?_
      rw [h4]
      exact hox f i h1 h2)
    have hS2 : va_S (fun q => E.2.2.2 q ∨ q = oA) s.heap H2 (locs1 ++ [⟨oA, 0⟩]) := hS1.put hz2 hk2 (Or.inr rfl)
    refine lv_goto (tgt := 15) hx hb dL_out_9 (by decide) ?_
    refine lv_iconst (v := 0) hx hb dL_out_15 (by decide) ?_
    refine vx_ret ?_
    exact W.iret hx hb hr (fun t ht hW => ⟨⟨_, _, rfl, Or.inl ⟨rfl, ⟨p1, p2⟩, rfl⟩, ⟨(by rw [ht]; exact hR2 : va_P E.1 vwC (wX E st) t.heap), va_K.moved hW.alike hK⟩, by rw [ht]; exact hO2⟩, hS2.F ht⟩) hS2.2.2 dL_out_16 hlocks
