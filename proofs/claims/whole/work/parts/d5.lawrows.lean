/-! ===== the law's world: both objects and its array ===== -/
def Geo (E EM : XE) (h oA : Nat) : Prop := (∀ q, E.2.2.2 q → h ≤ q) ∧ (∀ q, EM.2.2.2 q → h ≤ q) ∧ (∀ f i, f < nM → i < cntM f → ¬ E.2.2.2 (EM.2.2.1 f i)) ∧ (∀ f i, f < nX → i < cntX f → ¬ EM.2.2.2 (E.2.2.1 f i)) ∧ ¬ E.2.2.2 oA ∧ ¬ EM.2.2.2 oA ∧ (∀ f i, f < nX → i < cntX f → E.2.2.1 f i ≠ oA) ∧ (∀ f i, f < nM → i < cntM f → EM.2.2.1 f i ≠ oA) ∧ h ≤ oA
def LSt (E EM : XE) (oA : Nat) (aL : ClassId) (h : Nat) (st sm : Sto) (w : Nat → Int64) (s : State) (H : Heap) (locs : List Loc) : Prop := va_P E.1 vwC (wX E st) H ∧ va_P EM.1 vwC (wM EM sm) H ∧ H[oA]? = some (vp_cell aL (1, .inr (.inl w))) ∧ va_S (fun q => h ≤ q) s.heap H locs
theorem LS_X {E EM : XE} {oA h : Nat} {aL : ClassId} {st sm st1 : Sto} {w : Nat → Int64} {s : State} {H H1 : Heap} {locs L : List Loc} (g : Geo E EM h oA) (hw : LSt E EM oA aL h st sm w s H locs) (hP : va_P E.1 vwC (wX E st1) H1) (hz : H.size ≤ H1.size) (hk : ∀ q, q < H.size → ¬ E.2.2.2 q → H1[q]? = H[q]?) (hL : ∀ z ∈ L, E.2.2.2 z.base) : LSt E EM oA aL h st1 sm w s H1 (locs ++ L) := by
  obtain ⟨g1, g2, g3, g4, g5, g6, g7, g8, g9⟩ := g
  obtain ⟨w1, w2, w3, w4⟩ := hw
  refine ⟨hP, w2.kept (fun k q hq => ?_), (hk oA (Array.getElem?_eq_some_iff.mp w3).1 g5).trans w3, Nat.le_trans w4.1 hz, fun q h1 h2 => (hk q (Nat.lt_of_lt_of_le h1 w4.1) (fun z => h2 (g1 q z))).trans (w4.2.1 q h1 h2), fun z hz1 => ?_⟩
  · have hl := (w2 k q hq).lt
    obtain ⟨f, i, h1, h2, h3, h4⟩ := wlA_inv hq
    refine hk q.1 hl ?_
    rw [h4]
    exact g3 f i h1 h2
  · rcases List.mem_append.mp hz1 with y | y
    · exact w4.2.2 z y
    · exact g1 _ (hL z y)
theorem LS_M {E EM : XE} {oA h : Nat} {aL : ClassId} {st sm sm1 : Sto} {w : Nat → Int64} {s : State} {H H1 : Heap} {locs L : List Loc} (g : Geo E EM h oA) (hw : LSt E EM oA aL h st sm w s H locs) (hP : va_P EM.1 vwC (wM EM sm1) H1) (hz : H.size ≤ H1.size) (hk : ∀ q, q < H.size → ¬ EM.2.2.2 q → H1[q]? = H[q]?) (hL : ∀ z ∈ L, EM.2.2.2 z.base) : LSt E EM oA aL h st sm1 w s H1 (locs ++ L) := by
  obtain ⟨g1, g2, g3, g4, g5, g6, g7, g8, g9⟩ := g
  obtain ⟨w1, w2, w3, w4⟩ := hw
  refine ⟨w1.kept (fun k q hq => ?_), hP, (hk oA (Array.getElem?_eq_some_iff.mp w3).1 g6).trans w3, Nat.le_trans w4.1 hz, fun q h1 h2 => (hk q (Nat.lt_of_lt_of_le h1 w4.1) (fun z => h2 (g2 q z))).trans (w4.2.1 q h1 h2), fun z hz1 => ?_⟩
  · have hl := (w1 k q hq).lt
    obtain ⟨f, i, h1, h2, h3, h4⟩ := wlA_inv hq
    refine hk q.1 hl ?_
    rw [h4]
    exact g4 f i h1 h2
  · rcases List.mem_append.mp hz1 with y | y
    · exact w4.2.2 z y
    · exact g2 _ (hL z y)
section LRW
variable {p : Program} {l : Launch} {e : Jvm.Env} {R : Room} {s : State} {m : MethodId} {args : Array Value} {below : List Frame} {meth : Method} {c : Code} {H : Heap} {locs : List Loc} {cells slots : Nat} {Q : State → Prop}
variable {cc : ByteArray} {pc : Nat} {ls : Array Slot} {rest : List Value} {E EM : XE} {oA h : Nat} {aL : ClassId} {st sm : Sto} {w : Nat → Int64}
theorem L_callX {nL : Nat} {Ts : List Cond} {own : String} (S : CallFix p m c cc nL s args Ts own) (hK : va_K E.1 vwC (tysA E.2.1) s) (g : Geo E EM h oA) (hw : LSt E EM oA aL h st sm w s H locs) {y : MethodName} {bytes : ByteArray} {maxL index n : Nat} {ret : Option FieldType} {ws : List Cond} {rm : Room} {As : List Value} {st1 : Sto} {v : Option Value} (hM : Met l y ws rm (va_Pc (.ref (E.2.2.1 0 0) :: As) (RX E st)) (QX E v st1) 0 0 E.2.2.2) (cw : CallW R s args own RX11 index y bytes maxL ret ws rm 0 0 n) (hn : As.length = n) (hsz : ls.size = nL) {st0 : List Value} (hst : st0 = As.reverse ++ .ref (E.2.2.1 0 0) :: rest) (hrm : (rest.map fun v => v.category).sum ≤ 8) (hdg : decode cc pc = .ok (.invokevirtual index, 3)) (hf : cells ≤ R.cells ∧ slots ≤ R.slots) (kk : ∀ (H1 : Heap) (locs1 : List Loc), LSt E EM oA aL h st1 sm w s H1 locs1 → W p l e R s m args below meth c H1 locs1 cells slots Q (F0 m (pc + 3) ls (v.toList ++ rest))) : W p l e R s m args below meth c H locs cells slots Q (F0 m pc ls st0) := by
  have hr := va_runV (e := e) (H := H) (locs := locs) (cells := cells) (slots := slots) (below := below) (meth := meth) (rest := rest) (g := F0 m pc ls st0) S hM cw ⟨RX_blind, va_recv hK hw.1 (ci := 10) (q0 := offA cntX 0 + 0) (q := (RX11, TX11, 20)) rfl (wX_at (by decide) (by decide)), fun V hV hW => ⟨rfl, by rw [hV]; exact hw.1, va_K.moved hW.alike hK⟩⟩ rfl hn hsz hst (by show 2 * 0 + _ ≤ 8; omega) hdg hf
  intro T hT X
  obtain ⟨v', st₀, t, T', L, h0, X', hL, e1, e2, ⟨hv, hR, hz, hk⟩, st'⟩ := hr T hT X
  cases hv
  rw [h0] at hz hk
  obtain ⟨t2, a1, b1⟩ := kk T'.heap (locs ++ L) (LS_X g hw (by rw [e1]; exact hR.1) (by rw [e1]; exact hz) (fun q h1 h2 => by rw [e1]; exact hk q h1 h2) hL) T' rfl X'
  exact ⟨t2, st' t2 a1, b1⟩
theorem L_callM {nL : Nat} {Ts : List Cond} {own : String} (S : CallFix p m c cc nL s args Ts own) (hK : va_K EM.1 vwC (tysA EM.2.1) s) (g : Geo E EM h oA) (hw : LSt E EM oA aL h st sm w s H locs) {y : MethodName} {bytes : ByteArray} {maxL index n : Nat} {ret : Option FieldType} {ws : List Cond} {rm : Room} {As : List Value} {sm1 : Sto} {v : Option Value} (hM : Met l y ws rm (va_Pc (.ref (EM.2.2.1 0 0) :: As) (RM EM sm)) (QM EM v sm1) 0 0 EM.2.2.2) (cw : CallW R s args own RX12 index y bytes maxL ret ws rm 0 0 n) (hn : As.length = n) (hsz : ls.size = nL) {st0 : List Value} (hst : st0 = As.reverse ++ .ref (EM.2.2.1 0 0) :: rest) (hrm : (rest.map fun v => v.category).sum ≤ 8) (hdg : decode cc pc = .ok (.invokevirtual index, 3)) (hf : cells ≤ R.cells ∧ slots ≤ R.slots) (kk : ∀ (H1 : Heap) (locs1 : List Loc), LSt E EM oA aL h st sm1 w s H1 locs1 → W p l e R s m args below meth c H1 locs1 cells slots Q (F0 m (pc + 3) ls (v.toList ++ rest))) : W p l e R s m args below meth c H locs cells slots Q (F0 m pc ls st0) := by
  have hr := va_runV (e := e) (H := H) (locs := locs) (cells := cells) (slots := slots) (below := below) (meth := meth) (rest := rest) (g := F0 m pc ls st0) S hM cw ⟨RM_blind, va_recv hK hw.2.1 (ci := 11) (q0 := offA cntM 0 + 0) (q := (RX12, TX12, 76)) rfl (wM_at (by decide) (by decide)), fun V hV hW => ⟨rfl, by rw [hV]; exact hw.2.1, va_K.moved hW.alike hK⟩⟩ rfl hn hsz hst (by show 2 * 0 + _ ≤ 8; omega) hdg hf
  intro T hT X
  obtain ⟨v', st₀, t, T', L, h0, X', hL, e1, e2, ⟨hv, hR, hz, hk⟩, st'⟩ := hr T hT X
  cases hv
  rw [h0] at hz hk
  obtain ⟨t2, a1, b1⟩ := kk T'.heap (locs ++ L) (LS_M g hw (by rw [e1]; exact hR.1) (by rw [e1]; exact hz) (fun q h1 h2 => by rw [e1]; exact hk q h1 h2) hL) T' rfl X'
  exact ⟨t2, st' t2 a1, b1⟩
/-- an int of the script -/
theorem L_argC (hx : p.tables.exec = Jvm.exec) (hb : c.code = cc) {lv : List (Nat × Value)} {nL i k L b : Nat} {xs : Nat → Int32} {v : Int32} {n : Int} (hl : lv_has ls nL lv) (h4 : lv[0]? = some (4, .int (nI i))) (h0 : lv[1]? = some (0, .ref b)) (hX : va_X b L xs s s.heap) (hbl : b < s.heap.size) (hbA : ¬ h ≤ b) (hS : va_S (fun q => h ≤ q) s.heap H locs) (hk : i + k < L) (hL : L ≤ 4608) (hv : v = nI k) (d0 : decode cc pc = .ok (.aload_n 0, 1)) (d1 : decode cc (pc + 1) = .ok (.iload 4, 2)) (d3 : decode cc (pc + 3) = .ok (.iconst n, 1)) (hn : Int32.ofInt n = v) (d4 : decode cc (pc + 4) = .ok (.iadd, 1)) (d5 : decode cc (pc + 5) = .ok (.iaload, 1)) (kk : W p l e R s m args below meth c H locs cells slots Q (F0 m (pc + 6) ls (.int (xs (i + k)) :: rest))) : W p l e R s m args below meth c H locs cells slots Q (F0 m pc ls rest) := by
  refine lv_aload_n hx hb d0 rfl (lv_at hl 1 h0) ?_
  refine lv_iload hx hb d1 (lv_at hl 0 h4) ?_
  refine lv_iconst (v := v) hx hb d3 hn ?_
  refine lv_iadd hx hb d4 ?_
  rw [hv, nI_add]
  refine va_sld hx hb hX hbl hbA hS (vp_in_nI hk (by omega)) d5 ?_
  rw [nI_cl (by omega)]
  exact kk
theorem L_argB (hx : p.tables.exec = Jvm.exec) (hb : c.code = cc) {lv : List (Nat × Value)} {nL i k L b : Nat} {xs : Nat → Int32} {v : Int32} {n : Int} (hl : lv_has ls nL lv) (h4 : lv[0]? = some (4, .int (nI i))) (h0 : lv[1]? = some (0, .ref b)) (hX : va_X b L xs s s.heap) (hbl : b < s.heap.size) (hbA : ¬ h ≤ b) (hS : va_S (fun q => h ≤ q) s.heap H locs) (hk : i + k < L) (hL : L ≤ 4608) (hv : v = nI k) (d0 : decode cc pc = .ok (.aload_n 0, 1)) (d1 : decode cc (pc + 1) = .ok (.iload 4, 2)) (d3 : decode cc (pc + 3) = .ok (.bipush n, 2)) (hn : (Int8.ofInt n).toInt32 = v) (d4 : decode cc (pc + 5) = .ok (.iadd, 1)) (d5 : decode cc (pc + 6) = .ok (.iaload, 1)) (kk : W p l e R s m args below meth c H locs cells slots Q (F0 m (pc + 7) ls (.int (xs (i + k)) :: rest))) : W p l e R s m args below meth c H locs cells slots Q (F0 m pc ls rest) := by
  refine lv_aload_n hx hb d0 rfl (lv_at hl 1 h0) ?_
  refine lv_iload hx hb d1 (lv_at hl 0 h4) ?_
  refine lv_bipush (v := v) hx hb d3 hn ?_
  refine lv_iadd hx hb d4 ?_
  rw [hv, nI_add]
  refine va_sld hx hb hX hbl hbA hS (vp_in_nI hk (by omega)) d5 ?_
  rw [nI_cl (by omega)]
  exact kk
/-- an int of the script as a yes or no -/
theorem L_bool (hx : p.tables.exec = Jvm.exec) (hb : c.code = cc) {v : Int32} {a b9 : Int} {pz : Nat} (d0 : decode cc pc = .ok (.ifCond .eq a, 3)) (ht : (pc : Int) + a = (pz : Int)) (d3 : decode cc (pc + 3) = .ok (.iconst 1, 1)) (d4 : decode cc (pc + 4) = .ok (.goto b9, 3)) (ht2 : ((pc + 4 : Nat) : Int) + b9 = ((pz + 1 : Nat) : Int)) (dz : decode cc pz = .ok (.iconst 0, 1)) (kk : W p l e R s m args below meth c H locs cells slots Q (F0 m (pz + 1) ls (.int (if v = 0 then 0 else 1) :: rest))) : W p l e R s m args below meth c H locs cells slots Q (F0 m pc ls (.int v :: rest)) := by
  refine lv_if_eq (tgt := pz) hx hb d0 ht (fun hc => ?_) (fun hc => ?_)
  · rw [if_pos hc] at kk
    exact lv_iconst (v := 0) hx hb dz (by decide) kk
  · rw [if_neg hc] at kk
    refine lv_iconst (v := 1) hx hb d3 (by decide) ?_
    exact lv_goto (tgt := pz + 1) hx hb d4 ht2 kk
end LRW
