/-! ===== ColourHouse.out: it answers or throws ===== -/
def nseN : String := "java/util/NoSuchElementException"
def thrA : List Cond := cx_atoms RX11 371 nseN 13 prog_28_method_4_code ["java/lang/RuntimeException", "java/lang/Exception"]
def thrW : List Cond := (thrA.filter vx_no).filter goodWord
def wsO : List Cond := .code yX11_out cX11_out 2 (some .int) :: ([.classLink RX11 367 nseN, .initialized nseN, .fieldLink RX11 99 "ColourHouse" "mail" "LColourHouse$Mail;", .fieldLink RX11 364 "ColourHouse$Mail" "outSize" "I", .fieldLink RX11 374 "ColourHouse$Mail" "outBytes" "[I"] ++ wsX110 ++ wsX50 ++ thrW)
def thrB : List Cond := [.declares ⟨"java/lang/RuntimeException", "<init>", "(Ljava/lang/String;)V"⟩, .declares ⟨"java/lang/Exception", "<init>", "(Ljava/lang/String;)V"⟩, .declares ⟨"java/lang/Throwable", "<init>", "(Ljava/lang/String;)V"⟩, .castable nseN nseN]
theorem thrN_in : ∀ w ∈ (thrA.filter vx_no).filter (fun w => !goodWord w), w ∈ thrB := by decide +kernel
theorem thrB_t : ∀ w ∈ thrB, w.onTables = true := by decide +kernel
theorem thrB_warm {u U : State} (hW : u.WarmedH U.vm) (h : ∀ w ∈ thrB, va_Nw w u) : ∀ w ∈ thrB, va_Nw w U := by
  intro w hw
  have hu := h w hw
  simp only [thrB, List.mem_cons, List.not_mem_nil, or_false] at hw
  rcases hw with rfl | rfl | rfl | rfl
  · exact va_Nw.warmD hW hu
  · exact va_Nw.warmD hW hu
  · exact va_Nw.warmD hW hu
  · exact va_Nw.warmC hW hu
theorem thr_ot : ∀ w ∈ Cond.classLink RX11 367 nseN :: Cond.initialized nseN :: thrA.filter vx_no, vx_ot w = true := by decide +kernel
theorem thr_0 : decode prog_28_method_4_code 0 = .ok (.aload_n 0, 1) := by decide +kernel
theorem thr_1 : decode prog_28_method_4_code 1 = .ok (.aload_n 1, 1) := by decide +kernel
theorem thr_2 : decode prog_28_method_4_code 2 = .ok (.invokespecial 13, 3) := by decide +kernel
theorem thr_5 : decode prog_28_method_4_code 5 = .ok (.return_, 1) := by decide +kernel
theorem thr_f0 : Bundle.fit nseN = true := by decide +kernel
theorem thr_f1 : ∀ n ∈ ["java/lang/RuntimeException", "java/lang/Exception"], Bundle.fit n = true := by decide +kernel
/-- what the throw needs of the heap and the tables -/
def Tz (h : Nat) (V : State) : Prop := (∀ w ∈ thrB, va_Nw w V) ∧ vx_Zq Bundle.tN "UNASSIGNED_STACK" Bundle.steD (fun q => h ≤ q) V V.heap ∧ vx_Zq Bundle.tN "SUPPRESSED_SENTINEL" Bundle.listD (fun q => h ≤ q) V V.heap ∧ ∃ sa, vk_R RX11 369 "OUT has no such byte" sa V
def PO (E : XE) (st : Sto) (h : Nat) (V : State) : Prop := RX E st V ∧ Tz h V
def QOi (E : XE) (st : Sto) (a : Int32) : Array Value → State → Outcome → State → Prop := va_Qi (fun (r : Int32) (_ : Unit) => ¬ a < 0 ∧ a < gI st 17 0 1 ∧ r = gI st 52 0 a.toNatClampNeg) (fun _ V => RX E st V) E.2.2.2
def XO (E : XE) (st : Sto) (a : Int32) : String → State → State → Prop := vx_X (fun _ : Unit => a < 0 ∨ ¬ a < gI st 17 0 1) (fun nm _ V => nm = nseN ∧ RX E st V) E.2.2.2
theorem w_widen {p : Program} {l : Launch} {e : Jvm.Env} {R : Room} {s : State} {m : MethodId} {args : Array Value} {below : List Frame} {meth : Method} {c : Code} {H : Heap} {locs : List Loc} {cells slots : Nat} {Q : State → Prop} {g : JFrame} {k n : Nat} (h1 : cells ≤ k) (h2 : slots ≤ n) (kk : W p l e R s m args below meth c H locs k n Q g) : W p l e R s m args below meth c H locs cells slots Q g := fun T hT X => kk T hT (stand_widen X h1 h2)
set_option maxHeartbeats 4000000 in
set_option maxRecDepth 100000 in
theorem mX11_outT (l : Launch) (hfl : l.stackTraces = false) (E : XE) (st : Sto) (h : Nat) (a : Int32) (hz : gI st 17 0 1 = 0 ∨ gI st 17 0 1 = 68) : vx_Met l yX11_out wsO { frames := 6, cells := 1, slots := 6, locals := 90 } (va_Pc [.ref (E.2.2.1 0 0), .int a] (PO E st h)) (QOi E st a) (XO E st a) 1 6 E.2.2.2 := by
  refine vx_ofW (cc := cX11_out) (maxL := 2) (ret := some .int) (by decide) rfl ?_
  intro p e s m args below meth c s₁ B hml ht hv
  obtain ⟨rfl, ⟨hP, hK⟩, hNw, hU, hN, sa, hsa⟩ := hv
  have hown : s.vm.findClass RX11 = some m.cls := findClass_of_methodNamed B.named
  have C0 : CX p m c cX11_out 2 s _ wsO RX11 E := ⟨⟨B.exec, B.bytes, hml, hown, atoms_spec (ws := wsO) B.pre⟩, hK⟩
  have hx := B.exec
  have hb := B.bytes
  have hr := B.returns
  have hlocks := B.notSynchronized
  have hw : SX E s st s.heap [] := ⟨hP, va_S.rf⟩
  have hl := lv_entry ([.ref (E.2.2.1 0 0), .int a]) (n := 2) (Nat.le_of_ble_eq_true rfl)
  rw [lg_entry_eq]
  generalize (lg_sl ([.ref (E.2.2.1 0 0), .int a]) ++ List.replicate (2 - (lg_sl ([.ref (E.2.2.1 0 0), .int a])).length) Slot.unset).toArray = ls at hl ⊢
  have hl : lv_has ls 2 [(0, .ref (E.2.2.1 0 0)), (1, .int a)] := hl
  have i110 : ∀ w ∈ u_ws RX11 TX11 20, w ∈ wsO := fun w q => List.mem_cons_of_mem _ (List.mem_append_left _ (List.mem_append_left _ (List.mem_append_right _ q)))
  have i50 : ∀ w ∈ u_ws RX5 TX5 3, w ∈ wsO := fun w q => List.mem_cons_of_mem _ (List.mem_append_left _ (List.mem_append_right _ q))
  have j99 : Cond.fieldLink RX11 99 "ColourHouse" "mail" "LColourHouse$Mail;" ∈ wsO := List.mem_of_getElem? (i := 3) rfl
  have j364 : Cond.fieldLink RX11 364 "ColourHouse$Mail" "outSize" "I" ∈ wsO := List.mem_of_getElem? (i := 4) rfl
  have j374 : Cond.fieldLink RX11 374 "ColourHouse$Mail" "outBytes" "[I" ∈ wsO := List.mem_of_getElem? (i := 5) rfl
  have hat : ∀ w ∈ thrA.filter vx_no, w.before (#[.ref (E.2.2.1 0 0), .int a] : Array Value) s = true := vx_hat (fun w q => C0.1.2.2.2.2 w (List.mem_cons_of_mem _ (List.mem_append_right _ q))) thrN_in (fun w q => va_Nw.use (thrB_t w q) (hNw w q))
  have jk : Cond.classLink RX11 367 nseN ∈ wsO := List.mem_of_getElem? (i := 1) rfl
  have ji : Cond.initialized nseN ∈ wsO := List.mem_of_getElem? (i := 2) rfl
  have hthrow : (a < 0 ∨ ¬ a < gI st 17 0 1) → W p l e (headSpec wsO { frames := 6, cells := 1, slots := 6, locals := 90 }).room s m #[.ref (E.2.2.1 0 0), .int a] below meth c s.heap [] 0 0 (vx_MQ below (QOi E st a) (XO E st a) #[.ref (E.2.2.1 0 0), .int a] s 1 6 E.2.2.2) (F0 m 15 ls []) := fun hc => by
    refine cx_throwSW (A := fun q => h ≤ q) hx hb hfl thr_0 thr_1 thr_2 thr_5 hown thr_f0 thr_f1 (C0.1.2.2.2.2 _ jk) (C0.1.2.2.2.2 _ ji) hsa hat thr_ot hU hN va_S.rf (hl.1.trans hml.symm) dX11_out_15 dX11_out_18 dX11_out_19 dX11_out_22 dX11_out_25 (fun x hx => (ht x hx).elim) (by decide) (by decide) (by decide) (by decide) hlocks ?_ (fun z hz => nomatch hz) (by decide) (by decide)
    intro t hal hsz hk
    exact ⟨(), hc, ⟨rfl, hP.kept (fun k q hq => hk q.1 ((hP k q hq).lt)), va_K.moved hal hK⟩, hsz, fun q h1 _ => hk q h1⟩
  refine lv_iload_n hx hb dX11_out_0 rfl (lv_at hl 1 rfl) ?_
  refine lv_if_lt (tgt := 15) hx hb dX11_out_1 (by decide) (fun hc => hthrow (Or.inl hc)) (fun hn => ?_)
  refine lv_iload_n hx hb dX11_out_4 rfl (lv_at hl 1 rfl) ?_
  refine lv_aload_n hx hb dX11_out_5 rfl (lv_at hl 0 rfl) ?_
  refine X_g0_17 C0 hw i110 (by decide) j99 dX11_out_6 ?_
  refine X_g17_1 C0 hw i50 (by decide) j364 dX11_out_9 ?_
  refine lv_icmp_lt (tgt := 26) hx hb dX11_out_12 (by decide) (fun hc => ?_) (fun hc => hthrow (Or.inr hc))
  refine lv_aload_n hx hb dX11_out_26 rfl (lv_at hl 0 rfl) ?_
  refine X_g0_17 C0 hw i110 (by decide) j99 dX11_out_27 ?_
  refine X_g17_0 C0 hw i50 (by decide) j374 dX11_out_30 ?_
  refine lv_iload_n hx hb dX11_out_33 rfl (lv_at hl 1 rfl) ?_
  have hin : vp_in a (lIX 52 0) := by
    have h3 : a.toInt < (gI st 17 0 1).toInt := Int32.lt_iff_toInt_lt.mp hc
    have h4 : ¬ a.toInt < 0 := fun q => hn (Int32.lt_iff_toInt_lt.mpr q)
    have h5 : (gI st 17 0 1).toInt ≤ 68 := by
      rcases hz with z | z <;> rw [z] <;> decide
    rintro (q | q)
    · exact hn q
    · have e1 : lIX 52 0 = 68 := rfl
      rw [e1] at q
      have e2 : a.toNatClampNeg = a.toInt.toNat := rfl
      omega
  refine X_ialdL C0 hw hin rfl dX11_out_34 ?_
  refine w_widen (Nat.zero_le 1) (Nat.zero_le 6) (vx_ret ?_)
  exact W.iret hx hb hr (fun t ht hW => ⟨⟨_, (), rfl, ⟨hn, hc, rfl⟩, ⟨(by rw [ht]; exact hw.1 : va_P E.1 vwC (wX E st) t.heap), va_K.moved hW.alike C0.2⟩⟩, hw.2.F ht⟩) hw.2.2.2 dX11_out_35 hlocks
