def fX11_takeBack (a1f : Nat) (a1i : Nat) (a2f : Nat) (a2i : Nat) (st : Sto) : Option Sto :=
  ck (0 ≤ (0 : Int32).toInt ∧ (0 : Int32).toInt < (lIX a1f a1i : Int)) (
   lt1 (gI st a1f a1i (0)) fun (v1 : Int32) =>
   if v1 = 6 then (
    ck (0 ≤ (1 : Int32).toInt ∧ (1 : Int32).toInt < (lIX a1f a1i : Int)) (
     ck (0 ≤ (gI st a1f a1i (1)).toInt ∧ (gI st a1f a1i (1)).toInt < (12 : Int)) (
      lt1 (sI st 22 ((gI st a1f a1i (1)).toNatClampNeg) 2 ((gI st 22 ((gI st a1f a1i (1)).toNatClampNeg) 2) - (1 : Int32))) fun (t3 : Sto) =>
      some t3))) else if v1 = 7 then (
    ck (0 ≤ (1 : Int32).toInt ∧ (1 : Int32).toInt < (lIX a1f a1i : Int)) (
     ck (0 ≤ (gI st a1f a1i (1)).toInt ∧ (gI st a1f a1i (1)).toInt < (12 : Int)) (
      ck (0 ≤ (2 : Int32).toInt ∧ (2 : Int32).toInt < (lIX a1f a1i : Int)) (
       lt1 (sI st 22 ((gI st a1f a1i (1)).toNatClampNeg) 1 (gI st a1f a1i (2))) fun (t5 : Sto) =>
       some t5)))) else if v1 = 8 then (
    ck (0 ≤ (1 : Int32).toInt ∧ (1 : Int32).toInt < (lIX a1f a1i : Int)) (
     ck (0 ≤ (gI st a1f a1i (1)).toInt ∧ (gI st a1f a1i (1)).toInt < (12 : Int)) (
      ck (0 ≤ (2 : Int32).toInt ∧ (2 : Int32).toInt < (lIX a1f a1i : Int)) (
       ck (0 ≤ (3 : Int32).toInt ∧ (3 : Int32).toInt < (lIX a1f a1i : Int)) (
        (fX1_takeGrams ((gI st a1f a1i (1)).toNatClampNeg) (gI st a1f a1i (2)) (gI st a1f a1i (3)) st).bind (fun (t7 : Sto) =>
         ck (0 ≤ (2 : Int32).toInt ∧ (2 : Int32).toInt < (lIX a1f a1i : Int)) (
          ck (0 ≤ (gI t7 a1f a1i (2)).toInt ∧ (gI t7 a1f a1i (2)).toInt < (20 : Int)) (
           ck (0 ≤ (3 : Int32).toInt ∧ (3 : Int32).toInt < (lIX a1f a1i : Int)) (
            lt1 (sI t7 29 ((gI t7 a1f a1i (2)).toNatClampNeg) 4 ((gI t7 29 ((gI t7 a1f a1i (2)).toNatClampNeg) 4) + ((gI t7 a1f a1i (3)) * (1000 : Int32)))) fun (t10 : Sto) =>
            some t10))))))))) else if v1 = 9 then (
    ck (0 ≤ (1 : Int32).toInt ∧ (1 : Int32).toInt < (lIX a1f a1i : Int)) (
     ck (0 ≤ (gI st a1f a1i (1)).toInt ∧ (gI st a1f a1i (1)).toInt < (12 : Int)) (
      ck (0 ≤ (2 : Int32).toInt ∧ (2 : Int32).toInt < (lIX a1f a1i : Int)) (
       jn (fun (v15 : Int32) =>
        ck (v15 = 0 ∨ v15 = 1) (
         lt1 (sI st 30 ((gI st a1f a1i (1)).toNatClampNeg) 5 v15) fun (t16 : Sto) =>
         ck (0 ≤ (1 : Int32).toInt ∧ (1 : Int32).toInt < (lIX a1f a1i : Int)) (
          ck (0 ≤ (gI t16 a1f a1i (1)).toInt ∧ (gI t16 a1f a1i (1)).toInt < (12 : Int)) (
           (fX11_copyRow a2f a2i (33) ((gI t16 a1f a1i (1)).toNatClampNeg) t16).bind (fun (t18 : Sto) =>
            some t18))))) fun K12 =>
       if gI st a1f a1i (2) = (1 : Int32) then (
        K12 (1 : Int32)) else (
        K12 (0 : Int32)))))) else if v1 = 10 then (
    ck (0 ≤ (1 : Int32).toInt ∧ (1 : Int32).toInt < (lIX a1f a1i : Int)) (
     ck (0 ≤ (gI st a1f a1i (1)).toInt ∧ (gI st a1f a1i (1)).toInt < (40 : Int)) (
      (fX2_restoreFrom ((gI st a1f a1i (1)).toNatClampNeg) a2f a2i st).bind (fun (t22 : Sto) =>
       some t22)))) else (
    some st))
set_option maxHeartbeats 4000000 in
set_option maxRecDepth 100000 in
theorem mX11_takeBack (l : Launch) (E : XE) (hL : LX E) (st : Sto) {a1f : Nat} {a1i : Nat} {a2f : Nat} {a2i : Nat} {st1 : Sto} (h : fX11_takeBack a1f a1i a2f a2i st = some st1) : Met l yX11_takeBack wsX11_takeBack ({ frames := 2, cells := 0, slots := 0, locals := 69 }) (va_Pc [.ref (E.2.2.1 0 (0)), .ref (E.2.2.1 a1f a1i), .ref (E.2.2.1 a2f a2i)] (RX E st)) (QX E none st1) 0 0 E.2.2.2 := by
  refine Met.ofW (cc := cX11_takeBack) (maxL := 3) (ret := none) (by decide) rfl ?_
  intro p e s m args below meth c s₁ B hml hv
  obtain ⟨rfl, hP, hK⟩ := hv
  have hown : s.vm.findClass RX11 = some m.cls := findClass_of_methodNamed B.named
  have C0 : CX p m c cX11_takeBack 3 s _ wsX11_takeBack RX11 E := ⟨⟨B.exec, B.bytes, hml, hown, atoms_spec (ws := wsX11_takeBack) B.pre⟩, hK⟩
  have hx := B.exec
  have hb := B.bytes
  have hr := B.returns
  have hlocks := B.notSynchronized
  have hw : SX E s st s.heap [] := ⟨hP, va_S.rf⟩
  have hl := lv_entry ([.ref (E.2.2.1 0 (0)), .ref (E.2.2.1 a1f a1i), .ref (E.2.2.1 a2f a2i)]) (n := 3) (Nat.le_of_ble_eq_true rfl)
  rw [lg_entry_eq]
  generalize (lg_sl ([.ref (E.2.2.1 0 (0)), .ref (E.2.2.1 a1f a1i), .ref (E.2.2.1 a2f a2i)]) ++ List.replicate (3 - (lg_sl ([.ref (E.2.2.1 0 (0)), .ref (E.2.2.1 a1f a1i), .ref (E.2.2.1 a2f a2i)])).length) Slot.unset).toArray = ls at hl ⊢
  have hl : lv_has ls 3 [(0, .ref (E.2.2.1 0 (0))), (1, .ref (E.2.2.1 a1f a1i)), (2, .ref (E.2.2.1 a2f a2i))] := hl
  unfold fX11_takeBack at h
  refine lv_aload_n hx hb dX11_takeBack_0 rfl (lv_at hl 1 rfl) ?_
  refine lv_iconst (v := 0) hx hb dX11_takeBack_1 (by decide) ?_
  refine X_iald C0 hw h (k := 0) rfl dX11_takeBack_2 (fun h => ?_)
  refine x_topi h (fun v1 h => ?_)
  by_cases hc6 : v1 = 6
  · have h := ifp h hc6
    refine lv_tableIn (tgt := 36) hx hb dX11_takeBack_3 (by rw [hc6]; decide) (by rw [hc6]; decide) (by rw [hc6]; rfl) (by decide) ?_
    refine lv_aload_n hx hb dX11_takeBack_36 rfl (lv_at hl 0 rfl) ?_
    refine X_g0_6 C0 hw (fun w h => (List.mem_cons_of_mem _ (List.mem_append_left _ (List.mem_append_left _ (List.mem_append_left _ (List.mem_append_left _ (List.mem_append_right _ h))))))) (by decide) ((List.mem_cons_of_mem _ (List.mem_append_left _ (List.mem_append_left _ (List.mem_append_left _ (List.mem_append_left _ (List.mem_append_left _ (List.mem_append_left _ (List.mem_of_getElem? (i := 0) rfl))))))))) dX11_takeBack_37 ?_
    refine lv_aload_n hx hb dX11_takeBack_40 rfl (lv_at hl 1 rfl) ?_
    refine lv_iconst (v := 1) hx hb dX11_takeBack_41 (by decide) ?_
    refine X_iald C0 hw h (k := 1) rfl dX11_takeBack_42 (fun h => ?_)
    refine X_ald_7 C0 hw (by decide) h (k := (gI st a1f a1i (1)).toNatClampNeg) rfl dX11_takeBack_43 (fun hk2 h => ?_)
    refine lv_dup hx hb dX11_takeBack_44 rfl ?_
    refine X_g22_2 C0 hw (fun w h => (List.mem_cons_of_mem _ (List.mem_append_left _ (List.mem_append_left _ (List.mem_append_left _ (List.mem_append_right _ h)))))) hk2 ((List.mem_cons_of_mem _ (List.mem_append_left _ (List.mem_append_left _ (List.mem_append_left _ (List.mem_append_left _ (List.mem_append_left _ (List.mem_append_left _ (List.mem_of_getElem? (i := 1) rfl))))))))) dX11_takeBack_45 ?_
    refine lv_iconst (v := 1) hx hb dX11_takeBack_48 (by decide) ?_
    refine lv_isub hx hb dX11_takeBack_49 ?_
    refine X_p22_2 hL C0 hw (fun w h => (List.mem_cons_of_mem _ (List.mem_append_left _ (List.mem_append_left _ (List.mem_append_left _ (List.mem_append_right _ h)))))) hk2 h ((List.mem_cons_of_mem _ (List.mem_append_left _ (List.mem_append_left _ (List.mem_append_left _ (List.mem_append_left _ (List.mem_append_left _ (List.mem_append_left _ (List.mem_of_getElem? (i := 1) rfl))))))))) dX11_takeBack_50 (fun t3 H locs hw h => ?_)
    refine lv_goto (tgt := 172) hx hb dX11_takeBack_53 (by decide) ?_
    cases h
    exact W.vret hx hb hr (X_fin C0 hw) hw.2.2.2 dX11_takeBack_172 hlocks
  have h := ifn h hc6
  by_cases hc7 : v1 = 7
  · have h := ifp h hc7
    refine lv_tableIn (tgt := 56) hx hb dX11_takeBack_3 (by rw [hc7]; decide) (by rw [hc7]; decide) (by rw [hc7]; rfl) (by decide) ?_
    refine lv_aload_n hx hb dX11_takeBack_56 rfl (lv_at hl 0 rfl) ?_
    refine X_g0_6 C0 hw (fun w h => (List.mem_cons_of_mem _ (List.mem_append_left _ (List.mem_append_left _ (List.mem_append_left _ (List.mem_append_left _ (List.mem_append_right _ h))))))) (by decide) ((List.mem_cons_of_mem _ (List.mem_append_left _ (List.mem_append_left _ (List.mem_append_left _ (List.mem_append_left _ (List.mem_append_left _ (List.mem_append_left _ (List.mem_of_getElem? (i := 0) rfl))))))))) dX11_takeBack_57 ?_
    refine lv_aload_n hx hb dX11_takeBack_60 rfl (lv_at hl 1 rfl) ?_
    refine lv_iconst (v := 1) hx hb dX11_takeBack_61 (by decide) ?_
    refine X_iald C0 hw h (k := 1) rfl dX11_takeBack_62 (fun h => ?_)
    refine X_ald_7 C0 hw (by decide) h (k := (gI st a1f a1i (1)).toNatClampNeg) rfl dX11_takeBack_63 (fun hk4 h => ?_)
    refine lv_aload_n hx hb dX11_takeBack_64 rfl (lv_at hl 1 rfl) ?_
    refine lv_iconst (v := 2) hx hb dX11_takeBack_65 (by decide) ?_
    refine X_iald C0 hw h (k := 2) rfl dX11_takeBack_66 (fun h => ?_)
    refine X_p22_1 hL C0 hw (fun w h => (List.mem_cons_of_mem _ (List.mem_append_left _ (List.mem_append_left _ (List.mem_append_left _ (List.mem_append_right _ h)))))) hk4 h ((List.mem_cons_of_mem _ (List.mem_append_left _ (List.mem_append_left _ (List.mem_append_left _ (List.mem_append_left _ (List.mem_append_left _ (List.mem_append_left _ (List.mem_of_getElem? (i := 2) rfl))))))))) dX11_takeBack_67 (fun t5 H locs hw h => ?_)
    refine lv_goto (tgt := 172) hx hb dX11_takeBack_70 (by decide) ?_
    cases h
    exact W.vret hx hb hr (X_fin C0 hw) hw.2.2.2 dX11_takeBack_172 hlocks
  have h := ifn h hc7
  by_cases hc8 : v1 = 8
  · have h := ifp h hc8
    refine lv_tableIn (tgt := 73) hx hb dX11_takeBack_3 (by rw [hc8]; decide) (by rw [hc8]; decide) (by rw [hc8]; rfl) (by decide) ?_
    refine lv_aload_n hx hb dX11_takeBack_73 rfl (lv_at hl 0 rfl) ?_
    refine X_g0_9 C0 hw (fun w h => (List.mem_cons_of_mem _ (List.mem_append_left _ (List.mem_append_left _ (List.mem_append_left _ (List.mem_append_left _ (List.mem_append_right _ h))))))) (by decide) ((List.mem_cons_of_mem _ (List.mem_append_left _ (List.mem_append_left _ (List.mem_append_left _ (List.mem_append_left _ (List.mem_append_left _ (List.mem_append_left _ (List.mem_of_getElem? (i := 3) rfl))))))))) dX11_takeBack_74 ?_
    refine lv_aload_n hx hb dX11_takeBack_77 rfl (lv_at hl 1 rfl) ?_
    refine lv_iconst (v := 1) hx hb dX11_takeBack_78 (by decide) ?_
    refine X_iald C0 hw h (k := 1) rfl dX11_takeBack_79 (fun h => ?_)
    refine X_ald_10 C0 hw (by decide) h (k := (gI st a1f a1i (1)).toNatClampNeg) rfl dX11_takeBack_80 (fun hk6 h => ?_)
    refine lv_aload_n hx hb dX11_takeBack_81 rfl (lv_at hl 1 rfl) ?_
    refine lv_iconst (v := 2) hx hb dX11_takeBack_82 (by decide) ?_
    refine X_iald C0 hw h (k := 2) rfl dX11_takeBack_83 (fun h => ?_)
    refine lv_aload_n hx hb dX11_takeBack_84 rfl (lv_at hl 1 rfl) ?_
    refine lv_iconst (v := 3) hx hb dX11_takeBack_85 (by decide) ?_
    refine X_iald C0 hw h (k := 3) rfl dX11_takeBack_86 (fun h => ?_)
    obtain ⟨t7, hf8, h⟩ := bn_c h
    refine X_callV C0 hw (As := [.int (gI st a1f a1i (2)), .int (gI st a1f a1i (3))]) (rest := []) (mX1_takeGrams l E hL st hk6 hf8) (cwV 2 C0.1.2.2.2.2 gX11_takeBack_X1_takeGrams rfl rfl rfl (by decide +kernel) ⟨Nat.le_of_ble_eq_true rfl, Nat.le_of_ble_eq_true rfl⟩) (X_recv_30 C0 hw hk6) rfl hl.1 rfl (Nat.le_of_ble_eq_true rfl) dX11_takeBack_87 ⟨Nat.zero_le _, Nat.zero_le _⟩ (fun H locs hw => ?_)
    refine W.eq (g2 := F0 m 90 ls []) rfl ?_
    refine lv_aload_n hx hb dX11_takeBack_90 rfl (lv_at hl 0 rfl) ?_
    refine X_g0_8 C0 hw (fun w h => (List.mem_cons_of_mem _ (List.mem_append_left _ (List.mem_append_left _ (List.mem_append_left _ (List.mem_append_left _ (List.mem_append_right _ h))))))) (by decide) ((List.mem_cons_of_mem _ (List.mem_append_left _ (List.mem_append_left _ (List.mem_append_left _ (List.mem_append_left _ (List.mem_append_left _ (List.mem_append_left _ (List.mem_of_getElem? (i := 4) rfl))))))))) dX11_takeBack_91 ?_
    refine lv_aload_n hx hb dX11_takeBack_94 rfl (lv_at hl 1 rfl) ?_
    refine lv_iconst (v := 2) hx hb dX11_takeBack_95 (by decide) ?_
    refine X_iald C0 hw h (k := 2) rfl dX11_takeBack_96 (fun h => ?_)
    refine X_ald_9 C0 hw (by decide) h (k := (gI t7 a1f a1i (2)).toNatClampNeg) rfl dX11_takeBack_97 (fun hk9 h => ?_)
    refine lv_dup hx hb dX11_takeBack_98 rfl ?_
    refine X_g29_4 C0 hw (fun w h => (List.mem_cons_of_mem _ (List.mem_append_left _ (List.mem_append_left _ (List.mem_append_right _ h))))) hk9 ((List.mem_cons_of_mem _ (List.mem_append_left _ (List.mem_append_left _ (List.mem_append_left _ (List.mem_append_left _ (List.mem_append_left _ (List.mem_append_left _ (List.mem_of_getElem? (i := 5) rfl))))))))) dX11_takeBack_99 ?_
    refine lv_aload_n hx hb dX11_takeBack_102 rfl (lv_at hl 1 rfl) ?_
    refine lv_iconst (v := 3) hx hb dX11_takeBack_103 (by decide) ?_
    refine X_iald C0 hw h (k := 3) rfl dX11_takeBack_104 (fun h => ?_)
    refine lv_sipush (v := 1000) hx hb dX11_takeBack_105 (by decide) ?_
    refine lv_imul hx hb dX11_takeBack_108 ?_
    refine lv_iadd hx hb dX11_takeBack_109 ?_
    refine X_p29_4 hL C0 hw (fun w h => (List.mem_cons_of_mem _ (List.mem_append_left _ (List.mem_append_left _ (List.mem_append_right _ h))))) hk9 h ((List.mem_cons_of_mem _ (List.mem_append_left _ (List.mem_append_left _ (List.mem_append_left _ (List.mem_append_left _ (List.mem_append_left _ (List.mem_append_left _ (List.mem_of_getElem? (i := 5) rfl))))))))) dX11_takeBack_110 (fun t10 H locs hw h => ?_)
    refine lv_goto (tgt := 172) hx hb dX11_takeBack_113 (by decide) ?_
    cases h
    exact W.vret hx hb hr (X_fin C0 hw) hw.2.2.2 dX11_takeBack_172 hlocks
  have h := ifn h hc8
  by_cases hc9 : v1 = 9
  · have h := ifp h hc9
    refine lv_tableIn (tgt := 116) hx hb dX11_takeBack_3 (by rw [hc9]; decide) (by rw [hc9]; decide) (by rw [hc9]; rfl) (by decide) ?_
    refine lv_aload_n hx hb dX11_takeBack_116 rfl (lv_at hl 0 rfl) ?_
    refine X_g0_9 C0 hw (fun w h => (List.mem_cons_of_mem _ (List.mem_append_left _ (List.mem_append_left _ (List.mem_append_left _ (List.mem_append_left _ (List.mem_append_right _ h))))))) (by decide) ((List.mem_cons_of_mem _ (List.mem_append_left _ (List.mem_append_left _ (List.mem_append_left _ (List.mem_append_left _ (List.mem_append_left _ (List.mem_append_left _ (List.mem_of_getElem? (i := 3) rfl))))))))) dX11_takeBack_117 ?_
    refine lv_aload_n hx hb dX11_takeBack_120 rfl (lv_at hl 1 rfl) ?_
    refine lv_iconst (v := 1) hx hb dX11_takeBack_121 (by decide) ?_
    refine X_iald C0 hw h (k := 1) rfl dX11_takeBack_122 (fun h => ?_)
    refine X_ald_10 C0 hw (by decide) h (k := (gI st a1f a1i (1)).toNatClampNeg) rfl dX11_takeBack_123 (fun hk11 h => ?_)
    refine lv_aload_n hx hb dX11_takeBack_124 rfl (lv_at hl 1 rfl) ?_
    refine lv_iconst (v := 2) hx hb dX11_takeBack_125 (by decide) ?_
    refine X_iald C0 hw h (k := 2) rfl dX11_takeBack_126 (fun h => ?_)
    refine lv_iconst (v := 1) hx hb dX11_takeBack_127 (by decide) ?_
    refine jn_c h (fun K12 hK14 h => ?_)
    have HJ13 : ∀ (v15 : Int32), K12 v15 = some st1 → ∀ (H : Heap) (locs : List Loc), SX E s st H locs → ∀ ls : Array Slot, lv_has ls 3 [(0, .ref (E.2.2.1 0 (0))), (1, .ref (E.2.2.1 a1f a1i)), (2, .ref (E.2.2.1 a2f a2i))] → W p l e (headSpec wsX11_takeBack ({ frames := 2, cells := 0, slots := 0, locals := 69 })).room s m ([.ref (E.2.2.1 0 (0)), .ref (E.2.2.1 a1f a1i), .ref (E.2.2.1 a2f a2i)] : List Value).toArray below meth c H locs 0 0 (MQ below (QX E none st1) ([.ref (E.2.2.1 0 (0)), .ref (E.2.2.1 a1f a1i), .ref (E.2.2.1 a2f a2i)] : List Value).toArray s 0 0 E.2.2.2) (F0 m 136 ls [.int v15, .ref (E.2.2.1 30 ((gI st a1f a1i (1)).toNatClampNeg))]) := by
      intro v15 h H locs hw ls hl
      have h := kk1 h hK14
      obtain ⟨hz, h⟩ := ck_c h
      refine X_p30_5 hL C0 hw (fun w h => (List.mem_cons_of_mem _ (List.mem_append_left _ (List.mem_append_right _ h)))) hk11 h (by rcases hz with hz | hz <;> rw [hz] <;> rfl) (by rcases hz with hz | hz <;> rw [hz] <;> rfl) ((List.mem_cons_of_mem _ (List.mem_append_left _ (List.mem_append_left _ (List.mem_append_left _ (List.mem_append_left _ (List.mem_append_left _ (List.mem_append_left _ (List.mem_of_getElem? (i := 6) rfl))))))))) dX11_takeBack_136 (fun t16 H locs hw h => ?_)
      refine lv_aload_n hx hb dX11_takeBack_139 rfl (lv_at hl 2 rfl) ?_
      refine lv_aload_n hx hb dX11_takeBack_140 rfl (lv_at hl 0 rfl) ?_
      refine X_g0_9 C0 hw (fun w h => (List.mem_cons_of_mem _ (List.mem_append_left _ (List.mem_append_left _ (List.mem_append_left _ (List.mem_append_left _ (List.mem_append_right _ h))))))) (by decide) ((List.mem_cons_of_mem _ (List.mem_append_left _ (List.mem_append_left _ (List.mem_append_left _ (List.mem_append_left _ (List.mem_append_left _ (List.mem_append_left _ (List.mem_of_getElem? (i := 3) rfl))))))))) dX11_takeBack_141 ?_
      refine lv_aload_n hx hb dX11_takeBack_144 rfl (lv_at hl 1 rfl) ?_
      refine lv_iconst (v := 1) hx hb dX11_takeBack_145 (by decide) ?_
      refine X_iald C0 hw h (k := 1) rfl dX11_takeBack_146 (fun h => ?_)
      refine X_ald_10 C0 hw (by decide) h (k := (gI t16 a1f a1i (1)).toNatClampNeg) rfl dX11_takeBack_147 (fun hk17 h => ?_)
      refine X_g30_6 C0 hw (fun w h => (List.mem_cons_of_mem _ (List.mem_append_left _ (List.mem_append_right _ h)))) hk17 ((List.mem_cons_of_mem _ (List.mem_append_left _ (List.mem_append_left _ (List.mem_append_left _ (List.mem_append_left _ (List.mem_append_left _ (List.mem_append_left _ (List.mem_of_getElem? (i := 7) rfl))))))))) dX11_takeBack_148 ?_
      obtain ⟨t18, hf19, h⟩ := bn_c h
      refine X_callS C0 hw (As := [.ref (E.2.2.1 a2f a2i), .ref (E.2.2.1 (33) ((gI t16 a1f a1i (1)).toNatClampNeg))]) (rest := []) (mX11_copyRow l E hL t16 hf19) (va_cwS 2 C0.1.2.2.2.2 gX11_takeBack_X11_copyRow rfl rfl rfl (by decide +kernel) ⟨Nat.le_of_ble_eq_true rfl, Nat.le_of_ble_eq_true rfl⟩) rfl hl.1 rfl (Nat.le_of_ble_eq_true rfl) dX11_takeBack_151 ⟨Nat.zero_le _, Nat.zero_le _⟩ (fun H locs hw => ?_)
      refine W.eq (g2 := F0 m 154 ls []) rfl ?_
      refine lv_goto (tgt := 172) hx hb dX11_takeBack_154 (by decide) ?_
      cases h
      exact W.vret hx hb hr (X_fin C0 hw) hw.2.2.2 dX11_takeBack_172 hlocks
    refine lv_icmp_ne (tgt := 135) hx hb dX11_takeBack_128 (by decide) (fun hc20 => ?_) (fun hc20 => ?_)
    · have h := ifn h hc20
      refine lv_iconst (v := 0) hx hb dX11_takeBack_135 (by decide) ?_
      exact HJ13 _ h _ _ hw _ (lv_sub hl [0, 1, 2] rfl)
    · have h := ifp h hc20
      refine lv_iconst (v := 1) hx hb dX11_takeBack_131 (by decide) ?_
      refine lv_goto (tgt := 136) hx hb dX11_takeBack_132 (by decide) ?_
      exact HJ13 _ h _ _ hw _ (lv_sub hl [0, 1, 2] rfl)
  have h := ifn h hc9
  by_cases hc10 : v1 = 10
  · have h := ifp h hc10
    refine lv_tableIn (tgt := 157) hx hb dX11_takeBack_3 (by rw [hc10]; decide) (by rw [hc10]; decide) (by rw [hc10]; rfl) (by decide) ?_
    refine lv_aload_n hx hb dX11_takeBack_157 rfl (lv_at hl 0 rfl) ?_
    refine X_g0_4 C0 hw (fun w h => (List.mem_cons_of_mem _ (List.mem_append_left _ (List.mem_append_left _ (List.mem_append_left _ (List.mem_append_left _ (List.mem_append_right _ h))))))) (by decide) ((List.mem_cons_of_mem _ (List.mem_append_left _ (List.mem_append_left _ (List.mem_append_left _ (List.mem_append_left _ (List.mem_append_left _ (List.mem_append_left _ (List.mem_of_getElem? (i := 8) rfl))))))))) dX11_takeBack_158 ?_
    refine lv_aload_n hx hb dX11_takeBack_161 rfl (lv_at hl 1 rfl) ?_
    refine lv_iconst (v := 1) hx hb dX11_takeBack_162 (by decide) ?_
    refine X_iald C0 hw h (k := 1) rfl dX11_takeBack_163 (fun h => ?_)
    refine X_ald_4 C0 hw (by decide) h (k := (gI st a1f a1i (1)).toNatClampNeg) rfl dX11_takeBack_164 (fun hk21 h => ?_)
    refine lv_aload_n hx hb dX11_takeBack_165 rfl (lv_at hl 2 rfl) ?_
    obtain ⟨t22, hf23, h⟩ := bn_c h
    refine X_callV C0 hw (As := [.ref (E.2.2.1 a2f a2i)]) (rest := []) (mX2_restoreFrom l E hL st hk21 hf23) (cwV 1 C0.1.2.2.2.2 gX11_takeBack_X2_restoreFrom rfl rfl rfl (by decide +kernel) ⟨Nat.le_of_ble_eq_true rfl, Nat.le_of_ble_eq_true rfl⟩) (X_recv_19 C0 hw hk21) rfl hl.1 rfl (Nat.le_of_ble_eq_true rfl) dX11_takeBack_166 ⟨Nat.zero_le _, Nat.zero_le _⟩ (fun H locs hw => ?_)
    refine W.eq (g2 := F0 m 169 ls []) rfl ?_
    refine lv_goto (tgt := 172) hx hb dX11_takeBack_169 (by decide) ?_
    cases h
    exact W.vret hx hb hr (X_fin C0 hw) hw.2.2.2 dX11_takeBack_172 hlocks
  have h := ifn h hc10
  refine lv_tableOut (tgt := 172) hx hb dX11_takeBack_3 (by have := sw_ne (n := 6) hc6 (by decide); have := sw_ne (n := 7) hc7 (by decide); have := sw_ne (n := 8) hc8 (by decide); have := sw_ne (n := 9) hc9 (by decide); have := sw_ne (n := 10) hc10 (by decide); omega) (by decide) ?_
  cases h
  exact W.vret hx hb hr (X_fin C0 hw) hw.2.2.2 dX11_takeBack_172 hlocks

def fX11_undo (st : Sto) : Option (Int32 × Sto) :=
  if gI st 18 (0) 3 = 0 then (
   some ((0 : Int32), st)) else (
   (fX0_latest st).bind (fun (v2 : (Nat × Nat)) => un2 (fun (qf4 qi5 : Nat) =>
     ck (0 ≤ (0 : Int32).toInt ∧ (0 : Int32).toInt < (lIX qf4 qi5 : Int)) (
      if (6 : Int32) ≤ gI st qf4 qi5 (0) then (
       (fX0_keptOfLatest st).bind (fun (v7 : (Nat × Nat)) => un2 (fun (qf9 qi10 : Nat) =>
         (fX11_takeBack qf4 qi5 qf9 qi10 st).bind (fun (t11 : Sto) =>
          (fX0_drop t11).bind (fun (t13 : Sto) =>
           some ((1 : Int32), t13)))) v7)) else (
       ck (0 ≤ (0 : Int32).toInt ∧ (0 : Int32).toInt < (lIX qf4 qi5 : Int)) (
        ck (0 ≤ (gI st qf4 qi5 (0)).toInt ∧ (gI st qf4 qi5 (0)).toInt < (lIX (3) (0) : Int)) (
         ck (0 ≤ (gI st qf4 qi5 (0)).toInt ∧ (gI st qf4 qi5 (0)).toInt < (lIX (3) (0) : Int)) (lt1 (sI st (3) (0) ((gI st qf4 qi5 (0)).toNatClampNeg) ((gI st (3) (0) ((gI st qf4 qi5 (0)).toNatClampNeg)) - (1 : Int32))) fun (t15 : Sto) =>
          (fX0_drop t15).bind (fun (t16 : Sto) =>
           some ((1 : Int32), t16)))))))) v2))
set_option maxHeartbeats 4000000 in
set_option maxRecDepth 100000 in
theorem mX11_undo (l : Launch) (E : XE) (hL : LX E) (st : Sto) {r : Int32} {st1 : Sto} (h : fX11_undo st = some (r, st1)) : Met l yX11_undo wsX11_undo ({ frames := 3, cells := 0, slots := 0, locals := 91 }) (va_Pc [.ref (E.2.2.1 0 (0))] (RX E st)) (QX E (some (.int r)) st1) 0 0 E.2.2.2 := by
  refine Met.ofW (cc := cX11_undo) (maxL := 2) (ret := (some .int)) (by decide) rfl ?_
  intro p e s m args below meth c s₁ B hml hv
  obtain ⟨rfl, hP, hK⟩ := hv
  have hown : s.vm.findClass RX11 = some m.cls := findClass_of_methodNamed B.named
  have C0 : CX p m c cX11_undo 2 s _ wsX11_undo RX11 E := ⟨⟨B.exec, B.bytes, hml, hown, atoms_spec (ws := wsX11_undo) B.pre⟩, hK⟩
  have hx := B.exec
  have hb := B.bytes
  have hr := B.returns
  have hlocks := B.notSynchronized
  have hw : SX E s st s.heap [] := ⟨hP, va_S.rf⟩
  have hl := lv_entry ([.ref (E.2.2.1 0 (0))]) (n := 2) (Nat.le_of_ble_eq_true rfl)
  rw [lg_entry_eq]
  generalize (lg_sl ([.ref (E.2.2.1 0 (0))]) ++ List.replicate (2 - (lg_sl ([.ref (E.2.2.1 0 (0))])).length) Slot.unset).toArray = ls at hl ⊢
  have hl : lv_has ls 2 [(0, .ref (E.2.2.1 0 (0)))] := hl
  unfold fX11_undo at h
  refine lv_aload_n hx hb dX11_undo_0 rfl (lv_at hl 0 rfl) ?_
  refine X_g0_18 C0 hw (fun w h => (List.mem_cons_of_mem _ (List.mem_append_left _ (List.mem_append_left _ (List.mem_append_left _ (List.mem_append_left _ (List.mem_append_left _ (List.mem_append_right _ h)))))))) (by decide) ((List.mem_cons_of_mem _ (List.mem_append_left _ (List.mem_append_left _ (List.mem_append_left _ (List.mem_append_left _ (List.mem_append_left _ (List.mem_append_left _ (List.mem_append_left _ (List.mem_of_getElem? (i := 0) rfl)))))))))) dX11_undo_1 ?_
  refine X_g18_3 C0 hw (fun w h => (List.mem_cons_of_mem _ (List.mem_append_left _ (List.mem_append_left _ (List.mem_append_left _ (List.mem_append_left _ (List.mem_append_right _ h))))))) (by decide) ((List.mem_cons_of_mem _ (List.mem_append_left _ (List.mem_append_left _ (List.mem_append_left _ (List.mem_append_left _ (List.mem_append_left _ (List.mem_append_left _ (List.mem_append_left _ (List.mem_of_getElem? (i := 1) rfl)))))))))) dX11_undo_4 ?_
  refine lv_if_ne (tgt := 12) hx hb dX11_undo_7 (by decide) (fun hc1 => ?_) (fun hc1 => ?_)
  · have h := ifn h hc1
    refine lv_aload_n hx hb dX11_undo_12 rfl (lv_at hl 0 rfl) ?_
    refine X_g0_18 C0 hw (fun w h => (List.mem_cons_of_mem _ (List.mem_append_left _ (List.mem_append_left _ (List.mem_append_left _ (List.mem_append_left _ (List.mem_append_left _ (List.mem_append_right _ h)))))))) (by decide) ((List.mem_cons_of_mem _ (List.mem_append_left _ (List.mem_append_left _ (List.mem_append_left _ (List.mem_append_left _ (List.mem_append_left _ (List.mem_append_left _ (List.mem_append_left _ (List.mem_of_getElem? (i := 0) rfl)))))))))) dX11_undo_13 ?_
    obtain ⟨v2, hf3, h⟩ := bn_c h
    refine X_callV C0 hw (As := []) (rest := []) (mX0_latest l E hL st hf3) (cwV 0 C0.1.2.2.2.2 gX11_undo_X0_latest rfl rfl rfl (by decide +kernel) ⟨Nat.le_of_ble_eq_true rfl, Nat.le_of_ble_eq_true rfl⟩) (X_recv_18 C0 hw (by decide)) rfl hl.1 rfl (Nat.le_of_ble_eq_true rfl) dX11_undo_16 ⟨Nat.zero_le _, Nat.zero_le _⟩ (fun H locs hw => ?_)
    obtain ⟨qf4, qi5⟩ := v2
    have h := un2_d h
    refine W.eq (g2 := F0 m 19 ls (.ref (E.2.2.1 qf4 qi5) :: [])) rfl ?_
    refine lv_astore_n (lv' := [(1, .ref (E.2.2.1 qf4 qi5)), (0, .ref (E.2.2.1 0 (0)))]) hx hb dX11_undo_19 rfl hl (by decide) rfl (fun ls hl => ?_)
    refine lv_aload_n hx hb dX11_undo_20 rfl (lv_at hl 0 rfl) ?_
    refine lv_iconst (v := 0) hx hb dX11_undo_21 (by decide) ?_
    refine X_iald C0 hw h (k := 0) rfl dX11_undo_22 (fun h => ?_)
    refine lv_bipush (v := 6) hx hb dX11_undo_23 (by decide) ?_
    refine lv_icmp_ge (tgt := 43) hx hb dX11_undo_25 (by decide) (fun hc6 => ?_) (fun hc6 => ?_)
    · have h := ifp h hc6
      refine lv_aload_n hx hb dX11_undo_43 rfl (lv_at hl 1 rfl) ?_
      refine lv_aload_n hx hb dX11_undo_44 rfl (lv_at hl 0 rfl) ?_
      refine lv_aload_n hx hb dX11_undo_45 rfl (lv_at hl 1 rfl) ?_
      refine X_g0_18 C0 hw (fun w h => (List.mem_cons_of_mem _ (List.mem_append_left _ (List.mem_append_left _ (List.mem_append_left _ (List.mem_append_left _ (List.mem_append_left _ (List.mem_append_right _ h)))))))) (by decide) ((List.mem_cons_of_mem _ (List.mem_append_left _ (List.mem_append_left _ (List.mem_append_left _ (List.mem_append_left _ (List.mem_append_left _ (List.mem_append_left _ (List.mem_append_left _ (List.mem_of_getElem? (i := 0) rfl)))))))))) dX11_undo_46 ?_
      obtain ⟨v7, hf8, h⟩ := bn_c h
      refine X_callV C0 hw (As := []) (rest := [.ref (E.2.2.1 qf4 qi5), .ref (E.2.2.1 0 (0))]) (mX0_keptOfLatest l E hL st hf8) (cwV 0 C0.1.2.2.2.2 gX11_undo_X0_keptOfLatest rfl rfl rfl (by decide +kernel) ⟨Nat.le_of_ble_eq_true rfl, Nat.le_of_ble_eq_true rfl⟩) (X_recv_18 C0 hw (by decide)) rfl hl.1 rfl (Nat.le_of_ble_eq_true rfl) dX11_undo_49 ⟨Nat.zero_le _, Nat.zero_le _⟩ (fun H locs hw => ?_)
      obtain ⟨qf9, qi10⟩ := v7
      have h := un2_d h
      refine W.eq (g2 := F0 m 52 ls (.ref (E.2.2.1 qf9 qi10) :: [.ref (E.2.2.1 qf4 qi5), .ref (E.2.2.1 0 (0))])) rfl ?_
      obtain ⟨t11, hf12, h⟩ := bn_c h
      refine X_callV C0 hw (As := [.ref (E.2.2.1 qf4 qi5), .ref (E.2.2.1 qf9 qi10)]) (rest := []) (mX11_takeBack l E hL st hf12) (cwV 2 C0.1.2.2.2.2 gX11_undo_X11_takeBack rfl rfl rfl (by decide +kernel) ⟨Nat.le_of_ble_eq_true rfl, Nat.le_of_ble_eq_true rfl⟩) (X_recv_0 C0 hw (by decide)) rfl hl.1 rfl (Nat.le_of_ble_eq_true rfl) dX11_undo_52 ⟨Nat.zero_le _, Nat.zero_le _⟩ (fun H locs hw => ?_)
      refine W.eq (g2 := F0 m 55 ls []) rfl ?_
      refine lv_aload_n hx hb dX11_undo_55 rfl (lv_at hl 1 rfl) ?_
      refine X_g0_18 C0 hw (fun w h => (List.mem_cons_of_mem _ (List.mem_append_left _ (List.mem_append_left _ (List.mem_append_left _ (List.mem_append_left _ (List.mem_append_left _ (List.mem_append_right _ h)))))))) (by decide) ((List.mem_cons_of_mem _ (List.mem_append_left _ (List.mem_append_left _ (List.mem_append_left _ (List.mem_append_left _ (List.mem_append_left _ (List.mem_append_left _ (List.mem_append_left _ (List.mem_of_getElem? (i := 0) rfl)))))))))) dX11_undo_56 ?_
      obtain ⟨t13, hf14, h⟩ := bn_c h
      refine X_callV C0 hw (As := []) (rest := []) (mX0_drop l E hL t11 hf14) (cwV 0 C0.1.2.2.2.2 gX11_undo_X0_drop rfl rfl rfl (by decide +kernel) ⟨Nat.le_of_ble_eq_true rfl, Nat.le_of_ble_eq_true rfl⟩) (X_recv_18 C0 hw (by decide)) rfl hl.1 rfl (Nat.le_of_ble_eq_true rfl) dX11_undo_59 ⟨Nat.zero_le _, Nat.zero_le _⟩ (fun H locs hw => ?_)
      refine W.eq (g2 := F0 m 62 ls []) rfl ?_
      refine lv_iconst (v := 1) hx hb dX11_undo_62 (by decide) ?_
      cases h
      exact W.iret hx hb hr (X_fin C0 hw) hw.2.2.2 dX11_undo_63 hlocks
    · have h := ifn h hc6
      refine lv_aload_n hx hb dX11_undo_28 rfl (lv_at hl 1 rfl) ?_
      refine X_g0_3 C0 hw (fun w h => (List.mem_cons_of_mem _ (List.mem_append_left _ (List.mem_append_left _ (List.mem_append_left _ (List.mem_append_left _ (List.mem_append_left _ (List.mem_append_right _ h)))))))) (by decide) ((List.mem_cons_of_mem _ (List.mem_append_left _ (List.mem_append_left _ (List.mem_append_left _ (List.mem_append_left _ (List.mem_append_left _ (List.mem_append_left _ (List.mem_append_left _ (List.mem_of_getElem? (i := 2) rfl)))))))))) dX11_undo_29 ?_
      refine lv_aload_n hx hb dX11_undo_32 rfl (lv_at hl 0 rfl) ?_
      refine lv_iconst (v := 0) hx hb dX11_undo_33 (by decide) ?_
      refine X_iald C0 hw h (k := 0) rfl dX11_undo_34 (fun h => ?_)
      refine lv_dup2_11 hx hb dX11_undo_35 rfl rfl ?_
      refine X_iald C0 hw h (k := (gI st qf4 qi5 (0)).toNatClampNeg) rfl dX11_undo_36 (fun h => ?_)
      refine lv_iconst (v := 1) hx hb dX11_undo_37 (by decide) ?_
      refine lv_isub hx hb dX11_undo_38 ?_
      refine X_iast hL C0 hw h (k := (gI st qf4 qi5 (0)).toNatClampNeg) rfl dX11_undo_39 (fun t15 H locs hw h => ?_)
      refine lv_goto (tgt := 55) hx hb dX11_undo_40 (by decide) ?_
      refine lv_aload_n hx hb dX11_undo_55 rfl (lv_at hl 1 rfl) ?_
      refine X_g0_18 C0 hw (fun w h => (List.mem_cons_of_mem _ (List.mem_append_left _ (List.mem_append_left _ (List.mem_append_left _ (List.mem_append_left _ (List.mem_append_left _ (List.mem_append_right _ h)))))))) (by decide) ((List.mem_cons_of_mem _ (List.mem_append_left _ (List.mem_append_left _ (List.mem_append_left _ (List.mem_append_left _ (List.mem_append_left _ (List.mem_append_left _ (List.mem_append_left _ (List.mem_of_getElem? (i := 0) rfl)))))))))) dX11_undo_56 ?_
      obtain ⟨t16, hf17, h⟩ := bn_c h
      refine X_callV C0 hw (As := []) (rest := []) (mX0_drop l E hL t15 hf17) (cwV 0 C0.1.2.2.2.2 gX11_undo_X0_drop rfl rfl rfl (by decide +kernel) ⟨Nat.le_of_ble_eq_true rfl, Nat.le_of_ble_eq_true rfl⟩) (X_recv_18 C0 hw (by decide)) rfl hl.1 rfl (Nat.le_of_ble_eq_true rfl) dX11_undo_59 ⟨Nat.zero_le _, Nat.zero_le _⟩ (fun H locs hw => ?_)
      refine W.eq (g2 := F0 m 62 ls []) rfl ?_
      refine lv_iconst (v := 1) hx hb dX11_undo_62 (by decide) ?_
      cases h
      exact W.iret hx hb hr (X_fin C0 hw) hw.2.2.2 dX11_undo_63 hlocks
  · have h := ifp h hc1
    refine lv_iconst (v := 0) hx hb dX11_undo_10 (by decide) ?_
    cases h
    exact W.iret hx hb hr (X_fin C0 hw) hw.2.2.2 dX11_undo_11 hlocks

def fX11_trouble (st : Sto) : Option Int32 :=
  some (gI st 0 (0) 19)
set_option maxHeartbeats 4000000 in
set_option maxRecDepth 100000 in
theorem mX11_trouble (l : Launch) (E : XE) (hL : LX E) (st : Sto) {r : Int32} (h : fX11_trouble st = some r) : Met l yX11_trouble wsX11_trouble ({ frames := 0, cells := 0, slots := 0, locals := 0 }) (va_Pc [.ref (E.2.2.1 0 (0))] (RX E st)) (QX E (some (.int r)) st) 0 0 E.2.2.2 := by
  refine Met.ofW (cc := cX11_trouble) (maxL := 1) (ret := (some .int)) (by decide) rfl ?_
  intro p e s m args below meth c s₁ B hml hv
  obtain ⟨rfl, hP, hK⟩ := hv
  have hown : s.vm.findClass RX11 = some m.cls := findClass_of_methodNamed B.named
  have C0 : CX p m c cX11_trouble 1 s _ wsX11_trouble RX11 E := ⟨⟨B.exec, B.bytes, hml, hown, atoms_spec (ws := wsX11_trouble) B.pre⟩, hK⟩
  have hx := B.exec
  have hb := B.bytes
  have hr := B.returns
  have hlocks := B.notSynchronized
  have hw : SX E s st s.heap [] := ⟨hP, va_S.rf⟩
  have hl := lv_entry ([.ref (E.2.2.1 0 (0))]) (n := 1) (Nat.le_of_ble_eq_true rfl)
  rw [lg_entry_eq]
  generalize (lg_sl ([.ref (E.2.2.1 0 (0))]) ++ List.replicate (1 - (lg_sl ([.ref (E.2.2.1 0 (0))])).length) Slot.unset).toArray = ls at hl ⊢
  have hl : lv_has ls 1 [(0, .ref (E.2.2.1 0 (0)))] := hl
  unfold fX11_trouble at h
  refine lv_aload_n hx hb dX11_trouble_0 rfl (lv_at hl 0 rfl) ?_
  refine X_g0_19 C0 hw (fun w h => (List.mem_cons_of_mem _ (List.mem_append_right _ h))) (by decide) ((List.mem_cons_of_mem _ (List.mem_append_left _ (List.mem_of_getElem? (i := 0) rfl)))) dX11_trouble_1 ?_
  cases h
  exact W.iret hx hb hr (X_fin C0 hw) hw.2.2.2 dX11_trouble_4 hlocks

def fX11_count (a1 : Int32) (st : Sto) : Option Int32 :=
  jn (fun (_u : Unit) =>
   if a1 = (6 : Int32) then (
    some (gI st 0 (0) 11)) else (
    if a1 = (7 : Int32) then (
     some (gI st 18 (0) 3)) else (
     if a1 = (8 : Int32) then (
      some (gI st 17 (0) 1)) else (
      some (-1 : Int32))))) fun K1 =>
  if a1 < 0 then (
   K1 ()) else (
   if (6 : Int32) ≤ a1 then (
    K1 ()) else (
    ck (0 ≤ a1.toInt ∧ a1.toInt < (lIX (3) (0) : Int)) (
     some (gI st (3) (0) (a1.toNatClampNeg)))))
set_option maxHeartbeats 4000000 in
set_option maxRecDepth 100000 in
theorem mX11_count (l : Launch) (E : XE) (hL : LX E) (st : Sto) {a1 : Int32} {r : Int32} (h : fX11_count a1 st = some r) : Met l yX11_count wsX11_count ({ frames := 0, cells := 0, slots := 0, locals := 0 }) (va_Pc [.ref (E.2.2.1 0 (0)), .int a1] (RX E st)) (QX E (some (.int r)) st) 0 0 E.2.2.2 := by
  refine Met.ofW (cc := cX11_count) (maxL := 2) (ret := (some .int)) (by decide) rfl ?_
  intro p e s m args below meth c s₁ B hml hv
  obtain ⟨rfl, hP, hK⟩ := hv
  have hown : s.vm.findClass RX11 = some m.cls := findClass_of_methodNamed B.named
  have C0 : CX p m c cX11_count 2 s _ wsX11_count RX11 E := ⟨⟨B.exec, B.bytes, hml, hown, atoms_spec (ws := wsX11_count) B.pre⟩, hK⟩
  have hx := B.exec
  have hb := B.bytes
  have hr := B.returns
  have hlocks := B.notSynchronized
  have hw : SX E s st s.heap [] := ⟨hP, va_S.rf⟩
  have hl := lv_entry ([.ref (E.2.2.1 0 (0)), .int a1]) (n := 2) (Nat.le_of_ble_eq_true rfl)
  rw [lg_entry_eq]
  generalize (lg_sl ([.ref (E.2.2.1 0 (0)), .int a1]) ++ List.replicate (2 - (lg_sl ([.ref (E.2.2.1 0 (0)), .int a1])).length) Slot.unset).toArray = ls at hl ⊢
  have hl : lv_has ls 2 [(0, .ref (E.2.2.1 0 (0))), (1, .int a1)] := hl
  unfold fX11_count at h
  refine lv_iload_n hx hb dX11_count_0 rfl (lv_at hl 1 rfl) ?_
  refine jn_c h (fun K1 hK3 h => ?_)
  have HJ2 : ∀ (_u : Unit), K1 _u = some r → ∀ (H : Heap) (locs : List Loc), SX E s st H locs → ∀ ls : Array Slot, lv_has ls 2 [(0, .ref (E.2.2.1 0 (0))), (1, .int a1)] → W p l e (headSpec wsX11_count ({ frames := 0, cells := 0, slots := 0, locals := 0 })).room s m ([.ref (E.2.2.1 0 (0)), .int a1] : List Value).toArray below meth c H locs 0 0 (MQ below (QX E (some (.int r)) st) ([.ref (E.2.2.1 0 (0)), .int a1] : List Value).toArray s 0 0 E.2.2.2) (F0 m 17 ls []) := by
    intro _u h H locs hw ls hl
    have h := kk1 h hK3
    refine lv_iload_n hx hb dX11_count_17 rfl (lv_at hl 1 rfl) ?_
    refine lv_bipush (v := 6) hx hb dX11_count_18 (by decide) ?_
    refine lv_icmp_ne (tgt := 28) hx hb dX11_count_20 (by decide) (fun hc4 => ?_) (fun hc4 => ?_)
    · have h := ifn h hc4
      refine lv_iload_n hx hb dX11_count_28 rfl (lv_at hl 1 rfl) ?_
      refine lv_bipush (v := 7) hx hb dX11_count_29 (by decide) ?_
      refine lv_icmp_ne (tgt := 42) hx hb dX11_count_31 (by decide) (fun hc5 => ?_) (fun hc5 => ?_)
      · have h := ifn h hc5
        refine lv_iload_n hx hb dX11_count_42 rfl (lv_at hl 1 rfl) ?_
        refine lv_bipush (v := 8) hx hb dX11_count_43 (by decide) ?_
        refine lv_icmp_ne (tgt := 58) hx hb dX11_count_45 (by decide) (fun hc6 => ?_) (fun hc6 => ?_)
        · have h := ifn h hc6
          refine lv_iconst (v := -1) hx hb dX11_count_58 (by decide) ?_
          cases h
          exact W.iret hx hb hr (X_fin C0 hw) hw.2.2.2 dX11_count_59 hlocks
        · have h := ifp h hc6
          refine lv_aload_n hx hb dX11_count_48 rfl (lv_at hl 0 rfl) ?_
          refine X_g0_17 C0 hw (fun w h => (List.mem_cons_of_mem _ (List.mem_append_left _ (List.mem_append_left _ (List.mem_append_right _ h))))) (by decide) ((List.mem_cons_of_mem _ (List.mem_append_left _ (List.mem_append_left _ (List.mem_append_left _ (List.mem_of_getElem? (i := 4) rfl)))))) dX11_count_49 ?_
          refine X_g17_1 C0 hw (fun w h => (List.mem_cons_of_mem _ (List.mem_append_right _ h))) (by decide) ((List.mem_cons_of_mem _ (List.mem_append_left _ (List.mem_append_left _ (List.mem_append_left _ (List.mem_of_getElem? (i := 5) rfl)))))) dX11_count_52 ?_
          refine lv_goto (tgt := 59) hx hb dX11_count_55 (by decide) ?_
          cases h
          exact W.iret hx hb hr (X_fin C0 hw) hw.2.2.2 dX11_count_59 hlocks
      · have h := ifp h hc5
        refine lv_aload_n hx hb dX11_count_34 rfl (lv_at hl 0 rfl) ?_
        refine X_g0_18 C0 hw (fun w h => (List.mem_cons_of_mem _ (List.mem_append_left _ (List.mem_append_left _ (List.mem_append_right _ h))))) (by decide) ((List.mem_cons_of_mem _ (List.mem_append_left _ (List.mem_append_left _ (List.mem_append_left _ (List.mem_of_getElem? (i := 2) rfl)))))) dX11_count_35 ?_
        refine X_g18_3 C0 hw (fun w h => (List.mem_cons_of_mem _ (List.mem_append_left _ (List.mem_append_right _ h)))) (by decide) ((List.mem_cons_of_mem _ (List.mem_append_left _ (List.mem_append_left _ (List.mem_append_left _ (List.mem_of_getElem? (i := 3) rfl)))))) dX11_count_38 ?_
        cases h
        exact W.iret hx hb hr (X_fin C0 hw) hw.2.2.2 dX11_count_41 hlocks
    · have h := ifp h hc4
      refine lv_aload_n hx hb dX11_count_23 rfl (lv_at hl 0 rfl) ?_
      refine X_g0_11 C0 hw (fun w h => (List.mem_cons_of_mem _ (List.mem_append_left _ (List.mem_append_left _ (List.mem_append_right _ h))))) (by decide) ((List.mem_cons_of_mem _ (List.mem_append_left _ (List.mem_append_left _ (List.mem_append_left _ (List.mem_of_getElem? (i := 1) rfl)))))) dX11_count_24 ?_
      cases h
      exact W.iret hx hb hr (X_fin C0 hw) hw.2.2.2 dX11_count_27 hlocks
  refine lv_if_lt (tgt := 17) hx hb dX11_count_1 (by decide) (fun hc7 => ?_) (fun hc7 => ?_)
  · have h := ifp h hc7
    exact HJ2 _ h _ _ hw _ (lv_sub hl [0, 1] rfl)
  · have h := ifn h hc7
    refine lv_iload_n hx hb dX11_count_4 rfl (lv_at hl 1 rfl) ?_
    refine lv_bipush (v := 6) hx hb dX11_count_5 (by decide) ?_
    refine lv_icmp_ge (tgt := 17) hx hb dX11_count_7 (by decide) (fun hc8 => ?_) (fun hc8 => ?_)
    · have h := ifp h hc8
      exact HJ2 _ h _ _ hw _ (lv_sub hl [0, 1] rfl)
    · have h := ifn h hc8
      refine lv_aload_n hx hb dX11_count_10 rfl (lv_at hl 0 rfl) ?_
      refine X_g0_3 C0 hw (fun w h => (List.mem_cons_of_mem _ (List.mem_append_left _ (List.mem_append_left _ (List.mem_append_right _ h))))) (by decide) ((List.mem_cons_of_mem _ (List.mem_append_left _ (List.mem_append_left _ (List.mem_append_left _ (List.mem_of_getElem? (i := 0) rfl)))))) dX11_count_11 ?_
      refine lv_iload_n hx hb dX11_count_14 rfl (lv_at hl 1 rfl) ?_
      refine X_iald C0 hw h (k := a1.toNatClampNeg) rfl dX11_count_15 (fun h => ?_)
      cases h
      exact W.iret hx hb hr (X_fin C0 hw) hw.2.2.2 dX11_count_16 hlocks
