/-! ===== the law's 35th case: out ===== -/
theorem rel_tv {x m : Sto} {v : Int32} (h : Rel x m) : Rel x (sI m 0 0 10 v) := ⟨RelC_keep (KX_r x) (KM_I (by decide)) h.1, h.2.1, Cur_f (SCX_r x) (SCM_I (by decide)) h.2.2⟩
theorem out_both {x m : Sto} (h : Rel x m) (a : Int32) : (gI x 17 0 1 = 0 ∨ gI x 17 0 1 = 68) ∧ ∃ r m', fX12_out a m = some (r, m') ∧ Rel x m' ∧ (((¬ a < 0 ∧ a < gI x 17 0 1) ∧ gI m' 0 0 10 = 0 ∧ r = gI x 52 0 a.toNatClampNeg) ∨ ((a < 0 ∨ ¬ a < gI x 17 0 1) ∧ gI m' 0 0 10 = 1)) := by
  obtain ⟨⟨e1, e2⟩, e3⟩ := h.2.2.2.2.2.2
  refine ⟨e2, ?_⟩
  unfold fX12_out
  rw [e1]
  by_cases h1 : a < 0
  · have hi : fX12_is a (gI x 17 0 1) = some 0 := by unfold fX12_is; rw [if_pos h1]
    rw [hi]
    refine ⟨0, sI m 0 0 10 1, ?_, rel_tv h, Or.inr ⟨Or.inl h1, rfl⟩⟩
    rfl
  · by_cases h2 : a < gI x 17 0 1
    · have hi : fX12_is a (gI x 17 0 1) = some 1 := by
        unfold fX12_is
        rw [if_neg h1, if_neg (Int32.not_le.mpr h2)]
      rw [hi]
      have h3 : a.toInt < (gI x 17 0 1).toInt := Int32.lt_iff_toInt_lt.mp h2
      have h4 : ¬ a.toInt < 0 := fun q => h1 (Int32.lt_iff_toInt_lt.mpr q)
      have h5 : (gI x 17 0 1).toInt ≤ 68 := by
        rcases e2 with z | z <;> rw [z] <;> decide
      have h6 : a.toNatClampNeg = a.toInt.toNat := rfl
      have hq : a.toNatClampNeg < 68 := by omega
      obtain ⟨⟨b, hb, hx, hm⟩, -⟩ := e3 a.toNatClampNeg hq
      refine ⟨gI x 52 0 a.toNatClampNeg, sI m 0 0 10 0, ?_, rel_tv h, Or.inl ⟨⟨h1, h2⟩, rfl, rfl⟩⟩
      show ck (0 ≤ a.toInt ∧ a.toInt < (68 : Int)) (some ((gI m 74 0 a.toNatClampNeg) &&& (255 : Int32), sI m 0 0 10 0)) = _
      rw [ck_t ⟨by omega, by omega⟩, hm, byte_mand hb, hx]
    · have hi : fX12_is a (gI x 17 0 1) = some 0 := by
        unfold fX12_is
        rw [if_neg h1, if_pos (Int32.not_lt.mp h2)]
      rw [hi]
      refine ⟨0, sI m 0 0 10 1, ?_, rel_tv h, Or.inr ⟨Or.inr h2, rfl⟩⟩
      rfl
theorem PL_blind {E : XE} {st : Sto} {h oA : Nat} {aL : ClassId} {w : Nat → Int64} {as : List Value} : FrameBlind (va_Pc as (PL E st h oA aL w)) := fun a V g mk q => ⟨q.1, ⟨⟨q.2.1.1.1, va_K.moved (u := V) (U := V.calling g mk a) (Vm.Alike.refl V.vm) q.2.1.1.2⟩, q.2.1.2.blind⟩, q.2.2.1, arrOfT_moved (u := V) (Vm.Alike.refl V.vm) q.2.2.2⟩
theorem Tz.at {h : Nat} {s V : State} {H : Heap} {locs : List Loc} (hT : Tz h s) (hS : va_S (fun q => h ≤ q) s.heap H locs) (hV : V.heap = H) (hW : s.WarmedH V.vm) : Tz h V := ⟨thrB_warm hW hT.1, by rw [hV]; exact vx_Zq.moved hW.alike (hT.2.1.kept hS.2.1), by rw [hV]; exact vx_Zq.moved hW.alike (hT.2.2.1.kept hS.2.1), hT.2.2.2.elim fun sa hs => ⟨sa, vk_R.warm hW hs⟩⟩
set_option maxHeartbeats 4000000 in
set_option maxRecDepth 100000 in
theorem L_callO {p : Program} {l : Launch} {e : Jvm.Env} {s : State} {m : MethodId} {below : List Frame} {meth : Method} {c : Code} {E EM : XE} {oA h b L cells slots : Nat} {aL : ClassId} {xs : Nat → Int32} {st sm : Sto} {w : Nat → Int64} {H : Heap} {locs : List Loc} {Q : State → Prop} {ls : Array Slot} (F : LawFix p l s m c E EM oA aL h b L xs) (hT : Tz h s) (hsl : ls.size = 7) (a : Int32) (hz : gI st 17 0 1 = 0 ∨ gI st 17 0 1 = 68) (hw : LSt E EM oA aL h st sm w s H locs) (hrm : cells + 1 ≤ 601024 ∧ slots + 6 ≤ 7293034)
    (kk : ∀ (r : Int32) (w1 : Nat → Int64) (H1 : Heap) (locs1 : List Loc), ((r = 0 ∧ (¬ a < 0 ∧ a < gI st 17 0 1) ∧ w1 = vp_updL w 0 (gI st 52 0 a.toNatClampNeg).toInt64) ∨ (r = 1 ∧ (a < 0 ∨ ¬ a < gI st 17 0 1) ∧ w1 = w)) → LSt E EM oA aL h st sm w1 s H1 locs1 → W p l e room_1 s m #[Value.ref b] below meth c H1 locs1 (cells + 1) (slots + 6) Q (F0 m 1877 ls [.int r])) : W p l e room_1 s m #[Value.ref b] below meth c H locs cells slots Q (F0 m 1874 ls [.ref oA, .int a, .ref (E.2.2.1 0 0)]) := by
  obtain ⟨hx, S, hK, hKM, g, hL, hLM, hX, hbl, hbA, hL9, hfl, hsz, hAr⟩ := F
  obtain ⟨g1, g2, g3, g4, g5, g6, g7, g8, g9⟩ := g
  have hrun := vx_runSX (e := e) (H := H) (locs := locs) (cells := cells) (slots := slots) (R := room_1) (below := below) (meth := meth) (rest := []) (As := [.ref (E.2.2.1 0 0), .int a, .ref oA]) (g := F0 m 1874 ls [.ref oA, .int a, .ref (E.2.2.1 0 0)]) S (mL_out l hfl E st h oA aL w a hz g1 g5 g7) (vx_cwSW 3 S.2.2.2.2 gL_law_L_out rfl rfl rfl (by decide +kernel) ⟨Nat.le_of_ble_eq_true rfl, Nat.le_of_ble_eq_true rfl⟩) ⟨PL_blind, fun V hV hW => ⟨rfl, ⟨⟨by rw [hV]; exact hw.1, va_K.moved hW.alike hK⟩, hT.at hw.2.2.2 hV hW⟩, by rw [hV]; exact hw.2.2.1, arrOfT_moved hW.alike hAr⟩⟩ rfl rfl hsl rfl (Nat.le_of_ble_eq_true rfl) dL_law_1874 hrm
  have hin : ∀ q, (E.2.2.2 q ∨ q = oA) → h ≤ q := fun q hq => hq.elim (g1 q) (fun z => by rw [z]; exact g9)
  intro T hT X
  rcases hrun T hT X with ⟨v, st₀, t, T', L9, h0, X', hL, e1, e2, ⟨⟨r9, w1, hv, hp, hB⟩, hF⟩, st9⟩ | ⟨q, st₀, t, T', L9, E9, ce, h0, X', hL, e1, e2, hfalse, hce, hcv, hcl, st9⟩
  · cases hv
    obtain ⟨k1, k2, k3⟩ := vx_keep h0 e1 hw.2.2.2 (fun q _ hq => hin q hq) hin hL hF
    have hP1 : va_P E.1 vwC (wX E st) T'.heap := by rw [e1]; exact hB.1.1
    have hO1 : OA oA aL w1 T'.heap := by rw [e1]; exact hB.2
    have hM1 : va_P EM.1 vwC (wM EM sm) T'.heap := hw.2.1.kept (fun k q hq => by
      have hl9 := (hw.2.1 k q hq).lt
      obtain ⟨f, i, h1, h2, h3, h4⟩ := wlA_inv hq
      refine k2 q.1 hl9 (fun z => ?_)
      rw [h4] at z
      exact z.elim (g3 f i h1 h2) (g8 f i h1 h2))
    obtain ⟨t2, a1, b1⟩ := kk r9 w1 T'.heap (locs ++ L9) hp ⟨hP1, hM1, hO1, k3⟩ T' rfl X'
    exact ⟨t2, st9 t2 a1, b1⟩
  · exact hfalse.elim
set_option maxHeartbeats 4000000 in
set_option maxRecDepth 100000 in
theorem lawC_35 {p : Program} {l : Launch} {e : Jvm.Env} {s : State} {m : MethodId} {below : List Frame} {meth : Method} {c : Code} {E EM : XE} {oA h b L i cells slots : Nat} {aL : ClassId} {xs : Nat → Int32} {st sm : Sto} {w : Nat → Int64} {H : Heap} {locs : List Loc} {Q : State → Prop} {ls : Array Slot} (F : LawFix p l s m c E EM oA aL h b L xs) (hT : Tz h s) (hi : i + 9 ≤ L) (hl : lv_has ls 7 (LawV E EM oA b i)) (hR : Rel st sm) (hw : LSt E EM oA aL h st sm w s H locs) (hrm : cells + 1 ≤ 601024 ∧ slots + 6 ≤ 7293034) (kk : ∀ (st1 sm1 : Sto) (w1 : Nat → Int64) (H1 : Heap) (locs1 : List Loc) (ls1 : Array Slot), Rel st1 sm1 → LSt E EM oA aL h st1 sm1 w1 s H1 locs1 → lv_has ls1 7 (LawV E EM oA b i) → W p l e room_1 s m #[Value.ref b] below meth c H1 locs1 (cells + 1) (slots + 6) Q (F0 m 2036 ls1 [])) : W p l e room_1 s m #[Value.ref b] below meth c H locs cells slots Q (F0 m 1866 ls []) := by
  have F0' := F
  obtain ⟨hx, S, hK, hKM, g, hL, hLM, hX, hbl, hbA, hL9, hfl, hsz, hAr⟩ := F
  have hb := S.2.1
  obtain ⟨hz, r, m', f2, hR1, hcase⟩ := out_both hR (xs (i + 1))
  refine lv_aload_n hx hb dL_law_1866 rfl (lv_at hl 2 rfl) ?_
  refine L_argC (k := 1) hx hb hl rfl rfl hX hbl hbA hw.2.2.2 (by omega) hL9 rfl dL_law_1867 dL_law_1868 dL_law_1870 (by decide) dL_law_1871 dL_law_1872 ?_
  refine lv_aload_n hx hb dL_law_1873 rfl (lv_at hl 4 rfl) ?_
  refine L_callO F0' hT hl.1 (xs (i + 1)) hz hw hrm (fun r9 w1 H locs hp hw => ?_)
  refine lv_istore hx hb dL_law_1877 hl (by decide) rfl (fun ls5 hl5 => ?_)
  have hl5a : lv_has ls5 7 (LawV E EM oA b i) := lv_sub hl5 [1, 2, 3, 4, 5] rfl
  refine lv_aload_n hx hb dL_law_1879 rfl (lv_at hl5a 3 rfl) ?_
  refine L_argC (k := 1) hx hb hl5a rfl rfl hX hbl hbA hw.2.2.2 (by omega) hL9 rfl dL_law_1880 dL_law_1881 dL_law_1883 (by decide) dL_law_1884 dL_law_1885 ?_
  refine L_callM S hKM g hw (As := [.int (xs (i + 1))]) (rest := []) (mX12_out l EM hLM sm f2) (cwV 1 S.2.2.2.2 gL_law_X12_out rfl rfl rfl (by decide +kernel) ⟨Nat.le_of_ble_eq_true rfl, Nat.le_of_ble_eq_true rfl⟩) rfl hl5.1 rfl (Nat.le_of_ble_eq_true rfl) dL_law_1886 hrm (fun H locs hw => ?_)
  refine lv_istore hx hb dL_law_1889 hl5 (by decide) rfl (fun ls6 hl6 => ?_)
  have hl6a : lv_has ls6 7 (LawV E EM oA b i) := lv_sub hl6 [2, 3, 4, 5, 6] rfl
  refine lv_aload_n hx hb dL_law_1891 rfl (lv_at hl6a 3 rfl) ?_
  refine L_callM S hKM g hw (As := []) (rest := []) (mX12_thrown l EM hLM m' (r := gI m' 0 0 10) rfl) (cwV 0 S.2.2.2.2 gL_law_X12_thrown rfl rfl rfl (by decide +kernel) ⟨Nat.le_of_ble_eq_true rfl, Nat.le_of_ble_eq_true rfl⟩) rfl hl6.1 rfl (Nat.le_of_ble_eq_true rfl) dL_law_1892 hrm (fun H locs hw => ?_)
  refine lv_iload hx hb dL_law_1895 (lv_at hl6 1 rfl) ?_
  have hth : gI m' 0 0 10 = r9 := by
    rcases hcase with ⟨c1, c2, c3⟩ | ⟨c1, c2⟩ <;> rcases hp with ⟨p1, p2, p3⟩ | ⟨p1, p2, p3⟩
    · rw [c2, p1]
    · exact absurd p2 (fun z => z.elim c1.1 (fun y => y c1.2))
    · exact absurd c1 (fun z => z.elim p2.1 (fun y => y p2.2))
    · rw [c2, p1]
  refine lv_icmp_eq (tgt := 1902) hx hb dL_law_1897 (by decide) (fun _ => ?_) (fun hc => absurd hth hc)
  refine lv_iload hx hb dL_law_1902 (lv_at hl6 1 rfl) ?_
  refine lv_if_ne (tgt := 1919) hx hb dL_law_1904 (by decide) (fun _ => ?_) (fun hc => ?_)
  · refine lv_goto (tgt := 2036) hx hb dL_law_1919 (by decide) ?_
    exact kk st m' w1 H locs ls6 hR1 hw hl6a
  · rcases hp with ⟨p1, p2, p3⟩ | ⟨p1, p2, p3⟩
    · rcases hcase with ⟨c1, c2, c3⟩ | ⟨c1, c2⟩
      · refine lv_aload_n hx hb dL_law_1907 rfl (lv_at hl6a 4 rfl) ?_
        refine lv_iconst (v := 0) hx hb dL_law_1908 (by decide) ?_
        refine W.lald (v := .long (w1 0)) hx hb hw.2.2.1 (hAr 1 (fun j => .long (w1 j))) (fun q => by cases q) (by show ¬ ((0 : Int32) < 0 ∨ (arrV aL 1 (fun j => .long (w1 j))).slots.size ≤ _); rw [arrV_size]; decide) (by show (arrV aL 1 (fun j => .long (w1 j))).slots[_]? = _; rw [arrV_read _ _ (by decide)]; rfl) rfl rfl dL_law_1909 (?_ : W p l e room_1 s m #[Value.ref b] below meth c H locs (cells + 1) (slots + 6) Q (F0 m 1910 ls6 [.long (w1 0)]))
        refine lv_iload hx hb dL_law_1910 (lv_at hl6 0 rfl) ?_
        refine lv_i2l hx hb dL_law_1912 rfl ?_
        refine W.lcmp hx hb dL_law_1913 ?_
        have e : w1 0 = r.toInt64 := by
          rw [p3, c3]
          simp [vp_updL]
        rw [e, lg_cmp_self]
        refine lv_if_eq (tgt := 1919) hx hb dL_law_1914 (by decide) (fun _ => ?_) (fun hc => absurd rfl hc)
        refine lv_goto (tgt := 2036) hx hb dL_law_1919 (by decide) ?_
        exact kk st m' w1 H locs ls6 hR1 hw hl6a
      · exact absurd c1 (fun z => z.elim p2.1 (fun y => y p2.2))
    · rw [p1] at hc
      exact absurd hc (by decide)
