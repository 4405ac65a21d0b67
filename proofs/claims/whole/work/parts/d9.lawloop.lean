/-! ===== the law's loop ===== -/
theorem low6 (x : Int32) : ∃ k, k < 64 ∧ x &&& 63 = nI k := by
  obtain ⟨n, rfl⟩ : ∃ n : Nat, x = nI n := ⟨x.toUInt32.toNat, (nI_toInt32 x.toUInt32).symm ▸ rfl⟩
  exact ⟨n % 64, Nat.mod_lt _ (by decide), fa_mask n 6⟩
set_option maxHeartbeats 4000000 in
set_option maxRecDepth 100000 in
theorem law_step {p : Program} {l : Launch} {e : Jvm.Env} {s : State} {m : MethodId} {below : List Frame} {meth : Method} {c : Code} {E EM : XE} {oA h b L : Nat} {aL : ClassId} {xs : Nat → Int32} {Q : State → Prop} {i cells slots : Nat} {st sm : Sto} {w : Nat → Int64} {H : Heap} {locs : List Loc} {ls : Array Slot} (F : LawFix p l s m c E EM oA aL h b L xs) (hT : Tz h s) (hi : i + 9 ≤ L) (hl : lv_has ls 7 (LawV E EM oA b i)) (hR : Rel st sm) (hw : LSt E EM oA aL h st sm w s H locs) (hrm : cells + 1 ≤ 601024 ∧ slots + 6 ≤ 7293034)
    (kk : ∀ (st1 sm1 : Sto) (w1 : Nat → Int64) (H1 : Heap) (locs1 : List Loc) (ls1 : Array Slot) (cells1 slots1 : Nat), Rel st1 sm1 → LSt E EM oA aL h st1 sm1 w1 s H1 locs1 → lv_has ls1 7 (LawV E EM oA b i) → cells1 ≤ cells + 1 → slots1 ≤ slots + 6 → W p l e room_1 s m #[Value.ref b] below meth c H1 locs1 cells1 slots1 Q (F0 m 2036 ls1 [])) : W p l e room_1 s m #[Value.ref b] below meth c H locs cells slots Q (F0 m 33 ls []) := by
  have F9 := F
  obtain ⟨hx, S, hK, hKM, g, hL, hLM, hX, hbl, hbA, hL9, hfl, hsz, hAr⟩ := F
  have hb := S.2.1
  refine lv_aload_n hx hb dL_law_33 rfl (lv_at hl 1 rfl) ?_
  refine lv_iload hx hb dL_law_34 (lv_at hl 0 rfl) ?_
  refine va_sld hx hb hX hbl hbA hw.2.2.2 (vp_in_nI (by omega) (by omega)) dL_law_36 ?_
  rw [nI_cl (by omega)]
  refine lv_bipush (v := 63) hx hb dL_law_37 (by decide) ?_
  refine lv_iand hx hb dL_law_39 ?_
  obtain ⟨k, hk, ek⟩ := low6 (xs i)
  rw [ek]
  have k1 : ∀ (st1 sm1 : Sto) (H1 : Heap) (locs1 : List Loc), Rel st1 sm1 → LSt E EM oA aL h st1 sm1 w s H1 locs1 → W p l e room_1 s m #[Value.ref b] below meth c H1 locs1 cells slots Q (F0 m 2036 ls []) := fun st1 sm1 H1 locs1 hR1 hw1 => kk st1 sm1 w H1 locs1 ls cells slots hR1 hw1 hl (by omega) (by omega)
  have hrm1 : cells ≤ 601024 ∧ slots ≤ 7293034 := ⟨by omega, by omega⟩
  by_cases e0 : k = 0
  · subst e0
    exact lv_tableIn (off := 184) (tgt := 224) hx hb dL_law_40 (by decide) (by decide) rfl (by decide) (lawC_0 F9 hi hl hR hw hrm1 k1)
  by_cases e1 : k = 1
  · subst e1
    exact lv_tableIn (off := 257) (tgt := 297) hx hb dL_law_40 (by decide) (by decide) rfl (by decide) (lawC_1 F9 hi hl hR hw hrm1 k1)
  by_cases e2 : k = 2
  · subst e2
    exact lv_tableIn (off := 270) (tgt := 310) hx hb dL_law_40 (by decide) (by decide) rfl (by decide) (lawC_2 F9 hi hl hR hw hrm1 k1)
  by_cases e3 : k = 3
  · subst e3
    exact lv_tableIn (off := 283) (tgt := 323) hx hb dL_law_40 (by decide) (by decide) rfl (by decide) (lawC_3 F9 hi hl hR hw hrm1 k1)
  by_cases e4 : k = 4
  · subst e4
    exact lv_tableIn (off := 308) (tgt := 348) hx hb dL_law_40 (by decide) (by decide) rfl (by decide) (lawC_4 F9 hi hl hR hw hrm1 k1)
  by_cases e5 : k = 5
  · subst e5
    exact lv_tableIn (off := 345) (tgt := 385) hx hb dL_law_40 (by decide) (by decide) rfl (by decide) (lawC_5 F9 hi hl hR hw hrm1 k1)
  by_cases e6 : k = 6
  · subst e6
    exact lv_tableIn (off := 382) (tgt := 422) hx hb dL_law_40 (by decide) (by decide) rfl (by decide) (lawC_6 F9 hi hl hR hw hrm1 k1)
  by_cases e7 : k = 7
  · subst e7
    exact lv_tableIn (off := 431) (tgt := 471) hx hb dL_law_40 (by decide) (by decide) rfl (by decide) (lawC_7 F9 hi hl hR hw hrm1 k1)
  by_cases e8 : k = 8
  · subst e8
    exact lv_tableIn (off := 468) (tgt := 508) hx hb dL_law_40 (by decide) (by decide) rfl (by decide) (lawC_8 F9 hi hl hR hw hrm1 k1)
  by_cases e9 : k = 9
  · subst e9
    exact lv_tableIn (off := 529) (tgt := 569) hx hb dL_law_40 (by decide) (by decide) rfl (by decide) (lawC_9 F9 hi hl hR hw hrm1 k1)
  by_cases e10 : k = 10
  · subst e10
    exact lv_tableIn (off := 594) (tgt := 634) hx hb dL_law_40 (by decide) (by decide) rfl (by decide) (lawC_10 F9 hi hl hR hw hrm1 k1)
  by_cases e11 : k = 11
  · subst e11
    exact lv_tableIn (off := 619) (tgt := 659) hx hb dL_law_40 (by decide) (by decide) rfl (by decide) (lawC_11 F9 hi hl hR hw hrm1 k1)
  by_cases e12 : k = 12
  · subst e12
    exact lv_tableIn (off := 668) (tgt := 708) hx hb dL_law_40 (by decide) (by decide) rfl (by decide) (lawC_12 F9 hi hl hR hw hrm1 k1)
  by_cases e13 : k = 13
  · subst e13
    exact lv_tableIn (off := 729) (tgt := 769) hx hb dL_law_40 (by decide) (by decide) rfl (by decide) (lawC_13 F9 hi hl hR hw hrm1 k1)
  by_cases e14 : k = 14
  · subst e14
    exact lv_tableIn (off := 778) (tgt := 818) hx hb dL_law_40 (by decide) (by decide) rfl (by decide) (lawC_14 F9 hi hl hR hw hrm1 k1)
  by_cases e15 : k = 15
  · subst e15
    exact lv_tableIn (off := 852) (tgt := 892) hx hb dL_law_40 (by decide) (by decide) rfl (by decide) (lawC_15 F9 hi hl hR hw hrm1 k1)
  by_cases e16 : k = 16
  · subst e16
    exact lv_tableIn (off := 914) (tgt := 954) hx hb dL_law_40 (by decide) (by decide) rfl (by decide) (lawC_16 F9 hi hl hR hw hrm1 k1)
  by_cases e17 : k = 17
  · subst e17
    exact lv_tableIn (off := 963) (tgt := 1003) hx hb dL_law_40 (by decide) (by decide) rfl (by decide) (lawC_17 F9 hi hl hR hw hrm1 k1)
  by_cases e18 : k = 18
  · subst e18
    exact lv_tableIn (off := 1012) (tgt := 1052) hx hb dL_law_40 (by decide) (by decide) rfl (by decide) (lawC_18 F9 hi hl hR hw hrm1 k1)
  by_cases e19 : k = 19
  · subst e19
    exact lv_tableIn (off := 1113) (tgt := 1153) hx hb dL_law_40 (by decide) (by decide) rfl (by decide) (lawC_19 F9 hi hl hR hw hrm1 k1)
  by_cases e20 : k = 20
  · subst e20
    exact lv_tableIn (off := 1150) (tgt := 1190) hx hb dL_law_40 (by decide) (by decide) rfl (by decide) (lawC_20 F9 hi hl hR hw hrm1 k1)
  by_cases e21 : k = 21
  · subst e21
    exact lv_tableIn (off := 1265) (tgt := 1305) hx hb dL_law_40 (by decide) (by decide) rfl (by decide) (lawC_21 F9 hi hl hR hw hrm1 k1)
  by_cases e22 : k = 22
  · subst e22
    exact lv_tableIn (off := 1290) (tgt := 1330) hx hb dL_law_40 (by decide) (by decide) rfl (by decide) (lawC_22 F9 hi hl hR hw hrm1 k1)
  by_cases e23 : k = 23
  · subst e23
    exact lv_tableIn (off := 1316) (tgt := 1356) hx hb dL_law_40 (by decide) (by decide) rfl (by decide) (lawC_23 F9 hi hl hR hw hrm1 k1)
  by_cases e24 : k = 24
  · subst e24
    exact lv_tableIn (off := 1377) (tgt := 1417) hx hb dL_law_40 (by decide) (by decide) rfl (by decide) (lawC_24 F9 hi hl hR hw hrm1 k1)
  by_cases e25 : k = 25
  · subst e25
    exact lv_tableIn (off := 1414) (tgt := 1454) hx hb dL_law_40 (by decide) (by decide) rfl (by decide) (lawC_25 F9 hi hl hR hw hrm1 k1)
  by_cases e26 : k = 26
  · subst e26
    exact lv_tableIn (off := 1463) (tgt := 1503) hx hb dL_law_40 (by decide) (by decide) rfl (by decide) (lawC_26 F9 hi hl hR hw hrm1 k1)
  by_cases e27 : k = 27
  · subst e27
    exact lv_tableIn (off := 1550) (tgt := 1590) hx hb dL_law_40 (by decide) (by decide) rfl (by decide) (lawC_27 F9 hi hl hR hw hrm1 k1)
  by_cases e28 : k = 28
  · subst e28
    exact lv_tableIn (off := 1575) (tgt := 1615) hx hb dL_law_40 (by decide) (by decide) rfl (by decide) (lawC_28 F9 hi hl hR hw hrm1 k1)
  by_cases e29 : k = 29
  · subst e29
    exact lv_tableIn (off := 1600) (tgt := 1640) hx hb dL_law_40 (by decide) (by decide) rfl (by decide) (lawC_29 F9 hi hl hR hw hrm1 k1)
  by_cases e30 : k = 30
  · subst e30
    exact lv_tableIn (off := 1637) (tgt := 1677) hx hb dL_law_40 (by decide) (by decide) rfl (by decide) (lawC_30 F9 hi hl hR hw hrm1 k1)
  by_cases e31 : k = 31
  · subst e31
    exact lv_tableIn (off := 1674) (tgt := 1714) hx hb dL_law_40 (by decide) (by decide) rfl (by decide) (lawC_31 F9 hi hl hR hw hrm1 k1)
  by_cases e32 : k = 32
  · subst e32
    exact lv_tableIn (off := 1739) (tgt := 1779) hx hb dL_law_40 (by decide) (by decide) rfl (by decide) (lawC_32 F9 hi hl hR hw hrm1 k1)
  by_cases e33 : k = 33
  · subst e33
    exact lv_tableIn (off := 1764) (tgt := 1804) hx hb dL_law_40 (by decide) (by decide) rfl (by decide) (lawC_33 F9 hi hl hR hw hrm1 k1)
  by_cases e34 : k = 34
  · subst e34
    exact lv_tableIn (off := 1789) (tgt := 1829) hx hb dL_law_40 (by decide) (by decide) rfl (by decide) (lawC_34 F9 hi hl hR hw hrm1 k1)
  by_cases e35 : k = 35
  · subst e35
    exact lv_tableIn (off := 1826) (tgt := 1866) hx hb dL_law_40 (by decide) (by decide) rfl (by decide) (lawC_35 F9 hT hi hl hR hw hrm (fun st1 sm1 w1 H1 locs1 ls1 hR1 hw1 hl1 => kk st1 sm1 w1 H1 locs1 ls1 (cells + 1) (slots + 6) hR1 hw1 hl1 (Nat.le_refl _) (Nat.le_refl _)))
  by_cases e36 : k = 36
  · subst e36
    exact lv_tableIn (off := 1882) (tgt := 1922) hx hb dL_law_40 (by decide) (by decide) rfl (by decide) (lawC_36 F9 hi hl hR hw hrm1 k1)
  by_cases e37 : k = 37
  · subst e37
    exact lv_tableIn (off := 1919) (tgt := 1959) hx hb dL_law_40 (by decide) (by decide) rfl (by decide) (lawC_37 F9 hi hl hR hw hrm1 k1)
  by_cases e38 : k = 38
  · subst e38
    exact lv_tableIn (off := 1932) (tgt := 1972) hx hb dL_law_40 (by decide) (by decide) rfl (by decide) (lawC_38 F9 hi hl hR hw hrm1 k1)
  by_cases e39 : k = 39
  · subst e39
    exact lv_tableIn (off := 1945) (tgt := 1985) hx hb dL_law_40 (by decide) (by decide) rfl (by decide) (lawC_39 F9 hi hl hR hw hrm1 k1)
  by_cases e40 : k = 40
  · subst e40
    exact lv_tableIn (off := 1958) (tgt := 1998) hx hb dL_law_40 (by decide) (by decide) rfl (by decide) (lawC_40 F9 hi hl hR hw hrm1 k1)
  by_cases e41 : k = 41
  · subst e41
    exact lv_tableIn (off := 1971) (tgt := 2011) hx hb dL_law_40 (by decide) (by decide) rfl (by decide) (lawC_41 F9 hi hl hR hw hrm1 k1)
  · refine lv_tableOut (tgt := 2036) hx hb dL_law_40 (Or.inr ?_) (by decide) (k1 st sm H locs hR hw)
    rw [nI_toInt (by omega)]
    omega
set_option maxHeartbeats 4000000 in
set_option maxRecDepth 100000 in
theorem law_loop {p : Program} {l : Launch} {e : Jvm.Env} {s : State} {m : MethodId} {below : List Frame} {meth : Method} {c : Code} {E EM : XE} {oA h b L : Nat} {aL : ClassId} {xs : Nat → Int32} {Q : State → Prop} (F : LawFix p l s m c E EM oA aL h b L xs) (hT : Tz h s)
    (kend : ∀ (st1 sm1 : Sto) (w1 : Nat → Int64) (H1 : Heap) (locs1 : List Loc) (ls1 : Array Slot) (cells1 slots1 : Nat), LSt E EM oA aL h st1 sm1 w1 s H1 locs1 → cells1 ≤ 601024 → slots1 ≤ 7293034 → W p l e room_1 s m #[Value.ref b] below meth c H1 locs1 cells1 slots1 Q (F0 m 2042 ls1 [])) : ∀ (n i : Nat) {cells slots : Nat} {st sm : Sto} {w : Nat → Int64} {H : Heap} {locs : List Loc} {ls : Array Slot}, i ≤ L → L ≤ i + n → cells + (L - i) ≤ 601024 → slots + 6 * (L - i) ≤ 7293034 → lv_has ls 7 (LawV E EM oA b i) → Rel st sm → LSt E EM oA aL h st sm w s H locs → W p l e room_1 s m #[Value.ref b] below meth c H locs cells slots Q (F0 m 23 ls []) := by
  have F9 := F
  obtain ⟨hx, S, hK, hKM, g, hL, hLM, hX, hbl, hbA, hL9, hfl, hsz, hAr⟩ := F
  have hb := S.2.1
  intro n
  induction n with
  | zero =>
    intro i cells slots st sm w H locs ls h1 h2 h3 h4 hl hR hw
    refine lv_iload hx hb dL_law_23 (lv_at hl 0 rfl) ?_
    refine lv_aload_n hx hb dL_law_25 rfl (lv_at hl 1 rfl) ?_
    refine va_slen hx hb hX hbl hbA hw.2.2.2 dL_law_26 ?_
    refine lv_bipush (v := nI 9) hx hb dL_law_27 (by decide) ?_
    refine lv_isub hx hb dL_law_29 ?_
    refine lv_icmp_gt (tgt := 2042) hx hb dL_law_30 (by decide) (fun _ => kend st sm w H locs ls cells slots hw (by omega) (by omega)) (fun hc => ?_)
    refine absurd (Int32.lt_iff_toInt_lt.mpr ?_) hc
    rw [show Int32.ofNat L = nI L from rfl, pk_sub_toInt (by omega) (by omega), nI_toInt (by omega)]
    omega
  | succ n ih =>
    intro i cells slots st sm w H locs ls h1 h2 h3 h4 hl hR hw
    refine lv_iload hx hb dL_law_23 (lv_at hl 0 rfl) ?_
    refine lv_aload_n hx hb dL_law_25 rfl (lv_at hl 1 rfl) ?_
    refine va_slen hx hb hX hbl hbA hw.2.2.2 dL_law_26 ?_
    refine lv_bipush (v := nI 9) hx hb dL_law_27 (by decide) ?_
    refine lv_isub hx hb dL_law_29 ?_
    refine lv_icmp_gt (tgt := 2042) hx hb dL_law_30 (by decide) (fun _ => kend st sm w H locs ls cells slots hw (by omega) (by omega)) (fun hc => ?_)
    have hi : i + 9 ≤ L := by
      refine Decidable.byContradiction fun q => hc (Int32.lt_iff_toInt_lt.mpr ?_)
      rw [show Int32.ofNat L = nI L from rfl, pk_sub_toInt (by omega) (by omega), nI_toInt (by omega)]
      omega
    refine law_step F9 hT hi hl hR hw ⟨by omega, by omega⟩ (fun st1 sm1 w1 H1 locs1 ls1 cells1 slots1 hR1 hw1 hl1 hc1 hs1 => ?_)
    refine lv_iinc (k := 0) (v := nI (i + 9)) hx hb dL_law_2036 hl1 rfl (by rw [← nI_add]; rfl) (by decide) rfl (fun ls2 hl2 => ?_)
    refine lv_goto (tgt := 23) hx hb dL_law_2039 (by decide) ?_
    exact ih (i + 9) hi (by omega) (by omega) (by omega) hl2 hR1 hw1
