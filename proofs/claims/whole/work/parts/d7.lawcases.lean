/-! ===== the law's cases, the rest ===== -/
set_option maxHeartbeats 4000000 in
set_option maxRecDepth 100000 in
theorem lawC_21 {p : Program} {l : Launch} {e : Jvm.Env} {s : State} {m : MethodId} {below : List Frame} {meth : Method} {c : Code} {E EM : XE} {oA h b L i cells slots : Nat} {aL : ClassId} {xs : Nat → Int32} {st sm : Sto} {w : Nat → Int64} {H : Heap} {locs : List Loc} {Q : State → Prop} {ls : Array Slot} (F : LawFix p l s m c E EM oA aL h b L xs) (hi : i + 9 ≤ L) (hl : lv_has ls 7 (LawV E EM oA b i)) (hR : Rel st sm) (hw : LSt E EM oA aL h st sm w s H locs) (hrm : cells ≤ 601024 ∧ slots ≤ 7293034) (kk : ∀ (st1 sm1 : Sto) (H1 : Heap) (locs1 : List Loc), Rel st1 sm1 → LSt E EM oA aL h st1 sm1 w s H1 locs1 → W p l e room_1 s m #[Value.ref b] below meth c H1 locs1 cells slots Q (F0 m 2036 ls [])) : W p l e room_1 s m #[Value.ref b] below meth c H locs cells slots Q (F0 m 1305 ls []) := by
  obtain ⟨hx, S, hK, hKM, g, hL, hLM, hX, hbl, hbA, hL9, _⟩ := F
  have hb := S.2.1
  obtain ⟨r, m1, f1, f2, hR1⟩ := b_recipeOf hR (xs (i + 1))
  refine lv_aload_n hx hb dL_law_1305 rfl (lv_at hl 2 rfl) ?_
  refine L_argC (k := 1) hx hb hl rfl rfl hX hbl hbA hw.2.2.2 (by omega) hL9 rfl dL_law_1306 dL_law_1307 dL_law_1309 (by decide) dL_law_1310 dL_law_1311 ?_
  refine L_callX S hK g hw (As := [.int (xs (i + 1))]) (rest := []) (mX11_recipeOf l E hL st f1) (cwV 1 S.2.2.2.2 gL_law_X11_recipeOf rfl rfl rfl (by decide +kernel) ⟨Nat.le_of_ble_eq_true rfl, Nat.le_of_ble_eq_true rfl⟩) rfl hl.1 rfl (Nat.le_of_ble_eq_true rfl) dL_law_1312 hrm (fun H locs hw => ?_)
  refine lv_aload_n hx hb dL_law_1315 rfl (lv_at hl 3 rfl) ?_
  refine L_argC (k := 1) hx hb hl rfl rfl hX hbl hbA hw.2.2.2 (by omega) hL9 rfl dL_law_1316 dL_law_1317 dL_law_1319 (by decide) dL_law_1320 dL_law_1321 ?_
  refine L_callM S hKM g hw (As := [.int (xs (i + 1))]) (rest := [.int r]) (mX12_recipeOf l EM hLM sm f2) (cwV 1 S.2.2.2.2 gL_law_X12_recipeOf rfl rfl rfl (by decide +kernel) ⟨Nat.le_of_ble_eq_true rfl, Nat.le_of_ble_eq_true rfl⟩) rfl hl.1 rfl (Nat.le_of_ble_eq_true rfl) dL_law_1322 hrm (fun H locs hw => ?_)
  refine lv_icmp_eq (tgt := 2036) hx hb dL_law_1325 (by decide) (fun _ => ?_) (fun hc => absurd rfl hc)
  exact kk st m1 H locs hR1 hw
set_option maxHeartbeats 4000000 in
set_option maxRecDepth 100000 in
theorem lawC_22 {p : Program} {l : Launch} {e : Jvm.Env} {s : State} {m : MethodId} {below : List Frame} {meth : Method} {c : Code} {E EM : XE} {oA h b L i cells slots : Nat} {aL : ClassId} {xs : Nat → Int32} {st sm : Sto} {w : Nat → Int64} {H : Heap} {locs : List Loc} {Q : State → Prop} {ls : Array Slot} (F : LawFix p l s m c E EM oA aL h b L xs) (hi : i + 9 ≤ L) (hl : lv_has ls 7 (LawV E EM oA b i)) (hR : Rel st sm) (hw : LSt E EM oA aL h st sm w s H locs) (hrm : cells ≤ 601024 ∧ slots ≤ 7293034) (kk : ∀ (st1 sm1 : Sto) (H1 : Heap) (locs1 : List Loc), Rel st1 sm1 → LSt E EM oA aL h st1 sm1 w s H1 locs1 → W p l e room_1 s m #[Value.ref b] below meth c H1 locs1 cells slots Q (F0 m 2036 ls [])) : W p l e room_1 s m #[Value.ref b] below meth c H locs cells slots Q (F0 m 1330 ls []) := by
  obtain ⟨hx, S, hK, hKM, g, hL, hLM, hX, hbl, hbA, hL9, _⟩ := F
  have hb := S.2.1
  obtain ⟨r, m1, f1, f2, hR1⟩ := b_recipeBy hR (xs (i + 1))
  refine lv_aload_n hx hb dL_law_1330 rfl (lv_at hl 2 rfl) ?_
  refine L_argC (k := 1) hx hb hl rfl rfl hX hbl hbA hw.2.2.2 (by omega) hL9 rfl dL_law_1331 dL_law_1332 dL_law_1334 (by decide) dL_law_1335 dL_law_1336 ?_
  refine L_callX S hK g hw (As := [.int (xs (i + 1))]) (rest := []) (mX11_recipeBy l E hL st f1) (cwV 1 S.2.2.2.2 gL_law_X11_recipeBy rfl rfl rfl (by decide +kernel) ⟨Nat.le_of_ble_eq_true rfl, Nat.le_of_ble_eq_true rfl⟩) rfl hl.1 rfl (Nat.le_of_ble_eq_true rfl) dL_law_1337 hrm (fun H locs hw => ?_)
  refine lv_aload_n hx hb dL_law_1340 rfl (lv_at hl 3 rfl) ?_
  refine L_argC (k := 1) hx hb hl rfl rfl hX hbl hbA hw.2.2.2 (by omega) hL9 rfl dL_law_1341 dL_law_1342 dL_law_1344 (by decide) dL_law_1345 dL_law_1346 ?_
  refine L_callM S hKM g hw (As := [.int (xs (i + 1))]) (rest := [.long r]) (mX12_recipeBy l EM hLM sm f2) (cwV 1 S.2.2.2.2 gL_law_X12_recipeBy rfl rfl rfl (by decide +kernel) ⟨Nat.le_of_ble_eq_true rfl, Nat.le_of_ble_eq_true rfl⟩) rfl hl.1 rfl (Nat.le_of_ble_eq_true rfl) dL_law_1347 hrm (fun H locs hw => ?_)
  refine W.lcmp hx hb dL_law_1350 ?_
  rw [lg_cmp_self]
  refine lv_if_eq (tgt := 2036) hx hb dL_law_1351 (by decide) (fun _ => ?_) (fun hc => absurd rfl hc)
  exact kk st m1 H locs hR1 hw
set_option maxHeartbeats 4000000 in
set_option maxRecDepth 100000 in
theorem lawC_23 {p : Program} {l : Launch} {e : Jvm.Env} {s : State} {m : MethodId} {below : List Frame} {meth : Method} {c : Code} {E EM : XE} {oA h b L i cells slots : Nat} {aL : ClassId} {xs : Nat → Int32} {st sm : Sto} {w : Nat → Int64} {H : Heap} {locs : List Loc} {Q : State → Prop} {ls : Array Slot} (F : LawFix p l s m c E EM oA aL h b L xs) (hi : i + 9 ≤ L) (hl : lv_has ls 7 (LawV E EM oA b i)) (hR : Rel st sm) (hw : LSt E EM oA aL h st sm w s H locs) (hrm : cells ≤ 601024 ∧ slots ≤ 7293034) (kk : ∀ (st1 sm1 : Sto) (H1 : Heap) (locs1 : List Loc), Rel st1 sm1 → LSt E EM oA aL h st1 sm1 w s H1 locs1 → W p l e room_1 s m #[Value.ref b] below meth c H1 locs1 cells slots Q (F0 m 2036 ls [])) : W p l e room_1 s m #[Value.ref b] below meth c H locs cells slots Q (F0 m 1356 ls []) := by
  obtain ⟨hx, S, hK, hKM, g, hL, hLM, hX, hbl, hbA, hL9, _⟩ := F
  have hb := S.2.1
  obtain ⟨r, x1, m1, f1, f2, hR1⟩ := b_lot hR (xs (i + 1)) (xs (i + 2)) (xs (i + 3)) (xs (i + 4))
  refine lv_aload_n hx hb dL_law_1356 rfl (lv_at hl 2 rfl) ?_
  refine L_argC (k := 1) hx hb hl rfl rfl hX hbl hbA hw.2.2.2 (by omega) hL9 rfl dL_law_1357 dL_law_1358 dL_law_1360 (by decide) dL_law_1361 dL_law_1362 ?_
  refine L_argC (k := 2) hx hb hl rfl rfl hX hbl hbA hw.2.2.2 (by omega) hL9 rfl dL_law_1363 dL_law_1364 dL_law_1366 (by decide) dL_law_1367 dL_law_1368 ?_
  refine L_argC (k := 3) hx hb hl rfl rfl hX hbl hbA hw.2.2.2 (by omega) hL9 rfl dL_law_1369 dL_law_1370 dL_law_1372 (by decide) dL_law_1373 dL_law_1374 ?_
  refine L_argC (k := 4) hx hb hl rfl rfl hX hbl hbA hw.2.2.2 (by omega) hL9 rfl dL_law_1375 dL_law_1376 dL_law_1378 (by decide) dL_law_1379 dL_law_1380 ?_
  refine L_callX S hK g hw (As := [.int (xs (i + 1)), .int (xs (i + 2)), .int (xs (i + 3)), .int (xs (i + 4))]) (rest := []) (mX11_lot l E hL st f1) (cwV 4 S.2.2.2.2 gL_law_X11_lot rfl rfl rfl (by decide +kernel) ⟨Nat.le_of_ble_eq_true rfl, Nat.le_of_ble_eq_true rfl⟩) rfl hl.1 rfl (Nat.le_of_ble_eq_true rfl) dL_law_1381 hrm (fun H locs hw => ?_)
  refine lv_aload_n hx hb dL_law_1384 rfl (lv_at hl 3 rfl) ?_
  refine L_argC (k := 1) hx hb hl rfl rfl hX hbl hbA hw.2.2.2 (by omega) hL9 rfl dL_law_1385 dL_law_1386 dL_law_1388 (by decide) dL_law_1389 dL_law_1390 ?_
  refine L_argC (k := 2) hx hb hl rfl rfl hX hbl hbA hw.2.2.2 (by omega) hL9 rfl dL_law_1391 dL_law_1392 dL_law_1394 (by decide) dL_law_1395 dL_law_1396 ?_
  refine L_argC (k := 3) hx hb hl rfl rfl hX hbl hbA hw.2.2.2 (by omega) hL9 rfl dL_law_1397 dL_law_1398 dL_law_1400 (by decide) dL_law_1401 dL_law_1402 ?_
  refine L_argC (k := 4) hx hb hl rfl rfl hX hbl hbA hw.2.2.2 (by omega) hL9 rfl dL_law_1403 dL_law_1404 dL_law_1406 (by decide) dL_law_1407 dL_law_1408 ?_
  refine L_callM S hKM g hw (As := [.int (xs (i + 1)), .int (xs (i + 2)), .int (xs (i + 3)), .int (xs (i + 4))]) (rest := [.int r]) (mX12_lot l EM hLM sm f2) (cwV 4 S.2.2.2.2 gL_law_X12_lot rfl rfl rfl (by decide +kernel) ⟨Nat.le_of_ble_eq_true rfl, Nat.le_of_ble_eq_true rfl⟩) rfl hl.1 rfl (Nat.le_of_ble_eq_true rfl) dL_law_1409 hrm (fun H locs hw => ?_)
  refine lv_icmp_eq (tgt := 2036) hx hb dL_law_1412 (by decide) (fun _ => ?_) (fun hc => absurd rfl hc)
  exact kk x1 m1 H locs hR1 hw
set_option maxHeartbeats 4000000 in
set_option maxRecDepth 100000 in
theorem lawC_24 {p : Program} {l : Launch} {e : Jvm.Env} {s : State} {m : MethodId} {below : List Frame} {meth : Method} {c : Code} {E EM : XE} {oA h b L i cells slots : Nat} {aL : ClassId} {xs : Nat → Int32} {st sm : Sto} {w : Nat → Int64} {H : Heap} {locs : List Loc} {Q : State → Prop} {ls : Array Slot} (F : LawFix p l s m c E EM oA aL h b L xs) (hi : i + 9 ≤ L) (hl : lv_has ls 7 (LawV E EM oA b i)) (hR : Rel st sm) (hw : LSt E EM oA aL h st sm w s H locs) (hrm : cells ≤ 601024 ∧ slots ≤ 7293034) (kk : ∀ (st1 sm1 : Sto) (H1 : Heap) (locs1 : List Loc), Rel st1 sm1 → LSt E EM oA aL h st1 sm1 w s H1 locs1 → W p l e room_1 s m #[Value.ref b] below meth c H1 locs1 cells slots Q (F0 m 2036 ls [])) : W p l e room_1 s m #[Value.ref b] below meth c H locs cells slots Q (F0 m 1417 ls []) := by
  obtain ⟨hx, S, hK, hKM, g, hL, hLM, hX, hbl, hbA, hL9, _⟩ := F
  have hb := S.2.1
  obtain ⟨r, x1, m1, f1, f2, hR1⟩ := b_batch hR (xs (i + 1)) (xs (i + 2))
  refine lv_aload_n hx hb dL_law_1417 rfl (lv_at hl 2 rfl) ?_
  refine L_argC (k := 1) hx hb hl rfl rfl hX hbl hbA hw.2.2.2 (by omega) hL9 rfl dL_law_1418 dL_law_1419 dL_law_1421 (by decide) dL_law_1422 dL_law_1423 ?_
  refine L_argC (k := 2) hx hb hl rfl rfl hX hbl hbA hw.2.2.2 (by omega) hL9 rfl dL_law_1424 dL_law_1425 dL_law_1427 (by decide) dL_law_1428 dL_law_1429 ?_
  refine L_callX S hK g hw (As := [.int (xs (i + 1)), .int (xs (i + 2))]) (rest := []) (mX11_batch l E hL st f1) (cwV 2 S.2.2.2.2 gL_law_X11_batch rfl rfl rfl (by decide +kernel) ⟨Nat.le_of_ble_eq_true rfl, Nat.le_of_ble_eq_true rfl⟩) rfl hl.1 rfl (Nat.le_of_ble_eq_true rfl) dL_law_1430 hrm (fun H locs hw => ?_)
  refine lv_aload_n hx hb dL_law_1433 rfl (lv_at hl 3 rfl) ?_
  refine L_argC (k := 1) hx hb hl rfl rfl hX hbl hbA hw.2.2.2 (by omega) hL9 rfl dL_law_1434 dL_law_1435 dL_law_1437 (by decide) dL_law_1438 dL_law_1439 ?_
  refine L_argC (k := 2) hx hb hl rfl rfl hX hbl hbA hw.2.2.2 (by omega) hL9 rfl dL_law_1440 dL_law_1441 dL_law_1443 (by decide) dL_law_1444 dL_law_1445 ?_
  refine L_callM S hKM g hw (As := [.int (xs (i + 1)), .int (xs (i + 2))]) (rest := [.int r]) (mX12_batch l EM hLM sm f2) (cwV 2 S.2.2.2.2 gL_law_X12_batch rfl rfl rfl (by decide +kernel) ⟨Nat.le_of_ble_eq_true rfl, Nat.le_of_ble_eq_true rfl⟩) rfl hl.1 rfl (Nat.le_of_ble_eq_true rfl) dL_law_1446 hrm (fun H locs hw => ?_)
  refine lv_icmp_eq (tgt := 2036) hx hb dL_law_1449 (by decide) (fun _ => ?_) (fun hc => absurd rfl hc)
  exact kk x1 m1 H locs hR1 hw
set_option maxHeartbeats 4000000 in
set_option maxRecDepth 100000 in
theorem lawC_25 {p : Program} {l : Launch} {e : Jvm.Env} {s : State} {m : MethodId} {below : List Frame} {meth : Method} {c : Code} {E EM : XE} {oA h b L i cells slots : Nat} {aL : ClassId} {xs : Nat → Int32} {st sm : Sto} {w : Nat → Int64} {H : Heap} {locs : List Loc} {Q : State → Prop} {ls : Array Slot} (F : LawFix p l s m c E EM oA aL h b L xs) (hi : i + 9 ≤ L) (hl : lv_has ls 7 (LawV E EM oA b i)) (hR : Rel st sm) (hw : LSt E EM oA aL h st sm w s H locs) (hrm : cells ≤ 601024 ∧ slots ≤ 7293034) (kk : ∀ (st1 sm1 : Sto) (H1 : Heap) (locs1 : List Loc), Rel st1 sm1 → LSt E EM oA aL h st1 sm1 w s H1 locs1 → W p l e room_1 s m #[Value.ref b] below meth c H1 locs1 cells slots Q (F0 m 2036 ls [])) : W p l e room_1 s m #[Value.ref b] below meth c H locs cells slots Q (F0 m 1454 ls []) := by
  obtain ⟨hx, S, hK, hKM, g, hL, hLM, hX, hbl, hbA, hL9, _⟩ := F
  have hb := S.2.1
  obtain ⟨r, x1, m1, f1, f2, hR1⟩ := b_weigh hR (xs (i + 1)) (xs (i + 2)) (xs (i + 3))
  refine lv_aload_n hx hb dL_law_1454 rfl (lv_at hl 2 rfl) ?_
  refine L_argC (k := 1) hx hb hl rfl rfl hX hbl hbA hw.2.2.2 (by omega) hL9 rfl dL_law_1455 dL_law_1456 dL_law_1458 (by decide) dL_law_1459 dL_law_1460 ?_
  refine L_argC (k := 2) hx hb hl rfl rfl hX hbl hbA hw.2.2.2 (by omega) hL9 rfl dL_law_1461 dL_law_1462 dL_law_1464 (by decide) dL_law_1465 dL_law_1466 ?_
  refine L_argC (k := 3) hx hb hl rfl rfl hX hbl hbA hw.2.2.2 (by omega) hL9 rfl dL_law_1467 dL_law_1468 dL_law_1470 (by decide) dL_law_1471 dL_law_1472 ?_
  refine L_callX S hK g hw (As := [.int (xs (i + 1)), .int (xs (i + 2)), .int (xs (i + 3))]) (rest := []) (mX11_weigh l E hL st f1) (cwV 3 S.2.2.2.2 gL_law_X11_weigh rfl rfl rfl (by decide +kernel) ⟨Nat.le_of_ble_eq_true rfl, Nat.le_of_ble_eq_true rfl⟩) rfl hl.1 rfl (Nat.le_of_ble_eq_true rfl) dL_law_1473 hrm (fun H locs hw => ?_)
  refine lv_aload_n hx hb dL_law_1476 rfl (lv_at hl 3 rfl) ?_
  refine L_argC (k := 1) hx hb hl rfl rfl hX hbl hbA hw.2.2.2 (by omega) hL9 rfl dL_law_1477 dL_law_1478 dL_law_1480 (by decide) dL_law_1481 dL_law_1482 ?_
  refine L_argC (k := 2) hx hb hl rfl rfl hX hbl hbA hw.2.2.2 (by omega) hL9 rfl dL_law_1483 dL_law_1484 dL_law_1486 (by decide) dL_law_1487 dL_law_1488 ?_
  refine L_argC (k := 3) hx hb hl rfl rfl hX hbl hbA hw.2.2.2 (by omega) hL9 rfl dL_law_1489 dL_law_1490 dL_law_1492 (by decide) dL_law_1493 dL_law_1494 ?_
  refine L_callM S hKM g hw (As := [.int (xs (i + 1)), .int (xs (i + 2)), .int (xs (i + 3))]) (rest := [.int r]) (mX12_weigh l EM hLM sm f2) (cwV 3 S.2.2.2.2 gL_law_X12_weigh rfl rfl rfl (by decide +kernel) ⟨Nat.le_of_ble_eq_true rfl, Nat.le_of_ble_eq_true rfl⟩) rfl hl.1 rfl (Nat.le_of_ble_eq_true rfl) dL_law_1495 hrm (fun H locs hw => ?_)
  refine lv_icmp_eq (tgt := 2036) hx hb dL_law_1498 (by decide) (fun _ => ?_) (fun hc => absurd rfl hc)
  exact kk x1 m1 H locs hR1 hw
set_option maxHeartbeats 4000000 in
set_option maxRecDepth 100000 in
theorem lawC_26 {p : Program} {l : Launch} {e : Jvm.Env} {s : State} {m : MethodId} {below : List Frame} {meth : Method} {c : Code} {E EM : XE} {oA h b L i cells slots : Nat} {aL : ClassId} {xs : Nat → Int32} {st sm : Sto} {w : Nat → Int64} {H : Heap} {locs : List Loc} {Q : State → Prop} {ls : Array Slot} (F : LawFix p l s m c E EM oA aL h b L xs) (hi : i + 9 ≤ L) (hl : lv_has ls 7 (LawV E EM oA b i)) (hR : Rel st sm) (hw : LSt E EM oA aL h st sm w s H locs) (hrm : cells ≤ 601024 ∧ slots ≤ 7293034) (kk : ∀ (st1 sm1 : Sto) (H1 : Heap) (locs1 : List Loc), Rel st1 sm1 → LSt E EM oA aL h st1 sm1 w s H1 locs1 → W p l e room_1 s m #[Value.ref b] below meth c H1 locs1 cells slots Q (F0 m 2036 ls [])) : W p l e room_1 s m #[Value.ref b] below meth c H locs cells slots Q (F0 m 1503 ls []) := by
  obtain ⟨hx, S, hK, hKM, g, hL, hLM, hX, hbl, hbA, hL9, _⟩ := F
  have hb := S.2.1
  obtain ⟨r, x1, m1, f1, f2, hR1⟩ := b_correct hR (xs (i + 1)) (xs (i + 2)) (xs (i + 3)) (xs (i + 4)) (xs (i + 5)) (xs (i + 6))
  refine lv_aload_n hx hb dL_law_1503 rfl (lv_at hl 2 rfl) ?_
  refine L_argC (k := 1) hx hb hl rfl rfl hX hbl hbA hw.2.2.2 (by omega) hL9 rfl dL_law_1504 dL_law_1505 dL_law_1507 (by decide) dL_law_1508 dL_law_1509 ?_
  refine L_argC (k := 2) hx hb hl rfl rfl hX hbl hbA hw.2.2.2 (by omega) hL9 rfl dL_law_1510 dL_law_1511 dL_law_1513 (by decide) dL_law_1514 dL_law_1515 ?_
  refine L_argC (k := 3) hx hb hl rfl rfl hX hbl hbA hw.2.2.2 (by omega) hL9 rfl dL_law_1516 dL_law_1517 dL_law_1519 (by decide) dL_law_1520 dL_law_1521 ?_
  refine L_argC (k := 4) hx hb hl rfl rfl hX hbl hbA hw.2.2.2 (by omega) hL9 rfl dL_law_1522 dL_law_1523 dL_law_1525 (by decide) dL_law_1526 dL_law_1527 ?_
  refine L_argC (k := 5) hx hb hl rfl rfl hX hbl hbA hw.2.2.2 (by omega) hL9 rfl dL_law_1528 dL_law_1529 dL_law_1531 (by decide) dL_law_1532 dL_law_1533 ?_
  refine L_argB (k := 6) hx hb hl rfl rfl hX hbl hbA hw.2.2.2 (by omega) hL9 rfl dL_law_1534 dL_law_1535 dL_law_1537 (by decide) dL_law_1539 dL_law_1540 ?_
  refine L_callX S hK g hw (As := [.int (xs (i + 1)), .int (xs (i + 2)), .int (xs (i + 3)), .int (xs (i + 4)), .int (xs (i + 5)), .int (xs (i + 6))]) (rest := []) (mX11_correct l E hL st f1) (cwV 6 S.2.2.2.2 gL_law_X11_correct rfl rfl rfl (by decide +kernel) ⟨Nat.le_of_ble_eq_true rfl, Nat.le_of_ble_eq_true rfl⟩) rfl hl.1 rfl (Nat.le_of_ble_eq_true rfl) dL_law_1541 hrm (fun H locs hw => ?_)
  refine lv_aload_n hx hb dL_law_1544 rfl (lv_at hl 3 rfl) ?_
  refine L_argC (k := 1) hx hb hl rfl rfl hX hbl hbA hw.2.2.2 (by omega) hL9 rfl dL_law_1545 dL_law_1546 dL_law_1548 (by decide) dL_law_1549 dL_law_1550 ?_
  refine L_argC (k := 2) hx hb hl rfl rfl hX hbl hbA hw.2.2.2 (by omega) hL9 rfl dL_law_1551 dL_law_1552 dL_law_1554 (by decide) dL_law_1555 dL_law_1556 ?_
  refine L_argC (k := 3) hx hb hl rfl rfl hX hbl hbA hw.2.2.2 (by omega) hL9 rfl dL_law_1557 dL_law_1558 dL_law_1560 (by decide) dL_law_1561 dL_law_1562 ?_
  refine L_argC (k := 4) hx hb hl rfl rfl hX hbl hbA hw.2.2.2 (by omega) hL9 rfl dL_law_1563 dL_law_1564 dL_law_1566 (by decide) dL_law_1567 dL_law_1568 ?_
  refine L_argC (k := 5) hx hb hl rfl rfl hX hbl hbA hw.2.2.2 (by omega) hL9 rfl dL_law_1569 dL_law_1570 dL_law_1572 (by decide) dL_law_1573 dL_law_1574 ?_
  refine L_argB (k := 6) hx hb hl rfl rfl hX hbl hbA hw.2.2.2 (by omega) hL9 rfl dL_law_1575 dL_law_1576 dL_law_1578 (by decide) dL_law_1580 dL_law_1581 ?_
  refine L_callM S hKM g hw (As := [.int (xs (i + 1)), .int (xs (i + 2)), .int (xs (i + 3)), .int (xs (i + 4)), .int (xs (i + 5)), .int (xs (i + 6))]) (rest := [.int r]) (mX12_correct l EM hLM sm f2) (cwV 6 S.2.2.2.2 gL_law_X12_correct rfl rfl rfl (by decide +kernel) ⟨Nat.le_of_ble_eq_true rfl, Nat.le_of_ble_eq_true rfl⟩) rfl hl.1 rfl (Nat.le_of_ble_eq_true rfl) dL_law_1582 hrm (fun H locs hw => ?_)
  refine lv_icmp_eq (tgt := 2036) hx hb dL_law_1585 (by decide) (fun _ => ?_) (fun hc => absurd rfl hc)
  exact kk x1 m1 H locs hR1 hw
set_option maxHeartbeats 4000000 in
set_option maxRecDepth 100000 in
theorem lawC_27 {p : Program} {l : Launch} {e : Jvm.Env} {s : State} {m : MethodId} {below : List Frame} {meth : Method} {c : Code} {E EM : XE} {oA h b L i cells slots : Nat} {aL : ClassId} {xs : Nat → Int32} {st sm : Sto} {w : Nat → Int64} {H : Heap} {locs : List Loc} {Q : State → Prop} {ls : Array Slot} (F : LawFix p l s m c E EM oA aL h b L xs) (hi : i + 9 ≤ L) (hl : lv_has ls 7 (LawV E EM oA b i)) (hR : Rel st sm) (hw : LSt E EM oA aL h st sm w s H locs) (hrm : cells ≤ 601024 ∧ slots ≤ 7293034) (kk : ∀ (st1 sm1 : Sto) (H1 : Heap) (locs1 : List Loc), Rel st1 sm1 → LSt E EM oA aL h st1 sm1 w s H1 locs1 → W p l e room_1 s m #[Value.ref b] below meth c H1 locs1 cells slots Q (F0 m 2036 ls [])) : W p l e room_1 s m #[Value.ref b] below meth c H locs cells slots Q (F0 m 1590 ls []) := by
  obtain ⟨hx, S, hK, hKM, g, hL, hLM, hX, hbl, hbA, hL9, _⟩ := F
  have hb := S.2.1
  obtain ⟨r, m1, f1, f2, hR1⟩ := b_addition hR (xs (i + 1))
  refine lv_aload_n hx hb dL_law_1590 rfl (lv_at hl 2 rfl) ?_
  refine L_argC (k := 1) hx hb hl rfl rfl hX hbl hbA hw.2.2.2 (by omega) hL9 rfl dL_law_1591 dL_law_1592 dL_law_1594 (by decide) dL_law_1595 dL_law_1596 ?_
  refine L_callX S hK g hw (As := [.int (xs (i + 1))]) (rest := []) (mX11_addition l E hL st f1) (cwV 1 S.2.2.2.2 gL_law_X11_addition rfl rfl rfl (by decide +kernel) ⟨Nat.le_of_ble_eq_true rfl, Nat.le_of_ble_eq_true rfl⟩) rfl hl.1 rfl (Nat.le_of_ble_eq_true rfl) dL_law_1597 hrm (fun H locs hw => ?_)
  refine lv_aload_n hx hb dL_law_1600 rfl (lv_at hl 3 rfl) ?_
  refine L_argC (k := 1) hx hb hl rfl rfl hX hbl hbA hw.2.2.2 (by omega) hL9 rfl dL_law_1601 dL_law_1602 dL_law_1604 (by decide) dL_law_1605 dL_law_1606 ?_
  refine L_callM S hKM g hw (As := [.int (xs (i + 1))]) (rest := [.int r]) (mX12_addition l EM hLM sm f2) (cwV 1 S.2.2.2.2 gL_law_X12_addition rfl rfl rfl (by decide +kernel) ⟨Nat.le_of_ble_eq_true rfl, Nat.le_of_ble_eq_true rfl⟩) rfl hl.1 rfl (Nat.le_of_ble_eq_true rfl) dL_law_1607 hrm (fun H locs hw => ?_)
  refine lv_icmp_eq (tgt := 2036) hx hb dL_law_1610 (by decide) (fun _ => ?_) (fun hc => absurd rfl hc)
  exact kk st m1 H locs hR1 hw
set_option maxHeartbeats 4000000 in
set_option maxRecDepth 100000 in
theorem lawC_28 {p : Program} {l : Launch} {e : Jvm.Env} {s : State} {m : MethodId} {below : List Frame} {meth : Method} {c : Code} {E EM : XE} {oA h b L i cells slots : Nat} {aL : ClassId} {xs : Nat → Int32} {st sm : Sto} {w : Nat → Int64} {H : Heap} {locs : List Loc} {Q : State → Prop} {ls : Array Slot} (F : LawFix p l s m c E EM oA aL h b L xs) (hi : i + 9 ≤ L) (hl : lv_has ls 7 (LawV E EM oA b i)) (hR : Rel st sm) (hw : LSt E EM oA aL h st sm w s H locs) (hrm : cells ≤ 601024 ∧ slots ≤ 7293034) (kk : ∀ (st1 sm1 : Sto) (H1 : Heap) (locs1 : List Loc), Rel st1 sm1 → LSt E EM oA aL h st1 sm1 w s H1 locs1 → W p l e room_1 s m #[Value.ref b] below meth c H1 locs1 cells slots Q (F0 m 2036 ls [])) : W p l e room_1 s m #[Value.ref b] below meth c H locs cells slots Q (F0 m 1615 ls []) := by
  obtain ⟨hx, S, hK, hKM, g, hL, hLM, hX, hbl, hbA, hL9, _⟩ := F
  have hb := S.2.1
  obtain ⟨r, x1, m1, f1, f2, hR1⟩ := b_measured hR (xs (i + 1))
  refine lv_aload_n hx hb dL_law_1615 rfl (lv_at hl 2 rfl) ?_
  refine L_argC (k := 1) hx hb hl rfl rfl hX hbl hbA hw.2.2.2 (by omega) hL9 rfl dL_law_1616 dL_law_1617 dL_law_1619 (by decide) dL_law_1620 dL_law_1621 ?_
  refine L_callX S hK g hw (As := [.int (xs (i + 1))]) (rest := []) (mX11_measured l E hL st f1) (cwV 1 S.2.2.2.2 gL_law_X11_measured rfl rfl rfl (by decide +kernel) ⟨Nat.le_of_ble_eq_true rfl, Nat.le_of_ble_eq_true rfl⟩) rfl hl.1 rfl (Nat.le_of_ble_eq_true rfl) dL_law_1622 hrm (fun H locs hw => ?_)
  refine lv_aload_n hx hb dL_law_1625 rfl (lv_at hl 3 rfl) ?_
  refine L_argC (k := 1) hx hb hl rfl rfl hX hbl hbA hw.2.2.2 (by omega) hL9 rfl dL_law_1626 dL_law_1627 dL_law_1629 (by decide) dL_law_1630 dL_law_1631 ?_
  refine L_callM S hKM g hw (As := [.int (xs (i + 1))]) (rest := [.int r]) (mX12_measured l EM hLM sm f2) (cwV 1 S.2.2.2.2 gL_law_X12_measured rfl rfl rfl (by decide +kernel) ⟨Nat.le_of_ble_eq_true rfl, Nat.le_of_ble_eq_true rfl⟩) rfl hl.1 rfl (Nat.le_of_ble_eq_true rfl) dL_law_1632 hrm (fun H locs hw => ?_)
  refine lv_icmp_eq (tgt := 2036) hx hb dL_law_1635 (by decide) (fun _ => ?_) (fun hc => absurd rfl hc)
  exact kk x1 m1 H locs hR1 hw
set_option maxHeartbeats 4000000 in
set_option maxRecDepth 100000 in
theorem lawC_29 {p : Program} {l : Launch} {e : Jvm.Env} {s : State} {m : MethodId} {below : List Frame} {meth : Method} {c : Code} {E EM : XE} {oA h b L i cells slots : Nat} {aL : ClassId} {xs : Nat → Int32} {st sm : Sto} {w : Nat → Int64} {H : Heap} {locs : List Loc} {Q : State → Prop} {ls : Array Slot} (F : LawFix p l s m c E EM oA aL h b L xs) (hi : i + 9 ≤ L) (hl : lv_has ls 7 (LawV E EM oA b i)) (hR : Rel st sm) (hw : LSt E EM oA aL h st sm w s H locs) (hrm : cells ≤ 601024 ∧ slots ≤ 7293034) (kk : ∀ (st1 sm1 : Sto) (H1 : Heap) (locs1 : List Loc), Rel st1 sm1 → LSt E EM oA aL h st1 sm1 w s H1 locs1 → W p l e room_1 s m #[Value.ref b] below meth c H1 locs1 cells slots Q (F0 m 2036 ls [])) : W p l e room_1 s m #[Value.ref b] below meth c H locs cells slots Q (F0 m 1640 ls []) := by
  obtain ⟨hx, S, hK, hKM, g, hL, hLM, hX, hbl, hbA, hL9, _⟩ := F
  have hb := S.2.1
  obtain ⟨r, x1, m1, f1, f2, hR1⟩ := b_passes hR (xs (i + 1)) (xs (i + 2))
  refine lv_aload_n hx hb dL_law_1640 rfl (lv_at hl 2 rfl) ?_
  refine L_argC (k := 1) hx hb hl rfl rfl hX hbl hbA hw.2.2.2 (by omega) hL9 rfl dL_law_1641 dL_law_1642 dL_law_1644 (by decide) dL_law_1645 dL_law_1646 ?_
  refine L_argC (k := 2) hx hb hl rfl rfl hX hbl hbA hw.2.2.2 (by omega) hL9 rfl dL_law_1647 dL_law_1648 dL_law_1650 (by decide) dL_law_1651 dL_law_1652 ?_
  refine L_callX S hK g hw (As := [.int (xs (i + 1)), .int (xs (i + 2))]) (rest := []) (mX11_passes l E hL st f1) (cwV 2 S.2.2.2.2 gL_law_X11_passes rfl rfl rfl (by decide +kernel) ⟨Nat.le_of_ble_eq_true rfl, Nat.le_of_ble_eq_true rfl⟩) rfl hl.1 rfl (Nat.le_of_ble_eq_true rfl) dL_law_1653 hrm (fun H locs hw => ?_)
  refine lv_aload_n hx hb dL_law_1656 rfl (lv_at hl 3 rfl) ?_
  refine L_argC (k := 1) hx hb hl rfl rfl hX hbl hbA hw.2.2.2 (by omega) hL9 rfl dL_law_1657 dL_law_1658 dL_law_1660 (by decide) dL_law_1661 dL_law_1662 ?_
  refine L_argC (k := 2) hx hb hl rfl rfl hX hbl hbA hw.2.2.2 (by omega) hL9 rfl dL_law_1663 dL_law_1664 dL_law_1666 (by decide) dL_law_1667 dL_law_1668 ?_
  refine L_callM S hKM g hw (As := [.int (xs (i + 1)), .int (xs (i + 2))]) (rest := [.int r]) (mX12_passes l EM hLM sm f2) (cwV 2 S.2.2.2.2 gL_law_X12_passes rfl rfl rfl (by decide +kernel) ⟨Nat.le_of_ble_eq_true rfl, Nat.le_of_ble_eq_true rfl⟩) rfl hl.1 rfl (Nat.le_of_ble_eq_true rfl) dL_law_1669 hrm (fun H locs hw => ?_)
  refine lv_icmp_eq (tgt := 2036) hx hb dL_law_1672 (by decide) (fun _ => ?_) (fun hc => absurd rfl hc)
  exact kk x1 m1 H locs hR1 hw
set_option maxHeartbeats 4000000 in
set_option maxRecDepth 100000 in
theorem lawC_30 {p : Program} {l : Launch} {e : Jvm.Env} {s : State} {m : MethodId} {below : List Frame} {meth : Method} {c : Code} {E EM : XE} {oA h b L i cells slots : Nat} {aL : ClassId} {xs : Nat → Int32} {st sm : Sto} {w : Nat → Int64} {H : Heap} {locs : List Loc} {Q : State → Prop} {ls : Array Slot} (F : LawFix p l s m c E EM oA aL h b L xs) (hi : i + 9 ≤ L) (hl : lv_has ls 7 (LawV E EM oA b i)) (hR : Rel st sm) (hw : LSt E EM oA aL h st sm w s H locs) (hrm : cells ≤ 601024 ∧ slots ≤ 7293034) (kk : ∀ (st1 sm1 : Sto) (H1 : Heap) (locs1 : List Loc), Rel st1 sm1 → LSt E EM oA aL h st1 sm1 w s H1 locs1 → W p l e room_1 s m #[Value.ref b] below meth c H1 locs1 cells slots Q (F0 m 2036 ls [])) : W p l e room_1 s m #[Value.ref b] below meth c H locs cells slots Q (F0 m 1677 ls []) := by
  obtain ⟨hx, S, hK, hKM, g, hL, hLM, hX, hbl, hbA, hL9, _⟩ := F
  have hb := S.2.1
  obtain ⟨r, m1, f1, f2, hR1⟩ := b_told hR (xs (i + 1)) (xs (i + 2))
  refine lv_aload_n hx hb dL_law_1677 rfl (lv_at hl 2 rfl) ?_
  refine L_argC (k := 1) hx hb hl rfl rfl hX hbl hbA hw.2.2.2 (by omega) hL9 rfl dL_law_1678 dL_law_1679 dL_law_1681 (by decide) dL_law_1682 dL_law_1683 ?_
  refine L_argC (k := 2) hx hb hl rfl rfl hX hbl hbA hw.2.2.2 (by omega) hL9 rfl dL_law_1684 dL_law_1685 dL_law_1687 (by decide) dL_law_1688 dL_law_1689 ?_
  refine L_callX S hK g hw (As := [.int (xs (i + 1)), .int (xs (i + 2))]) (rest := []) (mX11_told l E hL st f1) (cwV 2 S.2.2.2.2 gL_law_X11_told rfl rfl rfl (by decide +kernel) ⟨Nat.le_of_ble_eq_true rfl, Nat.le_of_ble_eq_true rfl⟩) rfl hl.1 rfl (Nat.le_of_ble_eq_true rfl) dL_law_1690 hrm (fun H locs hw => ?_)
  refine lv_aload_n hx hb dL_law_1693 rfl (lv_at hl 3 rfl) ?_
  refine L_argC (k := 1) hx hb hl rfl rfl hX hbl hbA hw.2.2.2 (by omega) hL9 rfl dL_law_1694 dL_law_1695 dL_law_1697 (by decide) dL_law_1698 dL_law_1699 ?_
  refine L_argC (k := 2) hx hb hl rfl rfl hX hbl hbA hw.2.2.2 (by omega) hL9 rfl dL_law_1700 dL_law_1701 dL_law_1703 (by decide) dL_law_1704 dL_law_1705 ?_
  refine L_callM S hKM g hw (As := [.int (xs (i + 1)), .int (xs (i + 2))]) (rest := [.int r]) (mX12_told l EM hLM sm f2) (cwV 2 S.2.2.2.2 gL_law_X12_told rfl rfl rfl (by decide +kernel) ⟨Nat.le_of_ble_eq_true rfl, Nat.le_of_ble_eq_true rfl⟩) rfl hl.1 rfl (Nat.le_of_ble_eq_true rfl) dL_law_1706 hrm (fun H locs hw => ?_)
  refine lv_icmp_eq (tgt := 2036) hx hb dL_law_1709 (by decide) (fun _ => ?_) (fun hc => absurd rfl hc)
  exact kk st m1 H locs hR1 hw
set_option maxHeartbeats 4000000 in
set_option maxRecDepth 100000 in
theorem lawC_31 {p : Program} {l : Launch} {e : Jvm.Env} {s : State} {m : MethodId} {below : List Frame} {meth : Method} {c : Code} {E EM : XE} {oA h b L i cells slots : Nat} {aL : ClassId} {xs : Nat → Int32} {st sm : Sto} {w : Nat → Int64} {H : Heap} {locs : List Loc} {Q : State → Prop} {ls : Array Slot} (F : LawFix p l s m c E EM oA aL h b L xs) (hi : i + 9 ≤ L) (hl : lv_has ls 7 (LawV E EM oA b i)) (hR : Rel st sm) (hw : LSt E EM oA aL h st sm w s H locs) (hrm : cells ≤ 601024 ∧ slots ≤ 7293034) (kk : ∀ (st1 sm1 : Sto) (H1 : Heap) (locs1 : List Loc), Rel st1 sm1 → LSt E EM oA aL h st1 sm1 w s H1 locs1 → W p l e room_1 s m #[Value.ref b] below meth c H1 locs1 cells slots Q (F0 m 2036 ls [])) : W p l e room_1 s m #[Value.ref b] below meth c H locs cells slots Q (F0 m 1714 ls []) := by
  obtain ⟨hx, S, hK, hKM, g, hL, hLM, hX, hbl, hbA, hL9, _⟩ := F
  have hb := S.2.1
  obtain ⟨r, m1, f1, f2, hR1⟩ := b_weighed hR (xs (i + 1)) (xs (i + 2)) (if xs (i + 3) = 0 then 0 else 1)
  refine lv_aload_n hx hb dL_law_1714 rfl (lv_at hl 2 rfl) ?_
  refine L_argC (k := 1) hx hb hl rfl rfl hX hbl hbA hw.2.2.2 (by omega) hL9 rfl dL_law_1715 dL_law_1716 dL_law_1718 (by decide) dL_law_1719 dL_law_1720 ?_
  refine L_argC (k := 2) hx hb hl rfl rfl hX hbl hbA hw.2.2.2 (by omega) hL9 rfl dL_law_1721 dL_law_1722 dL_law_1724 (by decide) dL_law_1725 dL_law_1726 ?_
  refine L_argC (k := 3) hx hb hl rfl rfl hX hbl hbA hw.2.2.2 (by omega) hL9 rfl dL_law_1727 dL_law_1728 dL_law_1730 (by decide) dL_law_1731 dL_law_1732 ?_
  refine L_bool (pz := 1740) hx hb dL_law_1733 (by decide) dL_law_1736 dL_law_1737 (by decide) dL_law_1740 ?_
  refine L_callX S hK g hw (As := [.int (xs (i + 1)), .int (xs (i + 2)), .int (if xs (i + 3) = 0 then 0 else 1)]) (rest := []) (mX11_weighed l E hL st f1) (cwV 3 S.2.2.2.2 gL_law_X11_weighed rfl rfl rfl (by decide +kernel) ⟨Nat.le_of_ble_eq_true rfl, Nat.le_of_ble_eq_true rfl⟩) rfl hl.1 rfl (Nat.le_of_ble_eq_true rfl) dL_law_1741 hrm (fun H locs hw => ?_)
  refine lv_aload_n hx hb dL_law_1744 rfl (lv_at hl 3 rfl) ?_
  refine L_argC (k := 1) hx hb hl rfl rfl hX hbl hbA hw.2.2.2 (by omega) hL9 rfl dL_law_1745 dL_law_1746 dL_law_1748 (by decide) dL_law_1749 dL_law_1750 ?_
  refine L_argC (k := 2) hx hb hl rfl rfl hX hbl hbA hw.2.2.2 (by omega) hL9 rfl dL_law_1751 dL_law_1752 dL_law_1754 (by decide) dL_law_1755 dL_law_1756 ?_
  refine L_argC (k := 3) hx hb hl rfl rfl hX hbl hbA hw.2.2.2 (by omega) hL9 rfl dL_law_1757 dL_law_1758 dL_law_1760 (by decide) dL_law_1761 dL_law_1762 ?_
  refine L_bool (pz := 1770) hx hb dL_law_1763 (by decide) dL_law_1766 dL_law_1767 (by decide) dL_law_1770 ?_
  refine L_callM S hKM g hw (As := [.int (xs (i + 1)), .int (xs (i + 2)), .int (if xs (i + 3) = 0 then 0 else 1)]) (rest := [.int r]) (mX12_weighed l EM hLM sm f2) (cwV 3 S.2.2.2.2 gL_law_X12_weighed rfl rfl rfl (by decide +kernel) ⟨Nat.le_of_ble_eq_true rfl, Nat.le_of_ble_eq_true rfl⟩) rfl hl.1 rfl (Nat.le_of_ble_eq_true rfl) dL_law_1771 hrm (fun H locs hw => ?_)
  refine lv_icmp_eq (tgt := 2036) hx hb dL_law_1774 (by decide) (fun _ => ?_) (fun hc => absurd rfl hc)
  exact kk st m1 H locs hR1 hw
set_option maxHeartbeats 4000000 in
set_option maxRecDepth 100000 in
theorem lawC_32 {p : Program} {l : Launch} {e : Jvm.Env} {s : State} {m : MethodId} {below : List Frame} {meth : Method} {c : Code} {E EM : XE} {oA h b L i cells slots : Nat} {aL : ClassId} {xs : Nat → Int32} {st sm : Sto} {w : Nat → Int64} {H : Heap} {locs : List Loc} {Q : State → Prop} {ls : Array Slot} (F : LawFix p l s m c E EM oA aL h b L xs) (hi : i + 9 ≤ L) (hl : lv_has ls 7 (LawV E EM oA b i)) (hR : Rel st sm) (hw : LSt E EM oA aL h st sm w s H locs) (hrm : cells ≤ 601024 ∧ slots ≤ 7293034) (kk : ∀ (st1 sm1 : Sto) (H1 : Heap) (locs1 : List Loc), Rel st1 sm1 → LSt E EM oA aL h st1 sm1 w s H1 locs1 → W p l e room_1 s m #[Value.ref b] below meth c H1 locs1 cells slots Q (F0 m 2036 ls [])) : W p l e room_1 s m #[Value.ref b] below meth c H locs cells slots Q (F0 m 1779 ls []) := by
  obtain ⟨hx, S, hK, hKM, g, hL, hLM, hX, hbl, hbA, hL9, _⟩ := F
  have hb := S.2.1
  obtain ⟨r, x1, m1, f1, f2, hR1⟩ := b_remeasure hR (xs (i + 1))
  refine lv_aload_n hx hb dL_law_1779 rfl (lv_at hl 2 rfl) ?_
  refine L_argC (k := 1) hx hb hl rfl rfl hX hbl hbA hw.2.2.2 (by omega) hL9 rfl dL_law_1780 dL_law_1781 dL_law_1783 (by decide) dL_law_1784 dL_law_1785 ?_
  refine L_callX S hK g hw (As := [.int (xs (i + 1))]) (rest := []) (mX11_remeasure l E hL st f1) (cwV 1 S.2.2.2.2 gL_law_X11_remeasure rfl rfl rfl (by decide +kernel) ⟨Nat.le_of_ble_eq_true rfl, Nat.le_of_ble_eq_true rfl⟩) rfl hl.1 rfl (Nat.le_of_ble_eq_true rfl) dL_law_1786 hrm (fun H locs hw => ?_)
  refine lv_aload_n hx hb dL_law_1789 rfl (lv_at hl 3 rfl) ?_
  refine L_argC (k := 1) hx hb hl rfl rfl hX hbl hbA hw.2.2.2 (by omega) hL9 rfl dL_law_1790 dL_law_1791 dL_law_1793 (by decide) dL_law_1794 dL_law_1795 ?_
  refine L_callM S hKM g hw (As := [.int (xs (i + 1))]) (rest := [.int r]) (mX12_remeasure l EM hLM sm f2) (cwV 1 S.2.2.2.2 gL_law_X12_remeasure rfl rfl rfl (by decide +kernel) ⟨Nat.le_of_ble_eq_true rfl, Nat.le_of_ble_eq_true rfl⟩) rfl hl.1 rfl (Nat.le_of_ble_eq_true rfl) dL_law_1796 hrm (fun H locs hw => ?_)
  refine lv_icmp_eq (tgt := 2036) hx hb dL_law_1799 (by decide) (fun _ => ?_) (fun hc => absurd rfl hc)
  exact kk x1 m1 H locs hR1 hw
set_option maxHeartbeats 4000000 in
set_option maxRecDepth 100000 in
theorem lawC_33 {p : Program} {l : Launch} {e : Jvm.Env} {s : State} {m : MethodId} {below : List Frame} {meth : Method} {c : Code} {E EM : XE} {oA h b L i cells slots : Nat} {aL : ClassId} {xs : Nat → Int32} {st sm : Sto} {w : Nat → Int64} {H : Heap} {locs : List Loc} {Q : State → Prop} {ls : Array Slot} (F : LawFix p l s m c E EM oA aL h b L xs) (hi : i + 9 ≤ L) (hl : lv_has ls 7 (LawV E EM oA b i)) (hR : Rel st sm) (hw : LSt E EM oA aL h st sm w s H locs) (hrm : cells ≤ 601024 ∧ slots ≤ 7293034) (kk : ∀ (st1 sm1 : Sto) (H1 : Heap) (locs1 : List Loc), Rel st1 sm1 → LSt E EM oA aL h st1 sm1 w s H1 locs1 → W p l e room_1 s m #[Value.ref b] below meth c H1 locs1 cells slots Q (F0 m 2036 ls [])) : W p l e room_1 s m #[Value.ref b] below meth c H locs cells slots Q (F0 m 1804 ls []) := by
  obtain ⟨hx, S, hK, hKM, g, hL, hLM, hX, hbl, hbA, hL9, _⟩ := F
  have hb := S.2.1
  obtain ⟨r, m1, f1, f2, hR1⟩ := b_drift hR (xs (i + 1))
  refine lv_aload_n hx hb dL_law_1804 rfl (lv_at hl 2 rfl) ?_
  refine L_argC (k := 1) hx hb hl rfl rfl hX hbl hbA hw.2.2.2 (by omega) hL9 rfl dL_law_1805 dL_law_1806 dL_law_1808 (by decide) dL_law_1809 dL_law_1810 ?_
  refine L_callX S hK g hw (As := [.int (xs (i + 1))]) (rest := []) (mX11_drift l E hL st f1) (cwV 1 S.2.2.2.2 gL_law_X11_drift rfl rfl rfl (by decide +kernel) ⟨Nat.le_of_ble_eq_true rfl, Nat.le_of_ble_eq_true rfl⟩) rfl hl.1 rfl (Nat.le_of_ble_eq_true rfl) dL_law_1811 hrm (fun H locs hw => ?_)
  refine lv_aload_n hx hb dL_law_1814 rfl (lv_at hl 3 rfl) ?_
  refine L_argC (k := 1) hx hb hl rfl rfl hX hbl hbA hw.2.2.2 (by omega) hL9 rfl dL_law_1815 dL_law_1816 dL_law_1818 (by decide) dL_law_1819 dL_law_1820 ?_
  refine L_callM S hKM g hw (As := [.int (xs (i + 1))]) (rest := [.int r]) (mX12_drift l EM hLM sm f2) (cwV 1 S.2.2.2.2 gL_law_X12_drift rfl rfl rfl (by decide +kernel) ⟨Nat.le_of_ble_eq_true rfl, Nat.le_of_ble_eq_true rfl⟩) rfl hl.1 rfl (Nat.le_of_ble_eq_true rfl) dL_law_1821 hrm (fun H locs hw => ?_)
  refine lv_icmp_eq (tgt := 2036) hx hb dL_law_1824 (by decide) (fun _ => ?_) (fun hc => absurd rfl hc)
  exact kk st m1 H locs hR1 hw
set_option maxHeartbeats 4000000 in
set_option maxRecDepth 100000 in
theorem lawC_34 {p : Program} {l : Launch} {e : Jvm.Env} {s : State} {m : MethodId} {below : List Frame} {meth : Method} {c : Code} {E EM : XE} {oA h b L i cells slots : Nat} {aL : ClassId} {xs : Nat → Int32} {st sm : Sto} {w : Nat → Int64} {H : Heap} {locs : List Loc} {Q : State → Prop} {ls : Array Slot} (F : LawFix p l s m c E EM oA aL h b L xs) (hi : i + 9 ≤ L) (hl : lv_has ls 7 (LawV E EM oA b i)) (hR : Rel st sm) (hw : LSt E EM oA aL h st sm w s H locs) (hrm : cells ≤ 601024 ∧ slots ≤ 7293034) (kk : ∀ (st1 sm1 : Sto) (H1 : Heap) (locs1 : List Loc), Rel st1 sm1 → LSt E EM oA aL h st1 sm1 w s H1 locs1 → W p l e room_1 s m #[Value.ref b] below meth c H1 locs1 cells slots Q (F0 m 2036 ls [])) : W p l e room_1 s m #[Value.ref b] below meth c H locs cells slots Q (F0 m 1829 ls []) := by
  obtain ⟨hx, S, hK, hKM, g, hL, hLM, hX, hbl, hbA, hL9, _⟩ := F
  have hb := S.2.1
  obtain ⟨r, x1, m1, f1, f2, hR1⟩ := b_pack hR (xs (i + 1)) (xs (i + 2))
  refine lv_aload_n hx hb dL_law_1829 rfl (lv_at hl 2 rfl) ?_
  refine L_argC (k := 1) hx hb hl rfl rfl hX hbl hbA hw.2.2.2 (by omega) hL9 rfl dL_law_1830 dL_law_1831 dL_law_1833 (by decide) dL_law_1834 dL_law_1835 ?_
  refine L_argC (k := 2) hx hb hl rfl rfl hX hbl hbA hw.2.2.2 (by omega) hL9 rfl dL_law_1836 dL_law_1837 dL_law_1839 (by decide) dL_law_1840 dL_law_1841 ?_
  refine L_callX S hK g hw (As := [.int (xs (i + 1)), .int (xs (i + 2))]) (rest := []) (mX11_pack l E hL st f1) (cwV 2 S.2.2.2.2 gL_law_X11_pack rfl rfl rfl (by decide +kernel) ⟨Nat.le_of_ble_eq_true rfl, Nat.le_of_ble_eq_true rfl⟩) rfl hl.1 rfl (Nat.le_of_ble_eq_true rfl) dL_law_1842 hrm (fun H locs hw => ?_)
  refine lv_aload_n hx hb dL_law_1845 rfl (lv_at hl 3 rfl) ?_
  refine L_argC (k := 1) hx hb hl rfl rfl hX hbl hbA hw.2.2.2 (by omega) hL9 rfl dL_law_1846 dL_law_1847 dL_law_1849 (by decide) dL_law_1850 dL_law_1851 ?_
  refine L_argC (k := 2) hx hb hl rfl rfl hX hbl hbA hw.2.2.2 (by omega) hL9 rfl dL_law_1852 dL_law_1853 dL_law_1855 (by decide) dL_law_1856 dL_law_1857 ?_
  refine L_callM S hKM g hw (As := [.int (xs (i + 1)), .int (xs (i + 2))]) (rest := [.int r]) (mX12_pack l EM hLM sm f2) (cwV 2 S.2.2.2.2 gL_law_X12_pack rfl rfl rfl (by decide +kernel) ⟨Nat.le_of_ble_eq_true rfl, Nat.le_of_ble_eq_true rfl⟩) rfl hl.1 rfl (Nat.le_of_ble_eq_true rfl) dL_law_1858 hrm (fun H locs hw => ?_)
  refine lv_icmp_eq (tgt := 2036) hx hb dL_law_1861 (by decide) (fun _ => ?_) (fun hc => absurd rfl hc)
  exact kk x1 m1 H locs hR1 hw
set_option maxHeartbeats 4000000 in
set_option maxRecDepth 100000 in
theorem lawC_36 {p : Program} {l : Launch} {e : Jvm.Env} {s : State} {m : MethodId} {below : List Frame} {meth : Method} {c : Code} {E EM : XE} {oA h b L i cells slots : Nat} {aL : ClassId} {xs : Nat → Int32} {st sm : Sto} {w : Nat → Int64} {H : Heap} {locs : List Loc} {Q : State → Prop} {ls : Array Slot} (F : LawFix p l s m c E EM oA aL h b L xs) (hi : i + 9 ≤ L) (hl : lv_has ls 7 (LawV E EM oA b i)) (hR : Rel st sm) (hw : LSt E EM oA aL h st sm w s H locs) (hrm : cells ≤ 601024 ∧ slots ≤ 7293034) (kk : ∀ (st1 sm1 : Sto) (H1 : Heap) (locs1 : List Loc), Rel st1 sm1 → LSt E EM oA aL h st1 sm1 w s H1 locs1 → W p l e room_1 s m #[Value.ref b] below meth c H1 locs1 cells slots Q (F0 m 2036 ls [])) : W p l e room_1 s m #[Value.ref b] below meth c H locs cells slots Q (F0 m 1922 ls []) := by
  obtain ⟨hx, S, hK, hKM, g, hL, hLM, hX, hbl, hbA, hL9, _⟩ := F
  have hb := S.2.1
  obtain ⟨r, x1, m1, f1, f2, hR1⟩ := b_letter hR (xs (i + 1)) (xs (i + 2))
  refine lv_aload_n hx hb dL_law_1922 rfl (lv_at hl 2 rfl) ?_
  refine L_argC (k := 1) hx hb hl rfl rfl hX hbl hbA hw.2.2.2 (by omega) hL9 rfl dL_law_1923 dL_law_1924 dL_law_1926 (by decide) dL_law_1927 dL_law_1928 ?_
  refine L_argC (k := 2) hx hb hl rfl rfl hX hbl hbA hw.2.2.2 (by omega) hL9 rfl dL_law_1929 dL_law_1930 dL_law_1932 (by decide) dL_law_1933 dL_law_1934 ?_
  refine L_callX S hK g hw (As := [.int (xs (i + 1)), .int (xs (i + 2))]) (rest := []) (mX11_letter l E hL st f1) (cwV 2 S.2.2.2.2 gL_law_X11_letter rfl rfl rfl (by decide +kernel) ⟨Nat.le_of_ble_eq_true rfl, Nat.le_of_ble_eq_true rfl⟩) rfl hl.1 rfl (Nat.le_of_ble_eq_true rfl) dL_law_1935 hrm (fun H locs hw => ?_)
  refine lv_aload_n hx hb dL_law_1938 rfl (lv_at hl 3 rfl) ?_
  refine L_argC (k := 1) hx hb hl rfl rfl hX hbl hbA hw.2.2.2 (by omega) hL9 rfl dL_law_1939 dL_law_1940 dL_law_1942 (by decide) dL_law_1943 dL_law_1944 ?_
  refine L_argC (k := 2) hx hb hl rfl rfl hX hbl hbA hw.2.2.2 (by omega) hL9 rfl dL_law_1945 dL_law_1946 dL_law_1948 (by decide) dL_law_1949 dL_law_1950 ?_
  refine L_callM S hKM g hw (As := [.int (xs (i + 1)), .int (xs (i + 2))]) (rest := [.int r]) (mX12_letter l EM hLM sm f2) (cwV 2 S.2.2.2.2 gL_law_X12_letter rfl rfl rfl (by decide +kernel) ⟨Nat.le_of_ble_eq_true rfl, Nat.le_of_ble_eq_true rfl⟩) rfl hl.1 rfl (Nat.le_of_ble_eq_true rfl) dL_law_1951 hrm (fun H locs hw => ?_)
  refine lv_icmp_eq (tgt := 2036) hx hb dL_law_1954 (by decide) (fun _ => ?_) (fun hc => absurd rfl hc)
  exact kk x1 m1 H locs hR1 hw
set_option maxHeartbeats 4000000 in
set_option maxRecDepth 100000 in
theorem lawC_37 {p : Program} {l : Launch} {e : Jvm.Env} {s : State} {m : MethodId} {below : List Frame} {meth : Method} {c : Code} {E EM : XE} {oA h b L i cells slots : Nat} {aL : ClassId} {xs : Nat → Int32} {st sm : Sto} {w : Nat → Int64} {H : Heap} {locs : List Loc} {Q : State → Prop} {ls : Array Slot} (F : LawFix p l s m c E EM oA aL h b L xs) (hi : i + 9 ≤ L) (hl : lv_has ls 7 (LawV E EM oA b i)) (hR : Rel st sm) (hw : LSt E EM oA aL h st sm w s H locs) (hrm : cells ≤ 601024 ∧ slots ≤ 7293034) (kk : ∀ (st1 sm1 : Sto) (H1 : Heap) (locs1 : List Loc), Rel st1 sm1 → LSt E EM oA aL h st1 sm1 w s H1 locs1 → W p l e room_1 s m #[Value.ref b] below meth c H1 locs1 cells slots Q (F0 m 2036 ls [])) : W p l e room_1 s m #[Value.ref b] below meth c H locs cells slots Q (F0 m 1959 ls []) := by
  obtain ⟨hx, S, hK, hKM, g, hL, hLM, hX, hbl, hbA, hL9, _⟩ := F
  have hb := S.2.1
  obtain ⟨r, x1, m1, f1, f2, hR1⟩ := b_post hR
  refine lv_aload_n hx hb dL_law_1959 rfl (lv_at hl 2 rfl) ?_
  refine L_callX S hK g hw (As := []) (rest := []) (mX11_post l E hL st f1) (cwV 0 S.2.2.2.2 gL_law_X11_post rfl rfl rfl (by decide +kernel) ⟨Nat.le_of_ble_eq_true rfl, Nat.le_of_ble_eq_true rfl⟩) rfl hl.1 rfl (Nat.le_of_ble_eq_true rfl) dL_law_1960 hrm (fun H locs hw => ?_)
  refine lv_aload_n hx hb dL_law_1963 rfl (lv_at hl 3 rfl) ?_
  refine L_callM S hKM g hw (As := []) (rest := [.int r]) (mX12_post l EM hLM sm f2) (cwV 0 S.2.2.2.2 gL_law_X12_post rfl rfl rfl (by decide +kernel) ⟨Nat.le_of_ble_eq_true rfl, Nat.le_of_ble_eq_true rfl⟩) rfl hl.1 rfl (Nat.le_of_ble_eq_true rfl) dL_law_1964 hrm (fun H locs hw => ?_)
  refine lv_icmp_eq (tgt := 2036) hx hb dL_law_1967 (by decide) (fun _ => ?_) (fun hc => absurd rfl hc)
  exact kk x1 m1 H locs hR1 hw
set_option maxHeartbeats 4000000 in
set_option maxRecDepth 100000 in
theorem lawC_38 {p : Program} {l : Launch} {e : Jvm.Env} {s : State} {m : MethodId} {below : List Frame} {meth : Method} {c : Code} {E EM : XE} {oA h b L i cells slots : Nat} {aL : ClassId} {xs : Nat → Int32} {st sm : Sto} {w : Nat → Int64} {H : Heap} {locs : List Loc} {Q : State → Prop} {ls : Array Slot} (F : LawFix p l s m c E EM oA aL h b L xs) (hi : i + 9 ≤ L) (hl : lv_has ls 7 (LawV E EM oA b i)) (hR : Rel st sm) (hw : LSt E EM oA aL h st sm w s H locs) (hrm : cells ≤ 601024 ∧ slots ≤ 7293034) (kk : ∀ (st1 sm1 : Sto) (H1 : Heap) (locs1 : List Loc), Rel st1 sm1 → LSt E EM oA aL h st1 sm1 w s H1 locs1 → W p l e room_1 s m #[Value.ref b] below meth c H1 locs1 cells slots Q (F0 m 2036 ls [])) : W p l e room_1 s m #[Value.ref b] below meth c H locs cells slots Q (F0 m 1972 ls []) := by
  obtain ⟨hx, S, hK, hKM, g, hL, hLM, hX, hbl, hbA, hL9, _⟩ := F
  have hb := S.2.1
  obtain ⟨r, x1, m1, f1, f2, hR1⟩ := b_unpack hR
  refine lv_aload_n hx hb dL_law_1972 rfl (lv_at hl 2 rfl) ?_
  refine L_callX S hK g hw (As := []) (rest := []) (mX11_unpack l E hL st f1) (cwV 0 S.2.2.2.2 gL_law_X11_unpack rfl rfl rfl (by decide +kernel) ⟨Nat.le_of_ble_eq_true rfl, Nat.le_of_ble_eq_true rfl⟩) rfl hl.1 rfl (Nat.le_of_ble_eq_true rfl) dL_law_1973 hrm (fun H locs hw => ?_)
  refine lv_aload_n hx hb dL_law_1976 rfl (lv_at hl 3 rfl) ?_
  refine L_callM S hKM g hw (As := []) (rest := [.int r]) (mX12_unpack l EM hLM sm f2) (cwV 0 S.2.2.2.2 gL_law_X12_unpack rfl rfl rfl (by decide +kernel) ⟨Nat.le_of_ble_eq_true rfl, Nat.le_of_ble_eq_true rfl⟩) rfl hl.1 rfl (Nat.le_of_ble_eq_true rfl) dL_law_1977 hrm (fun H locs hw => ?_)
  refine lv_icmp_eq (tgt := 2036) hx hb dL_law_1980 (by decide) (fun _ => ?_) (fun hc => absurd rfl hc)
  exact kk x1 m1 H locs hR1 hw
set_option maxHeartbeats 4000000 in
set_option maxRecDepth 100000 in
theorem lawC_39 {p : Program} {l : Launch} {e : Jvm.Env} {s : State} {m : MethodId} {below : List Frame} {meth : Method} {c : Code} {E EM : XE} {oA h b L i cells slots : Nat} {aL : ClassId} {xs : Nat → Int32} {st sm : Sto} {w : Nat → Int64} {H : Heap} {locs : List Loc} {Q : State → Prop} {ls : Array Slot} (F : LawFix p l s m c E EM oA aL h b L xs) (hi : i + 9 ≤ L) (hl : lv_has ls 7 (LawV E EM oA b i)) (hR : Rel st sm) (hw : LSt E EM oA aL h st sm w s H locs) (hrm : cells ≤ 601024 ∧ slots ≤ 7293034) (kk : ∀ (st1 sm1 : Sto) (H1 : Heap) (locs1 : List Loc), Rel st1 sm1 → LSt E EM oA aL h st1 sm1 w s H1 locs1 → W p l e room_1 s m #[Value.ref b] below meth c H1 locs1 cells slots Q (F0 m 2036 ls [])) : W p l e room_1 s m #[Value.ref b] below meth c H locs cells slots Q (F0 m 1985 ls []) := by
  obtain ⟨hx, S, hK, hKM, g, hL, hLM, hX, hbl, hbA, hL9, _⟩ := F
  have hb := S.2.1
  obtain ⟨r, x1, m1, f1, f2, hR1⟩ := b_undo hR
  refine lv_aload_n hx hb dL_law_1985 rfl (lv_at hl 2 rfl) ?_
  refine L_callX S hK g hw (As := []) (rest := []) (mX11_undo l E hL st f1) (cwV 0 S.2.2.2.2 gL_law_X11_undo rfl rfl rfl (by decide +kernel) ⟨Nat.le_of_ble_eq_true rfl, Nat.le_of_ble_eq_true rfl⟩) rfl hl.1 rfl (Nat.le_of_ble_eq_true rfl) dL_law_1986 hrm (fun H locs hw => ?_)
  refine lv_aload_n hx hb dL_law_1989 rfl (lv_at hl 3 rfl) ?_
  refine L_callM S hKM g hw (As := []) (rest := [.int r]) (mX12_undo l EM hLM sm f2) (cwV 0 S.2.2.2.2 gL_law_X12_undo rfl rfl rfl (by decide +kernel) ⟨Nat.le_of_ble_eq_true rfl, Nat.le_of_ble_eq_true rfl⟩) rfl hl.1 rfl (Nat.le_of_ble_eq_true rfl) dL_law_1990 hrm (fun H locs hw => ?_)
  refine lv_icmp_eq (tgt := 2036) hx hb dL_law_1993 (by decide) (fun _ => ?_) (fun hc => absurd rfl hc)
  exact kk x1 m1 H locs hR1 hw
set_option maxHeartbeats 4000000 in
set_option maxRecDepth 100000 in
theorem lawC_40 {p : Program} {l : Launch} {e : Jvm.Env} {s : State} {m : MethodId} {below : List Frame} {meth : Method} {c : Code} {E EM : XE} {oA h b L i cells slots : Nat} {aL : ClassId} {xs : Nat → Int32} {st sm : Sto} {w : Nat → Int64} {H : Heap} {locs : List Loc} {Q : State → Prop} {ls : Array Slot} (F : LawFix p l s m c E EM oA aL h b L xs) (hi : i + 9 ≤ L) (hl : lv_has ls 7 (LawV E EM oA b i)) (hR : Rel st sm) (hw : LSt E EM oA aL h st sm w s H locs) (hrm : cells ≤ 601024 ∧ slots ≤ 7293034) (kk : ∀ (st1 sm1 : Sto) (H1 : Heap) (locs1 : List Loc), Rel st1 sm1 → LSt E EM oA aL h st1 sm1 w s H1 locs1 → W p l e room_1 s m #[Value.ref b] below meth c H1 locs1 cells slots Q (F0 m 2036 ls [])) : W p l e room_1 s m #[Value.ref b] below meth c H locs cells slots Q (F0 m 1998 ls []) := by
  obtain ⟨hx, S, hK, hKM, g, hL, hLM, hX, hbl, hbA, hL9, _⟩ := F
  have hb := S.2.1
  obtain ⟨r, m1, f1, f2, hR1⟩ := b_trouble hR
  refine lv_aload_n hx hb dL_law_1998 rfl (lv_at hl 2 rfl) ?_
  refine L_callX S hK g hw (As := []) (rest := []) (mX11_trouble l E hL st f1) (cwV 0 S.2.2.2.2 gL_law_X11_trouble rfl rfl rfl (by decide +kernel) ⟨Nat.le_of_ble_eq_true rfl, Nat.le_of_ble_eq_true rfl⟩) rfl hl.1 rfl (Nat.le_of_ble_eq_true rfl) dL_law_1999 hrm (fun H locs hw => ?_)
  refine lv_aload_n hx hb dL_law_2002 rfl (lv_at hl 3 rfl) ?_
  refine L_callM S hKM g hw (As := []) (rest := [.int r]) (mX12_trouble l EM hLM sm f2) (cwV 0 S.2.2.2.2 gL_law_X12_trouble rfl rfl rfl (by decide +kernel) ⟨Nat.le_of_ble_eq_true rfl, Nat.le_of_ble_eq_true rfl⟩) rfl hl.1 rfl (Nat.le_of_ble_eq_true rfl) dL_law_2003 hrm (fun H locs hw => ?_)
  refine lv_icmp_eq (tgt := 2036) hx hb dL_law_2006 (by decide) (fun _ => ?_) (fun hc => absurd rfl hc)
  exact kk st m1 H locs hR1 hw
set_option maxHeartbeats 4000000 in
set_option maxRecDepth 100000 in
theorem lawC_41 {p : Program} {l : Launch} {e : Jvm.Env} {s : State} {m : MethodId} {below : List Frame} {meth : Method} {c : Code} {E EM : XE} {oA h b L i cells slots : Nat} {aL : ClassId} {xs : Nat → Int32} {st sm : Sto} {w : Nat → Int64} {H : Heap} {locs : List Loc} {Q : State → Prop} {ls : Array Slot} (F : LawFix p l s m c E EM oA aL h b L xs) (hi : i + 9 ≤ L) (hl : lv_has ls 7 (LawV E EM oA b i)) (hR : Rel st sm) (hw : LSt E EM oA aL h st sm w s H locs) (hrm : cells ≤ 601024 ∧ slots ≤ 7293034) (kk : ∀ (st1 sm1 : Sto) (H1 : Heap) (locs1 : List Loc), Rel st1 sm1 → LSt E EM oA aL h st1 sm1 w s H1 locs1 → W p l e room_1 s m #[Value.ref b] below meth c H1 locs1 cells slots Q (F0 m 2036 ls [])) : W p l e room_1 s m #[Value.ref b] below meth c H locs cells slots Q (F0 m 2011 ls []) := by
  obtain ⟨hx, S, hK, hKM, g, hL, hLM, hX, hbl, hbA, hL9, _⟩ := F
  have hb := S.2.1
  obtain ⟨r, m1, f1, f2, hR1⟩ := b_count hR (xs (i + 1))
  refine lv_aload_n hx hb dL_law_2011 rfl (lv_at hl 2 rfl) ?_
  refine L_argC (k := 1) hx hb hl rfl rfl hX hbl hbA hw.2.2.2 (by omega) hL9 rfl dL_law_2012 dL_law_2013 dL_law_2015 (by decide) dL_law_2016 dL_law_2017 ?_
  refine L_callX S hK g hw (As := [.int (xs (i + 1))]) (rest := []) (mX11_count l E hL st f1) (cwV 1 S.2.2.2.2 gL_law_X11_count rfl rfl rfl (by decide +kernel) ⟨Nat.le_of_ble_eq_true rfl, Nat.le_of_ble_eq_true rfl⟩) rfl hl.1 rfl (Nat.le_of_ble_eq_true rfl) dL_law_2018 hrm (fun H locs hw => ?_)
  refine lv_aload_n hx hb dL_law_2021 rfl (lv_at hl 3 rfl) ?_
  refine L_argC (k := 1) hx hb hl rfl rfl hX hbl hbA hw.2.2.2 (by omega) hL9 rfl dL_law_2022 dL_law_2023 dL_law_2025 (by decide) dL_law_2026 dL_law_2027 ?_
  refine L_callM S hKM g hw (As := [.int (xs (i + 1))]) (rest := [.int r]) (mX12_count l EM hLM sm f2) (cwV 1 S.2.2.2.2 gL_law_X12_count rfl rfl rfl (by decide +kernel) ⟨Nat.le_of_ble_eq_true rfl, Nat.le_of_ble_eq_true rfl⟩) rfl hl.1 rfl (Nat.le_of_ble_eq_true rfl) dL_law_2028 hrm (fun H locs hw => ?_)
  refine lv_icmp_eq (tgt := 2036) hx hb dL_law_2031 (by decide) (fun _ => ?_) (fun hc => absurd rfl hc)
  exact kk st m1 H locs hR1 hw
