/-! ===== the law's cases ===== -/
def LawV (E EM : XE) (oA b i : Nat) : List (Nat × Value) := [(4, .int (nI i)), (0, .ref b), (1, .ref (E.2.2.1 0 0)), (2, .ref (EM.2.2.1 0 0)), (3, .ref oA)]
def LawFix (p : Program) (l : Launch) (s : State) (m : MethodId) (c : Code) (E EM : XE) (oA : Nat) (aL : ClassId) (h b L : Nat) (xs : Nat → Int32) : Prop := p.tables.exec = Jvm.exec ∧ CallFix p m c cL_law 7 s #[Value.ref b] wsL_law RL ∧ va_K E.1 vwC (tysA E.2.1) s ∧ va_K EM.1 vwC (tysA EM.2.1) s ∧ Geo E EM h oA ∧ LX E ∧ LM EM ∧ va_X b L xs s s.heap ∧ b < s.heap.size ∧ ¬ h ≤ b ∧ L ≤ 4608 ∧ l.stackTraces = false ∧ s.heap.size = h ∧ ArrOfT s aL .long
theorem lg_cmp_self (x : Int64) : lg_cmp x x = 0 := by
  unfold lg_cmp
  simp
set_option maxHeartbeats 4000000 in
set_option maxRecDepth 100000 in
theorem lawC_0 {p : Program} {l : Launch} {e : Jvm.Env} {s : State} {m : MethodId} {below : List Frame} {meth : Method} {c : Code} {E EM : XE} {oA h b L i cells slots : Nat} {aL : ClassId} {xs : Nat → Int32} {st sm : Sto} {w : Nat → Int64} {H : Heap} {locs : List Loc} {Q : State → Prop} {ls : Array Slot} (F : LawFix p l s m c E EM oA aL h b L xs) (hi : i + 9 ≤ L) (hl : lv_has ls 7 (LawV E EM oA b i)) (hR : Rel st sm) (hw : LSt E EM oA aL h st sm w s H locs) (hrm : cells ≤ 601024 ∧ slots ≤ 7293034) (kk : ∀ (st1 sm1 : Sto) (H1 : Heap) (locs1 : List Loc), Rel st1 sm1 → LSt E EM oA aL h st1 sm1 w s H1 locs1 → W p l e room_1 s m #[Value.ref b] below meth c H1 locs1 cells slots Q (F0 m 2036 ls [])) : W p l e room_1 s m #[Value.ref b] below meth c H locs cells slots Q (F0 m 224 ls []) := by
  obtain ⟨hx, S, hK, hKM, g, hL, hLM, hX, hbl, hbA, hL9, _⟩ := F
  have hb := S.2.1
  obtain ⟨r, x1, m1, f1, f2, hR1⟩ := b_bands hR (xs (i + 1)) (xs (i + 2)) (xs (i + 3)) (xs (i + 4)) (xs (i + 5))
  refine lv_aload_n hx hb dL_law_224 rfl (lv_at hl 2 rfl) ?_
  refine L_argC (k := 1) hx hb hl rfl rfl hX hbl hbA hw.2.2.2 (by omega) hL9 rfl dL_law_225 dL_law_226 dL_law_228 (by decide) dL_law_229 dL_law_230 ?_
  refine L_argC (k := 2) hx hb hl rfl rfl hX hbl hbA hw.2.2.2 (by omega) hL9 rfl dL_law_231 dL_law_232 dL_law_234 (by decide) dL_law_235 dL_law_236 ?_
  refine L_argC (k := 3) hx hb hl rfl rfl hX hbl hbA hw.2.2.2 (by omega) hL9 rfl dL_law_237 dL_law_238 dL_law_240 (by decide) dL_law_241 dL_law_242 ?_
  refine L_argC (k := 4) hx hb hl rfl rfl hX hbl hbA hw.2.2.2 (by omega) hL9 rfl dL_law_243 dL_law_244 dL_law_246 (by decide) dL_law_247 dL_law_248 ?_
  refine L_argC (k := 5) hx hb hl rfl rfl hX hbl hbA hw.2.2.2 (by omega) hL9 rfl dL_law_249 dL_law_250 dL_law_252 (by decide) dL_law_253 dL_law_254 ?_
  refine L_callX S hK g hw (As := [.int (xs (i + 1)), .int (xs (i + 2)), .int (xs (i + 3)), .int (xs (i + 4)), .int (xs (i + 5))]) (rest := []) (mX11_bands l E hL st f1) (cwV 5 S.2.2.2.2 gL_law_X11_bands rfl rfl rfl (by decide +kernel) ⟨Nat.le_of_ble_eq_true rfl, Nat.le_of_ble_eq_true rfl⟩) rfl hl.1 rfl (Nat.le_of_ble_eq_true rfl) dL_law_255 hrm (fun H locs hw => ?_)
  refine lv_aload_n hx hb dL_law_258 rfl (lv_at hl 3 rfl) ?_
  refine L_argC (k := 1) hx hb hl rfl rfl hX hbl hbA hw.2.2.2 (by omega) hL9 rfl dL_law_259 dL_law_260 dL_law_262 (by decide) dL_law_263 dL_law_264 ?_
  refine L_argC (k := 2) hx hb hl rfl rfl hX hbl hbA hw.2.2.2 (by omega) hL9 rfl dL_law_265 dL_law_266 dL_law_268 (by decide) dL_law_269 dL_law_270 ?_
  refine L_argC (k := 3) hx hb hl rfl rfl hX hbl hbA hw.2.2.2 (by omega) hL9 rfl dL_law_271 dL_law_272 dL_law_274 (by decide) dL_law_275 dL_law_276 ?_
  refine L_argC (k := 4) hx hb hl rfl rfl hX hbl hbA hw.2.2.2 (by omega) hL9 rfl dL_law_277 dL_law_278 dL_law_280 (by decide) dL_law_281 dL_law_282 ?_
  refine L_argC (k := 5) hx hb hl rfl rfl hX hbl hbA hw.2.2.2 (by omega) hL9 rfl dL_law_283 dL_law_284 dL_law_286 (by decide) dL_law_287 dL_law_288 ?_
  refine L_callM S hKM g hw (As := [.int (xs (i + 1)), .int (xs (i + 2)), .int (xs (i + 3)), .int (xs (i + 4)), .int (xs (i + 5))]) (rest := [.int r]) (mX12_bands l EM hLM sm f2) (cwV 5 S.2.2.2.2 gL_law_X12_bands rfl rfl rfl (by decide +kernel) ⟨Nat.le_of_ble_eq_true rfl, Nat.le_of_ble_eq_true rfl⟩) rfl hl.1 rfl (Nat.le_of_ble_eq_true rfl) dL_law_289 hrm (fun H locs hw => ?_)
  refine lv_icmp_eq (tgt := 2036) hx hb dL_law_292 (by decide) (fun _ => ?_) (fun hc => absurd rfl hc)
  exact kk x1 m1 H locs hR1 hw
set_option maxHeartbeats 4000000 in
set_option maxRecDepth 100000 in
theorem lawC_1 {p : Program} {l : Launch} {e : Jvm.Env} {s : State} {m : MethodId} {below : List Frame} {meth : Method} {c : Code} {E EM : XE} {oA h b L i cells slots : Nat} {aL : ClassId} {xs : Nat → Int32} {st sm : Sto} {w : Nat → Int64} {H : Heap} {locs : List Loc} {Q : State → Prop} {ls : Array Slot} (F : LawFix p l s m c E EM oA aL h b L xs) (hi : i + 9 ≤ L) (hl : lv_has ls 7 (LawV E EM oA b i)) (hR : Rel st sm) (hw : LSt E EM oA aL h st sm w s H locs) (hrm : cells ≤ 601024 ∧ slots ≤ 7293034) (kk : ∀ (st1 sm1 : Sto) (H1 : Heap) (locs1 : List Loc), Rel st1 sm1 → LSt E EM oA aL h st1 sm1 w s H1 locs1 → W p l e room_1 s m #[Value.ref b] below meth c H1 locs1 cells slots Q (F0 m 2036 ls [])) : W p l e room_1 s m #[Value.ref b] below meth c H locs cells slots Q (F0 m 297 ls []) := by
  obtain ⟨hx, S, hK, hKM, g, hL, hLM, hX, hbl, hbA, hL9, _⟩ := F
  have hb := S.2.1
  obtain ⟨r, x1, m1, f1, f2, hR1⟩ := b_chip hR
  refine lv_aload_n hx hb dL_law_297 rfl (lv_at hl 2 rfl) ?_
  refine L_callX S hK g hw (As := []) (rest := []) (mX11_chip l E hL st f1) (cwV 0 S.2.2.2.2 gL_law_X11_chip rfl rfl rfl (by decide +kernel) ⟨Nat.le_of_ble_eq_true rfl, Nat.le_of_ble_eq_true rfl⟩) rfl hl.1 rfl (Nat.le_of_ble_eq_true rfl) dL_law_298 hrm (fun H locs hw => ?_)
  refine lv_aload_n hx hb dL_law_301 rfl (lv_at hl 3 rfl) ?_
  refine L_callM S hKM g hw (As := []) (rest := [.int r]) (mX12_chip l EM hLM sm f2) (cwV 0 S.2.2.2.2 gL_law_X12_chip rfl rfl rfl (by decide +kernel) ⟨Nat.le_of_ble_eq_true rfl, Nat.le_of_ble_eq_true rfl⟩) rfl hl.1 rfl (Nat.le_of_ble_eq_true rfl) dL_law_302 hrm (fun H locs hw => ?_)
  refine lv_icmp_eq (tgt := 2036) hx hb dL_law_305 (by decide) (fun _ => ?_) (fun hc => absurd rfl hc)
  exact kk x1 m1 H locs hR1 hw
set_option maxHeartbeats 4000000 in
set_option maxRecDepth 100000 in
theorem lawC_2 {p : Program} {l : Launch} {e : Jvm.Env} {s : State} {m : MethodId} {below : List Frame} {meth : Method} {c : Code} {E EM : XE} {oA h b L i cells slots : Nat} {aL : ClassId} {xs : Nat → Int32} {st sm : Sto} {w : Nat → Int64} {H : Heap} {locs : List Loc} {Q : State → Prop} {ls : Array Slot} (F : LawFix p l s m c E EM oA aL h b L xs) (hi : i + 9 ≤ L) (hl : lv_has ls 7 (LawV E EM oA b i)) (hR : Rel st sm) (hw : LSt E EM oA aL h st sm w s H locs) (hrm : cells ≤ 601024 ∧ slots ≤ 7293034) (kk : ∀ (st1 sm1 : Sto) (H1 : Heap) (locs1 : List Loc), Rel st1 sm1 → LSt E EM oA aL h st1 sm1 w s H1 locs1 → W p l e room_1 s m #[Value.ref b] below meth c H1 locs1 cells slots Q (F0 m 2036 ls [])) : W p l e room_1 s m #[Value.ref b] below meth c H locs cells slots Q (F0 m 310 ls []) := by
  obtain ⟨hx, S, hK, hKM, g, hL, hLM, hX, hbl, hbA, hL9, _⟩ := F
  have hb := S.2.1
  obtain ⟨r, x1, m1, f1, f2, hR1⟩ := b_cloth hR
  refine lv_aload_n hx hb dL_law_310 rfl (lv_at hl 2 rfl) ?_
  refine L_callX S hK g hw (As := []) (rest := []) (mX11_cloth l E hL st f1) (cwV 0 S.2.2.2.2 gL_law_X11_cloth rfl rfl rfl (by decide +kernel) ⟨Nat.le_of_ble_eq_true rfl, Nat.le_of_ble_eq_true rfl⟩) rfl hl.1 rfl (Nat.le_of_ble_eq_true rfl) dL_law_311 hrm (fun H locs hw => ?_)
  refine lv_aload_n hx hb dL_law_314 rfl (lv_at hl 3 rfl) ?_
  refine L_callM S hKM g hw (As := []) (rest := [.int r]) (mX12_cloth l EM hLM sm f2) (cwV 0 S.2.2.2.2 gL_law_X12_cloth rfl rfl rfl (by decide +kernel) ⟨Nat.le_of_ble_eq_true rfl, Nat.le_of_ble_eq_true rfl⟩) rfl hl.1 rfl (Nat.le_of_ble_eq_true rfl) dL_law_315 hrm (fun H locs hw => ?_)
  refine lv_icmp_eq (tgt := 2036) hx hb dL_law_318 (by decide) (fun _ => ?_) (fun hc => absurd rfl hc)
  exact kk x1 m1 H locs hR1 hw
set_option maxHeartbeats 4000000 in
set_option maxRecDepth 100000 in
theorem lawC_3 {p : Program} {l : Launch} {e : Jvm.Env} {s : State} {m : MethodId} {below : List Frame} {meth : Method} {c : Code} {E EM : XE} {oA h b L i cells slots : Nat} {aL : ClassId} {xs : Nat → Int32} {st sm : Sto} {w : Nat → Int64} {H : Heap} {locs : List Loc} {Q : State → Prop} {ls : Array Slot} (F : LawFix p l s m c E EM oA aL h b L xs) (hi : i + 9 ≤ L) (hl : lv_has ls 7 (LawV E EM oA b i)) (hR : Rel st sm) (hw : LSt E EM oA aL h st sm w s H locs) (hrm : cells ≤ 601024 ∧ slots ≤ 7293034) (kk : ∀ (st1 sm1 : Sto) (H1 : Heap) (locs1 : List Loc), Rel st1 sm1 → LSt E EM oA aL h st1 sm1 w s H1 locs1 → W p l e room_1 s m #[Value.ref b] below meth c H1 locs1 cells slots Q (F0 m 2036 ls [])) : W p l e room_1 s m #[Value.ref b] below meth c H locs cells slots Q (F0 m 323 ls []) := by
  obtain ⟨hx, S, hK, hKM, g, hL, hLM, hX, hbl, hbA, hL9, _⟩ := F
  have hb := S.2.1
  obtain ⟨r, x1, m1, f1, f2, hR1⟩ := b_dye hR (xs (i + 1))
  refine lv_aload_n hx hb dL_law_323 rfl (lv_at hl 2 rfl) ?_
  refine L_argC (k := 1) hx hb hl rfl rfl hX hbl hbA hw.2.2.2 (by omega) hL9 rfl dL_law_324 dL_law_325 dL_law_327 (by decide) dL_law_328 dL_law_329 ?_
  refine L_callX S hK g hw (As := [.int (xs (i + 1))]) (rest := []) (mX11_dye l E hL st f1) (cwV 1 S.2.2.2.2 gL_law_X11_dye rfl rfl rfl (by decide +kernel) ⟨Nat.le_of_ble_eq_true rfl, Nat.le_of_ble_eq_true rfl⟩) rfl hl.1 rfl (Nat.le_of_ble_eq_true rfl) dL_law_330 hrm (fun H locs hw => ?_)
  refine lv_aload_n hx hb dL_law_333 rfl (lv_at hl 3 rfl) ?_
  refine L_argC (k := 1) hx hb hl rfl rfl hX hbl hbA hw.2.2.2 (by omega) hL9 rfl dL_law_334 dL_law_335 dL_law_337 (by decide) dL_law_338 dL_law_339 ?_
  refine L_callM S hKM g hw (As := [.int (xs (i + 1))]) (rest := [.int r]) (mX12_dye l EM hLM sm f2) (cwV 1 S.2.2.2.2 gL_law_X12_dye rfl rfl rfl (by decide +kernel) ⟨Nat.le_of_ble_eq_true rfl, Nat.le_of_ble_eq_true rfl⟩) rfl hl.1 rfl (Nat.le_of_ble_eq_true rfl) dL_law_340 hrm (fun H locs hw => ?_)
  refine lv_icmp_eq (tgt := 2036) hx hb dL_law_343 (by decide) (fun _ => ?_) (fun hc => absurd rfl hc)
  exact kk x1 m1 H locs hR1 hw
set_option maxHeartbeats 4000000 in
set_option maxRecDepth 100000 in
theorem lawC_4 {p : Program} {l : Launch} {e : Jvm.Env} {s : State} {m : MethodId} {below : List Frame} {meth : Method} {c : Code} {E EM : XE} {oA h b L i cells slots : Nat} {aL : ClassId} {xs : Nat → Int32} {st sm : Sto} {w : Nat → Int64} {H : Heap} {locs : List Loc} {Q : State → Prop} {ls : Array Slot} (F : LawFix p l s m c E EM oA aL h b L xs) (hi : i + 9 ≤ L) (hl : lv_has ls 7 (LawV E EM oA b i)) (hR : Rel st sm) (hw : LSt E EM oA aL h st sm w s H locs) (hrm : cells ≤ 601024 ∧ slots ≤ 7293034) (kk : ∀ (st1 sm1 : Sto) (H1 : Heap) (locs1 : List Loc), Rel st1 sm1 → LSt E EM oA aL h st1 sm1 w s H1 locs1 → W p l e room_1 s m #[Value.ref b] below meth c H1 locs1 cells slots Q (F0 m 2036 ls [])) : W p l e room_1 s m #[Value.ref b] below meth c H locs cells slots Q (F0 m 348 ls []) := by
  obtain ⟨hx, S, hK, hKM, g, hL, hLM, hX, hbl, hbA, hL9, _⟩ := F
  have hb := S.2.1
  obtain ⟨r, x1, m1, f1, f2, hR1⟩ := b_strength hR (xs (i + 1)) (xs (i + 2))
  refine lv_aload_n hx hb dL_law_348 rfl (lv_at hl 2 rfl) ?_
  refine L_argC (k := 1) hx hb hl rfl rfl hX hbl hbA hw.2.2.2 (by omega) hL9 rfl dL_law_349 dL_law_350 dL_law_352 (by decide) dL_law_353 dL_law_354 ?_
  refine L_argC (k := 2) hx hb hl rfl rfl hX hbl hbA hw.2.2.2 (by omega) hL9 rfl dL_law_355 dL_law_356 dL_law_358 (by decide) dL_law_359 dL_law_360 ?_
  refine L_callX S hK g hw (As := [.int (xs (i + 1)), .int (xs (i + 2))]) (rest := []) (mX11_strength l E hL st f1) (cwV 2 S.2.2.2.2 gL_law_X11_strength rfl rfl rfl (by decide +kernel) ⟨Nat.le_of_ble_eq_true rfl, Nat.le_of_ble_eq_true rfl⟩) rfl hl.1 rfl (Nat.le_of_ble_eq_true rfl) dL_law_361 hrm (fun H locs hw => ?_)
  refine lv_aload_n hx hb dL_law_364 rfl (lv_at hl 3 rfl) ?_
  refine L_argC (k := 1) hx hb hl rfl rfl hX hbl hbA hw.2.2.2 (by omega) hL9 rfl dL_law_365 dL_law_366 dL_law_368 (by decide) dL_law_369 dL_law_370 ?_
  refine L_argC (k := 2) hx hb hl rfl rfl hX hbl hbA hw.2.2.2 (by omega) hL9 rfl dL_law_371 dL_law_372 dL_law_374 (by decide) dL_law_375 dL_law_376 ?_
  refine L_callM S hKM g hw (As := [.int (xs (i + 1)), .int (xs (i + 2))]) (rest := [.int r]) (mX12_strength l EM hLM sm f2) (cwV 2 S.2.2.2.2 gL_law_X12_strength rfl rfl rfl (by decide +kernel) ⟨Nat.le_of_ble_eq_true rfl, Nat.le_of_ble_eq_true rfl⟩) rfl hl.1 rfl (Nat.le_of_ble_eq_true rfl) dL_law_377 hrm (fun H locs hw => ?_)
  refine lv_icmp_eq (tgt := 2036) hx hb dL_law_380 (by decide) (fun _ => ?_) (fun hc => absurd rfl hc)
  exact kk x1 m1 H locs hR1 hw
set_option maxHeartbeats 4000000 in
set_option maxRecDepth 100000 in
theorem lawC_5 {p : Program} {l : Launch} {e : Jvm.Env} {s : State} {m : MethodId} {below : List Frame} {meth : Method} {c : Code} {E EM : XE} {oA h b L i cells slots : Nat} {aL : ClassId} {xs : Nat → Int32} {st sm : Sto} {w : Nat → Int64} {H : Heap} {locs : List Loc} {Q : State → Prop} {ls : Array Slot} (F : LawFix p l s m c E EM oA aL h b L xs) (hi : i + 9 ≤ L) (hl : lv_has ls 7 (LawV E EM oA b i)) (hR : Rel st sm) (hw : LSt E EM oA aL h st sm w s H locs) (hrm : cells ≤ 601024 ∧ slots ≤ 7293034) (kk : ∀ (st1 sm1 : Sto) (H1 : Heap) (locs1 : List Loc), Rel st1 sm1 → LSt E EM oA aL h st1 sm1 w s H1 locs1 → W p l e room_1 s m #[Value.ref b] below meth c H1 locs1 cells slots Q (F0 m 2036 ls [])) : W p l e room_1 s m #[Value.ref b] below meth c H locs cells slots Q (F0 m 385 ls []) := by
  obtain ⟨hx, S, hK, hKM, g, hL, hLM, hX, hbl, hbA, hL9, _⟩ := F
  have hb := S.2.1
  obtain ⟨r, x1, m1, f1, f2, hR1⟩ := b_cents hR (xs (i + 1)) (xs (i + 2))
  refine lv_aload_n hx hb dL_law_385 rfl (lv_at hl 2 rfl) ?_
  refine L_argC (k := 1) hx hb hl rfl rfl hX hbl hbA hw.2.2.2 (by omega) hL9 rfl dL_law_386 dL_law_387 dL_law_389 (by decide) dL_law_390 dL_law_391 ?_
  refine L_argC (k := 2) hx hb hl rfl rfl hX hbl hbA hw.2.2.2 (by omega) hL9 rfl dL_law_392 dL_law_393 dL_law_395 (by decide) dL_law_396 dL_law_397 ?_
  refine L_callX S hK g hw (As := [.int (xs (i + 1)), .int (xs (i + 2))]) (rest := []) (mX11_cents l E hL st f1) (cwV 2 S.2.2.2.2 gL_law_X11_cents rfl rfl rfl (by decide +kernel) ⟨Nat.le_of_ble_eq_true rfl, Nat.le_of_ble_eq_true rfl⟩) rfl hl.1 rfl (Nat.le_of_ble_eq_true rfl) dL_law_398 hrm (fun H locs hw => ?_)
  refine lv_aload_n hx hb dL_law_401 rfl (lv_at hl 3 rfl) ?_
  refine L_argC (k := 1) hx hb hl rfl rfl hX hbl hbA hw.2.2.2 (by omega) hL9 rfl dL_law_402 dL_law_403 dL_law_405 (by decide) dL_law_406 dL_law_407 ?_
  refine L_argC (k := 2) hx hb hl rfl rfl hX hbl hbA hw.2.2.2 (by omega) hL9 rfl dL_law_408 dL_law_409 dL_law_411 (by decide) dL_law_412 dL_law_413 ?_
  refine L_callM S hKM g hw (As := [.int (xs (i + 1)), .int (xs (i + 2))]) (rest := [.int r]) (mX12_cents l EM hLM sm f2) (cwV 2 S.2.2.2.2 gL_law_X12_cents rfl rfl rfl (by decide +kernel) ⟨Nat.le_of_ble_eq_true rfl, Nat.le_of_ble_eq_true rfl⟩) rfl hl.1 rfl (Nat.le_of_ble_eq_true rfl) dL_law_414 hrm (fun H locs hw => ?_)
  refine lv_icmp_eq (tgt := 2036) hx hb dL_law_417 (by decide) (fun _ => ?_) (fun hc => absurd rfl hc)
  exact kk x1 m1 H locs hR1 hw
set_option maxHeartbeats 4000000 in
set_option maxRecDepth 100000 in
theorem lawC_6 {p : Program} {l : Launch} {e : Jvm.Env} {s : State} {m : MethodId} {below : List Frame} {meth : Method} {c : Code} {E EM : XE} {oA h b L i cells slots : Nat} {aL : ClassId} {xs : Nat → Int32} {st sm : Sto} {w : Nat → Int64} {H : Heap} {locs : List Loc} {Q : State → Prop} {ls : Array Slot} (F : LawFix p l s m c E EM oA aL h b L xs) (hi : i + 9 ≤ L) (hl : lv_has ls 7 (LawV E EM oA b i)) (hR : Rel st sm) (hw : LSt E EM oA aL h st sm w s H locs) (hrm : cells ≤ 601024 ∧ slots ≤ 7293034) (kk : ∀ (st1 sm1 : Sto) (H1 : Heap) (locs1 : List Loc), Rel st1 sm1 → LSt E EM oA aL h st1 sm1 w s H1 locs1 → W p l e room_1 s m #[Value.ref b] below meth c H1 locs1 cells slots Q (F0 m 2036 ls [])) : W p l e room_1 s m #[Value.ref b] below meth c H locs cells slots Q (F0 m 422 ls []) := by
  obtain ⟨hx, S, hK, hKM, g, hL, hLM, hX, hbl, hbA, hL9, _⟩ := F
  have hb := S.2.1
  obtain ⟨r, m1, f1, f2, hR1⟩ := b_band hR (xs (i + 1)) (xs (i + 2)) (xs (i + 3))
  refine lv_aload_n hx hb dL_law_422 rfl (lv_at hl 2 rfl) ?_
  refine L_argC (k := 1) hx hb hl rfl rfl hX hbl hbA hw.2.2.2 (by omega) hL9 rfl dL_law_423 dL_law_424 dL_law_426 (by decide) dL_law_427 dL_law_428 ?_
  refine L_argC (k := 2) hx hb hl rfl rfl hX hbl hbA hw.2.2.2 (by omega) hL9 rfl dL_law_429 dL_law_430 dL_law_432 (by decide) dL_law_433 dL_law_434 ?_
  refine L_argC (k := 3) hx hb hl rfl rfl hX hbl hbA hw.2.2.2 (by omega) hL9 rfl dL_law_435 dL_law_436 dL_law_438 (by decide) dL_law_439 dL_law_440 ?_
  refine L_callX S hK g hw (As := [.int (xs (i + 1)), .int (xs (i + 2)), .int (xs (i + 3))]) (rest := []) (mX11_band l E hL st f1) (cwV 3 S.2.2.2.2 gL_law_X11_band rfl rfl rfl (by decide +kernel) ⟨Nat.le_of_ble_eq_true rfl, Nat.le_of_ble_eq_true rfl⟩) rfl hl.1 rfl (Nat.le_of_ble_eq_true rfl) dL_law_441 hrm (fun H locs hw => ?_)
  refine lv_aload_n hx hb dL_law_444 rfl (lv_at hl 3 rfl) ?_
  refine L_argC (k := 1) hx hb hl rfl rfl hX hbl hbA hw.2.2.2 (by omega) hL9 rfl dL_law_445 dL_law_446 dL_law_448 (by decide) dL_law_449 dL_law_450 ?_
  refine L_argC (k := 2) hx hb hl rfl rfl hX hbl hbA hw.2.2.2 (by omega) hL9 rfl dL_law_451 dL_law_452 dL_law_454 (by decide) dL_law_455 dL_law_456 ?_
  refine L_argC (k := 3) hx hb hl rfl rfl hX hbl hbA hw.2.2.2 (by omega) hL9 rfl dL_law_457 dL_law_458 dL_law_460 (by decide) dL_law_461 dL_law_462 ?_
  refine L_callM S hKM g hw (As := [.int (xs (i + 1)), .int (xs (i + 2)), .int (xs (i + 3))]) (rest := [.int r]) (mX12_band l EM hLM sm f2) (cwV 3 S.2.2.2.2 gL_law_X12_band rfl rfl rfl (by decide +kernel) ⟨Nat.le_of_ble_eq_true rfl, Nat.le_of_ble_eq_true rfl⟩) rfl hl.1 rfl (Nat.le_of_ble_eq_true rfl) dL_law_463 hrm (fun H locs hw => ?_)
  refine lv_icmp_eq (tgt := 2036) hx hb dL_law_466 (by decide) (fun _ => ?_) (fun hc => absurd rfl hc)
  exact kk st m1 H locs hR1 hw
set_option maxHeartbeats 4000000 in
set_option maxRecDepth 100000 in
theorem lawC_7 {p : Program} {l : Launch} {e : Jvm.Env} {s : State} {m : MethodId} {below : List Frame} {meth : Method} {c : Code} {E EM : XE} {oA h b L i cells slots : Nat} {aL : ClassId} {xs : Nat → Int32} {st sm : Sto} {w : Nat → Int64} {H : Heap} {locs : List Loc} {Q : State → Prop} {ls : Array Slot} (F : LawFix p l s m c E EM oA aL h b L xs) (hi : i + 9 ≤ L) (hl : lv_has ls 7 (LawV E EM oA b i)) (hR : Rel st sm) (hw : LSt E EM oA aL h st sm w s H locs) (hrm : cells ≤ 601024 ∧ slots ≤ 7293034) (kk : ∀ (st1 sm1 : Sto) (H1 : Heap) (locs1 : List Loc), Rel st1 sm1 → LSt E EM oA aL h st1 sm1 w s H1 locs1 → W p l e room_1 s m #[Value.ref b] below meth c H1 locs1 cells slots Q (F0 m 2036 ls [])) : W p l e room_1 s m #[Value.ref b] below meth c H locs cells slots Q (F0 m 471 ls []) := by
  obtain ⟨hx, S, hK, hKM, g, hL, hLM, hX, hbl, hbA, hL9, _⟩ := F
  have hb := S.2.1
  obtain ⟨r, x1, m1, f1, f2, hR1⟩ := b_pick hR (xs (i + 1)) (xs (i + 2))
  refine lv_aload_n hx hb dL_law_471 rfl (lv_at hl 2 rfl) ?_
  refine L_argC (k := 1) hx hb hl rfl rfl hX hbl hbA hw.2.2.2 (by omega) hL9 rfl dL_law_472 dL_law_473 dL_law_475 (by decide) dL_law_476 dL_law_477 ?_
  refine L_argC (k := 2) hx hb hl rfl rfl hX hbl hbA hw.2.2.2 (by omega) hL9 rfl dL_law_478 dL_law_479 dL_law_481 (by decide) dL_law_482 dL_law_483 ?_
  refine L_callX S hK g hw (As := [.int (xs (i + 1)), .int (xs (i + 2))]) (rest := []) (mX11_pick l E hL st f1) (cwV 2 S.2.2.2.2 gL_law_X11_pick rfl rfl rfl (by decide +kernel) ⟨Nat.le_of_ble_eq_true rfl, Nat.le_of_ble_eq_true rfl⟩) rfl hl.1 rfl (Nat.le_of_ble_eq_true rfl) dL_law_484 hrm (fun H locs hw => ?_)
  refine lv_aload_n hx hb dL_law_487 rfl (lv_at hl 3 rfl) ?_
  refine L_argC (k := 1) hx hb hl rfl rfl hX hbl hbA hw.2.2.2 (by omega) hL9 rfl dL_law_488 dL_law_489 dL_law_491 (by decide) dL_law_492 dL_law_493 ?_
  refine L_argC (k := 2) hx hb hl rfl rfl hX hbl hbA hw.2.2.2 (by omega) hL9 rfl dL_law_494 dL_law_495 dL_law_497 (by decide) dL_law_498 dL_law_499 ?_
  refine L_callM S hKM g hw (As := [.int (xs (i + 1)), .int (xs (i + 2))]) (rest := [.int r]) (mX12_pick l EM hLM sm f2) (cwV 2 S.2.2.2.2 gL_law_X12_pick rfl rfl rfl (by decide +kernel) ⟨Nat.le_of_ble_eq_true rfl, Nat.le_of_ble_eq_true rfl⟩) rfl hl.1 rfl (Nat.le_of_ble_eq_true rfl) dL_law_500 hrm (fun H locs hw => ?_)
  refine lv_icmp_eq (tgt := 2036) hx hb dL_law_503 (by decide) (fun _ => ?_) (fun hc => absurd rfl hc)
  exact kk x1 m1 H locs hR1 hw
set_option maxHeartbeats 4000000 in
set_option maxRecDepth 100000 in
theorem lawC_8 {p : Program} {l : Launch} {e : Jvm.Env} {s : State} {m : MethodId} {below : List Frame} {meth : Method} {c : Code} {E EM : XE} {oA h b L i cells slots : Nat} {aL : ClassId} {xs : Nat → Int32} {st sm : Sto} {w : Nat → Int64} {H : Heap} {locs : List Loc} {Q : State → Prop} {ls : Array Slot} (F : LawFix p l s m c E EM oA aL h b L xs) (hi : i + 9 ≤ L) (hl : lv_has ls 7 (LawV E EM oA b i)) (hR : Rel st sm) (hw : LSt E EM oA aL h st sm w s H locs) (hrm : cells ≤ 601024 ∧ slots ≤ 7293034) (kk : ∀ (st1 sm1 : Sto) (H1 : Heap) (locs1 : List Loc), Rel st1 sm1 → LSt E EM oA aL h st1 sm1 w s H1 locs1 → W p l e room_1 s m #[Value.ref b] below meth c H1 locs1 cells slots Q (F0 m 2036 ls [])) : W p l e room_1 s m #[Value.ref b] below meth c H locs cells slots Q (F0 m 508 ls []) := by
  obtain ⟨hx, S, hK, hKM, g, hL, hLM, hX, hbl, hbA, hL9, _⟩ := F
  have hb := S.2.1
  obtain ⟨r, x1, m1, f1, f2, hR1⟩ := b_blend hR (xs (i + 1)) (xs (i + 2)) (xs (i + 3)) (xs (i + 4))
  refine lv_aload_n hx hb dL_law_508 rfl (lv_at hl 2 rfl) ?_
  refine L_argC (k := 1) hx hb hl rfl rfl hX hbl hbA hw.2.2.2 (by omega) hL9 rfl dL_law_509 dL_law_510 dL_law_512 (by decide) dL_law_513 dL_law_514 ?_
  refine L_argC (k := 2) hx hb hl rfl rfl hX hbl hbA hw.2.2.2 (by omega) hL9 rfl dL_law_515 dL_law_516 dL_law_518 (by decide) dL_law_519 dL_law_520 ?_
  refine L_argC (k := 3) hx hb hl rfl rfl hX hbl hbA hw.2.2.2 (by omega) hL9 rfl dL_law_521 dL_law_522 dL_law_524 (by decide) dL_law_525 dL_law_526 ?_
  refine L_argC (k := 4) hx hb hl rfl rfl hX hbl hbA hw.2.2.2 (by omega) hL9 rfl dL_law_527 dL_law_528 dL_law_530 (by decide) dL_law_531 dL_law_532 ?_
  refine L_callX S hK g hw (As := [.int (xs (i + 1)), .int (xs (i + 2)), .int (xs (i + 3)), .int (xs (i + 4))]) (rest := []) (mX11_blend l E hL st f1) (cwV 4 S.2.2.2.2 gL_law_X11_blend rfl rfl rfl (by decide +kernel) ⟨Nat.le_of_ble_eq_true rfl, Nat.le_of_ble_eq_true rfl⟩) rfl hl.1 rfl (Nat.le_of_ble_eq_true rfl) dL_law_533 hrm (fun H locs hw => ?_)
  refine lv_aload_n hx hb dL_law_536 rfl (lv_at hl 3 rfl) ?_
  refine L_argC (k := 1) hx hb hl rfl rfl hX hbl hbA hw.2.2.2 (by omega) hL9 rfl dL_law_537 dL_law_538 dL_law_540 (by decide) dL_law_541 dL_law_542 ?_
  refine L_argC (k := 2) hx hb hl rfl rfl hX hbl hbA hw.2.2.2 (by omega) hL9 rfl dL_law_543 dL_law_544 dL_law_546 (by decide) dL_law_547 dL_law_548 ?_
  refine L_argC (k := 3) hx hb hl rfl rfl hX hbl hbA hw.2.2.2 (by omega) hL9 rfl dL_law_549 dL_law_550 dL_law_552 (by decide) dL_law_553 dL_law_554 ?_
  refine L_argC (k := 4) hx hb hl rfl rfl hX hbl hbA hw.2.2.2 (by omega) hL9 rfl dL_law_555 dL_law_556 dL_law_558 (by decide) dL_law_559 dL_law_560 ?_
  refine L_callM S hKM g hw (As := [.int (xs (i + 1)), .int (xs (i + 2)), .int (xs (i + 3)), .int (xs (i + 4))]) (rest := [.int r]) (mX12_blend l EM hLM sm f2) (cwV 4 S.2.2.2.2 gL_law_X12_blend rfl rfl rfl (by decide +kernel) ⟨Nat.le_of_ble_eq_true rfl, Nat.le_of_ble_eq_true rfl⟩) rfl hl.1 rfl (Nat.le_of_ble_eq_true rfl) dL_law_561 hrm (fun H locs hw => ?_)
  refine lv_icmp_eq (tgt := 2036) hx hb dL_law_564 (by decide) (fun _ => ?_) (fun hc => absurd rfl hc)
  exact kk x1 m1 H locs hR1 hw
set_option maxHeartbeats 4000000 in
set_option maxRecDepth 100000 in
theorem lawC_9 {p : Program} {l : Launch} {e : Jvm.Env} {s : State} {m : MethodId} {below : List Frame} {meth : Method} {c : Code} {E EM : XE} {oA h b L i cells slots : Nat} {aL : ClassId} {xs : Nat → Int32} {st sm : Sto} {w : Nat → Int64} {H : Heap} {locs : List Loc} {Q : State → Prop} {ls : Array Slot} (F : LawFix p l s m c E EM oA aL h b L xs) (hi : i + 9 ≤ L) (hl : lv_has ls 7 (LawV E EM oA b i)) (hR : Rel st sm) (hw : LSt E EM oA aL h st sm w s H locs) (hrm : cells ≤ 601024 ∧ slots ≤ 7293034) (kk : ∀ (st1 sm1 : Sto) (H1 : Heap) (locs1 : List Loc), Rel st1 sm1 → LSt E EM oA aL h st1 sm1 w s H1 locs1 → W p l e room_1 s m #[Value.ref b] below meth c H1 locs1 cells slots Q (F0 m 2036 ls [])) : W p l e room_1 s m #[Value.ref b] below meth c H locs cells slots Q (F0 m 569 ls []) := by
  obtain ⟨hx, S, hK, hKM, g, hL, hLM, hX, hbl, hbA, hL9, _⟩ := F
  have hb := S.2.1
  obtain ⟨r, x1, m1, f1, f2, hR1⟩ := b_part hR (if xs (i + 1) = 0 then 0 else 1) (xs (i + 2)) (xs (i + 3)) (by split <;> simp)
  refine lv_aload_n hx hb dL_law_569 rfl (lv_at hl 2 rfl) ?_
  refine L_argC (k := 1) hx hb hl rfl rfl hX hbl hbA hw.2.2.2 (by omega) hL9 rfl dL_law_570 dL_law_571 dL_law_573 (by decide) dL_law_574 dL_law_575 ?_
  refine L_bool (pz := 583) hx hb dL_law_576 (by decide) dL_law_579 dL_law_580 (by decide) dL_law_583 ?_
  refine L_argC (k := 2) hx hb hl rfl rfl hX hbl hbA hw.2.2.2 (by omega) hL9 rfl dL_law_584 dL_law_585 dL_law_587 (by decide) dL_law_588 dL_law_589 ?_
  refine L_argC (k := 3) hx hb hl rfl rfl hX hbl hbA hw.2.2.2 (by omega) hL9 rfl dL_law_590 dL_law_591 dL_law_593 (by decide) dL_law_594 dL_law_595 ?_
  refine L_callX S hK g hw (As := [.int (if xs (i + 1) = 0 then 0 else 1), .int (xs (i + 2)), .int (xs (i + 3))]) (rest := []) (mX11_part l E hL st f1) (cwV 3 S.2.2.2.2 gL_law_X11_part rfl rfl rfl (by decide +kernel) ⟨Nat.le_of_ble_eq_true rfl, Nat.le_of_ble_eq_true rfl⟩) rfl hl.1 rfl (Nat.le_of_ble_eq_true rfl) dL_law_596 hrm (fun H locs hw => ?_)
  refine lv_aload_n hx hb dL_law_599 rfl (lv_at hl 3 rfl) ?_
  refine L_argC (k := 1) hx hb hl rfl rfl hX hbl hbA hw.2.2.2 (by omega) hL9 rfl dL_law_600 dL_law_601 dL_law_603 (by decide) dL_law_604 dL_law_605 ?_
  refine L_bool (pz := 613) hx hb dL_law_606 (by decide) dL_law_609 dL_law_610 (by decide) dL_law_613 ?_
  refine L_argC (k := 2) hx hb hl rfl rfl hX hbl hbA hw.2.2.2 (by omega) hL9 rfl dL_law_614 dL_law_615 dL_law_617 (by decide) dL_law_618 dL_law_619 ?_
  refine L_argC (k := 3) hx hb hl rfl rfl hX hbl hbA hw.2.2.2 (by omega) hL9 rfl dL_law_620 dL_law_621 dL_law_623 (by decide) dL_law_624 dL_law_625 ?_
  refine L_callM S hKM g hw (As := [.int (if xs (i + 1) = 0 then 0 else 1), .int (xs (i + 2)), .int (xs (i + 3))]) (rest := [.int r]) (mX12_part l EM hLM sm f2) (cwV 3 S.2.2.2.2 gL_law_X12_part rfl rfl rfl (by decide +kernel) ⟨Nat.le_of_ble_eq_true rfl, Nat.le_of_ble_eq_true rfl⟩) rfl hl.1 rfl (Nat.le_of_ble_eq_true rfl) dL_law_626 hrm (fun H locs hw => ?_)
  refine lv_icmp_eq (tgt := 2036) hx hb dL_law_629 (by decide) (fun _ => ?_) (fun hc => absurd rfl hc)
  exact kk x1 m1 H locs hR1 hw
set_option maxHeartbeats 4000000 in
set_option maxRecDepth 100000 in
theorem lawC_10 {p : Program} {l : Launch} {e : Jvm.Env} {s : State} {m : MethodId} {below : List Frame} {meth : Method} {c : Code} {E EM : XE} {oA h b L i cells slots : Nat} {aL : ClassId} {xs : Nat → Int32} {st sm : Sto} {w : Nat → Int64} {H : Heap} {locs : List Loc} {Q : State → Prop} {ls : Array Slot} (F : LawFix p l s m c E EM oA aL h b L xs) (hi : i + 9 ≤ L) (hl : lv_has ls 7 (LawV E EM oA b i)) (hR : Rel st sm) (hw : LSt E EM oA aL h st sm w s H locs) (hrm : cells ≤ 601024 ∧ slots ≤ 7293034) (kk : ∀ (st1 sm1 : Sto) (H1 : Heap) (locs1 : List Loc), Rel st1 sm1 → LSt E EM oA aL h st1 sm1 w s H1 locs1 → W p l e room_1 s m #[Value.ref b] below meth c H1 locs1 cells slots Q (F0 m 2036 ls [])) : W p l e room_1 s m #[Value.ref b] below meth c H locs cells slots Q (F0 m 634 ls []) := by
  obtain ⟨hx, S, hK, hKM, g, hL, hLM, hX, hbl, hbA, hL9, _⟩ := F
  have hb := S.2.1
  obtain ⟨r, x1, m1, f1, f2, hR1⟩ := b_predict hR (xs (i + 1))
  refine lv_aload_n hx hb dL_law_634 rfl (lv_at hl 2 rfl) ?_
  refine L_argC (k := 1) hx hb hl rfl rfl hX hbl hbA hw.2.2.2 (by omega) hL9 rfl dL_law_635 dL_law_636 dL_law_638 (by decide) dL_law_639 dL_law_640 ?_
  refine L_callX S hK g hw (As := [.int (xs (i + 1))]) (rest := []) (mX11_predict l E hL st f1) (cwV 1 S.2.2.2.2 gL_law_X11_predict rfl rfl rfl (by decide +kernel) ⟨Nat.le_of_ble_eq_true rfl, Nat.le_of_ble_eq_true rfl⟩) rfl hl.1 rfl (Nat.le_of_ble_eq_true rfl) dL_law_641 hrm (fun H locs hw => ?_)
  refine lv_aload_n hx hb dL_law_644 rfl (lv_at hl 3 rfl) ?_
  refine L_argC (k := 1) hx hb hl rfl rfl hX hbl hbA hw.2.2.2 (by omega) hL9 rfl dL_law_645 dL_law_646 dL_law_648 (by decide) dL_law_649 dL_law_650 ?_
  refine L_callM S hKM g hw (As := [.int (xs (i + 1))]) (rest := [.int r]) (mX12_predict l EM hLM sm f2) (cwV 1 S.2.2.2.2 gL_law_X12_predict rfl rfl rfl (by decide +kernel) ⟨Nat.le_of_ble_eq_true rfl, Nat.le_of_ble_eq_true rfl⟩) rfl hl.1 rfl (Nat.le_of_ble_eq_true rfl) dL_law_651 hrm (fun H locs hw => ?_)
  refine lv_icmp_eq (tgt := 2036) hx hb dL_law_654 (by decide) (fun _ => ?_) (fun hc => absurd rfl hc)
  exact kk x1 m1 H locs hR1 hw
set_option maxHeartbeats 4000000 in
set_option maxRecDepth 100000 in
theorem lawC_11 {p : Program} {l : Launch} {e : Jvm.Env} {s : State} {m : MethodId} {below : List Frame} {meth : Method} {c : Code} {E EM : XE} {oA h b L i cells slots : Nat} {aL : ClassId} {xs : Nat → Int32} {st sm : Sto} {w : Nat → Int64} {H : Heap} {locs : List Loc} {Q : State → Prop} {ls : Array Slot} (F : LawFix p l s m c E EM oA aL h b L xs) (hi : i + 9 ≤ L) (hl : lv_has ls 7 (LawV E EM oA b i)) (hR : Rel st sm) (hw : LSt E EM oA aL h st sm w s H locs) (hrm : cells ≤ 601024 ∧ slots ≤ 7293034) (kk : ∀ (st1 sm1 : Sto) (H1 : Heap) (locs1 : List Loc), Rel st1 sm1 → LSt E EM oA aL h st1 sm1 w s H1 locs1 → W p l e room_1 s m #[Value.ref b] below meth c H1 locs1 cells slots Q (F0 m 2036 ls [])) : W p l e room_1 s m #[Value.ref b] below meth c H locs cells slots Q (F0 m 659 ls []) := by
  obtain ⟨hx, S, hK, hKM, g, hL, hLM, hX, hbl, hbA, hL9, _⟩ := F
  have hb := S.2.1
  obtain ⟨r, x1, m1, f1, f2, hR1⟩ := b_light hR (xs (i + 1)) (xs (i + 2)) (xs (i + 3))
  refine lv_aload_n hx hb dL_law_659 rfl (lv_at hl 2 rfl) ?_
  refine L_argC (k := 1) hx hb hl rfl rfl hX hbl hbA hw.2.2.2 (by omega) hL9 rfl dL_law_660 dL_law_661 dL_law_663 (by decide) dL_law_664 dL_law_665 ?_
  refine L_argC (k := 2) hx hb hl rfl rfl hX hbl hbA hw.2.2.2 (by omega) hL9 rfl dL_law_666 dL_law_667 dL_law_669 (by decide) dL_law_670 dL_law_671 ?_
  refine L_argC (k := 3) hx hb hl rfl rfl hX hbl hbA hw.2.2.2 (by omega) hL9 rfl dL_law_672 dL_law_673 dL_law_675 (by decide) dL_law_676 dL_law_677 ?_
  refine L_callX S hK g hw (As := [.int (xs (i + 1)), .int (xs (i + 2)), .int (xs (i + 3))]) (rest := []) (mX11_light l E hL st f1) (cwV 3 S.2.2.2.2 gL_law_X11_light rfl rfl rfl (by decide +kernel) ⟨Nat.le_of_ble_eq_true rfl, Nat.le_of_ble_eq_true rfl⟩) rfl hl.1 rfl (Nat.le_of_ble_eq_true rfl) dL_law_678 hrm (fun H locs hw => ?_)
  refine lv_aload_n hx hb dL_law_681 rfl (lv_at hl 3 rfl) ?_
  refine L_argC (k := 1) hx hb hl rfl rfl hX hbl hbA hw.2.2.2 (by omega) hL9 rfl dL_law_682 dL_law_683 dL_law_685 (by decide) dL_law_686 dL_law_687 ?_
  refine L_argC (k := 2) hx hb hl rfl rfl hX hbl hbA hw.2.2.2 (by omega) hL9 rfl dL_law_688 dL_law_689 dL_law_691 (by decide) dL_law_692 dL_law_693 ?_
  refine L_argC (k := 3) hx hb hl rfl rfl hX hbl hbA hw.2.2.2 (by omega) hL9 rfl dL_law_694 dL_law_695 dL_law_697 (by decide) dL_law_698 dL_law_699 ?_
  refine L_callM S hKM g hw (As := [.int (xs (i + 1)), .int (xs (i + 2)), .int (xs (i + 3))]) (rest := [.int r]) (mX12_light l EM hLM sm f2) (cwV 3 S.2.2.2.2 gL_law_X12_light rfl rfl rfl (by decide +kernel) ⟨Nat.le_of_ble_eq_true rfl, Nat.le_of_ble_eq_true rfl⟩) rfl hl.1 rfl (Nat.le_of_ble_eq_true rfl) dL_law_700 hrm (fun H locs hw => ?_)
  refine lv_icmp_eq (tgt := 2036) hx hb dL_law_703 (by decide) (fun _ => ?_) (fun hc => absurd rfl hc)
  exact kk x1 m1 H locs hR1 hw
set_option maxHeartbeats 4000000 in
set_option maxRecDepth 100000 in
theorem lawC_12 {p : Program} {l : Launch} {e : Jvm.Env} {s : State} {m : MethodId} {below : List Frame} {meth : Method} {c : Code} {E EM : XE} {oA h b L i cells slots : Nat} {aL : ClassId} {xs : Nat → Int32} {st sm : Sto} {w : Nat → Int64} {H : Heap} {locs : List Loc} {Q : State → Prop} {ls : Array Slot} (F : LawFix p l s m c E EM oA aL h b L xs) (hi : i + 9 ≤ L) (hl : lv_has ls 7 (LawV E EM oA b i)) (hR : Rel st sm) (hw : LSt E EM oA aL h st sm w s H locs) (hrm : cells ≤ 601024 ∧ slots ≤ 7293034) (kk : ∀ (st1 sm1 : Sto) (H1 : Heap) (locs1 : List Loc), Rel st1 sm1 → LSt E EM oA aL h st1 sm1 w s H1 locs1 → W p l e room_1 s m #[Value.ref b] below meth c H1 locs1 cells slots Q (F0 m 2036 ls [])) : W p l e room_1 s m #[Value.ref b] below meth c H locs cells slots Q (F0 m 708 ls []) := by
  obtain ⟨hx, S, hK, hKM, g, hL, hLM, hX, hbl, hbA, hL9, _⟩ := F
  have hb := S.2.1
  obtain ⟨r, x1, m1, f1, f2, hR1⟩ := b_eye hR (xs (i + 1)) (xs (i + 2)) (xs (i + 3)) (xs (i + 4))
  refine lv_aload_n hx hb dL_law_708 rfl (lv_at hl 2 rfl) ?_
  refine L_argC (k := 1) hx hb hl rfl rfl hX hbl hbA hw.2.2.2 (by omega) hL9 rfl dL_law_709 dL_law_710 dL_law_712 (by decide) dL_law_713 dL_law_714 ?_
  refine L_argC (k := 2) hx hb hl rfl rfl hX hbl hbA hw.2.2.2 (by omega) hL9 rfl dL_law_715 dL_law_716 dL_law_718 (by decide) dL_law_719 dL_law_720 ?_
  refine L_argC (k := 3) hx hb hl rfl rfl hX hbl hbA hw.2.2.2 (by omega) hL9 rfl dL_law_721 dL_law_722 dL_law_724 (by decide) dL_law_725 dL_law_726 ?_
  refine L_argC (k := 4) hx hb hl rfl rfl hX hbl hbA hw.2.2.2 (by omega) hL9 rfl dL_law_727 dL_law_728 dL_law_730 (by decide) dL_law_731 dL_law_732 ?_
  refine L_callX S hK g hw (As := [.int (xs (i + 1)), .int (xs (i + 2)), .int (xs (i + 3)), .int (xs (i + 4))]) (rest := []) (mX11_eye l E hL st f1) (cwV 4 S.2.2.2.2 gL_law_X11_eye rfl rfl rfl (by decide +kernel) ⟨Nat.le_of_ble_eq_true rfl, Nat.le_of_ble_eq_true rfl⟩) rfl hl.1 rfl (Nat.le_of_ble_eq_true rfl) dL_law_733 hrm (fun H locs hw => ?_)
  refine lv_aload_n hx hb dL_law_736 rfl (lv_at hl 3 rfl) ?_
  refine L_argC (k := 1) hx hb hl rfl rfl hX hbl hbA hw.2.2.2 (by omega) hL9 rfl dL_law_737 dL_law_738 dL_law_740 (by decide) dL_law_741 dL_law_742 ?_
  refine L_argC (k := 2) hx hb hl rfl rfl hX hbl hbA hw.2.2.2 (by omega) hL9 rfl dL_law_743 dL_law_744 dL_law_746 (by decide) dL_law_747 dL_law_748 ?_
  refine L_argC (k := 3) hx hb hl rfl rfl hX hbl hbA hw.2.2.2 (by omega) hL9 rfl dL_law_749 dL_law_750 dL_law_752 (by decide) dL_law_753 dL_law_754 ?_
  refine L_argC (k := 4) hx hb hl rfl rfl hX hbl hbA hw.2.2.2 (by omega) hL9 rfl dL_law_755 dL_law_756 dL_law_758 (by decide) dL_law_759 dL_law_760 ?_
  refine L_callM S hKM g hw (As := [.int (xs (i + 1)), .int (xs (i + 2)), .int (xs (i + 3)), .int (xs (i + 4))]) (rest := [.int r]) (mX12_eye l EM hLM sm f2) (cwV 4 S.2.2.2.2 gL_law_X12_eye rfl rfl rfl (by decide +kernel) ⟨Nat.le_of_ble_eq_true rfl, Nat.le_of_ble_eq_true rfl⟩) rfl hl.1 rfl (Nat.le_of_ble_eq_true rfl) dL_law_761 hrm (fun H locs hw => ?_)
  refine lv_icmp_eq (tgt := 2036) hx hb dL_law_764 (by decide) (fun _ => ?_) (fun hc => absurd rfl hc)
  exact kk x1 m1 H locs hR1 hw
set_option maxHeartbeats 4000000 in
set_option maxRecDepth 100000 in
theorem lawC_13 {p : Program} {l : Launch} {e : Jvm.Env} {s : State} {m : MethodId} {below : List Frame} {meth : Method} {c : Code} {E EM : XE} {oA h b L i cells slots : Nat} {aL : ClassId} {xs : Nat → Int32} {st sm : Sto} {w : Nat → Int64} {H : Heap} {locs : List Loc} {Q : State → Prop} {ls : Array Slot} (F : LawFix p l s m c E EM oA aL h b L xs) (hi : i + 9 ≤ L) (hl : lv_has ls 7 (LawV E EM oA b i)) (hR : Rel st sm) (hw : LSt E EM oA aL h st sm w s H locs) (hrm : cells ≤ 601024 ∧ slots ≤ 7293034) (kk : ∀ (st1 sm1 : Sto) (H1 : Heap) (locs1 : List Loc), Rel st1 sm1 → LSt E EM oA aL h st1 sm1 w s H1 locs1 → W p l e room_1 s m #[Value.ref b] below meth c H1 locs1 cells slots Q (F0 m 2036 ls [])) : W p l e room_1 s m #[Value.ref b] below meth c H locs cells slots Q (F0 m 769 ls []) := by
  obtain ⟨hx, S, hK, hKM, g, hL, hLM, hX, hbl, hbA, hL9, _⟩ := F
  have hb := S.2.1
  obtain ⟨r, x1, m1, f1, f2, hR1⟩ := b_measure hR (xs (i + 1)) (xs (i + 2)) (xs (i + 3))
  refine lv_aload_n hx hb dL_law_769 rfl (lv_at hl 2 rfl) ?_
  refine L_argC (k := 1) hx hb hl rfl rfl hX hbl hbA hw.2.2.2 (by omega) hL9 rfl dL_law_770 dL_law_771 dL_law_773 (by decide) dL_law_774 dL_law_775 ?_
  refine L_argC (k := 2) hx hb hl rfl rfl hX hbl hbA hw.2.2.2 (by omega) hL9 rfl dL_law_776 dL_law_777 dL_law_779 (by decide) dL_law_780 dL_law_781 ?_
  refine L_argC (k := 3) hx hb hl rfl rfl hX hbl hbA hw.2.2.2 (by omega) hL9 rfl dL_law_782 dL_law_783 dL_law_785 (by decide) dL_law_786 dL_law_787 ?_
  refine L_callX S hK g hw (As := [.int (xs (i + 1)), .int (xs (i + 2)), .int (xs (i + 3))]) (rest := []) (mX11_measure l E hL st f1) (cwV 3 S.2.2.2.2 gL_law_X11_measure rfl rfl rfl (by decide +kernel) ⟨Nat.le_of_ble_eq_true rfl, Nat.le_of_ble_eq_true rfl⟩) rfl hl.1 rfl (Nat.le_of_ble_eq_true rfl) dL_law_788 hrm (fun H locs hw => ?_)
  refine lv_aload_n hx hb dL_law_791 rfl (lv_at hl 3 rfl) ?_
  refine L_argC (k := 1) hx hb hl rfl rfl hX hbl hbA hw.2.2.2 (by omega) hL9 rfl dL_law_792 dL_law_793 dL_law_795 (by decide) dL_law_796 dL_law_797 ?_
  refine L_argC (k := 2) hx hb hl rfl rfl hX hbl hbA hw.2.2.2 (by omega) hL9 rfl dL_law_798 dL_law_799 dL_law_801 (by decide) dL_law_802 dL_law_803 ?_
  refine L_argC (k := 3) hx hb hl rfl rfl hX hbl hbA hw.2.2.2 (by omega) hL9 rfl dL_law_804 dL_law_805 dL_law_807 (by decide) dL_law_808 dL_law_809 ?_
  refine L_callM S hKM g hw (As := [.int (xs (i + 1)), .int (xs (i + 2)), .int (xs (i + 3))]) (rest := [.int r]) (mX12_measure l EM hLM sm f2) (cwV 3 S.2.2.2.2 gL_law_X12_measure rfl rfl rfl (by decide +kernel) ⟨Nat.le_of_ble_eq_true rfl, Nat.le_of_ble_eq_true rfl⟩) rfl hl.1 rfl (Nat.le_of_ble_eq_true rfl) dL_law_810 hrm (fun H locs hw => ?_)
  refine lv_icmp_eq (tgt := 2036) hx hb dL_law_813 (by decide) (fun _ => ?_) (fun hc => absurd rfl hc)
  exact kk x1 m1 H locs hR1 hw
set_option maxHeartbeats 4000000 in
set_option maxRecDepth 100000 in
theorem lawC_14 {p : Program} {l : Launch} {e : Jvm.Env} {s : State} {m : MethodId} {below : List Frame} {meth : Method} {c : Code} {E EM : XE} {oA h b L i cells slots : Nat} {aL : ClassId} {xs : Nat → Int32} {st sm : Sto} {w : Nat → Int64} {H : Heap} {locs : List Loc} {Q : State → Prop} {ls : Array Slot} (F : LawFix p l s m c E EM oA aL h b L xs) (hi : i + 9 ≤ L) (hl : lv_has ls 7 (LawV E EM oA b i)) (hR : Rel st sm) (hw : LSt E EM oA aL h st sm w s H locs) (hrm : cells ≤ 601024 ∧ slots ≤ 7293034) (kk : ∀ (st1 sm1 : Sto) (H1 : Heap) (locs1 : List Loc), Rel st1 sm1 → LSt E EM oA aL h st1 sm1 w s H1 locs1 → W p l e room_1 s m #[Value.ref b] below meth c H1 locs1 cells slots Q (F0 m 2036 ls [])) : W p l e room_1 s m #[Value.ref b] below meth c H locs cells slots Q (F0 m 818 ls []) := by
  obtain ⟨hx, S, hK, hKM, g, hL, hLM, hX, hbl, hbA, hL9, _⟩ := F
  have hb := S.2.1
  obtain ⟨r, x1, m1, f1, f2, hR1⟩ := b_colour hR (xs (i + 1)) (xs (i + 2)) (xs (i + 3)) (xs (i + 4)) (xs (i + 5))
  refine lv_aload_n hx hb dL_law_818 rfl (lv_at hl 2 rfl) ?_
  refine L_argC (k := 1) hx hb hl rfl rfl hX hbl hbA hw.2.2.2 (by omega) hL9 rfl dL_law_819 dL_law_820 dL_law_822 (by decide) dL_law_823 dL_law_824 ?_
  refine L_argC (k := 2) hx hb hl rfl rfl hX hbl hbA hw.2.2.2 (by omega) hL9 rfl dL_law_825 dL_law_826 dL_law_828 (by decide) dL_law_829 dL_law_830 ?_
  refine L_argC (k := 3) hx hb hl rfl rfl hX hbl hbA hw.2.2.2 (by omega) hL9 rfl dL_law_831 dL_law_832 dL_law_834 (by decide) dL_law_835 dL_law_836 ?_
  refine L_argC (k := 4) hx hb hl rfl rfl hX hbl hbA hw.2.2.2 (by omega) hL9 rfl dL_law_837 dL_law_838 dL_law_840 (by decide) dL_law_841 dL_law_842 ?_
  refine L_argC (k := 5) hx hb hl rfl rfl hX hbl hbA hw.2.2.2 (by omega) hL9 rfl dL_law_843 dL_law_844 dL_law_846 (by decide) dL_law_847 dL_law_848 ?_
  refine L_callX S hK g hw (As := [.int (xs (i + 1)), .int (xs (i + 2)), .int (xs (i + 3)), .int (xs (i + 4)), .int (xs (i + 5))]) (rest := []) (mX11_colour l E hL st f1) (cwV 5 S.2.2.2.2 gL_law_X11_colour rfl rfl rfl (by decide +kernel) ⟨Nat.le_of_ble_eq_true rfl, Nat.le_of_ble_eq_true rfl⟩) rfl hl.1 rfl (Nat.le_of_ble_eq_true rfl) dL_law_849 hrm (fun H locs hw => ?_)
  refine lv_aload_n hx hb dL_law_852 rfl (lv_at hl 3 rfl) ?_
  refine L_argC (k := 1) hx hb hl rfl rfl hX hbl hbA hw.2.2.2 (by omega) hL9 rfl dL_law_853 dL_law_854 dL_law_856 (by decide) dL_law_857 dL_law_858 ?_
  refine L_argC (k := 2) hx hb hl rfl rfl hX hbl hbA hw.2.2.2 (by omega) hL9 rfl dL_law_859 dL_law_860 dL_law_862 (by decide) dL_law_863 dL_law_864 ?_
  refine L_argC (k := 3) hx hb hl rfl rfl hX hbl hbA hw.2.2.2 (by omega) hL9 rfl dL_law_865 dL_law_866 dL_law_868 (by decide) dL_law_869 dL_law_870 ?_
  refine L_argC (k := 4) hx hb hl rfl rfl hX hbl hbA hw.2.2.2 (by omega) hL9 rfl dL_law_871 dL_law_872 dL_law_874 (by decide) dL_law_875 dL_law_876 ?_
  refine L_argC (k := 5) hx hb hl rfl rfl hX hbl hbA hw.2.2.2 (by omega) hL9 rfl dL_law_877 dL_law_878 dL_law_880 (by decide) dL_law_881 dL_law_882 ?_
  refine L_callM S hKM g hw (As := [.int (xs (i + 1)), .int (xs (i + 2)), .int (xs (i + 3)), .int (xs (i + 4)), .int (xs (i + 5))]) (rest := [.long r]) (mX12_colour l EM hLM sm f2) (cwV 5 S.2.2.2.2 gL_law_X12_colour rfl rfl rfl (by decide +kernel) ⟨Nat.le_of_ble_eq_true rfl, Nat.le_of_ble_eq_true rfl⟩) rfl hl.1 rfl (Nat.le_of_ble_eq_true rfl) dL_law_883 hrm (fun H locs hw => ?_)
  refine W.lcmp hx hb dL_law_886 ?_
  rw [lg_cmp_self]
  refine lv_if_eq (tgt := 2036) hx hb dL_law_887 (by decide) (fun _ => ?_) (fun hc => absurd rfl hc)
  exact kk x1 m1 H locs hR1 hw
set_option maxHeartbeats 4000000 in
set_option maxRecDepth 100000 in
theorem lawC_15 {p : Program} {l : Launch} {e : Jvm.Env} {s : State} {m : MethodId} {below : List Frame} {meth : Method} {c : Code} {E EM : XE} {oA h b L i cells slots : Nat} {aL : ClassId} {xs : Nat → Int32} {st sm : Sto} {w : Nat → Int64} {H : Heap} {locs : List Loc} {Q : State → Prop} {ls : Array Slot} (F : LawFix p l s m c E EM oA aL h b L xs) (hi : i + 9 ≤ L) (hl : lv_has ls 7 (LawV E EM oA b i)) (hR : Rel st sm) (hw : LSt E EM oA aL h st sm w s H locs) (hrm : cells ≤ 601024 ∧ slots ≤ 7293034) (kk : ∀ (st1 sm1 : Sto) (H1 : Heap) (locs1 : List Loc), Rel st1 sm1 → LSt E EM oA aL h st1 sm1 w s H1 locs1 → W p l e room_1 s m #[Value.ref b] below meth c H1 locs1 cells slots Q (F0 m 2036 ls [])) : W p l e room_1 s m #[Value.ref b] below meth c H locs cells slots Q (F0 m 892 ls []) := by
  obtain ⟨hx, S, hK, hKM, g, hL, hLM, hX, hbl, hbA, hL9, _⟩ := F
  have hb := S.2.1
  obtain ⟨r, x1, m1, f1, f2, hR1⟩ := b_distance hR (xs (i + 1)) (xs (i + 2)) (xs (i + 3)) (xs (i + 4))
  refine lv_aload_n hx hb dL_law_892 rfl (lv_at hl 2 rfl) ?_
  refine L_argC (k := 1) hx hb hl rfl rfl hX hbl hbA hw.2.2.2 (by omega) hL9 rfl dL_law_893 dL_law_894 dL_law_896 (by decide) dL_law_897 dL_law_898 ?_
  refine L_argC (k := 2) hx hb hl rfl rfl hX hbl hbA hw.2.2.2 (by omega) hL9 rfl dL_law_899 dL_law_900 dL_law_902 (by decide) dL_law_903 dL_law_904 ?_
  refine L_argC (k := 3) hx hb hl rfl rfl hX hbl hbA hw.2.2.2 (by omega) hL9 rfl dL_law_905 dL_law_906 dL_law_908 (by decide) dL_law_909 dL_law_910 ?_
  refine L_argC (k := 4) hx hb hl rfl rfl hX hbl hbA hw.2.2.2 (by omega) hL9 rfl dL_law_911 dL_law_912 dL_law_914 (by decide) dL_law_915 dL_law_916 ?_
  refine L_callX S hK g hw (As := [.int (xs (i + 1)), .int (xs (i + 2)), .int (xs (i + 3)), .int (xs (i + 4))]) (rest := []) (mX11_distance l E hL st f1) (cwV 4 S.2.2.2.2 gL_law_X11_distance rfl rfl rfl (by decide +kernel) ⟨Nat.le_of_ble_eq_true rfl, Nat.le_of_ble_eq_true rfl⟩) rfl hl.1 rfl (Nat.le_of_ble_eq_true rfl) dL_law_917 hrm (fun H locs hw => ?_)
  refine lv_aload_n hx hb dL_law_920 rfl (lv_at hl 3 rfl) ?_
  refine L_argC (k := 1) hx hb hl rfl rfl hX hbl hbA hw.2.2.2 (by omega) hL9 rfl dL_law_921 dL_law_922 dL_law_924 (by decide) dL_law_925 dL_law_926 ?_
  refine L_argC (k := 2) hx hb hl rfl rfl hX hbl hbA hw.2.2.2 (by omega) hL9 rfl dL_law_927 dL_law_928 dL_law_930 (by decide) dL_law_931 dL_law_932 ?_
  refine L_argC (k := 3) hx hb hl rfl rfl hX hbl hbA hw.2.2.2 (by omega) hL9 rfl dL_law_933 dL_law_934 dL_law_936 (by decide) dL_law_937 dL_law_938 ?_
  refine L_argC (k := 4) hx hb hl rfl rfl hX hbl hbA hw.2.2.2 (by omega) hL9 rfl dL_law_939 dL_law_940 dL_law_942 (by decide) dL_law_943 dL_law_944 ?_
  refine L_callM S hKM g hw (As := [.int (xs (i + 1)), .int (xs (i + 2)), .int (xs (i + 3)), .int (xs (i + 4))]) (rest := [.long r]) (mX12_distance l EM hLM sm f2) (cwV 4 S.2.2.2.2 gL_law_X12_distance rfl rfl rfl (by decide +kernel) ⟨Nat.le_of_ble_eq_true rfl, Nat.le_of_ble_eq_true rfl⟩) rfl hl.1 rfl (Nat.le_of_ble_eq_true rfl) dL_law_945 hrm (fun H locs hw => ?_)
  refine W.lcmp hx hb dL_law_948 ?_
  rw [lg_cmp_self]
  refine lv_if_eq (tgt := 2036) hx hb dL_law_949 (by decide) (fun _ => ?_) (fun hc => absurd rfl hc)
  exact kk x1 m1 H locs hR1 hw
set_option maxHeartbeats 4000000 in
set_option maxRecDepth 100000 in
theorem lawC_16 {p : Program} {l : Launch} {e : Jvm.Env} {s : State} {m : MethodId} {below : List Frame} {meth : Method} {c : Code} {E EM : XE} {oA h b L i cells slots : Nat} {aL : ClassId} {xs : Nat → Int32} {st sm : Sto} {w : Nat → Int64} {H : Heap} {locs : List Loc} {Q : State → Prop} {ls : Array Slot} (F : LawFix p l s m c E EM oA aL h b L xs) (hi : i + 9 ≤ L) (hl : lv_has ls 7 (LawV E EM oA b i)) (hR : Rel st sm) (hw : LSt E EM oA aL h st sm w s H locs) (hrm : cells ≤ 601024 ∧ slots ≤ 7293034) (kk : ∀ (st1 sm1 : Sto) (H1 : Heap) (locs1 : List Loc), Rel st1 sm1 → LSt E EM oA aL h st1 sm1 w s H1 locs1 → W p l e room_1 s m #[Value.ref b] below meth c H1 locs1 cells slots Q (F0 m 2036 ls [])) : W p l e room_1 s m #[Value.ref b] below meth c H locs cells slots Q (F0 m 954 ls []) := by
  obtain ⟨hx, S, hK, hKM, g, hL, hLM, hX, hbl, hbA, hL9, _⟩ := F
  have hb := S.2.1
  obtain ⟨r, x1, m1, f1, f2, hR1⟩ := b_nearest hR (xs (i + 1)) (xs (i + 2)) (xs (i + 3))
  refine lv_aload_n hx hb dL_law_954 rfl (lv_at hl 2 rfl) ?_
  refine L_argC (k := 1) hx hb hl rfl rfl hX hbl hbA hw.2.2.2 (by omega) hL9 rfl dL_law_955 dL_law_956 dL_law_958 (by decide) dL_law_959 dL_law_960 ?_
  refine L_argC (k := 2) hx hb hl rfl rfl hX hbl hbA hw.2.2.2 (by omega) hL9 rfl dL_law_961 dL_law_962 dL_law_964 (by decide) dL_law_965 dL_law_966 ?_
  refine L_argC (k := 3) hx hb hl rfl rfl hX hbl hbA hw.2.2.2 (by omega) hL9 rfl dL_law_967 dL_law_968 dL_law_970 (by decide) dL_law_971 dL_law_972 ?_
  refine L_callX S hK g hw (As := [.int (xs (i + 1)), .int (xs (i + 2)), .int (xs (i + 3))]) (rest := []) (mX11_nearest l E hL st f1) (cwV 3 S.2.2.2.2 gL_law_X11_nearest rfl rfl rfl (by decide +kernel) ⟨Nat.le_of_ble_eq_true rfl, Nat.le_of_ble_eq_true rfl⟩) rfl hl.1 rfl (Nat.le_of_ble_eq_true rfl) dL_law_973 hrm (fun H locs hw => ?_)
  refine lv_aload_n hx hb dL_law_976 rfl (lv_at hl 3 rfl) ?_
  refine L_argC (k := 1) hx hb hl rfl rfl hX hbl hbA hw.2.2.2 (by omega) hL9 rfl dL_law_977 dL_law_978 dL_law_980 (by decide) dL_law_981 dL_law_982 ?_
  refine L_argC (k := 2) hx hb hl rfl rfl hX hbl hbA hw.2.2.2 (by omega) hL9 rfl dL_law_983 dL_law_984 dL_law_986 (by decide) dL_law_987 dL_law_988 ?_
  refine L_argC (k := 3) hx hb hl rfl rfl hX hbl hbA hw.2.2.2 (by omega) hL9 rfl dL_law_989 dL_law_990 dL_law_992 (by decide) dL_law_993 dL_law_994 ?_
  refine L_callM S hKM g hw (As := [.int (xs (i + 1)), .int (xs (i + 2)), .int (xs (i + 3))]) (rest := [.int r]) (mX12_nearest l EM hLM sm f2) (cwV 3 S.2.2.2.2 gL_law_X12_nearest rfl rfl rfl (by decide +kernel) ⟨Nat.le_of_ble_eq_true rfl, Nat.le_of_ble_eq_true rfl⟩) rfl hl.1 rfl (Nat.le_of_ble_eq_true rfl) dL_law_995 hrm (fun H locs hw => ?_)
  refine lv_icmp_eq (tgt := 2036) hx hb dL_law_998 (by decide) (fun _ => ?_) (fun hc => absurd rfl hc)
  exact kk x1 m1 H locs hR1 hw
set_option maxHeartbeats 4000000 in
set_option maxRecDepth 100000 in
theorem lawC_17 {p : Program} {l : Launch} {e : Jvm.Env} {s : State} {m : MethodId} {below : List Frame} {meth : Method} {c : Code} {E EM : XE} {oA h b L i cells slots : Nat} {aL : ClassId} {xs : Nat → Int32} {st sm : Sto} {w : Nat → Int64} {H : Heap} {locs : List Loc} {Q : State → Prop} {ls : Array Slot} (F : LawFix p l s m c E EM oA aL h b L xs) (hi : i + 9 ≤ L) (hl : lv_has ls 7 (LawV E EM oA b i)) (hR : Rel st sm) (hw : LSt E EM oA aL h st sm w s H locs) (hrm : cells ≤ 601024 ∧ slots ≤ 7293034) (kk : ∀ (st1 sm1 : Sto) (H1 : Heap) (locs1 : List Loc), Rel st1 sm1 → LSt E EM oA aL h st1 sm1 w s H1 locs1 → W p l e room_1 s m #[Value.ref b] below meth c H1 locs1 cells slots Q (F0 m 2036 ls [])) : W p l e room_1 s m #[Value.ref b] below meth c H locs cells slots Q (F0 m 1003 ls []) := by
  obtain ⟨hx, S, hK, hKM, g, hL, hLM, hX, hbl, hbA, hL9, _⟩ := F
  have hb := S.2.1
  obtain ⟨r, x1, m1, f1, f2, hR1⟩ := b_parting hR (xs (i + 1)) (xs (i + 2)) (xs (i + 3))
  refine lv_aload_n hx hb dL_law_1003 rfl (lv_at hl 2 rfl) ?_
  refine L_argC (k := 1) hx hb hl rfl rfl hX hbl hbA hw.2.2.2 (by omega) hL9 rfl dL_law_1004 dL_law_1005 dL_law_1007 (by decide) dL_law_1008 dL_law_1009 ?_
  refine L_argC (k := 2) hx hb hl rfl rfl hX hbl hbA hw.2.2.2 (by omega) hL9 rfl dL_law_1010 dL_law_1011 dL_law_1013 (by decide) dL_law_1014 dL_law_1015 ?_
  refine L_argC (k := 3) hx hb hl rfl rfl hX hbl hbA hw.2.2.2 (by omega) hL9 rfl dL_law_1016 dL_law_1017 dL_law_1019 (by decide) dL_law_1020 dL_law_1021 ?_
  refine L_callX S hK g hw (As := [.int (xs (i + 1)), .int (xs (i + 2)), .int (xs (i + 3))]) (rest := []) (mX11_parting l E hL st f1) (cwV 3 S.2.2.2.2 gL_law_X11_parting rfl rfl rfl (by decide +kernel) ⟨Nat.le_of_ble_eq_true rfl, Nat.le_of_ble_eq_true rfl⟩) rfl hl.1 rfl (Nat.le_of_ble_eq_true rfl) dL_law_1022 hrm (fun H locs hw => ?_)
  refine lv_aload_n hx hb dL_law_1025 rfl (lv_at hl 3 rfl) ?_
  refine L_argC (k := 1) hx hb hl rfl rfl hX hbl hbA hw.2.2.2 (by omega) hL9 rfl dL_law_1026 dL_law_1027 dL_law_1029 (by decide) dL_law_1030 dL_law_1031 ?_
  refine L_argC (k := 2) hx hb hl rfl rfl hX hbl hbA hw.2.2.2 (by omega) hL9 rfl dL_law_1032 dL_law_1033 dL_law_1035 (by decide) dL_law_1036 dL_law_1037 ?_
  refine L_argC (k := 3) hx hb hl rfl rfl hX hbl hbA hw.2.2.2 (by omega) hL9 rfl dL_law_1038 dL_law_1039 dL_law_1041 (by decide) dL_law_1042 dL_law_1043 ?_
  refine L_callM S hKM g hw (As := [.int (xs (i + 1)), .int (xs (i + 2)), .int (xs (i + 3))]) (rest := [.int r]) (mX12_parting l EM hLM sm f2) (cwV 3 S.2.2.2.2 gL_law_X12_parting rfl rfl rfl (by decide +kernel) ⟨Nat.le_of_ble_eq_true rfl, Nat.le_of_ble_eq_true rfl⟩) rfl hl.1 rfl (Nat.le_of_ble_eq_true rfl) dL_law_1044 hrm (fun H locs hw => ?_)
  refine lv_icmp_eq (tgt := 2036) hx hb dL_law_1047 (by decide) (fun _ => ?_) (fun hc => absurd rfl hc)
  exact kk x1 m1 H locs hR1 hw
set_option maxHeartbeats 4000000 in
set_option maxRecDepth 100000 in
theorem lawC_18 {p : Program} {l : Launch} {e : Jvm.Env} {s : State} {m : MethodId} {below : List Frame} {meth : Method} {c : Code} {E EM : XE} {oA h b L i cells slots : Nat} {aL : ClassId} {xs : Nat → Int32} {st sm : Sto} {w : Nat → Int64} {H : Heap} {locs : List Loc} {Q : State → Prop} {ls : Array Slot} (F : LawFix p l s m c E EM oA aL h b L xs) (hi : i + 9 ≤ L) (hl : lv_has ls 7 (LawV E EM oA b i)) (hR : Rel st sm) (hw : LSt E EM oA aL h st sm w s H locs) (hrm : cells ≤ 601024 ∧ slots ≤ 7293034) (kk : ∀ (st1 sm1 : Sto) (H1 : Heap) (locs1 : List Loc), Rel st1 sm1 → LSt E EM oA aL h st1 sm1 w s H1 locs1 → W p l e room_1 s m #[Value.ref b] below meth c H1 locs1 cells slots Q (F0 m 2036 ls [])) : W p l e room_1 s m #[Value.ref b] below meth c H locs cells slots Q (F0 m 1052 ls []) := by
  obtain ⟨hx, S, hK, hKM, g, hL, hLM, hX, hbl, hbA, hL9, _⟩ := F
  have hb := S.2.1
  obtain ⟨r, x1, m1, f1, f2, hR1⟩ := b_solid hR (xs (i + 1)) (xs (i + 2)) (xs (i + 3)) (xs (i + 4)) (xs (i + 5)) (xs (i + 6)) (xs (i + 7))
  refine lv_aload_n hx hb dL_law_1052 rfl (lv_at hl 2 rfl) ?_
  refine L_argC (k := 1) hx hb hl rfl rfl hX hbl hbA hw.2.2.2 (by omega) hL9 rfl dL_law_1053 dL_law_1054 dL_law_1056 (by decide) dL_law_1057 dL_law_1058 ?_
  refine L_argC (k := 2) hx hb hl rfl rfl hX hbl hbA hw.2.2.2 (by omega) hL9 rfl dL_law_1059 dL_law_1060 dL_law_1062 (by decide) dL_law_1063 dL_law_1064 ?_
  refine L_argC (k := 3) hx hb hl rfl rfl hX hbl hbA hw.2.2.2 (by omega) hL9 rfl dL_law_1065 dL_law_1066 dL_law_1068 (by decide) dL_law_1069 dL_law_1070 ?_
  refine L_argC (k := 4) hx hb hl rfl rfl hX hbl hbA hw.2.2.2 (by omega) hL9 rfl dL_law_1071 dL_law_1072 dL_law_1074 (by decide) dL_law_1075 dL_law_1076 ?_
  refine L_argC (k := 5) hx hb hl rfl rfl hX hbl hbA hw.2.2.2 (by omega) hL9 rfl dL_law_1077 dL_law_1078 dL_law_1080 (by decide) dL_law_1081 dL_law_1082 ?_
  refine L_argB (k := 6) hx hb hl rfl rfl hX hbl hbA hw.2.2.2 (by omega) hL9 rfl dL_law_1083 dL_law_1084 dL_law_1086 (by decide) dL_law_1088 dL_law_1089 ?_
  refine L_argB (k := 7) hx hb hl rfl rfl hX hbl hbA hw.2.2.2 (by omega) hL9 rfl dL_law_1090 dL_law_1091 dL_law_1093 (by decide) dL_law_1095 dL_law_1096 ?_
  refine L_callX S hK g hw (As := [.int (xs (i + 1)), .int (xs (i + 2)), .int (xs (i + 3)), .int (xs (i + 4)), .int (xs (i + 5)), .int (xs (i + 6)), .int (xs (i + 7))]) (rest := []) (mX11_solid l E hL st f1) (cwV 7 S.2.2.2.2 gL_law_X11_solid rfl rfl rfl (by decide +kernel) ⟨Nat.le_of_ble_eq_true rfl, Nat.le_of_ble_eq_true rfl⟩) rfl hl.1 rfl (Nat.le_of_ble_eq_true rfl) dL_law_1097 hrm (fun H locs hw => ?_)
  refine lv_aload_n hx hb dL_law_1100 rfl (lv_at hl 3 rfl) ?_
  refine L_argC (k := 1) hx hb hl rfl rfl hX hbl hbA hw.2.2.2 (by omega) hL9 rfl dL_law_1101 dL_law_1102 dL_law_1104 (by decide) dL_law_1105 dL_law_1106 ?_
  refine L_argC (k := 2) hx hb hl rfl rfl hX hbl hbA hw.2.2.2 (by omega) hL9 rfl dL_law_1107 dL_law_1108 dL_law_1110 (by decide) dL_law_1111 dL_law_1112 ?_
  refine L_argC (k := 3) hx hb hl rfl rfl hX hbl hbA hw.2.2.2 (by omega) hL9 rfl dL_law_1113 dL_law_1114 dL_law_1116 (by decide) dL_law_1117 dL_law_1118 ?_
  refine L_argC (k := 4) hx hb hl rfl rfl hX hbl hbA hw.2.2.2 (by omega) hL9 rfl dL_law_1119 dL_law_1120 dL_law_1122 (by decide) dL_law_1123 dL_law_1124 ?_
  refine L_argC (k := 5) hx hb hl rfl rfl hX hbl hbA hw.2.2.2 (by omega) hL9 rfl dL_law_1125 dL_law_1126 dL_law_1128 (by decide) dL_law_1129 dL_law_1130 ?_
  refine L_argB (k := 6) hx hb hl rfl rfl hX hbl hbA hw.2.2.2 (by omega) hL9 rfl dL_law_1131 dL_law_1132 dL_law_1134 (by decide) dL_law_1136 dL_law_1137 ?_
  refine L_argB (k := 7) hx hb hl rfl rfl hX hbl hbA hw.2.2.2 (by omega) hL9 rfl dL_law_1138 dL_law_1139 dL_law_1141 (by decide) dL_law_1143 dL_law_1144 ?_
  refine L_callM S hKM g hw (As := [.int (xs (i + 1)), .int (xs (i + 2)), .int (xs (i + 3)), .int (xs (i + 4)), .int (xs (i + 5)), .int (xs (i + 6)), .int (xs (i + 7))]) (rest := [.int r]) (mX12_solid l EM hLM sm f2) (cwV 7 S.2.2.2.2 gL_law_X12_solid rfl rfl rfl (by decide +kernel) ⟨Nat.le_of_ble_eq_true rfl, Nat.le_of_ble_eq_true rfl⟩) rfl hl.1 rfl (Nat.le_of_ble_eq_true rfl) dL_law_1145 hrm (fun H locs hw => ?_)
  refine lv_icmp_eq (tgt := 2036) hx hb dL_law_1148 (by decide) (fun _ => ?_) (fun hc => absurd rfl hc)
  exact kk x1 m1 H locs hR1 hw
set_option maxHeartbeats 4000000 in
set_option maxRecDepth 100000 in
theorem lawC_19 {p : Program} {l : Launch} {e : Jvm.Env} {s : State} {m : MethodId} {below : List Frame} {meth : Method} {c : Code} {E EM : XE} {oA h b L i cells slots : Nat} {aL : ClassId} {xs : Nat → Int32} {st sm : Sto} {w : Nat → Int64} {H : Heap} {locs : List Loc} {Q : State → Prop} {ls : Array Slot} (F : LawFix p l s m c E EM oA aL h b L xs) (hi : i + 9 ≤ L) (hl : lv_has ls 7 (LawV E EM oA b i)) (hR : Rel st sm) (hw : LSt E EM oA aL h st sm w s H locs) (hrm : cells ≤ 601024 ∧ slots ≤ 7293034) (kk : ∀ (st1 sm1 : Sto) (H1 : Heap) (locs1 : List Loc), Rel st1 sm1 → LSt E EM oA aL h st1 sm1 w s H1 locs1 → W p l e room_1 s m #[Value.ref b] below meth c H1 locs1 cells slots Q (F0 m 2036 ls [])) : W p l e room_1 s m #[Value.ref b] below meth c H locs cells slots Q (F0 m 1153 ls []) := by
  obtain ⟨hx, S, hK, hKM, g, hL, hLM, hX, hbl, hbA, hL9, _⟩ := F
  have hb := S.2.1
  obtain ⟨r, x1, m1, f1, f2, hR1⟩ := b_inside hR (xs (i + 1)) (xs (i + 2))
  refine lv_aload_n hx hb dL_law_1153 rfl (lv_at hl 2 rfl) ?_
  refine L_argC (k := 1) hx hb hl rfl rfl hX hbl hbA hw.2.2.2 (by omega) hL9 rfl dL_law_1154 dL_law_1155 dL_law_1157 (by decide) dL_law_1158 dL_law_1159 ?_
  refine L_argC (k := 2) hx hb hl rfl rfl hX hbl hbA hw.2.2.2 (by omega) hL9 rfl dL_law_1160 dL_law_1161 dL_law_1163 (by decide) dL_law_1164 dL_law_1165 ?_
  refine L_callX S hK g hw (As := [.int (xs (i + 1)), .int (xs (i + 2))]) (rest := []) (mX11_inside l E hL st f1) (cwV 2 S.2.2.2.2 gL_law_X11_inside rfl rfl rfl (by decide +kernel) ⟨Nat.le_of_ble_eq_true rfl, Nat.le_of_ble_eq_true rfl⟩) rfl hl.1 rfl (Nat.le_of_ble_eq_true rfl) dL_law_1166 hrm (fun H locs hw => ?_)
  refine lv_aload_n hx hb dL_law_1169 rfl (lv_at hl 3 rfl) ?_
  refine L_argC (k := 1) hx hb hl rfl rfl hX hbl hbA hw.2.2.2 (by omega) hL9 rfl dL_law_1170 dL_law_1171 dL_law_1173 (by decide) dL_law_1174 dL_law_1175 ?_
  refine L_argC (k := 2) hx hb hl rfl rfl hX hbl hbA hw.2.2.2 (by omega) hL9 rfl dL_law_1176 dL_law_1177 dL_law_1179 (by decide) dL_law_1180 dL_law_1181 ?_
  refine L_callM S hKM g hw (As := [.int (xs (i + 1)), .int (xs (i + 2))]) (rest := [.int r]) (mX12_inside l EM hLM sm f2) (cwV 2 S.2.2.2.2 gL_law_X12_inside rfl rfl rfl (by decide +kernel) ⟨Nat.le_of_ble_eq_true rfl, Nat.le_of_ble_eq_true rfl⟩) rfl hl.1 rfl (Nat.le_of_ble_eq_true rfl) dL_law_1182 hrm (fun H locs hw => ?_)
  refine lv_icmp_eq (tgt := 2036) hx hb dL_law_1185 (by decide) (fun _ => ?_) (fun hc => absurd rfl hc)
  exact kk x1 m1 H locs hR1 hw
set_option maxHeartbeats 4000000 in
set_option maxRecDepth 100000 in
theorem lawC_20 {p : Program} {l : Launch} {e : Jvm.Env} {s : State} {m : MethodId} {below : List Frame} {meth : Method} {c : Code} {E EM : XE} {oA h b L i cells slots : Nat} {aL : ClassId} {xs : Nat → Int32} {st sm : Sto} {w : Nat → Int64} {H : Heap} {locs : List Loc} {Q : State → Prop} {ls : Array Slot} (F : LawFix p l s m c E EM oA aL h b L xs) (hi : i + 9 ≤ L) (hl : lv_has ls 7 (LawV E EM oA b i)) (hR : Rel st sm) (hw : LSt E EM oA aL h st sm w s H locs) (hrm : cells ≤ 601024 ∧ slots ≤ 7293034) (kk : ∀ (st1 sm1 : Sto) (H1 : Heap) (locs1 : List Loc), Rel st1 sm1 → LSt E EM oA aL h st1 sm1 w s H1 locs1 → W p l e room_1 s m #[Value.ref b] below meth c H1 locs1 cells slots Q (F0 m 2036 ls [])) : W p l e room_1 s m #[Value.ref b] below meth c H locs cells slots Q (F0 m 1190 ls []) := by
  obtain ⟨hx, S, hK, hKM, g, hL, hLM, hX, hbl, hbA, hL9, _⟩ := F
  have hb := S.2.1
  obtain ⟨r, x1, m1, f1, f2, hR1⟩ := b_recipe hR (xs (i + 1)) (xs (i + 2)) (xs (i + 3)) (xs (i + 4)) (xs (i + 5)) (xs (i + 6)) (xs (i + 7)) (xs (i + 8))
  refine lv_aload_n hx hb dL_law_1190 rfl (lv_at hl 2 rfl) ?_
  refine L_argC (k := 1) hx hb hl rfl rfl hX hbl hbA hw.2.2.2 (by omega) hL9 rfl dL_law_1191 dL_law_1192 dL_law_1194 (by decide) dL_law_1195 dL_law_1196 ?_
  refine L_argC (k := 2) hx hb hl rfl rfl hX hbl hbA hw.2.2.2 (by omega) hL9 rfl dL_law_1197 dL_law_1198 dL_law_1200 (by decide) dL_law_1201 dL_law_1202 ?_
  refine L_argC (k := 3) hx hb hl rfl rfl hX hbl hbA hw.2.2.2 (by omega) hL9 rfl dL_law_1203 dL_law_1204 dL_law_1206 (by decide) dL_law_1207 dL_law_1208 ?_
  refine L_argC (k := 4) hx hb hl rfl rfl hX hbl hbA hw.2.2.2 (by omega) hL9 rfl dL_law_1209 dL_law_1210 dL_law_1212 (by decide) dL_law_1213 dL_law_1214 ?_
  refine L_argC (k := 5) hx hb hl rfl rfl hX hbl hbA hw.2.2.2 (by omega) hL9 rfl dL_law_1215 dL_law_1216 dL_law_1218 (by decide) dL_law_1219 dL_law_1220 ?_
  refine L_argB (k := 6) hx hb hl rfl rfl hX hbl hbA hw.2.2.2 (by omega) hL9 rfl dL_law_1221 dL_law_1222 dL_law_1224 (by decide) dL_law_1226 dL_law_1227 ?_
  refine L_argB (k := 7) hx hb hl rfl rfl hX hbl hbA hw.2.2.2 (by omega) hL9 rfl dL_law_1228 dL_law_1229 dL_law_1231 (by decide) dL_law_1233 dL_law_1234 ?_
  refine L_argB (k := 8) hx hb hl rfl rfl hX hbl hbA hw.2.2.2 (by omega) hL9 rfl dL_law_1235 dL_law_1236 dL_law_1238 (by decide) dL_law_1240 dL_law_1241 ?_
  refine L_callX S hK g hw (As := [.int (xs (i + 1)), .int (xs (i + 2)), .int (xs (i + 3)), .int (xs (i + 4)), .int (xs (i + 5)), .int (xs (i + 6)), .int (xs (i + 7)), .int (xs (i + 8))]) (rest := []) (mX11_recipe l E hL st f1) (cwV 8 S.2.2.2.2 gL_law_X11_recipe rfl rfl rfl (by decide +kernel) ⟨Nat.le_of_ble_eq_true rfl, Nat.le_of_ble_eq_true rfl⟩) rfl hl.1 rfl (Nat.le_of_ble_eq_true rfl) dL_law_1242 hrm (fun H locs hw => ?_)
  refine lv_aload_n hx hb dL_law_1245 rfl (lv_at hl 3 rfl) ?_
  refine L_argC (k := 1) hx hb hl rfl rfl hX hbl hbA hw.2.2.2 (by omega) hL9 rfl dL_law_1246 dL_law_1247 dL_law_1249 (by decide) dL_law_1250 dL_law_1251 ?_
  refine L_argC (k := 2) hx hb hl rfl rfl hX hbl hbA hw.2.2.2 (by omega) hL9 rfl dL_law_1252 dL_law_1253 dL_law_1255 (by decide) dL_law_1256 dL_law_1257 ?_
  refine L_argC (k := 3) hx hb hl rfl rfl hX hbl hbA hw.2.2.2 (by omega) hL9 rfl dL_law_1258 dL_law_1259 dL_law_1261 (by decide) dL_law_1262 dL_law_1263 ?_
  refine L_argC (k := 4) hx hb hl rfl rfl hX hbl hbA hw.2.2.2 (by omega) hL9 rfl dL_law_1264 dL_law_1265 dL_law_1267 (by decide) dL_law_1268 dL_law_1269 ?_
  refine L_argC (k := 5) hx hb hl rfl rfl hX hbl hbA hw.2.2.2 (by omega) hL9 rfl dL_law_1270 dL_law_1271 dL_law_1273 (by decide) dL_law_1274 dL_law_1275 ?_
  refine L_argB (k := 6) hx hb hl rfl rfl hX hbl hbA hw.2.2.2 (by omega) hL9 rfl dL_law_1276 dL_law_1277 dL_law_1279 (by decide) dL_law_1281 dL_law_1282 ?_
  refine L_argB (k := 7) hx hb hl rfl rfl hX hbl hbA hw.2.2.2 (by omega) hL9 rfl dL_law_1283 dL_law_1284 dL_law_1286 (by decide) dL_law_1288 dL_law_1289 ?_
  refine L_argB (k := 8) hx hb hl rfl rfl hX hbl hbA hw.2.2.2 (by omega) hL9 rfl dL_law_1290 dL_law_1291 dL_law_1293 (by decide) dL_law_1295 dL_law_1296 ?_
  refine L_callM S hKM g hw (As := [.int (xs (i + 1)), .int (xs (i + 2)), .int (xs (i + 3)), .int (xs (i + 4)), .int (xs (i + 5)), .int (xs (i + 6)), .int (xs (i + 7)), .int (xs (i + 8))]) (rest := [.int r]) (mX12_recipe l EM hLM sm f2) (cwV 8 S.2.2.2.2 gL_law_X12_recipe rfl rfl rfl (by decide +kernel) ⟨Nat.le_of_ble_eq_true rfl, Nat.le_of_ble_eq_true rfl⟩) rfl hl.1 rfl (Nat.le_of_ble_eq_true rfl) dL_law_1297 hrm (fun H locs hw => ?_)
  refine lv_icmp_eq (tgt := 2036) hx hb dL_law_1300 (by decide) (fun _ => ?_) (fun hc => absurd rfl hc)
  exact kk x1 m1 H locs hR1 hw
