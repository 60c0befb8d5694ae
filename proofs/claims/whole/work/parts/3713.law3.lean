set_option maxHeartbeats 4000000 in
set_option maxRecDepth 20000 in
theorem cs_29 {p : Program} {l : Launch} {e : Env} {s : State} {m : MethodId} {args : Array Value} {below : List Frame} {meth : Method} {c : Code} {H : Heap} {locs : List Loc} {cells slots : Nat} {Q : State → Prop} {ls : Array Slot} {E : Ev} {A : Nat → Prop} {b L i : Nat} {xs : Nat → Int32} {x mo oo : Nat} (C : CallFix p m c cL_law 7 s args gtbl RL) (hK : Kx E s) (hA0 : ∀ q, A q → E.2.2.1 ≤ q) (hN : E.2.2.1 ≤ s.heap.size) (hf : cells + 1 ≤ room_1.cells ∧ slots + 6 ≤ room_1.slots) (hX : va_X b L xs s s.heap) (hbl : b < s.heap.size) (hbA : ¬ A b) (hl : lv_has ls 7 [(0, .ref b), (1, .ref x), (2, .ref mo), (3, .ref oo), (4, .int (nI i))]) (hi : i + 6 ≤ L) (hL : L ≤ 3072) (hI : LI E A s.heap x mo oo H locs)
    (kk : ∀ (H : Heap) (locs : List Loc), LI E A s.heap x mo oo H locs → W p l e room_1 s m args below meth c H locs (cells + 1) (slots + 6) Q (F0 m 1461 ls [])) : W p l e room_1 s m args below meth c H locs cells slots Q (F0 m 1262 ls []) := by
  obtain ⟨aa, aT, aS, p0, p1, p2, p3, mn, tape, rd, tk, ph, ml, nm, now, trial, im, sp, nt, fut, od, crow, M, out, T, S, hB, hC, rfl, rfl, rfl⟩ := hI
  have hf0 : cells ≤ room_1.cells ∧ slots ≤ room_1.slots := ⟨Nat.le_of_succ_le hf.1, Nat.le_trans (Nat.le_add_right _ 6) hf.2⟩
  obtain ⟨r, er, r2, er2, hr, hC⟩ := q_ask (x := (xs (i + 1))) (y := (xs (i + 2))) (ml := ml) (nm := nm) (trial := trial)  hC
  refine lv_aload_n C.1 C.2.1 dL_law_1262 rfl (lv_at hl 1 rfl) ?_
  refine rd_arg (j := 1) C hX hbl hbA hB.2.2.2 hl (by omega) hL dL_law_1263 dL_law_1264 dL_law_1266 rfl dL_law_1267 dL_law_1268 ?_
  refine rd_arg (j := 2) C hX hbl hbA hB.2.2.2 hl (by omega) hL dL_law_1269 dL_law_1270 dL_law_1272 rfl dL_law_1273 dL_law_1274 ?_
  refine wl_X (As := [.int (xs (i + 1)), .int (xs (i + 2))]) (rest := []) (st1 := [.int r.1]) C hK hA0 hN hB (tX11_ask l E (aa 0) (aa 1 0) (aS 0 0) (aa 2 0) (aa 7 0) (aa 9 0) (aa 10 0) (aa 13 0) (aa 14 0) mn (aa 12) fut (aa 5) p3 ml (aa 6) nm (aa 8) trial (aa 11) nt aT T (xs (i + 1)) (xs (i + 2)) r er) [0, 28, 21, 22, 24, 27, 2, 3, 4, 5, 6, 7, 8, 9] (by decide) rfl (fun _ => rfl) lk_L_150 ⟨Nat.le_of_ble_eq_true rfl, Nat.le_of_ble_eq_true rfl⟩ hf0 (rc_X11 hK (hB.1 0 _ rfl)) rfl hl.1 rfl rfl (Nat.le_of_ble_eq_true rfl) dL_law_1275 (fun H locs q hB => ?_)
  replace hB : WZ E A s.heap (BL E aa aT aS p0 p1 p2 (q 0) r.2.1 tape rd tk ph r.2.2.2.1 r.2.2.2.2.1 now r.2.2.2.2.2.1 im sp r.2.2.2.2.2.2.1 r.2.2.1 od crow M out (r.2.2.2.2.2.2.2) S) H locs := hB
  refine lv_aload_n C.1 C.2.1 dL_law_1278 rfl (lv_at hl 2 rfl) ?_
  refine rd_arg (j := 1) C hX hbl hbA hB.2.2.2 hl (by omega) hL dL_law_1279 dL_law_1280 dL_law_1282 rfl dL_law_1283 dL_law_1284 ?_
  refine rd_arg (j := 2) C hX hbl hbA hB.2.2.2 hl (by omega) hL dL_law_1285 dL_law_1286 dL_law_1288 rfl dL_law_1289 dL_law_1290 ?_
  refine wl_X (As := [.int (xs (i + 1)), .int (xs (i + 2))]) (rest := [.int r.1]) (st1 := [.int r2.1, .int r.1]) C hK hA0 hN hB (tX12_ask l E (aa 15) M (xs (i + 1)) (xs (i + 2)) r2 er2) [31] (by decide) rfl (fun _ => rfl) lk_L_153 ⟨Nat.le_of_ble_eq_true rfl, Nat.le_of_ble_eq_true rfl⟩ hf0 (rc_X12 hK (hB.1 31 _ rfl)) rfl hl.1 rfl rfl (Nat.le_of_ble_eq_true rfl) dL_law_1291 (fun H locs q2 hB => ?_)
  replace hB : WZ E A s.heap (BL E aa aT aS p0 p1 p2 (q 0) r.2.1 tape rd tk ph r.2.2.2.1 r.2.2.2.2.1 now r.2.2.2.2.2.1 im sp r.2.2.2.2.2.2.1 r.2.2.1 od crow r2.2 out (r.2.2.2.2.2.2.2) S) H locs := hB
  refine lv_icmp_eq (tgt := 1461) C.1 C.2.1 dL_law_1294 (by decide) (fun _ => ?_) (fun q9 => absurd hr q9)
  exact W.widen (Nat.le_succ _) (Nat.le_add_right _ 6) (kk H locs ⟨aa, aT, aS, _, _, _, _, _, _, _, _, _, _, _, _, _, _, _, _, _, _, _, _, _, _, _, hB, hC, rfl, rfl, rfl⟩)
set_option maxHeartbeats 4000000 in
set_option maxRecDepth 20000 in
theorem cs_30 {p : Program} {l : Launch} {e : Env} {s : State} {m : MethodId} {args : Array Value} {below : List Frame} {meth : Method} {c : Code} {H : Heap} {locs : List Loc} {cells slots : Nat} {Q : State → Prop} {ls : Array Slot} {E : Ev} {A : Nat → Prop} {b L i : Nat} {xs : Nat → Int32} {x mo oo : Nat} (C : CallFix p m c cL_law 7 s args gtbl RL) (hK : Kx E s) (hA0 : ∀ q, A q → E.2.2.1 ≤ q) (hN : E.2.2.1 ≤ s.heap.size) (hf : cells + 1 ≤ room_1.cells ∧ slots + 6 ≤ room_1.slots) (hX : va_X b L xs s s.heap) (hbl : b < s.heap.size) (hbA : ¬ A b) (hl : lv_has ls 7 [(0, .ref b), (1, .ref x), (2, .ref mo), (3, .ref oo), (4, .int (nI i))]) (hi : i + 6 ≤ L) (hL : L ≤ 3072) (hI : LI E A s.heap x mo oo H locs)
    (kk : ∀ (H : Heap) (locs : List Loc), LI E A s.heap x mo oo H locs → W p l e room_1 s m args below meth c H locs (cells + 1) (slots + 6) Q (F0 m 1461 ls [])) : W p l e room_1 s m args below meth c H locs cells slots Q (F0 m 1299 ls []) := by
  obtain ⟨aa, aT, aS, p0, p1, p2, p3, mn, tape, rd, tk, ph, ml, nm, now, trial, im, sp, nt, fut, od, crow, M, out, T, S, hB, hC, rfl, rfl, rfl⟩ := hI
  have hf0 : cells ≤ room_1.cells ∧ slots ≤ room_1.slots := ⟨Nat.le_of_succ_le hf.1, Nat.le_trans (Nat.le_add_right _ 6) hf.2⟩
  obtain ⟨r, er, r2, er2, hr, hC⟩ := q_chance (x := (xs (i + 1))) (y := (xs (i + 2))) (z := (xs (i + 3))) (ml := ml) (nm := nm) (trial := trial)  hC
  refine lv_aload_n C.1 C.2.1 dL_law_1299 rfl (lv_at hl 1 rfl) ?_
  refine rd_arg (j := 1) C hX hbl hbA hB.2.2.2 hl (by omega) hL dL_law_1300 dL_law_1301 dL_law_1303 rfl dL_law_1304 dL_law_1305 ?_
  refine rd_arg (j := 2) C hX hbl hbA hB.2.2.2 hl (by omega) hL dL_law_1306 dL_law_1307 dL_law_1309 rfl dL_law_1310 dL_law_1311 ?_
  refine rd_arg (j := 3) C hX hbl hbA hB.2.2.2 hl (by omega) hL dL_law_1312 dL_law_1313 dL_law_1315 rfl dL_law_1316 dL_law_1317 ?_
  refine wl_X (As := [.int (xs (i + 1)), .int (xs (i + 2)), .int (xs (i + 3))]) (rest := []) (st1 := [.int r.1]) C hK hA0 hN hB (tX11_chance l E (aa 0) (aa 1 0) (aS 0 0) (aa 2 0) (aa 9 0) (aa 10 0) (aa 11 0) (aa 12 0) (aa 13 0) (aa 14 0) mn (aa 5) p3 ml (aa 6) nm (aa 7) now (aa 8) trial aT T (xs (i + 1)) (xs (i + 2)) (xs (i + 3)) r er) [0, 21, 22, 23, 24, 2, 3, 4, 5, 6, 7, 8, 9] (by decide) rfl (fun _ => rfl) lk_L_154 ⟨Nat.le_of_ble_eq_true rfl, Nat.le_of_ble_eq_true rfl⟩ hf0 (rc_X11 hK (hB.1 0 _ rfl)) rfl hl.1 rfl rfl (Nat.le_of_ble_eq_true rfl) dL_law_1318 (fun H locs q hB => ?_)
  replace hB : WZ E A s.heap (BL E aa aT aS p0 p1 p2 (q 0) mn tape rd tk ph r.2.1 r.2.2.1 now r.2.2.2.1 im sp nt fut od crow M out (r.2.2.2.2) S) H locs := hB
  refine lv_aload_n C.1 C.2.1 dL_law_1321 rfl (lv_at hl 2 rfl) ?_
  refine rd_arg (j := 1) C hX hbl hbA hB.2.2.2 hl (by omega) hL dL_law_1322 dL_law_1323 dL_law_1325 rfl dL_law_1326 dL_law_1327 ?_
  refine rd_arg (j := 2) C hX hbl hbA hB.2.2.2 hl (by omega) hL dL_law_1328 dL_law_1329 dL_law_1331 rfl dL_law_1332 dL_law_1333 ?_
  refine rd_arg (j := 3) C hX hbl hbA hB.2.2.2 hl (by omega) hL dL_law_1334 dL_law_1335 dL_law_1337 rfl dL_law_1338 dL_law_1339 ?_
  refine wl_X (As := [.int (xs (i + 1)), .int (xs (i + 2)), .int (xs (i + 3))]) (rest := [.int r.1]) (st1 := [.int r2.1, .int r.1]) C hK hA0 hN hB (tX12_chance l E (aa 15) M (xs (i + 1)) (xs (i + 2)) (xs (i + 3)) r2 er2) [31] (by decide) rfl (fun _ => rfl) lk_L_157 ⟨Nat.le_of_ble_eq_true rfl, Nat.le_of_ble_eq_true rfl⟩ hf0 (rc_X12 hK (hB.1 31 _ rfl)) rfl hl.1 rfl rfl (Nat.le_of_ble_eq_true rfl) dL_law_1340 (fun H locs q2 hB => ?_)
  replace hB : WZ E A s.heap (BL E aa aT aS p0 p1 p2 (q 0) mn tape rd tk ph r.2.1 r.2.2.1 now r.2.2.2.1 im sp nt fut od crow r2.2 out (r.2.2.2.2) S) H locs := hB
  refine lv_icmp_eq (tgt := 1461) C.1 C.2.1 dL_law_1343 (by decide) (fun _ => ?_) (fun q9 => absurd hr q9)
  exact W.widen (Nat.le_succ _) (Nat.le_add_right _ 6) (kk H locs ⟨aa, aT, aS, _, _, _, _, _, _, _, _, _, _, _, _, _, _, _, _, _, _, _, _, _, _, _, hB, hC, rfl, rfl, rfl⟩)
set_option maxHeartbeats 4000000 in
set_option maxRecDepth 20000 in
theorem cs_31 {p : Program} {l : Launch} {e : Env} {s : State} {m : MethodId} {args : Array Value} {below : List Frame} {meth : Method} {c : Code} {H : Heap} {locs : List Loc} {cells slots : Nat} {Q : State → Prop} {ls : Array Slot} {E : Ev} {A : Nat → Prop} {b L i : Nat} {xs : Nat → Int32} {x mo oo : Nat} (C : CallFix p m c cL_law 7 s args gtbl RL) (hK : Kx E s) (hA0 : ∀ q, A q → E.2.2.1 ≤ q) (hN : E.2.2.1 ≤ s.heap.size) (hf : cells + 1 ≤ room_1.cells ∧ slots + 6 ≤ room_1.slots) (hX : va_X b L xs s s.heap) (hbl : b < s.heap.size) (hbA : ¬ A b) (hl : lv_has ls 7 [(0, .ref b), (1, .ref x), (2, .ref mo), (3, .ref oo), (4, .int (nI i))]) (hi : i + 6 ≤ L) (hL : L ≤ 3072) (hI : LI E A s.heap x mo oo H locs)
    (kk : ∀ (H : Heap) (locs : List Loc), LI E A s.heap x mo oo H locs → W p l e room_1 s m args below meth c H locs (cells + 1) (slots + 6) Q (F0 m 1461 ls [])) : W p l e room_1 s m args below meth c H locs cells slots Q (F0 m 1348 ls []) := by
  obtain ⟨aa, aT, aS, p0, p1, p2, p3, mn, tape, rd, tk, ph, ml, nm, now, trial, im, sp, nt, fut, od, crow, M, out, T, S, hB, hC, rfl, rfl, rfl⟩ := hI
  have hf0 : cells ≤ room_1.cells ∧ slots ≤ room_1.slots := ⟨Nat.le_of_succ_le hf.1, Nat.le_trans (Nat.le_add_right _ 6) hf.2⟩
  obtain ⟨r, er, r2, er2, hr, hC⟩ := q_tried (x := (xs (i + 1))) (y := (xs (i + 2))) (z := (xs (i + 3))) (ml := ml) (nm := nm) (trial := trial)  hC
  refine lv_aload_n C.1 C.2.1 dL_law_1348 rfl (lv_at hl 1 rfl) ?_
  refine rd_arg (j := 1) C hX hbl hbA hB.2.2.2 hl (by omega) hL dL_law_1349 dL_law_1350 dL_law_1352 rfl dL_law_1353 dL_law_1354 ?_
  refine rd_arg (j := 2) C hX hbl hbA hB.2.2.2 hl (by omega) hL dL_law_1355 dL_law_1356 dL_law_1358 rfl dL_law_1359 dL_law_1360 ?_
  refine rd_arg (j := 3) C hX hbl hbA hB.2.2.2 hl (by omega) hL dL_law_1361 dL_law_1362 dL_law_1364 rfl dL_law_1365 dL_law_1366 ?_
  refine wl_X (As := [.int (xs (i + 1)), .int (xs (i + 2)), .int (xs (i + 3))]) (rest := []) (st1 := [.int r.1]) C hK hA0 hN hB (tX11_tried l E (aa 0) (aa 1 0) (aS 0 0) (aa 2 0) (aa 9 0) (aa 10 0) (aa 11 0) (aa 12 0) (aa 13 0) (aa 14 0) mn (aa 5) p3 ml (aa 6) nm (aa 7) now (aa 8) trial aT T (xs (i + 1)) (xs (i + 2)) (xs (i + 3)) r er) [0, 21, 22, 23, 24, 2, 3, 4, 5, 6, 7, 8, 9] (by decide) rfl (fun _ => rfl) lk_L_158 ⟨Nat.le_of_ble_eq_true rfl, Nat.le_of_ble_eq_true rfl⟩ hf0 (rc_X11 hK (hB.1 0 _ rfl)) rfl hl.1 rfl rfl (Nat.le_of_ble_eq_true rfl) dL_law_1367 (fun H locs q hB => ?_)
  replace hB : WZ E A s.heap (BL E aa aT aS p0 p1 p2 (q 0) mn tape rd tk ph r.2.1 r.2.2.1 now r.2.2.2.1 im sp nt fut od crow M out (r.2.2.2.2) S) H locs := hB
  refine lv_aload_n C.1 C.2.1 dL_law_1370 rfl (lv_at hl 2 rfl) ?_
  refine rd_arg (j := 1) C hX hbl hbA hB.2.2.2 hl (by omega) hL dL_law_1371 dL_law_1372 dL_law_1374 rfl dL_law_1375 dL_law_1376 ?_
  refine rd_arg (j := 2) C hX hbl hbA hB.2.2.2 hl (by omega) hL dL_law_1377 dL_law_1378 dL_law_1380 rfl dL_law_1381 dL_law_1382 ?_
  refine rd_arg (j := 3) C hX hbl hbA hB.2.2.2 hl (by omega) hL dL_law_1383 dL_law_1384 dL_law_1386 rfl dL_law_1387 dL_law_1388 ?_
  refine wl_X (As := [.int (xs (i + 1)), .int (xs (i + 2)), .int (xs (i + 3))]) (rest := [.int r.1]) (st1 := [.int r2.1, .int r.1]) C hK hA0 hN hB (tX12_tried l E (aa 15) M (xs (i + 1)) (xs (i + 2)) (xs (i + 3)) r2 er2) [31] (by decide) rfl (fun _ => rfl) lk_L_161 ⟨Nat.le_of_ble_eq_true rfl, Nat.le_of_ble_eq_true rfl⟩ hf0 (rc_X12 hK (hB.1 31 _ rfl)) rfl hl.1 rfl rfl (Nat.le_of_ble_eq_true rfl) dL_law_1389 (fun H locs q2 hB => ?_)
  replace hB : WZ E A s.heap (BL E aa aT aS p0 p1 p2 (q 0) mn tape rd tk ph r.2.1 r.2.2.1 now r.2.2.2.1 im sp nt fut od crow r2.2 out (r.2.2.2.2) S) H locs := hB
  refine lv_icmp_eq (tgt := 1461) C.1 C.2.1 dL_law_1392 (by decide) (fun _ => ?_) (fun q9 => absurd hr q9)
  exact W.widen (Nat.le_succ _) (Nat.le_add_right _ 6) (kk H locs ⟨aa, aT, aS, _, _, _, _, _, _, _, _, _, _, _, _, _, _, _, _, _, _, _, _, _, _, _, hB, hC, rfl, rfl, rfl⟩)
set_option maxHeartbeats 4000000 in
set_option maxRecDepth 20000 in
theorem cs_32 {p : Program} {l : Launch} {e : Env} {s : State} {m : MethodId} {args : Array Value} {below : List Frame} {meth : Method} {c : Code} {H : Heap} {locs : List Loc} {cells slots : Nat} {Q : State → Prop} {ls : Array Slot} {E : Ev} {A : Nat → Prop} {b L i : Nat} {xs : Nat → Int32} {x mo oo : Nat} (C : CallFix p m c cL_law 7 s args gtbl RL) (hK : Kx E s) (hA0 : ∀ q, A q → E.2.2.1 ≤ q) (hN : E.2.2.1 ≤ s.heap.size) (hf : cells + 1 ≤ room_1.cells ∧ slots + 6 ≤ room_1.slots) (hX : va_X b L xs s s.heap) (hbl : b < s.heap.size) (hbA : ¬ A b) (hl : lv_has ls 7 [(0, .ref b), (1, .ref x), (2, .ref mo), (3, .ref oo), (4, .int (nI i))]) (hi : i + 6 ≤ L) (hL : L ≤ 3072) (hI : LI E A s.heap x mo oo H locs)
    (kk : ∀ (H : Heap) (locs : List Loc), LI E A s.heap x mo oo H locs → W p l e room_1 s m args below meth c H locs (cells + 1) (slots + 6) Q (F0 m 1461 ls [])) : W p l e room_1 s m args below meth c H locs cells slots Q (F0 m 1397 ls []) := by
  obtain ⟨aa, aT, aS, p0, p1, p2, p3, mn, tape, rd, tk, ph, ml, nm, now, trial, im, sp, nt, fut, od, crow, M, out, T, S, hB, hC, rfl, rfl, rfl⟩ := hI
  have hf0 : cells ≤ room_1.cells ∧ slots ≤ room_1.slots := ⟨Nat.le_of_succ_le hf.1, Nat.le_trans (Nat.le_add_right _ 6) hf.2⟩
  obtain ⟨r, er, r2, er2, hr, hC⟩ := q_undo    hC
  refine lv_aload_n C.1 C.2.1 dL_law_1397 rfl (lv_at hl 1 rfl) ?_
  refine wl_X (As := []) (rest := []) (st1 := [.int r.1]) C hK hA0 hN hB (tX11_undo l E (aa 0) (aa 1 0) (aT 0 0) (aS 0 0) (aa 2 0) (aa 5 0) (aa 8 0) (aa 9 0) (aa 11 0) (aa 12 0) (aa 13 0) (aa 14 0) mn (aa 7) now (aa 10) sp r er) [0, 23, 26] (by decide) rfl (fun _ => rfl) lk_L_162 ⟨Nat.le_of_ble_eq_true rfl, Nat.le_of_ble_eq_true rfl⟩ hf0 (rc_X11 hK (hB.1 0 _ rfl)) rfl hl.1 rfl rfl (Nat.le_of_ble_eq_true rfl) dL_law_1398 (fun H locs q hB => ?_)
  replace hB : WZ E A s.heap (BL E aa aT aS p0 p1 p2 p3 mn tape rd tk ph ml nm r.2.1 trial im r.2.2 nt fut od crow M out T S) H locs := hB
  refine lv_aload_n C.1 C.2.1 dL_law_1401 rfl (lv_at hl 2 rfl) ?_
  refine wl_X (As := []) (rest := [.int r.1]) (st1 := [.int r2.1, .int r.1]) C hK hA0 hN hB (tX12_undo l E (aa 15) M r2 er2) [31] (by decide) rfl (fun _ => rfl) lk_L_165 ⟨Nat.le_of_ble_eq_true rfl, Nat.le_of_ble_eq_true rfl⟩ hf0 (rc_X12 hK (hB.1 31 _ rfl)) rfl hl.1 rfl rfl (Nat.le_of_ble_eq_true rfl) dL_law_1402 (fun H locs q2 hB => ?_)
  replace hB : WZ E A s.heap (BL E aa aT aS p0 p1 p2 p3 mn tape rd tk ph ml nm r.2.1 trial im r.2.2 nt fut od crow r2.2 out T S) H locs := hB
  refine lv_icmp_eq (tgt := 1461) C.1 C.2.1 dL_law_1405 (by decide) (fun _ => ?_) (fun q9 => absurd hr q9)
  exact W.widen (Nat.le_succ _) (Nat.le_add_right _ 6) (kk H locs ⟨aa, aT, aS, _, _, _, _, _, _, _, _, _, _, _, _, _, _, _, _, _, _, _, _, _, _, _, hB, hC, rfl, rfl, rfl⟩)
set_option maxHeartbeats 4000000 in
set_option maxRecDepth 20000 in
theorem cs_33 {p : Program} {l : Launch} {e : Env} {s : State} {m : MethodId} {args : Array Value} {below : List Frame} {meth : Method} {c : Code} {H : Heap} {locs : List Loc} {cells slots : Nat} {Q : State → Prop} {ls : Array Slot} {E : Ev} {A : Nat → Prop} {b L i : Nat} {xs : Nat → Int32} {x mo oo : Nat} (C : CallFix p m c cL_law 7 s args gtbl RL) (hK : Kx E s) (hA0 : ∀ q, A q → E.2.2.1 ≤ q) (hN : E.2.2.1 ≤ s.heap.size) (hf : cells + 1 ≤ room_1.cells ∧ slots + 6 ≤ room_1.slots) (hX : va_X b L xs s s.heap) (hbl : b < s.heap.size) (hbA : ¬ A b) (hl : lv_has ls 7 [(0, .ref b), (1, .ref x), (2, .ref mo), (3, .ref oo), (4, .int (nI i))]) (hi : i + 6 ≤ L) (hL : L ≤ 3072) (hI : LI E A s.heap x mo oo H locs)
    (kk : ∀ (H : Heap) (locs : List Loc), LI E A s.heap x mo oo H locs → W p l e room_1 s m args below meth c H locs (cells + 1) (slots + 6) Q (F0 m 1461 ls [])) : W p l e room_1 s m args below meth c H locs cells slots Q (F0 m 1410 ls []) := by
  obtain ⟨aa, aT, aS, p0, p1, p2, p3, mn, tape, rd, tk, ph, ml, nm, now, trial, im, sp, nt, fut, od, crow, M, out, T, S, hB, hC, rfl, rfl, rfl⟩ := hI
  have hf0 : cells ≤ room_1.cells ∧ slots ≤ room_1.slots := ⟨Nat.le_of_succ_le hf.1, Nat.le_trans (Nat.le_add_right _ 6) hf.2⟩
  obtain ⟨r, er, r2, er2, hr, hC⟩ := q_keep    hC
  refine lv_aload_n C.1 C.2.1 dL_law_1410 rfl (lv_at hl 1 rfl) ?_
  refine wl_X (As := []) (rest := []) (st1 := [.int r.1]) C hK hA0 hN hB (tX11_keep l E (aa 0) (aa 1 0) (aT 0 0) (aS 0 0) (aa 2 0) (aa 5 0) (aa 8 0) (aa 10 0) (aa 11 0) (aa 12 0) (aa 13 0) (aa 14 0) mn (aa 7) now (aa 9) im r er) [0, 23, 25] (by decide) rfl (fun _ => rfl) lk_L_166 ⟨Nat.le_of_ble_eq_true rfl, Nat.le_of_ble_eq_true rfl⟩ hf0 (rc_X11 hK (hB.1 0 _ rfl)) rfl hl.1 rfl rfl (Nat.le_of_ble_eq_true rfl) dL_law_1411 (fun H locs q hB => ?_)
  replace hB : WZ E A s.heap (BL E aa aT aS p0 p1 p2 p3 r.2.1 tape rd tk ph ml nm now trial r.2.2 sp nt fut od crow M out T S) H locs := hB
  refine lv_aload_n C.1 C.2.1 dL_law_1414 rfl (lv_at hl 2 rfl) ?_
  refine wl_X (As := []) (rest := [.int r.1]) (st1 := [.int r2.1, .int r.1]) C hK hA0 hN hB (tX12_keep l E (aa 15) M r2 er2) [31] (by decide) rfl (fun _ => rfl) lk_L_169 ⟨Nat.le_of_ble_eq_true rfl, Nat.le_of_ble_eq_true rfl⟩ hf0 (rc_X12 hK (hB.1 31 _ rfl)) rfl hl.1 rfl rfl (Nat.le_of_ble_eq_true rfl) dL_law_1415 (fun H locs q2 hB => ?_)
  replace hB : WZ E A s.heap (BL E aa aT aS p0 p1 p2 p3 r.2.1 tape rd tk ph ml nm now trial r.2.2 sp nt fut od crow r2.2 out T S) H locs := hB
  refine lv_icmp_eq (tgt := 1461) C.1 C.2.1 dL_law_1418 (by decide) (fun _ => ?_) (fun q9 => absurd hr q9)
  exact W.widen (Nat.le_succ _) (Nat.le_add_right _ 6) (kk H locs ⟨aa, aT, aS, _, _, _, _, _, _, _, _, _, _, _, _, _, _, _, _, _, _, _, _, _, _, _, hB, hC, rfl, rfl, rfl⟩)
set_option maxHeartbeats 4000000 in
set_option maxRecDepth 20000 in
theorem cs_34 {p : Program} {l : Launch} {e : Env} {s : State} {m : MethodId} {args : Array Value} {below : List Frame} {meth : Method} {c : Code} {H : Heap} {locs : List Loc} {cells slots : Nat} {Q : State → Prop} {ls : Array Slot} {E : Ev} {A : Nat → Prop} {b L i : Nat} {xs : Nat → Int32} {x mo oo : Nat} (C : CallFix p m c cL_law 7 s args gtbl RL) (hK : Kx E s) (hA0 : ∀ q, A q → E.2.2.1 ≤ q) (hN : E.2.2.1 ≤ s.heap.size) (hf : cells + 1 ≤ room_1.cells ∧ slots + 6 ≤ room_1.slots) (hX : va_X b L xs s s.heap) (hbl : b < s.heap.size) (hbA : ¬ A b) (hl : lv_has ls 7 [(0, .ref b), (1, .ref x), (2, .ref mo), (3, .ref oo), (4, .int (nI i))]) (hi : i + 6 ≤ L) (hL : L ≤ 3072) (hI : LI E A s.heap x mo oo H locs)
    (kk : ∀ (H : Heap) (locs : List Loc), LI E A s.heap x mo oo H locs → W p l e room_1 s m args below meth c H locs (cells + 1) (slots + 6) Q (F0 m 1461 ls [])) : W p l e room_1 s m args below meth c H locs cells slots Q (F0 m 1423 ls []) := by
  obtain ⟨aa, aT, aS, p0, p1, p2, p3, mn, tape, rd, tk, ph, ml, nm, now, trial, im, sp, nt, fut, od, crow, M, out, T, S, hB, hC, rfl, rfl, rfl⟩ := hI
  have hf0 : cells ≤ room_1.cells ∧ slots ≤ room_1.slots := ⟨Nat.le_of_succ_le hf.1, Nat.le_trans (Nat.le_add_right _ 6) hf.2⟩
  obtain ⟨r, er, r2, er2, hr, hC⟩ := q_back    hC
  refine lv_aload_n C.1 C.2.1 dL_law_1423 rfl (lv_at hl 1 rfl) ?_
  refine wl_X (As := []) (rest := []) (st1 := [.int r.1]) C hK hA0 hN hB (tX11_back l E (aa 0) (aa 1 0) (aT 0 0) (aS 0 0) (aa 2 0) (aa 5 0) (aa 8 0) (aa 11 0) (aa 12 0) (aa 13 0) (aa 14 0) mn (aa 7) now (aa 9) im (aa 10) sp r er) [0, 23, 25, 26] (by decide) rfl (fun _ => rfl) lk_L_170 ⟨Nat.le_of_ble_eq_true rfl, Nat.le_of_ble_eq_true rfl⟩ hf0 (rc_X11 hK (hB.1 0 _ rfl)) rfl hl.1 rfl rfl (Nat.le_of_ble_eq_true rfl) dL_law_1424 (fun H locs q hB => ?_)
  replace hB : WZ E A s.heap (BL E aa aT aS p0 p1 p2 p3 mn tape rd tk ph ml nm r.2.1 trial im r.2.2 nt fut od crow M out T S) H locs := hB
  refine lv_aload_n C.1 C.2.1 dL_law_1427 rfl (lv_at hl 2 rfl) ?_
  refine wl_X (As := []) (rest := [.int r.1]) (st1 := [.int r2.1, .int r.1]) C hK hA0 hN hB (tX12_back l E (aa 15) M r2 er2) [31] (by decide) rfl (fun _ => rfl) lk_L_173 ⟨Nat.le_of_ble_eq_true rfl, Nat.le_of_ble_eq_true rfl⟩ hf0 (rc_X12 hK (hB.1 31 _ rfl)) rfl hl.1 rfl rfl (Nat.le_of_ble_eq_true rfl) dL_law_1428 (fun H locs q2 hB => ?_)
  replace hB : WZ E A s.heap (BL E aa aT aS p0 p1 p2 p3 mn tape rd tk ph ml nm r.2.1 trial im r.2.2 nt fut od crow r2.2 out T S) H locs := hB
  refine lv_icmp_eq (tgt := 1461) C.1 C.2.1 dL_law_1431 (by decide) (fun _ => ?_) (fun q9 => absurd hr q9)
  exact W.widen (Nat.le_succ _) (Nat.le_add_right _ 6) (kk H locs ⟨aa, aT, aS, _, _, _, _, _, _, _, _, _, _, _, _, _, _, _, _, _, _, _, _, _, _, _, hB, hC, rfl, rfl, rfl⟩)
set_option maxHeartbeats 4000000 in
set_option maxRecDepth 20000 in
theorem cs_35 {p : Program} {l : Launch} {e : Env} {s : State} {m : MethodId} {args : Array Value} {below : List Frame} {meth : Method} {c : Code} {H : Heap} {locs : List Loc} {cells slots : Nat} {Q : State → Prop} {ls : Array Slot} {E : Ev} {A : Nat → Prop} {b L i : Nat} {xs : Nat → Int32} {x mo oo : Nat} (C : CallFix p m c cL_law 7 s args gtbl RL) (hK : Kx E s) (hA0 : ∀ q, A q → E.2.2.1 ≤ q) (hN : E.2.2.1 ≤ s.heap.size) (hf : cells + 1 ≤ room_1.cells ∧ slots + 6 ≤ room_1.slots) (hX : va_X b L xs s s.heap) (hbl : b < s.heap.size) (hbA : ¬ A b) (hl : lv_has ls 7 [(0, .ref b), (1, .ref x), (2, .ref mo), (3, .ref oo), (4, .int (nI i))]) (hi : i + 6 ≤ L) (hL : L ≤ 3072) (hI : LI E A s.heap x mo oo H locs)
    (kk : ∀ (H : Heap) (locs : List Loc), LI E A s.heap x mo oo H locs → W p l e room_1 s m args below meth c H locs (cells + 1) (slots + 6) Q (F0 m 1461 ls [])) : W p l e room_1 s m args below meth c H locs cells slots Q (F0 m 1436 ls []) := by
  obtain ⟨aa, aT, aS, p0, p1, p2, p3, mn, tape, rd, tk, ph, ml, nm, now, trial, im, sp, nt, fut, od, crow, M, out, T, S, hB, hC, rfl, rfl, rfl⟩ := hI
  have hf0 : cells ≤ room_1.cells ∧ slots ≤ room_1.slots := ⟨Nat.le_of_succ_le hf.1, Nat.le_trans (Nat.le_add_right _ 6) hf.2⟩
  obtain ⟨r, er, r2, er2, hr, hC⟩ := q_count (x := (xs (i + 1)))   hC
  refine lv_aload_n C.1 C.2.1 dL_law_1436 rfl (lv_at hl 1 rfl) ?_
  refine rd_arg (j := 1) C hX hbl hbA hB.2.2.2 hl (by omega) hL dL_law_1437 dL_law_1438 dL_law_1440 rfl dL_law_1441 dL_law_1442 ?_
  refine wl_P (As := [.int (xs (i + 1))]) (rest := []) (st1 := [.int r]) C hK hA0 hN hB (tX11_count l E (aa 0) (aa 1 0) (aS 0 0) (aa 2 0) (aa 5 0) (aa 8 0) (aa 9 0) (aa 12 0) (aa 13 0) (aa 14 0) mn (aa 7) now (aa 10) sp (aa 11) nt aT T (xs (i + 1)) r er) [0, 23, 26, 27, 2, 3, 4, 5, 6, 7, 8, 9] rfl lk_L_174 ⟨Nat.le_of_ble_eq_true rfl, Nat.le_of_ble_eq_true rfl⟩ hf0 (rc_X11 hK (hB.1 0 _ rfl)) rfl hl.1 rfl rfl (Nat.le_of_ble_eq_true rfl) dL_law_1443 ?_
  refine lv_aload_n C.1 C.2.1 dL_law_1446 rfl (lv_at hl 2 rfl) ?_
  refine rd_arg (j := 1) C hX hbl hbA hB.2.2.2 hl (by omega) hL dL_law_1447 dL_law_1448 dL_law_1450 rfl dL_law_1451 dL_law_1452 ?_
  refine wl_X (As := [.int (xs (i + 1))]) (rest := [.int r]) (st1 := [.int r2.1, .int r]) C hK hA0 hN hB (tX12_count l E (aa 15) M (xs (i + 1)) r2 er2) [31] (by decide) rfl (fun _ => rfl) lk_L_177 ⟨Nat.le_of_ble_eq_true rfl, Nat.le_of_ble_eq_true rfl⟩ hf0 (rc_X12 hK (hB.1 31 _ rfl)) rfl hl.1 rfl rfl (Nat.le_of_ble_eq_true rfl) dL_law_1453 (fun H locs q2 hB => ?_)
  replace hB : WZ E A s.heap (BL E aa aT aS p0 p1 p2 p3 mn tape rd tk ph ml nm now trial im sp nt fut od crow r2.2 out T S) H locs := hB
  refine lv_icmp_eq (tgt := 1461) C.1 C.2.1 dL_law_1456 (by decide) (fun _ => ?_) (fun q9 => absurd hr q9)
  exact W.widen (Nat.le_succ _) (Nat.le_add_right _ 6) (kk H locs ⟨aa, aT, aS, _, _, _, _, _, _, _, _, _, _, _, _, _, _, _, _, _, _, _, _, _, _, _, hB, hC, rfl, rfl, rfl⟩)
