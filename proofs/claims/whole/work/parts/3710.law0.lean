set_option maxHeartbeats 4000000 in
set_option maxRecDepth 20000 in
theorem cs_0 {p : Program} {l : Launch} {e : Env} {s : State} {m : MethodId} {args : Array Value} {below : List Frame} {meth : Method} {c : Code} {H : Heap} {locs : List Loc} {cells slots : Nat} {Q : State → Prop} {ls : Array Slot} {E : Ev} {A : Nat → Prop} {b L i : Nat} {xs : Nat → Int32} {x mo oo : Nat} (C : CallFix p m c cL_law 7 s args gtbl RL) (hK : Kx E s) (hA0 : ∀ q, A q → E.2.2.1 ≤ q) (hN : E.2.2.1 ≤ s.heap.size) (hf : cells + 1 ≤ room_1.cells ∧ slots + 6 ≤ room_1.slots) (hX : va_X b L xs s s.heap) (hbl : b < s.heap.size) (hbA : ¬ A b) (hl : lv_has ls 7 [(0, .ref b), (1, .ref x), (2, .ref mo), (3, .ref oo), (4, .int (nI i))]) (hi : i + 6 ≤ L) (hL : L ≤ 3072) (hI : LI E A s.heap x mo oo H locs)
    (kk : ∀ (H : Heap) (locs : List Loc), LI E A s.heap x mo oo H locs → W p l e room_1 s m args below meth c H locs (cells + 1) (slots + 6) Q (F0 m 1461 ls [])) : W p l e room_1 s m args below meth c H locs cells slots Q (F0 m 200 ls []) := by
  obtain ⟨aa, aT, aS, p0, p1, p2, p3, mn, tape, rd, tk, ph, ml, nm, now, trial, im, sp, nt, fut, od, crow, M, out, T, S, hB, hC, rfl, rfl, rfl⟩ := hI
  have hf0 : cells ≤ room_1.cells ∧ slots ≤ room_1.slots := ⟨Nat.le_of_succ_le hf.1, Nat.le_trans (Nat.le_add_right _ 6) hf.2⟩
  obtain ⟨r, er, r2, er2, hr, hC⟩ := q_feed (x := (xs (i + 1))) (y := (xs (i + 2))) (z := (xs (i + 3))) (w := (xs (i + 4))) (v := (xs (i + 5)))   hC
  refine lv_aload_n C.1 C.2.1 dL_law_200 rfl (lv_at hl 1 rfl) ?_
  refine rd_arg (j := 1) C hX hbl hbA hB.2.2.2 hl (by omega) hL dL_law_201 dL_law_202 dL_law_204 rfl dL_law_205 dL_law_206 ?_
  refine rd_arg (j := 2) C hX hbl hbA hB.2.2.2 hl (by omega) hL dL_law_207 dL_law_208 dL_law_210 rfl dL_law_211 dL_law_212 ?_
  refine rd_arg (j := 3) C hX hbl hbA hB.2.2.2 hl (by omega) hL dL_law_213 dL_law_214 dL_law_216 rfl dL_law_217 dL_law_218 ?_
  refine rd_arg (j := 4) C hX hbl hbA hB.2.2.2 hl (by omega) hL dL_law_219 dL_law_220 dL_law_222 rfl dL_law_223 dL_law_224 ?_
  refine rd_arg (j := 5) C hX hbl hbA hB.2.2.2 hl (by omega) hL dL_law_225 dL_law_226 dL_law_228 rfl dL_law_229 dL_law_230 ?_
  refine wl_X (As := [.int (xs (i + 1)), .int (xs (i + 2)), .int (xs (i + 3)), .int (xs (i + 4)), .int (xs (i + 5))]) (rest := []) (st1 := [.int r.1]) C hK hA0 hN hB (tX11_feed l E (aa 0) (aT 0 0) (aS 0 0) (aa 2 0) (aa 5 0) (aa 7 0) (aa 8 0) (aa 9 0) (aa 10 0) (aa 11 0) (aa 12 0) (aa 13 0) (aa 14 0) mn (aa 1) tape (xs (i + 1)) (xs (i + 2)) (xs (i + 3)) (xs (i + 4)) (xs (i + 5)) r er) [0, 1] (by decide) rfl (fun _ => rfl) lk_L_21 ⟨Nat.le_of_ble_eq_true rfl, Nat.le_of_ble_eq_true rfl⟩ hf0 (rc_X11 hK (hB.1 0 _ rfl)) rfl hl.1 rfl rfl (Nat.le_of_ble_eq_true rfl) dL_law_231 (fun H locs q hB => ?_)
  replace hB : WZ E A s.heap (BL E aa aT aS p0 p1 p2 p3 r.2.1 r.2.2 rd tk ph ml nm now trial im sp nt fut od crow M out T S) H locs := hB
  refine lv_aload_n C.1 C.2.1 dL_law_234 rfl (lv_at hl 2 rfl) ?_
  refine rd_arg (j := 1) C hX hbl hbA hB.2.2.2 hl (by omega) hL dL_law_235 dL_law_236 dL_law_238 rfl dL_law_239 dL_law_240 ?_
  refine rd_arg (j := 2) C hX hbl hbA hB.2.2.2 hl (by omega) hL dL_law_241 dL_law_242 dL_law_244 rfl dL_law_245 dL_law_246 ?_
  refine rd_arg (j := 3) C hX hbl hbA hB.2.2.2 hl (by omega) hL dL_law_247 dL_law_248 dL_law_250 rfl dL_law_251 dL_law_252 ?_
  refine rd_arg (j := 4) C hX hbl hbA hB.2.2.2 hl (by omega) hL dL_law_253 dL_law_254 dL_law_256 rfl dL_law_257 dL_law_258 ?_
  refine rd_arg (j := 5) C hX hbl hbA hB.2.2.2 hl (by omega) hL dL_law_259 dL_law_260 dL_law_262 rfl dL_law_263 dL_law_264 ?_
  refine wl_X (As := [.int (xs (i + 1)), .int (xs (i + 2)), .int (xs (i + 3)), .int (xs (i + 4)), .int (xs (i + 5))]) (rest := [.int r.1]) (st1 := [.int r2.1, .int r.1]) C hK hA0 hN hB (tX12_feed l E (aa 15) M (xs (i + 1)) (xs (i + 2)) (xs (i + 3)) (xs (i + 4)) (xs (i + 5)) r2 er2) [31] (by decide) rfl (fun _ => rfl) lk_L_25 ⟨Nat.le_of_ble_eq_true rfl, Nat.le_of_ble_eq_true rfl⟩ hf0 (rc_X12 hK (hB.1 31 _ rfl)) rfl hl.1 rfl rfl (Nat.le_of_ble_eq_true rfl) dL_law_265 (fun H locs q2 hB => ?_)
  replace hB : WZ E A s.heap (BL E aa aT aS p0 p1 p2 p3 r.2.1 r.2.2 rd tk ph ml nm now trial im sp nt fut od crow r2.2 out T S) H locs := hB
  refine lv_icmp_eq (tgt := 1461) C.1 C.2.1 dL_law_268 (by decide) (fun _ => ?_) (fun q9 => absurd hr q9)
  exact W.widen (Nat.le_succ _) (Nat.le_add_right _ 6) (kk H locs ⟨aa, aT, aS, _, _, _, _, _, _, _, _, _, _, _, _, _, _, _, _, _, _, _, _, _, _, _, hB, hC, rfl, rfl, rfl⟩)
set_option maxHeartbeats 4000000 in
set_option maxRecDepth 20000 in
theorem cs_2 {p : Program} {l : Launch} {e : Env} {s : State} {m : MethodId} {args : Array Value} {below : List Frame} {meth : Method} {c : Code} {H : Heap} {locs : List Loc} {cells slots : Nat} {Q : State → Prop} {ls : Array Slot} {E : Ev} {A : Nat → Prop} {b L i : Nat} {xs : Nat → Int32} {x mo oo : Nat} (C : CallFix p m c cL_law 7 s args gtbl RL) (hK : Kx E s) (hA0 : ∀ q, A q → E.2.2.1 ≤ q) (hN : E.2.2.1 ≤ s.heap.size) (hf : cells + 1 ≤ room_1.cells ∧ slots + 6 ≤ room_1.slots) (hX : va_X b L xs s s.heap) (hbl : b < s.heap.size) (hbA : ¬ A b) (hl : lv_has ls 7 [(0, .ref b), (1, .ref x), (2, .ref mo), (3, .ref oo), (4, .int (nI i))]) (hi : i + 6 ≤ L) (hL : L ≤ 3072) (hI : LI E A s.heap x mo oo H locs)
    (kk : ∀ (H : Heap) (locs : List Loc), LI E A s.heap x mo oo H locs → W p l e room_1 s m args below meth c H locs (cells + 1) (slots + 6) Q (F0 m 1461 ls [])) : W p l e room_1 s m args below meth c H locs cells slots Q (F0 m 298 ls []) := by
  obtain ⟨aa, aT, aS, p0, p1, p2, p3, mn, tape, rd, tk, ph, ml, nm, now, trial, im, sp, nt, fut, od, crow, M, out, T, S, hB, hC, rfl, rfl, rfl⟩ := hI
  have hf0 : cells ≤ room_1.cells ∧ slots ≤ room_1.slots := ⟨Nat.le_of_succ_le hf.1, Nat.le_trans (Nat.le_add_right _ 6) hf.2⟩
  obtain ⟨hr, hC⟩ := q_fault (x := (xs (i + 1))) hC
  refine lv_aload_n C.1 C.2.1 dL_law_298 rfl (lv_at hl 1 rfl) ?_
  refine rd_arg (j := 1) C hX hbl hbA hB.2.2.2 hl (by omega) hL dL_law_299 dL_law_300 dL_law_302 rfl dL_law_303 dL_law_304 ?_
  refine wl_P (As := [.int (xs (i + 1))]) (rest := []) (st1 := [.int (fX11_fault mn (xs (i + 1)))]) C hK hA0 hN hB (tX11_fault l E (aa 0) (aa 1 0) (aT 0 0) (aS 0 0) (aa 2 0) (aa 5 0) (aa 7 0) (aa 8 0) (aa 9 0) (aa 10 0) (aa 11 0) (aa 12 0) (aa 13 0) (aa 14 0) mn (xs (i + 1)) (fX11_fault mn (xs (i + 1))) rfl) [0] rfl lk_L_31 ⟨Nat.le_of_ble_eq_true rfl, Nat.le_of_ble_eq_true rfl⟩ hf0 (rc_X11 hK (hB.1 0 _ rfl)) rfl hl.1 rfl rfl (Nat.le_of_ble_eq_true rfl) dL_law_305 ?_
  refine lv_aload_n C.1 C.2.1 dL_law_308 rfl (lv_at hl 2 rfl) ?_
  refine rd_arg (j := 1) C hX hbl hbA hB.2.2.2 hl (by omega) hL dL_law_309 dL_law_310 dL_law_312 rfl dL_law_313 dL_law_314 ?_
  refine wl_X (As := [.int (xs (i + 1))]) (rest := [.int (fX11_fault mn (xs (i + 1)))]) (st1 := [.int (fX12_fault M (xs (i + 1))).1, .int (fX11_fault mn (xs (i + 1)))]) C hK hA0 hN hB (tX12_fault l E (aa 15) M (xs (i + 1)) (fX12_fault M (xs (i + 1))) rfl) [31] (by decide) rfl (fun _ => rfl) lk_L_34 ⟨Nat.le_of_ble_eq_true rfl, Nat.le_of_ble_eq_true rfl⟩ hf0 (rc_X12 hK (hB.1 31 _ rfl)) rfl hl.1 rfl rfl (Nat.le_of_ble_eq_true rfl) dL_law_315 (fun H locs q2 hB => ?_)
  replace hB : WZ E A s.heap (BL E aa aT aS p0 p1 p2 p3 mn tape rd tk ph ml nm now trial im sp nt fut od crow (fX12_fault M (xs (i + 1))).2 out T S) H locs := hB
  refine lv_icmp_eq (tgt := 1461) C.1 C.2.1 dL_law_318 (by decide) (fun _ => ?_) (fun q9 => absurd hr q9)
  exact W.widen (Nat.le_succ _) (Nat.le_add_right _ 6) (kk H locs ⟨aa, aT, aS, _, _, _, _, _, _, _, _, _, _, _, _, _, _, _, _, _, _, _, _, _, _, _, hB, hC, rfl, rfl, rfl⟩)
set_option maxHeartbeats 4000000 in
set_option maxRecDepth 20000 in
theorem cs_3 {p : Program} {l : Launch} {e : Env} {s : State} {m : MethodId} {args : Array Value} {below : List Frame} {meth : Method} {c : Code} {H : Heap} {locs : List Loc} {cells slots : Nat} {Q : State → Prop} {ls : Array Slot} {E : Ev} {A : Nat → Prop} {b L i : Nat} {xs : Nat → Int32} {x mo oo : Nat} (C : CallFix p m c cL_law 7 s args gtbl RL) (hK : Kx E s) (hA0 : ∀ q, A q → E.2.2.1 ≤ q) (hN : E.2.2.1 ≤ s.heap.size) (hf : cells + 1 ≤ room_1.cells ∧ slots + 6 ≤ room_1.slots) (hX : va_X b L xs s s.heap) (hbl : b < s.heap.size) (hbA : ¬ A b) (hl : lv_has ls 7 [(0, .ref b), (1, .ref x), (2, .ref mo), (3, .ref oo), (4, .int (nI i))]) (hi : i + 6 ≤ L) (hL : L ≤ 3072) (hI : LI E A s.heap x mo oo H locs)
    (kk : ∀ (H : Heap) (locs : List Loc), LI E A s.heap x mo oo H locs → W p l e room_1 s m args below meth c H locs (cells + 1) (slots + 6) Q (F0 m 1461 ls [])) : W p l e room_1 s m args below meth c H locs cells slots Q (F0 m 323 ls []) := by
  obtain ⟨aa, aT, aS, p0, p1, p2, p3, mn, tape, rd, tk, ph, ml, nm, now, trial, im, sp, nt, fut, od, crow, M, out, T, S, hB, hC, rfl, rfl, rfl⟩ := hI
  have hf0 : cells ≤ room_1.cells ∧ slots ≤ room_1.slots := ⟨Nat.le_of_succ_le hf.1, Nat.le_trans (Nat.le_add_right _ 6) hf.2⟩
  obtain ⟨r, er, r2, er2, hr, hC⟩ := q_named (x := (xs (i + 1))) (y := (xs (i + 2)))   hC
  refine lv_aload_n C.1 C.2.1 dL_law_323 rfl (lv_at hl 1 rfl) ?_
  refine rd_arg (j := 1) C hX hbl hbA hB.2.2.2 hl (by omega) hL dL_law_324 dL_law_325 dL_law_327 rfl dL_law_328 dL_law_329 ?_
  refine rd_arg (j := 2) C hX hbl hbA hB.2.2.2 hl (by omega) hL dL_law_330 dL_law_331 dL_law_333 rfl dL_law_334 dL_law_335 ?_
  refine wl_P (As := [.int (xs (i + 1)), .int (xs (i + 2))]) (rest := []) (st1 := [.int r]) C hK hA0 hN hB (tX11_named l E (aa 0) (aa 1 0) (aS 0 0) (aa 2 0) (aa 5 0) (aa 7 0) (aa 8 0) (aa 9 0) (aa 10 0) (aa 11 0) (aa 12 0) (aa 13 0) (aa 14 0) mn aT T (xs (i + 1)) (xs (i + 2)) r er) [0, 2, 3, 4, 5, 6, 7, 8, 9] rfl lk_L_35 ⟨Nat.le_of_ble_eq_true rfl, Nat.le_of_ble_eq_true rfl⟩ hf0 (rc_X11 hK (hB.1 0 _ rfl)) rfl hl.1 rfl rfl (Nat.le_of_ble_eq_true rfl) dL_law_336 ?_
  refine lv_aload_n C.1 C.2.1 dL_law_339 rfl (lv_at hl 2 rfl) ?_
  refine rd_arg (j := 1) C hX hbl hbA hB.2.2.2 hl (by omega) hL dL_law_340 dL_law_341 dL_law_343 rfl dL_law_344 dL_law_345 ?_
  refine rd_arg (j := 2) C hX hbl hbA hB.2.2.2 hl (by omega) hL dL_law_346 dL_law_347 dL_law_349 rfl dL_law_350 dL_law_351 ?_
  refine wl_X (As := [.int (xs (i + 1)), .int (xs (i + 2))]) (rest := [.int r]) (st1 := [.int r2.1, .int r]) C hK hA0 hN hB (tX12_named l E (aa 15) M (xs (i + 1)) (xs (i + 2)) r2 er2) [31] (by decide) rfl (fun _ => rfl) lk_L_38 ⟨Nat.le_of_ble_eq_true rfl, Nat.le_of_ble_eq_true rfl⟩ hf0 (rc_X12 hK (hB.1 31 _ rfl)) rfl hl.1 rfl rfl (Nat.le_of_ble_eq_true rfl) dL_law_352 (fun H locs q2 hB => ?_)
  replace hB : WZ E A s.heap (BL E aa aT aS p0 p1 p2 p3 mn tape rd tk ph ml nm now trial im sp nt fut od crow r2.2 out T S) H locs := hB
  refine lv_icmp_eq (tgt := 1461) C.1 C.2.1 dL_law_355 (by decide) (fun _ => ?_) (fun q9 => absurd hr q9)
  exact W.widen (Nat.le_succ _) (Nat.le_add_right _ 6) (kk H locs ⟨aa, aT, aS, _, _, _, _, _, _, _, _, _, _, _, _, _, _, _, _, _, _, _, _, _, _, _, hB, hC, rfl, rfl, rfl⟩)
set_option maxHeartbeats 4000000 in
set_option maxRecDepth 20000 in
theorem cs_5 {p : Program} {l : Launch} {e : Env} {s : State} {m : MethodId} {args : Array Value} {below : List Frame} {meth : Method} {c : Code} {H : Heap} {locs : List Loc} {cells slots : Nat} {Q : State → Prop} {ls : Array Slot} {E : Ev} {A : Nat → Prop} {b L i : Nat} {xs : Nat → Int32} {x mo oo : Nat} (C : CallFix p m c cL_law 7 s args gtbl RL) (hK : Kx E s) (hA0 : ∀ q, A q → E.2.2.1 ≤ q) (hN : E.2.2.1 ≤ s.heap.size) (hf : cells + 1 ≤ room_1.cells ∧ slots + 6 ≤ room_1.slots) (hX : va_X b L xs s s.heap) (hbl : b < s.heap.size) (hbA : ¬ A b) (hl : lv_has ls 7 [(0, .ref b), (1, .ref x), (2, .ref mo), (3, .ref oo), (4, .int (nI i))]) (hi : i + 6 ≤ L) (hL : L ≤ 3072) (hI : LI E A s.heap x mo oo H locs)
    (kk : ∀ (H : Heap) (locs : List Loc), LI E A s.heap x mo oo H locs → W p l e room_1 s m args below meth c H locs (cells + 1) (slots + 6) Q (F0 m 1461 ls [])) : W p l e room_1 s m args below meth c H locs cells slots Q (F0 m 428 ls []) := by
  obtain ⟨aa, aT, aS, p0, p1, p2, p3, mn, tape, rd, tk, ph, ml, nm, now, trial, im, sp, nt, fut, od, crow, M, out, T, S, hB, hC, rfl, rfl, rfl⟩ := hI
  have hf0 : cells ≤ room_1.cells ∧ slots ≤ room_1.slots := ⟨Nat.le_of_succ_le hf.1, Nat.le_trans (Nat.le_add_right _ 6) hf.2⟩
  obtain ⟨r, er, r2, er2, hr, hC⟩ := q_act (x := (xs (i + 1))) (y := (xs (i + 2)))   hC
  refine lv_aload_n C.1 C.2.1 dL_law_428 rfl (lv_at hl 1 rfl) ?_
  refine rd_arg (j := 1) C hX hbl hbA hB.2.2.2 hl (by omega) hL dL_law_429 dL_law_430 dL_law_432 rfl dL_law_433 dL_law_434 ?_
  refine rd_arg (j := 2) C hX hbl hbA hB.2.2.2 hl (by omega) hL dL_law_435 dL_law_436 dL_law_438 rfl dL_law_439 dL_law_440 ?_
  refine wl_P (As := [.int (xs (i + 1)), .int (xs (i + 2))]) (rest := []) (st1 := [.int r]) C hK hA0 hN hB (tX11_act l E (aa 0) (aa 1 0) (aS 0 0) (aa 2 0) (aa 5 0) (aa 8 0) (aa 9 0) (aa 10 0) (aa 11 0) (aa 12 0) (aa 13 0) (aa 14 0) mn (aa 7) now aT T (xs (i + 1)) (xs (i + 2)) r er) [0, 23, 2, 3, 4, 5, 6, 7, 8, 9] rfl lk_L_49 ⟨Nat.le_of_ble_eq_true rfl, Nat.le_of_ble_eq_true rfl⟩ hf0 (rc_X11 hK (hB.1 0 _ rfl)) rfl hl.1 rfl rfl (Nat.le_of_ble_eq_true rfl) dL_law_441 ?_
  refine lv_aload_n C.1 C.2.1 dL_law_444 rfl (lv_at hl 2 rfl) ?_
  refine rd_arg (j := 1) C hX hbl hbA hB.2.2.2 hl (by omega) hL dL_law_445 dL_law_446 dL_law_448 rfl dL_law_449 dL_law_450 ?_
  refine rd_arg (j := 2) C hX hbl hbA hB.2.2.2 hl (by omega) hL dL_law_451 dL_law_452 dL_law_454 rfl dL_law_455 dL_law_456 ?_
  refine wl_X (As := [.int (xs (i + 1)), .int (xs (i + 2))]) (rest := [.int r]) (st1 := [.int r2.1, .int r]) C hK hA0 hN hB (tX12_act l E (aa 15) M (xs (i + 1)) (xs (i + 2)) r2 er2) [31] (by decide) rfl (fun _ => rfl) lk_L_52 ⟨Nat.le_of_ble_eq_true rfl, Nat.le_of_ble_eq_true rfl⟩ hf0 (rc_X12 hK (hB.1 31 _ rfl)) rfl hl.1 rfl rfl (Nat.le_of_ble_eq_true rfl) dL_law_457 (fun H locs q2 hB => ?_)
  replace hB : WZ E A s.heap (BL E aa aT aS p0 p1 p2 p3 mn tape rd tk ph ml nm now trial im sp nt fut od crow r2.2 out T S) H locs := hB
  refine lv_icmp_eq (tgt := 1461) C.1 C.2.1 dL_law_460 (by decide) (fun _ => ?_) (fun q9 => absurd hr q9)
  exact W.widen (Nat.le_succ _) (Nat.le_add_right _ 6) (kk H locs ⟨aa, aT, aS, _, _, _, _, _, _, _, _, _, _, _, _, _, _, _, _, _, _, _, _, _, _, _, hB, hC, rfl, rfl, rfl⟩)
set_option maxHeartbeats 4000000 in
set_option maxRecDepth 20000 in
theorem cs_6 {p : Program} {l : Launch} {e : Env} {s : State} {m : MethodId} {args : Array Value} {below : List Frame} {meth : Method} {c : Code} {H : Heap} {locs : List Loc} {cells slots : Nat} {Q : State → Prop} {ls : Array Slot} {E : Ev} {A : Nat → Prop} {b L i : Nat} {xs : Nat → Int32} {x mo oo : Nat} (C : CallFix p m c cL_law 7 s args gtbl RL) (hK : Kx E s) (hA0 : ∀ q, A q → E.2.2.1 ≤ q) (hN : E.2.2.1 ≤ s.heap.size) (hf : cells + 1 ≤ room_1.cells ∧ slots + 6 ≤ room_1.slots) (hX : va_X b L xs s s.heap) (hbl : b < s.heap.size) (hbA : ¬ A b) (hl : lv_has ls 7 [(0, .ref b), (1, .ref x), (2, .ref mo), (3, .ref oo), (4, .int (nI i))]) (hi : i + 6 ≤ L) (hL : L ≤ 3072) (hI : LI E A s.heap x mo oo H locs)
    (kk : ∀ (H : Heap) (locs : List Loc), LI E A s.heap x mo oo H locs → W p l e room_1 s m args below meth c H locs (cells + 1) (slots + 6) Q (F0 m 1461 ls [])) : W p l e room_1 s m args below meth c H locs cells slots Q (F0 m 465 ls []) := by
  obtain ⟨aa, aT, aS, p0, p1, p2, p3, mn, tape, rd, tk, ph, ml, nm, now, trial, im, sp, nt, fut, od, crow, M, out, T, S, hB, hC, rfl, rfl, rfl⟩ := hI
  have hf0 : cells ≤ room_1.cells ∧ slots ≤ room_1.slots := ⟨Nat.le_of_succ_le hf.1, Nat.le_trans (Nat.le_add_right _ 6) hf.2⟩
  obtain ⟨r, er, r2, er2, hr, hC⟩ := q_grain (x := (xs (i + 1))) (y := (xs (i + 2)))   hC
  refine lv_aload_n C.1 C.2.1 dL_law_465 rfl (lv_at hl 1 rfl) ?_
  refine rd_arg (j := 1) C hX hbl hbA hB.2.2.2 hl (by omega) hL dL_law_466 dL_law_467 dL_law_469 rfl dL_law_470 dL_law_471 ?_
  refine rd_arg (j := 2) C hX hbl hbA hB.2.2.2 hl (by omega) hL dL_law_472 dL_law_473 dL_law_475 rfl dL_law_476 dL_law_477 ?_
  refine wl_P (As := [.int (xs (i + 1)), .int (xs (i + 2))]) (rest := []) (st1 := [.int r]) C hK hA0 hN hB (tX11_grain l E (aa 0) (aa 1 0) (aS 0 0) (aa 2 0) (aa 5 0) (aa 8 0) (aa 9 0) (aa 10 0) (aa 11 0) (aa 12 0) (aa 13 0) (aa 14 0) mn (aa 7) now aT T (xs (i + 1)) (xs (i + 2)) r er) [0, 23, 2, 3, 4, 5, 6, 7, 8, 9] rfl lk_L_53 ⟨Nat.le_of_ble_eq_true rfl, Nat.le_of_ble_eq_true rfl⟩ hf0 (rc_X11 hK (hB.1 0 _ rfl)) rfl hl.1 rfl rfl (Nat.le_of_ble_eq_true rfl) dL_law_478 ?_
  refine lv_aload_n C.1 C.2.1 dL_law_481 rfl (lv_at hl 2 rfl) ?_
  refine rd_arg (j := 1) C hX hbl hbA hB.2.2.2 hl (by omega) hL dL_law_482 dL_law_483 dL_law_485 rfl dL_law_486 dL_law_487 ?_
  refine rd_arg (j := 2) C hX hbl hbA hB.2.2.2 hl (by omega) hL dL_law_488 dL_law_489 dL_law_491 rfl dL_law_492 dL_law_493 ?_
  refine wl_X (As := [.int (xs (i + 1)), .int (xs (i + 2))]) (rest := [.int r]) (st1 := [.int r2.1, .int r]) C hK hA0 hN hB (tX12_grain l E (aa 15) M (xs (i + 1)) (xs (i + 2)) r2 er2) [31] (by decide) rfl (fun _ => rfl) lk_L_56 ⟨Nat.le_of_ble_eq_true rfl, Nat.le_of_ble_eq_true rfl⟩ hf0 (rc_X12 hK (hB.1 31 _ rfl)) rfl hl.1 rfl rfl (Nat.le_of_ble_eq_true rfl) dL_law_494 (fun H locs q2 hB => ?_)
  replace hB : WZ E A s.heap (BL E aa aT aS p0 p1 p2 p3 mn tape rd tk ph ml nm now trial im sp nt fut od crow r2.2 out T S) H locs := hB
  refine lv_icmp_eq (tgt := 1461) C.1 C.2.1 dL_law_497 (by decide) (fun _ => ?_) (fun q9 => absurd hr q9)
  exact W.widen (Nat.le_succ _) (Nat.le_add_right _ 6) (kk H locs ⟨aa, aT, aS, _, _, _, _, _, _, _, _, _, _, _, _, _, _, _, _, _, _, _, _, _, _, _, hB, hC, rfl, rfl, rfl⟩)
set_option maxHeartbeats 4000000 in
set_option maxRecDepth 20000 in
theorem cs_7 {p : Program} {l : Launch} {e : Env} {s : State} {m : MethodId} {args : Array Value} {below : List Frame} {meth : Method} {c : Code} {H : Heap} {locs : List Loc} {cells slots : Nat} {Q : State → Prop} {ls : Array Slot} {E : Ev} {A : Nat → Prop} {b L i : Nat} {xs : Nat → Int32} {x mo oo : Nat} (C : CallFix p m c cL_law 7 s args gtbl RL) (hK : Kx E s) (hA0 : ∀ q, A q → E.2.2.1 ≤ q) (hN : E.2.2.1 ≤ s.heap.size) (hf : cells + 1 ≤ room_1.cells ∧ slots + 6 ≤ room_1.slots) (hX : va_X b L xs s s.heap) (hbl : b < s.heap.size) (hbA : ¬ A b) (hl : lv_has ls 7 [(0, .ref b), (1, .ref x), (2, .ref mo), (3, .ref oo), (4, .int (nI i))]) (hi : i + 6 ≤ L) (hL : L ≤ 3072) (hI : LI E A s.heap x mo oo H locs)
    (kk : ∀ (H : Heap) (locs : List Loc), LI E A s.heap x mo oo H locs → W p l e room_1 s m args below meth c H locs (cells + 1) (slots + 6) Q (F0 m 1461 ls [])) : W p l e room_1 s m args below meth c H locs cells slots Q (F0 m 502 ls []) := by
  obtain ⟨aa, aT, aS, p0, p1, p2, p3, mn, tape, rd, tk, ph, ml, nm, now, trial, im, sp, nt, fut, od, crow, M, out, T, S, hB, hC, rfl, rfl, rfl⟩ := hI
  have hf0 : cells ≤ room_1.cells ∧ slots ≤ room_1.slots := ⟨Nat.le_of_succ_le hf.1, Nat.le_trans (Nat.le_add_right _ 6) hf.2⟩
  obtain ⟨r, er, r2, er2, hr, hC⟩ := q_law (x := (xs (i + 1))) (y := (xs (i + 2))) (ml := ml) (nm := nm)  hC
  refine lv_aload_n C.1 C.2.1 dL_law_502 rfl (lv_at hl 1 rfl) ?_
  refine rd_arg (j := 1) C hX hbl hbA hB.2.2.2 hl (by omega) hL dL_law_503 dL_law_504 dL_law_506 rfl dL_law_507 dL_law_508 ?_
  refine rd_arg (j := 2) C hX hbl hbA hB.2.2.2 hl (by omega) hL dL_law_509 dL_law_510 dL_law_512 rfl dL_law_513 dL_law_514 ?_
  refine wl_X (As := [.int (xs (i + 1)), .int (xs (i + 2))]) (rest := []) (st1 := [.long r.1]) C hK hA0 hN hB (tX11_law l E (aa 0) (aa 1 0) (aS 0 0) (aa 2 0) (aa 8 0) (aa 9 0) (aa 10 0) (aa 11 0) (aa 12 0) (aa 13 0) (aa 14 0) mn (aa 5) p3 ml (aa 6) nm (aa 7) now aT T (xs (i + 1)) (xs (i + 2)) r er) [0, 21, 22, 23, 2, 3, 4, 5, 6, 7, 8, 9] (by decide) rfl (fun _ => rfl) lk_L_57 ⟨Nat.le_of_ble_eq_true rfl, Nat.le_of_ble_eq_true rfl⟩ hf0 (rc_X11 hK (hB.1 0 _ rfl)) rfl hl.1 rfl rfl (Nat.le_of_ble_eq_true rfl) dL_law_515 (fun H locs q hB => ?_)
  replace hB : WZ E A s.heap (BL E aa aT aS p0 p1 p2 (aT 0 0) mn tape rd tk ph r.2.1 r.2.2.1 now trial im sp nt fut od crow M out (r.2.2.2) S) H locs := hB
  refine lv_aload_n C.1 C.2.1 dL_law_518 rfl (lv_at hl 2 rfl) ?_
  refine rd_arg (j := 1) C hX hbl hbA hB.2.2.2 hl (by omega) hL dL_law_519 dL_law_520 dL_law_522 rfl dL_law_523 dL_law_524 ?_
  refine rd_arg (j := 2) C hX hbl hbA hB.2.2.2 hl (by omega) hL dL_law_525 dL_law_526 dL_law_528 rfl dL_law_529 dL_law_530 ?_
  refine wl_X (As := [.int (xs (i + 1)), .int (xs (i + 2))]) (rest := [.long r.1]) (st1 := [.long r2.1, .long r.1]) C hK hA0 hN hB (tX12_law l E (aa 15) M (xs (i + 1)) (xs (i + 2)) r2 er2) [31] (by decide) rfl (fun _ => rfl) lk_L_61 ⟨Nat.le_of_ble_eq_true rfl, Nat.le_of_ble_eq_true rfl⟩ hf0 (rc_X12 hK (hB.1 31 _ rfl)) rfl hl.1 rfl rfl (Nat.le_of_ble_eq_true rfl) dL_law_531 (fun H locs q2 hB => ?_)
  replace hB : WZ E A s.heap (BL E aa aT aS p0 p1 p2 (aT 0 0) mn tape rd tk ph r.2.1 r.2.2.1 now trial im sp nt fut od crow r2.2 out (r.2.2.2) S) H locs := hB
  refine W.lcmp C.1 C.2.1 dL_law_534 ?_
  refine lx_if_eq (tgt := 1461) C.1 C.2.1 dL_law_535 (by decide) (fun _ => ?_) (fun q9 => absurd hr q9)
  exact W.widen (Nat.le_succ _) (Nat.le_add_right _ 6) (kk H locs ⟨aa, aT, aS, _, _, _, _, _, _, _, _, _, _, _, _, _, _, _, _, _, _, _, _, _, _, _, hB, hC, rfl, rfl, rfl⟩)
set_option maxHeartbeats 4000000 in
set_option maxRecDepth 20000 in
theorem cs_8 {p : Program} {l : Launch} {e : Env} {s : State} {m : MethodId} {args : Array Value} {below : List Frame} {meth : Method} {c : Code} {H : Heap} {locs : List Loc} {cells slots : Nat} {Q : State → Prop} {ls : Array Slot} {E : Ev} {A : Nat → Prop} {b L i : Nat} {xs : Nat → Int32} {x mo oo : Nat} (C : CallFix p m c cL_law 7 s args gtbl RL) (hK : Kx E s) (hA0 : ∀ q, A q → E.2.2.1 ≤ q) (hN : E.2.2.1 ≤ s.heap.size) (hf : cells + 1 ≤ room_1.cells ∧ slots + 6 ≤ room_1.slots) (hX : va_X b L xs s s.heap) (hbl : b < s.heap.size) (hbA : ¬ A b) (hl : lv_has ls 7 [(0, .ref b), (1, .ref x), (2, .ref mo), (3, .ref oo), (4, .int (nI i))]) (hi : i + 6 ≤ L) (hL : L ≤ 3072) (hI : LI E A s.heap x mo oo H locs)
    (kk : ∀ (H : Heap) (locs : List Loc), LI E A s.heap x mo oo H locs → W p l e room_1 s m args below meth c H locs (cells + 1) (slots + 6) Q (F0 m 1461 ls [])) : W p l e room_1 s m args below meth c H locs cells slots Q (F0 m 540 ls []) := by
  obtain ⟨aa, aT, aS, p0, p1, p2, p3, mn, tape, rd, tk, ph, ml, nm, now, trial, im, sp, nt, fut, od, crow, M, out, T, S, hB, hC, rfl, rfl, rfl⟩ := hI
  have hf0 : cells ≤ room_1.cells ∧ slots ≤ room_1.slots := ⟨Nat.le_of_succ_le hf.1, Nat.le_trans (Nat.le_add_right _ 6) hf.2⟩
  obtain ⟨r, er, r2, er2, hr, hC⟩ := q_stage (x := (xs (i + 1)))   hC
  refine lv_aload_n C.1 C.2.1 dL_law_540 rfl (lv_at hl 1 rfl) ?_
  refine rd_arg (j := 1) C hX hbl hbA hB.2.2.2 hl (by omega) hL dL_law_541 dL_law_542 dL_law_544 rfl dL_law_545 dL_law_546 ?_
  refine wl_X (As := [.int (xs (i + 1))]) (rest := []) (st1 := [.int r.1]) C hK hA0 hN hB (tX11_stage l E (aa 0) (aa 1 0) (aS 0 0) (aa 2 0) (aa 5 0) (aa 8 0) (aa 9 0) (aa 11 0) (aa 12 0) (aa 13 0) (aa 14 0) mn (aa 7) now (aa 10) sp aT T (xs (i + 1)) r er) [0, 23, 26, 2, 3, 4, 5, 6, 7, 8, 9] (by decide) rfl (fun _ => rfl) lk_L_62 ⟨Nat.le_of_ble_eq_true rfl, Nat.le_of_ble_eq_true rfl⟩ hf0 (rc_X11 hK (hB.1 0 _ rfl)) rfl hl.1 rfl rfl (Nat.le_of_ble_eq_true rfl) dL_law_547 (fun H locs q hB => ?_)
  replace hB : WZ E A s.heap (BL E aa aT aS p0 p1 p2 p3 mn tape rd tk ph ml nm r.2.1 trial im r.2.2 nt fut od crow M out T S) H locs := hB
  refine lv_aload_n C.1 C.2.1 dL_law_550 rfl (lv_at hl 2 rfl) ?_
  refine rd_arg (j := 1) C hX hbl hbA hB.2.2.2 hl (by omega) hL dL_law_551 dL_law_552 dL_law_554 rfl dL_law_555 dL_law_556 ?_
  refine wl_X (As := [.int (xs (i + 1))]) (rest := [.int r.1]) (st1 := [.int r2.1, .int r.1]) C hK hA0 hN hB (tX12_stage l E (aa 15) M (xs (i + 1)) r2 er2) [31] (by decide) rfl (fun _ => rfl) lk_L_65 ⟨Nat.le_of_ble_eq_true rfl, Nat.le_of_ble_eq_true rfl⟩ hf0 (rc_X12 hK (hB.1 31 _ rfl)) rfl hl.1 rfl rfl (Nat.le_of_ble_eq_true rfl) dL_law_557 (fun H locs q2 hB => ?_)
  replace hB : WZ E A s.heap (BL E aa aT aS p0 p1 p2 p3 mn tape rd tk ph ml nm r.2.1 trial im r.2.2 nt fut od crow r2.2 out T S) H locs := hB
  refine lv_icmp_eq (tgt := 1461) C.1 C.2.1 dL_law_560 (by decide) (fun _ => ?_) (fun q9 => absurd hr q9)
  exact W.widen (Nat.le_succ _) (Nat.le_add_right _ 6) (kk H locs ⟨aa, aT, aS, _, _, _, _, _, _, _, _, _, _, _, _, _, _, _, _, _, _, _, _, _, _, _, hB, hC, rfl, rfl, rfl⟩)
set_option maxHeartbeats 4000000 in
set_option maxRecDepth 20000 in
theorem cs_9 {p : Program} {l : Launch} {e : Env} {s : State} {m : MethodId} {args : Array Value} {below : List Frame} {meth : Method} {c : Code} {H : Heap} {locs : List Loc} {cells slots : Nat} {Q : State → Prop} {ls : Array Slot} {E : Ev} {A : Nat → Prop} {b L i : Nat} {xs : Nat → Int32} {x mo oo : Nat} (C : CallFix p m c cL_law 7 s args gtbl RL) (hK : Kx E s) (hA0 : ∀ q, A q → E.2.2.1 ≤ q) (hN : E.2.2.1 ≤ s.heap.size) (hf : cells + 1 ≤ room_1.cells ∧ slots + 6 ≤ room_1.slots) (hX : va_X b L xs s s.heap) (hbl : b < s.heap.size) (hbA : ¬ A b) (hl : lv_has ls 7 [(0, .ref b), (1, .ref x), (2, .ref mo), (3, .ref oo), (4, .int (nI i))]) (hi : i + 6 ≤ L) (hL : L ≤ 3072) (hI : LI E A s.heap x mo oo H locs)
    (kk : ∀ (H : Heap) (locs : List Loc), LI E A s.heap x mo oo H locs → W p l e room_1 s m args below meth c H locs (cells + 1) (slots + 6) Q (F0 m 1461 ls [])) : W p l e room_1 s m args below meth c H locs cells slots Q (F0 m 565 ls []) := by
  obtain ⟨aa, aT, aS, p0, p1, p2, p3, mn, tape, rd, tk, ph, ml, nm, now, trial, im, sp, nt, fut, od, crow, M, out, T, S, hB, hC, rfl, rfl, rfl⟩ := hI
  have hf0 : cells ≤ room_1.cells ∧ slots ≤ room_1.slots := ⟨Nat.le_of_succ_le hf.1, Nat.le_trans (Nat.le_add_right _ 6) hf.2⟩
  obtain ⟨r, er, r2, er2, hr, hC⟩ := q_change (x := (xs (i + 1))) (y := (xs (i + 2)))   hC
  refine lv_aload_n C.1 C.2.1 dL_law_565 rfl (lv_at hl 1 rfl) ?_
  refine rd_arg (j := 1) C hX hbl hbA hB.2.2.2 hl (by omega) hL dL_law_566 dL_law_567 dL_law_569 rfl dL_law_570 dL_law_571 ?_
  refine rd_arg (j := 2) C hX hbl hbA hB.2.2.2 hl (by omega) hL dL_law_572 dL_law_573 dL_law_575 rfl dL_law_576 dL_law_577 ?_
  refine wl_X (As := [.int (xs (i + 1)), .int (xs (i + 2))]) (rest := []) (st1 := [.int r.1]) C hK hA0 hN hB (tX11_change l E (aa 0) (aa 1 0) (aS 0 0) (aa 2 0) (aa 5 0) (aa 8 0) (aa 9 0) (aa 11 0) (aa 12 0) (aa 13 0) (aa 14 0) mn (aa 7) now (aa 10) sp aT T (xs (i + 1)) (xs (i + 2)) r er) [0, 23, 26, 2, 3, 4, 5, 6, 7, 8, 9] (by decide) rfl (fun _ => rfl) lk_L_66 ⟨Nat.le_of_ble_eq_true rfl, Nat.le_of_ble_eq_true rfl⟩ hf0 (rc_X11 hK (hB.1 0 _ rfl)) rfl hl.1 rfl rfl (Nat.le_of_ble_eq_true rfl) dL_law_578 (fun H locs q hB => ?_)
  replace hB : WZ E A s.heap (BL E aa aT aS p0 p1 p2 p3 mn tape rd tk ph ml nm r.2.1 trial im r.2.2 nt fut od crow M out T S) H locs := hB
  refine lv_aload_n C.1 C.2.1 dL_law_581 rfl (lv_at hl 2 rfl) ?_
  refine rd_arg (j := 1) C hX hbl hbA hB.2.2.2 hl (by omega) hL dL_law_582 dL_law_583 dL_law_585 rfl dL_law_586 dL_law_587 ?_
  refine rd_arg (j := 2) C hX hbl hbA hB.2.2.2 hl (by omega) hL dL_law_588 dL_law_589 dL_law_591 rfl dL_law_592 dL_law_593 ?_
  refine wl_X (As := [.int (xs (i + 1)), .int (xs (i + 2))]) (rest := [.int r.1]) (st1 := [.int r2.1, .int r.1]) C hK hA0 hN hB (tX12_change l E (aa 15) M (xs (i + 1)) (xs (i + 2)) r2 er2) [31] (by decide) rfl (fun _ => rfl) lk_L_69 ⟨Nat.le_of_ble_eq_true rfl, Nat.le_of_ble_eq_true rfl⟩ hf0 (rc_X12 hK (hB.1 31 _ rfl)) rfl hl.1 rfl rfl (Nat.le_of_ble_eq_true rfl) dL_law_594 (fun H locs q2 hB => ?_)
  replace hB : WZ E A s.heap (BL E aa aT aS p0 p1 p2 p3 mn tape rd tk ph ml nm r.2.1 trial im r.2.2 nt fut od crow r2.2 out T S) H locs := hB
  refine lv_icmp_eq (tgt := 1461) C.1 C.2.1 dL_law_597 (by decide) (fun _ => ?_) (fun q9 => absurd hr q9)
  exact W.widen (Nat.le_succ _) (Nat.le_add_right _ 6) (kk H locs ⟨aa, aT, aS, _, _, _, _, _, _, _, _, _, _, _, _, _, _, _, _, _, _, _, _, _, _, _, hB, hC, rfl, rfl, rfl⟩)
set_option maxHeartbeats 4000000 in
set_option maxRecDepth 20000 in
theorem cs_10 {p : Program} {l : Launch} {e : Env} {s : State} {m : MethodId} {args : Array Value} {below : List Frame} {meth : Method} {c : Code} {H : Heap} {locs : List Loc} {cells slots : Nat} {Q : State → Prop} {ls : Array Slot} {E : Ev} {A : Nat → Prop} {b L i : Nat} {xs : Nat → Int32} {x mo oo : Nat} (C : CallFix p m c cL_law 7 s args gtbl RL) (hK : Kx E s) (hA0 : ∀ q, A q → E.2.2.1 ≤ q) (hN : E.2.2.1 ≤ s.heap.size) (hf : cells + 1 ≤ room_1.cells ∧ slots + 6 ≤ room_1.slots) (hX : va_X b L xs s s.heap) (hbl : b < s.heap.size) (hbA : ¬ A b) (hl : lv_has ls 7 [(0, .ref b), (1, .ref x), (2, .ref mo), (3, .ref oo), (4, .int (nI i))]) (hi : i + 6 ≤ L) (hL : L ≤ 3072) (hI : LI E A s.heap x mo oo H locs)
    (kk : ∀ (H : Heap) (locs : List Loc), LI E A s.heap x mo oo H locs → W p l e room_1 s m args below meth c H locs (cells + 1) (slots + 6) Q (F0 m 1461 ls [])) : W p l e room_1 s m args below meth c H locs cells slots Q (F0 m 602 ls []) := by
  obtain ⟨aa, aT, aS, p0, p1, p2, p3, mn, tape, rd, tk, ph, ml, nm, now, trial, im, sp, nt, fut, od, crow, M, out, T, S, hB, hC, rfl, rfl, rfl⟩ := hI
  have hf0 : cells ≤ room_1.cells ∧ slots ≤ room_1.slots := ⟨Nat.le_of_succ_le hf.1, Nat.le_trans (Nat.le_add_right _ 6) hf.2⟩
  obtain ⟨r, er, r2, er2, hr, hC⟩ := q_push (x := (xs (i + 1)))   hC
  refine lv_aload_n C.1 C.2.1 dL_law_602 rfl (lv_at hl 1 rfl) ?_
  refine rd_arg (j := 1) C hX hbl hbA hB.2.2.2 hl (by omega) hL dL_law_603 dL_law_604 dL_law_606 rfl dL_law_607 dL_law_608 ?_
  refine wl_X (As := [.int (xs (i + 1))]) (rest := []) (st1 := [.int r.1]) C hK hA0 hN hB (tX11_push l E (aa 0) (aa 1 0) (aT 0 0) (aS 0 0) (aa 2 0) (aa 5 0) (aa 8 0) (aa 9 0) (aa 11 0) (aa 12 0) (aa 13 0) (aa 14 0) mn (aa 7) now (aa 10) sp (xs (i + 1)) r er) [0, 23, 26] (by decide) rfl (fun _ => rfl) lk_L_70 ⟨Nat.le_of_ble_eq_true rfl, Nat.le_of_ble_eq_true rfl⟩ hf0 (rc_X11 hK (hB.1 0 _ rfl)) rfl hl.1 rfl rfl (Nat.le_of_ble_eq_true rfl) dL_law_609 (fun H locs q hB => ?_)
  replace hB : WZ E A s.heap (BL E aa aT aS p0 p1 p2 p3 mn tape rd tk ph ml nm r.2.1 trial im r.2.2 nt fut od crow M out T S) H locs := hB
  refine lv_aload_n C.1 C.2.1 dL_law_612 rfl (lv_at hl 2 rfl) ?_
  refine rd_arg (j := 1) C hX hbl hbA hB.2.2.2 hl (by omega) hL dL_law_613 dL_law_614 dL_law_616 rfl dL_law_617 dL_law_618 ?_
  refine wl_X (As := [.int (xs (i + 1))]) (rest := [.int r.1]) (st1 := [.int r2.1, .int r.1]) C hK hA0 hN hB (tX12_push l E (aa 15) M (xs (i + 1)) r2 er2) [31] (by decide) rfl (fun _ => rfl) lk_L_73 ⟨Nat.le_of_ble_eq_true rfl, Nat.le_of_ble_eq_true rfl⟩ hf0 (rc_X12 hK (hB.1 31 _ rfl)) rfl hl.1 rfl rfl (Nat.le_of_ble_eq_true rfl) dL_law_619 (fun H locs q2 hB => ?_)
  replace hB : WZ E A s.heap (BL E aa aT aS p0 p1 p2 p3 mn tape rd tk ph ml nm r.2.1 trial im r.2.2 nt fut od crow r2.2 out T S) H locs := hB
  refine lv_icmp_eq (tgt := 1461) C.1 C.2.1 dL_law_622 (by decide) (fun _ => ?_) (fun q9 => absurd hr q9)
  exact W.widen (Nat.le_succ _) (Nat.le_add_right _ 6) (kk H locs ⟨aa, aT, aS, _, _, _, _, _, _, _, _, _, _, _, _, _, _, _, _, _, _, _, _, _, _, _, hB, hC, rfl, rfl, rfl⟩)
