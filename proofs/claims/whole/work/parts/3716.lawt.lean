theorem mw_547 : Cond.methodLink RL 26 yX11_text ∈ gtbl := mg (List.mem_of_getElem? (i := 547) (by decide +kernel)) (by decide +kernel)
theorem mw_548 : Cond.instanceMethod yX11_text ∈ gtbl := mg (List.mem_of_getElem? (i := 548) (by decide +kernel)) (by decide +kernel)
theorem ms_X11_text : Cond.selects RX11 yX11_text yX11_text ∈ gtbl := mg (List.mem_of_getElem? (i := 549) (by decide +kernel)) (by decide +kernel)
theorem mw_550 : Cond.code yX11_text cX11_text 3 (some .int) ∈ gtbl := mg (List.mem_of_getElem? (i := 550) (by decide +kernel)) (by decide +kernel)
theorem mw_1557 : Cond.methodLink RL 30 yX12_text ∈ gtbl := mg (List.mem_of_getElem? (i := 1557) (by decide +kernel)) (by decide +kernel)
theorem mw_1558 : Cond.instanceMethod yX12_text ∈ gtbl := mg (List.mem_of_getElem? (i := 1558) (by decide +kernel)) (by decide +kernel)
theorem ms_X12_text : Cond.selects RX12 yX12_text yX12_text ∈ gtbl := mg (List.mem_of_getElem? (i := 1559) (by decide +kernel)) (by decide +kernel)
theorem mw_1560 : Cond.code yX12_text cX12_text 3 (some .int) ∈ gtbl := mg (List.mem_of_getElem? (i := 1560) (by decide +kernel)) (by decide +kernel)
theorem dL_law_273 : decode cL_law 273 = .ok (.aload_n 1, 1) := by decide +kernel
theorem dL_law_274 : decode cL_law 274 = .ok (.aload_n 0, 1) := by decide +kernel
theorem dL_law_275 : decode cL_law 275 = .ok (.iload 4, 2) := by decide +kernel
theorem dL_law_277 : decode cL_law 277 = .ok (.iconst 1, 1) := by decide +kernel
theorem dL_law_278 : decode cL_law 278 = .ok (.iadd, 1) := by decide +kernel
theorem dL_law_279 : decode cL_law 279 = .ok (.iaload, 1) := by decide +kernel
theorem dL_law_280 : decode cL_law 280 = .ok (.invokevirtual 26, 3) := by decide +kernel
theorem dL_law_283 : decode cL_law 283 = .ok (.aload_n 2, 1) := by decide +kernel
theorem dL_law_284 : decode cL_law 284 = .ok (.aload_n 0, 1) := by decide +kernel
theorem dL_law_285 : decode cL_law 285 = .ok (.iload 4, 2) := by decide +kernel
theorem dL_law_287 : decode cL_law 287 = .ok (.iconst 1, 1) := by decide +kernel
theorem dL_law_288 : decode cL_law 288 = .ok (.iadd, 1) := by decide +kernel
theorem dL_law_289 : decode cL_law 289 = .ok (.iaload, 1) := by decide +kernel
theorem dL_law_290 : decode cL_law 290 = .ok (.invokevirtual 30, 3) := by decide +kernel
theorem dL_law_293 : decode cL_law 293 = .ok (.if_icmp .eq 1168, 3) := by decide +kernel
theorem dL_law_33 : decode cL_law 33 = .ok (.aload_n 0, 1) := by decide +kernel
theorem dL_law_34 : decode cL_law 34 = .ok (.iload 4, 2) := by decide +kernel
theorem dL_law_36 : decode cL_law 36 = .ok (.iaload, 1) := by decide +kernel
theorem dL_law_37 : decode cL_law 37 = .ok (.bipush 63, 2) := by decide +kernel
theorem dL_law_39 : decode cL_law 39 = .ok (.iand, 1) := by decide +kernel
theorem dL_law_40 : decode cL_law 40 = .ok (.tableswitch 1421 0 35 #[160, 233, 258, 283, 320, 388, 425, 462, 500, 525, 562, 587, 612, 661, 686, 711, 748, 785, 810, 847, 872, 909, 958, 1019, 1044, 1082, 1147, 1172, 1197, 1222, 1259, 1308, 1357, 1370, 1383, 1396], 160) := by decide +kernel
theorem lk_L_26 : LkV RL 26 yX11_text cX11_text 3 (some .int) 1 := ⟨mw_547, mw_548, ms_X11_text, mw_1, mw_550, ⟨by decide, by decide⟩, by decide +kernel⟩
theorem lk_L_30 : LkV RL 30 yX12_text cX12_text 3 (some .int) 1 := ⟨mw_1557, mw_1558, ms_X12_text, mw_17, mw_1560, ⟨by decide, by decide⟩, by decide +kernel⟩
def BL2 (E : Ev) (aa aT aS : Nat → Nat → Nat) (p0 p1 p2 p3 : Nat) (mn tape rd tk ph ml nm now trial im sp nt fut od crow M out : St) (T S : Nat → St) : List va_W := [wMain E (aa 0) (aa 1 0) (aS 0 0) (aT 0 0) (aa 2 0) (aa 5 0) (aa 7 0) (aa 8 0) (aa 9 0) (aa 10 0) (aa 11 0) (aa 12 0) (aa 13 0) (aa 14 0) mn, wBArr E 700 (aa 1) tape, wScript E (aT 0) (aT 1 0) (aT 2 0) (aT 3 0) (aT 4 0) (aT 5 0) (aT 6 0) (aT 7 0) (T 0), wRoll E 6 (aT 1) (T 1), wRoll E 6 (aT 2) (T 2), wRoll E 4 (aT 3) (T 3), wRoll E 14 (aT 4) (T 4), wFormula E (aT 5) (T 5), wFormula E (aT 6) (T 6), wFormula E (aT 7) (T 7), wScript E (aS 0) (aS 1 0) (aS 2 0) (aS 3 0) (aS 4 0) (aS 5 0) (aS 6 0) (aS 7 0) (S 0), wRoll E 6 (aS 1) (S 1), wRoll E 6 (aS 2) (S 2), wRoll E 4 (aS 3) (S 3), wRoll E 14 (aS 4) (S 4), wFormula E (aS 5) (S 5), wFormula E (aS 6) (S 6), wFormula E (aS 7) (S 7), wReader E (aa 2) (aa 3 0) (aa 4 0) p0 rd, wTokens E (aa 3) p1 tk, wPhrase E (aa 4) p2 ph, wMill E (aa 5) (aa 6 0) p3 ml, wLArr E 7 (aa 6) nm, wHall E (aa 7) now, wHall E (aa 8) trial, wHall E (aa 9) im, wSteps E (aa 10) sp, wNotes E (aa 11) nt, wIArr E 600 (aa 12) fut, wOrder E (aa 13) od, wIArr E 114 (aa 14) crow, wModel E (aa 15) M, wLArr E 1 (aa 16) out]
theorem BL2.to {E : Ev} {A : Nat → Prop} {H0 H : Heap} {locs : List Loc} {aa aT aS : Nat → Nat → Nat} {p0 p1 p2 p3 : Nat} {mn tape rd tk ph ml nm now trial im sp nt fut od crow M out : St} {T S : Nat → St} (h : WZ E A H0 (BL2 E aa aT aS p0 p1 p2 p3 mn tape rd tk ph ml nm now trial im sp nt fut od crow M out T S) H locs) : WZ E A H0 (BL E aa aS aT p0 p1 p2 p3 mn tape rd tk ph ml nm now trial im sp nt fut od crow M out S T) H locs :=
  h.perm [0, 1, 10, 11, 12, 13, 14, 15, 16, 17, 2, 3, 4, 5, 6, 7, 8, 9, 18, 19, 20, 21, 22, 23, 24, 25, 26, 27, 28, 29, 30, 31, 32] (by decide) rfl
set_option maxHeartbeats 4000000 in
set_option maxRecDepth 20000 in
theorem cs_1 {p : Program} {l : Launch} {e : Env} {s : State} {m : MethodId} {args : Array Value} {below : List Frame} {meth : Method} {c : Code} {H : Heap} {locs : List Loc} {cells slots : Nat} {Q : State → Prop} {ls : Array Slot} {E : Ev} {A : Nat → Prop} {b L i : Nat} {xs : Nat → Int32} {x mo oo : Nat} (C : CallFix p m c cL_law 7 s args gtbl RL) (hK : Kx E s) (hA0 : ∀ q, A q → E.2.2.1 ≤ q) (hN : E.2.2.1 ≤ s.heap.size) (hf : cells + 1 ≤ room_1.cells ∧ slots + 6 ≤ room_1.slots) (hX : va_X b L xs s s.heap) (hbl : b < s.heap.size) (hbA : ¬ A b) (hl : lv_has ls 7 [(0, .ref b), (1, .ref x), (2, .ref mo), (3, .ref oo), (4, .int (nI i))]) (hi : i + 6 ≤ L) (hL : L ≤ 3072) (hI : LI E A s.heap x mo oo H locs)
    (kk : ∀ (H : Heap) (locs : List Loc), LI E A s.heap x mo oo H locs → W p l e room_1 s m args below meth c H locs (cells + 1) (slots + 6) Q (F0 m 1461 ls [])) : W p l e room_1 s m args below meth c H locs cells slots Q (F0 m 273 ls []) := by
  obtain ⟨aa, aT, aS, p0, p1, p2, p3, mn, tape, rd, tk, ph, ml, nm, now, trial, im, sp, nt, fut, od, crow, M, out, T, S, hB, hC, rfl, rfl, rfl⟩ := hI
  have hf0 : cells ≤ room_1.cells ∧ slots ≤ room_1.slots := ⟨Nat.le_of_succ_le hf.1, Nat.le_trans (Nat.le_add_right _ 6) hf.2⟩
  obtain ⟨⟨v, mn1, rd1, tk1, ph1, now1, sp1, nt1, S1, i9, j9⟩, er, ⟨v2, M1⟩, er2, hr, hC⟩ := q_text (x := xs (i + 1)) (rd := rd) (ph := ph) hC
  replace hr : v = v2 := hr
  rcases hC with ⟨na, ng, nr, ns, e9, hC⟩ | ⟨na, ng, nr, ns, e9, hC⟩
  · replace e9 : (i9, j9) = (1, 0) := e9
    obtain ⟨rfl, rfl⟩ := Prod.mk.inj e9
    refine lv_aload_n C.1 C.2.1 dL_law_273 rfl (lv_at hl 1 rfl) ?_
    refine rd_arg (j := 1) C hX hbl hbA hB.2.2.2 hl (by omega) hL dL_law_274 dL_law_275 dL_law_277 rfl dL_law_278 dL_law_279 ?_
    refine wl_X (As := [.int (xs (i + 1))]) (rest := []) (st1 := [.int v]) C hK hA0 hN hB (tX11_text l E (aa 0) (aT 0 0) (aa 5 0) (aa 8 0) (aa 9 0) (aa 12 0) (aa 13 0) (aa 14 0) mn (aa 1) tape (aa 2) p0 rd (aa 3) p1 tk (aa 4) p2 ph (aa 7) now (aa 10) sp (aa 11) nt aS S (xs (i + 1)) (v, mn1, rd1, tk1, ph1, now1, sp1, nt1, S1, 1, 0) er) [0, 1, 18, 19, 20, 23, 26, 27, 10, 11, 12, 13, 14, 15, 16, 17] (by decide) rfl (fun _ => rfl) lk_L_26 ⟨Nat.le_of_ble_eq_true rfl, Nat.le_of_ble_eq_true rfl⟩ hf0 (rc_X11 hK (hB.1 0 _ rfl)) rfl hl.1 rfl rfl (Nat.le_of_ble_eq_true rfl) dL_law_280 (fun H locs q hB => ?_)
    replace hB : WZ E A s.heap (BL2 E aa aT aS (q 3) (q 4) (q 2) p3 mn1 tape rd1 tk1 ph1 ml nm now1 trial im sp1 nt1 fut od crow M out T S1) H locs := hB
    replace hB := BL2.to hB
    refine lv_aload_n C.1 C.2.1 dL_law_283 rfl (lv_at hl 2 rfl) ?_
    refine rd_arg (j := 1) C hX hbl hbA hB.2.2.2 hl (by omega) hL dL_law_284 dL_law_285 dL_law_287 rfl dL_law_288 dL_law_289 ?_
    refine wl_X (As := [.int (xs (i + 1))]) (rest := [.int v]) (st1 := [.int v2, .int v]) C hK hA0 hN hB (tX12_text l E (aa 15) M (xs (i + 1)) (v2, M1) er2) [31] (by decide) rfl (fun _ => rfl) lk_L_30 ⟨Nat.le_of_ble_eq_true rfl, Nat.le_of_ble_eq_true rfl⟩ hf0 (rc_X12 hK (hB.1 31 _ rfl)) rfl hl.1 rfl rfl (Nat.le_of_ble_eq_true rfl) dL_law_290 (fun H locs q2 hB => ?_)
    replace hB : WZ E A s.heap (BL E aa aS aT (q 3) (q 4) (q 2) p3 mn1 tape rd1 tk1 ph1 ml nm now1 trial im sp1 nt1 fut od crow M1 out S1 T) H locs := hB
    refine lv_icmp_eq (tgt := 1461) C.1 C.2.1 dL_law_293 (by decide) (fun _ => ?_) (fun q9 => absurd hr q9)
    exact W.widen (Nat.le_succ _) (Nat.le_add_right _ 6) (kk H locs ⟨aa, aS, aT, _, _, _, _, _, _, _, _, _, _, _, _, _, _, _, _, _, _, _, _, _, _, _, hB, ⟨na, ng, nr, ns, hC⟩, rfl, rfl, rfl⟩)
  · replace e9 : (i9, j9) = (0, 1) := e9
    obtain ⟨rfl, rfl⟩ := Prod.mk.inj e9
    refine lv_aload_n C.1 C.2.1 dL_law_273 rfl (lv_at hl 1 rfl) ?_
    refine rd_arg (j := 1) C hX hbl hbA hB.2.2.2 hl (by omega) hL dL_law_274 dL_law_275 dL_law_277 rfl dL_law_278 dL_law_279 ?_
    refine wl_X (As := [.int (xs (i + 1))]) (rest := []) (st1 := [.int v]) C hK hA0 hN hB (tX11_text l E (aa 0) (aT 0 0) (aa 5 0) (aa 8 0) (aa 9 0) (aa 12 0) (aa 13 0) (aa 14 0) mn (aa 1) tape (aa 2) p0 rd (aa 3) p1 tk (aa 4) p2 ph (aa 7) now (aa 10) sp (aa 11) nt aS S (xs (i + 1)) (v, mn1, rd1, tk1, ph1, now1, sp1, nt1, S1, 0, 1) er) [0, 1, 18, 19, 20, 23, 26, 27, 10, 11, 12, 13, 14, 15, 16, 17] (by decide) rfl (fun _ => rfl) lk_L_26 ⟨Nat.le_of_ble_eq_true rfl, Nat.le_of_ble_eq_true rfl⟩ hf0 (rc_X11 hK (hB.1 0 _ rfl)) rfl hl.1 rfl rfl (Nat.le_of_ble_eq_true rfl) dL_law_280 (fun H locs q hB => ?_)
    replace hB : WZ E A s.heap (BL E aa aT aS (q 3) (q 4) (q 2) p3 mn1 tape rd1 tk1 ph1 ml nm now1 trial im sp1 nt1 fut od crow M out T S1) H locs := hB
    refine lv_aload_n C.1 C.2.1 dL_law_283 rfl (lv_at hl 2 rfl) ?_
    refine rd_arg (j := 1) C hX hbl hbA hB.2.2.2 hl (by omega) hL dL_law_284 dL_law_285 dL_law_287 rfl dL_law_288 dL_law_289 ?_
    refine wl_X (As := [.int (xs (i + 1))]) (rest := [.int v]) (st1 := [.int v2, .int v]) C hK hA0 hN hB (tX12_text l E (aa 15) M (xs (i + 1)) (v2, M1) er2) [31] (by decide) rfl (fun _ => rfl) lk_L_30 ⟨Nat.le_of_ble_eq_true rfl, Nat.le_of_ble_eq_true rfl⟩ hf0 (rc_X12 hK (hB.1 31 _ rfl)) rfl hl.1 rfl rfl (Nat.le_of_ble_eq_true rfl) dL_law_290 (fun H locs q2 hB => ?_)
    replace hB : WZ E A s.heap (BL E aa aT aS (q 3) (q 4) (q 2) p3 mn1 tape rd1 tk1 ph1 ml nm now1 trial im sp1 nt1 fut od crow M1 out T S1) H locs := hB
    refine lv_icmp_eq (tgt := 1461) C.1 C.2.1 dL_law_293 (by decide) (fun _ => ?_) (fun q9 => absurd hr q9)
    exact W.widen (Nat.le_succ _) (Nat.le_add_right _ 6) (kk H locs ⟨aa, aT, aS, _, _, _, _, _, _, _, _, _, _, _, _, _, _, _, _, _, _, _, _, _, _, _, hB, ⟨na, ng, nr, ns, hC⟩, rfl, rfl, rfl⟩)
