theorem mw_1171 : Cond.static yL_guest ∈ gtbl := mg (List.mem_of_getElem? (i := 1171) (by decide +kernel)) (by decide +kernel)
theorem mw_0 : Cond.initialized RL ∈ gtbl := mg (List.mem_of_getElem? (i := 0) (by decide +kernel)) (by decide +kernel)
theorem mw_1170 : Cond.methodLink RL 39 yL_guest ∈ gtbl := mg (List.mem_of_getElem? (i := 1170) (by decide +kernel)) (by decide +kernel)
theorem mw_1683 : Cond.methodLink RL 44 yX12_guest ∈ gtbl := mg (List.mem_of_getElem? (i := 1683) (by decide +kernel)) (by decide +kernel)
theorem mw_1684 : Cond.instanceMethod yX12_guest ∈ gtbl := mg (List.mem_of_getElem? (i := 1684) (by decide +kernel)) (by decide +kernel)
theorem ms_X12_guest : Cond.selects RX12 yX12_guest yX12_guest ∈ gtbl := mg (List.mem_of_getElem? (i := 1685) (by decide +kernel)) (by decide +kernel)
theorem mw_1686 : Cond.code yX12_guest cX12_guest 3 (some .int) ∈ gtbl := mg (List.mem_of_getElem? (i := 1686) (by decide +kernel)) (by decide +kernel)
theorem mw_1549 : Cond.methodLink RL 45 yX12_thrown ∈ gtbl := mg (List.mem_of_getElem? (i := 1549) (by decide +kernel)) (by decide +kernel)
theorem mw_1550 : Cond.instanceMethod yX12_thrown ∈ gtbl := mg (List.mem_of_getElem? (i := 1550) (by decide +kernel)) (by decide +kernel)
theorem ms_X12_thrown : Cond.selects RX12 yX12_thrown yX12_thrown ∈ gtbl := mg (List.mem_of_getElem? (i := 1551) (by decide +kernel)) (by decide +kernel)
theorem mw_1552 : Cond.code yX12_thrown cX12_thrown 1 (some .int) ∈ gtbl := mg (List.mem_of_getElem? (i := 1552) (by decide +kernel)) (by decide +kernel)
theorem dL_law_360 : decode cL_law 360 = .ok (.aload_n 1, 1) := by decide +kernel
theorem dL_law_361 : decode cL_law 361 = .ok (.aload_n 0, 1) := by decide +kernel
theorem dL_law_362 : decode cL_law 362 = .ok (.iload 4, 2) := by decide +kernel
theorem dL_law_364 : decode cL_law 364 = .ok (.iconst 1, 1) := by decide +kernel
theorem dL_law_365 : decode cL_law 365 = .ok (.iadd, 1) := by decide +kernel
theorem dL_law_366 : decode cL_law 366 = .ok (.iaload, 1) := by decide +kernel
theorem dL_law_367 : decode cL_law 367 = .ok (.aload_n 0, 1) := by decide +kernel
theorem dL_law_368 : decode cL_law 368 = .ok (.iload 4, 2) := by decide +kernel
theorem dL_law_370 : decode cL_law 370 = .ok (.iconst 2, 1) := by decide +kernel
theorem dL_law_371 : decode cL_law 371 = .ok (.iadd, 1) := by decide +kernel
theorem dL_law_372 : decode cL_law 372 = .ok (.iaload, 1) := by decide +kernel
theorem dL_law_373 : decode cL_law 373 = .ok (.aload_n 3, 1) := by decide +kernel
theorem dL_law_374 : decode cL_law 374 = .ok (.invokestatic 39, 3) := by decide +kernel
theorem dL_law_377 : decode cL_law 377 = .ok (.istore 5, 2) := by decide +kernel
theorem dL_law_379 : decode cL_law 379 = .ok (.aload_n 2, 1) := by decide +kernel
theorem dL_law_380 : decode cL_law 380 = .ok (.aload_n 0, 1) := by decide +kernel
theorem dL_law_381 : decode cL_law 381 = .ok (.iload 4, 2) := by decide +kernel
theorem dL_law_383 : decode cL_law 383 = .ok (.iconst 1, 1) := by decide +kernel
theorem dL_law_384 : decode cL_law 384 = .ok (.iadd, 1) := by decide +kernel
theorem dL_law_385 : decode cL_law 385 = .ok (.iaload, 1) := by decide +kernel
theorem dL_law_386 : decode cL_law 386 = .ok (.aload_n 0, 1) := by decide +kernel
theorem dL_law_387 : decode cL_law 387 = .ok (.iload 4, 2) := by decide +kernel
theorem dL_law_389 : decode cL_law 389 = .ok (.iconst 2, 1) := by decide +kernel
theorem dL_law_390 : decode cL_law 390 = .ok (.iadd, 1) := by decide +kernel
theorem dL_law_391 : decode cL_law 391 = .ok (.iaload, 1) := by decide +kernel
theorem dL_law_392 : decode cL_law 392 = .ok (.invokevirtual 44, 3) := by decide +kernel
theorem dL_law_395 : decode cL_law 395 = .ok (.istore 6, 2) := by decide +kernel
theorem dL_law_397 : decode cL_law 397 = .ok (.aload_n 2, 1) := by decide +kernel
theorem dL_law_398 : decode cL_law 398 = .ok (.invokevirtual 45, 3) := by decide +kernel
theorem dL_law_401 : decode cL_law 401 = .ok (.iload 5, 2) := by decide +kernel
theorem dL_law_403 : decode cL_law 403 = .ok (.if_icmp .eq 5, 3) := by decide +kernel
theorem dL_law_408 : decode cL_law 408 = .ok (.iload 5, 2) := by decide +kernel
theorem dL_law_425 : decode cL_law 425 = .ok (.goto 1036, 3) := by decide +kernel
theorem dL_law_410 : decode cL_law 410 = .ok (.ifCond .ne 15, 3) := by decide +kernel
theorem dL_law_413 : decode cL_law 413 = .ok (.aload_n 3, 1) := by decide +kernel
theorem dL_law_414 : decode cL_law 414 = .ok (.iconst 0, 1) := by decide +kernel
theorem dL_law_415 : decode cL_law 415 = .ok (.laload, 1) := by decide +kernel
theorem dL_law_416 : decode cL_law 416 = .ok (.iload 6, 2) := by decide +kernel
theorem dL_law_418 : decode cL_law 418 = .ok (.i2l, 1) := by decide +kernel
theorem dL_law_419 : decode cL_law 419 = .ok (.lcmp, 1) := by decide +kernel
theorem dL_law_420 : decode cL_law 420 = .ok (.ifCond .eq 5, 3) := by decide +kernel
theorem lk_L_44 : LkV RL 44 yX12_guest cX12_guest 3 (some .int) 2 := ⟨mw_1683, mw_1684, ms_X12_guest, mw_17, mw_1686, ⟨by decide, by decide⟩, by decide +kernel⟩
theorem lk_L_45 : LkV RL 45 yX12_thrown cX12_thrown 1 (some .int) 0 := ⟨mw_1549, mw_1550, ms_X12_thrown, mw_17, mw_1552, ⟨by decide, by decide⟩, by decide +kernel⟩
theorem DA.pick {N0 : Nat} {bs cs : List va_W} {is : List Nat} (hD : DA N0 (adr bs)) (hn : is.Nodup) (his : is.map (fun i => bs[i]?) = cs.map some) : DA N0 (adr cs) := (DA.sub hD hn his).1
theorem lg4 (sig) (h : parseMethodDescriptor yL_guest.desc = some sig) : 4 = sig.parameters.length := by
  have h2 : (parseMethodDescriptor yL_guest.desc).map (fun d => d.parameters.length) = some 4 := by decide +kernel
  rw [h] at h2
  exact (Option.some.inj h2).symm
theorem mw_1172 : Cond.codeWith yL_guest cL_guest 5 (some .int) [(0, 10, 13, 13), (0, 10, 17, 15)] ∈ gtbl := mg (List.mem_of_getElem? (i := 1172) (by decide +kernel)) (by decide +kernel)
section LS
variable {p : Program} {l : Launch} {e : Env} {R : Room} {s : State} {m : MethodId} {args : Array Value} {below : List Frame} {meth : Method} {c : Code} {H : Heap} {locs : List Loc} {cells slots : Nat} {Q : State → Prop}
variable {pc : Nat} {ls : Array Slot} {rest st0 st1 : List Value} {E : Ev} {cs cs' bs : List va_W} {r : Option Value} {A : Nat → Prop}
theorem wl_mutN {g : JFrame} {mc ms : Nat} {is : List Nat} (hg : g = F0 m pc ls st0) (hr : va_Run p l e R s m args below meth c H locs cells slots mc ms g rest (fun st o t => o = .returned r ∧ PB E cs' t.heap ∧ va_F (AA (adr cs)) st t) (AA (adr cs))) (hs1 : r.toList ++ rest = st1) (hB : WZ E A s.heap bs H locs) (hn : is.Nodup) (his : is.map (fun i => bs[i]?) = cs.map some) (hadr : adr cs' = adr cs)
    (kk : ∀ (H1 : Heap) (locs1 : List Loc), WZ E A s.heap (setL bs is cs') H1 locs1 → W p l e R s m args below meth c H1 locs1 (cells + mc) (slots + ms) Q (F0 m (pc + 3) ls st1)) : W p l e R s m args below meth c H locs cells slots Q g := by
  subst hg
  intro T hT X
  obtain ⟨v, st₀, t, T', L, h0, X', hL, e1, e2, ⟨hv, hp, hz, hk⟩, st⟩ := hr T hT X
  cases hv
  subst hs1
  rw [h0] at hz hk
  obtain ⟨hP, hD, hAA, hS⟩ := hB
  have hsub := (DA.sub (cs := cs) hD hn his).2
  have hW0 : WB E (adr bs) H bs H [] := ⟨hP, rfl, va_S.rf⟩
  have hS0 : va_S (AA (adr bs)) H T'.heap L := ⟨by rw [e1]; exact hz, fun q h1 h2 => by rw [e1]; exact hk q h1 (fun z => h2 (hsub q z)), fun q hq => hsub _ (hL q hq)⟩
  have hB1 := WB.call hW0 hD hn his (cs' := cs') (by rw [e1]; exact hp) hadr (fun q h1 h2 => by rw [e1]; exact hk q h1 h2) hS0
  have hS1 : va_S A s.heap T'.heap (locs ++ L) := ⟨Nat.le_trans hS.1 (by rw [e1]; exact hz), fun q h1 h2 => by rw [e1, hk q (Nat.lt_of_lt_of_le h1 hS.1) (fun z => h2 (hAA q (hsub q z)))]; exact hS.2.1 q h1 h2, fun q hq => by
      rcases List.mem_append.mp hq with h | h
      · exact hS.2.2 q h
      · exact hAA _ (hsub _ (hL q h))⟩
  obtain ⟨t2, a1, b1⟩ := kk T'.heap (locs ++ L) ⟨hB1.1, by rw [hB1.2.1]; exact hD, by rw [hB1.2.1]; exact hAA, hS1⟩ T' rfl X'
  exact ⟨t2, st t2 a1, b1⟩
end LS
set_option maxHeartbeats 4000000 in
set_option maxRecDepth 20000 in
theorem cs_4 {p : Program} {l : Launch} {e : Env} {s : State} {m : MethodId} {args : Array Value} {below : List Frame} {meth : Method} {c : Code} {H : Heap} {locs : List Loc} {cells slots : Nat} {Q : State → Prop} {ls : Array Slot} {E : Ev} {A : Nat → Prop} {b L i : Nat} {xs : Nat → Int32} {x mo oo : Nat} {kA vA : Nat → Nat} (hlt : l.stackTraces = false) (hTB : ThrB l E kA vA) (hQ : TQ E kA vA s) (C : CallFix p m c cL_law 7 s args gtbl RL) (hK : Kx E s) (hA0 : ∀ q, A q → E.2.2.1 ≤ q) (hN : E.2.2.1 ≤ s.heap.size) (hf : cells + 1 ≤ room_1.cells ∧ slots + 6 ≤ room_1.slots) (hX : va_X b L xs s s.heap) (hbl : b < s.heap.size) (hbA : ¬ A b) (hl : lv_has ls 7 [(0, .ref b), (1, .ref x), (2, .ref mo), (3, .ref oo), (4, .int (nI i))]) (hi : i + 6 ≤ L) (hL : L ≤ 3072) (hI : LI E A s.heap x mo oo H locs)
    (kk : ∀ (ls : Array Slot) (H : Heap) (locs : List Loc), lv_has ls 7 [(0, .ref b), (1, .ref x), (2, .ref mo), (3, .ref oo), (4, .int (nI i))] → LI E A s.heap x mo oo H locs → W p l e room_1 s m args below meth c H locs (cells + 1) (slots + 6) Q (F0 m 1461 ls [])) : W p l e room_1 s m args below meth c H locs cells slots Q (F0 m 360 ls []) := by
  obtain ⟨aa, aT, aS, p0, p1, p2, p3, mn, tape, rd, tk, ph, ml, nm, now, trial, im, sp, nt, fut, od, crow, M, out, T, S, hB, hC, rfl, rfl, rfl⟩ := hI
  have hf0 : cells ≤ room_1.cells ∧ slots ≤ room_1.slots := ⟨Nat.le_of_succ_le hf.1, Nat.le_trans (Nat.le_add_right _ 6) hf.2⟩
  obtain ⟨r, er, hr3, r2, er2, hr, hr0, hC⟩ := q_guest (x := (xs (i + 1))) (y := (xs (i + 2))) hC
  refine lv_aload_n C.1 C.2.1 dL_law_360 rfl (lv_at hl 1 rfl) ?_
  refine rd_arg (j := 1) C hX hbl hbA hB.2.2.2 hl (by omega) hL dL_law_361 dL_law_362 dL_law_364 rfl dL_law_365 dL_law_366 ?_
  refine rd_arg (j := 2) C hX hbl hbA hB.2.2.2 hl (by omega) hL dL_law_367 dL_law_368 dL_law_370 rfl dL_law_371 dL_law_372 ?_
  refine lv_aload_n C.1 C.2.1 dL_law_373 rfl (lv_at hl 3 rfl) ?_
  have hG : GoodIn gtbl (Cond.codeWith yL_guest cL_guest 5 (some .int) [(0, 10, 13, 13), (0, 10, 17, 15)] :: gtbl) := fun w hw => by
    have hm : w ∈ gtbl := (List.mem_cons.mp hw).elim (fun e => by rw [e]; exact mw_1172) id
    exact ⟨hm, good_of_word (List.mem_filter.mp hm).2⟩
  refine wl_mutN (is := [0, 2, 3, 4, 5, 6, 7, 8, 9, 23, 32]) (st1 := [.int r.1]) rfl (vx_runSW (hh := [(0, 10, 13, 13), (0, 10, 17, 15)]) (As := [.ref (aa 0 0), .int (xs (i + 1)), .int (xs (i + 2)), .ref (aa 16 0)]) (rest := []) C (gL_open l hlt E kA vA hTB (aa 0) (aa 7) (aa 16) (aa 1 0) (aS 0 0) (aa 2 0) (aa 5 0) (aa 8 0) (aa 9 0) (aa 10 0) (aa 11 0) (aa 12 0) (aa 13 0) (aa 14 0) aT mn now out T (xs (i + 1)) (xs (i + 2)) r er) ⟨⟨rfl, rfl, Nat.le_of_ble_eq_true rfl, Nat.le_of_ble_eq_true rfl, pay_in C.2.2.2.2 hG, List.mem_cons_self⟩, C.2.2.2.2 _ mw_1172, C.2.2.2.2 _ mw_0, ⟨by decide, by decide⟩, (fun sig h => lg4 sig h), C.2.2.2.2 _ mw_1170, C.2.2.2.2 _ mw_1171⟩ ⟨fun a U g mk q => ⟨q.1, q.2.1, q.2.2.1.blind, q.2.2.2⟩, fun U hU hW => ⟨rfl, by rw [hU]; exact hB.1.sub [0, 2, 3, 4, 5, 6, 7, 8, 9, 23, 32] rfl, hQ.moved hW (fun q hq => by rw [hU]; exact hB.old hA0 hN q hq), by rw [hU]; exact Nat.le_trans hN hB.2.2.2.1, DA.pick hB.2.1 (is := [0, 2, 3, 4, 5, 6, 7, 8, 9, 23, 32]) (by decide) rfl⟩⟩ rfl rfl hl.1 rfl (lv_room (Nat.le_of_ble_eq_true rfl)) dL_law_374 ⟨hf.1, hf.2⟩) rfl hB (by decide) rfl rfl (fun H locs hB => ?_)
  replace hB : WZ E A s.heap (BL E aa aT aS p0 p1 p2 p3 mn tape rd tk ph ml nm now trial im sp nt fut od crow M (lgO r out) T S) H locs := hB
  refine lv_istore C.1 C.2.1 dL_law_377 hl (by decide) rfl (fun ls5 hl5 => ?_)
  have hl9 := lv_sub hl5 [1, 2, 3, 4, 5] rfl
  refine lv_aload_n C.1 C.2.1 dL_law_379 rfl (lv_at hl9 2 rfl) ?_
  refine rd_arg (j := 1) C hX hbl hbA hB.2.2.2 hl9 (by omega) hL dL_law_380 dL_law_381 dL_law_383 rfl dL_law_384 dL_law_385 ?_
  refine rd_arg (j := 2) C hX hbl hbA hB.2.2.2 hl9 (by omega) hL dL_law_386 dL_law_387 dL_law_389 rfl dL_law_390 dL_law_391 ?_
  refine wl_X (As := [.int (xs (i + 1)), .int (xs (i + 2))]) (rest := []) (st1 := [.int r2.1]) C hK hA0 hN hB (tX12_guest l E (aa 15) M (xs (i + 1)) (xs (i + 2)) r2 er2) [31] (by decide) rfl (fun _ => rfl) lk_L_44 ⟨Nat.le_of_ble_eq_true rfl, Nat.le_of_ble_eq_true rfl⟩ hf (rc_X12 hK (hB.1 31 _ rfl)) rfl hl9.1 rfl rfl (Nat.le_of_ble_eq_true rfl) dL_law_392 (fun H locs q2 hB => ?_)
  replace hB : WZ E A s.heap (BL E aa aT aS p0 p1 p2 p3 mn tape rd tk ph ml nm now trial im sp nt fut od crow r2.2 (lgO r out) T S) H locs := hB
  refine lv_istore C.1 C.2.1 dL_law_395 hl5 (by decide) rfl (fun ls6 hl6 => ?_)
  have hl8 := lv_sub hl6 [2, 3, 4, 5, 6] rfl
  refine lv_aload_n C.1 C.2.1 dL_law_397 rfl (lv_at hl8 2 rfl) ?_
  refine wl_P (As := []) (rest := []) (st1 := [.int (gI r2.2 2)]) C hK hA0 hN hB (tX12_thrown l E (aa 15) r2.2 (gI r2.2 2) rfl) [31] rfl lk_L_45 ⟨Nat.le_of_ble_eq_true rfl, Nat.le_of_ble_eq_true rfl⟩ hf (rc_X12 hK (hB.1 31 _ rfl)) rfl hl8.1 rfl rfl (Nat.le_of_ble_eq_true rfl) dL_law_398 ?_
  refine lv_iload C.1 C.2.1 dL_law_401 (lv_at hl6 1 rfl) ?_
  refine lv_icmp_eq (tgt := 408) C.1 C.2.1 dL_law_403 (by decide) (fun _ => ?_) (fun q9 => absurd hr q9)
  refine lv_iload C.1 C.2.1 dL_law_408 (lv_at hl6 1 rfl) ?_
  have fin : W p l e room_1 s m args below meth c H locs (cells + 1) (slots + 6) Q (F0 m 425 ls6 []) := by
    refine lv_goto (tgt := 1461) C.1 C.2.1 dL_law_425 (by decide) ?_
    exact kk ls6 H locs hl8 ⟨aa, aT, aS, _, _, _, _, _, _, _, _, _, _, _, _, _, _, _, _, _, _, _, _, _, _, _, hB, hC, rfl, rfl, rfl⟩
  refine lv_if_ne (tgt := 425) C.1 C.2.1 dL_law_410 (by decide) (fun _ => fin) (fun c0 => ?_)
  have h0 : r.1 = 0 := c0
  refine lv_aload_n C.1 C.2.1 dL_law_413 rfl (lv_at hl8 3 rfl) ?_
  refine lv_iconst (v := 0) C.1 C.2.1 dL_law_414 (by decide) ?_
  refine bx_lald C hK (hB.1 32 _ rfl) 0 rfl (nI_in (c := 0) (N := 1) (by decide) (by decide)) dL_law_415 ?_
  refine lv_iload C.1 C.2.1 dL_law_416 (lv_at hl6 0 rfl) ?_
  refine lv_i2l (v := r2.1.toInt64) C.1 C.2.1 dL_law_418 rfl ?_
  refine W.lcmp C.1 C.2.1 dL_law_419 ?_
  refine lx_if_eq (tgt := 425) C.1 C.2.1 dL_law_420 (by decide) (fun _ => fin) (fun q9 => absurd ?_ q9)
  rw [← hr0 h0]
  show (lgO r out).2.2.2 0 0 = r.2.toInt64
  rw [show lgO r out = sB out 0 0 r.2.toInt64 from if_pos h0]
  rfl
