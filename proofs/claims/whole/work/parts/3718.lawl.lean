theorem and63 (x : Int32) : ∃ k : Nat, k ≤ 63 ∧ x &&& 63 = nI k := by
  obtain ⟨j, hj, e⟩ := pk_andE x (m := 63) 6 (by decide)
  exact ⟨j, by omega, e⟩
set_option maxHeartbeats 4000000 in
set_option maxRecDepth 20000 in
theorem law_body {p : Program} {l : Launch} {e : Env} {s : State} {m : MethodId} {args : Array Value} {below : List Frame} {meth : Method} {c : Code} {H : Heap} {locs : List Loc} {cells slots : Nat} {Q : State → Prop} {ls : Array Slot} {E : Ev} {A : Nat → Prop} {b L i : Nat} {xs : Nat → Int32} {x mo oo : Nat} (C : CallFix p m c cL_law 7 s args gtbl RL) (hK : Kx E s) (hA0 : ∀ q, A q → E.2.2.1 ≤ q) (hN : E.2.2.1 ≤ s.heap.size) (hf : cells + 1 ≤ room_1.cells ∧ slots + 6 ≤ room_1.slots) (hX : va_X b L xs s s.heap) (hbl : b < s.heap.size) (hbA : ¬ A b) (hl : lv_has ls 7 [(0, .ref b), (1, .ref x), (2, .ref mo), (3, .ref oo), (4, .int (nI i))]) (hi : i + 6 ≤ L) (hL : L ≤ 3072) (hI : LI E A s.heap x mo oo H locs)
    (kk : ∀ (H : Heap) (locs : List Loc), LI E A s.heap x mo oo H locs → W p l e room_1 s m args below meth c H locs (cells + 1) (slots + 6) Q (F0 m 1461 ls []))
    (h4 : W p l e room_1 s m args below meth c H locs cells slots Q (F0 m 360 ls [])) : W p l e room_1 s m args below meth c H locs cells slots Q (F0 m 33 ls []) := by
  have hS : va_S A s.heap H locs := by
    obtain ⟨aa, aT, aS, p0, p1, p2, p3, mn, tape, rd, tk, ph, ml, nm, now, trial, im, sp, nt, fut, od, crow, M, out, T, S, hB, _⟩ := hI
    exact hB.2.2.2
  refine lv_aload_n C.1 C.2.1 dL_law_33 rfl (lv_at hl 0 rfl) ?_
  refine lv_iload C.1 C.2.1 dL_law_34 (lv_at hl 4 rfl) ?_
  refine va_sld C.1 C.2.1 hX hbl hbA hS (i := nI i) (vp_in_nI (by omega) (by omega)) dL_law_36 ?_
  refine lv_bipush (v := 63) C.1 C.2.1 dL_law_37 (by decide) ?_
  refine lv_iand C.1 C.2.1 dL_law_39 ?_
  obtain ⟨k, hk, ek⟩ := and63 (xs (nI i).toNatClampNeg)
  refine ox_topi ek ?_
  by_cases h36 : 36 ≤ k
  · refine lv_tableOut C.1 C.2.1 dL_law_40 (Or.inr (by rw [nI_toInt (by omega)]; omega)) (tgt := 1461) (by decide) ?_
    exact W.widen (Nat.le_succ _) (Nat.le_add_right _ 6) (kk H locs hI)
  · rcases (show k = 0 ∨ k = 1 ∨ k = 2 ∨ k = 3 ∨ k = 4 ∨ k = 5 ∨ k = 6 ∨ k = 7 ∨ k = 8 ∨ k = 9 ∨ k = 10 ∨ k = 11 ∨ k = 12 ∨ k = 13 ∨ k = 14 ∨ k = 15 ∨ k = 16 ∨ k = 17 ∨ k = 18 ∨ k = 19 ∨ k = 20 ∨ k = 21 ∨ k = 22 ∨ k = 23 ∨ k = 24 ∨ k = 25 ∨ k = 26 ∨ k = 27 ∨ k = 28 ∨ k = 29 ∨ k = 30 ∨ k = 31 ∨ k = 32 ∨ k = 33 ∨ k = 34 ∨ k = 35 by omega) with rfl | rfl | rfl | rfl | rfl | rfl | rfl | rfl | rfl | rfl | rfl | rfl | rfl | rfl | rfl | rfl | rfl | rfl | rfl | rfl | rfl | rfl | rfl | rfl | rfl | rfl | rfl | rfl | rfl | rfl | rfl | rfl | rfl | rfl | rfl | rfl
    · refine lv_tableIn C.1 C.2.1 dL_law_40 (by decide) (by decide) (off := 160) (by decide) (tgt := 200) (by decide) ?_
      exact cs_0 C hK hA0 hN hf hX hbl hbA hl hi hL hI kk
    · refine lv_tableIn C.1 C.2.1 dL_law_40 (by decide) (by decide) (off := 233) (by decide) (tgt := 273) (by decide) ?_
      exact cs_1 C hK hA0 hN hf hX hbl hbA hl hi hL hI kk
    · refine lv_tableIn C.1 C.2.1 dL_law_40 (by decide) (by decide) (off := 258) (by decide) (tgt := 298) (by decide) ?_
      exact cs_2 C hK hA0 hN hf hX hbl hbA hl hi hL hI kk
    · refine lv_tableIn C.1 C.2.1 dL_law_40 (by decide) (by decide) (off := 283) (by decide) (tgt := 323) (by decide) ?_
      exact cs_3 C hK hA0 hN hf hX hbl hbA hl hi hL hI kk
    · refine lv_tableIn C.1 C.2.1 dL_law_40 (by decide) (by decide) (off := 320) (by decide) (tgt := 360) (by decide) ?_
      exact h4
    · refine lv_tableIn C.1 C.2.1 dL_law_40 (by decide) (by decide) (off := 388) (by decide) (tgt := 428) (by decide) ?_
      exact cs_5 C hK hA0 hN hf hX hbl hbA hl hi hL hI kk
    · refine lv_tableIn C.1 C.2.1 dL_law_40 (by decide) (by decide) (off := 425) (by decide) (tgt := 465) (by decide) ?_
      exact cs_6 C hK hA0 hN hf hX hbl hbA hl hi hL hI kk
    · refine lv_tableIn C.1 C.2.1 dL_law_40 (by decide) (by decide) (off := 462) (by decide) (tgt := 502) (by decide) ?_
      exact cs_7 C hK hA0 hN hf hX hbl hbA hl hi hL hI kk
    · refine lv_tableIn C.1 C.2.1 dL_law_40 (by decide) (by decide) (off := 500) (by decide) (tgt := 540) (by decide) ?_
      exact cs_8 C hK hA0 hN hf hX hbl hbA hl hi hL hI kk
    · refine lv_tableIn C.1 C.2.1 dL_law_40 (by decide) (by decide) (off := 525) (by decide) (tgt := 565) (by decide) ?_
      exact cs_9 C hK hA0 hN hf hX hbl hbA hl hi hL hI kk
    · refine lv_tableIn C.1 C.2.1 dL_law_40 (by decide) (by decide) (off := 562) (by decide) (tgt := 602) (by decide) ?_
      exact cs_10 C hK hA0 hN hf hX hbl hbA hl hi hL hI kk
    · refine lv_tableIn C.1 C.2.1 dL_law_40 (by decide) (by decide) (off := 587) (by decide) (tgt := 627) (by decide) ?_
      exact cs_11 C hK hA0 hN hf hX hbl hbA hl hi hL hI kk
    · refine lv_tableIn C.1 C.2.1 dL_law_40 (by decide) (by decide) (off := 612) (by decide) (tgt := 652) (by decide) ?_
      exact cs_12 C hK hA0 hN hf hX hbl hbA hl hi hL hI kk
    · refine lv_tableIn C.1 C.2.1 dL_law_40 (by decide) (by decide) (off := 661) (by decide) (tgt := 701) (by decide) ?_
      exact cs_13 C hK hA0 hN hf hX hbl hbA hl hi hL hI kk
    · refine lv_tableIn C.1 C.2.1 dL_law_40 (by decide) (by decide) (off := 686) (by decide) (tgt := 726) (by decide) ?_
      exact cs_14 C hK hA0 hN hf hX hbl hbA hl hi hL hI kk
    · refine lv_tableIn C.1 C.2.1 dL_law_40 (by decide) (by decide) (off := 711) (by decide) (tgt := 751) (by decide) ?_
      exact cs_15 C hK hA0 hN hf hX hbl hbA hl hi hL hI kk
    · refine lv_tableIn C.1 C.2.1 dL_law_40 (by decide) (by decide) (off := 748) (by decide) (tgt := 788) (by decide) ?_
      exact cs_16 C hK hA0 hN hf hX hbl hbA hl hi hL hI kk
    · refine lv_tableIn C.1 C.2.1 dL_law_40 (by decide) (by decide) (off := 785) (by decide) (tgt := 825) (by decide) ?_
      exact cs_17 C hK hA0 hN hf hX hbl hbA hl hi hL hI kk
    · refine lv_tableIn C.1 C.2.1 dL_law_40 (by decide) (by decide) (off := 810) (by decide) (tgt := 850) (by decide) ?_
      exact cs_18 C hK hA0 hN hf hX hbl hbA hl hi hL hI kk
    · refine lv_tableIn C.1 C.2.1 dL_law_40 (by decide) (by decide) (off := 847) (by decide) (tgt := 887) (by decide) ?_
      exact cs_19 C hK hA0 hN hf hX hbl hbA hl hi hL hI kk
    · refine lv_tableIn C.1 C.2.1 dL_law_40 (by decide) (by decide) (off := 872) (by decide) (tgt := 912) (by decide) ?_
      exact cs_20 C hK hA0 hN hf hX hbl hbA hl hi hL hI kk
    · refine lv_tableIn C.1 C.2.1 dL_law_40 (by decide) (by decide) (off := 909) (by decide) (tgt := 949) (by decide) ?_
      exact cs_21 C hK hA0 hN hf hX hbl hbA hl hi hL hI kk
    · refine lv_tableIn C.1 C.2.1 dL_law_40 (by decide) (by decide) (off := 958) (by decide) (tgt := 998) (by decide) ?_
      exact cs_22 C hK hA0 hN hf hX hbl hbA hl hi hL hI kk
    · refine lv_tableIn C.1 C.2.1 dL_law_40 (by decide) (by decide) (off := 1019) (by decide) (tgt := 1059) (by decide) ?_
      exact cs_23 C hK hA0 hN hf hX hbl hbA hl hi hL hI kk
    · refine lv_tableIn C.1 C.2.1 dL_law_40 (by decide) (by decide) (off := 1044) (by decide) (tgt := 1084) (by decide) ?_
      exact cs_24 C hK hA0 hN hf hX hbl hbA hl hi hL hI kk
    · refine lv_tableIn C.1 C.2.1 dL_law_40 (by decide) (by decide) (off := 1082) (by decide) (tgt := 1122) (by decide) ?_
      exact cs_25 C hK hA0 hN hf hX hbl hbA hl hi hL hI kk
    · refine lv_tableIn C.1 C.2.1 dL_law_40 (by decide) (by decide) (off := 1147) (by decide) (tgt := 1187) (by decide) ?_
      exact cs_26 C hK hA0 hN hf hX hbl hbA hl hi hL hI kk
    · refine lv_tableIn C.1 C.2.1 dL_law_40 (by decide) (by decide) (off := 1172) (by decide) (tgt := 1212) (by decide) ?_
      exact cs_27 C hK hA0 hN hf hX hbl hbA hl hi hL hI kk
    · refine lv_tableIn C.1 C.2.1 dL_law_40 (by decide) (by decide) (off := 1197) (by decide) (tgt := 1237) (by decide) ?_
      exact cs_28 C hK hA0 hN hf hX hbl hbA hl hi hL hI kk
    · refine lv_tableIn C.1 C.2.1 dL_law_40 (by decide) (by decide) (off := 1222) (by decide) (tgt := 1262) (by decide) ?_
      exact cs_29 C hK hA0 hN hf hX hbl hbA hl hi hL hI kk
    · refine lv_tableIn C.1 C.2.1 dL_law_40 (by decide) (by decide) (off := 1259) (by decide) (tgt := 1299) (by decide) ?_
      exact cs_30 C hK hA0 hN hf hX hbl hbA hl hi hL hI kk
    · refine lv_tableIn C.1 C.2.1 dL_law_40 (by decide) (by decide) (off := 1308) (by decide) (tgt := 1348) (by decide) ?_
      exact cs_31 C hK hA0 hN hf hX hbl hbA hl hi hL hI kk
    · refine lv_tableIn C.1 C.2.1 dL_law_40 (by decide) (by decide) (off := 1357) (by decide) (tgt := 1397) (by decide) ?_
      exact cs_32 C hK hA0 hN hf hX hbl hbA hl hi hL hI kk
    · refine lv_tableIn C.1 C.2.1 dL_law_40 (by decide) (by decide) (off := 1370) (by decide) (tgt := 1410) (by decide) ?_
      exact cs_33 C hK hA0 hN hf hX hbl hbA hl hi hL hI kk
    · refine lv_tableIn C.1 C.2.1 dL_law_40 (by decide) (by decide) (off := 1383) (by decide) (tgt := 1423) (by decide) ?_
      exact cs_34 C hK hA0 hN hf hX hbl hbA hl hi hL hI kk
    · refine lv_tableIn C.1 C.2.1 dL_law_40 (by decide) (by decide) (off := 1396) (by decide) (tgt := 1436) (by decide) ?_
      exact cs_35 C hK hA0 hN hf hX hbl hbA hl hi hL hI kk
