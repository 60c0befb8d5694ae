set_option maxHeartbeats 4000000 in
set_option maxRecDepth 20000 in
theorem cs_20 {p : Program} {l : Launch} {e : Env} {s : State} {m : MethodId} {args : Array Value} {below : List Frame} {meth : Method} {c : Code} {H : Heap} {locs : List Loc} {cells slots : Nat} {Q : State → Prop} {ls : Array Slot} {E : Ev} {A : Nat → Prop} {b L i : Nat} {xs : Nat → Int32} {x mo oo : Nat} (C : CallFix p m c cL_law 7 s args gtbl RL) (hK : Kx E s) (hA0 : ∀ q, A q → E.2.2.1 ≤ q) (hN : E.2.2.1 ≤ s.heap.size) (hf : cells + 1 ≤ room_1.cells ∧ slots + 6 ≤ room_1.slots) (hX : va_X b L xs s s.heap) (hbl : b < s.heap.size) (hbA : ¬ A b) (hl : lv_has ls 7 [(0, .ref b), (1, .ref x), (2, .ref mo), (3, .ref oo), (4, .int (nI i))]) (hi : i + 6 ≤ L) (hL : L ≤ 3072) (hI : LI E A s.heap x mo oo H locs)
    (kk : ∀ (H : Heap) (locs : List Loc), LI E A s.heap x mo oo H locs → W p l e room_1 s m args below meth c H locs (cells + 1) (slots + 6) Q (F0 m 1461 ls [])) : W p l e room_1 s m args below meth c H locs cells slots Q (F0 m 912 ls []) := by
  obtain ⟨aa, aT, aS, p0, p1, p2, p3, mn, tape, rd, tk, ph, ml, nm, now, trial, im, sp, nt, fut, od, crow, M, out, T, S, hB, hC, rfl, rfl, rfl⟩ := hI
  have hf0 : cells ≤ room_1.cells ∧ slots ≤ room_1.slots := ⟨Nat.le_of_succ_le hf.1, Nat.le_trans (Nat.le_add_right _ 6) hf.2⟩
  obtain ⟨r, er, r2, er2, hr, hC⟩ := q_game (x := (xs (i + 1))) (y := (xs (i + 2)))   hC
  refine lv_aload_n C.1 C.2.1 dL_law_912 rfl (lv_at hl 1 rfl) ?_
  refine rd_arg (j := 1) C hX hbl hbA hB.2.2.2 hl (by omega) hL dL_law_913 dL_law_914 dL_law_916 rfl dL_law_917 dL_law_918 ?_
  refine rd_arg (j := 2) C hX hbl hbA hB.2.2.2 hl (by omega) hL dL_law_919 dL_law_920 dL_law_922 rfl dL_law_923 dL_law_924 ?_
  refine wl_P (As := [.int (xs (i + 1)), .int (xs (i + 2))]) (rest := []) (st1 := [.int r]) C hK hA0 hN hB (tX11_game l E (aa 0) (aa 1 0) (aS 0 0) (aa 2 0) (aa 5 0) (aa 8 0) (aa 9 0) (aa 10 0) (aa 11 0) (aa 12 0) (aa 13 0) (aa 14 0) mn (aa 7) now aT T (xs (i + 1)) (xs (i + 2)) r er) [0, 23, 2, 3, 4, 5, 6, 7, 8, 9] rfl lk_L_111 ⟨Nat.le_of_ble_eq_true rfl, Nat.le_of_ble_eq_true rfl⟩ hf0 (rc_X11 hK (hB.1 0 _ rfl)) rfl hl.1 rfl rfl (Nat.le_of_ble_eq_true rfl) dL_law_925 ?_
  refine lv_aload_n C.1 C.2.1 dL_law_928 rfl (lv_at hl 2 rfl) ?_
  refine rd_arg (j := 1) C hX hbl hbA hB.2.2.2 hl (by omega) hL dL_law_929 dL_law_930 dL_law_932 rfl dL_law_933 dL_law_934 ?_
  refine rd_arg (j := 2) C hX hbl hbA hB.2.2.2 hl (by omega) hL dL_law_935 dL_law_936 dL_law_938 rfl dL_law_939 dL_law_940 ?_
  refine wl_X (As := [.int (xs (i + 1)), .int (xs (i + 2))]) (rest := [.int r]) (st1 := [.int r2.1, .int r]) C hK hA0 hN hB (tX12_game l E (aa 15) M (xs (i + 1)) (xs (i + 2)) r2 er2) [31] (by decide) rfl (fun _ => rfl) lk_L_114 ⟨Nat.le_of_ble_eq_true rfl, Nat.le_of_ble_eq_true rfl⟩ hf0 (rc_X12 hK (hB.1 31 _ rfl)) rfl hl.1 rfl rfl (Nat.le_of_ble_eq_true rfl) dL_law_941 (fun H locs q2 hB => ?_)
  replace hB : WZ E A s.heap (BL E aa aT aS p0 p1 p2 p3 mn tape rd tk ph ml nm now trial im sp nt fut od crow r2.2 out T S) H locs := hB
  refine lv_icmp_eq (tgt := 1461) C.1 C.2.1 dL_law_944 (by decide) (fun _ => ?_) (fun q9 => absurd hr q9)
  exact W.widen (Nat.le_succ _) (Nat.le_add_right _ 6) (kk H locs ⟨aa, aT, aS, _, _, _, _, _, _, _, _, _, _, _, _, _, _, _, _, _, _, _, _, _, _, _, hB, hC, rfl, rfl, rfl⟩)
set_option maxHeartbeats 4000000 in
set_option maxRecDepth 20000 in
theorem cs_21 {p : Program} {l : Launch} {e : Env} {s : State} {m : MethodId} {args : Array Value} {below : List Frame} {meth : Method} {c : Code} {H : Heap} {locs : List Loc} {cells slots : Nat} {Q : State → Prop} {ls : Array Slot} {E : Ev} {A : Nat → Prop} {b L i : Nat} {xs : Nat → Int32} {x mo oo : Nat} (C : CallFix p m c cL_law 7 s args gtbl RL) (hK : Kx E s) (hA0 : ∀ q, A q → E.2.2.1 ≤ q) (hN : E.2.2.1 ≤ s.heap.size) (hf : cells + 1 ≤ room_1.cells ∧ slots + 6 ≤ room_1.slots) (hX : va_X b L xs s s.heap) (hbl : b < s.heap.size) (hbA : ¬ A b) (hl : lv_has ls 7 [(0, .ref b), (1, .ref x), (2, .ref mo), (3, .ref oo), (4, .int (nI i))]) (hi : i + 6 ≤ L) (hL : L ≤ 3072) (hI : LI E A s.heap x mo oo H locs)
    (kk : ∀ (H : Heap) (locs : List Loc), LI E A s.heap x mo oo H locs → W p l e room_1 s m args below meth c H locs (cells + 1) (slots + 6) Q (F0 m 1461 ls [])) : W p l e room_1 s m args below meth c H locs cells slots Q (F0 m 949 ls []) := by
  obtain ⟨aa, aT, aS, p0, p1, p2, p3, mn, tape, rd, tk, ph, ml, nm, now, trial, im, sp, nt, fut, od, crow, M, out, T, S, hB, hC, rfl, rfl, rfl⟩ := hI
  have hf0 : cells ≤ room_1.cells ∧ slots ≤ room_1.slots := ⟨Nat.le_of_succ_le hf.1, Nat.le_trans (Nat.le_add_right _ 6) hf.2⟩
  obtain ⟨r, er, r2, er2, hr, hC⟩ := q_rests (x := (xs (i + 1))) (y := (xs (i + 2))) (z := (xs (i + 3)))   hC
  refine lv_aload_n C.1 C.2.1 dL_law_949 rfl (lv_at hl 1 rfl) ?_
  refine rd_arg (j := 1) C hX hbl hbA hB.2.2.2 hl (by omega) hL dL_law_950 dL_law_951 dL_law_953 rfl dL_law_954 dL_law_955 ?_
  refine rd_arg (j := 2) C hX hbl hbA hB.2.2.2 hl (by omega) hL dL_law_956 dL_law_957 dL_law_959 rfl dL_law_960 dL_law_961 ?_
  refine rd_arg (j := 3) C hX hbl hbA hB.2.2.2 hl (by omega) hL dL_law_962 dL_law_963 dL_law_965 rfl dL_law_966 dL_law_967 ?_
  refine wl_P (As := [.int (xs (i + 1)), .int (xs (i + 2)), .int (xs (i + 3))]) (rest := []) (st1 := [.int r]) C hK hA0 hN hB (tX11_rests l E (aa 0) (aa 1 0) (aS 0 0) (aa 2 0) (aa 5 0) (aa 7 0) (aa 8 0) (aa 9 0) (aa 10 0) (aa 11 0) (aa 12 0) (aa 13 0) (aa 14 0) mn aT T (xs (i + 1)) (xs (i + 2)) (xs (i + 3)) r er) [0, 2, 3, 4, 5, 6, 7, 8, 9] rfl lk_L_115 ⟨Nat.le_of_ble_eq_true rfl, Nat.le_of_ble_eq_true rfl⟩ hf0 (rc_X11 hK (hB.1 0 _ rfl)) rfl hl.1 rfl rfl (Nat.le_of_ble_eq_true rfl) dL_law_968 ?_
  refine lv_aload_n C.1 C.2.1 dL_law_971 rfl (lv_at hl 2 rfl) ?_
  refine rd_arg (j := 1) C hX hbl hbA hB.2.2.2 hl (by omega) hL dL_law_972 dL_law_973 dL_law_975 rfl dL_law_976 dL_law_977 ?_
  refine rd_arg (j := 2) C hX hbl hbA hB.2.2.2 hl (by omega) hL dL_law_978 dL_law_979 dL_law_981 rfl dL_law_982 dL_law_983 ?_
  refine rd_arg (j := 3) C hX hbl hbA hB.2.2.2 hl (by omega) hL dL_law_984 dL_law_985 dL_law_987 rfl dL_law_988 dL_law_989 ?_
  refine wl_X (As := [.int (xs (i + 1)), .int (xs (i + 2)), .int (xs (i + 3))]) (rest := [.int r]) (st1 := [.int r2.1, .int r]) C hK hA0 hN hB (tX12_rests l E (aa 15) M (xs (i + 1)) (xs (i + 2)) (xs (i + 3)) r2 er2) [31] (by decide) rfl (fun _ => rfl) lk_L_118 ⟨Nat.le_of_ble_eq_true rfl, Nat.le_of_ble_eq_true rfl⟩ hf0 (rc_X12 hK (hB.1 31 _ rfl)) rfl hl.1 rfl rfl (Nat.le_of_ble_eq_true rfl) dL_law_990 (fun H locs q2 hB => ?_)
  replace hB : WZ E A s.heap (BL E aa aT aS p0 p1 p2 p3 mn tape rd tk ph ml nm now trial im sp nt fut od crow r2.2 out T S) H locs := hB
  refine lv_icmp_eq (tgt := 1461) C.1 C.2.1 dL_law_993 (by decide) (fun _ => ?_) (fun q9 => absurd hr q9)
  exact W.widen (Nat.le_succ _) (Nat.le_add_right _ 6) (kk H locs ⟨aa, aT, aS, _, _, _, _, _, _, _, _, _, _, _, _, _, _, _, _, _, _, _, _, _, _, _, hB, hC, rfl, rfl, rfl⟩)
set_option maxHeartbeats 4000000 in
set_option maxRecDepth 20000 in
theorem cs_22 {p : Program} {l : Launch} {e : Env} {s : State} {m : MethodId} {args : Array Value} {below : List Frame} {meth : Method} {c : Code} {H : Heap} {locs : List Loc} {cells slots : Nat} {Q : State → Prop} {ls : Array Slot} {E : Ev} {A : Nat → Prop} {b L i : Nat} {xs : Nat → Int32} {x mo oo : Nat} (C : CallFix p m c cL_law 7 s args gtbl RL) (hK : Kx E s) (hA0 : ∀ q, A q → E.2.2.1 ≤ q) (hN : E.2.2.1 ≤ s.heap.size) (hf : cells + 1 ≤ room_1.cells ∧ slots + 6 ≤ room_1.slots) (hX : va_X b L xs s s.heap) (hbl : b < s.heap.size) (hbA : ¬ A b) (hl : lv_has ls 7 [(0, .ref b), (1, .ref x), (2, .ref mo), (3, .ref oo), (4, .int (nI i))]) (hi : i + 6 ≤ L) (hL : L ≤ 3072) (hI : LI E A s.heap x mo oo H locs)
    (kk : ∀ (H : Heap) (locs : List Loc), LI E A s.heap x mo oo H locs → W p l e room_1 s m args below meth c H locs (cells + 1) (slots + 6) Q (F0 m 1461 ls [])) : W p l e room_1 s m args below meth c H locs cells slots Q (F0 m 998 ls []) := by
  obtain ⟨aa, aT, aS, p0, p1, p2, p3, mn, tape, rd, tk, ph, ml, nm, now, trial, im, sp, nt, fut, od, crow, M, out, T, S, hB, hC, rfl, rfl, rfl⟩ := hI
  have hf0 : cells ≤ room_1.cells ∧ slots ≤ room_1.slots := ⟨Nat.le_of_succ_le hf.1, Nat.le_trans (Nat.le_add_right _ 6) hf.2⟩
  obtain ⟨r, er, r2, er2, hr, hC⟩ := q_rest (x := (xs (i + 1))) (y := (xs (i + 2))) (z := (xs (i + 3))) (w := (xs (i + 4)))   hC
  refine lv_aload_n C.1 C.2.1 dL_law_998 rfl (lv_at hl 1 rfl) ?_
  refine rd_arg (j := 1) C hX hbl hbA hB.2.2.2 hl (by omega) hL dL_law_999 dL_law_1000 dL_law_1002 rfl dL_law_1003 dL_law_1004 ?_
  refine rd_arg (j := 2) C hX hbl hbA hB.2.2.2 hl (by omega) hL dL_law_1005 dL_law_1006 dL_law_1008 rfl dL_law_1009 dL_law_1010 ?_
  refine rd_arg (j := 3) C hX hbl hbA hB.2.2.2 hl (by omega) hL dL_law_1011 dL_law_1012 dL_law_1014 rfl dL_law_1015 dL_law_1016 ?_
  refine rd_arg (j := 4) C hX hbl hbA hB.2.2.2 hl (by omega) hL dL_law_1017 dL_law_1018 dL_law_1020 rfl dL_law_1021 dL_law_1022 ?_
  refine wl_P (As := [.int (xs (i + 1)), .int (xs (i + 2)), .int (xs (i + 3)), .int (xs (i + 4))]) (rest := []) (st1 := [.int r]) C hK hA0 hN hB (tX11_rest l E (aa 0) (aa 1 0) (aS 0 0) (aa 2 0) (aa 5 0) (aa 7 0) (aa 8 0) (aa 9 0) (aa 10 0) (aa 11 0) (aa 12 0) (aa 13 0) (aa 14 0) mn aT T (xs (i + 1)) (xs (i + 2)) (xs (i + 3)) (xs (i + 4)) r er) [0, 2, 3, 4, 5, 6, 7, 8, 9] rfl lk_L_119 ⟨Nat.le_of_ble_eq_true rfl, Nat.le_of_ble_eq_true rfl⟩ hf0 (rc_X11 hK (hB.1 0 _ rfl)) rfl hl.1 rfl rfl (Nat.le_of_ble_eq_true rfl) dL_law_1023 ?_
  refine lv_aload_n C.1 C.2.1 dL_law_1026 rfl (lv_at hl 2 rfl) ?_
  refine rd_arg (j := 1) C hX hbl hbA hB.2.2.2 hl (by omega) hL dL_law_1027 dL_law_1028 dL_law_1030 rfl dL_law_1031 dL_law_1032 ?_
  refine rd_arg (j := 2) C hX hbl hbA hB.2.2.2 hl (by omega) hL dL_law_1033 dL_law_1034 dL_law_1036 rfl dL_law_1037 dL_law_1038 ?_
  refine rd_arg (j := 3) C hX hbl hbA hB.2.2.2 hl (by omega) hL dL_law_1039 dL_law_1040 dL_law_1042 rfl dL_law_1043 dL_law_1044 ?_
  refine rd_arg (j := 4) C hX hbl hbA hB.2.2.2 hl (by omega) hL dL_law_1045 dL_law_1046 dL_law_1048 rfl dL_law_1049 dL_law_1050 ?_
  refine wl_X (As := [.int (xs (i + 1)), .int (xs (i + 2)), .int (xs (i + 3)), .int (xs (i + 4))]) (rest := [.int r]) (st1 := [.int r2.1, .int r]) C hK hA0 hN hB (tX12_rest l E (aa 15) M (xs (i + 1)) (xs (i + 2)) (xs (i + 3)) (xs (i + 4)) r2 er2) [31] (by decide) rfl (fun _ => rfl) lk_L_123 ⟨Nat.le_of_ble_eq_true rfl, Nat.le_of_ble_eq_true rfl⟩ hf0 (rc_X12 hK (hB.1 31 _ rfl)) rfl hl.1 rfl rfl (Nat.le_of_ble_eq_true rfl) dL_law_1051 (fun H locs q2 hB => ?_)
  replace hB : WZ E A s.heap (BL E aa aT aS p0 p1 p2 p3 mn tape rd tk ph ml nm now trial im sp nt fut od crow r2.2 out T S) H locs := hB
  refine lv_icmp_eq (tgt := 1461) C.1 C.2.1 dL_law_1054 (by decide) (fun _ => ?_) (fun q9 => absurd hr q9)
  exact W.widen (Nat.le_succ _) (Nat.le_add_right _ 6) (kk H locs ⟨aa, aT, aS, _, _, _, _, _, _, _, _, _, _, _, _, _, _, _, _, _, _, _, _, _, _, _, hB, hC, rfl, rfl, rfl⟩)
set_option maxHeartbeats 4000000 in
set_option maxRecDepth 20000 in
theorem cs_23 {p : Program} {l : Launch} {e : Env} {s : State} {m : MethodId} {args : Array Value} {below : List Frame} {meth : Method} {c : Code} {H : Heap} {locs : List Loc} {cells slots : Nat} {Q : State → Prop} {ls : Array Slot} {E : Ev} {A : Nat → Prop} {b L i : Nat} {xs : Nat → Int32} {x mo oo : Nat} (C : CallFix p m c cL_law 7 s args gtbl RL) (hK : Kx E s) (hA0 : ∀ q, A q → E.2.2.1 ≤ q) (hN : E.2.2.1 ≤ s.heap.size) (hf : cells + 1 ≤ room_1.cells ∧ slots + 6 ≤ room_1.slots) (hX : va_X b L xs s s.heap) (hbl : b < s.heap.size) (hbA : ¬ A b) (hl : lv_has ls 7 [(0, .ref b), (1, .ref x), (2, .ref mo), (3, .ref oo), (4, .int (nI i))]) (hi : i + 6 ≤ L) (hL : L ≤ 3072) (hI : LI E A s.heap x mo oo H locs)
    (kk : ∀ (H : Heap) (locs : List Loc), LI E A s.heap x mo oo H locs → W p l e room_1 s m args below meth c H locs (cells + 1) (slots + 6) Q (F0 m 1461 ls [])) : W p l e room_1 s m args below meth c H locs cells slots Q (F0 m 1059 ls []) := by
  obtain ⟨aa, aT, aS, p0, p1, p2, p3, mn, tape, rd, tk, ph, ml, nm, now, trial, im, sp, nt, fut, od, crow, M, out, T, S, hB, hC, rfl, rfl, rfl⟩ := hI
  have hf0 : cells ≤ room_1.cells ∧ slots ≤ room_1.slots := ⟨Nat.le_of_succ_le hf.1, Nat.le_trans (Nat.le_add_right _ 6) hf.2⟩
  obtain ⟨r, er, r2, er2, hr, hC⟩ := q_dearest (x := (xs (i + 1)))   hC
  refine lv_aload_n C.1 C.2.1 dL_law_1059 rfl (lv_at hl 1 rfl) ?_
  refine rd_arg (j := 1) C hX hbl hbA hB.2.2.2 hl (by omega) hL dL_law_1060 dL_law_1061 dL_law_1063 rfl dL_law_1064 dL_law_1065 ?_
  refine wl_P (As := [.int (xs (i + 1))]) (rest := []) (st1 := [.int r]) C hK hA0 hN hB (tX11_dearest l E (aa 0) (aa 1 0) (aS 0 0) (aa 2 0) (aa 5 0) (aa 7 0) (aa 8 0) (aa 9 0) (aa 10 0) (aa 11 0) (aa 12 0) (aa 13 0) (aa 14 0) mn aT T (xs (i + 1)) r er) [0, 2, 3, 4, 5, 6, 7, 8, 9] rfl lk_L_124 ⟨Nat.le_of_ble_eq_true rfl, Nat.le_of_ble_eq_true rfl⟩ hf0 (rc_X11 hK (hB.1 0 _ rfl)) rfl hl.1 rfl rfl (Nat.le_of_ble_eq_true rfl) dL_law_1066 ?_
  refine lv_aload_n C.1 C.2.1 dL_law_1069 rfl (lv_at hl 2 rfl) ?_
  refine rd_arg (j := 1) C hX hbl hbA hB.2.2.2 hl (by omega) hL dL_law_1070 dL_law_1071 dL_law_1073 rfl dL_law_1074 dL_law_1075 ?_
  refine wl_X (As := [.int (xs (i + 1))]) (rest := [.int r]) (st1 := [.int r2.1, .int r]) C hK hA0 hN hB (tX12_dearest l E (aa 15) M (xs (i + 1)) r2 er2) [31] (by decide) rfl (fun _ => rfl) lk_L_127 ⟨Nat.le_of_ble_eq_true rfl, Nat.le_of_ble_eq_true rfl⟩ hf0 (rc_X12 hK (hB.1 31 _ rfl)) rfl hl.1 rfl rfl (Nat.le_of_ble_eq_true rfl) dL_law_1076 (fun H locs q2 hB => ?_)
  replace hB : WZ E A s.heap (BL E aa aT aS p0 p1 p2 p3 mn tape rd tk ph ml nm now trial im sp nt fut od crow r2.2 out T S) H locs := hB
  refine lv_icmp_eq (tgt := 1461) C.1 C.2.1 dL_law_1079 (by decide) (fun _ => ?_) (fun q9 => absurd hr q9)
  exact W.widen (Nat.le_succ _) (Nat.le_add_right _ 6) (kk H locs ⟨aa, aT, aS, _, _, _, _, _, _, _, _, _, _, _, _, _, _, _, _, _, _, _, _, _, _, _, hB, hC, rfl, rfl, rfl⟩)
set_option maxHeartbeats 4000000 in
set_option maxRecDepth 20000 in
theorem cs_24 {p : Program} {l : Launch} {e : Env} {s : State} {m : MethodId} {args : Array Value} {below : List Frame} {meth : Method} {c : Code} {H : Heap} {locs : List Loc} {cells slots : Nat} {Q : State → Prop} {ls : Array Slot} {E : Ev} {A : Nat → Prop} {b L i : Nat} {xs : Nat → Int32} {x mo oo : Nat} (C : CallFix p m c cL_law 7 s args gtbl RL) (hK : Kx E s) (hA0 : ∀ q, A q → E.2.2.1 ≤ q) (hN : E.2.2.1 ≤ s.heap.size) (hf : cells + 1 ≤ room_1.cells ∧ slots + 6 ≤ room_1.slots) (hX : va_X b L xs s s.heap) (hbl : b < s.heap.size) (hbA : ¬ A b) (hl : lv_has ls 7 [(0, .ref b), (1, .ref x), (2, .ref mo), (3, .ref oo), (4, .int (nI i))]) (hi : i + 6 ≤ L) (hL : L ≤ 3072) (hI : LI E A s.heap x mo oo H locs)
    (kk : ∀ (H : Heap) (locs : List Loc), LI E A s.heap x mo oo H locs → W p l e room_1 s m args below meth c H locs (cells + 1) (slots + 6) Q (F0 m 1461 ls [])) : W p l e room_1 s m args below meth c H locs cells slots Q (F0 m 1084 ls []) := by
  obtain ⟨aa, aT, aS, p0, p1, p2, p3, mn, tape, rd, tk, ph, ml, nm, now, trial, im, sp, nt, fut, od, crow, M, out, T, S, hB, hC, rfl, rfl, rfl⟩ := hI
  have hf0 : cells ≤ room_1.cells ∧ slots ≤ room_1.slots := ⟨Nat.le_of_succ_le hf.1, Nat.le_trans (Nat.le_add_right _ 6) hf.2⟩
  obtain ⟨r, er, r2, er2, hr, hC⟩ := q_quiet (x := (xs (i + 1))) (y := (xs (i + 2)))   hC
  refine lv_aload_n C.1 C.2.1 dL_law_1084 rfl (lv_at hl 1 rfl) ?_
  refine rd_arg (j := 1) C hX hbl hbA hB.2.2.2 hl (by omega) hL dL_law_1085 dL_law_1086 dL_law_1088 rfl dL_law_1089 dL_law_1090 ?_
  refine rd_arg (j := 2) C hX hbl hbA hB.2.2.2 hl (by omega) hL dL_law_1091 dL_law_1092 dL_law_1094 rfl dL_law_1095 dL_law_1096 ?_
  refine wl_P (As := [.int (xs (i + 1)), .int (xs (i + 2))]) (rest := []) (st1 := [.long r]) C hK hA0 hN hB (tX11_quiet l E (aa 0) (aa 1 0) (aS 0 0) (aa 2 0) (aa 5 0) (aa 7 0) (aa 8 0) (aa 9 0) (aa 10 0) (aa 11 0) (aa 12 0) (aa 13 0) (aa 14 0) mn aT T (xs (i + 1)) (xs (i + 2)) r er) [0, 2, 3, 4, 5, 6, 7, 8, 9] rfl lk_L_128 ⟨Nat.le_of_ble_eq_true rfl, Nat.le_of_ble_eq_true rfl⟩ hf0 (rc_X11 hK (hB.1 0 _ rfl)) rfl hl.1 rfl rfl (Nat.le_of_ble_eq_true rfl) dL_law_1097 ?_
  refine lv_aload_n C.1 C.2.1 dL_law_1100 rfl (lv_at hl 2 rfl) ?_
  refine rd_arg (j := 1) C hX hbl hbA hB.2.2.2 hl (by omega) hL dL_law_1101 dL_law_1102 dL_law_1104 rfl dL_law_1105 dL_law_1106 ?_
  refine rd_arg (j := 2) C hX hbl hbA hB.2.2.2 hl (by omega) hL dL_law_1107 dL_law_1108 dL_law_1110 rfl dL_law_1111 dL_law_1112 ?_
  refine wl_X (As := [.int (xs (i + 1)), .int (xs (i + 2))]) (rest := [.long r]) (st1 := [.long r2.1, .long r]) C hK hA0 hN hB (tX12_quiet l E (aa 15) M (xs (i + 1)) (xs (i + 2)) r2 er2) [31] (by decide) rfl (fun _ => rfl) lk_L_131 ⟨Nat.le_of_ble_eq_true rfl, Nat.le_of_ble_eq_true rfl⟩ hf0 (rc_X12 hK (hB.1 31 _ rfl)) rfl hl.1 rfl rfl (Nat.le_of_ble_eq_true rfl) dL_law_1113 (fun H locs q2 hB => ?_)
  replace hB : WZ E A s.heap (BL E aa aT aS p0 p1 p2 p3 mn tape rd tk ph ml nm now trial im sp nt fut od crow r2.2 out T S) H locs := hB
  refine W.lcmp C.1 C.2.1 dL_law_1116 ?_
  refine lx_if_eq (tgt := 1461) C.1 C.2.1 dL_law_1117 (by decide) (fun _ => ?_) (fun q9 => absurd hr q9)
  exact W.widen (Nat.le_succ _) (Nat.le_add_right _ 6) (kk H locs ⟨aa, aT, aS, _, _, _, _, _, _, _, _, _, _, _, _, _, _, _, _, _, _, _, _, _, _, _, hB, hC, rfl, rfl, rfl⟩)
set_option maxHeartbeats 4000000 in
set_option maxRecDepth 20000 in
theorem cs_25 {p : Program} {l : Launch} {e : Env} {s : State} {m : MethodId} {args : Array Value} {below : List Frame} {meth : Method} {c : Code} {H : Heap} {locs : List Loc} {cells slots : Nat} {Q : State → Prop} {ls : Array Slot} {E : Ev} {A : Nat → Prop} {b L i : Nat} {xs : Nat → Int32} {x mo oo : Nat} (C : CallFix p m c cL_law 7 s args gtbl RL) (hK : Kx E s) (hA0 : ∀ q, A q → E.2.2.1 ≤ q) (hN : E.2.2.1 ≤ s.heap.size) (hf : cells + 1 ≤ room_1.cells ∧ slots + 6 ≤ room_1.slots) (hX : va_X b L xs s s.heap) (hbl : b < s.heap.size) (hbA : ¬ A b) (hl : lv_has ls 7 [(0, .ref b), (1, .ref x), (2, .ref mo), (3, .ref oo), (4, .int (nI i))]) (hi : i + 6 ≤ L) (hL : L ≤ 3072) (hI : LI E A s.heap x mo oo H locs)
    (kk : ∀ (H : Heap) (locs : List Loc), LI E A s.heap x mo oo H locs → W p l e room_1 s m args below meth c H locs (cells + 1) (slots + 6) Q (F0 m 1461 ls [])) : W p l e room_1 s m args below meth c H locs cells slots Q (F0 m 1122 ls []) := by
  obtain ⟨aa, aT, aS, p0, p1, p2, p3, mn, tape, rd, tk, ph, ml, nm, now, trial, im, sp, nt, fut, od, crow, M, out, T, S, hB, hC, rfl, rfl, rfl⟩ := hI
  have hf0 : cells ≤ room_1.cells ∧ slots ≤ room_1.slots := ⟨Nat.le_of_succ_le hf.1, Nat.le_trans (Nat.le_add_right _ 6) hf.2⟩
  obtain ⟨z, hz, ez⟩ : ∃ z : Int32, (z = 0 ∨ z = 1) ∧ z = (if xs (i + 3) = 0 then 0 else 1) := ⟨_, by by_cases h : xs (i + 3) = 0 <;> simp [h], rfl⟩
  obtain ⟨r, er, r2, er2, hr, hC⟩ := q_see (x := (xs (i + 1))) (y := (xs (i + 2))) (z := z)  hz hC
  refine lv_aload_n C.1 C.2.1 dL_law_1122 rfl (lv_at hl 1 rfl) ?_
  refine rd_arg (j := 1) C hX hbl hbA hB.2.2.2 hl (by omega) hL dL_law_1123 dL_law_1124 dL_law_1126 rfl dL_law_1127 dL_law_1128 ?_
  refine rd_arg (j := 2) C hX hbl hbA hB.2.2.2 hl (by omega) hL dL_law_1129 dL_law_1130 dL_law_1132 rfl dL_law_1133 dL_law_1134 ?_
  refine rd_arg (j := 3) C hX hbl hbA hB.2.2.2 hl (by omega) hL dL_law_1135 dL_law_1136 dL_law_1138 rfl dL_law_1139 dL_law_1140 ?_
  refine see_z (t2 := 0) dL_law_1141 dL_law_1144 dL_law_1145 dL_law_1148 (by decide) (by decide) C.1 C.2.1 ez ?_
  show W p l e room_1 s m args below meth c H locs cells slots Q (F0 m 1149 ls _)
  refine wl_X (As := [.int (xs (i + 1)), .int (xs (i + 2)), .int z]) (rest := []) (st1 := [.int r.1]) C hK hA0 hN hB (tX11_see l E (aa 0) (aa 1 0) (aT 0 0) (aS 0 0) (aa 2 0) (aa 5 0) (aa 7 0) (aa 8 0) (aa 9 0) (aa 10 0) (aa 12 0) (aa 13 0) (aa 14 0) mn (aa 11) nt (xs (i + 1)) (xs (i + 2)) z r er) [0, 27] (by decide) rfl (fun _ => rfl) lk_L_132 ⟨Nat.le_of_ble_eq_true rfl, Nat.le_of_ble_eq_true rfl⟩ hf0 (rc_X11 hK (hB.1 0 _ rfl)) rfl hl.1 rfl rfl (Nat.le_of_ble_eq_true rfl) dL_law_1149 (fun H locs q hB => ?_)
  replace hB : WZ E A s.heap (BL E aa aT aS p0 p1 p2 p3 mn tape rd tk ph ml nm now trial im sp r.2 fut od crow M out T S) H locs := hB
  refine lv_aload_n C.1 C.2.1 dL_law_1152 rfl (lv_at hl 2 rfl) ?_
  refine rd_arg (j := 1) C hX hbl hbA hB.2.2.2 hl (by omega) hL dL_law_1153 dL_law_1154 dL_law_1156 rfl dL_law_1157 dL_law_1158 ?_
  refine rd_arg (j := 2) C hX hbl hbA hB.2.2.2 hl (by omega) hL dL_law_1159 dL_law_1160 dL_law_1162 rfl dL_law_1163 dL_law_1164 ?_
  refine rd_arg (j := 3) C hX hbl hbA hB.2.2.2 hl (by omega) hL dL_law_1165 dL_law_1166 dL_law_1168 rfl dL_law_1169 dL_law_1170 ?_
  refine see_z (t2 := 0) dL_law_1171 dL_law_1174 dL_law_1175 dL_law_1178 (by decide) (by decide) C.1 C.2.1 ez ?_
  show W p l e room_1 s m args below meth c H locs cells slots Q (F0 m 1179 ls _)
  refine wl_X (As := [.int (xs (i + 1)), .int (xs (i + 2)), .int z]) (rest := [.int r.1]) (st1 := [.int r2.1, .int r.1]) C hK hA0 hN hB (tX12_see l E (aa 15) M (xs (i + 1)) (xs (i + 2)) z r2 er2) [31] (by decide) rfl (fun _ => rfl) lk_L_136 ⟨Nat.le_of_ble_eq_true rfl, Nat.le_of_ble_eq_true rfl⟩ hf0 (rc_X12 hK (hB.1 31 _ rfl)) rfl hl.1 rfl rfl (Nat.le_of_ble_eq_true rfl) dL_law_1179 (fun H locs q2 hB => ?_)
  replace hB : WZ E A s.heap (BL E aa aT aS p0 p1 p2 p3 mn tape rd tk ph ml nm now trial im sp r.2 fut od crow r2.2 out T S) H locs := hB
  refine lv_icmp_eq (tgt := 1461) C.1 C.2.1 dL_law_1182 (by decide) (fun _ => ?_) (fun q9 => absurd hr q9)
  exact W.widen (Nat.le_succ _) (Nat.le_add_right _ 6) (kk H locs ⟨aa, aT, aS, _, _, _, _, _, _, _, _, _, _, _, _, _, _, _, _, _, _, _, _, _, _, _, hB, hC, rfl, rfl, rfl⟩)
set_option maxHeartbeats 4000000 in
set_option maxRecDepth 20000 in
theorem cs_26 {p : Program} {l : Launch} {e : Env} {s : State} {m : MethodId} {args : Array Value} {below : List Frame} {meth : Method} {c : Code} {H : Heap} {locs : List Loc} {cells slots : Nat} {Q : State → Prop} {ls : Array Slot} {E : Ev} {A : Nat → Prop} {b L i : Nat} {xs : Nat → Int32} {x mo oo : Nat} (C : CallFix p m c cL_law 7 s args gtbl RL) (hK : Kx E s) (hA0 : ∀ q, A q → E.2.2.1 ≤ q) (hN : E.2.2.1 ≤ s.heap.size) (hf : cells + 1 ≤ room_1.cells ∧ slots + 6 ≤ room_1.slots) (hX : va_X b L xs s s.heap) (hbl : b < s.heap.size) (hbA : ¬ A b) (hl : lv_has ls 7 [(0, .ref b), (1, .ref x), (2, .ref mo), (3, .ref oo), (4, .int (nI i))]) (hi : i + 6 ≤ L) (hL : L ≤ 3072) (hI : LI E A s.heap x mo oo H locs)
    (kk : ∀ (H : Heap) (locs : List Loc), LI E A s.heap x mo oo H locs → W p l e room_1 s m args below meth c H locs (cells + 1) (slots + 6) Q (F0 m 1461 ls [])) : W p l e room_1 s m args below meth c H locs cells slots Q (F0 m 1187 ls []) := by
  obtain ⟨aa, aT, aS, p0, p1, p2, p3, mn, tape, rd, tk, ph, ml, nm, now, trial, im, sp, nt, fut, od, crow, M, out, T, S, hB, hC, rfl, rfl, rfl⟩ := hI
  have hf0 : cells ≤ room_1.cells ∧ slots ≤ room_1.slots := ⟨Nat.le_of_succ_le hf.1, Nat.le_trans (Nat.le_add_right _ 6) hf.2⟩
  obtain ⟨r, er, r2, er2, hr, hC⟩ := q_strike (x := (xs (i + 1)))   hC
  refine lv_aload_n C.1 C.2.1 dL_law_1187 rfl (lv_at hl 1 rfl) ?_
  refine rd_arg (j := 1) C hX hbl hbA hB.2.2.2 hl (by omega) hL dL_law_1188 dL_law_1189 dL_law_1191 rfl dL_law_1192 dL_law_1193 ?_
  refine wl_X (As := [.int (xs (i + 1))]) (rest := []) (st1 := [.int r.1]) C hK hA0 hN hB (tX11_strike l E (aa 0) (aa 1 0) (aT 0 0) (aS 0 0) (aa 2 0) (aa 5 0) (aa 7 0) (aa 8 0) (aa 9 0) (aa 10 0) (aa 12 0) (aa 13 0) (aa 14 0) mn (aa 11) nt (xs (i + 1)) r er) [0, 27] (by decide) rfl (fun _ => rfl) lk_L_137 ⟨Nat.le_of_ble_eq_true rfl, Nat.le_of_ble_eq_true rfl⟩ hf0 (rc_X11 hK (hB.1 0 _ rfl)) rfl hl.1 rfl rfl (Nat.le_of_ble_eq_true rfl) dL_law_1194 (fun H locs q hB => ?_)
  replace hB : WZ E A s.heap (BL E aa aT aS p0 p1 p2 p3 mn tape rd tk ph ml nm now trial im sp r.2 fut od crow M out T S) H locs := hB
  refine lv_aload_n C.1 C.2.1 dL_law_1197 rfl (lv_at hl 2 rfl) ?_
  refine rd_arg (j := 1) C hX hbl hbA hB.2.2.2 hl (by omega) hL dL_law_1198 dL_law_1199 dL_law_1201 rfl dL_law_1202 dL_law_1203 ?_
  refine wl_X (As := [.int (xs (i + 1))]) (rest := [.int r.1]) (st1 := [.int r2.1, .int r.1]) C hK hA0 hN hB (tX12_strike l E (aa 15) M (xs (i + 1)) r2 er2) [31] (by decide) rfl (fun _ => rfl) lk_L_140 ⟨Nat.le_of_ble_eq_true rfl, Nat.le_of_ble_eq_true rfl⟩ hf0 (rc_X12 hK (hB.1 31 _ rfl)) rfl hl.1 rfl rfl (Nat.le_of_ble_eq_true rfl) dL_law_1204 (fun H locs q2 hB => ?_)
  replace hB : WZ E A s.heap (BL E aa aT aS p0 p1 p2 p3 mn tape rd tk ph ml nm now trial im sp r.2 fut od crow r2.2 out T S) H locs := hB
  refine lv_icmp_eq (tgt := 1461) C.1 C.2.1 dL_law_1207 (by decide) (fun _ => ?_) (fun q9 => absurd hr q9)
  exact W.widen (Nat.le_succ _) (Nat.le_add_right _ 6) (kk H locs ⟨aa, aT, aS, _, _, _, _, _, _, _, _, _, _, _, _, _, _, _, _, _, _, _, _, _, _, _, hB, hC, rfl, rfl, rfl⟩)
set_option maxHeartbeats 4000000 in
set_option maxRecDepth 20000 in
theorem cs_27 {p : Program} {l : Launch} {e : Env} {s : State} {m : MethodId} {args : Array Value} {below : List Frame} {meth : Method} {c : Code} {H : Heap} {locs : List Loc} {cells slots : Nat} {Q : State → Prop} {ls : Array Slot} {E : Ev} {A : Nat → Prop} {b L i : Nat} {xs : Nat → Int32} {x mo oo : Nat} (C : CallFix p m c cL_law 7 s args gtbl RL) (hK : Kx E s) (hA0 : ∀ q, A q → E.2.2.1 ≤ q) (hN : E.2.2.1 ≤ s.heap.size) (hf : cells + 1 ≤ room_1.cells ∧ slots + 6 ≤ room_1.slots) (hX : va_X b L xs s s.heap) (hbl : b < s.heap.size) (hbA : ¬ A b) (hl : lv_has ls 7 [(0, .ref b), (1, .ref x), (2, .ref mo), (3, .ref oo), (4, .int (nI i))]) (hi : i + 6 ≤ L) (hL : L ≤ 3072) (hI : LI E A s.heap x mo oo H locs)
    (kk : ∀ (H : Heap) (locs : List Loc), LI E A s.heap x mo oo H locs → W p l e room_1 s m args below meth c H locs (cells + 1) (slots + 6) Q (F0 m 1461 ls [])) : W p l e room_1 s m args below meth c H locs cells slots Q (F0 m 1212 ls []) := by
  obtain ⟨aa, aT, aS, p0, p1, p2, p3, mn, tape, rd, tk, ph, ml, nm, now, trial, im, sp, nt, fut, od, crow, M, out, T, S, hB, hC, rfl, rfl, rfl⟩ := hI
  have hf0 : cells ≤ room_1.cells ∧ slots ≤ room_1.slots := ⟨Nat.le_of_succ_le hf.1, Nat.le_trans (Nat.le_add_right _ 6) hf.2⟩
  obtain ⟨hr, hC⟩ := q_known (x := (xs (i + 1))) hC
  refine lv_aload_n C.1 C.2.1 dL_law_1212 rfl (lv_at hl 1 rfl) ?_
  refine rd_arg (j := 1) C hX hbl hbA hB.2.2.2 hl (by omega) hL dL_law_1213 dL_law_1214 dL_law_1216 rfl dL_law_1217 dL_law_1218 ?_
  refine wl_X (As := [.int (xs (i + 1))]) (rest := []) (st1 := [.int (fX11_known mn nt (xs (i + 1))).1]) C hK hA0 hN hB (tX11_known l E (aa 0) (aa 1 0) (aT 0 0) (aS 0 0) (aa 2 0) (aa 5 0) (aa 7 0) (aa 8 0) (aa 9 0) (aa 10 0) (aa 12 0) (aa 13 0) (aa 14 0) mn (aa 11) nt (xs (i + 1)) (fX11_known mn nt (xs (i + 1))) rfl) [0, 27] (by decide) rfl (fun _ => rfl) lk_L_141 ⟨Nat.le_of_ble_eq_true rfl, Nat.le_of_ble_eq_true rfl⟩ hf0 (rc_X11 hK (hB.1 0 _ rfl)) rfl hl.1 rfl rfl (Nat.le_of_ble_eq_true rfl) dL_law_1219 (fun H locs q hB => ?_)
  replace hB : WZ E A s.heap (BL E aa aT aS p0 p1 p2 p3 mn tape rd tk ph ml nm now trial im sp (fX11_known mn nt (xs (i + 1))).2 fut od crow M out T S) H locs := hB
  refine lv_aload_n C.1 C.2.1 dL_law_1222 rfl (lv_at hl 2 rfl) ?_
  refine rd_arg (j := 1) C hX hbl hbA hB.2.2.2 hl (by omega) hL dL_law_1223 dL_law_1224 dL_law_1226 rfl dL_law_1227 dL_law_1228 ?_
  refine wl_X (As := [.int (xs (i + 1))]) (rest := [.int (fX11_known mn nt (xs (i + 1))).1]) (st1 := [.int (fX12_known M (xs (i + 1))).1, .int (fX11_known mn nt (xs (i + 1))).1]) C hK hA0 hN hB (tX12_known l E (aa 15) M (xs (i + 1)) (fX12_known M (xs (i + 1))) rfl) [31] (by decide) rfl (fun _ => rfl) lk_L_145 ⟨Nat.le_of_ble_eq_true rfl, Nat.le_of_ble_eq_true rfl⟩ hf0 (rc_X12 hK (hB.1 31 _ rfl)) rfl hl.1 rfl rfl (Nat.le_of_ble_eq_true rfl) dL_law_1229 (fun H locs q2 hB => ?_)
  replace hB : WZ E A s.heap (BL E aa aT aS p0 p1 p2 p3 mn tape rd tk ph ml nm now trial im sp (fX11_known mn nt (xs (i + 1))).2 fut od crow (fX12_known M (xs (i + 1))).2 out T S) H locs := hB
  refine lv_icmp_eq (tgt := 1461) C.1 C.2.1 dL_law_1232 (by decide) (fun _ => ?_) (fun q9 => absurd hr q9)
  exact W.widen (Nat.le_succ _) (Nat.le_add_right _ 6) (kk H locs ⟨aa, aT, aS, _, _, _, _, _, _, _, _, _, _, _, _, _, _, _, _, _, _, _, _, _, _, _, hB, hC, rfl, rfl, rfl⟩)
set_option maxHeartbeats 4000000 in
set_option maxRecDepth 20000 in
theorem cs_28 {p : Program} {l : Launch} {e : Env} {s : State} {m : MethodId} {args : Array Value} {below : List Frame} {meth : Method} {c : Code} {H : Heap} {locs : List Loc} {cells slots : Nat} {Q : State → Prop} {ls : Array Slot} {E : Ev} {A : Nat → Prop} {b L i : Nat} {xs : Nat → Int32} {x mo oo : Nat} (C : CallFix p m c cL_law 7 s args gtbl RL) (hK : Kx E s) (hA0 : ∀ q, A q → E.2.2.1 ≤ q) (hN : E.2.2.1 ≤ s.heap.size) (hf : cells + 1 ≤ room_1.cells ∧ slots + 6 ≤ room_1.slots) (hX : va_X b L xs s s.heap) (hbl : b < s.heap.size) (hbA : ¬ A b) (hl : lv_has ls 7 [(0, .ref b), (1, .ref x), (2, .ref mo), (3, .ref oo), (4, .int (nI i))]) (hi : i + 6 ≤ L) (hL : L ≤ 3072) (hI : LI E A s.heap x mo oo H locs)
    (kk : ∀ (H : Heap) (locs : List Loc), LI E A s.heap x mo oo H locs → W p l e room_1 s m args below meth c H locs (cells + 1) (slots + 6) Q (F0 m 1461 ls [])) : W p l e room_1 s m args below meth c H locs cells slots Q (F0 m 1237 ls []) := by
  obtain ⟨aa, aT, aS, p0, p1, p2, p3, mn, tape, rd, tk, ph, ml, nm, now, trial, im, sp, nt, fut, od, crow, M, out, T, S, hB, hC, rfl, rfl, rfl⟩ := hI
  have hf0 : cells ≤ room_1.cells ∧ slots ≤ room_1.slots := ⟨Nat.le_of_succ_le hf.1, Nat.le_trans (Nat.le_add_right _ 6) hf.2⟩
  obtain ⟨r, er, r2, er2, hr, hC⟩ := q_moods (x := (xs (i + 1))) (ml := ml) (nm := nm) (trial := trial)  hC
  refine lv_aload_n C.1 C.2.1 dL_law_1237 rfl (lv_at hl 1 rfl) ?_
  refine rd_arg (j := 1) C hX hbl hbA hB.2.2.2 hl (by omega) hL dL_law_1238 dL_law_1239 dL_law_1241 rfl dL_law_1242 dL_law_1243 ?_
  refine wl_X (As := [.int (xs (i + 1))]) (rest := []) (st1 := [.int r.1]) C hK hA0 hN hB (tX11_moods l E (aa 0) (aa 1 0) (aS 0 0) (aa 2 0) (aa 7 0) (aa 9 0) (aa 10 0) (aa 13 0) (aa 14 0) mn (aa 12) fut (aa 5) p3 ml (aa 6) nm (aa 8) trial (aa 11) nt aT T (xs (i + 1)) r er) [0, 28, 21, 22, 24, 27, 2, 3, 4, 5, 6, 7, 8, 9] (by decide) rfl (fun _ => rfl) lk_L_146 ⟨Nat.le_of_ble_eq_true rfl, Nat.le_of_ble_eq_true rfl⟩ hf0 (rc_X11 hK (hB.1 0 _ rfl)) rfl hl.1 rfl rfl (Nat.le_of_ble_eq_true rfl) dL_law_1244 (fun H locs q hB => ?_)
  replace hB : WZ E A s.heap (BL E aa aT aS p0 p1 p2 (q 0) r.2.1 tape rd tk ph r.2.2.2.1 r.2.2.2.2.1 now r.2.2.2.2.2.1 im sp r.2.2.2.2.2.2.1 r.2.2.1 od crow M out (r.2.2.2.2.2.2.2) S) H locs := hB
  refine lv_aload_n C.1 C.2.1 dL_law_1247 rfl (lv_at hl 2 rfl) ?_
  refine rd_arg (j := 1) C hX hbl hbA hB.2.2.2 hl (by omega) hL dL_law_1248 dL_law_1249 dL_law_1251 rfl dL_law_1252 dL_law_1253 ?_
  refine wl_X (As := [.int (xs (i + 1))]) (rest := [.int r.1]) (st1 := [.int r2.1, .int r.1]) C hK hA0 hN hB (tX12_moods l E (aa 15) M (xs (i + 1)) r2 er2) [31] (by decide) rfl (fun _ => rfl) lk_L_149 ⟨Nat.le_of_ble_eq_true rfl, Nat.le_of_ble_eq_true rfl⟩ hf0 (rc_X12 hK (hB.1 31 _ rfl)) rfl hl.1 rfl rfl (Nat.le_of_ble_eq_true rfl) dL_law_1254 (fun H locs q2 hB => ?_)
  replace hB : WZ E A s.heap (BL E aa aT aS p0 p1 p2 (q 0) r.2.1 tape rd tk ph r.2.2.2.1 r.2.2.2.2.1 now r.2.2.2.2.2.1 im sp r.2.2.2.2.2.2.1 r.2.2.1 od crow r2.2 out (r.2.2.2.2.2.2.2) S) H locs := hB
  refine lv_icmp_eq (tgt := 1461) C.1 C.2.1 dL_law_1257 (by decide) (fun _ => ?_) (fun q9 => absurd hr q9)
  exact W.widen (Nat.le_succ _) (Nat.le_add_right _ 6) (kk H locs ⟨aa, aT, aS, _, _, _, _, _, _, _, _, _, _, _, _, _, _, _, _, _, _, _, _, _, _, _, hB, hC, rfl, rfl, rfl⟩)
