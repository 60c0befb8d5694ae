set_option maxHeartbeats 4000000 in
set_option maxRecDepth 20000 in
theorem cs_11 {p : Program} {l : Launch} {e : Env} {s : State} {m : MethodId} {args : Array Value} {below : List Frame} {meth : Method} {c : Code} {H : Heap} {locs : List Loc} {cells slots : Nat} {Q : State → Prop} {ls : Array Slot} {E : Ev} {A : Nat → Prop} {b L i : Nat} {xs : Nat → Int32} {x mo oo : Nat} (C : CallFix p m c cL_law 7 s args gtbl RL) (hK : Kx E s) (hA0 : ∀ q, A q → E.2.2.1 ≤ q) (hN : E.2.2.1 ≤ s.heap.size) (hf : cells + 1 ≤ room_1.cells ∧ slots + 6 ≤ room_1.slots) (hX : va_X b L xs s s.heap) (hbl : b < s.heap.size) (hbA : ¬ A b) (hl : lv_has ls 7 [(0, .ref b), (1, .ref x), (2, .ref mo), (3, .ref oo), (4, .int (nI i))]) (hi : i + 6 ≤ L) (hL : L ≤ 3072) (hI : LI E A s.heap x mo oo H locs)
    (kk : ∀ (H : Heap) (locs : List Loc), LI E A s.heap x mo oo H locs → W p l e room_1 s m args below meth c H locs (cells + 1) (slots + 6) Q (F0 m 1461 ls [])) : W p l e room_1 s m args below meth c H locs cells slots Q (F0 m 627 ls []) := by
  obtain ⟨aa, aT, aS, p0, p1, p2, p3, mn, tape, rd, tk, ph, ml, nm, now, trial, im, sp, nt, fut, od, crow, M, out, T, S, hB, hC, rfl, rfl, rfl⟩ := hI
  have hf0 : cells ≤ room_1.cells ∧ slots ≤ room_1.slots := ⟨Nat.le_of_succ_le hf.1, Nat.le_trans (Nat.le_add_right _ 6) hf.2⟩
  obtain ⟨r, er, r2, er2, hr, hC⟩ := q_go (x := (xs (i + 1))) (ml := ml) (nm := nm)  hC
  refine lv_aload_n C.1 C.2.1 dL_law_627 rfl (lv_at hl 1 rfl) ?_
  refine rd_arg (j := 1) C hX hbl hbA hB.2.2.2 hl (by omega) hL dL_law_628 dL_law_629 dL_law_631 rfl dL_law_632 dL_law_633 ?_
  refine wl_X (As := [.int (xs (i + 1))]) (rest := []) (st1 := [.int r.1]) C hK hA0 hN hB (tX11_go l E (aa 0) (aa 1 0) (aS 0 0) (aa 2 0) (aa 8 0) (aa 9 0) (aa 11 0) (aa 12 0) (aa 13 0) (aa 14 0) mn (aa 5) p3 ml (aa 6) nm (aa 7) now (aa 10) sp aT T (xs (i + 1)) r er) [0, 21, 22, 23, 26, 2, 3, 4, 5, 6, 7, 8, 9] (by decide) rfl (fun _ => rfl) lk_L_74 ⟨Nat.le_of_ble_eq_true rfl, Nat.le_of_ble_eq_true rfl⟩ hf0 (rc_X11 hK (hB.1 0 _ rfl)) rfl hl.1 rfl rfl (Nat.le_of_ble_eq_true rfl) dL_law_634 (fun H locs q hB => ?_)
  replace hB : WZ E A s.heap (BL E aa aT aS p0 p1 p2 (q 0) mn tape rd tk ph r.2.1 r.2.2.1 r.2.2.2.1 trial im r.2.2.2.2.1 nt fut od crow M out (r.2.2.2.2.2) S) H locs := hB
  refine lv_aload_n C.1 C.2.1 dL_law_637 rfl (lv_at hl 2 rfl) ?_
  refine rd_arg (j := 1) C hX hbl hbA hB.2.2.2 hl (by omega) hL dL_law_638 dL_law_639 dL_law_641 rfl dL_law_642 dL_law_643 ?_
  refine wl_X (As := [.int (xs (i + 1))]) (rest := [.int r.1]) (st1 := [.int r2.1, .int r.1]) C hK hA0 hN hB (tX12_go l E (aa 15) M (xs (i + 1)) r2 er2) [31] (by decide) rfl (fun _ => rfl) lk_L_77 ⟨Nat.le_of_ble_eq_true rfl, Nat.le_of_ble_eq_true rfl⟩ hf0 (rc_X12 hK (hB.1 31 _ rfl)) rfl hl.1 rfl rfl (Nat.le_of_ble_eq_true rfl) dL_law_644 (fun H locs q2 hB => ?_)
  replace hB : WZ E A s.heap (BL E aa aT aS p0 p1 p2 (q 0) mn tape rd tk ph r.2.1 r.2.2.1 r.2.2.2.1 trial im r.2.2.2.2.1 nt fut od crow r2.2 out (r.2.2.2.2.2) S) H locs := hB
  refine lv_icmp_eq (tgt := 1461) C.1 C.2.1 dL_law_647 (by decide) (fun _ => ?_) (fun q9 => absurd hr q9)
  exact W.widen (Nat.le_succ _) (Nat.le_add_right _ 6) (kk H locs ⟨aa, aT, aS, _, _, _, _, _, _, _, _, _, _, _, _, _, _, _, _, _, _, _, _, _, _, _, hB, hC, rfl, rfl, rfl⟩)
set_option maxHeartbeats 4000000 in
set_option maxRecDepth 20000 in
theorem cs_12 {p : Program} {l : Launch} {e : Env} {s : State} {m : MethodId} {args : Array Value} {below : List Frame} {meth : Method} {c : Code} {H : Heap} {locs : List Loc} {cells slots : Nat} {Q : State → Prop} {ls : Array Slot} {E : Ev} {A : Nat → Prop} {b L i : Nat} {xs : Nat → Int32} {x mo oo : Nat} (C : CallFix p m c cL_law 7 s args gtbl RL) (hK : Kx E s) (hA0 : ∀ q, A q → E.2.2.1 ≤ q) (hN : E.2.2.1 ≤ s.heap.size) (hf : cells + 1 ≤ room_1.cells ∧ slots + 6 ≤ room_1.slots) (hX : va_X b L xs s s.heap) (hbl : b < s.heap.size) (hbA : ¬ A b) (hl : lv_has ls 7 [(0, .ref b), (1, .ref x), (2, .ref mo), (3, .ref oo), (4, .int (nI i))]) (hi : i + 6 ≤ L) (hL : L ≤ 3072) (hI : LI E A s.heap x mo oo H locs)
    (kk : ∀ (H : Heap) (locs : List Loc), LI E A s.heap x mo oo H locs → W p l e room_1 s m args below meth c H locs (cells + 1) (slots + 6) Q (F0 m 1461 ls [])) : W p l e room_1 s m args below meth c H locs cells slots Q (F0 m 652 ls []) := by
  obtain ⟨aa, aT, aS, p0, p1, p2, p3, mn, tape, rd, tk, ph, ml, nm, now, trial, im, sp, nt, fut, od, crow, M, out, T, S, hB, hC, rfl, rfl, rfl⟩ := hI
  have hf0 : cells ≤ room_1.cells ∧ slots ≤ room_1.slots := ⟨Nat.le_of_succ_le hf.1, Nat.le_trans (Nat.le_add_right _ 6) hf.2⟩
  obtain ⟨r, er, r2, er2, hr, hC⟩ := q_ahead (x := (xs (i + 1))) (y := (xs (i + 2))) (z := (xs (i + 3))) (ml := ml) (nm := nm) (trial := trial)  hC
  refine lv_aload_n C.1 C.2.1 dL_law_652 rfl (lv_at hl 1 rfl) ?_
  refine rd_arg (j := 1) C hX hbl hbA hB.2.2.2 hl (by omega) hL dL_law_653 dL_law_654 dL_law_656 rfl dL_law_657 dL_law_658 ?_
  refine rd_arg (j := 2) C hX hbl hbA hB.2.2.2 hl (by omega) hL dL_law_659 dL_law_660 dL_law_662 rfl dL_law_663 dL_law_664 ?_
  refine rd_arg (j := 3) C hX hbl hbA hB.2.2.2 hl (by omega) hL dL_law_665 dL_law_666 dL_law_668 rfl dL_law_669 dL_law_670 ?_
  refine wl_X (As := [.int (xs (i + 1)), .int (xs (i + 2)), .int (xs (i + 3))]) (rest := []) (st1 := [.int r.1]) C hK hA0 hN hB (tX11_ahead l E (aa 0) (aa 1 0) (aS 0 0) (aa 2 0) (aa 9 0) (aa 10 0) (aa 11 0) (aa 12 0) (aa 13 0) (aa 14 0) mn (aa 5) p3 ml (aa 6) nm (aa 7) now (aa 8) trial aT T (xs (i + 1)) (xs (i + 2)) (xs (i + 3)) r er) [0, 21, 22, 23, 24, 2, 3, 4, 5, 6, 7, 8, 9] (by decide) rfl (fun _ => rfl) lk_L_78 ⟨Nat.le_of_ble_eq_true rfl, Nat.le_of_ble_eq_true rfl⟩ hf0 (rc_X11 hK (hB.1 0 _ rfl)) rfl hl.1 rfl rfl (Nat.le_of_ble_eq_true rfl) dL_law_671 (fun H locs q hB => ?_)
  replace hB : WZ E A s.heap (BL E aa aT aS p0 p1 p2 (q 0) mn tape rd tk ph r.2.1 r.2.2.1 now r.2.2.2.1 im sp nt fut od crow M out (r.2.2.2.2) S) H locs := hB
  refine lv_aload_n C.1 C.2.1 dL_law_674 rfl (lv_at hl 2 rfl) ?_
  refine rd_arg (j := 1) C hX hbl hbA hB.2.2.2 hl (by omega) hL dL_law_675 dL_law_676 dL_law_678 rfl dL_law_679 dL_law_680 ?_
  refine rd_arg (j := 2) C hX hbl hbA hB.2.2.2 hl (by omega) hL dL_law_681 dL_law_682 dL_law_684 rfl dL_law_685 dL_law_686 ?_
  refine rd_arg (j := 3) C hX hbl hbA hB.2.2.2 hl (by omega) hL dL_law_687 dL_law_688 dL_law_690 rfl dL_law_691 dL_law_692 ?_
  refine wl_X (As := [.int (xs (i + 1)), .int (xs (i + 2)), .int (xs (i + 3))]) (rest := [.int r.1]) (st1 := [.int r2.1, .int r.1]) C hK hA0 hN hB (tX12_ahead l E (aa 15) M (xs (i + 1)) (xs (i + 2)) (xs (i + 3)) r2 er2) [31] (by decide) rfl (fun _ => rfl) lk_L_82 ⟨Nat.le_of_ble_eq_true rfl, Nat.le_of_ble_eq_true rfl⟩ hf0 (rc_X12 hK (hB.1 31 _ rfl)) rfl hl.1 rfl rfl (Nat.le_of_ble_eq_true rfl) dL_law_693 (fun H locs q2 hB => ?_)
  replace hB : WZ E A s.heap (BL E aa aT aS p0 p1 p2 (q 0) mn tape rd tk ph r.2.1 r.2.2.1 now r.2.2.2.1 im sp nt fut od crow r2.2 out (r.2.2.2.2) S) H locs := hB
  refine lv_icmp_eq (tgt := 1461) C.1 C.2.1 dL_law_696 (by decide) (fun _ => ?_) (fun q9 => absurd hr q9)
  exact W.widen (Nat.le_succ _) (Nat.le_add_right _ 6) (kk H locs ⟨aa, aT, aS, _, _, _, _, _, _, _, _, _, _, _, _, _, _, _, _, _, _, _, _, _, _, _, hB, hC, rfl, rfl, rfl⟩)
set_option maxHeartbeats 4000000 in
set_option maxRecDepth 20000 in
theorem cs_13 {p : Program} {l : Launch} {e : Env} {s : State} {m : MethodId} {args : Array Value} {below : List Frame} {meth : Method} {c : Code} {H : Heap} {locs : List Loc} {cells slots : Nat} {Q : State → Prop} {ls : Array Slot} {E : Ev} {A : Nat → Prop} {b L i : Nat} {xs : Nat → Int32} {x mo oo : Nat} (C : CallFix p m c cL_law 7 s args gtbl RL) (hK : Kx E s) (hA0 : ∀ q, A q → E.2.2.1 ≤ q) (hN : E.2.2.1 ≤ s.heap.size) (hf : cells + 1 ≤ room_1.cells ∧ slots + 6 ≤ room_1.slots) (hX : va_X b L xs s s.heap) (hbl : b < s.heap.size) (hbA : ¬ A b) (hl : lv_has ls 7 [(0, .ref b), (1, .ref x), (2, .ref mo), (3, .ref oo), (4, .int (nI i))]) (hi : i + 6 ≤ L) (hL : L ≤ 3072) (hI : LI E A s.heap x mo oo H locs)
    (kk : ∀ (H : Heap) (locs : List Loc), LI E A s.heap x mo oo H locs → W p l e room_1 s m args below meth c H locs (cells + 1) (slots + 6) Q (F0 m 1461 ls [])) : W p l e room_1 s m args below meth c H locs cells slots Q (F0 m 701 ls []) := by
  obtain ⟨aa, aT, aS, p0, p1, p2, p3, mn, tape, rd, tk, ph, ml, nm, now, trial, im, sp, nt, fut, od, crow, M, out, T, S, hB, hC, rfl, rfl, rfl⟩ := hI
  have hf0 : cells ≤ room_1.cells ∧ slots ≤ room_1.slots := ⟨Nat.le_of_succ_le hf.1, Nat.le_trans (Nat.le_add_right _ 6) hf.2⟩
  obtain ⟨r, er, r2, er2, hr, hC⟩ := q_flour (x := (xs (i + 1))) (ml := ml) (nm := nm) (trial := trial)  hC
  refine lv_aload_n C.1 C.2.1 dL_law_701 rfl (lv_at hl 1 rfl) ?_
  refine rd_arg (j := 1) C hX hbl hbA hB.2.2.2 hl (by omega) hL dL_law_702 dL_law_703 dL_law_705 rfl dL_law_706 dL_law_707 ?_
  refine wl_X (As := [.int (xs (i + 1))]) (rest := []) (st1 := [.int r.1]) C hK hA0 hN hB (tX11_flour l E (aa 0) (aa 1 0) (aS 0 0) (aa 2 0) (aa 9 0) (aa 10 0) (aa 11 0) (aa 12 0) (aa 13 0) (aa 14 0) mn (aa 5) p3 ml (aa 6) nm (aa 7) now (aa 8) trial aT T (xs (i + 1)) r er) [0, 21, 22, 23, 24, 2, 3, 4, 5, 6, 7, 8, 9] (by decide) rfl (fun _ => rfl) lk_L_83 ⟨Nat.le_of_ble_eq_true rfl, Nat.le_of_ble_eq_true rfl⟩ hf0 (rc_X11 hK (hB.1 0 _ rfl)) rfl hl.1 rfl rfl (Nat.le_of_ble_eq_true rfl) dL_law_708 (fun H locs q hB => ?_)
  replace hB : WZ E A s.heap (BL E aa aT aS p0 p1 p2 (q 0) mn tape rd tk ph r.2.1 r.2.2.1 now r.2.2.2.1 im sp nt fut od crow M out (r.2.2.2.2) S) H locs := hB
  refine lv_aload_n C.1 C.2.1 dL_law_711 rfl (lv_at hl 2 rfl) ?_
  refine rd_arg (j := 1) C hX hbl hbA hB.2.2.2 hl (by omega) hL dL_law_712 dL_law_713 dL_law_715 rfl dL_law_716 dL_law_717 ?_
  refine wl_X (As := [.int (xs (i + 1))]) (rest := [.int r.1]) (st1 := [.int r2.1, .int r.1]) C hK hA0 hN hB (tX12_flour l E (aa 15) M (xs (i + 1)) r2 er2) [31] (by decide) rfl (fun _ => rfl) lk_L_86 ⟨Nat.le_of_ble_eq_true rfl, Nat.le_of_ble_eq_true rfl⟩ hf0 (rc_X12 hK (hB.1 31 _ rfl)) rfl hl.1 rfl rfl (Nat.le_of_ble_eq_true rfl) dL_law_718 (fun H locs q2 hB => ?_)
  replace hB : WZ E A s.heap (BL E aa aT aS p0 p1 p2 (q 0) mn tape rd tk ph r.2.1 r.2.2.1 now r.2.2.2.1 im sp nt fut od crow r2.2 out (r.2.2.2.2) S) H locs := hB
  refine lv_icmp_eq (tgt := 1461) C.1 C.2.1 dL_law_721 (by decide) (fun _ => ?_) (fun q9 => absurd hr q9)
  exact W.widen (Nat.le_succ _) (Nat.le_add_right _ 6) (kk H locs ⟨aa, aT, aS, _, _, _, _, _, _, _, _, _, _, _, _, _, _, _, _, _, _, _, _, _, _, _, hB, hC, rfl, rfl, rfl⟩)
set_option maxHeartbeats 4000000 in
set_option maxRecDepth 20000 in
theorem cs_14 {p : Program} {l : Launch} {e : Env} {s : State} {m : MethodId} {args : Array Value} {below : List Frame} {meth : Method} {c : Code} {H : Heap} {locs : List Loc} {cells slots : Nat} {Q : State → Prop} {ls : Array Slot} {E : Ev} {A : Nat → Prop} {b L i : Nat} {xs : Nat → Int32} {x mo oo : Nat} (C : CallFix p m c cL_law 7 s args gtbl RL) (hK : Kx E s) (hA0 : ∀ q, A q → E.2.2.1 ≤ q) (hN : E.2.2.1 ≤ s.heap.size) (hf : cells + 1 ≤ room_1.cells ∧ slots + 6 ≤ room_1.slots) (hX : va_X b L xs s s.heap) (hbl : b < s.heap.size) (hbA : ¬ A b) (hl : lv_has ls 7 [(0, .ref b), (1, .ref x), (2, .ref mo), (3, .ref oo), (4, .int (nI i))]) (hi : i + 6 ≤ L) (hL : L ≤ 3072) (hI : LI E A s.heap x mo oo H locs)
    (kk : ∀ (H : Heap) (locs : List Loc), LI E A s.heap x mo oo H locs → W p l e room_1 s m args below meth c H locs (cells + 1) (slots + 6) Q (F0 m 1461 ls [])) : W p l e room_1 s m args below meth c H locs cells slots Q (F0 m 726 ls []) := by
  obtain ⟨aa, aT, aS, p0, p1, p2, p3, mn, tape, rd, tk, ph, ml, nm, now, trial, im, sp, nt, fut, od, crow, M, out, T, S, hB, hC, rfl, rfl, rfl⟩ := hI
  have hf0 : cells ≤ room_1.cells ∧ slots ≤ room_1.slots := ⟨Nat.le_of_succ_le hf.1, Nat.le_trans (Nat.le_add_right _ 6) hf.2⟩
  obtain ⟨r, er, r2, er2, hr, hC⟩ := q_bill (x := (xs (i + 1))) (ml := ml) (nm := nm) (trial := trial) (od := od)  hC
  refine lv_aload_n C.1 C.2.1 dL_law_726 rfl (lv_at hl 1 rfl) ?_
  refine rd_arg (j := 1) C hX hbl hbA hB.2.2.2 hl (by omega) hL dL_law_727 dL_law_728 dL_law_730 rfl dL_law_731 dL_law_732 ?_
  refine wl_X (As := [.int (xs (i + 1))]) (rest := []) (st1 := [.int r.1]) C hK hA0 hN hB (tX11_bill l E (aa 0) (aa 1 0) (aS 0 0) (aa 2 0) (aa 9 0) (aa 10 0) (aa 11 0) (aa 12 0) (aa 14 0) mn (aa 5) p3 ml (aa 6) nm (aa 7) now (aa 8) trial (aa 13) od aT T (xs (i + 1)) r er) [0, 21, 22, 23, 24, 29, 2, 3, 4, 5, 6, 7, 8, 9] (by decide) rfl (fun _ => rfl) lk_L_87 ⟨Nat.le_of_ble_eq_true rfl, Nat.le_of_ble_eq_true rfl⟩ hf0 (rc_X11 hK (hB.1 0 _ rfl)) rfl hl.1 rfl rfl (Nat.le_of_ble_eq_true rfl) dL_law_733 (fun H locs q hB => ?_)
  replace hB : WZ E A s.heap (BL E aa aT aS p0 p1 p2 (q 0) mn tape rd tk ph r.2.1 r.2.2.1 now r.2.2.2.1 im sp nt fut r.2.2.2.2.1 crow M out (r.2.2.2.2.2) S) H locs := hB
  refine lv_aload_n C.1 C.2.1 dL_law_736 rfl (lv_at hl 2 rfl) ?_
  refine rd_arg (j := 1) C hX hbl hbA hB.2.2.2 hl (by omega) hL dL_law_737 dL_law_738 dL_law_740 rfl dL_law_741 dL_law_742 ?_
  refine wl_X (As := [.int (xs (i + 1))]) (rest := [.int r.1]) (st1 := [.int r2.1, .int r.1]) C hK hA0 hN hB (tX12_bill l E (aa 15) M (xs (i + 1)) r2 er2) [31] (by decide) rfl (fun _ => rfl) lk_L_90 ⟨Nat.le_of_ble_eq_true rfl, Nat.le_of_ble_eq_true rfl⟩ hf0 (rc_X12 hK (hB.1 31 _ rfl)) rfl hl.1 rfl rfl (Nat.le_of_ble_eq_true rfl) dL_law_743 (fun H locs q2 hB => ?_)
  replace hB : WZ E A s.heap (BL E aa aT aS p0 p1 p2 (q 0) mn tape rd tk ph r.2.1 r.2.2.1 now r.2.2.2.1 im sp nt fut r.2.2.2.2.1 crow r2.2 out (r.2.2.2.2.2) S) H locs := hB
  refine lv_icmp_eq (tgt := 1461) C.1 C.2.1 dL_law_746 (by decide) (fun _ => ?_) (fun q9 => absurd hr q9)
  exact W.widen (Nat.le_succ _) (Nat.le_add_right _ 6) (kk H locs ⟨aa, aT, aS, _, _, _, _, _, _, _, _, _, _, _, _, _, _, _, _, _, _, _, _, _, _, _, hB, hC, rfl, rfl, rfl⟩)
set_option maxHeartbeats 4000000 in
set_option maxRecDepth 20000 in
theorem cs_15 {p : Program} {l : Launch} {e : Env} {s : State} {m : MethodId} {args : Array Value} {below : List Frame} {meth : Method} {c : Code} {H : Heap} {locs : List Loc} {cells slots : Nat} {Q : State → Prop} {ls : Array Slot} {E : Ev} {A : Nat → Prop} {b L i : Nat} {xs : Nat → Int32} {x mo oo : Nat} (C : CallFix p m c cL_law 7 s args gtbl RL) (hK : Kx E s) (hA0 : ∀ q, A q → E.2.2.1 ≤ q) (hN : E.2.2.1 ≤ s.heap.size) (hf : cells + 1 ≤ room_1.cells ∧ slots + 6 ≤ room_1.slots) (hX : va_X b L xs s s.heap) (hbl : b < s.heap.size) (hbA : ¬ A b) (hl : lv_has ls 7 [(0, .ref b), (1, .ref x), (2, .ref mo), (3, .ref oo), (4, .int (nI i))]) (hi : i + 6 ≤ L) (hL : L ≤ 3072) (hI : LI E A s.heap x mo oo H locs)
    (kk : ∀ (H : Heap) (locs : List Loc), LI E A s.heap x mo oo H locs → W p l e room_1 s m args below meth c H locs (cells + 1) (slots + 6) Q (F0 m 1461 ls [])) : W p l e room_1 s m args below meth c H locs cells slots Q (F0 m 751 ls []) := by
  obtain ⟨aa, aT, aS, p0, p1, p2, p3, mn, tape, rd, tk, ph, ml, nm, now, trial, im, sp, nt, fut, od, crow, M, out, T, S, hB, hC, rfl, rfl, rfl⟩ := hI
  have hf0 : cells ≤ room_1.cells ∧ slots ≤ room_1.slots := ⟨Nat.le_of_succ_le hf.1, Nat.le_trans (Nat.le_add_right _ 6) hf.2⟩
  obtain ⟨r, er, r2, er2, hr, hC⟩ := q_seats (x := (xs (i + 1))) (y := (xs (i + 2))) (crow := crow) (ml := ml) (nm := nm) (od := od)  hC
  refine lv_aload_n C.1 C.2.1 dL_law_751 rfl (lv_at hl 1 rfl) ?_
  refine rd_arg (j := 1) C hX hbl hbA hB.2.2.2 hl (by omega) hL dL_law_752 dL_law_753 dL_law_755 rfl dL_law_756 dL_law_757 ?_
  refine rd_arg (j := 2) C hX hbl hbA hB.2.2.2 hl (by omega) hL dL_law_758 dL_law_759 dL_law_761 rfl dL_law_762 dL_law_763 ?_
  refine wl_X (As := [.int (xs (i + 1)), .int (xs (i + 2))]) (rest := []) (st1 := [.int r.1]) C hK hA0 hN hB (tX11_seats l E (aa 0) (aa 1 0) (aS 0 0) (aa 2 0) (aa 8 0) (aa 9 0) (aa 10 0) (aa 11 0) (aa 12 0) mn (aa 14) crow (aa 5) p3 ml (aa 6) nm (aa 7) now (aa 13) od aT T (xs (i + 1)) (xs (i + 2)) r er) [0, 30, 21, 22, 23, 29, 2, 3, 4, 5, 6, 7, 8, 9] (by decide) rfl (fun _ => rfl) lk_L_91 ⟨Nat.le_of_ble_eq_true rfl, Nat.le_of_ble_eq_true rfl⟩ hf0 (rc_X11 hK (hB.1 0 _ rfl)) rfl hl.1 rfl rfl (Nat.le_of_ble_eq_true rfl) dL_law_764 (fun H locs q hB => ?_)
  replace hB : WZ E A s.heap (BL E aa aT aS p0 p1 p2 (q 0) mn tape rd tk ph r.2.2.1 r.2.2.2.1 now trial im sp nt fut r.2.2.2.2.1 r.2.1 M out (r.2.2.2.2.2) S) H locs := hB
  refine lv_aload_n C.1 C.2.1 dL_law_767 rfl (lv_at hl 2 rfl) ?_
  refine rd_arg (j := 1) C hX hbl hbA hB.2.2.2 hl (by omega) hL dL_law_768 dL_law_769 dL_law_771 rfl dL_law_772 dL_law_773 ?_
  refine rd_arg (j := 2) C hX hbl hbA hB.2.2.2 hl (by omega) hL dL_law_774 dL_law_775 dL_law_777 rfl dL_law_778 dL_law_779 ?_
  refine wl_X (As := [.int (xs (i + 1)), .int (xs (i + 2))]) (rest := [.int r.1]) (st1 := [.int r2.1, .int r.1]) C hK hA0 hN hB (tX12_seats l E (aa 15) M (xs (i + 1)) (xs (i + 2)) r2 er2) [31] (by decide) rfl (fun _ => rfl) lk_L_94 ⟨Nat.le_of_ble_eq_true rfl, Nat.le_of_ble_eq_true rfl⟩ hf0 (rc_X12 hK (hB.1 31 _ rfl)) rfl hl.1 rfl rfl (Nat.le_of_ble_eq_true rfl) dL_law_780 (fun H locs q2 hB => ?_)
  replace hB : WZ E A s.heap (BL E aa aT aS p0 p1 p2 (q 0) mn tape rd tk ph r.2.2.1 r.2.2.2.1 now trial im sp nt fut r.2.2.2.2.1 r.2.1 r2.2 out (r.2.2.2.2.2) S) H locs := hB
  refine lv_icmp_eq (tgt := 1461) C.1 C.2.1 dL_law_783 (by decide) (fun _ => ?_) (fun q9 => absurd hr q9)
  exact W.widen (Nat.le_succ _) (Nat.le_add_right _ 6) (kk H locs ⟨aa, aT, aS, _, _, _, _, _, _, _, _, _, _, _, _, _, _, _, _, _, _, _, _, _, _, _, hB, hC, rfl, rfl, rfl⟩)
set_option maxHeartbeats 4000000 in
set_option maxRecDepth 20000 in
theorem cs_16 {p : Program} {l : Launch} {e : Env} {s : State} {m : MethodId} {args : Array Value} {below : List Frame} {meth : Method} {c : Code} {H : Heap} {locs : List Loc} {cells slots : Nat} {Q : State → Prop} {ls : Array Slot} {E : Ev} {A : Nat → Prop} {b L i : Nat} {xs : Nat → Int32} {x mo oo : Nat} (C : CallFix p m c cL_law 7 s args gtbl RL) (hK : Kx E s) (hA0 : ∀ q, A q → E.2.2.1 ≤ q) (hN : E.2.2.1 ≤ s.heap.size) (hf : cells + 1 ≤ room_1.cells ∧ slots + 6 ≤ room_1.slots) (hX : va_X b L xs s s.heap) (hbl : b < s.heap.size) (hbA : ¬ A b) (hl : lv_has ls 7 [(0, .ref b), (1, .ref x), (2, .ref mo), (3, .ref oo), (4, .int (nI i))]) (hi : i + 6 ≤ L) (hL : L ≤ 3072) (hI : LI E A s.heap x mo oo H locs)
    (kk : ∀ (H : Heap) (locs : List Loc), LI E A s.heap x mo oo H locs → W p l e room_1 s m args below meth c H locs (cells + 1) (slots + 6) Q (F0 m 1461 ls [])) : W p l e room_1 s m args below meth c H locs cells slots Q (F0 m 788 ls []) := by
  obtain ⟨aa, aT, aS, p0, p1, p2, p3, mn, tape, rd, tk, ph, ml, nm, now, trial, im, sp, nt, fut, od, crow, M, out, T, S, hB, hC, rfl, rfl, rfl⟩ := hI
  have hf0 : cells ≤ room_1.cells ∧ slots ≤ room_1.slots := ⟨Nat.le_of_succ_le hf.1, Nat.le_trans (Nat.le_add_right _ 6) hf.2⟩
  obtain ⟨r, er, r2, er2, hr, hC⟩ := q_enough (x := (xs (i + 1))) (y := (xs (i + 2)))   hC
  refine lv_aload_n C.1 C.2.1 dL_law_788 rfl (lv_at hl 1 rfl) ?_
  refine rd_arg (j := 1) C hX hbl hbA hB.2.2.2 hl (by omega) hL dL_law_789 dL_law_790 dL_law_792 rfl dL_law_793 dL_law_794 ?_
  refine rd_arg (j := 2) C hX hbl hbA hB.2.2.2 hl (by omega) hL dL_law_795 dL_law_796 dL_law_798 rfl dL_law_799 dL_law_800 ?_
  refine wl_P (As := [.int (xs (i + 1)), .int (xs (i + 2))]) (rest := []) (st1 := [.int r]) C hK hA0 hN hB (tX11_enough l E (aa 0) (aa 1 0) (aS 0 0) (aa 2 0) (aa 5 0) (aa 7 0) (aa 8 0) (aa 9 0) (aa 10 0) (aa 11 0) (aa 12 0) (aa 13 0) (aa 14 0) mn aT T (xs (i + 1)) (xs (i + 2)) r er) [0, 2, 3, 4, 5, 6, 7, 8, 9] rfl lk_L_95 ⟨Nat.le_of_ble_eq_true rfl, Nat.le_of_ble_eq_true rfl⟩ hf0 (rc_X11 hK (hB.1 0 _ rfl)) rfl hl.1 rfl rfl (Nat.le_of_ble_eq_true rfl) dL_law_801 ?_
  refine lv_aload_n C.1 C.2.1 dL_law_804 rfl (lv_at hl 2 rfl) ?_
  refine rd_arg (j := 1) C hX hbl hbA hB.2.2.2 hl (by omega) hL dL_law_805 dL_law_806 dL_law_808 rfl dL_law_809 dL_law_810 ?_
  refine rd_arg (j := 2) C hX hbl hbA hB.2.2.2 hl (by omega) hL dL_law_811 dL_law_812 dL_law_814 rfl dL_law_815 dL_law_816 ?_
  refine wl_X (As := [.int (xs (i + 1)), .int (xs (i + 2))]) (rest := [.int r]) (st1 := [.int r2.1, .int r]) C hK hA0 hN hB (tX12_enough l E (aa 15) M (xs (i + 1)) (xs (i + 2)) r2 er2) [31] (by decide) rfl (fun _ => rfl) lk_L_98 ⟨Nat.le_of_ble_eq_true rfl, Nat.le_of_ble_eq_true rfl⟩ hf0 (rc_X12 hK (hB.1 31 _ rfl)) rfl hl.1 rfl rfl (Nat.le_of_ble_eq_true rfl) dL_law_817 (fun H locs q2 hB => ?_)
  replace hB : WZ E A s.heap (BL E aa aT aS p0 p1 p2 p3 mn tape rd tk ph ml nm now trial im sp nt fut od crow r2.2 out T S) H locs := hB
  refine lv_icmp_eq (tgt := 1461) C.1 C.2.1 dL_law_820 (by decide) (fun _ => ?_) (fun q9 => absurd hr q9)
  exact W.widen (Nat.le_succ _) (Nat.le_add_right _ 6) (kk H locs ⟨aa, aT, aS, _, _, _, _, _, _, _, _, _, _, _, _, _, _, _, _, _, _, _, _, _, _, _, hB, hC, rfl, rfl, rfl⟩)
set_option maxHeartbeats 4000000 in
set_option maxRecDepth 20000 in
theorem cs_17 {p : Program} {l : Launch} {e : Env} {s : State} {m : MethodId} {args : Array Value} {below : List Frame} {meth : Method} {c : Code} {H : Heap} {locs : List Loc} {cells slots : Nat} {Q : State → Prop} {ls : Array Slot} {E : Ev} {A : Nat → Prop} {b L i : Nat} {xs : Nat → Int32} {x mo oo : Nat} (C : CallFix p m c cL_law 7 s args gtbl RL) (hK : Kx E s) (hA0 : ∀ q, A q → E.2.2.1 ≤ q) (hN : E.2.2.1 ≤ s.heap.size) (hf : cells + 1 ≤ room_1.cells ∧ slots + 6 ≤ room_1.slots) (hX : va_X b L xs s s.heap) (hbl : b < s.heap.size) (hbA : ¬ A b) (hl : lv_has ls 7 [(0, .ref b), (1, .ref x), (2, .ref mo), (3, .ref oo), (4, .int (nI i))]) (hi : i + 6 ≤ L) (hL : L ≤ 3072) (hI : LI E A s.heap x mo oo H locs)
    (kk : ∀ (H : Heap) (locs : List Loc), LI E A s.heap x mo oo H locs → W p l e room_1 s m args below meth c H locs (cells + 1) (slots + 6) Q (F0 m 1461 ls [])) : W p l e room_1 s m args below meth c H locs cells slots Q (F0 m 825 ls []) := by
  obtain ⟨aa, aT, aS, p0, p1, p2, p3, mn, tape, rd, tk, ph, ml, nm, now, trial, im, sp, nt, fut, od, crow, M, out, T, S, hB, hC, rfl, rfl, rfl⟩ := hI
  have hf0 : cells ≤ room_1.cells ∧ slots ≤ room_1.slots := ⟨Nat.le_of_succ_le hf.1, Nat.le_trans (Nat.le_add_right _ 6) hf.2⟩
  obtain ⟨r, er, r2, er2, hr, hC⟩ := q_span (x := (xs (i + 1))) (ml := ml)  hC
  refine lv_aload_n C.1 C.2.1 dL_law_825 rfl (lv_at hl 1 rfl) ?_
  refine rd_arg (j := 1) C hX hbl hbA hB.2.2.2 hl (by omega) hL dL_law_826 dL_law_827 dL_law_829 rfl dL_law_830 dL_law_831 ?_
  refine wl_X (As := [.int (xs (i + 1))]) (rest := []) (st1 := [.int r.1]) C hK hA0 hN hB (tX11_span l E (aa 0) (aa 1 0) (aS 0 0) (aa 2 0) (aa 8 0) (aa 9 0) (aa 10 0) (aa 11 0) (aa 12 0) (aa 13 0) (aa 14 0) mn (aa 5) (aa 6 0) p3 ml (aa 7) now aT T (xs (i + 1)) r er) [0, 21, 23, 2, 3, 4, 5, 6, 7, 8, 9] (by decide) rfl (fun _ => rfl) lk_L_99 ⟨Nat.le_of_ble_eq_true rfl, Nat.le_of_ble_eq_true rfl⟩ hf0 (rc_X11 hK (hB.1 0 _ rfl)) rfl hl.1 rfl rfl (Nat.le_of_ble_eq_true rfl) dL_law_832 (fun H locs q hB => ?_)
  replace hB : WZ E A s.heap (BL E aa aT aS p0 p1 p2 (q 0) mn tape rd tk ph r.2 nm now trial im sp nt fut od crow M out T S) H locs := hB
  refine lv_aload_n C.1 C.2.1 dL_law_835 rfl (lv_at hl 2 rfl) ?_
  refine rd_arg (j := 1) C hX hbl hbA hB.2.2.2 hl (by omega) hL dL_law_836 dL_law_837 dL_law_839 rfl dL_law_840 dL_law_841 ?_
  refine wl_X (As := [.int (xs (i + 1))]) (rest := [.int r.1]) (st1 := [.int r2.1, .int r.1]) C hK hA0 hN hB (tX12_span l E (aa 15) M (xs (i + 1)) r2 er2) [31] (by decide) rfl (fun _ => rfl) lk_L_102 ⟨Nat.le_of_ble_eq_true rfl, Nat.le_of_ble_eq_true rfl⟩ hf0 (rc_X12 hK (hB.1 31 _ rfl)) rfl hl.1 rfl rfl (Nat.le_of_ble_eq_true rfl) dL_law_842 (fun H locs q2 hB => ?_)
  replace hB : WZ E A s.heap (BL E aa aT aS p0 p1 p2 (q 0) mn tape rd tk ph r.2 nm now trial im sp nt fut od crow r2.2 out T S) H locs := hB
  refine lv_icmp_eq (tgt := 1461) C.1 C.2.1 dL_law_845 (by decide) (fun _ => ?_) (fun q9 => absurd hr q9)
  exact W.widen (Nat.le_succ _) (Nat.le_add_right _ 6) (kk H locs ⟨aa, aT, aS, _, _, _, _, _, _, _, _, _, _, _, _, _, _, _, _, _, _, _, _, _, _, _, hB, hC, rfl, rfl, rfl⟩)
set_option maxHeartbeats 4000000 in
set_option maxRecDepth 20000 in
theorem cs_18 {p : Program} {l : Launch} {e : Env} {s : State} {m : MethodId} {args : Array Value} {below : List Frame} {meth : Method} {c : Code} {H : Heap} {locs : List Loc} {cells slots : Nat} {Q : State → Prop} {ls : Array Slot} {E : Ev} {A : Nat → Prop} {b L i : Nat} {xs : Nat → Int32} {x mo oo : Nat} (C : CallFix p m c cL_law 7 s args gtbl RL) (hK : Kx E s) (hA0 : ∀ q, A q → E.2.2.1 ≤ q) (hN : E.2.2.1 ≤ s.heap.size) (hf : cells + 1 ≤ room_1.cells ∧ slots + 6 ≤ room_1.slots) (hX : va_X b L xs s s.heap) (hbl : b < s.heap.size) (hbA : ¬ A b) (hl : lv_has ls 7 [(0, .ref b), (1, .ref x), (2, .ref mo), (3, .ref oo), (4, .int (nI i))]) (hi : i + 6 ≤ L) (hL : L ≤ 3072) (hI : LI E A s.heap x mo oo H locs)
    (kk : ∀ (H : Heap) (locs : List Loc), LI E A s.heap x mo oo H locs → W p l e room_1 s m args below meth c H locs (cells + 1) (slots + 6) Q (F0 m 1461 ls [])) : W p l e room_1 s m args below meth c H locs cells slots Q (F0 m 850 ls []) := by
  obtain ⟨aa, aT, aS, p0, p1, p2, p3, mn, tape, rd, tk, ph, ml, nm, now, trial, im, sp, nt, fut, od, crow, M, out, T, S, hB, hC, rfl, rfl, rfl⟩ := hI
  have hf0 : cells ≤ room_1.cells ∧ slots ≤ room_1.slots := ⟨Nat.le_of_succ_le hf.1, Nat.le_trans (Nat.le_add_right _ 6) hf.2⟩
  obtain ⟨r, er, r2, er2, hr, hC⟩ := q_pushFor (x := (xs (i + 1))) (y := (xs (i + 2))) (ml := ml) (nm := nm) (trial := trial)  hC
  refine lv_aload_n C.1 C.2.1 dL_law_850 rfl (lv_at hl 1 rfl) ?_
  refine rd_arg (j := 1) C hX hbl hbA hB.2.2.2 hl (by omega) hL dL_law_851 dL_law_852 dL_law_854 rfl dL_law_855 dL_law_856 ?_
  refine rd_arg (j := 2) C hX hbl hbA hB.2.2.2 hl (by omega) hL dL_law_857 dL_law_858 dL_law_860 rfl dL_law_861 dL_law_862 ?_
  refine wl_X (As := [.int (xs (i + 1)), .int (xs (i + 2))]) (rest := []) (st1 := [.int r.1]) C hK hA0 hN hB (tX11_pushFor l E (aa 0) (aa 1 0) (aS 0 0) (aa 2 0) (aa 9 0) (aa 10 0) (aa 11 0) (aa 12 0) (aa 13 0) (aa 14 0) mn (aa 5) p3 ml (aa 6) nm (aa 7) now (aa 8) trial aT T (xs (i + 1)) (xs (i + 2)) r er) [0, 21, 22, 23, 24, 2, 3, 4, 5, 6, 7, 8, 9] (by decide) rfl (fun _ => rfl) lk_L_103 ⟨Nat.le_of_ble_eq_true rfl, Nat.le_of_ble_eq_true rfl⟩ hf0 (rc_X11 hK (hB.1 0 _ rfl)) rfl hl.1 rfl rfl (Nat.le_of_ble_eq_true rfl) dL_law_863 (fun H locs q hB => ?_)
  replace hB : WZ E A s.heap (BL E aa aT aS p0 p1 p2 (q 0) mn tape rd tk ph r.2.1 r.2.2.1 now r.2.2.2.1 im sp nt fut od crow M out (r.2.2.2.2) S) H locs := hB
  refine lv_aload_n C.1 C.2.1 dL_law_866 rfl (lv_at hl 2 rfl) ?_
  refine rd_arg (j := 1) C hX hbl hbA hB.2.2.2 hl (by omega) hL dL_law_867 dL_law_868 dL_law_870 rfl dL_law_871 dL_law_872 ?_
  refine rd_arg (j := 2) C hX hbl hbA hB.2.2.2 hl (by omega) hL dL_law_873 dL_law_874 dL_law_876 rfl dL_law_877 dL_law_878 ?_
  refine wl_X (As := [.int (xs (i + 1)), .int (xs (i + 2))]) (rest := [.int r.1]) (st1 := [.int r2.1, .int r.1]) C hK hA0 hN hB (tX12_pushFor l E (aa 15) M (xs (i + 1)) (xs (i + 2)) r2 er2) [31] (by decide) rfl (fun _ => rfl) lk_L_106 ⟨Nat.le_of_ble_eq_true rfl, Nat.le_of_ble_eq_true rfl⟩ hf0 (rc_X12 hK (hB.1 31 _ rfl)) rfl hl.1 rfl rfl (Nat.le_of_ble_eq_true rfl) dL_law_879 (fun H locs q2 hB => ?_)
  replace hB : WZ E A s.heap (BL E aa aT aS p0 p1 p2 (q 0) mn tape rd tk ph r.2.1 r.2.2.1 now r.2.2.2.1 im sp nt fut od crow r2.2 out (r.2.2.2.2) S) H locs := hB
  refine lv_icmp_eq (tgt := 1461) C.1 C.2.1 dL_law_882 (by decide) (fun _ => ?_) (fun q9 => absurd hr q9)
  exact W.widen (Nat.le_succ _) (Nat.le_add_right _ 6) (kk H locs ⟨aa, aT, aS, _, _, _, _, _, _, _, _, _, _, _, _, _, _, _, _, _, _, _, _, _, _, _, hB, hC, rfl, rfl, rfl⟩)
set_option maxHeartbeats 4000000 in
set_option maxRecDepth 20000 in
theorem cs_19 {p : Program} {l : Launch} {e : Env} {s : State} {m : MethodId} {args : Array Value} {below : List Frame} {meth : Method} {c : Code} {H : Heap} {locs : List Loc} {cells slots : Nat} {Q : State → Prop} {ls : Array Slot} {E : Ev} {A : Nat → Prop} {b L i : Nat} {xs : Nat → Int32} {x mo oo : Nat} (C : CallFix p m c cL_law 7 s args gtbl RL) (hK : Kx E s) (hA0 : ∀ q, A q → E.2.2.1 ≤ q) (hN : E.2.2.1 ≤ s.heap.size) (hf : cells + 1 ≤ room_1.cells ∧ slots + 6 ≤ room_1.slots) (hX : va_X b L xs s s.heap) (hbl : b < s.heap.size) (hbA : ¬ A b) (hl : lv_has ls 7 [(0, .ref b), (1, .ref x), (2, .ref mo), (3, .ref oo), (4, .int (nI i))]) (hi : i + 6 ≤ L) (hL : L ≤ 3072) (hI : LI E A s.heap x mo oo H locs)
    (kk : ∀ (H : Heap) (locs : List Loc), LI E A s.heap x mo oo H locs → W p l e room_1 s m args below meth c H locs (cells + 1) (slots + 6) Q (F0 m 1461 ls [])) : W p l e room_1 s m args below meth c H locs cells slots Q (F0 m 887 ls []) := by
  obtain ⟨aa, aT, aS, p0, p1, p2, p3, mn, tape, rd, tk, ph, ml, nm, now, trial, im, sp, nt, fut, od, crow, M, out, T, S, hB, hC, rfl, rfl, rfl⟩ := hI
  have hf0 : cells ≤ room_1.cells ∧ slots ≤ room_1.slots := ⟨Nat.le_of_succ_le hf.1, Nat.le_trans (Nat.le_add_right _ 6) hf.2⟩
  obtain ⟨r, er, r2, er2, hr, hC⟩ := q_silence (x := (xs (i + 1))) (ml := ml) (nm := nm) (trial := trial)  hC
  refine lv_aload_n C.1 C.2.1 dL_law_887 rfl (lv_at hl 1 rfl) ?_
  refine rd_arg (j := 1) C hX hbl hbA hB.2.2.2 hl (by omega) hL dL_law_888 dL_law_889 dL_law_891 rfl dL_law_892 dL_law_893 ?_
  refine wl_X (As := [.int (xs (i + 1))]) (rest := []) (st1 := [.int r.1]) C hK hA0 hN hB (tX11_silence l E (aa 0) (aa 1 0) (aS 0 0) (aa 2 0) (aa 9 0) (aa 10 0) (aa 11 0) (aa 12 0) (aa 13 0) (aa 14 0) mn (aa 5) p3 ml (aa 6) nm (aa 7) now (aa 8) trial aT T (xs (i + 1)) r er) [0, 21, 22, 23, 24, 2, 3, 4, 5, 6, 7, 8, 9] (by decide) rfl (fun _ => rfl) lk_L_107 ⟨Nat.le_of_ble_eq_true rfl, Nat.le_of_ble_eq_true rfl⟩ hf0 (rc_X11 hK (hB.1 0 _ rfl)) rfl hl.1 rfl rfl (Nat.le_of_ble_eq_true rfl) dL_law_894 (fun H locs q hB => ?_)
  replace hB : WZ E A s.heap (BL E aa aT aS p0 p1 p2 (q 0) mn tape rd tk ph r.2.1 r.2.2.1 now r.2.2.2.1 im sp nt fut od crow M out (r.2.2.2.2) S) H locs := hB
  refine lv_aload_n C.1 C.2.1 dL_law_897 rfl (lv_at hl 2 rfl) ?_
  refine rd_arg (j := 1) C hX hbl hbA hB.2.2.2 hl (by omega) hL dL_law_898 dL_law_899 dL_law_901 rfl dL_law_902 dL_law_903 ?_
  refine wl_X (As := [.int (xs (i + 1))]) (rest := [.int r.1]) (st1 := [.int r2.1, .int r.1]) C hK hA0 hN hB (tX12_silence l E (aa 15) M (xs (i + 1)) r2 er2) [31] (by decide) rfl (fun _ => rfl) lk_L_110 ⟨Nat.le_of_ble_eq_true rfl, Nat.le_of_ble_eq_true rfl⟩ hf0 (rc_X12 hK (hB.1 31 _ rfl)) rfl hl.1 rfl rfl (Nat.le_of_ble_eq_true rfl) dL_law_904 (fun H locs q2 hB => ?_)
  replace hB : WZ E A s.heap (BL E aa aT aS p0 p1 p2 (q 0) mn tape rd tk ph r.2.1 r.2.2.1 now r.2.2.2.1 im sp nt fut od crow r2.2 out (r.2.2.2.2) S) H locs := hB
  refine lv_icmp_eq (tgt := 1461) C.1 C.2.1 dL_law_907 (by decide) (fun _ => ?_) (fun q9 => absurd hr q9)
  exact W.widen (Nat.le_succ _) (Nat.le_add_right _ 6) (kk H locs ⟨aa, aT, aS, _, _, _, _, _, _, _, _, _, _, _, _, _, _, _, _, _, _, _, _, _, _, _, hB, hC, rfl, rfl, rfl⟩)
