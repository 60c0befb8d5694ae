set_option maxHeartbeats 4000000 in
set_option maxRecDepth 20000 in
theorem tX12_enough (l : Launch) (E : Ev) (a_M : Nat → Nat) (u_M : St) (x_1 : Int32) (x_2 : Int32) (res : Int32 × St) (hf : fX12_enough u_M x_1 x_2 = some res) : MX l E yX12_enough cX12_enough 7 (some .int) (rmm 2 43) [wModel E a_M u_M] (fun q => [wModel E a_M res.2]) [.ref (a_M 0), .int x_1, .int x_2] (some (.int res.1)) := by
  unfold fX12_enough at hf
  refine MX.ofI rfl (by decide) (Nat.le_of_ble_eq_true rfl) ?_
  intro p e R s m args below meth c ls Q ad H hRf hRl C hB hD hK hN hl hQ
  generalize hlocs : ([] : List Loc) = locs at hB ⊢
  clear hlocs
  have hx := C.1
  have hb := C.2.1
  have hl : lv_has ls 7 [(0, .ref (a_M 0)), (1, .int x_1), (2, .int x_2)] := hl
  refine lv_aload_n hx hb dX12_enough_0 rfl (lv_at hl 0 rfl) ?_
  refine lv_iconst (v := 0) hx hb dX12_enough_1 (by decide) ?_
  refine pf_X12_X12_thrown C hK hB hD 0 rfl dX12_enough_2 (fun H locs u1 eu1 hB => ?_)
  have hf := ox_lt eu1 hf
  have hB : WB E ad s.heap [wModel E a_M u1] H locs := hB
  refine lv_aload_n hx hb dX12_enough_5 rfl (lv_at hl 0 rfl) ?_
  refine lv_iload_n hx hb dX12_enough_6 rfl (lv_at hl 1 rfl) ?_
  refine cxVP (As := [.int x_1]) (rest := []) (st1 := [.int (fX12_isAct u1 x_1)]) C hK (tX12_isAct l E a_M u1 x_1 (fX12_isAct u1 x_1) rfl) lk_X12_485 ⟨rfl, rfl⟩ (by rw [hRf, hRl]; decide) ⟨Nat.zero_le _, Nat.zero_le _⟩ (PB.sub hB.1 [0] rfl) (hB.old hD hN) (Nat.le_trans hN hB.2.2.1) (rc_X12 hK (hB.1 0 _ rfl)) rfl hl.1 rfl rfl (Nat.le_of_ble_eq_true rfl) dX12_enough_7 ?_
  refine lv_if_eq (tgt := 23) hx hb dX12_enough_10 (by decide) (fun c2 => ?_) (fun c2 => ?_)
  · have hf := (if_pos c2).symm.trans hf
    refine lv_iconst (v := (-1)) hx hb dX12_enough_23 (by decide) ?_
    have hf := Option.some.inj hf
    subst hf
    exact hQ _ _ H locs (fun _ => 0) hB dX12_enough_24
  · have hf := (if_neg c2).symm.trans hf
    refine lv_iload_n hx hb dX12_enough_13 rfl (lv_at hl 2 rfl) ?_
    refine lv_iconst (v := 1) hx hb dX12_enough_14 (by decide) ?_
    refine lv_bipush (v := 99) hx hb dX12_enough_15 (by decide) ?_
    refine cxSP (As := [.int x_2, .int (1 : Int32), .int (99 : Int32)]) (rest := []) (st1 := [.int (fX12_isIn x_2 (1 : Int32) (99 : Int32))]) C hK (tX12_isIn l E x_2 (1 : Int32) (99 : Int32) (fX12_isIn x_2 (1 : Int32) (99 : Int32)) rfl) lk_X12_202 ⟨rfl, rfl⟩ (by rw [hRf, hRl]; decide) ⟨Nat.zero_le _, Nat.zero_le _⟩ (PB.sub hB.1 [] rfl) (hB.old hD hN) (Nat.le_trans hN hB.2.2.1) rfl hl.1 rfl rfl (Nat.le_of_ble_eq_true rfl) dX12_enough_17 ?_
    refine lv_if_ne (tgt := 25) hx hb dX12_enough_20 (by decide) (fun c3 => ?_) (fun c3 => ?_)
    · have hf := (if_neg c3).symm.trans hf
      refine lv_aload_n hx hb dX12_enough_25 rfl (lv_at hl 0 rfl) ?_
      obtain ⟨r4, er4, hf⟩ := ox_ex hf
      refine cxVX (bs1 := (fun q => [wModel E a_M r4])) (As := []) (rest := []) (st1 := []) C hK (tX12_plainTried l E a_M u1 r4 er4.symm) lk_X12_365 (by rw [hRf, hRl]; decide) ⟨Nat.zero_le _, Nat.zero_le _⟩ hB hD hN [0] (by decide) rfl (fun _ => rfl) (fun _ => rfl) (rc_X12 hK (hB.1 0 _ rfl)) rfl hl.1 rfl rfl (Nat.le_of_ble_eq_true rfl) dX12_enough_26 (fun H locs q5 hB => ?_)
      have hB : WB E ad s.heap [wModel E a_M r4] H locs := hB
      refine lv_bipush (v := (-2)) hx hb dX12_enough_29 (by decide) ?_
      refine lv_istore_n (lv' := [(3, .int (-2 : Int32)), (0, .ref (a_M 0)), (1, .int x_1), (2, .int x_2)]) hx hb dX12_enough_31 rfl hl (by decide) rfl (fun ls hl => ?_)
      refine lv_iconst (v := 0) hx hb dX12_enough_32 (by decide) ?_
      refine lv_istore (lv' := [(4, .int (0 : Int32)), (3, .int (-2 : Int32)), (0, .ref (a_M 0)), (1, .int x_1), (2, .int x_2)]) hx hb dX12_enough_33 hl (by decide) rfl (fun ls hl => ?_)
      obtain ⟨X1, hX1, hf⟩ := ox_bind hf
      have hexit1 : ∀ y29, y29 = X1 → ∀ (ls : Array Slot) (H : Heap) (locs : List Loc), lv_has ls 7 [(3, .int y29)] → WB E ad s.heap [wModel E a_M r4] H locs → W p l e R s m args below meth c H locs 0 0 Q (F0 m 124 ls []) := by
        intro y29 hy ls H locs hl hB
        subst hy
        refine lv_iload_n hx hb dX12_enough_124 rfl (lv_at hl 0 rfl) ?_
        have hf := Option.some.inj hf
        subst hf
        exact hQ _ _ H locs (fun _ => 0) hB dX12_enough_125
      have hloop1 : ∀ (nf : Nat) (x6 : Int32) (x7 : Int32) (ls : Array Slot) (H : Heap) (locs : List Loc), lv_has ls 7 [(0, .ref (a_M 0)), (1, .int x_1), (2, .int x_2), (3, .int x6), (4, .int x7)] → WB E ad s.heap [wModel E a_M r4] H locs → fX12_enough_L1 x_1 x_2 r4 nf x6 x7 = some X1 → W p l e R s m args below meth c H locs 0 0 Q (F0 m 35 ls []) := by
        intro nf
        induction nf with
        | zero =>
          intro x6 x7 ls H locs hl hB hf
          simp [fX12_enough_L1] at hf
        | succ nf ih =>
          intro x6 x7 ls H locs hl hB hf
          rw [fX12_enough_L1] at hf
          refine lv_iload hx hb dX12_enough_35 (lv_at hl 4 rfl) ?_
          refine lv_iconst (v := 1) hx hb dX12_enough_37 (by decide) ?_
          refine lv_aload_n hx hb dX12_enough_38 rfl (lv_at hl 0 rfl) ?_
          refine gf_X12_X12_guests C hK (hB.1 0 _ rfl) dX12_enough_39 ?_
          refine lv_ishl hx hb dX12_enough_42 ?_
          refine lv_icmp_ge (tgt := 124) hx hb dX12_enough_43 (by decide) (fun c8 => ?_) (fun c8 => ?_)
          · have hf := (if_pos c8).symm.trans hf
            exact hexit1 _ (Option.some.inj hf) ls H locs (lv_sub hl [3] rfl) hB
          · have hf := (if_neg c8).symm.trans hf
            refine lv_iconst (v := 0) hx hb dX12_enough_46 (by decide) ?_
            refine lv_istore (lv' := [(5, .int (0 : Int32)), (0, .ref (a_M 0)), (1, .int x_1), (2, .int x_2), (3, .int x6), (4, .int x7)]) hx hb dX12_enough_47 hl (by decide) rfl (fun ls hl => ?_)
            refine lv_iconst (v := 0) hx hb dX12_enough_49 (by decide) ?_
            refine lv_istore (lv' := [(6, .int (0 : Int32)), (5, .int (0 : Int32)), (0, .ref (a_M 0)), (1, .int x_1), (2, .int x_2), (3, .int x6), (4, .int x7)]) hx hb dX12_enough_50 hl (by decide) rfl (fun ls hl => ?_)
            obtain ⟨X2, hX2, hf⟩ := ox_bind hf
            have hexit2 : ∀ y18, y18 = X2 → ∀ (ls : Array Slot) (H : Heap) (locs : List Loc), lv_has ls 7 [(0, .ref (a_M 0)), (1, .int x_1), (2, .int x_2), (3, .int x6), (4, .int x7), (5, .int y18)] → WB E ad s.heap [wModel E a_M r4] H locs → W p l e R s m args below meth c H locs 0 0 Q (F0 m 93 ls []) := by
              intro y18 hy ls H locs hl hB
              subst hy
              refine lv_iload hx hb dX12_enough_93 (lv_at hl 5 rfl) ?_
              refine lv_iload_n hx hb dX12_enough_95 rfl (lv_at hl 2 rfl) ?_
              obtain ⟨j20, ej20, hf⟩ := ox_ex hf
              have hj20 : ∀ (x19 : Int32) (ls : Array Slot) (H : Heap) (locs : List Loc), lv_has ls 7 [(0, .ref (a_M 0)), (1, .int x_1), (2, .int x_2), (3, .int x19), (4, .int x7)] → WB E ad s.heap [wModel E a_M r4] H locs → j20 x19 = some X1 → W p l e R s m args below meth c H locs 0 0 Q (F0 m 118 ls []) := by
                intro x19 ls H locs hl hB hf
                have hf := ox_a1 ej20 hf
                obtain ⟨x21, ex21⟩ : ∃ z : Int32, z = (x7 + 1) := ⟨_, rfl⟩
                have hf := ox_lt ex21 hf
                refine lv_iinc (v := x21) (lv' := [(4, .int x21), (0, .ref (a_M 0)), (1, .int x_1), (2, .int x_2), (3, .int x19)]) hx hb dX12_enough_118 hl (k := 4) rfl (by rw [ex21]; rfl) (by decide) rfl (fun ls hl => ?_)
                refine lv_goto (tgt := 35) hx hb dX12_enough_121 (by decide) ?_
                exact ih _ _ ls H locs (lv_sub hl [1, 2, 3, 4, 0] rfl) hB hf
              refine lv_icmp_lt (tgt := 118) hx hb dX12_enough_96 (by decide) (fun c22 => ?_) (fun c22 => ?_)
              · have hf := (if_pos c22).symm.trans hf
                exact hj20 _ ls H locs (lv_sub hl [0, 1, 2, 3, 4] rfl) hB hf
              · have hf := (if_neg c22).symm.trans hf
                refine lv_iload_n hx hb dX12_enough_99 rfl (lv_at hl 3 rfl) ?_
                obtain ⟨j23, ej23, hf⟩ := ox_ex hf
                have hj23 : ∀ (ls : Array Slot) (H : Heap) (locs : List Loc), lv_has ls 7 [(0, .ref (a_M 0)), (1, .int x_1), (2, .int x_2), (4, .int x7)] → WB E ad s.heap [wModel E a_M r4] H locs → j23 = some X1 → W p l e R s m args below meth c H locs 0 0 Q (F0 m 115 ls []) := by
                  intro ls H locs hl hB hf
                  have hf := ox_a0 ej23 hf
                  refine lv_iload hx hb dX12_enough_115 (lv_at hl 3 rfl) ?_
                  refine lv_istore_n (lv' := [(3, .int x7), (0, .ref (a_M 0)), (1, .int x_1), (2, .int x_2), (4, .int x7)]) hx hb dX12_enough_117 rfl hl (by decide) rfl (fun ls hl => ?_)
                  exact hj20 _ ls H locs (lv_sub hl [1, 2, 3, 0, 4] rfl) hB hf
                refine lv_if_lt (tgt := 115) hx hb dX12_enough_100 (by decide) (fun c24 => ?_) (fun c24 => ?_)
                · have hf := (if_pos c24).symm.trans hf
                  exact hj23 ls H locs (lv_sub hl [0, 1, 2, 4] rfl) hB hf
                · have hf := (if_neg c24).symm.trans hf
                  refine lv_iload hx hb dX12_enough_103 (lv_at hl 4 rfl) ?_
                  obtain ⟨r25, hr25, hf⟩ := ox_bind hf
                  refine cxSP (As := [.int x7]) (rest := []) (st1 := [.int r25]) C hK (tX12_manyOf l E x7 r25 hr25) lk_X12_521 ⟨rfl, rfl⟩ (by rw [hRf, hRl]; decide) ⟨Nat.zero_le _, Nat.zero_le _⟩ (PB.sub hB.1 [] rfl) (hB.old hD hN) (Nat.le_trans hN hB.2.2.1) rfl hl.1 rfl rfl (Nat.le_of_ble_eq_true rfl) dX12_enough_105 ?_
                  refine lv_iload_n hx hb dX12_enough_108 rfl (lv_at hl 3 rfl) ?_
                  obtain ⟨r26, hr26, hf⟩ := ox_bind hf
                  refine cxSP (As := [.int x6]) (rest := [.int r25]) (st1 := [.int r26, .int r25]) C hK (tX12_manyOf l E x6 r26 hr26) lk_X12_521 ⟨rfl, rfl⟩ (by rw [hRf, hRl]; decide) ⟨Nat.zero_le _, Nat.zero_le _⟩ (PB.sub hB.1 [] rfl) (hB.old hD hN) (Nat.le_trans hN hB.2.2.1) rfl hl.1 rfl rfl (Nat.le_of_ble_eq_true rfl) dX12_enough_109 ?_
                  refine lv_icmp_ge (tgt := 118) hx hb dX12_enough_112 (by decide) (fun c27 => ?_) (fun c27 => ?_)
                  · have hf := (if_pos c27).symm.trans hf
                    exact hj20 _ ls H locs (lv_sub hl [0, 1, 2, 3, 4] rfl) hB hf
                  · have hf := (if_neg c27).symm.trans hf
                    exact hj23 ls H locs (lv_sub hl [0, 1, 2, 4] rfl) hB hf
            have hloop2 : ∀ (nf : Nat) (x9 : Int32) (x10 : Int32) (ls : Array Slot) (H : Heap) (locs : List Loc), lv_has ls 7 [(0, .ref (a_M 0)), (1, .int x_1), (2, .int x_2), (3, .int x6), (4, .int x7), (5, .int x9), (6, .int x10)] → WB E ad s.heap [wModel E a_M r4] H locs → fX12_enough_L2 x_1 r4 x7 nf x9 x10 = some X2 → W p l e R s m args below meth c H locs 0 0 Q (F0 m 52 ls []) := by
              intro nf
              induction nf with
              | zero =>
                intro x9 x10 ls H locs hl hB hf
                simp [fX12_enough_L2] at hf
              | succ nf ih =>
                intro x9 x10 ls H locs hl hB hf
                rw [fX12_enough_L2] at hf
                refine lv_iload hx hb dX12_enough_52 (lv_at hl 6 rfl) ?_
                refine lv_aload_n hx hb dX12_enough_54 rfl (lv_at hl 0 rfl) ?_
                refine gf_X12_X12_guests C hK (hB.1 0 _ rfl) dX12_enough_55 ?_
                refine lv_icmp_ge (tgt := 93) hx hb dX12_enough_58 (by decide) (fun c11 => ?_) (fun c11 => ?_)
                · have hf := (if_pos c11).symm.trans hf
                  exact hexit2 _ (Option.some.inj hf) ls H locs (lv_sub hl [0, 1, 2, 3, 4, 5] rfl) hB
                · have hf := (if_neg c11).symm.trans hf
                  refine lv_iload hx hb dX12_enough_61 (lv_at hl 5 rfl) ?_
                  refine lv_iload hx hb dX12_enough_63 (lv_at hl 4 rfl) ?_
                  refine lv_iload hx hb dX12_enough_65 (lv_at hl 6 rfl) ?_
                  refine cxSP (As := [.int x7, .int x10]) (rest := [.int x9]) (st1 := [.int (fX12_isOf x7 x10), .int x9]) C hK (tX12_isOf l E x7 x10 (fX12_isOf x7 x10) rfl) lk_X12_503 ⟨rfl, rfl⟩ (by rw [hRf, hRl]; decide) ⟨Nat.zero_le _, Nat.zero_le _⟩ (PB.sub hB.1 [] rfl) (hB.old hD hN) (Nat.le_trans hN hB.2.2.1) rfl hl.1 rfl rfl (Nat.le_of_ble_eq_true rfl) dX12_enough_67 ?_
                  obtain ⟨j13, ej13, hf⟩ := ox_ex hf
                  have hj13 : ∀ (x12 : Int32) (ls : Array Slot) (H : Heap) (locs : List Loc), lv_has ls 7 [(0, .ref (a_M 0)), (1, .int x_1), (2, .int x_2), (3, .int x6), (4, .int x7), (6, .int x10)] → WB E ad s.heap [wModel E a_M r4] H locs → j13 x12 = some X2 → W p l e R s m args below meth c H locs 0 0 Q (F0 m 84 ls [.int x12, .int x9]) := by
                    intro x12 ls H locs hl hB hf
                    have hf := ox_a1 ej13 hf
                    refine lv_iadd hx hb dX12_enough_84 ?_
                    refine lv_topi (fun x14 ex14 => ?_)
                    have hf := ox_lt ex14 hf
                    refine lv_istore (lv' := [(5, .int x14), (0, .ref (a_M 0)), (1, .int x_1), (2, .int x_2), (3, .int x6), (4, .int x7), (6, .int x10)]) hx hb dX12_enough_85 hl (by decide) rfl (fun ls hl => ?_)
                    obtain ⟨x15, ex15⟩ : ∃ z : Int32, z = (x10 + 1) := ⟨_, rfl⟩
                    have hf := ox_lt ex15 hf
                    refine lv_iinc (v := x15) (lv' := [(6, .int x15), (5, .int x14), (0, .ref (a_M 0)), (1, .int x_1), (2, .int x_2), (3, .int x6), (4, .int x7)]) hx hb dX12_enough_87 hl (k := 6) rfl (by rw [ex15]; rfl) (by decide) rfl (fun ls hl => ?_)
                    refine lv_goto (tgt := 52) hx hb dX12_enough_90 (by decide) ?_
                    exact ih _ _ ls H locs (lv_sub hl [2, 3, 4, 5, 6, 1, 0] rfl) hB hf
                  refine lv_if_eq (tgt := 83) hx hb dX12_enough_70 (by decide) (fun c16 => ?_) (fun c16 => ?_)
                  · have hf := (if_pos c16).symm.trans hf
                    refine lv_iconst (v := 0) hx hb dX12_enough_83 (by decide) ?_
                    exact hj13 _ ls H locs (lv_sub hl [0, 1, 2, 3, 4, 6] rfl) hB hf
                  · have hf := (if_neg c16).symm.trans hf
                    refine lv_aload_n hx hb dX12_enough_73 rfl (lv_at hl 0 rfl) ?_
                    refine lv_iload hx hb dX12_enough_74 (lv_at hl 6 rfl) ?_
                    refine lv_iload_n hx hb dX12_enough_76 rfl (lv_at hl 1 rfl) ?_
                    obtain ⟨r17, hr17, hf⟩ := ox_bind hf
                    refine cxVP (As := [.int x10, .int x_1]) (rest := [.int x9]) (st1 := [.int r17, .int x9]) C hK (tX12_without l E a_M r4 x10 x_1 r17 hr17) lk_X12_427 ⟨rfl, rfl⟩ (by rw [hRf, hRl]; decide) ⟨Nat.zero_le _, Nat.zero_le _⟩ (PB.sub hB.1 [0] rfl) (hB.old hD hN) (Nat.le_trans hN hB.2.2.1) (rc_X12 hK (hB.1 0 _ rfl)) rfl hl.1 rfl rfl (Nat.le_of_ble_eq_true rfl) dX12_enough_77 ?_
                    refine lv_goto (tgt := 84) hx hb dX12_enough_80 (by decide) ?_
                    exact hj13 _ ls H locs (lv_sub hl [0, 1, 2, 3, 4, 6] rfl) hB hf
            exact hloop2 fuel _ _ ls H locs (lv_sub hl [2, 3, 4, 5, 6, 1, 0] rfl) hB hX2
      exact hloop1 fuel _ _ ls H locs (lv_sub hl [2, 3, 4, 1, 0] rfl) hB hX1
    · have hf := (if_pos c3).symm.trans hf
      refine lv_iconst (v := (-1)) hx hb dX12_enough_23 (by decide) ?_
      have hf := Option.some.inj hf
      subst hf
      exact hQ _ _ H locs (fun _ => 0) hB dX12_enough_24
set_option maxHeartbeats 4000000 in
set_option maxRecDepth 20000 in
theorem tX12_span (l : Launch) (E : Ev) (a_M : Nat → Nat) (u_M : St) (x_1 : Int32) (res : Int32 × St) (hf : fX12_span u_M x_1 = some res) : MX l E yX12_span cX12_span 4 (some .int) (rmm 2 45) [wModel E a_M u_M] (fun q => [wModel E a_M res.2]) [.ref (a_M 0), .int x_1] (some (.int res.1)) := by
  unfold fX12_span at hf
  refine MX.ofI rfl (by decide) (Nat.le_of_ble_eq_true rfl) ?_
  intro p e R s m args below meth c ls Q ad H hRf hRl C hB hD hK hN hl hQ
  generalize hlocs : ([] : List Loc) = locs at hB ⊢
  clear hlocs
  have hx := C.1
  have hb := C.2.1
  have hl : lv_has ls 4 [(0, .ref (a_M 0)), (1, .int x_1)] := hl
  refine lv_aload_n hx hb dX12_span_0 rfl (lv_at hl 0 rfl) ?_
  refine lv_iconst (v := 0) hx hb dX12_span_1 (by decide) ?_
  refine pf_X12_X12_thrown C hK hB hD 0 rfl dX12_span_2 (fun H locs u1 eu1 hB => ?_)
  have hf := ox_lt eu1 hf
  have hB : WB E ad s.heap [wModel E a_M u1] H locs := hB
  refine lv_aload_n hx hb dX12_span_5 rfl (lv_at hl 0 rfl) ?_
  refine lv_iload_n hx hb dX12_span_6 rfl (lv_at hl 1 rfl) ?_
  refine cxVP (As := [.int x_1]) (rest := []) (st1 := [.int (fX12_isGrain u1 x_1)]) C hK (tX12_isGrain l E a_M u1 x_1 (fX12_isGrain u1 x_1) rfl) lk_X12_488 ⟨rfl, rfl⟩ (by rw [hRf, hRl]; decide) ⟨Nat.zero_le _, Nat.zero_le _⟩ (PB.sub hB.1 [0] rfl) (hB.old hD hN) (Nat.le_trans hN hB.2.2.1) (rc_X12 hK (hB.1 0 _ rfl)) rfl hl.1 rfl rfl (Nat.le_of_ble_eq_true rfl) dX12_span_7 ?_
  refine lv_if_ne (tgt := 15) hx hb dX12_span_10 (by decide) (fun c2 => ?_) (fun c2 => ?_)
  · have hf := (if_neg c2).symm.trans hf
    refine lv_iconst (v := 0) hx hb dX12_span_15 (by decide) ?_
    refine lv_istore_n (lv' := [(2, .int (0 : Int32)), (0, .ref (a_M 0)), (1, .int x_1)]) hx hb dX12_span_16 rfl hl (by decide) rfl (fun ls hl => ?_)
    refine lv_iconst (v := 1) hx hb dX12_span_17 (by decide) ?_
    refine lv_istore_n (lv' := [(3, .int (1 : Int32)), (2, .int (0 : Int32)), (0, .ref (a_M 0)), (1, .int x_1)]) hx hb dX12_span_18 rfl hl (by decide) rfl (fun ls hl => ?_)
    obtain ⟨X1, hX1, hf⟩ := ox_bind hf
    have hexit1 : ∀ y11, y11 = X1 → ∀ (ls : Array Slot) (H : Heap) (locs : List Loc), lv_has ls 4 [(2, .int y11)] → WB E ad s.heap [wModel E a_M u1] H locs → W p l e R s m args below meth c H locs 0 0 Q (F0 m 49 ls []) := by
      intro y11 hy ls H locs hl hB
      subst hy
      refine lv_iload_n hx hb dX12_span_49 rfl (lv_at hl 0 rfl) ?_
      have hf := Option.some.inj hf
      subst hf
      exact hQ _ _ H locs (fun _ => 0) hB dX12_span_50
    have hloop1 : ∀ (nf : Nat) (x3 : Int32) (x4 : Int32) (ls : Array Slot) (H : Heap) (locs : List Loc), lv_has ls 4 [(0, .ref (a_M 0)), (1, .int x_1), (2, .int x3), (3, .int x4)] → WB E ad s.heap [wModel E a_M u1] H locs → fX12_span_L1 x_1 u1 nf x3 x4 = some X1 → W p l e R s m args below meth c H locs 0 0 Q (F0 m 19 ls []) := by
      intro nf
      induction nf with
      | zero =>
        intro x3 x4 ls H locs hl hB hf
        simp [fX12_span_L1] at hf
      | succ nf ih =>
        intro x3 x4 ls H locs hl hB hf
        rw [fX12_span_L1] at hf
        refine lv_iload_n hx hb dX12_span_19 rfl (lv_at hl 3 rfl) ?_
        refine lv_bipush (v := 100) hx hb dX12_span_20 (by decide) ?_
        refine lv_icmp_ge (tgt := 49) hx hb dX12_span_22 (by decide) (fun c5 => ?_) (fun c5 => ?_)
        · have hf := (if_pos c5).symm.trans hf
          exact hexit1 _ (Option.some.inj hf) ls H locs (lv_sub hl [2] rfl) hB
        · have hf := (if_neg c5).symm.trans hf
          refine lv_iload_n hx hb dX12_span_25 rfl (lv_at hl 2 rfl) ?_
          refine lv_aload_n hx hb dX12_span_26 rfl (lv_at hl 0 rfl) ?_
          refine lv_iconst (v := 0) hx hb dX12_span_27 (by decide) ?_
          refine lv_iload_n hx hb dX12_span_28 rfl (lv_at hl 3 rfl) ?_
          obtain ⟨r6, hr6, hf⟩ := ox_bind hf
          refine cxVP (As := [.int (0 : Int32), .int x4]) (rest := [.int x3]) (st1 := [.int r6, .int x3]) C hK (tX12_grainAt l E a_M u1 (0 : Int32) x4 r6 hr6) lk_X12_451 ⟨rfl, rfl⟩ (by rw [hRf, hRl]; decide) ⟨Nat.zero_le _, Nat.zero_le _⟩ (PB.sub hB.1 [0] rfl) (hB.old hD hN) (Nat.le_trans hN hB.2.2.1) (rc_X12 hK (hB.1 0 _ rfl)) rfl hl.1 rfl rfl (Nat.le_of_ble_eq_true rfl) dX12_span_29 ?_
          refine lv_iload_n hx hb dX12_span_32 rfl (lv_at hl 1 rfl) ?_
          obtain ⟨x7, ex7, hf⟩ := ox_ex hf
          have hjx7 : W p l e R s m args below meth c H locs 0 0 Q (F0 m 41 ls [.int x7, .int x3]) := by
            refine lv_iadd hx hb dX12_span_41 ?_
            refine lv_topi (fun x8 ex8 => ?_)
            have hf := ox_lt ex8 hf
            refine lv_istore_n (lv' := [(2, .int x8), (0, .ref (a_M 0)), (1, .int x_1), (3, .int x4)]) hx hb dX12_span_42 rfl hl (by decide) rfl (fun ls hl => ?_)
            obtain ⟨x9, ex9⟩ : ∃ z : Int32, z = (x4 + 1) := ⟨_, rfl⟩
            have hf := ox_lt ex9 hf
            refine lv_iinc (v := x9) (lv' := [(3, .int x9), (2, .int x8), (0, .ref (a_M 0)), (1, .int x_1)]) hx hb dX12_span_43 hl (k := 3) rfl (by rw [ex9]; rfl) (by decide) rfl (fun ls hl => ?_)
            refine lv_goto (tgt := 19) hx hb dX12_span_46 (by decide) ?_
            exact ih _ _ ls H locs (lv_sub hl [2, 3, 1, 0] rfl) hB hf
          refine lv_icmp_ne (tgt := 40) hx hb dX12_span_33 (by decide) (fun c10 => ?_) (fun c10 => ?_)
          · refine lv_iconst (v := 0) hx hb dX12_span_40 (by decide) ?_
            exact ox_topi ((ex7).trans (if_neg c10)).symm hjx7
          · refine lv_iconst (v := 1) hx hb dX12_span_36 (by decide) ?_
            refine lv_goto (tgt := 41) hx hb dX12_span_37 (by decide) ?_
            exact ox_topi ((ex7).trans (if_pos c10)).symm hjx7
    exact hloop1 fuel _ _ ls H locs (lv_sub hl [2, 3, 1, 0] rfl) hB hX1
  · have hf := (if_pos c2).symm.trans hf
    refine lv_iconst (v := (-1)) hx hb dX12_span_13 (by decide) ?_
    have hf := Option.some.inj hf
    subst hf
    exact hQ _ _ H locs (fun _ => 0) hB dX12_span_14
set_option maxHeartbeats 4000000 in
set_option maxRecDepth 20000 in
theorem tX12_pushFor (l : Launch) (E : Ev) (a_M : Nat → Nat) (u_M : St) (x_1 : Int32) (x_2 : Int32) (res : Int32 × St) (hf : fX12_pushFor u_M x_1 x_2 = some res) : MX l E yX12_pushFor cX12_pushFor 4 (some .int) (rmm 8 193) [wModel E a_M u_M] (fun q => [wModel E a_M res.2]) [.ref (a_M 0), .int x_1, .int x_2] (some (.int res.1)) := by
  unfold fX12_pushFor at hf
  refine MX.ofI rfl (by decide) (Nat.le_of_ble_eq_true rfl) ?_
  intro p e R s m args below meth c ls Q ad H hRf hRl C hB hD hK hN hl hQ
  generalize hlocs : ([] : List Loc) = locs at hB ⊢
  clear hlocs
  have hx := C.1
  have hb := C.2.1
  have hl : lv_has ls 4 [(0, .ref (a_M 0)), (1, .int x_1), (2, .int x_2)] := hl
  refine lv_aload_n hx hb dX12_pushFor_0 rfl (lv_at hl 0 rfl) ?_
  refine lv_iconst (v := 0) hx hb dX12_pushFor_1 (by decide) ?_
  refine pf_X12_X12_thrown C hK hB hD 0 rfl dX12_pushFor_2 (fun H locs u1 eu1 hB => ?_)
  have hf := ox_lt eu1 hf
  have hB : WB E ad s.heap [wModel E a_M u1] H locs := hB
  refine lv_iload_n hx hb dX12_pushFor_5 rfl (lv_at hl 1 rfl) ?_
  refine lv_iconst (v := 0) hx hb dX12_pushFor_6 (by decide) ?_
  refine lv_bipush (v := 60) hx hb dX12_pushFor_7 (by decide) ?_
  refine cxSP (As := [.int x_1, .int (0 : Int32), .int (60 : Int32)]) (rest := []) (st1 := [.int (fX12_isIn x_1 (0 : Int32) (60 : Int32))]) C hK (tX12_isIn l E x_1 (0 : Int32) (60 : Int32) (fX12_isIn x_1 (0 : Int32) (60 : Int32)) rfl) lk_X12_202 ⟨rfl, rfl⟩ (by rw [hRf, hRl]; decide) ⟨Nat.zero_le _, Nat.zero_le _⟩ (PB.sub hB.1 [] rfl) (hB.old hD hN) (Nat.le_trans hN hB.2.2.1) rfl hl.1 rfl rfl (Nat.le_of_ble_eq_true rfl) dX12_pushFor_9 ?_
  refine lv_if_eq (tgt := 25) hx hb dX12_pushFor_12 (by decide) (fun c2 => ?_) (fun c2 => ?_)
  · have hf := (if_pos c2).symm.trans hf
    refine lv_iconst (v := (-1)) hx hb dX12_pushFor_25 (by decide) ?_
    have hf := Option.some.inj hf
    subst hf
    exact hQ _ _ H locs (fun _ => 0) hB dX12_pushFor_26
  · have hf := (if_neg c2).symm.trans hf
    refine lv_iload_n hx hb dX12_pushFor_15 rfl (lv_at hl 2 rfl) ?_
    refine lv_iconst (v := 1) hx hb dX12_pushFor_16 (by decide) ?_
    refine lv_bipush (v := 99) hx hb dX12_pushFor_17 (by decide) ?_
    refine cxSP (As := [.int x_2, .int (1 : Int32), .int (99 : Int32)]) (rest := []) (st1 := [.int (fX12_isIn x_2 (1 : Int32) (99 : Int32))]) C hK (tX12_isIn l E x_2 (1 : Int32) (99 : Int32) (fX12_isIn x_2 (1 : Int32) (99 : Int32)) rfl) lk_X12_202 ⟨rfl, rfl⟩ (by rw [hRf, hRl]; decide) ⟨Nat.zero_le _, Nat.zero_le _⟩ (PB.sub hB.1 [] rfl) (hB.old hD hN) (Nat.le_trans hN hB.2.2.1) rfl hl.1 rfl rfl (Nat.le_of_ble_eq_true rfl) dX12_pushFor_19 ?_
    refine lv_if_ne (tgt := 27) hx hb dX12_pushFor_22 (by decide) (fun c3 => ?_) (fun c3 => ?_)
    · have hf := (if_neg c3).symm.trans hf
      refine lv_iconst (v := 0) hx hb dX12_pushFor_27 (by decide) ?_
      refine lv_istore_n (lv' := [(3, .int (0 : Int32)), (0, .ref (a_M 0)), (1, .int x_1), (2, .int x_2)]) hx hb dX12_pushFor_28 rfl hl (by decide) rfl (fun ls hl => ?_)
      obtain ⟨X1, hX1, hf⟩ := ox_bind hf
      have hexit1 : ∀ y16, .inl y16 = X1 → ∀ (ls : Array Slot) (H : Heap) (locs : List Loc), lv_has ls 4 [] → WB E ad s.heap [wModel E a_M y16] H locs → W p l e R s m args below meth c H locs 0 0 Q (F0 m 74 ls []) := by
        intro y16 hy ls H locs hl hB
        subst hy
        have hf := ox_inl hf
        refine lv_bipush (v := (-2)) hx hb dX12_pushFor_74 (by decide) ?_
        have hf := Option.some.inj hf
        subst hf
        exact hQ _ _ H locs (fun _ => 0) hB dX12_pushFor_76
      have hret1 : ∀ r, .inr r = X1 → r = res := by
        intro r hr
        subst hr
        exact Option.some.inj (ox_inr hf)
      have hloop1 : ∀ (nf : Nat) (x4 : Int32) (u5 : St) (ls : Array Slot) (H : Heap) (locs : List Loc), lv_has ls 4 [(0, .ref (a_M 0)), (1, .int x_1), (2, .int x_2), (3, .int x4)] → WB E ad s.heap [wModel E a_M u5] H locs → fX12_pushFor_L1 x_1 x_2 nf x4 u5 = some X1 → W p l e R s m args below meth c H locs 0 0 Q (F0 m 29 ls []) := by
        intro nf
        induction nf with
        | zero =>
          intro x4 u5 ls H locs hl hB hf
          simp [fX12_pushFor_L1] at hf
        | succ nf ih =>
          intro x4 u5 ls H locs hl hB hf
          rw [fX12_pushFor_L1] at hf
          refine lv_iload_n hx hb dX12_pushFor_29 rfl (lv_at hl 3 rfl) ?_
          refine lv_bipush (v := 100) hx hb dX12_pushFor_30 (by decide) ?_
          refine lv_icmp_ge (tgt := 74) hx hb dX12_pushFor_32 (by decide) (fun c6 => ?_) (fun c6 => ?_)
          · have hf := (if_pos c6).symm.trans hf
            exact hexit1 _ (Option.some.inj hf) ls H locs (lv_sub hl [] rfl) hB
          · have hf := (if_neg c6).symm.trans hf
            refine lv_aload_n hx hb dX12_pushFor_35 rfl (lv_at hl 0 rfl) ?_
            obtain ⟨r7, hr7, hf⟩ := ox_bind hf
            refine cxVX (bs1 := (fun q => [wModel E a_M r7])) (As := []) (rest := []) (st1 := []) C hK (tX12_layTried l E a_M u5 r7 hr7) lk_X12_497 (by rw [hRf, hRl]; decide) ⟨Nat.zero_le _, Nat.zero_le _⟩ hB hD hN [0] (by decide) rfl (fun _ => rfl) (fun _ => rfl) (rc_X12 hK (hB.1 0 _ rfl)) rfl hl.1 rfl rfl (Nat.le_of_ble_eq_true rfl) dX12_pushFor_36 (fun H locs q8 hB => ?_)
            have hB : WB E ad s.heap [wModel E a_M r7] H locs := hB
            refine lv_aload_n hx hb dX12_pushFor_39 rfl (lv_at hl 0 rfl) ?_
            refine gf_X12_X12_speed C hK (hB.1 0 _ rfl) dX12_pushFor_40 ?_
            refine lv_iconst (v := 1) hx hb dX12_pushFor_43 (by decide) ?_
            refine lv_iload_n hx hb dX12_pushFor_44 rfl (lv_at hl 3 rfl) ?_
            refine st_X12_speed C hK hB hD 0 rfl (by decide) rfl dX12_pushFor_45 (fun H locs u9 eu9 hB => ?_)
            have hf := ox_lt eu9 hf
            have hB : WB E ad s.heap [wModel E a_M u9] H locs := hB
            refine lv_aload_n hx hb dX12_pushFor_46 rfl (lv_at hl 0 rfl) ?_
            refine lv_iload_n hx hb dX12_pushFor_47 rfl (lv_at hl 1 rfl) ?_
            obtain ⟨r10, hr10, hf⟩ := ox_bind hf
            refine cxVX (bs1 := (fun q => [wModel E a_M r10])) (As := [.int x_1]) (rest := []) (st1 := []) C hK (tX12_goMany l E a_M u9 x_1 r10 hr10) lk_X12_500 (by rw [hRf, hRl]; decide) ⟨Nat.zero_le _, Nat.zero_le _⟩ hB hD hN [0] (by decide) rfl (fun _ => rfl) (fun _ => rfl) (rc_X12 hK (hB.1 0 _ rfl)) rfl hl.1 rfl rfl (Nat.le_of_ble_eq_true rfl) dX12_pushFor_48 (fun H locs q11 hB => ?_)
            have hB : WB E ad s.heap [wModel E a_M r10] H locs := hB
            refine lv_aload_n hx hb dX12_pushFor_51 rfl (lv_at hl 0 rfl) ?_
            refine lv_iconst (v := 1) hx hb dX12_pushFor_52 (by decide) ?_
            obtain ⟨r12, hr12, hf⟩ := ox_bind hf
            refine cxVP (As := [.int (1 : Int32)]) (rest := []) (st1 := [.int r12]) C hK (tX12_groundAll l E a_M r10 (1 : Int32) r12 hr12) lk_X12_410 ⟨rfl, rfl⟩ (by rw [hRf, hRl]; decide) ⟨Nat.zero_le _, Nat.zero_le _⟩ (PB.sub hB.1 [0] rfl) (hB.old hD hN) (Nat.le_trans hN hB.2.2.1) (rc_X12 hK (hB.1 0 _ rfl)) rfl hl.1 rfl rfl (Nat.le_of_ble_eq_true rfl) dX12_pushFor_53 ?_
            refine lv_aload_n hx hb dX12_pushFor_56 rfl (lv_at hl 0 rfl) ?_
            refine lv_iconst (v := 0) hx hb dX12_pushFor_57 (by decide) ?_
            obtain ⟨r13, hr13, hf⟩ := ox_bind hf
            refine cxVP (As := [.int (0 : Int32)]) (rest := [.int r12]) (st1 := [.int r13, .int r12]) C hK (tX12_groundAll l E a_M r10 (0 : Int32) r13 hr13) lk_X12_410 ⟨rfl, rfl⟩ (by rw [hRf, hRl]; decide) ⟨Nat.zero_le _, Nat.zero_le _⟩ (PB.sub hB.1 [0] rfl) (hB.old hD hN) (Nat.le_trans hN hB.2.2.1) (rc_X12 hK (hB.1 0 _ rfl)) rfl hl.1 rfl rfl (Nat.le_of_ble_eq_true rfl) dX12_pushFor_58 ?_
            refine lv_isub hx hb dX12_pushFor_61 ?_
            refine lv_iload_n hx hb dX12_pushFor_62 rfl (lv_at hl 2 rfl) ?_
            refine lv_icmp_lt (tgt := 68) hx hb dX12_pushFor_63 (by decide) (fun c14 => ?_) (fun c14 => ?_)
            · have hf := (if_pos c14).symm.trans hf
              obtain ⟨x15, ex15⟩ : ∃ z : Int32, z = (x4 + 1) := ⟨_, rfl⟩
              have hf := ox_lt ex15 hf
              refine lv_iinc (v := x15) (lv' := [(3, .int x15), (0, .ref (a_M 0)), (1, .int x_1), (2, .int x_2)]) hx hb dX12_pushFor_68 hl (k := 3) rfl (by rw [ex15]; rfl) (by decide) rfl (fun ls hl => ?_)
              refine lv_goto (tgt := 29) hx hb dX12_pushFor_71 (by decide) ?_
              exact ih _ _ ls H locs (lv_sub hl [1, 2, 3, 0] rfl) hB hf
            · have hf := (if_neg c14).symm.trans hf
              refine lv_iload_n hx hb dX12_pushFor_66 rfl (lv_at hl 3 rfl) ?_
              have hf := hret1 _ (Option.some.inj hf)
              subst hf
              exact hQ _ _ H locs (fun _ => 0) hB dX12_pushFor_67
      exact hloop1 fuel _ _ ls H locs (lv_sub hl [1, 2, 3, 0] rfl) hB hX1
    · have hf := (if_pos c3).symm.trans hf
      refine lv_iconst (v := (-1)) hx hb dX12_pushFor_25 (by decide) ?_
      have hf := Option.some.inj hf
      subst hf
      exact hQ _ _ H locs (fun _ => 0) hB dX12_pushFor_26
set_option maxHeartbeats 4000000 in
set_option maxRecDepth 20000 in
theorem tX12_silence (l : Launch) (E : Ev) (a_M : Nat → Nat) (u_M : St) (x_1 : Int32) (res : Int32 × St) (hf : fX12_silence u_M x_1 = some res) : MX l E yX12_silence cX12_silence 5 (some .int) (rmm 7 171) [wModel E a_M u_M] (fun q => [wModel E a_M res.2]) [.ref (a_M 0), .int x_1] (some (.int res.1)) := by
  unfold fX12_silence at hf
  refine MX.ofI rfl (by decide) (Nat.le_of_ble_eq_true rfl) ?_
  intro p e R s m args below meth c ls Q ad H hRf hRl C hB hD hK hN hl hQ
  generalize hlocs : ([] : List Loc) = locs at hB ⊢
  clear hlocs
  have hx := C.1
  have hb := C.2.1
  have hl : lv_has ls 5 [(0, .ref (a_M 0)), (1, .int x_1)] := hl
  refine lv_aload_n hx hb dX12_silence_0 rfl (lv_at hl 0 rfl) ?_
  refine lv_iconst (v := 0) hx hb dX12_silence_1 (by decide) ?_
  refine pf_X12_X12_thrown C hK hB hD 0 rfl dX12_silence_2 (fun H locs u1 eu1 hB => ?_)
  have hf := ox_lt eu1 hf
  have hB : WB E ad s.heap [wModel E a_M u1] H locs := hB
  refine lv_iload_n hx hb dX12_silence_5 rfl (lv_at hl 1 rfl) ?_
  refine lv_iconst (v := 0) hx hb dX12_silence_6 (by decide) ?_
  refine lv_sipush (v := 200) hx hb dX12_silence_7 (by decide) ?_
  refine cxSP (As := [.int x_1, .int (0 : Int32), .int (200 : Int32)]) (rest := []) (st1 := [.int (fX12_isIn x_1 (0 : Int32) (200 : Int32))]) C hK (tX12_isIn l E x_1 (0 : Int32) (200 : Int32) (fX12_isIn x_1 (0 : Int32) (200 : Int32)) rfl) lk_X12_202 ⟨rfl, rfl⟩ (by rw [hRf, hRl]; decide) ⟨Nat.zero_le _, Nat.zero_le _⟩ (PB.sub hB.1 [] rfl) (hB.old hD hN) (Nat.le_trans hN hB.2.2.1) rfl hl.1 rfl rfl (Nat.le_of_ble_eq_true rfl) dX12_silence_10 ?_
  refine lv_if_ne (tgt := 18) hx hb dX12_silence_13 (by decide) (fun c2 => ?_) (fun c2 => ?_)
  · have hf := (if_neg c2).symm.trans hf
    refine lv_aload_n hx hb dX12_silence_18 rfl (lv_at hl 0 rfl) ?_
    obtain ⟨r3, hr3, hf⟩ := ox_bind hf
    refine cxVX (bs1 := (fun q => [wModel E a_M r3])) (As := []) (rest := []) (st1 := []) C hK (tX12_layTried l E a_M u1 r3 hr3) lk_X12_497 (by rw [hRf, hRl]; decide) ⟨Nat.zero_le _, Nat.zero_le _⟩ hB hD hN [0] (by decide) rfl (fun _ => rfl) (fun _ => rfl) (rc_X12 hK (hB.1 0 _ rfl)) rfl hl.1 rfl rfl (Nat.le_of_ble_eq_true rfl) dX12_silence_19 (fun H locs q4 hB => ?_)
    have hB : WB E ad s.heap [wModel E a_M r3] H locs := hB
    refine lv_iconst (v := 0) hx hb dX12_silence_22 (by decide) ?_
    refine lv_istore_n (lv' := [(2, .int (0 : Int32)), (0, .ref (a_M 0)), (1, .int x_1)]) hx hb dX12_silence_23 rfl hl (by decide) rfl (fun ls hl => ?_)
    refine lv_iconst (v := 0) hx hb dX12_silence_24 (by decide) ?_
    refine lv_istore_n (lv' := [(3, .int (0 : Int32)), (2, .int (0 : Int32)), (0, .ref (a_M 0)), (1, .int x_1)]) hx hb dX12_silence_25 rfl hl (by decide) rfl (fun ls hl => ?_)
    refine lv_iconst (v := 0) hx hb dX12_silence_26 (by decide) ?_
    refine lv_istore (lv' := [(4, .int (0 : Int32)), (3, .int (0 : Int32)), (2, .int (0 : Int32)), (0, .ref (a_M 0)), (1, .int x_1)]) hx hb dX12_silence_27 hl (by decide) rfl (fun ls hl => ?_)
    obtain ⟨X1, hX1, hf⟩ := ox_bind hf
    have hexit1 : ∀ y17, y17 = X1 → ∀ (ls : Array Slot) (H : Heap) (locs : List Loc), lv_has ls 5 [(2, .int y17.1)] → WB E ad s.heap [wModel E a_M y17.2] H locs → W p l e R s m args below meth c H locs 0 0 Q (F0 m 74 ls []) := by
      intro y17 hy ls H locs hl hB
      subst hy
      refine lv_iload_n hx hb dX12_silence_74 rfl (lv_at hl 0 rfl) ?_
      have hf := Option.some.inj hf
      subst hf
      exact hQ _ _ H locs (fun _ => 0) hB dX12_silence_75
    have hloop1 : ∀ (nf : Nat) (x5 : Int32) (x6 : Int32) (x7 : Int32) (u8 : St) (ls : Array Slot) (H : Heap) (locs : List Loc), lv_has ls 5 [(0, .ref (a_M 0)), (1, .int x_1), (2, .int x5), (3, .int x6), (4, .int x7)] → WB E ad s.heap [wModel E a_M u8] H locs → fX12_silence_L1 x_1 nf x5 x6 x7 u8 = some X1 → W p l e R s m args below meth c H locs 0 0 Q (F0 m 29 ls []) := by
      intro nf
      induction nf with
      | zero =>
        intro x5 x6 x7 u8 ls H locs hl hB hf
        simp [fX12_silence_L1] at hf
      | succ nf ih =>
        intro x5 x6 x7 u8 ls H locs hl hB hf
        rw [fX12_silence_L1] at hf
        refine lv_iload hx hb dX12_silence_29 (lv_at hl 4 rfl) ?_
        refine lv_iload_n hx hb dX12_silence_31 rfl (lv_at hl 1 rfl) ?_
        refine lv_icmp_ge (tgt := 74) hx hb dX12_silence_32 (by decide) (fun c9 => ?_) (fun c9 => ?_)
        · have hf := (if_pos c9).symm.trans hf
          exact hexit1 _ (Option.some.inj hf) ls H locs (lv_sub hl [2] rfl) hB
        · have hf := (if_neg c9).symm.trans hf
          refine lv_aload_n hx hb dX12_silence_35 rfl (lv_at hl 0 rfl) ?_
          refine lv_iconst (v := 1) hx hb dX12_silence_36 (by decide) ?_
          obtain ⟨r10, hr10, hf⟩ := ox_bind hf
          refine cxVX (bs1 := (fun q => [wModel E a_M r10])) (As := [.int (1 : Int32)]) (rest := []) (st1 := []) C hK (tX12_minuteGoes l E a_M u8 (1 : Int32) r10 hr10) lk_X12_473 (by rw [hRf, hRl]; decide) ⟨Nat.zero_le _, Nat.zero_le _⟩ hB hD hN [0] (by decide) rfl (fun _ => rfl) (fun _ => rfl) (rc_X12 hK (hB.1 0 _ rfl)) rfl hl.1 rfl rfl (Nat.le_of_ble_eq_true rfl) dX12_silence_37 (fun H locs q11 hB => ?_)
          have hB : WB E ad s.heap [wModel E a_M r10] H locs := hB
          refine lv_aload_n hx hb dX12_silence_40 rfl (lv_at hl 0 rfl) ?_
          refine gf_X12_X12_speed C hK (hB.1 0 _ rfl) dX12_silence_41 ?_
          refine lv_iconst (v := 1) hx hb dX12_silence_44 (by decide) ?_
          refine ld_X12_speed C hK (hB.1 0 _ rfl) (by decide) rfl dX12_silence_45 ?_
          obtain ⟨x12, ex12, hf⟩ := ox_ex hf
          have hjx12 : W p l e R s m args below meth c H locs 0 0 Q (F0 m 56 ls [.int x12]) := by
            refine lv_istore_n (lv' := [(3, .int x12), (0, .ref (a_M 0)), (1, .int x_1), (2, .int x5), (4, .int x7)]) hx hb dX12_silence_56 rfl hl (by decide) rfl (fun ls hl => ?_)
            refine lv_iload_n hx hb dX12_silence_57 rfl (lv_at hl 0 rfl) ?_
            refine lv_iload_n hx hb dX12_silence_58 rfl (lv_at hl 3 rfl) ?_
            obtain ⟨x13, ex13, hf⟩ := ox_ex hf
            have hjx13 : W p l e R s m args below meth c H locs 0 0 Q (F0 m 67 ls [.int x13]) := by
              refine lv_istore_n (lv' := [(2, .int x13), (3, .int x12), (0, .ref (a_M 0)), (1, .int x_1), (4, .int x7)]) hx hb dX12_silence_67 rfl hl (by decide) rfl (fun ls hl => ?_)
              obtain ⟨x14, ex14⟩ : ∃ z : Int32, z = (x7 + 1) := ⟨_, rfl⟩
              have hf := ox_lt ex14 hf
              refine lv_iinc (v := x14) (lv' := [(4, .int x14), (2, .int x13), (3, .int x12), (0, .ref (a_M 0)), (1, .int x_1)]) hx hb dX12_silence_68 hl (k := 4) rfl (by rw [ex14]; rfl) (by decide) rfl (fun ls hl => ?_)
              refine lv_goto (tgt := 29) hx hb dX12_silence_71 (by decide) ?_
              exact ih _ _ _ _ ls H locs (lv_sub hl [3, 4, 1, 2, 0] rfl) hB hf
            refine lv_icmp_le (tgt := 66) hx hb dX12_silence_59 (by decide) (fun c15 => ?_) (fun c15 => ?_)
            · refine lv_iload_n hx hb dX12_silence_66 rfl (lv_at hl 3 rfl) ?_
              exact ox_topi ((ex13).trans (if_pos c15)).symm hjx13
            · refine lv_iload_n hx hb dX12_silence_62 rfl (lv_at hl 0 rfl) ?_
              refine lv_goto (tgt := 67) hx hb dX12_silence_63 (by decide) ?_
              exact ox_topi ((ex13).trans (if_neg c15)).symm hjx13
          refine lv_if_ne (tgt := 55) hx hb dX12_silence_46 (by decide) (fun c16 => ?_) (fun c16 => ?_)
          · refine lv_iconst (v := 0) hx hb dX12_silence_55 (by decide) ?_
            exact ox_topi ((ex12).trans (if_neg c16)).symm hjx12
          · refine lv_iload_n hx hb dX12_silence_49 rfl (lv_at hl 3 rfl) ?_
            refine lv_iconst (v := 1) hx hb dX12_silence_50 (by decide) ?_
            refine lv_iadd hx hb dX12_silence_51 ?_
            refine lv_goto (tgt := 56) hx hb dX12_silence_52 (by decide) ?_
            exact ox_topi ((ex12).trans (if_pos c16)).symm hjx12
    exact hloop1 fuel _ _ _ _ ls H locs (lv_sub hl [3, 4, 2, 1, 0] rfl) hB hX1
  · have hf := (if_pos c2).symm.trans hf
    refine lv_iconst (v := (-1)) hx hb dX12_silence_16 (by decide) ?_
    have hf := Option.some.inj hf
    subst hf
    exact hQ _ _ H locs (fun _ => 0) hB dX12_silence_17
set_option maxHeartbeats 4000000 in
set_option maxRecDepth 20000 in
theorem tX12_game (l : Launch) (E : Ev) (a_M : Nat → Nat) (u_M : St) (x_1 : Int32) (x_2 : Int32) (res : Int32 × St) (hf : fX12_game u_M x_1 x_2 = some res) : MX l E yX12_game cX12_game 5 (some .int) (rmm 1 22) [wModel E a_M u_M] (fun q => [wModel E a_M res.2]) [.ref (a_M 0), .int x_1, .int x_2] (some (.int res.1)) := by
  unfold fX12_game at hf
  refine MX.ofI rfl (by decide) (Nat.le_of_ble_eq_true rfl) ?_
  intro p e R s m args below meth c ls Q ad H hRf hRl C hB hD hK hN hl hQ
  generalize hlocs : ([] : List Loc) = locs at hB ⊢
  clear hlocs
  have hx := C.1
  have hb := C.2.1
  have hl : lv_has ls 5 [(0, .ref (a_M 0)), (1, .int x_1), (2, .int x_2)] := hl
  refine lv_aload_n hx hb dX12_game_0 rfl (lv_at hl 0 rfl) ?_
  refine lv_iconst (v := 0) hx hb dX12_game_1 (by decide) ?_
  refine pf_X12_X12_thrown C hK hB hD 0 rfl dX12_game_2 (fun H locs u1 eu1 hB => ?_)
  have hf := ox_lt eu1 hf
  have hB : WB E ad s.heap [wModel E a_M u1] H locs := hB
  refine lv_aload_n hx hb dX12_game_5 rfl (lv_at hl 0 rfl) ?_
  refine lv_iload_n hx hb dX12_game_6 rfl (lv_at hl 1 rfl) ?_
  refine cxVP (As := [.int x_1]) (rest := []) (st1 := [.int (fX12_isGrain u1 x_1)]) C hK (tX12_isGrain l E a_M u1 x_1 (fX12_isGrain u1 x_1) rfl) lk_X12_488 ⟨rfl, rfl⟩ (by rw [hRf, hRl]; decide) ⟨Nat.zero_le _, Nat.zero_le _⟩ (PB.sub hB.1 [0] rfl) (hB.old hD hN) (Nat.le_trans hN hB.2.2.1) (rc_X12 hK (hB.1 0 _ rfl)) rfl hl.1 rfl rfl (Nat.le_of_ble_eq_true rfl) dX12_game_7 ?_
  refine lv_if_eq (tgt := 22) hx hb dX12_game_10 (by decide) (fun c2 => ?_) (fun c2 => ?_)
  · have hf := (if_pos c2).symm.trans hf
    refine lv_iconst (v := (-1)) hx hb dX12_game_22 (by decide) ?_
    have hf := Option.some.inj hf
    subst hf
    exact hQ _ _ H locs (fun _ => 0) hB dX12_game_23
  · have hf := (if_neg c2).symm.trans hf
    refine lv_iload_n hx hb dX12_game_13 rfl (lv_at hl 2 rfl) ?_
    refine lv_iconst (v := 0) hx hb dX12_game_14 (by decide) ?_
    refine lv_iconst (v := 1) hx hb dX12_game_15 (by decide) ?_
    refine cxSP (As := [.int x_2, .int (0 : Int32), .int (1 : Int32)]) (rest := []) (st1 := [.int (fX12_isIn x_2 (0 : Int32) (1 : Int32))]) C hK (tX12_isIn l E x_2 (0 : Int32) (1 : Int32) (fX12_isIn x_2 (0 : Int32) (1 : Int32)) rfl) lk_X12_202 ⟨rfl, rfl⟩ (by rw [hRf, hRl]; decide) ⟨Nat.zero_le _, Nat.zero_le _⟩ (PB.sub hB.1 [] rfl) (hB.old hD hN) (Nat.le_trans hN hB.2.2.1) rfl hl.1 rfl rfl (Nat.le_of_ble_eq_true rfl) dX12_game_16 ?_
    refine lv_if_ne (tgt := 24) hx hb dX12_game_19 (by decide) (fun c3 => ?_) (fun c3 => ?_)
    · have hf := (if_neg c3).symm.trans hf
      refine lv_aload_n hx hb dX12_game_24 rfl (lv_at hl 0 rfl) ?_
      refine gf_X12_X12_grainHigh C hK (hB.1 0 _ rfl) dX12_game_25 ?_
      refine lv_iload_n hx hb dX12_game_28 rfl (lv_at hl 1 rfl) ?_
      obtain ⟨hn4, hf⟩ := ox_chk hf
      refine ld_X12_grainHigh C hK (hB.1 0 _ rfl) hn4 rfl dX12_game_29 ?_
      refine lv_aload_n hx hb dX12_game_30 rfl (lv_at hl 0 rfl) ?_
      refine gf_X12_X12_speed C hK (hB.1 0 _ rfl) dX12_game_31 ?_
      refine lv_iconst (v := 0) hx hb dX12_game_34 (by decide) ?_
      refine ld_X12_speed C hK (hB.1 0 _ rfl) (by decide) rfl dX12_game_35 ?_
      refine lv_isub hx hb dX12_game_36 ?_
      refine lv_topi (fun x5 ex5 => ?_)
      have hf := ox_lt ex5 hf
      refine lv_istore_n (lv' := [(3, .int x5), (0, .ref (a_M 0)), (1, .int x_1), (2, .int x_2)]) hx hb dX12_game_37 rfl hl (by decide) rfl (fun ls hl => ?_)
      refine lv_iload_n hx hb dX12_game_38 rfl (lv_at hl 0 rfl) ?_
      refine lv_if_ge (tgt := 53) hx hb dX12_game_39 (by decide) (fun c6 => ?_) (fun c6 => ?_)
      · have hf := (if_pos c6).symm.trans hf
        refine lv_iload_n hx hb dX12_game_53 rfl (lv_at hl 0 rfl) ?_
        refine lv_iconst (v := 4) hx hb dX12_game_54 (by decide) ?_
        refine lv_irem hx hb dX12_game_55 (by decide) ?_
        refine lv_topi (fun x7 ex7 => ?_)
        have hf := ox_lt ex7 hf
        refine lv_istore (lv' := [(4, .int x7), (3, .int x5), (0, .ref (a_M 0)), (1, .int x_1), (2, .int x_2)]) hx hb dX12_game_56 hl (by decide) rfl (fun ls hl => ?_)
        refine lv_iload_n hx hb dX12_game_58 rfl (lv_at hl 4 rfl) ?_
        obtain ⟨x8, ex8, hf⟩ := ox_ex hf
        have hjx8 : W p l e R s m args below meth c H locs 0 0 Q (F0 m 87 ls [.int x8]) := by
          have hf := Option.some.inj hf
          subst hf
          exact hQ _ _ H locs (fun _ => 0) hB dX12_game_87
        refine lv_if_ne (tgt := 75) hx hb dX12_game_59 (by decide) (fun c9 => ?_) (fun c9 => ?_)
        · refine lv_iload hx hb dX12_game_75 (lv_at hl 0 rfl) ?_
          refine lv_if_ne (tgt := 85) hx hb dX12_game_77 (by decide) (fun c10 => ?_) (fun c10 => ?_)
          · refine lv_iload hx hb dX12_game_85 (lv_at hl 0 rfl) ?_
            exact ox_topi (((ex8).trans (if_neg c9)).trans (if_neg c10)).symm hjx8
          · refine lv_bipush (v := (-2)) hx hb dX12_game_80 (by decide) ?_
            refine lv_goto (tgt := 87) hx hb dX12_game_82 (by decide) ?_
            exact ox_topi (((ex8).trans (if_neg c9)).trans (if_pos c10)).symm hjx8
        · refine lv_iload hx hb dX12_game_62 (lv_at hl 0 rfl) ?_
          refine lv_if_ne (tgt := 71) hx hb dX12_game_64 (by decide) (fun c11 => ?_) (fun c11 => ?_)
          · refine lv_iconst (v := 0) hx hb dX12_game_71 (by decide) ?_
            refine lv_goto (tgt := 87) hx hb dX12_game_72 (by decide) ?_
            exact ox_topi (((ex8).trans (if_pos c9)).trans (if_neg c11)).symm hjx8
          · refine lv_iconst (v := 1) hx hb dX12_game_67 (by decide) ?_
            refine lv_goto (tgt := 87) hx hb dX12_game_68 (by decide) ?_
            exact ox_topi (((ex8).trans (if_pos c9)).trans (if_pos c11)).symm hjx8
      · have hf := (if_neg c6).symm.trans hf
        refine lv_iload_n hx hb dX12_game_42 rfl (lv_at hl 3 rfl) ?_
        obtain ⟨x12, ex12, hf⟩ := ox_ex hf
        have hjx12 : W p l e R s m args below meth c H locs 0 0 Q (F0 m 52 ls [.int x12]) := by
          have hf := Option.some.inj hf
          subst hf
          exact hQ _ _ H locs (fun _ => 0) hB dX12_game_52
        refine lv_if_ne (tgt := 50) hx hb dX12_game_43 (by decide) (fun c13 => ?_) (fun c13 => ?_)
        · refine lv_bipush (v := (-2)) hx hb dX12_game_50 (by decide) ?_
          exact ox_topi ((ex12).trans (if_neg c13)).symm hjx12
        · refine lv_iconst (v := 2) hx hb dX12_game_46 (by decide) ?_
          refine lv_goto (tgt := 52) hx hb dX12_game_47 (by decide) ?_
          exact ox_topi ((ex12).trans (if_pos c13)).symm hjx12
    · have hf := (if_pos c3).symm.trans hf
      refine lv_iconst (v := (-1)) hx hb dX12_game_22 (by decide) ?_
      have hf := Option.some.inj hf
      subst hf
      exact hQ _ _ H locs (fun _ => 0) hB dX12_game_23
set_option maxHeartbeats 4000000 in
set_option maxRecDepth 20000 in
theorem tX12_hasBy (l : Launch) (E : Ev) (a_M : Nat → Nat) (u_M : St) (x_1 : Int32) (x_2 : Int32) (x_3 : Int32) (x_4 : Int32) (res : Int32) (hf : fX12_hasBy u_M x_1 x_2 x_3 x_4 = some res) : MP l E yX12_hasBy cX12_hasBy 5 (some .int) (rmm 2 43) [wModel E a_M u_M] [.ref (a_M 0), .int x_1, .int x_2, .int x_3, .int x_4] (some (.int res)) := by
  unfold fX12_hasBy at hf
  refine MP.ofI rfl (by decide) (Nat.le_of_ble_eq_true rfl) ?_
  intro p e R s m args below meth c ls Q hRf hRl C hP hK hN hl hQ
  have hx := C.1
  have hb := C.2.1
  have hl : lv_has ls 5 [(0, .ref (a_M 0)), (1, .int x_1), (2, .int x_2), (3, .int x_3), (4, .int x_4)] := hl
  refine lv_iload_n hx hb dX12_hasBy_0 rfl (lv_at hl 3 rfl) ?_
  refine lv_iconst (v := 1) hx hb dX12_hasBy_1 (by decide) ?_
  refine lv_icmp_ne (tgt := 16) hx hb dX12_hasBy_2 (by decide) (fun c1 => ?_) (fun c1 => ?_)
  · have hf := (if_neg c1).symm.trans hf
    refine lv_iload hx hb dX12_hasBy_16 (lv_at hl 4 rfl) ?_
    refine lv_if_ne (tgt := 41) hx hb dX12_hasBy_18 (by decide) (fun c2 => ?_) (fun c2 => ?_)
    · have hf := (if_neg c2).symm.trans hf
      refine lv_aload_n hx hb dX12_hasBy_41 rfl (lv_at hl 0 rfl) ?_
      refine lv_iload_n hx hb dX12_hasBy_42 rfl (lv_at hl 1 rfl) ?_
      refine lv_iload_n hx hb dX12_hasBy_43 rfl (lv_at hl 2 rfl) ?_
      obtain ⟨r3, hr3, hf⟩ := ox_bind hf
      refine cxVP (As := [.int x_1, .int x_2]) (rest := []) (st1 := [.int r3]) C hK (tX12_without l E a_M u_M x_1 x_2 r3 hr3) lk_X12_427 ⟨rfl, rfl⟩ (by rw [hRf, hRl]; decide) ⟨Nat.zero_le _, Nat.zero_le _⟩ (PB.sub hP [0] rfl) (fun _ _ => rfl) hN (rc_X12 hK (hP 0 _ rfl)) rfl hl.1 rfl rfl (Nat.le_of_ble_eq_true rfl) dX12_hasBy_44 ?_
      refine lv_aload_n hx hb dX12_hasBy_47 rfl (lv_at hl 0 rfl) ?_
      refine gf_X12_X12_guestHunger C hK (hP 0 _ rfl) dX12_hasBy_48 ?_
      refine lv_iload_n hx hb dX12_hasBy_51 rfl (lv_at hl 1 rfl) ?_
      obtain ⟨hn4, hf⟩ := ox_chk hf
      refine ld_X12_guestHunger C hK (hP 0 _ rfl) hn4 rfl dX12_hasBy_52 ?_
      refine lv_iconst (v := 2) hx hb dX12_hasBy_53 (by decide) ?_
      refine lv_idiv hx hb dX12_hasBy_54 (by decide) ?_
      refine lv_isub hx hb dX12_hasBy_55 ?_
      have hf := Option.some.inj hf
      subst hf
      exact hQ _ _ dX12_hasBy_56
    · have hf := (if_pos c2).symm.trans hf
      refine lv_aload_n hx hb dX12_hasBy_21 rfl (lv_at hl 0 rfl) ?_
      refine lv_iload_n hx hb dX12_hasBy_22 rfl (lv_at hl 1 rfl) ?_
      refine lv_iload_n hx hb dX12_hasBy_23 rfl (lv_at hl 2 rfl) ?_
      obtain ⟨r5, hr5, hf⟩ := ox_bind hf
      refine cxVP (As := [.int x_1, .int x_2]) (rest := []) (st1 := [.int r5]) C hK (tX12_without l E a_M u_M x_1 x_2 r5 hr5) lk_X12_427 ⟨rfl, rfl⟩ (by rw [hRf, hRl]; decide) ⟨Nat.zero_le _, Nat.zero_le _⟩ (PB.sub hP [0] rfl) (fun _ _ => rfl) hN (rc_X12 hK (hP 0 _ rfl)) rfl hl.1 rfl rfl (Nat.le_of_ble_eq_true rfl) dX12_hasBy_24 ?_
      refine lv_iconst (v := 2) hx hb dX12_hasBy_27 (by decide) ?_
      refine lv_iadd hx hb dX12_hasBy_28 ?_
      refine lv_aload_n hx hb dX12_hasBy_29 rfl (lv_at hl 0 rfl) ?_
      refine gf_X12_X12_guestHunger C hK (hP 0 _ rfl) dX12_hasBy_30 ?_
      refine lv_iload_n hx hb dX12_hasBy_33 rfl (lv_at hl 1 rfl) ?_
      obtain ⟨hn6, hf⟩ := ox_chk hf
      refine ld_X12_guestHunger C hK (hP 0 _ rfl) hn6 rfl dX12_hasBy_34 ?_
      refine lv_iconst (v := 3) hx hb dX12_hasBy_35 (by decide) ?_
      refine lv_idiv hx hb dX12_hasBy_36 (by decide) ?_
      refine lv_isub hx hb dX12_hasBy_37 ?_
      refine lv_goto (tgt := 56) hx hb dX12_hasBy_38 (by decide) ?_
      have hf := Option.some.inj hf
      subst hf
      exact hQ _ _ dX12_hasBy_56
  · have hf := (if_pos c1).symm.trans hf
    refine lv_iload hx hb dX12_hasBy_5 (lv_at hl 4 rfl) ?_
    obtain ⟨x7, ex7, hf⟩ := ox_ex hf
    have hjx7 : W p l e R s m args below meth c s.heap [] 0 0 Q (F0 m 15 ls [.int x7]) := by
      have hf := Option.some.inj hf
      subst hf
      exact hQ _ _ dX12_hasBy_15
    refine lv_if_ne (tgt := 14) hx hb dX12_hasBy_7 (by decide) (fun c8 => ?_) (fun c8 => ?_)
    · refine lv_iconst (v := 0) hx hb dX12_hasBy_14 (by decide) ?_
      exact ox_topi ((ex7).trans (if_neg c8)).symm hjx7
    · refine lv_iconst (v := 1) hx hb dX12_hasBy_10 (by decide) ?_
      refine lv_goto (tgt := 15) hx hb dX12_hasBy_11 (by decide) ?_
      exact ox_topi ((ex7).trans (if_pos c8)).symm hjx7
set_option maxHeartbeats 4000000 in
set_option maxRecDepth 20000 in
theorem tX12_restAt (l : Launch) (E : Ev) (a_M : Nat → Nat) (u_M : St) (x_1 : Int32) (x_2 : Int32) (x_3 : Int32) (x_4 : Int32) (res : Int32) (hf : fX12_restAt u_M x_1 x_2 x_3 x_4 = some res) : MP l E yX12_restAt cX12_restAt 9 (some .int) (rmm 3 67) [wModel E a_M u_M] [.ref (a_M 0), .int x_1, .int x_2, .int x_3, .int x_4] (some (.int res)) := by
  unfold fX12_restAt at hf
  refine MP.ofI rfl (by decide) (Nat.le_of_ble_eq_true rfl) ?_
  intro p e R s m args below meth c ls Q hRf hRl C hP hK hN hl hQ
  have hx := C.1
  have hb := C.2.1
  have hl : lv_has ls 9 [(0, .ref (a_M 0)), (1, .int x_1), (2, .int x_2), (3, .int x_3), (4, .int x_4)] := hl
  refine lv_iconst (v := 0) hx hb dX12_restAt_0 (by decide) ?_
  refine lv_istore (lv' := [(5, .int (0 : Int32)), (0, .ref (a_M 0)), (1, .int x_1), (2, .int x_2), (3, .int x_3), (4, .int x_4)]) hx hb dX12_restAt_1 hl (by decide) rfl (fun ls hl => ?_)
  refine lv_iconst (v := 0) hx hb dX12_restAt_3 (by decide) ?_
  refine lv_istore (lv' := [(6, .int (0 : Int32)), (5, .int (0 : Int32)), (0, .ref (a_M 0)), (1, .int x_1), (2, .int x_2), (3, .int x_3), (4, .int x_4)]) hx hb dX12_restAt_4 hl (by decide) rfl (fun ls hl => ?_)
  obtain ⟨X1, hX1, hf⟩ := ox_bind hf
  have hexit1 : ∀ y17, .inl y17 = X1 → ∀ (ls : Array Slot), lv_has ls 9 [(4, .int x_4), (5, .int y17)] → W p l e R s m args below meth c s.heap [] 0 0 Q (F0 m 102 ls []) := by
    intro y17 hy ls hl
    subst hy
    have hf := ox_inl hf
    refine lv_iload hx hb dX12_restAt_102 (lv_at hl 0 rfl) ?_
    obtain ⟨x18, ex18, hf⟩ := ox_ex hf
    have hjx18 : W p l e R s m args below meth c s.heap [] 0 0 Q (F0 m 114 ls [.int x18]) := by
      have hf := Option.some.inj hf
      subst hf
      exact hQ _ _ dX12_restAt_114
    refine lv_if_ge (tgt := 112) hx hb dX12_restAt_104 (by decide) (fun c19 => ?_) (fun c19 => ?_)
    · refine lv_bipush (v := (-2)) hx hb dX12_restAt_112 (by decide) ?_
      exact ox_topi ((ex18).trans (if_pos c19)).symm hjx18
    · refine lv_iload hx hb dX12_restAt_107 (lv_at hl 1 rfl) ?_
      refine lv_goto (tgt := 114) hx hb dX12_restAt_109 (by decide) ?_
      exact ox_topi ((ex18).trans (if_neg c19)).symm hjx18
  have hret1 : ∀ r, .inr r = X1 → r = res := by
    intro r hr
    subst hr
    exact Option.some.inj (ox_inr hf)
  have hloop1 : ∀ (nf : Nat) (x1 : Int32) (x2 : Int32) (ls : Array Slot), lv_has ls 9 [(0, .ref (a_M 0)), (1, .int x_1), (2, .int x_2), (3, .int x_3), (4, .int x_4), (5, .int x1), (6, .int x2)] → fX12_restAt_L1 u_M x_1 x_2 x_3 x_4 nf x1 x2 = some X1 → W p l e R s m args below meth c s.heap [] 0 0 Q (F0 m 6 ls []) := by
    intro nf
    induction nf with
    | zero =>
      intro x1 x2 ls hl hf
      simp [fX12_restAt_L1] at hf
    | succ nf ih =>
      intro x1 x2 ls hl hf
      rw [fX12_restAt_L1] at hf
      refine lv_iload hx hb dX12_restAt_6 (lv_at hl 6 rfl) ?_
      refine lv_iconst (v := 4) hx hb dX12_restAt_8 (by decide) ?_
      refine lv_icmp_ge (tgt := 102) hx hb dX12_restAt_9 (by decide) (fun c3 => ?_) (fun c3 => ?_)
      · have hf := (if_pos c3).symm.trans hf
        exact hexit1 _ (Option.some.inj hf) ls (lv_sub hl [4, 5] rfl)
      · have hf := (if_neg c3).symm.trans hf
        refine lv_iload hx hb dX12_restAt_12 (lv_at hl 6 rfl) ?_
        refine lv_iconst (v := 2) hx hb dX12_restAt_14 (by decide) ?_
        refine lv_idiv hx hb dX12_restAt_15 (by decide) ?_
        refine lv_topi (fun x4 ex4 => ?_)
        have hf := ox_lt ex4 hf
        refine lv_istore (lv' := [(7, .int x4), (0, .ref (a_M 0)), (1, .int x_1), (2, .int x_2), (3, .int x_3), (4, .int x_4), (5, .int x1), (6, .int x2)]) hx hb dX12_restAt_16 hl (by decide) rfl (fun ls hl => ?_)
        refine lv_iload hx hb dX12_restAt_18 (lv_at hl 7 rfl) ?_
        refine lv_iconst (v := 2) hx hb dX12_restAt_20 (by decide) ?_
        refine lv_irem hx hb dX12_restAt_21 (by decide) ?_
        refine lv_topi (fun x5 ex5 => ?_)
        have hf := ox_lt ex5 hf
        refine lv_istore (lv' := [(8, .int x5), (7, .int x4), (0, .ref (a_M 0)), (1, .int x_1), (2, .int x_2), (3, .int x_3), (4, .int x_4), (5, .int x1), (6, .int x2)]) hx hb dX12_restAt_22 hl (by decide) rfl (fun ls hl => ?_)
        refine lv_aload_n hx hb dX12_restAt_24 rfl (lv_at hl 2 rfl) ?_
        refine lv_iload_n hx hb dX12_restAt_25 rfl (lv_at hl 3 rfl) ?_
        refine lv_iload_n hx hb dX12_restAt_26 rfl (lv_at hl 5 rfl) ?_
        refine lv_iconst (v := 1) hx hb dX12_restAt_27 (by decide) ?_
        refine lv_iload hx hb dX12_restAt_28 (lv_at hl 1 rfl) ?_
        refine lv_isub hx hb dX12_restAt_30 ?_
        refine lv_iload hx hb dX12_restAt_31 (lv_at hl 0 rfl) ?_
        obtain ⟨r6, hr6, hf⟩ := ox_bind hf
        refine cxVP (As := [.int x_1, .int x_3, .int ((1 : Int32) - x4), .int x5]) (rest := []) (st1 := [.int r6]) C hK (tX12_hasBy l E a_M u_M x_1 x_3 ((1 : Int32) - x4) x5 r6 hr6) lk_X12_524 ⟨rfl, rfl⟩ (by rw [hRf, hRl]; decide) ⟨Nat.zero_le _, Nat.zero_le _⟩ (PB.sub hP [0] rfl) (fun _ _ => rfl) hN (rc_X12 hK (hP 0 _ rfl)) rfl hl.1 rfl rfl (Nat.le_of_ble_eq_true rfl) dX12_restAt_33 ?_
        refine lv_aload_n hx hb dX12_restAt_36 rfl (lv_at hl 2 rfl) ?_
        refine lv_iload_n hx hb dX12_restAt_37 rfl (lv_at hl 3 rfl) ?_
        refine lv_iload_n hx hb dX12_restAt_38 rfl (lv_at hl 5 rfl) ?_
        refine lv_iload hx hb dX12_restAt_39 (lv_at hl 1 rfl) ?_
        refine lv_iload hx hb dX12_restAt_41 (lv_at hl 0 rfl) ?_
        obtain ⟨r7, hr7, hf⟩ := ox_bind hf
        refine cxVP (As := [.int x_1, .int x_3, .int x4, .int x5]) (rest := [.int r6]) (st1 := [.int r7, .int r6]) C hK (tX12_hasBy l E a_M u_M x_1 x_3 x4 x5 r7 hr7) lk_X12_524 ⟨rfl, rfl⟩ (by rw [hRf, hRl]; decide) ⟨Nat.zero_le _, Nat.zero_le _⟩ (PB.sub hP [0] rfl) (fun _ _ => rfl) hN (rc_X12 hK (hP 0 _ rfl)) rfl hl.1 rfl rfl (Nat.le_of_ble_eq_true rfl) dX12_restAt_43 ?_
        obtain ⟨j9, ej9, hf⟩ := ox_ex hf
        have hj9 : ∀ (x8 : Int32) (ls : Array Slot), lv_has ls 9 [(0, .ref (a_M 0)), (1, .int x_1), (2, .int x_2), (3, .int x_3), (4, .int x_4), (5, .int x8), (6, .int x2)] → j9 x8 = some X1 → W p l e R s m args below meth c s.heap [] 0 0 Q (F0 m 96 ls []) := by
          intro x8 ls hl hf
          have hf := ox_a1 ej9 hf
          obtain ⟨x10, ex10⟩ : ∃ z : Int32, z = (x2 + 1) := ⟨_, rfl⟩
          have hf := ox_lt ex10 hf
          refine lv_iinc (v := x10) (lv' := [(6, .int x10), (0, .ref (a_M 0)), (1, .int x_1), (2, .int x_2), (3, .int x_3), (4, .int x_4), (5, .int x8)]) hx hb dX12_restAt_96 hl (k := 6) rfl (by rw [ex10]; rfl) (by decide) rfl (fun ls hl => ?_)
          refine lv_goto (tgt := 6) hx hb dX12_restAt_99 (by decide) ?_
          exact ih _ _ ls (lv_sub hl [1, 2, 3, 4, 5, 6, 0] rfl) hf
        refine lv_icmp_gt (tgt := 96) hx hb dX12_restAt_46 (by decide) (fun c11 => ?_) (fun c11 => ?_)
        · have hf := (if_pos c11).symm.trans hf
          exact hj9 _ ls (lv_sub hl [2, 3, 4, 5, 6, 7, 8] rfl) hf
        · have hf := (if_neg c11).symm.trans hf
          refine lv_aload_n hx hb dX12_restAt_49 rfl (lv_at hl 2 rfl) ?_
          refine lv_iload_n hx hb dX12_restAt_50 rfl (lv_at hl 4 rfl) ?_
          refine lv_iload_n hx hb dX12_restAt_51 rfl (lv_at hl 5 rfl) ?_
          refine lv_iconst (v := 1) hx hb dX12_restAt_52 (by decide) ?_
          refine lv_iload hx hb dX12_restAt_53 (lv_at hl 0 rfl) ?_
          refine lv_isub hx hb dX12_restAt_55 ?_
          refine lv_iload hx hb dX12_restAt_56 (lv_at hl 1 rfl) ?_
          obtain ⟨r12, hr12, hf⟩ := ox_bind hf
          refine cxVP (As := [.int x_2, .int x_3, .int ((1 : Int32) - x5), .int x4]) (rest := []) (st1 := [.int r12]) C hK (tX12_hasBy l E a_M u_M x_2 x_3 ((1 : Int32) - x5) x4 r12 hr12) lk_X12_524 ⟨rfl, rfl⟩ (by rw [hRf, hRl]; decide) ⟨Nat.zero_le _, Nat.zero_le _⟩ (PB.sub hP [0] rfl) (fun _ _ => rfl) hN (rc_X12 hK (hP 0 _ rfl)) rfl hl.1 rfl rfl (Nat.le_of_ble_eq_true rfl) dX12_restAt_58 ?_
          refine lv_aload_n hx hb dX12_restAt_61 rfl (lv_at hl 2 rfl) ?_
          refine lv_iload_n hx hb dX12_restAt_62 rfl (lv_at hl 4 rfl) ?_
          refine lv_iload_n hx hb dX12_restAt_63 rfl (lv_at hl 5 rfl) ?_
          refine lv_iload hx hb dX12_restAt_64 (lv_at hl 0 rfl) ?_
          refine lv_iload hx hb dX12_restAt_66 (lv_at hl 1 rfl) ?_
          obtain ⟨r13, hr13, hf⟩ := ox_bind hf
          refine cxVP (As := [.int x_2, .int x_3, .int x5, .int x4]) (rest := [.int r12]) (st1 := [.int r13, .int r12]) C hK (tX12_hasBy l E a_M u_M x_2 x_3 x5 x4 r13 hr13) lk_X12_524 ⟨rfl, rfl⟩ (by rw [hRf, hRl]; decide) ⟨Nat.zero_le _, Nat.zero_le _⟩ (PB.sub hP [0] rfl) (fun _ _ => rfl) hN (rc_X12 hK (hP 0 _ rfl)) rfl hl.1 rfl rfl (Nat.le_of_ble_eq_true rfl) dX12_restAt_68 ?_
          refine lv_icmp_le (tgt := 77) hx hb dX12_restAt_71 (by decide) (fun c14 => ?_) (fun c14 => ?_)
          · have hf := (if_pos c14).symm.trans hf
            refine lv_iload hx hb dX12_restAt_77 (lv_at hl 7 rfl) ?_
            refine lv_iload hx hb dX12_restAt_79 (lv_at hl 6 rfl) ?_
            refine lv_icmp_ne (tgt := 93) hx hb dX12_restAt_81 (by decide) (fun c15 => ?_) (fun c15 => ?_)
            · have hf := (if_neg c15).symm.trans hf
              obtain ⟨x16, ex16⟩ : ∃ z : Int32, z = (x1 + 1) := ⟨_, rfl⟩
              have hf := ox_lt ex16 hf
              refine lv_iinc (v := x16) (lv' := [(5, .int x16), (8, .int x5), (7, .int x4), (0, .ref (a_M 0)), (1, .int x_1), (2, .int x_2), (3, .int x_3), (4, .int x_4), (6, .int x2)]) hx hb dX12_restAt_93 hl (k := 7) rfl (by rw [ex16]; rfl) (by decide) rfl (fun ls hl => ?_)
              exact hj9 _ ls (lv_sub hl [3, 4, 5, 6, 7, 0, 8] rfl) hf
            · have hf := (if_pos c15).symm.trans hf
              refine lv_bipush (v := 10) hx hb dX12_restAt_84 (by decide) ?_
              refine lv_iload hx hb dX12_restAt_86 (lv_at hl 1 rfl) ?_
              refine lv_imul hx hb dX12_restAt_88 ?_
              refine lv_iload hx hb dX12_restAt_89 (lv_at hl 0 rfl) ?_
              refine lv_iadd hx hb dX12_restAt_91 ?_
              have hf := hret1 _ (Option.some.inj hf)
              subst hf
              exact hQ _ _ dX12_restAt_92
          · have hf := (if_neg c14).symm.trans hf
            refine lv_goto (tgt := 96) hx hb dX12_restAt_74 (by decide) ?_
            exact hj9 _ ls (lv_sub hl [2, 3, 4, 5, 6, 7, 8] rfl) hf
  exact hloop1 fuel _ _ ls (lv_sub hl [2, 3, 4, 5, 6, 1, 0] rfl) hX1
set_option maxHeartbeats 4000000 in
set_option maxRecDepth 20000 in
theorem tX12_areTwo (l : Launch) (E : Ev) (a_M : Nat → Nat) (u_M : St) (x_1 : Int32) (x_2 : Int32) (x_3 : Int32) (res : Int32) (hf : fX12_areTwo u_M x_1 x_2 x_3 = res) : MP l E yX12_areTwo cX12_areTwo 4 (some .boolean) (rmm 1 21) [wModel E a_M u_M] [.ref (a_M 0), .int x_1, .int x_2, .int x_3] (some (.int res)) := by
  unfold fX12_areTwo at hf
  refine MP.ofZZ rfl (by decide) (Nat.le_of_ble_eq_true rfl) ?_
  intro p e R s m args below meth c ls Q hRf hRl C hP hK hN hl hQ
  have hx := C.1
  have hb := C.2.1
  have hl : lv_has ls 4 [(0, .ref (a_M 0)), (1, .int x_1), (2, .int x_2), (3, .int x_3)] := hl
  refine lv_aload_n hx hb dX12_areTwo_0 rfl (lv_at hl 0 rfl) ?_
  refine lv_iload_n hx hb dX12_areTwo_1 rfl (lv_at hl 1 rfl) ?_
  refine cxVP (As := [.int x_1]) (rest := []) (st1 := [.int (fX12_isGuest u_M x_1)]) C hK (tX12_isGuest l E a_M u_M x_1 (fX12_isGuest u_M x_1) rfl) lk_X12_476 ⟨rfl, rfl⟩ (by rw [hRf, hRl]; decide) ⟨Nat.zero_le _, Nat.zero_le _⟩ (PB.sub hP [0] rfl) (fun _ _ => rfl) hN (rc_X12 hK (hP 0 _ rfl)) rfl hl.1 rfl rfl (Nat.le_of_ble_eq_true rfl) dX12_areTwo_2 ?_
  refine lv_if_eq (tgt := 33) hx hb dX12_areTwo_5 (by decide) (fun c1 => ?_) (fun c1 => ?_)
  · have hf := (if_pos c1).symm.trans hf
    refine lv_iconst (v := 0) hx hb dX12_areTwo_33 (by decide) ?_
    subst hf
    exact hQ _ _ (0 : Int32) bz0 dX12_areTwo_34
  · have hf := (if_neg c1).symm.trans hf
    refine lv_aload_n hx hb dX12_areTwo_8 rfl (lv_at hl 0 rfl) ?_
    refine lv_iload_n hx hb dX12_areTwo_9 rfl (lv_at hl 2 rfl) ?_
    refine cxVP (As := [.int x_2]) (rest := []) (st1 := [.int (fX12_isGuest u_M x_2)]) C hK (tX12_isGuest l E a_M u_M x_2 (fX12_isGuest u_M x_2) rfl) lk_X12_476 ⟨rfl, rfl⟩ (by rw [hRf, hRl]; decide) ⟨Nat.zero_le _, Nat.zero_le _⟩ (PB.sub hP [0] rfl) (fun _ _ => rfl) hN (rc_X12 hK (hP 0 _ rfl)) rfl hl.1 rfl rfl (Nat.le_of_ble_eq_true rfl) dX12_areTwo_10 ?_
    refine lv_if_eq (tgt := 33) hx hb dX12_areTwo_13 (by decide) (fun c2 => ?_) (fun c2 => ?_)
    · have hf := (if_pos c2).symm.trans hf
      refine lv_iconst (v := 0) hx hb dX12_areTwo_33 (by decide) ?_
      subst hf
      exact hQ _ _ (0 : Int32) bz0 dX12_areTwo_34
    · have hf := (if_neg c2).symm.trans hf
      refine lv_iload_n hx hb dX12_areTwo_16 rfl (lv_at hl 1 rfl) ?_
      refine lv_iload_n hx hb dX12_areTwo_17 rfl (lv_at hl 2 rfl) ?_
      refine lv_icmp_eq (tgt := 33) hx hb dX12_areTwo_18 (by decide) (fun c3 => ?_) (fun c3 => ?_)
      · have hf := (if_pos c3).symm.trans hf
        refine lv_iconst (v := 0) hx hb dX12_areTwo_33 (by decide) ?_
        subst hf
        exact hQ _ _ (0 : Int32) bz0 dX12_areTwo_34
      · have hf := (if_neg c3).symm.trans hf
        refine lv_aload_n hx hb dX12_areTwo_21 rfl (lv_at hl 0 rfl) ?_
        refine lv_iload_n hx hb dX12_areTwo_22 rfl (lv_at hl 3 rfl) ?_
        refine cxVP (As := [.int x_3]) (rest := []) (st1 := [.int (fX12_isAct u_M x_3)]) C hK (tX12_isAct l E a_M u_M x_3 (fX12_isAct u_M x_3) rfl) lk_X12_485 ⟨rfl, rfl⟩ (by rw [hRf, hRl]; decide) ⟨Nat.zero_le _, Nat.zero_le _⟩ (PB.sub hP [0] rfl) (fun _ _ => rfl) hN (rc_X12 hK (hP 0 _ rfl)) rfl hl.1 rfl rfl (Nat.le_of_ble_eq_true rfl) dX12_areTwo_23 ?_
        refine lv_if_eq (tgt := 33) hx hb dX12_areTwo_26 (by decide) (fun c4 => ?_) (fun c4 => ?_)
        · have hf := (if_pos c4).symm.trans hf
          refine lv_iconst (v := 0) hx hb dX12_areTwo_33 (by decide) ?_
          subst hf
          exact hQ _ _ (0 : Int32) bz0 dX12_areTwo_34
        · have hf := (if_neg c4).symm.trans hf
          refine lv_iconst (v := 1) hx hb dX12_areTwo_29 (by decide) ?_
          refine lv_goto (tgt := 34) hx hb dX12_areTwo_30 (by decide) ?_
          subst hf
          exact hQ _ _ (1 : Int32) bz1 dX12_areTwo_34
set_option maxHeartbeats 4000000 in
set_option maxRecDepth 20000 in
theorem tX12_rests (l : Launch) (E : Ev) (a_M : Nat → Nat) (u_M : St) (x_1 : Int32) (x_2 : Int32) (x_3 : Int32) (res : Int32 × St) (hf : fX12_rests u_M x_1 x_2 x_3 = some res) : MX l E yX12_rests cX12_rests 4 (some .int) (rmm 4 95) [wModel E a_M u_M] (fun q => [wModel E a_M res.2]) [.ref (a_M 0), .int x_1, .int x_2, .int x_3] (some (.int res.1)) := by
  unfold fX12_rests at hf
  refine MX.ofI rfl (by decide) (Nat.le_of_ble_eq_true rfl) ?_
  intro p e R s m args below meth c ls Q ad H hRf hRl C hB hD hK hN hl hQ
  generalize hlocs : ([] : List Loc) = locs at hB ⊢
  clear hlocs
  have hx := C.1
  have hb := C.2.1
  have hl : lv_has ls 4 [(0, .ref (a_M 0)), (1, .int x_1), (2, .int x_2), (3, .int x_3)] := hl
  refine lv_aload_n hx hb dX12_rests_0 rfl (lv_at hl 0 rfl) ?_
  refine lv_iconst (v := 0) hx hb dX12_rests_1 (by decide) ?_
  refine pf_X12_X12_thrown C hK hB hD 0 rfl dX12_rests_2 (fun H locs u1 eu1 hB => ?_)
  have hf := ox_lt eu1 hf
  have hB : WB E ad s.heap [wModel E a_M u1] H locs := hB
  refine lv_aload_n hx hb dX12_rests_5 rfl (lv_at hl 0 rfl) ?_
  obtain ⟨r2, er2, hf⟩ := ox_ex hf
  refine cxVX (bs1 := (fun q => [wModel E a_M r2])) (As := []) (rest := []) (st1 := []) C hK (tX12_plainTried l E a_M u1 r2 er2.symm) lk_X12_365 (by rw [hRf, hRl]; decide) ⟨Nat.zero_le _, Nat.zero_le _⟩ hB hD hN [0] (by decide) rfl (fun _ => rfl) (fun _ => rfl) (rc_X12 hK (hB.1 0 _ rfl)) rfl hl.1 rfl rfl (Nat.le_of_ble_eq_true rfl) dX12_rests_6 (fun H locs q3 hB => ?_)
  have hB : WB E ad s.heap [wModel E a_M r2] H locs := hB
  refine lv_aload_n hx hb dX12_rests_9 rfl (lv_at hl 0 rfl) ?_
  refine lv_iload_n hx hb dX12_rests_10 rfl (lv_at hl 1 rfl) ?_
  refine lv_iload_n hx hb dX12_rests_11 rfl (lv_at hl 2 rfl) ?_
  refine lv_iload_n hx hb dX12_rests_12 rfl (lv_at hl 3 rfl) ?_
  refine cxVP (As := [.int x_1, .int x_2, .int x_3]) (rest := []) (st1 := [.int (fX12_areTwo r2 x_1 x_2 x_3)]) C hK (tX12_areTwo l E a_M r2 x_1 x_2 x_3 (fX12_areTwo r2 x_1 x_2 x_3) rfl) lk_X12_527 ⟨rfl, rfl⟩ (by rw [hRf, hRl]; decide) ⟨Nat.zero_le _, Nat.zero_le _⟩ (PB.sub hB.1 [0] rfl) (hB.old hD hN) (Nat.le_trans hN hB.2.2.1) (rc_X12 hK (hB.1 0 _ rfl)) rfl hl.1 rfl rfl (Nat.le_of_ble_eq_true rfl) dX12_rests_13 ?_
  refine lv_if_eq (tgt := 30) hx hb dX12_rests_16 (by decide) (fun c4 => ?_) (fun c4 => ?_)
  · have hf := (if_pos c4).symm.trans hf
    refine lv_iconst (v := (-1)) hx hb dX12_rests_30 (by decide) ?_
    have hf := Option.some.inj hf
    subst hf
    exact hQ _ _ H locs (fun _ => 0) hB dX12_rests_31
  · have hf := (if_neg c4).symm.trans hf
    refine lv_aload_n hx hb dX12_rests_19 rfl (lv_at hl 0 rfl) ?_
    refine lv_iload_n hx hb dX12_rests_20 rfl (lv_at hl 1 rfl) ?_
    refine lv_iload_n hx hb dX12_rests_21 rfl (lv_at hl 2 rfl) ?_
    refine lv_iload_n hx hb dX12_rests_22 rfl (lv_at hl 3 rfl) ?_
    refine lv_iconst (v := (-1)) hx hb dX12_rests_23 (by decide) ?_
    obtain ⟨r5, hr5, hf⟩ := ox_bind hf
    refine cxVP (As := [.int x_1, .int x_2, .int x_3, .int (-1 : Int32)]) (rest := []) (st1 := [.int r5]) C hK (tX12_restAt l E a_M r2 x_1 x_2 x_3 (-1 : Int32) r5 hr5) lk_X12_530 ⟨rfl, rfl⟩ (by rw [hRf, hRl]; decide) ⟨Nat.zero_le _, Nat.zero_le _⟩ (PB.sub hB.1 [0] rfl) (hB.old hD hN) (Nat.le_trans hN hB.2.2.1) (rc_X12 hK (hB.1 0 _ rfl)) rfl hl.1 rfl rfl (Nat.le_of_ble_eq_true rfl) dX12_rests_24 ?_
    refine lv_goto (tgt := 31) hx hb dX12_rests_27 (by decide) ?_
    have hf := Option.some.inj hf
    subst hf
    exact hQ _ _ H locs (fun _ => 0) hB dX12_rests_31
set_option maxHeartbeats 4000000 in
set_option maxRecDepth 20000 in
theorem tX12_rest (l : Launch) (E : Ev) (a_M : Nat → Nat) (u_M : St) (x_1 : Int32) (x_2 : Int32) (x_3 : Int32) (x_4 : Int32) (res : Int32 × St) (hf : fX12_rest u_M x_1 x_2 x_3 x_4 = some res) : MX l E yX12_rest cX12_rest 5 (some .int) (rmm 4 95) [wModel E a_M u_M] (fun q => [wModel E a_M res.2]) [.ref (a_M 0), .int x_1, .int x_2, .int x_3, .int x_4] (some (.int res.1)) := by
  unfold fX12_rest at hf
  refine MX.ofI rfl (by decide) (Nat.le_of_ble_eq_true rfl) ?_
  intro p e R s m args below meth c ls Q ad H hRf hRl C hB hD hK hN hl hQ
  generalize hlocs : ([] : List Loc) = locs at hB ⊢
  clear hlocs
  have hx := C.1
  have hb := C.2.1
  have hl : lv_has ls 5 [(0, .ref (a_M 0)), (1, .int x_1), (2, .int x_2), (3, .int x_3), (4, .int x_4)] := hl
  refine lv_aload_n hx hb dX12_rest_0 rfl (lv_at hl 0 rfl) ?_
  refine lv_iconst (v := 0) hx hb dX12_rest_1 (by decide) ?_
  refine pf_X12_X12_thrown C hK hB hD 0 rfl dX12_rest_2 (fun H locs u1 eu1 hB => ?_)
  have hf := ox_lt eu1 hf
  have hB : WB E ad s.heap [wModel E a_M u1] H locs := hB
  refine lv_aload_n hx hb dX12_rest_5 rfl (lv_at hl 0 rfl) ?_
  obtain ⟨r2, er2, hf⟩ := ox_ex hf
  refine cxVX (bs1 := (fun q => [wModel E a_M r2])) (As := []) (rest := []) (st1 := []) C hK (tX12_plainTried l E a_M u1 r2 er2.symm) lk_X12_365 (by rw [hRf, hRl]; decide) ⟨Nat.zero_le _, Nat.zero_le _⟩ hB hD hN [0] (by decide) rfl (fun _ => rfl) (fun _ => rfl) (rc_X12 hK (hB.1 0 _ rfl)) rfl hl.1 rfl rfl (Nat.le_of_ble_eq_true rfl) dX12_rest_6 (fun H locs q3 hB => ?_)
  have hB : WB E ad s.heap [wModel E a_M r2] H locs := hB
  refine lv_aload_n hx hb dX12_rest_9 rfl (lv_at hl 0 rfl) ?_
  refine lv_iload_n hx hb dX12_rest_10 rfl (lv_at hl 1 rfl) ?_
  refine lv_iload_n hx hb dX12_rest_11 rfl (lv_at hl 2 rfl) ?_
  refine lv_iload_n hx hb dX12_rest_12 rfl (lv_at hl 3 rfl) ?_
  refine cxVP (As := [.int x_1, .int x_2, .int x_3]) (rest := []) (st1 := [.int (fX12_areTwo r2 x_1 x_2 x_3)]) C hK (tX12_areTwo l E a_M r2 x_1 x_2 x_3 (fX12_areTwo r2 x_1 x_2 x_3) rfl) lk_X12_527 ⟨rfl, rfl⟩ (by rw [hRf, hRl]; decide) ⟨Nat.zero_le _, Nat.zero_le _⟩ (PB.sub hB.1 [0] rfl) (hB.old hD hN) (Nat.le_trans hN hB.2.2.1) (rc_X12 hK (hB.1 0 _ rfl)) rfl hl.1 rfl rfl (Nat.le_of_ble_eq_true rfl) dX12_rest_13 ?_
  refine lv_if_eq (tgt := 36) hx hb dX12_rest_16 (by decide) (fun c4 => ?_) (fun c4 => ?_)
  · have hf := (if_pos c4).symm.trans hf
    refine lv_iconst (v := (-1)) hx hb dX12_rest_36 (by decide) ?_
    have hf := Option.some.inj hf
    subst hf
    exact hQ _ _ H locs (fun _ => 0) hB dX12_rest_37
  · have hf := (if_neg c4).symm.trans hf
    refine lv_iload hx hb dX12_rest_19 (lv_at hl 4 rfl) ?_
    refine lv_if_lt (tgt := 36) hx hb dX12_rest_21 (by decide) (fun c5 => ?_) (fun c5 => ?_)
    · have hf := (if_pos c5).symm.trans hf
      refine lv_iconst (v := (-1)) hx hb dX12_rest_36 (by decide) ?_
      have hf := Option.some.inj hf
      subst hf
      exact hQ _ _ H locs (fun _ => 0) hB dX12_rest_37
    · have hf := (if_neg c5).symm.trans hf
      refine lv_aload_n hx hb dX12_rest_24 rfl (lv_at hl 0 rfl) ?_
      refine lv_iload_n hx hb dX12_rest_25 rfl (lv_at hl 1 rfl) ?_
      refine lv_iload_n hx hb dX12_rest_26 rfl (lv_at hl 2 rfl) ?_
      refine lv_iload_n hx hb dX12_rest_27 rfl (lv_at hl 3 rfl) ?_
      refine lv_iload hx hb dX12_rest_28 (lv_at hl 4 rfl) ?_
      obtain ⟨r6, hr6, hf⟩ := ox_bind hf
      refine cxVP (As := [.int x_1, .int x_2, .int x_3, .int x_4]) (rest := []) (st1 := [.int r6]) C hK (tX12_restAt l E a_M r2 x_1 x_2 x_3 x_4 r6 hr6) lk_X12_530 ⟨rfl, rfl⟩ (by rw [hRf, hRl]; decide) ⟨Nat.zero_le _, Nat.zero_le _⟩ (PB.sub hB.1 [0] rfl) (hB.old hD hN) (Nat.le_trans hN hB.2.2.1) (rc_X12 hK (hB.1 0 _ rfl)) rfl hl.1 rfl rfl (Nat.le_of_ble_eq_true rfl) dX12_rest_30 ?_
      refine lv_goto (tgt := 37) hx hb dX12_rest_33 (by decide) ?_
      have hf := Option.some.inj hf
      subst hf
      exact hQ _ _ H locs (fun _ => 0) hB dX12_rest_37
set_option maxHeartbeats 4000000 in
set_option maxRecDepth 20000 in
theorem tX12_dearest (l : Launch) (E : Ev) (a_M : Nat → Nat) (u_M : St) (x_1 : Int32) (res : Int32 × St) (hf : fX12_dearest u_M x_1 = some res) : MX l E yX12_dearest cX12_dearest 4 (some .int) (rmm 1 21) [wModel E a_M u_M] (fun q => [wModel E a_M res.2]) [.ref (a_M 0), .int x_1] (some (.int res.1)) := by
  unfold fX12_dearest at hf
  refine MX.ofI rfl (by decide) (Nat.le_of_ble_eq_true rfl) ?_
  intro p e R s m args below meth c ls Q ad H hRf hRl C hB hD hK hN hl hQ
  generalize hlocs : ([] : List Loc) = locs at hB ⊢
  clear hlocs
  have hx := C.1
  have hb := C.2.1
  have hl : lv_has ls 4 [(0, .ref (a_M 0)), (1, .int x_1)] := hl
  refine lv_aload_n hx hb dX12_dearest_0 rfl (lv_at hl 0 rfl) ?_
  refine lv_iconst (v := 0) hx hb dX12_dearest_1 (by decide) ?_
  refine pf_X12_X12_thrown C hK hB hD 0 rfl dX12_dearest_2 (fun H locs u1 eu1 hB => ?_)
  have hf := ox_lt eu1 hf
  have hB : WB E ad s.heap [wModel E a_M u1] H locs := hB
  refine lv_aload_n hx hb dX12_dearest_5 rfl (lv_at hl 0 rfl) ?_
  refine lv_iload_n hx hb dX12_dearest_6 rfl (lv_at hl 1 rfl) ?_
  refine cxVP (As := [.int x_1]) (rest := []) (st1 := [.int (fX12_isGuest u1 x_1)]) C hK (tX12_isGuest l E a_M u1 x_1 (fX12_isGuest u1 x_1) rfl) lk_X12_476 ⟨rfl, rfl⟩ (by rw [hRf, hRl]; decide) ⟨Nat.zero_le _, Nat.zero_le _⟩ (PB.sub hB.1 [0] rfl) (hB.old hD hN) (Nat.le_trans hN hB.2.2.1) (rc_X12 hK (hB.1 0 _ rfl)) rfl hl.1 rfl rfl (Nat.le_of_ble_eq_true rfl) dX12_dearest_7 ?_
  refine lv_if_ne (tgt := 15) hx hb dX12_dearest_10 (by decide) (fun c2 => ?_) (fun c2 => ?_)
  · have hf := (if_neg c2).symm.trans hf
    refine lv_bipush (v := (-2)) hx hb dX12_dearest_15 (by decide) ?_
    refine lv_istore_n (lv' := [(2, .int (-2 : Int32)), (0, .ref (a_M 0)), (1, .int x_1)]) hx hb dX12_dearest_17 rfl hl (by decide) rfl (fun ls hl => ?_)
    refine lv_iconst (v := 0) hx hb dX12_dearest_18 (by decide) ?_
    refine lv_istore_n (lv' := [(3, .int (0 : Int32)), (2, .int (-2 : Int32)), (0, .ref (a_M 0)), (1, .int x_1)]) hx hb dX12_dearest_19 rfl hl (by decide) rfl (fun ls hl => ?_)
    obtain ⟨X1, hX1, hf⟩ := ox_bind hf
    have hexit1 : ∀ y16, y16 = X1 → ∀ (ls : Array Slot) (H : Heap) (locs : List Loc), lv_has ls 4 [(2, .int y16)] → WB E ad s.heap [wModel E a_M u1] H locs → W p l e R s m args below meth c H locs 0 0 Q (F0 m 73 ls []) := by
      intro y16 hy ls H locs hl hB
      subst hy
      refine lv_iload_n hx hb dX12_dearest_73 rfl (lv_at hl 0 rfl) ?_
      have hf := Option.some.inj hf
      subst hf
      exact hQ _ _ H locs (fun _ => 0) hB dX12_dearest_74
    have hloop1 : ∀ (nf : Nat) (x3 : Int32) (x4 : Int32) (ls : Array Slot) (H : Heap) (locs : List Loc), lv_has ls 4 [(0, .ref (a_M 0)), (1, .int x_1), (2, .int x3), (3, .int x4)] → WB E ad s.heap [wModel E a_M u1] H locs → fX12_dearest_L1 x_1 u1 nf x3 x4 = some X1 → W p l e R s m args below meth c H locs 0 0 Q (F0 m 20 ls []) := by
      intro nf
      induction nf with
      | zero =>
        intro x3 x4 ls H locs hl hB hf
        simp [fX12_dearest_L1] at hf
      | succ nf ih =>
        intro x3 x4 ls H locs hl hB hf
        rw [fX12_dearest_L1] at hf
        refine lv_iload_n hx hb dX12_dearest_20 rfl (lv_at hl 3 rfl) ?_
        refine lv_aload_n hx hb dX12_dearest_21 rfl (lv_at hl 0 rfl) ?_
        refine gf_X12_X12_acts C hK (hB.1 0 _ rfl) dX12_dearest_22 ?_
        refine lv_icmp_ge (tgt := 73) hx hb dX12_dearest_25 (by decide) (fun c5 => ?_) (fun c5 => ?_)
        · have hf := (if_pos c5).symm.trans hf
          exact hexit1 _ (Option.some.inj hf) ls H locs (lv_sub hl [2] rfl) hB
        · have hf := (if_neg c5).symm.trans hf
          refine lv_iload_n hx hb dX12_dearest_28 rfl (lv_at hl 2 rfl) ?_
          obtain ⟨j7, ej7, hf⟩ := ox_ex hf
          have hj7 : ∀ (x6 : Int32) (ls : Array Slot) (H : Heap) (locs : List Loc), lv_has ls 4 [(0, .ref (a_M 0)), (1, .int x_1), (2, .int x6), (3, .int x4)] → WB E ad s.heap [wModel E a_M u1] H locs → j7 x6 = some X1 → W p l e R s m args below meth c H locs 0 0 Q (F0 m 67 ls []) := by
            intro x6 ls H locs hl hB hf
            have hf := ox_a1 ej7 hf
            obtain ⟨x8, ex8⟩ : ∃ z : Int32, z = (x4 + 1) := ⟨_, rfl⟩
            have hf := ox_lt ex8 hf
            refine lv_iinc (v := x8) (lv' := [(3, .int x8), (0, .ref (a_M 0)), (1, .int x_1), (2, .int x6)]) hx hb dX12_dearest_67 hl (k := 3) rfl (by rw [ex8]; rfl) (by decide) rfl (fun ls hl => ?_)
            refine lv_goto (tgt := 20) hx hb dX12_dearest_70 (by decide) ?_
            exact ih _ _ ls H locs (lv_sub hl [1, 2, 3, 0] rfl) hB hf
          obtain ⟨j9, ej9, hf⟩ := ox_ex hf
          have hj9 : ∀ (ls : Array Slot) (H : Heap) (locs : List Loc), lv_has ls 4 [(0, .ref (a_M 0)), (1, .int x_1), (3, .int x4)] → WB E ad s.heap [wModel E a_M u1] H locs → j9 = some X1 → W p l e R s m args below meth c H locs 0 0 Q (F0 m 65 ls []) := by
            intro ls H locs hl hB hf
            have hf := ox_a0 ej9 hf
            refine lv_iload_n hx hb dX12_dearest_65 rfl (lv_at hl 2 rfl) ?_
            refine lv_istore_n (lv' := [(2, .int x4), (0, .ref (a_M 0)), (1, .int x_1), (3, .int x4)]) hx hb dX12_dearest_66 rfl hl (by decide) rfl (fun ls hl => ?_)
            exact hj7 _ ls H locs (lv_sub hl [1, 2, 0, 3] rfl) hB hf
          refine lv_if_lt (tgt := 65) hx hb dX12_dearest_29 (by decide) (fun c10 => ?_) (fun c10 => ?_)
          · have hf := (if_pos c10).symm.trans hf
            exact hj9 ls H locs (lv_sub hl [0, 1, 3] rfl) hB hf
          · have hf := (if_neg c10).symm.trans hf
            refine lv_aload_n hx hb dX12_dearest_32 rfl (lv_at hl 0 rfl) ?_
            refine gf_X12_X12_actMood C hK (hB.1 0 _ rfl) dX12_dearest_33 ?_
            refine lv_iload_n hx hb dX12_dearest_36 rfl (lv_at hl 3 rfl) ?_
            obtain ⟨hn11, hf⟩ := ox_chk hf
            refine ld_X12_actMood C hK (hB.1 0 _ rfl) hn11 rfl dX12_dearest_37 ?_
            refine lv_aload_n hx hb dX12_dearest_38 rfl (lv_at hl 0 rfl) ?_
            refine gf_X12_X12_guestTaste C hK (hB.1 0 _ rfl) dX12_dearest_39 ?_
            refine lv_iload_n hx hb dX12_dearest_42 rfl (lv_at hl 1 rfl) ?_
            obtain ⟨hn12, hf⟩ := ox_chk hf
            refine ld_X12_guestTaste C hK (hB.1 0 _ rfl) hn12 rfl dX12_dearest_43 ?_
            refine cxSP (As := [.int (gA u1 25 (x4).toNatClampNeg), .int (gA u1 28 (x_1).toNatClampNeg)]) (rest := []) (st1 := [.int (fX12_less (gA u1 25 (x4).toNatClampNeg) (gA u1 28 (x_1).toNatClampNeg))]) C hK (tX12_less l E (gA u1 25 (x4).toNatClampNeg) (gA u1 28 (x_1).toNatClampNeg) (fX12_less (gA u1 25 (x4).toNatClampNeg) (gA u1 28 (x_1).toNatClampNeg)) rfl) lk_X12_420 ⟨rfl, rfl⟩ (by rw [hRf, hRl]; decide) ⟨Nat.zero_le _, Nat.zero_le _⟩ (PB.sub hB.1 [] rfl) (hB.old hD hN) (Nat.le_trans hN hB.2.2.1) rfl hl.1 rfl rfl (Nat.le_of_ble_eq_true rfl) dX12_dearest_44 ?_
            refine lv_aload_n hx hb dX12_dearest_47 rfl (lv_at hl 0 rfl) ?_
            refine gf_X12_X12_actMood C hK (hB.1 0 _ rfl) dX12_dearest_48 ?_
            refine lv_iload_n hx hb dX12_dearest_51 rfl (lv_at hl 2 rfl) ?_
            obtain ⟨hn13, hf⟩ := ox_chk hf
            refine ld_X12_actMood C hK (hB.1 0 _ rfl) hn13 rfl dX12_dearest_52 ?_
            refine lv_aload_n hx hb dX12_dearest_53 rfl (lv_at hl 0 rfl) ?_
            refine gf_X12_X12_guestTaste C hK (hB.1 0 _ rfl) dX12_dearest_54 ?_
            refine lv_iload_n hx hb dX12_dearest_57 rfl (lv_at hl 1 rfl) ?_
            obtain ⟨hn14, hf⟩ := ox_chk hf
            refine ld_X12_guestTaste C hK (hB.1 0 _ rfl) hn14 rfl dX12_dearest_58 ?_
            refine cxSP (As := [.int (gA u1 25 (x3).toNatClampNeg), .int (gA u1 28 (x_1).toNatClampNeg)]) (rest := [.int (fX12_less (gA u1 25 (x4).toNatClampNeg) (gA u1 28 (x_1).toNatClampNeg))]) (st1 := [.int (fX12_less (gA u1 25 (x3).toNatClampNeg) (gA u1 28 (x_1).toNatClampNeg)), .int (fX12_less (gA u1 25 (x4).toNatClampNeg) (gA u1 28 (x_1).toNatClampNeg))]) C hK (tX12_less l E (gA u1 25 (x3).toNatClampNeg) (gA u1 28 (x_1).toNatClampNeg) (fX12_less (gA u1 25 (x3).toNatClampNeg) (gA u1 28 (x_1).toNatClampNeg)) rfl) lk_X12_420 ⟨rfl, rfl⟩ (by rw [hRf, hRl]; decide) ⟨Nat.zero_le _, Nat.zero_le _⟩ (PB.sub hB.1 [] rfl) (hB.old hD hN) (Nat.le_trans hN hB.2.2.1) rfl hl.1 rfl rfl (Nat.le_of_ble_eq_true rfl) dX12_dearest_59 ?_
            refine lv_icmp_ge (tgt := 67) hx hb dX12_dearest_62 (by decide) (fun c15 => ?_) (fun c15 => ?_)
            · have hf := (if_pos c15).symm.trans hf
              exact hj7 _ ls H locs (lv_sub hl [0, 1, 2, 3] rfl) hB hf
            · have hf := (if_neg c15).symm.trans hf
              exact hj9 ls H locs (lv_sub hl [0, 1, 3] rfl) hB hf
    exact hloop1 fuel _ _ ls H locs (lv_sub hl [2, 3, 1, 0] rfl) hB hX1
  · have hf := (if_pos c2).symm.trans hf
    refine lv_iconst (v := (-1)) hx hb dX12_dearest_13 (by decide) ?_
    have hf := Option.some.inj hf
    subst hf
    exact hQ _ _ H locs (fun _ => 0) hB dX12_dearest_14
set_option maxHeartbeats 4000000 in
set_option maxRecDepth 20000 in
theorem tX12_quiet (l : Launch) (E : Ev) (a_M : Nat → Nat) (u_M : St) (x_1 : Int32) (x_2 : Int32) (res : Int64 × St) (hf : fX12_quiet u_M x_1 x_2 = some res) : MX l E yX12_quiet cX12_quiet 13 (some .long) (rmm 1 22) [wModel E a_M u_M] (fun q => [wModel E a_M res.2]) [.ref (a_M 0), .int x_1, .int x_2] (some (.long res.1)) := by
  unfold fX12_quiet at hf
  refine MX.ofL rfl (by decide) (Nat.le_of_ble_eq_true rfl) ?_
  intro p e R s m args below meth c ls Q ad H hRf hRl C hB hD hK hN hl hQ
  generalize hlocs : ([] : List Loc) = locs at hB ⊢
  clear hlocs
  have hx := C.1
  have hb := C.2.1
  have hl : lv_has ls 13 [(0, .ref (a_M 0)), (1, .int x_1), (2, .int x_2)] := hl
  refine lv_aload_n hx hb dX12_quiet_0 rfl (lv_at hl 0 rfl) ?_
  refine lv_iconst (v := 0) hx hb dX12_quiet_1 (by decide) ?_
  refine pf_X12_X12_thrown C hK hB hD 0 rfl dX12_quiet_2 (fun H locs u1 eu1 hB => ?_)
  have hf := ox_lt eu1 hf
  have hB : WB E ad s.heap [wModel E a_M u1] H locs := hB
  refine lv_iload_n hx hb dX12_quiet_5 rfl (lv_at hl 1 rfl) ?_
  refine lv_iconst (v := 0) hx hb dX12_quiet_6 (by decide) ?_
  refine lv_bipush (v := 6) hx hb dX12_quiet_7 (by decide) ?_
  refine cxSP (As := [.int x_1, .int (0 : Int32), .int (6 : Int32)]) (rest := []) (st1 := [.int (fX12_isIn x_1 (0 : Int32) (6 : Int32))]) C hK (tX12_isIn l E x_1 (0 : Int32) (6 : Int32) (fX12_isIn x_1 (0 : Int32) (6 : Int32)) rfl) lk_X12_202 ⟨rfl, rfl⟩ (by rw [hRf, hRl]; decide) ⟨Nat.zero_le _, Nat.zero_le _⟩ (PB.sub hB.1 [] rfl) (hB.old hD hN) (Nat.le_trans hN hB.2.2.1) rfl hl.1 rfl rfl (Nat.le_of_ble_eq_true rfl) dX12_quiet_9 ?_
  refine lv_if_eq (tgt := 24) hx hb dX12_quiet_12 (by decide) (fun c2 => ?_) (fun c2 => ?_)
  · have hf := (if_pos c2).symm.trans hf
    refine lv_ldc2 (v := -1) hx hb C.2.2.2.1 (C.2.2.2.2 _ mw_1937) dX12_quiet_24 ?_
    have hf := Option.some.inj hf
    subst hf
    exact hQ _ _ H locs (fun _ => 0) hB dX12_quiet_27
  · have hf := (if_neg c2).symm.trans hf
    refine lv_iload_n hx hb dX12_quiet_15 rfl (lv_at hl 2 rfl) ?_
    refine lv_iconst (v := 0) hx hb dX12_quiet_16 (by decide) ?_
    refine lv_iconst (v := 1) hx hb dX12_quiet_17 (by decide) ?_
    refine cxSP (As := [.int x_2, .int (0 : Int32), .int (1 : Int32)]) (rest := []) (st1 := [.int (fX12_isIn x_2 (0 : Int32) (1 : Int32))]) C hK (tX12_isIn l E x_2 (0 : Int32) (1 : Int32) (fX12_isIn x_2 (0 : Int32) (1 : Int32)) rfl) lk_X12_202 ⟨rfl, rfl⟩ (by rw [hRf, hRl]; decide) ⟨Nat.zero_le _, Nat.zero_le _⟩ (PB.sub hB.1 [] rfl) (hB.old hD hN) (Nat.le_trans hN hB.2.2.1) rfl hl.1 rfl rfl (Nat.le_of_ble_eq_true rfl) dX12_quiet_18 ?_
    refine lv_if_ne (tgt := 28) hx hb dX12_quiet_21 (by decide) (fun c3 => ?_) (fun c3 => ?_)
    · have hf := (if_neg c3).symm.trans hf
      refine lv_lconst (v := 1) hx hb dX12_quiet_28 (by decide) ?_
      refine lv_lstore_n (lv' := [(3, .long (1 : Int64)), (0, .ref (a_M 0)), (1, .int x_1), (2, .int x_2)]) hx hb dX12_quiet_29 rfl hl (by decide) rfl (fun ls hl => ?_)
      refine lv_lconst (v := 1) hx hb dX12_quiet_30 (by decide) ?_
      refine lv_lstore (lv' := [(5, .long (1 : Int64)), (3, .long (1 : Int64)), (0, .ref (a_M 0)), (1, .int x_1), (2, .int x_2)]) hx hb dX12_quiet_31 hl (by decide) rfl (fun ls hl => ?_)
      refine lv_iconst (v := 0) hx hb dX12_quiet_33 (by decide) ?_
      refine lv_istore (lv' := [(7, .int (0 : Int32)), (5, .long (1 : Int64)), (3, .long (1 : Int64)), (0, .ref (a_M 0)), (1, .int x_1), (2, .int x_2)]) hx hb dX12_quiet_34 hl (by decide) rfl (fun ls hl => ?_)
      obtain ⟨X1, hX1, hf⟩ := ox_bind hf
      have hexit1 : ∀ y11, y11 = X1 → ∀ (ls : Array Slot) (H : Heap) (locs : List Loc), lv_has ls 13 [(2, .int x_2), (3, .long y11.1), (5, .long y11.2)] → WB E ad s.heap [wModel E a_M u1] H locs → W p l e R s m args below meth c H locs 0 0 Q (F0 m 69 ls []) := by
        intro y11 hy ls H locs hl hB
        subst hy
        refine lv_lload hx hb dX12_quiet_69 (lv_at hl 2 rfl) ?_
        refine lv_topl (fun x12 ex12 => ?_)
        have hf := ox_lt ex12 hf
        refine lv_lstore (lv' := [(7, .long x12), (2, .int x_2), (3, .long y11.1), (5, .long y11.2)]) hx hb dX12_quiet_71 hl (by decide) rfl (fun ls hl => ?_)
        refine lv_lload_n hx hb dX12_quiet_73 rfl (lv_at hl 2 rfl) ?_
        refine lv_topl (fun x13 ex13 => ?_)
        have hf := ox_lt ex13 hf
        refine lv_lstore (lv' := [(9, .long x13), (7, .long x12), (2, .int x_2), (3, .long y11.1), (5, .long y11.2)]) hx hb dX12_quiet_74 hl (by decide) rfl (fun ls hl => ?_)
        obtain ⟨X2, hX2, hf⟩ := ox_bind hf
        have hexit2 : ∀ y19, y19 = X2 → ∀ (ls : Array Slot) (H : Heap) (locs : List Loc), lv_has ls 13 [(2, .int x_2), (3, .long y11.1), (5, .long y11.2), (7, .long y19)] → WB E ad s.heap [wModel E a_M u1] H locs → W p l e R s m args below meth c H locs 0 0 Q (F0 m 101 ls []) := by
          intro y19 hy ls H locs hl hB
          subst hy
          refine lv_iload_n hx hb dX12_quiet_101 rfl (lv_at hl 0 rfl) ?_
          refine lv_if_ne (tgt := 112) hx hb dX12_quiet_102 (by decide) (fun c20 => ?_) (fun c20 => ?_)
          · have hf := (if_neg c20).symm.trans hf
            refine lv_lload hx hb dX12_quiet_112 (lv_at hl 2 rfl) ?_
            refine lv_lload hx hb dX12_quiet_114 (lv_at hl 3 rfl) ?_
            obtain ⟨hn21, hf⟩ := ox_chk hf
            refine lv_ldiv hx hb dX12_quiet_116 hn21 ?_
            have hf := Option.some.inj hf
            subst hf
            exact hQ _ _ H locs (fun _ => 0) hB dX12_quiet_117
          · have hf := (if_pos c20).symm.trans hf
            refine lv_lload_n hx hb dX12_quiet_105 rfl (lv_at hl 1 rfl) ?_
            refine lv_lload hx hb dX12_quiet_106 (lv_at hl 3 rfl) ?_
            obtain ⟨hn22, hf⟩ := ox_chk hf
            refine lv_ldiv hx hb dX12_quiet_108 hn22 ?_
            refine lv_goto (tgt := 117) hx hb dX12_quiet_109 (by decide) ?_
            have hf := Option.some.inj hf
            subst hf
            exact hQ _ _ H locs (fun _ => 0) hB dX12_quiet_117
        have hloop2 : ∀ (nf : Nat) (x14 : Int64) (x15 : Int64) (ls : Array Slot) (H : Heap) (locs : List Loc), lv_has ls 13 [(2, .int x_2), (3, .long y11.1), (5, .long y11.2), (7, .long x14), (9, .long x15)] → WB E ad s.heap [wModel E a_M u1] H locs → fX12_quiet_L2 nf x14 x15 = some X2 → W p l e R s m args below meth c H locs 0 0 Q (F0 m 76 ls []) := by
          intro nf
          induction nf with
          | zero =>
            intro x14 x15 ls H locs hl hB hf
            simp [fX12_quiet_L2] at hf
          | succ nf ih =>
            intro x14 x15 ls H locs hl hB hf
            rw [fX12_quiet_L2] at hf
            refine lv_lload hx hb dX12_quiet_76 (lv_at hl 4 rfl) ?_
            refine lv_lconst (v := 0) hx hb dX12_quiet_78 (by decide) ?_
            refine W.lcmp hx hb dX12_quiet_79 ?_
            refine lx_if_eq (tgt := 101) hx hb dX12_quiet_80 (by decide) (fun c16 => ?_) (fun c16 => ?_)
            · have hf := (if_pos c16).symm.trans hf
              exact hexit2 _ (Option.some.inj hf) ls H locs (lv_sub hl [0, 1, 2, 3] rfl) hB
            · have hf := (if_neg c16).symm.trans hf
              refine lv_lload hx hb dX12_quiet_83 (lv_at hl 3 rfl) ?_
              refine lv_lload hx hb dX12_quiet_85 (lv_at hl 4 rfl) ?_
              obtain ⟨hn17, hf⟩ := ox_chk hf
              refine lv_lrem hx hb dX12_quiet_87 hn17 ?_
              refine lv_topl (fun x18 ex18 => ?_)
              have hf := ox_lt ex18 hf
              refine lv_lstore (lv' := [(11, .long x18), (2, .int x_2), (3, .long y11.1), (5, .long y11.2), (7, .long x14), (9, .long x15)]) hx hb dX12_quiet_88 hl (by decide) rfl (fun ls hl => ?_)
              refine lv_lload hx hb dX12_quiet_90 (lv_at hl 5 rfl) ?_
              refine lv_lstore (lv' := [(7, .long x15), (11, .long x18), (2, .int x_2), (3, .long y11.1), (5, .long y11.2), (9, .long x15)]) hx hb dX12_quiet_92 hl (by decide) rfl (fun ls hl => ?_)
              refine lv_lload hx hb dX12_quiet_94 (lv_at hl 1 rfl) ?_
              refine lv_lstore (lv' := [(9, .long x18), (7, .long x15), (11, .long x18), (2, .int x_2), (3, .long y11.1), (5, .long y11.2)]) hx hb dX12_quiet_96 hl (by decide) rfl (fun ls hl => ?_)
              refine lv_goto (tgt := 76) hx hb dX12_quiet_98 (by decide) ?_
              exact ih _ _ ls H locs (lv_sub hl [3, 4, 5, 1, 0] rfl) hB hf
        exact hloop2 fuel _ _ ls H locs (lv_sub hl [2, 3, 4, 1, 0] rfl) hB hX2
      have hloop1 : ∀ (nf : Nat) (x4 : Int64) (x5 : Int64) (x6 : Int32) (ls : Array Slot) (H : Heap) (locs : List Loc), lv_has ls 13 [(0, .ref (a_M 0)), (1, .int x_1), (2, .int x_2), (3, .long x4), (5, .long x5), (7, .int x6)] → WB E ad s.heap [wModel E a_M u1] H locs → fX12_quiet_L1 x_1 u1 nf x4 x5 x6 = some X1 → W p l e R s m args below meth c H locs 0 0 Q (F0 m 36 ls []) := by
        intro nf
        induction nf with
        | zero =>
          intro x4 x5 x6 ls H locs hl hB hf
          simp [fX12_quiet_L1] at hf
        | succ nf ih =>
          intro x4 x5 x6 ls H locs hl hB hf
          rw [fX12_quiet_L1] at hf
          refine lv_iload hx hb dX12_quiet_36 (lv_at hl 5 rfl) ?_
          refine lv_iload_n hx hb dX12_quiet_38 rfl (lv_at hl 1 rfl) ?_
          refine lv_icmp_ge (tgt := 69) hx hb dX12_quiet_39 (by decide) (fun c7 => ?_) (fun c7 => ?_)
          · have hf := (if_pos c7).symm.trans hf
            exact hexit1 _ (Option.some.inj hf) ls H locs (lv_sub hl [2, 3, 4] rfl) hB
          · have hf := (if_neg c7).symm.trans hf
            refine lv_lload_n hx hb dX12_quiet_42 rfl (lv_at hl 3 rfl) ?_
            refine lv_bipush (v := 100) hx hb dX12_quiet_43 (by decide) ?_
            refine lv_aload_n hx hb dX12_quiet_45 rfl (lv_at hl 0 rfl) ?_
            refine gf_X12_X12_once C hK (hB.1 0 _ rfl) dX12_quiet_46 ?_
            refine lv_iconst (v := 0) hx hb dX12_quiet_49 (by decide) ?_
            refine ld_X12_once C hK (hB.1 0 _ rfl) (by decide) rfl dX12_quiet_50 ?_
            refine lv_isub hx hb dX12_quiet_51 ?_
            refine lv_i2l hx hb dX12_quiet_52 rfl ?_
            refine lv_lmul hx hb dX12_quiet_53 ?_
            refine lv_topl (fun x8 ex8 => ?_)
            have hf := ox_lt ex8 hf
            refine lv_lstore_n (lv' := [(3, .long x8), (0, .ref (a_M 0)), (1, .int x_1), (2, .int x_2), (5, .long x5), (7, .int x6)]) hx hb dX12_quiet_54 rfl hl (by decide) rfl (fun ls hl => ?_)
            refine lv_lload hx hb dX12_quiet_55 (lv_at hl 4 rfl) ?_
            refine lv_ldc2 (v := 100) hx hb C.2.2.2.1 (C.2.2.2.2 _ mw_1938) dX12_quiet_57 ?_
            refine lv_lmul hx hb dX12_quiet_60 ?_
            refine lv_topl (fun x9 ex9 => ?_)
            have hf := ox_lt ex9 hf
            refine lv_lstore (lv' := [(5, .long x9), (3, .long x8), (0, .ref (a_M 0)), (1, .int x_1), (2, .int x_2), (7, .int x6)]) hx hb dX12_quiet_61 hl (by decide) rfl (fun ls hl => ?_)
            obtain ⟨x10, ex10⟩ : ∃ z : Int32, z = (x6 + 1) := ⟨_, rfl⟩
            have hf := ox_lt ex10 hf
            refine lv_iinc (v := x10) (lv' := [(7, .int x10), (5, .long x9), (3, .long x8), (0, .ref (a_M 0)), (1, .int x_1), (2, .int x_2)]) hx hb dX12_quiet_63 hl (k := 5) rfl (by rw [ex10]; rfl) (by decide) rfl (fun ls hl => ?_)
            refine lv_goto (tgt := 36) hx hb dX12_quiet_66 (by decide) ?_
            exact ih _ _ _ ls H locs (lv_sub hl [3, 4, 5, 2, 1, 0] rfl) hB hf
      exact hloop1 fuel _ _ _ ls H locs (lv_sub hl [3, 4, 5, 2, 1, 0] rfl) hB hX1
    · have hf := (if_pos c3).symm.trans hf
      refine lv_ldc2 (v := -1) hx hb C.2.2.2.1 (C.2.2.2.2 _ mw_1937) dX12_quiet_24 ?_
      have hf := Option.some.inj hf
      subst hf
      exact hQ _ _ H locs (fun _ => 0) hB dX12_quiet_27
set_option maxHeartbeats 4000000 in
set_option maxRecDepth 20000 in
theorem tX12_noted (l : Launch) (E : Ev) (a_M : Nat → Nat) (u_M : St) (x_1 : Int32) (x_2 : Int32) (x_3 : Int32) (res : Int32 × St) (hf : fX12_noted u_M x_1 x_2 x_3 = some res) : MX l E yX12_noted cX12_noted 4 (some .int) (rmm 0 0) [wModel E a_M u_M] (fun q => [wModel E a_M res.2]) [.ref (a_M 0), .int x_1, .int x_2, .int x_3] (some (.int res.1)) := by
  unfold fX12_noted at hf
  refine MX.ofI rfl (by decide) (Nat.le_of_ble_eq_true rfl) ?_
  intro p e R s m args below meth c ls Q ad H hRf hRl C hB hD hK hN hl hQ
  generalize hlocs : ([] : List Loc) = locs at hB ⊢
  clear hlocs
  have hx := C.1
  have hb := C.2.1
  have hl : lv_has ls 4 [(0, .ref (a_M 0)), (1, .int x_1), (2, .int x_2), (3, .int x_3)] := hl
  refine lv_aload_n hx hb dX12_noted_0 rfl (lv_at hl 0 rfl) ?_
  refine gf_X12_X12_seen1 C hK (hB.1 0 _ rfl) dX12_noted_1 ?_
  refine lv_iconst (v := 3) hx hb dX12_noted_4 (by decide) ?_
  refine lv_aload_n hx hb dX12_noted_5 rfl (lv_at hl 0 rfl) ?_
  refine gf_X12_X12_seenMany C hK (hB.1 0 _ rfl) dX12_noted_6 ?_
  refine lv_imul hx hb dX12_noted_9 ?_
  refine lv_iload_n hx hb dX12_noted_10 rfl (lv_at hl 1 rfl) ?_
  obtain ⟨hn1, hf⟩ := ox_chk hf
  refine st_X12_seen1 C hK hB hD 0 rfl hn1 rfl dX12_noted_11 (fun H locs u2 eu2 hB => ?_)
  have hf := ox_lt eu2 hf
  have hB : WB E ad s.heap [wModel E a_M u2] H locs := hB
  refine lv_aload_n hx hb dX12_noted_12 rfl (lv_at hl 0 rfl) ?_
  refine gf_X12_X12_seen1 C hK (hB.1 0 _ rfl) dX12_noted_13 ?_
  refine lv_iconst (v := 3) hx hb dX12_noted_16 (by decide) ?_
  refine lv_aload_n hx hb dX12_noted_17 rfl (lv_at hl 0 rfl) ?_
  refine gf_X12_X12_seenMany C hK (hB.1 0 _ rfl) dX12_noted_18 ?_
  refine lv_imul hx hb dX12_noted_21 ?_
  refine lv_iconst (v := 1) hx hb dX12_noted_22 (by decide) ?_
  refine lv_iadd hx hb dX12_noted_23 ?_
  refine lv_iload_n hx hb dX12_noted_24 rfl (lv_at hl 2 rfl) ?_
  obtain ⟨hn3, hf⟩ := ox_chk hf
  refine st_X12_seen1 C hK hB hD 0 rfl hn3 rfl dX12_noted_25 (fun H locs u4 eu4 hB => ?_)
  have hf := ox_lt eu4 hf
  have hB : WB E ad s.heap [wModel E a_M u4] H locs := hB
  refine lv_aload_n hx hb dX12_noted_26 rfl (lv_at hl 0 rfl) ?_
  refine gf_X12_X12_seen1 C hK (hB.1 0 _ rfl) dX12_noted_27 ?_
  refine lv_iconst (v := 3) hx hb dX12_noted_30 (by decide) ?_
  refine lv_aload_n hx hb dX12_noted_31 rfl (lv_at hl 0 rfl) ?_
  refine gf_X12_X12_seenMany C hK (hB.1 0 _ rfl) dX12_noted_32 ?_
  refine lv_imul hx hb dX12_noted_35 ?_
  refine lv_iconst (v := 2) hx hb dX12_noted_36 (by decide) ?_
  refine lv_iadd hx hb dX12_noted_37 ?_
  refine lv_iload_n hx hb dX12_noted_38 rfl (lv_at hl 3 rfl) ?_
  obtain ⟨hn5, hf⟩ := ox_chk hf
  refine st_X12_seen1 C hK hB hD 0 rfl hn5 rfl dX12_noted_39 (fun H locs u6 eu6 hB => ?_)
  have hf := ox_lt eu6 hf
  have hB : WB E ad s.heap [wModel E a_M u6] H locs := hB
  refine lv_aload_n hx hb dX12_noted_40 rfl (lv_at hl 0 rfl) ?_
  refine lv_dup hx hb dX12_noted_41 rfl ?_
  refine gf_X12_X12_seenMany C hK (hB.1 0 _ rfl) dX12_noted_42 ?_
  refine lv_iconst (v := 1) hx hb dX12_noted_45 (by decide) ?_
  refine lv_iadd hx hb dX12_noted_46 ?_
  refine lv_topi (fun x7 ex7 => ?_)
  have hf := ox_lt ex7 hf
  refine pf_X12_X12_seenMany C hK hB hD 0 rfl dX12_noted_47 (fun H locs u8 eu8 hB => ?_)
  have hf := ox_lt eu8 hf
  have hB : WB E ad s.heap [wModel E a_M u8] H locs := hB
  refine lv_aload_n hx hb dX12_noted_50 rfl (lv_at hl 0 rfl) ?_
  refine gf_X12_X12_seenMany C hK (hB.1 0 _ rfl) dX12_noted_51 ?_
  refine lv_iconst (v := 1) hx hb dX12_noted_54 (by decide) ?_
  refine lv_isub hx hb dX12_noted_55 ?_
  have hf := Option.some.inj hf
  subst hf
  exact hQ _ _ H locs (fun _ => 0) hB dX12_noted_56
set_option maxHeartbeats 4000000 in
set_option maxRecDepth 20000 in
theorem tX12_see (l : Launch) (E : Ev) (a_M : Nat → Nat) (u_M : St) (x_1 : Int32) (x_2 : Int32) (x_3 : Int32) (res : Int32 × St) (hf : fX12_see u_M x_1 x_2 x_3 = some res) : MX l E yX12_see cX12_see 4 (some .int) (rmm 1 23) [wModel E a_M u_M] (fun q => [wModel E a_M res.2]) [.ref (a_M 0), .int x_1, .int x_2, .int x_3] (some (.int res.1)) := by
  unfold fX12_see at hf
  refine MX.ofI rfl (by decide) (Nat.le_of_ble_eq_true rfl) ?_
  intro p e R s m args below meth c ls Q ad H hRf hRl C hB hD hK hN hl hQ
  generalize hlocs : ([] : List Loc) = locs at hB ⊢
  clear hlocs
  have hx := C.1
  have hb := C.2.1
  have hl : lv_has ls 4 [(0, .ref (a_M 0)), (1, .int x_1), (2, .int x_2), (3, .int x_3)] := hl
  refine lv_aload_n hx hb dX12_see_0 rfl (lv_at hl 0 rfl) ?_
  refine lv_iconst (v := 0) hx hb dX12_see_1 (by decide) ?_
  refine pf_X12_X12_thrown C hK hB hD 0 rfl dX12_see_2 (fun H locs u1 eu1 hB => ?_)
  have hf := ox_lt eu1 hf
  have hB : WB E ad s.heap [wModel E a_M u1] H locs := hB
  refine lv_aload_n hx hb dX12_see_5 rfl (lv_at hl 0 rfl) ?_
  refine gf_X12_X12_seenMany C hK (hB.1 0 _ rfl) dX12_see_6 ?_
  refine lv_bipush (v := 24) hx hb dX12_see_9 (by decide) ?_
  obtain ⟨j2, ej2, hf⟩ := ox_ex hf
  have hj2 : ∀ (ls : Array Slot) (H : Heap) (locs : List Loc), lv_has ls 4 [] → WB E ad s.heap [wModel E a_M u1] H locs → j2 = some res → W p l e R s m args below meth c H locs 0 0 Q (F0 m 35 ls []) := by
    intro ls H locs hl hB hf
    have hf := ox_a0 ej2 hf
    refine lv_iconst (v := (-1)) hx hb dX12_see_35 (by decide) ?_
    refine lv_goto (tgt := 54) hx hb dX12_see_36 (by decide) ?_
    have hf := Option.some.inj hf
    subst hf
    exact hQ _ _ H locs (fun _ => 0) hB dX12_see_54
  refine lv_icmp_eq (tgt := 35) hx hb dX12_see_11 (by decide) (fun c3 => ?_) (fun c3 => ?_)
  · have hf := (if_pos c3).symm.trans hf
    exact hj2 ls H locs (lv_sub hl [] rfl) hB hf
  · have hf := (if_neg c3).symm.trans hf
    refine lv_iload_n hx hb dX12_see_14 rfl (lv_at hl 1 rfl) ?_
    refine lv_iconst (v := 1) hx hb dX12_see_15 (by decide) ?_
    refine lv_bipush (v := 60) hx hb dX12_see_16 (by decide) ?_
    refine cxSP (As := [.int x_1, .int (1 : Int32), .int (60 : Int32)]) (rest := []) (st1 := [.int (fX12_isIn x_1 (1 : Int32) (60 : Int32))]) C hK (tX12_isIn l E x_1 (1 : Int32) (60 : Int32) (fX12_isIn x_1 (1 : Int32) (60 : Int32)) rfl) lk_X12_202 ⟨rfl, rfl⟩ (by rw [hRf, hRl]; decide) ⟨Nat.zero_le _, Nat.zero_le _⟩ (PB.sub hB.1 [] rfl) (hB.old hD hN) (Nat.le_trans hN hB.2.2.1) rfl hl.1 rfl rfl (Nat.le_of_ble_eq_true rfl) dX12_see_18 ?_
    refine lv_if_eq (tgt := 35) hx hb dX12_see_21 (by decide) (fun c4 => ?_) (fun c4 => ?_)
    · have hf := (if_pos c4).symm.trans hf
      exact hj2 ls H locs (lv_sub hl [] rfl) hB hf
    · have hf := (if_neg c4).symm.trans hf
      refine lv_iload_n hx hb dX12_see_24 rfl (lv_at hl 2 rfl) ?_
      refine lv_iconst (v := 0) hx hb dX12_see_25 (by decide) ?_
      refine lv_sipush (v := 999) hx hb dX12_see_26 (by decide) ?_
      refine cxSP (As := [.int x_2, .int (0 : Int32), .int (999 : Int32)]) (rest := []) (st1 := [.int (fX12_isIn x_2 (0 : Int32) (999 : Int32))]) C hK (tX12_isIn l E x_2 (0 : Int32) (999 : Int32) (fX12_isIn x_2 (0 : Int32) (999 : Int32)) rfl) lk_X12_202 ⟨rfl, rfl⟩ (by rw [hRf, hRl]; decide) ⟨Nat.zero_le _, Nat.zero_le _⟩ (PB.sub hB.1 [] rfl) (hB.old hD hN) (Nat.le_trans hN hB.2.2.1) rfl hl.1 rfl rfl (Nat.le_of_ble_eq_true rfl) dX12_see_29 ?_
      refine lv_if_ne (tgt := 39) hx hb dX12_see_32 (by decide) (fun c5 => ?_) (fun c5 => ?_)
      · have hf := (if_neg c5).symm.trans hf
        refine lv_aload_n hx hb dX12_see_39 rfl (lv_at hl 0 rfl) ?_
        refine lv_iload_n hx hb dX12_see_40 rfl (lv_at hl 1 rfl) ?_
        refine lv_iload_n hx hb dX12_see_41 rfl (lv_at hl 2 rfl) ?_
        refine lv_iload_n hx hb dX12_see_42 rfl (lv_at hl 3 rfl) ?_
        obtain ⟨x6, ex6, hf⟩ := ox_ex hf
        have hjx6 : W p l e R s m args below meth c H locs 0 0 Q (F0 m 51 ls [.int x6, .int x_2, .int x_1, .ref (a_M 0)]) := by
          obtain ⟨r7, hr7, hf⟩ := ox_bind hf
          refine cxVX (bs1 := (fun q => [wModel E a_M r7.2])) (As := [.int x_1, .int x_2, .int x6]) (rest := []) (st1 := [.int r7.1]) C hK (tX12_noted l E a_M u1 x_1 x_2 x6 r7 hr7) lk_X12_537 (by rw [hRf, hRl]; decide) ⟨Nat.zero_le _, Nat.zero_le _⟩ hB hD hN [0] (by decide) rfl (fun _ => rfl) (fun _ => rfl) (rc_X12 hK (hB.1 0 _ rfl)) rfl hl.1 rfl rfl (Nat.le_of_ble_eq_true rfl) dX12_see_51 (fun H locs q8 hB => ?_)
          have hB : WB E ad s.heap [wModel E a_M r7.2] H locs := hB
          have hf := Option.some.inj hf
          subst hf
          exact hQ _ _ H locs (fun _ => 0) hB dX12_see_54
        refine lv_if_eq (tgt := 50) hx hb dX12_see_43 (by decide) (fun c9 => ?_) (fun c9 => ?_)
        · refine lv_iconst (v := 0) hx hb dX12_see_50 (by decide) ?_
          exact ox_topi ((ex6).trans (if_pos c9)).symm hjx6
        · refine lv_iconst (v := 1) hx hb dX12_see_46 (by decide) ?_
          refine lv_goto (tgt := 51) hx hb dX12_see_47 (by decide) ?_
          exact ox_topi ((ex6).trans (if_neg c9)).symm hjx6
      · have hf := (if_pos c5).symm.trans hf
        exact hj2 ls H locs (lv_sub hl [] rfl) hB hf
set_option maxHeartbeats 4000000 in
set_option maxRecDepth 20000 in
theorem tX12_strike (l : Launch) (E : Ev) (a_M : Nat → Nat) (u_M : St) (x_1 : Int32) (res : Int32 × St) (hf : fX12_strike u_M x_1 = some res) : MX l E yX12_strike cX12_strike 2 (some .int) (rmm 1 23) [wModel E a_M u_M] (fun q => [wModel E a_M res.2]) [.ref (a_M 0), .int x_1] (some (.int res.1)) := by
  unfold fX12_strike at hf
  refine MX.ofI rfl (by decide) (Nat.le_of_ble_eq_true rfl) ?_
  intro p e R s m args below meth c ls Q ad H hRf hRl C hB hD hK hN hl hQ
  generalize hlocs : ([] : List Loc) = locs at hB ⊢
  clear hlocs
  have hx := C.1
  have hb := C.2.1
  have hl : lv_has ls 2 [(0, .ref (a_M 0)), (1, .int x_1)] := hl
  refine lv_aload_n hx hb dX12_strike_0 rfl (lv_at hl 0 rfl) ?_
  refine lv_iconst (v := 0) hx hb dX12_strike_1 (by decide) ?_
  refine pf_X12_X12_thrown C hK hB hD 0 rfl dX12_strike_2 (fun H locs u1 eu1 hB => ?_)
  have hf := ox_lt eu1 hf
  have hB : WB E ad s.heap [wModel E a_M u1] H locs := hB
  refine lv_aload_n hx hb dX12_strike_5 rfl (lv_at hl 0 rfl) ?_
  refine gf_X12_X12_seenMany C hK (hB.1 0 _ rfl) dX12_strike_6 ?_
  refine lv_bipush (v := 24) hx hb dX12_strike_9 (by decide) ?_
  obtain ⟨j2, ej2, hf⟩ := ox_ex hf
  have hj2 : ∀ (ls : Array Slot) (H : Heap) (locs : List Loc), lv_has ls 2 [] → WB E ad s.heap [wModel E a_M u1] H locs → j2 = some res → W p l e R s m args below meth c H locs 0 0 Q (F0 m 26 ls []) := by
    intro ls H locs hl hB hf
    have hf := ox_a0 ej2 hf
    refine lv_iconst (v := (-1)) hx hb dX12_strike_26 (by decide) ?_
    refine lv_goto (tgt := 37) hx hb dX12_strike_27 (by decide) ?_
    have hf := Option.some.inj hf
    subst hf
    exact hQ _ _ H locs (fun _ => 0) hB dX12_strike_37
  refine lv_icmp_eq (tgt := 26) hx hb dX12_strike_11 (by decide) (fun c3 => ?_) (fun c3 => ?_)
  · have hf := (if_pos c3).symm.trans hf
    exact hj2 ls H locs (lv_sub hl [] rfl) hB hf
  · have hf := (if_neg c3).symm.trans hf
    refine lv_iload_n hx hb dX12_strike_14 rfl (lv_at hl 1 rfl) ?_
    refine lv_if_lt (tgt := 26) hx hb dX12_strike_15 (by decide) (fun c4 => ?_) (fun c4 => ?_)
    · have hf := (if_pos c4).symm.trans hf
      exact hj2 ls H locs (lv_sub hl [] rfl) hB hf
    · have hf := (if_neg c4).symm.trans hf
      refine lv_iload_n hx hb dX12_strike_18 rfl (lv_at hl 1 rfl) ?_
      refine lv_aload_n hx hb dX12_strike_19 rfl (lv_at hl 0 rfl) ?_
      refine gf_X12_X12_seenMany C hK (hB.1 0 _ rfl) dX12_strike_20 ?_
      refine lv_icmp_lt (tgt := 30) hx hb dX12_strike_23 (by decide) (fun c5 => ?_) (fun c5 => ?_)
      · have hf := (if_pos c5).symm.trans hf
        refine lv_aload_n hx hb dX12_strike_30 rfl (lv_at hl 0 rfl) ?_
        refine lv_iconst (v := (-1)) hx hb dX12_strike_31 (by decide) ?_
        refine lv_iload_n hx hb dX12_strike_32 rfl (lv_at hl 1 rfl) ?_
        refine lv_iconst (v := 0) hx hb dX12_strike_33 (by decide) ?_
        obtain ⟨r6, hr6, hf⟩ := ox_bind hf
        refine cxVX (bs1 := (fun q => [wModel E a_M r6.2])) (As := [.int (-1 : Int32), .int x_1, .int (0 : Int32)]) (rest := []) (st1 := [.int r6.1]) C hK (tX12_noted l E a_M u1 (-1 : Int32) x_1 (0 : Int32) r6 hr6) lk_X12_537 (by rw [hRf, hRl]; decide) ⟨Nat.zero_le _, Nat.zero_le _⟩ hB hD hN [0] (by decide) rfl (fun _ => rfl) (fun _ => rfl) (rc_X12 hK (hB.1 0 _ rfl)) rfl hl.1 rfl rfl (Nat.le_of_ble_eq_true rfl) dX12_strike_34 (fun H locs q7 hB => ?_)
        have hB : WB E ad s.heap [wModel E a_M r6.2] H locs := hB
        have hf := Option.some.inj hf
        subst hf
        exact hQ _ _ H locs (fun _ => 0) hB dX12_strike_37
      · have hf := (if_neg c5).symm.trans hf
        exact hj2 ls H locs (lv_sub hl [] rfl) hB hf
set_option maxHeartbeats 4000000 in
set_option maxRecDepth 20000 in
theorem tX12_known (l : Launch) (E : Ev) (a_M : Nat → Nat) (u_M : St) (x_1 : Int32) (res : Int32 × St) (hf : fX12_known u_M x_1 = res) : MX l E yX12_known cX12_known 2 (some .boolean) (rmm 1 22) [wModel E a_M u_M] (fun q => [wModel E a_M res.2]) [.ref (a_M 0), .int x_1] (some (.int res.1)) := by
  unfold fX12_known at hf
  refine MX.ofZZ rfl (by decide) (Nat.le_of_ble_eq_true rfl) ?_
  intro p e R s m args below meth c ls Q ad H hRf hRl C hB hD hK hN hl hQ
  generalize hlocs : ([] : List Loc) = locs at hB ⊢
  clear hlocs
  have hx := C.1
  have hb := C.2.1
  have hl : lv_has ls 2 [(0, .ref (a_M 0)), (1, .int x_1)] := hl
  refine lv_aload_n hx hb dX12_known_0 rfl (lv_at hl 0 rfl) ?_
  refine lv_iconst (v := 0) hx hb dX12_known_1 (by decide) ?_
  refine pf_X12_X12_thrown C hK hB hD 0 rfl dX12_known_2 (fun H locs u1 eu1 hB => ?_)
  have hf := ox_lt eu1 hf
  have hB : WB E ad s.heap [wModel E a_M u1] H locs := hB
  refine lv_iload_n hx hb dX12_known_5 rfl (lv_at hl 1 rfl) ?_
  refine lv_iconst (v := (-1)) hx hb dX12_known_6 (by decide) ?_
  refine lv_aload_n hx hb dX12_known_7 rfl (lv_at hl 0 rfl) ?_
  refine gf_X12_X12_seenMany C hK (hB.1 0 _ rfl) dX12_known_8 ?_
  refine cxSP (As := [.int x_1, .int (-1 : Int32), .int (gI u1 75)]) (rest := []) (st1 := [.int (fX12_isIn x_1 (-1 : Int32) (gI u1 75))]) C hK (tX12_isIn l E x_1 (-1 : Int32) (gI u1 75) (fX12_isIn x_1 (-1 : Int32) (gI u1 75)) rfl) lk_X12_202 ⟨rfl, rfl⟩ (by rw [hRf, hRl]; decide) ⟨Nat.zero_le _, Nat.zero_le _⟩ (PB.sub hB.1 [] rfl) (hB.old hD hN) (Nat.le_trans hN hB.2.2.1) rfl hl.1 rfl rfl (Nat.le_of_ble_eq_true rfl) dX12_known_11 ?_
  refine lv_if_ne (tgt := 19) hx hb dX12_known_14 (by decide) (fun c2 => ?_) (fun c2 => ?_)
  · have hf := (if_neg c2).symm.trans hf
    refine lv_aload_n hx hb dX12_known_19 rfl (lv_at hl 0 rfl) ?_
    refine lv_iload_n hx hb dX12_known_20 rfl (lv_at hl 1 rfl) ?_
    refine pf_X12_X12_knownTold C hK hB hD 0 rfl dX12_known_21 (fun H locs u3 eu3 hB => ?_)
    have hf := ox_lt eu3 hf
    have hB : WB E ad s.heap [wModel E a_M u3] H locs := hB
    refine lv_iconst (v := 1) hx hb dX12_known_24 (by decide) ?_
    subst hf
    exact hQ _ _ H locs (fun _ => 0) (1 : Int32) bz1 hB dX12_known_25
  · have hf := (if_pos c2).symm.trans hf
    refine lv_iconst (v := 0) hx hb dX12_known_17 (by decide) ?_
    subst hf
    exact hQ _ _ H locs (fun _ => 0) (0 : Int32) bz0 hB dX12_known_18
set_option maxHeartbeats 4000000 in
set_option maxRecDepth 20000 in
theorem tX12_knownBy (l : Launch) (E : Ev) (a_M : Nat → Nat) (u_M : St) (res : Int32) (hf : fX12_knownBy u_M = res) : MP l E yX12_knownBy cX12_knownBy 1 (some .int) (rmm 0 0) [wModel E a_M u_M] [.ref (a_M 0)] (some (.int res)) := by
  unfold fX12_knownBy at hf
  refine MP.ofI rfl (by decide) (Nat.le_of_ble_eq_true rfl) ?_
  intro p e R s m args below meth c ls Q hRf hRl C hP hK hN hl hQ
  have hx := C.1
  have hb := C.2.1
  have hl : lv_has ls 1 [(0, .ref (a_M 0))] := hl
  refine lv_aload_n hx hb dX12_knownBy_0 rfl (lv_at hl 0 rfl) ?_
  refine gf_X12_X12_knownTold C hK (hP 0 _ rfl) dX12_knownBy_1 ?_
  obtain ⟨x1, ex1, hf⟩ := ox_ex hf
  have hjx1 : W p l e R s m args below meth c s.heap [] 0 0 Q (F0 m 18 ls [.int x1]) := by
    subst hf
    exact hQ _ _ dX12_knownBy_18
  refine lv_if_ge (tgt := 14) hx hb dX12_knownBy_4 (by decide) (fun c2 => ?_) (fun c2 => ?_)
  · refine lv_aload_n hx hb dX12_knownBy_14 rfl (lv_at hl 0 rfl) ?_
    refine gf_X12_X12_knownTold C hK (hP 0 _ rfl) dX12_knownBy_15 ?_
    exact ox_topi ((ex1).trans (if_pos c2)).symm hjx1
  · refine lv_aload_n hx hb dX12_knownBy_7 rfl (lv_at hl 0 rfl) ?_
    refine gf_X12_X12_seenMany C hK (hP 0 _ rfl) dX12_knownBy_8 ?_
    refine lv_goto (tgt := 18) hx hb dX12_knownBy_11 (by decide) ?_
    exact ox_topi ((ex1).trans (if_neg c2)).symm hjx1
set_option maxHeartbeats 4000000 in
set_option maxRecDepth 20000 in
theorem tX12_isSo (l : Launch) (E : Ev) (a_M : Nat → Nat) (u_M : St) (x_1 : Int32) (res : Int32) (hf : fX12_isSo u_M x_1 = some res) : MP l E yX12_isSo cX12_isSo 3 (some .boolean) (rmm 1 21) [wModel E a_M u_M] [.ref (a_M 0), .int x_1] (some (.int res)) := by
  unfold fX12_isSo at hf
  refine MP.ofZZ rfl (by decide) (Nat.le_of_ble_eq_true rfl) ?_
  intro p e R s m args below meth c ls Q hRf hRl C hP hK hN hl hQ
  have hx := C.1
  have hb := C.2.1
  have hl : lv_has ls 3 [(0, .ref (a_M 0)), (1, .int x_1)] := hl
  refine lv_iconst (v := 0) hx hb dX12_isSo_0 (by decide) ?_
  refine lv_istore_n (lv' := [(2, .int (0 : Int32)), (0, .ref (a_M 0)), (1, .int x_1)]) hx hb dX12_isSo_1 rfl hl (by decide) rfl (fun ls hl => ?_)
  obtain ⟨X1, hX1, hf⟩ := ox_bind hf
  have hexit1 : ∀ y17, .inl y17 = X1 → ∀ (ls : Array Slot), lv_has ls 3 [] → W p l e R s m args below meth c s.heap [] 0 0 Q (F0 m 84 ls []) := by
    intro y17 hy ls hl
    subst hy
    have hf := ox_inl hf
    refine lv_iconst (v := 1) hx hb dX12_isSo_84 (by decide) ?_
    have hf := Option.some.inj hf
    subst hf
    exact hQ _ _ (1 : Int32) bz1 dX12_isSo_85
  have hret1 : ∀ r, .inr r = X1 → r = res := by
    intro r hr
    subst hr
    exact Option.some.inj (ox_inr hf)
  have hloop1 : ∀ (nf : Nat) (x1 : Int32) (ls : Array Slot), lv_has ls 3 [(0, .ref (a_M 0)), (1, .int x_1), (2, .int x1)] → fX12_isSo_L1 u_M x_1 nf x1 = some X1 → W p l e R s m args below meth c s.heap [] 0 0 Q (F0 m 2 ls []) := by
    intro nf
    induction nf with
    | zero =>
      intro x1 ls hl hf
      simp [fX12_isSo_L1] at hf
    | succ nf ih =>
      intro x1 ls hl hf
      rw [fX12_isSo_L1] at hf
      refine lv_iload_n hx hb dX12_isSo_2 rfl (lv_at hl 2 rfl) ?_
      refine lv_aload_n hx hb dX12_isSo_3 rfl (lv_at hl 0 rfl) ?_
      refine cxVP (As := []) (rest := [.int x1]) (st1 := [.int (fX12_knownBy u_M), .int x1]) C hK (tX12_knownBy l E a_M u_M (fX12_knownBy u_M) rfl) lk_X12_540 ⟨rfl, rfl⟩ (by rw [hRf, hRl]; decide) ⟨Nat.zero_le _, Nat.zero_le _⟩ (PB.sub hP [0] rfl) (fun _ _ => rfl) hN (rc_X12 hK (hP 0 _ rfl)) rfl hl.1 rfl rfl (Nat.le_of_ble_eq_true rfl) dX12_isSo_4 ?_
      refine lv_icmp_ge (tgt := 84) hx hb dX12_isSo_7 (by decide) (fun c2 => ?_) (fun c2 => ?_)
      · have hf := (if_pos c2).symm.trans hf
        exact hexit1 _ (Option.some.inj hf) ls (lv_sub hl [] rfl)
      · have hf := (if_neg c2).symm.trans hf
        refine lv_aload_n hx hb dX12_isSo_10 rfl (lv_at hl 0 rfl) ?_
        refine gf_X12_X12_counts C hK (hP 0 _ rfl) dX12_isSo_11 ?_
        refine lv_iload_n hx hb dX12_isSo_14 rfl (lv_at hl 2 rfl) ?_
        obtain ⟨hn3, hf⟩ := ox_chk hf
        refine ld_X12_counts C hK (hP 0 _ rfl) hn3 rfl dX12_isSo_15 ?_
        obtain ⟨j4, ej4, hf⟩ := ox_ex hf
        have hj4 : ∀ (ls : Array Slot), lv_has ls 3 [(0, .ref (a_M 0)), (1, .int x_1), (2, .int x1)] → j4 = some X1 → W p l e R s m args below meth c s.heap [] 0 0 Q (F0 m 78 ls []) := by
          intro ls hl hf
          have hf := ox_a0 ej4 hf
          obtain ⟨x5, ex5⟩ : ∃ z : Int32, z = (x1 + 1) := ⟨_, rfl⟩
          have hf := ox_lt ex5 hf
          refine lv_iinc (v := x5) (lv' := [(2, .int x5), (0, .ref (a_M 0)), (1, .int x_1)]) hx hb dX12_isSo_78 hl (k := 2) rfl (by rw [ex5]; rfl) (by decide) rfl (fun ls hl => ?_)
          refine lv_goto (tgt := 2) hx hb dX12_isSo_81 (by decide) ?_
          exact ih _ ls (lv_sub hl [1, 2, 0] rfl) hf
        refine lv_if_eq (tgt := 78) hx hb dX12_isSo_16 (by decide) (fun c6 => ?_) (fun c6 => ?_)
        · have hf := (if_pos c6).symm.trans hf
          exact hj4 ls (lv_sub hl [0, 1, 2] rfl) hf
        · have hf := (if_neg c6).symm.trans hf
          refine lv_aload_n hx hb dX12_isSo_19 rfl (lv_at hl 0 rfl) ?_
          refine gf_X12_X12_seen1 C hK (hP 0 _ rfl) dX12_isSo_20 ?_
          refine lv_iconst (v := 3) hx hb dX12_isSo_23 (by decide) ?_
          refine lv_iload_n hx hb dX12_isSo_24 rfl (lv_at hl 2 rfl) ?_
          refine lv_imul hx hb dX12_isSo_25 ?_
          obtain ⟨hn7, hf⟩ := ox_chk hf
          refine ld_X12_seen1 C hK (hP 0 _ rfl) hn7 rfl dX12_isSo_26 ?_
          refine lv_iload_n hx hb dX12_isSo_27 rfl (lv_at hl 1 rfl) ?_
          refine lv_icmp_ne (tgt := 78) hx hb dX12_isSo_28 (by decide) (fun c8 => ?_) (fun c8 => ?_)
          · have hf := (if_neg c8).symm.trans hf
            exact hj4 ls (lv_sub hl [0, 1, 2] rfl) hf
          · have hf := (if_pos c8).symm.trans hf
            refine lv_aload_n hx hb dX12_isSo_31 rfl (lv_at hl 0 rfl) ?_
            refine lv_iconst (v := 1) hx hb dX12_isSo_32 (by decide) ?_
            obtain ⟨r9, hr9, hf⟩ := ox_bind hf
            refine cxVP (As := [.int (1 : Int32)]) (rest := []) (st1 := [.int r9]) C hK (tX12_groundAll l E a_M u_M (1 : Int32) r9 hr9) lk_X12_410 ⟨rfl, rfl⟩ (by rw [hRf, hRl]; decide) ⟨Nat.zero_le _, Nat.zero_le _⟩ (PB.sub hP [0] rfl) (fun _ _ => rfl) hN (rc_X12 hK (hP 0 _ rfl)) rfl hl.1 rfl rfl (Nat.le_of_ble_eq_true rfl) dX12_isSo_33 ?_
            refine lv_aload_n hx hb dX12_isSo_36 rfl (lv_at hl 0 rfl) ?_
            refine gf_X12_X12_seen1 C hK (hP 0 _ rfl) dX12_isSo_37 ?_
            refine lv_iconst (v := 3) hx hb dX12_isSo_40 (by decide) ?_
            refine lv_iload_n hx hb dX12_isSo_41 rfl (lv_at hl 2 rfl) ?_
            refine lv_imul hx hb dX12_isSo_42 ?_
            refine lv_iconst (v := 1) hx hb dX12_isSo_43 (by decide) ?_
            refine lv_iadd hx hb dX12_isSo_44 ?_
            obtain ⟨hn10, hf⟩ := ox_chk hf
            refine ld_X12_seen1 C hK (hP 0 _ rfl) hn10 rfl dX12_isSo_45 ?_
            obtain ⟨x11, ex11, hf⟩ := ox_ex hf
            have hjx11 : W p l e R s m args below meth c s.heap [] 0 0 Q (F0 m 54 ls [.int x11]) := by
              refine lv_aload_n hx hb dX12_isSo_54 rfl (lv_at hl 0 rfl) ?_
              refine gf_X12_X12_seen1 C hK (hP 0 _ rfl) dX12_isSo_55 ?_
              refine lv_iconst (v := 3) hx hb dX12_isSo_58 (by decide) ?_
              refine lv_iload_n hx hb dX12_isSo_59 rfl (lv_at hl 2 rfl) ?_
              refine lv_imul hx hb dX12_isSo_60 ?_
              refine lv_iconst (v := 2) hx hb dX12_isSo_61 (by decide) ?_
              refine lv_iadd hx hb dX12_isSo_62 ?_
              obtain ⟨hn12, hf⟩ := ox_chk hf
              refine ld_X12_seen1 C hK (hP 0 _ rfl) hn12 rfl dX12_isSo_63 ?_
              refine lv_iconst (v := 1) hx hb dX12_isSo_64 (by decide) ?_
              obtain ⟨x13, ex13, hf⟩ := ox_ex hf
              have hjx13 : W p l e R s m args below meth c s.heap [] 0 0 Q (F0 m 73 ls [.int x13, .int x11]) := by
                refine lv_icmp_eq (tgt := 78) hx hb dX12_isSo_73 (by decide) (fun c14 => ?_) (fun c14 => ?_)
                · have hf := (if_pos c14).symm.trans hf
                  exact hj4 ls (lv_sub hl [0, 1, 2] rfl) hf
                · have hf := (if_neg c14).symm.trans hf
                  refine lv_iconst (v := 0) hx hb dX12_isSo_76 (by decide) ?_
                  have hf := hret1 _ (Option.some.inj hf)
                  subst hf
                  exact hQ _ _ (0 : Int32) bz0 dX12_isSo_77
              refine lv_icmp_ne (tgt := 72) hx hb dX12_isSo_65 (by decide) (fun c15 => ?_) (fun c15 => ?_)
              · refine lv_iconst (v := 0) hx hb dX12_isSo_72 (by decide) ?_
                exact ox_topi ((ex13).trans (if_neg c15)).symm hjx13
              · refine lv_iconst (v := 1) hx hb dX12_isSo_68 (by decide) ?_
                refine lv_goto (tgt := 73) hx hb dX12_isSo_69 (by decide) ?_
                exact ox_topi ((ex13).trans (if_pos c15)).symm hjx13
            refine lv_icmp_lt (tgt := 53) hx hb dX12_isSo_46 (by decide) (fun c16 => ?_) (fun c16 => ?_)
            · refine lv_iconst (v := 0) hx hb dX12_isSo_53 (by decide) ?_
              exact ox_topi ((ex11).trans (if_pos c16)).symm hjx11
            · refine lv_iconst (v := 1) hx hb dX12_isSo_49 (by decide) ?_
              refine lv_goto (tgt := 54) hx hb dX12_isSo_50 (by decide) ?_
              exact ox_topi ((ex11).trans (if_neg c16)).symm hjx11
  exact hloop1 fuel _ ls (lv_sub hl [1, 2, 0] rfl) hX1
set_option maxHeartbeats 4000000 in
set_option maxRecDepth 20000 in
theorem tX12_layMood (l : Launch) (E : Ev) (a_M : Nat → Nat) (u_M : St) (x_1 : Int32) (x_2 : Int32) (res : St) (hf : fX12_layMood u_M x_1 x_2 = some res) : MX l E yX12_layMood cX12_layMood 3 none (rmm 1 22) [wModel E a_M u_M] (fun q => [wModel E a_M res]) [.ref (a_M 0), .int x_1, .int x_2] none := by
  unfold fX12_layMood at hf
  refine MX.ofV rfl (by decide) (Nat.le_of_ble_eq_true rfl) ?_
  intro p e R s m args below meth c ls Q ad H hRf hRl C hB hD hK hN hl hQ
  generalize hlocs : ([] : List Loc) = locs at hB ⊢
  clear hlocs
  have hx := C.1
  have hb := C.2.1
  have hl : lv_has ls 3 [(0, .ref (a_M 0)), (1, .int x_1), (2, .int x_2)] := hl
  refine lv_aload_n hx hb dX12_layMood_0 rfl (lv_at hl 0 rfl) ?_
  refine lv_iconst (v := 1) hx hb dX12_layMood_1 (by decide) ?_
  obtain ⟨r1, hr1, hf⟩ := ox_bind hf
  refine cxVX (bs1 := (fun q => [wModel E a_M r1])) (As := [.int (1 : Int32)]) (rest := []) (st1 := []) C hK (tX12_atFirst l E a_M u_M (1 : Int32) r1 hr1) lk_X12_358 (by rw [hRf, hRl]; decide) ⟨Nat.zero_le _, Nat.zero_le _⟩ hB hD hN [0] (by decide) rfl (fun _ => rfl) (fun _ => rfl) (rc_X12 hK (hB.1 0 _ rfl)) rfl hl.1 rfl rfl (Nat.le_of_ble_eq_true rfl) dX12_layMood_2 (fun H locs q2 hB => ?_)
  have hB : WB E ad s.heap [wModel E a_M r1] H locs := hB
  refine lv_aload_n hx hb dX12_layMood_5 rfl (lv_at hl 0 rfl) ?_
  obtain ⟨r3, er3, hf⟩ := ox_ex hf
  refine cxVX (bs1 := (fun q => [wModel E a_M r3])) (As := []) (rest := []) (st1 := []) C hK (tX12_plainTried l E a_M r1 r3 er3.symm) lk_X12_365 (by rw [hRf, hRl]; decide) ⟨Nat.zero_le _, Nat.zero_le _⟩ hB hD hN [0] (by decide) rfl (fun _ => rfl) (fun _ => rfl) (rc_X12 hK (hB.1 0 _ rfl)) rfl hl.1 rfl rfl (Nat.le_of_ble_eq_true rfl) dX12_layMood_6 (fun H locs q4 hB => ?_)
  have hB : WB E ad s.heap [wModel E a_M r3] H locs := hB
  refine lv_aload_n hx hb dX12_layMood_9 rfl (lv_at hl 0 rfl) ?_
  refine lv_iload_n hx hb dX12_layMood_10 rfl (lv_at hl 1 rfl) ?_
  refine pf_X12_X12_moodOf C hK hB hD 0 rfl dX12_layMood_11 (fun H locs u5 eu5 hB => ?_)
  have hf := ox_lt eu5 hf
  have hB : WB E ad s.heap [wModel E a_M u5] H locs := hB
  refine lv_aload_n hx hb dX12_layMood_14 rfl (lv_at hl 0 rfl) ?_
  refine lv_iload_n hx hb dX12_layMood_15 rfl (lv_at hl 2 rfl) ?_
  refine pf_X12_X12_moodBy C hK hB hD 0 rfl dX12_layMood_16 (fun H locs u6 eu6 hB => ?_)
  have hf := ox_lt eu6 hf
  have hB : WB E ad s.heap [wModel E a_M u6] H locs := hB
  have hf := Option.some.inj hf
  subst hf
  exact hQ _ _ H locs (fun _ => 0) hB dX12_layMood_19
set_option maxHeartbeats 4000000 in
set_option maxRecDepth 20000 in
theorem tX12_fits (l : Launch) (E : Ev) (a_M : Nat → Nat) (u_M : St) (x_1 : Int32) (x_2 : Int32) (res : Int32 × St) (hf : fX12_fits u_M x_1 x_2 = some res) : MX l E yX12_fits cX12_fits 4 (some .boolean) (rmm 7 171) [wModel E a_M u_M] (fun q => [wModel E a_M res.2]) [.ref (a_M 0), .int x_1, .int x_2] (some (.int res.1)) := by
  unfold fX12_fits at hf
  refine MX.ofZZ rfl (by decide) (Nat.le_of_ble_eq_true rfl) ?_
  intro p e R s m args below meth c ls Q ad H hRf hRl C hB hD hK hN hl hQ
  generalize hlocs : ([] : List Loc) = locs at hB ⊢
  clear hlocs
  have hx := C.1
  have hb := C.2.1
  have hl : lv_has ls 4 [(0, .ref (a_M 0)), (1, .int x_1), (2, .int x_2)] := hl
  refine lv_aload_n hx hb dX12_fits_0 rfl (lv_at hl 0 rfl) ?_
  refine lv_iload_n hx hb dX12_fits_1 rfl (lv_at hl 1 rfl) ?_
  refine lv_iload_n hx hb dX12_fits_2 rfl (lv_at hl 2 rfl) ?_
  obtain ⟨r1, hr1, hf⟩ := ox_bind hf
  refine cxVX (bs1 := (fun q => [wModel E a_M r1])) (As := [.int x_1, .int x_2]) (rest := []) (st1 := []) C hK (tX12_layMood l E a_M u_M x_1 x_2 r1 hr1) lk_X12_543 (by rw [hRf, hRl]; decide) ⟨Nat.zero_le _, Nat.zero_le _⟩ hB hD hN [0] (by decide) rfl (fun _ => rfl) (fun _ => rfl) (rc_X12 hK (hB.1 0 _ rfl)) rfl hl.1 rfl rfl (Nat.le_of_ble_eq_true rfl) dX12_fits_3 (fun H locs q2 hB => ?_)
  have hB : WB E ad s.heap [wModel E a_M r1] H locs := hB
  refine lv_iconst (v := 1) hx hb dX12_fits_6 (by decide) ?_
  refine lv_istore_n (lv' := [(3, .int (1 : Int32)), (0, .ref (a_M 0)), (1, .int x_1), (2, .int x_2)]) hx hb dX12_fits_7 rfl hl (by decide) rfl (fun ls hl => ?_)
  obtain ⟨X1, hX1, hf⟩ := ox_bind hf
  have hexit1 : ∀ y11, .inl y11 = X1 → ∀ (ls : Array Slot) (H : Heap) (locs : List Loc), lv_has ls 4 [] → WB E ad s.heap [wModel E a_M y11] H locs → W p l e R s m args below meth c H locs 0 0 Q (F0 m 35 ls []) := by
    intro y11 hy ls H locs hl hB
    subst hy
    have hf := ox_inl hf
    refine lv_iconst (v := 1) hx hb dX12_fits_35 (by decide) ?_
    have hf := Option.some.inj hf
    subst hf
    exact hQ _ _ H locs (fun _ => 0) (1 : Int32) bz1 hB dX12_fits_36
  have hret1 : ∀ r, .inr r = X1 → r = res := by
    intro r hr
    subst hr
    exact Option.some.inj (ox_inr hf)
  have hloop1 : ∀ (nf : Nat) (x3 : Int32) (u4 : St) (ls : Array Slot) (H : Heap) (locs : List Loc), lv_has ls 4 [(0, .ref (a_M 0)), (3, .int x3)] → WB E ad s.heap [wModel E a_M u4] H locs → fX12_fits_L1 nf x3 u4 = some X1 → W p l e R s m args below meth c H locs 0 0 Q (F0 m 8 ls []) := by
    intro nf
    induction nf with
    | zero =>
      intro x3 u4 ls H locs hl hB hf
      simp [fX12_fits_L1] at hf
    | succ nf ih =>
      intro x3 u4 ls H locs hl hB hf
      rw [fX12_fits_L1] at hf
      refine lv_iload_n hx hb dX12_fits_8 rfl (lv_at hl 1 rfl) ?_
      refine lv_bipush (v := 60) hx hb dX12_fits_9 (by decide) ?_
      refine lv_icmp_gt (tgt := 35) hx hb dX12_fits_11 (by decide) (fun c5 => ?_) (fun c5 => ?_)
      · have hf := (if_pos c5).symm.trans hf
        exact hexit1 _ (Option.some.inj hf) ls H locs (lv_sub hl [] rfl) hB
      · have hf := (if_neg c5).symm.trans hf
        refine lv_aload_n hx hb dX12_fits_14 rfl (lv_at hl 0 rfl) ?_
        refine lv_iconst (v := 1) hx hb dX12_fits_15 (by decide) ?_
        obtain ⟨r6, hr6, hf⟩ := ox_bind hf
        refine cxVX (bs1 := (fun q => [wModel E a_M r6])) (As := [.int (1 : Int32)]) (rest := []) (st1 := []) C hK (tX12_minuteGoes l E a_M u4 (1 : Int32) r6 hr6) lk_X12_473 (by rw [hRf, hRl]; decide) ⟨Nat.zero_le _, Nat.zero_le _⟩ hB hD hN [0] (by decide) rfl (fun _ => rfl) (fun _ => rfl) (rc_X12 hK (hB.1 0 _ rfl)) rfl hl.1 rfl rfl (Nat.le_of_ble_eq_true rfl) dX12_fits_16 (fun H locs q7 hB => ?_)
        have hB : WB E ad s.heap [wModel E a_M r6] H locs := hB
        refine lv_aload_n hx hb dX12_fits_19 rfl (lv_at hl 0 rfl) ?_
        refine lv_iload_n hx hb dX12_fits_20 rfl (lv_at hl 1 rfl) ?_
        obtain ⟨r8, hr8, hf⟩ := ox_bind hf
        refine cxVP (As := [.int x3]) (rest := []) (st1 := [.int r8]) C hK (tX12_isSo l E a_M r6 x3 r8 hr8) lk_X12_546 ⟨rfl, rfl⟩ (by rw [hRf, hRl]; decide) ⟨Nat.zero_le _, Nat.zero_le _⟩ (PB.sub hB.1 [0] rfl) (hB.old hD hN) (Nat.le_trans hN hB.2.2.1) (rc_X12 hK (hB.1 0 _ rfl)) rfl hl.1 rfl rfl (Nat.le_of_ble_eq_true rfl) dX12_fits_21 ?_
        refine lv_if_ne (tgt := 29) hx hb dX12_fits_24 (by decide) (fun c9 => ?_) (fun c9 => ?_)
        · have hf := (if_neg c9).symm.trans hf
          obtain ⟨x10, ex10⟩ : ∃ z : Int32, z = (x3 + 1) := ⟨_, rfl⟩
          have hf := ox_lt ex10 hf
          refine lv_iinc (v := x10) (lv' := [(3, .int x10), (0, .ref (a_M 0))]) hx hb dX12_fits_29 hl (k := 1) rfl (by rw [ex10]; rfl) (by decide) rfl (fun ls hl => ?_)
          refine lv_goto (tgt := 8) hx hb dX12_fits_32 (by decide) ?_
          exact ih _ _ ls H locs (lv_sub hl [1, 0] rfl) hB hf
        · have hf := (if_pos c9).symm.trans hf
          refine lv_iconst (v := 0) hx hb dX12_fits_27 (by decide) ?_
          have hf := hret1 _ (Option.some.inj hf)
          subst hf
          exact hQ _ _ H locs (fun _ => 0) (0 : Int32) bz0 hB dX12_fits_28
  exact hloop1 fuel _ _ ls H locs (lv_sub hl [1, 0] rfl) hB hX1
