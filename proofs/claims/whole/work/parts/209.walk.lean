set_option maxHeartbeats 4000000 in
set_option maxRecDepth 20000 in
theorem tX12_thrown (l : Launch) (E : Ev) (a_M : Nat → Nat) (u_M : St) (res : Int32) (hf : fX12_thrown u_M = res) : MP l E yX12_thrown cX12_thrown 1 (some .int) (rmm 0 0) [wModel E a_M u_M] [.ref (a_M 0)] (some (.int res)) := by
  unfold fX12_thrown at hf
  refine MP.ofI rfl (by decide) (Nat.le_of_ble_eq_true rfl) ?_
  intro p e R s m args below meth c ls Q hRf hRl C hP hK hN hl hQ
  have hx := C.1
  have hb := C.2.1
  have hl : lv_has ls 1 [(0, .ref (a_M 0))] := hl
  refine lv_aload_n hx hb dX12_thrown_0 rfl (lv_at hl 0 rfl) ?_
  refine gf_X12_X12_thrown C hK (hP 0 _ rfl) dX12_thrown_1 ?_
  subst hf
  exact hQ _ _ dX12_thrown_4
set_option maxHeartbeats 4000000 in
set_option maxRecDepth 20000 in
theorem tX12_feed (l : Launch) (E : Ev) (a_M : Nat → Nat) (u_M : St) (x_1 : Int32) (x_2 : Int32) (x_3 : Int32) (x_4 : Int32) (x_5 : Int32) (res : Int32 × St) (hf : fX12_feed u_M x_1 x_2 x_3 x_4 x_5 = some res) : MX l E yX12_feed cX12_feed 8 (some .int) (rmm 0 0) [wModel E a_M u_M] (fun q => [wModel E a_M res.2]) [.ref (a_M 0), .int x_1, .int x_2, .int x_3, .int x_4, .int x_5] (some (.int res.1)) := by
  unfold fX12_feed at hf
  refine MX.ofI rfl (by decide) (Nat.le_of_ble_eq_true rfl) ?_
  intro p e R s m args below meth c ls Q ad H hRf hRl C hB hD hK hN hl hQ
  generalize hlocs : ([] : List Loc) = locs at hB ⊢
  clear hlocs
  have hx := C.1
  have hb := C.2.1
  have hl : lv_has ls 8 [(0, .ref (a_M 0)), (1, .int x_1), (2, .int x_2), (3, .int x_3), (4, .int x_4), (5, .int x_5)] := hl
  refine lv_aload_n hx hb dX12_feed_0 rfl (lv_at hl 0 rfl) ?_
  refine lv_iconst (v := 0) hx hb dX12_feed_1 (by decide) ?_
  refine pf_X12_X12_thrown C hK hB hD 0 rfl dX12_feed_2 (fun H locs u1 eu1 hB => ?_)
  have hf := ox_lt eu1 hf
  have hB : WB E ad s.heap [wModel E a_M u1] H locs := hB
  refine lv_aload_n hx hb dX12_feed_5 rfl (lv_at hl 0 rfl) ?_
  refine gf_X12_X12_tapeSize C hK (hB.1 0 _ rfl) dX12_feed_6 ?_
  refine lv_bipush (v := 20) hx hb dX12_feed_9 (by decide) ?_
  refine lv_iadd hx hb dX12_feed_11 ?_
  refine lv_sipush (v := 700) hx hb dX12_feed_12 (by decide) ?_
  refine lv_icmp_le (tgt := 20) hx hb dX12_feed_15 (by decide) (fun c2 => ?_) (fun c2 => ?_)
  · have hf := (if_pos c2).symm.trans hf
    refine lv_iconst (v := 0) hx hb dX12_feed_20 (by decide) ?_
    refine lv_istore (lv' := [(6, .int (0 : Int32)), (0, .ref (a_M 0)), (1, .int x_1), (2, .int x_2), (3, .int x_3), (4, .int x_4), (5, .int x_5)]) hx hb dX12_feed_21 hl (by decide) rfl (fun ls hl => ?_)
    obtain ⟨X1, hX1, hf⟩ := ox_bind hf
    have hexit1 : ∀ y15, y15 = X1 → ∀ (ls : Array Slot) (H : Heap) (locs : List Loc), lv_has ls 8 [(0, .ref (a_M 0))] → WB E ad s.heap [wModel E a_M y15] H locs → W p l e R s m args below meth c H locs 0 0 Q (F0 m 113 ls []) := by
      intro y15 hy ls H locs hl hB
      subst hy
      refine lv_aload_n hx hb dX12_feed_113 rfl (lv_at hl 0 rfl) ?_
      refine lv_dup hx hb dX12_feed_114 rfl ?_
      refine gf_X12_X12_tapeSize C hK (hB.1 0 _ rfl) dX12_feed_115 ?_
      refine lv_bipush (v := 20) hx hb dX12_feed_118 (by decide) ?_
      refine lv_iadd hx hb dX12_feed_120 ?_
      refine lv_topi (fun x16 ex16 => ?_)
      have hf := ox_lt ex16 hf
      refine pf_X12_X12_tapeSize C hK hB hD 0 rfl dX12_feed_121 (fun H locs u17 eu17 hB => ?_)
      have hf := ox_lt eu17 hf
      have hB : WB E ad s.heap [wModel E a_M u17] H locs := hB
      refine lv_aload_n hx hb dX12_feed_124 rfl (lv_at hl 0 rfl) ?_
      refine gf_X12_X12_tapeSize C hK (hB.1 0 _ rfl) dX12_feed_125 ?_
      have hf := Option.some.inj hf
      subst hf
      exact hQ _ _ H locs (fun _ => 0) hB dX12_feed_128
    have hloop1 : ∀ (nf : Nat) (x3 : Int32) (u4 : St) (ls : Array Slot) (H : Heap) (locs : List Loc), lv_has ls 8 [(0, .ref (a_M 0)), (1, .int x_1), (2, .int x_2), (3, .int x_3), (4, .int x_4), (5, .int x_5), (6, .int x3)] → WB E ad s.heap [wModel E a_M u4] H locs → fX12_feed_L1 x_1 x_2 x_3 x_4 x_5 nf x3 u4 = some X1 → W p l e R s m args below meth c H locs 0 0 Q (F0 m 23 ls []) := by
      intro nf
      induction nf with
      | zero =>
        intro x3 u4 ls H locs hl hB hf
        simp [fX12_feed_L1] at hf
      | succ nf ih =>
        intro x3 u4 ls H locs hl hB hf
        rw [fX12_feed_L1] at hf
        refine lv_iload hx hb dX12_feed_23 (lv_at hl 6 rfl) ?_
        refine lv_bipush (v := 20) hx hb dX12_feed_25 (by decide) ?_
        refine lv_icmp_ge (tgt := 113) hx hb dX12_feed_27 (by decide) (fun c5 => ?_) (fun c5 => ?_)
        · have hf := (if_pos c5).symm.trans hf
          exact hexit1 _ (Option.some.inj hf) ls H locs (lv_sub hl [0] rfl) hB
        · have hf := (if_neg c5).symm.trans hf
          refine lv_iload hx hb dX12_feed_30 (lv_at hl 6 rfl) ?_
          refine lv_iconst (v := 4) hx hb dX12_feed_32 (by decide) ?_
          obtain ⟨x6, ex6, hf⟩ := ox_ex hf
          have hjx6 : W p l e R s m args below meth c H locs 0 0 Q (F0 m 76 ls [.int x6]) := by
            refine lv_istore (lv' := [(7, .int x6), (0, .ref (a_M 0)), (1, .int x_1), (2, .int x_2), (3, .int x_3), (4, .int x_4), (5, .int x_5), (6, .int x3)]) hx hb dX12_feed_76 hl (by decide) rfl (fun ls hl => ?_)
            refine lv_aload_n hx hb dX12_feed_78 rfl (lv_at hl 1 rfl) ?_
            refine gf_X12_X12_tape C hK (hB.1 0 _ rfl) dX12_feed_79 ?_
            refine lv_aload_n hx hb dX12_feed_82 rfl (lv_at hl 1 rfl) ?_
            refine gf_X12_X12_tapeSize C hK (hB.1 0 _ rfl) dX12_feed_83 ?_
            refine lv_iload hx hb dX12_feed_86 (lv_at hl 7 rfl) ?_
            refine lv_iadd hx hb dX12_feed_88 ?_
            refine lv_iload hx hb dX12_feed_89 (lv_at hl 0 rfl) ?_
            refine lv_bipush (v := 24) hx hb dX12_feed_91 (by decide) ?_
            refine lv_bipush (v := 8) hx hb dX12_feed_93 (by decide) ?_
            refine lv_iload hx hb dX12_feed_95 (lv_at hl 7 rfl) ?_
            refine lv_iconst (v := 4) hx hb dX12_feed_97 (by decide) ?_
            refine lv_irem hx hb dX12_feed_98 (by decide) ?_
            refine lv_imul hx hb dX12_feed_99 ?_
            refine lv_isub hx hb dX12_feed_100 ?_
            refine lv_ishr hx hb dX12_feed_101 ?_
            refine lv_sipush (v := 255) hx hb dX12_feed_102 (by decide) ?_
            refine lv_iand hx hb dX12_feed_105 ?_
            refine lv_topi (fun x7 ex7 => ?_)
            have hf := ox_lt ex7 hf
            obtain ⟨hn8, hf⟩ := ox_chk hf
            refine st_X12_tape C hK hB hD 0 rfl hn8 rfl dX12_feed_106 (fun H locs u9 eu9 hB => ?_)
            have hf := ox_lt eu9 hf
            have hB : WB E ad s.heap [wModel E a_M u9] H locs := hB
            obtain ⟨x10, ex10⟩ : ∃ z : Int32, z = (x3 + 1) := ⟨_, rfl⟩
            have hf := ox_lt ex10 hf
            refine lv_iinc (v := x10) (lv' := [(6, .int x10), (7, .int x6), (0, .ref (a_M 0)), (1, .int x_1), (2, .int x_2), (3, .int x_3), (4, .int x_4), (5, .int x_5)]) hx hb dX12_feed_107 hl (k := 7) rfl (by rw [ex10]; rfl) (by decide) rfl (fun ls hl => ?_)
            refine lv_goto (tgt := 23) hx hb dX12_feed_110 (by decide) ?_
            exact ih _ _ ls H locs (lv_sub hl [2, 3, 4, 5, 6, 7, 0] rfl) hB hf
          refine lv_icmp_ge (tgt := 40) hx hb dX12_feed_33 (by decide) (fun c11 => ?_) (fun c11 => ?_)
          · refine lv_iload hx hb dX12_feed_40 (lv_at hl 6 rfl) ?_
            refine lv_bipush (v := 8) hx hb dX12_feed_42 (by decide) ?_
            refine lv_icmp_ge (tgt := 51) hx hb dX12_feed_44 (by decide) (fun c12 => ?_) (fun c12 => ?_)
            · refine lv_iload hx hb dX12_feed_51 (lv_at hl 6 rfl) ?_
              refine lv_bipush (v := 12) hx hb dX12_feed_53 (by decide) ?_
              refine lv_icmp_ge (tgt := 62) hx hb dX12_feed_55 (by decide) (fun c13 => ?_) (fun c13 => ?_)
              · refine lv_iload hx hb dX12_feed_62 (lv_at hl 6 rfl) ?_
                refine lv_bipush (v := 16) hx hb dX12_feed_64 (by decide) ?_
                refine lv_icmp_ge (tgt := 74) hx hb dX12_feed_66 (by decide) (fun c14 => ?_) (fun c14 => ?_)
                · refine lv_iload hx hb dX12_feed_74 (lv_at hl 5 rfl) ?_
                  exact ox_topi (((((ex6).trans (if_pos c11)).trans (if_pos c12)).trans (if_pos c13)).trans (if_pos c14)).symm hjx6
                · refine lv_iload hx hb dX12_feed_69 (lv_at hl 4 rfl) ?_
                  refine lv_goto (tgt := 76) hx hb dX12_feed_71 (by decide) ?_
                  exact ox_topi (((((ex6).trans (if_pos c11)).trans (if_pos c12)).trans (if_pos c13)).trans (if_neg c14)).symm hjx6
              · refine lv_iload_n hx hb dX12_feed_58 rfl (lv_at hl 3 rfl) ?_
                refine lv_goto (tgt := 76) hx hb dX12_feed_59 (by decide) ?_
                exact ox_topi ((((ex6).trans (if_pos c11)).trans (if_pos c12)).trans (if_neg c13)).symm hjx6
            · refine lv_iload_n hx hb dX12_feed_47 rfl (lv_at hl 2 rfl) ?_
              refine lv_goto (tgt := 76) hx hb dX12_feed_48 (by decide) ?_
              exact ox_topi (((ex6).trans (if_pos c11)).trans (if_neg c12)).symm hjx6
          · refine lv_iload_n hx hb dX12_feed_36 rfl (lv_at hl 1 rfl) ?_
            refine lv_goto (tgt := 76) hx hb dX12_feed_37 (by decide) ?_
            exact ox_topi ((ex6).trans (if_neg c11)).symm hjx6
    exact hloop1 fuel _ _ ls H locs (lv_sub hl [1, 2, 3, 4, 5, 6, 0] rfl) hB hX1
  · have hf := (if_neg c2).symm.trans hf
    refine lv_iconst (v := (-1)) hx hb dX12_feed_18 (by decide) ?_
    have hf := Option.some.inj hf
    subst hf
    exact hQ _ _ H locs (fun _ => 0) hB dX12_feed_19
set_option maxHeartbeats 4000000 in
set_option maxRecDepth 20000 in
theorem tX12_isIn (l : Launch) (E : Ev) (x_0 : Int32) (x_1 : Int32) (x_2 : Int32) (res : Int32) (hf : fX12_isIn x_0 x_1 x_2 = res) : MP l E yX12_isIn cX12_isIn 3 (some .boolean) (rmm 0 0) [] [.int x_0, .int x_1, .int x_2] (some (.int res)) := by
  unfold fX12_isIn at hf
  refine MP.ofZZ rfl (by decide) (Nat.le_of_ble_eq_true rfl) ?_
  intro p e R s m args below meth c ls Q hRf hRl C hP hK hN hl hQ
  have hx := C.1
  have hb := C.2.1
  have hl : lv_has ls 3 [(0, .int x_0), (1, .int x_1), (2, .int x_2)] := hl
  refine lv_iload_n hx hb dX12_isIn_0 rfl (lv_at hl 0 rfl) ?_
  refine lv_iload_n hx hb dX12_isIn_1 rfl (lv_at hl 1 rfl) ?_
  obtain ⟨x1, ex1, hf⟩ := ox_ex hf
  have hjx1 : W p l e R s m args below meth c s.heap [] 0 0 Q (F0 m 15 ls [.int x1]) := by
    subst hf
    exact hQ _ _ x1 rfl dX12_isIn_15
  refine lv_icmp_lt (tgt := 14) hx hb dX12_isIn_2 (by decide) (fun c2 => ?_) (fun c2 => ?_)
  · refine lv_iconst (v := 0) hx hb dX12_isIn_14 (by decide) ?_
    exact ox_topi ((ex1).trans (if_pos c2)).symm hjx1
  · refine lv_iload_n hx hb dX12_isIn_5 rfl (lv_at hl 0 rfl) ?_
    refine lv_iload_n hx hb dX12_isIn_6 rfl (lv_at hl 2 rfl) ?_
    refine lv_icmp_gt (tgt := 14) hx hb dX12_isIn_7 (by decide) (fun c3 => ?_) (fun c3 => ?_)
    · refine lv_iconst (v := 0) hx hb dX12_isIn_14 (by decide) ?_
      exact ox_topi (((ex1).trans (if_neg c2)).trans (if_pos c3)).symm hjx1
    · refine lv_iconst (v := 1) hx hb dX12_isIn_10 (by decide) ?_
      refine lv_goto (tgt := 15) hx hb dX12_isIn_11 (by decide) ?_
      exact ox_topi (((ex1).trans (if_neg c2)).trans (if_neg c3)).symm hjx1
set_option maxHeartbeats 4000000 in
set_option maxRecDepth 20000 in
theorem tX12_isOf (l : Launch) (E : Ev) (x_0 : Int32) (x_1 : Int32) (res : Int32) (hf : fX12_isOf x_0 x_1 = res) : MP l E yX12_isOf cX12_isOf 2 (some .boolean) (rmm 0 0) [] [.int x_0, .int x_1] (some (.int res)) := by
  unfold fX12_isOf at hf
  refine MP.ofZZ rfl (by decide) (Nat.le_of_ble_eq_true rfl) ?_
  intro p e R s m args below meth c ls Q hRf hRl C hP hK hN hl hQ
  have hx := C.1
  have hb := C.2.1
  have hl : lv_has ls 2 [(0, .int x_0), (1, .int x_1)] := hl
  refine lv_iload_n hx hb dX12_isOf_0 rfl (lv_at hl 0 rfl) ?_
  refine lv_iload_n hx hb dX12_isOf_1 rfl (lv_at hl 1 rfl) ?_
  refine lv_ishr hx hb dX12_isOf_2 ?_
  refine lv_iconst (v := 1) hx hb dX12_isOf_3 (by decide) ?_
  refine lv_iand hx hb dX12_isOf_4 ?_
  refine lv_iconst (v := 1) hx hb dX12_isOf_5 (by decide) ?_
  obtain ⟨x1, ex1, hf⟩ := ox_ex hf
  have hjx1 : W p l e R s m args below meth c s.heap [] 0 0 Q (F0 m 14 ls [.int x1]) := by
    subst hf
    exact hQ _ _ x1 rfl dX12_isOf_14
  refine lv_icmp_ne (tgt := 13) hx hb dX12_isOf_6 (by decide) (fun c2 => ?_) (fun c2 => ?_)
  · refine lv_iconst (v := 0) hx hb dX12_isOf_13 (by decide) ?_
    exact ox_topi ((ex1).trans (if_neg c2)).symm hjx1
  · refine lv_iconst (v := 1) hx hb dX12_isOf_9 (by decide) ?_
    refine lv_goto (tgt := 14) hx hb dX12_isOf_10 (by decide) ?_
    exact ox_topi ((ex1).trans (if_pos c2)).symm hjx1
set_option maxHeartbeats 4000000 in
set_option maxRecDepth 20000 in
theorem tX12_wrong (l : Launch) (E : Ev) (a_M : Nat → Nat) (u_M : St) (x_1 : Int32) (res : Int32 × St) (hf : fX12_wrong u_M x_1 = res) : MX l E yX12_wrong cX12_wrong 2 (some .boolean) (rmm 0 0) [wModel E a_M u_M] (fun q => [wModel E a_M res.2]) [.ref (a_M 0), .int x_1] (some (.int res.1)) := by
  unfold fX12_wrong at hf
  refine MX.ofZZ rfl (by decide) (Nat.le_of_ble_eq_true rfl) ?_
  intro p e R s m args below meth c ls Q ad H hRf hRl C hB hD hK hN hl hQ
  generalize hlocs : ([] : List Loc) = locs at hB ⊢
  clear hlocs
  have hx := C.1
  have hb := C.2.1
  have hl : lv_has ls 2 [(0, .ref (a_M 0)), (1, .int x_1)] := hl
  refine lv_aload_n hx hb dX12_wrong_0 rfl (lv_at hl 0 rfl) ?_
  refine lv_iload_n hx hb dX12_wrong_1 rfl (lv_at hl 1 rfl) ?_
  refine pf_X12_X12_fault C hK hB hD 0 rfl dX12_wrong_2 (fun H locs u1 eu1 hB => ?_)
  have hf := ox_lt eu1 hf
  have hB : WB E ad s.heap [wModel E a_M u1] H locs := hB
  refine lv_aload_n hx hb dX12_wrong_5 rfl (lv_at hl 0 rfl) ?_
  refine lv_aload_n hx hb dX12_wrong_6 rfl (lv_at hl 0 rfl) ?_
  refine gf_X12_X12_at C hK (hB.1 0 _ rfl) dX12_wrong_7 ?_
  refine lv_topi (fun x2 ex2 => ?_)
  have hf := ox_lt ex2 hf
  refine pf_X12_X12_faultPlace C hK hB hD 0 rfl dX12_wrong_10 (fun H locs u3 eu3 hB => ?_)
  have hf := ox_lt eu3 hf
  have hB : WB E ad s.heap [wModel E a_M u3] H locs := hB
  refine lv_iconst (v := 0) hx hb dX12_wrong_13 (by decide) ?_
  subst hf
  exact hQ _ _ H locs (fun _ => 0) (0 : Int32) bz0 hB dX12_wrong_14
set_option maxHeartbeats 4000000 in
set_option maxRecDepth 20000 in
theorem tX12_wordAt (l : Launch) (E : Ev) (a_M : Nat → Nat) (u_M : St) (x_1 : Int32) (x_2 : Int32) (res : Int32) (hf : fX12_wordAt u_M x_1 x_2 = some res) : MP l E yX12_wordAt cX12_wordAt 8 (some .int) (rmm 0 0) [wModel E a_M u_M] [.ref (a_M 0), .int x_1, .int x_2] (some (.int res)) := by
  unfold fX12_wordAt at hf
  refine MP.ofI rfl (by decide) (Nat.le_of_ble_eq_true rfl) ?_
  intro p e R s m args below meth c ls Q hRf hRl C hP hK hN hl hQ
  have hx := C.1
  have hb := C.2.1
  have hl : lv_has ls 8 [(0, .ref (a_M 0)), (1, .int x_1), (2, .int x_2)] := hl
  refine lv_iconst (v := 0) hx hb dX12_wordAt_0 (by decide) ?_
  refine lv_istore_n (lv' := [(3, .int (0 : Int32)), (0, .ref (a_M 0)), (1, .int x_1), (2, .int x_2)]) hx hb dX12_wordAt_1 rfl hl (by decide) rfl (fun ls hl => ?_)
  refine lv_iconst (v := 0) hx hb dX12_wordAt_2 (by decide) ?_
  refine lv_istore (lv' := [(4, .int (0 : Int32)), (3, .int (0 : Int32)), (0, .ref (a_M 0)), (1, .int x_1), (2, .int x_2)]) hx hb dX12_wordAt_3 hl (by decide) rfl (fun ls hl => ?_)
  obtain ⟨X1, hX1, hf⟩ := ox_bind hf
  have hexit1 : ∀ y26, .inl y26 = X1 → ∀ (ls : Array Slot), lv_has ls 8 [] → W p l e R s m args below meth c s.heap [] 0 0 Q (F0 m 126 ls []) := by
    intro y26 hy ls hl
    subst hy
    have hf := ox_inl hf
    refine lv_iconst (v := (-1)) hx hb dX12_wordAt_126 (by decide) ?_
    have hf := Option.some.inj hf
    subst hf
    exact hQ _ _ dX12_wordAt_127
  have hret1 : ∀ r, .inr r = X1 → r = res := by
    intro r hr
    subst hr
    exact Option.some.inj (ox_inr hf)
  have hloop1 : ∀ (nf : Nat) (x1 : Int32) (x2 : Int32) (ls : Array Slot), lv_has ls 8 [(0, .ref (a_M 0)), (1, .int x_1), (2, .int x_2), (3, .int x1), (4, .int x2)] → fX12_wordAt_L1 u_M x_1 x_2 nf x1 x2 = some X1 → W p l e R s m args below meth c s.heap [] 0 0 Q (F0 m 5 ls []) := by
    intro nf
    induction nf with
    | zero =>
      intro x1 x2 ls hl hf
      simp [fX12_wordAt_L1] at hf
    | succ nf ih =>
      intro x1 x2 ls hl hf
      rw [fX12_wordAt_L1] at hf
      refine lv_iload hx hb dX12_wordAt_5 (lv_at hl 4 rfl) ?_
      refine lv_aload_n hx hb dX12_wordAt_7 rfl (lv_at hl 0 rfl) ?_
      refine gf_X12_X12_words C hK (hP 0 _ rfl) dX12_wordAt_8 ?_
      refine bx_alen C hK (hP 0 _ rfl) 2 0 rfl rfl (v := (106 : Int32)) rfl dX12_wordAt_11 ?_
      refine lv_icmp_ge (tgt := 126) hx hb dX12_wordAt_12 (by decide) (fun c3 => ?_) (fun c3 => ?_)
      · have hf := (if_pos c3).symm.trans hf
        exact hexit1 _ (Option.some.inj hf) ls (lv_sub hl [] rfl)
      · have hf := (if_neg c3).symm.trans hf
        refine lv_iconst (v := 0) hx hb dX12_wordAt_15 (by decide) ?_
        refine lv_istore (lv' := [(5, .int (0 : Int32)), (0, .ref (a_M 0)), (1, .int x_1), (2, .int x_2), (3, .int x1), (4, .int x2)]) hx hb dX12_wordAt_16 hl (by decide) rfl (fun ls hl => ?_)
        obtain ⟨X2, hX2, hf⟩ := ox_bind hf
        have hexit2 : ∀ y8, y8 = X2 → ∀ (ls : Array Slot), lv_has ls 8 [(0, .ref (a_M 0)), (1, .int x_1), (2, .int x_2), (3, .int x1), (4, .int x2), (5, .int y8)] → W p l e R s m args below meth c s.heap [] 0 0 Q (F0 m 39 ls []) := by
          intro y8 hy ls hl
          subst hy
          refine lv_iload hx hb dX12_wordAt_39 (lv_at hl 5 rfl) ?_
          refine lv_iload_n hx hb dX12_wordAt_41 rfl (lv_at hl 2 rfl) ?_
          refine lv_iload_n hx hb dX12_wordAt_42 rfl (lv_at hl 1 rfl) ?_
          refine lv_isub hx hb dX12_wordAt_43 ?_
          obtain ⟨x9, ex9, hf⟩ := ox_ex hf
          have hjx9 : W p l e R s m args below meth c s.heap [] 0 0 Q (F0 m 52 ls [.int x9]) := by
            refine lv_istore (lv' := [(6, .int x9), (0, .ref (a_M 0)), (1, .int x_1), (2, .int x_2), (3, .int x1), (4, .int x2), (5, .int y8)]) hx hb dX12_wordAt_52 hl (by decide) rfl (fun ls hl => ?_)
            refine lv_iconst (v := 0) hx hb dX12_wordAt_54 (by decide) ?_
            refine lv_istore (lv' := [(7, .int (0 : Int32)), (6, .int x9), (0, .ref (a_M 0)), (1, .int x_1), (2, .int x_2), (3, .int x1), (4, .int x2), (5, .int y8)]) hx hb dX12_wordAt_55 hl (by decide) rfl (fun ls hl => ?_)
            obtain ⟨X3, hX3, hf⟩ := ox_bind hf
            have hexit3 : ∀ y19, y19 = X3 → ∀ (ls : Array Slot), lv_has ls 8 [(0, .ref (a_M 0)), (1, .int x_1), (2, .int x_2), (3, .int x1), (4, .int x2), (5, .int y8), (6, .int y19)] → W p l e R s m args below meth c s.heap [] 0 0 Q (F0 m 104 ls []) := by
              intro y19 hy ls hl
              subst hy
              refine lv_iload hx hb dX12_wordAt_104 (lv_at hl 6 rfl) ?_
              refine lv_if_eq (tgt := 111) hx hb dX12_wordAt_106 (by decide) (fun c20 => ?_) (fun c20 => ?_)
              · have hf := (if_pos c20).symm.trans hf
                refine lv_iload hx hb dX12_wordAt_111 (lv_at hl 4 rfl) ?_
                refine lv_iload hx hb dX12_wordAt_113 (lv_at hl 5 rfl) ?_
                refine lv_iconst (v := 1) hx hb dX12_wordAt_115 (by decide) ?_
                refine lv_iadd hx hb dX12_wordAt_116 ?_
                refine lv_iadd hx hb dX12_wordAt_117 ?_
                refine lv_topi (fun x21 ex21 => ?_)
                have hf := ox_lt ex21 hf
                refine lv_istore (lv' := [(4, .int x21), (0, .ref (a_M 0)), (1, .int x_1), (2, .int x_2), (3, .int x1), (5, .int y8), (6, .int y19)]) hx hb dX12_wordAt_118 hl (by decide) rfl (fun ls hl => ?_)
                obtain ⟨x22, ex22⟩ : ∃ z : Int32, z = (x1 + 1) := ⟨_, rfl⟩
                have hf := ox_lt ex22 hf
                refine lv_iinc (v := x22) (lv' := [(3, .int x22), (4, .int x21), (0, .ref (a_M 0)), (1, .int x_1), (2, .int x_2), (5, .int y8), (6, .int y19)]) hx hb dX12_wordAt_120 hl (k := 4) rfl (by rw [ex22]; rfl) (by decide) rfl (fun ls hl => ?_)
                refine lv_goto (tgt := 5) hx hb dX12_wordAt_123 (by decide) ?_
                exact ih _ _ ls (lv_sub hl [2, 3, 4, 0, 1] rfl) hf
              · have hf := (if_neg c20).symm.trans hf
                refine lv_iload_n hx hb dX12_wordAt_109 rfl (lv_at hl 3 rfl) ?_
                have hf := hret1 _ (Option.some.inj hf)
                subst hf
                exact hQ _ _ dX12_wordAt_110
            have hloop3 : ∀ (nf : Nat) (x10 : Int32) (x11 : Int32) (ls : Array Slot), lv_has ls 8 [(0, .ref (a_M 0)), (1, .int x_1), (2, .int x_2), (3, .int x1), (4, .int x2), (5, .int y8), (6, .int x10), (7, .int x11)] → fX12_wordAt_L3 u_M x_1 x2 y8 nf x10 x11 = some X3 → W p l e R s m args below meth c s.heap [] 0 0 Q (F0 m 57 ls []) := by
              intro nf
              induction nf with
              | zero =>
                intro x10 x11 ls hl hf
                simp [fX12_wordAt_L3] at hf
              | succ nf ih =>
                intro x10 x11 ls hl hf
                rw [fX12_wordAt_L3] at hf
                refine lv_iload hx hb dX12_wordAt_57 (lv_at hl 7 rfl) ?_
                refine lv_iload hx hb dX12_wordAt_59 (lv_at hl 5 rfl) ?_
                refine lv_icmp_ge (tgt := 104) hx hb dX12_wordAt_61 (by decide) (fun c12 => ?_) (fun c12 => ?_)
                · have hf := (if_pos c12).symm.trans hf
                  exact hexit3 _ (Option.some.inj hf) ls (lv_sub hl [0, 1, 2, 3, 4, 5, 6] rfl)
                · have hf := (if_neg c12).symm.trans hf
                  refine lv_iload hx hb dX12_wordAt_64 (lv_at hl 6 rfl) ?_
                  refine lv_if_eq (tgt := 104) hx hb dX12_wordAt_66 (by decide) (fun c13 => ?_) (fun c13 => ?_)
                  · have hf := (if_pos c13).symm.trans hf
                    exact hexit3 _ (Option.some.inj hf) ls (lv_sub hl [0, 1, 2, 3, 4, 5, 6] rfl)
                  · have hf := (if_neg c13).symm.trans hf
                    refine lv_aload_n hx hb dX12_wordAt_69 rfl (lv_at hl 0 rfl) ?_
                    refine gf_X12_X12_words C hK (hP 0 _ rfl) dX12_wordAt_70 ?_
                    refine lv_iload hx hb dX12_wordAt_73 (lv_at hl 4 rfl) ?_
                    refine lv_iload hx hb dX12_wordAt_75 (lv_at hl 7 rfl) ?_
                    refine lv_iadd hx hb dX12_wordAt_77 ?_
                    obtain ⟨hn14, hf⟩ := ox_chk hf
                    refine ld_X12_words C hK (hP 0 _ rfl) hn14 rfl dX12_wordAt_78 ?_
                    refine lv_aload_n hx hb dX12_wordAt_79 rfl (lv_at hl 0 rfl) ?_
                    refine gf_X12_X12_tape C hK (hP 0 _ rfl) dX12_wordAt_80 ?_
                    refine lv_iload_n hx hb dX12_wordAt_83 rfl (lv_at hl 1 rfl) ?_
                    refine lv_iload hx hb dX12_wordAt_84 (lv_at hl 7 rfl) ?_
                    refine lv_iadd hx hb dX12_wordAt_86 ?_
                    obtain ⟨hn15, hf⟩ := ox_chk hf
                    refine ld_X12_tape C hK (hP 0 _ rfl) hn15 rfl dX12_wordAt_87 ?_
                    obtain ⟨x16, ex16, hf⟩ := ox_ex hf
                    have hjx16 : W p l e R s m args below meth c s.heap [] 0 0 Q (F0 m 96 ls [.int x16]) := by
                      refine lv_istore (lv' := [(6, .int x16), (0, .ref (a_M 0)), (1, .int x_1), (2, .int x_2), (3, .int x1), (4, .int x2), (5, .int y8), (7, .int x11)]) hx hb dX12_wordAt_96 hl (by decide) rfl (fun ls hl => ?_)
                      obtain ⟨x17, ex17⟩ : ∃ z : Int32, z = (x11 + 1) := ⟨_, rfl⟩
                      have hf := ox_lt ex17 hf
                      refine lv_iinc (v := x17) (lv' := [(7, .int x17), (6, .int x16), (0, .ref (a_M 0)), (1, .int x_1), (2, .int x_2), (3, .int x1), (4, .int x2), (5, .int y8)]) hx hb dX12_wordAt_98 hl (k := 7) rfl (by rw [ex17]; rfl) (by decide) rfl (fun ls hl => ?_)
                      refine lv_goto (tgt := 57) hx hb dX12_wordAt_101 (by decide) ?_
                      exact ih _ _ ls (lv_sub hl [2, 3, 4, 5, 6, 7, 1, 0] rfl) hf
                    refine lv_icmp_ne (tgt := 95) hx hb dX12_wordAt_88 (by decide) (fun c18 => ?_) (fun c18 => ?_)
                    · refine lv_iconst (v := 0) hx hb dX12_wordAt_95 (by decide) ?_
                      exact ox_topi ((ex16).trans (if_neg c18)).symm hjx16
                    · refine lv_iconst (v := 1) hx hb dX12_wordAt_91 (by decide) ?_
                      refine lv_goto (tgt := 96) hx hb dX12_wordAt_92 (by decide) ?_
                      exact ox_topi ((ex16).trans (if_pos c18)).symm hjx16
            exact hloop3 fuel _ _ ls (lv_sub hl [2, 3, 4, 5, 6, 7, 1, 0] rfl) hX3
          refine lv_icmp_ne (tgt := 51) hx hb dX12_wordAt_44 (by decide) (fun c24 => ?_) (fun c24 => ?_)
          · refine lv_iconst (v := 0) hx hb dX12_wordAt_51 (by decide) ?_
            exact ox_topi ((ex9).trans (if_neg c24)).symm hjx9
          · refine lv_iconst (v := 1) hx hb dX12_wordAt_47 (by decide) ?_
            refine lv_goto (tgt := 52) hx hb dX12_wordAt_48 (by decide) ?_
            exact ox_topi ((ex9).trans (if_pos c24)).symm hjx9
        have hloop2 : ∀ (nf : Nat) (x4 : Int32) (ls : Array Slot), lv_has ls 8 [(0, .ref (a_M 0)), (1, .int x_1), (2, .int x_2), (3, .int x1), (4, .int x2), (5, .int x4)] → fX12_wordAt_L2 u_M x2 nf x4 = some X2 → W p l e R s m args below meth c s.heap [] 0 0 Q (F0 m 18 ls []) := by
          intro nf
          induction nf with
          | zero =>
            intro x4 ls hl hf
            simp [fX12_wordAt_L2] at hf
          | succ nf ih =>
            intro x4 ls hl hf
            rw [fX12_wordAt_L2] at hf
            refine lv_aload_n hx hb dX12_wordAt_18 rfl (lv_at hl 0 rfl) ?_
            refine gf_X12_X12_words C hK (hP 0 _ rfl) dX12_wordAt_19 ?_
            refine lv_iload hx hb dX12_wordAt_22 (lv_at hl 4 rfl) ?_
            refine lv_iload hx hb dX12_wordAt_24 (lv_at hl 5 rfl) ?_
            refine lv_iadd hx hb dX12_wordAt_26 ?_
            obtain ⟨hn5, hf⟩ := ox_chk hf
            refine ld_X12_words C hK (hP 0 _ rfl) hn5 rfl dX12_wordAt_27 ?_
            refine lv_bipush (v := 32) hx hb dX12_wordAt_28 (by decide) ?_
            refine lv_icmp_eq (tgt := 39) hx hb dX12_wordAt_30 (by decide) (fun c6 => ?_) (fun c6 => ?_)
            · have hf := (if_pos c6).symm.trans hf
              exact hexit2 _ (Option.some.inj hf) ls (lv_sub hl [0, 1, 2, 3, 4, 5] rfl)
            · have hf := (if_neg c6).symm.trans hf
              obtain ⟨x7, ex7⟩ : ∃ z : Int32, z = (x4 + 1) := ⟨_, rfl⟩
              have hf := ox_lt ex7 hf
              refine lv_iinc (v := x7) (lv' := [(5, .int x7), (0, .ref (a_M 0)), (1, .int x_1), (2, .int x_2), (3, .int x1), (4, .int x2)]) hx hb dX12_wordAt_33 hl (k := 5) rfl (by rw [ex7]; rfl) (by decide) rfl (fun ls hl => ?_)
              refine lv_goto (tgt := 18) hx hb dX12_wordAt_36 (by decide) ?_
              exact ih _ ls (lv_sub hl [1, 2, 3, 4, 5, 0] rfl) hf
        exact hloop2 fuel _ ls (lv_sub hl [1, 2, 3, 4, 5, 0] rfl) hX2
  exact hloop1 fuel _ _ ls (lv_sub hl [2, 3, 4, 1, 0] rfl) hX1
set_option maxHeartbeats 4000000 in
set_option maxRecDepth 20000 in
theorem tX12_isSmall (l : Launch) (E : Ev) (a_M : Nat → Nat) (u_M : St) (x_1 : Int32) (res : Int32) (hf : fX12_isSmall u_M x_1 = some res) : MP l E yX12_isSmall cX12_isSmall 2 (some .boolean) (rmm 0 0) [wModel E a_M u_M] [.ref (a_M 0), .int x_1] (some (.int res)) := by
  unfold fX12_isSmall at hf
  refine MP.ofZZ rfl (by decide) (Nat.le_of_ble_eq_true rfl) ?_
  intro p e R s m args below meth c ls Q hRf hRl C hP hK hN hl hQ
  have hx := C.1
  have hb := C.2.1
  have hl : lv_has ls 2 [(0, .ref (a_M 0)), (1, .int x_1)] := hl
  refine lv_iload_n hx hb dX12_isSmall_0 rfl (lv_at hl 1 rfl) ?_
  refine lv_aload_n hx hb dX12_isSmall_1 rfl (lv_at hl 0 rfl) ?_
  refine gf_X12_X12_stop C hK (hP 0 _ rfl) dX12_isSmall_2 ?_
  refine lv_icmp_ge (tgt := 34) hx hb dX12_isSmall_5 (by decide) (fun c1 => ?_) (fun c1 => ?_)
  · have hf := (if_pos c1).symm.trans hf
    refine lv_iconst (v := 0) hx hb dX12_isSmall_34 (by decide) ?_
    have hf := Option.some.inj hf
    subst hf
    exact hQ _ _ (0 : Int32) bz0 dX12_isSmall_35
  · have hf := (if_neg c1).symm.trans hf
    refine lv_aload_n hx hb dX12_isSmall_8 rfl (lv_at hl 0 rfl) ?_
    refine gf_X12_X12_tape C hK (hP 0 _ rfl) dX12_isSmall_9 ?_
    refine lv_iload_n hx hb dX12_isSmall_12 rfl (lv_at hl 1 rfl) ?_
    obtain ⟨hn2, hf⟩ := ox_chk hf
    refine ld_X12_tape C hK (hP 0 _ rfl) hn2 rfl dX12_isSmall_13 ?_
    refine lv_bipush (v := 97) hx hb dX12_isSmall_14 (by decide) ?_
    refine lv_icmp_lt (tgt := 34) hx hb dX12_isSmall_16 (by decide) (fun c3 => ?_) (fun c3 => ?_)
    · have hf := (if_pos c3).symm.trans hf
      refine lv_iconst (v := 0) hx hb dX12_isSmall_34 (by decide) ?_
      have hf := Option.some.inj hf
      subst hf
      exact hQ _ _ (0 : Int32) bz0 dX12_isSmall_35
    · have hf := (if_neg c3).symm.trans hf
      refine lv_aload_n hx hb dX12_isSmall_19 rfl (lv_at hl 0 rfl) ?_
      refine gf_X12_X12_tape C hK (hP 0 _ rfl) dX12_isSmall_20 ?_
      refine lv_iload_n hx hb dX12_isSmall_23 rfl (lv_at hl 1 rfl) ?_
      obtain ⟨hn4, hf⟩ := ox_chk hf
      refine ld_X12_tape C hK (hP 0 _ rfl) hn4 rfl dX12_isSmall_24 ?_
      refine lv_bipush (v := 122) hx hb dX12_isSmall_25 (by decide) ?_
      refine lv_icmp_gt (tgt := 34) hx hb dX12_isSmall_27 (by decide) (fun c5 => ?_) (fun c5 => ?_)
      · have hf := (if_pos c5).symm.trans hf
        refine lv_iconst (v := 0) hx hb dX12_isSmall_34 (by decide) ?_
        have hf := Option.some.inj hf
        subst hf
        exact hQ _ _ (0 : Int32) bz0 dX12_isSmall_35
      · have hf := (if_neg c5).symm.trans hf
        refine lv_iconst (v := 1) hx hb dX12_isSmall_30 (by decide) ?_
        refine lv_goto (tgt := 35) hx hb dX12_isSmall_31 (by decide) ?_
        have hf := Option.some.inj hf
        subst hf
        exact hQ _ _ (1 : Int32) bz1 dX12_isSmall_35
set_option maxHeartbeats 4000000 in
set_option maxRecDepth 20000 in
theorem tX12_isDigit (l : Launch) (E : Ev) (a_M : Nat → Nat) (u_M : St) (x_1 : Int32) (res : Int32) (hf : fX12_isDigit u_M x_1 = some res) : MP l E yX12_isDigit cX12_isDigit 2 (some .boolean) (rmm 0 0) [wModel E a_M u_M] [.ref (a_M 0), .int x_1] (some (.int res)) := by
  unfold fX12_isDigit at hf
  refine MP.ofZZ rfl (by decide) (Nat.le_of_ble_eq_true rfl) ?_
  intro p e R s m args below meth c ls Q hRf hRl C hP hK hN hl hQ
  have hx := C.1
  have hb := C.2.1
  have hl : lv_has ls 2 [(0, .ref (a_M 0)), (1, .int x_1)] := hl
  refine lv_iload_n hx hb dX12_isDigit_0 rfl (lv_at hl 1 rfl) ?_
  refine lv_aload_n hx hb dX12_isDigit_1 rfl (lv_at hl 0 rfl) ?_
  refine gf_X12_X12_stop C hK (hP 0 _ rfl) dX12_isDigit_2 ?_
  refine lv_icmp_ge (tgt := 34) hx hb dX12_isDigit_5 (by decide) (fun c1 => ?_) (fun c1 => ?_)
  · have hf := (if_pos c1).symm.trans hf
    refine lv_iconst (v := 0) hx hb dX12_isDigit_34 (by decide) ?_
    have hf := Option.some.inj hf
    subst hf
    exact hQ _ _ (0 : Int32) bz0 dX12_isDigit_35
  · have hf := (if_neg c1).symm.trans hf
    refine lv_aload_n hx hb dX12_isDigit_8 rfl (lv_at hl 0 rfl) ?_
    refine gf_X12_X12_tape C hK (hP 0 _ rfl) dX12_isDigit_9 ?_
    refine lv_iload_n hx hb dX12_isDigit_12 rfl (lv_at hl 1 rfl) ?_
    obtain ⟨hn2, hf⟩ := ox_chk hf
    refine ld_X12_tape C hK (hP 0 _ rfl) hn2 rfl dX12_isDigit_13 ?_
    refine lv_bipush (v := 48) hx hb dX12_isDigit_14 (by decide) ?_
    refine lv_icmp_lt (tgt := 34) hx hb dX12_isDigit_16 (by decide) (fun c3 => ?_) (fun c3 => ?_)
    · have hf := (if_pos c3).symm.trans hf
      refine lv_iconst (v := 0) hx hb dX12_isDigit_34 (by decide) ?_
      have hf := Option.some.inj hf
      subst hf
      exact hQ _ _ (0 : Int32) bz0 dX12_isDigit_35
    · have hf := (if_neg c3).symm.trans hf
      refine lv_aload_n hx hb dX12_isDigit_19 rfl (lv_at hl 0 rfl) ?_
      refine gf_X12_X12_tape C hK (hP 0 _ rfl) dX12_isDigit_20 ?_
      refine lv_iload_n hx hb dX12_isDigit_23 rfl (lv_at hl 1 rfl) ?_
      obtain ⟨hn4, hf⟩ := ox_chk hf
      refine ld_X12_tape C hK (hP 0 _ rfl) hn4 rfl dX12_isDigit_24 ?_
      refine lv_bipush (v := 57) hx hb dX12_isDigit_25 (by decide) ?_
      refine lv_icmp_gt (tgt := 34) hx hb dX12_isDigit_27 (by decide) (fun c5 => ?_) (fun c5 => ?_)
      · have hf := (if_pos c5).symm.trans hf
        refine lv_iconst (v := 0) hx hb dX12_isDigit_34 (by decide) ?_
        have hf := Option.some.inj hf
        subst hf
        exact hQ _ _ (0 : Int32) bz0 dX12_isDigit_35
      · have hf := (if_neg c5).symm.trans hf
        refine lv_iconst (v := 1) hx hb dX12_isDigit_30 (by decide) ?_
        refine lv_goto (tgt := 35) hx hb dX12_isDigit_31 (by decide) ?_
        have hf := Option.some.inj hf
        subst hf
        exact hQ _ _ (1 : Int32) bz1 dX12_isDigit_35
set_option maxHeartbeats 4000000 in
set_option maxRecDepth 20000 in
theorem tX12_signToken (l : Launch) (E : Ev) (a_M : Nat → Nat) (u_M : St) (res : St) (hf : fX12_signToken u_M = some res) : MX l E yX12_signToken cX12_signToken 4 none (rmm 0 0) [wModel E a_M u_M] (fun q => [wModel E a_M res]) [.ref (a_M 0)] none := by
  unfold fX12_signToken at hf
  refine MX.ofV rfl (by decide) (Nat.le_of_ble_eq_true rfl) ?_
  intro p e R s m args below meth c ls Q ad H hRf hRl C hB hD hK hN hl hQ
  generalize hlocs : ([] : List Loc) = locs at hB ⊢
  clear hlocs
  have hx := C.1
  have hb := C.2.1
  have hl : lv_has ls 4 [(0, .ref (a_M 0))] := hl
  refine lv_aload_n hx hb dX12_signToken_0 rfl (lv_at hl 0 rfl) ?_
  refine lv_aload_n hx hb dX12_signToken_1 rfl (lv_at hl 0 rfl) ?_
  refine gf_X12_X12_tape C hK (hB.1 0 _ rfl) dX12_signToken_2 ?_
  refine lv_aload_n hx hb dX12_signToken_5 rfl (lv_at hl 0 rfl) ?_
  refine gf_X12_X12_next C hK (hB.1 0 _ rfl) dX12_signToken_6 ?_
  obtain ⟨hn1, hf⟩ := ox_chk hf
  refine ld_X12_tape C hK (hB.1 0 _ rfl) hn1 rfl dX12_signToken_9 ?_
  refine lv_topi (fun x2 ex2 => ?_)
  have hf := ox_lt ex2 hf
  refine pf_X12_X12_which C hK hB hD 0 rfl dX12_signToken_10 (fun H locs u3 eu3 hB => ?_)
  have hf := ox_lt eu3 hf
  have hB : WB E ad s.heap [wModel E a_M u3] H locs := hB
  refine lv_aload_n hx hb dX12_signToken_13 rfl (lv_at hl 0 rfl) ?_
  refine lv_dup hx hb dX12_signToken_14 rfl ?_
  refine gf_X12_X12_next C hK (hB.1 0 _ rfl) dX12_signToken_15 ?_
  refine lv_iconst (v := 1) hx hb dX12_signToken_18 (by decide) ?_
  refine lv_iadd hx hb dX12_signToken_19 ?_
  refine lv_topi (fun x4 ex4 => ?_)
  have hf := ox_lt ex4 hf
  refine pf_X12_X12_next C hK hB hD 0 rfl dX12_signToken_20 (fun H locs u5 eu5 hB => ?_)
  have hf := ox_lt eu5 hf
  have hB : WB E ad s.heap [wModel E a_M u5] H locs := hB
  refine lv_aload_n hx hb dX12_signToken_23 rfl (lv_at hl 0 rfl) ?_
  refine gf_X12_X12_which C hK (hB.1 0 _ rfl) dX12_signToken_24 ?_
  refine lv_bipush (v := 60) hx hb dX12_signToken_27 (by decide) ?_
  obtain ⟨j6, ej6, hf⟩ := ox_ex hf
  have hj6 : ∀ (ls : Array Slot) (H : Heap) (locs : List Loc), lv_has ls 4 [(0, .ref (a_M 0))] → WB E ad s.heap [wModel E a_M u5] H locs → j6 = some res → W p l e R s m args below meth c H locs 0 0 Q (F0 m 50 ls []) := by
    intro ls H locs hl hB hf
    have hf := ox_a0 ej6 hf
    refine lv_aload_n hx hb dX12_signToken_50 rfl (lv_at hl 0 rfl) ?_
    refine gf_X12_X12_next C hK (hB.1 0 _ rfl) dX12_signToken_51 ?_
    refine lv_aload_n hx hb dX12_signToken_54 rfl (lv_at hl 0 rfl) ?_
    refine gf_X12_X12_stop C hK (hB.1 0 _ rfl) dX12_signToken_55 ?_
    obtain ⟨j8, ej8, hf⟩ := ox_ex hf
    have hj8 : ∀ (x7 : Int32) (ls : Array Slot) (H : Heap) (locs : List Loc), lv_has ls 4 [(0, .ref (a_M 0))] → WB E ad s.heap [wModel E a_M u5] H locs → j8 x7 = some res → W p l e R s m args below meth c H locs 0 0 Q (F0 m 74 ls [.int x7]) := by
      intro x7 ls H locs hl hB hf
      have hf := ox_a1 ej8 hf
      refine lv_istore_n (lv' := [(1, .int x7), (0, .ref (a_M 0))]) hx hb dX12_signToken_74 rfl hl (by decide) rfl (fun ls hl => ?_)
      refine lv_aload_n hx hb dX12_signToken_75 rfl (lv_at hl 1 rfl) ?_
      refine gf_X12_X12_which C hK (hB.1 0 _ rfl) dX12_signToken_76 ?_
      refine lv_bipush (v := 61) hx hb dX12_signToken_79 (by decide) ?_
      obtain ⟨x9, ex9, hf⟩ := ox_ex hf
      have hjx9 : W p l e R s m args below meth c H locs 0 0 Q (F0 m 95 ls [.int x9]) := by
        refine lv_istore_n (lv' := [(2, .int x9), (1, .int x7), (0, .ref (a_M 0))]) hx hb dX12_signToken_95 rfl hl (by decide) rfl (fun ls hl => ?_)
        refine lv_aload_n hx hb dX12_signToken_96 rfl (lv_at hl 2 rfl) ?_
        refine gf_X12_X12_which C hK (hB.1 0 _ rfl) dX12_signToken_97 ?_
        refine lv_bipush (v := 60) hx hb dX12_signToken_100 (by decide) ?_
        obtain ⟨x10, ex10, hf⟩ := ox_ex hf
        have hjx10 : W p l e R s m args below meth c H locs 0 0 Q (F0 m 116 ls [.int x10]) := by
          refine lv_istore_n (lv' := [(3, .int x10), (2, .int x9), (1, .int x7), (0, .ref (a_M 0))]) hx hb dX12_signToken_116 rfl hl (by decide) rfl (fun ls hl => ?_)
          refine lv_iload_n hx hb dX12_signToken_117 rfl (lv_at hl 1 rfl) ?_
          obtain ⟨j12, ej12, hf⟩ := ox_ex hf
          have hj12 : ∀ (u11 : St) (ls : Array Slot) (H : Heap) (locs : List Loc), lv_has ls 4 [(0, .ref (a_M 0)), (2, .int x9), (3, .int x10)] → WB E ad s.heap [wModel E a_M u11] H locs → j12 u11 = some res → W p l e R s m args below meth c H locs 0 0 Q (F0 m 135 ls []) := by
            intro u11 ls H locs hl hB hf
            have hf := ox_a1 ej12 hf
            refine lv_aload_n hx hb dX12_signToken_135 rfl (lv_at hl 0 rfl) ?_
            refine lv_iconst (v := 5) hx hb dX12_signToken_136 (by decide) ?_
            refine pf_X12_X12_kind C hK hB hD 0 rfl dX12_signToken_137 (fun H locs u13 eu13 hB => ?_)
            have hf := ox_lt eu13 hf
            have hB : WB E ad s.heap [wModel E a_M u13] H locs := hB
            refine lv_aload_n hx hb dX12_signToken_140 rfl (lv_at hl 0 rfl) ?_
            refine lv_aload_n hx hb dX12_signToken_141 rfl (lv_at hl 0 rfl) ?_
            refine gf_X12_X12_which C hK (hB.1 0 _ rfl) dX12_signToken_142 ?_
            refine lv_bipush (v := 61) hx hb dX12_signToken_145 (by decide) ?_
            obtain ⟨x14, ex14, hf⟩ := ox_ex hf
            have hjx14 : W p l e R s m args below meth c H locs 0 0 Q (F0 m 192 ls [.int x14, .ref (a_M 0)]) := by
              refine pf_X12_X12_which C hK hB hD 0 rfl dX12_signToken_192 (fun H locs u15 eu15 hB => ?_)
              have hf := ox_lt eu15 hf
              have hB : WB E ad s.heap [wModel E a_M u15] H locs := hB
              refine lv_goto (tgt := 290) hx hb dX12_signToken_195 (by decide) ?_
              have hf := Option.some.inj hf
              subst hf
              exact hQ _ _ H locs (fun _ => 0) hB dX12_signToken_290
            refine lv_icmp_ne (tgt := 154) hx hb dX12_signToken_147 (by decide) (fun c16 => ?_) (fun c16 => ?_)
            · refine lv_aload_n hx hb dX12_signToken_154 rfl (lv_at hl 0 rfl) ?_
              refine gf_X12_X12_which C hK (hB.1 0 _ rfl) dX12_signToken_155 ?_
              refine lv_bipush (v := 60) hx hb dX12_signToken_158 (by decide) ?_
              refine lv_icmp_ne (tgt := 183) hx hb dX12_signToken_160 (by decide) (fun c17 => ?_) (fun c17 => ?_)
              · refine lv_iload_n hx hb dX12_signToken_183 rfl (lv_at hl 1 rfl) ?_
                refine lv_if_eq (tgt := 191) hx hb dX12_signToken_184 (by decide) (fun c18 => ?_) (fun c18 => ?_)
                · refine lv_iconst (v := 5) hx hb dX12_signToken_191 (by decide) ?_
                  exact ox_topi ((((ex14).trans (if_neg c16)).trans (if_neg c17)).trans (if_pos c18)).symm hjx14
                · refine lv_iconst (v := 4) hx hb dX12_signToken_187 (by decide) ?_
                  refine lv_goto (tgt := 192) hx hb dX12_signToken_188 (by decide) ?_
                  exact ox_topi ((((ex14).trans (if_neg c16)).trans (if_neg c17)).trans (if_neg c18)).symm hjx14
              · refine lv_iload_n hx hb dX12_signToken_163 rfl (lv_at hl 1 rfl) ?_
                refine lv_if_eq (tgt := 171) hx hb dX12_signToken_164 (by decide) (fun c19 => ?_) (fun c19 => ?_)
                · refine lv_iload_n hx hb dX12_signToken_171 rfl (lv_at hl 2 rfl) ?_
                  refine lv_if_eq (tgt := 179) hx hb dX12_signToken_172 (by decide) (fun c20 => ?_) (fun c20 => ?_)
                  · refine lv_iconst (v := 0) hx hb dX12_signToken_179 (by decide) ?_
                    refine lv_goto (tgt := 192) hx hb dX12_signToken_180 (by decide) ?_
                    exact ox_topi (((((ex14).trans (if_neg c16)).trans (if_pos c17)).trans (if_pos c19)).trans (if_pos c20)).symm hjx14
                  · refine lv_iconst (v := 3) hx hb dX12_signToken_175 (by decide) ?_
                    refine lv_goto (tgt := 192) hx hb dX12_signToken_176 (by decide) ?_
                    exact ox_topi (((((ex14).trans (if_neg c16)).trans (if_pos c17)).trans (if_pos c19)).trans (if_neg c20)).symm hjx14
                · refine lv_iconst (v := 1) hx hb dX12_signToken_167 (by decide) ?_
                  refine lv_goto (tgt := 192) hx hb dX12_signToken_168 (by decide) ?_
                  exact ox_topi ((((ex14).trans (if_neg c16)).trans (if_pos c17)).trans (if_neg c19)).symm hjx14
            · refine lv_iconst (v := 2) hx hb dX12_signToken_150 (by decide) ?_
              refine lv_goto (tgt := 192) hx hb dX12_signToken_151 (by decide) ?_
              exact ox_topi ((ex14).trans (if_pos c16)).symm hjx14
          obtain ⟨j21, ej21, hf⟩ := ox_ex hf
          have hj21 : ∀ (ls : Array Slot) (H : Heap) (locs : List Loc), lv_has ls 4 [(0, .ref (a_M 0)), (2, .int x9), (3, .int x10)] → WB E ad s.heap [wModel E a_M u5] H locs → j21 = some res → W p l e R s m args below meth c H locs 0 0 Q (F0 m 125 ls []) := by
            intro ls H locs hl hB hf
            have hf := ox_a0 ej21 hf
            refine lv_aload_n hx hb dX12_signToken_125 rfl (lv_at hl 0 rfl) ?_
            refine lv_dup hx hb dX12_signToken_126 rfl ?_
            refine gf_X12_X12_next C hK (hB.1 0 _ rfl) dX12_signToken_127 ?_
            refine lv_iconst (v := 1) hx hb dX12_signToken_130 (by decide) ?_
            refine lv_iadd hx hb dX12_signToken_131 ?_
            refine lv_topi (fun x22 ex22 => ?_)
            have hf := ox_lt ex22 hf
            refine pf_X12_X12_next C hK hB hD 0 rfl dX12_signToken_132 (fun H locs u23 eu23 hB => ?_)
            have hf := ox_lt eu23 hf
            have hB : WB E ad s.heap [wModel E a_M u23] H locs := hB
            exact hj12 _ ls H locs (lv_sub hl [0, 1, 2] rfl) hB hf
          refine lv_if_ne (tgt := 125) hx hb dX12_signToken_118 (by decide) (fun c24 => ?_) (fun c24 => ?_)
          · have hf := (if_neg c24).symm.trans hf
            exact hj21 ls H locs (lv_sub hl [3, 1, 0] rfl) hB hf
          · have hf := (if_pos c24).symm.trans hf
            refine lv_iload_n hx hb dX12_signToken_121 rfl (lv_at hl 0 rfl) ?_
            refine lv_if_eq (tgt := 135) hx hb dX12_signToken_122 (by decide) (fun c25 => ?_) (fun c25 => ?_)
            · have hf := (if_pos c25).symm.trans hf
              exact hj12 _ ls H locs (lv_sub hl [3, 1, 0] rfl) hB hf
            · have hf := (if_neg c25).symm.trans hf
              exact hj21 ls H locs (lv_sub hl [3, 1, 0] rfl) hB hf
        refine lv_icmp_ne (tgt := 115) hx hb dX12_signToken_102 (by decide) (fun c26 => ?_) (fun c26 => ?_)
        · refine lv_iconst (v := 0) hx hb dX12_signToken_115 (by decide) ?_
          exact ox_topi ((ex10).trans (if_neg c26)).symm hjx10
        · refine lv_iload_n hx hb dX12_signToken_105 rfl (lv_at hl 1 rfl) ?_
          refine lv_bipush (v := 62) hx hb dX12_signToken_106 (by decide) ?_
          refine lv_icmp_ne (tgt := 115) hx hb dX12_signToken_108 (by decide) (fun c27 => ?_) (fun c27 => ?_)
          · refine lv_iconst (v := 0) hx hb dX12_signToken_115 (by decide) ?_
            exact ox_topi (((ex10).trans (if_pos c26)).trans (if_neg c27)).symm hjx10
          · refine lv_iconst (v := 1) hx hb dX12_signToken_111 (by decide) ?_
            refine lv_goto (tgt := 116) hx hb dX12_signToken_112 (by decide) ?_
            exact ox_topi (((ex10).trans (if_pos c26)).trans (if_pos c27)).symm hjx10
      refine lv_icmp_eq (tgt := 94) hx hb dX12_signToken_81 (by decide) (fun c28 => ?_) (fun c28 => ?_)
      · refine lv_iconst (v := 0) hx hb dX12_signToken_94 (by decide) ?_
        exact ox_topi ((ex9).trans (if_pos c28)).symm hjx9
      · refine lv_iload_n hx hb dX12_signToken_84 rfl (lv_at hl 0 rfl) ?_
        refine lv_bipush (v := 61) hx hb dX12_signToken_85 (by decide) ?_
        refine lv_icmp_ne (tgt := 94) hx hb dX12_signToken_87 (by decide) (fun c29 => ?_) (fun c29 => ?_)
        · refine lv_iconst (v := 0) hx hb dX12_signToken_94 (by decide) ?_
          exact ox_topi (((ex9).trans (if_neg c28)).trans (if_neg c29)).symm hjx9
        · refine lv_iconst (v := 1) hx hb dX12_signToken_90 (by decide) ?_
          refine lv_goto (tgt := 95) hx hb dX12_signToken_91 (by decide) ?_
          exact ox_topi (((ex9).trans (if_neg c28)).trans (if_pos c29)).symm hjx9
    refine lv_icmp_ge (tgt := 73) hx hb dX12_signToken_58 (by decide) (fun c30 => ?_) (fun c30 => ?_)
    · have hf := (if_pos c30).symm.trans hf
      refine lv_iconst (v := 0) hx hb dX12_signToken_73 (by decide) ?_
      exact hj8 _ ls H locs (lv_sub hl [0] rfl) hB hf
    · have hf := (if_neg c30).symm.trans hf
      refine lv_aload_n hx hb dX12_signToken_61 rfl (lv_at hl 0 rfl) ?_
      refine gf_X12_X12_tape C hK (hB.1 0 _ rfl) dX12_signToken_62 ?_
      refine lv_aload_n hx hb dX12_signToken_65 rfl (lv_at hl 0 rfl) ?_
      refine gf_X12_X12_next C hK (hB.1 0 _ rfl) dX12_signToken_66 ?_
      obtain ⟨hn31, hf⟩ := ox_chk hf
      refine ld_X12_tape C hK (hB.1 0 _ rfl) hn31 rfl dX12_signToken_69 ?_
      refine lv_goto (tgt := 74) hx hb dX12_signToken_70 (by decide) ?_
      exact hj8 _ ls H locs (lv_sub hl [0] rfl) hB hf
  refine lv_icmp_eq (tgt := 50) hx hb dX12_signToken_29 (by decide) (fun c32 => ?_) (fun c32 => ?_)
  · have hf := (if_pos c32).symm.trans hf
    exact hj6 ls H locs (lv_sub hl [0] rfl) hB hf
  · have hf := (if_neg c32).symm.trans hf
    refine lv_aload_n hx hb dX12_signToken_32 rfl (lv_at hl 0 rfl) ?_
    refine gf_X12_X12_which C hK (hB.1 0 _ rfl) dX12_signToken_33 ?_
    refine lv_bipush (v := 62) hx hb dX12_signToken_36 (by decide) ?_
    refine lv_icmp_eq (tgt := 50) hx hb dX12_signToken_38 (by decide) (fun c33 => ?_) (fun c33 => ?_)
    · have hf := (if_pos c33).symm.trans hf
      exact hj6 ls H locs (lv_sub hl [0] rfl) hB hf
    · have hf := (if_neg c33).symm.trans hf
      refine lv_aload_n hx hb dX12_signToken_41 rfl (lv_at hl 0 rfl) ?_
      refine gf_X12_X12_which C hK (hB.1 0 _ rfl) dX12_signToken_42 ?_
      refine lv_bipush (v := 61) hx hb dX12_signToken_45 (by decide) ?_
      refine lv_icmp_ne (tgt := 198) hx hb dX12_signToken_47 (by decide) (fun c34 => ?_) (fun c34 => ?_)
      · have hf := (if_neg c34).symm.trans hf
        refine lv_aload_n hx hb dX12_signToken_198 rfl (lv_at hl 0 rfl) ?_
        refine gf_X12_X12_which C hK (hB.1 0 _ rfl) dX12_signToken_199 ?_
        refine lv_bipush (v := 59) hx hb dX12_signToken_202 (by decide) ?_
        obtain ⟨x35, ex35, hf⟩ := ox_ex hf
        have hjx35 : W p l e R s m args below meth c H locs 0 0 Q (F0 m 275 ls [.int x35]) := by
          refine lv_istore_n (lv' := [(1, .int x35), (0, .ref (a_M 0))]) hx hb dX12_signToken_275 rfl hl (by decide) rfl (fun ls hl => ?_)
          refine lv_aload_n hx hb dX12_signToken_276 rfl (lv_at hl 1 rfl) ?_
          refine lv_iload_n hx hb dX12_signToken_277 rfl (lv_at hl 0 rfl) ?_
          obtain ⟨x36, ex36, hf⟩ := ox_ex hf
          have hjx36 : W p l e R s m args below meth c H locs 0 0 Q (F0 m 287 ls [.int x36, .ref (a_M 0)]) := by
            refine pf_X12_X12_kind C hK hB hD 0 rfl dX12_signToken_287 (fun H locs u37 eu37 hB => ?_)
            have hf := ox_lt eu37 hf
            have hB : WB E ad s.heap [wModel E a_M u37] H locs := hB
            have hf := Option.some.inj hf
            subst hf
            exact hQ _ _ H locs (fun _ => 0) hB dX12_signToken_290
          refine lv_if_eq (tgt := 285) hx hb dX12_signToken_278 (by decide) (fun c38 => ?_) (fun c38 => ?_)
          · refine lv_bipush (v := 6) hx hb dX12_signToken_285 (by decide) ?_
            exact ox_topi ((ex36).trans (if_pos c38)).symm hjx36
          · refine lv_iconst (v := 4) hx hb dX12_signToken_281 (by decide) ?_
            refine lv_goto (tgt := 287) hx hb dX12_signToken_282 (by decide) ?_
            exact ox_topi ((ex36).trans (if_neg c38)).symm hjx36
        refine lv_icmp_eq (tgt := 270) hx hb dX12_signToken_204 (by decide) (fun c39 => ?_) (fun c39 => ?_)
        · refine lv_iconst (v := 1) hx hb dX12_signToken_270 (by decide) ?_
          refine lv_goto (tgt := 275) hx hb dX12_signToken_271 (by decide) ?_
          exact ox_topi ((ex35).trans (if_pos c39)).symm hjx35
        · refine lv_aload_n hx hb dX12_signToken_207 rfl (lv_at hl 0 rfl) ?_
          refine gf_X12_X12_which C hK (hB.1 0 _ rfl) dX12_signToken_208 ?_
          refine lv_bipush (v := 40) hx hb dX12_signToken_211 (by decide) ?_
          refine lv_icmp_eq (tgt := 270) hx hb dX12_signToken_213 (by decide) (fun c40 => ?_) (fun c40 => ?_)
          · refine lv_iconst (v := 1) hx hb dX12_signToken_270 (by decide) ?_
            refine lv_goto (tgt := 275) hx hb dX12_signToken_271 (by decide) ?_
            exact ox_topi (((ex35).trans (if_neg c39)).trans (if_pos c40)).symm hjx35
          · refine lv_aload_n hx hb dX12_signToken_216 rfl (lv_at hl 0 rfl) ?_
            refine gf_X12_X12_which C hK (hB.1 0 _ rfl) dX12_signToken_217 ?_
            refine lv_bipush (v := 41) hx hb dX12_signToken_220 (by decide) ?_
            refine lv_icmp_eq (tgt := 270) hx hb dX12_signToken_222 (by decide) (fun c41 => ?_) (fun c41 => ?_)
            · refine lv_iconst (v := 1) hx hb dX12_signToken_270 (by decide) ?_
              refine lv_goto (tgt := 275) hx hb dX12_signToken_271 (by decide) ?_
              exact ox_topi ((((ex35).trans (if_neg c39)).trans (if_neg c40)).trans (if_pos c41)).symm hjx35
            · refine lv_aload_n hx hb dX12_signToken_225 rfl (lv_at hl 0 rfl) ?_
              refine gf_X12_X12_which C hK (hB.1 0 _ rfl) dX12_signToken_226 ?_
              refine lv_bipush (v := 43) hx hb dX12_signToken_229 (by decide) ?_
              refine lv_icmp_eq (tgt := 270) hx hb dX12_signToken_231 (by decide) (fun c42 => ?_) (fun c42 => ?_)
              · refine lv_iconst (v := 1) hx hb dX12_signToken_270 (by decide) ?_
                refine lv_goto (tgt := 275) hx hb dX12_signToken_271 (by decide) ?_
                exact ox_topi (((((ex35).trans (if_neg c39)).trans (if_neg c40)).trans (if_neg c41)).trans (if_pos c42)).symm hjx35
              · refine lv_aload_n hx hb dX12_signToken_234 rfl (lv_at hl 0 rfl) ?_
                refine gf_X12_X12_which C hK (hB.1 0 _ rfl) dX12_signToken_235 ?_
                refine lv_bipush (v := 45) hx hb dX12_signToken_238 (by decide) ?_
                refine lv_icmp_eq (tgt := 270) hx hb dX12_signToken_240 (by decide) (fun c43 => ?_) (fun c43 => ?_)
                · refine lv_iconst (v := 1) hx hb dX12_signToken_270 (by decide) ?_
                  refine lv_goto (tgt := 275) hx hb dX12_signToken_271 (by decide) ?_
                  exact ox_topi ((((((ex35).trans (if_neg c39)).trans (if_neg c40)).trans (if_neg c41)).trans (if_neg c42)).trans (if_pos c43)).symm hjx35
                · refine lv_aload_n hx hb dX12_signToken_243 rfl (lv_at hl 0 rfl) ?_
                  refine gf_X12_X12_which C hK (hB.1 0 _ rfl) dX12_signToken_244 ?_
                  refine lv_bipush (v := 42) hx hb dX12_signToken_247 (by decide) ?_
                  refine lv_icmp_eq (tgt := 270) hx hb dX12_signToken_249 (by decide) (fun c44 => ?_) (fun c44 => ?_)
                  · refine lv_iconst (v := 1) hx hb dX12_signToken_270 (by decide) ?_
                    refine lv_goto (tgt := 275) hx hb dX12_signToken_271 (by decide) ?_
                    exact ox_topi (((((((ex35).trans (if_neg c39)).trans (if_neg c40)).trans (if_neg c41)).trans (if_neg c42)).trans (if_neg c43)).trans (if_pos c44)).symm hjx35
                  · refine lv_aload_n hx hb dX12_signToken_252 rfl (lv_at hl 0 rfl) ?_
                    refine gf_X12_X12_which C hK (hB.1 0 _ rfl) dX12_signToken_253 ?_
                    refine lv_bipush (v := 47) hx hb dX12_signToken_256 (by decide) ?_
                    refine lv_icmp_eq (tgt := 270) hx hb dX12_signToken_258 (by decide) (fun c45 => ?_) (fun c45 => ?_)
                    · refine lv_iconst (v := 1) hx hb dX12_signToken_270 (by decide) ?_
                      refine lv_goto (tgt := 275) hx hb dX12_signToken_271 (by decide) ?_
                      exact ox_topi ((((((((ex35).trans (if_neg c39)).trans (if_neg c40)).trans (if_neg c41)).trans (if_neg c42)).trans (if_neg c43)).trans (if_neg c44)).trans (if_pos c45)).symm hjx35
                    · refine lv_aload_n hx hb dX12_signToken_261 rfl (lv_at hl 0 rfl) ?_
                      refine gf_X12_X12_which C hK (hB.1 0 _ rfl) dX12_signToken_262 ?_
                      refine lv_bipush (v := 37) hx hb dX12_signToken_265 (by decide) ?_
                      refine lv_icmp_ne (tgt := 274) hx hb dX12_signToken_267 (by decide) (fun c46 => ?_) (fun c46 => ?_)
                      · refine lv_iconst (v := 0) hx hb dX12_signToken_274 (by decide) ?_
                        exact ox_topi (((((((((ex35).trans (if_neg c39)).trans (if_neg c40)).trans (if_neg c41)).trans (if_neg c42)).trans (if_neg c43)).trans (if_neg c44)).trans (if_neg c45)).trans (if_neg c46)).symm hjx35
                      · refine lv_iconst (v := 1) hx hb dX12_signToken_270 (by decide) ?_
                        refine lv_goto (tgt := 275) hx hb dX12_signToken_271 (by decide) ?_
                        exact ox_topi (((((((((ex35).trans (if_neg c39)).trans (if_neg c40)).trans (if_neg c41)).trans (if_neg c42)).trans (if_neg c43)).trans (if_neg c44)).trans (if_neg c45)).trans (if_pos c46)).symm hjx35
      · have hf := (if_pos c34).symm.trans hf
        exact hj6 ls H locs (lv_sub hl [0] rfl) hB hf
set_option maxHeartbeats 4000000 in
set_option maxRecDepth 20000 in
theorem tX12_packed (l : Launch) (E : Ev) (a_M : Nat → Nat) (u_M : St) (x_1 : Int32) (x_2 : Int32) (res : Int32) (hf : fX12_packed u_M x_1 x_2 = some res) : MP l E yX12_packed cX12_packed 5 (some .int) (rmm 0 0) [wModel E a_M u_M] [.ref (a_M 0), .int x_1, .int x_2] (some (.int res)) := by
  unfold fX12_packed at hf
  refine MP.ofI rfl (by decide) (Nat.le_of_ble_eq_true rfl) ?_
  intro p e R s m args below meth c ls Q hRf hRl C hP hK hN hl hQ
  have hx := C.1
  have hb := C.2.1
  have hl : lv_has ls 5 [(0, .ref (a_M 0)), (1, .int x_1), (2, .int x_2)] := hl
  refine lv_iconst (v := 0) hx hb dX12_packed_0 (by decide) ?_
  refine lv_istore_n (lv' := [(3, .int (0 : Int32)), (0, .ref (a_M 0)), (1, .int x_1), (2, .int x_2)]) hx hb dX12_packed_1 rfl hl (by decide) rfl (fun ls hl => ?_)
  refine lv_iload_n hx hb dX12_packed_2 rfl (lv_at hl 2 rfl) ?_
  refine lv_istore (lv' := [(4, .int x_1), (3, .int (0 : Int32)), (0, .ref (a_M 0)), (1, .int x_1), (2, .int x_2)]) hx hb dX12_packed_3 hl (by decide) rfl (fun ls hl => ?_)
  obtain ⟨X1, hX1, hf⟩ := ox_bind hf
  have hexit1 : ∀ y10, y10 = X1 → ∀ (ls : Array Slot), lv_has ls 5 [(3, .int y10)] → W p l e R s m args below meth c s.heap [] 0 0 Q (F0 m 45 ls []) := by
    intro y10 hy ls hl
    subst hy
    refine lv_iload_n hx hb dX12_packed_45 rfl (lv_at hl 0 rfl) ?_
    have hf := Option.some.inj hf
    subst hf
    exact hQ _ _ dX12_packed_46
  have hloop1 : ∀ (nf : Nat) (x1 : Int32) (x2 : Int32) (ls : Array Slot), lv_has ls 5 [(0, .ref (a_M 0)), (1, .int x_1), (2, .int x_2), (3, .int x1), (4, .int x2)] → fX12_packed_L1 u_M x_1 x_2 nf x1 x2 = some X1 → W p l e R s m args below meth c s.heap [] 0 0 Q (F0 m 5 ls []) := by
    intro nf
    induction nf with
    | zero =>
      intro x1 x2 ls hl hf
      simp [fX12_packed_L1] at hf
    | succ nf ih =>
      intro x1 x2 ls hl hf
      rw [fX12_packed_L1] at hf
      refine lv_iload hx hb dX12_packed_5 (lv_at hl 4 rfl) ?_
      refine lv_iload_n hx hb dX12_packed_7 rfl (lv_at hl 1 rfl) ?_
      refine lv_bipush (v := 6) hx hb dX12_packed_8 (by decide) ?_
      refine lv_iadd hx hb dX12_packed_10 ?_
      refine lv_icmp_ge (tgt := 45) hx hb dX12_packed_11 (by decide) (fun c3 => ?_) (fun c3 => ?_)
      · have hf := (if_pos c3).symm.trans hf
        exact hexit1 _ (Option.some.inj hf) ls (lv_sub hl [3] rfl)
      · have hf := (if_neg c3).symm.trans hf
        refine lv_iload_n hx hb dX12_packed_14 rfl (lv_at hl 3 rfl) ?_
        refine lv_iconst (v := 5) hx hb dX12_packed_15 (by decide) ?_
        refine lv_ishl hx hb dX12_packed_16 ?_
        refine lv_iload hx hb dX12_packed_17 (lv_at hl 4 rfl) ?_
        refine lv_iload_n hx hb dX12_packed_19 rfl (lv_at hl 2 rfl) ?_
        obtain ⟨j5, ej5, hf⟩ := ox_ex hf
        have hj5 : ∀ (x4 : Int32) (ls : Array Slot), lv_has ls 5 [(0, .ref (a_M 0)), (1, .int x_1), (2, .int x_2), (4, .int x2)] → j5 x4 = some X1 → W p l e R s m args below meth c s.heap [] 0 0 Q (F0 m 37 ls [.int x4, .int (x1 <<< ((5 : Int32) &&& 31))]) := by
          intro x4 ls hl hf
          have hf := ox_a1 ej5 hf
          refine lv_ior hx hb dX12_packed_37 ?_
          refine lv_topi (fun x6 ex6 => ?_)
          have hf := ox_lt ex6 hf
          refine lv_istore_n (lv' := [(3, .int x6), (0, .ref (a_M 0)), (1, .int x_1), (2, .int x_2), (4, .int x2)]) hx hb dX12_packed_38 rfl hl (by decide) rfl (fun ls hl => ?_)
          obtain ⟨x7, ex7⟩ : ∃ z : Int32, z = (x2 + 1) := ⟨_, rfl⟩
          have hf := ox_lt ex7 hf
          refine lv_iinc (v := x7) (lv' := [(4, .int x7), (3, .int x6), (0, .ref (a_M 0)), (1, .int x_1), (2, .int x_2)]) hx hb dX12_packed_39 hl (k := 4) rfl (by rw [ex7]; rfl) (by decide) rfl (fun ls hl => ?_)
          refine lv_goto (tgt := 5) hx hb dX12_packed_42 (by decide) ?_
          exact ih _ _ ls (lv_sub hl [2, 3, 4, 1, 0] rfl) hf
        refine lv_icmp_ge (tgt := 36) hx hb dX12_packed_20 (by decide) (fun c8 => ?_) (fun c8 => ?_)
        · have hf := (if_pos c8).symm.trans hf
          refine lv_iconst (v := 0) hx hb dX12_packed_36 (by decide) ?_
          exact hj5 _ ls (lv_sub hl [0, 1, 2, 4] rfl) hf
        · have hf := (if_neg c8).symm.trans hf
          refine lv_aload_n hx hb dX12_packed_23 rfl (lv_at hl 0 rfl) ?_
          refine gf_X12_X12_tape C hK (hP 0 _ rfl) dX12_packed_24 ?_
          refine lv_iload hx hb dX12_packed_27 (lv_at hl 4 rfl) ?_
          obtain ⟨hn9, hf⟩ := ox_chk hf
          refine ld_X12_tape C hK (hP 0 _ rfl) hn9 rfl dX12_packed_29 ?_
          refine lv_bipush (v := 96) hx hb dX12_packed_30 (by decide) ?_
          refine lv_isub hx hb dX12_packed_32 ?_
          refine lv_goto (tgt := 37) hx hb dX12_packed_33 (by decide) ?_
          exact hj5 _ ls (lv_sub hl [0, 1, 2, 4] rfl) hf
  exact hloop1 fuel _ _ ls (lv_sub hl [2, 3, 4, 1, 0] rfl) hX1
set_option maxHeartbeats 4000000 in
set_option maxRecDepth 20000 in
theorem tX12_token (l : Launch) (E : Ev) (a_M : Nat → Nat) (u_M : St) (res : St) (hf : fX12_token u_M = some res) : MX l E yX12_token cX12_token 1 none (rmm 1 27) [wModel E a_M u_M] (fun q => [wModel E a_M res]) [.ref (a_M 0)] none := by
  unfold fX12_token at hf
  refine MX.ofV rfl (by decide) (Nat.le_of_ble_eq_true rfl) ?_
  intro p e R s m args below meth c ls Q ad H hRf hRl C hB hD hK hN hl hQ
  generalize hlocs : ([] : List Loc) = locs at hB ⊢
  clear hlocs
  have hx := C.1
  have hb := C.2.1
  have hl : lv_has ls 1 [(0, .ref (a_M 0))] := hl
  obtain ⟨X1, hX1, hf⟩ := ox_bind hf
  have hexit1 : ∀ y10, y10 = X1 → ∀ (ls : Array Slot) (H : Heap) (locs : List Loc), lv_has ls 1 [(0, .ref (a_M 0))] → WB E ad s.heap [wModel E a_M y10] H locs → W p l e R s m args below meth c H locs 0 0 Q (F0 m 52 ls []) := by
    intro y10 hy ls H locs hl hB
    subst hy
    refine lv_aload_n hx hb dX12_token_52 rfl (lv_at hl 0 rfl) ?_
    refine lv_aload_n hx hb dX12_token_53 rfl (lv_at hl 0 rfl) ?_
    refine gf_X12_X12_next C hK (hB.1 0 _ rfl) dX12_token_54 ?_
    refine lv_topi (fun x11 ex11 => ?_)
    have hf := ox_lt ex11 hf
    refine pf_X12_X12_at C hK hB hD 0 rfl dX12_token_57 (fun H locs u12 eu12 hB => ?_)
    have hf := ox_lt eu12 hf
    have hB : WB E ad s.heap [wModel E a_M u12] H locs := hB
    refine lv_aload_n hx hb dX12_token_60 rfl (lv_at hl 0 rfl) ?_
    refine gf_X12_X12_next C hK (hB.1 0 _ rfl) dX12_token_61 ?_
    refine lv_aload_n hx hb dX12_token_64 rfl (lv_at hl 0 rfl) ?_
    refine gf_X12_X12_stop C hK (hB.1 0 _ rfl) dX12_token_65 ?_
    refine lv_icmp_ne (tgt := 79) hx hb dX12_token_68 (by decide) (fun c13 => ?_) (fun c13 => ?_)
    · have hf := (if_neg c13).symm.trans hf
      refine lv_aload_n hx hb dX12_token_79 rfl (lv_at hl 0 rfl) ?_
      refine lv_aload_n hx hb dX12_token_80 rfl (lv_at hl 0 rfl) ?_
      refine gf_X12_X12_next C hK (hB.1 0 _ rfl) dX12_token_81 ?_
      obtain ⟨r14, hr14, hf⟩ := ox_bind hf
      refine cxVP (As := [.int (gI u12 7)]) (rest := []) (st1 := [.int r14]) C hK (tX12_isSmall l E a_M u12 (gI u12 7) r14 hr14) lk_X12_178 ⟨rfl, rfl⟩ (by rw [hRf, hRl]; decide) ⟨Nat.zero_le _, Nat.zero_le _⟩ (PB.sub hB.1 [0] rfl) (hB.old hD hN) (Nat.le_trans hN hB.2.2.1) (rc_X12 hK (hB.1 0 _ rfl)) rfl hl.1 rfl rfl (Nat.le_of_ble_eq_true rfl) dX12_token_84 ?_
      refine lv_if_eq (tgt := 192) hx hb dX12_token_87 (by decide) (fun c15 => ?_) (fun c15 => ?_)
      · have hf := (if_pos c15).symm.trans hf
        refine lv_aload_n hx hb dX12_token_192 rfl (lv_at hl 0 rfl) ?_
        refine lv_aload_n hx hb dX12_token_193 rfl (lv_at hl 0 rfl) ?_
        refine gf_X12_X12_next C hK (hB.1 0 _ rfl) dX12_token_194 ?_
        obtain ⟨r16, hr16, hf⟩ := ox_bind hf
        refine cxVP (As := [.int (gI u12 7)]) (rest := []) (st1 := [.int r16]) C hK (tX12_isDigit l E a_M u12 (gI u12 7) r16 hr16) lk_X12_192 ⟨rfl, rfl⟩ (by rw [hRf, hRl]; decide) ⟨Nat.zero_le _, Nat.zero_le _⟩ (PB.sub hB.1 [0] rfl) (hB.old hD hN) (Nat.le_trans hN hB.2.2.1) (rc_X12 hK (hB.1 0 _ rfl)) rfl hl.1 rfl rfl (Nat.le_of_ble_eq_true rfl) dX12_token_197 ?_
        refine lv_if_eq (tgt := 277) hx hb dX12_token_200 (by decide) (fun c17 => ?_) (fun c17 => ?_)
        · have hf := (if_pos c17).symm.trans hf
          refine lv_aload_n hx hb dX12_token_277 rfl (lv_at hl 0 rfl) ?_
          obtain ⟨r18, hr18, hf⟩ := ox_bind hf
          refine cxVX (bs1 := (fun q => [wModel E a_M r18])) (As := []) (rest := []) (st1 := []) C hK (tX12_signToken l E a_M u12 r18 hr18) lk_X12_196 (by rw [hRf, hRl]; decide) ⟨Nat.zero_le _, Nat.zero_le _⟩ hB hD hN [0] (by decide) rfl (fun _ => rfl) (fun _ => rfl) (rc_X12 hK (hB.1 0 _ rfl)) rfl hl.1 rfl rfl (Nat.le_of_ble_eq_true rfl) dX12_token_278 (fun H locs q19 hB => ?_)
          have hB : WB E ad s.heap [wModel E a_M r18] H locs := hB
          have hf := Option.some.inj hf
          subst hf
          exact hQ _ _ H locs (fun _ => 0) hB dX12_token_281
        · have hf := (if_neg c17).symm.trans hf
          refine lv_aload_n hx hb dX12_token_203 rfl (lv_at hl 0 rfl) ?_
          refine lv_iconst (v := 3) hx hb dX12_token_204 (by decide) ?_
          refine pf_X12_X12_kind C hK hB hD 0 rfl dX12_token_205 (fun H locs u20 eu20 hB => ?_)
          have hf := ox_lt eu20 hf
          have hB : WB E ad s.heap [wModel E a_M u20] H locs := hB
          refine lv_aload_n hx hb dX12_token_208 rfl (lv_at hl 0 rfl) ?_
          refine lv_iconst (v := 0) hx hb dX12_token_209 (by decide) ?_
          refine pf_X12_X12_which C hK hB hD 0 rfl dX12_token_210 (fun H locs u21 eu21 hB => ?_)
          have hf := ox_lt eu21 hf
          have hB : WB E ad s.heap [wModel E a_M u21] H locs := hB
          obtain ⟨X2, hX2, hf⟩ := ox_bind hf
          have hexit2 : ∀ y32, y32 = X2 → ∀ (ls : Array Slot) (H : Heap) (locs : List Loc), lv_has ls 1 [] → WB E ad s.heap [wModel E a_M y32] H locs → W p l e R s m args below meth c H locs 0 0 Q (F0 m 281 ls []) := by
            intro y32 hy ls H locs hl hB
            subst hy
            have hf := Option.some.inj hf
            subst hf
            exact hQ _ _ H locs (fun _ => 0) hB dX12_token_281
          have hloop2 : ∀ (nf : Nat) (u22 : St) (ls : Array Slot) (H : Heap) (locs : List Loc), lv_has ls 1 [(0, .ref (a_M 0))] → WB E ad s.heap [wModel E a_M u22] H locs → fX12_token_L2 nf u22 = some X2 → W p l e R s m args below meth c H locs 0 0 Q (F0 m 213 ls []) := by
            intro nf
            induction nf with
            | zero =>
              intro u22 ls H locs hl hB hf
              simp [fX12_token_L2] at hf
            | succ nf ih =>
              intro u22 ls H locs hl hB hf
              rw [fX12_token_L2] at hf
              refine lv_aload_n hx hb dX12_token_213 rfl (lv_at hl 0 rfl) ?_
              refine lv_aload_n hx hb dX12_token_214 rfl (lv_at hl 0 rfl) ?_
              refine gf_X12_X12_next C hK (hB.1 0 _ rfl) dX12_token_215 ?_
              obtain ⟨r23, hr23, hf⟩ := ox_bind hf
              refine cxVP (As := [.int (gI u22 7)]) (rest := []) (st1 := [.int r23]) C hK (tX12_isDigit l E a_M u22 (gI u22 7) r23 hr23) lk_X12_192 ⟨rfl, rfl⟩ (by rw [hRf, hRl]; decide) ⟨Nat.zero_le _, Nat.zero_le _⟩ (PB.sub hB.1 [0] rfl) (hB.old hD hN) (Nat.le_trans hN hB.2.2.1) (rc_X12 hK (hB.1 0 _ rfl)) rfl hl.1 rfl rfl (Nat.le_of_ble_eq_true rfl) dX12_token_218 ?_
              refine lv_if_eq (tgt := 281) hx hb dX12_token_221 (by decide) (fun c24 => ?_) (fun c24 => ?_)
              · have hf := (if_pos c24).symm.trans hf
                exact hexit2 _ (Option.some.inj hf) ls H locs (lv_sub hl [] rfl) hB
              · have hf := (if_neg c24).symm.trans hf
                refine lv_aload_n hx hb dX12_token_224 rfl (lv_at hl 0 rfl) ?_
                refine lv_aload_n hx hb dX12_token_225 rfl (lv_at hl 0 rfl) ?_
                refine gf_X12_X12_which C hK (hB.1 0 _ rfl) dX12_token_226 ?_
                refine lv_ldc (v := 99999) hx hb C.2.2.2.1 (C.2.2.2.2 _ mw_1581) dX12_token_229 ?_
                obtain ⟨j26, ej26, hf⟩ := ox_ex hf
                have hj26 : ∀ (x25 : Int32) (ls : Array Slot) (H : Heap) (locs : List Loc), lv_has ls 1 [(0, .ref (a_M 0))] → WB E ad s.heap [wModel E a_M u22] H locs → j26 x25 = some X2 → W p l e R s m args below meth c H locs 0 0 Q (F0 m 261 ls [.int x25, .ref (a_M 0)]) := by
                  intro x25 ls H locs hl hB hf
                  have hf := ox_a1 ej26 hf
                  refine pf_X12_X12_which C hK hB hD 0 rfl dX12_token_261 (fun H locs u27 eu27 hB => ?_)
                  have hf := ox_lt eu27 hf
                  have hB : WB E ad s.heap [wModel E a_M u27] H locs := hB
                  refine lv_aload_n hx hb dX12_token_264 rfl (lv_at hl 0 rfl) ?_
                  refine lv_dup hx hb dX12_token_265 rfl ?_
                  refine gf_X12_X12_next C hK (hB.1 0 _ rfl) dX12_token_266 ?_
                  refine lv_iconst (v := 1) hx hb dX12_token_269 (by decide) ?_
                  refine lv_iadd hx hb dX12_token_270 ?_
                  refine lv_topi (fun x28 ex28 => ?_)
                  have hf := ox_lt ex28 hf
                  refine pf_X12_X12_next C hK hB hD 0 rfl dX12_token_271 (fun H locs u29 eu29 hB => ?_)
                  have hf := ox_lt eu29 hf
                  have hB : WB E ad s.heap [wModel E a_M u29] H locs := hB
                  refine lv_goto (tgt := 213) hx hb dX12_token_274 (by decide) ?_
                  exact ih _ ls H locs (lv_sub hl [0] rfl) hB hf
                refine lv_icmp_le (tgt := 241) hx hb dX12_token_231 (by decide) (fun c30 => ?_) (fun c30 => ?_)
                · have hf := (if_pos c30).symm.trans hf
                  refine lv_bipush (v := 10) hx hb dX12_token_241 (by decide) ?_
                  refine lv_aload_n hx hb dX12_token_243 rfl (lv_at hl 0 rfl) ?_
                  refine gf_X12_X12_which C hK (hB.1 0 _ rfl) dX12_token_244 ?_
                  refine lv_imul hx hb dX12_token_247 ?_
                  refine lv_aload_n hx hb dX12_token_248 rfl (lv_at hl 0 rfl) ?_
                  refine gf_X12_X12_tape C hK (hB.1 0 _ rfl) dX12_token_249 ?_
                  refine lv_aload_n hx hb dX12_token_252 rfl (lv_at hl 0 rfl) ?_
                  refine gf_X12_X12_next C hK (hB.1 0 _ rfl) dX12_token_253 ?_
                  obtain ⟨hn31, hf⟩ := ox_chk hf
                  refine ld_X12_tape C hK (hB.1 0 _ rfl) hn31 rfl dX12_token_256 ?_
                  refine lv_iadd hx hb dX12_token_257 ?_
                  refine lv_bipush (v := 48) hx hb dX12_token_258 (by decide) ?_
                  refine lv_isub hx hb dX12_token_260 ?_
                  exact hj26 _ ls H locs (lv_sub hl [0] rfl) hB hf
                · have hf := (if_neg c30).symm.trans hf
                  refine lv_aload_n hx hb dX12_token_234 rfl (lv_at hl 0 rfl) ?_
                  refine gf_X12_X12_which C hK (hB.1 0 _ rfl) dX12_token_235 ?_
                  refine lv_goto (tgt := 261) hx hb dX12_token_238 (by decide) ?_
                  exact hj26 _ ls H locs (lv_sub hl [0] rfl) hB hf
          exact hloop2 fuel _ ls H locs (lv_sub hl [0] rfl) hB hX2
      · have hf := (if_neg c15).symm.trans hf
        obtain ⟨X3, hX3, hf⟩ := ox_bind hf
        have hexit3 : ∀ y39, y39 = X3 → ∀ (ls : Array Slot) (H : Heap) (locs : List Loc), lv_has ls 1 [(0, .ref (a_M 0))] → WB E ad s.heap [wModel E a_M y39] H locs → W p l e R s m args below meth c H locs 0 0 Q (F0 m 114 ls []) := by
          intro y39 hy ls H locs hl hB
          subst hy
          refine lv_aload_n hx hb dX12_token_114 rfl (lv_at hl 0 rfl) ?_
          refine lv_aload_n hx hb dX12_token_115 rfl (lv_at hl 0 rfl) ?_
          refine lv_aload_n hx hb dX12_token_116 rfl (lv_at hl 0 rfl) ?_
          refine gf_X12_X12_at C hK (hB.1 0 _ rfl) dX12_token_117 ?_
          refine lv_aload_n hx hb dX12_token_120 rfl (lv_at hl 0 rfl) ?_
          refine gf_X12_X12_next C hK (hB.1 0 _ rfl) dX12_token_121 ?_
          obtain ⟨r40, hr40, hf⟩ := ox_bind hf
          refine cxVP (As := [.int (gI y39 10), .int (gI y39 7)]) (rest := [.ref (a_M 0)]) (st1 := [.int r40, .ref (a_M 0)]) C hK (tX12_wordAt l E a_M y39 (gI y39 10) (gI y39 7) r40 hr40) lk_X12_182 ⟨rfl, rfl⟩ (by rw [hRf, hRl]; decide) ⟨Nat.zero_le _, Nat.zero_le _⟩ (PB.sub hB.1 [0] rfl) (hB.old hD hN) (Nat.le_trans hN hB.2.2.1) (rc_X12 hK (hB.1 0 _ rfl)) rfl hl.1 rfl rfl (Nat.le_of_ble_eq_true rfl) dX12_token_124 ?_
          refine pf_X12_X12_which C hK hB hD 0 rfl dX12_token_127 (fun H locs u41 eu41 hB => ?_)
          have hf := ox_lt eu41 hf
          have hB : WB E ad s.heap [wModel E a_M u41] H locs := hB
          refine lv_aload_n hx hb dX12_token_130 rfl (lv_at hl 0 rfl) ?_
          refine lv_aload_n hx hb dX12_token_131 rfl (lv_at hl 0 rfl) ?_
          refine gf_X12_X12_which C hK (hB.1 0 _ rfl) dX12_token_132 ?_
          obtain ⟨x42, ex42, hf⟩ := ox_ex hf
          have hjx42 : W p l e R s m args below meth c H locs 0 0 Q (F0 m 162 ls [.int x42, .ref (a_M 0)]) := by
            refine pf_X12_X12_kind C hK hB hD 0 rfl dX12_token_162 (fun H locs u43 eu43 hB => ?_)
            have hf := ox_lt eu43 hf
            have hB : WB E ad s.heap [wModel E a_M u43] H locs := hB
            refine lv_aload_n hx hb dX12_token_165 rfl (lv_at hl 0 rfl) ?_
            refine gf_X12_X12_kind C hK (hB.1 0 _ rfl) dX12_token_166 ?_
            refine lv_iconst (v := 2) hx hb dX12_token_169 (by decide) ?_
            refine lv_icmp_ne (tgt := 281) hx hb dX12_token_170 (by decide) (fun c44 => ?_) (fun c44 => ?_)
            · have hf := (if_neg c44).symm.trans hf
              have hf := Option.some.inj hf
              subst hf
              exact hQ _ _ H locs (fun _ => 0) hB dX12_token_281
            · have hf := (if_pos c44).symm.trans hf
              refine lv_aload_n hx hb dX12_token_173 rfl (lv_at hl 0 rfl) ?_
              refine lv_aload_n hx hb dX12_token_174 rfl (lv_at hl 0 rfl) ?_
              refine lv_aload_n hx hb dX12_token_175 rfl (lv_at hl 0 rfl) ?_
              refine gf_X12_X12_at C hK (hB.1 0 _ rfl) dX12_token_176 ?_
              refine lv_aload_n hx hb dX12_token_179 rfl (lv_at hl 0 rfl) ?_
              refine gf_X12_X12_next C hK (hB.1 0 _ rfl) dX12_token_180 ?_
              obtain ⟨r45, hr45, hf⟩ := ox_bind hf
              refine cxVP (As := [.int (gI u43 10), .int (gI u43 7)]) (rest := [.ref (a_M 0)]) (st1 := [.int r45, .ref (a_M 0)]) C hK (tX12_packed l E a_M u43 (gI u43 10) (gI u43 7) r45 hr45) lk_X12_189 ⟨rfl, rfl⟩ (by rw [hRf, hRl]; decide) ⟨Nat.zero_le _, Nat.zero_le _⟩ (PB.sub hB.1 [0] rfl) (hB.old hD hN) (Nat.le_trans hN hB.2.2.1) (rc_X12 hK (hB.1 0 _ rfl)) rfl hl.1 rfl rfl (Nat.le_of_ble_eq_true rfl) dX12_token_183 ?_
              refine pf_X12_X12_which C hK hB hD 0 rfl dX12_token_186 (fun H locs u46 eu46 hB => ?_)
              have hf := ox_lt eu46 hf
              have hB : WB E ad s.heap [wModel E a_M u46] H locs := hB
              refine lv_goto (tgt := 281) hx hb dX12_token_189 (by decide) ?_
              have hf := Option.some.inj hf
              subst hf
              exact hQ _ _ H locs (fun _ => 0) hB dX12_token_281
          refine lv_if_lt (tgt := 142) hx hb dX12_token_135 (by decide) (fun c47 => ?_) (fun c47 => ?_)
          · refine lv_aload_n hx hb dX12_token_142 rfl (lv_at hl 0 rfl) ?_
            refine gf_X12_X12_next C hK (hB.1 0 _ rfl) dX12_token_143 ?_
            refine lv_aload_n hx hb dX12_token_146 rfl (lv_at hl 0 rfl) ?_
            refine gf_X12_X12_at C hK (hB.1 0 _ rfl) dX12_token_147 ?_
            refine lv_isub hx hb dX12_token_150 ?_
            refine lv_bipush (v := 6) hx hb dX12_token_151 (by decide) ?_
            refine lv_icmp_le (tgt := 161) hx hb dX12_token_153 (by decide) (fun c48 => ?_) (fun c48 => ?_)
            · refine lv_iconst (v := 2) hx hb dX12_token_161 (by decide) ?_
              exact ox_topi (((ex42).trans (if_pos c47)).trans (if_pos c48)).symm hjx42
            · refine lv_bipush (v := 6) hx hb dX12_token_156 (by decide) ?_
              refine lv_goto (tgt := 162) hx hb dX12_token_158 (by decide) ?_
              exact ox_topi (((ex42).trans (if_pos c47)).trans (if_neg c48)).symm hjx42
          · refine lv_iconst (v := 1) hx hb dX12_token_138 (by decide) ?_
            refine lv_goto (tgt := 162) hx hb dX12_token_139 (by decide) ?_
            exact ox_topi ((ex42).trans (if_neg c47)).symm hjx42
        have hloop3 : ∀ (nf : Nat) (u34 : St) (ls : Array Slot) (H : Heap) (locs : List Loc), lv_has ls 1 [(0, .ref (a_M 0))] → WB E ad s.heap [wModel E a_M u34] H locs → fX12_token_L3 nf u34 = some X3 → W p l e R s m args below meth c H locs 0 0 Q (F0 m 90 ls []) := by
          intro nf
          induction nf with
          | zero =>
            intro u34 ls H locs hl hB hf
            simp [fX12_token_L3] at hf
          | succ nf ih =>
            intro u34 ls H locs hl hB hf
            rw [fX12_token_L3] at hf
            refine lv_aload_n hx hb dX12_token_90 rfl (lv_at hl 0 rfl) ?_
            refine lv_aload_n hx hb dX12_token_91 rfl (lv_at hl 0 rfl) ?_
            refine gf_X12_X12_next C hK (hB.1 0 _ rfl) dX12_token_92 ?_
            obtain ⟨r35, hr35, hf⟩ := ox_bind hf
            refine cxVP (As := [.int (gI u34 7)]) (rest := []) (st1 := [.int r35]) C hK (tX12_isSmall l E a_M u34 (gI u34 7) r35 hr35) lk_X12_178 ⟨rfl, rfl⟩ (by rw [hRf, hRl]; decide) ⟨Nat.zero_le _, Nat.zero_le _⟩ (PB.sub hB.1 [0] rfl) (hB.old hD hN) (Nat.le_trans hN hB.2.2.1) (rc_X12 hK (hB.1 0 _ rfl)) rfl hl.1 rfl rfl (Nat.le_of_ble_eq_true rfl) dX12_token_95 ?_
            refine lv_if_eq (tgt := 114) hx hb dX12_token_98 (by decide) (fun c36 => ?_) (fun c36 => ?_)
            · have hf := (if_pos c36).symm.trans hf
              exact hexit3 _ (Option.some.inj hf) ls H locs (lv_sub hl [0] rfl) hB
            · have hf := (if_neg c36).symm.trans hf
              refine lv_aload_n hx hb dX12_token_101 rfl (lv_at hl 0 rfl) ?_
              refine lv_dup hx hb dX12_token_102 rfl ?_
              refine gf_X12_X12_next C hK (hB.1 0 _ rfl) dX12_token_103 ?_
              refine lv_iconst (v := 1) hx hb dX12_token_106 (by decide) ?_
              refine lv_iadd hx hb dX12_token_107 ?_
              refine lv_topi (fun x37 ex37 => ?_)
              have hf := ox_lt ex37 hf
              refine pf_X12_X12_next C hK hB hD 0 rfl dX12_token_108 (fun H locs u38 eu38 hB => ?_)
              have hf := ox_lt eu38 hf
              have hB : WB E ad s.heap [wModel E a_M u38] H locs := hB
              refine lv_goto (tgt := 90) hx hb dX12_token_111 (by decide) ?_
              exact ih _ ls H locs (lv_sub hl [0] rfl) hB hf
        exact hloop3 fuel _ ls H locs (lv_sub hl [0] rfl) hB hX3
    · have hf := (if_pos c13).symm.trans hf
      refine lv_aload_n hx hb dX12_token_71 rfl (lv_at hl 0 rfl) ?_
      refine lv_iconst (v := 0) hx hb dX12_token_72 (by decide) ?_
      refine pf_X12_X12_kind C hK hB hD 0 rfl dX12_token_73 (fun H locs u50 eu50 hB => ?_)
      have hf := ox_lt eu50 hf
      have hB : WB E ad s.heap [wModel E a_M u50] H locs := hB
      refine lv_goto (tgt := 281) hx hb dX12_token_76 (by decide) ?_
      have hf := Option.some.inj hf
      subst hf
      exact hQ _ _ H locs (fun _ => 0) hB dX12_token_281
  have hloop1 : ∀ (nf : Nat) (u1 : St) (ls : Array Slot) (H : Heap) (locs : List Loc), lv_has ls 1 [(0, .ref (a_M 0))] → WB E ad s.heap [wModel E a_M u1] H locs → fX12_token_L1 nf u1 = some X1 → W p l e R s m args below meth c H locs 0 0 Q (F0 m 0 ls []) := by
    intro nf
    induction nf with
    | zero =>
      intro u1 ls H locs hl hB hf
      simp [fX12_token_L1] at hf
    | succ nf ih =>
      intro u1 ls H locs hl hB hf
      rw [fX12_token_L1] at hf
      refine lv_aload_n hx hb dX12_token_0 rfl (lv_at hl 0 rfl) ?_
      refine gf_X12_X12_next C hK (hB.1 0 _ rfl) dX12_token_1 ?_
      refine lv_aload_n hx hb dX12_token_4 rfl (lv_at hl 0 rfl) ?_
      refine gf_X12_X12_stop C hK (hB.1 0 _ rfl) dX12_token_5 ?_
      refine lv_icmp_ge (tgt := 52) hx hb dX12_token_8 (by decide) (fun c2 => ?_) (fun c2 => ?_)
      · have hf := (if_pos c2).symm.trans hf
        exact hexit1 _ (Option.some.inj hf) ls H locs (lv_sub hl [0] rfl) hB
      · have hf := (if_neg c2).symm.trans hf
        refine lv_aload_n hx hb dX12_token_11 rfl (lv_at hl 0 rfl) ?_
        refine gf_X12_X12_tape C hK (hB.1 0 _ rfl) dX12_token_12 ?_
        refine lv_aload_n hx hb dX12_token_15 rfl (lv_at hl 0 rfl) ?_
        refine gf_X12_X12_next C hK (hB.1 0 _ rfl) dX12_token_16 ?_
        obtain ⟨hn3, hf⟩ := ox_chk hf
        refine ld_X12_tape C hK (hB.1 0 _ rfl) hn3 rfl dX12_token_19 ?_
        refine lv_bipush (v := 10) hx hb dX12_token_20 (by decide) ?_
        obtain ⟨j4, ej4, hf⟩ := ox_ex hf
        have hj4 : ∀ (ls : Array Slot) (H : Heap) (locs : List Loc), lv_has ls 1 [(0, .ref (a_M 0))] → WB E ad s.heap [wModel E a_M u1] H locs → j4 = some X1 → W p l e R s m args below meth c H locs 0 0 Q (F0 m 39 ls []) := by
          intro ls H locs hl hB hf
          have hf := ox_a0 ej4 hf
          refine lv_aload_n hx hb dX12_token_39 rfl (lv_at hl 0 rfl) ?_
          refine lv_dup hx hb dX12_token_40 rfl ?_
          refine gf_X12_X12_next C hK (hB.1 0 _ rfl) dX12_token_41 ?_
          refine lv_iconst (v := 1) hx hb dX12_token_44 (by decide) ?_
          refine lv_iadd hx hb dX12_token_45 ?_
          refine lv_topi (fun x5 ex5 => ?_)
          have hf := ox_lt ex5 hf
          refine pf_X12_X12_next C hK hB hD 0 rfl dX12_token_46 (fun H locs u6 eu6 hB => ?_)
          have hf := ox_lt eu6 hf
          have hB : WB E ad s.heap [wModel E a_M u6] H locs := hB
          refine lv_goto (tgt := 0) hx hb dX12_token_49 (by decide) ?_
          exact ih _ ls H locs (lv_sub hl [0] rfl) hB hf
        refine lv_icmp_eq (tgt := 39) hx hb dX12_token_22 (by decide) (fun c7 => ?_) (fun c7 => ?_)
        · have hf := (if_pos c7).symm.trans hf
          exact hj4 ls H locs (lv_sub hl [0] rfl) hB hf
        · have hf := (if_neg c7).symm.trans hf
          refine lv_aload_n hx hb dX12_token_25 rfl (lv_at hl 0 rfl) ?_
          refine gf_X12_X12_tape C hK (hB.1 0 _ rfl) dX12_token_26 ?_
          refine lv_aload_n hx hb dX12_token_29 rfl (lv_at hl 0 rfl) ?_
          refine gf_X12_X12_next C hK (hB.1 0 _ rfl) dX12_token_30 ?_
          obtain ⟨hn8, hf⟩ := ox_chk hf
          refine ld_X12_tape C hK (hB.1 0 _ rfl) hn8 rfl dX12_token_33 ?_
          refine lv_bipush (v := 32) hx hb dX12_token_34 (by decide) ?_
          refine lv_icmp_ne (tgt := 52) hx hb dX12_token_36 (by decide) (fun c9 => ?_) (fun c9 => ?_)
          · have hf := (if_neg c9).symm.trans hf
            exact hexit1 _ (Option.some.inj hf) ls H locs (lv_sub hl [0] rfl) hB
          · have hf := (if_pos c9).symm.trans hf
            exact hj4 ls H locs (lv_sub hl [0] rfl) hB hf
  exact hloop1 fuel _ ls H locs (lv_sub hl [0] rfl) hB hX1
set_option maxHeartbeats 4000000 in
set_option maxRecDepth 20000 in
theorem tX12_isKey (l : Launch) (E : Ev) (a_M : Nat → Nat) (u_M : St) (x_1 : Int32) (res : Int32) (hf : fX12_isKey u_M x_1 = res) : MP l E yX12_isKey cX12_isKey 2 (some .boolean) (rmm 0 0) [wModel E a_M u_M] [.ref (a_M 0), .int x_1] (some (.int res)) := by
  unfold fX12_isKey at hf
  refine MP.ofZZ rfl (by decide) (Nat.le_of_ble_eq_true rfl) ?_
  intro p e R s m args below meth c ls Q hRf hRl C hP hK hN hl hQ
  have hx := C.1
  have hb := C.2.1
  have hl : lv_has ls 2 [(0, .ref (a_M 0)), (1, .int x_1)] := hl
  refine lv_aload_n hx hb dX12_isKey_0 rfl (lv_at hl 0 rfl) ?_
  refine gf_X12_X12_kind C hK (hP 0 _ rfl) dX12_isKey_1 ?_
  refine lv_iconst (v := 1) hx hb dX12_isKey_4 (by decide) ?_
  obtain ⟨x1, ex1, hf⟩ := ox_ex hf
  have hjx1 : W p l e R s m args below meth c s.heap [] 0 0 Q (F0 m 21 ls [.int x1]) := by
    subst hf
    exact hQ _ _ x1 rfl dX12_isKey_21
  refine lv_icmp_ne (tgt := 20) hx hb dX12_isKey_5 (by decide) (fun c2 => ?_) (fun c2 => ?_)
  · refine lv_iconst (v := 0) hx hb dX12_isKey_20 (by decide) ?_
    exact ox_topi ((ex1).trans (if_neg c2)).symm hjx1
  · refine lv_aload_n hx hb dX12_isKey_8 rfl (lv_at hl 0 rfl) ?_
    refine gf_X12_X12_which C hK (hP 0 _ rfl) dX12_isKey_9 ?_
    refine lv_iload_n hx hb dX12_isKey_12 rfl (lv_at hl 1 rfl) ?_
    refine lv_icmp_ne (tgt := 20) hx hb dX12_isKey_13 (by decide) (fun c3 => ?_) (fun c3 => ?_)
    · refine lv_iconst (v := 0) hx hb dX12_isKey_20 (by decide) ?_
      exact ox_topi (((ex1).trans (if_pos c2)).trans (if_neg c3)).symm hjx1
    · refine lv_iconst (v := 1) hx hb dX12_isKey_16 (by decide) ?_
      refine lv_goto (tgt := 21) hx hb dX12_isKey_17 (by decide) ?_
      exact ox_topi (((ex1).trans (if_pos c2)).trans (if_pos c3)).symm hjx1
set_option maxHeartbeats 4000000 in
set_option maxRecDepth 20000 in
theorem tX12_isSign (l : Launch) (E : Ev) (a_M : Nat → Nat) (u_M : St) (x_1 : Int32) (res : Int32) (hf : fX12_isSign u_M x_1 = res) : MP l E yX12_isSign cX12_isSign 2 (some .boolean) (rmm 0 0) [wModel E a_M u_M] [.ref (a_M 0), .int x_1] (some (.int res)) := by
  unfold fX12_isSign at hf
  refine MP.ofZZ rfl (by decide) (Nat.le_of_ble_eq_true rfl) ?_
  intro p e R s m args below meth c ls Q hRf hRl C hP hK hN hl hQ
  have hx := C.1
  have hb := C.2.1
  have hl : lv_has ls 2 [(0, .ref (a_M 0)), (1, .int x_1)] := hl
  refine lv_aload_n hx hb dX12_isSign_0 rfl (lv_at hl 0 rfl) ?_
  refine gf_X12_X12_kind C hK (hP 0 _ rfl) dX12_isSign_1 ?_
  refine lv_iconst (v := 4) hx hb dX12_isSign_4 (by decide) ?_
  obtain ⟨x1, ex1, hf⟩ := ox_ex hf
  have hjx1 : W p l e R s m args below meth c s.heap [] 0 0 Q (F0 m 21 ls [.int x1]) := by
    subst hf
    exact hQ _ _ x1 rfl dX12_isSign_21
  refine lv_icmp_ne (tgt := 20) hx hb dX12_isSign_5 (by decide) (fun c2 => ?_) (fun c2 => ?_)
  · refine lv_iconst (v := 0) hx hb dX12_isSign_20 (by decide) ?_
    exact ox_topi ((ex1).trans (if_neg c2)).symm hjx1
  · refine lv_aload_n hx hb dX12_isSign_8 rfl (lv_at hl 0 rfl) ?_
    refine gf_X12_X12_which C hK (hP 0 _ rfl) dX12_isSign_9 ?_
    refine lv_iload_n hx hb dX12_isSign_12 rfl (lv_at hl 1 rfl) ?_
    refine lv_icmp_ne (tgt := 20) hx hb dX12_isSign_13 (by decide) (fun c3 => ?_) (fun c3 => ?_)
    · refine lv_iconst (v := 0) hx hb dX12_isSign_20 (by decide) ?_
      exact ox_topi (((ex1).trans (if_pos c2)).trans (if_neg c3)).symm hjx1
    · refine lv_iconst (v := 1) hx hb dX12_isSign_16 (by decide) ?_
      refine lv_goto (tgt := 21) hx hb dX12_isSign_17 (by decide) ?_
      exact ox_topi (((ex1).trans (if_pos c2)).trans (if_pos c3)).symm hjx1
set_option maxHeartbeats 4000000 in
set_option maxRecDepth 20000 in
theorem tX12_number (l : Launch) (E : Ev) (a_M : Nat → Nat) (u_M : St) (x_1 : Int32) (x_2 : Int32) (res : Int32 × St) (hf : fX12_number u_M x_1 x_2 = some res) : MX l E yX12_number cX12_number 3 (some .boolean) (rmm 2 47) [wModel E a_M u_M] (fun q => [wModel E a_M res.2]) [.ref (a_M 0), .int x_1, .int x_2] (some (.int res.1)) := by
  unfold fX12_number at hf
  refine MX.ofZZ rfl (by decide) (Nat.le_of_ble_eq_true rfl) ?_
  intro p e R s m args below meth c ls Q ad H hRf hRl C hB hD hK hN hl hQ
  generalize hlocs : ([] : List Loc) = locs at hB ⊢
  clear hlocs
  have hx := C.1
  have hb := C.2.1
  have hl : lv_has ls 3 [(0, .ref (a_M 0)), (1, .int x_1), (2, .int x_2)] := hl
  refine lv_aload_n hx hb dX12_number_0 rfl (lv_at hl 0 rfl) ?_
  refine gf_X12_X12_kind C hK (hB.1 0 _ rfl) dX12_number_1 ?_
  refine lv_iconst (v := 3) hx hb dX12_number_4 (by decide) ?_
  refine lv_icmp_eq (tgt := 14) hx hb dX12_number_5 (by decide) (fun c1 => ?_) (fun c1 => ?_)
  · have hf := (if_pos c1).symm.trans hf
    refine lv_aload_n hx hb dX12_number_14 rfl (lv_at hl 0 rfl) ?_
    refine gf_X12_X12_which C hK (hB.1 0 _ rfl) dX12_number_15 ?_
    refine lv_iload_n hx hb dX12_number_18 rfl (lv_at hl 1 rfl) ?_
    refine lv_iload_n hx hb dX12_number_19 rfl (lv_at hl 2 rfl) ?_
    refine cxSP (As := [.int (gI u_M 9), .int x_1, .int x_2]) (rest := []) (st1 := [.int (fX12_isIn (gI u_M 9) x_1 x_2)]) C hK (tX12_isIn l E (gI u_M 9) x_1 x_2 (fX12_isIn (gI u_M 9) x_1 x_2) rfl) lk_X12_202 ⟨rfl, rfl⟩ (by rw [hRf, hRl]; decide) ⟨Nat.zero_le _, Nat.zero_le _⟩ (PB.sub hB.1 [] rfl) (hB.old hD hN) (Nat.le_trans hN hB.2.2.1) rfl hl.1 rfl rfl (Nat.le_of_ble_eq_true rfl) dX12_number_20 ?_
    refine lv_if_ne (tgt := 32) hx hb dX12_number_23 (by decide) (fun c2 => ?_) (fun c2 => ?_)
    · have hf := (if_neg c2).symm.trans hf
      refine lv_aload_n hx hb dX12_number_32 rfl (lv_at hl 0 rfl) ?_
      refine lv_aload_n hx hb dX12_number_33 rfl (lv_at hl 0 rfl) ?_
      refine gf_X12_X12_which C hK (hB.1 0 _ rfl) dX12_number_34 ?_
      refine lv_topi (fun x3 ex3 => ?_)
      have hf := ox_lt ex3 hf
      refine pf_X12_X12_got C hK hB hD 0 rfl dX12_number_37 (fun H locs u4 eu4 hB => ?_)
      have hf := ox_lt eu4 hf
      have hB : WB E ad s.heap [wModel E a_M u4] H locs := hB
      refine lv_aload_n hx hb dX12_number_40 rfl (lv_at hl 0 rfl) ?_
      obtain ⟨r5, hr5, hf⟩ := ox_bind hf
      refine cxVX (bs1 := (fun q => [wModel E a_M r5])) (As := []) (rest := []) (st1 := []) C hK (tX12_token l E a_M u4 r5 hr5) lk_X12_209 (by rw [hRf, hRl]; decide) ⟨Nat.zero_le _, Nat.zero_le _⟩ hB hD hN [0] (by decide) rfl (fun _ => rfl) (fun _ => rfl) (rc_X12 hK (hB.1 0 _ rfl)) rfl hl.1 rfl rfl (Nat.le_of_ble_eq_true rfl) dX12_number_41 (fun H locs q6 hB => ?_)
      have hB : WB E ad s.heap [wModel E a_M r5] H locs := hB
      refine lv_iconst (v := 1) hx hb dX12_number_44 (by decide) ?_
      have hf := Option.some.inj hf
      subst hf
      exact hQ _ _ H locs (fun _ => 0) (1 : Int32) bz1 hB dX12_number_45
    · have hf := (if_pos c2).symm.trans hf
      refine lv_aload_n hx hb dX12_number_26 rfl (lv_at hl 0 rfl) ?_
      refine lv_iconst (v := 2) hx hb dX12_number_27 (by decide) ?_
      obtain ⟨r7, er7, hf⟩ := ox_ex hf
      refine cxVX (bs1 := (fun q => [wModel E a_M r7.2])) (As := [.int (2 : Int32)]) (rest := []) (st1 := [.int r7.1]) C hK (tX12_wrong l E a_M u_M (2 : Int32) r7 er7.symm) lk_X12_199 (by rw [hRf, hRl]; decide) ⟨Nat.zero_le _, Nat.zero_le _⟩ hB hD hN [0] (by decide) rfl (fun _ => rfl) (fun _ => rfl) (rc_X12 hK (hB.1 0 _ rfl)) rfl hl.1 rfl rfl (Nat.le_of_ble_eq_true rfl) dX12_number_28 (fun H locs q8 hB => ?_)
      have hB : WB E ad s.heap [wModel E a_M r7.2] H locs := hB
      have hf := Option.some.inj hf
      subst hf
      exact hQ _ _ H locs (fun _ => 0) r7.1 rfl hB dX12_number_31
  · have hf := (if_neg c1).symm.trans hf
    refine lv_aload_n hx hb dX12_number_8 rfl (lv_at hl 0 rfl) ?_
    refine lv_iconst (v := 1) hx hb dX12_number_9 (by decide) ?_
    obtain ⟨r9, er9, hf⟩ := ox_ex hf
    refine cxVX (bs1 := (fun q => [wModel E a_M r9.2])) (As := [.int (1 : Int32)]) (rest := []) (st1 := [.int r9.1]) C hK (tX12_wrong l E a_M u_M (1 : Int32) r9 er9.symm) lk_X12_199 (by rw [hRf, hRl]; decide) ⟨Nat.zero_le _, Nat.zero_le _⟩ hB hD hN [0] (by decide) rfl (fun _ => rfl) (fun _ => rfl) (rc_X12 hK (hB.1 0 _ rfl)) rfl hl.1 rfl rfl (Nat.le_of_ble_eq_true rfl) dX12_number_10 (fun H locs q10 hB => ?_)
    have hB : WB E ad s.heap [wModel E a_M r9.2] H locs := hB
    have hf := Option.some.inj hf
    subst hf
    exact hQ _ _ H locs (fun _ => 0) r9.1 rfl hB dX12_number_13
set_option maxHeartbeats 4000000 in
set_option maxRecDepth 20000 in
theorem tX12_plain (l : Launch) (E : Ev) (a_M : Nat → Nat) (u_M : St) (res : St) (hf : fX12_plain u_M = some res) : MX l E yX12_plain cX12_plain 2 none (rmm 0 0) [wModel E a_M u_M] (fun q => [wModel E a_M res]) [.ref (a_M 0)] none := by
  unfold fX12_plain at hf
  refine MX.ofV rfl (by decide) (Nat.le_of_ble_eq_true rfl) ?_
  intro p e R s m args below meth c ls Q ad H hRf hRl C hB hD hK hN hl hQ
  generalize hlocs : ([] : List Loc) = locs at hB ⊢
  clear hlocs
  have hx := C.1
  have hb := C.2.1
  have hl : lv_has ls 2 [(0, .ref (a_M 0))] := hl
  refine lv_aload_n hx hb dX12_plain_0 rfl (lv_at hl 0 rfl) ?_
  refine lv_iconst (v := 0) hx hb dX12_plain_1 (by decide) ?_
  refine pf_X12_X12_actsRead C hK hB hD 0 rfl dX12_plain_2 (fun H locs u1 eu1 hB => ?_)
  have hf := ox_lt eu1 hf
  have hB : WB E ad s.heap [wModel E a_M u1] H locs := hB
  refine lv_aload_n hx hb dX12_plain_5 rfl (lv_at hl 0 rfl) ?_
  refine lv_iconst (v := 0) hx hb dX12_plain_6 (by decide) ?_
  refine pf_X12_X12_guestsRead C hK hB hD 0 rfl dX12_plain_7 (fun H locs u2 eu2 hB => ?_)
  have hf := ox_lt eu2 hf
  have hB : WB E ad s.heap [wModel E a_M u2] H locs := hB
  refine lv_aload_n hx hb dX12_plain_10 rfl (lv_at hl 0 rfl) ?_
  refine lv_iconst (v := 0) hx hb dX12_plain_11 (by decide) ?_
  refine pf_X12_X12_grainsRead C hK hB hD 0 rfl dX12_plain_12 (fun H locs u3 eu3 hB => ?_)
  have hf := ox_lt eu3 hf
  have hB : WB E ad s.heap [wModel E a_M u3] H locs := hB
  refine lv_aload_n hx hb dX12_plain_15 rfl (lv_at hl 0 rfl) ?_
  refine lv_iconst (v := 0) hx hb dX12_plain_16 (by decide) ?_
  refine pf_X12_X12_showsRead C hK hB hD 0 rfl dX12_plain_17 (fun H locs u4 eu4 hB => ?_)
  have hf := ox_lt eu4 hf
  have hB : WB E ad s.heap [wModel E a_M u4] H locs := hB
  refine lv_aload_n hx hb dX12_plain_20 rfl (lv_at hl 0 rfl) ?_
  refine lv_iconst (v := 0) hx hb dX12_plain_21 (by decide) ?_
  refine pf_X12_X12_knotsRead C hK hB hD 0 rfl dX12_plain_22 (fun H locs u5 eu5 hB => ?_)
  have hf := ox_lt eu5 hf
  have hB : WB E ad s.heap [wModel E a_M u5] H locs := hB
  refine lv_aload_n hx hb dX12_plain_25 rfl (lv_at hl 0 rfl) ?_
  refine lv_iconst (v := 0) hx hb dX12_plain_26 (by decide) ?_
  refine pf_X12_X12_counted C hK hB hD 0 rfl dX12_plain_27 (fun H locs u6 eu6 hB => ?_)
  have hf := ox_lt eu6 hf
  have hB : WB E ad s.heap [wModel E a_M u6] H locs := hB
  refine lv_iconst (v := 0) hx hb dX12_plain_30 (by decide) ?_
  refine lv_istore_n (lv' := [(1, .int (0 : Int32)), (0, .ref (a_M 0))]) hx hb dX12_plain_31 rfl hl (by decide) rfl (fun ls hl => ?_)
  obtain ⟨X1, hX1, hf⟩ := ox_bind hf
  have hexit1 : ∀ y15, y15 = X1 → ∀ (ls : Array Slot) (H : Heap) (locs : List Loc), lv_has ls 2 [(0, .ref (a_M 0))] → WB E ad s.heap [wModel E a_M y15] H locs → W p l e R s m args below meth c H locs 0 0 Q (F0 m 59 ls []) := by
    intro y15 hy ls H locs hl hB
    subst hy
    refine lv_iconst (v := 3) hx hb dX12_plain_59 (by decide) ?_
    refine lv_istore_n (lv' := [(1, .int (3 : Int32)), (0, .ref (a_M 0))]) hx hb dX12_plain_60 rfl hl (by decide) rfl (fun ls hl => ?_)
    obtain ⟨X2, hX2, hf⟩ := ox_bind hf
    have hexit2 : ∀ y22, y22 = X2 → ∀ (ls : Array Slot) (H : Heap) (locs : List Loc), lv_has ls 2 [] → WB E ad s.heap [wModel E a_M y22] H locs → W p l e R s m args below meth c H locs 0 0 Q (F0 m 80 ls []) := by
      intro y22 hy ls H locs hl hB
      subst hy
      have hf := Option.some.inj hf
      subst hf
      exact hQ _ _ H locs (fun _ => 0) hB dX12_plain_80
    have hloop2 : ∀ (nf : Nat) (x16 : Int32) (u17 : St) (ls : Array Slot) (H : Heap) (locs : List Loc), lv_has ls 2 [(0, .ref (a_M 0)), (1, .int x16)] → WB E ad s.heap [wModel E a_M u17] H locs → fX12_plain_L2 nf x16 u17 = some X2 → W p l e R s m args below meth c H locs 0 0 Q (F0 m 61 ls []) := by
      intro nf
      induction nf with
      | zero =>
        intro x16 u17 ls H locs hl hB hf
        simp [fX12_plain_L2] at hf
      | succ nf ih =>
        intro x16 u17 ls H locs hl hB hf
        rw [fX12_plain_L2] at hf
        refine lv_iload_n hx hb dX12_plain_61 rfl (lv_at hl 1 rfl) ?_
        refine lv_bipush (v := 6) hx hb dX12_plain_62 (by decide) ?_
        refine lv_icmp_ge (tgt := 80) hx hb dX12_plain_64 (by decide) (fun c18 => ?_) (fun c18 => ?_)
        · have hf := (if_pos c18).symm.trans hf
          exact hexit2 _ (Option.some.inj hf) ls H locs (lv_sub hl [] rfl) hB
        · have hf := (if_neg c18).symm.trans hf
          refine lv_aload_n hx hb dX12_plain_67 rfl (lv_at hl 0 rfl) ?_
          refine gf_X12_X12_lawTold C hK (hB.1 0 _ rfl) dX12_plain_68 ?_
          refine lv_iload_n hx hb dX12_plain_71 rfl (lv_at hl 1 rfl) ?_
          refine lv_iconst (v := 0) hx hb dX12_plain_72 (by decide) ?_
          obtain ⟨hn19, hf⟩ := ox_chk hf
          refine st_X12_lawTold C hK hB hD 0 rfl hn19 rfl dX12_plain_73 (fun H locs u20 eu20 hB => ?_)
          have hf := ox_lt eu20 hf
          have hB : WB E ad s.heap [wModel E a_M u20] H locs := hB
          obtain ⟨x21, ex21⟩ : ∃ z : Int32, z = (x16 + 1) := ⟨_, rfl⟩
          have hf := ox_lt ex21 hf
          refine lv_iinc (v := x21) (lv' := [(1, .int x21), (0, .ref (a_M 0))]) hx hb dX12_plain_74 hl (k := 1) rfl (by rw [ex21]; rfl) (by decide) rfl (fun ls hl => ?_)
          refine lv_goto (tgt := 61) hx hb dX12_plain_77 (by decide) ?_
          exact ih _ _ ls H locs (lv_sub hl [1, 0] rfl) hB hf
    exact hloop2 fuel _ _ ls H locs (lv_sub hl [1, 0] rfl) hB hX2
  have hloop1 : ∀ (nf : Nat) (x7 : Int32) (u8 : St) (ls : Array Slot) (H : Heap) (locs : List Loc), lv_has ls 2 [(0, .ref (a_M 0)), (1, .int x7)] → WB E ad s.heap [wModel E a_M u8] H locs → fX12_plain_L1 nf x7 u8 = some X1 → W p l e R s m args below meth c H locs 0 0 Q (F0 m 32 ls []) := by
    intro nf
    induction nf with
    | zero =>
      intro x7 u8 ls H locs hl hB hf
      simp [fX12_plain_L1] at hf
    | succ nf ih =>
      intro x7 u8 ls H locs hl hB hf
      rw [fX12_plain_L1] at hf
      refine lv_iload_n hx hb dX12_plain_32 rfl (lv_at hl 1 rfl) ?_
      refine lv_iconst (v := 2) hx hb dX12_plain_33 (by decide) ?_
      refine lv_icmp_ge (tgt := 59) hx hb dX12_plain_34 (by decide) (fun c9 => ?_) (fun c9 => ?_)
      · have hf := (if_pos c9).symm.trans hf
        exact hexit1 _ (Option.some.inj hf) ls H locs (lv_sub hl [0] rfl) hB
      · have hf := (if_neg c9).symm.trans hf
        refine lv_aload_n hx hb dX12_plain_37 rfl (lv_at hl 0 rfl) ?_
        refine gf_X12_X12_onceTold C hK (hB.1 0 _ rfl) dX12_plain_38 ?_
        refine lv_iload_n hx hb dX12_plain_41 rfl (lv_at hl 1 rfl) ?_
        refine lv_iconst (v := 0) hx hb dX12_plain_42 (by decide) ?_
        obtain ⟨hn10, hf⟩ := ox_chk hf
        refine st_X12_onceTold C hK hB hD 0 rfl hn10 rfl dX12_plain_43 (fun H locs u11 eu11 hB => ?_)
        have hf := ox_lt eu11 hf
        have hB : WB E ad s.heap [wModel E a_M u11] H locs := hB
        refine lv_aload_n hx hb dX12_plain_44 rfl (lv_at hl 0 rfl) ?_
        refine gf_X12_X12_once C hK (hB.1 0 _ rfl) dX12_plain_45 ?_
        refine lv_iconst (v := 2) hx hb dX12_plain_48 (by decide) ?_
        refine lv_iload_n hx hb dX12_plain_49 rfl (lv_at hl 1 rfl) ?_
        refine lv_iadd hx hb dX12_plain_50 ?_
        refine lv_iconst (v := 0) hx hb dX12_plain_51 (by decide) ?_
        obtain ⟨hn12, hf⟩ := ox_chk hf
        refine st_X12_once C hK hB hD 0 rfl hn12 rfl dX12_plain_52 (fun H locs u13 eu13 hB => ?_)
        have hf := ox_lt eu13 hf
        have hB : WB E ad s.heap [wModel E a_M u13] H locs := hB
        obtain ⟨x14, ex14⟩ : ∃ z : Int32, z = (x7 + 1) := ⟨_, rfl⟩
        have hf := ox_lt ex14 hf
        refine lv_iinc (v := x14) (lv' := [(1, .int x14), (0, .ref (a_M 0))]) hx hb dX12_plain_53 hl (k := 1) rfl (by rw [ex14]; rfl) (by decide) rfl (fun ls hl => ?_)
        refine lv_goto (tgt := 32) hx hb dX12_plain_56 (by decide) ?_
        exact ih _ _ ls H locs (lv_sub hl [1, 0] rfl) hB hf
  exact hloop1 fuel _ _ ls H locs (lv_sub hl [1, 0] rfl) hB hX1
set_option maxHeartbeats 4000000 in
set_option maxRecDepth 20000 in
theorem tX12_copies (l : Launch) (E : Ev) (n_row : Nat) (a_row : Nat → Nat) (u_row : St) (x_1 : Int32) (res : St) (hf : fX12_copies n_row u_row x_1 = some res) : MX l E yX12_copies cX12_copies 3 none (rmm 0 0) [wIArr E n_row a_row u_row] (fun q => [wIArr E n_row a_row res]) [.ref (a_row 0), .int x_1] none := by
  unfold fX12_copies at hf
  refine MX.ofV rfl (by decide) (Nat.le_of_ble_eq_true rfl) ?_
  intro p e R s m args below meth c ls Q ad H hRf hRl C hB hD hK hN hl hQ
  generalize hlocs : ([] : List Loc) = locs at hB ⊢
  clear hlocs
  have hx := C.1
  have hb := C.2.1
  have hl : lv_has ls 3 [(0, .ref (a_row 0)), (1, .int x_1)] := hl
  refine lv_iconst (v := 0) hx hb dX12_copies_0 (by decide) ?_
  refine lv_istore_n (lv' := [(2, .int (0 : Int32)), (0, .ref (a_row 0)), (1, .int x_1)]) hx hb dX12_copies_1 rfl hl (by decide) rfl (fun ls hl => ?_)
  obtain ⟨X1, hX1, hf⟩ := ox_bind hf
  have hexit1 : ∀ y9, y9 = X1 → ∀ (ls : Array Slot) (H : Heap) (locs : List Loc), lv_has ls 3 [] → WB E ad s.heap [wIArr E n_row a_row y9] H locs → W p l e R s m args below meth c H locs 0 0 Q (F0 m 21 ls []) := by
    intro y9 hy ls H locs hl hB
    subst hy
    have hf := Option.some.inj hf
    subst hf
    exact hQ _ _ H locs (fun _ => 0) hB dX12_copies_21
  have hloop1 : ∀ (nf : Nat) (x1 : Int32) (u2 : St) (ls : Array Slot) (H : Heap) (locs : List Loc), lv_has ls 3 [(0, .ref (a_row 0)), (1, .int x_1), (2, .int x1)] → WB E ad s.heap [wIArr E n_row a_row u2] H locs → fX12_copies_L1 n_row x_1 nf x1 u2 = some X1 → W p l e R s m args below meth c H locs 0 0 Q (F0 m 2 ls []) := by
    intro nf
    induction nf with
    | zero =>
      intro x1 u2 ls H locs hl hB hf
      simp [fX12_copies_L1] at hf
    | succ nf ih =>
      intro x1 u2 ls H locs hl hB hf
      rw [fX12_copies_L1] at hf
      refine lv_iload_n hx hb dX12_copies_2 rfl (lv_at hl 2 rfl) ?_
      refine lv_iload_n hx hb dX12_copies_3 rfl (lv_at hl 1 rfl) ?_
      refine lv_icmp_ge (tgt := 21) hx hb dX12_copies_4 (by decide) (fun c3 => ?_) (fun c3 => ?_)
      · have hf := (if_pos c3).symm.trans hf
        exact hexit1 _ (Option.some.inj hf) ls H locs (lv_sub hl [] rfl) hB
      · have hf := (if_neg c3).symm.trans hf
        refine lv_aload_n hx hb dX12_copies_7 rfl (lv_at hl 0 rfl) ?_
        refine lv_iload_n hx hb dX12_copies_8 rfl (lv_at hl 2 rfl) ?_
        refine lv_aload_n hx hb dX12_copies_9 rfl (lv_at hl 0 rfl) ?_
        refine lv_iload_n hx hb dX12_copies_10 rfl (lv_at hl 1 rfl) ?_
        refine lv_iload_n hx hb dX12_copies_11 rfl (lv_at hl 2 rfl) ?_
        refine lv_iadd hx hb dX12_copies_12 ?_
        obtain ⟨hn4, hf⟩ := ox_chk hf
        refine ld_IArr_row C hK (hB.1 0 _ rfl) hn4 rfl dX12_copies_13 ?_
        refine lv_topi (fun x5 ex5 => ?_)
        have hf := ox_lt ex5 hf
        obtain ⟨hn6, hf⟩ := ox_chk hf
        refine st_IArr_row C hK hB hD 0 rfl hn6 rfl dX12_copies_14 (fun H locs u7 eu7 hB => ?_)
        have hf := ox_lt eu7 hf
        have hB : WB E ad s.heap [wIArr E n_row a_row u7] H locs := hB
        obtain ⟨x8, ex8⟩ : ∃ z : Int32, z = (x1 + 1) := ⟨_, rfl⟩
        have hf := ox_lt ex8 hf
        refine lv_iinc (v := x8) (lv' := [(2, .int x8), (0, .ref (a_row 0)), (1, .int x_1)]) hx hb dX12_copies_15 hl (k := 2) rfl (by rw [ex8]; rfl) (by decide) rfl (fun ls hl => ?_)
        refine lv_goto (tgt := 2) hx hb dX12_copies_18 (by decide) ?_
        exact ih _ _ ls H locs (lv_sub hl [1, 2, 0] rfl) hB hf
  exact hloop1 fuel _ _ ls H locs (lv_sub hl [1, 2, 0] rfl) hB hX1
set_option maxHeartbeats 4000000 in
set_option maxRecDepth 20000 in
theorem tX12_atFirst (l : Launch) (E : Ev) (a_M : Nat → Nat) (u_M : St) (x_1 : Int32) (res : St) (hf : fX12_atFirst u_M x_1 = some res) : MX l E yX12_atFirst cX12_atFirst 3 none (rmm 0 0) [wModel E a_M u_M] (fun q => [wModel E a_M res]) [.ref (a_M 0), .int x_1] none := by
  unfold fX12_atFirst at hf
  refine MX.ofV rfl (by decide) (Nat.le_of_ble_eq_true rfl) ?_
  intro p e R s m args below meth c ls Q ad H hRf hRl C hB hD hK hN hl hQ
  generalize hlocs : ([] : List Loc) = locs at hB ⊢
  clear hlocs
  have hx := C.1
  have hb := C.2.1
  have hl : lv_has ls 3 [(0, .ref (a_M 0)), (1, .int x_1)] := hl
  refine lv_aload_n hx hb dX12_atFirst_0 rfl (lv_at hl 0 rfl) ?_
  refine gf_X12_X12_on C hK (hB.1 0 _ rfl) dX12_atFirst_1 ?_
  refine lv_iload_n hx hb dX12_atFirst_4 rfl (lv_at hl 1 rfl) ?_
  refine lv_iconst (v := (-1)) hx hb dX12_atFirst_5 (by decide) ?_
  obtain ⟨hn1, hf⟩ := ox_chk hf
  refine st_X12_on C hK hB hD 0 rfl hn1 rfl dX12_atFirst_6 (fun H locs u2 eu2 hB => ?_)
  have hf := ox_lt eu2 hf
  have hB : WB E ad s.heap [wModel E a_M u2] H locs := hB
  refine lv_aload_n hx hb dX12_atFirst_7 rfl (lv_at hl 0 rfl) ?_
  refine gf_X12_X12_onFor C hK (hB.1 0 _ rfl) dX12_atFirst_8 ?_
  refine lv_iload_n hx hb dX12_atFirst_11 rfl (lv_at hl 1 rfl) ?_
  refine lv_iconst (v := 0) hx hb dX12_atFirst_12 (by decide) ?_
  obtain ⟨hn3, hf⟩ := ox_chk hf
  refine st_X12_onFor C hK hB hD 0 rfl hn3 rfl dX12_atFirst_13 (fun H locs u4 eu4 hB => ?_)
  have hf := ox_lt eu4 hf
  have hB : WB E ad s.heap [wModel E a_M u4] H locs := hB
  refine lv_aload_n hx hb dX12_atFirst_14 rfl (lv_at hl 0 rfl) ?_
  refine gf_X12_X12_speed C hK (hB.1 0 _ rfl) dX12_atFirst_15 ?_
  refine lv_iload_n hx hb dX12_atFirst_18 rfl (lv_at hl 1 rfl) ?_
  refine lv_iconst (v := 0) hx hb dX12_atFirst_19 (by decide) ?_
  obtain ⟨hn5, hf⟩ := ox_chk hf
  refine st_X12_speed C hK hB hD 0 rfl hn5 rfl dX12_atFirst_20 (fun H locs u6 eu6 hB => ?_)
  have hf := ox_lt eu6 hf
  have hB : WB E ad s.heap [wModel E a_M u6] H locs := hB
  refine lv_aload_n hx hb dX12_atFirst_21 rfl (lv_at hl 0 rfl) ?_
  refine gf_X12_X12_latest C hK (hB.1 0 _ rfl) dX12_atFirst_22 ?_
  refine lv_iload_n hx hb dX12_atFirst_25 rfl (lv_at hl 1 rfl) ?_
  refine lv_iconst (v := (-1)) hx hb dX12_atFirst_26 (by decide) ?_
  obtain ⟨hn7, hf⟩ := ox_chk hf
  refine st_X12_latest C hK hB hD 0 rfl hn7 rfl dX12_atFirst_27 (fun H locs u8 eu8 hB => ?_)
  have hf := ox_lt eu8 hf
  have hB : WB E ad s.heap [wModel E a_M u8] H locs := hB
  refine lv_aload_n hx hb dX12_atFirst_28 rfl (lv_at hl 0 rfl) ?_
  refine gf_X12_X12_refused C hK (hB.1 0 _ rfl) dX12_atFirst_29 ?_
  refine lv_iload_n hx hb dX12_atFirst_32 rfl (lv_at hl 1 rfl) ?_
  refine lv_iconst (v := 0) hx hb dX12_atFirst_33 (by decide) ?_
  obtain ⟨hn9, hf⟩ := ox_chk hf
  refine st_X12_refused C hK hB hD 0 rfl hn9 rfl dX12_atFirst_34 (fun H locs u10 eu10 hB => ?_)
  have hf := ox_lt eu10 hf
  have hB : WB E ad s.heap [wModel E a_M u10] H locs := hB
  refine lv_aload_n hx hb dX12_atFirst_35 rfl (lv_at hl 0 rfl) ?_
  refine gf_X12_X12_coughed C hK (hB.1 0 _ rfl) dX12_atFirst_36 ?_
  refine lv_iload_n hx hb dX12_atFirst_39 rfl (lv_at hl 1 rfl) ?_
  refine lv_iconst (v := 0) hx hb dX12_atFirst_40 (by decide) ?_
  obtain ⟨hn11, hf⟩ := ox_chk hf
  refine st_X12_coughed C hK hB hD 0 rfl hn11 rfl dX12_atFirst_41 (fun H locs u12 eu12 hB => ?_)
  have hf := ox_lt eu12 hf
  have hB : WB E ad s.heap [wModel E a_M u12] H locs := hB
  refine lv_aload_n hx hb dX12_atFirst_42 rfl (lv_at hl 0 rfl) ?_
  refine gf_X12_X12_minute C hK (hB.1 0 _ rfl) dX12_atFirst_43 ?_
  refine lv_iload_n hx hb dX12_atFirst_46 rfl (lv_at hl 1 rfl) ?_
  refine lv_iconst (v := 0) hx hb dX12_atFirst_47 (by decide) ?_
  obtain ⟨hn13, hf⟩ := ox_chk hf
  refine st_X12_minute C hK hB hD 0 rfl hn13 rfl dX12_atFirst_48 (fun H locs u14 eu14 hB => ?_)
  have hf := ox_lt eu14 hf
  have hB : WB E ad s.heap [wModel E a_M u14] H locs := hB
  refine lv_iconst (v := 0) hx hb dX12_atFirst_49 (by decide) ?_
  refine lv_istore_n (lv' := [(2, .int (0 : Int32)), (0, .ref (a_M 0)), (1, .int x_1)]) hx hb dX12_atFirst_50 rfl hl (by decide) rfl (fun ls hl => ?_)
  obtain ⟨X1, hX1, hf⟩ := ox_bind hf
  have hexit1 : ∀ y25, y25 = X1 → ∀ (ls : Array Slot) (H : Heap) (locs : List Loc), lv_has ls 3 [(0, .ref (a_M 0)), (1, .int x_1)] → WB E ad s.heap [wModel E a_M y25] H locs → W p l e R s m args below meth c H locs 0 0 Q (F0 m 99 ls []) := by
    intro y25 hy ls H locs hl hB
    subst hy
    refine lv_iconst (v := 0) hx hb dX12_atFirst_99 (by decide) ?_
    refine lv_istore_n (lv' := [(2, .int (0 : Int32)), (0, .ref (a_M 0)), (1, .int x_1)]) hx hb dX12_atFirst_100 rfl hl (by decide) rfl (fun ls hl => ?_)
    obtain ⟨X2, hX2, hf⟩ := ox_bind hf
    have hexit2 : ∀ y32, y32 = X2 → ∀ (ls : Array Slot) (H : Heap) (locs : List Loc), lv_has ls 3 [] → WB E ad s.heap [wModel E a_M y32] H locs → W p l e R s m args below meth c H locs 0 0 Q (F0 m 123 ls []) := by
      intro y32 hy ls H locs hl hB
      subst hy
      have hf := Option.some.inj hf
      subst hf
      exact hQ _ _ H locs (fun _ => 0) hB dX12_atFirst_123
    have hloop2 : ∀ (nf : Nat) (x26 : Int32) (u27 : St) (ls : Array Slot) (H : Heap) (locs : List Loc), lv_has ls 3 [(0, .ref (a_M 0)), (1, .int x_1), (2, .int x26)] → WB E ad s.heap [wModel E a_M u27] H locs → fX12_atFirst_L2 x_1 nf x26 u27 = some X2 → W p l e R s m args below meth c H locs 0 0 Q (F0 m 101 ls []) := by
      intro nf
      induction nf with
      | zero =>
        intro x26 u27 ls H locs hl hB hf
        simp [fX12_atFirst_L2] at hf
      | succ nf ih =>
        intro x26 u27 ls H locs hl hB hf
        rw [fX12_atFirst_L2] at hf
        refine lv_iload_n hx hb dX12_atFirst_101 rfl (lv_at hl 2 rfl) ?_
        refine lv_iconst (v := 4) hx hb dX12_atFirst_102 (by decide) ?_
        refine lv_icmp_ge (tgt := 123) hx hb dX12_atFirst_103 (by decide) (fun c28 => ?_) (fun c28 => ?_)
        · have hf := (if_pos c28).symm.trans hf
          exact hexit2 _ (Option.some.inj hf) ls H locs (lv_sub hl [] rfl) hB
        · have hf := (if_neg c28).symm.trans hf
          refine lv_aload_n hx hb dX12_atFirst_106 rfl (lv_at hl 0 rfl) ?_
          refine gf_X12_X12_ground C hK (hB.1 0 _ rfl) dX12_atFirst_107 ?_
          refine lv_iconst (v := 4) hx hb dX12_atFirst_110 (by decide) ?_
          refine lv_iload_n hx hb dX12_atFirst_111 rfl (lv_at hl 1 rfl) ?_
          refine lv_imul hx hb dX12_atFirst_112 ?_
          refine lv_iload_n hx hb dX12_atFirst_113 rfl (lv_at hl 2 rfl) ?_
          refine lv_iadd hx hb dX12_atFirst_114 ?_
          refine lv_iconst (v := 0) hx hb dX12_atFirst_115 (by decide) ?_
          obtain ⟨hn29, hf⟩ := ox_chk hf
          refine st_X12_ground C hK hB hD 0 rfl hn29 rfl dX12_atFirst_116 (fun H locs u30 eu30 hB => ?_)
          have hf := ox_lt eu30 hf
          have hB : WB E ad s.heap [wModel E a_M u30] H locs := hB
          obtain ⟨x31, ex31⟩ : ∃ z : Int32, z = (x26 + 1) := ⟨_, rfl⟩
          have hf := ox_lt ex31 hf
          refine lv_iinc (v := x31) (lv' := [(2, .int x31), (0, .ref (a_M 0)), (1, .int x_1)]) hx hb dX12_atFirst_117 hl (k := 2) rfl (by rw [ex31]; rfl) (by decide) rfl (fun ls hl => ?_)
          refine lv_goto (tgt := 101) hx hb dX12_atFirst_120 (by decide) ?_
          exact ih _ _ ls H locs (lv_sub hl [1, 2, 0] rfl) hB hf
    exact hloop2 fuel _ _ ls H locs (lv_sub hl [1, 2, 0] rfl) hB hX2
  have hloop1 : ∀ (nf : Nat) (x15 : Int32) (u16 : St) (ls : Array Slot) (H : Heap) (locs : List Loc), lv_has ls 3 [(0, .ref (a_M 0)), (1, .int x_1), (2, .int x15)] → WB E ad s.heap [wModel E a_M u16] H locs → fX12_atFirst_L1 x_1 nf x15 u16 = some X1 → W p l e R s m args below meth c H locs 0 0 Q (F0 m 51 ls []) := by
    intro nf
    induction nf with
    | zero =>
      intro x15 u16 ls H locs hl hB hf
      simp [fX12_atFirst_L1] at hf
    | succ nf ih =>
      intro x15 u16 ls H locs hl hB hf
      rw [fX12_atFirst_L1] at hf
      refine lv_iload_n hx hb dX12_atFirst_51 rfl (lv_at hl 2 rfl) ?_
      refine lv_bipush (v := 6) hx hb dX12_atFirst_52 (by decide) ?_
      refine lv_icmp_ge (tgt := 99) hx hb dX12_atFirst_54 (by decide) (fun c17 => ?_) (fun c17 => ?_)
      · have hf := (if_pos c17).symm.trans hf
        exact hexit1 _ (Option.some.inj hf) ls H locs (lv_sub hl [0, 1] rfl) hB
      · have hf := (if_neg c17).symm.trans hf
        refine lv_aload_n hx hb dX12_atFirst_57 rfl (lv_at hl 0 rfl) ?_
        refine gf_X12_X12_sits C hK (hB.1 0 _ rfl) dX12_atFirst_58 ?_
        refine lv_bipush (v := 6) hx hb dX12_atFirst_61 (by decide) ?_
        refine lv_iload_n hx hb dX12_atFirst_63 rfl (lv_at hl 1 rfl) ?_
        refine lv_imul hx hb dX12_atFirst_64 ?_
        refine lv_iload_n hx hb dX12_atFirst_65 rfl (lv_at hl 2 rfl) ?_
        refine lv_iadd hx hb dX12_atFirst_66 ?_
        refine lv_iload_n hx hb dX12_atFirst_67 rfl (lv_at hl 2 rfl) ?_
        obtain ⟨hn18, hf⟩ := ox_chk hf
        refine st_X12_sits C hK hB hD 0 rfl hn18 rfl dX12_atFirst_68 (fun H locs u19 eu19 hB => ?_)
        have hf := ox_lt eu19 hf
        have hB : WB E ad s.heap [wModel E a_M u19] H locs := hB
        refine lv_aload_n hx hb dX12_atFirst_69 rfl (lv_at hl 0 rfl) ?_
        refine gf_X12_X12_tired C hK (hB.1 0 _ rfl) dX12_atFirst_70 ?_
        refine lv_bipush (v := 6) hx hb dX12_atFirst_73 (by decide) ?_
        refine lv_iload_n hx hb dX12_atFirst_75 rfl (lv_at hl 1 rfl) ?_
        refine lv_imul hx hb dX12_atFirst_76 ?_
        refine lv_iload_n hx hb dX12_atFirst_77 rfl (lv_at hl 2 rfl) ?_
        refine lv_iadd hx hb dX12_atFirst_78 ?_
        refine lv_iconst (v := 0) hx hb dX12_atFirst_79 (by decide) ?_
        obtain ⟨hn20, hf⟩ := ox_chk hf
        refine st_X12_tired C hK hB hD 0 rfl hn20 rfl dX12_atFirst_80 (fun H locs u21 eu21 hB => ?_)
        have hf := ox_lt eu21 hf
        have hB : WB E ad s.heap [wModel E a_M u21] H locs := hB
        refine lv_aload_n hx hb dX12_atFirst_81 rfl (lv_at hl 0 rfl) ?_
        refine gf_X12_X12_clapped C hK (hB.1 0 _ rfl) dX12_atFirst_82 ?_
        refine lv_bipush (v := 6) hx hb dX12_atFirst_85 (by decide) ?_
        refine lv_iload_n hx hb dX12_atFirst_87 rfl (lv_at hl 1 rfl) ?_
        refine lv_imul hx hb dX12_atFirst_88 ?_
        refine lv_iload_n hx hb dX12_atFirst_89 rfl (lv_at hl 2 rfl) ?_
        refine lv_iadd hx hb dX12_atFirst_90 ?_
        refine lv_iconst (v := 0) hx hb dX12_atFirst_91 (by decide) ?_
        obtain ⟨hn22, hf⟩ := ox_chk hf
        refine st_X12_clapped C hK hB hD 0 rfl hn22 rfl dX12_atFirst_92 (fun H locs u23 eu23 hB => ?_)
        have hf := ox_lt eu23 hf
        have hB : WB E ad s.heap [wModel E a_M u23] H locs := hB
        obtain ⟨x24, ex24⟩ : ∃ z : Int32, z = (x15 + 1) := ⟨_, rfl⟩
        have hf := ox_lt ex24 hf
        refine lv_iinc (v := x24) (lv' := [(2, .int x24), (0, .ref (a_M 0)), (1, .int x_1)]) hx hb dX12_atFirst_93 hl (k := 2) rfl (by rw [ex24]; rfl) (by decide) rfl (fun ls hl => ?_)
        refine lv_goto (tgt := 51) hx hb dX12_atFirst_96 (by decide) ?_
        exact ih _ _ ls H locs (lv_sub hl [1, 2, 0] rfl) hB hf
  exact hloop1 fuel _ _ ls H locs (lv_sub hl [1, 2, 0] rfl) hB hX1
set_option maxHeartbeats 4000000 in
set_option maxRecDepth 20000 in
theorem tX12_plainTried (l : Launch) (E : Ev) (a_M : Nat → Nat) (u_M : St) (res : St) (hf : fX12_plainTried u_M = res) : MX l E yX12_plainTried cX12_plainTried 1 none (rmm 0 0) [wModel E a_M u_M] (fun q => [wModel E a_M res]) [.ref (a_M 0)] none := by
  unfold fX12_plainTried at hf
  refine MX.ofV rfl (by decide) (Nat.le_of_ble_eq_true rfl) ?_
  intro p e R s m args below meth c ls Q ad H hRf hRl C hB hD hK hN hl hQ
  generalize hlocs : ([] : List Loc) = locs at hB ⊢
  clear hlocs
  have hx := C.1
  have hb := C.2.1
  have hl : lv_has ls 1 [(0, .ref (a_M 0))] := hl
  refine lv_aload_n hx hb dX12_plainTried_0 rfl (lv_at hl 0 rfl) ?_
  refine lv_iconst (v := 0) hx hb dX12_plainTried_1 (by decide) ?_
  refine pf_X12_X12_draws C hK hB hD 0 rfl (by decide) dX12_plainTried_2 (fun H locs u1 eu1 hB => ?_)
  have hf := ox_lt eu1 hf
  have hB : WB E ad s.heap [wModel E a_M u1] H locs := hB
  refine lv_aload_n hx hb dX12_plainTried_5 rfl (lv_at hl 0 rfl) ?_
  refine lv_iconst (v := 0) hx hb dX12_plainTried_6 (by decide) ?_
  refine pf_X12_X12_noCough C hK hB hD 0 rfl (by decide) dX12_plainTried_7 (fun H locs u2 eu2 hB => ?_)
  have hf := ox_lt eu2 hf
  have hB : WB E ad s.heap [wModel E a_M u2] H locs := hB
  refine lv_aload_n hx hb dX12_plainTried_10 rfl (lv_at hl 0 rfl) ?_
  refine lv_iconst (v := 0) hx hb dX12_plainTried_11 (by decide) ?_
  refine pf_X12_X12_allCough C hK hB hD 0 rfl (by decide) dX12_plainTried_12 (fun H locs u3 eu3 hB => ?_)
  have hf := ox_lt eu3 hf
  have hB : WB E ad s.heap [wModel E a_M u3] H locs := hB
  refine lv_aload_n hx hb dX12_plainTried_15 rfl (lv_at hl 0 rfl) ?_
  refine lv_iconst (v := 0) hx hb dX12_plainTried_16 (by decide) ?_
  refine pf_X12_X12_noBack C hK hB hD 0 rfl (by decide) dX12_plainTried_17 (fun H locs u4 eu4 hB => ?_)
  have hf := ox_lt eu4 hf
  have hB : WB E ad s.heap [wModel E a_M u4] H locs := hB
  refine lv_aload_n hx hb dX12_plainTried_20 rfl (lv_at hl 0 rfl) ?_
  refine lv_iconst (v := 0) hx hb dX12_plainTried_21 (by decide) ?_
  refine pf_X12_X12_hungry C hK hB hD 0 rfl (by decide) dX12_plainTried_22 (fun H locs u5 eu5 hB => ?_)
  have hf := ox_lt eu5 hf
  have hB : WB E ad s.heap [wModel E a_M u5] H locs := hB
  refine lv_aload_n hx hb dX12_plainTried_25 rfl (lv_at hl 0 rfl) ?_
  refine lv_iconst (v := 0) hx hb dX12_plainTried_26 (by decide) ?_
  refine pf_X12_X12_noShow C hK hB hD 0 rfl (by decide) dX12_plainTried_27 (fun H locs u6 eu6 hB => ?_)
  have hf := ox_lt eu6 hf
  have hB : WB E ad s.heap [wModel E a_M u6] H locs := hB
  refine lv_aload_n hx hb dX12_plainTried_30 rfl (lv_at hl 0 rfl) ?_
  refine lv_iconst (v := (-1)) hx hb dX12_plainTried_31 (by decide) ?_
  refine pf_X12_X12_mute C hK hB hD 0 rfl dX12_plainTried_32 (fun H locs u7 eu7 hB => ?_)
  have hf := ox_lt eu7 hf
  have hB : WB E ad s.heap [wModel E a_M u7] H locs := hB
  refine lv_aload_n hx hb dX12_plainTried_35 rfl (lv_at hl 0 rfl) ?_
  refine lv_iconst (v := (-1)) hx hb dX12_plainTried_36 (by decide) ?_
  refine pf_X12_X12_moodOf C hK hB hD 0 rfl dX12_plainTried_37 (fun H locs u8 eu8 hB => ?_)
  have hf := ox_lt eu8 hf
  have hB : WB E ad s.heap [wModel E a_M u8] H locs := hB
  refine lv_aload_n hx hb dX12_plainTried_40 rfl (lv_at hl 0 rfl) ?_
  refine lv_iconst (v := 0) hx hb dX12_plainTried_41 (by decide) ?_
  refine pf_X12_X12_moodBy C hK hB hD 0 rfl dX12_plainTried_42 (fun H locs u9 eu9 hB => ?_)
  have hf := ox_lt eu9 hf
  have hB : WB E ad s.heap [wModel E a_M u9] H locs := hB
  subst hf
  exact hQ _ _ H locs (fun _ => 0) hB dX12_plainTried_45
set_option maxHeartbeats 4000000 in
set_option maxRecDepth 20000 in
theorem tX12_begin (l : Launch) (E : Ev) (a_M : Nat → Nat) (u_M : St) (res : St) (hf : fX12_begin u_M = some res) : MX l E yX12_begin cX12_begin 1 none (rmm 1 22) [wModel E a_M u_M] (fun q => [wModel E a_M res]) [.ref (a_M 0)] none := by
  unfold fX12_begin at hf
  refine MX.ofV rfl (by decide) (Nat.le_of_ble_eq_true rfl) ?_
  intro p e R s m args below meth c ls Q ad H hRf hRl C hB hD hK hN hl hQ
  generalize hlocs : ([] : List Loc) = locs at hB ⊢
  clear hlocs
  have hx := C.1
  have hb := C.2.1
  have hl : lv_has ls 1 [(0, .ref (a_M 0))] := hl
  refine lv_aload_n hx hb dX12_begin_0 rfl (lv_at hl 0 rfl) ?_
  refine lv_iconst (v := 0) hx hb dX12_begin_1 (by decide) ?_
  obtain ⟨r1, hr1, hf⟩ := ox_bind hf
  refine cxVX (bs1 := (fun q => [wModel E a_M r1])) (As := [.int (0 : Int32)]) (rest := []) (st1 := []) C hK (tX12_atFirst l E a_M u_M (0 : Int32) r1 hr1) lk_X12_358 (by rw [hRf, hRl]; decide) ⟨Nat.zero_le _, Nat.zero_le _⟩ hB hD hN [0] (by decide) rfl (fun _ => rfl) (fun _ => rfl) (rc_X12 hK (hB.1 0 _ rfl)) rfl hl.1 rfl rfl (Nat.le_of_ble_eq_true rfl) dX12_begin_2 (fun H locs q2 hB => ?_)
  have hB : WB E ad s.heap [wModel E a_M r1] H locs := hB
  refine lv_aload_n hx hb dX12_begin_5 rfl (lv_at hl 0 rfl) ?_
  refine lv_aload_n hx hb dX12_begin_6 rfl (lv_at hl 0 rfl) ?_
  refine gf_X12_X12_once C hK (hB.1 0 _ rfl) dX12_begin_7 ?_
  refine lv_iconst (v := 1) hx hb dX12_begin_10 (by decide) ?_
  refine ld_X12_once C hK (hB.1 0 _ rfl) (by decide) rfl dX12_begin_11 ?_
  refine lv_i2l hx hb dX12_begin_12 rfl ?_
  refine lv_topl (fun x3 ex3 => ?_)
  have hf := ox_lt ex3 hf
  refine pf_X12_X12_drawn C hK hB hD 0 rfl dX12_begin_13 (fun H locs u4 eu4 hB => ?_)
  have hf := ox_lt eu4 hf
  have hB : WB E ad s.heap [wModel E a_M u4] H locs := hB
  refine lv_aload_n hx hb dX12_begin_16 rfl (lv_at hl 0 rfl) ?_
  obtain ⟨r5, er5, hf⟩ := ox_ex hf
  refine cxVX (bs1 := (fun q => [wModel E a_M r5])) (As := []) (rest := []) (st1 := []) C hK (tX12_plainTried l E a_M u4 r5 er5.symm) lk_X12_365 (by rw [hRf, hRl]; decide) ⟨Nat.zero_le _, Nat.zero_le _⟩ hB hD hN [0] (by decide) rfl (fun _ => rfl) (fun _ => rfl) (rc_X12 hK (hB.1 0 _ rfl)) rfl hl.1 rfl rfl (Nat.le_of_ble_eq_true rfl) dX12_begin_17 (fun H locs q6 hB => ?_)
  have hB : WB E ad s.heap [wModel E a_M r5] H locs := hB
  refine lv_aload_n hx hb dX12_begin_20 rfl (lv_at hl 0 rfl) ?_
  refine lv_iconst (v := 0) hx hb dX12_begin_21 (by decide) ?_
  refine pf_X12_X12_seenMany C hK hB hD 0 rfl dX12_begin_22 (fun H locs u7 eu7 hB => ?_)
  have hf := ox_lt eu7 hf
  have hB : WB E ad s.heap [wModel E a_M u7] H locs := hB
  refine lv_aload_n hx hb dX12_begin_25 rfl (lv_at hl 0 rfl) ?_
  refine lv_iconst (v := (-1)) hx hb dX12_begin_26 (by decide) ?_
  refine pf_X12_X12_knownTold C hK hB hD 0 rfl dX12_begin_27 (fun H locs u8 eu8 hB => ?_)
  have hf := ox_lt eu8 hf
  have hB : WB E ad s.heap [wModel E a_M u8] H locs := hB
  refine lv_aload_n hx hb dX12_begin_30 rfl (lv_at hl 0 rfl) ?_
  refine lv_iconst (v := 0) hx hb dX12_begin_31 (by decide) ?_
  refine pf_X12_X12_undos C hK hB hD 0 rfl dX12_begin_32 (fun H locs u9 eu9 hB => ?_)
  have hf := ox_lt eu9 hf
  have hB : WB E ad s.heap [wModel E a_M u9] H locs := hB
  refine lv_aload_n hx hb dX12_begin_35 rfl (lv_at hl 0 rfl) ?_
  refine lv_iconst (v := 0) hx hb dX12_begin_36 (by decide) ?_
  refine pf_X12_X12_hasImage C hK hB hD 0 rfl (by decide) dX12_begin_37 (fun H locs u10 eu10 hB => ?_)
  have hf := ox_lt eu10 hf
  have hB : WB E ad s.heap [wModel E a_M u10] H locs := hB
  have hf := Option.some.inj hf
  subst hf
  exact hQ _ _ H locs (fun _ => 0) hB dX12_begin_40
set_option maxHeartbeats 4000000 in
set_option maxRecDepth 20000 in
theorem tX12_keepText (l : Launch) (E : Ev) (a_M : Nat → Nat) (u_M : St) (res : St) (hf : fX12_keepText u_M = some res) : MX l E yX12_keepText cX12_keepText 2 none (rmm 2 42) [wModel E a_M u_M] (fun q => [wModel E a_M res]) [.ref (a_M 0)] none := by
  unfold fX12_keepText at hf
  refine MX.ofV rfl (by decide) (Nat.le_of_ble_eq_true rfl) ?_
  intro p e R s m args below meth c ls Q ad H hRf hRl C hB hD hK hN hl hQ
  generalize hlocs : ([] : List Loc) = locs at hB ⊢
  clear hlocs
  have hx := C.1
  have hb := C.2.1
  have hl : lv_has ls 2 [(0, .ref (a_M 0))] := hl
  refine lv_aload_n hx hb dX12_keepText_0 rfl (lv_at hl 0 rfl) ?_
  refine lv_aload_n hx hb dX12_keepText_1 rfl (lv_at hl 0 rfl) ?_
  refine gf_X12_X12_actsRead C hK (hB.1 0 _ rfl) dX12_keepText_2 ?_
  refine lv_topi (fun x1 ex1 => ?_)
  have hf := ox_lt ex1 hf
  refine pf_X12_X12_acts C hK hB hD 0 rfl dX12_keepText_5 (fun H locs u2 eu2 hB => ?_)
  have hf := ox_lt eu2 hf
  have hB : WB E ad s.heap [wModel E a_M u2] H locs := hB
  refine lv_aload_n hx hb dX12_keepText_8 rfl (lv_at hl 0 rfl) ?_
  refine lv_aload_n hx hb dX12_keepText_9 rfl (lv_at hl 0 rfl) ?_
  refine gf_X12_X12_guestsRead C hK (hB.1 0 _ rfl) dX12_keepText_10 ?_
  refine lv_topi (fun x3 ex3 => ?_)
  have hf := ox_lt ex3 hf
  refine pf_X12_X12_guests C hK hB hD 0 rfl dX12_keepText_13 (fun H locs u4 eu4 hB => ?_)
  have hf := ox_lt eu4 hf
  have hB : WB E ad s.heap [wModel E a_M u4] H locs := hB
  refine lv_aload_n hx hb dX12_keepText_16 rfl (lv_at hl 0 rfl) ?_
  refine lv_aload_n hx hb dX12_keepText_17 rfl (lv_at hl 0 rfl) ?_
  refine gf_X12_X12_grainsRead C hK (hB.1 0 _ rfl) dX12_keepText_18 ?_
  refine lv_topi (fun x5 ex5 => ?_)
  have hf := ox_lt ex5 hf
  refine pf_X12_X12_grains C hK hB hD 0 rfl dX12_keepText_21 (fun H locs u6 eu6 hB => ?_)
  have hf := ox_lt eu6 hf
  have hB : WB E ad s.heap [wModel E a_M u6] H locs := hB
  refine lv_aload_n hx hb dX12_keepText_24 rfl (lv_at hl 0 rfl) ?_
  refine lv_aload_n hx hb dX12_keepText_25 rfl (lv_at hl 0 rfl) ?_
  refine gf_X12_X12_showsRead C hK (hB.1 0 _ rfl) dX12_keepText_26 ?_
  refine lv_topi (fun x7 ex7 => ?_)
  have hf := ox_lt ex7 hf
  refine pf_X12_X12_shows C hK hB hD 0 rfl dX12_keepText_29 (fun H locs u8 eu8 hB => ?_)
  have hf := ox_lt eu8 hf
  have hB : WB E ad s.heap [wModel E a_M u8] H locs := hB
  refine lv_aload_n hx hb dX12_keepText_32 rfl (lv_at hl 0 rfl) ?_
  refine lv_aload_n hx hb dX12_keepText_33 rfl (lv_at hl 0 rfl) ?_
  refine gf_X12_X12_knotsRead C hK (hB.1 0 _ rfl) dX12_keepText_34 ?_
  refine lv_topi (fun x9 ex9 => ?_)
  have hf := ox_lt ex9 hf
  refine pf_X12_X12_knots C hK hB hD 0 rfl dX12_keepText_37 (fun H locs u10 eu10 hB => ?_)
  have hf := ox_lt eu10 hf
  have hB : WB E ad s.heap [wModel E a_M u10] H locs := hB
  refine lv_aload_n hx hb dX12_keepText_40 rfl (lv_at hl 0 rfl) ?_
  refine gf_X12_X12_once C hK (hB.1 0 _ rfl) dX12_keepText_41 ?_
  refine lv_iconst (v := 2) hx hb dX12_keepText_44 (by decide) ?_
  obtain ⟨r11, hr11, hf⟩ := ox_bind hf
  refine cxSV (As := [.ref (a_M 4), .int (2 : Int32)]) (rest := []) (st1 := []) C hK (tX12_copies l E 4 (fun _ => a_M 4) (vwA u10 23) (2 : Int32) r11 hr11) lk_X12_252 (by rw [hRf, hRl]; decide) ⟨Nat.zero_le _, Nat.zero_le _⟩ hB hD hN (i0 := 0) (k0 := 4) rfl rfl rfl hl.1 rfl rfl (Nat.le_of_ble_eq_true rfl) dX12_keepText_45 (fun H locs hB => ?_)
  obtain ⟨u12, eu12, hf⟩ := ox_ex hf
  have hB : WB E ad s.heap [wModel E a_M u12] H locs := by rw [eu12]; exact hB
  refine lv_aload_n hx hb dX12_keepText_48 rfl (lv_at hl 0 rfl) ?_
  refine gf_X12_X12_actName C hK (hB.1 0 _ rfl) dX12_keepText_49 ?_
  refine lv_bipush (v := 6) hx hb dX12_keepText_52 (by decide) ?_
  obtain ⟨r13, hr13, hf⟩ := ox_bind hf
  refine cxSV (As := [.ref (a_M 5), .int (6 : Int32)]) (rest := []) (st1 := []) C hK (tX12_copies l E 12 (fun _ => a_M 5) (vwA u12 24) (6 : Int32) r13 hr13) lk_X12_252 (by rw [hRf, hRl]; decide) ⟨Nat.zero_le _, Nat.zero_le _⟩ hB hD hN (i0 := 0) (k0 := 5) rfl rfl rfl hl.1 rfl rfl (Nat.le_of_ble_eq_true rfl) dX12_keepText_54 (fun H locs hB => ?_)
  obtain ⟨u14, eu14, hf⟩ := ox_ex hf
  have hB : WB E ad s.heap [wModel E a_M u14] H locs := by rw [eu14]; exact hB
  refine lv_aload_n hx hb dX12_keepText_57 rfl (lv_at hl 0 rfl) ?_
  refine gf_X12_X12_actMood C hK (hB.1 0 _ rfl) dX12_keepText_58 ?_
  refine lv_bipush (v := 6) hx hb dX12_keepText_61 (by decide) ?_
  obtain ⟨r15, hr15, hf⟩ := ox_bind hf
  refine cxSV (As := [.ref (a_M 6), .int (6 : Int32)]) (rest := []) (st1 := []) C hK (tX12_copies l E 12 (fun _ => a_M 6) (vwA u14 25) (6 : Int32) r15 hr15) lk_X12_252 (by rw [hRf, hRl]; decide) ⟨Nat.zero_le _, Nat.zero_le _⟩ hB hD hN (i0 := 0) (k0 := 6) rfl rfl rfl hl.1 rfl rfl (Nat.le_of_ble_eq_true rfl) dX12_keepText_63 (fun H locs hB => ?_)
  obtain ⟨u16, eu16, hf⟩ := ox_ex hf
  have hB : WB E ad s.heap [wModel E a_M u16] H locs := by rw [eu16]; exact hB
  refine lv_aload_n hx hb dX12_keepText_66 rfl (lv_at hl 0 rfl) ?_
  refine gf_X12_X12_actLength C hK (hB.1 0 _ rfl) dX12_keepText_67 ?_
  refine lv_bipush (v := 6) hx hb dX12_keepText_70 (by decide) ?_
  obtain ⟨r17, hr17, hf⟩ := ox_bind hf
  refine cxSV (As := [.ref (a_M 7), .int (6 : Int32)]) (rest := []) (st1 := []) C hK (tX12_copies l E 12 (fun _ => a_M 7) (vwA u16 26) (6 : Int32) r17 hr17) lk_X12_252 (by rw [hRf, hRl]; decide) ⟨Nat.zero_le _, Nat.zero_le _⟩ hB hD hN (i0 := 0) (k0 := 7) rfl rfl rfl hl.1 rfl rfl (Nat.le_of_ble_eq_true rfl) dX12_keepText_72 (fun H locs hB => ?_)
  obtain ⟨u18, eu18, hf⟩ := ox_ex hf
  have hB : WB E ad s.heap [wModel E a_M u18] H locs := by rw [eu18]; exact hB
  refine lv_aload_n hx hb dX12_keepText_75 rfl (lv_at hl 0 rfl) ?_
  refine gf_X12_X12_guestName C hK (hB.1 0 _ rfl) dX12_keepText_76 ?_
  refine lv_bipush (v := 6) hx hb dX12_keepText_79 (by decide) ?_
  obtain ⟨r19, hr19, hf⟩ := ox_bind hf
  refine cxSV (As := [.ref (a_M 8), .int (6 : Int32)]) (rest := []) (st1 := []) C hK (tX12_copies l E 12 (fun _ => a_M 8) (vwA u18 27) (6 : Int32) r19 hr19) lk_X12_252 (by rw [hRf, hRl]; decide) ⟨Nat.zero_le _, Nat.zero_le _⟩ hB hD hN (i0 := 0) (k0 := 8) rfl rfl rfl hl.1 rfl rfl (Nat.le_of_ble_eq_true rfl) dX12_keepText_81 (fun H locs hB => ?_)
  obtain ⟨u20, eu20, hf⟩ := ox_ex hf
  have hB : WB E ad s.heap [wModel E a_M u20] H locs := by rw [eu20]; exact hB
  refine lv_aload_n hx hb dX12_keepText_84 rfl (lv_at hl 0 rfl) ?_
  refine gf_X12_X12_guestTaste C hK (hB.1 0 _ rfl) dX12_keepText_85 ?_
  refine lv_bipush (v := 6) hx hb dX12_keepText_88 (by decide) ?_
  obtain ⟨r21, hr21, hf⟩ := ox_bind hf
  refine cxSV (As := [.ref (a_M 9), .int (6 : Int32)]) (rest := []) (st1 := []) C hK (tX12_copies l E 12 (fun _ => a_M 9) (vwA u20 28) (6 : Int32) r21 hr21) lk_X12_252 (by rw [hRf, hRl]; decide) ⟨Nat.zero_le _, Nat.zero_le _⟩ hB hD hN (i0 := 0) (k0 := 9) rfl rfl rfl hl.1 rfl rfl (Nat.le_of_ble_eq_true rfl) dX12_keepText_90 (fun H locs hB => ?_)
  obtain ⟨u22, eu22, hf⟩ := ox_ex hf
  have hB : WB E ad s.heap [wModel E a_M u22] H locs := by rw [eu22]; exact hB
  refine lv_aload_n hx hb dX12_keepText_93 rfl (lv_at hl 0 rfl) ?_
  refine gf_X12_X12_guestHunger C hK (hB.1 0 _ rfl) dX12_keepText_94 ?_
  refine lv_bipush (v := 6) hx hb dX12_keepText_97 (by decide) ?_
  obtain ⟨r23, hr23, hf⟩ := ox_bind hf
  refine cxSV (As := [.ref (a_M 10), .int (6 : Int32)]) (rest := []) (st1 := []) C hK (tX12_copies l E 12 (fun _ => a_M 10) (vwA u22 29) (6 : Int32) r23 hr23) lk_X12_252 (by rw [hRf, hRl]; decide) ⟨Nat.zero_le _, Nat.zero_le _⟩ hB hD hN (i0 := 0) (k0 := 10) rfl rfl rfl hl.1 rfl rfl (Nat.le_of_ble_eq_true rfl) dX12_keepText_99 (fun H locs hB => ?_)
  obtain ⟨u24, eu24, hf⟩ := ox_ex hf
  have hB : WB E ad s.heap [wModel E a_M u24] H locs := by rw [eu24]; exact hB
  refine lv_aload_n hx hb dX12_keepText_102 rfl (lv_at hl 0 rfl) ?_
  refine gf_X12_X12_grainName C hK (hB.1 0 _ rfl) dX12_keepText_103 ?_
  refine lv_iconst (v := 4) hx hb dX12_keepText_106 (by decide) ?_
  obtain ⟨r25, hr25, hf⟩ := ox_bind hf
  refine cxSV (As := [.ref (a_M 11), .int (4 : Int32)]) (rest := []) (st1 := []) C hK (tX12_copies l E 8 (fun _ => a_M 11) (vwA u24 30) (4 : Int32) r25 hr25) lk_X12_252 (by rw [hRf, hRl]; decide) ⟨Nat.zero_le _, Nat.zero_le _⟩ hB hD hN (i0 := 0) (k0 := 11) rfl rfl rfl hl.1 rfl rfl (Nat.le_of_ble_eq_true rfl) dX12_keepText_107 (fun H locs hB => ?_)
  obtain ⟨u26, eu26, hf⟩ := ox_ex hf
  have hB : WB E ad s.heap [wModel E a_M u26] H locs := by rw [eu26]; exact hB
  refine lv_aload_n hx hb dX12_keepText_110 rfl (lv_at hl 0 rfl) ?_
  refine gf_X12_X12_grainLow C hK (hB.1 0 _ rfl) dX12_keepText_111 ?_
  refine lv_iconst (v := 4) hx hb dX12_keepText_114 (by decide) ?_
  obtain ⟨r27, hr27, hf⟩ := ox_bind hf
  refine cxSV (As := [.ref (a_M 12), .int (4 : Int32)]) (rest := []) (st1 := []) C hK (tX12_copies l E 8 (fun _ => a_M 12) (vwA u26 31) (4 : Int32) r27 hr27) lk_X12_252 (by rw [hRf, hRl]; decide) ⟨Nat.zero_le _, Nat.zero_le _⟩ hB hD hN (i0 := 0) (k0 := 12) rfl rfl rfl hl.1 rfl rfl (Nat.le_of_ble_eq_true rfl) dX12_keepText_115 (fun H locs hB => ?_)
  obtain ⟨u28, eu28, hf⟩ := ox_ex hf
  have hB : WB E ad s.heap [wModel E a_M u28] H locs := by rw [eu28]; exact hB
  refine lv_aload_n hx hb dX12_keepText_118 rfl (lv_at hl 0 rfl) ?_
  refine gf_X12_X12_grainHigh C hK (hB.1 0 _ rfl) dX12_keepText_119 ?_
  refine lv_iconst (v := 4) hx hb dX12_keepText_122 (by decide) ?_
  obtain ⟨r29, hr29, hf⟩ := ox_bind hf
  refine cxSV (As := [.ref (a_M 13), .int (4 : Int32)]) (rest := []) (st1 := []) C hK (tX12_copies l E 8 (fun _ => a_M 13) (vwA u28 32) (4 : Int32) r29 hr29) lk_X12_252 (by rw [hRf, hRl]; decide) ⟨Nat.zero_le _, Nat.zero_le _⟩ hB hD hN (i0 := 0) (k0 := 13) rfl rfl rfl hl.1 rfl rfl (Nat.le_of_ble_eq_true rfl) dX12_keepText_123 (fun H locs hB => ?_)
  obtain ⟨u30, eu30, hf⟩ := ox_ex hf
  have hB : WB E ad s.heap [wModel E a_M u30] H locs := by rw [eu30]; exact hB
  refine lv_aload_n hx hb dX12_keepText_126 rfl (lv_at hl 0 rfl) ?_
  refine gf_X12_X12_grainSacks C hK (hB.1 0 _ rfl) dX12_keepText_127 ?_
  refine lv_iconst (v := 4) hx hb dX12_keepText_130 (by decide) ?_
  obtain ⟨r31, hr31, hf⟩ := ox_bind hf
  refine cxSV (As := [.ref (a_M 14), .int (4 : Int32)]) (rest := []) (st1 := []) C hK (tX12_copies l E 8 (fun _ => a_M 14) (vwA u30 33) (4 : Int32) r31 hr31) lk_X12_252 (by rw [hRf, hRl]; decide) ⟨Nat.zero_le _, Nat.zero_le _⟩ hB hD hN (i0 := 0) (k0 := 14) rfl rfl rfl hl.1 rfl rfl (Nat.le_of_ble_eq_true rfl) dX12_keepText_131 (fun H locs hB => ?_)
  obtain ⟨u32, eu32, hf⟩ := ox_ex hf
  have hB : WB E ad s.heap [wModel E a_M u32] H locs := by rw [eu32]; exact hB
  refine lv_aload_n hx hb dX12_keepText_134 rfl (lv_at hl 0 rfl) ?_
  refine gf_X12_X12_showAct C hK (hB.1 0 _ rfl) dX12_keepText_135 ?_
  refine lv_bipush (v := 14) hx hb dX12_keepText_138 (by decide) ?_
  obtain ⟨r33, hr33, hf⟩ := ox_bind hf
  refine cxSV (As := [.ref (a_M 15), .int (14 : Int32)]) (rest := []) (st1 := []) C hK (tX12_copies l E 28 (fun _ => a_M 15) (vwA u32 34) (14 : Int32) r33 hr33) lk_X12_252 (by rw [hRf, hRl]; decide) ⟨Nat.zero_le _, Nat.zero_le _⟩ hB hD hN (i0 := 0) (k0 := 15) rfl rfl rfl hl.1 rfl rfl (Nat.le_of_ble_eq_true rfl) dX12_keepText_140 (fun H locs hB => ?_)
  obtain ⟨u34, eu34, hf⟩ := ox_ex hf
  have hB : WB E ad s.heap [wModel E a_M u34] H locs := by rw [eu34]; exact hB
  refine lv_aload_n hx hb dX12_keepText_143 rfl (lv_at hl 0 rfl) ?_
  refine gf_X12_X12_showMinute C hK (hB.1 0 _ rfl) dX12_keepText_144 ?_
  refine lv_bipush (v := 14) hx hb dX12_keepText_147 (by decide) ?_
  obtain ⟨r35, hr35, hf⟩ := ox_bind hf
  refine cxSV (As := [.ref (a_M 16), .int (14 : Int32)]) (rest := []) (st1 := []) C hK (tX12_copies l E 28 (fun _ => a_M 16) (vwA u34 35) (14 : Int32) r35 hr35) lk_X12_252 (by rw [hRf, hRl]; decide) ⟨Nat.zero_le _, Nat.zero_le _⟩ hB hD hN (i0 := 0) (k0 := 16) rfl rfl rfl hl.1 rfl rfl (Nat.le_of_ble_eq_true rfl) dX12_keepText_149 (fun H locs hB => ?_)
  obtain ⟨u36, eu36, hf⟩ := ox_ex hf
  have hB : WB E ad s.heap [wModel E a_M u36] H locs := by rw [eu36]; exact hB
  refine lv_iconst (v := 0) hx hb dX12_keepText_152 (by decide) ?_
  refine lv_istore_n (lv' := [(1, .int (0 : Int32)), (0, .ref (a_M 0))]) hx hb dX12_keepText_153 rfl hl (by decide) rfl (fun ls hl => ?_)
  obtain ⟨X1, hX1, hf⟩ := ox_bind hf
  have hexit1 : ∀ y45, y45 = X1 → ∀ (ls : Array Slot) (H : Heap) (locs : List Loc), lv_has ls 2 [(0, .ref (a_M 0))] → WB E ad s.heap [wModel E a_M y45] H locs → W p l e R s m args below meth c H locs 0 0 Q (F0 m 179 ls []) := by
    intro y45 hy ls H locs hl hB
    subst hy
    refine lv_aload_n hx hb dX12_keepText_179 rfl (lv_at hl 0 rfl) ?_
    refine gf_X12_X12_from C hK (hB.1 0 _ rfl) dX12_keepText_180 ?_
    refine lv_iconst (v := 3) hx hb dX12_keepText_183 (by decide) ?_
    obtain ⟨r46, hr46, hf⟩ := ox_bind hf
    refine cxSV (As := [.ref (a_M 18), .int (3 : Int32)]) (rest := []) (st1 := []) C hK (tX12_copies l E 6 (fun _ => a_M 18) (vwA y45 37) (3 : Int32) r46 hr46) lk_X12_252 (by rw [hRf, hRl]; decide) ⟨Nat.zero_le _, Nat.zero_le _⟩ hB hD hN (i0 := 0) (k0 := 18) rfl rfl rfl hl.1 rfl rfl (Nat.le_of_ble_eq_true rfl) dX12_keepText_184 (fun H locs hB => ?_)
    obtain ⟨u47, eu47, hf⟩ := ox_ex hf
    have hB : WB E ad s.heap [wModel E a_M u47] H locs := by rw [eu47]; exact hB
    refine lv_aload_n hx hb dX12_keepText_187 rfl (lv_at hl 0 rfl) ?_
    refine gf_X12_X12_to C hK (hB.1 0 _ rfl) dX12_keepText_188 ?_
    refine lv_iconst (v := 3) hx hb dX12_keepText_191 (by decide) ?_
    obtain ⟨r48, hr48, hf⟩ := ox_bind hf
    refine cxSV (As := [.ref (a_M 19), .int (3 : Int32)]) (rest := []) (st1 := []) C hK (tX12_copies l E 6 (fun _ => a_M 19) (vwA u47 38) (3 : Int32) r48 hr48) lk_X12_252 (by rw [hRf, hRl]; decide) ⟨Nat.zero_le _, Nat.zero_le _⟩ hB hD hN (i0 := 0) (k0 := 19) rfl rfl rfl hl.1 rfl rfl (Nat.le_of_ble_eq_true rfl) dX12_keepText_192 (fun H locs hB => ?_)
    obtain ⟨u49, eu49, hf⟩ := ox_ex hf
    have hB : WB E ad s.heap [wModel E a_M u49] H locs := by rw [eu49]; exact hB
    refine lv_aload_n hx hb dX12_keepText_195 rfl (lv_at hl 0 rfl) ?_
    refine gf_X12_X12_knot C hK (hB.1 0 _ rfl) dX12_keepText_196 ?_
    refine lv_bipush (v := 64) hx hb dX12_keepText_199 (by decide) ?_
    obtain ⟨r50, hr50, hf⟩ := ox_bind hf
    refine cxSV (As := [.ref (a_M 20), .int (64 : Int32)]) (rest := []) (st1 := []) C hK (tX12_copies l E 128 (fun _ => a_M 20) (vwA u49 39) (64 : Int32) r50 hr50) lk_X12_252 (by rw [hRf, hRl]; decide) ⟨Nat.zero_le _, Nat.zero_le _⟩ hB hD hN (i0 := 0) (k0 := 20) rfl rfl rfl hl.1 rfl rfl (Nat.le_of_ble_eq_true rfl) dX12_keepText_201 (fun H locs hB => ?_)
    obtain ⟨u51, eu51, hf⟩ := ox_ex hf
    have hB : WB E ad s.heap [wModel E a_M u51] H locs := by rw [eu51]; exact hB
    refine lv_aload_n hx hb dX12_keepText_204 rfl (lv_at hl 0 rfl) ?_
    refine gf_X12_X12_part C hK (hB.1 0 _ rfl) dX12_keepText_205 ?_
    refine lv_bipush (v := 64) hx hb dX12_keepText_208 (by decide) ?_
    obtain ⟨r52, hr52, hf⟩ := ox_bind hf
    refine cxSV (As := [.ref (a_M 21), .int (64 : Int32)]) (rest := []) (st1 := []) C hK (tX12_copies l E 128 (fun _ => a_M 21) (vwA u51 40) (64 : Int32) r52 hr52) lk_X12_252 (by rw [hRf, hRl]; decide) ⟨Nat.zero_le _, Nat.zero_le _⟩ hB hD hN (i0 := 0) (k0 := 21) rfl rfl rfl hl.1 rfl rfl (Nat.le_of_ble_eq_true rfl) dX12_keepText_210 (fun H locs hB => ?_)
    obtain ⟨u53, eu53, hf⟩ := ox_ex hf
    have hB : WB E ad s.heap [wModel E a_M u53] H locs := by rw [eu53]; exact hB
    refine lv_aload_n hx hb dX12_keepText_213 rfl (lv_at hl 0 rfl) ?_
    refine gf_X12_X12_other C hK (hB.1 0 _ rfl) dX12_keepText_214 ?_
    refine lv_bipush (v := 64) hx hb dX12_keepText_217 (by decide) ?_
    obtain ⟨r54, hr54, hf⟩ := ox_bind hf
    refine cxSV (As := [.ref (a_M 22), .int (64 : Int32)]) (rest := []) (st1 := []) C hK (tX12_copies l E 128 (fun _ => a_M 22) (vwA u53 41) (64 : Int32) r54 hr54) lk_X12_252 (by rw [hRf, hRl]; decide) ⟨Nat.zero_le _, Nat.zero_le _⟩ hB hD hN (i0 := 0) (k0 := 22) rfl rfl rfl hl.1 rfl rfl (Nat.le_of_ble_eq_true rfl) dX12_keepText_219 (fun H locs hB => ?_)
    obtain ⟨u55, eu55, hf⟩ := ox_ex hf
    have hB : WB E ad s.heap [wModel E a_M u55] H locs := by rw [eu55]; exact hB
    refine lv_aload_n hx hb dX12_keepText_222 rfl (lv_at hl 0 rfl) ?_
    obtain ⟨r56, hr56, hf⟩ := ox_bind hf
    refine cxVX (bs1 := (fun q => [wModel E a_M r56])) (As := []) (rest := []) (st1 := []) C hK (tX12_begin l E a_M u55 r56 hr56) lk_X12_256 (by rw [hRf, hRl]; decide) ⟨Nat.zero_le _, Nat.zero_le _⟩ hB hD hN [0] (by decide) rfl (fun _ => rfl) (fun _ => rfl) (rc_X12 hK (hB.1 0 _ rfl)) rfl hl.1 rfl rfl (Nat.le_of_ble_eq_true rfl) dX12_keepText_223 (fun H locs q57 hB => ?_)
    have hB : WB E ad s.heap [wModel E a_M r56] H locs := hB
    have hf := Option.some.inj hf
    subst hf
    exact hQ _ _ H locs (fun _ => 0) hB dX12_keepText_226
  have hloop1 : ∀ (nf : Nat) (x37 : Int32) (u38 : St) (ls : Array Slot) (H : Heap) (locs : List Loc), lv_has ls 2 [(0, .ref (a_M 0)), (1, .int x37)] → WB E ad s.heap [wModel E a_M u38] H locs → fX12_keepText_L1 nf x37 u38 = some X1 → W p l e R s m args below meth c H locs 0 0 Q (F0 m 154 ls []) := by
    intro nf
    induction nf with
    | zero =>
      intro x37 u38 ls H locs hl hB hf
      simp [fX12_keepText_L1] at hf
    | succ nf ih =>
      intro x37 u38 ls H locs hl hB hf
      rw [fX12_keepText_L1] at hf
      refine lv_iload_n hx hb dX12_keepText_154 rfl (lv_at hl 1 rfl) ?_
      refine lv_iconst (v := 3) hx hb dX12_keepText_155 (by decide) ?_
      refine lv_icmp_ge (tgt := 179) hx hb dX12_keepText_156 (by decide) (fun c39 => ?_) (fun c39 => ?_)
      · have hf := (if_pos c39).symm.trans hf
        exact hexit1 _ (Option.some.inj hf) ls H locs (lv_sub hl [0] rfl) hB
      · have hf := (if_neg c39).symm.trans hf
        refine lv_aload_n hx hb dX12_keepText_159 rfl (lv_at hl 0 rfl) ?_
        refine gf_X12_X12_lawTold C hK (hB.1 0 _ rfl) dX12_keepText_160 ?_
        refine lv_iload_n hx hb dX12_keepText_163 rfl (lv_at hl 1 rfl) ?_
        refine lv_aload_n hx hb dX12_keepText_164 rfl (lv_at hl 0 rfl) ?_
        refine gf_X12_X12_lawTold C hK (hB.1 0 _ rfl) dX12_keepText_165 ?_
        refine lv_iconst (v := 3) hx hb dX12_keepText_168 (by decide) ?_
        refine lv_iload_n hx hb dX12_keepText_169 rfl (lv_at hl 1 rfl) ?_
        refine lv_iadd hx hb dX12_keepText_170 ?_
        obtain ⟨hn40, hf⟩ := ox_chk hf
        refine ld_X12_lawTold C hK (hB.1 0 _ rfl) hn40 rfl dX12_keepText_171 ?_
        refine lv_topi (fun x41 ex41 => ?_)
        have hf := ox_lt ex41 hf
        obtain ⟨hn42, hf⟩ := ox_chk hf
        refine st_X12_lawTold C hK hB hD 0 rfl hn42 rfl dX12_keepText_172 (fun H locs u43 eu43 hB => ?_)
        have hf := ox_lt eu43 hf
        have hB : WB E ad s.heap [wModel E a_M u43] H locs := hB
        obtain ⟨x44, ex44⟩ : ∃ z : Int32, z = (x37 + 1) := ⟨_, rfl⟩
        have hf := ox_lt ex44 hf
        refine lv_iinc (v := x44) (lv' := [(1, .int x44), (0, .ref (a_M 0))]) hx hb dX12_keepText_173 hl (k := 1) rfl (by rw [ex44]; rfl) (by decide) rfl (fun ls hl => ?_)
        refine lv_goto (tgt := 154) hx hb dX12_keepText_176 (by decide) ?_
        exact ih _ _ ls H locs (lv_sub hl [1, 0] rfl) hB hf
  exact hloop1 fuel _ _ ls H locs (lv_sub hl [1, 0] rfl) hB hX1
