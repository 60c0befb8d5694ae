set_option maxHeartbeats 4000000 in
set_option maxRecDepth 20000 in
theorem tX12_moodBits (l : Launch) (E : Ev) (a_M : Nat → Nat) (u_M : St) (x_1 : Int32) (res : Int32 × St) (hf : fX12_moodBits u_M x_1 = some res) : MX l E yX12_moodBits cX12_moodBits 4 (some .int) (rmm 8 194) [wModel E a_M u_M] (fun q => [wModel E a_M res.2]) [.ref (a_M 0), .int x_1] (some (.int res.1)) := by
  unfold fX12_moodBits at hf
  refine MX.ofI rfl (by decide) (Nat.le_of_ble_eq_true rfl) ?_
  intro p e R s m args below meth c ls Q ad H hRf hRl C hB hD hK hN hl hQ
  generalize hlocs : ([] : List Loc) = locs at hB ⊢
  clear hlocs
  have hx := C.1
  have hb := C.2.1
  have hl : lv_has ls 4 [(0, .ref (a_M 0)), (1, .int x_1)] := hl
  refine lv_iconst (v := 0) hx hb dX12_moodBits_0 (by decide) ?_
  refine lv_istore_n (lv' := [(2, .int (0 : Int32)), (0, .ref (a_M 0)), (1, .int x_1)]) hx hb dX12_moodBits_1 rfl hl (by decide) rfl (fun ls hl => ?_)
  obtain ⟨X1, hX1, hf⟩ := ox_bind hf
  have hexit1 : ∀ y7, y7 = X1 → ∀ (ls : Array Slot) (H : Heap) (locs : List Loc), lv_has ls 4 [(0, .ref (a_M 0)), (1, .int x_1)] → WB E ad s.heap [wModel E a_M y7] H locs → W p l e R s m args below meth c H locs 0 0 Q (F0 m 23 ls []) := by
    intro y7 hy ls H locs hl hB
    subst hy
    refine lv_aload_n hx hb dX12_moodBits_23 rfl (lv_at hl 0 rfl) ?_
    refine cxVP (As := []) (rest := []) (st1 := [.int (fX12_knownBy y7)]) C hK (tX12_knownBy l E a_M y7 (fX12_knownBy y7) rfl) lk_X12_540 ⟨rfl, rfl⟩ (by rw [hRf, hRl]; decide) ⟨Nat.zero_le _, Nat.zero_le _⟩ (PB.sub hB.1 [0] rfl) (hB.old hD hN) (Nat.le_trans hN hB.2.2.1) (rc_X12 hK (hB.1 0 _ rfl)) rfl hl.1 rfl rfl (Nat.le_of_ble_eq_true rfl) dX12_moodBits_24 ?_
    refine lv_iconst (v := 1) hx hb dX12_moodBits_27 (by decide) ?_
    refine lv_isub hx hb dX12_moodBits_28 ?_
    refine lv_topi (fun x8 ex8 => ?_)
    have hf := ox_lt ex8 hf
    refine lv_istore_n (lv' := [(2, .int x8), (0, .ref (a_M 0)), (1, .int x_1)]) hx hb dX12_moodBits_29 rfl hl (by decide) rfl (fun ls hl => ?_)
    obtain ⟨X2, hX2, hf⟩ := ox_bind hf
    have hexit2 : ∀ y22, y22 = X2 → ∀ (ls : Array Slot) (H : Heap) (locs : List Loc), lv_has ls 4 [(0, .ref (a_M 0)), (1, .int x_1)] → WB E ad s.heap [wModel E a_M y22] H locs → W p l e R s m args below meth c H locs 0 0 Q (F0 m 76 ls []) := by
      intro y22 hy ls H locs hl hB
      subst hy
      refine lv_iconst (v := 0) hx hb dX12_moodBits_76 (by decide) ?_
      refine lv_istore_n (lv' := [(2, .int (0 : Int32)), (0, .ref (a_M 0)), (1, .int x_1)]) hx hb dX12_moodBits_77 rfl hl (by decide) rfl (fun ls hl => ?_)
      refine lv_iconst (v := 0) hx hb dX12_moodBits_78 (by decide) ?_
      refine lv_istore_n (lv' := [(3, .int (0 : Int32)), (2, .int (0 : Int32)), (0, .ref (a_M 0)), (1, .int x_1)]) hx hb dX12_moodBits_79 rfl hl (by decide) rfl (fun ls hl => ?_)
      obtain ⟨X3, hX3, hf⟩ := ox_bind hf
      have hexit3 : ∀ y33, y33 = X3 → ∀ (ls : Array Slot) (H : Heap) (locs : List Loc), lv_has ls 4 [(0, .ref (a_M 0)), (2, .int y33.1)] → WB E ad s.heap [wModel E a_M y33.2] H locs → W p l e R s m args below meth c H locs 0 0 Q (F0 m 111 ls []) := by
        intro y33 hy ls H locs hl hB
        subst hy
        refine lv_aload_n hx hb dX12_moodBits_111 rfl (lv_at hl 0 rfl) ?_
        obtain ⟨r34, er34, hf⟩ := ox_ex hf
        refine cxVX (bs1 := (fun q => [wModel E a_M r34])) (As := []) (rest := []) (st1 := []) C hK (tX12_plainTried l E a_M (y33.2) r34 er34.symm) lk_X12_365 (by rw [hRf, hRl]; decide) ⟨Nat.zero_le _, Nat.zero_le _⟩ hB hD hN [0] (by decide) rfl (fun _ => rfl) (fun _ => rfl) (rc_X12 hK (hB.1 0 _ rfl)) rfl hl.1 rfl rfl (Nat.le_of_ble_eq_true rfl) dX12_moodBits_112 (fun H locs q35 hB => ?_)
        have hB : WB E ad s.heap [wModel E a_M r34] H locs := hB
        refine lv_iload_n hx hb dX12_moodBits_115 rfl (lv_at hl 1 rfl) ?_
        have hf := Option.some.inj hf
        subst hf
        exact hQ _ _ H locs (fun _ => 0) hB dX12_moodBits_116
      have hloop3 : ∀ (nf : Nat) (x23 : Int32) (x24 : Int32) (u25 : St) (ls : Array Slot) (H : Heap) (locs : List Loc), lv_has ls 4 [(0, .ref (a_M 0)), (1, .int x_1), (2, .int x23), (3, .int x24)] → WB E ad s.heap [wModel E a_M u25] H locs → fX12_moodBits_L3 x_1 nf x23 x24 u25 = some X3 → W p l e R s m args below meth c H locs 0 0 Q (F0 m 80 ls []) := by
        intro nf
        induction nf with
        | zero =>
          intro x23 x24 u25 ls H locs hl hB hf
          simp [fX12_moodBits_L3] at hf
        | succ nf ih =>
          intro x23 x24 u25 ls H locs hl hB hf
          rw [fX12_moodBits_L3] at hf
          refine lv_iload_n hx hb dX12_moodBits_80 rfl (lv_at hl 3 rfl) ?_
          refine lv_bipush (v := 10) hx hb dX12_moodBits_81 (by decide) ?_
          refine lv_icmp_ge (tgt := 111) hx hb dX12_moodBits_83 (by decide) (fun c26 => ?_) (fun c26 => ?_)
          · have hf := (if_pos c26).symm.trans hf
            exact hexit3 _ (Option.some.inj hf) ls H locs (lv_sub hl [0, 2] rfl) hB
          · have hf := (if_neg c26).symm.trans hf
            refine lv_iload_n hx hb dX12_moodBits_86 rfl (lv_at hl 2 rfl) ?_
            refine lv_aload_n hx hb dX12_moodBits_87 rfl (lv_at hl 0 rfl) ?_
            refine lv_iload_n hx hb dX12_moodBits_88 rfl (lv_at hl 1 rfl) ?_
            refine lv_iload_n hx hb dX12_moodBits_89 rfl (lv_at hl 3 rfl) ?_
            obtain ⟨r27, hr27, hf⟩ := ox_bind hf
            refine cxVX (bs1 := (fun q => [wModel E a_M r27.2])) (As := [.int x_1, .int x24]) (rest := [.int x23]) (st1 := [.int r27.1, .int x23]) C hK (tX12_fits l E a_M u25 x_1 x24 r27 hr27) lk_X12_549 (by rw [hRf, hRl]; decide) ⟨Nat.zero_le _, Nat.zero_le _⟩ hB hD hN [0] (by decide) rfl (fun _ => rfl) (fun _ => rfl) (rc_X12 hK (hB.1 0 _ rfl)) rfl hl.1 rfl rfl (Nat.le_of_ble_eq_true rfl) dX12_moodBits_90 (fun H locs q28 hB => ?_)
            have hB : WB E ad s.heap [wModel E a_M r27.2] H locs := hB
            obtain ⟨x29, ex29, hf⟩ := ox_ex hf
            have hjx29 : W p l e R s m args below meth c H locs 0 0 Q (F0 m 103 ls [.int x29, .int x23]) := by
              refine lv_ior hx hb dX12_moodBits_103 ?_
              refine lv_topi (fun x30 ex30 => ?_)
              have hf := ox_lt ex30 hf
              refine lv_istore_n (lv' := [(2, .int x30), (0, .ref (a_M 0)), (1, .int x_1), (3, .int x24)]) hx hb dX12_moodBits_104 rfl hl (by decide) rfl (fun ls hl => ?_)
              obtain ⟨x31, ex31⟩ : ∃ z : Int32, z = (x24 + 1) := ⟨_, rfl⟩
              have hf := ox_lt ex31 hf
              refine lv_iinc (v := x31) (lv' := [(3, .int x31), (2, .int x30), (0, .ref (a_M 0)), (1, .int x_1)]) hx hb dX12_moodBits_105 hl (k := 3) rfl (by rw [ex31]; rfl) (by decide) rfl (fun ls hl => ?_)
              refine lv_goto (tgt := 80) hx hb dX12_moodBits_108 (by decide) ?_
              exact ih _ _ _ ls H locs (lv_sub hl [2, 3, 1, 0] rfl) hB hf
            refine lv_if_eq (tgt := 102) hx hb dX12_moodBits_93 (by decide) (fun c32 => ?_) (fun c32 => ?_)
            · refine lv_iconst (v := 0) hx hb dX12_moodBits_102 (by decide) ?_
              exact ox_topi ((ex29).trans (if_pos c32)).symm hjx29
            · refine lv_iconst (v := 1) hx hb dX12_moodBits_96 (by decide) ?_
              refine lv_iload_n hx hb dX12_moodBits_97 rfl (lv_at hl 3 rfl) ?_
              refine lv_ishl hx hb dX12_moodBits_98 ?_
              refine lv_goto (tgt := 103) hx hb dX12_moodBits_99 (by decide) ?_
              exact ox_topi ((ex29).trans (if_neg c32)).symm hjx29
      exact hloop3 fuel _ _ _ ls H locs (lv_sub hl [2, 3, 1, 0] rfl) hB hX3
    have hloop2 : ∀ (nf : Nat) (x9 : Int32) (u10 : St) (ls : Array Slot) (H : Heap) (locs : List Loc), lv_has ls 4 [(0, .ref (a_M 0)), (1, .int x_1), (2, .int x9)] → WB E ad s.heap [wModel E a_M u10] H locs → fX12_moodBits_L2 nf x9 u10 = some X2 → W p l e R s m args below meth c H locs 0 0 Q (F0 m 30 ls []) := by
      intro nf
      induction nf with
      | zero =>
        intro x9 u10 ls H locs hl hB hf
        simp [fX12_moodBits_L2] at hf
      | succ nf ih =>
        intro x9 u10 ls H locs hl hB hf
        rw [fX12_moodBits_L2] at hf
        refine lv_iload_n hx hb dX12_moodBits_30 rfl (lv_at hl 2 rfl) ?_
        refine lv_if_lt (tgt := 76) hx hb dX12_moodBits_31 (by decide) (fun c11 => ?_) (fun c11 => ?_)
        · have hf := (if_pos c11).symm.trans hf
          exact hexit2 _ (Option.some.inj hf) ls H locs (lv_sub hl [0, 1] rfl) hB
        · have hf := (if_neg c11).symm.trans hf
          refine lv_aload_n hx hb dX12_moodBits_34 rfl (lv_at hl 0 rfl) ?_
          refine gf_X12_X12_counts C hK (hB.1 0 _ rfl) dX12_moodBits_35 ?_
          refine lv_iload_n hx hb dX12_moodBits_38 rfl (lv_at hl 2 rfl) ?_
          obtain ⟨hn12, hf⟩ := ox_chk hf
          refine ld_X12_counts C hK (hB.1 0 _ rfl) hn12 rfl dX12_moodBits_39 ?_
          obtain ⟨j14, ej14, hf⟩ := ox_ex hf
          have hj14 : ∀ (u13 : St) (ls : Array Slot) (H : Heap) (locs : List Loc), lv_has ls 4 [(0, .ref (a_M 0)), (1, .int x_1), (2, .int x9)] → WB E ad s.heap [wModel E a_M u13] H locs → j14 u13 = some X2 → W p l e R s m args below meth c H locs 0 0 Q (F0 m 70 ls []) := by
            intro u13 ls H locs hl hB hf
            have hf := ox_a1 ej14 hf
            obtain ⟨x15, ex15⟩ : ∃ z : Int32, z = (x9 + (-1)) := ⟨_, rfl⟩
            have hf := ox_lt ex15 hf
            refine lv_iinc (v := x15) (lv' := [(2, .int x15), (0, .ref (a_M 0)), (1, .int x_1)]) hx hb dX12_moodBits_70 hl (k := 2) rfl (by rw [ex15]; rfl) (by decide) rfl (fun ls hl => ?_)
            refine lv_goto (tgt := 30) hx hb dX12_moodBits_73 (by decide) ?_
            exact ih _ _ ls H locs (lv_sub hl [1, 2, 0] rfl) hB hf
          refine lv_if_eq (tgt := 70) hx hb dX12_moodBits_40 (by decide) (fun c16 => ?_) (fun c16 => ?_)
          · have hf := (if_pos c16).symm.trans hf
            exact hj14 _ ls H locs (lv_sub hl [0, 1, 2] rfl) hB hf
          · have hf := (if_neg c16).symm.trans hf
            refine lv_aload_n hx hb dX12_moodBits_43 rfl (lv_at hl 0 rfl) ?_
            refine gf_X12_X12_seen1 C hK (hB.1 0 _ rfl) dX12_moodBits_44 ?_
            refine lv_iconst (v := 3) hx hb dX12_moodBits_47 (by decide) ?_
            refine lv_iload_n hx hb dX12_moodBits_48 rfl (lv_at hl 2 rfl) ?_
            refine lv_imul hx hb dX12_moodBits_49 ?_
            obtain ⟨hn17, hf⟩ := ox_chk hf
            refine ld_X12_seen1 C hK (hB.1 0 _ rfl) hn17 rfl dX12_moodBits_50 ?_
            refine lv_if_ge (tgt := 70) hx hb dX12_moodBits_51 (by decide) (fun c18 => ?_) (fun c18 => ?_)
            · have hf := (if_pos c18).symm.trans hf
              exact hj14 _ ls H locs (lv_sub hl [0, 1, 2] rfl) hB hf
            · have hf := (if_neg c18).symm.trans hf
              refine lv_aload_n hx hb dX12_moodBits_54 rfl (lv_at hl 0 rfl) ?_
              refine gf_X12_X12_counts C hK (hB.1 0 _ rfl) dX12_moodBits_55 ?_
              refine lv_aload_n hx hb dX12_moodBits_58 rfl (lv_at hl 0 rfl) ?_
              refine gf_X12_X12_seen1 C hK (hB.1 0 _ rfl) dX12_moodBits_59 ?_
              refine lv_iconst (v := 3) hx hb dX12_moodBits_62 (by decide) ?_
              refine lv_iload_n hx hb dX12_moodBits_63 rfl (lv_at hl 2 rfl) ?_
              refine lv_imul hx hb dX12_moodBits_64 ?_
              refine lv_iconst (v := 1) hx hb dX12_moodBits_65 (by decide) ?_
              refine lv_iadd hx hb dX12_moodBits_66 ?_
              obtain ⟨hn19, hf⟩ := ox_chk hf
              refine ld_X12_seen1 C hK (hB.1 0 _ rfl) hn19 rfl dX12_moodBits_67 ?_
              refine lv_iconst (v := 0) hx hb dX12_moodBits_68 (by decide) ?_
              obtain ⟨hn20, hf⟩ := ox_chk hf
              refine st_X12_counts C hK hB hD 0 rfl hn20 rfl dX12_moodBits_69 (fun H locs u21 eu21 hB => ?_)
              have hf := ox_lt eu21 hf
              have hB : WB E ad s.heap [wModel E a_M u21] H locs := hB
              exact hj14 _ ls H locs (lv_sub hl [0, 1, 2] rfl) hB hf
    exact hloop2 fuel _ _ ls H locs (lv_sub hl [1, 2, 0] rfl) hB hX2
  have hloop1 : ∀ (nf : Nat) (x1 : Int32) (u2 : St) (ls : Array Slot) (H : Heap) (locs : List Loc), lv_has ls 4 [(0, .ref (a_M 0)), (1, .int x_1), (2, .int x1)] → WB E ad s.heap [wModel E a_M u2] H locs → fX12_moodBits_L1 nf x1 u2 = some X1 → W p l e R s m args below meth c H locs 0 0 Q (F0 m 2 ls []) := by
    intro nf
    induction nf with
    | zero =>
      intro x1 u2 ls H locs hl hB hf
      simp [fX12_moodBits_L1] at hf
    | succ nf ih =>
      intro x1 u2 ls H locs hl hB hf
      rw [fX12_moodBits_L1] at hf
      refine lv_iload_n hx hb dX12_moodBits_2 rfl (lv_at hl 2 rfl) ?_
      refine lv_aload_n hx hb dX12_moodBits_3 rfl (lv_at hl 0 rfl) ?_
      refine cxVP (As := []) (rest := [.int x1]) (st1 := [.int (fX12_knownBy u2), .int x1]) C hK (tX12_knownBy l E a_M u2 (fX12_knownBy u2) rfl) lk_X12_540 ⟨rfl, rfl⟩ (by rw [hRf, hRl]; decide) ⟨Nat.zero_le _, Nat.zero_le _⟩ (PB.sub hB.1 [0] rfl) (hB.old hD hN) (Nat.le_trans hN hB.2.2.1) (rc_X12 hK (hB.1 0 _ rfl)) rfl hl.1 rfl rfl (Nat.le_of_ble_eq_true rfl) dX12_moodBits_4 ?_
      refine lv_icmp_ge (tgt := 23) hx hb dX12_moodBits_7 (by decide) (fun c3 => ?_) (fun c3 => ?_)
      · have hf := (if_pos c3).symm.trans hf
        exact hexit1 _ (Option.some.inj hf) ls H locs (lv_sub hl [0, 1] rfl) hB
      · have hf := (if_neg c3).symm.trans hf
        refine lv_aload_n hx hb dX12_moodBits_10 rfl (lv_at hl 0 rfl) ?_
        refine gf_X12_X12_counts C hK (hB.1 0 _ rfl) dX12_moodBits_11 ?_
        refine lv_iload_n hx hb dX12_moodBits_14 rfl (lv_at hl 2 rfl) ?_
        refine lv_iconst (v := 1) hx hb dX12_moodBits_15 (by decide) ?_
        obtain ⟨hn4, hf⟩ := ox_chk hf
        refine st_X12_counts C hK hB hD 0 rfl hn4 rfl dX12_moodBits_16 (fun H locs u5 eu5 hB => ?_)
        have hf := ox_lt eu5 hf
        have hB : WB E ad s.heap [wModel E a_M u5] H locs := hB
        obtain ⟨x6, ex6⟩ : ∃ z : Int32, z = (x1 + 1) := ⟨_, rfl⟩
        have hf := ox_lt ex6 hf
        refine lv_iinc (v := x6) (lv' := [(2, .int x6), (0, .ref (a_M 0)), (1, .int x_1)]) hx hb dX12_moodBits_17 hl (k := 2) rfl (by rw [ex6]; rfl) (by decide) rfl (fun ls hl => ?_)
        refine lv_goto (tgt := 2) hx hb dX12_moodBits_20 (by decide) ?_
        exact ih _ _ ls H locs (lv_sub hl [1, 2, 0] rfl) hB hf
  exact hloop1 fuel _ _ ls H locs (lv_sub hl [1, 2, 0] rfl) hB hX1
set_option maxHeartbeats 4000000 in
set_option maxRecDepth 20000 in
theorem tX12_moods (l : Launch) (E : Ev) (a_M : Nat → Nat) (u_M : St) (x_1 : Int32) (res : Int32 × St) (hf : fX12_moods u_M x_1 = some res) : MX l E yX12_moods cX12_moods 2 (some .int) (rmm 9 217) [wModel E a_M u_M] (fun q => [wModel E a_M res.2]) [.ref (a_M 0), .int x_1] (some (.int res.1)) := by
  unfold fX12_moods at hf
  refine MX.ofI rfl (by decide) (Nat.le_of_ble_eq_true rfl) ?_
  intro p e R s m args below meth c ls Q ad H hRf hRl C hB hD hK hN hl hQ
  generalize hlocs : ([] : List Loc) = locs at hB ⊢
  clear hlocs
  have hx := C.1
  have hb := C.2.1
  have hl : lv_has ls 2 [(0, .ref (a_M 0)), (1, .int x_1)] := hl
  refine lv_aload_n hx hb dX12_moods_0 rfl (lv_at hl 0 rfl) ?_
  refine lv_iconst (v := 0) hx hb dX12_moods_1 (by decide) ?_
  refine pf_X12_X12_thrown C hK hB hD 0 rfl dX12_moods_2 (fun H locs u1 eu1 hB => ?_)
  have hf := ox_lt eu1 hf
  have hB : WB E ad s.heap [wModel E a_M u1] H locs := hB
  refine lv_aload_n hx hb dX12_moods_5 rfl (lv_at hl 0 rfl) ?_
  refine lv_iload_n hx hb dX12_moods_6 rfl (lv_at hl 1 rfl) ?_
  refine cxVP (As := [.int x_1]) (rest := []) (st1 := [.int (fX12_isAct u1 x_1)]) C hK (tX12_isAct l E a_M u1 x_1 (fX12_isAct u1 x_1) rfl) lk_X12_485 ⟨rfl, rfl⟩ (by rw [hRf, hRl]; decide) ⟨Nat.zero_le _, Nat.zero_le _⟩ (PB.sub hB.1 [0] rfl) (hB.old hD hN) (Nat.le_trans hN hB.2.2.1) (rc_X12 hK (hB.1 0 _ rfl)) rfl hl.1 rfl rfl (Nat.le_of_ble_eq_true rfl) dX12_moods_7 ?_
  refine lv_if_eq (tgt := 21) hx hb dX12_moods_10 (by decide) (fun c2 => ?_) (fun c2 => ?_)
  · have hf := (if_pos c2).symm.trans hf
    refine lv_iconst (v := (-1)) hx hb dX12_moods_21 (by decide) ?_
    have hf := Option.some.inj hf
    subst hf
    exact hQ _ _ H locs (fun _ => 0) hB dX12_moods_22
  · have hf := (if_neg c2).symm.trans hf
    refine lv_aload_n hx hb dX12_moods_13 rfl (lv_at hl 0 rfl) ?_
    refine lv_iload_n hx hb dX12_moods_14 rfl (lv_at hl 1 rfl) ?_
    obtain ⟨r3, hr3, hf⟩ := ox_bind hf
    refine cxVX (bs1 := (fun q => [wModel E a_M r3.2])) (As := [.int x_1]) (rest := []) (st1 := [.int r3.1]) C hK (tX12_moodBits l E a_M u1 x_1 r3 hr3) lk_X12_552 (by rw [hRf, hRl]; decide) ⟨Nat.zero_le _, Nat.zero_le _⟩ hB hD hN [0] (by decide) rfl (fun _ => rfl) (fun _ => rfl) (rc_X12 hK (hB.1 0 _ rfl)) rfl hl.1 rfl rfl (Nat.le_of_ble_eq_true rfl) dX12_moods_15 (fun H locs q4 hB => ?_)
    have hB : WB E ad s.heap [wModel E a_M r3.2] H locs := hB
    refine lv_goto (tgt := 22) hx hb dX12_moods_18 (by decide) ?_
    have hf := Option.some.inj hf
    subst hf
    exact hQ _ _ H locs (fun _ => 0) hB dX12_moods_22
set_option maxHeartbeats 4000000 in
set_option maxRecDepth 20000 in
theorem tX12_worstAt (l : Launch) (E : Ev) (a_M : Nat → Nat) (u_M : St) (x_1 : Int32) (x_2 : Int32) (res : Int32) (hf : fX12_worstAt u_M x_1 x_2 = some res) : MP l E yX12_worstAt cX12_worstAt 7 (some .int) (rmm 1 21) [wModel E a_M u_M] [.ref (a_M 0), .int x_1, .int x_2] (some (.int res)) := by
  unfold fX12_worstAt at hf
  refine MP.ofI rfl (by decide) (Nat.le_of_ble_eq_true rfl) ?_
  intro p e R s m args below meth c ls Q hRf hRl C hP hK hN hl hQ
  have hx := C.1
  have hb := C.2.1
  have hl : lv_has ls 7 [(0, .ref (a_M 0)), (1, .int x_1), (2, .int x_2)] := hl
  refine lv_iconst (v := 0) hx hb dX12_worstAt_0 (by decide) ?_
  refine lv_istore_n (lv' := [(3, .int (0 : Int32)), (0, .ref (a_M 0)), (1, .int x_1), (2, .int x_2)]) hx hb dX12_worstAt_1 rfl hl (by decide) rfl (fun ls hl => ?_)
  refine lv_iconst (v := 0) hx hb dX12_worstAt_2 (by decide) ?_
  refine lv_istore (lv' := [(4, .int (0 : Int32)), (3, .int (0 : Int32)), (0, .ref (a_M 0)), (1, .int x_1), (2, .int x_2)]) hx hb dX12_worstAt_3 hl (by decide) rfl (fun ls hl => ?_)
  obtain ⟨X1, hX1, hf⟩ := ox_bind hf
  have hexit1 : ∀ y22, y22 = X1 → ∀ (ls : Array Slot), lv_has ls 7 [(3, .int y22)] → W p l e R s m args below meth c s.heap [] 0 0 Q (F0 m 105 ls []) := by
    intro y22 hy ls hl
    subst hy
    refine lv_iload_n hx hb dX12_worstAt_105 rfl (lv_at hl 0 rfl) ?_
    have hf := Option.some.inj hf
    subst hf
    exact hQ _ _ dX12_worstAt_106
  have hloop1 : ∀ (nf : Nat) (x1 : Int32) (x2 : Int32) (ls : Array Slot), lv_has ls 7 [(0, .ref (a_M 0)), (1, .int x_1), (2, .int x_2), (3, .int x1), (4, .int x2)] → fX12_worstAt_L1 u_M x_1 x_2 nf x1 x2 = some X1 → W p l e R s m args below meth c s.heap [] 0 0 Q (F0 m 5 ls []) := by
    intro nf
    induction nf with
    | zero =>
      intro x1 x2 ls hl hf
      simp [fX12_worstAt_L1] at hf
    | succ nf ih =>
      intro x1 x2 ls hl hf
      rw [fX12_worstAt_L1] at hf
      refine lv_iload hx hb dX12_worstAt_5 (lv_at hl 4 rfl) ?_
      refine lv_bipush (v := 10) hx hb dX12_worstAt_7 (by decide) ?_
      refine lv_icmp_ge (tgt := 105) hx hb dX12_worstAt_9 (by decide) (fun c3 => ?_) (fun c3 => ?_)
      · have hf := (if_pos c3).symm.trans hf
        exact hexit1 _ (Option.some.inj hf) ls (lv_sub hl [3] rfl)
      · have hf := (if_neg c3).symm.trans hf
        refine lv_iconst (v := 0) hx hb dX12_worstAt_12 (by decide) ?_
        refine lv_istore (lv' := [(5, .int (0 : Int32)), (0, .ref (a_M 0)), (1, .int x_1), (2, .int x_2), (3, .int x1), (4, .int x2)]) hx hb dX12_worstAt_13 hl (by decide) rfl (fun ls hl => ?_)
        refine lv_iconst (v := 0) hx hb dX12_worstAt_15 (by decide) ?_
        refine lv_istore (lv' := [(6, .int (0 : Int32)), (5, .int (0 : Int32)), (0, .ref (a_M 0)), (1, .int x_1), (2, .int x_2), (3, .int x1), (4, .int x2)]) hx hb dX12_worstAt_16 hl (by decide) rfl (fun ls hl => ?_)
        obtain ⟨X2, hX2, hf⟩ := ox_bind hf
        have hexit2 : ∀ y17, y17 = X2 → ∀ (ls : Array Slot), lv_has ls 7 [(0, .ref (a_M 0)), (1, .int x_1), (2, .int x_2), (3, .int x1), (4, .int x2), (5, .int y17)] → W p l e R s m args below meth c s.heap [] 0 0 Q (F0 m 86 ls []) := by
          intro y17 hy ls hl
          subst hy
          refine lv_iload hx hb dX12_worstAt_86 (lv_at hl 5 rfl) ?_
          refine lv_iload_n hx hb dX12_worstAt_88 rfl (lv_at hl 3 rfl) ?_
          obtain ⟨x18, ex18, hf⟩ := ox_ex hf
          have hjx18 : W p l e R s m args below meth c s.heap [] 0 0 Q (F0 m 98 ls [.int x18]) := by
            refine lv_istore_n (lv' := [(3, .int x18), (0, .ref (a_M 0)), (1, .int x_1), (2, .int x_2), (4, .int x2), (5, .int y17)]) hx hb dX12_worstAt_98 rfl hl (by decide) rfl (fun ls hl => ?_)
            obtain ⟨x19, ex19⟩ : ∃ z : Int32, z = (x2 + 1) := ⟨_, rfl⟩
            have hf := ox_lt ex19 hf
            refine lv_iinc (v := x19) (lv' := [(4, .int x19), (3, .int x18), (0, .ref (a_M 0)), (1, .int x_1), (2, .int x_2), (5, .int y17)]) hx hb dX12_worstAt_99 hl (k := 4) rfl (by rw [ex19]; rfl) (by decide) rfl (fun ls hl => ?_)
            refine lv_goto (tgt := 5) hx hb dX12_worstAt_102 (by decide) ?_
            exact ih _ _ ls (lv_sub hl [2, 3, 4, 1, 0] rfl) hf
          refine lv_icmp_le (tgt := 97) hx hb dX12_worstAt_89 (by decide) (fun c20 => ?_) (fun c20 => ?_)
          · refine lv_iload_n hx hb dX12_worstAt_97 rfl (lv_at hl 3 rfl) ?_
            exact ox_topi ((ex18).trans (if_pos c20)).symm hjx18
          · refine lv_iload hx hb dX12_worstAt_92 (lv_at hl 5 rfl) ?_
            refine lv_goto (tgt := 98) hx hb dX12_worstAt_94 (by decide) ?_
            exact ox_topi ((ex18).trans (if_neg c20)).symm hjx18
        have hloop2 : ∀ (nf : Nat) (x4 : Int32) (x5 : Int32) (ls : Array Slot), lv_has ls 7 [(0, .ref (a_M 0)), (1, .int x_1), (2, .int x_2), (3, .int x1), (4, .int x2), (5, .int x4), (6, .int x5)] → fX12_worstAt_L2 u_M x_1 x_2 x2 nf x4 x5 = some X2 → W p l e R s m args below meth c s.heap [] 0 0 Q (F0 m 18 ls []) := by
          intro nf
          induction nf with
          | zero =>
            intro x4 x5 ls hl hf
            simp [fX12_worstAt_L2] at hf
          | succ nf ih =>
            intro x4 x5 ls hl hf
            rw [fX12_worstAt_L2] at hf
            refine lv_iload hx hb dX12_worstAt_18 (lv_at hl 6 rfl) ?_
            refine lv_bipush (v := 10) hx hb dX12_worstAt_20 (by decide) ?_
            refine lv_icmp_ge (tgt := 86) hx hb dX12_worstAt_22 (by decide) (fun c6 => ?_) (fun c6 => ?_)
            · have hf := (if_pos c6).symm.trans hf
              exact hexit2 _ (Option.some.inj hf) ls (lv_sub hl [0, 1, 2, 3, 4, 5] rfl)
            · have hf := (if_neg c6).symm.trans hf
              refine lv_iload hx hb dX12_worstAt_25 (lv_at hl 5 rfl) ?_
              refine lv_iload_n hx hb dX12_worstAt_27 rfl (lv_at hl 2 rfl) ?_
              refine lv_iload hx hb dX12_worstAt_28 (lv_at hl 4 rfl) ?_
              refine cxSP (As := [.int x_2, .int x2]) (rest := [.int x4]) (st1 := [.int (fX12_isOf x_2 x2), .int x4]) C hK (tX12_isOf l E x_2 x2 (fX12_isOf x_2 x2) rfl) lk_X12_503 ⟨rfl, rfl⟩ (by rw [hRf, hRl]; decide) ⟨Nat.zero_le _, Nat.zero_le _⟩ (PB.sub hP [] rfl) (fun _ _ => rfl) hN rfl hl.1 rfl rfl (Nat.le_of_ble_eq_true rfl) dX12_worstAt_30 ?_
              obtain ⟨j8, ej8, hf⟩ := ox_ex hf
              have hj8 : ∀ (x7 : Int32) (ls : Array Slot), lv_has ls 7 [(0, .ref (a_M 0)), (1, .int x_1), (2, .int x_2), (3, .int x1), (4, .int x2), (6, .int x5)] → j8 x7 = some X2 → W p l e R s m args below meth c s.heap [] 0 0 Q (F0 m 77 ls [.int x7, .int x4]) := by
                intro x7 ls hl hf
                have hf := ox_a1 ej8 hf
                refine lv_iadd hx hb dX12_worstAt_77 ?_
                refine lv_topi (fun x9 ex9 => ?_)
                have hf := ox_lt ex9 hf
                refine lv_istore (lv' := [(5, .int x9), (0, .ref (a_M 0)), (1, .int x_1), (2, .int x_2), (3, .int x1), (4, .int x2), (6, .int x5)]) hx hb dX12_worstAt_78 hl (by decide) rfl (fun ls hl => ?_)
                obtain ⟨x10, ex10⟩ : ∃ z : Int32, z = (x5 + 1) := ⟨_, rfl⟩
                have hf := ox_lt ex10 hf
                refine lv_iinc (v := x10) (lv' := [(6, .int x10), (5, .int x9), (0, .ref (a_M 0)), (1, .int x_1), (2, .int x_2), (3, .int x1), (4, .int x2)]) hx hb dX12_worstAt_80 hl (k := 6) rfl (by rw [ex10]; rfl) (by decide) rfl (fun ls hl => ?_)
                refine lv_goto (tgt := 18) hx hb dX12_worstAt_83 (by decide) ?_
                exact ih _ _ ls (lv_sub hl [2, 3, 4, 5, 6, 1, 0] rfl) hf
              obtain ⟨j11, ej11, hf⟩ := ox_ex hf
              have hj11 : ∀ (ls : Array Slot), lv_has ls 7 [(0, .ref (a_M 0)), (1, .int x_1), (2, .int x_2), (3, .int x1), (4, .int x2), (6, .int x5)] → j11 = some X2 → W p l e R s m args below meth c s.heap [] 0 0 Q (F0 m 76 ls [.int x4]) := by
                intro ls hl hf
                have hf := ox_a0 ej11 hf
                refine lv_iconst (v := 0) hx hb dX12_worstAt_76 (by decide) ?_
                exact hj8 _ ls (lv_sub hl [0, 1, 2, 3, 4, 5] rfl) hf
              refine lv_if_eq (tgt := 76) hx hb dX12_worstAt_33 (by decide) (fun c12 => ?_) (fun c12 => ?_)
              · have hf := (if_pos c12).symm.trans hf
                exact hj11 ls (lv_sub hl [0, 1, 2, 3, 4, 6] rfl) hf
              · have hf := (if_neg c12).symm.trans hf
                refine lv_iload_n hx hb dX12_worstAt_36 rfl (lv_at hl 2 rfl) ?_
                refine lv_iload hx hb dX12_worstAt_37 (lv_at hl 6 rfl) ?_
                refine cxSP (As := [.int x_2, .int x5]) (rest := [.int x4]) (st1 := [.int (fX12_isOf x_2 x5), .int x4]) C hK (tX12_isOf l E x_2 x5 (fX12_isOf x_2 x5) rfl) lk_X12_503 ⟨rfl, rfl⟩ (by rw [hRf, hRl]; decide) ⟨Nat.zero_le _, Nat.zero_le _⟩ (PB.sub hP [] rfl) (fun _ _ => rfl) hN rfl hl.1 rfl rfl (Nat.le_of_ble_eq_true rfl) dX12_worstAt_39 ?_
                refine lv_if_eq (tgt := 76) hx hb dX12_worstAt_42 (by decide) (fun c13 => ?_) (fun c13 => ?_)
                · have hf := (if_pos c13).symm.trans hf
                  exact hj11 ls (lv_sub hl [0, 1, 2, 3, 4, 6] rfl) hf
                · have hf := (if_neg c13).symm.trans hf
                  refine lv_aload_n hx hb dX12_worstAt_45 rfl (lv_at hl 0 rfl) ?_
                  refine gf_X12_X12_groundThen C hK (hP 0 _ rfl) dX12_worstAt_46 ?_
                  refine lv_bipush (v := 61) hx hb dX12_worstAt_49 (by decide) ?_
                  refine lv_iload hx hb dX12_worstAt_51 (lv_at hl 4 rfl) ?_
                  refine lv_imul hx hb dX12_worstAt_53 ?_
                  refine lv_iload_n hx hb dX12_worstAt_54 rfl (lv_at hl 1 rfl) ?_
                  refine lv_iadd hx hb dX12_worstAt_55 ?_
                  obtain ⟨hn14, hf⟩ := ox_chk hf
                  refine ld_X12_groundThen C hK (hP 0 _ rfl) hn14 rfl dX12_worstAt_56 ?_
                  refine lv_aload_n hx hb dX12_worstAt_57 rfl (lv_at hl 0 rfl) ?_
                  refine gf_X12_X12_groundThen C hK (hP 0 _ rfl) dX12_worstAt_58 ?_
                  refine lv_bipush (v := 61) hx hb dX12_worstAt_61 (by decide) ?_
                  refine lv_iload hx hb dX12_worstAt_63 (lv_at hl 6 rfl) ?_
                  refine lv_imul hx hb dX12_worstAt_65 ?_
                  refine lv_iload_n hx hb dX12_worstAt_66 rfl (lv_at hl 1 rfl) ?_
                  refine lv_iadd hx hb dX12_worstAt_67 ?_
                  obtain ⟨hn15, hf⟩ := ox_chk hf
                  refine ld_X12_groundThen C hK (hP 0 _ rfl) hn15 rfl dX12_worstAt_68 ?_
                  refine lv_icmp_ne (tgt := 76) hx hb dX12_worstAt_69 (by decide) (fun c16 => ?_) (fun c16 => ?_)
                  · have hf := (if_neg c16).symm.trans hf
                    exact hj11 ls (lv_sub hl [0, 1, 2, 3, 4, 6] rfl) hf
                  · have hf := (if_pos c16).symm.trans hf
                    refine lv_iconst (v := 1) hx hb dX12_worstAt_72 (by decide) ?_
                    refine lv_goto (tgt := 77) hx hb dX12_worstAt_73 (by decide) ?_
                    exact hj8 _ ls (lv_sub hl [0, 1, 2, 3, 4, 6] rfl) hf
        exact hloop2 fuel _ _ ls (lv_sub hl [2, 3, 4, 5, 6, 1, 0] rfl) hX2
  exact hloop1 fuel _ _ ls (lv_sub hl [2, 3, 4, 1, 0] rfl) hX1
set_option maxHeartbeats 4000000 in
set_option maxRecDepth 20000 in
theorem tX12_ask (l : Launch) (E : Ev) (a_M : Nat → Nat) (u_M : St) (x_1 : Int32) (x_2 : Int32) (res : Int32 × St) (hf : fX12_ask u_M x_1 x_2 = some res) : MX l E yX12_ask cX12_ask 6 (some .int) (rmm 9 217) [wModel E a_M u_M] (fun q => [wModel E a_M res.2]) [.ref (a_M 0), .int x_1, .int x_2] (some (.int res.1)) := by
  unfold fX12_ask at hf
  refine MX.ofI rfl (by decide) (Nat.le_of_ble_eq_true rfl) ?_
  intro p e R s m args below meth c ls Q ad H hRf hRl C hB hD hK hN hl hQ
  generalize hlocs : ([] : List Loc) = locs at hB ⊢
  clear hlocs
  have hx := C.1
  have hb := C.2.1
  have hl : lv_has ls 6 [(0, .ref (a_M 0)), (1, .int x_1), (2, .int x_2)] := hl
  refine lv_aload_n hx hb dX12_ask_0 rfl (lv_at hl 0 rfl) ?_
  refine lv_iconst (v := 0) hx hb dX12_ask_1 (by decide) ?_
  refine pf_X12_X12_thrown C hK hB hD 0 rfl dX12_ask_2 (fun H locs u1 eu1 hB => ?_)
  have hf := ox_lt eu1 hf
  have hB : WB E ad s.heap [wModel E a_M u1] H locs := hB
  refine lv_aload_n hx hb dX12_ask_5 rfl (lv_at hl 0 rfl) ?_
  refine lv_iload_n hx hb dX12_ask_6 rfl (lv_at hl 1 rfl) ?_
  refine cxVP (As := [.int x_1]) (rest := []) (st1 := [.int (fX12_isAct u1 x_1)]) C hK (tX12_isAct l E a_M u1 x_1 (fX12_isAct u1 x_1) rfl) lk_X12_485 ⟨rfl, rfl⟩ (by rw [hRf, hRl]; decide) ⟨Nat.zero_le _, Nat.zero_le _⟩ (PB.sub hB.1 [0] rfl) (hB.old hD hN) (Nat.le_trans hN hB.2.2.1) (rc_X12 hK (hB.1 0 _ rfl)) rfl hl.1 rfl rfl (Nat.le_of_ble_eq_true rfl) dX12_ask_7 ?_
  refine lv_if_eq (tgt := 22) hx hb dX12_ask_10 (by decide) (fun c2 => ?_) (fun c2 => ?_)
  · have hf := (if_pos c2).symm.trans hf
    refine lv_iconst (v := (-1)) hx hb dX12_ask_22 (by decide) ?_
    have hf := Option.some.inj hf
    subst hf
    exact hQ _ _ H locs (fun _ => 0) hB dX12_ask_23
  · have hf := (if_neg c2).symm.trans hf
    refine lv_iload_n hx hb dX12_ask_13 rfl (lv_at hl 2 rfl) ?_
    refine lv_iconst (v := 0) hx hb dX12_ask_14 (by decide) ?_
    refine lv_iconst (v := 1) hx hb dX12_ask_15 (by decide) ?_
    refine cxSP (As := [.int x_2, .int (0 : Int32), .int (1 : Int32)]) (rest := []) (st1 := [.int (fX12_isIn x_2 (0 : Int32) (1 : Int32))]) C hK (tX12_isIn l E x_2 (0 : Int32) (1 : Int32) (fX12_isIn x_2 (0 : Int32) (1 : Int32)) rfl) lk_X12_202 ⟨rfl, rfl⟩ (by rw [hRf, hRl]; decide) ⟨Nat.zero_le _, Nat.zero_le _⟩ (PB.sub hB.1 [] rfl) (hB.old hD hN) (Nat.le_trans hN hB.2.2.1) rfl hl.1 rfl rfl (Nat.le_of_ble_eq_true rfl) dX12_ask_16 ?_
    refine lv_if_ne (tgt := 24) hx hb dX12_ask_19 (by decide) (fun c3 => ?_) (fun c3 => ?_)
    · have hf := (if_neg c3).symm.trans hf
      refine lv_aload_n hx hb dX12_ask_24 rfl (lv_at hl 0 rfl) ?_
      refine lv_iload_n hx hb dX12_ask_25 rfl (lv_at hl 1 rfl) ?_
      obtain ⟨r4, hr4, hf⟩ := ox_bind hf
      refine cxVX (bs1 := (fun q => [wModel E a_M r4.2])) (As := [.int x_1]) (rest := []) (st1 := [.int r4.1]) C hK (tX12_moodBits l E a_M u1 x_1 r4 hr4) lk_X12_552 (by rw [hRf, hRl]; decide) ⟨Nat.zero_le _, Nat.zero_le _⟩ hB hD hN [0] (by decide) rfl (fun _ => rfl) (fun _ => rfl) (rc_X12 hK (hB.1 0 _ rfl)) rfl hl.1 rfl rfl (Nat.le_of_ble_eq_true rfl) dX12_ask_26 (fun H locs q5 hB => ?_)
      have hB : WB E ad s.heap [wModel E a_M r4.2] H locs := hB
      refine lv_topi (fun x6 ex6 => ?_)
      have hf := ox_lt ex6 hf
      refine lv_istore_n (lv' := [(3, .int x6), (0, .ref (a_M 0)), (1, .int x_1), (2, .int x_2)]) hx hb dX12_ask_29 rfl hl (by decide) rfl (fun ls hl => ?_)
      refine lv_iconst (v := 0) hx hb dX12_ask_30 (by decide) ?_
      refine lv_istore (lv' := [(4, .int (0 : Int32)), (3, .int x6), (0, .ref (a_M 0)), (1, .int x_1), (2, .int x_2)]) hx hb dX12_ask_31 hl (by decide) rfl (fun ls hl => ?_)
      obtain ⟨X1, hX1, hf⟩ := ox_bind hf
      have hexit1 : ∀ y24, y24 = X1 → ∀ (ls : Array Slot) (H : Heap) (locs : List Loc), lv_has ls 6 [(0, .ref (a_M 0)), (2, .int x_2), (3, .int x6)] → WB E ad s.heap [wModel E a_M y24] H locs → W p l e R s m args below meth c H locs 0 0 Q (F0 m 92 ls []) := by
        intro y24 hy ls H locs hl hB
        subst hy
        refine lv_aload_n hx hb dX12_ask_92 rfl (lv_at hl 0 rfl) ?_
        obtain ⟨r25, er25, hf⟩ := ox_ex hf
        refine cxVX (bs1 := (fun q => [wModel E a_M r25])) (As := []) (rest := []) (st1 := []) C hK (tX12_plainTried l E a_M y24 r25 er25.symm) lk_X12_365 (by rw [hRf, hRl]; decide) ⟨Nat.zero_le _, Nat.zero_le _⟩ hB hD hN [0] (by decide) rfl (fun _ => rfl) (fun _ => rfl) (rc_X12 hK (hB.1 0 _ rfl)) rfl hl.1 rfl rfl (Nat.le_of_ble_eq_true rfl) dX12_ask_93 (fun H locs q26 hB => ?_)
        have hB : WB E ad s.heap [wModel E a_M r25] H locs := hB
        refine lv_iconst (v := 1) hx hb dX12_ask_96 (by decide) ?_
        refine lv_istore (lv' := [(4, .int (1 : Int32)), (0, .ref (a_M 0)), (2, .int x_2), (3, .int x6)]) hx hb dX12_ask_97 hl (by decide) rfl (fun ls hl => ?_)
        refine lv_iconst (v := 2) hx hb dX12_ask_99 (by decide) ?_
        refine lv_istore (lv' := [(5, .int (2 : Int32)), (4, .int (1 : Int32)), (0, .ref (a_M 0)), (2, .int x_2), (3, .int x6)]) hx hb dX12_ask_100 hl (by decide) rfl (fun ls hl => ?_)
        obtain ⟨X3, hX3, hf⟩ := ox_bind hf
        have hexit3 : ∀ y35, y35 = X3 → ∀ (ls : Array Slot) (H : Heap) (locs : List Loc), lv_has ls 6 [(0, .ref (a_M 0)), (2, .int x_2), (3, .int x6), (4, .int y35)] → WB E ad s.heap [wModel E a_M r25] H locs → W p l e R s m args below meth c H locs 0 0 Q (F0 m 141 ls []) := by
          intro y35 hy ls H locs hl hB
          subst hy
          refine lv_iload_n hx hb dX12_ask_141 rfl (lv_at hl 1 rfl) ?_
          refine lv_if_ne (tgt := 150) hx hb dX12_ask_142 (by decide) (fun c36 => ?_) (fun c36 => ?_)
          · have hf := (if_neg c36).symm.trans hf
            refine lv_aload_n hx hb dX12_ask_150 rfl (lv_at hl 0 rfl) ?_
            refine lv_iload hx hb dX12_ask_151 (lv_at hl 3 rfl) ?_
            refine lv_iload_n hx hb dX12_ask_153 rfl (lv_at hl 2 rfl) ?_
            obtain ⟨r37, hr37, hf⟩ := ox_bind hf
            refine cxVP (As := [.int y35, .int x6]) (rest := []) (st1 := [.int r37]) C hK (tX12_worstAt l E a_M r25 y35 x6 r37 hr37) lk_X12_555 ⟨rfl, rfl⟩ (by rw [hRf, hRl]; decide) ⟨Nat.zero_le _, Nat.zero_le _⟩ (PB.sub hB.1 [0] rfl) (hB.old hD hN) (Nat.le_trans hN hB.2.2.1) (rc_X12 hK (hB.1 0 _ rfl)) rfl hl.1 rfl rfl (Nat.le_of_ble_eq_true rfl) dX12_ask_154 ?_
            have hf := Option.some.inj hf
            subst hf
            exact hQ _ _ H locs (fun _ => 0) hB dX12_ask_157
          · have hf := (if_pos c36).symm.trans hf
            refine lv_iload hx hb dX12_ask_145 (lv_at hl 3 rfl) ?_
            refine lv_goto (tgt := 157) hx hb dX12_ask_147 (by decide) ?_
            have hf := Option.some.inj hf
            subst hf
            exact hQ _ _ H locs (fun _ => 0) hB dX12_ask_157
        have hloop3 : ∀ (nf : Nat) (x27 : Int32) (x28 : Int32) (ls : Array Slot) (H : Heap) (locs : List Loc), lv_has ls 6 [(0, .ref (a_M 0)), (2, .int x_2), (3, .int x6), (4, .int x27), (5, .int x28)] → WB E ad s.heap [wModel E a_M r25] H locs → fX12_ask_L3 x6 r25 nf x27 x28 = some X3 → W p l e R s m args below meth c H locs 0 0 Q (F0 m 102 ls []) := by
          intro nf
          induction nf with
          | zero =>
            intro x27 x28 ls H locs hl hB hf
            simp [fX12_ask_L3] at hf
          | succ nf ih =>
            intro x27 x28 ls H locs hl hB hf
            rw [fX12_ask_L3] at hf
            refine lv_iload hx hb dX12_ask_102 (lv_at hl 4 rfl) ?_
            refine lv_bipush (v := 60) hx hb dX12_ask_104 (by decide) ?_
            refine lv_icmp_gt (tgt := 141) hx hb dX12_ask_106 (by decide) (fun c29 => ?_) (fun c29 => ?_)
            · have hf := (if_pos c29).symm.trans hf
              exact hexit3 _ (Option.some.inj hf) ls H locs (lv_sub hl [0, 1, 2, 3] rfl) hB
            · have hf := (if_neg c29).symm.trans hf
              refine lv_aload_n hx hb dX12_ask_109 rfl (lv_at hl 0 rfl) ?_
              refine lv_iload hx hb dX12_ask_110 (lv_at hl 4 rfl) ?_
              refine lv_iload_n hx hb dX12_ask_112 rfl (lv_at hl 2 rfl) ?_
              obtain ⟨r30, hr30, hf⟩ := ox_bind hf
              refine cxVP (As := [.int x28, .int x6]) (rest := []) (st1 := [.int r30]) C hK (tX12_worstAt l E a_M r25 x28 x6 r30 hr30) lk_X12_555 ⟨rfl, rfl⟩ (by rw [hRf, hRl]; decide) ⟨Nat.zero_le _, Nat.zero_le _⟩ (PB.sub hB.1 [0] rfl) (hB.old hD hN) (Nat.le_trans hN hB.2.2.1) (rc_X12 hK (hB.1 0 _ rfl)) rfl hl.1 rfl rfl (Nat.le_of_ble_eq_true rfl) dX12_ask_113 ?_
              refine lv_aload_n hx hb dX12_ask_116 rfl (lv_at hl 0 rfl) ?_
              refine lv_iload hx hb dX12_ask_117 (lv_at hl 3 rfl) ?_
              refine lv_iload_n hx hb dX12_ask_119 rfl (lv_at hl 2 rfl) ?_
              obtain ⟨r31, hr31, hf⟩ := ox_bind hf
              refine cxVP (As := [.int x27, .int x6]) (rest := [.int r30]) (st1 := [.int r31, .int r30]) C hK (tX12_worstAt l E a_M r25 x27 x6 r31 hr31) lk_X12_555 ⟨rfl, rfl⟩ (by rw [hRf, hRl]; decide) ⟨Nat.zero_le _, Nat.zero_le _⟩ (PB.sub hB.1 [0] rfl) (hB.old hD hN) (Nat.le_trans hN hB.2.2.1) (rc_X12 hK (hB.1 0 _ rfl)) rfl hl.1 rfl rfl (Nat.le_of_ble_eq_true rfl) dX12_ask_120 ?_
              obtain ⟨x32, ex32, hf⟩ := ox_ex hf
              have hjx32 : W p l e R s m args below meth c H locs 0 0 Q (F0 m 133 ls [.int x32]) := by
                refine lv_istore (lv' := [(4, .int x32), (0, .ref (a_M 0)), (2, .int x_2), (3, .int x6), (5, .int x28)]) hx hb dX12_ask_133 hl (by decide) rfl (fun ls hl => ?_)
                obtain ⟨x33, ex33⟩ : ∃ z : Int32, z = (x28 + 1) := ⟨_, rfl⟩
                have hf := ox_lt ex33 hf
                refine lv_iinc (v := x33) (lv' := [(5, .int x33), (4, .int x32), (0, .ref (a_M 0)), (2, .int x_2), (3, .int x6)]) hx hb dX12_ask_135 hl (k := 4) rfl (by rw [ex33]; rfl) (by decide) rfl (fun ls hl => ?_)
                refine lv_goto (tgt := 102) hx hb dX12_ask_138 (by decide) ?_
                exact ih _ _ ls H locs (lv_sub hl [2, 3, 4, 1, 0] rfl) hB hf
              refine lv_icmp_ge (tgt := 131) hx hb dX12_ask_123 (by decide) (fun c34 => ?_) (fun c34 => ?_)
              · refine lv_iload hx hb dX12_ask_131 (lv_at hl 3 rfl) ?_
                exact ox_topi ((ex32).trans (if_pos c34)).symm hjx32
              · refine lv_iload hx hb dX12_ask_126 (lv_at hl 4 rfl) ?_
                refine lv_goto (tgt := 133) hx hb dX12_ask_128 (by decide) ?_
                exact ox_topi ((ex32).trans (if_neg c34)).symm hjx32
        exact hloop3 fuel _ _ ls H locs (lv_sub hl [2, 3, 4, 1, 0] rfl) hB hX3
      have hloop1 : ∀ (nf : Nat) (x7 : Int32) (u8 : St) (ls : Array Slot) (H : Heap) (locs : List Loc), lv_has ls 6 [(0, .ref (a_M 0)), (1, .int x_1), (2, .int x_2), (3, .int x6), (4, .int x7)] → WB E ad s.heap [wModel E a_M u8] H locs → fX12_ask_L1 x_1 nf x7 u8 = some X1 → W p l e R s m args below meth c H locs 0 0 Q (F0 m 33 ls []) := by
        intro nf
        induction nf with
        | zero =>
          intro x7 u8 ls H locs hl hB hf
          simp [fX12_ask_L1] at hf
        | succ nf ih =>
          intro x7 u8 ls H locs hl hB hf
          rw [fX12_ask_L1] at hf
          refine lv_iload hx hb dX12_ask_33 (lv_at hl 4 rfl) ?_
          refine lv_bipush (v := 10) hx hb dX12_ask_35 (by decide) ?_
          refine lv_icmp_ge (tgt := 92) hx hb dX12_ask_37 (by decide) (fun c9 => ?_) (fun c9 => ?_)
          · have hf := (if_pos c9).symm.trans hf
            exact hexit1 _ (Option.some.inj hf) ls H locs (lv_sub hl [0, 2, 3] rfl) hB
          · have hf := (if_neg c9).symm.trans hf
            refine lv_aload_n hx hb dX12_ask_40 rfl (lv_at hl 0 rfl) ?_
            refine lv_iload_n hx hb dX12_ask_41 rfl (lv_at hl 1 rfl) ?_
            refine lv_iload hx hb dX12_ask_42 (lv_at hl 4 rfl) ?_
            obtain ⟨r10, hr10, hf⟩ := ox_bind hf
            refine cxVX (bs1 := (fun q => [wModel E a_M r10])) (As := [.int x_1, .int x7]) (rest := []) (st1 := []) C hK (tX12_layMood l E a_M u8 x_1 x7 r10 hr10) lk_X12_543 (by rw [hRf, hRl]; decide) ⟨Nat.zero_le _, Nat.zero_le _⟩ hB hD hN [0] (by decide) rfl (fun _ => rfl) (fun _ => rfl) (rc_X12 hK (hB.1 0 _ rfl)) rfl hl.1 rfl rfl (Nat.le_of_ble_eq_true rfl) dX12_ask_44 (fun H locs q11 hB => ?_)
            have hB : WB E ad s.heap [wModel E a_M r10] H locs := hB
            refine lv_iconst (v := 1) hx hb dX12_ask_47 (by decide) ?_
            refine lv_istore (lv' := [(5, .int (1 : Int32)), (0, .ref (a_M 0)), (1, .int x_1), (2, .int x_2), (3, .int x6), (4, .int x7)]) hx hb dX12_ask_48 hl (by decide) rfl (fun ls hl => ?_)
            obtain ⟨X2, hX2, hf⟩ := ox_bind hf
            have hexit2 : ∀ y21, y21 = X2 → ∀ (ls : Array Slot) (H : Heap) (locs : List Loc), lv_has ls 6 [(0, .ref (a_M 0)), (1, .int x_1), (2, .int x_2), (3, .int x6), (4, .int x7)] → WB E ad s.heap [wModel E a_M y21] H locs → W p l e R s m args below meth c H locs 0 0 Q (F0 m 86 ls []) := by
              intro y21 hy ls H locs hl hB
              subst hy
              obtain ⟨x22, ex22⟩ : ∃ z : Int32, z = (x7 + 1) := ⟨_, rfl⟩
              have hf := ox_lt ex22 hf
              refine lv_iinc (v := x22) (lv' := [(4, .int x22), (0, .ref (a_M 0)), (1, .int x_1), (2, .int x_2), (3, .int x6)]) hx hb dX12_ask_86 hl (k := 4) rfl (by rw [ex22]; rfl) (by decide) rfl (fun ls hl => ?_)
              refine lv_goto (tgt := 33) hx hb dX12_ask_89 (by decide) ?_
              exact ih _ _ ls H locs (lv_sub hl [1, 2, 3, 4, 0] rfl) hB hf
            have hloop2 : ∀ (nf : Nat) (x12 : Int32) (u13 : St) (ls : Array Slot) (H : Heap) (locs : List Loc), lv_has ls 6 [(0, .ref (a_M 0)), (1, .int x_1), (2, .int x_2), (3, .int x6), (4, .int x7), (5, .int x12)] → WB E ad s.heap [wModel E a_M u13] H locs → fX12_ask_L2 x7 nf x12 u13 = some X2 → W p l e R s m args below meth c H locs 0 0 Q (F0 m 50 ls []) := by
              intro nf
              induction nf with
              | zero =>
                intro x12 u13 ls H locs hl hB hf
                simp [fX12_ask_L2] at hf
              | succ nf ih =>
                intro x12 u13 ls H locs hl hB hf
                rw [fX12_ask_L2] at hf
                refine lv_iload hx hb dX12_ask_50 (lv_at hl 5 rfl) ?_
                refine lv_bipush (v := 60) hx hb dX12_ask_52 (by decide) ?_
                refine lv_icmp_gt (tgt := 86) hx hb dX12_ask_54 (by decide) (fun c14 => ?_) (fun c14 => ?_)
                · have hf := (if_pos c14).symm.trans hf
                  exact hexit2 _ (Option.some.inj hf) ls H locs (lv_sub hl [0, 1, 2, 3, 4] rfl) hB
                · have hf := (if_neg c14).symm.trans hf
                  refine lv_aload_n hx hb dX12_ask_57 rfl (lv_at hl 0 rfl) ?_
                  refine lv_iconst (v := 1) hx hb dX12_ask_58 (by decide) ?_
                  obtain ⟨r15, hr15, hf⟩ := ox_bind hf
                  refine cxVX (bs1 := (fun q => [wModel E a_M r15])) (As := [.int (1 : Int32)]) (rest := []) (st1 := []) C hK (tX12_minuteGoes l E a_M u13 (1 : Int32) r15 hr15) lk_X12_473 (by rw [hRf, hRl]; decide) ⟨Nat.zero_le _, Nat.zero_le _⟩ hB hD hN [0] (by decide) rfl (fun _ => rfl) (fun _ => rfl) (rc_X12 hK (hB.1 0 _ rfl)) rfl hl.1 rfl rfl (Nat.le_of_ble_eq_true rfl) dX12_ask_59 (fun H locs q16 hB => ?_)
                  have hB : WB E ad s.heap [wModel E a_M r15] H locs := hB
                  refine lv_aload_n hx hb dX12_ask_62 rfl (lv_at hl 0 rfl) ?_
                  refine gf_X12_X12_groundThen C hK (hB.1 0 _ rfl) dX12_ask_63 ?_
                  refine lv_bipush (v := 61) hx hb dX12_ask_66 (by decide) ?_
                  refine lv_iload hx hb dX12_ask_68 (lv_at hl 4 rfl) ?_
                  refine lv_imul hx hb dX12_ask_70 ?_
                  refine lv_iload hx hb dX12_ask_71 (lv_at hl 5 rfl) ?_
                  refine lv_iadd hx hb dX12_ask_73 ?_
                  refine lv_aload_n hx hb dX12_ask_74 rfl (lv_at hl 0 rfl) ?_
                  refine lv_iconst (v := 1) hx hb dX12_ask_75 (by decide) ?_
                  obtain ⟨r17, hr17, hf⟩ := ox_bind hf
                  refine cxVP (As := [.int (1 : Int32)]) (rest := [.int (((61 : Int32) * x7) + x12), .ref (a_M 41)]) (st1 := [.int r17, .int (((61 : Int32) * x7) + x12), .ref (a_M 41)]) C hK (tX12_groundAll l E a_M r15 (1 : Int32) r17 hr17) lk_X12_410 ⟨rfl, rfl⟩ (by rw [hRf, hRl]; decide) ⟨Nat.zero_le _, Nat.zero_le _⟩ (PB.sub hB.1 [0] rfl) (hB.old hD hN) (Nat.le_trans hN hB.2.2.1) (rc_X12 hK (hB.1 0 _ rfl)) rfl hl.1 rfl rfl (Nat.le_of_ble_eq_true rfl) dX12_ask_76 ?_
                  obtain ⟨hn18, hf⟩ := ox_chk hf
                  refine st_X12_groundThen C hK hB hD 0 rfl hn18 rfl dX12_ask_79 (fun H locs u19 eu19 hB => ?_)
                  have hf := ox_lt eu19 hf
                  have hB : WB E ad s.heap [wModel E a_M u19] H locs := hB
                  obtain ⟨x20, ex20⟩ : ∃ z : Int32, z = (x12 + 1) := ⟨_, rfl⟩
                  have hf := ox_lt ex20 hf
                  refine lv_iinc (v := x20) (lv' := [(5, .int x20), (0, .ref (a_M 0)), (1, .int x_1), (2, .int x_2), (3, .int x6), (4, .int x7)]) hx hb dX12_ask_80 hl (k := 5) rfl (by rw [ex20]; rfl) (by decide) rfl (fun ls hl => ?_)
                  refine lv_goto (tgt := 50) hx hb dX12_ask_83 (by decide) ?_
                  exact ih _ _ ls H locs (lv_sub hl [1, 2, 3, 4, 5, 0] rfl) hB hf
            exact hloop2 fuel _ _ ls H locs (lv_sub hl [1, 2, 3, 4, 5, 0] rfl) hB hX2
      exact hloop1 fuel _ _ ls H locs (lv_sub hl [2, 3, 4, 1, 0] rfl) hB hX1
    · have hf := (if_pos c3).symm.trans hf
      refine lv_iconst (v := (-1)) hx hb dX12_ask_22 (by decide) ?_
      have hf := Option.some.inj hf
      subst hf
      exact hQ _ _ H locs (fun _ => 0) hB dX12_ask_23
set_option maxHeartbeats 4000000 in
set_option maxRecDepth 20000 in
theorem tX12_chance (l : Launch) (E : Ev) (a_M : Nat → Nat) (u_M : St) (x_1 : Int32) (x_2 : Int32) (x_3 : Int32) (res : Int32 × St) (hf : fX12_chance u_M x_1 x_2 x_3 = some res) : MX l E yX12_chance cX12_chance 8 (some .int) (rmm 8 193) [wModel E a_M u_M] (fun q => [wModel E a_M res.2]) [.ref (a_M 0), .int x_1, .int x_2, .int x_3] (some (.int res.1)) := by
  unfold fX12_chance at hf
  refine MX.ofI rfl (by decide) (Nat.le_of_ble_eq_true rfl) ?_
  intro p e R s m args below meth c ls Q ad H hRf hRl C hB hD hK hN hl hQ
  generalize hlocs : ([] : List Loc) = locs at hB ⊢
  clear hlocs
  have hx := C.1
  have hb := C.2.1
  have hl : lv_has ls 8 [(0, .ref (a_M 0)), (1, .int x_1), (2, .int x_2), (3, .int x_3)] := hl
  refine lv_aload_n hx hb dX12_chance_0 rfl (lv_at hl 0 rfl) ?_
  refine lv_iconst (v := 0) hx hb dX12_chance_1 (by decide) ?_
  refine pf_X12_X12_thrown C hK hB hD 0 rfl dX12_chance_2 (fun H locs u1 eu1 hB => ?_)
  have hf := ox_lt eu1 hf
  have hB : WB E ad s.heap [wModel E a_M u1] H locs := hB
  refine lv_iload_n hx hb dX12_chance_5 rfl (lv_at hl 1 rfl) ?_
  refine lv_if_lt (tgt := 30) hx hb dX12_chance_6 (by decide) (fun c2 => ?_) (fun c2 => ?_)
  · have hf := (if_pos c2).symm.trans hf
    refine lv_iconst (v := (-1)) hx hb dX12_chance_30 (by decide) ?_
    have hf := Option.some.inj hf
    subst hf
    exact hQ _ _ H locs (fun _ => 0) hB dX12_chance_31
  · have hf := (if_neg c2).symm.trans hf
    refine lv_iload_n hx hb dX12_chance_9 rfl (lv_at hl 2 rfl) ?_
    refine lv_iconst (v := 1) hx hb dX12_chance_10 (by decide) ?_
    refine lv_bipush (v := 99) hx hb dX12_chance_11 (by decide) ?_
    refine cxSP (As := [.int x_2, .int (1 : Int32), .int (99 : Int32)]) (rest := []) (st1 := [.int (fX12_isIn x_2 (1 : Int32) (99 : Int32))]) C hK (tX12_isIn l E x_2 (1 : Int32) (99 : Int32) (fX12_isIn x_2 (1 : Int32) (99 : Int32)) rfl) lk_X12_202 ⟨rfl, rfl⟩ (by rw [hRf, hRl]; decide) ⟨Nat.zero_le _, Nat.zero_le _⟩ (PB.sub hB.1 [] rfl) (hB.old hD hN) (Nat.le_trans hN hB.2.2.1) rfl hl.1 rfl rfl (Nat.le_of_ble_eq_true rfl) dX12_chance_13 ?_
    refine lv_if_eq (tgt := 30) hx hb dX12_chance_16 (by decide) (fun c3 => ?_) (fun c3 => ?_)
    · have hf := (if_pos c3).symm.trans hf
      refine lv_iconst (v := (-1)) hx hb dX12_chance_30 (by decide) ?_
      have hf := Option.some.inj hf
      subst hf
      exact hQ _ _ H locs (fun _ => 0) hB dX12_chance_31
    · have hf := (if_neg c3).symm.trans hf
      refine lv_iload_n hx hb dX12_chance_19 rfl (lv_at hl 3 rfl) ?_
      refine lv_iconst (v := 0) hx hb dX12_chance_20 (by decide) ?_
      refine lv_sipush (v := 999) hx hb dX12_chance_21 (by decide) ?_
      refine cxSP (As := [.int x_3, .int (0 : Int32), .int (999 : Int32)]) (rest := []) (st1 := [.int (fX12_isIn x_3 (0 : Int32) (999 : Int32))]) C hK (tX12_isIn l E x_3 (0 : Int32) (999 : Int32) (fX12_isIn x_3 (0 : Int32) (999 : Int32)) rfl) lk_X12_202 ⟨rfl, rfl⟩ (by rw [hRf, hRl]; decide) ⟨Nat.zero_le _, Nat.zero_le _⟩ (PB.sub hB.1 [] rfl) (hB.old hD hN) (Nat.le_trans hN hB.2.2.1) rfl hl.1 rfl rfl (Nat.le_of_ble_eq_true rfl) dX12_chance_24 ?_
      refine lv_if_ne (tgt := 32) hx hb dX12_chance_27 (by decide) (fun c4 => ?_) (fun c4 => ?_)
      · have hf := (if_neg c4).symm.trans hf
        refine lv_aload_n hx hb dX12_chance_32 rfl (lv_at hl 0 rfl) ?_
        refine gf_X12_X12_drawn C hK (hB.1 0 _ rfl) dX12_chance_33 ?_
        refine lv_topl (fun x5 ex5 => ?_)
        have hf := ox_lt ex5 hf
        refine lv_lstore (lv' := [(4, .long x5), (0, .ref (a_M 0)), (1, .int x_1), (2, .int x_2), (3, .int x_3)]) hx hb dX12_chance_36 hl (by decide) rfl (fun ls hl => ?_)
        refine lv_aload_n hx hb dX12_chance_38 rfl (lv_at hl 1 rfl) ?_
        refine lv_iload_n hx hb dX12_chance_39 rfl (lv_at hl 2 rfl) ?_
        refine lv_i2l hx hb dX12_chance_40 rfl ?_
        refine lv_topl (fun x6 ex6 => ?_)
        have hf := ox_lt ex6 hf
        refine pf_X12_X12_drawn C hK hB hD 0 rfl dX12_chance_41 (fun H locs u7 eu7 hB => ?_)
        have hf := ox_lt eu7 hf
        have hB : WB E ad s.heap [wModel E a_M u7] H locs := hB
        refine lv_iconst (v := 0) hx hb dX12_chance_44 (by decide) ?_
        refine lv_istore (lv' := [(6, .int (0 : Int32)), (4, .long x5), (0, .ref (a_M 0)), (1, .int x_1), (2, .int x_2), (3, .int x_3)]) hx hb dX12_chance_45 hl (by decide) rfl (fun ls hl => ?_)
        refine lv_iconst (v := 0) hx hb dX12_chance_47 (by decide) ?_
        refine lv_istore (lv' := [(7, .int (0 : Int32)), (6, .int (0 : Int32)), (4, .long x5), (0, .ref (a_M 0)), (1, .int x_1), (2, .int x_2), (3, .int x_3)]) hx hb dX12_chance_48 hl (by decide) rfl (fun ls hl => ?_)
        obtain ⟨X1, hX1, hf⟩ := ox_bind hf
        have hexit1 : ∀ y22, y22 = X1 → ∀ (ls : Array Slot) (H : Heap) (locs : List Loc), lv_has ls 8 [(0, .ref (a_M 0)), (4, .long x5), (6, .int y22.1)] → WB E ad s.heap [wModel E a_M y22.2] H locs → W p l e R s m args below meth c H locs 0 0 Q (F0 m 96 ls []) := by
          intro y22 hy ls H locs hl hB
          subst hy
          refine lv_aload_n hx hb dX12_chance_96 rfl (lv_at hl 0 rfl) ?_
          refine lv_iconst (v := 0) hx hb dX12_chance_97 (by decide) ?_
          refine pf_X12_X12_draws C hK hB hD 0 rfl (by decide) dX12_chance_98 (fun H locs u23 eu23 hB => ?_)
          have hf := ox_lt eu23 hf
          have hB : WB E ad s.heap [wModel E a_M u23] H locs := hB
          refine lv_aload_n hx hb dX12_chance_101 rfl (lv_at hl 0 rfl) ?_
          refine lv_lload hx hb dX12_chance_102 (lv_at hl 1 rfl) ?_
          refine pf_X12_X12_drawn C hK hB hD 0 rfl dX12_chance_104 (fun H locs u24 eu24 hB => ?_)
          have hf := ox_lt eu24 hf
          have hB : WB E ad s.heap [wModel E a_M u24] H locs := hB
          refine lv_iload hx hb dX12_chance_107 (lv_at hl 2 rfl) ?_
          have hf := Option.some.inj hf
          subst hf
          exact hQ _ _ H locs (fun _ => 0) hB dX12_chance_109
        have hloop1 : ∀ (nf : Nat) (x8 : Int32) (x9 : Int32) (u10 : St) (ls : Array Slot) (H : Heap) (locs : List Loc), lv_has ls 8 [(0, .ref (a_M 0)), (2, .int x_2), (3, .int x_3), (4, .long x5), (6, .int x8), (7, .int x9)] → WB E ad s.heap [wModel E a_M u10] H locs → fX12_chance_L1 x_2 x_3 nf x8 x9 u10 = some X1 → W p l e R s m args below meth c H locs 0 0 Q (F0 m 50 ls []) := by
          intro nf
          induction nf with
          | zero =>
            intro x8 x9 u10 ls H locs hl hB hf
            simp [fX12_chance_L1] at hf
          | succ nf ih =>
            intro x8 x9 u10 ls H locs hl hB hf
            rw [fX12_chance_L1] at hf
            refine lv_iload hx hb dX12_chance_50 (lv_at hl 5 rfl) ?_
            refine lv_bipush (v := 10) hx hb dX12_chance_52 (by decide) ?_
            refine lv_icmp_ge (tgt := 96) hx hb dX12_chance_54 (by decide) (fun c11 => ?_) (fun c11 => ?_)
            · have hf := (if_pos c11).symm.trans hf
              exact hexit1 _ (Option.some.inj hf) ls H locs (lv_sub hl [0, 3, 4] rfl) hB
            · have hf := (if_neg c11).symm.trans hf
              refine lv_aload_n hx hb dX12_chance_57 rfl (lv_at hl 0 rfl) ?_
              obtain ⟨r12, hr12, hf⟩ := ox_bind hf
              refine cxVX (bs1 := (fun q => [wModel E a_M r12])) (As := []) (rest := []) (st1 := []) C hK (tX12_layTried l E a_M u10 r12 hr12) lk_X12_497 (by rw [hRf, hRl]; decide) ⟨Nat.zero_le _, Nat.zero_le _⟩ hB hD hN [0] (by decide) rfl (fun _ => rfl) (fun _ => rfl) (rc_X12 hK (hB.1 0 _ rfl)) rfl hl.1 rfl rfl (Nat.le_of_ble_eq_true rfl) dX12_chance_58 (fun H locs q13 hB => ?_)
              have hB : WB E ad s.heap [wModel E a_M r12] H locs := hB
              refine lv_aload_n hx hb dX12_chance_61 rfl (lv_at hl 0 rfl) ?_
              refine lv_iconst (v := 1) hx hb dX12_chance_62 (by decide) ?_
              refine pf_X12_X12_draws C hK hB hD 0 rfl (by decide) dX12_chance_63 (fun H locs u14 eu14 hB => ?_)
              have hf := ox_lt eu14 hf
              have hB : WB E ad s.heap [wModel E a_M u14] H locs := hB
              refine lv_aload_n hx hb dX12_chance_66 rfl (lv_at hl 0 rfl) ?_
              refine lv_iload_n hx hb dX12_chance_67 rfl (lv_at hl 1 rfl) ?_
              obtain ⟨r15, hr15, hf⟩ := ox_bind hf
              refine cxVX (bs1 := (fun q => [wModel E a_M r15])) (As := [.int x_2]) (rest := []) (st1 := []) C hK (tX12_goMany l E a_M u14 x_2 r15 hr15) lk_X12_500 (by rw [hRf, hRl]; decide) ⟨Nat.zero_le _, Nat.zero_le _⟩ hB hD hN [0] (by decide) rfl (fun _ => rfl) (fun _ => rfl) (rc_X12 hK (hB.1 0 _ rfl)) rfl hl.1 rfl rfl (Nat.le_of_ble_eq_true rfl) dX12_chance_68 (fun H locs q16 hB => ?_)
              have hB : WB E ad s.heap [wModel E a_M r15] H locs := hB
              refine lv_iload hx hb dX12_chance_71 (lv_at hl 4 rfl) ?_
              refine lv_aload_n hx hb dX12_chance_73 rfl (lv_at hl 0 rfl) ?_
              refine lv_iconst (v := 1) hx hb dX12_chance_74 (by decide) ?_
              obtain ⟨r17, hr17, hf⟩ := ox_bind hf
              refine cxVP (As := [.int (1 : Int32)]) (rest := [.int x8]) (st1 := [.int r17, .int x8]) C hK (tX12_groundAll l E a_M r15 (1 : Int32) r17 hr17) lk_X12_410 ⟨rfl, rfl⟩ (by rw [hRf, hRl]; decide) ⟨Nat.zero_le _, Nat.zero_le _⟩ (PB.sub hB.1 [0] rfl) (hB.old hD hN) (Nat.le_trans hN hB.2.2.1) (rc_X12 hK (hB.1 0 _ rfl)) rfl hl.1 rfl rfl (Nat.le_of_ble_eq_true rfl) dX12_chance_75 ?_
              refine lv_iload_n hx hb dX12_chance_78 rfl (lv_at hl 2 rfl) ?_
              obtain ⟨x18, ex18, hf⟩ := ox_ex hf
              have hjx18 : W p l e R s m args below meth c H locs 0 0 Q (F0 m 87 ls [.int x18, .int x8]) := by
                refine lv_iadd hx hb dX12_chance_87 ?_
                refine lv_topi (fun x19 ex19 => ?_)
                have hf := ox_lt ex19 hf
                refine lv_istore (lv' := [(6, .int x19), (0, .ref (a_M 0)), (2, .int x_2), (3, .int x_3), (4, .long x5), (7, .int x9)]) hx hb dX12_chance_88 hl (by decide) rfl (fun ls hl => ?_)
                obtain ⟨x20, ex20⟩ : ∃ z : Int32, z = (x9 + 1) := ⟨_, rfl⟩
                have hf := ox_lt ex20 hf
                refine lv_iinc (v := x20) (lv' := [(7, .int x20), (6, .int x19), (0, .ref (a_M 0)), (2, .int x_2), (3, .int x_3), (4, .long x5)]) hx hb dX12_chance_90 hl (k := 5) rfl (by rw [ex20]; rfl) (by decide) rfl (fun ls hl => ?_)
                refine lv_goto (tgt := 50) hx hb dX12_chance_93 (by decide) ?_
                exact ih _ _ _ ls H locs (lv_sub hl [2, 3, 4, 5, 1, 0] rfl) hB hf
              refine lv_icmp_lt (tgt := 86) hx hb dX12_chance_79 (by decide) (fun c21 => ?_) (fun c21 => ?_)
              · refine lv_iconst (v := 0) hx hb dX12_chance_86 (by decide) ?_
                exact ox_topi ((ex18).trans (if_pos c21)).symm hjx18
              · refine lv_iconst (v := 1) hx hb dX12_chance_82 (by decide) ?_
                refine lv_goto (tgt := 87) hx hb dX12_chance_83 (by decide) ?_
                exact ox_topi ((ex18).trans (if_neg c21)).symm hjx18
        exact hloop1 fuel _ _ _ ls H locs (lv_sub hl [3, 5, 6, 2, 1, 0] rfl) hB hX1
      · have hf := (if_pos c4).symm.trans hf
        refine lv_iconst (v := (-1)) hx hb dX12_chance_30 (by decide) ?_
        have hf := Option.some.inj hf
        subst hf
        exact hQ _ _ H locs (fun _ => 0) hB dX12_chance_31
set_option maxHeartbeats 4000000 in
set_option maxRecDepth 20000 in
theorem tX12_tried (l : Launch) (E : Ev) (a_M : Nat → Nat) (u_M : St) (x_1 : Int32) (x_2 : Int32) (x_3 : Int32) (res : Int32 × St) (hf : fX12_tried u_M x_1 x_2 x_3 = some res) : MX l E yX12_tried cX12_tried 4 (some .int) (rmm 8 193) [wModel E a_M u_M] (fun q => [wModel E a_M res.2]) [.ref (a_M 0), .int x_1, .int x_2, .int x_3] (some (.int res.1)) := by
  unfold fX12_tried at hf
  refine MX.ofI rfl (by decide) (Nat.le_of_ble_eq_true rfl) ?_
  intro p e R s m args below meth c ls Q ad H hRf hRl C hB hD hK hN hl hQ
  generalize hlocs : ([] : List Loc) = locs at hB ⊢
  clear hlocs
  have hx := C.1
  have hb := C.2.1
  have hl : lv_has ls 4 [(0, .ref (a_M 0)), (1, .int x_1), (2, .int x_2), (3, .int x_3)] := hl
  refine lv_aload_n hx hb dX12_tried_0 rfl (lv_at hl 0 rfl) ?_
  refine lv_iconst (v := 0) hx hb dX12_tried_1 (by decide) ?_
  refine pf_X12_X12_thrown C hK hB hD 0 rfl dX12_tried_2 (fun H locs u1 eu1 hB => ?_)
  have hf := ox_lt eu1 hf
  have hB : WB E ad s.heap [wModel E a_M u1] H locs := hB
  refine lv_iload_n hx hb dX12_tried_5 rfl (lv_at hl 1 rfl) ?_
  refine lv_iconst (v := 0) hx hb dX12_tried_6 (by decide) ?_
  refine lv_iconst (v := 4) hx hb dX12_tried_7 (by decide) ?_
  refine cxSP (As := [.int x_1, .int (0 : Int32), .int (4 : Int32)]) (rest := []) (st1 := [.int (fX12_isIn x_1 (0 : Int32) (4 : Int32))]) C hK (tX12_isIn l E x_1 (0 : Int32) (4 : Int32) (fX12_isIn x_1 (0 : Int32) (4 : Int32)) rfl) lk_X12_202 ⟨rfl, rfl⟩ (by rw [hRf, hRl]; decide) ⟨Nat.zero_le _, Nat.zero_le _⟩ (PB.sub hB.1 [] rfl) (hB.old hD hN) (Nat.le_trans hN hB.2.2.1) rfl hl.1 rfl rfl (Nat.le_of_ble_eq_true rfl) dX12_tried_8 ?_
  refine lv_if_eq (tgt := 45) hx hb dX12_tried_11 (by decide) (fun c2 => ?_) (fun c2 => ?_)
  · have hf := (if_pos c2).symm.trans hf
    refine lv_iconst (v := (-1)) hx hb dX12_tried_45 (by decide) ?_
    have hf := Option.some.inj hf
    subst hf
    exact hQ _ _ H locs (fun _ => 0) hB dX12_tried_46
  · have hf := (if_neg c2).symm.trans hf
    refine lv_iload_n hx hb dX12_tried_14 rfl (lv_at hl 3 rfl) ?_
    refine lv_iconst (v := 0) hx hb dX12_tried_15 (by decide) ?_
    refine lv_sipush (v := 200) hx hb dX12_tried_16 (by decide) ?_
    refine cxSP (As := [.int x_3, .int (0 : Int32), .int (200 : Int32)]) (rest := []) (st1 := [.int (fX12_isIn x_3 (0 : Int32) (200 : Int32))]) C hK (tX12_isIn l E x_3 (0 : Int32) (200 : Int32) (fX12_isIn x_3 (0 : Int32) (200 : Int32)) rfl) lk_X12_202 ⟨rfl, rfl⟩ (by rw [hRf, hRl]; decide) ⟨Nat.zero_le _, Nat.zero_le _⟩ (PB.sub hB.1 [] rfl) (hB.old hD hN) (Nat.le_trans hN hB.2.2.1) rfl hl.1 rfl rfl (Nat.le_of_ble_eq_true rfl) dX12_tried_19 ?_
    refine lv_if_eq (tgt := 45) hx hb dX12_tried_22 (by decide) (fun c3 => ?_) (fun c3 => ?_)
    · have hf := (if_pos c3).symm.trans hf
      refine lv_iconst (v := (-1)) hx hb dX12_tried_45 (by decide) ?_
      have hf := Option.some.inj hf
      subst hf
      exact hQ _ _ H locs (fun _ => 0) hB dX12_tried_46
    · have hf := (if_neg c3).symm.trans hf
      refine lv_iload_n hx hb dX12_tried_25 rfl (lv_at hl 1 rfl) ?_
      refine lv_iconst (v := 2) hx hb dX12_tried_26 (by decide) ?_
      obtain ⟨j4, ej4, hf⟩ := ox_ex hf
      have hj4 : ∀ (ls : Array Slot) (H : Heap) (locs : List Loc), lv_has ls 4 [(0, .ref (a_M 0)), (1, .int x_1), (2, .int x_2), (3, .int x_3)] → WB E ad s.heap [wModel E a_M u1] H locs → j4 = some res → W p l e R s m args below meth c H locs 0 0 Q (F0 m 47 ls []) := by
        intro ls H locs hl hB hf
        have hf := ox_a0 ej4 hf
        refine lv_aload_n hx hb dX12_tried_47 rfl (lv_at hl 0 rfl) ?_
        obtain ⟨r5, hr5, hf⟩ := ox_bind hf
        refine cxVX (bs1 := (fun q => [wModel E a_M r5])) (As := []) (rest := []) (st1 := []) C hK (tX12_layTried l E a_M u1 r5 hr5) lk_X12_497 (by rw [hRf, hRl]; decide) ⟨Nat.zero_le _, Nat.zero_le _⟩ hB hD hN [0] (by decide) rfl (fun _ => rfl) (fun _ => rfl) (rc_X12 hK (hB.1 0 _ rfl)) rfl hl.1 rfl rfl (Nat.le_of_ble_eq_true rfl) dX12_tried_48 (fun H locs q6 hB => ?_)
        have hB : WB E ad s.heap [wModel E a_M r5] H locs := hB
        refine lv_aload_n hx hb dX12_tried_51 rfl (lv_at hl 0 rfl) ?_
        refine lv_iload_n hx hb dX12_tried_52 rfl (lv_at hl 1 rfl) ?_
        obtain ⟨x7, ex7, hf⟩ := ox_ex hf
        have hjx7 : W p l e R s m args below meth c H locs 0 0 Q (F0 m 61 ls [.int x7, .ref (a_M 0)]) := by
          refine pf_X12_X12_noCough C hK hB hD 0 rfl (by rw [ex7]; repeat' (first | exact bz0 | exact bz1 | apply bz_ite)) dX12_tried_61 (fun H locs u8 eu8 hB => ?_)
          have hf := ox_lt eu8 hf
          have hB : WB E ad s.heap [wModel E a_M u8] H locs := hB
          refine lv_aload_n hx hb dX12_tried_64 rfl (lv_at hl 0 rfl) ?_
          refine lv_iload_n hx hb dX12_tried_65 rfl (lv_at hl 1 rfl) ?_
          refine lv_iconst (v := 1) hx hb dX12_tried_66 (by decide) ?_
          obtain ⟨x9, ex9, hf⟩ := ox_ex hf
          have hjx9 : W p l e R s m args below meth c H locs 0 0 Q (F0 m 75 ls [.int x9, .ref (a_M 0)]) := by
            refine pf_X12_X12_allCough C hK hB hD 0 rfl (by rw [ex9]; repeat' (first | exact bz0 | exact bz1 | apply bz_ite)) dX12_tried_75 (fun H locs u10 eu10 hB => ?_)
            have hf := ox_lt eu10 hf
            have hB : WB E ad s.heap [wModel E a_M u10] H locs := hB
            refine lv_aload_n hx hb dX12_tried_78 rfl (lv_at hl 0 rfl) ?_
            refine lv_iload_n hx hb dX12_tried_79 rfl (lv_at hl 1 rfl) ?_
            refine lv_iconst (v := 2) hx hb dX12_tried_80 (by decide) ?_
            obtain ⟨x11, ex11, hf⟩ := ox_ex hf
            have hjx11 : W p l e R s m args below meth c H locs 0 0 Q (F0 m 89 ls [.int x11, .ref (a_M 0)]) := by
              refine pf_X12_X12_mute C hK hB hD 0 rfl dX12_tried_89 (fun H locs u12 eu12 hB => ?_)
              have hf := ox_lt eu12 hf
              have hB : WB E ad s.heap [wModel E a_M u12] H locs := hB
              refine lv_aload_n hx hb dX12_tried_92 rfl (lv_at hl 0 rfl) ?_
              refine lv_iload_n hx hb dX12_tried_93 rfl (lv_at hl 1 rfl) ?_
              refine lv_iconst (v := 3) hx hb dX12_tried_94 (by decide) ?_
              obtain ⟨x13, ex13, hf⟩ := ox_ex hf
              have hjx13 : W p l e R s m args below meth c H locs 0 0 Q (F0 m 103 ls [.int x13, .ref (a_M 0)]) := by
                refine pf_X12_X12_noBack C hK hB hD 0 rfl (by rw [ex13]; repeat' (first | exact bz0 | exact bz1 | apply bz_ite)) dX12_tried_103 (fun H locs u14 eu14 hB => ?_)
                have hf := ox_lt eu14 hf
                have hB : WB E ad s.heap [wModel E a_M u14] H locs := hB
                refine lv_aload_n hx hb dX12_tried_106 rfl (lv_at hl 0 rfl) ?_
                refine lv_iload_n hx hb dX12_tried_107 rfl (lv_at hl 1 rfl) ?_
                refine lv_iconst (v := 4) hx hb dX12_tried_108 (by decide) ?_
                obtain ⟨x15, ex15, hf⟩ := ox_ex hf
                have hjx15 : W p l e R s m args below meth c H locs 0 0 Q (F0 m 117 ls [.int x15, .ref (a_M 0)]) := by
                  refine pf_X12_X12_hungry C hK hB hD 0 rfl (by rw [ex15]; repeat' (first | exact bz0 | exact bz1 | apply bz_ite)) dX12_tried_117 (fun H locs u16 eu16 hB => ?_)
                  have hf := ox_lt eu16 hf
                  have hB : WB E ad s.heap [wModel E a_M u16] H locs := hB
                  refine lv_aload_n hx hb dX12_tried_120 rfl (lv_at hl 0 rfl) ?_
                  refine lv_iload_n hx hb dX12_tried_121 rfl (lv_at hl 3 rfl) ?_
                  obtain ⟨r17, hr17, hf⟩ := ox_bind hf
                  refine cxVX (bs1 := (fun q => [wModel E a_M r17])) (As := [.int x_3]) (rest := []) (st1 := []) C hK (tX12_goMany l E a_M u16 x_3 r17 hr17) lk_X12_500 (by rw [hRf, hRl]; decide) ⟨Nat.zero_le _, Nat.zero_le _⟩ hB hD hN [0] (by decide) rfl (fun _ => rfl) (fun _ => rfl) (rc_X12 hK (hB.1 0 _ rfl)) rfl hl.1 rfl rfl (Nat.le_of_ble_eq_true rfl) dX12_tried_122 (fun H locs q18 hB => ?_)
                  have hB : WB E ad s.heap [wModel E a_M r17] H locs := hB
                  refine lv_aload_n hx hb dX12_tried_125 rfl (lv_at hl 0 rfl) ?_
                  obtain ⟨r19, er19, hf⟩ := ox_ex hf
                  refine cxVX (bs1 := (fun q => [wModel E a_M r19])) (As := []) (rest := []) (st1 := []) C hK (tX12_plainTried l E a_M r17 r19 er19.symm) lk_X12_365 (by rw [hRf, hRl]; decide) ⟨Nat.zero_le _, Nat.zero_le _⟩ hB hD hN [0] (by decide) rfl (fun _ => rfl) (fun _ => rfl) (rc_X12 hK (hB.1 0 _ rfl)) rfl hl.1 rfl rfl (Nat.le_of_ble_eq_true rfl) dX12_tried_126 (fun H locs q20 hB => ?_)
                  have hB : WB E ad s.heap [wModel E a_M r19] H locs := hB
                  refine lv_aload_n hx hb dX12_tried_129 rfl (lv_at hl 0 rfl) ?_
                  refine lv_iconst (v := 1) hx hb dX12_tried_130 (by decide) ?_
                  obtain ⟨r21, hr21, hf⟩ := ox_bind hf
                  refine cxVP (As := [.int (1 : Int32)]) (rest := []) (st1 := [.int r21]) C hK (tX12_groundAll l E a_M r19 (1 : Int32) r21 hr21) lk_X12_410 ⟨rfl, rfl⟩ (by rw [hRf, hRl]; decide) ⟨Nat.zero_le _, Nat.zero_le _⟩ (PB.sub hB.1 [0] rfl) (hB.old hD hN) (Nat.le_trans hN hB.2.2.1) (rc_X12 hK (hB.1 0 _ rfl)) rfl hl.1 rfl rfl (Nat.le_of_ble_eq_true rfl) dX12_tried_131 ?_
                  have hf := Option.some.inj hf
                  subst hf
                  exact hQ _ _ H locs (fun _ => 0) hB dX12_tried_134
                refine lv_icmp_ne (tgt := 116) hx hb dX12_tried_109 (by decide) (fun c22 => ?_) (fun c22 => ?_)
                · refine lv_iconst (v := 0) hx hb dX12_tried_116 (by decide) ?_
                  exact ox_topi ((ex15).trans (if_neg c22)).symm hjx15
                · refine lv_iconst (v := 1) hx hb dX12_tried_112 (by decide) ?_
                  refine lv_goto (tgt := 117) hx hb dX12_tried_113 (by decide) ?_
                  exact ox_topi ((ex15).trans (if_pos c22)).symm hjx15
              refine lv_icmp_ne (tgt := 102) hx hb dX12_tried_95 (by decide) (fun c23 => ?_) (fun c23 => ?_)
              · refine lv_iconst (v := 0) hx hb dX12_tried_102 (by decide) ?_
                exact ox_topi ((ex13).trans (if_neg c23)).symm hjx13
              · refine lv_iconst (v := 1) hx hb dX12_tried_98 (by decide) ?_
                refine lv_goto (tgt := 103) hx hb dX12_tried_99 (by decide) ?_
                exact ox_topi ((ex13).trans (if_pos c23)).symm hjx13
            refine lv_icmp_ne (tgt := 88) hx hb dX12_tried_81 (by decide) (fun c24 => ?_) (fun c24 => ?_)
            · refine lv_iconst (v := (-1)) hx hb dX12_tried_88 (by decide) ?_
              exact ox_topi ((ex11).trans (if_neg c24)).symm hjx11
            · refine lv_iload_n hx hb dX12_tried_84 rfl (lv_at hl 2 rfl) ?_
              refine lv_goto (tgt := 89) hx hb dX12_tried_85 (by decide) ?_
              exact ox_topi ((ex11).trans (if_pos c24)).symm hjx11
          refine lv_icmp_ne (tgt := 74) hx hb dX12_tried_67 (by decide) (fun c25 => ?_) (fun c25 => ?_)
          · refine lv_iconst (v := 0) hx hb dX12_tried_74 (by decide) ?_
            exact ox_topi ((ex9).trans (if_neg c25)).symm hjx9
          · refine lv_iconst (v := 1) hx hb dX12_tried_70 (by decide) ?_
            refine lv_goto (tgt := 75) hx hb dX12_tried_71 (by decide) ?_
            exact ox_topi ((ex9).trans (if_pos c25)).symm hjx9
        refine lv_if_ne (tgt := 60) hx hb dX12_tried_53 (by decide) (fun c26 => ?_) (fun c26 => ?_)
        · refine lv_iconst (v := 0) hx hb dX12_tried_60 (by decide) ?_
          exact ox_topi ((ex7).trans (if_neg c26)).symm hjx7
        · refine lv_iconst (v := 1) hx hb dX12_tried_56 (by decide) ?_
          refine lv_goto (tgt := 61) hx hb dX12_tried_57 (by decide) ?_
          exact ox_topi ((ex7).trans (if_pos c26)).symm hjx7
      refine lv_icmp_ne (tgt := 41) hx hb dX12_tried_27 (by decide) (fun c27 => ?_) (fun c27 => ?_)
      · have hf := (if_neg c27).symm.trans hf
        refine lv_iload_n hx hb dX12_tried_41 rfl (lv_at hl 2 rfl) ?_
        refine lv_if_eq (tgt := 47) hx hb dX12_tried_42 (by decide) (fun c28 => ?_) (fun c28 => ?_)
        · have hf := (if_pos c28).symm.trans hf
          exact hj4 ls H locs (lv_sub hl [0, 1, 2, 3] rfl) hB hf
        · have hf := (if_neg c28).symm.trans hf
          refine lv_iconst (v := (-1)) hx hb dX12_tried_45 (by decide) ?_
          have hf := Option.some.inj hf
          subst hf
          exact hQ _ _ H locs (fun _ => 0) hB dX12_tried_46
      · have hf := (if_pos c27).symm.trans hf
        refine lv_aload_n hx hb dX12_tried_30 rfl (lv_at hl 0 rfl) ?_
        refine lv_iload_n hx hb dX12_tried_31 rfl (lv_at hl 2 rfl) ?_
        refine cxVP (As := [.int x_2]) (rest := []) (st1 := [.int (fX12_isGuest u1 x_2)]) C hK (tX12_isGuest l E a_M u1 x_2 (fX12_isGuest u1 x_2) rfl) lk_X12_476 ⟨rfl, rfl⟩ (by rw [hRf, hRl]; decide) ⟨Nat.zero_le _, Nat.zero_le _⟩ (PB.sub hB.1 [0] rfl) (hB.old hD hN) (Nat.le_trans hN hB.2.2.1) (rc_X12 hK (hB.1 0 _ rfl)) rfl hl.1 rfl rfl (Nat.le_of_ble_eq_true rfl) dX12_tried_32 ?_
        refine lv_if_ne (tgt := 47) hx hb dX12_tried_35 (by decide) (fun c29 => ?_) (fun c29 => ?_)
        · have hf := (if_neg c29).symm.trans hf
          exact hj4 ls H locs (lv_sub hl [0, 1, 2, 3] rfl) hB hf
        · have hf := (if_pos c29).symm.trans hf
          refine lv_goto (tgt := 45) hx hb dX12_tried_38 (by decide) ?_
          refine lv_iconst (v := (-1)) hx hb dX12_tried_45 (by decide) ?_
          have hf := Option.some.inj hf
          subst hf
          exact hQ _ _ H locs (fun _ => 0) hB dX12_tried_46
set_option maxHeartbeats 4000000 in
set_option maxRecDepth 20000 in
theorem tX12_put_image (l : Launch) (E : Ev) (a_M : Nat → Nat) (u_M : St) (x_2 : Int32) (res : St) (hf : fX12_put_image u_M x_2 = some res) : MX l E yX12_put cX12_put 4 none (rmm 0 0) [wModel E a_M u_M] (fun q => [wModel E a_M res]) [.ref (a_M 0), .ref (a_M 43), .int x_2] none := by
  unfold fX12_put_image at hf
  refine MX.ofV rfl (by decide) (Nat.le_of_ble_eq_true rfl) ?_
  intro p e R s m args below meth c ls Q ad H hRf hRl C hB hD hK hN hl hQ
  generalize hlocs : ([] : List Loc) = locs at hB ⊢
  clear hlocs
  have hx := C.1
  have hb := C.2.1
  have hl : lv_has ls 4 [(0, .ref (a_M 0)), (1, .ref (a_M 43)), (2, .int x_2)] := hl
  refine lv_aload_n hx hb dX12_put_0 rfl (lv_at hl 1 rfl) ?_
  refine lv_iload_n hx hb dX12_put_1 rfl (lv_at hl 2 rfl) ?_
  refine lv_aload_n hx hb dX12_put_2 rfl (lv_at hl 0 rfl) ?_
  refine gf_X12_X12_on C hK (hB.1 0 _ rfl) dX12_put_3 ?_
  refine lv_iconst (v := 0) hx hb dX12_put_6 (by decide) ?_
  refine ld_X12_on C hK (hB.1 0 _ rfl) (by decide) rfl dX12_put_7 ?_
  refine lv_topi (fun x1 ex1 => ?_)
  have hf := ox_lt ex1 hf
  obtain ⟨hn2, hf⟩ := ox_chk hf
  refine st_X12_image C hK hB hD 0 rfl hn2 rfl dX12_put_8 (fun H locs u3 eu3 hB => ?_)
  have hf := ox_lt eu3 hf
  have hB : WB E ad s.heap [wModel E a_M u3] H locs := hB
  refine lv_aload_n hx hb dX12_put_9 rfl (lv_at hl 1 rfl) ?_
  refine lv_iload_n hx hb dX12_put_10 rfl (lv_at hl 2 rfl) ?_
  refine lv_iconst (v := 1) hx hb dX12_put_11 (by decide) ?_
  refine lv_iadd hx hb dX12_put_12 ?_
  refine lv_aload_n hx hb dX12_put_13 rfl (lv_at hl 0 rfl) ?_
  refine gf_X12_X12_onFor C hK (hB.1 0 _ rfl) dX12_put_14 ?_
  refine lv_iconst (v := 0) hx hb dX12_put_17 (by decide) ?_
  refine ld_X12_onFor C hK (hB.1 0 _ rfl) (by decide) rfl dX12_put_18 ?_
  refine lv_topi (fun x4 ex4 => ?_)
  have hf := ox_lt ex4 hf
  obtain ⟨hn5, hf⟩ := ox_chk hf
  refine st_X12_image C hK hB hD 0 rfl hn5 rfl dX12_put_19 (fun H locs u6 eu6 hB => ?_)
  have hf := ox_lt eu6 hf
  have hB : WB E ad s.heap [wModel E a_M u6] H locs := hB
  refine lv_aload_n hx hb dX12_put_20 rfl (lv_at hl 1 rfl) ?_
  refine lv_iload_n hx hb dX12_put_21 rfl (lv_at hl 2 rfl) ?_
  refine lv_iconst (v := 2) hx hb dX12_put_22 (by decide) ?_
  refine lv_iadd hx hb dX12_put_23 ?_
  refine lv_aload_n hx hb dX12_put_24 rfl (lv_at hl 0 rfl) ?_
  refine gf_X12_X12_speed C hK (hB.1 0 _ rfl) dX12_put_25 ?_
  refine lv_iconst (v := 0) hx hb dX12_put_28 (by decide) ?_
  refine ld_X12_speed C hK (hB.1 0 _ rfl) (by decide) rfl dX12_put_29 ?_
  refine lv_topi (fun x7 ex7 => ?_)
  have hf := ox_lt ex7 hf
  obtain ⟨hn8, hf⟩ := ox_chk hf
  refine st_X12_image C hK hB hD 0 rfl hn8 rfl dX12_put_30 (fun H locs u9 eu9 hB => ?_)
  have hf := ox_lt eu9 hf
  have hB : WB E ad s.heap [wModel E a_M u9] H locs := hB
  refine lv_iconst (v := 0) hx hb dX12_put_31 (by decide) ?_
  refine lv_istore_n (lv' := [(3, .int (0 : Int32)), (0, .ref (a_M 0)), (1, .ref (a_M 43)), (2, .int x_2)]) hx hb dX12_put_32 rfl hl (by decide) rfl (fun ls hl => ?_)
  obtain ⟨X1, hX1, hf⟩ := ox_bind hf
  have hexit1 : ∀ y18, y18 = X1 → ∀ (ls : Array Slot) (H : Heap) (locs : List Loc), lv_has ls 4 [] → WB E ad s.heap [wModel E a_M y18] H locs → W p l e R s m args below meth c H locs 0 0 Q (F0 m 58 ls []) := by
    intro y18 hy ls H locs hl hB
    subst hy
    have hf := Option.some.inj hf
    subst hf
    exact hQ _ _ H locs (fun _ => 0) hB dX12_put_58
  have hloop1 : ∀ (nf : Nat) (x10 : Int32) (u11 : St) (ls : Array Slot) (H : Heap) (locs : List Loc), lv_has ls 4 [(0, .ref (a_M 0)), (1, .ref (a_M 43)), (2, .int x_2), (3, .int x10)] → WB E ad s.heap [wModel E a_M u11] H locs → fX12_put_image_L1 x_2 nf x10 u11 = some X1 → W p l e R s m args below meth c H locs 0 0 Q (F0 m 33 ls []) := by
    intro nf
    induction nf with
    | zero =>
      intro x10 u11 ls H locs hl hB hf
      simp [fX12_put_image_L1] at hf
    | succ nf ih =>
      intro x10 u11 ls H locs hl hB hf
      rw [fX12_put_image_L1] at hf
      refine lv_iload_n hx hb dX12_put_33 rfl (lv_at hl 3 rfl) ?_
      refine lv_bipush (v := 6) hx hb dX12_put_34 (by decide) ?_
      refine lv_icmp_ge (tgt := 58) hx hb dX12_put_36 (by decide) (fun c12 => ?_) (fun c12 => ?_)
      · have hf := (if_pos c12).symm.trans hf
        exact hexit1 _ (Option.some.inj hf) ls H locs (lv_sub hl [] rfl) hB
      · have hf := (if_neg c12).symm.trans hf
        refine lv_aload_n hx hb dX12_put_39 rfl (lv_at hl 1 rfl) ?_
        refine lv_iload_n hx hb dX12_put_40 rfl (lv_at hl 2 rfl) ?_
        refine lv_iconst (v := 3) hx hb dX12_put_41 (by decide) ?_
        refine lv_iadd hx hb dX12_put_42 ?_
        refine lv_iload_n hx hb dX12_put_43 rfl (lv_at hl 3 rfl) ?_
        refine lv_iadd hx hb dX12_put_44 ?_
        refine lv_aload_n hx hb dX12_put_45 rfl (lv_at hl 0 rfl) ?_
        refine gf_X12_X12_sits C hK (hB.1 0 _ rfl) dX12_put_46 ?_
        refine lv_iload_n hx hb dX12_put_49 rfl (lv_at hl 3 rfl) ?_
        obtain ⟨hn13, hf⟩ := ox_chk hf
        refine ld_X12_sits C hK (hB.1 0 _ rfl) hn13 rfl dX12_put_50 ?_
        refine lv_topi (fun x14 ex14 => ?_)
        have hf := ox_lt ex14 hf
        obtain ⟨hn15, hf⟩ := ox_chk hf
        refine st_X12_image C hK hB hD 0 rfl hn15 rfl dX12_put_51 (fun H locs u16 eu16 hB => ?_)
        have hf := ox_lt eu16 hf
        have hB : WB E ad s.heap [wModel E a_M u16] H locs := hB
        obtain ⟨x17, ex17⟩ : ∃ z : Int32, z = (x10 + 1) := ⟨_, rfl⟩
        have hf := ox_lt ex17 hf
        refine lv_iinc (v := x17) (lv' := [(3, .int x17), (0, .ref (a_M 0)), (1, .ref (a_M 43)), (2, .int x_2)]) hx hb dX12_put_52 hl (k := 3) rfl (by rw [ex17]; rfl) (by decide) rfl (fun ls hl => ?_)
        refine lv_goto (tgt := 33) hx hb dX12_put_55 (by decide) ?_
        exact ih _ _ ls H locs (lv_sub hl [1, 2, 3, 0] rfl) hB hf
  exact hloop1 fuel _ _ ls H locs (lv_sub hl [1, 2, 3, 0] rfl) hB hX1
set_option maxHeartbeats 4000000 in
set_option maxRecDepth 20000 in
theorem tX12_take_undo (l : Launch) (E : Ev) (a_M : Nat → Nat) (u_M : St) (x_2 : Int32) (res : St) (hf : fX12_take_undo u_M x_2 = some res) : MX l E yX12_take cX12_take 4 none (rmm 0 0) [wModel E a_M u_M] (fun q => [wModel E a_M res]) [.ref (a_M 0), .ref (a_M 42), .int x_2] none := by
  unfold fX12_take_undo at hf
  refine MX.ofV rfl (by decide) (Nat.le_of_ble_eq_true rfl) ?_
  intro p e R s m args below meth c ls Q ad H hRf hRl C hB hD hK hN hl hQ
  generalize hlocs : ([] : List Loc) = locs at hB ⊢
  clear hlocs
  have hx := C.1
  have hb := C.2.1
  have hl : lv_has ls 4 [(0, .ref (a_M 0)), (1, .ref (a_M 42)), (2, .int x_2)] := hl
  refine lv_aload_n hx hb dX12_take_0 rfl (lv_at hl 0 rfl) ?_
  refine gf_X12_X12_on C hK (hB.1 0 _ rfl) dX12_take_1 ?_
  refine lv_iconst (v := 0) hx hb dX12_take_4 (by decide) ?_
  refine lv_aload_n hx hb dX12_take_5 rfl (lv_at hl 1 rfl) ?_
  refine lv_iload_n hx hb dX12_take_6 rfl (lv_at hl 2 rfl) ?_
  obtain ⟨hn1, hf⟩ := ox_chk hf
  refine ld_X12_undo C hK (hB.1 0 _ rfl) hn1 rfl dX12_take_7 ?_
  refine lv_topi (fun x2 ex2 => ?_)
  have hf := ox_lt ex2 hf
  refine st_X12_on C hK hB hD 0 rfl (by decide) rfl dX12_take_8 (fun H locs u3 eu3 hB => ?_)
  have hf := ox_lt eu3 hf
  have hB : WB E ad s.heap [wModel E a_M u3] H locs := hB
  refine lv_aload_n hx hb dX12_take_9 rfl (lv_at hl 0 rfl) ?_
  refine gf_X12_X12_onFor C hK (hB.1 0 _ rfl) dX12_take_10 ?_
  refine lv_iconst (v := 0) hx hb dX12_take_13 (by decide) ?_
  refine lv_aload_n hx hb dX12_take_14 rfl (lv_at hl 1 rfl) ?_
  refine lv_iload_n hx hb dX12_take_15 rfl (lv_at hl 2 rfl) ?_
  refine lv_iconst (v := 1) hx hb dX12_take_16 (by decide) ?_
  refine lv_iadd hx hb dX12_take_17 ?_
  obtain ⟨hn4, hf⟩ := ox_chk hf
  refine ld_X12_undo C hK (hB.1 0 _ rfl) hn4 rfl dX12_take_18 ?_
  refine lv_topi (fun x5 ex5 => ?_)
  have hf := ox_lt ex5 hf
  refine st_X12_onFor C hK hB hD 0 rfl (by decide) rfl dX12_take_19 (fun H locs u6 eu6 hB => ?_)
  have hf := ox_lt eu6 hf
  have hB : WB E ad s.heap [wModel E a_M u6] H locs := hB
  refine lv_aload_n hx hb dX12_take_20 rfl (lv_at hl 0 rfl) ?_
  refine gf_X12_X12_speed C hK (hB.1 0 _ rfl) dX12_take_21 ?_
  refine lv_iconst (v := 0) hx hb dX12_take_24 (by decide) ?_
  refine lv_aload_n hx hb dX12_take_25 rfl (lv_at hl 1 rfl) ?_
  refine lv_iload_n hx hb dX12_take_26 rfl (lv_at hl 2 rfl) ?_
  refine lv_iconst (v := 2) hx hb dX12_take_27 (by decide) ?_
  refine lv_iadd hx hb dX12_take_28 ?_
  obtain ⟨hn7, hf⟩ := ox_chk hf
  refine ld_X12_undo C hK (hB.1 0 _ rfl) hn7 rfl dX12_take_29 ?_
  refine lv_topi (fun x8 ex8 => ?_)
  have hf := ox_lt ex8 hf
  refine st_X12_speed C hK hB hD 0 rfl (by decide) rfl dX12_take_30 (fun H locs u9 eu9 hB => ?_)
  have hf := ox_lt eu9 hf
  have hB : WB E ad s.heap [wModel E a_M u9] H locs := hB
  refine lv_iconst (v := 0) hx hb dX12_take_31 (by decide) ?_
  refine lv_istore_n (lv' := [(3, .int (0 : Int32)), (0, .ref (a_M 0)), (1, .ref (a_M 42)), (2, .int x_2)]) hx hb dX12_take_32 rfl hl (by decide) rfl (fun ls hl => ?_)
  obtain ⟨X1, hX1, hf⟩ := ox_bind hf
  have hexit1 : ∀ y18, y18 = X1 → ∀ (ls : Array Slot) (H : Heap) (locs : List Loc), lv_has ls 4 [] → WB E ad s.heap [wModel E a_M y18] H locs → W p l e R s m args below meth c H locs 0 0 Q (F0 m 58 ls []) := by
    intro y18 hy ls H locs hl hB
    subst hy
    have hf := Option.some.inj hf
    subst hf
    exact hQ _ _ H locs (fun _ => 0) hB dX12_take_58
  have hloop1 : ∀ (nf : Nat) (x10 : Int32) (u11 : St) (ls : Array Slot) (H : Heap) (locs : List Loc), lv_has ls 4 [(0, .ref (a_M 0)), (1, .ref (a_M 42)), (2, .int x_2), (3, .int x10)] → WB E ad s.heap [wModel E a_M u11] H locs → fX12_take_undo_L1 x_2 nf x10 u11 = some X1 → W p l e R s m args below meth c H locs 0 0 Q (F0 m 33 ls []) := by
    intro nf
    induction nf with
    | zero =>
      intro x10 u11 ls H locs hl hB hf
      simp [fX12_take_undo_L1] at hf
    | succ nf ih =>
      intro x10 u11 ls H locs hl hB hf
      rw [fX12_take_undo_L1] at hf
      refine lv_iload_n hx hb dX12_take_33 rfl (lv_at hl 3 rfl) ?_
      refine lv_bipush (v := 6) hx hb dX12_take_34 (by decide) ?_
      refine lv_icmp_ge (tgt := 58) hx hb dX12_take_36 (by decide) (fun c12 => ?_) (fun c12 => ?_)
      · have hf := (if_pos c12).symm.trans hf
        exact hexit1 _ (Option.some.inj hf) ls H locs (lv_sub hl [] rfl) hB
      · have hf := (if_neg c12).symm.trans hf
        refine lv_aload_n hx hb dX12_take_39 rfl (lv_at hl 0 rfl) ?_
        refine gf_X12_X12_sits C hK (hB.1 0 _ rfl) dX12_take_40 ?_
        refine lv_iload_n hx hb dX12_take_43 rfl (lv_at hl 3 rfl) ?_
        refine lv_aload_n hx hb dX12_take_44 rfl (lv_at hl 1 rfl) ?_
        refine lv_iload_n hx hb dX12_take_45 rfl (lv_at hl 2 rfl) ?_
        refine lv_iconst (v := 3) hx hb dX12_take_46 (by decide) ?_
        refine lv_iadd hx hb dX12_take_47 ?_
        refine lv_iload_n hx hb dX12_take_48 rfl (lv_at hl 3 rfl) ?_
        refine lv_iadd hx hb dX12_take_49 ?_
        obtain ⟨hn13, hf⟩ := ox_chk hf
        refine ld_X12_undo C hK (hB.1 0 _ rfl) hn13 rfl dX12_take_50 ?_
        refine lv_topi (fun x14 ex14 => ?_)
        have hf := ox_lt ex14 hf
        obtain ⟨hn15, hf⟩ := ox_chk hf
        refine st_X12_sits C hK hB hD 0 rfl hn15 rfl dX12_take_51 (fun H locs u16 eu16 hB => ?_)
        have hf := ox_lt eu16 hf
        have hB : WB E ad s.heap [wModel E a_M u16] H locs := hB
        obtain ⟨x17, ex17⟩ : ∃ z : Int32, z = (x10 + 1) := ⟨_, rfl⟩
        have hf := ox_lt ex17 hf
        refine lv_iinc (v := x17) (lv' := [(3, .int x17), (0, .ref (a_M 0)), (1, .ref (a_M 42)), (2, .int x_2)]) hx hb dX12_take_52 hl (k := 3) rfl (by rw [ex17]; rfl) (by decide) rfl (fun ls hl => ?_)
        refine lv_goto (tgt := 33) hx hb dX12_take_55 (by decide) ?_
        exact ih _ _ ls H locs (lv_sub hl [1, 2, 3, 0] rfl) hB hf
  exact hloop1 fuel _ _ ls H locs (lv_sub hl [1, 2, 3, 0] rfl) hB hX1
set_option maxHeartbeats 4000000 in
set_option maxRecDepth 20000 in
theorem tX12_take_image (l : Launch) (E : Ev) (a_M : Nat → Nat) (u_M : St) (x_2 : Int32) (res : St) (hf : fX12_take_image u_M x_2 = some res) : MX l E yX12_take cX12_take 4 none (rmm 0 0) [wModel E a_M u_M] (fun q => [wModel E a_M res]) [.ref (a_M 0), .ref (a_M 43), .int x_2] none := by
  unfold fX12_take_image at hf
  refine MX.ofV rfl (by decide) (Nat.le_of_ble_eq_true rfl) ?_
  intro p e R s m args below meth c ls Q ad H hRf hRl C hB hD hK hN hl hQ
  generalize hlocs : ([] : List Loc) = locs at hB ⊢
  clear hlocs
  have hx := C.1
  have hb := C.2.1
  have hl : lv_has ls 4 [(0, .ref (a_M 0)), (1, .ref (a_M 43)), (2, .int x_2)] := hl
  refine lv_aload_n hx hb dX12_take_0 rfl (lv_at hl 0 rfl) ?_
  refine gf_X12_X12_on C hK (hB.1 0 _ rfl) dX12_take_1 ?_
  refine lv_iconst (v := 0) hx hb dX12_take_4 (by decide) ?_
  refine lv_aload_n hx hb dX12_take_5 rfl (lv_at hl 1 rfl) ?_
  refine lv_iload_n hx hb dX12_take_6 rfl (lv_at hl 2 rfl) ?_
  obtain ⟨hn1, hf⟩ := ox_chk hf
  refine ld_X12_image C hK (hB.1 0 _ rfl) hn1 rfl dX12_take_7 ?_
  refine lv_topi (fun x2 ex2 => ?_)
  have hf := ox_lt ex2 hf
  refine st_X12_on C hK hB hD 0 rfl (by decide) rfl dX12_take_8 (fun H locs u3 eu3 hB => ?_)
  have hf := ox_lt eu3 hf
  have hB : WB E ad s.heap [wModel E a_M u3] H locs := hB
  refine lv_aload_n hx hb dX12_take_9 rfl (lv_at hl 0 rfl) ?_
  refine gf_X12_X12_onFor C hK (hB.1 0 _ rfl) dX12_take_10 ?_
  refine lv_iconst (v := 0) hx hb dX12_take_13 (by decide) ?_
  refine lv_aload_n hx hb dX12_take_14 rfl (lv_at hl 1 rfl) ?_
  refine lv_iload_n hx hb dX12_take_15 rfl (lv_at hl 2 rfl) ?_
  refine lv_iconst (v := 1) hx hb dX12_take_16 (by decide) ?_
  refine lv_iadd hx hb dX12_take_17 ?_
  obtain ⟨hn4, hf⟩ := ox_chk hf
  refine ld_X12_image C hK (hB.1 0 _ rfl) hn4 rfl dX12_take_18 ?_
  refine lv_topi (fun x5 ex5 => ?_)
  have hf := ox_lt ex5 hf
  refine st_X12_onFor C hK hB hD 0 rfl (by decide) rfl dX12_take_19 (fun H locs u6 eu6 hB => ?_)
  have hf := ox_lt eu6 hf
  have hB : WB E ad s.heap [wModel E a_M u6] H locs := hB
  refine lv_aload_n hx hb dX12_take_20 rfl (lv_at hl 0 rfl) ?_
  refine gf_X12_X12_speed C hK (hB.1 0 _ rfl) dX12_take_21 ?_
  refine lv_iconst (v := 0) hx hb dX12_take_24 (by decide) ?_
  refine lv_aload_n hx hb dX12_take_25 rfl (lv_at hl 1 rfl) ?_
  refine lv_iload_n hx hb dX12_take_26 rfl (lv_at hl 2 rfl) ?_
  refine lv_iconst (v := 2) hx hb dX12_take_27 (by decide) ?_
  refine lv_iadd hx hb dX12_take_28 ?_
  obtain ⟨hn7, hf⟩ := ox_chk hf
  refine ld_X12_image C hK (hB.1 0 _ rfl) hn7 rfl dX12_take_29 ?_
  refine lv_topi (fun x8 ex8 => ?_)
  have hf := ox_lt ex8 hf
  refine st_X12_speed C hK hB hD 0 rfl (by decide) rfl dX12_take_30 (fun H locs u9 eu9 hB => ?_)
  have hf := ox_lt eu9 hf
  have hB : WB E ad s.heap [wModel E a_M u9] H locs := hB
  refine lv_iconst (v := 0) hx hb dX12_take_31 (by decide) ?_
  refine lv_istore_n (lv' := [(3, .int (0 : Int32)), (0, .ref (a_M 0)), (1, .ref (a_M 43)), (2, .int x_2)]) hx hb dX12_take_32 rfl hl (by decide) rfl (fun ls hl => ?_)
  obtain ⟨X1, hX1, hf⟩ := ox_bind hf
  have hexit1 : ∀ y18, y18 = X1 → ∀ (ls : Array Slot) (H : Heap) (locs : List Loc), lv_has ls 4 [] → WB E ad s.heap [wModel E a_M y18] H locs → W p l e R s m args below meth c H locs 0 0 Q (F0 m 58 ls []) := by
    intro y18 hy ls H locs hl hB
    subst hy
    have hf := Option.some.inj hf
    subst hf
    exact hQ _ _ H locs (fun _ => 0) hB dX12_take_58
  have hloop1 : ∀ (nf : Nat) (x10 : Int32) (u11 : St) (ls : Array Slot) (H : Heap) (locs : List Loc), lv_has ls 4 [(0, .ref (a_M 0)), (1, .ref (a_M 43)), (2, .int x_2), (3, .int x10)] → WB E ad s.heap [wModel E a_M u11] H locs → fX12_take_image_L1 x_2 nf x10 u11 = some X1 → W p l e R s m args below meth c H locs 0 0 Q (F0 m 33 ls []) := by
    intro nf
    induction nf with
    | zero =>
      intro x10 u11 ls H locs hl hB hf
      simp [fX12_take_image_L1] at hf
    | succ nf ih =>
      intro x10 u11 ls H locs hl hB hf
      rw [fX12_take_image_L1] at hf
      refine lv_iload_n hx hb dX12_take_33 rfl (lv_at hl 3 rfl) ?_
      refine lv_bipush (v := 6) hx hb dX12_take_34 (by decide) ?_
      refine lv_icmp_ge (tgt := 58) hx hb dX12_take_36 (by decide) (fun c12 => ?_) (fun c12 => ?_)
      · have hf := (if_pos c12).symm.trans hf
        exact hexit1 _ (Option.some.inj hf) ls H locs (lv_sub hl [] rfl) hB
      · have hf := (if_neg c12).symm.trans hf
        refine lv_aload_n hx hb dX12_take_39 rfl (lv_at hl 0 rfl) ?_
        refine gf_X12_X12_sits C hK (hB.1 0 _ rfl) dX12_take_40 ?_
        refine lv_iload_n hx hb dX12_take_43 rfl (lv_at hl 3 rfl) ?_
        refine lv_aload_n hx hb dX12_take_44 rfl (lv_at hl 1 rfl) ?_
        refine lv_iload_n hx hb dX12_take_45 rfl (lv_at hl 2 rfl) ?_
        refine lv_iconst (v := 3) hx hb dX12_take_46 (by decide) ?_
        refine lv_iadd hx hb dX12_take_47 ?_
        refine lv_iload_n hx hb dX12_take_48 rfl (lv_at hl 3 rfl) ?_
        refine lv_iadd hx hb dX12_take_49 ?_
        obtain ⟨hn13, hf⟩ := ox_chk hf
        refine ld_X12_image C hK (hB.1 0 _ rfl) hn13 rfl dX12_take_50 ?_
        refine lv_topi (fun x14 ex14 => ?_)
        have hf := ox_lt ex14 hf
        obtain ⟨hn15, hf⟩ := ox_chk hf
        refine st_X12_sits C hK hB hD 0 rfl hn15 rfl dX12_take_51 (fun H locs u16 eu16 hB => ?_)
        have hf := ox_lt eu16 hf
        have hB : WB E ad s.heap [wModel E a_M u16] H locs := hB
        obtain ⟨x17, ex17⟩ : ∃ z : Int32, z = (x10 + 1) := ⟨_, rfl⟩
        have hf := ox_lt ex17 hf
        refine lv_iinc (v := x17) (lv' := [(3, .int x17), (0, .ref (a_M 0)), (1, .ref (a_M 43)), (2, .int x_2)]) hx hb dX12_take_52 hl (k := 3) rfl (by rw [ex17]; rfl) (by decide) rfl (fun ls hl => ?_)
        refine lv_goto (tgt := 33) hx hb dX12_take_55 (by decide) ?_
        exact ih _ _ ls H locs (lv_sub hl [1, 2, 3, 0] rfl) hB hf
  exact hloop1 fuel _ _ ls H locs (lv_sub hl [1, 2, 3, 0] rfl) hB hX1
set_option maxHeartbeats 4000000 in
set_option maxRecDepth 20000 in
theorem tX12_undo (l : Launch) (E : Ev) (a_M : Nat → Nat) (u_M : St) (res : Int32 × St) (hf : fX12_undo u_M = some res) : MX l E yX12_undo cX12_undo 1 (some .int) (rmm 1 23) [wModel E a_M u_M] (fun q => [wModel E a_M res.2]) [.ref (a_M 0)] (some (.int res.1)) := by
  unfold fX12_undo at hf
  refine MX.ofI rfl (by decide) (Nat.le_of_ble_eq_true rfl) ?_
  intro p e R s m args below meth c ls Q ad H hRf hRl C hB hD hK hN hl hQ
  generalize hlocs : ([] : List Loc) = locs at hB ⊢
  clear hlocs
  have hx := C.1
  have hb := C.2.1
  have hl : lv_has ls 1 [(0, .ref (a_M 0))] := hl
  refine lv_aload_n hx hb dX12_undo_0 rfl (lv_at hl 0 rfl) ?_
  refine lv_iconst (v := 0) hx hb dX12_undo_1 (by decide) ?_
  refine pf_X12_X12_thrown C hK hB hD 0 rfl dX12_undo_2 (fun H locs u1 eu1 hB => ?_)
  have hf := ox_lt eu1 hf
  have hB : WB E ad s.heap [wModel E a_M u1] H locs := hB
  refine lv_aload_n hx hb dX12_undo_5 rfl (lv_at hl 0 rfl) ?_
  refine gf_X12_X12_undos C hK (hB.1 0 _ rfl) dX12_undo_6 ?_
  refine lv_if_ne (tgt := 14) hx hb dX12_undo_9 (by decide) (fun c2 => ?_) (fun c2 => ?_)
  · have hf := (if_neg c2).symm.trans hf
    refine lv_aload_n hx hb dX12_undo_14 rfl (lv_at hl 0 rfl) ?_
    refine lv_dup hx hb dX12_undo_15 rfl ?_
    refine gf_X12_X12_undos C hK (hB.1 0 _ rfl) dX12_undo_16 ?_
    refine lv_iconst (v := 1) hx hb dX12_undo_19 (by decide) ?_
    refine lv_isub hx hb dX12_undo_20 ?_
    refine lv_topi (fun x3 ex3 => ?_)
    have hf := ox_lt ex3 hf
    refine pf_X12_X12_undos C hK hB hD 0 rfl dX12_undo_21 (fun H locs u4 eu4 hB => ?_)
    have hf := ox_lt eu4 hf
    have hB : WB E ad s.heap [wModel E a_M u4] H locs := hB
    refine lv_aload_n hx hb dX12_undo_24 rfl (lv_at hl 0 rfl) ?_
    refine lv_aload_n hx hb dX12_undo_25 rfl (lv_at hl 0 rfl) ?_
    refine gf_X12_X12_undo C hK (hB.1 0 _ rfl) dX12_undo_26 ?_
    refine lv_bipush (v := 9) hx hb dX12_undo_29 (by decide) ?_
    refine lv_aload_n hx hb dX12_undo_31 rfl (lv_at hl 0 rfl) ?_
    refine gf_X12_X12_undos C hK (hB.1 0 _ rfl) dX12_undo_32 ?_
    refine lv_imul hx hb dX12_undo_35 ?_
    obtain ⟨r5, hr5, hf⟩ := ox_bind hf
    refine cxVX (bs1 := (fun q => [wModel E a_M r5])) (As := [.ref (a_M 42), .int ((9 : Int32) * (gI u4 80))]) (rest := []) (st1 := []) C hK (tX12_take_undo l E a_M u4 ((9 : Int32) * (gI u4 80)) r5 hr5) lk_X12_561 (by rw [hRf, hRl]; decide) ⟨Nat.zero_le _, Nat.zero_le _⟩ hB hD hN [0] (by decide) rfl (fun _ => rfl) (fun _ => rfl) (rc_X12 hK (hB.1 0 _ rfl)) rfl hl.1 rfl rfl (Nat.le_of_ble_eq_true rfl) dX12_undo_36 (fun H locs q6 hB => ?_)
    have hB : WB E ad s.heap [wModel E a_M r5] H locs := hB
    refine lv_aload_n hx hb dX12_undo_39 rfl (lv_at hl 0 rfl) ?_
    refine gf_X12_X12_undos C hK (hB.1 0 _ rfl) dX12_undo_40 ?_
    have hf := Option.some.inj hf
    subst hf
    exact hQ _ _ H locs (fun _ => 0) hB dX12_undo_43
  · have hf := (if_pos c2).symm.trans hf
    refine lv_iconst (v := (-1)) hx hb dX12_undo_12 (by decide) ?_
    have hf := Option.some.inj hf
    subst hf
    exact hQ _ _ H locs (fun _ => 0) hB dX12_undo_13
set_option maxHeartbeats 4000000 in
set_option maxRecDepth 20000 in
theorem tX12_keep (l : Launch) (E : Ev) (a_M : Nat → Nat) (u_M : St) (res : Int32 × St) (hf : fX12_keep u_M = some res) : MX l E yX12_keep cX12_keep 2 (some .int) (rmm 1 23) [wModel E a_M u_M] (fun q => [wModel E a_M res.2]) [.ref (a_M 0)] (some (.int res.1)) := by
  unfold fX12_keep at hf
  refine MX.ofI rfl (by decide) (Nat.le_of_ble_eq_true rfl) ?_
  intro p e R s m args below meth c ls Q ad H hRf hRl C hB hD hK hN hl hQ
  generalize hlocs : ([] : List Loc) = locs at hB ⊢
  clear hlocs
  have hx := C.1
  have hb := C.2.1
  have hl : lv_has ls 2 [(0, .ref (a_M 0))] := hl
  refine lv_aload_n hx hb dX12_keep_0 rfl (lv_at hl 0 rfl) ?_
  refine lv_iconst (v := 0) hx hb dX12_keep_1 (by decide) ?_
  refine pf_X12_X12_thrown C hK hB hD 0 rfl dX12_keep_2 (fun H locs u1 eu1 hB => ?_)
  have hf := ox_lt eu1 hf
  have hB : WB E ad s.heap [wModel E a_M u1] H locs := hB
  refine lv_aload_n hx hb dX12_keep_5 rfl (lv_at hl 0 rfl) ?_
  refine lv_iconst (v := 1) hx hb dX12_keep_6 (by decide) ?_
  refine pf_X12_X12_hasImage C hK hB hD 0 rfl (by decide) dX12_keep_7 (fun H locs u2 eu2 hB => ?_)
  have hf := ox_lt eu2 hf
  have hB : WB E ad s.heap [wModel E a_M u2] H locs := hB
  refine lv_aload_n hx hb dX12_keep_10 rfl (lv_at hl 0 rfl) ?_
  refine lv_aload_n hx hb dX12_keep_11 rfl (lv_at hl 0 rfl) ?_
  refine gf_X12_X12_image C hK (hB.1 0 _ rfl) dX12_keep_12 ?_
  refine lv_iconst (v := 0) hx hb dX12_keep_15 (by decide) ?_
  obtain ⟨r3, hr3, hf⟩ := ox_bind hf
  refine cxVX (bs1 := (fun q => [wModel E a_M r3])) (As := [.ref (a_M 43), .int (0 : Int32)]) (rest := []) (st1 := []) C hK (tX12_put_image l E a_M u2 (0 : Int32) r3 hr3) lk_X12_558 (by rw [hRf, hRl]; decide) ⟨Nat.zero_le _, Nat.zero_le _⟩ hB hD hN [0] (by decide) rfl (fun _ => rfl) (fun _ => rfl) (rc_X12 hK (hB.1 0 _ rfl)) rfl hl.1 rfl rfl (Nat.le_of_ble_eq_true rfl) dX12_keep_16 (fun H locs q4 hB => ?_)
  have hB : WB E ad s.heap [wModel E a_M r3] H locs := hB
  refine lv_iconst (v := 0) hx hb dX12_keep_19 (by decide) ?_
  refine lv_istore_n (lv' := [(1, .int (0 : Int32)), (0, .ref (a_M 0))]) hx hb dX12_keep_20 rfl hl (by decide) rfl (fun ls hl => ?_)
  obtain ⟨X1, hX1, hf⟩ := ox_bind hf
  have hexit1 : ∀ y17, y17 = X1 → ∀ (ls : Array Slot) (H : Heap) (locs : List Loc), lv_has ls 2 [(0, .ref (a_M 0))] → WB E ad s.heap [wModel E a_M y17] H locs → W p l e R s m args below meth c H locs 0 0 Q (F0 m 60 ls []) := by
    intro y17 hy ls H locs hl hB
    subst hy
    refine lv_iconst (v := 0) hx hb dX12_keep_60 (by decide) ?_
    refine lv_istore_n (lv' := [(1, .int (0 : Int32)), (0, .ref (a_M 0))]) hx hb dX12_keep_61 rfl hl (by decide) rfl (fun ls hl => ?_)
    obtain ⟨X2, hX2, hf⟩ := ox_bind hf
    have hexit2 : ∀ y26, y26 = X2 → ∀ (ls : Array Slot) (H : Heap) (locs : List Loc), lv_has ls 2 [(0, .ref (a_M 0))] → WB E ad s.heap [wModel E a_M y26] H locs → W p l e R s m args below meth c H locs 0 0 Q (F0 m 88 ls []) := by
      intro y26 hy ls H locs hl hB
      subst hy
      refine lv_aload_n hx hb dX12_keep_88 rfl (lv_at hl 0 rfl) ?_
      refine gf_X12_X12_imageRest C hK (hB.1 0 _ rfl) dX12_keep_89 ?_
      refine lv_bipush (v := 16) hx hb dX12_keep_92 (by decide) ?_
      refine lv_aload_n hx hb dX12_keep_94 rfl (lv_at hl 0 rfl) ?_
      refine gf_X12_X12_latest C hK (hB.1 0 _ rfl) dX12_keep_95 ?_
      refine lv_iconst (v := 0) hx hb dX12_keep_98 (by decide) ?_
      refine ld_X12_latest C hK (hB.1 0 _ rfl) (by decide) rfl dX12_keep_99 ?_
      refine lv_topi (fun x27 ex27 => ?_)
      have hf := ox_lt ex27 hf
      refine st_X12_imageRest C hK hB hD 0 rfl (by decide) rfl dX12_keep_100 (fun H locs u28 eu28 hB => ?_)
      have hf := ox_lt eu28 hf
      have hB : WB E ad s.heap [wModel E a_M u28] H locs := hB
      refine lv_aload_n hx hb dX12_keep_101 rfl (lv_at hl 0 rfl) ?_
      refine gf_X12_X12_imageRest C hK (hB.1 0 _ rfl) dX12_keep_102 ?_
      refine lv_bipush (v := 17) hx hb dX12_keep_105 (by decide) ?_
      refine lv_aload_n hx hb dX12_keep_107 rfl (lv_at hl 0 rfl) ?_
      refine gf_X12_X12_refused C hK (hB.1 0 _ rfl) dX12_keep_108 ?_
      refine lv_iconst (v := 0) hx hb dX12_keep_111 (by decide) ?_
      refine ld_X12_refused C hK (hB.1 0 _ rfl) (by decide) rfl dX12_keep_112 ?_
      refine lv_topi (fun x29 ex29 => ?_)
      have hf := ox_lt ex29 hf
      refine st_X12_imageRest C hK hB hD 0 rfl (by decide) rfl dX12_keep_113 (fun H locs u30 eu30 hB => ?_)
      have hf := ox_lt eu30 hf
      have hB : WB E ad s.heap [wModel E a_M u30] H locs := hB
      refine lv_aload_n hx hb dX12_keep_114 rfl (lv_at hl 0 rfl) ?_
      refine gf_X12_X12_imageRest C hK (hB.1 0 _ rfl) dX12_keep_115 ?_
      refine lv_bipush (v := 18) hx hb dX12_keep_118 (by decide) ?_
      refine lv_aload_n hx hb dX12_keep_120 rfl (lv_at hl 0 rfl) ?_
      refine gf_X12_X12_coughed C hK (hB.1 0 _ rfl) dX12_keep_121 ?_
      refine lv_iconst (v := 0) hx hb dX12_keep_124 (by decide) ?_
      refine ld_X12_coughed C hK (hB.1 0 _ rfl) (by decide) rfl dX12_keep_125 ?_
      refine lv_topi (fun x31 ex31 => ?_)
      have hf := ox_lt ex31 hf
      refine st_X12_imageRest C hK hB hD 0 rfl (by decide) rfl dX12_keep_126 (fun H locs u32 eu32 hB => ?_)
      have hf := ox_lt eu32 hf
      have hB : WB E ad s.heap [wModel E a_M u32] H locs := hB
      refine lv_aload_n hx hb dX12_keep_127 rfl (lv_at hl 0 rfl) ?_
      refine gf_X12_X12_imageRest C hK (hB.1 0 _ rfl) dX12_keep_128 ?_
      refine lv_bipush (v := 19) hx hb dX12_keep_131 (by decide) ?_
      refine lv_aload_n hx hb dX12_keep_133 rfl (lv_at hl 0 rfl) ?_
      refine gf_X12_X12_minute C hK (hB.1 0 _ rfl) dX12_keep_134 ?_
      refine lv_iconst (v := 0) hx hb dX12_keep_137 (by decide) ?_
      refine ld_X12_minute C hK (hB.1 0 _ rfl) (by decide) rfl dX12_keep_138 ?_
      refine lv_topi (fun x33 ex33 => ?_)
      have hf := ox_lt ex33 hf
      refine st_X12_imageRest C hK hB hD 0 rfl (by decide) rfl dX12_keep_139 (fun H locs u34 eu34 hB => ?_)
      have hf := ox_lt eu34 hf
      have hB : WB E ad s.heap [wModel E a_M u34] H locs := hB
      refine lv_aload_n hx hb dX12_keep_140 rfl (lv_at hl 0 rfl) ?_
      refine lv_aload_n hx hb dX12_keep_141 rfl (lv_at hl 0 rfl) ?_
      refine gf_X12_X12_drawn C hK (hB.1 0 _ rfl) dX12_keep_142 ?_
      refine lv_topl (fun x35 ex35 => ?_)
      have hf := ox_lt ex35 hf
      refine pf_X12_X12_imageDrawn C hK hB hD 0 rfl dX12_keep_145 (fun H locs u36 eu36 hB => ?_)
      have hf := ox_lt eu36 hf
      have hB : WB E ad s.heap [wModel E a_M u36] H locs := hB
      refine lv_aload_n hx hb dX12_keep_148 rfl (lv_at hl 0 rfl) ?_
      refine gf_X12_X12_minute C hK (hB.1 0 _ rfl) dX12_keep_149 ?_
      refine lv_iconst (v := 0) hx hb dX12_keep_152 (by decide) ?_
      refine ld_X12_minute C hK (hB.1 0 _ rfl) (by decide) rfl dX12_keep_153 ?_
      have hf := Option.some.inj hf
      subst hf
      exact hQ _ _ H locs (fun _ => 0) hB dX12_keep_154
    have hloop2 : ∀ (nf : Nat) (x18 : Int32) (u19 : St) (ls : Array Slot) (H : Heap) (locs : List Loc), lv_has ls 2 [(0, .ref (a_M 0)), (1, .int x18)] → WB E ad s.heap [wModel E a_M u19] H locs → fX12_keep_L2 nf x18 u19 = some X2 → W p l e R s m args below meth c H locs 0 0 Q (F0 m 62 ls []) := by
      intro nf
      induction nf with
      | zero =>
        intro x18 u19 ls H locs hl hB hf
        simp [fX12_keep_L2] at hf
      | succ nf ih =>
        intro x18 u19 ls H locs hl hB hf
        rw [fX12_keep_L2] at hf
        refine lv_iload_n hx hb dX12_keep_62 rfl (lv_at hl 1 rfl) ?_
        refine lv_iconst (v := 4) hx hb dX12_keep_63 (by decide) ?_
        refine lv_icmp_ge (tgt := 88) hx hb dX12_keep_64 (by decide) (fun c20 => ?_) (fun c20 => ?_)
        · have hf := (if_pos c20).symm.trans hf
          exact hexit2 _ (Option.some.inj hf) ls H locs (lv_sub hl [0] rfl) hB
        · have hf := (if_neg c20).symm.trans hf
          refine lv_aload_n hx hb dX12_keep_67 rfl (lv_at hl 0 rfl) ?_
          refine gf_X12_X12_imageRest C hK (hB.1 0 _ rfl) dX12_keep_68 ?_
          refine lv_bipush (v := 12) hx hb dX12_keep_71 (by decide) ?_
          refine lv_iload_n hx hb dX12_keep_73 rfl (lv_at hl 1 rfl) ?_
          refine lv_iadd hx hb dX12_keep_74 ?_
          refine lv_aload_n hx hb dX12_keep_75 rfl (lv_at hl 0 rfl) ?_
          refine gf_X12_X12_ground C hK (hB.1 0 _ rfl) dX12_keep_76 ?_
          refine lv_iload_n hx hb dX12_keep_79 rfl (lv_at hl 1 rfl) ?_
          obtain ⟨hn21, hf⟩ := ox_chk hf
          refine ld_X12_ground C hK (hB.1 0 _ rfl) hn21 rfl dX12_keep_80 ?_
          refine lv_topi (fun x22 ex22 => ?_)
          have hf := ox_lt ex22 hf
          obtain ⟨hn23, hf⟩ := ox_chk hf
          refine st_X12_imageRest C hK hB hD 0 rfl hn23 rfl dX12_keep_81 (fun H locs u24 eu24 hB => ?_)
          have hf := ox_lt eu24 hf
          have hB : WB E ad s.heap [wModel E a_M u24] H locs := hB
          obtain ⟨x25, ex25⟩ : ∃ z : Int32, z = (x18 + 1) := ⟨_, rfl⟩
          have hf := ox_lt ex25 hf
          refine lv_iinc (v := x25) (lv' := [(1, .int x25), (0, .ref (a_M 0))]) hx hb dX12_keep_82 hl (k := 1) rfl (by rw [ex25]; rfl) (by decide) rfl (fun ls hl => ?_)
          refine lv_goto (tgt := 62) hx hb dX12_keep_85 (by decide) ?_
          exact ih _ _ ls H locs (lv_sub hl [1, 0] rfl) hB hf
    exact hloop2 fuel _ _ ls H locs (lv_sub hl [1, 0] rfl) hB hX2
  have hloop1 : ∀ (nf : Nat) (x5 : Int32) (u6 : St) (ls : Array Slot) (H : Heap) (locs : List Loc), lv_has ls 2 [(0, .ref (a_M 0)), (1, .int x5)] → WB E ad s.heap [wModel E a_M u6] H locs → fX12_keep_L1 nf x5 u6 = some X1 → W p l e R s m args below meth c H locs 0 0 Q (F0 m 21 ls []) := by
    intro nf
    induction nf with
    | zero =>
      intro x5 u6 ls H locs hl hB hf
      simp [fX12_keep_L1] at hf
    | succ nf ih =>
      intro x5 u6 ls H locs hl hB hf
      rw [fX12_keep_L1] at hf
      refine lv_iload_n hx hb dX12_keep_21 rfl (lv_at hl 1 rfl) ?_
      refine lv_bipush (v := 6) hx hb dX12_keep_22 (by decide) ?_
      refine lv_icmp_ge (tgt := 60) hx hb dX12_keep_24 (by decide) (fun c7 => ?_) (fun c7 => ?_)
      · have hf := (if_pos c7).symm.trans hf
        exact hexit1 _ (Option.some.inj hf) ls H locs (lv_sub hl [0] rfl) hB
      · have hf := (if_neg c7).symm.trans hf
        refine lv_aload_n hx hb dX12_keep_27 rfl (lv_at hl 0 rfl) ?_
        refine gf_X12_X12_imageRest C hK (hB.1 0 _ rfl) dX12_keep_28 ?_
        refine lv_iload_n hx hb dX12_keep_31 rfl (lv_at hl 1 rfl) ?_
        refine lv_aload_n hx hb dX12_keep_32 rfl (lv_at hl 0 rfl) ?_
        refine gf_X12_X12_tired C hK (hB.1 0 _ rfl) dX12_keep_33 ?_
        refine lv_iload_n hx hb dX12_keep_36 rfl (lv_at hl 1 rfl) ?_
        obtain ⟨hn8, hf⟩ := ox_chk hf
        refine ld_X12_tired C hK (hB.1 0 _ rfl) hn8 rfl dX12_keep_37 ?_
        refine lv_topi (fun x9 ex9 => ?_)
        have hf := ox_lt ex9 hf
        obtain ⟨hn10, hf⟩ := ox_chk hf
        refine st_X12_imageRest C hK hB hD 0 rfl hn10 rfl dX12_keep_38 (fun H locs u11 eu11 hB => ?_)
        have hf := ox_lt eu11 hf
        have hB : WB E ad s.heap [wModel E a_M u11] H locs := hB
        refine lv_aload_n hx hb dX12_keep_39 rfl (lv_at hl 0 rfl) ?_
        refine gf_X12_X12_imageRest C hK (hB.1 0 _ rfl) dX12_keep_40 ?_
        refine lv_bipush (v := 6) hx hb dX12_keep_43 (by decide) ?_
        refine lv_iload_n hx hb dX12_keep_45 rfl (lv_at hl 1 rfl) ?_
        refine lv_iadd hx hb dX12_keep_46 ?_
        refine lv_aload_n hx hb dX12_keep_47 rfl (lv_at hl 0 rfl) ?_
        refine gf_X12_X12_clapped C hK (hB.1 0 _ rfl) dX12_keep_48 ?_
        refine lv_iload_n hx hb dX12_keep_51 rfl (lv_at hl 1 rfl) ?_
        obtain ⟨hn12, hf⟩ := ox_chk hf
        refine ld_X12_clapped C hK (hB.1 0 _ rfl) hn12 rfl dX12_keep_52 ?_
        refine lv_topi (fun x13 ex13 => ?_)
        have hf := ox_lt ex13 hf
        obtain ⟨hn14, hf⟩ := ox_chk hf
        refine st_X12_imageRest C hK hB hD 0 rfl hn14 rfl dX12_keep_53 (fun H locs u15 eu15 hB => ?_)
        have hf := ox_lt eu15 hf
        have hB : WB E ad s.heap [wModel E a_M u15] H locs := hB
        obtain ⟨x16, ex16⟩ : ∃ z : Int32, z = (x5 + 1) := ⟨_, rfl⟩
        have hf := ox_lt ex16 hf
        refine lv_iinc (v := x16) (lv' := [(1, .int x16), (0, .ref (a_M 0))]) hx hb dX12_keep_54 hl (k := 1) rfl (by rw [ex16]; rfl) (by decide) rfl (fun ls hl => ?_)
        refine lv_goto (tgt := 21) hx hb dX12_keep_57 (by decide) ?_
        exact ih _ _ ls H locs (lv_sub hl [1, 0] rfl) hB hf
  exact hloop1 fuel _ _ ls H locs (lv_sub hl [1, 0] rfl) hB hX1
set_option maxHeartbeats 4000000 in
set_option maxRecDepth 20000 in
theorem tX12_back (l : Launch) (E : Ev) (a_M : Nat → Nat) (u_M : St) (res : Int32 × St) (hf : fX12_back u_M = some res) : MX l E yX12_back cX12_back 2 (some .int) (rmm 1 23) [wModel E a_M u_M] (fun q => [wModel E a_M res.2]) [.ref (a_M 0)] (some (.int res.1)) := by
  unfold fX12_back at hf
  refine MX.ofI rfl (by decide) (Nat.le_of_ble_eq_true rfl) ?_
  intro p e R s m args below meth c ls Q ad H hRf hRl C hB hD hK hN hl hQ
  generalize hlocs : ([] : List Loc) = locs at hB ⊢
  clear hlocs
  have hx := C.1
  have hb := C.2.1
  have hl : lv_has ls 2 [(0, .ref (a_M 0))] := hl
  refine lv_aload_n hx hb dX12_back_0 rfl (lv_at hl 0 rfl) ?_
  refine lv_iconst (v := 0) hx hb dX12_back_1 (by decide) ?_
  refine pf_X12_X12_thrown C hK hB hD 0 rfl dX12_back_2 (fun H locs u1 eu1 hB => ?_)
  have hf := ox_lt eu1 hf
  have hB : WB E ad s.heap [wModel E a_M u1] H locs := hB
  refine lv_aload_n hx hb dX12_back_5 rfl (lv_at hl 0 rfl) ?_
  refine gf_X12_X12_hasImage C hK (hB.1 0 _ rfl) dX12_back_6 ?_
  refine lv_if_ne (tgt := 14) hx hb dX12_back_9 (by decide) (fun c2 => ?_) (fun c2 => ?_)
  · have hf := (if_neg c2).symm.trans hf
    refine lv_aload_n hx hb dX12_back_14 rfl (lv_at hl 0 rfl) ?_
    refine lv_aload_n hx hb dX12_back_15 rfl (lv_at hl 0 rfl) ?_
    refine gf_X12_X12_image C hK (hB.1 0 _ rfl) dX12_back_16 ?_
    refine lv_iconst (v := 0) hx hb dX12_back_19 (by decide) ?_
    obtain ⟨r3, hr3, hf⟩ := ox_bind hf
    refine cxVX (bs1 := (fun q => [wModel E a_M r3])) (As := [.ref (a_M 43), .int (0 : Int32)]) (rest := []) (st1 := []) C hK (tX12_take_image l E a_M u1 (0 : Int32) r3 hr3) lk_X12_561 (by rw [hRf, hRl]; decide) ⟨Nat.zero_le _, Nat.zero_le _⟩ hB hD hN [0] (by decide) rfl (fun _ => rfl) (fun _ => rfl) (rc_X12 hK (hB.1 0 _ rfl)) rfl hl.1 rfl rfl (Nat.le_of_ble_eq_true rfl) dX12_back_20 (fun H locs q4 hB => ?_)
    have hB : WB E ad s.heap [wModel E a_M r3] H locs := hB
    refine lv_iconst (v := 0) hx hb dX12_back_23 (by decide) ?_
    refine lv_istore_n (lv' := [(1, .int (0 : Int32)), (0, .ref (a_M 0))]) hx hb dX12_back_24 rfl hl (by decide) rfl (fun ls hl => ?_)
    obtain ⟨X1, hX1, hf⟩ := ox_bind hf
    have hexit1 : ∀ y17, y17 = X1 → ∀ (ls : Array Slot) (H : Heap) (locs : List Loc), lv_has ls 2 [(0, .ref (a_M 0))] → WB E ad s.heap [wModel E a_M y17] H locs → W p l e R s m args below meth c H locs 0 0 Q (F0 m 64 ls []) := by
      intro y17 hy ls H locs hl hB
      subst hy
      refine lv_iconst (v := 0) hx hb dX12_back_64 (by decide) ?_
      refine lv_istore_n (lv' := [(1, .int (0 : Int32)), (0, .ref (a_M 0))]) hx hb dX12_back_65 rfl hl (by decide) rfl (fun ls hl => ?_)
      obtain ⟨X2, hX2, hf⟩ := ox_bind hf
      have hexit2 : ∀ y26, y26 = X2 → ∀ (ls : Array Slot) (H : Heap) (locs : List Loc), lv_has ls 2 [(0, .ref (a_M 0))] → WB E ad s.heap [wModel E a_M y26] H locs → W p l e R s m args below meth c H locs 0 0 Q (F0 m 92 ls []) := by
        intro y26 hy ls H locs hl hB
        subst hy
        refine lv_aload_n hx hb dX12_back_92 rfl (lv_at hl 0 rfl) ?_
        refine gf_X12_X12_latest C hK (hB.1 0 _ rfl) dX12_back_93 ?_
        refine lv_iconst (v := 0) hx hb dX12_back_96 (by decide) ?_
        refine lv_aload_n hx hb dX12_back_97 rfl (lv_at hl 0 rfl) ?_
        refine gf_X12_X12_imageRest C hK (hB.1 0 _ rfl) dX12_back_98 ?_
        refine lv_bipush (v := 16) hx hb dX12_back_101 (by decide) ?_
        refine ld_X12_imageRest C hK (hB.1 0 _ rfl) (by decide) rfl dX12_back_103 ?_
        refine lv_topi (fun x27 ex27 => ?_)
        have hf := ox_lt ex27 hf
        refine st_X12_latest C hK hB hD 0 rfl (by decide) rfl dX12_back_104 (fun H locs u28 eu28 hB => ?_)
        have hf := ox_lt eu28 hf
        have hB : WB E ad s.heap [wModel E a_M u28] H locs := hB
        refine lv_aload_n hx hb dX12_back_105 rfl (lv_at hl 0 rfl) ?_
        refine gf_X12_X12_refused C hK (hB.1 0 _ rfl) dX12_back_106 ?_
        refine lv_iconst (v := 0) hx hb dX12_back_109 (by decide) ?_
        refine lv_aload_n hx hb dX12_back_110 rfl (lv_at hl 0 rfl) ?_
        refine gf_X12_X12_imageRest C hK (hB.1 0 _ rfl) dX12_back_111 ?_
        refine lv_bipush (v := 17) hx hb dX12_back_114 (by decide) ?_
        refine ld_X12_imageRest C hK (hB.1 0 _ rfl) (by decide) rfl dX12_back_116 ?_
        refine lv_topi (fun x29 ex29 => ?_)
        have hf := ox_lt ex29 hf
        refine st_X12_refused C hK hB hD 0 rfl (by decide) rfl dX12_back_117 (fun H locs u30 eu30 hB => ?_)
        have hf := ox_lt eu30 hf
        have hB : WB E ad s.heap [wModel E a_M u30] H locs := hB
        refine lv_aload_n hx hb dX12_back_118 rfl (lv_at hl 0 rfl) ?_
        refine gf_X12_X12_coughed C hK (hB.1 0 _ rfl) dX12_back_119 ?_
        refine lv_iconst (v := 0) hx hb dX12_back_122 (by decide) ?_
        refine lv_aload_n hx hb dX12_back_123 rfl (lv_at hl 0 rfl) ?_
        refine gf_X12_X12_imageRest C hK (hB.1 0 _ rfl) dX12_back_124 ?_
        refine lv_bipush (v := 18) hx hb dX12_back_127 (by decide) ?_
        refine ld_X12_imageRest C hK (hB.1 0 _ rfl) (by decide) rfl dX12_back_129 ?_
        refine lv_topi (fun x31 ex31 => ?_)
        have hf := ox_lt ex31 hf
        refine st_X12_coughed C hK hB hD 0 rfl (by decide) rfl dX12_back_130 (fun H locs u32 eu32 hB => ?_)
        have hf := ox_lt eu32 hf
        have hB : WB E ad s.heap [wModel E a_M u32] H locs := hB
        refine lv_aload_n hx hb dX12_back_131 rfl (lv_at hl 0 rfl) ?_
        refine gf_X12_X12_minute C hK (hB.1 0 _ rfl) dX12_back_132 ?_
        refine lv_iconst (v := 0) hx hb dX12_back_135 (by decide) ?_
        refine lv_aload_n hx hb dX12_back_136 rfl (lv_at hl 0 rfl) ?_
        refine gf_X12_X12_imageRest C hK (hB.1 0 _ rfl) dX12_back_137 ?_
        refine lv_bipush (v := 19) hx hb dX12_back_140 (by decide) ?_
        refine ld_X12_imageRest C hK (hB.1 0 _ rfl) (by decide) rfl dX12_back_142 ?_
        refine lv_topi (fun x33 ex33 => ?_)
        have hf := ox_lt ex33 hf
        refine st_X12_minute C hK hB hD 0 rfl (by decide) rfl dX12_back_143 (fun H locs u34 eu34 hB => ?_)
        have hf := ox_lt eu34 hf
        have hB : WB E ad s.heap [wModel E a_M u34] H locs := hB
        refine lv_aload_n hx hb dX12_back_144 rfl (lv_at hl 0 rfl) ?_
        refine lv_aload_n hx hb dX12_back_145 rfl (lv_at hl 0 rfl) ?_
        refine gf_X12_X12_imageDrawn C hK (hB.1 0 _ rfl) dX12_back_146 ?_
        refine lv_topl (fun x35 ex35 => ?_)
        have hf := ox_lt ex35 hf
        refine pf_X12_X12_drawn C hK hB hD 0 rfl dX12_back_149 (fun H locs u36 eu36 hB => ?_)
        have hf := ox_lt eu36 hf
        have hB : WB E ad s.heap [wModel E a_M u36] H locs := hB
        refine lv_aload_n hx hb dX12_back_152 rfl (lv_at hl 0 rfl) ?_
        refine lv_iconst (v := 0) hx hb dX12_back_153 (by decide) ?_
        refine pf_X12_X12_undos C hK hB hD 0 rfl dX12_back_154 (fun H locs u37 eu37 hB => ?_)
        have hf := ox_lt eu37 hf
        have hB : WB E ad s.heap [wModel E a_M u37] H locs := hB
        refine lv_aload_n hx hb dX12_back_157 rfl (lv_at hl 0 rfl) ?_
        refine gf_X12_X12_minute C hK (hB.1 0 _ rfl) dX12_back_158 ?_
        refine lv_iconst (v := 0) hx hb dX12_back_161 (by decide) ?_
        refine ld_X12_minute C hK (hB.1 0 _ rfl) (by decide) rfl dX12_back_162 ?_
        have hf := Option.some.inj hf
        subst hf
        exact hQ _ _ H locs (fun _ => 0) hB dX12_back_163
      have hloop2 : ∀ (nf : Nat) (x18 : Int32) (u19 : St) (ls : Array Slot) (H : Heap) (locs : List Loc), lv_has ls 2 [(0, .ref (a_M 0)), (1, .int x18)] → WB E ad s.heap [wModel E a_M u19] H locs → fX12_back_L2 nf x18 u19 = some X2 → W p l e R s m args below meth c H locs 0 0 Q (F0 m 66 ls []) := by
        intro nf
        induction nf with
        | zero =>
          intro x18 u19 ls H locs hl hB hf
          simp [fX12_back_L2] at hf
        | succ nf ih =>
          intro x18 u19 ls H locs hl hB hf
          rw [fX12_back_L2] at hf
          refine lv_iload_n hx hb dX12_back_66 rfl (lv_at hl 1 rfl) ?_
          refine lv_iconst (v := 4) hx hb dX12_back_67 (by decide) ?_
          refine lv_icmp_ge (tgt := 92) hx hb dX12_back_68 (by decide) (fun c20 => ?_) (fun c20 => ?_)
          · have hf := (if_pos c20).symm.trans hf
            exact hexit2 _ (Option.some.inj hf) ls H locs (lv_sub hl [0] rfl) hB
          · have hf := (if_neg c20).symm.trans hf
            refine lv_aload_n hx hb dX12_back_71 rfl (lv_at hl 0 rfl) ?_
            refine gf_X12_X12_ground C hK (hB.1 0 _ rfl) dX12_back_72 ?_
            refine lv_iload_n hx hb dX12_back_75 rfl (lv_at hl 1 rfl) ?_
            refine lv_aload_n hx hb dX12_back_76 rfl (lv_at hl 0 rfl) ?_
            refine gf_X12_X12_imageRest C hK (hB.1 0 _ rfl) dX12_back_77 ?_
            refine lv_bipush (v := 12) hx hb dX12_back_80 (by decide) ?_
            refine lv_iload_n hx hb dX12_back_82 rfl (lv_at hl 1 rfl) ?_
            refine lv_iadd hx hb dX12_back_83 ?_
            obtain ⟨hn21, hf⟩ := ox_chk hf
            refine ld_X12_imageRest C hK (hB.1 0 _ rfl) hn21 rfl dX12_back_84 ?_
            refine lv_topi (fun x22 ex22 => ?_)
            have hf := ox_lt ex22 hf
            obtain ⟨hn23, hf⟩ := ox_chk hf
            refine st_X12_ground C hK hB hD 0 rfl hn23 rfl dX12_back_85 (fun H locs u24 eu24 hB => ?_)
            have hf := ox_lt eu24 hf
            have hB : WB E ad s.heap [wModel E a_M u24] H locs := hB
            obtain ⟨x25, ex25⟩ : ∃ z : Int32, z = (x18 + 1) := ⟨_, rfl⟩
            have hf := ox_lt ex25 hf
            refine lv_iinc (v := x25) (lv' := [(1, .int x25), (0, .ref (a_M 0))]) hx hb dX12_back_86 hl (k := 1) rfl (by rw [ex25]; rfl) (by decide) rfl (fun ls hl => ?_)
            refine lv_goto (tgt := 66) hx hb dX12_back_89 (by decide) ?_
            exact ih _ _ ls H locs (lv_sub hl [1, 0] rfl) hB hf
      exact hloop2 fuel _ _ ls H locs (lv_sub hl [1, 0] rfl) hB hX2
    have hloop1 : ∀ (nf : Nat) (x5 : Int32) (u6 : St) (ls : Array Slot) (H : Heap) (locs : List Loc), lv_has ls 2 [(0, .ref (a_M 0)), (1, .int x5)] → WB E ad s.heap [wModel E a_M u6] H locs → fX12_back_L1 nf x5 u6 = some X1 → W p l e R s m args below meth c H locs 0 0 Q (F0 m 25 ls []) := by
      intro nf
      induction nf with
      | zero =>
        intro x5 u6 ls H locs hl hB hf
        simp [fX12_back_L1] at hf
      | succ nf ih =>
        intro x5 u6 ls H locs hl hB hf
        rw [fX12_back_L1] at hf
        refine lv_iload_n hx hb dX12_back_25 rfl (lv_at hl 1 rfl) ?_
        refine lv_bipush (v := 6) hx hb dX12_back_26 (by decide) ?_
        refine lv_icmp_ge (tgt := 64) hx hb dX12_back_28 (by decide) (fun c7 => ?_) (fun c7 => ?_)
        · have hf := (if_pos c7).symm.trans hf
          exact hexit1 _ (Option.some.inj hf) ls H locs (lv_sub hl [0] rfl) hB
        · have hf := (if_neg c7).symm.trans hf
          refine lv_aload_n hx hb dX12_back_31 rfl (lv_at hl 0 rfl) ?_
          refine gf_X12_X12_tired C hK (hB.1 0 _ rfl) dX12_back_32 ?_
          refine lv_iload_n hx hb dX12_back_35 rfl (lv_at hl 1 rfl) ?_
          refine lv_aload_n hx hb dX12_back_36 rfl (lv_at hl 0 rfl) ?_
          refine gf_X12_X12_imageRest C hK (hB.1 0 _ rfl) dX12_back_37 ?_
          refine lv_iload_n hx hb dX12_back_40 rfl (lv_at hl 1 rfl) ?_
          obtain ⟨hn8, hf⟩ := ox_chk hf
          refine ld_X12_imageRest C hK (hB.1 0 _ rfl) hn8 rfl dX12_back_41 ?_
          refine lv_topi (fun x9 ex9 => ?_)
          have hf := ox_lt ex9 hf
          obtain ⟨hn10, hf⟩ := ox_chk hf
          refine st_X12_tired C hK hB hD 0 rfl hn10 rfl dX12_back_42 (fun H locs u11 eu11 hB => ?_)
          have hf := ox_lt eu11 hf
          have hB : WB E ad s.heap [wModel E a_M u11] H locs := hB
          refine lv_aload_n hx hb dX12_back_43 rfl (lv_at hl 0 rfl) ?_
          refine gf_X12_X12_clapped C hK (hB.1 0 _ rfl) dX12_back_44 ?_
          refine lv_iload_n hx hb dX12_back_47 rfl (lv_at hl 1 rfl) ?_
          refine lv_aload_n hx hb dX12_back_48 rfl (lv_at hl 0 rfl) ?_
          refine gf_X12_X12_imageRest C hK (hB.1 0 _ rfl) dX12_back_49 ?_
          refine lv_bipush (v := 6) hx hb dX12_back_52 (by decide) ?_
          refine lv_iload_n hx hb dX12_back_54 rfl (lv_at hl 1 rfl) ?_
          refine lv_iadd hx hb dX12_back_55 ?_
          obtain ⟨hn12, hf⟩ := ox_chk hf
          refine ld_X12_imageRest C hK (hB.1 0 _ rfl) hn12 rfl dX12_back_56 ?_
          refine lv_topi (fun x13 ex13 => ?_)
          have hf := ox_lt ex13 hf
          obtain ⟨hn14, hf⟩ := ox_chk hf
          refine st_X12_clapped C hK hB hD 0 rfl hn14 rfl dX12_back_57 (fun H locs u15 eu15 hB => ?_)
          have hf := ox_lt eu15 hf
          have hB : WB E ad s.heap [wModel E a_M u15] H locs := hB
          obtain ⟨x16, ex16⟩ : ∃ z : Int32, z = (x5 + 1) := ⟨_, rfl⟩
          have hf := ox_lt ex16 hf
          refine lv_iinc (v := x16) (lv' := [(1, .int x16), (0, .ref (a_M 0))]) hx hb dX12_back_58 hl (k := 1) rfl (by rw [ex16]; rfl) (by decide) rfl (fun ls hl => ?_)
          refine lv_goto (tgt := 25) hx hb dX12_back_61 (by decide) ?_
          exact ih _ _ ls H locs (lv_sub hl [1, 0] rfl) hB hf
    exact hloop1 fuel _ _ ls H locs (lv_sub hl [1, 0] rfl) hB hX1
  · have hf := (if_pos c2).symm.trans hf
    refine lv_iconst (v := (-1)) hx hb dX12_back_12 (by decide) ?_
    have hf := Option.some.inj hf
    subst hf
    exact hQ _ _ H locs (fun _ => 0) hB dX12_back_13
set_option maxHeartbeats 4000000 in
set_option maxRecDepth 20000 in
theorem tX12_count (l : Launch) (E : Ev) (a_M : Nat → Nat) (u_M : St) (x_1 : Int32) (res : Int32 × St) (hf : fX12_count u_M x_1 = some res) : MX l E yX12_count cX12_count 4 (some .int) (rmm 1 23) [wModel E a_M u_M] (fun q => [wModel E a_M res.2]) [.ref (a_M 0), .int x_1] (some (.int res.1)) := by
  unfold fX12_count at hf
  refine MX.ofI rfl (by decide) (Nat.le_of_ble_eq_true rfl) ?_
  intro p e R s m args below meth c ls Q ad H hRf hRl C hB hD hK hN hl hQ
  generalize hlocs : ([] : List Loc) = locs at hB ⊢
  clear hlocs
  have hx := C.1
  have hb := C.2.1
  have hl : lv_has ls 4 [(0, .ref (a_M 0)), (1, .int x_1)] := hl
  refine lv_aload_n hx hb dX12_count_0 rfl (lv_at hl 0 rfl) ?_
  refine lv_iconst (v := 0) hx hb dX12_count_1 (by decide) ?_
  refine pf_X12_X12_thrown C hK hB hD 0 rfl dX12_count_2 (fun H locs u1 eu1 hB => ?_)
  have hf := ox_lt eu1 hf
  have hB : WB E ad s.heap [wModel E a_M u1] H locs := hB
  refine lv_iconst (v := 0) hx hb dX12_count_5 (by decide) ?_
  refine lv_istore_n (lv' := [(2, .int (0 : Int32)), (0, .ref (a_M 0)), (1, .int x_1)]) hx hb dX12_count_6 rfl hl (by decide) rfl (fun ls hl => ?_)
  refine lv_iload_n hx hb dX12_count_7 rfl (lv_at hl 2 rfl) ?_
  by_cases c2 : x_1 = 0
  · have hf := (if_pos c2).symm.trans hf
    refine lv_tableIn hx hb dX12_count_8 (by rw [c2]; decide) (by rw [c2]; decide) (off := 80) (by rw [c2]; decide) (tgt := 88) (by decide) ?_
    refine lv_aload_n hx hb dX12_count_88 rfl (lv_at hl 1 rfl) ?_
    refine gf_X12_X12_acts C hK (hB.1 0 _ rfl) dX12_count_89 ?_
    have hf := Option.some.inj hf
    subst hf
    exact hQ _ _ H locs (fun _ => 0) hB dX12_count_92
  have hf := (if_neg c2).symm.trans hf
  by_cases c3 : x_1 = 1
  · have hf := (if_pos c3).symm.trans hf
    refine lv_tableIn hx hb dX12_count_8 (by rw [c3]; decide) (by rw [c3]; decide) (off := 85) (by rw [c3]; decide) (tgt := 93) (by decide) ?_
    refine lv_aload_n hx hb dX12_count_93 rfl (lv_at hl 1 rfl) ?_
    refine gf_X12_X12_guests C hK (hB.1 0 _ rfl) dX12_count_94 ?_
    have hf := Option.some.inj hf
    subst hf
    exact hQ _ _ H locs (fun _ => 0) hB dX12_count_97
  have hf := (if_neg c3).symm.trans hf
  by_cases c4 : x_1 = 2
  · have hf := (if_pos c4).symm.trans hf
    refine lv_tableIn hx hb dX12_count_8 (by rw [c4]; decide) (by rw [c4]; decide) (off := 90) (by rw [c4]; decide) (tgt := 98) (by decide) ?_
    refine lv_aload_n hx hb dX12_count_98 rfl (lv_at hl 1 rfl) ?_
    refine gf_X12_X12_grains C hK (hB.1 0 _ rfl) dX12_count_99 ?_
    have hf := Option.some.inj hf
    subst hf
    exact hQ _ _ H locs (fun _ => 0) hB dX12_count_102
  have hf := (if_neg c4).symm.trans hf
  by_cases c5 : x_1 = 3
  · have hf := (if_pos c5).symm.trans hf
    refine lv_tableIn hx hb dX12_count_8 (by rw [c5]; decide) (by rw [c5]; decide) (off := 95) (by rw [c5]; decide) (tgt := 103) (by decide) ?_
    refine lv_aload_n hx hb dX12_count_103 rfl (lv_at hl 1 rfl) ?_
    refine gf_X12_X12_shows C hK (hB.1 0 _ rfl) dX12_count_104 ?_
    have hf := Option.some.inj hf
    subst hf
    exact hQ _ _ H locs (fun _ => 0) hB dX12_count_107
  have hf := (if_neg c5).symm.trans hf
  by_cases c6 : x_1 = 4
  · have hf := (if_pos c6).symm.trans hf
    refine lv_tableIn hx hb dX12_count_8 (by rw [c6]; decide) (by rw [c6]; decide) (off := 100) (by rw [c6]; decide) (tgt := 108) (by decide) ?_
    refine lv_aload_n hx hb dX12_count_108 rfl (lv_at hl 1 rfl) ?_
    refine gf_X12_X12_knots C hK (hB.1 0 _ rfl) dX12_count_109 ?_
    have hf := Option.some.inj hf
    subst hf
    exact hQ _ _ H locs (fun _ => 0) hB dX12_count_112
  have hf := (if_neg c6).symm.trans hf
  by_cases c7 : x_1 = 5
  · have hf := (if_pos c7).symm.trans hf
    refine lv_tableIn hx hb dX12_count_8 (by rw [c7]; decide) (by rw [c7]; decide) (off := 105) (by rw [c7]; decide) (tgt := 113) (by decide) ?_
    refine lv_aload_n hx hb dX12_count_113 rfl (lv_at hl 1 rfl) ?_
    refine gf_X12_X12_minute C hK (hB.1 0 _ rfl) dX12_count_114 ?_
    refine lv_iconst (v := 0) hx hb dX12_count_117 (by decide) ?_
    refine ld_X12_minute C hK (hB.1 0 _ rfl) (by decide) rfl dX12_count_118 ?_
    have hf := Option.some.inj hf
    subst hf
    exact hQ _ _ H locs (fun _ => 0) hB dX12_count_119
  have hf := (if_neg c7).symm.trans hf
  by_cases c8 : x_1 = 6
  · have hf := (if_pos c8).symm.trans hf
    refine lv_tableIn hx hb dX12_count_8 (by rw [c8]; decide) (by rw [c8]; decide) (off := 112) (by rw [c8]; decide) (tgt := 120) (by decide) ?_
    refine lv_aload_n hx hb dX12_count_120 rfl (lv_at hl 1 rfl) ?_
    refine gf_X12_X12_speed C hK (hB.1 0 _ rfl) dX12_count_121 ?_
    refine lv_iconst (v := 0) hx hb dX12_count_124 (by decide) ?_
    refine ld_X12_speed C hK (hB.1 0 _ rfl) (by decide) rfl dX12_count_125 ?_
    have hf := Option.some.inj hf
    subst hf
    exact hQ _ _ H locs (fun _ => 0) hB dX12_count_126
  have hf := (if_neg c8).symm.trans hf
  by_cases c9 : x_1 = 7
  · have hf := (if_pos c9).symm.trans hf
    refine lv_tableIn hx hb dX12_count_8 (by rw [c9]; decide) (by rw [c9]; decide) (off := 119) (by rw [c9]; decide) (tgt := 127) (by decide) ?_
    refine lv_iconst (v := 0) hx hb dX12_count_127 (by decide) ?_
    refine lv_istore_n (lv' := [(3, .int (0 : Int32)), (2, .int (0 : Int32)), (0, .ref (a_M 0)), (1, .int x_1)]) hx hb dX12_count_128 rfl hl (by decide) rfl (fun ls hl => ?_)
    obtain ⟨X1, hX1, hf⟩ := ox_bind hf
    have hexit1 : ∀ y16, y16 = X1 → ∀ (ls : Array Slot) (H : Heap) (locs : List Loc), lv_has ls 4 [(2, .int y16)] → WB E ad s.heap [wModel E a_M u1] H locs → W p l e R s m args below meth c H locs 0 0 Q (F0 m 152 ls []) := by
      intro y16 hy ls H locs hl hB
      subst hy
      refine lv_iload_n hx hb dX12_count_152 rfl (lv_at hl 0 rfl) ?_
      have hf := Option.some.inj hf
      subst hf
      exact hQ _ _ H locs (fun _ => 0) hB dX12_count_153
    have hloop1 : ∀ (nf : Nat) (x10 : Int32) (x11 : Int32) (ls : Array Slot) (H : Heap) (locs : List Loc), lv_has ls 4 [(0, .ref (a_M 0)), (2, .int x10), (3, .int x11)] → WB E ad s.heap [wModel E a_M u1] H locs → fX12_count_L1 u1 nf x10 x11 = some X1 → W p l e R s m args below meth c H locs 0 0 Q (F0 m 129 ls []) := by
      intro nf
      induction nf with
      | zero =>
        intro x10 x11 ls H locs hl hB hf
        simp [fX12_count_L1] at hf
      | succ nf ih =>
        intro x10 x11 ls H locs hl hB hf
        rw [fX12_count_L1] at hf
        refine lv_iload_n hx hb dX12_count_129 rfl (lv_at hl 2 rfl) ?_
        refine lv_aload_n hx hb dX12_count_130 rfl (lv_at hl 0 rfl) ?_
        refine gf_X12_X12_grains C hK (hB.1 0 _ rfl) dX12_count_131 ?_
        refine lv_icmp_ge (tgt := 152) hx hb dX12_count_134 (by decide) (fun c12 => ?_) (fun c12 => ?_)
        · have hf := (if_pos c12).symm.trans hf
          exact hexit1 _ (Option.some.inj hf) ls H locs (lv_sub hl [1] rfl) hB
        · have hf := (if_neg c12).symm.trans hf
          refine lv_iload_n hx hb dX12_count_137 rfl (lv_at hl 1 rfl) ?_
          refine lv_aload_n hx hb dX12_count_138 rfl (lv_at hl 0 rfl) ?_
          refine lv_iconst (v := 0) hx hb dX12_count_139 (by decide) ?_
          refine lv_iload_n hx hb dX12_count_140 rfl (lv_at hl 2 rfl) ?_
          obtain ⟨r13, hr13, hf⟩ := ox_bind hf
          refine cxVP (As := [.int (0 : Int32), .int x11]) (rest := [.int x10]) (st1 := [.int r13, .int x10]) C hK (tX12_leftOf l E a_M u1 (0 : Int32) x11 r13 hr13) lk_X12_448 ⟨rfl, rfl⟩ (by rw [hRf, hRl]; decide) ⟨Nat.zero_le _, Nat.zero_le _⟩ (PB.sub hB.1 [0] rfl) (hB.old hD hN) (Nat.le_trans hN hB.2.2.1) (rc_X12 hK (hB.1 0 _ rfl)) rfl hl.1 rfl rfl (Nat.le_of_ble_eq_true rfl) dX12_count_141 ?_
          refine lv_iadd hx hb dX12_count_144 ?_
          refine lv_topi (fun x14 ex14 => ?_)
          have hf := ox_lt ex14 hf
          refine lv_istore_n (lv' := [(2, .int x14), (0, .ref (a_M 0)), (3, .int x11)]) hx hb dX12_count_145 rfl hl (by decide) rfl (fun ls hl => ?_)
          obtain ⟨x15, ex15⟩ : ∃ z : Int32, z = (x11 + 1) := ⟨_, rfl⟩
          have hf := ox_lt ex15 hf
          refine lv_iinc (v := x15) (lv' := [(3, .int x15), (2, .int x14), (0, .ref (a_M 0))]) hx hb dX12_count_146 hl (k := 2) rfl (by rw [ex15]; rfl) (by decide) rfl (fun ls hl => ?_)
          refine lv_goto (tgt := 129) hx hb dX12_count_149 (by decide) ?_
          exact ih _ _ ls H locs (lv_sub hl [2, 1, 0] rfl) hB hf
    exact hloop1 fuel _ _ ls H locs (lv_sub hl [2, 1, 0] rfl) hB hX1
  have hf := (if_neg c9).symm.trans hf
  by_cases c18 : x_1 = 8
  · have hf := (if_pos c18).symm.trans hf
    refine lv_tableIn hx hb dX12_count_8 (by rw [c18]; decide) (by rw [c18]; decide) (off := 146) (by rw [c18]; decide) (tgt := 154) (by decide) ?_
    refine lv_aload_n hx hb dX12_count_154 rfl (lv_at hl 1 rfl) ?_
    refine lv_iconst (v := 0) hx hb dX12_count_155 (by decide) ?_
    obtain ⟨r19, hr19, hf⟩ := ox_bind hf
    refine cxVP (As := [.int (0 : Int32)]) (rest := []) (st1 := [.int r19]) C hK (tX12_groundAll l E a_M u1 (0 : Int32) r19 hr19) lk_X12_410 ⟨rfl, rfl⟩ (by rw [hRf, hRl]; decide) ⟨Nat.zero_le _, Nat.zero_le _⟩ (PB.sub hB.1 [0] rfl) (hB.old hD hN) (Nat.le_trans hN hB.2.2.1) (rc_X12 hK (hB.1 0 _ rfl)) rfl hl.1 rfl rfl (Nat.le_of_ble_eq_true rfl) dX12_count_156 ?_
    have hf := Option.some.inj hf
    subst hf
    exact hQ _ _ H locs (fun _ => 0) hB dX12_count_159
  have hf := (if_neg c18).symm.trans hf
  by_cases c20 : x_1 = 9
  · have hf := (if_pos c20).symm.trans hf
    refine lv_tableIn hx hb dX12_count_8 (by rw [c20]; decide) (by rw [c20]; decide) (off := 152) (by rw [c20]; decide) (tgt := 160) (by decide) ?_
    refine lv_aload_n hx hb dX12_count_160 rfl (lv_at hl 1 rfl) ?_
    refine gf_X12_X12_refused C hK (hB.1 0 _ rfl) dX12_count_161 ?_
    refine lv_iconst (v := 0) hx hb dX12_count_164 (by decide) ?_
    refine ld_X12_refused C hK (hB.1 0 _ rfl) (by decide) rfl dX12_count_165 ?_
    have hf := Option.some.inj hf
    subst hf
    exact hQ _ _ H locs (fun _ => 0) hB dX12_count_166
  have hf := (if_neg c20).symm.trans hf
  by_cases c21 : x_1 = 10
  · have hf := (if_pos c21).symm.trans hf
    refine lv_tableIn hx hb dX12_count_8 (by rw [c21]; decide) (by rw [c21]; decide) (off := 159) (by rw [c21]; decide) (tgt := 167) (by decide) ?_
    refine lv_aload_n hx hb dX12_count_167 rfl (lv_at hl 1 rfl) ?_
    refine gf_X12_X12_coughed C hK (hB.1 0 _ rfl) dX12_count_168 ?_
    refine lv_iconst (v := 0) hx hb dX12_count_171 (by decide) ?_
    refine ld_X12_coughed C hK (hB.1 0 _ rfl) (by decide) rfl dX12_count_172 ?_
    have hf := Option.some.inj hf
    subst hf
    exact hQ _ _ H locs (fun _ => 0) hB dX12_count_173
  have hf := (if_neg c21).symm.trans hf
  by_cases c22 : x_1 = 11
  · have hf := (if_pos c22).symm.trans hf
    refine lv_tableIn hx hb dX12_count_8 (by rw [c22]; decide) (by rw [c22]; decide) (off := 166) (by rw [c22]; decide) (tgt := 174) (by decide) ?_
    refine lv_aload_n hx hb dX12_count_174 rfl (lv_at hl 1 rfl) ?_
    refine lv_iconst (v := 0) hx hb dX12_count_175 (by decide) ?_
    obtain ⟨r23, hr23, hf⟩ := ox_bind hf
    refine cxVP (As := [.int (0 : Int32)]) (rest := []) (st1 := [.int r23]) C hK (tX12_tiredAll l E a_M u1 (0 : Int32) r23 hr23) lk_X12_567 ⟨rfl, rfl⟩ (by rw [hRf, hRl]; decide) ⟨Nat.zero_le _, Nat.zero_le _⟩ (PB.sub hB.1 [0] rfl) (hB.old hD hN) (Nat.le_trans hN hB.2.2.1) (rc_X12 hK (hB.1 0 _ rfl)) rfl hl.1 rfl rfl (Nat.le_of_ble_eq_true rfl) dX12_count_176 ?_
    have hf := Option.some.inj hf
    subst hf
    exact hQ _ _ H locs (fun _ => 0) hB dX12_count_179
  have hf := (if_neg c22).symm.trans hf
  by_cases c24 : x_1 = 12
  · have hf := (if_pos c24).symm.trans hf
    refine lv_tableIn hx hb dX12_count_8 (by rw [c24]; decide) (by rw [c24]; decide) (off := 172) (by rw [c24]; decide) (tgt := 180) (by decide) ?_
    refine lv_aload_n hx hb dX12_count_180 rfl (lv_at hl 1 rfl) ?_
    refine gf_X12_X12_on C hK (hB.1 0 _ rfl) dX12_count_181 ?_
    refine lv_iconst (v := 0) hx hb dX12_count_184 (by decide) ?_
    refine ld_X12_on C hK (hB.1 0 _ rfl) (by decide) rfl dX12_count_185 ?_
    obtain ⟨x25, ex25, hf⟩ := ox_ex hf
    have hjx25 : W p l e R s m args below meth c H locs 0 0 Q (F0 m 200 ls [.int x25]) := by
      have hf := Option.some.inj hf
      subst hf
      exact hQ _ _ H locs (fun _ => 0) hB dX12_count_200
    refine lv_if_ge (tgt := 194) hx hb dX12_count_186 (by decide) (fun c26 => ?_) (fun c26 => ?_)
    · refine lv_aload_n hx hb dX12_count_194 rfl (lv_at hl 1 rfl) ?_
      refine gf_X12_X12_on C hK (hB.1 0 _ rfl) dX12_count_195 ?_
      refine lv_iconst (v := 0) hx hb dX12_count_198 (by decide) ?_
      refine ld_X12_on C hK (hB.1 0 _ rfl) (by decide) rfl dX12_count_199 ?_
      exact ox_topi ((ex25).trans (if_pos c26)).symm hjx25
    · refine lv_bipush (v := (-2)) hx hb dX12_count_189 (by decide) ?_
      refine lv_goto (tgt := 200) hx hb dX12_count_191 (by decide) ?_
      exact ox_topi ((ex25).trans (if_neg c26)).symm hjx25
  have hf := (if_neg c24).symm.trans hf
  by_cases c27 : x_1 = 13
  · have hf := (if_pos c27).symm.trans hf
    refine lv_tableIn hx hb dX12_count_8 (by rw [c27]; decide) (by rw [c27]; decide) (off := 193) (by rw [c27]; decide) (tgt := 201) (by decide) ?_
    refine lv_aload_n hx hb dX12_count_201 rfl (lv_at hl 1 rfl) ?_
    refine gf_X12_X12_seenMany C hK (hB.1 0 _ rfl) dX12_count_202 ?_
    have hf := Option.some.inj hf
    subst hf
    exact hQ _ _ H locs (fun _ => 0) hB dX12_count_205
  have hf := (if_neg c27).symm.trans hf
  by_cases c28 : x_1 = 14
  · have hf := (if_pos c28).symm.trans hf
    refine lv_tableIn hx hb dX12_count_8 (by rw [c28]; decide) (by rw [c28]; decide) (off := 198) (by rw [c28]; decide) (tgt := 206) (by decide) ?_
    refine lv_aload_n hx hb dX12_count_206 rfl (lv_at hl 1 rfl) ?_
    refine cxVP (As := []) (rest := []) (st1 := [.int (fX12_knownBy u1)]) C hK (tX12_knownBy l E a_M u1 (fX12_knownBy u1) rfl) lk_X12_540 ⟨rfl, rfl⟩ (by rw [hRf, hRl]; decide) ⟨Nat.zero_le _, Nat.zero_le _⟩ (PB.sub hB.1 [0] rfl) (hB.old hD hN) (Nat.le_trans hN hB.2.2.1) (rc_X12 hK (hB.1 0 _ rfl)) rfl hl.1 rfl rfl (Nat.le_of_ble_eq_true rfl) dX12_count_207 ?_
    have hf := Option.some.inj hf
    subst hf
    exact hQ _ _ H locs (fun _ => 0) hB dX12_count_210
  have hf := (if_neg c28).symm.trans hf
  by_cases c29 : x_1 = 15
  · have hf := (if_pos c29).symm.trans hf
    refine lv_tableIn hx hb dX12_count_8 (by rw [c29]; decide) (by rw [c29]; decide) (off := 203) (by rw [c29]; decide) (tgt := 211) (by decide) ?_
    refine lv_aload_n hx hb dX12_count_211 rfl (lv_at hl 1 rfl) ?_
    refine gf_X12_X12_undos C hK (hB.1 0 _ rfl) dX12_count_212 ?_
    have hf := Option.some.inj hf
    subst hf
    exact hQ _ _ H locs (fun _ => 0) hB dX12_count_215
  have hf := (if_neg c29).symm.trans hf
  have hd30 : W p l e R s m args below meth c H locs 0 0 Q (F0 m 216 ls []) := by
    refine lv_ldcw (v := -2147483648) hx hb C.2.2.2.1 (C.2.2.2.2 _ mw_1785) dX12_count_216 ?_
    have hf := Option.some.inj hf
    subst hf
    exact hQ _ _ H locs (fun _ => 0) hB dX12_count_219
  have nc2 := lv_neT c2 (show Int32.toInt 0 = 0 from rfl)
  have nc3 := lv_neT c3 (show Int32.toInt 1 = 1 from rfl)
  have nc4 := lv_neT c4 (show Int32.toInt 2 = 2 from rfl)
  have nc5 := lv_neT c5 (show Int32.toInt 3 = 3 from rfl)
  have nc6 := lv_neT c6 (show Int32.toInt 4 = 4 from rfl)
  have nc7 := lv_neT c7 (show Int32.toInt 5 = 5 from rfl)
  have nc8 := lv_neT c8 (show Int32.toInt 6 = 6 from rfl)
  have nc9 := lv_neT c9 (show Int32.toInt 7 = 7 from rfl)
  have nc18 := lv_neT c18 (show Int32.toInt 8 = 8 from rfl)
  have nc20 := lv_neT c20 (show Int32.toInt 9 = 9 from rfl)
  have nc21 := lv_neT c21 (show Int32.toInt 10 = 10 from rfl)
  have nc22 := lv_neT c22 (show Int32.toInt 11 = 11 from rfl)
  have nc24 := lv_neT c24 (show Int32.toInt 12 = 12 from rfl)
  have nc27 := lv_neT c27 (show Int32.toInt 13 = 13 from rfl)
  have nc28 := lv_neT c28 (show Int32.toInt 14 = 14 from rfl)
  have nc29 := lv_neT c29 (show Int32.toInt 15 = 15 from rfl)
  rcases (show Int32.toInt x_1 < 0 ∨ 15 < Int32.toInt x_1 by omega) with h | h
  · exact lv_tableOut hx hb dX12_count_8 (Or.inl h) (tgt := 216) (by decide) hd30
  · exact lv_tableOut hx hb dX12_count_8 (Or.inr h) (tgt := 216) (by decide) hd30
