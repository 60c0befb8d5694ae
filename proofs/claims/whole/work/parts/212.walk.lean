set_option maxHeartbeats 4000000 in
set_option maxRecDepth 20000 in
theorem tX12_layMill (l : Launch) (E : Ev) (a_M : Nat → Nat) (u_M : St) (x_1 : Int32) (x_2 : Int32) (res : St) (hf : fX12_layMill u_M x_1 x_2 = some res) : MX l E yX12_layMill cX12_layMill 3 none (rmm 1 21) [wModel E a_M u_M] (fun q => [wModel E a_M res]) [.ref (a_M 0), .int x_1, .int x_2] none := by
  unfold fX12_layMill at hf
  refine MX.ofV rfl (by decide) (Nat.le_of_ble_eq_true rfl) ?_
  intro p e R s m args below meth c ls Q ad H hRf hRl C hB hD hK hN hl hQ
  generalize hlocs : ([] : List Loc) = locs at hB ⊢
  clear hlocs
  have hx := C.1
  have hb := C.2.1
  have hl : lv_has ls 3 [(0, .ref (a_M 0)), (1, .int x_1), (2, .int x_2)] := hl
  refine lv_aload_n hx hb dX12_layMill_0 rfl (lv_at hl 0 rfl) ?_
  refine gf_X12_X12_names C hK (hB.1 0 _ rfl) dX12_layMill_1 ?_
  refine lv_iconst (v := 0) hx hb dX12_layMill_4 (by decide) ?_
  refine lv_aload_n hx hb dX12_layMill_5 rfl (lv_at hl 0 rfl) ?_
  refine lv_aload_n hx hb dX12_layMill_6 rfl (lv_at hl 0 rfl) ?_
  refine gf_X12_X12_on C hK (hB.1 0 _ rfl) dX12_layMill_7 ?_
  refine lv_iload_n hx hb dX12_layMill_10 rfl (lv_at hl 1 rfl) ?_
  obtain ⟨hn1, hf⟩ := ox_chk hf
  refine ld_X12_on C hK (hB.1 0 _ rfl) hn1 rfl dX12_layMill_11 ?_
  obtain ⟨r2, hr2, hf⟩ := ox_bind hf
  refine cxVP (As := [.int (gA u_M 53 (x_1).toNatClampNeg)]) (rest := [.int (0 : Int32), .ref (a_M 25)]) (st1 := [.int r2, .int (0 : Int32), .ref (a_M 25)]) C hK (tX12_moodNow l E a_M u_M (gA u_M 53 (x_1).toNatClampNeg) r2 hr2) lk_X12_404 ⟨rfl, rfl⟩ (by rw [hRf, hRl]; decide) ⟨Nat.zero_le _, Nat.zero_le _⟩ (PB.sub hB.1 [0] rfl) (hB.old hD hN) (Nat.le_trans hN hB.2.2.1) (rc_X12 hK (hB.1 0 _ rfl)) rfl hl.1 rfl rfl (Nat.le_of_ble_eq_true rfl) dX12_layMill_12 ?_
  refine lv_i2l hx hb dX12_layMill_15 rfl ?_
  refine lv_topl (fun x3 ex3 => ?_)
  have hf := ox_lt ex3 hf
  refine st_X12_names C hK hB hD 0 rfl (by decide) rfl dX12_layMill_16 (fun H locs u4 eu4 hB => ?_)
  have hf := ox_lt eu4 hf
  have hB : WB E ad s.heap [wModel E a_M u4] H locs := hB
  refine lv_aload_n hx hb dX12_layMill_17 rfl (lv_at hl 0 rfl) ?_
  refine gf_X12_X12_names C hK (hB.1 0 _ rfl) dX12_layMill_18 ?_
  refine lv_iconst (v := 1) hx hb dX12_layMill_21 (by decide) ?_
  refine lv_lconst (v := 0) hx hb dX12_layMill_22 (by decide) ?_
  refine st_X12_names C hK hB hD 0 rfl (by decide) rfl dX12_layMill_23 (fun H locs u5 eu5 hB => ?_)
  have hf := ox_lt eu5 hf
  have hB : WB E ad s.heap [wModel E a_M u5] H locs := hB
  refine lv_aload_n hx hb dX12_layMill_24 rfl (lv_at hl 0 rfl) ?_
  refine gf_X12_X12_names C hK (hB.1 0 _ rfl) dX12_layMill_25 ?_
  refine lv_iconst (v := 2) hx hb dX12_layMill_28 (by decide) ?_
  refine lv_lconst (v := 0) hx hb dX12_layMill_29 (by decide) ?_
  refine st_X12_names C hK hB hD 0 rfl (by decide) rfl dX12_layMill_30 (fun H locs u6 eu6 hB => ?_)
  have hf := ox_lt eu6 hf
  have hB : WB E ad s.heap [wModel E a_M u6] H locs := hB
  refine lv_aload_n hx hb dX12_layMill_31 rfl (lv_at hl 0 rfl) ?_
  refine gf_X12_X12_names C hK (hB.1 0 _ rfl) dX12_layMill_32 ?_
  refine lv_iconst (v := 3) hx hb dX12_layMill_35 (by decide) ?_
  refine lv_iload_n hx hb dX12_layMill_36 rfl (lv_at hl 2 rfl) ?_
  refine lv_i2l hx hb dX12_layMill_37 rfl ?_
  refine lv_topl (fun x7 ex7 => ?_)
  have hf := ox_lt ex7 hf
  refine st_X12_names C hK hB hD 0 rfl (by decide) rfl dX12_layMill_38 (fun H locs u8 eu8 hB => ?_)
  have hf := ox_lt eu8 hf
  have hB : WB E ad s.heap [wModel E a_M u8] H locs := hB
  refine lv_aload_n hx hb dX12_layMill_39 rfl (lv_at hl 0 rfl) ?_
  refine gf_X12_X12_names C hK (hB.1 0 _ rfl) dX12_layMill_40 ?_
  refine lv_iconst (v := 4) hx hb dX12_layMill_43 (by decide) ?_
  refine lv_aload_n hx hb dX12_layMill_44 rfl (lv_at hl 0 rfl) ?_
  refine gf_X12_X12_speed C hK (hB.1 0 _ rfl) dX12_layMill_45 ?_
  refine lv_iload_n hx hb dX12_layMill_48 rfl (lv_at hl 1 rfl) ?_
  obtain ⟨hn9, hf⟩ := ox_chk hf
  refine ld_X12_speed C hK (hB.1 0 _ rfl) hn9 rfl dX12_layMill_49 ?_
  refine lv_i2l hx hb dX12_layMill_50 rfl ?_
  refine lv_topl (fun x10 ex10 => ?_)
  have hf := ox_lt ex10 hf
  refine st_X12_names C hK hB hD 0 rfl (by decide) rfl dX12_layMill_51 (fun H locs u11 eu11 hB => ?_)
  have hf := ox_lt eu11 hf
  have hB : WB E ad s.heap [wModel E a_M u11] H locs := hB
  refine lv_aload_n hx hb dX12_layMill_52 rfl (lv_at hl 0 rfl) ?_
  refine gf_X12_X12_names C hK (hB.1 0 _ rfl) dX12_layMill_53 ?_
  refine lv_iconst (v := 5) hx hb dX12_layMill_56 (by decide) ?_
  refine lv_aload_n hx hb dX12_layMill_57 rfl (lv_at hl 0 rfl) ?_
  refine lv_iload_n hx hb dX12_layMill_58 rfl (lv_at hl 1 rfl) ?_
  obtain ⟨r12, hr12, hf⟩ := ox_bind hf
  refine cxVP (As := [.int x_1]) (rest := [.int (5 : Int32), .ref (a_M 25)]) (st1 := [.int r12, .int (5 : Int32), .ref (a_M 25)]) C hK (tX12_groundAll l E a_M u11 x_1 r12 hr12) lk_X12_410 ⟨rfl, rfl⟩ (by rw [hRf, hRl]; decide) ⟨Nat.zero_le _, Nat.zero_le _⟩ (PB.sub hB.1 [0] rfl) (hB.old hD hN) (Nat.le_trans hN hB.2.2.1) (rc_X12 hK (hB.1 0 _ rfl)) rfl hl.1 rfl rfl (Nat.le_of_ble_eq_true rfl) dX12_layMill_59 ?_
  refine lv_i2l hx hb dX12_layMill_62 rfl ?_
  refine lv_topl (fun x13 ex13 => ?_)
  have hf := ox_lt ex13 hf
  refine st_X12_names C hK hB hD 0 rfl (by decide) rfl dX12_layMill_63 (fun H locs u14 eu14 hB => ?_)
  have hf := ox_lt eu14 hf
  have hB : WB E ad s.heap [wModel E a_M u14] H locs := hB
  refine lv_aload_n hx hb dX12_layMill_64 rfl (lv_at hl 0 rfl) ?_
  refine gf_X12_X12_names C hK (hB.1 0 _ rfl) dX12_layMill_65 ?_
  refine lv_bipush (v := 6) hx hb dX12_layMill_68 (by decide) ?_
  refine lv_aload_n hx hb dX12_layMill_70 rfl (lv_at hl 0 rfl) ?_
  refine gf_X12_X12_minute C hK (hB.1 0 _ rfl) dX12_layMill_71 ?_
  refine lv_iload_n hx hb dX12_layMill_74 rfl (lv_at hl 1 rfl) ?_
  obtain ⟨hn15, hf⟩ := ox_chk hf
  refine ld_X12_minute C hK (hB.1 0 _ rfl) hn15 rfl dX12_layMill_75 ?_
  refine lv_i2l hx hb dX12_layMill_76 rfl ?_
  refine lv_topl (fun x16 ex16 => ?_)
  have hf := ox_lt ex16 hf
  refine st_X12_names C hK hB hD 0 rfl (by decide) rfl dX12_layMill_77 (fun H locs u17 eu17 hB => ?_)
  have hf := ox_lt eu17 hf
  have hB : WB E ad s.heap [wModel E a_M u17] H locs := hB
  have hf := Option.some.inj hf
  subst hf
  exact hQ _ _ H locs (fun _ => 0) hB dX12_layMill_78
set_option maxHeartbeats 4000000 in
set_option maxRecDepth 20000 in
theorem tX12_lawOf (l : Launch) (E : Ev) (a_M : Nat → Nat) (u_M : St) (x_1 : Int32) (res : Int64 × St) (hf : fX12_lawOf u_M x_1 = some res) : MX l E yX12_lawOf cX12_lawOf 3 (some .long) (rmm 2 50) [wModel E a_M u_M] (fun q => [wModel E a_M res.2]) [.ref (a_M 0), .int x_1] (some (.long res.1)) := by
  unfold fX12_lawOf at hf
  refine MX.ofL rfl (by decide) (Nat.le_of_ble_eq_true rfl) ?_
  intro p e R s m args below meth c ls Q ad H hRf hRl C hB hD hK hN hl hQ
  generalize hlocs : ([] : List Loc) = locs at hB ⊢
  clear hlocs
  have hx := C.1
  have hb := C.2.1
  have hl : lv_has ls 3 [(0, .ref (a_M 0)), (1, .int x_1)] := hl
  refine lv_aload_n hx hb dX12_lawOf_0 rfl (lv_at hl 0 rfl) ?_
  refine lv_iconst (v := 0) hx hb dX12_lawOf_1 (by decide) ?_
  refine pf_X12_X12_isError C hK hB hD 0 rfl (by decide) dX12_lawOf_2 (fun H locs u1 eu1 hB => ?_)
  have hf := ox_lt eu1 hf
  have hB : WB E ad s.heap [wModel E a_M u1] H locs := hB
  refine lv_aload_n hx hb dX12_lawOf_5 rfl (lv_at hl 0 rfl) ?_
  refine gf_X12_X12_from C hK (hB.1 0 _ rfl) dX12_lawOf_6 ?_
  refine lv_iload_n hx hb dX12_lawOf_9 rfl (lv_at hl 1 rfl) ?_
  obtain ⟨hn2, hf⟩ := ox_chk hf
  refine ld_X12_from C hK (hB.1 0 _ rfl) hn2 rfl dX12_lawOf_10 ?_
  refine lv_topi (fun x3 ex3 => ?_)
  have hf := ox_lt ex3 hf
  refine lv_istore_n (lv' := [(2, .int x3), (0, .ref (a_M 0)), (1, .int x_1)]) hx hb dX12_lawOf_11 rfl hl (by decide) rfl (fun ls hl => ?_)
  obtain ⟨X1, hX1, hf⟩ := ox_bind hf
  have hexit1 : ∀ y14, y14 = X1 → ∀ (ls : Array Slot) (H : Heap) (locs : List Loc), lv_has ls 3 [(0, .ref (a_M 0)), (1, .int x_1)] → WB E ad s.heap [wModel E a_M y14] H locs → W p l e R s m args below meth c H locs 0 0 Q (F0 m 39 ls []) := by
    intro y14 hy ls H locs hl hB
    subst hy
    refine lv_aload_n hx hb dX12_lawOf_39 rfl (lv_at hl 0 rfl) ?_
    refine gf_X12_X12_isError C hK (hB.1 0 _ rfl) dX12_lawOf_40 ?_
    refine lv_if_eq (tgt := 50) hx hb dX12_lawOf_43 (by decide) (fun c15 => ?_) (fun c15 => ?_)
    · have hf := (if_pos c15).symm.trans hf
      refine lv_aload_n hx hb dX12_lawOf_50 rfl (lv_at hl 0 rfl) ?_
      refine gf_X12_X12_value C hK (hB.1 0 _ rfl) dX12_lawOf_51 ?_
      refine lv_aload_n hx hb dX12_lawOf_54 rfl (lv_at hl 0 rfl) ?_
      refine gf_X12_X12_to C hK (hB.1 0 _ rfl) dX12_lawOf_55 ?_
      refine lv_iload_n hx hb dX12_lawOf_58 rfl (lv_at hl 1 rfl) ?_
      obtain ⟨hn16, hf⟩ := ox_chk hf
      refine ld_X12_to C hK (hB.1 0 _ rfl) hn16 rfl dX12_lawOf_59 ?_
      refine lv_iconst (v := 1) hx hb dX12_lawOf_60 (by decide) ?_
      refine lv_isub hx hb dX12_lawOf_61 ?_
      obtain ⟨hn17, hf⟩ := ox_chk hf
      refine ld_X12_value C hK (hB.1 0 _ rfl) hn17 rfl dX12_lawOf_62 ?_
      have hf := Option.some.inj hf
      subst hf
      exact hQ _ _ H locs (fun _ => 0) hB dX12_lawOf_63
    · have hf := (if_neg c15).symm.trans hf
      refine lv_lconst (v := 0) hx hb dX12_lawOf_46 (by decide) ?_
      refine lv_goto (tgt := 63) hx hb dX12_lawOf_47 (by decide) ?_
      have hf := Option.some.inj hf
      subst hf
      exact hQ _ _ H locs (fun _ => 0) hB dX12_lawOf_63
  have hloop1 : ∀ (nf : Nat) (x4 : Int32) (u5 : St) (ls : Array Slot) (H : Heap) (locs : List Loc), lv_has ls 3 [(0, .ref (a_M 0)), (1, .int x_1), (2, .int x4)] → WB E ad s.heap [wModel E a_M u5] H locs → fX12_lawOf_L1 x_1 nf x4 u5 = some X1 → W p l e R s m args below meth c H locs 0 0 Q (F0 m 12 ls []) := by
    intro nf
    induction nf with
    | zero =>
      intro x4 u5 ls H locs hl hB hf
      simp [fX12_lawOf_L1] at hf
    | succ nf ih =>
      intro x4 u5 ls H locs hl hB hf
      rw [fX12_lawOf_L1] at hf
      refine lv_iload_n hx hb dX12_lawOf_12 rfl (lv_at hl 2 rfl) ?_
      refine lv_aload_n hx hb dX12_lawOf_13 rfl (lv_at hl 0 rfl) ?_
      refine gf_X12_X12_to C hK (hB.1 0 _ rfl) dX12_lawOf_14 ?_
      refine lv_iload_n hx hb dX12_lawOf_17 rfl (lv_at hl 1 rfl) ?_
      obtain ⟨hn6, hf⟩ := ox_chk hf
      refine ld_X12_to C hK (hB.1 0 _ rfl) hn6 rfl dX12_lawOf_18 ?_
      refine lv_icmp_ge (tgt := 39) hx hb dX12_lawOf_19 (by decide) (fun c7 => ?_) (fun c7 => ?_)
      · have hf := (if_pos c7).symm.trans hf
        exact hexit1 _ (Option.some.inj hf) ls H locs (lv_sub hl [0, 1] rfl) hB
      · have hf := (if_neg c7).symm.trans hf
        refine lv_aload_n hx hb dX12_lawOf_22 rfl (lv_at hl 0 rfl) ?_
        refine gf_X12_X12_value C hK (hB.1 0 _ rfl) dX12_lawOf_23 ?_
        refine lv_iload_n hx hb dX12_lawOf_26 rfl (lv_at hl 2 rfl) ?_
        refine lv_aload_n hx hb dX12_lawOf_27 rfl (lv_at hl 0 rfl) ?_
        refine lv_iload_n hx hb dX12_lawOf_28 rfl (lv_at hl 2 rfl) ?_
        obtain ⟨r8, hr8, hf⟩ := ox_bind hf
        refine cxVX (bs1 := (fun q => [wModel E a_M r8.2])) (As := [.int x4]) (rest := [.int x4, .ref (a_M 26)]) (st1 := [.long r8.1, .int x4, .ref (a_M 26)]) C hK (tX12_valueOf l E a_M u5 x4 r8 hr8) lk_X12_413 (by rw [hRf, hRl]; decide) ⟨Nat.zero_le _, Nat.zero_le _⟩ hB hD hN [0] (by decide) rfl (fun _ => rfl) (fun _ => rfl) (rc_X12 hK (hB.1 0 _ rfl)) rfl hl.1 rfl rfl (Nat.le_of_ble_eq_true rfl) dX12_lawOf_29 (fun H locs q9 hB => ?_)
        have hB : WB E ad s.heap [wModel E a_M r8.2] H locs := hB
        refine lv_topl (fun x10 ex10 => ?_)
        have hf := ox_lt ex10 hf
        obtain ⟨hn11, hf⟩ := ox_chk hf
        refine st_X12_value C hK hB hD 0 rfl hn11 rfl dX12_lawOf_32 (fun H locs u12 eu12 hB => ?_)
        have hf := ox_lt eu12 hf
        have hB : WB E ad s.heap [wModel E a_M u12] H locs := hB
        obtain ⟨x13, ex13⟩ : ∃ z : Int32, z = (x4 + 1) := ⟨_, rfl⟩
        have hf := ox_lt ex13 hf
        refine lv_iinc (v := x13) (lv' := [(2, .int x13), (0, .ref (a_M 0)), (1, .int x_1)]) hx hb dX12_lawOf_33 hl (k := 2) rfl (by rw [ex13]; rfl) (by decide) rfl (fun ls hl => ?_)
        refine lv_goto (tgt := 12) hx hb dX12_lawOf_36 (by decide) ?_
        exact ih _ _ ls H locs (lv_sub hl [1, 2, 0] rfl) hB hf
  exact hloop1 fuel _ _ ls H locs (lv_sub hl [1, 2, 0] rfl) hB hX1
set_option maxHeartbeats 4000000 in
set_option maxRecDepth 20000 in
theorem tX12_bounded_ (l : Launch) (E : Ev) (x_0 : Int32) (x_1 : Int32) (x_2 : Int32) (res : Int32) (hf : fX12_bounded_ x_0 x_1 x_2 = res) : MP l E yX12_bounded_ cX12_bounded_ 3 (some .int) (rmm 0 0) [] [.int x_0, .int x_1, .int x_2] (some (.int res)) := by
  unfold fX12_bounded_ at hf
  refine MP.ofI rfl (by decide) (Nat.le_of_ble_eq_true rfl) ?_
  intro p e R s m args below meth c ls Q hRf hRl C hP hK hN hl hQ
  have hx := C.1
  have hb := C.2.1
  have hl : lv_has ls 3 [(0, .int x_0), (1, .int x_1), (2, .int x_2)] := hl
  refine lv_iload_n hx hb dX12_bounded__0 rfl (lv_at hl 0 rfl) ?_
  refine lv_iload_n hx hb dX12_bounded__1 rfl (lv_at hl 1 rfl) ?_
  obtain ⟨x1, ex1, hf⟩ := ox_ex hf
  have hjx1 : W p l e R s m args below meth c s.heap [] 0 0 Q (F0 m 19 ls [.int x1]) := by
    subst hf
    exact hQ _ _ dX12_bounded__19
  refine lv_icmp_ge (tgt := 9) hx hb dX12_bounded__2 (by decide) (fun c2 => ?_) (fun c2 => ?_)
  · refine lv_iload_n hx hb dX12_bounded__9 rfl (lv_at hl 0 rfl) ?_
    refine lv_iload_n hx hb dX12_bounded__10 rfl (lv_at hl 2 rfl) ?_
    refine lv_icmp_le (tgt := 18) hx hb dX12_bounded__11 (by decide) (fun c3 => ?_) (fun c3 => ?_)
    · refine lv_iload_n hx hb dX12_bounded__18 rfl (lv_at hl 0 rfl) ?_
      exact ox_topi (((ex1).trans (if_pos c2)).trans (if_pos c3)).symm hjx1
    · refine lv_iload_n hx hb dX12_bounded__14 rfl (lv_at hl 2 rfl) ?_
      refine lv_goto (tgt := 19) hx hb dX12_bounded__15 (by decide) ?_
      exact ox_topi (((ex1).trans (if_pos c2)).trans (if_neg c3)).symm hjx1
  · refine lv_iload_n hx hb dX12_bounded__5 rfl (lv_at hl 1 rfl) ?_
    refine lv_goto (tgt := 19) hx hb dX12_bounded__6 (by decide) ?_
    exact ox_topi ((ex1).trans (if_neg c2)).symm hjx1
set_option maxHeartbeats 4000000 in
set_option maxRecDepth 20000 in
theorem tX12_boundLaw (l : Launch) (E : Ev) (a_M : Nat → Nat) (u_M : St) (x_1 : Int32) (x_2 : Int32) (x_3 : Int32) (x_4 : Int32) (res : Int32 × St) (hf : fX12_boundLaw u_M x_1 x_2 x_3 x_4 = some res) : MX l E yX12_boundLaw cX12_boundLaw 7 (some .int) (rmm 3 72) [wModel E a_M u_M] (fun q => [wModel E a_M res.2]) [.ref (a_M 0), .int x_1, .int x_2, .int x_3, .int x_4] (some (.int res.1)) := by
  unfold fX12_boundLaw at hf
  refine MX.ofI rfl (by decide) (Nat.le_of_ble_eq_true rfl) ?_
  intro p e R s m args below meth c ls Q ad H hRf hRl C hB hD hK hN hl hQ
  generalize hlocs : ([] : List Loc) = locs at hB ⊢
  clear hlocs
  have hx := C.1
  have hb := C.2.1
  have hl : lv_has ls 7 [(0, .ref (a_M 0)), (1, .int x_1), (2, .int x_2), (3, .int x_3), (4, .int x_4)] := hl
  refine lv_aload_n hx hb dX12_boundLaw_0 rfl (lv_at hl 0 rfl) ?_
  refine gf_X12_X12_lawTold C hK (hB.1 0 _ rfl) dX12_boundLaw_1 ?_
  refine lv_iload_n hx hb dX12_boundLaw_4 rfl (lv_at hl 1 rfl) ?_
  obtain ⟨hn1, hf⟩ := ox_chk hf
  refine ld_X12_lawTold C hK (hB.1 0 _ rfl) hn1 rfl dX12_boundLaw_5 ?_
  refine lv_if_ne (tgt := 11) hx hb dX12_boundLaw_6 (by decide) (fun c2 => ?_) (fun c2 => ?_)
  · have hf := (if_neg c2).symm.trans hf
    refine lv_aload_n hx hb dX12_boundLaw_11 rfl (lv_at hl 0 rfl) ?_
    refine lv_iload_n hx hb dX12_boundLaw_12 rfl (lv_at hl 1 rfl) ?_
    obtain ⟨r3, hr3, hf⟩ := ox_bind hf
    refine cxVX (bs1 := (fun q => [wModel E a_M r3.2])) (As := [.int x_1]) (rest := []) (st1 := [.long r3.1]) C hK (tX12_lawOf l E a_M u_M x_1 r3 hr3) lk_X12_417 (by rw [hRf, hRl]; decide) ⟨Nat.zero_le _, Nat.zero_le _⟩ hB hD hN [0] (by decide) rfl (fun _ => rfl) (fun _ => rfl) (rc_X12 hK (hB.1 0 _ rfl)) rfl hl.1 rfl rfl (Nat.le_of_ble_eq_true rfl) dX12_boundLaw_13 (fun H locs q4 hB => ?_)
    have hB : WB E ad s.heap [wModel E a_M r3.2] H locs := hB
    refine lv_topl (fun x5 ex5 => ?_)
    have hf := ox_lt ex5 hf
    refine lv_lstore (lv' := [(5, .long x5), (0, .ref (a_M 0)), (1, .int x_1), (2, .int x_2), (3, .int x_3), (4, .int x_4)]) hx hb dX12_boundLaw_16 hl (by decide) rfl (fun ls hl => ?_)
    refine lv_aload_n hx hb dX12_boundLaw_18 rfl (lv_at hl 1 rfl) ?_
    refine gf_X12_X12_isError C hK (hB.1 0 _ rfl) dX12_boundLaw_19 ?_
    refine lv_if_eq (tgt := 27) hx hb dX12_boundLaw_22 (by decide) (fun c6 => ?_) (fun c6 => ?_)
    · have hf := (if_pos c6).symm.trans hf
      refine lv_lload hx hb dX12_boundLaw_27 (lv_at hl 0 rfl) ?_
      refine lv_iload_n hx hb dX12_boundLaw_29 rfl (lv_at hl 4 rfl) ?_
      refine lv_i2l hx hb dX12_boundLaw_30 rfl ?_
      refine W.lcmp hx hb dX12_boundLaw_31 ?_
      obtain ⟨x7, ex7, hf⟩ := ox_ex hf
      have hjx7 : W p l e R s m args below meth c H locs 0 0 Q (F0 m 56 ls [.int x7]) := by
        have hf := Option.some.inj hf
        subst hf
        exact hQ _ _ H locs (fun _ => 0) hB dX12_boundLaw_56
      refine lx_if_ge (tgt := 39) hx hb dX12_boundLaw_32 (by decide) (fun c8 => ?_) (fun c8 => ?_)
      · refine lv_lload hx hb dX12_boundLaw_39 (lv_at hl 0 rfl) ?_
        refine lv_iload hx hb dX12_boundLaw_41 (lv_at hl 5 rfl) ?_
        refine lv_i2l hx hb dX12_boundLaw_43 rfl ?_
        refine W.lcmp hx hb dX12_boundLaw_44 ?_
        refine lx_if_le (tgt := 53) hx hb dX12_boundLaw_45 (by decide) (fun c9 => ?_) (fun c9 => ?_)
        · refine lv_lload hx hb dX12_boundLaw_53 (lv_at hl 0 rfl) ?_
          refine lv_l2i hx hb dX12_boundLaw_55 rfl ?_
          exact ox_topi (((ex7).trans (if_pos c8)).trans (if_pos c9)).symm hjx7
        · refine lv_iload hx hb dX12_boundLaw_48 (lv_at hl 5 rfl) ?_
          refine lv_goto (tgt := 56) hx hb dX12_boundLaw_50 (by decide) ?_
          exact ox_topi (((ex7).trans (if_pos c8)).trans (if_neg c9)).symm hjx7
      · refine lv_iload_n hx hb dX12_boundLaw_35 rfl (lv_at hl 4 rfl) ?_
        refine lv_goto (tgt := 56) hx hb dX12_boundLaw_36 (by decide) ?_
        exact ox_topi ((ex7).trans (if_neg c8)).symm hjx7
    · have hf := (if_neg c6).symm.trans hf
      refine lv_iload_n hx hb dX12_boundLaw_25 rfl (lv_at hl 3 rfl) ?_
      have hf := Option.some.inj hf
      subst hf
      exact hQ _ _ H locs (fun _ => 0) hB dX12_boundLaw_26
  · have hf := (if_pos c2).symm.trans hf
    refine lv_iload_n hx hb dX12_boundLaw_9 rfl (lv_at hl 2 rfl) ?_
    have hf := Option.some.inj hf
    subst hf
    exact hQ _ _ H locs (fun _ => 0) hB dX12_boundLaw_10
set_option maxHeartbeats 4000000 in
set_option maxRecDepth 20000 in
theorem tX12_less (l : Launch) (E : Ev) (x_0 : Int32) (x_1 : Int32) (res : Int32) (hf : fX12_less x_0 x_1 = res) : MP l E yX12_less cX12_less 2 (some .int) (rmm 0 0) [] [.int x_0, .int x_1] (some (.int res)) := by
  unfold fX12_less at hf
  refine MP.ofI rfl (by decide) (Nat.le_of_ble_eq_true rfl) ?_
  intro p e R s m args below meth c ls Q hRf hRl C hP hK hN hl hQ
  have hx := C.1
  have hb := C.2.1
  have hl : lv_has ls 2 [(0, .int x_0), (1, .int x_1)] := hl
  refine lv_iload_n hx hb dX12_less_0 rfl (lv_at hl 0 rfl) ?_
  refine lv_iload_n hx hb dX12_less_1 rfl (lv_at hl 1 rfl) ?_
  obtain ⟨x1, ex1, hf⟩ := ox_ex hf
  have hjx1 : W p l e R s m args below meth c s.heap [] 0 0 Q (F0 m 14 ls [.int x1]) := by
    subst hf
    exact hQ _ _ dX12_less_14
  refine lv_icmp_ge (tgt := 11) hx hb dX12_less_2 (by decide) (fun c2 => ?_) (fun c2 => ?_)
  · refine lv_iload_n hx hb dX12_less_11 rfl (lv_at hl 0 rfl) ?_
    refine lv_iload_n hx hb dX12_less_12 rfl (lv_at hl 1 rfl) ?_
    refine lv_isub hx hb dX12_less_13 ?_
    exact ox_topi ((ex1).trans (if_pos c2)).symm hjx1
  · refine lv_iload_n hx hb dX12_less_5 rfl (lv_at hl 1 rfl) ?_
    refine lv_iload_n hx hb dX12_less_6 rfl (lv_at hl 0 rfl) ?_
    refine lv_isub hx hb dX12_less_7 ?_
    refine lv_goto (tgt := 14) hx hb dX12_less_8 (by decide) ?_
    exact ox_topi ((ex1).trans (if_neg c2)).symm hjx1
set_option maxHeartbeats 4000000 in
set_option maxRecDepth 20000 in
theorem tX12_without (l : Launch) (E : Ev) (a_M : Nat → Nat) (u_M : St) (x_1 : Int32) (x_2 : Int32) (res : Int32) (hf : fX12_without u_M x_1 x_2 = some res) : MP l E yX12_without cX12_without 3 (some .int) (rmm 1 21) [wModel E a_M u_M] [.ref (a_M 0), .int x_1, .int x_2] (some (.int res)) := by
  unfold fX12_without at hf
  refine MP.ofI rfl (by decide) (Nat.le_of_ble_eq_true rfl) ?_
  intro p e R s m args below meth c ls Q hRf hRl C hP hK hN hl hQ
  have hx := C.1
  have hb := C.2.1
  have hl : lv_has ls 3 [(0, .ref (a_M 0)), (1, .int x_1), (2, .int x_2)] := hl
  refine lv_iconst (v := 5) hx hb dX12_without_0 (by decide) ?_
  refine lv_aload_n hx hb dX12_without_1 rfl (lv_at hl 0 rfl) ?_
  refine gf_X12_X12_guestTaste C hK (hP 0 _ rfl) dX12_without_2 ?_
  refine lv_iload_n hx hb dX12_without_5 rfl (lv_at hl 1 rfl) ?_
  obtain ⟨hn1, hf⟩ := ox_chk hf
  refine ld_X12_guestTaste C hK (hP 0 _ rfl) hn1 rfl dX12_without_6 ?_
  refine lv_aload_n hx hb dX12_without_7 rfl (lv_at hl 0 rfl) ?_
  refine lv_iload_n hx hb dX12_without_8 rfl (lv_at hl 2 rfl) ?_
  obtain ⟨r2, hr2, hf⟩ := ox_bind hf
  refine cxVP (As := [.int x_2]) (rest := [.int (gA u_M 28 (x_1).toNatClampNeg), .int (5 : Int32)]) (st1 := [.int r2, .int (gA u_M 28 (x_1).toNatClampNeg), .int (5 : Int32)]) C hK (tX12_moodNow l E a_M u_M x_2 r2 hr2) lk_X12_404 ⟨rfl, rfl⟩ (by rw [hRf, hRl]; decide) ⟨Nat.zero_le _, Nat.zero_le _⟩ (PB.sub hP [0] rfl) (fun _ _ => rfl) hN (rc_X12 hK (hP 0 _ rfl)) rfl hl.1 rfl rfl (Nat.le_of_ble_eq_true rfl) dX12_without_9 ?_
  refine cxSP (As := [.int (gA u_M 28 (x_1).toNatClampNeg), .int r2]) (rest := [.int (5 : Int32)]) (st1 := [.int (fX12_less (gA u_M 28 (x_1).toNatClampNeg) r2), .int (5 : Int32)]) C hK (tX12_less l E (gA u_M 28 (x_1).toNatClampNeg) r2 (fX12_less (gA u_M 28 (x_1).toNatClampNeg) r2) rfl) lk_X12_420 ⟨rfl, rfl⟩ (by rw [hRf, hRl]; decide) ⟨Nat.zero_le _, Nat.zero_le _⟩ (PB.sub hP [] rfl) (fun _ _ => rfl) hN rfl hl.1 rfl rfl (Nat.le_of_ble_eq_true rfl) dX12_without_12 ?_
  refine lv_isub hx hb dX12_without_15 ?_
  have hf := Option.some.inj hf
  subst hf
  exact hQ _ _ dX12_without_16
set_option maxHeartbeats 4000000 in
set_option maxRecDepth 20000 in
theorem tX12_clapOf (l : Launch) (E : Ev) (a_M : Nat → Nat) (u_M : St) (x_1 : Int32) (x_2 : Int32) (x_3 : Int32) (x_4 : Int32) (res : Int32 × St) (hf : fX12_clapOf u_M x_1 x_2 x_3 x_4 = some res) : MX l E yX12_clapOf cX12_clapOf 5 (some .int) (rmm 4 98) [wModel E a_M u_M] (fun q => [wModel E a_M res.2]) [.ref (a_M 0), .int x_1, .int x_2, .int x_3, .int x_4] (some (.int res.1)) := by
  unfold fX12_clapOf at hf
  refine MX.ofI rfl (by decide) (Nat.le_of_ble_eq_true rfl) ?_
  intro p e R s m args below meth c ls Q ad H hRf hRl C hB hD hK hN hl hQ
  generalize hlocs : ([] : List Loc) = locs at hB ⊢
  clear hlocs
  have hx := C.1
  have hb := C.2.1
  have hl : lv_has ls 5 [(0, .ref (a_M 0)), (1, .int x_1), (2, .int x_2), (3, .int x_3), (4, .int x_4)] := hl
  refine lv_iload_n hx hb dX12_clapOf_0 rfl (lv_at hl 2 rfl) ?_
  refine lv_aload_n hx hb dX12_clapOf_1 rfl (lv_at hl 0 rfl) ?_
  refine gf_X12_X12_mute C hK (hB.1 0 _ rfl) dX12_clapOf_2 ?_
  refine lv_icmp_ne (tgt := 10) hx hb dX12_clapOf_5 (by decide) (fun c1 => ?_) (fun c1 => ?_)
  · have hf := (if_neg c1).symm.trans hf
    refine lv_aload_n hx hb dX12_clapOf_10 rfl (lv_at hl 0 rfl) ?_
    refine lv_iload_n hx hb dX12_clapOf_11 rfl (lv_at hl 1 rfl) ?_
    refine lv_iload_n hx hb dX12_clapOf_12 rfl (lv_at hl 2 rfl) ?_
    refine lv_iload_n hx hb dX12_clapOf_13 rfl (lv_at hl 3 rfl) ?_
    refine lv_iload hx hb dX12_clapOf_14 (lv_at hl 4 rfl) ?_
    obtain ⟨r2, hr2, hf⟩ := ox_bind hf
    refine cxVX (bs1 := (fun q => [wModel E a_M r2])) (As := [.int x_1, .int x_2, .int x_3, .int x_4]) (rest := []) (st1 := []) C hK (tX12_layGuest l E a_M u_M x_1 x_2 x_3 x_4 r2 hr2) lk_X12_423 (by rw [hRf, hRl]; decide) ⟨Nat.zero_le _, Nat.zero_le _⟩ hB hD hN [0] (by decide) rfl (fun _ => rfl) (fun _ => rfl) (rc_X12 hK (hB.1 0 _ rfl)) rfl hl.1 rfl rfl (Nat.le_of_ble_eq_true rfl) dX12_clapOf_16 (fun H locs q3 hB => ?_)
    have hB : WB E ad s.heap [wModel E a_M r2] H locs := hB
    refine lv_aload_n hx hb dX12_clapOf_19 rfl (lv_at hl 0 rfl) ?_
    refine lv_iconst (v := 0) hx hb dX12_clapOf_20 (by decide) ?_
    refine lv_aload_n hx hb dX12_clapOf_21 rfl (lv_at hl 0 rfl) ?_
    refine lv_iload_n hx hb dX12_clapOf_22 rfl (lv_at hl 2 rfl) ?_
    refine lv_iload_n hx hb dX12_clapOf_23 rfl (lv_at hl 3 rfl) ?_
    obtain ⟨r4, hr4, hf⟩ := ox_bind hf
    refine cxVP (As := [.int x_2, .int x_3]) (rest := [.int (0 : Int32), .ref (a_M 0)]) (st1 := [.int r4, .int (0 : Int32), .ref (a_M 0)]) C hK (tX12_without l E a_M r2 x_2 x_3 r4 hr4) lk_X12_427 ⟨rfl, rfl⟩ (by rw [hRf, hRl]; decide) ⟨Nat.zero_le _, Nat.zero_le _⟩ (PB.sub hB.1 [0] rfl) (hB.old hD hN) (Nat.le_trans hN hB.2.2.1) (rc_X12 hK (hB.1 0 _ rfl)) rfl hl.1 rfl rfl (Nat.le_of_ble_eq_true rfl) dX12_clapOf_24 ?_
    refine lv_bipush (v := (-9)) hx hb dX12_clapOf_27 (by decide) ?_
    refine lv_bipush (v := 9) hx hb dX12_clapOf_29 (by decide) ?_
    obtain ⟨r5, hr5, hf⟩ := ox_bind hf
    refine cxVX (bs1 := (fun q => [wModel E a_M r5.2])) (As := [.int (0 : Int32), .int r4, .int (-9 : Int32), .int (9 : Int32)]) (rest := []) (st1 := [.int r5.1]) C hK (tX12_boundLaw l E a_M r2 (0 : Int32) r4 (-9 : Int32) (9 : Int32) r5 hr5) lk_X12_430 (by rw [hRf, hRl]; decide) ⟨Nat.zero_le _, Nat.zero_le _⟩ hB hD hN [0] (by decide) rfl (fun _ => rfl) (fun _ => rfl) (rc_X12 hK (hB.1 0 _ rfl)) rfl hl.1 rfl rfl (Nat.le_of_ble_eq_true rfl) dX12_clapOf_31 (fun H locs q6 hB => ?_)
    have hB : WB E ad s.heap [wModel E a_M r5.2] H locs := hB
    have hf := Option.some.inj hf
    subst hf
    exact hQ _ _ H locs (fun _ => 0) hB dX12_clapOf_34
  · have hf := (if_pos c1).symm.trans hf
    refine lv_iconst (v := 0) hx hb dX12_clapOf_8 (by decide) ?_
    have hf := Option.some.inj hf
    subst hf
    exact hQ _ _ H locs (fun _ => 0) hB dX12_clapOf_9
set_option maxHeartbeats 4000000 in
set_option maxRecDepth 20000 in
theorem tX12_number1 (l : Launch) (E : Ev) (a_M : Nat → Nat) (u_M : St) (x_1 : Int32) (res : Int32 × St) (hf : fX12_number1 u_M x_1 = some res) : MX l E yX12_number1 cX12_number1 2 (some .int) (rmm 0 0) [wModel E a_M u_M] (fun q => [wModel E a_M res.2]) [.ref (a_M 0), .int x_1] (some (.int res.1)) := by
  unfold fX12_number1 at hf
  refine MX.ofI rfl (by decide) (Nat.le_of_ble_eq_true rfl) ?_
  intro p e R s m args below meth c ls Q ad H hRf hRl C hB hD hK hN hl hQ
  generalize hlocs : ([] : List Loc) = locs at hB ⊢
  clear hlocs
  have hx := C.1
  have hb := C.2.1
  have hl : lv_has ls 2 [(0, .ref (a_M 0)), (1, .int x_1)] := hl
  refine lv_aload_n hx hb dX12_number1_0 rfl (lv_at hl 0 rfl) ?_
  refine lv_aload_n hx hb dX12_number1_1 rfl (lv_at hl 0 rfl) ?_
  refine gf_X12_X12_drawn C hK (hB.1 0 _ rfl) dX12_number1_2 ?_
  refine lv_ldc2 (v := 1103515245) hx hb C.2.2.2.1 (C.2.2.2.2 _ mw_1828) dX12_number1_5 ?_
  refine lv_lmul hx hb dX12_number1_8 ?_
  refine lv_ldc2 (v := 12345) hx hb C.2.2.2.1 (C.2.2.2.2 _ mw_1829) dX12_number1_9 ?_
  refine lv_ladd hx hb dX12_number1_12 ?_
  refine lv_ldc2 (v := 2147483647) hx hb C.2.2.2.1 (C.2.2.2.2 _ mw_1830) dX12_number1_13 ?_
  refine lv_land hx hb dX12_number1_16 ?_
  refine lv_topl (fun x1 ex1 => ?_)
  have hf := ox_lt ex1 hf
  refine pf_X12_X12_drawn C hK hB hD 0 rfl dX12_number1_17 (fun H locs u2 eu2 hB => ?_)
  have hf := ox_lt eu2 hf
  have hB : WB E ad s.heap [wModel E a_M u2] H locs := hB
  refine lv_aload_n hx hb dX12_number1_20 rfl (lv_at hl 0 rfl) ?_
  refine gf_X12_X12_drawn C hK (hB.1 0 _ rfl) dX12_number1_21 ?_
  refine lv_ldc2 (v := 65536) hx hb C.2.2.2.1 (C.2.2.2.2 _ mw_1831) dX12_number1_24 ?_
  refine lv_ldiv hx hb dX12_number1_27 (by decide) ?_
  refine lv_iload_n hx hb dX12_number1_28 rfl (lv_at hl 1 rfl) ?_
  refine lv_i2l hx hb dX12_number1_29 rfl ?_
  obtain ⟨hn3, hf⟩ := ox_chk hf
  refine lv_lrem hx hb dX12_number1_30 hn3 ?_
  refine lv_l2i hx hb dX12_number1_31 rfl ?_
  have hf := Option.some.inj hf
  subst hf
  exact hQ _ _ H locs (fun _ => 0) hB dX12_number1_32
set_option maxHeartbeats 4000000 in
set_option maxRecDepth 20000 in
theorem tX12_isCoughed (l : Launch) (E : Ev) (a_M : Nat → Nat) (u_M : St) (res : Int32 × St) (hf : fX12_isCoughed u_M = some res) : MX l E yX12_isCoughed cX12_isCoughed 2 (some .boolean) (rmm 1 21) [wModel E a_M u_M] (fun q => [wModel E a_M res.2]) [.ref (a_M 0)] (some (.int res.1)) := by
  unfold fX12_isCoughed at hf
  refine MX.ofZZ rfl (by decide) (Nat.le_of_ble_eq_true rfl) ?_
  intro p e R s m args below meth c ls Q ad H hRf hRl C hB hD hK hN hl hQ
  generalize hlocs : ([] : List Loc) = locs at hB ⊢
  clear hlocs
  have hx := C.1
  have hb := C.2.1
  have hl : lv_has ls 2 [(0, .ref (a_M 0))] := hl
  refine lv_aload_n hx hb dX12_isCoughed_0 rfl (lv_at hl 0 rfl) ?_
  refine gf_X12_X12_noCough C hK (hB.1 0 _ rfl) dX12_isCoughed_1 ?_
  refine lv_if_ne (tgt := 14) hx hb dX12_isCoughed_4 (by decide) (fun c1 => ?_) (fun c1 => ?_)
  · have hf := (if_neg c1).symm.trans hf
    refine lv_aload_n hx hb dX12_isCoughed_14 rfl (lv_at hl 0 rfl) ?_
    refine gf_X12_X12_allCough C hK (hB.1 0 _ rfl) dX12_isCoughed_15 ?_
    have hf := Option.some.inj hf
    subst hf
    exact hQ _ _ H locs (fun _ => 0) (gI u_M 67) rfl hB dX12_isCoughed_18
  · have hf := (if_pos c1).symm.trans hf
    refine lv_aload_n hx hb dX12_isCoughed_7 rfl (lv_at hl 0 rfl) ?_
    refine gf_X12_X12_allCough C hK (hB.1 0 _ rfl) dX12_isCoughed_8 ?_
    refine lv_if_eq (tgt := 19) hx hb dX12_isCoughed_11 (by decide) (fun c2 => ?_) (fun c2 => ?_)
    · have hf := (if_pos c2).symm.trans hf
      refine lv_aload_n hx hb dX12_isCoughed_19 rfl (lv_at hl 0 rfl) ?_
      refine gf_X12_X12_once C hK (hB.1 0 _ rfl) dX12_isCoughed_20 ?_
      refine lv_iconst (v := 0) hx hb dX12_isCoughed_23 (by decide) ?_
      refine ld_X12_once C hK (hB.1 0 _ rfl) (by decide) rfl dX12_isCoughed_24 ?_
      refine lv_topi (fun x3 ex3 => ?_)
      have hf := ox_lt ex3 hf
      refine lv_istore_n (lv' := [(1, .int x3), (0, .ref (a_M 0))]) hx hb dX12_isCoughed_25 rfl hl (by decide) rfl (fun ls hl => ?_)
      refine lv_iload_n hx hb dX12_isCoughed_26 rfl (lv_at hl 0 rfl) ?_
      refine lv_bipush (v := 100) hx hb dX12_isCoughed_27 (by decide) ?_
      obtain ⟨j5, ej5, hf⟩ := ox_ex hf
      have hj5 : ∀ (u4 : St) (ls : Array Slot) (H : Heap) (locs : List Loc), lv_has ls 2 [] → WB E ad s.heap [wModel E a_M u4] H locs → j5 u4 = some res → W p l e R s m args below meth c H locs 0 0 Q (F0 m 62 ls []) := by
        intro u4 ls H locs hl hB hf
        have hf := ox_a1 ej5 hf
        refine lv_iconst (v := 1) hx hb dX12_isCoughed_62 (by decide) ?_
        refine lv_goto (tgt := 67) hx hb dX12_isCoughed_63 (by decide) ?_
        have hf := Option.some.inj hf
        subst hf
        exact hQ _ _ H locs (fun _ => 0) (1 : Int32) bz1 hB dX12_isCoughed_67
      refine lv_icmp_eq (tgt := 62) hx hb dX12_isCoughed_29 (by decide) (fun c6 => ?_) (fun c6 => ?_)
      · have hf := (if_pos c6).symm.trans hf
        exact hj5 _ ls H locs (lv_sub hl [] rfl) hB hf
      · have hf := (if_neg c6).symm.trans hf
        refine lv_iload_n hx hb dX12_isCoughed_32 rfl (lv_at hl 0 rfl) ?_
        refine lv_if_le (tgt := 66) hx hb dX12_isCoughed_33 (by decide) (fun c7 => ?_) (fun c7 => ?_)
        · have hf := (if_pos c7).symm.trans hf
          refine lv_iconst (v := 0) hx hb dX12_isCoughed_66 (by decide) ?_
          have hf := Option.some.inj hf
          subst hf
          exact hQ _ _ H locs (fun _ => 0) (0 : Int32) bz0 hB dX12_isCoughed_67
        · have hf := (if_neg c7).symm.trans hf
          refine lv_aload_n hx hb dX12_isCoughed_36 rfl (lv_at hl 1 rfl) ?_
          refine gf_X12_X12_draws C hK (hB.1 0 _ rfl) dX12_isCoughed_37 ?_
          refine lv_if_eq (tgt := 56) hx hb dX12_isCoughed_40 (by decide) (fun c8 => ?_) (fun c8 => ?_)
          · have hf := (if_pos c8).symm.trans hf
            refine lv_iload_n hx hb dX12_isCoughed_56 rfl (lv_at hl 0 rfl) ?_
            refine lv_bipush (v := 50) hx hb dX12_isCoughed_57 (by decide) ?_
            refine lv_icmp_lt (tgt := 66) hx hb dX12_isCoughed_59 (by decide) (fun c9 => ?_) (fun c9 => ?_)
            · have hf := (if_pos c9).symm.trans hf
              refine lv_iconst (v := 0) hx hb dX12_isCoughed_66 (by decide) ?_
              have hf := Option.some.inj hf
              subst hf
              exact hQ _ _ H locs (fun _ => 0) (0 : Int32) bz0 hB dX12_isCoughed_67
            · have hf := (if_neg c9).symm.trans hf
              exact hj5 _ ls H locs (lv_sub hl [] rfl) hB hf
          · have hf := (if_neg c8).symm.trans hf
            refine lv_aload_n hx hb dX12_isCoughed_43 rfl (lv_at hl 1 rfl) ?_
            refine lv_bipush (v := 100) hx hb dX12_isCoughed_44 (by decide) ?_
            obtain ⟨r10, hr10, hf⟩ := ox_bind hf
            refine cxVX (bs1 := (fun q => [wModel E a_M r10.2])) (As := [.int (100 : Int32)]) (rest := []) (st1 := [.int r10.1]) C hK (tX12_number1 l E a_M u_M (100 : Int32) r10 hr10) lk_X12_442 (by rw [hRf, hRl]; decide) ⟨Nat.zero_le _, Nat.zero_le _⟩ hB hD hN [0] (by decide) rfl (fun _ => rfl) (fun _ => rfl) (rc_X12 hK (hB.1 0 _ rfl)) rfl hl.1 rfl rfl (Nat.le_of_ble_eq_true rfl) dX12_isCoughed_46 (fun H locs q11 hB => ?_)
            have hB : WB E ad s.heap [wModel E a_M r10.2] H locs := hB
            refine lv_iload_n hx hb dX12_isCoughed_49 rfl (lv_at hl 0 rfl) ?_
            refine lv_icmp_ge (tgt := 66) hx hb dX12_isCoughed_50 (by decide) (fun c12 => ?_) (fun c12 => ?_)
            · have hf := (if_pos c12).symm.trans hf
              refine lv_iconst (v := 0) hx hb dX12_isCoughed_66 (by decide) ?_
              have hf := Option.some.inj hf
              subst hf
              exact hQ _ _ H locs (fun _ => 0) (0 : Int32) bz0 hB dX12_isCoughed_67
            · have hf := (if_neg c12).symm.trans hf
              refine lv_goto (tgt := 62) hx hb dX12_isCoughed_53 (by decide) ?_
              exact hj5 _ ls H locs (lv_sub hl [] rfl) hB hf
    · have hf := (if_neg c2).symm.trans hf
      refine lv_aload_n hx hb dX12_isCoughed_14 rfl (lv_at hl 0 rfl) ?_
      refine gf_X12_X12_allCough C hK (hB.1 0 _ rfl) dX12_isCoughed_15 ?_
      have hf := Option.some.inj hf
      subst hf
      exact hQ _ _ H locs (fun _ => 0) (gI u_M 67) rfl hB dX12_isCoughed_18
set_option maxHeartbeats 4000000 in
set_option maxRecDepth 20000 in
theorem tX12_shown (l : Launch) (E : Ev) (a_M : Nat → Nat) (u_M : St) (x_1 : Int32) (res : St) (hf : fX12_shown u_M x_1 = some res) : MX l E yX12_shown cX12_shown 3 none (rmm 0 0) [wModel E a_M u_M] (fun q => [wModel E a_M res]) [.ref (a_M 0), .int x_1] none := by
  unfold fX12_shown at hf
  refine MX.ofV rfl (by decide) (Nat.le_of_ble_eq_true rfl) ?_
  intro p e R s m args below meth c ls Q ad H hRf hRl C hB hD hK hN hl hQ
  generalize hlocs : ([] : List Loc) = locs at hB ⊢
  clear hlocs
  have hx := C.1
  have hb := C.2.1
  have hl : lv_has ls 3 [(0, .ref (a_M 0)), (1, .int x_1)] := hl
  refine lv_iconst (v := 0) hx hb dX12_shown_0 (by decide) ?_
  refine lv_istore_n (lv' := [(2, .int (0 : Int32)), (0, .ref (a_M 0)), (1, .int x_1)]) hx hb dX12_shown_1 rfl hl (by decide) rfl (fun ls hl => ?_)
  obtain ⟨X1, hX1, hf⟩ := ox_bind hf
  have hexit1 : ∀ y26, y26 = X1 → ∀ (ls : Array Slot) (H : Heap) (locs : List Loc), lv_has ls 3 [] → WB E ad s.heap [wModel E a_M y26] H locs → W p l e R s m args below meth c H locs 0 0 Q (F0 m 92 ls []) := by
    intro y26 hy ls H locs hl hB
    subst hy
    have hf := Option.some.inj hf
    subst hf
    exact hQ _ _ H locs (fun _ => 0) hB dX12_shown_92
  have hloop1 : ∀ (nf : Nat) (x1 : Int32) (u2 : St) (ls : Array Slot) (H : Heap) (locs : List Loc), lv_has ls 3 [(0, .ref (a_M 0)), (1, .int x_1), (2, .int x1)] → WB E ad s.heap [wModel E a_M u2] H locs → fX12_shown_L1 x_1 nf x1 u2 = some X1 → W p l e R s m args below meth c H locs 0 0 Q (F0 m 2 ls []) := by
    intro nf
    induction nf with
    | zero =>
      intro x1 u2 ls H locs hl hB hf
      simp [fX12_shown_L1] at hf
    | succ nf ih =>
      intro x1 u2 ls H locs hl hB hf
      rw [fX12_shown_L1] at hf
      refine lv_iload_n hx hb dX12_shown_2 rfl (lv_at hl 2 rfl) ?_
      refine lv_aload_n hx hb dX12_shown_3 rfl (lv_at hl 0 rfl) ?_
      refine gf_X12_X12_shows C hK (hB.1 0 _ rfl) dX12_shown_4 ?_
      refine lv_icmp_ge (tgt := 92) hx hb dX12_shown_7 (by decide) (fun c3 => ?_) (fun c3 => ?_)
      · have hf := (if_pos c3).symm.trans hf
        exact hexit1 _ (Option.some.inj hf) ls H locs (lv_sub hl [] rfl) hB
      · have hf := (if_neg c3).symm.trans hf
        refine lv_aload_n hx hb dX12_shown_10 rfl (lv_at hl 0 rfl) ?_
        refine gf_X12_X12_noShow C hK (hB.1 0 _ rfl) dX12_shown_11 ?_
        refine lv_if_ne (tgt := 92) hx hb dX12_shown_14 (by decide) (fun c4 => ?_) (fun c4 => ?_)
        · have hf := (if_neg c4).symm.trans hf
          exact hexit1 _ (Option.some.inj hf) ls H locs (lv_sub hl [] rfl) hB
        · have hf := (if_pos c4).symm.trans hf
          refine lv_aload_n hx hb dX12_shown_17 rfl (lv_at hl 0 rfl) ?_
          refine gf_X12_X12_showMinute C hK (hB.1 0 _ rfl) dX12_shown_18 ?_
          refine lv_iload_n hx hb dX12_shown_21 rfl (lv_at hl 2 rfl) ?_
          obtain ⟨hn5, hf⟩ := ox_chk hf
          refine ld_X12_showMinute C hK (hB.1 0 _ rfl) hn5 rfl dX12_shown_22 ?_
          refine lv_aload_n hx hb dX12_shown_23 rfl (lv_at hl 0 rfl) ?_
          refine gf_X12_X12_minute C hK (hB.1 0 _ rfl) dX12_shown_24 ?_
          refine lv_iload_n hx hb dX12_shown_27 rfl (lv_at hl 1 rfl) ?_
          obtain ⟨hn6, hf⟩ := ox_chk hf
          refine ld_X12_minute C hK (hB.1 0 _ rfl) hn6 rfl dX12_shown_28 ?_
          obtain ⟨j8, ej8, hf⟩ := ox_ex hf
          have hj8 : ∀ (u7 : St) (ls : Array Slot) (H : Heap) (locs : List Loc), lv_has ls 3 [(0, .ref (a_M 0)), (1, .int x_1), (2, .int x1)] → WB E ad s.heap [wModel E a_M u7] H locs → j8 u7 = some X1 → W p l e R s m args below meth c H locs 0 0 Q (F0 m 86 ls []) := by
            intro u7 ls H locs hl hB hf
            have hf := ox_a1 ej8 hf
            obtain ⟨x9, ex9⟩ : ∃ z : Int32, z = (x1 + 1) := ⟨_, rfl⟩
            have hf := ox_lt ex9 hf
            refine lv_iinc (v := x9) (lv' := [(2, .int x9), (0, .ref (a_M 0)), (1, .int x_1)]) hx hb dX12_shown_86 hl (k := 2) rfl (by rw [ex9]; rfl) (by decide) rfl (fun ls hl => ?_)
            refine lv_goto (tgt := 2) hx hb dX12_shown_89 (by decide) ?_
            exact ih _ _ ls H locs (lv_sub hl [1, 2, 0] rfl) hB hf
          refine lv_icmp_eq (tgt := 35) hx hb dX12_shown_29 (by decide) (fun c10 => ?_) (fun c10 => ?_)
          · have hf := (if_pos c10).symm.trans hf
            refine lv_aload_n hx hb dX12_shown_35 rfl (lv_at hl 0 rfl) ?_
            refine gf_X12_X12_on C hK (hB.1 0 _ rfl) dX12_shown_36 ?_
            refine lv_iload_n hx hb dX12_shown_39 rfl (lv_at hl 1 rfl) ?_
            obtain ⟨hn11, hf⟩ := ox_chk hf
            refine ld_X12_on C hK (hB.1 0 _ rfl) hn11 rfl dX12_shown_40 ?_
            refine lv_if_lt (tgt := 57) hx hb dX12_shown_41 (by decide) (fun c12 => ?_) (fun c12 => ?_)
            · have hf := (if_pos c12).symm.trans hf
              refine lv_aload_n hx hb dX12_shown_57 rfl (lv_at hl 0 rfl) ?_
              refine gf_X12_X12_on C hK (hB.1 0 _ rfl) dX12_shown_58 ?_
              refine lv_iload_n hx hb dX12_shown_61 rfl (lv_at hl 1 rfl) ?_
              refine lv_aload_n hx hb dX12_shown_62 rfl (lv_at hl 0 rfl) ?_
              refine gf_X12_X12_showAct C hK (hB.1 0 _ rfl) dX12_shown_63 ?_
              refine lv_iload_n hx hb dX12_shown_66 rfl (lv_at hl 2 rfl) ?_
              obtain ⟨hn13, hf⟩ := ox_chk hf
              refine ld_X12_showAct C hK (hB.1 0 _ rfl) hn13 rfl dX12_shown_67 ?_
              refine lv_topi (fun x14 ex14 => ?_)
              have hf := ox_lt ex14 hf
              obtain ⟨hn15, hf⟩ := ox_chk hf
              refine st_X12_on C hK hB hD 0 rfl hn15 rfl dX12_shown_68 (fun H locs u16 eu16 hB => ?_)
              have hf := ox_lt eu16 hf
              have hB : WB E ad s.heap [wModel E a_M u16] H locs := hB
              refine lv_aload_n hx hb dX12_shown_69 rfl (lv_at hl 0 rfl) ?_
              refine gf_X12_X12_onFor C hK (hB.1 0 _ rfl) dX12_shown_70 ?_
              refine lv_iload_n hx hb dX12_shown_73 rfl (lv_at hl 1 rfl) ?_
              refine lv_aload_n hx hb dX12_shown_74 rfl (lv_at hl 0 rfl) ?_
              refine gf_X12_X12_actLength C hK (hB.1 0 _ rfl) dX12_shown_75 ?_
              refine lv_aload_n hx hb dX12_shown_78 rfl (lv_at hl 0 rfl) ?_
              refine gf_X12_X12_showAct C hK (hB.1 0 _ rfl) dX12_shown_79 ?_
              refine lv_iload_n hx hb dX12_shown_82 rfl (lv_at hl 2 rfl) ?_
              obtain ⟨hn17, hf⟩ := ox_chk hf
              refine ld_X12_showAct C hK (hB.1 0 _ rfl) hn17 rfl dX12_shown_83 ?_
              obtain ⟨hn18, hf⟩ := ox_chk hf
              refine ld_X12_actLength C hK (hB.1 0 _ rfl) hn18 rfl dX12_shown_84 ?_
              refine lv_topi (fun x19 ex19 => ?_)
              have hf := ox_lt ex19 hf
              obtain ⟨hn20, hf⟩ := ox_chk hf
              refine st_X12_onFor C hK hB hD 0 rfl hn20 rfl dX12_shown_85 (fun H locs u21 eu21 hB => ?_)
              have hf := ox_lt eu21 hf
              have hB : WB E ad s.heap [wModel E a_M u21] H locs := hB
              exact hj8 _ ls H locs (lv_sub hl [0, 1, 2] rfl) hB hf
            · have hf := (if_neg c12).symm.trans hf
              refine lv_aload_n hx hb dX12_shown_44 rfl (lv_at hl 0 rfl) ?_
              refine gf_X12_X12_refused C hK (hB.1 0 _ rfl) dX12_shown_45 ?_
              refine lv_iload_n hx hb dX12_shown_48 rfl (lv_at hl 1 rfl) ?_
              refine lv_dup2_11 hx hb dX12_shown_49 rfl rfl ?_
              obtain ⟨hn22, hf⟩ := ox_chk hf
              refine ld_X12_refused C hK (hB.1 0 _ rfl) hn22 rfl dX12_shown_50 ?_
              refine lv_iconst (v := 1) hx hb dX12_shown_51 (by decide) ?_
              refine lv_iadd hx hb dX12_shown_52 ?_
              refine lv_topi (fun x23 ex23 => ?_)
              have hf := ox_lt ex23 hf
              obtain ⟨hn24, hf⟩ := ox_chk hf
              refine st_X12_refused C hK hB hD 0 rfl hn24 rfl dX12_shown_53 (fun H locs u25 eu25 hB => ?_)
              have hf := ox_lt eu25 hf
              have hB : WB E ad s.heap [wModel E a_M u25] H locs := hB
              refine lv_goto (tgt := 86) hx hb dX12_shown_54 (by decide) ?_
              exact hj8 _ ls H locs (lv_sub hl [0, 1, 2] rfl) hB hf
          · have hf := (if_neg c10).symm.trans hf
            refine lv_goto (tgt := 86) hx hb dX12_shown_32 (by decide) ?_
            exact hj8 _ ls H locs (lv_sub hl [0, 1, 2] rfl) hB hf
  exact hloop1 fuel _ _ ls H locs (lv_sub hl [1, 2, 0] rfl) hB hX1
set_option maxHeartbeats 4000000 in
set_option maxRecDepth 20000 in
theorem tX12_claps (l : Launch) (E : Ev) (a_M : Nat → Nat) (u_M : St) (x_1 : Int32) (res : Int32 × St) (hf : fX12_claps u_M x_1 = some res) : MX l E yX12_claps cX12_claps 8 (some .int) (rmm 5 122) [wModel E a_M u_M] (fun q => [wModel E a_M res.2]) [.ref (a_M 0), .int x_1] (some (.int res.1)) := by
  unfold fX12_claps at hf
  refine MX.ofI rfl (by decide) (Nat.le_of_ble_eq_true rfl) ?_
  intro p e R s m args below meth c ls Q ad H hRf hRl C hB hD hK hN hl hQ
  generalize hlocs : ([] : List Loc) = locs at hB ⊢
  clear hlocs
  have hx := C.1
  have hb := C.2.1
  have hl : lv_has ls 8 [(0, .ref (a_M 0)), (1, .int x_1)] := hl
  refine lv_iconst (v := 0) hx hb dX12_claps_0 (by decide) ?_
  refine lv_istore_n (lv' := [(2, .int (0 : Int32)), (0, .ref (a_M 0)), (1, .int x_1)]) hx hb dX12_claps_1 rfl hl (by decide) rfl (fun ls hl => ?_)
  refine lv_iconst (v := 0) hx hb dX12_claps_2 (by decide) ?_
  refine lv_istore_n (lv' := [(3, .int (0 : Int32)), (2, .int (0 : Int32)), (0, .ref (a_M 0)), (1, .int x_1)]) hx hb dX12_claps_3 rfl hl (by decide) rfl (fun ls hl => ?_)
  refine lv_iconst (v := 0) hx hb dX12_claps_4 (by decide) ?_
  refine lv_istore (lv' := [(4, .int (0 : Int32)), (3, .int (0 : Int32)), (2, .int (0 : Int32)), (0, .ref (a_M 0)), (1, .int x_1)]) hx hb dX12_claps_5 hl (by decide) rfl (fun ls hl => ?_)
  obtain ⟨X1, hX1, hf⟩ := ox_bind hf
  have hexit1 : ∀ y31, y31 = X1 → ∀ (ls : Array Slot) (H : Heap) (locs : List Loc), lv_has ls 8 [(2, .int y31.1)] → WB E ad s.heap [wModel E a_M y31.2] H locs → W p l e R s m args below meth c H locs 0 0 Q (F0 m 135 ls []) := by
    intro y31 hy ls H locs hl hB
    subst hy
    refine lv_iload_n hx hb dX12_claps_135 rfl (lv_at hl 0 rfl) ?_
    have hf := Option.some.inj hf
    subst hf
    exact hQ _ _ H locs (fun _ => 0) hB dX12_claps_136
  have hloop1 : ∀ (nf : Nat) (x1 : Int32) (x2 : Int32) (x3 : Int32) (u4 : St) (ls : Array Slot) (H : Heap) (locs : List Loc), lv_has ls 8 [(0, .ref (a_M 0)), (1, .int x_1), (2, .int x1), (3, .int x2), (4, .int x3)] → WB E ad s.heap [wModel E a_M u4] H locs → fX12_claps_L1 x_1 nf x1 x2 x3 u4 = some X1 → W p l e R s m args below meth c H locs 0 0 Q (F0 m 7 ls []) := by
    intro nf
    induction nf with
    | zero =>
      intro x1 x2 x3 u4 ls H locs hl hB hf
      simp [fX12_claps_L1] at hf
    | succ nf ih =>
      intro x1 x2 x3 u4 ls H locs hl hB hf
      rw [fX12_claps_L1] at hf
      refine lv_iload hx hb dX12_claps_7 (lv_at hl 4 rfl) ?_
      refine lv_aload_n hx hb dX12_claps_9 rfl (lv_at hl 0 rfl) ?_
      refine gf_X12_X12_guests C hK (hB.1 0 _ rfl) dX12_claps_10 ?_
      refine lv_icmp_ge (tgt := 135) hx hb dX12_claps_13 (by decide) (fun c5 => ?_) (fun c5 => ?_)
      · have hf := (if_pos c5).symm.trans hf
        exact hexit1 _ (Option.some.inj hf) ls H locs (lv_sub hl [2] rfl) hB
      · have hf := (if_neg c5).symm.trans hf
        refine lv_aload_n hx hb dX12_claps_16 rfl (lv_at hl 0 rfl) ?_
        refine gf_X12_X12_sits C hK (hB.1 0 _ rfl) dX12_claps_17 ?_
        refine lv_bipush (v := 6) hx hb dX12_claps_20 (by decide) ?_
        refine lv_iload_n hx hb dX12_claps_22 rfl (lv_at hl 1 rfl) ?_
        refine lv_imul hx hb dX12_claps_23 ?_
        refine lv_iload hx hb dX12_claps_24 (lv_at hl 4 rfl) ?_
        refine lv_iadd hx hb dX12_claps_26 ?_
        obtain ⟨hn6, hf⟩ := ox_chk hf
        refine ld_X12_sits C hK (hB.1 0 _ rfl) hn6 rfl dX12_claps_27 ?_
        refine lv_topi (fun x7 ex7 => ?_)
        have hf := ox_lt ex7 hf
        refine lv_istore (lv' := [(5, .int x7), (0, .ref (a_M 0)), (1, .int x_1), (2, .int x1), (3, .int x2), (4, .int x3)]) hx hb dX12_claps_28 hl (by decide) rfl (fun ls hl => ?_)
        refine lv_bipush (v := 6) hx hb dX12_claps_30 (by decide) ?_
        refine lv_iload_n hx hb dX12_claps_32 rfl (lv_at hl 2 rfl) ?_
        refine lv_imul hx hb dX12_claps_33 ?_
        refine lv_iload hx hb dX12_claps_34 (lv_at hl 0 rfl) ?_
        refine lv_iadd hx hb dX12_claps_36 ?_
        refine lv_topi (fun x8 ex8 => ?_)
        have hf := ox_lt ex8 hf
        refine lv_istore (lv' := [(6, .int x8), (5, .int x7), (0, .ref (a_M 0)), (1, .int x_1), (2, .int x1), (3, .int x2), (4, .int x3)]) hx hb dX12_claps_37 hl (by decide) rfl (fun ls hl => ?_)
        refine lv_aload_n hx hb dX12_claps_39 rfl (lv_at hl 2 rfl) ?_
        refine gf_X12_X12_on C hK (hB.1 0 _ rfl) dX12_claps_40 ?_
        refine lv_iload_n hx hb dX12_claps_43 rfl (lv_at hl 3 rfl) ?_
        obtain ⟨hn9, hf⟩ := ox_chk hf
        refine ld_X12_on C hK (hB.1 0 _ rfl) hn9 rfl dX12_claps_44 ?_
        obtain ⟨j12, ej12, hf⟩ := ox_ex hf
        have hj12 : ∀ (x10 : Int32) (u11 : St) (ls : Array Slot) (H : Heap) (locs : List Loc), lv_has ls 8 [(0, .ref (a_M 0)), (1, .int x_1), (2, .int x1), (4, .int x3), (6, .int x8)] → WB E ad s.heap [wModel E a_M u11] H locs → j12 x10 u11 = some X1 → W p l e R s m args below meth c H locs 0 0 Q (F0 m 66 ls [.int x10]) := by
          intro x10 u11 ls H locs hl hB hf
          have hf := ox_a2 ej12 hf
          refine lv_istore (lv' := [(7, .int x10), (0, .ref (a_M 0)), (1, .int x_1), (2, .int x1), (4, .int x3), (6, .int x8)]) hx hb dX12_claps_66 hl (by decide) rfl (fun ls hl => ?_)
          refine lv_aload_n hx hb dX12_claps_68 rfl (lv_at hl 1 rfl) ?_
          refine gf_X12_X12_clapped C hK (hB.1 0 _ rfl) dX12_claps_69 ?_
          refine lv_iload hx hb dX12_claps_72 (lv_at hl 5 rfl) ?_
          refine lv_iload hx hb dX12_claps_74 (lv_at hl 0 rfl) ?_
          obtain ⟨hn13, hf⟩ := ox_chk hf
          refine st_X12_clapped C hK hB hD 0 rfl hn13 rfl dX12_claps_76 (fun H locs u14 eu14 hB => ?_)
          have hf := ox_lt eu14 hf
          have hB : WB E ad s.heap [wModel E a_M u14] H locs := hB
          refine lv_aload_n hx hb dX12_claps_77 rfl (lv_at hl 1 rfl) ?_
          refine gf_X12_X12_tired C hK (hB.1 0 _ rfl) dX12_claps_78 ?_
          refine lv_iload hx hb dX12_claps_81 (lv_at hl 5 rfl) ?_
          refine lv_iload hx hb dX12_claps_83 (lv_at hl 0 rfl) ?_
          obtain ⟨j16, ej16, hf⟩ := ox_ex hf
          have hj16 : ∀ (x15 : Int32) (ls : Array Slot) (H : Heap) (locs : List Loc), lv_has ls 8 [(0, .ref (a_M 0)), (1, .int x_1), (2, .int x1), (4, .int x3), (7, .int x10)] → WB E ad s.heap [wModel E a_M u14] H locs → j16 x15 = some X1 → W p l e R s m args below meth c H locs 0 0 Q (F0 m 120 ls [.int x15, .int x8, .ref (a_M 35)]) := by
            intro x15 ls H locs hl hB hf
            have hf := ox_a1 ej16 hf
            obtain ⟨hn17, hf⟩ := ox_chk hf
            refine st_X12_tired C hK hB hD 0 rfl hn17 rfl dX12_claps_120 (fun H locs u18 eu18 hB => ?_)
            have hf := ox_lt eu18 hf
            have hB : WB E ad s.heap [wModel E a_M u18] H locs := hB
            refine lv_iload hx hb dX12_claps_121 (lv_at hl 4 rfl) ?_
            refine lv_istore_n (lv' := [(3, .int x10), (0, .ref (a_M 0)), (1, .int x_1), (2, .int x1), (4, .int x3), (7, .int x10)]) hx hb dX12_claps_123 rfl hl (by decide) rfl (fun ls hl => ?_)
            refine lv_iload_n hx hb dX12_claps_124 rfl (lv_at hl 3 rfl) ?_
            refine lv_iload hx hb dX12_claps_125 (lv_at hl 5 rfl) ?_
            refine lv_iadd hx hb dX12_claps_127 ?_
            refine lv_topi (fun x19 ex19 => ?_)
            have hf := ox_lt ex19 hf
            refine lv_istore_n (lv' := [(2, .int x19), (3, .int x10), (0, .ref (a_M 0)), (1, .int x_1), (4, .int x3), (7, .int x10)]) hx hb dX12_claps_128 rfl hl (by decide) rfl (fun ls hl => ?_)
            obtain ⟨x20, ex20⟩ : ∃ z : Int32, z = (x3 + 1) := ⟨_, rfl⟩
            have hf := ox_lt ex20 hf
            refine lv_iinc (v := x20) (lv' := [(4, .int x20), (2, .int x19), (3, .int x10), (0, .ref (a_M 0)), (1, .int x_1), (7, .int x10)]) hx hb dX12_claps_129 hl (k := 4) rfl (by rw [ex20]; rfl) (by decide) rfl (fun ls hl => ?_)
            refine lv_goto (tgt := 7) hx hb dX12_claps_132 (by decide) ?_
            exact ih _ _ _ _ ls H locs (lv_sub hl [3, 4, 1, 2, 0] rfl) hB hf
          obtain ⟨j21, ej21, hf⟩ := ox_ex hf
          have hj21 : ∀ (ls : Array Slot) (H : Heap) (locs : List Loc), lv_has ls 8 [(0, .ref (a_M 0)), (1, .int x_1), (2, .int x1), (4, .int x3), (6, .int x8), (7, .int x10)] → WB E ad s.heap [wModel E a_M u14] H locs → j21 = some X1 → W p l e R s m args below meth c H locs 0 0 Q (F0 m 113 ls [.int x8, .ref (a_M 35)]) := by
            intro ls H locs hl hB hf
            have hf := ox_a0 ej21 hf
            refine lv_aload_n hx hb dX12_claps_113 rfl (lv_at hl 0 rfl) ?_
            refine gf_X12_X12_tired C hK (hB.1 0 _ rfl) dX12_claps_114 ?_
            refine lv_iload hx hb dX12_claps_117 (lv_at hl 4 rfl) ?_
            obtain ⟨hn22, hf⟩ := ox_chk hf
            refine ld_X12_tired C hK (hB.1 0 _ rfl) hn22 rfl dX12_claps_119 ?_
            exact hj16 _ ls H locs (lv_sub hl [0, 1, 2, 3, 5] rfl) hB hf
          refine lv_if_le (tgt := 113) hx hb dX12_claps_85 (by decide) (fun c23 => ?_) (fun c23 => ?_)
          · have hf := (if_pos c23).symm.trans hf
            exact hj21 ls H locs (lv_sub hl [1, 2, 3, 4, 5, 0] rfl) hB hf
          · have hf := (if_neg c23).symm.trans hf
            refine lv_aload_n hx hb dX12_claps_88 rfl (lv_at hl 1 rfl) ?_
            refine gf_X12_X12_tired C hK (hB.1 0 _ rfl) dX12_claps_89 ?_
            refine lv_iload hx hb dX12_claps_92 (lv_at hl 5 rfl) ?_
            obtain ⟨hn24, hf⟩ := ox_chk hf
            refine ld_X12_tired C hK (hB.1 0 _ rfl) hn24 rfl dX12_claps_94 ?_
            refine lv_sipush (v := 9999) hx hb dX12_claps_95 (by decide) ?_
            refine lv_icmp_ge (tgt := 113) hx hb dX12_claps_98 (by decide) (fun c25 => ?_) (fun c25 => ?_)
            · have hf := (if_pos c25).symm.trans hf
              exact hj21 ls H locs (lv_sub hl [1, 2, 3, 4, 5, 0] rfl) hB hf
            · have hf := (if_neg c25).symm.trans hf
              refine lv_aload_n hx hb dX12_claps_101 rfl (lv_at hl 1 rfl) ?_
              refine gf_X12_X12_tired C hK (hB.1 0 _ rfl) dX12_claps_102 ?_
              refine lv_iload hx hb dX12_claps_105 (lv_at hl 5 rfl) ?_
              obtain ⟨hn26, hf⟩ := ox_chk hf
              refine ld_X12_tired C hK (hB.1 0 _ rfl) hn26 rfl dX12_claps_107 ?_
              refine lv_iconst (v := 1) hx hb dX12_claps_108 (by decide) ?_
              refine lv_iadd hx hb dX12_claps_109 ?_
              refine lv_goto (tgt := 120) hx hb dX12_claps_110 (by decide) ?_
              exact hj16 _ ls H locs (lv_sub hl [1, 2, 3, 4, 0] rfl) hB hf
        refine lv_if_ge (tgt := 52) hx hb dX12_claps_45 (by decide) (fun c27 => ?_) (fun c27 => ?_)
        · have hf := (if_pos c27).symm.trans hf
          refine lv_aload_n hx hb dX12_claps_52 rfl (lv_at hl 2 rfl) ?_
          refine lv_iload_n hx hb dX12_claps_53 rfl (lv_at hl 3 rfl) ?_
          refine lv_iload hx hb dX12_claps_54 (lv_at hl 1 rfl) ?_
          refine lv_aload_n hx hb dX12_claps_56 rfl (lv_at hl 2 rfl) ?_
          refine gf_X12_X12_on C hK (hB.1 0 _ rfl) dX12_claps_57 ?_
          refine lv_iload_n hx hb dX12_claps_60 rfl (lv_at hl 3 rfl) ?_
          obtain ⟨hn28, hf⟩ := ox_chk hf
          refine ld_X12_on C hK (hB.1 0 _ rfl) hn28 rfl dX12_claps_61 ?_
          refine lv_iload_n hx hb dX12_claps_62 rfl (lv_at hl 5 rfl) ?_
          obtain ⟨r29, hr29, hf⟩ := ox_bind hf
          refine cxVX (bs1 := (fun q => [wModel E a_M r29.2])) (As := [.int x_1, .int x7, .int (gA u4 53 (x_1).toNatClampNeg), .int x2]) (rest := []) (st1 := [.int r29.1]) C hK (tX12_clapOf l E a_M u4 x_1 x7 (gA u4 53 (x_1).toNatClampNeg) x2 r29 hr29) lk_X12_445 (by rw [hRf, hRl]; decide) ⟨Nat.zero_le _, Nat.zero_le _⟩ hB hD hN [0] (by decide) rfl (fun _ => rfl) (fun _ => rfl) (rc_X12 hK (hB.1 0 _ rfl)) rfl hl.1 rfl rfl (Nat.le_of_ble_eq_true rfl) dX12_claps_63 (fun H locs q30 hB => ?_)
          have hB : WB E ad s.heap [wModel E a_M r29.2] H locs := hB
          exact hj12 _ _ ls H locs (lv_sub hl [2, 3, 4, 6, 0] rfl) hB hf
        · have hf := (if_neg c27).symm.trans hf
          refine lv_iconst (v := 0) hx hb dX12_claps_48 (by decide) ?_
          refine lv_goto (tgt := 66) hx hb dX12_claps_49 (by decide) ?_
          exact hj12 _ _ ls H locs (lv_sub hl [2, 3, 4, 6, 0] rfl) hB hf
  exact hloop1 fuel _ _ _ _ ls H locs (lv_sub hl [3, 4, 2, 1, 0] rfl) hB hX1
set_option maxHeartbeats 4000000 in
set_option maxRecDepth 20000 in
theorem tX12_grainAt (l : Launch) (E : Ev) (a_M : Nat → Nat) (u_M : St) (x_1 : Int32) (x_2 : Int32) (res : Int32) (hf : fX12_grainAt u_M x_1 x_2 = some res) : MP l E yX12_grainAt cX12_grainAt 4 (some .int) (rmm 1 22) [wModel E a_M u_M] [.ref (a_M 0), .int x_1, .int x_2] (some (.int res)) := by
  unfold fX12_grainAt at hf
  refine MP.ofI rfl (by decide) (Nat.le_of_ble_eq_true rfl) ?_
  intro p e R s m args below meth c ls Q hRf hRl C hP hK hN hl hQ
  have hx := C.1
  have hb := C.2.1
  have hl : lv_has ls 4 [(0, .ref (a_M 0)), (1, .int x_1), (2, .int x_2)] := hl
  refine lv_iconst (v := 0) hx hb dX12_grainAt_0 (by decide) ?_
  refine lv_istore_n (lv' := [(3, .int (0 : Int32)), (0, .ref (a_M 0)), (1, .int x_1), (2, .int x_2)]) hx hb dX12_grainAt_1 rfl hl (by decide) rfl (fun ls hl => ?_)
  obtain ⟨X1, hX1, hf⟩ := ox_bind hf
  have hexit1 : ∀ y10, .inl y10 = X1 → ∀ (ls : Array Slot), lv_has ls 4 [] → W p l e R s m args below meth c s.heap [] 0 0 Q (F0 m 46 ls []) := by
    intro y10 hy ls hl
    subst hy
    have hf := ox_inl hf
    refine lv_iconst (v := (-1)) hx hb dX12_grainAt_46 (by decide) ?_
    have hf := Option.some.inj hf
    subst hf
    exact hQ _ _ dX12_grainAt_47
  have hret1 : ∀ r, .inr r = X1 → r = res := by
    intro r hr
    subst hr
    exact Option.some.inj (ox_inr hf)
  have hloop1 : ∀ (nf : Nat) (x1 : Int32) (ls : Array Slot), lv_has ls 4 [(0, .ref (a_M 0)), (1, .int x_1), (2, .int x_2), (3, .int x1)] → fX12_grainAt_L1 u_M x_1 x_2 nf x1 = some X1 → W p l e R s m args below meth c s.heap [] 0 0 Q (F0 m 2 ls []) := by
    intro nf
    induction nf with
    | zero =>
      intro x1 ls hl hf
      simp [fX12_grainAt_L1] at hf
    | succ nf ih =>
      intro x1 ls hl hf
      rw [fX12_grainAt_L1] at hf
      refine lv_iload_n hx hb dX12_grainAt_2 rfl (lv_at hl 3 rfl) ?_
      refine lv_aload_n hx hb dX12_grainAt_3 rfl (lv_at hl 0 rfl) ?_
      refine gf_X12_X12_grains C hK (hP 0 _ rfl) dX12_grainAt_4 ?_
      refine lv_icmp_ge (tgt := 46) hx hb dX12_grainAt_7 (by decide) (fun c2 => ?_) (fun c2 => ?_)
      · have hf := (if_pos c2).symm.trans hf
        exact hexit1 _ (Option.some.inj hf) ls (lv_sub hl [] rfl)
      · have hf := (if_neg c2).symm.trans hf
        refine lv_aload_n hx hb dX12_grainAt_10 rfl (lv_at hl 0 rfl) ?_
        refine lv_iload_n hx hb dX12_grainAt_11 rfl (lv_at hl 1 rfl) ?_
        refine lv_iload_n hx hb dX12_grainAt_12 rfl (lv_at hl 3 rfl) ?_
        obtain ⟨r3, hr3, hf⟩ := ox_bind hf
        refine cxVP (As := [.int x_1, .int x1]) (rest := []) (st1 := [.int r3]) C hK (tX12_leftOf l E a_M u_M x_1 x1 r3 hr3) lk_X12_448 ⟨rfl, rfl⟩ (by rw [hRf, hRl]; decide) ⟨Nat.zero_le _, Nat.zero_le _⟩ (PB.sub hP [0] rfl) (fun _ _ => rfl) hN (rc_X12 hK (hP 0 _ rfl)) rfl hl.1 rfl rfl (Nat.le_of_ble_eq_true rfl) dX12_grainAt_13 ?_
        obtain ⟨j4, ej4, hf⟩ := ox_ex hf
        have hj4 : ∀ (ls : Array Slot), lv_has ls 4 [(0, .ref (a_M 0)), (1, .int x_1), (2, .int x_2), (3, .int x1)] → j4 = some X1 → W p l e R s m args below meth c s.heap [] 0 0 Q (F0 m 40 ls []) := by
          intro ls hl hf
          have hf := ox_a0 ej4 hf
          obtain ⟨x5, ex5⟩ : ∃ z : Int32, z = (x1 + 1) := ⟨_, rfl⟩
          have hf := ox_lt ex5 hf
          refine lv_iinc (v := x5) (lv' := [(3, .int x5), (0, .ref (a_M 0)), (1, .int x_1), (2, .int x_2)]) hx hb dX12_grainAt_40 hl (k := 3) rfl (by rw [ex5]; rfl) (by decide) rfl (fun ls hl => ?_)
          refine lv_goto (tgt := 2) hx hb dX12_grainAt_43 (by decide) ?_
          exact ih _ ls (lv_sub hl [1, 2, 3, 0] rfl) hf
        refine lv_if_le (tgt := 40) hx hb dX12_grainAt_16 (by decide) (fun c6 => ?_) (fun c6 => ?_)
        · have hf := (if_pos c6).symm.trans hf
          exact hj4 ls (lv_sub hl [0, 1, 2, 3] rfl) hf
        · have hf := (if_neg c6).symm.trans hf
          refine lv_iload_n hx hb dX12_grainAt_19 rfl (lv_at hl 2 rfl) ?_
          refine lv_aload_n hx hb dX12_grainAt_20 rfl (lv_at hl 0 rfl) ?_
          refine gf_X12_X12_grainLow C hK (hP 0 _ rfl) dX12_grainAt_21 ?_
          refine lv_iload_n hx hb dX12_grainAt_24 rfl (lv_at hl 3 rfl) ?_
          obtain ⟨hn7, hf⟩ := ox_chk hf
          refine ld_X12_grainLow C hK (hP 0 _ rfl) hn7 rfl dX12_grainAt_25 ?_
          refine lv_aload_n hx hb dX12_grainAt_26 rfl (lv_at hl 0 rfl) ?_
          refine gf_X12_X12_grainHigh C hK (hP 0 _ rfl) dX12_grainAt_27 ?_
          refine lv_iload_n hx hb dX12_grainAt_30 rfl (lv_at hl 3 rfl) ?_
          obtain ⟨hn8, hf⟩ := ox_chk hf
          refine ld_X12_grainHigh C hK (hP 0 _ rfl) hn8 rfl dX12_grainAt_31 ?_
          refine cxSP (As := [.int x_2, .int (gA u_M 31 (x1).toNatClampNeg), .int (gA u_M 32 (x1).toNatClampNeg)]) (rest := []) (st1 := [.int (fX12_isIn x_2 (gA u_M 31 (x1).toNatClampNeg) (gA u_M 32 (x1).toNatClampNeg))]) C hK (tX12_isIn l E x_2 (gA u_M 31 (x1).toNatClampNeg) (gA u_M 32 (x1).toNatClampNeg) (fX12_isIn x_2 (gA u_M 31 (x1).toNatClampNeg) (gA u_M 32 (x1).toNatClampNeg)) rfl) lk_X12_202 ⟨rfl, rfl⟩ (by rw [hRf, hRl]; decide) ⟨Nat.zero_le _, Nat.zero_le _⟩ (PB.sub hP [] rfl) (fun _ _ => rfl) hN rfl hl.1 rfl rfl (Nat.le_of_ble_eq_true rfl) dX12_grainAt_32 ?_
          refine lv_if_eq (tgt := 40) hx hb dX12_grainAt_35 (by decide) (fun c9 => ?_) (fun c9 => ?_)
          · have hf := (if_pos c9).symm.trans hf
            exact hj4 ls (lv_sub hl [0, 1, 2, 3] rfl) hf
          · have hf := (if_neg c9).symm.trans hf
            refine lv_iload_n hx hb dX12_grainAt_38 rfl (lv_at hl 3 rfl) ?_
            have hf := hret1 _ (Option.some.inj hf)
            subst hf
            exact hQ _ _ dX12_grainAt_39
  exact hloop1 fuel _ ls (lv_sub hl [1, 2, 3, 0] rfl) hX1
set_option maxHeartbeats 4000000 in
set_option maxRecDepth 20000 in
theorem tX12_grinds (l : Launch) (E : Ev) (a_M : Nat → Nat) (u_M : St) (x_1 : Int32) (x_2 : Int32) (res : St) (hf : fX12_grinds u_M x_1 x_2 = some res) : MX l E yX12_grinds cX12_grinds 5 none (rmm 4 98) [wModel E a_M u_M] (fun q => [wModel E a_M res]) [.ref (a_M 0), .int x_1, .int x_2] none := by
  unfold fX12_grinds at hf
  refine MX.ofV rfl (by decide) (Nat.le_of_ble_eq_true rfl) ?_
  intro p e R s m args below meth c ls Q ad H hRf hRl C hB hD hK hN hl hQ
  generalize hlocs : ([] : List Loc) = locs at hB ⊢
  clear hlocs
  have hx := C.1
  have hb := C.2.1
  have hl : lv_has ls 5 [(0, .ref (a_M 0)), (1, .int x_1), (2, .int x_2)] := hl
  refine lv_aload_n hx hb dX12_grinds_0 rfl (lv_at hl 0 rfl) ?_
  refine gf_X12_X12_speed C hK (hB.1 0 _ rfl) dX12_grinds_1 ?_
  refine lv_iload_n hx hb dX12_grinds_4 rfl (lv_at hl 1 rfl) ?_
  obtain ⟨hn1, hf⟩ := ox_chk hf
  refine ld_X12_speed C hK (hB.1 0 _ rfl) hn1 rfl dX12_grinds_5 ?_
  obtain ⟨j3, ej3, hf⟩ := ox_ex hf
  have hj3 : ∀ (x2 : Int32) (ls : Array Slot) (H : Heap) (locs : List Loc), lv_has ls 5 [(0, .ref (a_M 0)), (1, .int x_1), (2, .int x_2)] → WB E ad s.heap [wModel E a_M u_M] H locs → j3 x2 = some res → W p l e R s m args below meth c H locs 0 0 Q (F0 m 24 ls [.int x2]) := by
    intro x2 ls H locs hl hB hf
    have hf := ox_a1 ej3 hf
    refine lv_istore_n (lv' := [(3, .int x2), (0, .ref (a_M 0)), (1, .int x_1), (2, .int x_2)]) hx hb dX12_grinds_24 rfl hl (by decide) rfl (fun ls hl => ?_)
    refine lv_iload_n hx hb dX12_grinds_25 rfl (lv_at hl 0 rfl) ?_
    obtain ⟨j5, ej5, hf⟩ := ox_ex hf
    have hj5 : ∀ (u4 : St) (ls : Array Slot) (H : Heap) (locs : List Loc), lv_has ls 5 [(0, .ref (a_M 0)), (1, .int x_1)] → WB E ad s.heap [wModel E a_M u4] H locs → j5 u4 = some res → W p l e R s m args below meth c H locs 0 0 Q (F0 m 92 ls []) := by
      intro u4 ls H locs hl hB hf
      have hf := ox_a1 ej5 hf
      refine lv_aload_n hx hb dX12_grinds_92 rfl (lv_at hl 0 rfl) ?_
      refine gf_X12_X12_speed C hK (hB.1 0 _ rfl) dX12_grinds_93 ?_
      refine lv_iload_n hx hb dX12_grinds_96 rfl (lv_at hl 1 rfl) ?_
      obtain ⟨hn6, hf⟩ := ox_chk hf
      refine ld_X12_speed C hK (hB.1 0 _ rfl) hn6 rfl dX12_grinds_97 ?_
      refine lv_if_ge (tgt := 154) hx hb dX12_grinds_98 (by decide) (fun c7 => ?_) (fun c7 => ?_)
      · have hf := (if_pos c7).symm.trans hf
        have hf := Option.some.inj hf
        subst hf
        exact hQ _ _ H locs (fun _ => 0) hB dX12_grinds_154
      · have hf := (if_neg c7).symm.trans hf
        refine lv_aload_n hx hb dX12_grinds_101 rfl (lv_at hl 0 rfl) ?_
        refine gf_X12_X12_latest C hK (hB.1 0 _ rfl) dX12_grinds_102 ?_
        refine lv_iload_n hx hb dX12_grinds_105 rfl (lv_at hl 1 rfl) ?_
        obtain ⟨hn8, hf⟩ := ox_chk hf
        refine ld_X12_latest C hK (hB.1 0 _ rfl) hn8 rfl dX12_grinds_106 ?_
        refine lv_if_lt (tgt := 154) hx hb dX12_grinds_107 (by decide) (fun c9 => ?_) (fun c9 => ?_)
        · have hf := (if_pos c9).symm.trans hf
          have hf := Option.some.inj hf
          subst hf
          exact hQ _ _ H locs (fun _ => 0) hB dX12_grinds_154
        · have hf := (if_neg c9).symm.trans hf
          refine lv_aload_n hx hb dX12_grinds_110 rfl (lv_at hl 0 rfl) ?_
          refine gf_X12_X12_noBack C hK (hB.1 0 _ rfl) dX12_grinds_111 ?_
          refine lv_if_ne (tgt := 154) hx hb dX12_grinds_114 (by decide) (fun c10 => ?_) (fun c10 => ?_)
          · have hf := (if_neg c10).symm.trans hf
            have hf := Option.some.inj hf
            subst hf
            exact hQ _ _ H locs (fun _ => 0) hB dX12_grinds_154
          · have hf := (if_pos c10).symm.trans hf
            refine lv_aload_n hx hb dX12_grinds_117 rfl (lv_at hl 0 rfl) ?_
            refine gf_X12_X12_ground C hK (hB.1 0 _ rfl) dX12_grinds_118 ?_
            refine lv_iconst (v := 4) hx hb dX12_grinds_121 (by decide) ?_
            refine lv_iload_n hx hb dX12_grinds_122 rfl (lv_at hl 1 rfl) ?_
            refine lv_imul hx hb dX12_grinds_123 ?_
            refine lv_aload_n hx hb dX12_grinds_124 rfl (lv_at hl 0 rfl) ?_
            refine gf_X12_X12_latest C hK (hB.1 0 _ rfl) dX12_grinds_125 ?_
            refine lv_iload_n hx hb dX12_grinds_128 rfl (lv_at hl 1 rfl) ?_
            obtain ⟨hn11, hf⟩ := ox_chk hf
            refine ld_X12_latest C hK (hB.1 0 _ rfl) hn11 rfl dX12_grinds_129 ?_
            refine lv_iadd hx hb dX12_grinds_130 ?_
            obtain ⟨hn12, hf⟩ := ox_chk hf
            refine ld_X12_ground C hK (hB.1 0 _ rfl) hn12 rfl dX12_grinds_131 ?_
            refine lv_if_le (tgt := 154) hx hb dX12_grinds_132 (by decide) (fun c13 => ?_) (fun c13 => ?_)
            · have hf := (if_pos c13).symm.trans hf
              have hf := Option.some.inj hf
              subst hf
              exact hQ _ _ H locs (fun _ => 0) hB dX12_grinds_154
            · have hf := (if_neg c13).symm.trans hf
              refine lv_aload_n hx hb dX12_grinds_135 rfl (lv_at hl 0 rfl) ?_
              refine gf_X12_X12_ground C hK (hB.1 0 _ rfl) dX12_grinds_136 ?_
              refine lv_iconst (v := 4) hx hb dX12_grinds_139 (by decide) ?_
              refine lv_iload_n hx hb dX12_grinds_140 rfl (lv_at hl 1 rfl) ?_
              refine lv_imul hx hb dX12_grinds_141 ?_
              refine lv_aload_n hx hb dX12_grinds_142 rfl (lv_at hl 0 rfl) ?_
              refine gf_X12_X12_latest C hK (hB.1 0 _ rfl) dX12_grinds_143 ?_
              refine lv_iload_n hx hb dX12_grinds_146 rfl (lv_at hl 1 rfl) ?_
              obtain ⟨hn14, hf⟩ := ox_chk hf
              refine ld_X12_latest C hK (hB.1 0 _ rfl) hn14 rfl dX12_grinds_147 ?_
              refine lv_iadd hx hb dX12_grinds_148 ?_
              refine lv_topi (fun x15 ex15 => ?_)
              have hf := ox_lt ex15 hf
              refine lv_dup2_11 hx hb dX12_grinds_149 rfl rfl ?_
              obtain ⟨hn16, hf⟩ := ox_chk hf
              refine ld_X12_ground C hK (hB.1 0 _ rfl) hn16 rfl dX12_grinds_150 ?_
              refine lv_iconst (v := 1) hx hb dX12_grinds_151 (by decide) ?_
              refine lv_isub hx hb dX12_grinds_152 ?_
              refine lv_topi (fun x17 ex17 => ?_)
              have hf := ox_lt ex17 hf
              obtain ⟨hn18, hf⟩ := ox_chk hf
              refine st_X12_ground C hK hB hD 0 rfl hn18 rfl dX12_grinds_153 (fun H locs u19 eu19 hB => ?_)
              have hf := ox_lt eu19 hf
              have hB : WB E ad s.heap [wModel E a_M u19] H locs := hB
              have hf := Option.some.inj hf
              subst hf
              exact hQ _ _ H locs (fun _ => 0) hB dX12_grinds_154
    refine lv_if_lt (tgt := 92) hx hb dX12_grinds_26 (by decide) (fun c20 => ?_) (fun c20 => ?_)
    · have hf := (if_pos c20).symm.trans hf
      exact hj5 _ ls H locs (lv_sub hl [1, 2] rfl) hB hf
    · have hf := (if_neg c20).symm.trans hf
      refine lv_aload_n hx hb dX12_grinds_29 rfl (lv_at hl 1 rfl) ?_
      refine lv_iload_n hx hb dX12_grinds_30 rfl (lv_at hl 2 rfl) ?_
      refine lv_iload_n hx hb dX12_grinds_31 rfl (lv_at hl 3 rfl) ?_
      obtain ⟨r21, hr21, hf⟩ := ox_bind hf
      refine cxVX (bs1 := (fun q => [wModel E a_M r21])) (As := [.int x_1, .int x_2]) (rest := []) (st1 := []) C hK (tX12_layMill l E a_M u_M x_1 x_2 r21 hr21) lk_X12_454 (by rw [hRf, hRl]; decide) ⟨Nat.zero_le _, Nat.zero_le _⟩ hB hD hN [0] (by decide) rfl (fun _ => rfl) (fun _ => rfl) (rc_X12 hK (hB.1 0 _ rfl)) rfl hl.1 rfl rfl (Nat.le_of_ble_eq_true rfl) dX12_grinds_32 (fun H locs q22 hB => ?_)
      have hB : WB E ad s.heap [wModel E a_M r21] H locs := hB
      refine lv_aload_n hx hb dX12_grinds_35 rfl (lv_at hl 1 rfl) ?_
      refine lv_iconst (v := 2) hx hb dX12_grinds_36 (by decide) ?_
      refine lv_iconst (v := 1) hx hb dX12_grinds_37 (by decide) ?_
      refine lv_iconst (v := 0) hx hb dX12_grinds_38 (by decide) ?_
      refine lv_bipush (v := 9) hx hb dX12_grinds_39 (by decide) ?_
      obtain ⟨r23, hr23, hf⟩ := ox_bind hf
      refine cxVX (bs1 := (fun q => [wModel E a_M r23.2])) (As := [.int (2 : Int32), .int (1 : Int32), .int (0 : Int32), .int (9 : Int32)]) (rest := []) (st1 := [.int r23.1]) C hK (tX12_boundLaw l E a_M r21 (2 : Int32) (1 : Int32) (0 : Int32) (9 : Int32) r23 hr23) lk_X12_430 (by rw [hRf, hRl]; decide) ⟨Nat.zero_le _, Nat.zero_le _⟩ hB hD hN [0] (by decide) rfl (fun _ => rfl) (fun _ => rfl) (rc_X12 hK (hB.1 0 _ rfl)) rfl hl.1 rfl rfl (Nat.le_of_ble_eq_true rfl) dX12_grinds_41 (fun H locs q24 hB => ?_)
      have hB : WB E ad s.heap [wModel E a_M r23.2] H locs := hB
      refine lv_iconst (v := 0) hx hb dX12_grinds_44 (by decide) ?_
      refine lv_aload_n hx hb dX12_grinds_45 rfl (lv_at hl 1 rfl) ?_
      refine lv_iload_n hx hb dX12_grinds_46 rfl (lv_at hl 2 rfl) ?_
      refine lv_iload_n hx hb dX12_grinds_47 rfl (lv_at hl 0 rfl) ?_
      obtain ⟨r25, hr25, hf⟩ := ox_bind hf
      refine cxVP (As := [.int x_1, .int x2]) (rest := [.int (0 : Int32), .int r23.1]) (st1 := [.int r25, .int (0 : Int32), .int r23.1]) C hK (tX12_leftOf l E a_M (r23.2) x_1 x2 r25 hr25) lk_X12_448 ⟨rfl, rfl⟩ (by rw [hRf, hRl]; decide) ⟨Nat.zero_le _, Nat.zero_le _⟩ (PB.sub hB.1 [0] rfl) (hB.old hD hN) (Nat.le_trans hN hB.2.2.1) (rc_X12 hK (hB.1 0 _ rfl)) rfl hl.1 rfl rfl (Nat.le_of_ble_eq_true rfl) dX12_grinds_48 ?_
      refine cxSP (As := [.int r23.1, .int (0 : Int32), .int r25]) (rest := []) (st1 := [.int (fX12_bounded_ r23.1 (0 : Int32) r25)]) C hK (tX12_bounded_ l E (r23.1) (0 : Int32) r25 (fX12_bounded_ r23.1 (0 : Int32) r25) rfl) lk_X12_458 ⟨rfl, rfl⟩ (by rw [hRf, hRl]; decide) ⟨Nat.zero_le _, Nat.zero_le _⟩ (PB.sub hB.1 [] rfl) (hB.old hD hN) (Nat.le_trans hN hB.2.2.1) rfl hl.1 rfl rfl (Nat.le_of_ble_eq_true rfl) dX12_grinds_51 ?_
      refine lv_topi (fun x26 ex26 => ?_)
      have hf := ox_lt ex26 hf
      refine lv_istore (lv' := [(4, .int x26), (3, .int x2), (0, .ref (a_M 0)), (1, .int x_1), (2, .int x_2)]) hx hb dX12_grinds_54 hl (by decide) rfl (fun ls hl => ?_)
      refine lv_aload_n hx hb dX12_grinds_56 rfl (lv_at hl 2 rfl) ?_
      refine gf_X12_X12_ground C hK (hB.1 0 _ rfl) dX12_grinds_57 ?_
      refine lv_iconst (v := 4) hx hb dX12_grinds_60 (by decide) ?_
      refine lv_iload_n hx hb dX12_grinds_61 rfl (lv_at hl 3 rfl) ?_
      refine lv_imul hx hb dX12_grinds_62 ?_
      refine lv_iload_n hx hb dX12_grinds_63 rfl (lv_at hl 1 rfl) ?_
      refine lv_iadd hx hb dX12_grinds_64 ?_
      refine lv_topi (fun x27 ex27 => ?_)
      have hf := ox_lt ex27 hf
      refine lv_dup2_11 hx hb dX12_grinds_65 rfl rfl ?_
      obtain ⟨hn28, hf⟩ := ox_chk hf
      refine ld_X12_ground C hK (hB.1 0 _ rfl) hn28 rfl dX12_grinds_66 ?_
      refine lv_iload hx hb dX12_grinds_67 (lv_at hl 0 rfl) ?_
      refine lv_iadd hx hb dX12_grinds_69 ?_
      refine lv_topi (fun x29 ex29 => ?_)
      have hf := ox_lt ex29 hf
      obtain ⟨hn30, hf⟩ := ox_chk hf
      refine st_X12_ground C hK hB hD 0 rfl hn30 rfl dX12_grinds_70 (fun H locs u31 eu31 hB => ?_)
      have hf := ox_lt eu31 hf
      have hB : WB E ad s.heap [wModel E a_M u31] H locs := hB
      refine lv_aload_n hx hb dX12_grinds_71 rfl (lv_at hl 2 rfl) ?_
      refine gf_X12_X12_latest C hK (hB.1 0 _ rfl) dX12_grinds_72 ?_
      refine lv_iload_n hx hb dX12_grinds_75 rfl (lv_at hl 3 rfl) ?_
      refine lv_iload hx hb dX12_grinds_76 (lv_at hl 0 rfl) ?_
      obtain ⟨j33, ej33, hf⟩ := ox_ex hf
      have hj33 : ∀ (x32 : Int32) (ls : Array Slot) (H : Heap) (locs : List Loc), lv_has ls 5 [(0, .ref (a_M 0)), (1, .int x_1)] → WB E ad s.heap [wModel E a_M u31] H locs → j33 x32 = some res → W p l e R s m args below meth c H locs 0 0 Q (F0 m 91 ls [.int x32, .int x_1, .ref (a_M 30)]) := by
        intro x32 ls H locs hl hB hf
        have hf := ox_a1 ej33 hf
        obtain ⟨hn34, hf⟩ := ox_chk hf
        refine st_X12_latest C hK hB hD 0 rfl hn34 rfl dX12_grinds_91 (fun H locs u35 eu35 hB => ?_)
        have hf := ox_lt eu35 hf
        have hB : WB E ad s.heap [wModel E a_M u35] H locs := hB
        exact hj5 _ ls H locs (lv_sub hl [0, 1] rfl) hB hf
      refine lv_if_le (tgt := 85) hx hb dX12_grinds_78 (by decide) (fun c36 => ?_) (fun c36 => ?_)
      · have hf := (if_pos c36).symm.trans hf
        refine lv_aload_n hx hb dX12_grinds_85 rfl (lv_at hl 2 rfl) ?_
        refine gf_X12_X12_latest C hK (hB.1 0 _ rfl) dX12_grinds_86 ?_
        refine lv_iload_n hx hb dX12_grinds_89 rfl (lv_at hl 3 rfl) ?_
        obtain ⟨hn37, hf⟩ := ox_chk hf
        refine ld_X12_latest C hK (hB.1 0 _ rfl) hn37 rfl dX12_grinds_90 ?_
        exact hj33 _ ls H locs (lv_sub hl [2, 3] rfl) hB hf
      · have hf := (if_neg c36).symm.trans hf
        refine lv_iload_n hx hb dX12_grinds_81 rfl (lv_at hl 1 rfl) ?_
        refine lv_goto (tgt := 91) hx hb dX12_grinds_82 (by decide) ?_
        exact hj33 _ ls H locs (lv_sub hl [2, 3] rfl) hB hf
  refine lv_if_le (tgt := 23) hx hb dX12_grinds_6 (by decide) (fun c38 => ?_) (fun c38 => ?_)
  · have hf := (if_pos c38).symm.trans hf
    refine lv_iconst (v := (-1)) hx hb dX12_grinds_23 (by decide) ?_
    exact hj3 _ ls H locs (lv_sub hl [0, 1, 2] rfl) hB hf
  · have hf := (if_neg c38).symm.trans hf
    refine lv_aload_n hx hb dX12_grinds_9 rfl (lv_at hl 0 rfl) ?_
    refine lv_iload_n hx hb dX12_grinds_10 rfl (lv_at hl 1 rfl) ?_
    refine lv_aload_n hx hb dX12_grinds_11 rfl (lv_at hl 0 rfl) ?_
    refine gf_X12_X12_speed C hK (hB.1 0 _ rfl) dX12_grinds_12 ?_
    refine lv_iload_n hx hb dX12_grinds_15 rfl (lv_at hl 1 rfl) ?_
    obtain ⟨hn39, hf⟩ := ox_chk hf
    refine ld_X12_speed C hK (hB.1 0 _ rfl) hn39 rfl dX12_grinds_16 ?_
    obtain ⟨r40, hr40, hf⟩ := ox_bind hf
    refine cxVP (As := [.int x_1, .int (gA u_M 55 (x_1).toNatClampNeg)]) (rest := []) (st1 := [.int r40]) C hK (tX12_grainAt l E a_M u_M x_1 (gA u_M 55 (x_1).toNatClampNeg) r40 hr40) lk_X12_451 ⟨rfl, rfl⟩ (by rw [hRf, hRl]; decide) ⟨Nat.zero_le _, Nat.zero_le _⟩ (PB.sub hB.1 [0] rfl) (hB.old hD hN) (Nat.le_trans hN hB.2.2.1) (rc_X12 hK (hB.1 0 _ rfl)) rfl hl.1 rfl rfl (Nat.le_of_ble_eq_true rfl) dX12_grinds_17 ?_
    refine lv_goto (tgt := 24) hx hb dX12_grinds_20 (by decide) ?_
    exact hj3 _ ls H locs (lv_sub hl [0, 1, 2] rfl) hB hf
set_option maxHeartbeats 4000000 in
set_option maxRecDepth 20000 in
theorem tX12_minuteGoes (l : Launch) (E : Ev) (a_M : Nat → Nat) (u_M : St) (x_1 : Int32) (res : St) (hf : fX12_minuteGoes u_M x_1 = some res) : MX l E yX12_minuteGoes cX12_minuteGoes 3 none (rmm 6 149) [wModel E a_M u_M] (fun q => [wModel E a_M res]) [.ref (a_M 0), .int x_1] none := by
  unfold fX12_minuteGoes at hf
  refine MX.ofV rfl (by decide) (Nat.le_of_ble_eq_true rfl) ?_
  intro p e R s m args below meth c ls Q ad H hRf hRl C hB hD hK hN hl hQ
  generalize hlocs : ([] : List Loc) = locs at hB ⊢
  clear hlocs
  have hx := C.1
  have hb := C.2.1
  have hl : lv_has ls 3 [(0, .ref (a_M 0)), (1, .int x_1)] := hl
  refine lv_aload_n hx hb dX12_minuteGoes_0 rfl (lv_at hl 0 rfl) ?_
  refine lv_iload_n hx hb dX12_minuteGoes_1 rfl (lv_at hl 1 rfl) ?_
  obtain ⟨r1, hr1, hf⟩ := ox_bind hf
  refine cxVX (bs1 := (fun q => [wModel E a_M r1])) (As := [.int x_1]) (rest := []) (st1 := []) C hK (tX12_shown l E a_M u_M x_1 r1 hr1) lk_X12_461 (by rw [hRf, hRl]; decide) ⟨Nat.zero_le _, Nat.zero_le _⟩ hB hD hN [0] (by decide) rfl (fun _ => rfl) (fun _ => rfl) (rc_X12 hK (hB.1 0 _ rfl)) rfl hl.1 rfl rfl (Nat.le_of_ble_eq_true rfl) dX12_minuteGoes_2 (fun H locs q2 hB => ?_)
  have hB : WB E ad s.heap [wModel E a_M r1] H locs := hB
  refine lv_aload_n hx hb dX12_minuteGoes_5 rfl (lv_at hl 0 rfl) ?_
  refine lv_iload_n hx hb dX12_minuteGoes_6 rfl (lv_at hl 1 rfl) ?_
  obtain ⟨r3, hr3, hf⟩ := ox_bind hf
  refine cxVX (bs1 := (fun q => [wModel E a_M r3.2])) (As := [.int x_1]) (rest := []) (st1 := [.int r3.1]) C hK (tX12_claps l E a_M r1 x_1 r3 hr3) lk_X12_464 (by rw [hRf, hRl]; decide) ⟨Nat.zero_le _, Nat.zero_le _⟩ hB hD hN [0] (by decide) rfl (fun _ => rfl) (fun _ => rfl) (rc_X12 hK (hB.1 0 _ rfl)) rfl hl.1 rfl rfl (Nat.le_of_ble_eq_true rfl) dX12_minuteGoes_7 (fun H locs q4 hB => ?_)
  have hB : WB E ad s.heap [wModel E a_M r3.2] H locs := hB
  refine lv_topi (fun x5 ex5 => ?_)
  have hf := ox_lt ex5 hf
  refine lv_istore_n (lv' := [(2, .int x5), (0, .ref (a_M 0)), (1, .int x_1)]) hx hb dX12_minuteGoes_10 rfl hl (by decide) rfl (fun ls hl => ?_)
  refine lv_aload_n hx hb dX12_minuteGoes_11 rfl (lv_at hl 1 rfl) ?_
  refine gf_X12_X12_on C hK (hB.1 0 _ rfl) dX12_minuteGoes_12 ?_
  refine lv_iload_n hx hb dX12_minuteGoes_15 rfl (lv_at hl 2 rfl) ?_
  obtain ⟨hn6, hf⟩ := ox_chk hf
  refine ld_X12_on C hK (hB.1 0 _ rfl) hn6 rfl dX12_minuteGoes_16 ?_
  obtain ⟨j9, ej9, hf⟩ := ox_ex hf
  have hj9 : ∀ (x7 : Int32) (u8 : St) (ls : Array Slot) (H : Heap) (locs : List Loc), lv_has ls 3 [(0, .ref (a_M 0)), (1, .int x_1), (2, .int x7)] → WB E ad s.heap [wModel E a_M u8] H locs → j9 x7 u8 = some res → W p l e R s m args below meth c H locs 0 0 Q (F0 m 39 ls []) := by
    intro x7 u8 ls H locs hl hB hf
    have hf := ox_a2 ej9 hf
    refine lv_aload_n hx hb dX12_minuteGoes_39 rfl (lv_at hl 0 rfl) ?_
    refine lv_iload_n hx hb dX12_minuteGoes_40 rfl (lv_at hl 1 rfl) ?_
    refine lv_iload_n hx hb dX12_minuteGoes_41 rfl (lv_at hl 2 rfl) ?_
    obtain ⟨r10, hr10, hf⟩ := ox_bind hf
    refine cxVX (bs1 := (fun q => [wModel E a_M r10])) (As := [.int x_1, .int x7]) (rest := []) (st1 := []) C hK (tX12_layMill l E a_M u8 x_1 x7 r10 hr10) lk_X12_454 (by rw [hRf, hRl]; decide) ⟨Nat.zero_le _, Nat.zero_le _⟩ hB hD hN [0] (by decide) rfl (fun _ => rfl) (fun _ => rfl) (rc_X12 hK (hB.1 0 _ rfl)) rfl hl.1 rfl rfl (Nat.le_of_ble_eq_true rfl) dX12_minuteGoes_42 (fun H locs q11 hB => ?_)
    have hB : WB E ad s.heap [wModel E a_M r10] H locs := hB
    refine lv_aload_n hx hb dX12_minuteGoes_45 rfl (lv_at hl 0 rfl) ?_
    refine gf_X12_X12_speed C hK (hB.1 0 _ rfl) dX12_minuteGoes_46 ?_
    refine lv_iload_n hx hb dX12_minuteGoes_49 rfl (lv_at hl 1 rfl) ?_
    refine lv_aload_n hx hb dX12_minuteGoes_50 rfl (lv_at hl 0 rfl) ?_
    refine lv_iconst (v := 1) hx hb dX12_minuteGoes_51 (by decide) ?_
    refine lv_aload_n hx hb dX12_minuteGoes_52 rfl (lv_at hl 0 rfl) ?_
    refine gf_X12_X12_speed C hK (hB.1 0 _ rfl) dX12_minuteGoes_53 ?_
    refine lv_iload_n hx hb dX12_minuteGoes_56 rfl (lv_at hl 1 rfl) ?_
    obtain ⟨hn12, hf⟩ := ox_chk hf
    refine ld_X12_speed C hK (hB.1 0 _ rfl) hn12 rfl dX12_minuteGoes_57 ?_
    refine lv_iload_n hx hb dX12_minuteGoes_58 rfl (lv_at hl 2 rfl) ?_
    refine lv_iadd hx hb dX12_minuteGoes_59 ?_
    refine lv_iconst (v := 2) hx hb dX12_minuteGoes_60 (by decide) ?_
    refine lv_idiv hx hb dX12_minuteGoes_61 (by decide) ?_
    refine lv_bipush (v := (-99)) hx hb dX12_minuteGoes_62 (by decide) ?_
    refine lv_bipush (v := 99) hx hb dX12_minuteGoes_64 (by decide) ?_
    obtain ⟨r13, hr13, hf⟩ := ox_bind hf
    refine cxVX (bs1 := (fun q => [wModel E a_M r13.2])) (As := [.int (1 : Int32), .int (((gA r10 55 (x_1).toNatClampNeg) + x7) / (2 : Int32)), .int (-99 : Int32), .int (99 : Int32)]) (rest := [.int x_1, .ref (a_M 29)]) (st1 := [.int r13.1, .int x_1, .ref (a_M 29)]) C hK (tX12_boundLaw l E a_M r10 (1 : Int32) (((gA r10 55 (x_1).toNatClampNeg) + x7) / (2 : Int32)) (-99 : Int32) (99 : Int32) r13 hr13) lk_X12_430 (by rw [hRf, hRl]; decide) ⟨Nat.zero_le _, Nat.zero_le _⟩ hB hD hN [0] (by decide) rfl (fun _ => rfl) (fun _ => rfl) (rc_X12 hK (hB.1 0 _ rfl)) rfl hl.1 rfl rfl (Nat.le_of_ble_eq_true rfl) dX12_minuteGoes_66 (fun H locs q14 hB => ?_)
    have hB : WB E ad s.heap [wModel E a_M r13.2] H locs := hB
    refine lv_bipush (v := (-99)) hx hb dX12_minuteGoes_69 (by decide) ?_
    refine lv_bipush (v := 99) hx hb dX12_minuteGoes_71 (by decide) ?_
    refine cxSP (As := [.int r13.1, .int (-99 : Int32), .int (99 : Int32)]) (rest := [.int x_1, .ref (a_M 29)]) (st1 := [.int (fX12_bounded_ r13.1 (-99 : Int32) (99 : Int32)), .int x_1, .ref (a_M 29)]) C hK (tX12_bounded_ l E (r13.1) (-99 : Int32) (99 : Int32) (fX12_bounded_ r13.1 (-99 : Int32) (99 : Int32)) rfl) lk_X12_458 ⟨rfl, rfl⟩ (by rw [hRf, hRl]; decide) ⟨Nat.zero_le _, Nat.zero_le _⟩ (PB.sub hB.1 [] rfl) (hB.old hD hN) (Nat.le_trans hN hB.2.2.1) rfl hl.1 rfl rfl (Nat.le_of_ble_eq_true rfl) dX12_minuteGoes_73 ?_
    refine lv_topi (fun x15 ex15 => ?_)
    have hf := ox_lt ex15 hf
    obtain ⟨hn16, hf⟩ := ox_chk hf
    refine st_X12_speed C hK hB hD 0 rfl hn16 rfl dX12_minuteGoes_76 (fun H locs u17 eu17 hB => ?_)
    have hf := ox_lt eu17 hf
    have hB : WB E ad s.heap [wModel E a_M u17] H locs := hB
    refine lv_aload_n hx hb dX12_minuteGoes_77 rfl (lv_at hl 0 rfl) ?_
    refine lv_iload_n hx hb dX12_minuteGoes_78 rfl (lv_at hl 1 rfl) ?_
    refine lv_iload_n hx hb dX12_minuteGoes_79 rfl (lv_at hl 2 rfl) ?_
    obtain ⟨r18, hr18, hf⟩ := ox_bind hf
    refine cxVX (bs1 := (fun q => [wModel E a_M r18])) (As := [.int x_1, .int x7]) (rest := []) (st1 := []) C hK (tX12_grinds l E a_M u17 x_1 x7 r18 hr18) lk_X12_470 (by rw [hRf, hRl]; decide) ⟨Nat.zero_le _, Nat.zero_le _⟩ hB hD hN [0] (by decide) rfl (fun _ => rfl) (fun _ => rfl) (rc_X12 hK (hB.1 0 _ rfl)) rfl hl.1 rfl rfl (Nat.le_of_ble_eq_true rfl) dX12_minuteGoes_80 (fun H locs q19 hB => ?_)
    have hB : WB E ad s.heap [wModel E a_M r18] H locs := hB
    refine lv_aload_n hx hb dX12_minuteGoes_83 rfl (lv_at hl 0 rfl) ?_
    refine gf_X12_X12_on C hK (hB.1 0 _ rfl) dX12_minuteGoes_84 ?_
    refine lv_iload_n hx hb dX12_minuteGoes_87 rfl (lv_at hl 1 rfl) ?_
    obtain ⟨hn20, hf⟩ := ox_chk hf
    refine ld_X12_on C hK (hB.1 0 _ rfl) hn20 rfl dX12_minuteGoes_88 ?_
    obtain ⟨j22, ej22, hf⟩ := ox_ex hf
    have hj22 : ∀ (u21 : St) (ls : Array Slot) (H : Heap) (locs : List Loc), lv_has ls 3 [(0, .ref (a_M 0)), (1, .int x_1)] → WB E ad s.heap [wModel E a_M u21] H locs → j22 u21 = some res → W p l e R s m args below meth c H locs 0 0 Q (F0 m 127 ls []) := by
      intro u21 ls H locs hl hB hf
      have hf := ox_a1 ej22 hf
      refine lv_aload_n hx hb dX12_minuteGoes_127 rfl (lv_at hl 0 rfl) ?_
      refine gf_X12_X12_minute C hK (hB.1 0 _ rfl) dX12_minuteGoes_128 ?_
      refine lv_iload_n hx hb dX12_minuteGoes_131 rfl (lv_at hl 1 rfl) ?_
      refine lv_dup2_11 hx hb dX12_minuteGoes_132 rfl rfl ?_
      obtain ⟨hn23, hf⟩ := ox_chk hf
      refine ld_X12_minute C hK (hB.1 0 _ rfl) hn23 rfl dX12_minuteGoes_133 ?_
      refine lv_iconst (v := 1) hx hb dX12_minuteGoes_134 (by decide) ?_
      refine lv_iadd hx hb dX12_minuteGoes_135 ?_
      refine lv_topi (fun x24 ex24 => ?_)
      have hf := ox_lt ex24 hf
      obtain ⟨hn25, hf⟩ := ox_chk hf
      refine st_X12_minute C hK hB hD 0 rfl hn25 rfl dX12_minuteGoes_136 (fun H locs u26 eu26 hB => ?_)
      have hf := ox_lt eu26 hf
      have hB : WB E ad s.heap [wModel E a_M u26] H locs := hB
      have hf := Option.some.inj hf
      subst hf
      exact hQ _ _ H locs (fun _ => 0) hB dX12_minuteGoes_137
    refine lv_if_lt (tgt := 127) hx hb dX12_minuteGoes_89 (by decide) (fun c27 => ?_) (fun c27 => ?_)
    · have hf := (if_pos c27).symm.trans hf
      exact hj22 _ ls H locs (lv_sub hl [0, 1] rfl) hB hf
    · have hf := (if_neg c27).symm.trans hf
      refine lv_aload_n hx hb dX12_minuteGoes_92 rfl (lv_at hl 0 rfl) ?_
      refine gf_X12_X12_onFor C hK (hB.1 0 _ rfl) dX12_minuteGoes_93 ?_
      refine lv_iload_n hx hb dX12_minuteGoes_96 rfl (lv_at hl 1 rfl) ?_
      refine lv_dup2_11 hx hb dX12_minuteGoes_97 rfl rfl ?_
      obtain ⟨hn28, hf⟩ := ox_chk hf
      refine ld_X12_onFor C hK (hB.1 0 _ rfl) hn28 rfl dX12_minuteGoes_98 ?_
      refine lv_iconst (v := 1) hx hb dX12_minuteGoes_99 (by decide) ?_
      refine lv_isub hx hb dX12_minuteGoes_100 ?_
      refine lv_topi (fun x29 ex29 => ?_)
      have hf := ox_lt ex29 hf
      obtain ⟨hn30, hf⟩ := ox_chk hf
      refine st_X12_onFor C hK hB hD 0 rfl hn30 rfl dX12_minuteGoes_101 (fun H locs u31 eu31 hB => ?_)
      have hf := ox_lt eu31 hf
      have hB : WB E ad s.heap [wModel E a_M u31] H locs := hB
      refine lv_aload_n hx hb dX12_minuteGoes_102 rfl (lv_at hl 0 rfl) ?_
      refine gf_X12_X12_on C hK (hB.1 0 _ rfl) dX12_minuteGoes_103 ?_
      refine lv_iload_n hx hb dX12_minuteGoes_106 rfl (lv_at hl 1 rfl) ?_
      refine lv_aload_n hx hb dX12_minuteGoes_107 rfl (lv_at hl 0 rfl) ?_
      refine gf_X12_X12_onFor C hK (hB.1 0 _ rfl) dX12_minuteGoes_108 ?_
      refine lv_iload_n hx hb dX12_minuteGoes_111 rfl (lv_at hl 1 rfl) ?_
      obtain ⟨hn32, hf⟩ := ox_chk hf
      refine ld_X12_onFor C hK (hB.1 0 _ rfl) hn32 rfl dX12_minuteGoes_112 ?_
      obtain ⟨j34, ej34, hf⟩ := ox_ex hf
      have hj34 : ∀ (x33 : Int32) (ls : Array Slot) (H : Heap) (locs : List Loc), lv_has ls 3 [(0, .ref (a_M 0)), (1, .int x_1)] → WB E ad s.heap [wModel E a_M u31] H locs → j34 x33 = some res → W p l e R s m args below meth c H locs 0 0 Q (F0 m 126 ls [.int x33, .int x_1, .ref (a_M 27)]) := by
        intro x33 ls H locs hl hB hf
        have hf := ox_a1 ej34 hf
        obtain ⟨hn35, hf⟩ := ox_chk hf
        refine st_X12_on C hK hB hD 0 rfl hn35 rfl dX12_minuteGoes_126 (fun H locs u36 eu36 hB => ?_)
        have hf := ox_lt eu36 hf
        have hB : WB E ad s.heap [wModel E a_M u36] H locs := hB
        exact hj22 _ ls H locs (lv_sub hl [0, 1] rfl) hB hf
      refine lv_if_ne (tgt := 120) hx hb dX12_minuteGoes_113 (by decide) (fun c37 => ?_) (fun c37 => ?_)
      · have hf := (if_neg c37).symm.trans hf
        refine lv_aload_n hx hb dX12_minuteGoes_120 rfl (lv_at hl 0 rfl) ?_
        refine gf_X12_X12_on C hK (hB.1 0 _ rfl) dX12_minuteGoes_121 ?_
        refine lv_iload_n hx hb dX12_minuteGoes_124 rfl (lv_at hl 1 rfl) ?_
        obtain ⟨hn38, hf⟩ := ox_chk hf
        refine ld_X12_on C hK (hB.1 0 _ rfl) hn38 rfl dX12_minuteGoes_125 ?_
        exact hj34 _ ls H locs (lv_sub hl [0, 1] rfl) hB hf
      · have hf := (if_pos c37).symm.trans hf
        refine lv_iconst (v := (-1)) hx hb dX12_minuteGoes_116 (by decide) ?_
        refine lv_goto (tgt := 126) hx hb dX12_minuteGoes_117 (by decide) ?_
        exact hj34 _ ls H locs (lv_sub hl [0, 1] rfl) hB hf
  refine lv_if_lt (tgt := 39) hx hb dX12_minuteGoes_17 (by decide) (fun c39 => ?_) (fun c39 => ?_)
  · have hf := (if_pos c39).symm.trans hf
    exact hj9 _ _ ls H locs (lv_sub hl [1, 2, 0] rfl) hB hf
  · have hf := (if_neg c39).symm.trans hf
    refine lv_aload_n hx hb dX12_minuteGoes_20 rfl (lv_at hl 1 rfl) ?_
    obtain ⟨r40, hr40, hf⟩ := ox_bind hf
    refine cxVX (bs1 := (fun q => [wModel E a_M r40.2])) (As := []) (rest := []) (st1 := [.int r40.1]) C hK (tX12_isCoughed l E a_M (r3.2) r40 hr40) lk_X12_467 (by rw [hRf, hRl]; decide) ⟨Nat.zero_le _, Nat.zero_le _⟩ hB hD hN [0] (by decide) rfl (fun _ => rfl) (fun _ => rfl) (rc_X12 hK (hB.1 0 _ rfl)) rfl hl.1 rfl rfl (Nat.le_of_ble_eq_true rfl) dX12_minuteGoes_21 (fun H locs q41 hB => ?_)
    have hB : WB E ad s.heap [wModel E a_M r40.2] H locs := hB
    refine lv_if_eq (tgt := 39) hx hb dX12_minuteGoes_24 (by decide) (fun c42 => ?_) (fun c42 => ?_)
    · have hf := (if_pos c42).symm.trans hf
      exact hj9 _ _ ls H locs (lv_sub hl [1, 2, 0] rfl) hB hf
    · have hf := (if_neg c42).symm.trans hf
      refine lv_aload_n hx hb dX12_minuteGoes_27 rfl (lv_at hl 1 rfl) ?_
      refine gf_X12_X12_coughed C hK (hB.1 0 _ rfl) dX12_minuteGoes_28 ?_
      refine lv_iload_n hx hb dX12_minuteGoes_31 rfl (lv_at hl 2 rfl) ?_
      refine lv_dup2_11 hx hb dX12_minuteGoes_32 rfl rfl ?_
      obtain ⟨hn43, hf⟩ := ox_chk hf
      refine ld_X12_coughed C hK (hB.1 0 _ rfl) hn43 rfl dX12_minuteGoes_33 ?_
      refine lv_iconst (v := 1) hx hb dX12_minuteGoes_34 (by decide) ?_
      refine lv_iadd hx hb dX12_minuteGoes_35 ?_
      refine lv_topi (fun x44 ex44 => ?_)
      have hf := ox_lt ex44 hf
      obtain ⟨hn45, hf⟩ := ox_chk hf
      refine st_X12_coughed C hK hB hD 0 rfl hn45 rfl dX12_minuteGoes_36 (fun H locs u46 eu46 hB => ?_)
      have hf := ox_lt eu46 hf
      have hB : WB E ad s.heap [wModel E a_M u46] H locs := hB
      refine lv_iconst (v := 0) hx hb dX12_minuteGoes_37 (by decide) ?_
      refine lv_istore_n (lv' := [(2, .int (0 : Int32)), (0, .ref (a_M 0)), (1, .int x_1)]) hx hb dX12_minuteGoes_38 rfl hl (by decide) rfl (fun ls hl => ?_)
      exact hj9 _ _ ls H locs (lv_sub hl [1, 2, 0] rfl) hB hf
set_option maxHeartbeats 4000000 in
set_option maxRecDepth 20000 in
theorem tX12_goMany (l : Launch) (E : Ev) (a_M : Nat → Nat) (u_M : St) (x_1 : Int32) (res : St) (hf : fX12_goMany u_M x_1 = some res) : MX l E yX12_goMany cX12_goMany 3 none (rmm 7 171) [wModel E a_M u_M] (fun q => [wModel E a_M res]) [.ref (a_M 0), .int x_1] none := by
  unfold fX12_goMany at hf
  refine MX.ofV rfl (by decide) (Nat.le_of_ble_eq_true rfl) ?_
  intro p e R s m args below meth c ls Q ad H hRf hRl C hB hD hK hN hl hQ
  generalize hlocs : ([] : List Loc) = locs at hB ⊢
  clear hlocs
  have hx := C.1
  have hb := C.2.1
  have hl : lv_has ls 3 [(0, .ref (a_M 0)), (1, .int x_1)] := hl
  refine lv_iconst (v := 0) hx hb dX12_goMany_0 (by decide) ?_
  refine lv_istore_n (lv' := [(2, .int (0 : Int32)), (0, .ref (a_M 0)), (1, .int x_1)]) hx hb dX12_goMany_1 rfl hl (by decide) rfl (fun ls hl => ?_)
  obtain ⟨X1, hX1, hf⟩ := ox_bind hf
  have hexit1 : ∀ y7, y7 = X1 → ∀ (ls : Array Slot) (H : Heap) (locs : List Loc), lv_has ls 3 [] → WB E ad s.heap [wModel E a_M y7] H locs → W p l e R s m args below meth c H locs 0 0 Q (F0 m 18 ls []) := by
    intro y7 hy ls H locs hl hB
    subst hy
    have hf := Option.some.inj hf
    subst hf
    exact hQ _ _ H locs (fun _ => 0) hB dX12_goMany_18
  have hloop1 : ∀ (nf : Nat) (x1 : Int32) (u2 : St) (ls : Array Slot) (H : Heap) (locs : List Loc), lv_has ls 3 [(0, .ref (a_M 0)), (1, .int x_1), (2, .int x1)] → WB E ad s.heap [wModel E a_M u2] H locs → fX12_goMany_L1 x_1 nf x1 u2 = some X1 → W p l e R s m args below meth c H locs 0 0 Q (F0 m 2 ls []) := by
    intro nf
    induction nf with
    | zero =>
      intro x1 u2 ls H locs hl hB hf
      simp [fX12_goMany_L1] at hf
    | succ nf ih =>
      intro x1 u2 ls H locs hl hB hf
      rw [fX12_goMany_L1] at hf
      refine lv_iload_n hx hb dX12_goMany_2 rfl (lv_at hl 2 rfl) ?_
      refine lv_iload_n hx hb dX12_goMany_3 rfl (lv_at hl 1 rfl) ?_
      refine lv_icmp_ge (tgt := 18) hx hb dX12_goMany_4 (by decide) (fun c3 => ?_) (fun c3 => ?_)
      · have hf := (if_pos c3).symm.trans hf
        exact hexit1 _ (Option.some.inj hf) ls H locs (lv_sub hl [] rfl) hB
      · have hf := (if_neg c3).symm.trans hf
        refine lv_aload_n hx hb dX12_goMany_7 rfl (lv_at hl 0 rfl) ?_
        refine lv_iconst (v := 1) hx hb dX12_goMany_8 (by decide) ?_
        obtain ⟨r4, hr4, hf⟩ := ox_bind hf
        refine cxVX (bs1 := (fun q => [wModel E a_M r4])) (As := [.int (1 : Int32)]) (rest := []) (st1 := []) C hK (tX12_minuteGoes l E a_M u2 (1 : Int32) r4 hr4) lk_X12_473 (by rw [hRf, hRl]; decide) ⟨Nat.zero_le _, Nat.zero_le _⟩ hB hD hN [0] (by decide) rfl (fun _ => rfl) (fun _ => rfl) (rc_X12 hK (hB.1 0 _ rfl)) rfl hl.1 rfl rfl (Nat.le_of_ble_eq_true rfl) dX12_goMany_9 (fun H locs q5 hB => ?_)
        have hB : WB E ad s.heap [wModel E a_M r4] H locs := hB
        obtain ⟨x6, ex6⟩ : ∃ z : Int32, z = (x1 + 1) := ⟨_, rfl⟩
        have hf := ox_lt ex6 hf
        refine lv_iinc (v := x6) (lv' := [(2, .int x6), (0, .ref (a_M 0)), (1, .int x_1)]) hx hb dX12_goMany_12 hl (k := 2) rfl (by rw [ex6]; rfl) (by decide) rfl (fun ls hl => ?_)
        refine lv_goto (tgt := 2) hx hb dX12_goMany_15 (by decide) ?_
        exact ih _ _ ls H locs (lv_sub hl [1, 2, 0] rfl) hB hf
  exact hloop1 fuel _ _ ls H locs (lv_sub hl [1, 2, 0] rfl) hB hX1
set_option maxHeartbeats 4000000 in
set_option maxRecDepth 20000 in
theorem tX12_fails (l : Launch) (E : Ev) (a_M : Nat → Nat) (u_M : St) (x_1 : Int32) (res : Int32 × St) (hf : fX12_fails u_M x_1 = res) : MX l E yX12_fails cX12_fails 2 (some .int) (rmm 0 0) [wModel E a_M u_M] (fun q => [wModel E a_M res.2]) [.ref (a_M 0), .int x_1] (some (.int res.1)) := by
  unfold fX12_fails at hf
  refine MX.ofI rfl (by decide) (Nat.le_of_ble_eq_true rfl) ?_
  intro p e R s m args below meth c ls Q ad H hRf hRl C hB hD hK hN hl hQ
  generalize hlocs : ([] : List Loc) = locs at hB ⊢
  clear hlocs
  have hx := C.1
  have hb := C.2.1
  have hl : lv_has ls 2 [(0, .ref (a_M 0)), (1, .int x_1)] := hl
  refine lv_aload_n hx hb dX12_fails_0 rfl (lv_at hl 0 rfl) ?_
  refine lv_iload_n hx hb dX12_fails_1 rfl (lv_at hl 1 rfl) ?_
  refine pf_X12_X12_thrown C hK hB hD 0 rfl dX12_fails_2 (fun H locs u1 eu1 hB => ?_)
  have hf := ox_lt eu1 hf
  have hB : WB E ad s.heap [wModel E a_M u1] H locs := hB
  refine lv_iconst (v := 0) hx hb dX12_fails_5 (by decide) ?_
  subst hf
  exact hQ _ _ H locs (fun _ => 0) hB dX12_fails_6
set_option maxHeartbeats 4000000 in
set_option maxRecDepth 20000 in
theorem tX12_seatOf (l : Launch) (E : Ev) (a_M : Nat → Nat) (u_M : St) (x_1 : Int32) (res : Int32) (hf : fX12_seatOf u_M x_1 = some res) : MP l E yX12_seatOf cX12_seatOf 3 (some .int) (rmm 0 0) [wModel E a_M u_M] [.ref (a_M 0), .int x_1] (some (.int res)) := by
  unfold fX12_seatOf at hf
  refine MP.ofI rfl (by decide) (Nat.le_of_ble_eq_true rfl) ?_
  intro p e R s m args below meth c ls Q hRf hRl C hP hK hN hl hQ
  have hx := C.1
  have hb := C.2.1
  have hl : lv_has ls 3 [(0, .ref (a_M 0)), (1, .int x_1)] := hl
  refine lv_iconst (v := 0) hx hb dX12_seatOf_0 (by decide) ?_
  refine lv_istore_n (lv' := [(2, .int (0 : Int32)), (0, .ref (a_M 0)), (1, .int x_1)]) hx hb dX12_seatOf_1 rfl hl (by decide) rfl (fun ls hl => ?_)
  obtain ⟨X1, hX1, hf⟩ := ox_bind hf
  have hexit1 : ∀ y5, y5 = X1 → ∀ (ls : Array Slot), lv_has ls 3 [(2, .int y5)] → W p l e R s m args below meth c s.heap [] 0 0 Q (F0 m 18 ls []) := by
    intro y5 hy ls hl
    subst hy
    refine lv_iload_n hx hb dX12_seatOf_18 rfl (lv_at hl 0 rfl) ?_
    have hf := Option.some.inj hf
    subst hf
    exact hQ _ _ dX12_seatOf_19
  have hloop1 : ∀ (nf : Nat) (x1 : Int32) (ls : Array Slot), lv_has ls 3 [(0, .ref (a_M 0)), (1, .int x_1), (2, .int x1)] → fX12_seatOf_L1 u_M x_1 nf x1 = some X1 → W p l e R s m args below meth c s.heap [] 0 0 Q (F0 m 2 ls []) := by
    intro nf
    induction nf with
    | zero =>
      intro x1 ls hl hf
      simp [fX12_seatOf_L1] at hf
    | succ nf ih =>
      intro x1 ls hl hf
      rw [fX12_seatOf_L1] at hf
      refine lv_aload_n hx hb dX12_seatOf_2 rfl (lv_at hl 0 rfl) ?_
      refine gf_X12_X12_sits C hK (hP 0 _ rfl) dX12_seatOf_3 ?_
      refine lv_iload_n hx hb dX12_seatOf_6 rfl (lv_at hl 2 rfl) ?_
      obtain ⟨hn2, hf⟩ := ox_chk hf
      refine ld_X12_sits C hK (hP 0 _ rfl) hn2 rfl dX12_seatOf_7 ?_
      refine lv_iload_n hx hb dX12_seatOf_8 rfl (lv_at hl 1 rfl) ?_
      refine lv_icmp_eq (tgt := 18) hx hb dX12_seatOf_9 (by decide) (fun c3 => ?_) (fun c3 => ?_)
      · have hf := (if_pos c3).symm.trans hf
        exact hexit1 _ (Option.some.inj hf) ls (lv_sub hl [2] rfl)
      · have hf := (if_neg c3).symm.trans hf
        obtain ⟨x4, ex4⟩ : ∃ z : Int32, z = (x1 + 1) := ⟨_, rfl⟩
        have hf := ox_lt ex4 hf
        refine lv_iinc (v := x4) (lv' := [(2, .int x4), (0, .ref (a_M 0)), (1, .int x_1)]) hx hb dX12_seatOf_12 hl (k := 2) rfl (by rw [ex4]; rfl) (by decide) rfl (fun ls hl => ?_)
        refine lv_goto (tgt := 2) hx hb dX12_seatOf_15 (by decide) ?_
        exact ih _ ls (lv_sub hl [1, 2, 0] rfl) hf
  exact hloop1 fuel _ ls (lv_sub hl [1, 2, 0] rfl) hX1
set_option maxHeartbeats 4000000 in
set_option maxRecDepth 20000 in
theorem tX12_guest (l : Launch) (E : Ev) (a_M : Nat → Nat) (u_M : St) (x_1 : Int32) (x_2 : Int32) (res : Int32 × St) (hf : fX12_guest u_M x_1 x_2 = some res) : MX l E yX12_guest cX12_guest 3 (some .int) (rmm 1 22) [wModel E a_M u_M] (fun q => [wModel E a_M res.2]) [.ref (a_M 0), .int x_1, .int x_2] (some (.int res.1)) := by
  unfold fX12_guest at hf
  refine MX.ofI rfl (by decide) (Nat.le_of_ble_eq_true rfl) ?_
  intro p e R s m args below meth c ls Q ad H hRf hRl C hB hD hK hN hl hQ
  generalize hlocs : ([] : List Loc) = locs at hB ⊢
  clear hlocs
  have hx := C.1
  have hb := C.2.1
  have hl : lv_has ls 3 [(0, .ref (a_M 0)), (1, .int x_1), (2, .int x_2)] := hl
  refine lv_aload_n hx hb dX12_guest_0 rfl (lv_at hl 0 rfl) ?_
  refine lv_iconst (v := 0) hx hb dX12_guest_1 (by decide) ?_
  refine pf_X12_X12_thrown C hK hB hD 0 rfl dX12_guest_2 (fun H locs u1 eu1 hB => ?_)
  have hf := ox_lt eu1 hf
  have hB : WB E ad s.heap [wModel E a_M u1] H locs := hB
  refine lv_aload_n hx hb dX12_guest_5 rfl (lv_at hl 0 rfl) ?_
  refine lv_iload_n hx hb dX12_guest_6 rfl (lv_at hl 1 rfl) ?_
  refine cxVP (As := [.int x_1]) (rest := []) (st1 := [.int (fX12_isGuest u1 x_1)]) C hK (tX12_isGuest l E a_M u1 x_1 (fX12_isGuest u1 x_1) rfl) lk_X12_476 ⟨rfl, rfl⟩ (by rw [hRf, hRl]; decide) ⟨Nat.zero_le _, Nat.zero_le _⟩ (PB.sub hB.1 [0] rfl) (hB.old hD hN) (Nat.le_trans hN hB.2.2.1) (rc_X12 hK (hB.1 0 _ rfl)) rfl hl.1 rfl rfl (Nat.le_of_ble_eq_true rfl) dX12_guest_7 ?_
  refine lv_if_ne (tgt := 19) hx hb dX12_guest_10 (by decide) (fun c2 => ?_) (fun c2 => ?_)
  · have hf := (if_neg c2).symm.trans hf
    refine lv_iload_n hx hb dX12_guest_19 rfl (lv_at hl 2 rfl) ?_
    by_cases c3 : x_2 = 0
    · have hf := (if_pos c3).symm.trans hf
      refine lv_tableIn hx hb dX12_guest_20 (by rw [c3]; decide) (by rw [c3]; decide) (off := 36) (by rw [c3]; decide) (tgt := 56) (by decide) ?_
      refine lv_aload_n hx hb dX12_guest_56 rfl (lv_at hl 0 rfl) ?_
      refine gf_X12_X12_guestTaste C hK (hB.1 0 _ rfl) dX12_guest_57 ?_
      refine lv_iload_n hx hb dX12_guest_60 rfl (lv_at hl 1 rfl) ?_
      obtain ⟨hn4, hf⟩ := ox_chk hf
      refine ld_X12_guestTaste C hK (hB.1 0 _ rfl) hn4 rfl dX12_guest_61 ?_
      have hf := Option.some.inj hf
      subst hf
      exact hQ _ _ H locs (fun _ => 0) hB dX12_guest_62
    have hf := (if_neg c3).symm.trans hf
    by_cases c5 : x_2 = 1
    · have hf := (if_pos c5).symm.trans hf
      refine lv_tableIn hx hb dX12_guest_20 (by rw [c5]; decide) (by rw [c5]; decide) (off := 43) (by rw [c5]; decide) (tgt := 63) (by decide) ?_
      refine lv_aload_n hx hb dX12_guest_63 rfl (lv_at hl 0 rfl) ?_
      refine gf_X12_X12_guestHunger C hK (hB.1 0 _ rfl) dX12_guest_64 ?_
      refine lv_iload_n hx hb dX12_guest_67 rfl (lv_at hl 1 rfl) ?_
      obtain ⟨hn6, hf⟩ := ox_chk hf
      refine ld_X12_guestHunger C hK (hB.1 0 _ rfl) hn6 rfl dX12_guest_68 ?_
      have hf := Option.some.inj hf
      subst hf
      exact hQ _ _ H locs (fun _ => 0) hB dX12_guest_69
    have hf := (if_neg c5).symm.trans hf
    by_cases c7 : x_2 = 2
    · have hf := (if_pos c7).symm.trans hf
      refine lv_tableIn hx hb dX12_guest_20 (by rw [c7]; decide) (by rw [c7]; decide) (off := 50) (by rw [c7]; decide) (tgt := 70) (by decide) ?_
      refine lv_aload_n hx hb dX12_guest_70 rfl (lv_at hl 0 rfl) ?_
      refine lv_iload_n hx hb dX12_guest_71 rfl (lv_at hl 1 rfl) ?_
      obtain ⟨r8, hr8, hf⟩ := ox_bind hf
      refine cxVP (As := [.int x_1]) (rest := []) (st1 := [.int r8]) C hK (tX12_seatOf l E a_M u1 x_1 r8 hr8) lk_X12_482 ⟨rfl, rfl⟩ (by rw [hRf, hRl]; decide) ⟨Nat.zero_le _, Nat.zero_le _⟩ (PB.sub hB.1 [0] rfl) (hB.old hD hN) (Nat.le_trans hN hB.2.2.1) (rc_X12 hK (hB.1 0 _ rfl)) rfl hl.1 rfl rfl (Nat.le_of_ble_eq_true rfl) dX12_guest_72 ?_
      have hf := Option.some.inj hf
      subst hf
      exact hQ _ _ H locs (fun _ => 0) hB dX12_guest_75
    have hf := (if_neg c7).symm.trans hf
    by_cases c9 : x_2 = 3
    · have hf := (if_pos c9).symm.trans hf
      refine lv_tableIn hx hb dX12_guest_20 (by rw [c9]; decide) (by rw [c9]; decide) (off := 56) (by rw [c9]; decide) (tgt := 76) (by decide) ?_
      refine lv_aload_n hx hb dX12_guest_76 rfl (lv_at hl 0 rfl) ?_
      refine gf_X12_X12_tired C hK (hB.1 0 _ rfl) dX12_guest_77 ?_
      refine lv_iload_n hx hb dX12_guest_80 rfl (lv_at hl 1 rfl) ?_
      obtain ⟨hn10, hf⟩ := ox_chk hf
      refine ld_X12_tired C hK (hB.1 0 _ rfl) hn10 rfl dX12_guest_81 ?_
      have hf := Option.some.inj hf
      subst hf
      exact hQ _ _ H locs (fun _ => 0) hB dX12_guest_82
    have hf := (if_neg c9).symm.trans hf
    by_cases c11 : x_2 = 4
    · have hf := (if_pos c11).symm.trans hf
      refine lv_tableIn hx hb dX12_guest_20 (by rw [c11]; decide) (by rw [c11]; decide) (off := 63) (by rw [c11]; decide) (tgt := 83) (by decide) ?_
      refine lv_aload_n hx hb dX12_guest_83 rfl (lv_at hl 0 rfl) ?_
      refine gf_X12_X12_clapped C hK (hB.1 0 _ rfl) dX12_guest_84 ?_
      refine lv_iload_n hx hb dX12_guest_87 rfl (lv_at hl 1 rfl) ?_
      obtain ⟨hn12, hf⟩ := ox_chk hf
      refine ld_X12_clapped C hK (hB.1 0 _ rfl) hn12 rfl dX12_guest_88 ?_
      have hf := Option.some.inj hf
      subst hf
      exact hQ _ _ H locs (fun _ => 0) hB dX12_guest_89
    have hf := (if_neg c11).symm.trans hf
    have hd15 : W p l e R s m args below meth c H locs 0 0 Q (F0 m 90 ls []) := by
      refine lv_aload_n hx hb dX12_guest_90 rfl (lv_at hl 0 rfl) ?_
      refine lv_iconst (v := 2) hx hb dX12_guest_91 (by decide) ?_
      obtain ⟨r13, er13, hf⟩ := ox_ex hf
      refine cxVX (bs1 := (fun q => [wModel E a_M r13.2])) (As := [.int (2 : Int32)]) (rest := []) (st1 := [.int r13.1]) C hK (tX12_fails l E a_M u1 (2 : Int32) r13 er13.symm) lk_X12_479 (by rw [hRf, hRl]; decide) ⟨Nat.zero_le _, Nat.zero_le _⟩ hB hD hN [0] (by decide) rfl (fun _ => rfl) (fun _ => rfl) (rc_X12 hK (hB.1 0 _ rfl)) rfl hl.1 rfl rfl (Nat.le_of_ble_eq_true rfl) dX12_guest_92 (fun H locs q14 hB => ?_)
      have hB : WB E ad s.heap [wModel E a_M r13.2] H locs := hB
      have hf := Option.some.inj hf
      subst hf
      exact hQ _ _ H locs (fun _ => 0) hB dX12_guest_95
    have nc3 := lv_neT c3 (show Int32.toInt 0 = 0 from rfl)
    have nc5 := lv_neT c5 (show Int32.toInt 1 = 1 from rfl)
    have nc7 := lv_neT c7 (show Int32.toInt 2 = 2 from rfl)
    have nc9 := lv_neT c9 (show Int32.toInt 3 = 3 from rfl)
    have nc11 := lv_neT c11 (show Int32.toInt 4 = 4 from rfl)
    rcases (show Int32.toInt x_2 < 0 ∨ 4 < Int32.toInt x_2 by omega) with h | h
    · exact lv_tableOut hx hb dX12_guest_20 (Or.inl h) (tgt := 90) (by decide) hd15
    · exact lv_tableOut hx hb dX12_guest_20 (Or.inr h) (tgt := 90) (by decide) hd15
  · have hf := (if_pos c2).symm.trans hf
    refine lv_aload_n hx hb dX12_guest_13 rfl (lv_at hl 0 rfl) ?_
    refine lv_iconst (v := 1) hx hb dX12_guest_14 (by decide) ?_
    obtain ⟨r16, er16, hf⟩ := ox_ex hf
    refine cxVX (bs1 := (fun q => [wModel E a_M r16.2])) (As := [.int (1 : Int32)]) (rest := []) (st1 := [.int r16.1]) C hK (tX12_fails l E a_M u1 (1 : Int32) r16 er16.symm) lk_X12_479 (by rw [hRf, hRl]; decide) ⟨Nat.zero_le _, Nat.zero_le _⟩ hB hD hN [0] (by decide) rfl (fun _ => rfl) (fun _ => rfl) (rc_X12 hK (hB.1 0 _ rfl)) rfl hl.1 rfl rfl (Nat.le_of_ble_eq_true rfl) dX12_guest_15 (fun H locs q17 hB => ?_)
    have hB : WB E ad s.heap [wModel E a_M r16.2] H locs := hB
    have hf := Option.some.inj hf
    subst hf
    exact hQ _ _ H locs (fun _ => 0) hB dX12_guest_18
set_option maxHeartbeats 4000000 in
set_option maxRecDepth 20000 in
theorem tX12_act (l : Launch) (E : Ev) (a_M : Nat → Nat) (u_M : St) (x_1 : Int32) (x_2 : Int32) (res : Int32 × St) (hf : fX12_act u_M x_1 x_2 = some res) : MX l E yX12_act cX12_act 3 (some .int) (rmm 1 21) [wModel E a_M u_M] (fun q => [wModel E a_M res.2]) [.ref (a_M 0), .int x_1, .int x_2] (some (.int res.1)) := by
  unfold fX12_act at hf
  refine MX.ofI rfl (by decide) (Nat.le_of_ble_eq_true rfl) ?_
  intro p e R s m args below meth c ls Q ad H hRf hRl C hB hD hK hN hl hQ
  generalize hlocs : ([] : List Loc) = locs at hB ⊢
  clear hlocs
  have hx := C.1
  have hb := C.2.1
  have hl : lv_has ls 3 [(0, .ref (a_M 0)), (1, .int x_1), (2, .int x_2)] := hl
  refine lv_aload_n hx hb dX12_act_0 rfl (lv_at hl 0 rfl) ?_
  refine lv_iconst (v := 0) hx hb dX12_act_1 (by decide) ?_
  refine pf_X12_X12_thrown C hK hB hD 0 rfl dX12_act_2 (fun H locs u1 eu1 hB => ?_)
  have hf := ox_lt eu1 hf
  have hB : WB E ad s.heap [wModel E a_M u1] H locs := hB
  refine lv_aload_n hx hb dX12_act_5 rfl (lv_at hl 0 rfl) ?_
  refine lv_iload_n hx hb dX12_act_6 rfl (lv_at hl 1 rfl) ?_
  refine cxVP (As := [.int x_1]) (rest := []) (st1 := [.int (fX12_isAct u1 x_1)]) C hK (tX12_isAct l E a_M u1 x_1 (fX12_isAct u1 x_1) rfl) lk_X12_485 ⟨rfl, rfl⟩ (by rw [hRf, hRl]; decide) ⟨Nat.zero_le _, Nat.zero_le _⟩ (PB.sub hB.1 [0] rfl) (hB.old hD hN) (Nat.le_trans hN hB.2.2.1) (rc_X12 hK (hB.1 0 _ rfl)) rfl hl.1 rfl rfl (Nat.le_of_ble_eq_true rfl) dX12_act_7 ?_
  refine lv_if_ne (tgt := 15) hx hb dX12_act_10 (by decide) (fun c2 => ?_) (fun c2 => ?_)
  · have hf := (if_neg c2).symm.trans hf
    refine lv_iload_n hx hb dX12_act_15 rfl (lv_at hl 2 rfl) ?_
    refine lv_if_ne (tgt := 28) hx hb dX12_act_16 (by decide) (fun c3 => ?_) (fun c3 => ?_)
    · have hf := (if_neg c3).symm.trans hf
      refine lv_iload_n hx hb dX12_act_28 rfl (lv_at hl 2 rfl) ?_
      refine lv_iconst (v := 1) hx hb dX12_act_29 (by decide) ?_
      refine lv_icmp_ne (tgt := 42) hx hb dX12_act_30 (by decide) (fun c4 => ?_) (fun c4 => ?_)
      · have hf := (if_neg c4).symm.trans hf
        refine lv_iload_n hx hb dX12_act_42 rfl (lv_at hl 2 rfl) ?_
        refine lv_iconst (v := 2) hx hb dX12_act_43 (by decide) ?_
        refine lv_icmp_ne (tgt := 70) hx hb dX12_act_44 (by decide) (fun c5 => ?_) (fun c5 => ?_)
        · have hf := (if_neg c5).symm.trans hf
          refine lv_iconst (v := (-1)) hx hb dX12_act_70 (by decide) ?_
          have hf := Option.some.inj hf
          subst hf
          exact hQ _ _ H locs (fun _ => 0) hB dX12_act_71
        · have hf := (if_pos c5).symm.trans hf
          refine lv_aload_n hx hb dX12_act_47 rfl (lv_at hl 0 rfl) ?_
          refine gf_X12_X12_on C hK (hB.1 0 _ rfl) dX12_act_48 ?_
          refine lv_iconst (v := 0) hx hb dX12_act_51 (by decide) ?_
          refine ld_X12_on C hK (hB.1 0 _ rfl) (by decide) rfl dX12_act_52 ?_
          refine lv_iload_n hx hb dX12_act_53 rfl (lv_at hl 1 rfl) ?_
          refine lv_icmp_ne (tgt := 66) hx hb dX12_act_54 (by decide) (fun c6 => ?_) (fun c6 => ?_)
          · have hf := (if_neg c6).symm.trans hf
            refine lv_iconst (v := 0) hx hb dX12_act_66 (by decide) ?_
            refine lv_goto (tgt := 71) hx hb dX12_act_67 (by decide) ?_
            have hf := Option.some.inj hf
            subst hf
            exact hQ _ _ H locs (fun _ => 0) hB dX12_act_71
          · have hf := (if_pos c6).symm.trans hf
            refine lv_aload_n hx hb dX12_act_57 rfl (lv_at hl 0 rfl) ?_
            refine gf_X12_X12_onFor C hK (hB.1 0 _ rfl) dX12_act_58 ?_
            refine lv_iconst (v := 0) hx hb dX12_act_61 (by decide) ?_
            refine ld_X12_onFor C hK (hB.1 0 _ rfl) (by decide) rfl dX12_act_62 ?_
            refine lv_goto (tgt := 71) hx hb dX12_act_63 (by decide) ?_
            have hf := Option.some.inj hf
            subst hf
            exact hQ _ _ H locs (fun _ => 0) hB dX12_act_71
      · have hf := (if_pos c4).symm.trans hf
        refine lv_aload_n hx hb dX12_act_33 rfl (lv_at hl 0 rfl) ?_
        refine gf_X12_X12_actLength C hK (hB.1 0 _ rfl) dX12_act_34 ?_
        refine lv_iload_n hx hb dX12_act_37 rfl (lv_at hl 1 rfl) ?_
        obtain ⟨hn7, hf⟩ := ox_chk hf
        refine ld_X12_actLength C hK (hB.1 0 _ rfl) hn7 rfl dX12_act_38 ?_
        refine lv_goto (tgt := 71) hx hb dX12_act_39 (by decide) ?_
        have hf := Option.some.inj hf
        subst hf
        exact hQ _ _ H locs (fun _ => 0) hB dX12_act_71
    · have hf := (if_pos c3).symm.trans hf
      refine lv_aload_n hx hb dX12_act_19 rfl (lv_at hl 0 rfl) ?_
      refine gf_X12_X12_actMood C hK (hB.1 0 _ rfl) dX12_act_20 ?_
      refine lv_iload_n hx hb dX12_act_23 rfl (lv_at hl 1 rfl) ?_
      obtain ⟨hn8, hf⟩ := ox_chk hf
      refine ld_X12_actMood C hK (hB.1 0 _ rfl) hn8 rfl dX12_act_24 ?_
      refine lv_goto (tgt := 71) hx hb dX12_act_25 (by decide) ?_
      have hf := Option.some.inj hf
      subst hf
      exact hQ _ _ H locs (fun _ => 0) hB dX12_act_71
  · have hf := (if_pos c2).symm.trans hf
    refine lv_iconst (v := (-1)) hx hb dX12_act_13 (by decide) ?_
    have hf := Option.some.inj hf
    subst hf
    exact hQ _ _ H locs (fun _ => 0) hB dX12_act_14
set_option maxHeartbeats 4000000 in
set_option maxRecDepth 20000 in
theorem tX12_grain (l : Launch) (E : Ev) (a_M : Nat → Nat) (u_M : St) (x_1 : Int32) (x_2 : Int32) (res : Int32 × St) (hf : fX12_grain u_M x_1 x_2 = some res) : MX l E yX12_grain cX12_grain 3 (some .int) (rmm 1 22) [wModel E a_M u_M] (fun q => [wModel E a_M res.2]) [.ref (a_M 0), .int x_1, .int x_2] (some (.int res.1)) := by
  unfold fX12_grain at hf
  refine MX.ofI rfl (by decide) (Nat.le_of_ble_eq_true rfl) ?_
  intro p e R s m args below meth c ls Q ad H hRf hRl C hB hD hK hN hl hQ
  generalize hlocs : ([] : List Loc) = locs at hB ⊢
  clear hlocs
  have hx := C.1
  have hb := C.2.1
  have hl : lv_has ls 3 [(0, .ref (a_M 0)), (1, .int x_1), (2, .int x_2)] := hl
  refine lv_aload_n hx hb dX12_grain_0 rfl (lv_at hl 0 rfl) ?_
  refine lv_iconst (v := 0) hx hb dX12_grain_1 (by decide) ?_
  refine pf_X12_X12_thrown C hK hB hD 0 rfl dX12_grain_2 (fun H locs u1 eu1 hB => ?_)
  have hf := ox_lt eu1 hf
  have hB : WB E ad s.heap [wModel E a_M u1] H locs := hB
  refine lv_aload_n hx hb dX12_grain_5 rfl (lv_at hl 0 rfl) ?_
  refine lv_iload_n hx hb dX12_grain_6 rfl (lv_at hl 1 rfl) ?_
  refine cxVP (As := [.int x_1]) (rest := []) (st1 := [.int (fX12_isGrain u1 x_1)]) C hK (tX12_isGrain l E a_M u1 x_1 (fX12_isGrain u1 x_1) rfl) lk_X12_488 ⟨rfl, rfl⟩ (by rw [hRf, hRl]; decide) ⟨Nat.zero_le _, Nat.zero_le _⟩ (PB.sub hB.1 [0] rfl) (hB.old hD hN) (Nat.le_trans hN hB.2.2.1) (rc_X12 hK (hB.1 0 _ rfl)) rfl hl.1 rfl rfl (Nat.le_of_ble_eq_true rfl) dX12_grain_7 ?_
  refine lv_if_ne (tgt := 15) hx hb dX12_grain_10 (by decide) (fun c2 => ?_) (fun c2 => ?_)
  · have hf := (if_neg c2).symm.trans hf
    refine lv_iload_n hx hb dX12_grain_15 rfl (lv_at hl 2 rfl) ?_
    by_cases c3 : x_2 = 0
    · have hf := (if_pos c3).symm.trans hf
      refine lv_tableIn hx hb dX12_grain_16 (by rw [c3]; decide) (by rw [c3]; decide) (off := 32) (by rw [c3]; decide) (tgt := 48) (by decide) ?_
      refine lv_aload_n hx hb dX12_grain_48 rfl (lv_at hl 0 rfl) ?_
      refine gf_X12_X12_grainLow C hK (hB.1 0 _ rfl) dX12_grain_49 ?_
      refine lv_iload_n hx hb dX12_grain_52 rfl (lv_at hl 1 rfl) ?_
      obtain ⟨hn4, hf⟩ := ox_chk hf
      refine ld_X12_grainLow C hK (hB.1 0 _ rfl) hn4 rfl dX12_grain_53 ?_
      have hf := Option.some.inj hf
      subst hf
      exact hQ _ _ H locs (fun _ => 0) hB dX12_grain_54
    have hf := (if_neg c3).symm.trans hf
    by_cases c5 : x_2 = 1
    · have hf := (if_pos c5).symm.trans hf
      refine lv_tableIn hx hb dX12_grain_16 (by rw [c5]; decide) (by rw [c5]; decide) (off := 39) (by rw [c5]; decide) (tgt := 55) (by decide) ?_
      refine lv_aload_n hx hb dX12_grain_55 rfl (lv_at hl 0 rfl) ?_
      refine gf_X12_X12_grainHigh C hK (hB.1 0 _ rfl) dX12_grain_56 ?_
      refine lv_iload_n hx hb dX12_grain_59 rfl (lv_at hl 1 rfl) ?_
      obtain ⟨hn6, hf⟩ := ox_chk hf
      refine ld_X12_grainHigh C hK (hB.1 0 _ rfl) hn6 rfl dX12_grain_60 ?_
      have hf := Option.some.inj hf
      subst hf
      exact hQ _ _ H locs (fun _ => 0) hB dX12_grain_61
    have hf := (if_neg c5).symm.trans hf
    by_cases c7 : x_2 = 2
    · have hf := (if_pos c7).symm.trans hf
      refine lv_tableIn hx hb dX12_grain_16 (by rw [c7]; decide) (by rw [c7]; decide) (off := 46) (by rw [c7]; decide) (tgt := 62) (by decide) ?_
      refine lv_aload_n hx hb dX12_grain_62 rfl (lv_at hl 0 rfl) ?_
      refine lv_iconst (v := 0) hx hb dX12_grain_63 (by decide) ?_
      refine lv_iload_n hx hb dX12_grain_64 rfl (lv_at hl 1 rfl) ?_
      obtain ⟨r8, hr8, hf⟩ := ox_bind hf
      refine cxVP (As := [.int (0 : Int32), .int x_1]) (rest := []) (st1 := [.int r8]) C hK (tX12_leftOf l E a_M u1 (0 : Int32) x_1 r8 hr8) lk_X12_448 ⟨rfl, rfl⟩ (by rw [hRf, hRl]; decide) ⟨Nat.zero_le _, Nat.zero_le _⟩ (PB.sub hB.1 [0] rfl) (hB.old hD hN) (Nat.le_trans hN hB.2.2.1) (rc_X12 hK (hB.1 0 _ rfl)) rfl hl.1 rfl rfl (Nat.le_of_ble_eq_true rfl) dX12_grain_65 ?_
      have hf := Option.some.inj hf
      subst hf
      exact hQ _ _ H locs (fun _ => 0) hB dX12_grain_68
    have hf := (if_neg c7).symm.trans hf
    by_cases c9 : x_2 = 3
    · have hf := (if_pos c9).symm.trans hf
      refine lv_tableIn hx hb dX12_grain_16 (by rw [c9]; decide) (by rw [c9]; decide) (off := 53) (by rw [c9]; decide) (tgt := 69) (by decide) ?_
      refine lv_aload_n hx hb dX12_grain_69 rfl (lv_at hl 0 rfl) ?_
      refine gf_X12_X12_ground C hK (hB.1 0 _ rfl) dX12_grain_70 ?_
      refine lv_iload_n hx hb dX12_grain_73 rfl (lv_at hl 1 rfl) ?_
      obtain ⟨hn10, hf⟩ := ox_chk hf
      refine ld_X12_ground C hK (hB.1 0 _ rfl) hn10 rfl dX12_grain_74 ?_
      have hf := Option.some.inj hf
      subst hf
      exact hQ _ _ H locs (fun _ => 0) hB dX12_grain_75
    have hf := (if_neg c9).symm.trans hf
    have hd11 : W p l e R s m args below meth c H locs 0 0 Q (F0 m 76 ls []) := by
      refine lv_iconst (v := (-1)) hx hb dX12_grain_76 (by decide) ?_
      have hf := Option.some.inj hf
      subst hf
      exact hQ _ _ H locs (fun _ => 0) hB dX12_grain_77
    have nc3 := lv_neT c3 (show Int32.toInt 0 = 0 from rfl)
    have nc5 := lv_neT c5 (show Int32.toInt 1 = 1 from rfl)
    have nc7 := lv_neT c7 (show Int32.toInt 2 = 2 from rfl)
    have nc9 := lv_neT c9 (show Int32.toInt 3 = 3 from rfl)
    rcases (show Int32.toInt x_2 < 0 ∨ 3 < Int32.toInt x_2 by omega) with h | h
    · exact lv_tableOut hx hb dX12_grain_16 (Or.inl h) (tgt := 76) (by decide) hd11
    · exact lv_tableOut hx hb dX12_grain_16 (Or.inr h) (tgt := 76) (by decide) hd11
  · have hf := (if_pos c2).symm.trans hf
    refine lv_iconst (v := (-1)) hx hb dX12_grain_13 (by decide) ?_
    have hf := Option.some.inj hf
    subst hf
    exact hQ _ _ H locs (fun _ => 0) hB dX12_grain_14
set_option maxHeartbeats 4000000 in
set_option maxRecDepth 20000 in
theorem tX12_law (l : Launch) (E : Ev) (a_M : Nat → Nat) (u_M : St) (x_1 : Int32) (x_2 : Int32) (res : Int64 × St) (hf : fX12_law u_M x_1 x_2 = some res) : MX l E yX12_law cX12_law 5 (some .long) (rmm 3 72) [wModel E a_M u_M] (fun q => [wModel E a_M res.2]) [.ref (a_M 0), .int x_1, .int x_2] (some (.long res.1)) := by
  unfold fX12_law at hf
  refine MX.ofL rfl (by decide) (Nat.le_of_ble_eq_true rfl) ?_
  intro p e R s m args below meth c ls Q ad H hRf hRl C hB hD hK hN hl hQ
  generalize hlocs : ([] : List Loc) = locs at hB ⊢
  clear hlocs
  have hx := C.1
  have hb := C.2.1
  have hl : lv_has ls 5 [(0, .ref (a_M 0)), (1, .int x_1), (2, .int x_2)] := hl
  refine lv_aload_n hx hb dX12_law_0 rfl (lv_at hl 0 rfl) ?_
  refine lv_iconst (v := 0) hx hb dX12_law_1 (by decide) ?_
  refine pf_X12_X12_thrown C hK hB hD 0 rfl dX12_law_2 (fun H locs u1 eu1 hB => ?_)
  have hf := ox_lt eu1 hf
  have hB : WB E ad s.heap [wModel E a_M u1] H locs := hB
  refine lv_iload_n hx hb dX12_law_5 rfl (lv_at hl 1 rfl) ?_
  refine lv_iconst (v := 0) hx hb dX12_law_6 (by decide) ?_
  refine lv_iconst (v := 2) hx hb dX12_law_7 (by decide) ?_
  refine cxSP (As := [.int x_1, .int (0 : Int32), .int (2 : Int32)]) (rest := []) (st1 := [.int (fX12_isIn x_1 (0 : Int32) (2 : Int32))]) C hK (tX12_isIn l E x_1 (0 : Int32) (2 : Int32) (fX12_isIn x_1 (0 : Int32) (2 : Int32)) rfl) lk_X12_202 ⟨rfl, rfl⟩ (by rw [hRf, hRl]; decide) ⟨Nat.zero_le _, Nat.zero_le _⟩ (PB.sub hB.1 [] rfl) (hB.old hD hN) (Nat.le_trans hN hB.2.2.1) rfl hl.1 rfl rfl (Nat.le_of_ble_eq_true rfl) dX12_law_8 ?_
  refine lv_if_eq (tgt := 35) hx hb dX12_law_11 (by decide) (fun c2 => ?_) (fun c2 => ?_)
  · have hf := (if_pos c2).symm.trans hf
    refine lv_ldc2 (v := -9223372036854775808) hx hb C.2.2.2.1 (C.2.2.2.2 _ mw_1723) dX12_law_35 ?_
    have hf := Option.some.inj hf
    subst hf
    exact hQ _ _ H locs (fun _ => 0) hB dX12_law_38
  · have hf := (if_neg c2).symm.trans hf
    refine lv_aload_n hx hb dX12_law_14 rfl (lv_at hl 0 rfl) ?_
    refine gf_X12_X12_lawTold C hK (hB.1 0 _ rfl) dX12_law_15 ?_
    refine lv_iload_n hx hb dX12_law_18 rfl (lv_at hl 1 rfl) ?_
    obtain ⟨hn3, hf⟩ := ox_chk hf
    refine ld_X12_lawTold C hK (hB.1 0 _ rfl) hn3 rfl dX12_law_19 ?_
    refine lv_if_eq (tgt := 35) hx hb dX12_law_20 (by decide) (fun c4 => ?_) (fun c4 => ?_)
    · have hf := (if_pos c4).symm.trans hf
      refine lv_ldc2 (v := -9223372036854775808) hx hb C.2.2.2.1 (C.2.2.2.2 _ mw_1723) dX12_law_35 ?_
      have hf := Option.some.inj hf
      subst hf
      exact hQ _ _ H locs (fun _ => 0) hB dX12_law_38
    · have hf := (if_neg c4).symm.trans hf
      refine lv_iload_n hx hb dX12_law_23 rfl (lv_at hl 1 rfl) ?_
      obtain ⟨j5, ej5, hf⟩ := ox_ex hf
      have hj5 : ∀ (ls : Array Slot) (H : Heap) (locs : List Loc), lv_has ls 5 [(0, .ref (a_M 0)), (1, .int x_1), (2, .int x_2)] → WB E ad s.heap [wModel E a_M u1] H locs → j5 = some res → W p l e R s m args below meth c H locs 0 0 Q (F0 m 39 ls []) := by
        intro ls H locs hl hB hf
        have hf := ox_a0 ej5 hf
        refine lv_aload_n hx hb dX12_law_39 rfl (lv_at hl 0 rfl) ?_
        obtain ⟨r6, er6, hf⟩ := ox_ex hf
        refine cxVX (bs1 := (fun q => [wModel E a_M r6])) (As := []) (rest := []) (st1 := []) C hK (tX12_plainTried l E a_M u1 r6 er6.symm) lk_X12_365 (by rw [hRf, hRl]; decide) ⟨Nat.zero_le _, Nat.zero_le _⟩ hB hD hN [0] (by decide) rfl (fun _ => rfl) (fun _ => rfl) (rc_X12 hK (hB.1 0 _ rfl)) rfl hl.1 rfl rfl (Nat.le_of_ble_eq_true rfl) dX12_law_40 (fun H locs q7 hB => ?_)
        have hB : WB E ad s.heap [wModel E a_M r6] H locs := hB
        refine lv_iload_n hx hb dX12_law_43 rfl (lv_at hl 1 rfl) ?_
        obtain ⟨j9, ej9, hf⟩ := ox_ex hf
        have hj9 : ∀ (u8 : St) (ls : Array Slot) (H : Heap) (locs : List Loc), lv_has ls 5 [(0, .ref (a_M 0)), (1, .int x_1)] → WB E ad s.heap [wModel E a_M u8] H locs → j9 u8 = some res → W p l e R s m args below meth c H locs 0 0 Q (F0 m 69 ls []) := by
          intro u8 ls H locs hl hB hf
          have hf := ox_a1 ej9 hf
          refine lv_aload_n hx hb dX12_law_69 rfl (lv_at hl 0 rfl) ?_
          refine lv_iload_n hx hb dX12_law_70 rfl (lv_at hl 1 rfl) ?_
          obtain ⟨r10, hr10, hf⟩ := ox_bind hf
          refine cxVX (bs1 := (fun q => [wModel E a_M r10.2])) (As := [.int x_1]) (rest := []) (st1 := [.long r10.1]) C hK (tX12_lawOf l E a_M u8 x_1 r10 hr10) lk_X12_417 (by rw [hRf, hRl]; decide) ⟨Nat.zero_le _, Nat.zero_le _⟩ hB hD hN [0] (by decide) rfl (fun _ => rfl) (fun _ => rfl) (rc_X12 hK (hB.1 0 _ rfl)) rfl hl.1 rfl rfl (Nat.le_of_ble_eq_true rfl) dX12_law_71 (fun H locs q11 hB => ?_)
          have hB : WB E ad s.heap [wModel E a_M r10.2] H locs := hB
          refine lv_topl (fun x12 ex12 => ?_)
          have hf := ox_lt ex12 hf
          refine lv_lstore_n (lv' := [(3, .long x12), (0, .ref (a_M 0)), (1, .int x_1)]) hx hb dX12_law_74 rfl hl (by decide) rfl (fun ls hl => ?_)
          refine lv_aload_n hx hb dX12_law_75 rfl (lv_at hl 1 rfl) ?_
          refine gf_X12_X12_isError C hK (hB.1 0 _ rfl) dX12_law_76 ?_
          obtain ⟨x13, ex13, hf⟩ := ox_ex hf
          have hjx13 : W p l e R s m args below meth c H locs 0 0 Q (F0 m 89 ls [.long x13]) := by
            have hf := Option.some.inj hf
            subst hf
            exact hQ _ _ H locs (fun _ => 0) hB dX12_law_89
          refine lv_if_eq (tgt := 88) hx hb dX12_law_79 (by decide) (fun c14 => ?_) (fun c14 => ?_)
          · refine lv_lload_n hx hb dX12_law_88 rfl (lv_at hl 0 rfl) ?_
            exact ox_topl ((ex13).trans (if_pos c14)).symm hjx13
          · refine lv_ldc2 (v := -9223372036854775808) hx hb C.2.2.2.1 (C.2.2.2.2 _ mw_1723) dX12_law_82 ?_
            refine lv_goto (tgt := 89) hx hb dX12_law_85 (by decide) ?_
            exact ox_topl ((ex13).trans (if_neg c14)).symm hjx13
        refine lv_if_ne (tgt := 63) hx hb dX12_law_44 (by decide) (fun c15 => ?_) (fun c15 => ?_)
        · have hf := (if_neg c15).symm.trans hf
          refine lv_aload_n hx hb dX12_law_63 rfl (lv_at hl 0 rfl) ?_
          refine lv_iconst (v := 0) hx hb dX12_law_64 (by decide) ?_
          refine lv_iconst (v := 0) hx hb dX12_law_65 (by decide) ?_
          obtain ⟨r16, hr16, hf⟩ := ox_bind hf
          refine cxVX (bs1 := (fun q => [wModel E a_M r16])) (As := [.int (0 : Int32), .int (0 : Int32)]) (rest := []) (st1 := []) C hK (tX12_layMill l E a_M r6 (0 : Int32) (0 : Int32) r16 hr16) lk_X12_454 (by rw [hRf, hRl]; decide) ⟨Nat.zero_le _, Nat.zero_le _⟩ hB hD hN [0] (by decide) rfl (fun _ => rfl) (fun _ => rfl) (rc_X12 hK (hB.1 0 _ rfl)) rfl hl.1 rfl rfl (Nat.le_of_ble_eq_true rfl) dX12_law_66 (fun H locs q17 hB => ?_)
          have hB : WB E ad s.heap [wModel E a_M r16] H locs := hB
          exact hj9 _ ls H locs (lv_sub hl [0, 1] rfl) hB hf
        · have hf := (if_pos c15).symm.trans hf
          refine lv_aload_n hx hb dX12_law_47 rfl (lv_at hl 0 rfl) ?_
          refine lv_iconst (v := 0) hx hb dX12_law_48 (by decide) ?_
          refine lv_iload_n hx hb dX12_law_49 rfl (lv_at hl 2 rfl) ?_
          refine lv_aload_n hx hb dX12_law_50 rfl (lv_at hl 0 rfl) ?_
          refine gf_X12_X12_on C hK (hB.1 0 _ rfl) dX12_law_51 ?_
          refine lv_iconst (v := 0) hx hb dX12_law_54 (by decide) ?_
          refine ld_X12_on C hK (hB.1 0 _ rfl) (by decide) rfl dX12_law_55 ?_
          refine lv_iconst (v := 0) hx hb dX12_law_56 (by decide) ?_
          obtain ⟨r18, hr18, hf⟩ := ox_bind hf
          refine cxVX (bs1 := (fun q => [wModel E a_M r18])) (As := [.int (0 : Int32), .int x_2, .int (gA r6 53 0), .int (0 : Int32)]) (rest := []) (st1 := []) C hK (tX12_layGuest l E a_M r6 (0 : Int32) x_2 (gA r6 53 0) (0 : Int32) r18 hr18) lk_X12_423 (by rw [hRf, hRl]; decide) ⟨Nat.zero_le _, Nat.zero_le _⟩ hB hD hN [0] (by decide) rfl (fun _ => rfl) (fun _ => rfl) (rc_X12 hK (hB.1 0 _ rfl)) rfl hl.1 rfl rfl (Nat.le_of_ble_eq_true rfl) dX12_law_57 (fun H locs q19 hB => ?_)
          have hB : WB E ad s.heap [wModel E a_M r18] H locs := hB
          refine lv_goto (tgt := 69) hx hb dX12_law_60 (by decide) ?_
          exact hj9 _ ls H locs (lv_sub hl [0, 1] rfl) hB hf
      refine lv_if_ne (tgt := 39) hx hb dX12_law_24 (by decide) (fun c20 => ?_) (fun c20 => ?_)
      · have hf := (if_neg c20).symm.trans hf
        exact hj5 ls H locs (lv_sub hl [0, 1, 2] rfl) hB hf
      · have hf := (if_pos c20).symm.trans hf
        refine lv_aload_n hx hb dX12_law_27 rfl (lv_at hl 0 rfl) ?_
        refine lv_iload_n hx hb dX12_law_28 rfl (lv_at hl 2 rfl) ?_
        refine cxVP (As := [.int x_2]) (rest := []) (st1 := [.int (fX12_isGuest u1 x_2)]) C hK (tX12_isGuest l E a_M u1 x_2 (fX12_isGuest u1 x_2) rfl) lk_X12_476 ⟨rfl, rfl⟩ (by rw [hRf, hRl]; decide) ⟨Nat.zero_le _, Nat.zero_le _⟩ (PB.sub hB.1 [0] rfl) (hB.old hD hN) (Nat.le_trans hN hB.2.2.1) (rc_X12 hK (hB.1 0 _ rfl)) rfl hl.1 rfl rfl (Nat.le_of_ble_eq_true rfl) dX12_law_29 ?_
        refine lv_if_ne (tgt := 39) hx hb dX12_law_32 (by decide) (fun c21 => ?_) (fun c21 => ?_)
        · have hf := (if_neg c21).symm.trans hf
          exact hj5 ls H locs (lv_sub hl [0, 1, 2] rfl) hB hf
        · have hf := (if_pos c21).symm.trans hf
          refine lv_ldc2 (v := -9223372036854775808) hx hb C.2.2.2.1 (C.2.2.2.2 _ mw_1723) dX12_law_35 ?_
          have hf := Option.some.inj hf
          subst hf
          exact hQ _ _ H locs (fun _ => 0) hB dX12_law_38
