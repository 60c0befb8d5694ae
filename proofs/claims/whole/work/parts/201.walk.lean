set_option maxHeartbeats 4000000 in
set_option maxRecDepth 20000 in
theorem tX2_stoneLaw (l : Launch) (E : Ev) (a_ml : Nat → Nat) (u_ml : St) (n_nm : Nat) (a_nm : Nat → Nat) (u_nm : St) (a_sc : Nat → Nat → Nat) (u_sc : Nat → St) (a_h : Nat → Nat) (u_h : St) (x_2 : Int32) (x_3 : Int32) (res : Int64 × St × (Nat → St)) (hf : fX2_stoneLaw n_nm u_ml u_nm u_sc u_h x_2 x_3 = some res) : MX l E yX2_stoneLaw cX2_stoneLaw 4 (some .long) (rmm 3 78) [wMill E a_ml (a_nm 0) (a_sc 0 0) u_ml, wLArr E n_nm a_nm u_nm, wScript E (a_sc 0) (a_sc 1 0) (a_sc 2 0) (a_sc 3 0) (a_sc 4 0) (a_sc 5 0) (a_sc 6 0) (a_sc 7 0) (u_sc 0), wRoll E 6 (a_sc 1) (u_sc 1), wRoll E 6 (a_sc 2) (u_sc 2), wRoll E 4 (a_sc 3) (u_sc 3), wRoll E 14 (a_sc 4) (u_sc 4), wFormula E (a_sc 5) (u_sc 5), wFormula E (a_sc 6) (u_sc 6), wFormula E (a_sc 7) (u_sc 7), wHall E a_h u_h] (fun q => [wMill E a_ml (a_nm 0) (a_sc 0 0) u_ml, wLArr E n_nm a_nm res.2.1, wScript E (a_sc 0) (a_sc 1 0) (a_sc 2 0) (a_sc 3 0) (a_sc 4 0) (a_sc 5 0) (a_sc 6 0) (a_sc 7 0) (res.2.2 0), wRoll E 6 (a_sc 1) (res.2.2 1), wRoll E 6 (a_sc 2) (res.2.2 2), wRoll E 4 (a_sc 3) (res.2.2 3), wRoll E 14 (a_sc 4) (res.2.2 4), wFormula E (a_sc 5) (res.2.2 5), wFormula E (a_sc 6) (res.2.2 6), wFormula E (a_sc 7) (res.2.2 7), wHall E a_h u_h]) [.ref (a_ml 0), .ref (a_h 0), .int x_2, .int x_3] (some (.long res.1)) := by
  unfold fX2_stoneLaw at hf
  refine MX.ofL rfl (by decide) (Nat.le_of_ble_eq_true rfl) ?_
  intro p e R s m args below meth c ls Q ad H hRf hRl C hB hD hK hN hl hQ
  generalize hlocs : ([] : List Loc) = locs at hB ⊢
  clear hlocs
  have hx := C.1
  have hb := C.2.1
  have hl : lv_has ls 4 [(0, .ref (a_ml 0)), (1, .ref (a_h 0)), (2, .int x_2), (3, .int x_3)] := hl
  refine lv_aload_n hx hb dX2_stoneLaw_0 rfl (lv_at hl 0 rfl) ?_
  refine gf_X2_X2_script C hK (hB.1 0 _ rfl) dX2_stoneLaw_1 ?_
  refine gf_X2_X8_laws C hK (hB.1 2 _ rfl) dX2_stoneLaw_4 ?_
  refine lv_iload_n hx hb dX2_stoneLaw_7 rfl (lv_at hl 2 rfl) ?_
  by_cases c1 : x_2 = 0
  · have hf := (if_pos c1).symm.trans hf
    refine bx_aaldK C hK (hB.1 2 _ rfl) 1 rfl (k := 0) c1 dX2_stoneLaw_8 (q := (a_sc 5 0)) rfl (by decide) ?_
    refine gf_X2_X0_isTold C hK (hB.1 7 _ rfl) dX2_stoneLaw_9 ?_
    refine lv_if_ne (tgt := 19) hx hb dX2_stoneLaw_12 (by decide) (fun c2 => ?_) (fun c2 => ?_)
    · have hf := (if_neg c2).symm.trans hf
      refine lv_aload_n hx hb dX2_stoneLaw_19 rfl (lv_at hl 0 rfl) ?_
      refine gf_X2_X2_names C hK (hB.1 0 _ rfl) dX2_stoneLaw_20 ?_
      refine lv_iconst (v := 0) hx hb dX2_stoneLaw_23 (by decide) ?_
      refine lv_aload_n hx hb dX2_stoneLaw_24 rfl (lv_at hl 0 rfl) ?_
      refine lv_aload_n hx hb dX2_stoneLaw_25 rfl (lv_at hl 1 rfl) ?_
      obtain ⟨r3, hr3, hf⟩ := ox_bind hf
      refine cxVP (As := [.ref (a_h 0)]) (rest := [.int (0 : Int32), .ref (a_nm 0)]) (st1 := [.int r3, .int (0 : Int32), .ref (a_nm 0)]) C hK (tX2_moodOn l E a_ml (a_nm 0) u_ml a_sc u_sc a_h u_h r3 hr3) lk_X2_111 ⟨rfl, rfl⟩ (by rw [hRf, hRl]; decide) ⟨Nat.zero_le _, Nat.zero_le _⟩ (PB.sub hB.1 [0, 2, 3, 4, 5, 6, 7, 8, 9, 10] rfl) (hB.old hD hN) (Nat.le_trans hN hB.2.2.1) (rc_X2 hK (hB.1 0 _ rfl)) rfl hl.1 rfl rfl (Nat.le_of_ble_eq_true rfl) dX2_stoneLaw_26 ?_
      refine lv_i2l hx hb dX2_stoneLaw_29 rfl ?_
      refine lv_topl (fun x4 ex4 => ?_)
      have hf := ox_lt ex4 hf
      obtain ⟨hn5, hf⟩ := ox_chk hf
      refine st_LArr_row C hK hB hD 1 rfl hn5 rfl dX2_stoneLaw_30 (fun H locs u6 eu6 hB => ?_)
      have hf := ox_lt eu6 hf
      have hB : WB E ad s.heap [wMill E a_ml (a_nm 0) (a_sc 0 0) u_ml, wLArr E n_nm a_nm u6, wScript E (a_sc 0) (a_sc 1 0) (a_sc 2 0) (a_sc 3 0) (a_sc 4 0) (a_sc 5 0) (a_sc 6 0) (a_sc 7 0) (u_sc 0), wRoll E 6 (a_sc 1) (u_sc 1), wRoll E 6 (a_sc 2) (u_sc 2), wRoll E 4 (a_sc 3) (u_sc 3), wRoll E 14 (a_sc 4) (u_sc 4), wFormula E (a_sc 5) (u_sc 5), wFormula E (a_sc 6) (u_sc 6), wFormula E (a_sc 7) (u_sc 7), wHall E a_h u_h] H locs := hB
      refine lv_aload_n hx hb dX2_stoneLaw_31 rfl (lv_at hl 0 rfl) ?_
      refine gf_X2_X2_names C hK (hB.1 0 _ rfl) dX2_stoneLaw_32 ?_
      refine lv_iconst (v := 1) hx hb dX2_stoneLaw_35 (by decide) ?_
      refine lv_lconst (v := 0) hx hb dX2_stoneLaw_36 (by decide) ?_
      obtain ⟨hn7, hf⟩ := ox_chk hf
      refine st_LArr_row C hK hB hD 1 rfl hn7 rfl dX2_stoneLaw_37 (fun H locs u8 eu8 hB => ?_)
      have hf := ox_lt eu8 hf
      have hB : WB E ad s.heap [wMill E a_ml (a_nm 0) (a_sc 0 0) u_ml, wLArr E n_nm a_nm u8, wScript E (a_sc 0) (a_sc 1 0) (a_sc 2 0) (a_sc 3 0) (a_sc 4 0) (a_sc 5 0) (a_sc 6 0) (a_sc 7 0) (u_sc 0), wRoll E 6 (a_sc 1) (u_sc 1), wRoll E 6 (a_sc 2) (u_sc 2), wRoll E 4 (a_sc 3) (u_sc 3), wRoll E 14 (a_sc 4) (u_sc 4), wFormula E (a_sc 5) (u_sc 5), wFormula E (a_sc 6) (u_sc 6), wFormula E (a_sc 7) (u_sc 7), wHall E a_h u_h] H locs := hB
      refine lv_aload_n hx hb dX2_stoneLaw_38 rfl (lv_at hl 0 rfl) ?_
      refine gf_X2_X2_names C hK (hB.1 0 _ rfl) dX2_stoneLaw_39 ?_
      refine lv_iconst (v := 2) hx hb dX2_stoneLaw_42 (by decide) ?_
      refine lv_lconst (v := 0) hx hb dX2_stoneLaw_43 (by decide) ?_
      obtain ⟨hn9, hf⟩ := ox_chk hf
      refine st_LArr_row C hK hB hD 1 rfl hn9 rfl dX2_stoneLaw_44 (fun H locs u10 eu10 hB => ?_)
      have hf := ox_lt eu10 hf
      have hB : WB E ad s.heap [wMill E a_ml (a_nm 0) (a_sc 0 0) u_ml, wLArr E n_nm a_nm u10, wScript E (a_sc 0) (a_sc 1 0) (a_sc 2 0) (a_sc 3 0) (a_sc 4 0) (a_sc 5 0) (a_sc 6 0) (a_sc 7 0) (u_sc 0), wRoll E 6 (a_sc 1) (u_sc 1), wRoll E 6 (a_sc 2) (u_sc 2), wRoll E 4 (a_sc 3) (u_sc 3), wRoll E 14 (a_sc 4) (u_sc 4), wFormula E (a_sc 5) (u_sc 5), wFormula E (a_sc 6) (u_sc 6), wFormula E (a_sc 7) (u_sc 7), wHall E a_h u_h] H locs := hB
      refine lv_aload_n hx hb dX2_stoneLaw_45 rfl (lv_at hl 0 rfl) ?_
      refine gf_X2_X2_names C hK (hB.1 0 _ rfl) dX2_stoneLaw_46 ?_
      refine lv_iconst (v := 3) hx hb dX2_stoneLaw_49 (by decide) ?_
      refine lv_iload_n hx hb dX2_stoneLaw_50 rfl (lv_at hl 3 rfl) ?_
      refine lv_i2l hx hb dX2_stoneLaw_51 rfl ?_
      refine lv_topl (fun x11 ex11 => ?_)
      have hf := ox_lt ex11 hf
      obtain ⟨hn12, hf⟩ := ox_chk hf
      refine st_LArr_row C hK hB hD 1 rfl hn12 rfl dX2_stoneLaw_52 (fun H locs u13 eu13 hB => ?_)
      have hf := ox_lt eu13 hf
      have hB : WB E ad s.heap [wMill E a_ml (a_nm 0) (a_sc 0 0) u_ml, wLArr E n_nm a_nm u13, wScript E (a_sc 0) (a_sc 1 0) (a_sc 2 0) (a_sc 3 0) (a_sc 4 0) (a_sc 5 0) (a_sc 6 0) (a_sc 7 0) (u_sc 0), wRoll E 6 (a_sc 1) (u_sc 1), wRoll E 6 (a_sc 2) (u_sc 2), wRoll E 4 (a_sc 3) (u_sc 3), wRoll E 14 (a_sc 4) (u_sc 4), wFormula E (a_sc 5) (u_sc 5), wFormula E (a_sc 6) (u_sc 6), wFormula E (a_sc 7) (u_sc 7), wHall E a_h u_h] H locs := hB
      refine lv_aload_n hx hb dX2_stoneLaw_53 rfl (lv_at hl 0 rfl) ?_
      refine gf_X2_X2_names C hK (hB.1 0 _ rfl) dX2_stoneLaw_54 ?_
      refine lv_iconst (v := 4) hx hb dX2_stoneLaw_57 (by decide) ?_
      refine lv_aload_n hx hb dX2_stoneLaw_58 rfl (lv_at hl 1 rfl) ?_
      refine gf_X2_X1_speed C hK (hB.1 10 _ rfl) dX2_stoneLaw_59 ?_
      refine lv_i2l hx hb dX2_stoneLaw_62 rfl ?_
      refine lv_topl (fun x14 ex14 => ?_)
      have hf := ox_lt ex14 hf
      obtain ⟨hn15, hf⟩ := ox_chk hf
      refine st_LArr_row C hK hB hD 1 rfl hn15 rfl dX2_stoneLaw_63 (fun H locs u16 eu16 hB => ?_)
      have hf := ox_lt eu16 hf
      have hB : WB E ad s.heap [wMill E a_ml (a_nm 0) (a_sc 0 0) u_ml, wLArr E n_nm a_nm u16, wScript E (a_sc 0) (a_sc 1 0) (a_sc 2 0) (a_sc 3 0) (a_sc 4 0) (a_sc 5 0) (a_sc 6 0) (a_sc 7 0) (u_sc 0), wRoll E 6 (a_sc 1) (u_sc 1), wRoll E 6 (a_sc 2) (u_sc 2), wRoll E 4 (a_sc 3) (u_sc 3), wRoll E 14 (a_sc 4) (u_sc 4), wFormula E (a_sc 5) (u_sc 5), wFormula E (a_sc 6) (u_sc 6), wFormula E (a_sc 7) (u_sc 7), wHall E a_h u_h] H locs := hB
      refine lv_aload_n hx hb dX2_stoneLaw_64 rfl (lv_at hl 0 rfl) ?_
      refine gf_X2_X2_names C hK (hB.1 0 _ rfl) dX2_stoneLaw_65 ?_
      refine lv_iconst (v := 5) hx hb dX2_stoneLaw_68 (by decide) ?_
      refine lv_aload_n hx hb dX2_stoneLaw_69 rfl (lv_at hl 1 rfl) ?_
      refine gf_X2_X1_groundInAll C hK (hB.1 10 _ rfl) dX2_stoneLaw_70 ?_
      refine lv_i2l hx hb dX2_stoneLaw_73 rfl ?_
      refine lv_topl (fun x17 ex17 => ?_)
      have hf := ox_lt ex17 hf
      obtain ⟨hn18, hf⟩ := ox_chk hf
      refine st_LArr_row C hK hB hD 1 rfl hn18 rfl dX2_stoneLaw_74 (fun H locs u19 eu19 hB => ?_)
      have hf := ox_lt eu19 hf
      have hB : WB E ad s.heap [wMill E a_ml (a_nm 0) (a_sc 0 0) u_ml, wLArr E n_nm a_nm u19, wScript E (a_sc 0) (a_sc 1 0) (a_sc 2 0) (a_sc 3 0) (a_sc 4 0) (a_sc 5 0) (a_sc 6 0) (a_sc 7 0) (u_sc 0), wRoll E 6 (a_sc 1) (u_sc 1), wRoll E 6 (a_sc 2) (u_sc 2), wRoll E 4 (a_sc 3) (u_sc 3), wRoll E 14 (a_sc 4) (u_sc 4), wFormula E (a_sc 5) (u_sc 5), wFormula E (a_sc 6) (u_sc 6), wFormula E (a_sc 7) (u_sc 7), wHall E a_h u_h] H locs := hB
      refine lv_aload_n hx hb dX2_stoneLaw_75 rfl (lv_at hl 0 rfl) ?_
      refine gf_X2_X2_names C hK (hB.1 0 _ rfl) dX2_stoneLaw_76 ?_
      refine lv_bipush (v := 6) hx hb dX2_stoneLaw_79 (by decide) ?_
      refine lv_aload_n hx hb dX2_stoneLaw_81 rfl (lv_at hl 1 rfl) ?_
      refine gf_X2_X1_minute C hK (hB.1 10 _ rfl) dX2_stoneLaw_82 ?_
      refine lv_i2l hx hb dX2_stoneLaw_85 rfl ?_
      refine lv_topl (fun x20 ex20 => ?_)
      have hf := ox_lt ex20 hf
      obtain ⟨hn21, hf⟩ := ox_chk hf
      refine st_LArr_row C hK hB hD 1 rfl hn21 rfl dX2_stoneLaw_86 (fun H locs u22 eu22 hB => ?_)
      have hf := ox_lt eu22 hf
      have hB : WB E ad s.heap [wMill E a_ml (a_nm 0) (a_sc 0 0) u_ml, wLArr E n_nm a_nm u22, wScript E (a_sc 0) (a_sc 1 0) (a_sc 2 0) (a_sc 3 0) (a_sc 4 0) (a_sc 5 0) (a_sc 6 0) (a_sc 7 0) (u_sc 0), wRoll E 6 (a_sc 1) (u_sc 1), wRoll E 6 (a_sc 2) (u_sc 2), wRoll E 4 (a_sc 3) (u_sc 3), wRoll E 14 (a_sc 4) (u_sc 4), wFormula E (a_sc 5) (u_sc 5), wFormula E (a_sc 6) (u_sc 6), wFormula E (a_sc 7) (u_sc 7), wHall E a_h u_h] H locs := hB
      refine lv_aload_n hx hb dX2_stoneLaw_87 rfl (lv_at hl 0 rfl) ?_
      refine gf_X2_X2_script C hK (hB.1 0 _ rfl) dX2_stoneLaw_88 ?_
      refine gf_X2_X8_laws C hK (hB.1 2 _ rfl) dX2_stoneLaw_91 ?_
      refine lv_iload_n hx hb dX2_stoneLaw_94 rfl (lv_at hl 2 rfl) ?_
      refine bx_aaldK C hK (hB.1 2 _ rfl) 1 rfl (k := 0) c1 dX2_stoneLaw_95 (q := (a_sc 5 0)) rfl (by decide) ?_
      refine lv_aload_n hx hb dX2_stoneLaw_96 rfl (lv_at hl 0 rfl) ?_
      refine gf_X2_X2_names C hK (hB.1 0 _ rfl) dX2_stoneLaw_97 ?_
      obtain ⟨r23, hr23, hf⟩ := ox_bind hf
      refine cxVX (bs1 := (fun q => [wMill E a_ml (a_nm 0) (a_sc 0 0) u_ml, wLArr E n_nm a_nm u22, wScript E (a_sc 0) (a_sc 1 0) (a_sc 2 0) (a_sc 3 0) (a_sc 4 0) (a_sc 5 0) (a_sc 6 0) (a_sc 7 0) (u_sc 0), wRoll E 6 (a_sc 1) (u_sc 1), wRoll E 6 (a_sc 2) (u_sc 2), wRoll E 4 (a_sc 3) (u_sc 3), wRoll E 14 (a_sc 4) (u_sc 4), wFormula E (a_sc 5) r23.2, wFormula E (a_sc 6) (u_sc 6), wFormula E (a_sc 7) (u_sc 7), wHall E a_h u_h])) (As := [.ref (a_nm 0)]) (rest := []) (st1 := [.long r23.1]) C hK (tX0_value l E (a_sc 5) (u_sc 5) n_nm a_nm u22 r23 hr23) lk_X2_154 (by rw [hRf, hRl]; decide) ⟨Nat.zero_le _, Nat.zero_le _⟩ hB hD hN [7, 1] (by decide) rfl (fun _ => rfl) (fun _ => rfl) (rc_X0 hK (hB.1 7 _ rfl)) rfl hl.1 rfl rfl (Nat.le_of_ble_eq_true rfl) dX2_stoneLaw_100 (fun H locs q24 hB => ?_)
      have hB : WB E ad s.heap [wMill E a_ml (a_nm 0) (a_sc 0 0) u_ml, wLArr E n_nm a_nm u22, wScript E (a_sc 0) (a_sc 1 0) (a_sc 2 0) (a_sc 3 0) (a_sc 4 0) (a_sc 5 0) (a_sc 6 0) (a_sc 7 0) (u_sc 0), wRoll E 6 (a_sc 1) (u_sc 1), wRoll E 6 (a_sc 2) (u_sc 2), wRoll E 4 (a_sc 3) (u_sc 3), wRoll E 14 (a_sc 4) (u_sc 4), wFormula E (a_sc 5) r23.2, wFormula E (a_sc 6) (u_sc 6), wFormula E (a_sc 7) (u_sc 7), wHall E a_h u_h] H locs := hB
      have hf := Option.some.inj hf
      subst hf
      exact hQ _ _ H locs (fun _ => 0) hB dX2_stoneLaw_103
    · have hf := (if_pos c2).symm.trans hf
      refine lv_ldc2 (v := -9223372036854775808) hx hb C.2.2.2.1 (C.2.2.2.2 _ mw_770) dX2_stoneLaw_15 ?_
      have hf := Option.some.inj hf
      subst hf
      exact hQ _ _ H locs (fun _ => 0) hB dX2_stoneLaw_18
  have hf := (if_neg c1).symm.trans hf
  by_cases c25 : x_2 = 1
  · have hf := (if_pos c25).symm.trans hf
    refine bx_aaldK C hK (hB.1 2 _ rfl) 1 rfl (k := 1) c25 dX2_stoneLaw_8 (q := (a_sc 6 0)) rfl (by decide) ?_
    refine gf_X2_X0_isTold C hK (hB.1 8 _ rfl) dX2_stoneLaw_9 ?_
    refine lv_if_ne (tgt := 19) hx hb dX2_stoneLaw_12 (by decide) (fun c26 => ?_) (fun c26 => ?_)
    · have hf := (if_neg c26).symm.trans hf
      refine lv_aload_n hx hb dX2_stoneLaw_19 rfl (lv_at hl 0 rfl) ?_
      refine gf_X2_X2_names C hK (hB.1 0 _ rfl) dX2_stoneLaw_20 ?_
      refine lv_iconst (v := 0) hx hb dX2_stoneLaw_23 (by decide) ?_
      refine lv_aload_n hx hb dX2_stoneLaw_24 rfl (lv_at hl 0 rfl) ?_
      refine lv_aload_n hx hb dX2_stoneLaw_25 rfl (lv_at hl 1 rfl) ?_
      obtain ⟨r27, hr27, hf⟩ := ox_bind hf
      refine cxVP (As := [.ref (a_h 0)]) (rest := [.int (0 : Int32), .ref (a_nm 0)]) (st1 := [.int r27, .int (0 : Int32), .ref (a_nm 0)]) C hK (tX2_moodOn l E a_ml (a_nm 0) u_ml a_sc u_sc a_h u_h r27 hr27) lk_X2_111 ⟨rfl, rfl⟩ (by rw [hRf, hRl]; decide) ⟨Nat.zero_le _, Nat.zero_le _⟩ (PB.sub hB.1 [0, 2, 3, 4, 5, 6, 7, 8, 9, 10] rfl) (hB.old hD hN) (Nat.le_trans hN hB.2.2.1) (rc_X2 hK (hB.1 0 _ rfl)) rfl hl.1 rfl rfl (Nat.le_of_ble_eq_true rfl) dX2_stoneLaw_26 ?_
      refine lv_i2l hx hb dX2_stoneLaw_29 rfl ?_
      refine lv_topl (fun x28 ex28 => ?_)
      have hf := ox_lt ex28 hf
      obtain ⟨hn29, hf⟩ := ox_chk hf
      refine st_LArr_row C hK hB hD 1 rfl hn29 rfl dX2_stoneLaw_30 (fun H locs u30 eu30 hB => ?_)
      have hf := ox_lt eu30 hf
      have hB : WB E ad s.heap [wMill E a_ml (a_nm 0) (a_sc 0 0) u_ml, wLArr E n_nm a_nm u30, wScript E (a_sc 0) (a_sc 1 0) (a_sc 2 0) (a_sc 3 0) (a_sc 4 0) (a_sc 5 0) (a_sc 6 0) (a_sc 7 0) (u_sc 0), wRoll E 6 (a_sc 1) (u_sc 1), wRoll E 6 (a_sc 2) (u_sc 2), wRoll E 4 (a_sc 3) (u_sc 3), wRoll E 14 (a_sc 4) (u_sc 4), wFormula E (a_sc 5) (u_sc 5), wFormula E (a_sc 6) (u_sc 6), wFormula E (a_sc 7) (u_sc 7), wHall E a_h u_h] H locs := hB
      refine lv_aload_n hx hb dX2_stoneLaw_31 rfl (lv_at hl 0 rfl) ?_
      refine gf_X2_X2_names C hK (hB.1 0 _ rfl) dX2_stoneLaw_32 ?_
      refine lv_iconst (v := 1) hx hb dX2_stoneLaw_35 (by decide) ?_
      refine lv_lconst (v := 0) hx hb dX2_stoneLaw_36 (by decide) ?_
      obtain ⟨hn31, hf⟩ := ox_chk hf
      refine st_LArr_row C hK hB hD 1 rfl hn31 rfl dX2_stoneLaw_37 (fun H locs u32 eu32 hB => ?_)
      have hf := ox_lt eu32 hf
      have hB : WB E ad s.heap [wMill E a_ml (a_nm 0) (a_sc 0 0) u_ml, wLArr E n_nm a_nm u32, wScript E (a_sc 0) (a_sc 1 0) (a_sc 2 0) (a_sc 3 0) (a_sc 4 0) (a_sc 5 0) (a_sc 6 0) (a_sc 7 0) (u_sc 0), wRoll E 6 (a_sc 1) (u_sc 1), wRoll E 6 (a_sc 2) (u_sc 2), wRoll E 4 (a_sc 3) (u_sc 3), wRoll E 14 (a_sc 4) (u_sc 4), wFormula E (a_sc 5) (u_sc 5), wFormula E (a_sc 6) (u_sc 6), wFormula E (a_sc 7) (u_sc 7), wHall E a_h u_h] H locs := hB
      refine lv_aload_n hx hb dX2_stoneLaw_38 rfl (lv_at hl 0 rfl) ?_
      refine gf_X2_X2_names C hK (hB.1 0 _ rfl) dX2_stoneLaw_39 ?_
      refine lv_iconst (v := 2) hx hb dX2_stoneLaw_42 (by decide) ?_
      refine lv_lconst (v := 0) hx hb dX2_stoneLaw_43 (by decide) ?_
      obtain ⟨hn33, hf⟩ := ox_chk hf
      refine st_LArr_row C hK hB hD 1 rfl hn33 rfl dX2_stoneLaw_44 (fun H locs u34 eu34 hB => ?_)
      have hf := ox_lt eu34 hf
      have hB : WB E ad s.heap [wMill E a_ml (a_nm 0) (a_sc 0 0) u_ml, wLArr E n_nm a_nm u34, wScript E (a_sc 0) (a_sc 1 0) (a_sc 2 0) (a_sc 3 0) (a_sc 4 0) (a_sc 5 0) (a_sc 6 0) (a_sc 7 0) (u_sc 0), wRoll E 6 (a_sc 1) (u_sc 1), wRoll E 6 (a_sc 2) (u_sc 2), wRoll E 4 (a_sc 3) (u_sc 3), wRoll E 14 (a_sc 4) (u_sc 4), wFormula E (a_sc 5) (u_sc 5), wFormula E (a_sc 6) (u_sc 6), wFormula E (a_sc 7) (u_sc 7), wHall E a_h u_h] H locs := hB
      refine lv_aload_n hx hb dX2_stoneLaw_45 rfl (lv_at hl 0 rfl) ?_
      refine gf_X2_X2_names C hK (hB.1 0 _ rfl) dX2_stoneLaw_46 ?_
      refine lv_iconst (v := 3) hx hb dX2_stoneLaw_49 (by decide) ?_
      refine lv_iload_n hx hb dX2_stoneLaw_50 rfl (lv_at hl 3 rfl) ?_
      refine lv_i2l hx hb dX2_stoneLaw_51 rfl ?_
      refine lv_topl (fun x35 ex35 => ?_)
      have hf := ox_lt ex35 hf
      obtain ⟨hn36, hf⟩ := ox_chk hf
      refine st_LArr_row C hK hB hD 1 rfl hn36 rfl dX2_stoneLaw_52 (fun H locs u37 eu37 hB => ?_)
      have hf := ox_lt eu37 hf
      have hB : WB E ad s.heap [wMill E a_ml (a_nm 0) (a_sc 0 0) u_ml, wLArr E n_nm a_nm u37, wScript E (a_sc 0) (a_sc 1 0) (a_sc 2 0) (a_sc 3 0) (a_sc 4 0) (a_sc 5 0) (a_sc 6 0) (a_sc 7 0) (u_sc 0), wRoll E 6 (a_sc 1) (u_sc 1), wRoll E 6 (a_sc 2) (u_sc 2), wRoll E 4 (a_sc 3) (u_sc 3), wRoll E 14 (a_sc 4) (u_sc 4), wFormula E (a_sc 5) (u_sc 5), wFormula E (a_sc 6) (u_sc 6), wFormula E (a_sc 7) (u_sc 7), wHall E a_h u_h] H locs := hB
      refine lv_aload_n hx hb dX2_stoneLaw_53 rfl (lv_at hl 0 rfl) ?_
      refine gf_X2_X2_names C hK (hB.1 0 _ rfl) dX2_stoneLaw_54 ?_
      refine lv_iconst (v := 4) hx hb dX2_stoneLaw_57 (by decide) ?_
      refine lv_aload_n hx hb dX2_stoneLaw_58 rfl (lv_at hl 1 rfl) ?_
      refine gf_X2_X1_speed C hK (hB.1 10 _ rfl) dX2_stoneLaw_59 ?_
      refine lv_i2l hx hb dX2_stoneLaw_62 rfl ?_
      refine lv_topl (fun x38 ex38 => ?_)
      have hf := ox_lt ex38 hf
      obtain ⟨hn39, hf⟩ := ox_chk hf
      refine st_LArr_row C hK hB hD 1 rfl hn39 rfl dX2_stoneLaw_63 (fun H locs u40 eu40 hB => ?_)
      have hf := ox_lt eu40 hf
      have hB : WB E ad s.heap [wMill E a_ml (a_nm 0) (a_sc 0 0) u_ml, wLArr E n_nm a_nm u40, wScript E (a_sc 0) (a_sc 1 0) (a_sc 2 0) (a_sc 3 0) (a_sc 4 0) (a_sc 5 0) (a_sc 6 0) (a_sc 7 0) (u_sc 0), wRoll E 6 (a_sc 1) (u_sc 1), wRoll E 6 (a_sc 2) (u_sc 2), wRoll E 4 (a_sc 3) (u_sc 3), wRoll E 14 (a_sc 4) (u_sc 4), wFormula E (a_sc 5) (u_sc 5), wFormula E (a_sc 6) (u_sc 6), wFormula E (a_sc 7) (u_sc 7), wHall E a_h u_h] H locs := hB
      refine lv_aload_n hx hb dX2_stoneLaw_64 rfl (lv_at hl 0 rfl) ?_
      refine gf_X2_X2_names C hK (hB.1 0 _ rfl) dX2_stoneLaw_65 ?_
      refine lv_iconst (v := 5) hx hb dX2_stoneLaw_68 (by decide) ?_
      refine lv_aload_n hx hb dX2_stoneLaw_69 rfl (lv_at hl 1 rfl) ?_
      refine gf_X2_X1_groundInAll C hK (hB.1 10 _ rfl) dX2_stoneLaw_70 ?_
      refine lv_i2l hx hb dX2_stoneLaw_73 rfl ?_
      refine lv_topl (fun x41 ex41 => ?_)
      have hf := ox_lt ex41 hf
      obtain ⟨hn42, hf⟩ := ox_chk hf
      refine st_LArr_row C hK hB hD 1 rfl hn42 rfl dX2_stoneLaw_74 (fun H locs u43 eu43 hB => ?_)
      have hf := ox_lt eu43 hf
      have hB : WB E ad s.heap [wMill E a_ml (a_nm 0) (a_sc 0 0) u_ml, wLArr E n_nm a_nm u43, wScript E (a_sc 0) (a_sc 1 0) (a_sc 2 0) (a_sc 3 0) (a_sc 4 0) (a_sc 5 0) (a_sc 6 0) (a_sc 7 0) (u_sc 0), wRoll E 6 (a_sc 1) (u_sc 1), wRoll E 6 (a_sc 2) (u_sc 2), wRoll E 4 (a_sc 3) (u_sc 3), wRoll E 14 (a_sc 4) (u_sc 4), wFormula E (a_sc 5) (u_sc 5), wFormula E (a_sc 6) (u_sc 6), wFormula E (a_sc 7) (u_sc 7), wHall E a_h u_h] H locs := hB
      refine lv_aload_n hx hb dX2_stoneLaw_75 rfl (lv_at hl 0 rfl) ?_
      refine gf_X2_X2_names C hK (hB.1 0 _ rfl) dX2_stoneLaw_76 ?_
      refine lv_bipush (v := 6) hx hb dX2_stoneLaw_79 (by decide) ?_
      refine lv_aload_n hx hb dX2_stoneLaw_81 rfl (lv_at hl 1 rfl) ?_
      refine gf_X2_X1_minute C hK (hB.1 10 _ rfl) dX2_stoneLaw_82 ?_
      refine lv_i2l hx hb dX2_stoneLaw_85 rfl ?_
      refine lv_topl (fun x44 ex44 => ?_)
      have hf := ox_lt ex44 hf
      obtain ⟨hn45, hf⟩ := ox_chk hf
      refine st_LArr_row C hK hB hD 1 rfl hn45 rfl dX2_stoneLaw_86 (fun H locs u46 eu46 hB => ?_)
      have hf := ox_lt eu46 hf
      have hB : WB E ad s.heap [wMill E a_ml (a_nm 0) (a_sc 0 0) u_ml, wLArr E n_nm a_nm u46, wScript E (a_sc 0) (a_sc 1 0) (a_sc 2 0) (a_sc 3 0) (a_sc 4 0) (a_sc 5 0) (a_sc 6 0) (a_sc 7 0) (u_sc 0), wRoll E 6 (a_sc 1) (u_sc 1), wRoll E 6 (a_sc 2) (u_sc 2), wRoll E 4 (a_sc 3) (u_sc 3), wRoll E 14 (a_sc 4) (u_sc 4), wFormula E (a_sc 5) (u_sc 5), wFormula E (a_sc 6) (u_sc 6), wFormula E (a_sc 7) (u_sc 7), wHall E a_h u_h] H locs := hB
      refine lv_aload_n hx hb dX2_stoneLaw_87 rfl (lv_at hl 0 rfl) ?_
      refine gf_X2_X2_script C hK (hB.1 0 _ rfl) dX2_stoneLaw_88 ?_
      refine gf_X2_X8_laws C hK (hB.1 2 _ rfl) dX2_stoneLaw_91 ?_
      refine lv_iload_n hx hb dX2_stoneLaw_94 rfl (lv_at hl 2 rfl) ?_
      refine bx_aaldK C hK (hB.1 2 _ rfl) 1 rfl (k := 1) c25 dX2_stoneLaw_95 (q := (a_sc 6 0)) rfl (by decide) ?_
      refine lv_aload_n hx hb dX2_stoneLaw_96 rfl (lv_at hl 0 rfl) ?_
      refine gf_X2_X2_names C hK (hB.1 0 _ rfl) dX2_stoneLaw_97 ?_
      obtain ⟨r47, hr47, hf⟩ := ox_bind hf
      refine cxVX (bs1 := (fun q => [wMill E a_ml (a_nm 0) (a_sc 0 0) u_ml, wLArr E n_nm a_nm u46, wScript E (a_sc 0) (a_sc 1 0) (a_sc 2 0) (a_sc 3 0) (a_sc 4 0) (a_sc 5 0) (a_sc 6 0) (a_sc 7 0) (u_sc 0), wRoll E 6 (a_sc 1) (u_sc 1), wRoll E 6 (a_sc 2) (u_sc 2), wRoll E 4 (a_sc 3) (u_sc 3), wRoll E 14 (a_sc 4) (u_sc 4), wFormula E (a_sc 5) (u_sc 5), wFormula E (a_sc 6) r47.2, wFormula E (a_sc 7) (u_sc 7), wHall E a_h u_h])) (As := [.ref (a_nm 0)]) (rest := []) (st1 := [.long r47.1]) C hK (tX0_value l E (a_sc 6) (u_sc 6) n_nm a_nm u46 r47 hr47) lk_X2_154 (by rw [hRf, hRl]; decide) ⟨Nat.zero_le _, Nat.zero_le _⟩ hB hD hN [8, 1] (by decide) rfl (fun _ => rfl) (fun _ => rfl) (rc_X0 hK (hB.1 8 _ rfl)) rfl hl.1 rfl rfl (Nat.le_of_ble_eq_true rfl) dX2_stoneLaw_100 (fun H locs q48 hB => ?_)
      have hB : WB E ad s.heap [wMill E a_ml (a_nm 0) (a_sc 0 0) u_ml, wLArr E n_nm a_nm u46, wScript E (a_sc 0) (a_sc 1 0) (a_sc 2 0) (a_sc 3 0) (a_sc 4 0) (a_sc 5 0) (a_sc 6 0) (a_sc 7 0) (u_sc 0), wRoll E 6 (a_sc 1) (u_sc 1), wRoll E 6 (a_sc 2) (u_sc 2), wRoll E 4 (a_sc 3) (u_sc 3), wRoll E 14 (a_sc 4) (u_sc 4), wFormula E (a_sc 5) (u_sc 5), wFormula E (a_sc 6) r47.2, wFormula E (a_sc 7) (u_sc 7), wHall E a_h u_h] H locs := hB
      have hf := Option.some.inj hf
      subst hf
      exact hQ _ _ H locs (fun _ => 0) hB dX2_stoneLaw_103
    · have hf := (if_pos c26).symm.trans hf
      refine lv_ldc2 (v := -9223372036854775808) hx hb C.2.2.2.1 (C.2.2.2.2 _ mw_770) dX2_stoneLaw_15 ?_
      have hf := Option.some.inj hf
      subst hf
      exact hQ _ _ H locs (fun _ => 0) hB dX2_stoneLaw_18
  have hf := (if_neg c25).symm.trans hf
  by_cases c49 : x_2 = 2
  · have hf := (if_pos c49).symm.trans hf
    refine bx_aaldK C hK (hB.1 2 _ rfl) 1 rfl (k := 2) c49 dX2_stoneLaw_8 (q := (a_sc 7 0)) rfl (by decide) ?_
    refine gf_X2_X0_isTold C hK (hB.1 9 _ rfl) dX2_stoneLaw_9 ?_
    refine lv_if_ne (tgt := 19) hx hb dX2_stoneLaw_12 (by decide) (fun c50 => ?_) (fun c50 => ?_)
    · have hf := (if_neg c50).symm.trans hf
      refine lv_aload_n hx hb dX2_stoneLaw_19 rfl (lv_at hl 0 rfl) ?_
      refine gf_X2_X2_names C hK (hB.1 0 _ rfl) dX2_stoneLaw_20 ?_
      refine lv_iconst (v := 0) hx hb dX2_stoneLaw_23 (by decide) ?_
      refine lv_aload_n hx hb dX2_stoneLaw_24 rfl (lv_at hl 0 rfl) ?_
      refine lv_aload_n hx hb dX2_stoneLaw_25 rfl (lv_at hl 1 rfl) ?_
      obtain ⟨r51, hr51, hf⟩ := ox_bind hf
      refine cxVP (As := [.ref (a_h 0)]) (rest := [.int (0 : Int32), .ref (a_nm 0)]) (st1 := [.int r51, .int (0 : Int32), .ref (a_nm 0)]) C hK (tX2_moodOn l E a_ml (a_nm 0) u_ml a_sc u_sc a_h u_h r51 hr51) lk_X2_111 ⟨rfl, rfl⟩ (by rw [hRf, hRl]; decide) ⟨Nat.zero_le _, Nat.zero_le _⟩ (PB.sub hB.1 [0, 2, 3, 4, 5, 6, 7, 8, 9, 10] rfl) (hB.old hD hN) (Nat.le_trans hN hB.2.2.1) (rc_X2 hK (hB.1 0 _ rfl)) rfl hl.1 rfl rfl (Nat.le_of_ble_eq_true rfl) dX2_stoneLaw_26 ?_
      refine lv_i2l hx hb dX2_stoneLaw_29 rfl ?_
      refine lv_topl (fun x52 ex52 => ?_)
      have hf := ox_lt ex52 hf
      obtain ⟨hn53, hf⟩ := ox_chk hf
      refine st_LArr_row C hK hB hD 1 rfl hn53 rfl dX2_stoneLaw_30 (fun H locs u54 eu54 hB => ?_)
      have hf := ox_lt eu54 hf
      have hB : WB E ad s.heap [wMill E a_ml (a_nm 0) (a_sc 0 0) u_ml, wLArr E n_nm a_nm u54, wScript E (a_sc 0) (a_sc 1 0) (a_sc 2 0) (a_sc 3 0) (a_sc 4 0) (a_sc 5 0) (a_sc 6 0) (a_sc 7 0) (u_sc 0), wRoll E 6 (a_sc 1) (u_sc 1), wRoll E 6 (a_sc 2) (u_sc 2), wRoll E 4 (a_sc 3) (u_sc 3), wRoll E 14 (a_sc 4) (u_sc 4), wFormula E (a_sc 5) (u_sc 5), wFormula E (a_sc 6) (u_sc 6), wFormula E (a_sc 7) (u_sc 7), wHall E a_h u_h] H locs := hB
      refine lv_aload_n hx hb dX2_stoneLaw_31 rfl (lv_at hl 0 rfl) ?_
      refine gf_X2_X2_names C hK (hB.1 0 _ rfl) dX2_stoneLaw_32 ?_
      refine lv_iconst (v := 1) hx hb dX2_stoneLaw_35 (by decide) ?_
      refine lv_lconst (v := 0) hx hb dX2_stoneLaw_36 (by decide) ?_
      obtain ⟨hn55, hf⟩ := ox_chk hf
      refine st_LArr_row C hK hB hD 1 rfl hn55 rfl dX2_stoneLaw_37 (fun H locs u56 eu56 hB => ?_)
      have hf := ox_lt eu56 hf
      have hB : WB E ad s.heap [wMill E a_ml (a_nm 0) (a_sc 0 0) u_ml, wLArr E n_nm a_nm u56, wScript E (a_sc 0) (a_sc 1 0) (a_sc 2 0) (a_sc 3 0) (a_sc 4 0) (a_sc 5 0) (a_sc 6 0) (a_sc 7 0) (u_sc 0), wRoll E 6 (a_sc 1) (u_sc 1), wRoll E 6 (a_sc 2) (u_sc 2), wRoll E 4 (a_sc 3) (u_sc 3), wRoll E 14 (a_sc 4) (u_sc 4), wFormula E (a_sc 5) (u_sc 5), wFormula E (a_sc 6) (u_sc 6), wFormula E (a_sc 7) (u_sc 7), wHall E a_h u_h] H locs := hB
      refine lv_aload_n hx hb dX2_stoneLaw_38 rfl (lv_at hl 0 rfl) ?_
      refine gf_X2_X2_names C hK (hB.1 0 _ rfl) dX2_stoneLaw_39 ?_
      refine lv_iconst (v := 2) hx hb dX2_stoneLaw_42 (by decide) ?_
      refine lv_lconst (v := 0) hx hb dX2_stoneLaw_43 (by decide) ?_
      obtain ⟨hn57, hf⟩ := ox_chk hf
      refine st_LArr_row C hK hB hD 1 rfl hn57 rfl dX2_stoneLaw_44 (fun H locs u58 eu58 hB => ?_)
      have hf := ox_lt eu58 hf
      have hB : WB E ad s.heap [wMill E a_ml (a_nm 0) (a_sc 0 0) u_ml, wLArr E n_nm a_nm u58, wScript E (a_sc 0) (a_sc 1 0) (a_sc 2 0) (a_sc 3 0) (a_sc 4 0) (a_sc 5 0) (a_sc 6 0) (a_sc 7 0) (u_sc 0), wRoll E 6 (a_sc 1) (u_sc 1), wRoll E 6 (a_sc 2) (u_sc 2), wRoll E 4 (a_sc 3) (u_sc 3), wRoll E 14 (a_sc 4) (u_sc 4), wFormula E (a_sc 5) (u_sc 5), wFormula E (a_sc 6) (u_sc 6), wFormula E (a_sc 7) (u_sc 7), wHall E a_h u_h] H locs := hB
      refine lv_aload_n hx hb dX2_stoneLaw_45 rfl (lv_at hl 0 rfl) ?_
      refine gf_X2_X2_names C hK (hB.1 0 _ rfl) dX2_stoneLaw_46 ?_
      refine lv_iconst (v := 3) hx hb dX2_stoneLaw_49 (by decide) ?_
      refine lv_iload_n hx hb dX2_stoneLaw_50 rfl (lv_at hl 3 rfl) ?_
      refine lv_i2l hx hb dX2_stoneLaw_51 rfl ?_
      refine lv_topl (fun x59 ex59 => ?_)
      have hf := ox_lt ex59 hf
      obtain ⟨hn60, hf⟩ := ox_chk hf
      refine st_LArr_row C hK hB hD 1 rfl hn60 rfl dX2_stoneLaw_52 (fun H locs u61 eu61 hB => ?_)
      have hf := ox_lt eu61 hf
      have hB : WB E ad s.heap [wMill E a_ml (a_nm 0) (a_sc 0 0) u_ml, wLArr E n_nm a_nm u61, wScript E (a_sc 0) (a_sc 1 0) (a_sc 2 0) (a_sc 3 0) (a_sc 4 0) (a_sc 5 0) (a_sc 6 0) (a_sc 7 0) (u_sc 0), wRoll E 6 (a_sc 1) (u_sc 1), wRoll E 6 (a_sc 2) (u_sc 2), wRoll E 4 (a_sc 3) (u_sc 3), wRoll E 14 (a_sc 4) (u_sc 4), wFormula E (a_sc 5) (u_sc 5), wFormula E (a_sc 6) (u_sc 6), wFormula E (a_sc 7) (u_sc 7), wHall E a_h u_h] H locs := hB
      refine lv_aload_n hx hb dX2_stoneLaw_53 rfl (lv_at hl 0 rfl) ?_
      refine gf_X2_X2_names C hK (hB.1 0 _ rfl) dX2_stoneLaw_54 ?_
      refine lv_iconst (v := 4) hx hb dX2_stoneLaw_57 (by decide) ?_
      refine lv_aload_n hx hb dX2_stoneLaw_58 rfl (lv_at hl 1 rfl) ?_
      refine gf_X2_X1_speed C hK (hB.1 10 _ rfl) dX2_stoneLaw_59 ?_
      refine lv_i2l hx hb dX2_stoneLaw_62 rfl ?_
      refine lv_topl (fun x62 ex62 => ?_)
      have hf := ox_lt ex62 hf
      obtain ⟨hn63, hf⟩ := ox_chk hf
      refine st_LArr_row C hK hB hD 1 rfl hn63 rfl dX2_stoneLaw_63 (fun H locs u64 eu64 hB => ?_)
      have hf := ox_lt eu64 hf
      have hB : WB E ad s.heap [wMill E a_ml (a_nm 0) (a_sc 0 0) u_ml, wLArr E n_nm a_nm u64, wScript E (a_sc 0) (a_sc 1 0) (a_sc 2 0) (a_sc 3 0) (a_sc 4 0) (a_sc 5 0) (a_sc 6 0) (a_sc 7 0) (u_sc 0), wRoll E 6 (a_sc 1) (u_sc 1), wRoll E 6 (a_sc 2) (u_sc 2), wRoll E 4 (a_sc 3) (u_sc 3), wRoll E 14 (a_sc 4) (u_sc 4), wFormula E (a_sc 5) (u_sc 5), wFormula E (a_sc 6) (u_sc 6), wFormula E (a_sc 7) (u_sc 7), wHall E a_h u_h] H locs := hB
      refine lv_aload_n hx hb dX2_stoneLaw_64 rfl (lv_at hl 0 rfl) ?_
      refine gf_X2_X2_names C hK (hB.1 0 _ rfl) dX2_stoneLaw_65 ?_
      refine lv_iconst (v := 5) hx hb dX2_stoneLaw_68 (by decide) ?_
      refine lv_aload_n hx hb dX2_stoneLaw_69 rfl (lv_at hl 1 rfl) ?_
      refine gf_X2_X1_groundInAll C hK (hB.1 10 _ rfl) dX2_stoneLaw_70 ?_
      refine lv_i2l hx hb dX2_stoneLaw_73 rfl ?_
      refine lv_topl (fun x65 ex65 => ?_)
      have hf := ox_lt ex65 hf
      obtain ⟨hn66, hf⟩ := ox_chk hf
      refine st_LArr_row C hK hB hD 1 rfl hn66 rfl dX2_stoneLaw_74 (fun H locs u67 eu67 hB => ?_)
      have hf := ox_lt eu67 hf
      have hB : WB E ad s.heap [wMill E a_ml (a_nm 0) (a_sc 0 0) u_ml, wLArr E n_nm a_nm u67, wScript E (a_sc 0) (a_sc 1 0) (a_sc 2 0) (a_sc 3 0) (a_sc 4 0) (a_sc 5 0) (a_sc 6 0) (a_sc 7 0) (u_sc 0), wRoll E 6 (a_sc 1) (u_sc 1), wRoll E 6 (a_sc 2) (u_sc 2), wRoll E 4 (a_sc 3) (u_sc 3), wRoll E 14 (a_sc 4) (u_sc 4), wFormula E (a_sc 5) (u_sc 5), wFormula E (a_sc 6) (u_sc 6), wFormula E (a_sc 7) (u_sc 7), wHall E a_h u_h] H locs := hB
      refine lv_aload_n hx hb dX2_stoneLaw_75 rfl (lv_at hl 0 rfl) ?_
      refine gf_X2_X2_names C hK (hB.1 0 _ rfl) dX2_stoneLaw_76 ?_
      refine lv_bipush (v := 6) hx hb dX2_stoneLaw_79 (by decide) ?_
      refine lv_aload_n hx hb dX2_stoneLaw_81 rfl (lv_at hl 1 rfl) ?_
      refine gf_X2_X1_minute C hK (hB.1 10 _ rfl) dX2_stoneLaw_82 ?_
      refine lv_i2l hx hb dX2_stoneLaw_85 rfl ?_
      refine lv_topl (fun x68 ex68 => ?_)
      have hf := ox_lt ex68 hf
      obtain ⟨hn69, hf⟩ := ox_chk hf
      refine st_LArr_row C hK hB hD 1 rfl hn69 rfl dX2_stoneLaw_86 (fun H locs u70 eu70 hB => ?_)
      have hf := ox_lt eu70 hf
      have hB : WB E ad s.heap [wMill E a_ml (a_nm 0) (a_sc 0 0) u_ml, wLArr E n_nm a_nm u70, wScript E (a_sc 0) (a_sc 1 0) (a_sc 2 0) (a_sc 3 0) (a_sc 4 0) (a_sc 5 0) (a_sc 6 0) (a_sc 7 0) (u_sc 0), wRoll E 6 (a_sc 1) (u_sc 1), wRoll E 6 (a_sc 2) (u_sc 2), wRoll E 4 (a_sc 3) (u_sc 3), wRoll E 14 (a_sc 4) (u_sc 4), wFormula E (a_sc 5) (u_sc 5), wFormula E (a_sc 6) (u_sc 6), wFormula E (a_sc 7) (u_sc 7), wHall E a_h u_h] H locs := hB
      refine lv_aload_n hx hb dX2_stoneLaw_87 rfl (lv_at hl 0 rfl) ?_
      refine gf_X2_X2_script C hK (hB.1 0 _ rfl) dX2_stoneLaw_88 ?_
      refine gf_X2_X8_laws C hK (hB.1 2 _ rfl) dX2_stoneLaw_91 ?_
      refine lv_iload_n hx hb dX2_stoneLaw_94 rfl (lv_at hl 2 rfl) ?_
      refine bx_aaldK C hK (hB.1 2 _ rfl) 1 rfl (k := 2) c49 dX2_stoneLaw_95 (q := (a_sc 7 0)) rfl (by decide) ?_
      refine lv_aload_n hx hb dX2_stoneLaw_96 rfl (lv_at hl 0 rfl) ?_
      refine gf_X2_X2_names C hK (hB.1 0 _ rfl) dX2_stoneLaw_97 ?_
      obtain ⟨r71, hr71, hf⟩ := ox_bind hf
      refine cxVX (bs1 := (fun q => [wMill E a_ml (a_nm 0) (a_sc 0 0) u_ml, wLArr E n_nm a_nm u70, wScript E (a_sc 0) (a_sc 1 0) (a_sc 2 0) (a_sc 3 0) (a_sc 4 0) (a_sc 5 0) (a_sc 6 0) (a_sc 7 0) (u_sc 0), wRoll E 6 (a_sc 1) (u_sc 1), wRoll E 6 (a_sc 2) (u_sc 2), wRoll E 4 (a_sc 3) (u_sc 3), wRoll E 14 (a_sc 4) (u_sc 4), wFormula E (a_sc 5) (u_sc 5), wFormula E (a_sc 6) (u_sc 6), wFormula E (a_sc 7) r71.2, wHall E a_h u_h])) (As := [.ref (a_nm 0)]) (rest := []) (st1 := [.long r71.1]) C hK (tX0_value l E (a_sc 7) (u_sc 7) n_nm a_nm u70 r71 hr71) lk_X2_154 (by rw [hRf, hRl]; decide) ⟨Nat.zero_le _, Nat.zero_le _⟩ hB hD hN [9, 1] (by decide) rfl (fun _ => rfl) (fun _ => rfl) (rc_X0 hK (hB.1 9 _ rfl)) rfl hl.1 rfl rfl (Nat.le_of_ble_eq_true rfl) dX2_stoneLaw_100 (fun H locs q72 hB => ?_)
      have hB : WB E ad s.heap [wMill E a_ml (a_nm 0) (a_sc 0 0) u_ml, wLArr E n_nm a_nm u70, wScript E (a_sc 0) (a_sc 1 0) (a_sc 2 0) (a_sc 3 0) (a_sc 4 0) (a_sc 5 0) (a_sc 6 0) (a_sc 7 0) (u_sc 0), wRoll E 6 (a_sc 1) (u_sc 1), wRoll E 6 (a_sc 2) (u_sc 2), wRoll E 4 (a_sc 3) (u_sc 3), wRoll E 14 (a_sc 4) (u_sc 4), wFormula E (a_sc 5) (u_sc 5), wFormula E (a_sc 6) (u_sc 6), wFormula E (a_sc 7) r71.2, wHall E a_h u_h] H locs := hB
      have hf := Option.some.inj hf
      subst hf
      exact hQ _ _ H locs (fun _ => 0) hB dX2_stoneLaw_103
    · have hf := (if_pos c50).symm.trans hf
      refine lv_ldc2 (v := -9223372036854775808) hx hb C.2.2.2.1 (C.2.2.2.2 _ mw_770) dX2_stoneLaw_15 ?_
      have hf := Option.some.inj hf
      subst hf
      exact hQ _ _ H locs (fun _ => 0) hB dX2_stoneLaw_18
  have hf := (if_neg c49).symm.trans hf
  cases hf
set_option maxHeartbeats 4000000 in
set_option maxRecDepth 20000 in
theorem tX2_turnStones (l : Launch) (E : Ev) (a_ml : Nat → Nat) (u_ml : St) (n_nm : Nat) (a_nm : Nat → Nat) (u_nm : St) (a_sc : Nat → Nat → Nat) (u_sc : Nat → St) (a_h : Nat → Nat) (u_h : St) (x_2 : Int32) (res : St × (Nat → St) × St) (hf : fX2_turnStones n_nm u_ml u_nm u_sc u_h x_2 = some res) : MX l E yX2_turnStones cX2_turnStones 7 none (rmm 4 101) [wMill E a_ml (a_nm 0) (a_sc 0 0) u_ml, wLArr E n_nm a_nm u_nm, wScript E (a_sc 0) (a_sc 1 0) (a_sc 2 0) (a_sc 3 0) (a_sc 4 0) (a_sc 5 0) (a_sc 6 0) (a_sc 7 0) (u_sc 0), wRoll E 6 (a_sc 1) (u_sc 1), wRoll E 6 (a_sc 2) (u_sc 2), wRoll E 4 (a_sc 3) (u_sc 3), wRoll E 14 (a_sc 4) (u_sc 4), wFormula E (a_sc 5) (u_sc 5), wFormula E (a_sc 6) (u_sc 6), wFormula E (a_sc 7) (u_sc 7), wHall E a_h u_h] (fun q => [wMill E a_ml (a_nm 0) (a_sc 0 0) u_ml, wLArr E n_nm a_nm res.1, wScript E (a_sc 0) (a_sc 1 0) (a_sc 2 0) (a_sc 3 0) (a_sc 4 0) (a_sc 5 0) (a_sc 6 0) (a_sc 7 0) (res.2.1 0), wRoll E 6 (a_sc 1) (res.2.1 1), wRoll E 6 (a_sc 2) (res.2.1 2), wRoll E 4 (a_sc 3) (res.2.1 3), wRoll E 14 (a_sc 4) (res.2.1 4), wFormula E (a_sc 5) (res.2.1 5), wFormula E (a_sc 6) (res.2.1 6), wFormula E (a_sc 7) (res.2.1 7), wHall E a_h res.2.2]) [.ref (a_ml 0), .ref (a_h 0), .int x_2] none := by
  unfold fX2_turnStones at hf
  refine MX.ofV rfl (by decide) (Nat.le_of_ble_eq_true rfl) ?_
  intro p e R s m args below meth c ls Q ad H hRf hRl C hB hD hK hN hl hQ
  generalize hlocs : ([] : List Loc) = locs at hB ⊢
  clear hlocs
  have hx := C.1
  have hb := C.2.1
  have hl : lv_has ls 7 [(0, .ref (a_ml 0)), (1, .ref (a_h 0)), (2, .int x_2)] := hl
  refine lv_aload_n hx hb dX2_turnStones_0 rfl (lv_at hl 0 rfl) ?_
  refine lv_aload_n hx hb dX2_turnStones_1 rfl (lv_at hl 1 rfl) ?_
  refine lv_iconst (v := 1) hx hb dX2_turnStones_2 (by decide) ?_
  refine lv_iload_n hx hb dX2_turnStones_3 rfl (lv_at hl 2 rfl) ?_
  obtain ⟨r1, hr1, hf⟩ := ox_bind hf
  refine cxVX (bs1 := (fun q => [wMill E a_ml (a_nm 0) (a_sc 0 0) u_ml, wLArr E n_nm a_nm r1.2.1, wScript E (a_sc 0) (a_sc 1 0) (a_sc 2 0) (a_sc 3 0) (a_sc 4 0) (a_sc 5 0) (a_sc 6 0) (a_sc 7 0) (r1.2.2 0), wRoll E 6 (a_sc 1) (r1.2.2 1), wRoll E 6 (a_sc 2) (r1.2.2 2), wRoll E 4 (a_sc 3) (r1.2.2 3), wRoll E 14 (a_sc 4) (r1.2.2 4), wFormula E (a_sc 5) (r1.2.2 5), wFormula E (a_sc 6) (r1.2.2 6), wFormula E (a_sc 7) (r1.2.2 7), wHall E a_h u_h])) (As := [.ref (a_h 0), .int (1 : Int32), .int x_2]) (rest := []) (st1 := [.long r1.1]) C hK (tX2_stoneLaw l E a_ml u_ml n_nm a_nm u_nm a_sc u_sc a_h u_h (1 : Int32) x_2 r1 hr1) lk_X2_201 (by rw [hRf, hRl]; decide) ⟨Nat.zero_le _, Nat.zero_le _⟩ hB hD hN [0, 1, 2, 3, 4, 5, 6, 7, 8, 9, 10] (by decide) rfl (fun _ => rfl) (fun _ => rfl) (rc_X2 hK (hB.1 0 _ rfl)) rfl hl.1 rfl rfl (Nat.le_of_ble_eq_true rfl) dX2_turnStones_4 (fun H locs q2 hB => ?_)
  have hB : WB E ad s.heap [wMill E a_ml (a_nm 0) (a_sc 0 0) u_ml, wLArr E n_nm a_nm r1.2.1, wScript E (a_sc 0) (a_sc 1 0) (a_sc 2 0) (a_sc 3 0) (a_sc 4 0) (a_sc 5 0) (a_sc 6 0) (a_sc 7 0) (r1.2.2 0), wRoll E 6 (a_sc 1) (r1.2.2 1), wRoll E 6 (a_sc 2) (r1.2.2 2), wRoll E 4 (a_sc 3) (r1.2.2 3), wRoll E 14 (a_sc 4) (r1.2.2 4), wFormula E (a_sc 5) (r1.2.2 5), wFormula E (a_sc 6) (r1.2.2 6), wFormula E (a_sc 7) (r1.2.2 7), wHall E a_h u_h] H locs := hB
  refine lv_topl (fun x3 ex3 => ?_)
  have hf := ox_lt ex3 hf
  refine lv_lstore_n (lv' := [(3, .long x3), (0, .ref (a_ml 0)), (1, .ref (a_h 0)), (2, .int x_2)]) hx hb dX2_turnStones_7 rfl hl (by decide) rfl (fun ls hl => ?_)
  refine lv_lload_n hx hb dX2_turnStones_8 rfl (lv_at hl 0 rfl) ?_
  refine lv_ldc2 (v := -9223372036854775808) hx hb C.2.2.2.1 (C.2.2.2.2 _ mw_770) dX2_turnStones_9 ?_
  refine W.lcmp hx hb dX2_turnStones_12 ?_
  obtain ⟨x4, ex4, hf⟩ := ox_ex hf
  have hjx4 : W p l e R s m args below meth c H locs 0 0 Q (F0 m 29 ls [.long x4]) := by
    refine lv_lstore (lv' := [(5, .long x4), (3, .long x3), (0, .ref (a_ml 0)), (1, .ref (a_h 0)), (2, .int x_2)]) hx hb dX2_turnStones_29 hl (by decide) rfl (fun ls hl => ?_)
    refine lv_aload_n hx hb dX2_turnStones_31 rfl (lv_at hl 3 rfl) ?_
    refine lv_lload hx hb dX2_turnStones_32 (lv_at hl 0 rfl) ?_
    refine lv_ldc2 (v := -99) hx hb C.2.2.2.1 (C.2.2.2.2 _ mw_932) dX2_turnStones_34 ?_
    refine lv_ldc2 (v := 99) hx hb C.2.2.2.1 (C.2.2.2.2 _ mw_933) dX2_turnStones_37 ?_
    refine cxNP (As := [.long x4, .long (-99 : Int64), .long (99 : Int64)]) (rest := [.ref (a_h 0)]) (st1 := [.long (fX11_within x4 (-99 : Int64) (99 : Int64)), .ref (a_h 0)]) C hK (tX11_within l E x4 (-99 : Int64) (99 : Int64) (fX11_within x4 (-99 : Int64) (99 : Int64)) rfl) lk_X2_164 ⟨rfl, rfl⟩ (by rw [hRf, hRl]; decide) ⟨Nat.zero_le _, Nat.zero_le _⟩ (PB.sub hB.1 [] rfl) (hB.old hD hN) (Nat.le_trans hN hB.2.2.1) rfl hl.1 rfl rfl (Nat.le_of_ble_eq_true rfl) dX2_turnStones_40 ?_
    refine lv_l2i hx hb dX2_turnStones_43 rfl ?_
    refine lv_topi (fun x5 ex5 => ?_)
    have hf := ox_lt ex5 hf
    refine pf_X2_X1_speed C hK hB hD 10 rfl dX2_turnStones_44 (fun H locs u6 eu6 hB => ?_)
    have hf := ox_lt eu6 hf
    have hB : WB E ad s.heap [wMill E a_ml (a_nm 0) (a_sc 0 0) u_ml, wLArr E n_nm a_nm r1.2.1, wScript E (a_sc 0) (a_sc 1 0) (a_sc 2 0) (a_sc 3 0) (a_sc 4 0) (a_sc 5 0) (a_sc 6 0) (a_sc 7 0) (r1.2.2 0), wRoll E 6 (a_sc 1) (r1.2.2 1), wRoll E 6 (a_sc 2) (r1.2.2 2), wRoll E 4 (a_sc 3) (r1.2.2 3), wRoll E 14 (a_sc 4) (r1.2.2 4), wFormula E (a_sc 5) (r1.2.2 5), wFormula E (a_sc 6) (r1.2.2 6), wFormula E (a_sc 7) (r1.2.2 7), wHall E a_h u6] H locs := hB
    have hf := Option.some.inj hf
    subst hf
    exact hQ _ _ H locs (fun _ => 0) hB dX2_turnStones_47
  refine lx_if_ne (tgt := 28) hx hb dX2_turnStones_13 (by decide) (fun c7 => ?_) (fun c7 => ?_)
  · refine lv_lload_n hx hb dX2_turnStones_28 rfl (lv_at hl 0 rfl) ?_
    exact ox_topl ((ex4).trans (if_neg c7)).symm hjx4
  · refine lv_aload_n hx hb dX2_turnStones_16 rfl (lv_at hl 2 rfl) ?_
    refine gf_X2_X1_speed C hK (hB.1 10 _ rfl) dX2_turnStones_17 ?_
    refine lv_iload_n hx hb dX2_turnStones_20 rfl (lv_at hl 3 rfl) ?_
    refine lv_iadd hx hb dX2_turnStones_21 ?_
    refine lv_iconst (v := 2) hx hb dX2_turnStones_22 (by decide) ?_
    refine lv_idiv hx hb dX2_turnStones_23 (by decide) ?_
    refine lv_i2l hx hb dX2_turnStones_24 rfl ?_
    refine lv_goto (tgt := 29) hx hb dX2_turnStones_25 (by decide) ?_
    exact ox_topl ((ex4).trans (if_pos c7)).symm hjx4
set_option maxHeartbeats 4000000 in
set_option maxRecDepth 20000 in
theorem tX8_sacks (l : Launch) (E : Ev) (a_sc : Nat → Nat → Nat) (u_sc : Nat → St) (x_1 : Int32) (res : Int32) (hf : fX8_sacks u_sc x_1 = some res) : MP l E yX8_sacks cX8_sacks 2 (some .int) (rmm 0 0) [wScript E (a_sc 0) (a_sc 1 0) (a_sc 2 0) (a_sc 3 0) (a_sc 4 0) (a_sc 5 0) (a_sc 6 0) (a_sc 7 0) (u_sc 0), wRoll E 6 (a_sc 1) (u_sc 1), wRoll E 6 (a_sc 2) (u_sc 2), wRoll E 4 (a_sc 3) (u_sc 3), wRoll E 14 (a_sc 4) (u_sc 4), wFormula E (a_sc 5) (u_sc 5), wFormula E (a_sc 6) (u_sc 6), wFormula E (a_sc 7) (u_sc 7)] [.ref (a_sc 0 0), .int x_1] (some (.int res)) := by
  unfold fX8_sacks at hf
  refine MP.ofI rfl (by decide) (Nat.le_of_ble_eq_true rfl) ?_
  intro p e R s m args below meth c ls Q hRf hRl C hP hK hN hl hQ
  have hx := C.1
  have hb := C.2.1
  have hl : lv_has ls 2 [(0, .ref (a_sc 0 0)), (1, .int x_1)] := hl
  refine lv_iload_n hx hb dX8_sacks_0 rfl (lv_at hl 1 rfl) ?_
  refine lv_if_lt (tgt := 27) hx hb dX8_sacks_1 (by decide) (fun c1 => ?_) (fun c1 => ?_)
  · have hf := (if_pos c1).symm.trans hf
    refine lv_iconst (v := 0) hx hb dX8_sacks_27 (by decide) ?_
    have hf := Option.some.inj hf
    subst hf
    exact hQ _ _ dX8_sacks_28
  · have hf := (if_neg c1).symm.trans hf
    refine lv_iload_n hx hb dX8_sacks_4 rfl (lv_at hl 1 rfl) ?_
    refine lv_aload_n hx hb dX8_sacks_5 rfl (lv_at hl 0 rfl) ?_
    refine gf_X8_X8_grains C hK (hP 0 _ rfl) dX8_sacks_6 ?_
    refine gf_X8_X7_size C hK (hP 3 _ rfl) dX8_sacks_9 ?_
    refine lv_icmp_ge (tgt := 27) hx hb dX8_sacks_12 (by decide) (fun c2 => ?_) (fun c2 => ?_)
    · have hf := (if_pos c2).symm.trans hf
      refine lv_iconst (v := 0) hx hb dX8_sacks_27 (by decide) ?_
      have hf := Option.some.inj hf
      subst hf
      exact hQ _ _ dX8_sacks_28
    · have hf := (if_neg c2).symm.trans hf
      refine lv_aload_n hx hb dX8_sacks_15 rfl (lv_at hl 0 rfl) ?_
      refine gf_X8_X8_grains C hK (hP 0 _ rfl) dX8_sacks_16 ?_
      refine gf_X8_X7_third C hK (hP 3 _ rfl) dX8_sacks_19 ?_
      refine lv_iload_n hx hb dX8_sacks_22 rfl (lv_at hl 1 rfl) ?_
      obtain ⟨hn3, hf⟩ := ox_chk hf
      refine ld_X7_third C hK (hP 3 _ rfl) hn3 rfl dX8_sacks_23 ?_
      refine lv_goto (tgt := 28) hx hb dX8_sacks_24 (by decide) ?_
      have hf := Option.some.inj hf
      subst hf
      exact hQ _ _ dX8_sacks_28
set_option maxHeartbeats 4000000 in
set_option maxRecDepth 20000 in
theorem tX8_low (l : Launch) (E : Ev) (a_sc : Nat → Nat → Nat) (u_sc : Nat → St) (x_1 : Int32) (res : Int32) (hf : fX8_low u_sc x_1 = some res) : MP l E yX8_low cX8_low 2 (some .int) (rmm 0 0) [wScript E (a_sc 0) (a_sc 1 0) (a_sc 2 0) (a_sc 3 0) (a_sc 4 0) (a_sc 5 0) (a_sc 6 0) (a_sc 7 0) (u_sc 0), wRoll E 6 (a_sc 1) (u_sc 1), wRoll E 6 (a_sc 2) (u_sc 2), wRoll E 4 (a_sc 3) (u_sc 3), wRoll E 14 (a_sc 4) (u_sc 4), wFormula E (a_sc 5) (u_sc 5), wFormula E (a_sc 6) (u_sc 6), wFormula E (a_sc 7) (u_sc 7)] [.ref (a_sc 0 0), .int x_1] (some (.int res)) := by
  unfold fX8_low at hf
  refine MP.ofI rfl (by decide) (Nat.le_of_ble_eq_true rfl) ?_
  intro p e R s m args below meth c ls Q hRf hRl C hP hK hN hl hQ
  have hx := C.1
  have hb := C.2.1
  have hl : lv_has ls 2 [(0, .ref (a_sc 0 0)), (1, .int x_1)] := hl
  refine lv_iload_n hx hb dX8_low_0 rfl (lv_at hl 1 rfl) ?_
  refine lv_if_lt (tgt := 27) hx hb dX8_low_1 (by decide) (fun c1 => ?_) (fun c1 => ?_)
  · have hf := (if_pos c1).symm.trans hf
    refine lv_iconst (v := 0) hx hb dX8_low_27 (by decide) ?_
    have hf := Option.some.inj hf
    subst hf
    exact hQ _ _ dX8_low_28
  · have hf := (if_neg c1).symm.trans hf
    refine lv_iload_n hx hb dX8_low_4 rfl (lv_at hl 1 rfl) ?_
    refine lv_aload_n hx hb dX8_low_5 rfl (lv_at hl 0 rfl) ?_
    refine gf_X8_X8_grains C hK (hP 0 _ rfl) dX8_low_6 ?_
    refine gf_X8_X7_size C hK (hP 3 _ rfl) dX8_low_9 ?_
    refine lv_icmp_ge (tgt := 27) hx hb dX8_low_12 (by decide) (fun c2 => ?_) (fun c2 => ?_)
    · have hf := (if_pos c2).symm.trans hf
      refine lv_iconst (v := 0) hx hb dX8_low_27 (by decide) ?_
      have hf := Option.some.inj hf
      subst hf
      exact hQ _ _ dX8_low_28
    · have hf := (if_neg c2).symm.trans hf
      refine lv_aload_n hx hb dX8_low_15 rfl (lv_at hl 0 rfl) ?_
      refine gf_X8_X8_grains C hK (hP 0 _ rfl) dX8_low_16 ?_
      refine gf_X8_X7_first C hK (hP 3 _ rfl) dX8_low_19 ?_
      refine lv_iload_n hx hb dX8_low_22 rfl (lv_at hl 1 rfl) ?_
      obtain ⟨hn3, hf⟩ := ox_chk hf
      refine ld_X7_first C hK (hP 3 _ rfl) hn3 rfl dX8_low_23 ?_
      refine lv_goto (tgt := 28) hx hb dX8_low_24 (by decide) ?_
      have hf := Option.some.inj hf
      subst hf
      exact hQ _ _ dX8_low_28
set_option maxHeartbeats 4000000 in
set_option maxRecDepth 20000 in
theorem tX8_high (l : Launch) (E : Ev) (a_sc : Nat → Nat → Nat) (u_sc : Nat → St) (x_1 : Int32) (res : Int32) (hf : fX8_high u_sc x_1 = some res) : MP l E yX8_high cX8_high 2 (some .int) (rmm 0 0) [wScript E (a_sc 0) (a_sc 1 0) (a_sc 2 0) (a_sc 3 0) (a_sc 4 0) (a_sc 5 0) (a_sc 6 0) (a_sc 7 0) (u_sc 0), wRoll E 6 (a_sc 1) (u_sc 1), wRoll E 6 (a_sc 2) (u_sc 2), wRoll E 4 (a_sc 3) (u_sc 3), wRoll E 14 (a_sc 4) (u_sc 4), wFormula E (a_sc 5) (u_sc 5), wFormula E (a_sc 6) (u_sc 6), wFormula E (a_sc 7) (u_sc 7)] [.ref (a_sc 0 0), .int x_1] (some (.int res)) := by
  unfold fX8_high at hf
  refine MP.ofI rfl (by decide) (Nat.le_of_ble_eq_true rfl) ?_
  intro p e R s m args below meth c ls Q hRf hRl C hP hK hN hl hQ
  have hx := C.1
  have hb := C.2.1
  have hl : lv_has ls 2 [(0, .ref (a_sc 0 0)), (1, .int x_1)] := hl
  refine lv_iload_n hx hb dX8_high_0 rfl (lv_at hl 1 rfl) ?_
  refine lv_if_lt (tgt := 27) hx hb dX8_high_1 (by decide) (fun c1 => ?_) (fun c1 => ?_)
  · have hf := (if_pos c1).symm.trans hf
    refine lv_iconst (v := 0) hx hb dX8_high_27 (by decide) ?_
    have hf := Option.some.inj hf
    subst hf
    exact hQ _ _ dX8_high_28
  · have hf := (if_neg c1).symm.trans hf
    refine lv_iload_n hx hb dX8_high_4 rfl (lv_at hl 1 rfl) ?_
    refine lv_aload_n hx hb dX8_high_5 rfl (lv_at hl 0 rfl) ?_
    refine gf_X8_X8_grains C hK (hP 0 _ rfl) dX8_high_6 ?_
    refine gf_X8_X7_size C hK (hP 3 _ rfl) dX8_high_9 ?_
    refine lv_icmp_ge (tgt := 27) hx hb dX8_high_12 (by decide) (fun c2 => ?_) (fun c2 => ?_)
    · have hf := (if_pos c2).symm.trans hf
      refine lv_iconst (v := 0) hx hb dX8_high_27 (by decide) ?_
      have hf := Option.some.inj hf
      subst hf
      exact hQ _ _ dX8_high_28
    · have hf := (if_neg c2).symm.trans hf
      refine lv_aload_n hx hb dX8_high_15 rfl (lv_at hl 0 rfl) ?_
      refine gf_X8_X8_grains C hK (hP 0 _ rfl) dX8_high_16 ?_
      refine gf_X8_X7_second C hK (hP 3 _ rfl) dX8_high_19 ?_
      refine lv_iload_n hx hb dX8_high_22 rfl (lv_at hl 1 rfl) ?_
      obtain ⟨hn3, hf⟩ := ox_chk hf
      refine ld_X7_second C hK (hP 3 _ rfl) hn3 rfl dX8_high_23 ?_
      refine lv_goto (tgt := 28) hx hb dX8_high_24 (by decide) ?_
      have hf := Option.some.inj hf
      subst hf
      exact hQ _ _ dX8_high_28
set_option maxHeartbeats 4000000 in
set_option maxRecDepth 20000 in
theorem tX2_grainAt (l : Launch) (E : Ev) (a_ml : Nat → Nat) (q_ml_0_names : Nat) (u_ml : St) (a_sc : Nat → Nat → Nat) (u_sc : Nat → St) (a_h : Nat → Nat) (u_h : St) (x_2 : Int32) (res : Int32) (hf : fX2_grainAt u_ml u_sc u_h x_2 = some res) : MP l E yX2_grainAt cX2_grainAt 5 (some .int) (rmm 1 21) [wMill E a_ml q_ml_0_names (a_sc 0 0) u_ml, wScript E (a_sc 0) (a_sc 1 0) (a_sc 2 0) (a_sc 3 0) (a_sc 4 0) (a_sc 5 0) (a_sc 6 0) (a_sc 7 0) (u_sc 0), wRoll E 6 (a_sc 1) (u_sc 1), wRoll E 6 (a_sc 2) (u_sc 2), wRoll E 4 (a_sc 3) (u_sc 3), wRoll E 14 (a_sc 4) (u_sc 4), wFormula E (a_sc 5) (u_sc 5), wFormula E (a_sc 6) (u_sc 6), wFormula E (a_sc 7) (u_sc 7), wHall E a_h u_h] [.ref (a_ml 0), .ref (a_h 0), .int x_2] (some (.int res)) := by
  unfold fX2_grainAt at hf
  refine MP.ofI rfl (by decide) (Nat.le_of_ble_eq_true rfl) ?_
  intro p e R s m args below meth c ls Q hRf hRl C hP hK hN hl hQ
  have hx := C.1
  have hb := C.2.1
  have hl : lv_has ls 5 [(0, .ref (a_ml 0)), (1, .ref (a_h 0)), (2, .int x_2)] := hl
  refine lv_iconst (v := 0) hx hb dX2_grainAt_0 (by decide) ?_
  refine lv_istore_n (lv' := [(3, .int (0 : Int32)), (0, .ref (a_ml 0)), (1, .ref (a_h 0)), (2, .int x_2)]) hx hb dX2_grainAt_1 rfl hl (by decide) rfl (fun ls hl => ?_)
  obtain ⟨X1, hX1, hf⟩ := ox_bind hf
  have hexit1 : ∀ y15, .inl y15 = X1 → ∀ (ls : Array Slot), lv_has ls 5 [] → W p l e R s m args below meth c s.heap [] 0 0 Q (F0 m 81 ls []) := by
    intro y15 hy ls hl
    subst hy
    have hf := ox_inl hf
    refine lv_iconst (v := (-1)) hx hb dX2_grainAt_81 (by decide) ?_
    have hf := Option.some.inj hf
    subst hf
    exact hQ _ _ dX2_grainAt_82
  have hret1 : ∀ r, .inr r = X1 → r = res := by
    intro r hr
    subst hr
    exact Option.some.inj (ox_inr hf)
  have hloop1 : ∀ (nf : Nat) (x1 : Int32) (ls : Array Slot), lv_has ls 5 [(0, .ref (a_ml 0)), (1, .ref (a_h 0)), (2, .int x_2), (3, .int x1)] → fX2_grainAt_L1 u_sc u_h x_2 nf x1 = some X1 → W p l e R s m args below meth c s.heap [] 0 0 Q (F0 m 2 ls []) := by
    intro nf
    induction nf with
    | zero =>
      intro x1 ls hl hf
      simp [fX2_grainAt_L1] at hf
    | succ nf ih =>
      intro x1 ls hl hf
      rw [fX2_grainAt_L1] at hf
      refine lv_iload_n hx hb dX2_grainAt_2 rfl (lv_at hl 3 rfl) ?_
      refine lv_aload_n hx hb dX2_grainAt_3 rfl (lv_at hl 0 rfl) ?_
      refine gf_X2_X2_script C hK (hP 0 _ rfl) dX2_grainAt_4 ?_
      refine gf_X2_X8_grains C hK (hP 1 _ rfl) dX2_grainAt_7 ?_
      refine gf_X2_X7_size C hK (hP 4 _ rfl) dX2_grainAt_10 ?_
      refine lv_icmp_ge (tgt := 81) hx hb dX2_grainAt_13 (by decide) (fun c2 => ?_) (fun c2 => ?_)
      · have hf := (if_pos c2).symm.trans hf
        exact hexit1 _ (Option.some.inj hf) ls (lv_sub hl [] rfl)
      · have hf := (if_neg c2).symm.trans hf
        refine lv_iload_n hx hb dX2_grainAt_16 rfl (lv_at hl 2 rfl) ?_
        refine lv_if_le (tgt := 81) hx hb dX2_grainAt_17 (by decide) (fun c3 => ?_) (fun c3 => ?_)
        · have hf := (if_pos c3).symm.trans hf
          exact hexit1 _ (Option.some.inj hf) ls (lv_sub hl [] rfl)
        · have hf := (if_neg c3).symm.trans hf
          refine lv_aload_n hx hb dX2_grainAt_20 rfl (lv_at hl 1 rfl) ?_
          refine gf_X2_X1_ground C hK (hP 9 _ rfl) dX2_grainAt_21 ?_
          refine lv_iload_n hx hb dX2_grainAt_24 rfl (lv_at hl 3 rfl) ?_
          obtain ⟨hn4, hf⟩ := ox_chk hf
          refine ld_X1_ground C hK (hP 9 _ rfl) hn4 rfl dX2_grainAt_25 ?_
          refine lv_aload_n hx hb dX2_grainAt_26 rfl (lv_at hl 0 rfl) ?_
          refine gf_X2_X2_script C hK (hP 0 _ rfl) dX2_grainAt_27 ?_
          refine lv_iload_n hx hb dX2_grainAt_30 rfl (lv_at hl 3 rfl) ?_
          obtain ⟨r5, hr5, hf⟩ := ox_bind hf
          refine cxVP (As := [.int x1]) (rest := [.int (gA u_h 9 (x1).toNatClampNeg)]) (st1 := [.int r5, .int (gA u_h 9 (x1).toNatClampNeg)]) C hK (tX8_sacks l E a_sc u_sc x1 r5 hr5) lk_X2_216 ⟨rfl, rfl⟩ (by rw [hRf, hRl]; decide) ⟨Nat.zero_le _, Nat.zero_le _⟩ (PB.sub hP [1, 2, 3, 4, 5, 6, 7, 8] rfl) (fun _ _ => rfl) hN (rc_X8 hK (hP 1 _ rfl)) rfl hl.1 rfl rfl (Nat.le_of_ble_eq_true rfl) dX2_grainAt_31 ?_
          obtain ⟨x6, ex6, hf⟩ := ox_ex hf
          have hjx6 : W p l e R s m args below meth c s.heap [] 0 0 Q (F0 m 42 ls [.int x6]) := by
            refine lv_istore (lv' := [(4, .int x6), (0, .ref (a_ml 0)), (1, .ref (a_h 0)), (2, .int x_2), (3, .int x1)]) hx hb dX2_grainAt_42 hl (by decide) rfl (fun ls hl => ?_)
            refine lv_iload hx hb dX2_grainAt_44 (lv_at hl 0 rfl) ?_
            obtain ⟨j7, ej7, hf⟩ := ox_ex hf
            have hj7 : ∀ (ls : Array Slot), lv_has ls 5 [(0, .ref (a_ml 0)), (1, .ref (a_h 0)), (2, .int x_2), (3, .int x1)] → j7 = some X1 → W p l e R s m args below meth c s.heap [] 0 0 Q (F0 m 75 ls []) := by
              intro ls hl hf
              have hf := ox_a0 ej7 hf
              obtain ⟨x8, ex8⟩ : ∃ z : Int32, z = (x1 + 1) := ⟨_, rfl⟩
              have hf := ox_lt ex8 hf
              refine lv_iinc (v := x8) (lv' := [(3, .int x8), (0, .ref (a_ml 0)), (1, .ref (a_h 0)), (2, .int x_2)]) hx hb dX2_grainAt_75 hl (k := 3) rfl (by rw [ex8]; rfl) (by decide) rfl (fun ls hl => ?_)
              refine lv_goto (tgt := 2) hx hb dX2_grainAt_78 (by decide) ?_
              exact ih _ ls (lv_sub hl [1, 2, 3, 0] rfl) hf
            refine lv_if_eq (tgt := 75) hx hb dX2_grainAt_46 (by decide) (fun c9 => ?_) (fun c9 => ?_)
            · have hf := (if_pos c9).symm.trans hf
              exact hj7 ls (lv_sub hl [1, 2, 3, 4] rfl) hf
            · have hf := (if_neg c9).symm.trans hf
              refine lv_aload_n hx hb dX2_grainAt_49 rfl (lv_at hl 1 rfl) ?_
              refine gf_X2_X2_script C hK (hP 0 _ rfl) dX2_grainAt_50 ?_
              refine lv_iload_n hx hb dX2_grainAt_53 rfl (lv_at hl 4 rfl) ?_
              obtain ⟨r10, hr10, hf⟩ := ox_bind hf
              refine cxVP (As := [.int x1]) (rest := []) (st1 := [.int r10]) C hK (tX8_low l E a_sc u_sc x1 r10 hr10) lk_X2_235 ⟨rfl, rfl⟩ (by rw [hRf, hRl]; decide) ⟨Nat.zero_le _, Nat.zero_le _⟩ (PB.sub hP [1, 2, 3, 4, 5, 6, 7, 8] rfl) (fun _ _ => rfl) hN (rc_X8 hK (hP 1 _ rfl)) rfl hl.1 rfl rfl (Nat.le_of_ble_eq_true rfl) dX2_grainAt_54 ?_
              refine lv_iload_n hx hb dX2_grainAt_57 rfl (lv_at hl 3 rfl) ?_
              refine lv_icmp_gt (tgt := 75) hx hb dX2_grainAt_58 (by decide) (fun c11 => ?_) (fun c11 => ?_)
              · have hf := (if_pos c11).symm.trans hf
                exact hj7 ls (lv_sub hl [1, 2, 3, 4] rfl) hf
              · have hf := (if_neg c11).symm.trans hf
                refine lv_aload_n hx hb dX2_grainAt_61 rfl (lv_at hl 1 rfl) ?_
                refine gf_X2_X2_script C hK (hP 0 _ rfl) dX2_grainAt_62 ?_
                refine lv_iload_n hx hb dX2_grainAt_65 rfl (lv_at hl 4 rfl) ?_
                obtain ⟨r12, hr12, hf⟩ := ox_bind hf
                refine cxVP (As := [.int x1]) (rest := []) (st1 := [.int r12]) C hK (tX8_high l E a_sc u_sc x1 r12 hr12) lk_X2_238 ⟨rfl, rfl⟩ (by rw [hRf, hRl]; decide) ⟨Nat.zero_le _, Nat.zero_le _⟩ (PB.sub hP [1, 2, 3, 4, 5, 6, 7, 8] rfl) (fun _ _ => rfl) hN (rc_X8 hK (hP 1 _ rfl)) rfl hl.1 rfl rfl (Nat.le_of_ble_eq_true rfl) dX2_grainAt_66 ?_
                refine lv_iload_n hx hb dX2_grainAt_69 rfl (lv_at hl 3 rfl) ?_
                refine lv_icmp_lt (tgt := 75) hx hb dX2_grainAt_70 (by decide) (fun c13 => ?_) (fun c13 => ?_)
                · have hf := (if_pos c13).symm.trans hf
                  exact hj7 ls (lv_sub hl [1, 2, 3, 4] rfl) hf
                · have hf := (if_neg c13).symm.trans hf
                  refine lv_iload_n hx hb dX2_grainAt_73 rfl (lv_at hl 4 rfl) ?_
                  have hf := hret1 _ (Option.some.inj hf)
                  subst hf
                  exact hQ _ _ dX2_grainAt_74
          refine lv_icmp_ge (tgt := 41) hx hb dX2_grainAt_34 (by decide) (fun c14 => ?_) (fun c14 => ?_)
          · refine lv_iconst (v := 0) hx hb dX2_grainAt_41 (by decide) ?_
            exact ox_topi ((ex6).trans (if_pos c14)).symm hjx6
          · refine lv_iconst (v := 1) hx hb dX2_grainAt_37 (by decide) ?_
            refine lv_goto (tgt := 42) hx hb dX2_grainAt_38 (by decide) ?_
            exact ox_topi ((ex6).trans (if_neg c14)).symm hjx6
  exact hloop1 fuel _ ls (lv_sub hl [1, 2, 3, 0] rfl) hX1
set_option maxHeartbeats 4000000 in
set_option maxRecDepth 20000 in
theorem tX2_giveBack (l : Launch) (E : Ev) (a_ml : Nat → Nat) (q_ml_0_names : Nat) (u_ml : St) (a_sc : Nat → Nat → Nat) (u_sc : Nat → St) (a_h : Nat → Nat) (u_h : St) (res : St) (hf : fX2_giveBack u_ml u_sc u_h = some res) : MX l E yX2_giveBack cX2_giveBack 2 none (rmm 1 22) [wMill E a_ml q_ml_0_names (a_sc 0 0) u_ml, wScript E (a_sc 0) (a_sc 1 0) (a_sc 2 0) (a_sc 3 0) (a_sc 4 0) (a_sc 5 0) (a_sc 6 0) (a_sc 7 0) (u_sc 0), wRoll E 6 (a_sc 1) (u_sc 1), wRoll E 6 (a_sc 2) (u_sc 2), wRoll E 4 (a_sc 3) (u_sc 3), wRoll E 14 (a_sc 4) (u_sc 4), wFormula E (a_sc 5) (u_sc 5), wFormula E (a_sc 6) (u_sc 6), wFormula E (a_sc 7) (u_sc 7), wHall E a_h u_h] (fun q => [wMill E a_ml q_ml_0_names (a_sc 0 0) u_ml, wScript E (a_sc 0) (a_sc 1 0) (a_sc 2 0) (a_sc 3 0) (a_sc 4 0) (a_sc 5 0) (a_sc 6 0) (a_sc 7 0) (u_sc 0), wRoll E 6 (a_sc 1) (u_sc 1), wRoll E 6 (a_sc 2) (u_sc 2), wRoll E 4 (a_sc 3) (u_sc 3), wRoll E 14 (a_sc 4) (u_sc 4), wFormula E (a_sc 5) (u_sc 5), wFormula E (a_sc 6) (u_sc 6), wFormula E (a_sc 7) (u_sc 7), wHall E a_h res]) [.ref (a_ml 0), .ref (a_h 0)] none := by
  unfold fX2_giveBack at hf
  refine MX.ofV rfl (by decide) (Nat.le_of_ble_eq_true rfl) ?_
  intro p e R s m args below meth c ls Q ad H hRf hRl C hB hD hK hN hl hQ
  generalize hlocs : ([] : List Loc) = locs at hB ⊢
  clear hlocs
  have hx := C.1
  have hb := C.2.1
  have hl : lv_has ls 2 [(0, .ref (a_ml 0)), (1, .ref (a_h 0))] := hl
  refine lv_aload_n hx hb dX2_giveBack_0 rfl (lv_at hl 0 rfl) ?_
  refine gf_X2_X2_givesBack C hK (hB.1 0 _ rfl) dX2_giveBack_1 ?_
  refine lv_if_eq (tgt := 45) hx hb dX2_giveBack_4 (by decide) (fun c1 => ?_) (fun c1 => ?_)
  · have hf := (if_pos c1).symm.trans hf
    have hf := Option.some.inj hf
    subst hf
    exact hQ _ _ H locs (fun _ => 0) hB dX2_giveBack_45
  · have hf := (if_neg c1).symm.trans hf
    refine lv_aload_n hx hb dX2_giveBack_7 rfl (lv_at hl 0 rfl) ?_
    refine gf_X2_X2_script C hK (hB.1 0 _ rfl) dX2_giveBack_8 ?_
    refine gf_X2_X8_grains C hK (hB.1 1 _ rfl) dX2_giveBack_11 ?_
    refine lv_aload_n hx hb dX2_giveBack_14 rfl (lv_at hl 1 rfl) ?_
    refine gf_X2_X1_latest C hK (hB.1 9 _ rfl) dX2_giveBack_15 ?_
    refine cxVP (As := [.int (gI u_h 7)]) (rest := []) (st1 := [.int (fX7_has 4 (u_sc 3) (gI u_h 7))]) C hK (tX7_has l E 4 (a_sc 3) (u_sc 3) (gI u_h 7) (fX7_has 4 (u_sc 3) (gI u_h 7)) rfl) lk_X2_120 ⟨rfl, rfl⟩ (by rw [hRf, hRl]; decide) ⟨Nat.zero_le _, Nat.zero_le _⟩ (PB.sub hB.1 [4] rfl) (hB.old hD hN) (Nat.le_trans hN hB.2.2.1) (rc_X7 hK (hB.1 4 _ rfl)) rfl hl.1 rfl rfl (Nat.le_of_ble_eq_true rfl) dX2_giveBack_18 ?_
    refine lv_if_eq (tgt := 45) hx hb dX2_giveBack_21 (by decide) (fun c2 => ?_) (fun c2 => ?_)
    · have hf := (if_pos c2).symm.trans hf
      have hf := Option.some.inj hf
      subst hf
      exact hQ _ _ H locs (fun _ => 0) hB dX2_giveBack_45
    · have hf := (if_neg c2).symm.trans hf
      refine lv_aload_n hx hb dX2_giveBack_24 rfl (lv_at hl 1 rfl) ?_
      refine gf_X2_X1_ground C hK (hB.1 9 _ rfl) dX2_giveBack_25 ?_
      refine lv_aload_n hx hb dX2_giveBack_28 rfl (lv_at hl 1 rfl) ?_
      refine gf_X2_X1_latest C hK (hB.1 9 _ rfl) dX2_giveBack_29 ?_
      obtain ⟨hn3, hf⟩ := ox_chk hf
      refine ld_X1_ground C hK (hB.1 9 _ rfl) hn3 rfl dX2_giveBack_32 ?_
      refine lv_if_le (tgt := 45) hx hb dX2_giveBack_33 (by decide) (fun c4 => ?_) (fun c4 => ?_)
      · have hf := (if_pos c4).symm.trans hf
        have hf := Option.some.inj hf
        subst hf
        exact hQ _ _ H locs (fun _ => 0) hB dX2_giveBack_45
      · have hf := (if_neg c4).symm.trans hf
        refine lv_aload_n hx hb dX2_giveBack_36 rfl (lv_at hl 1 rfl) ?_
        refine lv_aload_n hx hb dX2_giveBack_37 rfl (lv_at hl 1 rfl) ?_
        refine gf_X2_X1_latest C hK (hB.1 9 _ rfl) dX2_giveBack_38 ?_
        refine lv_iconst (v := (-1)) hx hb dX2_giveBack_41 (by decide) ?_
        obtain ⟨r5, hr5, hf⟩ := ox_bind hf
        refine cxVX (bs1 := (fun q => [wMill E a_ml q_ml_0_names (a_sc 0 0) u_ml, wScript E (a_sc 0) (a_sc 1 0) (a_sc 2 0) (a_sc 3 0) (a_sc 4 0) (a_sc 5 0) (a_sc 6 0) (a_sc 7 0) (u_sc 0), wRoll E 6 (a_sc 1) (u_sc 1), wRoll E 6 (a_sc 2) (u_sc 2), wRoll E 4 (a_sc 3) (u_sc 3), wRoll E 14 (a_sc 4) (u_sc 4), wFormula E (a_sc 5) (u_sc 5), wFormula E (a_sc 6) (u_sc 6), wFormula E (a_sc 7) (u_sc 7), wHall E a_h r5])) (As := [.int (gI u_h 7), .int (-1 : Int32)]) (rest := []) (st1 := []) C hK (tX1_grind l E a_h u_h (gI u_h 7) (-1 : Int32) r5 hr5) lk_X2_227 (by rw [hRf, hRl]; decide) ⟨Nat.zero_le _, Nat.zero_le _⟩ hB hD hN [9] (by decide) rfl (fun _ => rfl) (fun _ => rfl) (rc_X1 hK (hB.1 9 _ rfl)) rfl hl.1 rfl rfl (Nat.le_of_ble_eq_true rfl) dX2_giveBack_42 (fun H locs q6 hB => ?_)
        have hB : WB E ad s.heap [wMill E a_ml q_ml_0_names (a_sc 0 0) u_ml, wScript E (a_sc 0) (a_sc 1 0) (a_sc 2 0) (a_sc 3 0) (a_sc 4 0) (a_sc 5 0) (a_sc 6 0) (a_sc 7 0) (u_sc 0), wRoll E 6 (a_sc 1) (u_sc 1), wRoll E 6 (a_sc 2) (u_sc 2), wRoll E 4 (a_sc 3) (u_sc 3), wRoll E 14 (a_sc 4) (u_sc 4), wFormula E (a_sc 5) (u_sc 5), wFormula E (a_sc 6) (u_sc 6), wFormula E (a_sc 7) (u_sc 7), wHall E a_h r5] H locs := hB
        have hf := Option.some.inj hf
        subst hf
        exact hQ _ _ H locs (fun _ => 0) hB dX2_giveBack_45
set_option maxHeartbeats 4000000 in
set_option maxRecDepth 20000 in
theorem tX2_grind (l : Launch) (E : Ev) (a_ml : Nat → Nat) (u_ml : St) (n_nm : Nat) (a_nm : Nat → Nat) (u_nm : St) (a_sc : Nat → Nat → Nat) (u_sc : Nat → St) (a_h : Nat → Nat) (u_h : St) (x_2 : Int32) (res : St × (Nat → St) × St) (hf : fX2_grind n_nm u_ml u_nm u_sc u_h x_2 = some res) : MX l E yX2_grind cX2_grind 8 none (rmm 4 101) [wMill E a_ml (a_nm 0) (a_sc 0 0) u_ml, wLArr E n_nm a_nm u_nm, wScript E (a_sc 0) (a_sc 1 0) (a_sc 2 0) (a_sc 3 0) (a_sc 4 0) (a_sc 5 0) (a_sc 6 0) (a_sc 7 0) (u_sc 0), wRoll E 6 (a_sc 1) (u_sc 1), wRoll E 6 (a_sc 2) (u_sc 2), wRoll E 4 (a_sc 3) (u_sc 3), wRoll E 14 (a_sc 4) (u_sc 4), wFormula E (a_sc 5) (u_sc 5), wFormula E (a_sc 6) (u_sc 6), wFormula E (a_sc 7) (u_sc 7), wHall E a_h u_h] (fun q => [wMill E a_ml (a_nm 0) (a_sc 0 0) u_ml, wLArr E n_nm a_nm res.1, wScript E (a_sc 0) (a_sc 1 0) (a_sc 2 0) (a_sc 3 0) (a_sc 4 0) (a_sc 5 0) (a_sc 6 0) (a_sc 7 0) (res.2.1 0), wRoll E 6 (a_sc 1) (res.2.1 1), wRoll E 6 (a_sc 2) (res.2.1 2), wRoll E 4 (a_sc 3) (res.2.1 3), wRoll E 14 (a_sc 4) (res.2.1 4), wFormula E (a_sc 5) (res.2.1 5), wFormula E (a_sc 6) (res.2.1 6), wFormula E (a_sc 7) (res.2.1 7), wHall E a_h res.2.2]) [.ref (a_ml 0), .ref (a_h 0), .int x_2] none := by
  unfold fX2_grind at hf
  refine MX.ofV rfl (by decide) (Nat.le_of_ble_eq_true rfl) ?_
  intro p e R s m args below meth c ls Q ad H hRf hRl C hB hD hK hN hl hQ
  generalize hlocs : ([] : List Loc) = locs at hB ⊢
  clear hlocs
  have hx := C.1
  have hb := C.2.1
  have hl : lv_has ls 8 [(0, .ref (a_ml 0)), (1, .ref (a_h 0)), (2, .int x_2)] := hl
  refine lv_aload_n hx hb dX2_grind_0 rfl (lv_at hl 1 rfl) ?_
  refine gf_X2_X1_speed C hK (hB.1 10 _ rfl) dX2_grind_1 ?_
  refine lv_if_ge (tgt := 13) hx hb dX2_grind_4 (by decide) (fun c1 => ?_) (fun c1 => ?_)
  · have hf := (if_pos c1).symm.trans hf
    refine lv_aload_n hx hb dX2_grind_13 rfl (lv_at hl 0 rfl) ?_
    refine lv_aload_n hx hb dX2_grind_14 rfl (lv_at hl 1 rfl) ?_
    refine lv_aload_n hx hb dX2_grind_15 rfl (lv_at hl 1 rfl) ?_
    refine gf_X2_X1_speed C hK (hB.1 10 _ rfl) dX2_grind_16 ?_
    obtain ⟨r2, hr2, hf⟩ := ox_bind hf
    refine cxVP (As := [.ref (a_h 0), .int (gI u_h 1)]) (rest := []) (st1 := [.int r2]) C hK (tX2_grainAt l E a_ml (a_nm 0) u_ml a_sc u_sc a_h u_h (gI u_h 1) r2 hr2) lk_X2_212 ⟨rfl, rfl⟩ (by rw [hRf, hRl]; decide) ⟨Nat.zero_le _, Nat.zero_le _⟩ (PB.sub hB.1 [0, 2, 3, 4, 5, 6, 7, 8, 9, 10] rfl) (hB.old hD hN) (Nat.le_trans hN hB.2.2.1) (rc_X2 hK (hB.1 0 _ rfl)) rfl hl.1 rfl rfl (Nat.le_of_ble_eq_true rfl) dX2_grind_19 ?_
    refine lv_istore_n (lv' := [(3, .int r2), (0, .ref (a_ml 0)), (1, .ref (a_h 0)), (2, .int x_2)]) hx hb dX2_grind_22 rfl hl (by decide) rfl (fun ls hl => ?_)
    refine lv_iload_n hx hb dX2_grind_23 rfl (lv_at hl 0 rfl) ?_
    refine lv_iconst (v := (-1)) hx hb dX2_grind_24 (by decide) ?_
    refine lv_icmp_ne (tgt := 29) hx hb dX2_grind_25 (by decide) (fun c3 => ?_) (fun c3 => ?_)
    · have hf := (if_neg c3).symm.trans hf
      refine lv_aload_n hx hb dX2_grind_29 rfl (lv_at hl 1 rfl) ?_
      refine lv_aload_n hx hb dX2_grind_30 rfl (lv_at hl 2 rfl) ?_
      refine lv_iconst (v := 2) hx hb dX2_grind_31 (by decide) ?_
      refine lv_iload_n hx hb dX2_grind_32 rfl (lv_at hl 3 rfl) ?_
      obtain ⟨r4, hr4, hf⟩ := ox_bind hf
      refine cxVX (bs1 := (fun q => [wMill E a_ml (a_nm 0) (a_sc 0 0) u_ml, wLArr E n_nm a_nm r4.2.1, wScript E (a_sc 0) (a_sc 1 0) (a_sc 2 0) (a_sc 3 0) (a_sc 4 0) (a_sc 5 0) (a_sc 6 0) (a_sc 7 0) (r4.2.2 0), wRoll E 6 (a_sc 1) (r4.2.2 1), wRoll E 6 (a_sc 2) (r4.2.2 2), wRoll E 4 (a_sc 3) (r4.2.2 3), wRoll E 14 (a_sc 4) (r4.2.2 4), wFormula E (a_sc 5) (r4.2.2 5), wFormula E (a_sc 6) (r4.2.2 6), wFormula E (a_sc 7) (r4.2.2 7), wHall E a_h u_h])) (As := [.ref (a_h 0), .int (2 : Int32), .int x_2]) (rest := []) (st1 := [.long r4.1]) C hK (tX2_stoneLaw l E a_ml u_ml n_nm a_nm u_nm a_sc u_sc a_h u_h (2 : Int32) x_2 r4 hr4) lk_X2_201 (by rw [hRf, hRl]; decide) ⟨Nat.zero_le _, Nat.zero_le _⟩ hB hD hN [0, 1, 2, 3, 4, 5, 6, 7, 8, 9, 10] (by decide) rfl (fun _ => rfl) (fun _ => rfl) (rc_X2 hK (hB.1 0 _ rfl)) rfl hl.1 rfl rfl (Nat.le_of_ble_eq_true rfl) dX2_grind_33 (fun H locs q5 hB => ?_)
      have hB : WB E ad s.heap [wMill E a_ml (a_nm 0) (a_sc 0 0) u_ml, wLArr E n_nm a_nm r4.2.1, wScript E (a_sc 0) (a_sc 1 0) (a_sc 2 0) (a_sc 3 0) (a_sc 4 0) (a_sc 5 0) (a_sc 6 0) (a_sc 7 0) (r4.2.2 0), wRoll E 6 (a_sc 1) (r4.2.2 1), wRoll E 6 (a_sc 2) (r4.2.2 2), wRoll E 4 (a_sc 3) (r4.2.2 3), wRoll E 14 (a_sc 4) (r4.2.2 4), wFormula E (a_sc 5) (r4.2.2 5), wFormula E (a_sc 6) (r4.2.2 6), wFormula E (a_sc 7) (r4.2.2 7), wHall E a_h u_h] H locs := hB
      refine lv_topl (fun x6 ex6 => ?_)
      have hf := ox_lt ex6 hf
      refine lv_lstore (lv' := [(4, .long x6), (3, .int r2), (0, .ref (a_ml 0)), (1, .ref (a_h 0)), (2, .int x_2)]) hx hb dX2_grind_36 hl (by decide) rfl (fun ls hl => ?_)
      refine lv_lload hx hb dX2_grind_38 (lv_at hl 0 rfl) ?_
      refine lv_ldc2 (v := -9223372036854775808) hx hb C.2.2.2.1 (C.2.2.2.2 _ mw_770) dX2_grind_40 ?_
      refine W.lcmp hx hb dX2_grind_43 ?_
      obtain ⟨j8, ej8, hf⟩ := ox_ex hf
      have hj8 : ∀ (x7 : Int32) (ls : Array Slot) (H : Heap) (locs : List Loc), lv_has ls 8 [(0, .ref (a_ml 0)), (1, .ref (a_h 0)), (3, .int r2)] → WB E ad s.heap [wMill E a_ml (a_nm 0) (a_sc 0 0) u_ml, wLArr E n_nm a_nm r4.2.1, wScript E (a_sc 0) (a_sc 1 0) (a_sc 2 0) (a_sc 3 0) (a_sc 4 0) (a_sc 5 0) (a_sc 6 0) (a_sc 7 0) (r4.2.2 0), wRoll E 6 (a_sc 1) (r4.2.2 1), wRoll E 6 (a_sc 2) (r4.2.2 2), wRoll E 4 (a_sc 3) (r4.2.2 3), wRoll E 14 (a_sc 4) (r4.2.2 4), wFormula E (a_sc 5) (r4.2.2 5), wFormula E (a_sc 6) (r4.2.2 6), wFormula E (a_sc 7) (r4.2.2 7), wHall E a_h u_h] H locs → j8 x7 = some res → W p l e R s m args below meth c H locs 0 0 Q (F0 m 61 ls [.int x7]) := by
        intro x7 ls H locs hl hB hf
        have hf := ox_a1 ej8 hf
        refine lv_istore (lv' := [(6, .int x7), (0, .ref (a_ml 0)), (1, .ref (a_h 0)), (3, .int r2)]) hx hb dX2_grind_61 hl (by decide) rfl (fun ls hl => ?_)
        refine lv_iload hx hb dX2_grind_63 (lv_at hl 0 rfl) ?_
        refine lv_aload_n hx hb dX2_grind_65 rfl (lv_at hl 1 rfl) ?_
        refine gf_X2_X2_script C hK (hB.1 0 _ rfl) dX2_grind_66 ?_
        refine lv_iload_n hx hb dX2_grind_69 rfl (lv_at hl 3 rfl) ?_
        obtain ⟨r9, hr9, hf⟩ := ox_bind hf
        refine cxVP (As := [.int r2]) (rest := [.int x7]) (st1 := [.int r9, .int x7]) C hK (tX8_sacks l E a_sc (r4.2.2) r2 r9 hr9) lk_X2_216 ⟨rfl, rfl⟩ (by rw [hRf, hRl]; decide) ⟨Nat.zero_le _, Nat.zero_le _⟩ (PB.sub hB.1 [2, 3, 4, 5, 6, 7, 8, 9] rfl) (hB.old hD hN) (Nat.le_trans hN hB.2.2.1) (rc_X8 hK (hB.1 2 _ rfl)) rfl hl.1 rfl rfl (Nat.le_of_ble_eq_true rfl) dX2_grind_70 ?_
        refine lv_aload_n hx hb dX2_grind_73 rfl (lv_at hl 2 rfl) ?_
        refine gf_X2_X1_ground C hK (hB.1 10 _ rfl) dX2_grind_74 ?_
        refine lv_iload_n hx hb dX2_grind_77 rfl (lv_at hl 3 rfl) ?_
        obtain ⟨hn10, hf⟩ := ox_chk hf
        refine ld_X1_ground C hK (hB.1 10 _ rfl) hn10 rfl dX2_grind_78 ?_
        refine lv_isub hx hb dX2_grind_79 ?_
        refine va_mmin hx hb (C.2.2.1.trans hl.1.symm) C.2.2.2.1 (C.2.2.2.2 _ mw_953) (C.2.2.2.2 _ mm_mmin_s) (C.2.2.2.2 _ mm_ini) (C.2.2.2.2 _ mm_mmin_c) (by rw [hRf]; decide) (by rw [hRl]; exact Nat.le_of_ble_eq_true rfl) (Nat.zero_le _) (Nat.zero_le _) dX2_grind_80 ?_
        refine lv_topi (fun x11 ex11 => ?_)
        have hf := ox_lt ex11 hf
        refine lv_istore (lv' := [(7, .int x11), (6, .int x7), (0, .ref (a_ml 0)), (1, .ref (a_h 0)), (3, .int r2)]) hx hb dX2_grind_83 hl (by decide) rfl (fun ls hl => ?_)
        refine lv_iload hx hb dX2_grind_85 (lv_at hl 0 rfl) ?_
        refine lv_if_le (tgt := 102) hx hb dX2_grind_87 (by decide) (fun c12 => ?_) (fun c12 => ?_)
        · have hf := (if_pos c12).symm.trans hf
          have hf := Option.some.inj hf
          subst hf
          exact hQ _ _ H locs (fun _ => 0) hB dX2_grind_102
        · have hf := (if_neg c12).symm.trans hf
          refine lv_aload_n hx hb dX2_grind_90 rfl (lv_at hl 3 rfl) ?_
          refine lv_iload_n hx hb dX2_grind_91 rfl (lv_at hl 4 rfl) ?_
          refine lv_iload hx hb dX2_grind_92 (lv_at hl 0 rfl) ?_
          obtain ⟨r13, hr13, hf⟩ := ox_bind hf
          refine cxVX (bs1 := (fun q => [wMill E a_ml (a_nm 0) (a_sc 0 0) u_ml, wLArr E n_nm a_nm r4.2.1, wScript E (a_sc 0) (a_sc 1 0) (a_sc 2 0) (a_sc 3 0) (a_sc 4 0) (a_sc 5 0) (a_sc 6 0) (a_sc 7 0) (r4.2.2 0), wRoll E 6 (a_sc 1) (r4.2.2 1), wRoll E 6 (a_sc 2) (r4.2.2 2), wRoll E 4 (a_sc 3) (r4.2.2 3), wRoll E 14 (a_sc 4) (r4.2.2 4), wFormula E (a_sc 5) (r4.2.2 5), wFormula E (a_sc 6) (r4.2.2 6), wFormula E (a_sc 7) (r4.2.2 7), wHall E a_h r13])) (As := [.int r2, .int x11]) (rest := []) (st1 := []) C hK (tX1_grind l E a_h u_h r2 x11 r13 hr13) lk_X2_227 (by rw [hRf, hRl]; decide) ⟨Nat.zero_le _, Nat.zero_le _⟩ hB hD hN [10] (by decide) rfl (fun _ => rfl) (fun _ => rfl) (rc_X1 hK (hB.1 10 _ rfl)) rfl hl.1 rfl rfl (Nat.le_of_ble_eq_true rfl) dX2_grind_94 (fun H locs q14 hB => ?_)
          have hB : WB E ad s.heap [wMill E a_ml (a_nm 0) (a_sc 0 0) u_ml, wLArr E n_nm a_nm r4.2.1, wScript E (a_sc 0) (a_sc 1 0) (a_sc 2 0) (a_sc 3 0) (a_sc 4 0) (a_sc 5 0) (a_sc 6 0) (a_sc 7 0) (r4.2.2 0), wRoll E 6 (a_sc 1) (r4.2.2 1), wRoll E 6 (a_sc 2) (r4.2.2 2), wRoll E 4 (a_sc 3) (r4.2.2 3), wRoll E 14 (a_sc 4) (r4.2.2 4), wFormula E (a_sc 5) (r4.2.2 5), wFormula E (a_sc 6) (r4.2.2 6), wFormula E (a_sc 7) (r4.2.2 7), wHall E a_h r13] H locs := hB
          refine lv_aload_n hx hb dX2_grind_97 rfl (lv_at hl 3 rfl) ?_
          refine lv_iload_n hx hb dX2_grind_98 rfl (lv_at hl 4 rfl) ?_
          refine pf_X2_X1_latest C hK hB hD 10 rfl dX2_grind_99 (fun H locs u15 eu15 hB => ?_)
          have hf := ox_lt eu15 hf
          have hB : WB E ad s.heap [wMill E a_ml (a_nm 0) (a_sc 0 0) u_ml, wLArr E n_nm a_nm r4.2.1, wScript E (a_sc 0) (a_sc 1 0) (a_sc 2 0) (a_sc 3 0) (a_sc 4 0) (a_sc 5 0) (a_sc 6 0) (a_sc 7 0) (r4.2.2 0), wRoll E 6 (a_sc 1) (r4.2.2 1), wRoll E 6 (a_sc 2) (r4.2.2 2), wRoll E 4 (a_sc 3) (r4.2.2 3), wRoll E 14 (a_sc 4) (r4.2.2 4), wFormula E (a_sc 5) (r4.2.2 5), wFormula E (a_sc 6) (r4.2.2 6), wFormula E (a_sc 7) (r4.2.2 7), wHall E a_h u15] H locs := hB
          have hf := Option.some.inj hf
          subst hf
          exact hQ _ _ H locs (fun _ => 0) hB dX2_grind_102
      refine lx_if_ne (tgt := 51) hx hb dX2_grind_44 (by decide) (fun c16 => ?_) (fun c16 => ?_)
      · have hf := (if_neg c16).symm.trans hf
        refine lv_lload hx hb dX2_grind_51 (lv_at hl 0 rfl) ?_
        refine lv_lconst (v := 0) hx hb dX2_grind_53 (by decide) ?_
        refine lv_ldc2 (v := 9) hx hb C.2.2.2.1 (C.2.2.2.2 _ mw_779) dX2_grind_54 ?_
        refine cxNP (As := [.long x6, .long (0 : Int64), .long (9 : Int64)]) (rest := []) (st1 := [.long (fX11_within x6 (0 : Int64) (9 : Int64))]) C hK (tX11_within l E x6 (0 : Int64) (9 : Int64) (fX11_within x6 (0 : Int64) (9 : Int64)) rfl) lk_X2_164 ⟨rfl, rfl⟩ (by rw [hRf, hRl]; decide) ⟨Nat.zero_le _, Nat.zero_le _⟩ (PB.sub hB.1 [] rfl) (hB.old hD hN) (Nat.le_trans hN hB.2.2.1) rfl hl.1 rfl rfl (Nat.le_of_ble_eq_true rfl) dX2_grind_57 ?_
        refine lv_l2i hx hb dX2_grind_60 rfl ?_
        exact hj8 _ ls H locs (lv_sub hl [2, 3, 1] rfl) hB hf
      · have hf := (if_pos c16).symm.trans hf
        refine lv_iconst (v := 1) hx hb dX2_grind_47 (by decide) ?_
        refine lv_goto (tgt := 61) hx hb dX2_grind_48 (by decide) ?_
        exact hj8 _ ls H locs (lv_sub hl [2, 3, 1] rfl) hB hf
    · have hf := (if_pos c3).symm.trans hf
      have hf := Option.some.inj hf
      subst hf
      exact hQ _ _ H locs (fun _ => 0) hB dX2_grind_28
  · have hf := (if_neg c1).symm.trans hf
    refine lv_aload_n hx hb dX2_grind_7 rfl (lv_at hl 0 rfl) ?_
    refine lv_aload_n hx hb dX2_grind_8 rfl (lv_at hl 1 rfl) ?_
    obtain ⟨r17, hr17, hf⟩ := ox_bind hf
    refine cxVX (bs1 := (fun q => [wMill E a_ml (a_nm 0) (a_sc 0 0) u_ml, wLArr E n_nm a_nm u_nm, wScript E (a_sc 0) (a_sc 1 0) (a_sc 2 0) (a_sc 3 0) (a_sc 4 0) (a_sc 5 0) (a_sc 6 0) (a_sc 7 0) (u_sc 0), wRoll E 6 (a_sc 1) (u_sc 1), wRoll E 6 (a_sc 2) (u_sc 2), wRoll E 4 (a_sc 3) (u_sc 3), wRoll E 14 (a_sc 4) (u_sc 4), wFormula E (a_sc 5) (u_sc 5), wFormula E (a_sc 6) (u_sc 6), wFormula E (a_sc 7) (u_sc 7), wHall E a_h r17])) (As := [.ref (a_h 0)]) (rest := []) (st1 := []) C hK (tX2_giveBack l E a_ml (a_nm 0) u_ml a_sc u_sc a_h u_h r17 hr17) lk_X2_209 (by rw [hRf, hRl]; decide) ⟨Nat.zero_le _, Nat.zero_le _⟩ hB hD hN [0, 2, 3, 4, 5, 6, 7, 8, 9, 10] (by decide) rfl (fun _ => rfl) (fun _ => rfl) (rc_X2 hK (hB.1 0 _ rfl)) rfl hl.1 rfl rfl (Nat.le_of_ble_eq_true rfl) dX2_grind_9 (fun H locs q18 hB => ?_)
    have hB : WB E ad s.heap [wMill E a_ml (a_nm 0) (a_sc 0 0) u_ml, wLArr E n_nm a_nm u_nm, wScript E (a_sc 0) (a_sc 1 0) (a_sc 2 0) (a_sc 3 0) (a_sc 4 0) (a_sc 5 0) (a_sc 6 0) (a_sc 7 0) (u_sc 0), wRoll E 6 (a_sc 1) (u_sc 1), wRoll E 6 (a_sc 2) (u_sc 2), wRoll E 4 (a_sc 3) (u_sc 3), wRoll E 14 (a_sc 4) (u_sc 4), wFormula E (a_sc 5) (u_sc 5), wFormula E (a_sc 6) (u_sc 6), wFormula E (a_sc 7) (u_sc 7), wHall E a_h r17] H locs := hB
    have hf := Option.some.inj hf
    subst hf
    exact hQ _ _ H locs (fun _ => 0) hB dX2_grind_12
set_option maxHeartbeats 4000000 in
set_option maxRecDepth 20000 in
theorem tX2_draw (l : Launch) (E : Ev) (a_h : Nat → Nat) (u_h : St) (res : Int64 × St) (hf : fX2_draw u_h = res) : MX l E yX2_draw cX2_draw 1 (some .long) (rmm 0 0) [wHall E a_h u_h] (fun q => [wHall E a_h res.2]) [.ref (a_h 0)] (some (.long res.1)) := by
  unfold fX2_draw at hf
  refine MX.ofL rfl (by decide) (Nat.le_of_ble_eq_true rfl) ?_
  intro p e R s m args below meth c ls Q ad H hRf hRl C hB hD hK hN hl hQ
  generalize hlocs : ([] : List Loc) = locs at hB ⊢
  clear hlocs
  have hx := C.1
  have hb := C.2.1
  have hl : lv_has ls 1 [(0, .ref (a_h 0))] := hl
  refine lv_aload_n hx hb dX2_draw_0 rfl (lv_at hl 0 rfl) ?_
  refine lv_aload_n hx hb dX2_draw_1 rfl (lv_at hl 0 rfl) ?_
  refine gf_X2_X1_number C hK (hB.1 0 _ rfl) dX2_draw_2 ?_
  refine lv_ldc2 (v := 1103515245) hx hb C.2.2.2.1 (C.2.2.2.2 _ mw_922) dX2_draw_5 ?_
  refine lv_lmul hx hb dX2_draw_8 ?_
  refine lv_ldc2 (v := 12345) hx hb C.2.2.2.1 (C.2.2.2.2 _ mw_923) dX2_draw_9 ?_
  refine lv_ladd hx hb dX2_draw_12 ?_
  refine lv_ldc2 (v := 2147483647) hx hb C.2.2.2.1 (C.2.2.2.2 _ mw_924) dX2_draw_13 ?_
  refine lv_land hx hb dX2_draw_16 ?_
  refine lv_topl (fun x1 ex1 => ?_)
  have hf := ox_lt ex1 hf
  refine pf_X2_X1_number C hK hB hD 0 rfl dX2_draw_17 (fun H locs u2 eu2 hB => ?_)
  have hf := ox_lt eu2 hf
  have hB : WB E ad s.heap [wHall E a_h u2] H locs := hB
  refine lv_aload_n hx hb dX2_draw_20 rfl (lv_at hl 0 rfl) ?_
  refine gf_X2_X1_number C hK (hB.1 0 _ rfl) dX2_draw_21 ?_
  refine lv_ldc2 (v := 65536) hx hb C.2.2.2.1 (C.2.2.2.2 _ mw_925) dX2_draw_24 ?_
  refine lv_ldiv hx hb dX2_draw_27 (by decide) ?_
  subst hf
  exact hQ _ _ H locs (fun _ => 0) hB dX2_draw_28
set_option maxHeartbeats 4000000 in
set_option maxRecDepth 20000 in
theorem tX2_isCoughed (l : Launch) (E : Ev) (a_ml : Nat → Nat) (q_ml_0_names : Nat) (u_ml : St) (a_sc : Nat → Nat → Nat) (u_sc : Nat → St) (a_h : Nat → Nat) (u_h : St) (res : Int32 × St) (hf : fX2_isCoughed u_ml u_sc u_h = res) : MX l E yX2_isCoughed cX2_isCoughed 2 (some .boolean) (rmm 1 20) [wMill E a_ml q_ml_0_names (a_sc 0 0) u_ml, wScript E (a_sc 0) (a_sc 1 0) (a_sc 2 0) (a_sc 3 0) (a_sc 4 0) (a_sc 5 0) (a_sc 6 0) (a_sc 7 0) (u_sc 0), wRoll E 6 (a_sc 1) (u_sc 1), wRoll E 6 (a_sc 2) (u_sc 2), wRoll E 4 (a_sc 3) (u_sc 3), wRoll E 14 (a_sc 4) (u_sc 4), wFormula E (a_sc 5) (u_sc 5), wFormula E (a_sc 6) (u_sc 6), wFormula E (a_sc 7) (u_sc 7), wHall E a_h u_h] (fun q => [wMill E a_ml q_ml_0_names (a_sc 0 0) u_ml, wScript E (a_sc 0) (a_sc 1 0) (a_sc 2 0) (a_sc 3 0) (a_sc 4 0) (a_sc 5 0) (a_sc 6 0) (a_sc 7 0) (u_sc 0), wRoll E 6 (a_sc 1) (u_sc 1), wRoll E 6 (a_sc 2) (u_sc 2), wRoll E 4 (a_sc 3) (u_sc 3), wRoll E 14 (a_sc 4) (u_sc 4), wFormula E (a_sc 5) (u_sc 5), wFormula E (a_sc 6) (u_sc 6), wFormula E (a_sc 7) (u_sc 7), wHall E a_h res.2]) [.ref (a_ml 0), .ref (a_h 0)] (some (.int res.1)) := by
  unfold fX2_isCoughed at hf
  refine MX.ofZZ rfl (by decide) (Nat.le_of_ble_eq_true rfl) ?_
  intro p e R s m args below meth c ls Q ad H hRf hRl C hB hD hK hN hl hQ
  generalize hlocs : ([] : List Loc) = locs at hB ⊢
  clear hlocs
  have hx := C.1
  have hb := C.2.1
  have hl : lv_has ls 2 [(0, .ref (a_ml 0)), (1, .ref (a_h 0))] := hl
  refine lv_aload_n hx hb dX2_isCoughed_0 rfl (lv_at hl 0 rfl) ?_
  refine gf_X2_X2_coughs C hK (hB.1 0 _ rfl) dX2_isCoughed_1 ?_
  refine lv_topi (fun x1 ex1 => ?_)
  have hf := ox_lt ex1 hf
  by_cases c2 : x1 = 1
  · have hf := (if_pos c2).symm.trans hf
    refine lv_tableIn hx hb dX2_isCoughed_4 (by rw [c2]; decide) (by rw [c2]; decide) (off := 32) (by rw [c2]; decide) (tgt := 36) (by decide) ?_
    refine lv_aload_n hx hb dX2_isCoughed_36 rfl (lv_at hl 0 rfl) ?_
    refine gf_X2_X2_script C hK (hB.1 0 _ rfl) dX2_isCoughed_37 ?_
    refine gf_X2_X8_cough C hK (hB.1 1 _ rfl) dX2_isCoughed_40 ?_
    obtain ⟨j3, ej3, hf⟩ := ox_ex hf
    have hj3 : ∀ (ls : Array Slot) (H : Heap) (locs : List Loc), lv_has ls 2 [(0, .ref (a_ml 0))] → WB E ad s.heap [wMill E a_ml q_ml_0_names (a_sc 0 0) u_ml, wScript E (a_sc 0) (a_sc 1 0) (a_sc 2 0) (a_sc 3 0) (a_sc 4 0) (a_sc 5 0) (a_sc 6 0) (a_sc 7 0) (u_sc 0), wRoll E 6 (a_sc 1) (u_sc 1), wRoll E 6 (a_sc 2) (u_sc 2), wRoll E 4 (a_sc 3) (u_sc 3), wRoll E 14 (a_sc 4) (u_sc 4), wFormula E (a_sc 5) (u_sc 5), wFormula E (a_sc 6) (u_sc 6), wFormula E (a_sc 7) (u_sc 7), wHall E a_h u_h] H locs → j3 = res → W p l e R s m args below meth c H locs 0 0 Q (F0 m 84 ls []) := by
      intro ls H locs hl hB hf
      have hf := ox_a0 ej3 hf
      refine lv_aload_n hx hb dX2_isCoughed_84 rfl (lv_at hl 0 rfl) ?_
      refine gf_X2_X2_script C hK (hB.1 0 _ rfl) dX2_isCoughed_85 ?_
      refine gf_X2_X8_cough C hK (hB.1 1 _ rfl) dX2_isCoughed_88 ?_
      refine lv_bipush (v := 100) hx hb dX2_isCoughed_91 (by decide) ?_
      obtain ⟨x4, ex4, hf⟩ := ox_ex hf
      have hjx4 : W p l e R s m args below meth c H locs 0 0 Q (F0 m 101 ls [.int x4]) := by
        subst hf
        exact hQ _ _ H locs (fun _ => 0) x4 rfl hB dX2_isCoughed_101
      refine lv_icmp_lt (tgt := 100) hx hb dX2_isCoughed_93 (by decide) (fun c5 => ?_) (fun c5 => ?_)
      · refine lv_iconst (v := 0) hx hb dX2_isCoughed_100 (by decide) ?_
        exact ox_topi ((ex4).trans (if_pos c5)).symm hjx4
      · refine lv_iconst (v := 1) hx hb dX2_isCoughed_96 (by decide) ?_
        refine lv_goto (tgt := 101) hx hb dX2_isCoughed_97 (by decide) ?_
        exact ox_topi ((ex4).trans (if_neg c5)).symm hjx4
    refine lv_if_le (tgt := 84) hx hb dX2_isCoughed_43 (by decide) (fun c6 => ?_) (fun c6 => ?_)
    · have hf := (if_pos c6).symm.trans hf
      exact hj3 ls H locs (lv_sub hl [0] rfl) hB hf
    · have hf := (if_neg c6).symm.trans hf
      refine lv_aload_n hx hb dX2_isCoughed_46 rfl (lv_at hl 0 rfl) ?_
      refine gf_X2_X2_script C hK (hB.1 0 _ rfl) dX2_isCoughed_47 ?_
      refine gf_X2_X8_cough C hK (hB.1 1 _ rfl) dX2_isCoughed_50 ?_
      refine lv_bipush (v := 100) hx hb dX2_isCoughed_53 (by decide) ?_
      refine lv_icmp_ge (tgt := 84) hx hb dX2_isCoughed_55 (by decide) (fun c7 => ?_) (fun c7 => ?_)
      · have hf := (if_pos c7).symm.trans hf
        exact hj3 ls H locs (lv_sub hl [0] rfl) hB hf
      · have hf := (if_neg c7).symm.trans hf
        refine lv_aload_n hx hb dX2_isCoughed_58 rfl (lv_at hl 1 rfl) ?_
        obtain ⟨r8, er8, hf⟩ := ox_ex hf
        refine cxSX (bs1 := (fun q => [wMill E a_ml q_ml_0_names (a_sc 0 0) u_ml, wScript E (a_sc 0) (a_sc 1 0) (a_sc 2 0) (a_sc 3 0) (a_sc 4 0) (a_sc 5 0) (a_sc 6 0) (a_sc 7 0) (u_sc 0), wRoll E 6 (a_sc 1) (u_sc 1), wRoll E 6 (a_sc 2) (u_sc 2), wRoll E 4 (a_sc 3) (u_sc 3), wRoll E 14 (a_sc 4) (u_sc 4), wFormula E (a_sc 5) (u_sc 5), wFormula E (a_sc 6) (u_sc 6), wFormula E (a_sc 7) (u_sc 7), wHall E a_h r8.2])) (As := [.ref (a_h 0)]) (rest := []) (st1 := [.long r8.1]) C hK (tX2_draw l E a_h u_h r8 er8.symm) lk_X2_183 (by rw [hRf, hRl]; decide) ⟨Nat.zero_le _, Nat.zero_le _⟩ hB hD hN [9] (by decide) rfl (fun _ => rfl) (fun _ => rfl) rfl hl.1 rfl rfl (Nat.le_of_ble_eq_true rfl) dX2_isCoughed_59 (fun H locs q9 hB => ?_)
        have hB : WB E ad s.heap [wMill E a_ml q_ml_0_names (a_sc 0 0) u_ml, wScript E (a_sc 0) (a_sc 1 0) (a_sc 2 0) (a_sc 3 0) (a_sc 4 0) (a_sc 5 0) (a_sc 6 0) (a_sc 7 0) (u_sc 0), wRoll E 6 (a_sc 1) (u_sc 1), wRoll E 6 (a_sc 2) (u_sc 2), wRoll E 4 (a_sc 3) (u_sc 3), wRoll E 14 (a_sc 4) (u_sc 4), wFormula E (a_sc 5) (u_sc 5), wFormula E (a_sc 6) (u_sc 6), wFormula E (a_sc 7) (u_sc 7), wHall E a_h r8.2] H locs := hB
        refine lv_ldc2 (v := 100) hx hb C.2.2.2.1 (C.2.2.2.2 _ mw_926) dX2_isCoughed_62 ?_
        refine lv_lrem hx hb dX2_isCoughed_65 (by decide) ?_
        refine lv_aload_n hx hb dX2_isCoughed_66 rfl (lv_at hl 0 rfl) ?_
        refine gf_X2_X2_script C hK (hB.1 0 _ rfl) dX2_isCoughed_67 ?_
        refine gf_X2_X8_cough C hK (hB.1 1 _ rfl) dX2_isCoughed_70 ?_
        refine lv_i2l hx hb dX2_isCoughed_73 rfl ?_
        refine W.lcmp hx hb dX2_isCoughed_74 ?_
        obtain ⟨x10, ex10, hf⟩ := ox_ex hf
        have hjx10 : W p l e R s m args below meth c H locs 0 0 Q (F0 m 83 ls [.int x10]) := by
          subst hf
          exact hQ _ _ H locs (fun _ => 0) x10 rfl hB dX2_isCoughed_83
        refine lx_if_ge (tgt := 82) hx hb dX2_isCoughed_75 (by decide) (fun c11 => ?_) (fun c11 => ?_)
        · refine lv_iconst (v := 0) hx hb dX2_isCoughed_82 (by decide) ?_
          exact ox_topi ((ex10).trans (if_pos c11)).symm hjx10
        · refine lv_iconst (v := 1) hx hb dX2_isCoughed_78 (by decide) ?_
          refine lv_goto (tgt := 83) hx hb dX2_isCoughed_79 (by decide) ?_
          exact ox_topi ((ex10).trans (if_neg c11)).symm hjx10
  have hf := (if_neg c2).symm.trans hf
  by_cases c12 : x1 = 2
  · have hf := (if_pos c12).symm.trans hf
    refine lv_tableIn hx hb dX2_isCoughed_4 (by rw [c12]; decide) (by rw [c12]; decide) (off := 28) (by rw [c12]; decide) (tgt := 32) (by decide) ?_
    refine lv_iconst (v := 0) hx hb dX2_isCoughed_32 (by decide) ?_
    subst hf
    exact hQ _ _ H locs (fun _ => 0) (0 : Int32) bz0 hB dX2_isCoughed_33
  have hf := (if_neg c12).symm.trans hf
  by_cases c13 : x1 = 3
  · have hf := (if_pos c13).symm.trans hf
    refine lv_tableIn hx hb dX2_isCoughed_4 (by rw [c13]; decide) (by rw [c13]; decide) (off := 30) (by rw [c13]; decide) (tgt := 34) (by decide) ?_
    refine lv_iconst (v := 1) hx hb dX2_isCoughed_34 (by decide) ?_
    subst hf
    exact hQ _ _ H locs (fun _ => 0) (1 : Int32) bz1 hB dX2_isCoughed_35
  have hf := (if_neg c13).symm.trans hf
  have hd16 : W p l e R s m args below meth c H locs 0 0 Q (F0 m 102 ls []) := by
    refine lv_aload_n hx hb dX2_isCoughed_102 rfl (lv_at hl 0 rfl) ?_
    refine gf_X2_X2_script C hK (hB.1 0 _ rfl) dX2_isCoughed_103 ?_
    refine gf_X2_X8_cough C hK (hB.1 1 _ rfl) dX2_isCoughed_106 ?_
    refine lv_bipush (v := 50) hx hb dX2_isCoughed_109 (by decide) ?_
    obtain ⟨x14, ex14, hf⟩ := ox_ex hf
    have hjx14 : W p l e R s m args below meth c H locs 0 0 Q (F0 m 119 ls [.int x14]) := by
      subst hf
      exact hQ _ _ H locs (fun _ => 0) x14 rfl hB dX2_isCoughed_119
    refine lv_icmp_lt (tgt := 118) hx hb dX2_isCoughed_111 (by decide) (fun c15 => ?_) (fun c15 => ?_)
    · refine lv_iconst (v := 0) hx hb dX2_isCoughed_118 (by decide) ?_
      exact ox_topi ((ex14).trans (if_pos c15)).symm hjx14
    · refine lv_iconst (v := 1) hx hb dX2_isCoughed_114 (by decide) ?_
      refine lv_goto (tgt := 119) hx hb dX2_isCoughed_115 (by decide) ?_
      exact ox_topi ((ex14).trans (if_neg c15)).symm hjx14
  have nc2 := lv_neT c2 (show Int32.toInt 1 = 1 from rfl)
  have nc12 := lv_neT c12 (show Int32.toInt 2 = 2 from rfl)
  have nc13 := lv_neT c13 (show Int32.toInt 3 = 3 from rfl)
  rcases (show Int32.toInt x1 < 1 ∨ 3 < Int32.toInt x1 by omega) with h | h
  · exact lv_tableOut hx hb dX2_isCoughed_4 (Or.inl h) (tgt := 102) (by decide) hd16
  · exact lv_tableOut hx hb dX2_isCoughed_4 (Or.inr h) (tgt := 102) (by decide) hd16
set_option maxHeartbeats 4000000 in
set_option maxRecDepth 20000 in
theorem tX8_minutesOf (l : Launch) (E : Ev) (a_sc : Nat → Nat → Nat) (u_sc : Nat → St) (x_1 : Int32) (res : Int32) (hf : fX8_minutesOf u_sc x_1 = some res) : MP l E yX8_minutesOf cX8_minutesOf 2 (some .int) (rmm 0 0) [wScript E (a_sc 0) (a_sc 1 0) (a_sc 2 0) (a_sc 3 0) (a_sc 4 0) (a_sc 5 0) (a_sc 6 0) (a_sc 7 0) (u_sc 0), wRoll E 6 (a_sc 1) (u_sc 1), wRoll E 6 (a_sc 2) (u_sc 2), wRoll E 4 (a_sc 3) (u_sc 3), wRoll E 14 (a_sc 4) (u_sc 4), wFormula E (a_sc 5) (u_sc 5), wFormula E (a_sc 6) (u_sc 6), wFormula E (a_sc 7) (u_sc 7)] [.ref (a_sc 0 0), .int x_1] (some (.int res)) := by
  unfold fX8_minutesOf at hf
  refine MP.ofI rfl (by decide) (Nat.le_of_ble_eq_true rfl) ?_
  intro p e R s m args below meth c ls Q hRf hRl C hP hK hN hl hQ
  have hx := C.1
  have hb := C.2.1
  have hl : lv_has ls 2 [(0, .ref (a_sc 0 0)), (1, .int x_1)] := hl
  refine lv_iload_n hx hb dX8_minutesOf_0 rfl (lv_at hl 1 rfl) ?_
  refine lv_if_lt (tgt := 27) hx hb dX8_minutesOf_1 (by decide) (fun c1 => ?_) (fun c1 => ?_)
  · have hf := (if_pos c1).symm.trans hf
    refine lv_iconst (v := 0) hx hb dX8_minutesOf_27 (by decide) ?_
    have hf := Option.some.inj hf
    subst hf
    exact hQ _ _ dX8_minutesOf_28
  · have hf := (if_neg c1).symm.trans hf
    refine lv_iload_n hx hb dX8_minutesOf_4 rfl (lv_at hl 1 rfl) ?_
    refine lv_aload_n hx hb dX8_minutesOf_5 rfl (lv_at hl 0 rfl) ?_
    refine gf_X8_X8_acts C hK (hP 0 _ rfl) dX8_minutesOf_6 ?_
    refine gf_X8_X7_size C hK (hP 1 _ rfl) dX8_minutesOf_9 ?_
    refine lv_icmp_ge (tgt := 27) hx hb dX8_minutesOf_12 (by decide) (fun c2 => ?_) (fun c2 => ?_)
    · have hf := (if_pos c2).symm.trans hf
      refine lv_iconst (v := 0) hx hb dX8_minutesOf_27 (by decide) ?_
      have hf := Option.some.inj hf
      subst hf
      exact hQ _ _ dX8_minutesOf_28
    · have hf := (if_neg c2).symm.trans hf
      refine lv_aload_n hx hb dX8_minutesOf_15 rfl (lv_at hl 0 rfl) ?_
      refine gf_X8_X8_acts C hK (hP 0 _ rfl) dX8_minutesOf_16 ?_
      refine gf_X8_X7_second C hK (hP 1 _ rfl) dX8_minutesOf_19 ?_
      refine lv_iload_n hx hb dX8_minutesOf_22 rfl (lv_at hl 1 rfl) ?_
      obtain ⟨hn3, hf⟩ := ox_chk hf
      refine ld_X7_second C hK (hP 1 _ rfl) hn3 rfl dX8_minutesOf_23 ?_
      refine lv_goto (tgt := 28) hx hb dX8_minutesOf_24 (by decide) ?_
      have hf := Option.some.inj hf
      subst hf
      exact hQ _ _ dX8_minutesOf_28
set_option maxHeartbeats 4000000 in
set_option maxRecDepth 20000 in
theorem tX2_raiseShows (l : Launch) (E : Ev) (a_ml : Nat → Nat) (q_ml_0_names : Nat) (u_ml : St) (a_sc : Nat → Nat → Nat) (u_sc : Nat → St) (a_h : Nat → Nat) (u_h : St) (res : St) (hf : fX2_raiseShows u_ml u_sc u_h = some res) : MX l E yX2_raiseShows cX2_raiseShows 4 none (rmm 1 22) [wMill E a_ml q_ml_0_names (a_sc 0 0) u_ml, wScript E (a_sc 0) (a_sc 1 0) (a_sc 2 0) (a_sc 3 0) (a_sc 4 0) (a_sc 5 0) (a_sc 6 0) (a_sc 7 0) (u_sc 0), wRoll E 6 (a_sc 1) (u_sc 1), wRoll E 6 (a_sc 2) (u_sc 2), wRoll E 4 (a_sc 3) (u_sc 3), wRoll E 14 (a_sc 4) (u_sc 4), wFormula E (a_sc 5) (u_sc 5), wFormula E (a_sc 6) (u_sc 6), wFormula E (a_sc 7) (u_sc 7), wHall E a_h u_h] (fun q => [wMill E a_ml q_ml_0_names (a_sc 0 0) u_ml, wScript E (a_sc 0) (a_sc 1 0) (a_sc 2 0) (a_sc 3 0) (a_sc 4 0) (a_sc 5 0) (a_sc 6 0) (a_sc 7 0) (u_sc 0), wRoll E 6 (a_sc 1) (u_sc 1), wRoll E 6 (a_sc 2) (u_sc 2), wRoll E 4 (a_sc 3) (u_sc 3), wRoll E 14 (a_sc 4) (u_sc 4), wFormula E (a_sc 5) (u_sc 5), wFormula E (a_sc 6) (u_sc 6), wFormula E (a_sc 7) (u_sc 7), wHall E a_h res]) [.ref (a_ml 0), .ref (a_h 0)] none := by
  unfold fX2_raiseShows at hf
  refine MX.ofV rfl (by decide) (Nat.le_of_ble_eq_true rfl) ?_
  intro p e R s m args below meth c ls Q ad H hRf hRl C hB hD hK hN hl hQ
  generalize hlocs : ([] : List Loc) = locs at hB ⊢
  clear hlocs
  have hx := C.1
  have hb := C.2.1
  have hl : lv_has ls 4 [(0, .ref (a_ml 0)), (1, .ref (a_h 0))] := hl
  refine lv_iconst (v := 0) hx hb dX2_raiseShows_0 (by decide) ?_
  refine lv_istore_n (lv' := [(2, .int (0 : Int32)), (0, .ref (a_ml 0)), (1, .ref (a_h 0))]) hx hb dX2_raiseShows_1 rfl hl (by decide) rfl (fun ls hl => ?_)
  obtain ⟨X1, hX1, hf⟩ := ox_bind hf
  have hexit1 : ∀ y17, y17 = X1 → ∀ (ls : Array Slot) (H : Heap) (locs : List Loc), lv_has ls 4 [] → WB E ad s.heap [wMill E a_ml q_ml_0_names (a_sc 0 0) u_ml, wScript E (a_sc 0) (a_sc 1 0) (a_sc 2 0) (a_sc 3 0) (a_sc 4 0) (a_sc 5 0) (a_sc 6 0) (a_sc 7 0) (u_sc 0), wRoll E 6 (a_sc 1) (u_sc 1), wRoll E 6 (a_sc 2) (u_sc 2), wRoll E 4 (a_sc 3) (u_sc 3), wRoll E 14 (a_sc 4) (u_sc 4), wFormula E (a_sc 5) (u_sc 5), wFormula E (a_sc 6) (u_sc 6), wFormula E (a_sc 7) (u_sc 7), wHall E a_h y17] H locs → W p l e R s m args below meth c H locs 0 0 Q (F0 m 88 ls []) := by
    intro y17 hy ls H locs hl hB
    subst hy
    have hf := Option.some.inj hf
    subst hf
    exact hQ _ _ H locs (fun _ => 0) hB dX2_raiseShows_88
  have hloop1 : ∀ (nf : Nat) (x1 : Int32) (u2 : St) (ls : Array Slot) (H : Heap) (locs : List Loc), lv_has ls 4 [(0, .ref (a_ml 0)), (1, .ref (a_h 0)), (2, .int x1)] → WB E ad s.heap [wMill E a_ml q_ml_0_names (a_sc 0 0) u_ml, wScript E (a_sc 0) (a_sc 1 0) (a_sc 2 0) (a_sc 3 0) (a_sc 4 0) (a_sc 5 0) (a_sc 6 0) (a_sc 7 0) (u_sc 0), wRoll E 6 (a_sc 1) (u_sc 1), wRoll E 6 (a_sc 2) (u_sc 2), wRoll E 4 (a_sc 3) (u_sc 3), wRoll E 14 (a_sc 4) (u_sc 4), wFormula E (a_sc 5) (u_sc 5), wFormula E (a_sc 6) (u_sc 6), wFormula E (a_sc 7) (u_sc 7), wHall E a_h u2] H locs → fX2_raiseShows_L1 u_sc nf x1 u2 = some X1 → W p l e R s m args below meth c H locs 0 0 Q (F0 m 2 ls []) := by
    intro nf
    induction nf with
    | zero =>
      intro x1 u2 ls H locs hl hB hf
      simp [fX2_raiseShows_L1] at hf
    | succ nf ih =>
      intro x1 u2 ls H locs hl hB hf
      rw [fX2_raiseShows_L1] at hf
      refine lv_iload_n hx hb dX2_raiseShows_2 rfl (lv_at hl 2 rfl) ?_
      refine lv_aload_n hx hb dX2_raiseShows_3 rfl (lv_at hl 0 rfl) ?_
      refine gf_X2_X2_script C hK (hB.1 0 _ rfl) dX2_raiseShows_4 ?_
      refine gf_X2_X8_shows C hK (hB.1 1 _ rfl) dX2_raiseShows_7 ?_
      refine gf_X2_X7_size C hK (hB.1 5 _ rfl) dX2_raiseShows_10 ?_
      refine lv_icmp_ge (tgt := 88) hx hb dX2_raiseShows_13 (by decide) (fun c3 => ?_) (fun c3 => ?_)
      · have hf := (if_pos c3).symm.trans hf
        exact hexit1 _ (Option.some.inj hf) ls H locs (lv_sub hl [] rfl) hB
      · have hf := (if_neg c3).symm.trans hf
        refine lv_aload_n hx hb dX2_raiseShows_16 rfl (lv_at hl 0 rfl) ?_
        refine gf_X2_X2_script C hK (hB.1 0 _ rfl) dX2_raiseShows_17 ?_
        refine gf_X2_X8_shows C hK (hB.1 1 _ rfl) dX2_raiseShows_20 ?_
        refine gf_X2_X7_second C hK (hB.1 5 _ rfl) dX2_raiseShows_23 ?_
        refine lv_iload_n hx hb dX2_raiseShows_26 rfl (lv_at hl 2 rfl) ?_
        obtain ⟨hn4, hf⟩ := ox_chk hf
        refine ld_X7_second C hK (hB.1 5 _ rfl) hn4 rfl dX2_raiseShows_27 ?_
        refine lv_aload_n hx hb dX2_raiseShows_28 rfl (lv_at hl 1 rfl) ?_
        refine gf_X2_X1_minute C hK (hB.1 9 _ rfl) dX2_raiseShows_29 ?_
        obtain ⟨j6, ej6, hf⟩ := ox_ex hf
        have hj6 : ∀ (u5 : St) (ls : Array Slot) (H : Heap) (locs : List Loc), lv_has ls 4 [(0, .ref (a_ml 0)), (1, .ref (a_h 0)), (2, .int x1)] → WB E ad s.heap [wMill E a_ml q_ml_0_names (a_sc 0 0) u_ml, wScript E (a_sc 0) (a_sc 1 0) (a_sc 2 0) (a_sc 3 0) (a_sc 4 0) (a_sc 5 0) (a_sc 6 0) (a_sc 7 0) (u_sc 0), wRoll E 6 (a_sc 1) (u_sc 1), wRoll E 6 (a_sc 2) (u_sc 2), wRoll E 4 (a_sc 3) (u_sc 3), wRoll E 14 (a_sc 4) (u_sc 4), wFormula E (a_sc 5) (u_sc 5), wFormula E (a_sc 6) (u_sc 6), wFormula E (a_sc 7) (u_sc 7), wHall E a_h u5] H locs → j6 u5 = some X1 → W p l e R s m args below meth c H locs 0 0 Q (F0 m 82 ls []) := by
          intro u5 ls H locs hl hB hf
          have hf := ox_a1 ej6 hf
          obtain ⟨x7, ex7⟩ : ∃ z : Int32, z = (x1 + 1) := ⟨_, rfl⟩
          have hf := ox_lt ex7 hf
          refine lv_iinc (v := x7) (lv' := [(2, .int x7), (0, .ref (a_ml 0)), (1, .ref (a_h 0))]) hx hb dX2_raiseShows_82 hl (k := 2) rfl (by rw [ex7]; rfl) (by decide) rfl (fun ls hl => ?_)
          refine lv_goto (tgt := 2) hx hb dX2_raiseShows_85 (by decide) ?_
          exact ih _ _ ls H locs (lv_sub hl [1, 2, 0] rfl) hB hf
        refine lv_icmp_ne (tgt := 82) hx hb dX2_raiseShows_32 (by decide) (fun c8 => ?_) (fun c8 => ?_)
        · have hf := (if_neg c8).symm.trans hf
          exact hj6 _ ls H locs (lv_sub hl [0, 1, 2] rfl) hB hf
        · have hf := (if_pos c8).symm.trans hf
          refine lv_aload_n hx hb dX2_raiseShows_35 rfl (lv_at hl 1 rfl) ?_
          refine gf_X2_X1_on C hK (hB.1 9 _ rfl) dX2_raiseShows_36 ?_
          refine lv_iconst (v := (-1)) hx hb dX2_raiseShows_39 (by decide) ?_
          refine lv_icmp_ne (tgt := 72) hx hb dX2_raiseShows_40 (by decide) (fun c9 => ?_) (fun c9 => ?_)
          · have hf := (if_neg c9).symm.trans hf
            refine lv_aload_n hx hb dX2_raiseShows_72 rfl (lv_at hl 1 rfl) ?_
            refine lv_dup hx hb dX2_raiseShows_73 rfl ?_
            refine gf_X2_X1_refused C hK (hB.1 9 _ rfl) dX2_raiseShows_74 ?_
            refine lv_iconst (v := 1) hx hb dX2_raiseShows_77 (by decide) ?_
            refine lv_iadd hx hb dX2_raiseShows_78 ?_
            refine lv_topi (fun x10 ex10 => ?_)
            have hf := ox_lt ex10 hf
            refine pf_X2_X1_refused C hK hB hD 9 rfl dX2_raiseShows_79 (fun H locs u11 eu11 hB => ?_)
            have hf := ox_lt eu11 hf
            have hB : WB E ad s.heap [wMill E a_ml q_ml_0_names (a_sc 0 0) u_ml, wScript E (a_sc 0) (a_sc 1 0) (a_sc 2 0) (a_sc 3 0) (a_sc 4 0) (a_sc 5 0) (a_sc 6 0) (a_sc 7 0) (u_sc 0), wRoll E 6 (a_sc 1) (u_sc 1), wRoll E 6 (a_sc 2) (u_sc 2), wRoll E 4 (a_sc 3) (u_sc 3), wRoll E 14 (a_sc 4) (u_sc 4), wFormula E (a_sc 5) (u_sc 5), wFormula E (a_sc 6) (u_sc 6), wFormula E (a_sc 7) (u_sc 7), wHall E a_h u11] H locs := hB
            exact hj6 _ ls H locs (lv_sub hl [0, 1, 2] rfl) hB hf
          · have hf := (if_pos c9).symm.trans hf
            refine lv_aload_n hx hb dX2_raiseShows_43 rfl (lv_at hl 0 rfl) ?_
            refine gf_X2_X2_script C hK (hB.1 0 _ rfl) dX2_raiseShows_44 ?_
            refine gf_X2_X8_shows C hK (hB.1 1 _ rfl) dX2_raiseShows_47 ?_
            refine gf_X2_X7_first C hK (hB.1 5 _ rfl) dX2_raiseShows_50 ?_
            refine lv_iload_n hx hb dX2_raiseShows_53 rfl (lv_at hl 2 rfl) ?_
            obtain ⟨hn12, hf⟩ := ox_chk hf
            refine ld_X7_first C hK (hB.1 5 _ rfl) hn12 rfl dX2_raiseShows_54 ?_
            refine lv_topi (fun x13 ex13 => ?_)
            have hf := ox_lt ex13 hf
            refine lv_istore_n (lv' := [(3, .int x13), (0, .ref (a_ml 0)), (1, .ref (a_h 0)), (2, .int x1)]) hx hb dX2_raiseShows_55 rfl hl (by decide) rfl (fun ls hl => ?_)
            refine lv_aload_n hx hb dX2_raiseShows_56 rfl (lv_at hl 2 rfl) ?_
            refine lv_iload_n hx hb dX2_raiseShows_57 rfl (lv_at hl 0 rfl) ?_
            refine lv_aload_n hx hb dX2_raiseShows_58 rfl (lv_at hl 1 rfl) ?_
            refine gf_X2_X2_script C hK (hB.1 0 _ rfl) dX2_raiseShows_59 ?_
            refine lv_iload_n hx hb dX2_raiseShows_62 rfl (lv_at hl 0 rfl) ?_
            obtain ⟨r14, hr14, hf⟩ := ox_bind hf
            refine cxVP (As := [.int x13]) (rest := [.int x13, .ref (a_h 0)]) (st1 := [.int r14, .int x13, .ref (a_h 0)]) C hK (tX8_minutesOf l E a_sc u_sc x13 r14 hr14) lk_X2_100 ⟨rfl, rfl⟩ (by rw [hRf, hRl]; decide) ⟨Nat.zero_le _, Nat.zero_le _⟩ (PB.sub hB.1 [1, 2, 3, 4, 5, 6, 7, 8] rfl) (hB.old hD hN) (Nat.le_trans hN hB.2.2.1) (rc_X8 hK (hB.1 1 _ rfl)) rfl hl.1 rfl rfl (Nat.le_of_ble_eq_true rfl) dX2_raiseShows_63 ?_
            obtain ⟨r15, er15, hf⟩ := ox_ex hf
            refine cxVX (bs1 := (fun q => [wMill E a_ml q_ml_0_names (a_sc 0 0) u_ml, wScript E (a_sc 0) (a_sc 1 0) (a_sc 2 0) (a_sc 3 0) (a_sc 4 0) (a_sc 5 0) (a_sc 6 0) (a_sc 7 0) (u_sc 0), wRoll E 6 (a_sc 1) (u_sc 1), wRoll E 6 (a_sc 2) (u_sc 2), wRoll E 4 (a_sc 3) (u_sc 3), wRoll E 14 (a_sc 4) (u_sc 4), wFormula E (a_sc 5) (u_sc 5), wFormula E (a_sc 6) (u_sc 6), wFormula E (a_sc 7) (u_sc 7), wHall E a_h r15])) (As := [.int x13, .int r14]) (rest := []) (st1 := []) C hK (tX1_putOn l E a_h u2 x13 r14 r15 er15.symm) lk_X2_104 (by rw [hRf, hRl]; decide) ⟨Nat.zero_le _, Nat.zero_le _⟩ hB hD hN [9] (by decide) rfl (fun _ => rfl) (fun _ => rfl) (rc_X1 hK (hB.1 9 _ rfl)) rfl hl.1 rfl rfl (Nat.le_of_ble_eq_true rfl) dX2_raiseShows_66 (fun H locs q16 hB => ?_)
            have hB : WB E ad s.heap [wMill E a_ml q_ml_0_names (a_sc 0 0) u_ml, wScript E (a_sc 0) (a_sc 1 0) (a_sc 2 0) (a_sc 3 0) (a_sc 4 0) (a_sc 5 0) (a_sc 6 0) (a_sc 7 0) (u_sc 0), wRoll E 6 (a_sc 1) (u_sc 1), wRoll E 6 (a_sc 2) (u_sc 2), wRoll E 4 (a_sc 3) (u_sc 3), wRoll E 14 (a_sc 4) (u_sc 4), wFormula E (a_sc 5) (u_sc 5), wFormula E (a_sc 6) (u_sc 6), wFormula E (a_sc 7) (u_sc 7), wHall E a_h r15] H locs := hB
            refine lv_goto (tgt := 82) hx hb dX2_raiseShows_69 (by decide) ?_
            exact hj6 _ ls H locs (lv_sub hl [1, 2, 3] rfl) hB hf
  exact hloop1 fuel _ _ ls H locs (lv_sub hl [1, 2, 0] rfl) hB hX1
set_option maxHeartbeats 4000000 in
set_option maxRecDepth 20000 in
theorem tX2_pass (l : Launch) (E : Ev) (a_ml : Nat → Nat) (u_ml : St) (n_nm : Nat) (a_nm : Nat → Nat) (u_nm : St) (a_sc : Nat → Nat → Nat) (u_sc : Nat → St) (a_h : Nat → Nat) (u_h : St) (x_2 : Int32) (res : St × (Nat → St) × St) (hf : fX2_pass n_nm u_ml u_nm u_sc u_h x_2 = some res) : MX l E yX2_pass cX2_pass 5 none (rmm 5 131) [wMill E a_ml (a_nm 0) (a_sc 0 0) u_ml, wLArr E n_nm a_nm u_nm, wScript E (a_sc 0) (a_sc 1 0) (a_sc 2 0) (a_sc 3 0) (a_sc 4 0) (a_sc 5 0) (a_sc 6 0) (a_sc 7 0) (u_sc 0), wRoll E 6 (a_sc 1) (u_sc 1), wRoll E 6 (a_sc 2) (u_sc 2), wRoll E 4 (a_sc 3) (u_sc 3), wRoll E 14 (a_sc 4) (u_sc 4), wFormula E (a_sc 5) (u_sc 5), wFormula E (a_sc 6) (u_sc 6), wFormula E (a_sc 7) (u_sc 7), wHall E a_h u_h] (fun q => [wMill E a_ml (a_nm 0) (a_sc 0 0) u_ml, wLArr E n_nm a_nm res.1, wScript E (a_sc 0) (a_sc 1 0) (a_sc 2 0) (a_sc 3 0) (a_sc 4 0) (a_sc 5 0) (a_sc 6 0) (a_sc 7 0) (res.2.1 0), wRoll E 6 (a_sc 1) (res.2.1 1), wRoll E 6 (a_sc 2) (res.2.1 2), wRoll E 4 (a_sc 3) (res.2.1 3), wRoll E 14 (a_sc 4) (res.2.1 4), wFormula E (a_sc 5) (res.2.1 5), wFormula E (a_sc 6) (res.2.1 6), wFormula E (a_sc 7) (res.2.1 7), wHall E a_h res.2.2]) [.ref (a_ml 0), .ref (a_h 0), .int x_2] none := by
  unfold fX2_pass at hf
  refine MX.ofV rfl (by decide) (Nat.le_of_ble_eq_true rfl) ?_
  intro p e R s m args below meth c ls Q ad H hRf hRl C hB hD hK hN hl hQ
  generalize hlocs : ([] : List Loc) = locs at hB ⊢
  clear hlocs
  have hx := C.1
  have hb := C.2.1
  have hl : lv_has ls 5 [(0, .ref (a_ml 0)), (1, .ref (a_h 0)), (2, .int x_2)] := hl
  refine lv_iconst (v := 0) hx hb dX2_pass_0 (by decide) ?_
  refine lv_istore_n (lv' := [(3, .int (0 : Int32)), (0, .ref (a_ml 0)), (1, .ref (a_h 0)), (2, .int x_2)]) hx hb dX2_pass_1 rfl hl (by decide) rfl (fun ls hl => ?_)
  obtain ⟨X1, hX1, hf⟩ := ox_bind hf
  have hexit1 : ∀ y37, y37 = X1 → ∀ (ls : Array Slot) (H : Heap) (locs : List Loc), lv_has ls 5 [] → WB E ad s.heap [wMill E a_ml (a_nm 0) (a_sc 0 0) u_ml, wLArr E n_nm a_nm y37.1, wScript E (a_sc 0) (a_sc 1 0) (a_sc 2 0) (a_sc 3 0) (a_sc 4 0) (a_sc 5 0) (a_sc 6 0) (a_sc 7 0) (y37.2.1 0), wRoll E 6 (a_sc 1) (y37.2.1 1), wRoll E 6 (a_sc 2) (y37.2.1 2), wRoll E 4 (a_sc 3) (y37.2.1 3), wRoll E 14 (a_sc 4) (y37.2.1 4), wFormula E (a_sc 5) (y37.2.1 5), wFormula E (a_sc 6) (y37.2.1 6), wFormula E (a_sc 7) (y37.2.1 7), wHall E a_h y37.2.2] H locs → W p l e R s m args below meth c H locs 0 0 Q (F0 m 106 ls []) := by
    intro y37 hy ls H locs hl hB
    subst hy
    have hf := Option.some.inj hf
    subst hf
    exact hQ _ _ H locs (fun _ => 0) hB dX2_pass_106
  have hloop1 : ∀ (nf : Nat) (x1 : Int32) (u2 : St) (u3 : Nat → St) (u4 : St) (ls : Array Slot) (H : Heap) (locs : List Loc), lv_has ls 5 [(0, .ref (a_ml 0)), (1, .ref (a_h 0)), (2, .int x_2), (3, .int x1)] → WB E ad s.heap [wMill E a_ml (a_nm 0) (a_sc 0 0) u_ml, wLArr E n_nm a_nm u2, wScript E (a_sc 0) (a_sc 1 0) (a_sc 2 0) (a_sc 3 0) (a_sc 4 0) (a_sc 5 0) (a_sc 6 0) (a_sc 7 0) (u3 0), wRoll E 6 (a_sc 1) (u3 1), wRoll E 6 (a_sc 2) (u3 2), wRoll E 4 (a_sc 3) (u3 3), wRoll E 14 (a_sc 4) (u3 4), wFormula E (a_sc 5) (u3 5), wFormula E (a_sc 6) (u3 6), wFormula E (a_sc 7) (u3 7), wHall E a_h u4] H locs → fX2_pass_L1 u_ml n_nm x_2 nf x1 u2 u3 u4 = some X1 → W p l e R s m args below meth c H locs 0 0 Q (F0 m 2 ls []) := by
    intro nf
    induction nf with
    | zero =>
      intro x1 u2 u3 u4 ls H locs hl hB hf
      simp [fX2_pass_L1] at hf
    | succ nf ih =>
      intro x1 u2 u3 u4 ls H locs hl hB hf
      rw [fX2_pass_L1] at hf
      refine lv_iload_n hx hb dX2_pass_2 rfl (lv_at hl 3 rfl) ?_
      refine lv_iload_n hx hb dX2_pass_3 rfl (lv_at hl 2 rfl) ?_
      refine lv_icmp_ge (tgt := 106) hx hb dX2_pass_4 (by decide) (fun c5 => ?_) (fun c5 => ?_)
      · have hf := (if_pos c5).symm.trans hf
        exact hexit1 _ (Option.some.inj hf) ls H locs (lv_sub hl [] rfl) hB
      · have hf := (if_neg c5).symm.trans hf
        refine lv_aload_n hx hb dX2_pass_7 rfl (lv_at hl 0 rfl) ?_
        refine gf_X2_X2_withShows C hK (hB.1 0 _ rfl) dX2_pass_8 ?_
        obtain ⟨j7, ej7, hf⟩ := ox_ex hf
        have hj7 : ∀ (u6 : St) (ls : Array Slot) (H : Heap) (locs : List Loc), lv_has ls 5 [(0, .ref (a_ml 0)), (1, .ref (a_h 0)), (2, .int x_2), (3, .int x1)] → WB E ad s.heap [wMill E a_ml (a_nm 0) (a_sc 0 0) u_ml, wLArr E n_nm a_nm u2, wScript E (a_sc 0) (a_sc 1 0) (a_sc 2 0) (a_sc 3 0) (a_sc 4 0) (a_sc 5 0) (a_sc 6 0) (a_sc 7 0) (u3 0), wRoll E 6 (a_sc 1) (u3 1), wRoll E 6 (a_sc 2) (u3 2), wRoll E 4 (a_sc 3) (u3 3), wRoll E 14 (a_sc 4) (u3 4), wFormula E (a_sc 5) (u3 5), wFormula E (a_sc 6) (u3 6), wFormula E (a_sc 7) (u3 7), wHall E a_h u6] H locs → j7 u6 = some X1 → W p l e R s m args below meth c H locs 0 0 Q (F0 m 19 ls []) := by
          intro u6 ls H locs hl hB hf
          have hf := ox_a1 ej7 hf
          refine lv_aload_n hx hb dX2_pass_19 rfl (lv_at hl 0 rfl) ?_
          refine lv_aload_n hx hb dX2_pass_20 rfl (lv_at hl 1 rfl) ?_
          obtain ⟨r8, hr8, hf⟩ := ox_bind hf
          refine cxVX (bs1 := (fun q => [wMill E a_ml (a_nm 0) (a_sc 0 0) u_ml, wLArr E n_nm a_nm r8.2.1, wScript E (a_sc 0) (a_sc 1 0) (a_sc 2 0) (a_sc 3 0) (a_sc 4 0) (a_sc 5 0) (a_sc 6 0) (a_sc 7 0) (r8.2.2.1 0), wRoll E 6 (a_sc 1) (r8.2.2.1 1), wRoll E 6 (a_sc 2) (r8.2.2.1 2), wRoll E 4 (a_sc 3) (r8.2.2.1 3), wRoll E 14 (a_sc 4) (r8.2.2.1 4), wFormula E (a_sc 5) (r8.2.2.1 5), wFormula E (a_sc 6) (r8.2.2.1 6), wFormula E (a_sc 7) (r8.2.2.1 7), wHall E a_h r8.2.2.2])) (As := [.ref (a_h 0)]) (rest := []) (st1 := [.int r8.1]) C hK (tX2_applause l E a_ml u_ml n_nm a_nm u2 a_sc u3 a_h u6 r8 hr8) lk_X2_50 (by rw [hRf, hRl]; decide) ⟨Nat.zero_le _, Nat.zero_le _⟩ hB hD hN [0, 1, 2, 3, 4, 5, 6, 7, 8, 9, 10] (by decide) rfl (fun _ => rfl) (fun _ => rfl) (rc_X2 hK (hB.1 0 _ rfl)) rfl hl.1 rfl rfl (Nat.le_of_ble_eq_true rfl) dX2_pass_21 (fun H locs q9 hB => ?_)
          have hB : WB E ad s.heap [wMill E a_ml (a_nm 0) (a_sc 0 0) u_ml, wLArr E n_nm a_nm r8.2.1, wScript E (a_sc 0) (a_sc 1 0) (a_sc 2 0) (a_sc 3 0) (a_sc 4 0) (a_sc 5 0) (a_sc 6 0) (a_sc 7 0) (r8.2.2.1 0), wRoll E 6 (a_sc 1) (r8.2.2.1 1), wRoll E 6 (a_sc 2) (r8.2.2.1 2), wRoll E 4 (a_sc 3) (r8.2.2.1 3), wRoll E 14 (a_sc 4) (r8.2.2.1 4), wFormula E (a_sc 5) (r8.2.2.1 5), wFormula E (a_sc 6) (r8.2.2.1 6), wFormula E (a_sc 7) (r8.2.2.1 7), wHall E a_h r8.2.2.2] H locs := hB
          refine lv_topi (fun x10 ex10 => ?_)
          have hf := ox_lt ex10 hf
          refine lv_istore (lv' := [(4, .int x10), (0, .ref (a_ml 0)), (1, .ref (a_h 0)), (2, .int x_2), (3, .int x1)]) hx hb dX2_pass_24 hl (by decide) rfl (fun ls hl => ?_)
          refine lv_aload_n hx hb dX2_pass_26 rfl (lv_at hl 2 rfl) ?_
          refine gf_X2_X1_on C hK (hB.1 10 _ rfl) dX2_pass_27 ?_
          refine lv_iconst (v := (-1)) hx hb dX2_pass_30 (by decide) ?_
          obtain ⟨j13, ej13, hf⟩ := ox_ex hf
          have hj13 : ∀ (x11 : Int32) (u12 : St) (ls : Array Slot) (H : Heap) (locs : List Loc), lv_has ls 5 [(0, .ref (a_ml 0)), (1, .ref (a_h 0)), (2, .int x_2), (3, .int x1), (4, .int x11)] → WB E ad s.heap [wMill E a_ml (a_nm 0) (a_sc 0 0) u_ml, wLArr E n_nm a_nm r8.2.1, wScript E (a_sc 0) (a_sc 1 0) (a_sc 2 0) (a_sc 3 0) (a_sc 4 0) (a_sc 5 0) (a_sc 6 0) (a_sc 7 0) (r8.2.2.1 0), wRoll E 6 (a_sc 1) (r8.2.2.1 1), wRoll E 6 (a_sc 2) (r8.2.2.1 2), wRoll E 4 (a_sc 3) (r8.2.2.1 3), wRoll E 14 (a_sc 4) (r8.2.2.1 4), wFormula E (a_sc 5) (r8.2.2.1 5), wFormula E (a_sc 6) (r8.2.2.1 6), wFormula E (a_sc 7) (r8.2.2.1 7), wHall E a_h u12] H locs → j13 x11 u12 = some X1 → W p l e R s m args below meth c H locs 0 0 Q (F0 m 55 ls []) := by
            intro x11 u12 ls H locs hl hB hf
            have hf := ox_a2 ej13 hf
            refine lv_aload_n hx hb dX2_pass_55 rfl (lv_at hl 0 rfl) ?_
            refine lv_aload_n hx hb dX2_pass_56 rfl (lv_at hl 1 rfl) ?_
            refine lv_iload hx hb dX2_pass_57 (lv_at hl 4 rfl) ?_
            obtain ⟨r14, hr14, hf⟩ := ox_bind hf
            refine cxVX (bs1 := (fun q => [wMill E a_ml (a_nm 0) (a_sc 0 0) u_ml, wLArr E n_nm a_nm r14.1, wScript E (a_sc 0) (a_sc 1 0) (a_sc 2 0) (a_sc 3 0) (a_sc 4 0) (a_sc 5 0) (a_sc 6 0) (a_sc 7 0) (r14.2.1 0), wRoll E 6 (a_sc 1) (r14.2.1 1), wRoll E 6 (a_sc 2) (r14.2.1 2), wRoll E 4 (a_sc 3) (r14.2.1 3), wRoll E 14 (a_sc 4) (r14.2.1 4), wFormula E (a_sc 5) (r14.2.1 5), wFormula E (a_sc 6) (r14.2.1 6), wFormula E (a_sc 7) (r14.2.1 7), wHall E a_h r14.2.2])) (As := [.ref (a_h 0), .int x11]) (rest := []) (st1 := []) C hK (tX2_turnStones l E a_ml u_ml n_nm a_nm (r8.2.1) a_sc (r8.2.2.1) a_h u12 x11 r14 hr14) lk_X2_66 (by rw [hRf, hRl]; decide) ⟨Nat.zero_le _, Nat.zero_le _⟩ hB hD hN [0, 1, 2, 3, 4, 5, 6, 7, 8, 9, 10] (by decide) rfl (fun _ => rfl) (fun _ => rfl) (rc_X2 hK (hB.1 0 _ rfl)) rfl hl.1 rfl rfl (Nat.le_of_ble_eq_true rfl) dX2_pass_59 (fun H locs q15 hB => ?_)
            have hB : WB E ad s.heap [wMill E a_ml (a_nm 0) (a_sc 0 0) u_ml, wLArr E n_nm a_nm r14.1, wScript E (a_sc 0) (a_sc 1 0) (a_sc 2 0) (a_sc 3 0) (a_sc 4 0) (a_sc 5 0) (a_sc 6 0) (a_sc 7 0) (r14.2.1 0), wRoll E 6 (a_sc 1) (r14.2.1 1), wRoll E 6 (a_sc 2) (r14.2.1 2), wRoll E 4 (a_sc 3) (r14.2.1 3), wRoll E 14 (a_sc 4) (r14.2.1 4), wFormula E (a_sc 5) (r14.2.1 5), wFormula E (a_sc 6) (r14.2.1 6), wFormula E (a_sc 7) (r14.2.1 7), wHall E a_h r14.2.2] H locs := hB
            refine lv_aload_n hx hb dX2_pass_62 rfl (lv_at hl 0 rfl) ?_
            refine lv_aload_n hx hb dX2_pass_63 rfl (lv_at hl 1 rfl) ?_
            refine lv_iload hx hb dX2_pass_64 (lv_at hl 4 rfl) ?_
            obtain ⟨r16, hr16, hf⟩ := ox_bind hf
            refine cxVX (bs1 := (fun q => [wMill E a_ml (a_nm 0) (a_sc 0 0) u_ml, wLArr E n_nm a_nm r16.1, wScript E (a_sc 0) (a_sc 1 0) (a_sc 2 0) (a_sc 3 0) (a_sc 4 0) (a_sc 5 0) (a_sc 6 0) (a_sc 7 0) (r16.2.1 0), wRoll E 6 (a_sc 1) (r16.2.1 1), wRoll E 6 (a_sc 2) (r16.2.1 2), wRoll E 4 (a_sc 3) (r16.2.1 3), wRoll E 14 (a_sc 4) (r16.2.1 4), wFormula E (a_sc 5) (r16.2.1 5), wFormula E (a_sc 6) (r16.2.1 6), wFormula E (a_sc 7) (r16.2.1 7), wHall E a_h r16.2.2])) (As := [.ref (a_h 0), .int x11]) (rest := []) (st1 := []) C hK (tX2_grind l E a_ml u_ml n_nm a_nm (r14.1) a_sc (r14.2.1) a_h (r14.2.2) x11 r16 hr16) lk_X2_70 (by rw [hRf, hRl]; decide) ⟨Nat.zero_le _, Nat.zero_le _⟩ hB hD hN [0, 1, 2, 3, 4, 5, 6, 7, 8, 9, 10] (by decide) rfl (fun _ => rfl) (fun _ => rfl) (rc_X2 hK (hB.1 0 _ rfl)) rfl hl.1 rfl rfl (Nat.le_of_ble_eq_true rfl) dX2_pass_66 (fun H locs q17 hB => ?_)
            have hB : WB E ad s.heap [wMill E a_ml (a_nm 0) (a_sc 0 0) u_ml, wLArr E n_nm a_nm r16.1, wScript E (a_sc 0) (a_sc 1 0) (a_sc 2 0) (a_sc 3 0) (a_sc 4 0) (a_sc 5 0) (a_sc 6 0) (a_sc 7 0) (r16.2.1 0), wRoll E 6 (a_sc 1) (r16.2.1 1), wRoll E 6 (a_sc 2) (r16.2.1 2), wRoll E 4 (a_sc 3) (r16.2.1 3), wRoll E 14 (a_sc 4) (r16.2.1 4), wFormula E (a_sc 5) (r16.2.1 5), wFormula E (a_sc 6) (r16.2.1 6), wFormula E (a_sc 7) (r16.2.1 7), wHall E a_h r16.2.2] H locs := hB
            refine lv_aload_n hx hb dX2_pass_69 rfl (lv_at hl 1 rfl) ?_
            refine lv_dup hx hb dX2_pass_70 rfl ?_
            refine gf_X2_X1_left C hK (hB.1 10 _ rfl) dX2_pass_71 ?_
            refine lv_iconst (v := 1) hx hb dX2_pass_74 (by decide) ?_
            refine lv_isub hx hb dX2_pass_75 ?_
            refine lv_topi (fun x18 ex18 => ?_)
            have hf := ox_lt ex18 hf
            refine pf_X2_X1_left C hK hB hD 10 rfl dX2_pass_76 (fun H locs u19 eu19 hB => ?_)
            have hf := ox_lt eu19 hf
            have hB : WB E ad s.heap [wMill E a_ml (a_nm 0) (a_sc 0 0) u_ml, wLArr E n_nm a_nm r16.1, wScript E (a_sc 0) (a_sc 1 0) (a_sc 2 0) (a_sc 3 0) (a_sc 4 0) (a_sc 5 0) (a_sc 6 0) (a_sc 7 0) (r16.2.1 0), wRoll E 6 (a_sc 1) (r16.2.1 1), wRoll E 6 (a_sc 2) (r16.2.1 2), wRoll E 4 (a_sc 3) (r16.2.1 3), wRoll E 14 (a_sc 4) (r16.2.1 4), wFormula E (a_sc 5) (r16.2.1 5), wFormula E (a_sc 6) (r16.2.1 6), wFormula E (a_sc 7) (r16.2.1 7), wHall E a_h u19] H locs := hB
            refine lv_aload_n hx hb dX2_pass_79 rfl (lv_at hl 1 rfl) ?_
            refine gf_X2_X1_left C hK (hB.1 10 _ rfl) dX2_pass_80 ?_
            obtain ⟨j21, ej21, hf⟩ := ox_ex hf
            have hj21 : ∀ (u20 : St) (ls : Array Slot) (H : Heap) (locs : List Loc), lv_has ls 5 [(0, .ref (a_ml 0)), (1, .ref (a_h 0)), (2, .int x_2), (3, .int x1)] → WB E ad s.heap [wMill E a_ml (a_nm 0) (a_sc 0 0) u_ml, wLArr E n_nm a_nm r16.1, wScript E (a_sc 0) (a_sc 1 0) (a_sc 2 0) (a_sc 3 0) (a_sc 4 0) (a_sc 5 0) (a_sc 6 0) (a_sc 7 0) (r16.2.1 0), wRoll E 6 (a_sc 1) (r16.2.1 1), wRoll E 6 (a_sc 2) (r16.2.1 2), wRoll E 4 (a_sc 3) (r16.2.1 3), wRoll E 14 (a_sc 4) (r16.2.1 4), wFormula E (a_sc 5) (r16.2.1 5), wFormula E (a_sc 6) (r16.2.1 6), wFormula E (a_sc 7) (r16.2.1 7), wHall E a_h u20] H locs → j21 u20 = some X1 → W p l e R s m args below meth c H locs 0 0 Q (F0 m 90 ls []) := by
              intro u20 ls H locs hl hB hf
              have hf := ox_a1 ej21 hf
              refine lv_aload_n hx hb dX2_pass_90 rfl (lv_at hl 1 rfl) ?_
              refine lv_dup hx hb dX2_pass_91 rfl ?_
              refine gf_X2_X1_minute C hK (hB.1 10 _ rfl) dX2_pass_92 ?_
              refine lv_iconst (v := 1) hx hb dX2_pass_95 (by decide) ?_
              refine lv_iadd hx hb dX2_pass_96 ?_
              refine lv_topi (fun x22 ex22 => ?_)
              have hf := ox_lt ex22 hf
              refine pf_X2_X1_minute C hK hB hD 10 rfl dX2_pass_97 (fun H locs u23 eu23 hB => ?_)
              have hf := ox_lt eu23 hf
              have hB : WB E ad s.heap [wMill E a_ml (a_nm 0) (a_sc 0 0) u_ml, wLArr E n_nm a_nm r16.1, wScript E (a_sc 0) (a_sc 1 0) (a_sc 2 0) (a_sc 3 0) (a_sc 4 0) (a_sc 5 0) (a_sc 6 0) (a_sc 7 0) (r16.2.1 0), wRoll E 6 (a_sc 1) (r16.2.1 1), wRoll E 6 (a_sc 2) (r16.2.1 2), wRoll E 4 (a_sc 3) (r16.2.1 3), wRoll E 14 (a_sc 4) (r16.2.1 4), wFormula E (a_sc 5) (r16.2.1 5), wFormula E (a_sc 6) (r16.2.1 6), wFormula E (a_sc 7) (r16.2.1 7), wHall E a_h u23] H locs := hB
              obtain ⟨x24, ex24⟩ : ∃ z : Int32, z = (x1 + 1) := ⟨_, rfl⟩
              have hf := ox_lt ex24 hf
              refine lv_iinc (v := x24) (lv' := [(3, .int x24), (0, .ref (a_ml 0)), (1, .ref (a_h 0)), (2, .int x_2)]) hx hb dX2_pass_100 hl (k := 3) rfl (by rw [ex24]; rfl) (by decide) rfl (fun ls hl => ?_)
              refine lv_goto (tgt := 2) hx hb dX2_pass_103 (by decide) ?_
              exact ih _ _ _ _ ls H locs (lv_sub hl [1, 2, 3, 0] rfl) hB hf
            refine lv_if_gt (tgt := 90) hx hb dX2_pass_83 (by decide) (fun c25 => ?_) (fun c25 => ?_)
            · have hf := (if_pos c25).symm.trans hf
              exact hj21 _ ls H locs (lv_sub hl [0, 1, 2, 3] rfl) hB hf
            · have hf := (if_neg c25).symm.trans hf
              refine lv_aload_n hx hb dX2_pass_86 rfl (lv_at hl 1 rfl) ?_
              obtain ⟨r26, er26, hf⟩ := ox_ex hf
              refine cxVX (bs1 := (fun q => [wMill E a_ml (a_nm 0) (a_sc 0 0) u_ml, wLArr E n_nm a_nm r16.1, wScript E (a_sc 0) (a_sc 1 0) (a_sc 2 0) (a_sc 3 0) (a_sc 4 0) (a_sc 5 0) (a_sc 6 0) (a_sc 7 0) (r16.2.1 0), wRoll E 6 (a_sc 1) (r16.2.1 1), wRoll E 6 (a_sc 2) (r16.2.1 2), wRoll E 4 (a_sc 3) (r16.2.1 3), wRoll E 14 (a_sc 4) (r16.2.1 4), wFormula E (a_sc 5) (r16.2.1 5), wFormula E (a_sc 6) (r16.2.1 6), wFormula E (a_sc 7) (r16.2.1 7), wHall E a_h r26])) (As := []) (rest := []) (st1 := []) C hK (tX1_putOff l E a_h u19 r26 er26.symm) lk_X2_76 (by rw [hRf, hRl]; decide) ⟨Nat.zero_le _, Nat.zero_le _⟩ hB hD hN [10] (by decide) rfl (fun _ => rfl) (fun _ => rfl) (rc_X1 hK (hB.1 10 _ rfl)) rfl hl.1 rfl rfl (Nat.le_of_ble_eq_true rfl) dX2_pass_87 (fun H locs q27 hB => ?_)
              have hB : WB E ad s.heap [wMill E a_ml (a_nm 0) (a_sc 0 0) u_ml, wLArr E n_nm a_nm r16.1, wScript E (a_sc 0) (a_sc 1 0) (a_sc 2 0) (a_sc 3 0) (a_sc 4 0) (a_sc 5 0) (a_sc 6 0) (a_sc 7 0) (r16.2.1 0), wRoll E 6 (a_sc 1) (r16.2.1 1), wRoll E 6 (a_sc 2) (r16.2.1 2), wRoll E 4 (a_sc 3) (r16.2.1 3), wRoll E 14 (a_sc 4) (r16.2.1 4), wFormula E (a_sc 5) (r16.2.1 5), wFormula E (a_sc 6) (r16.2.1 6), wFormula E (a_sc 7) (r16.2.1 7), wHall E a_h r26] H locs := hB
              exact hj21 _ ls H locs (lv_sub hl [0, 1, 2, 3] rfl) hB hf
          refine lv_icmp_eq (tgt := 55) hx hb dX2_pass_31 (by decide) (fun c28 => ?_) (fun c28 => ?_)
          · have hf := (if_pos c28).symm.trans hf
            exact hj13 _ _ ls H locs (lv_sub hl [1, 2, 3, 4, 0] rfl) hB hf
          · have hf := (if_neg c28).symm.trans hf
            refine lv_aload_n hx hb dX2_pass_34 rfl (lv_at hl 1 rfl) ?_
            refine lv_aload_n hx hb dX2_pass_35 rfl (lv_at hl 2 rfl) ?_
            obtain ⟨r29, er29, hf⟩ := ox_ex hf
            refine cxVX (bs1 := (fun q => [wMill E a_ml (a_nm 0) (a_sc 0 0) u_ml, wLArr E n_nm a_nm r8.2.1, wScript E (a_sc 0) (a_sc 1 0) (a_sc 2 0) (a_sc 3 0) (a_sc 4 0) (a_sc 5 0) (a_sc 6 0) (a_sc 7 0) (r8.2.2.1 0), wRoll E 6 (a_sc 1) (r8.2.2.1 1), wRoll E 6 (a_sc 2) (r8.2.2.1 2), wRoll E 4 (a_sc 3) (r8.2.2.1 3), wRoll E 14 (a_sc 4) (r8.2.2.1 4), wFormula E (a_sc 5) (r8.2.2.1 5), wFormula E (a_sc 6) (r8.2.2.1 6), wFormula E (a_sc 7) (r8.2.2.1 7), wHall E a_h r29.2])) (As := [.ref (a_h 0)]) (rest := []) (st1 := [.int r29.1]) C hK (tX2_isCoughed l E a_ml (a_nm 0) u_ml a_sc (r8.2.2.1) a_h (r8.2.2.2) r29 er29.symm) lk_X2_59 (by rw [hRf, hRl]; decide) ⟨Nat.zero_le _, Nat.zero_le _⟩ hB hD hN [0, 2, 3, 4, 5, 6, 7, 8, 9, 10] (by decide) rfl (fun _ => rfl) (fun _ => rfl) (rc_X2 hK (hB.1 0 _ rfl)) rfl hl.1 rfl rfl (Nat.le_of_ble_eq_true rfl) dX2_pass_36 (fun H locs q30 hB => ?_)
            have hB : WB E ad s.heap [wMill E a_ml (a_nm 0) (a_sc 0 0) u_ml, wLArr E n_nm a_nm r8.2.1, wScript E (a_sc 0) (a_sc 1 0) (a_sc 2 0) (a_sc 3 0) (a_sc 4 0) (a_sc 5 0) (a_sc 6 0) (a_sc 7 0) (r8.2.2.1 0), wRoll E 6 (a_sc 1) (r8.2.2.1 1), wRoll E 6 (a_sc 2) (r8.2.2.1 2), wRoll E 4 (a_sc 3) (r8.2.2.1 3), wRoll E 14 (a_sc 4) (r8.2.2.1 4), wFormula E (a_sc 5) (r8.2.2.1 5), wFormula E (a_sc 6) (r8.2.2.1 6), wFormula E (a_sc 7) (r8.2.2.1 7), wHall E a_h r29.2] H locs := hB
            refine lv_if_eq (tgt := 55) hx hb dX2_pass_39 (by decide) (fun c31 => ?_) (fun c31 => ?_)
            · have hf := (if_pos c31).symm.trans hf
              exact hj13 _ _ ls H locs (lv_sub hl [1, 2, 3, 4, 0] rfl) hB hf
            · have hf := (if_neg c31).symm.trans hf
              refine lv_aload_n hx hb dX2_pass_42 rfl (lv_at hl 2 rfl) ?_
              refine lv_dup hx hb dX2_pass_43 rfl ?_
              refine gf_X2_X1_coughed C hK (hB.1 10 _ rfl) dX2_pass_44 ?_
              refine lv_iconst (v := 1) hx hb dX2_pass_47 (by decide) ?_
              refine lv_iadd hx hb dX2_pass_48 ?_
              refine lv_topi (fun x32 ex32 => ?_)
              have hf := ox_lt ex32 hf
              refine pf_X2_X1_coughed C hK hB hD 10 rfl dX2_pass_49 (fun H locs u33 eu33 hB => ?_)
              have hf := ox_lt eu33 hf
              have hB : WB E ad s.heap [wMill E a_ml (a_nm 0) (a_sc 0 0) u_ml, wLArr E n_nm a_nm r8.2.1, wScript E (a_sc 0) (a_sc 1 0) (a_sc 2 0) (a_sc 3 0) (a_sc 4 0) (a_sc 5 0) (a_sc 6 0) (a_sc 7 0) (r8.2.2.1 0), wRoll E 6 (a_sc 1) (r8.2.2.1 1), wRoll E 6 (a_sc 2) (r8.2.2.1 2), wRoll E 4 (a_sc 3) (r8.2.2.1 3), wRoll E 14 (a_sc 4) (r8.2.2.1 4), wFormula E (a_sc 5) (r8.2.2.1 5), wFormula E (a_sc 6) (r8.2.2.1 6), wFormula E (a_sc 7) (r8.2.2.1 7), wHall E a_h u33] H locs := hB
              refine lv_iconst (v := 0) hx hb dX2_pass_52 (by decide) ?_
              refine lv_istore (lv' := [(4, .int (0 : Int32)), (0, .ref (a_ml 0)), (1, .ref (a_h 0)), (2, .int x_2), (3, .int x1)]) hx hb dX2_pass_53 hl (by decide) rfl (fun ls hl => ?_)
              exact hj13 _ _ ls H locs (lv_sub hl [1, 2, 3, 4, 0] rfl) hB hf
        refine lv_if_eq (tgt := 19) hx hb dX2_pass_11 (by decide) (fun c34 => ?_) (fun c34 => ?_)
        · have hf := (if_pos c34).symm.trans hf
          exact hj7 _ ls H locs (lv_sub hl [0, 1, 2, 3] rfl) hB hf
        · have hf := (if_neg c34).symm.trans hf
          refine lv_aload_n hx hb dX2_pass_14 rfl (lv_at hl 0 rfl) ?_
          refine lv_aload_n hx hb dX2_pass_15 rfl (lv_at hl 1 rfl) ?_
          obtain ⟨r35, hr35, hf⟩ := ox_bind hf
          refine cxVX (bs1 := (fun q => [wMill E a_ml (a_nm 0) (a_sc 0 0) u_ml, wLArr E n_nm a_nm u2, wScript E (a_sc 0) (a_sc 1 0) (a_sc 2 0) (a_sc 3 0) (a_sc 4 0) (a_sc 5 0) (a_sc 6 0) (a_sc 7 0) (u3 0), wRoll E 6 (a_sc 1) (u3 1), wRoll E 6 (a_sc 2) (u3 2), wRoll E 4 (a_sc 3) (u3 3), wRoll E 14 (a_sc 4) (u3 4), wFormula E (a_sc 5) (u3 5), wFormula E (a_sc 6) (u3 6), wFormula E (a_sc 7) (u3 7), wHall E a_h r35])) (As := [.ref (a_h 0)]) (rest := []) (st1 := []) C hK (tX2_raiseShows l E a_ml (a_nm 0) u_ml a_sc u3 a_h u4 r35 hr35) lk_X2_46 (by rw [hRf, hRl]; decide) ⟨Nat.zero_le _, Nat.zero_le _⟩ hB hD hN [0, 2, 3, 4, 5, 6, 7, 8, 9, 10] (by decide) rfl (fun _ => rfl) (fun _ => rfl) (rc_X2 hK (hB.1 0 _ rfl)) rfl hl.1 rfl rfl (Nat.le_of_ble_eq_true rfl) dX2_pass_16 (fun H locs q36 hB => ?_)
          have hB : WB E ad s.heap [wMill E a_ml (a_nm 0) (a_sc 0 0) u_ml, wLArr E n_nm a_nm u2, wScript E (a_sc 0) (a_sc 1 0) (a_sc 2 0) (a_sc 3 0) (a_sc 4 0) (a_sc 5 0) (a_sc 6 0) (a_sc 7 0) (u3 0), wRoll E 6 (a_sc 1) (u3 1), wRoll E 6 (a_sc 2) (u3 2), wRoll E 4 (a_sc 3) (u3 3), wRoll E 14 (a_sc 4) (u3 4), wFormula E (a_sc 5) (u3 5), wFormula E (a_sc 6) (u3 6), wFormula E (a_sc 7) (u3 7), wHall E a_h r35] H locs := hB
          exact hj7 _ ls H locs (lv_sub hl [0, 1, 2, 3] rfl) hB hf
  exact hloop1 fuel _ _ _ _ ls H locs (lv_sub hl [1, 2, 3, 0] rfl) hB hX1
set_option maxHeartbeats 4000000 in
set_option maxRecDepth 20000 in
theorem tX2_clapLaw (l : Launch) (E : Ev) (a_ml : Nat → Nat) (u_ml : St) (n_nm : Nat) (a_nm : Nat → Nat) (u_nm : St) (a_sc : Nat → Nat → Nat) (u_sc : Nat → St) (a_h : Nat → Nat) (u_h : St) (x_2 : Int32) (x_3 : Int32) (x_4 : Int32) (res : Int64 × St × (Nat → St)) (hf : fX2_clapLaw n_nm u_ml u_nm u_sc u_h x_2 x_3 x_4 = some res) : MX l E yX2_clapLaw cX2_clapLaw 5 (some .long) (rmm 3 78) [wMill E a_ml (a_nm 0) (a_sc 0 0) u_ml, wLArr E n_nm a_nm u_nm, wScript E (a_sc 0) (a_sc 1 0) (a_sc 2 0) (a_sc 3 0) (a_sc 4 0) (a_sc 5 0) (a_sc 6 0) (a_sc 7 0) (u_sc 0), wRoll E 6 (a_sc 1) (u_sc 1), wRoll E 6 (a_sc 2) (u_sc 2), wRoll E 4 (a_sc 3) (u_sc 3), wRoll E 14 (a_sc 4) (u_sc 4), wFormula E (a_sc 5) (u_sc 5), wFormula E (a_sc 6) (u_sc 6), wFormula E (a_sc 7) (u_sc 7), wHall E a_h u_h] (fun q => [wMill E a_ml (a_nm 0) (a_sc 0 0) u_ml, wLArr E n_nm a_nm res.2.1, wScript E (a_sc 0) (a_sc 1 0) (a_sc 2 0) (a_sc 3 0) (a_sc 4 0) (a_sc 5 0) (a_sc 6 0) (a_sc 7 0) (res.2.2 0), wRoll E 6 (a_sc 1) (res.2.2 1), wRoll E 6 (a_sc 2) (res.2.2 2), wRoll E 4 (a_sc 3) (res.2.2 3), wRoll E 14 (a_sc 4) (res.2.2 4), wFormula E (a_sc 5) (res.2.2 5), wFormula E (a_sc 6) (res.2.2 6), wFormula E (a_sc 7) (res.2.2 7), wHall E a_h u_h]) [.ref (a_ml 0), .ref (a_h 0), .int x_2, .int x_3, .int x_4] (some (.long res.1)) := by
  unfold fX2_clapLaw at hf
  refine MX.ofL rfl (by decide) (Nat.le_of_ble_eq_true rfl) ?_
  intro p e R s m args below meth c ls Q ad H hRf hRl C hB hD hK hN hl hQ
  generalize hlocs : ([] : List Loc) = locs at hB ⊢
  clear hlocs
  have hx := C.1
  have hb := C.2.1
  have hl : lv_has ls 5 [(0, .ref (a_ml 0)), (1, .ref (a_h 0)), (2, .int x_2), (3, .int x_3), (4, .int x_4)] := hl
  refine lv_aload_n hx hb dX2_clapLaw_0 rfl (lv_at hl 0 rfl) ?_
  refine gf_X2_X2_script C hK (hB.1 0 _ rfl) dX2_clapLaw_1 ?_
  refine gf_X2_X8_laws C hK (hB.1 2 _ rfl) dX2_clapLaw_4 ?_
  refine lv_iconst (v := 0) hx hb dX2_clapLaw_7 (by decide) ?_
  refine bx_aaldK C hK (hB.1 2 _ rfl) 1 rfl (k := 0) rfl dX2_clapLaw_8 (q := (a_sc 5 0)) rfl (by decide) ?_
  refine gf_X2_X0_isTold C hK (hB.1 7 _ rfl) dX2_clapLaw_9 ?_
  refine lv_if_ne (tgt := 19) hx hb dX2_clapLaw_12 (by decide) (fun c1 => ?_) (fun c1 => ?_)
  · have hf := (if_neg c1).symm.trans hf
    refine lv_aload_n hx hb dX2_clapLaw_19 rfl (lv_at hl 0 rfl) ?_
    refine lv_aload_n hx hb dX2_clapLaw_20 rfl (lv_at hl 1 rfl) ?_
    refine lv_iload_n hx hb dX2_clapLaw_21 rfl (lv_at hl 2 rfl) ?_
    refine lv_iload_n hx hb dX2_clapLaw_22 rfl (lv_at hl 3 rfl) ?_
    refine lv_iload hx hb dX2_clapLaw_23 (lv_at hl 4 rfl) ?_
    obtain ⟨r2, hr2, hf⟩ := ox_bind hf
    refine cxVX (bs1 := (fun q => [wMill E a_ml (a_nm 0) (a_sc 0 0) u_ml, wLArr E n_nm a_nm r2, wScript E (a_sc 0) (a_sc 1 0) (a_sc 2 0) (a_sc 3 0) (a_sc 4 0) (a_sc 5 0) (a_sc 6 0) (a_sc 7 0) (u_sc 0), wRoll E 6 (a_sc 1) (u_sc 1), wRoll E 6 (a_sc 2) (u_sc 2), wRoll E 4 (a_sc 3) (u_sc 3), wRoll E 14 (a_sc 4) (u_sc 4), wFormula E (a_sc 5) (u_sc 5), wFormula E (a_sc 6) (u_sc 6), wFormula E (a_sc 7) (u_sc 7), wHall E a_h u_h])) (As := [.ref (a_h 0), .int x_2, .int x_3, .int x_4]) (rest := []) (st1 := []) C hK (tX2_nameGuest l E a_ml u_ml n_nm a_nm u_nm a_sc u_sc a_h u_h x_2 x_3 x_4 r2 hr2) lk_X2_150 (by rw [hRf, hRl]; decide) ⟨Nat.zero_le _, Nat.zero_le _⟩ hB hD hN [0, 1, 2, 3, 4, 5, 6, 7, 8, 9, 10] (by decide) rfl (fun _ => rfl) (fun _ => rfl) (rc_X2 hK (hB.1 0 _ rfl)) rfl hl.1 rfl rfl (Nat.le_of_ble_eq_true rfl) dX2_clapLaw_25 (fun H locs q3 hB => ?_)
    have hB : WB E ad s.heap [wMill E a_ml (a_nm 0) (a_sc 0 0) u_ml, wLArr E n_nm a_nm r2, wScript E (a_sc 0) (a_sc 1 0) (a_sc 2 0) (a_sc 3 0) (a_sc 4 0) (a_sc 5 0) (a_sc 6 0) (a_sc 7 0) (u_sc 0), wRoll E 6 (a_sc 1) (u_sc 1), wRoll E 6 (a_sc 2) (u_sc 2), wRoll E 4 (a_sc 3) (u_sc 3), wRoll E 14 (a_sc 4) (u_sc 4), wFormula E (a_sc 5) (u_sc 5), wFormula E (a_sc 6) (u_sc 6), wFormula E (a_sc 7) (u_sc 7), wHall E a_h u_h] H locs := hB
    refine lv_aload_n hx hb dX2_clapLaw_28 rfl (lv_at hl 0 rfl) ?_
    refine gf_X2_X2_script C hK (hB.1 0 _ rfl) dX2_clapLaw_29 ?_
    refine gf_X2_X8_laws C hK (hB.1 2 _ rfl) dX2_clapLaw_32 ?_
    refine lv_iconst (v := 0) hx hb dX2_clapLaw_35 (by decide) ?_
    refine bx_aaldK C hK (hB.1 2 _ rfl) 1 rfl (k := 0) rfl dX2_clapLaw_36 (q := (a_sc 5 0)) rfl (by decide) ?_
    refine lv_aload_n hx hb dX2_clapLaw_37 rfl (lv_at hl 0 rfl) ?_
    refine gf_X2_X2_names C hK (hB.1 0 _ rfl) dX2_clapLaw_38 ?_
    obtain ⟨r4, hr4, hf⟩ := ox_bind hf
    refine cxVX (bs1 := (fun q => [wMill E a_ml (a_nm 0) (a_sc 0 0) u_ml, wLArr E n_nm a_nm r2, wScript E (a_sc 0) (a_sc 1 0) (a_sc 2 0) (a_sc 3 0) (a_sc 4 0) (a_sc 5 0) (a_sc 6 0) (a_sc 7 0) (u_sc 0), wRoll E 6 (a_sc 1) (u_sc 1), wRoll E 6 (a_sc 2) (u_sc 2), wRoll E 4 (a_sc 3) (u_sc 3), wRoll E 14 (a_sc 4) (u_sc 4), wFormula E (a_sc 5) r4.2, wFormula E (a_sc 6) (u_sc 6), wFormula E (a_sc 7) (u_sc 7), wHall E a_h u_h])) (As := [.ref (a_nm 0)]) (rest := []) (st1 := [.long r4.1]) C hK (tX0_value l E (a_sc 5) (u_sc 5) n_nm a_nm r2 r4 hr4) lk_X2_154 (by rw [hRf, hRl]; decide) ⟨Nat.zero_le _, Nat.zero_le _⟩ hB hD hN [7, 1] (by decide) rfl (fun _ => rfl) (fun _ => rfl) (rc_X0 hK (hB.1 7 _ rfl)) rfl hl.1 rfl rfl (Nat.le_of_ble_eq_true rfl) dX2_clapLaw_41 (fun H locs q5 hB => ?_)
    have hB : WB E ad s.heap [wMill E a_ml (a_nm 0) (a_sc 0 0) u_ml, wLArr E n_nm a_nm r2, wScript E (a_sc 0) (a_sc 1 0) (a_sc 2 0) (a_sc 3 0) (a_sc 4 0) (a_sc 5 0) (a_sc 6 0) (a_sc 7 0) (u_sc 0), wRoll E 6 (a_sc 1) (u_sc 1), wRoll E 6 (a_sc 2) (u_sc 2), wRoll E 4 (a_sc 3) (u_sc 3), wRoll E 14 (a_sc 4) (u_sc 4), wFormula E (a_sc 5) r4.2, wFormula E (a_sc 6) (u_sc 6), wFormula E (a_sc 7) (u_sc 7), wHall E a_h u_h] H locs := hB
    have hf := Option.some.inj hf
    subst hf
    exact hQ _ _ H locs (fun _ => 0) hB dX2_clapLaw_44
  · have hf := (if_pos c1).symm.trans hf
    refine lv_ldc2 (v := -9223372036854775808) hx hb C.2.2.2.1 (C.2.2.2.2 _ mw_770) dX2_clapLaw_15 ?_
    have hf := Option.some.inj hf
    subst hf
    exact hQ _ _ H locs (fun _ => 0) hB dX2_clapLaw_18
