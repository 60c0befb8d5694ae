set_option maxHeartbeats 4000000 in
set_option maxRecDepth 20000 in
theorem tX6_readCough (l : Launch) (E : Ev) (a_rd : Nat → Nat) (q_rd_0_phrase : Nat) (u_rd : St) (a_tk : Nat → Nat) (u_tk : St) (n_tp : Nat) (a_tp : Nat → Nat) (u_tp : St) (a_sc : Nat → Nat → Nat) (u_sc : Nat → St) (res : St × St × (Nat → St)) (hf : fX6_readCough n_tp u_rd u_tk u_tp u_sc = some res) : MX l E yX6_readCough cX6_readCough 1 none (rmm 4 94) [wReader E a_rd (a_tk 0) q_rd_0_phrase (a_sc 0 0) u_rd, wTokens E a_tk (a_tp 0) u_tk, wBArr E n_tp a_tp u_tp, wScript E (a_sc 0) (a_sc 1 0) (a_sc 2 0) (a_sc 3 0) (a_sc 4 0) (a_sc 5 0) (a_sc 6 0) (a_sc 7 0) (u_sc 0), wRoll E 6 (a_sc 1) (u_sc 1), wRoll E 6 (a_sc 2) (u_sc 2), wRoll E 4 (a_sc 3) (u_sc 3), wRoll E 14 (a_sc 4) (u_sc 4), wFormula E (a_sc 5) (u_sc 5), wFormula E (a_sc 6) (u_sc 6), wFormula E (a_sc 7) (u_sc 7)] (fun q => [wReader E a_rd (a_tk 0) q_rd_0_phrase (a_sc 0 0) res.1, wTokens E a_tk (a_tp 0) res.2.1, wBArr E n_tp a_tp u_tp, wScript E (a_sc 0) (a_sc 1 0) (a_sc 2 0) (a_sc 3 0) (a_sc 4 0) (a_sc 5 0) (a_sc 6 0) (a_sc 7 0) (res.2.2 0), wRoll E 6 (a_sc 1) (res.2.2 1), wRoll E 6 (a_sc 2) (res.2.2 2), wRoll E 4 (a_sc 3) (res.2.2 3), wRoll E 14 (a_sc 4) (res.2.2 4), wFormula E (a_sc 5) (res.2.2 5), wFormula E (a_sc 6) (res.2.2 6), wFormula E (a_sc 7) (res.2.2 7)]) [.ref (a_rd 0)] none := by
  unfold fX6_readCough at hf
  refine MX.ofV rfl (by decide) (Nat.le_of_ble_eq_true rfl) ?_
  intro p e R s m args below meth c ls Q ad H hRf hRl C hB hD hK hN hl hQ
  generalize hlocs : ([] : List Loc) = locs at hB ⊢
  clear hlocs
  have hx := C.1
  have hb := C.2.1
  have hl : lv_has ls 1 [(0, .ref (a_rd 0))] := hl
  refine lv_aload_n hx hb dX6_readCough_0 rfl (lv_at hl 0 rfl) ?_
  refine gf_X6_X6_script C hK (hB.1 0 _ rfl) dX6_readCough_1 ?_
  refine gf_X6_X8_isCoughTold C hK (hB.1 3 _ rfl) dX6_readCough_4 ?_
  refine lv_if_eq (tgt := 16) hx hb dX6_readCough_7 (by decide) (fun c1 => ?_) (fun c1 => ?_)
  · have hf := (if_pos c1).symm.trans hf
    refine lv_aload_n hx hb dX6_readCough_16 rfl (lv_at hl 0 rfl) ?_
    refine gf_X6_X6_tokens C hK (hB.1 0 _ rfl) dX6_readCough_17 ?_
    obtain ⟨r2, hr2, hf⟩ := ox_bind hf
    refine cxVX (bs1 := (fun q => [wReader E a_rd (a_tk 0) q_rd_0_phrase (a_sc 0 0) u_rd, wTokens E a_tk (a_tp 0) r2, wBArr E n_tp a_tp u_tp, wScript E (a_sc 0) (a_sc 1 0) (a_sc 2 0) (a_sc 3 0) (a_sc 4 0) (a_sc 5 0) (a_sc 6 0) (a_sc 7 0) (u_sc 0), wRoll E 6 (a_sc 1) (u_sc 1), wRoll E 6 (a_sc 2) (u_sc 2), wRoll E 4 (a_sc 3) (u_sc 3), wRoll E 14 (a_sc 4) (u_sc 4), wFormula E (a_sc 5) (u_sc 5), wFormula E (a_sc 6) (u_sc 6), wFormula E (a_sc 7) (u_sc 7)])) (As := []) (rest := []) (st1 := []) C hK (tX10_next l E a_tk u_tk n_tp a_tp u_tp r2 hr2) lk_X6_64 (by rw [hRf, hRl]; decide) ⟨Nat.zero_le _, Nat.zero_le _⟩ hB hD hN [1, 2] (by decide) rfl (fun _ => rfl) (fun _ => rfl) (rc_X10 hK (hB.1 1 _ rfl)) rfl hl.1 rfl rfl (Nat.le_of_ble_eq_true rfl) dX6_readCough_20 (fun H locs q3 hB => ?_)
    have hB : WB E ad s.heap [wReader E a_rd (a_tk 0) q_rd_0_phrase (a_sc 0 0) u_rd, wTokens E a_tk (a_tp 0) r2, wBArr E n_tp a_tp u_tp, wScript E (a_sc 0) (a_sc 1 0) (a_sc 2 0) (a_sc 3 0) (a_sc 4 0) (a_sc 5 0) (a_sc 6 0) (a_sc 7 0) (u_sc 0), wRoll E 6 (a_sc 1) (u_sc 1), wRoll E 6 (a_sc 2) (u_sc 2), wRoll E 4 (a_sc 3) (u_sc 3), wRoll E 14 (a_sc 4) (u_sc 4), wFormula E (a_sc 5) (u_sc 5), wFormula E (a_sc 6) (u_sc 6), wFormula E (a_sc 7) (u_sc 7)] H locs := hB
    refine lv_aload_n hx hb dX6_readCough_23 rfl (lv_at hl 0 rfl) ?_
    refine gf_X6_X6_script C hK (hB.1 0 _ rfl) dX6_readCough_24 ?_
    refine lv_aload_n hx hb dX6_readCough_27 rfl (lv_at hl 0 rfl) ?_
    refine lv_iconst (v := 0) hx hb dX6_readCough_28 (by decide) ?_
    refine lv_bipush (v := 100) hx hb dX6_readCough_29 (by decide) ?_
    obtain ⟨r4, hr4, hf⟩ := ox_bind hf
    refine cxVX (bs1 := (fun q => [wReader E a_rd (a_tk 0) q_rd_0_phrase (a_sc 0 0) r4.2.1, wTokens E a_tk (a_tp 0) r4.2.2, wBArr E n_tp a_tp u_tp, wScript E (a_sc 0) (a_sc 1 0) (a_sc 2 0) (a_sc 3 0) (a_sc 4 0) (a_sc 5 0) (a_sc 6 0) (a_sc 7 0) (u_sc 0), wRoll E 6 (a_sc 1) (u_sc 1), wRoll E 6 (a_sc 2) (u_sc 2), wRoll E 4 (a_sc 3) (u_sc 3), wRoll E 14 (a_sc 4) (u_sc 4), wFormula E (a_sc 5) (u_sc 5), wFormula E (a_sc 6) (u_sc 6), wFormula E (a_sc 7) (u_sc 7)])) (As := [.int (0 : Int32), .int (100 : Int32)]) (rest := [.ref (a_sc 0 0)]) (st1 := [.int r4.1, .ref (a_sc 0 0)]) C hK (tX6_readNumber l E a_rd q_rd_0_phrase (a_sc 0 0) u_rd a_tk r2 n_tp a_tp u_tp (0 : Int32) (100 : Int32) r4 hr4) lk_X6_120 (by rw [hRf, hRl]; decide) ⟨Nat.zero_le _, Nat.zero_le _⟩ hB hD hN [0, 1, 2] (by decide) rfl (fun _ => rfl) (fun _ => rfl) (rc_X6 hK (hB.1 0 _ rfl)) rfl hl.1 rfl rfl (Nat.le_of_ble_eq_true rfl) dX6_readCough_31 (fun H locs q5 hB => ?_)
    have hB : WB E ad s.heap [wReader E a_rd (a_tk 0) q_rd_0_phrase (a_sc 0 0) r4.2.1, wTokens E a_tk (a_tp 0) r4.2.2, wBArr E n_tp a_tp u_tp, wScript E (a_sc 0) (a_sc 1 0) (a_sc 2 0) (a_sc 3 0) (a_sc 4 0) (a_sc 5 0) (a_sc 6 0) (a_sc 7 0) (u_sc 0), wRoll E 6 (a_sc 1) (u_sc 1), wRoll E 6 (a_sc 2) (u_sc 2), wRoll E 4 (a_sc 3) (u_sc 3), wRoll E 14 (a_sc 4) (u_sc 4), wFormula E (a_sc 5) (u_sc 5), wFormula E (a_sc 6) (u_sc 6), wFormula E (a_sc 7) (u_sc 7)] H locs := hB
    refine lv_topi (fun x6 ex6 => ?_)
    have hf := ox_lt ex6 hf
    refine pf_X6_X8_cough C hK hB hD 3 rfl dX6_readCough_34 (fun H locs u7 eu7 hB => ?_)
    have hf := ox_lt eu7 hf
    have hB : WB E ad s.heap [wReader E a_rd (a_tk 0) q_rd_0_phrase (a_sc 0 0) r4.2.1, wTokens E a_tk (a_tp 0) r4.2.2, wBArr E n_tp a_tp u_tp, wScript E (a_sc 0) (a_sc 1 0) (a_sc 2 0) (a_sc 3 0) (a_sc 4 0) (a_sc 5 0) (a_sc 6 0) (a_sc 7 0) u7, wRoll E 6 (a_sc 1) (u_sc 1), wRoll E 6 (a_sc 2) (u_sc 2), wRoll E 4 (a_sc 3) (u_sc 3), wRoll E 14 (a_sc 4) (u_sc 4), wFormula E (a_sc 5) (u_sc 5), wFormula E (a_sc 6) (u_sc 6), wFormula E (a_sc 7) (u_sc 7)] H locs := hB
    refine lv_aload_n hx hb dX6_readCough_37 rfl (lv_at hl 0 rfl) ?_
    refine gf_X6_X6_script C hK (hB.1 0 _ rfl) dX6_readCough_38 ?_
    refine lv_iconst (v := 1) hx hb dX6_readCough_41 (by decide) ?_
    refine pf_X6_X8_isCoughTold C hK hB hD 3 rfl (by decide) dX6_readCough_42 (fun H locs u8 eu8 hB => ?_)
    have hf := ox_lt eu8 hf
    have hB : WB E ad s.heap [wReader E a_rd (a_tk 0) q_rd_0_phrase (a_sc 0 0) r4.2.1, wTokens E a_tk (a_tp 0) r4.2.2, wBArr E n_tp a_tp u_tp, wScript E (a_sc 0) (a_sc 1 0) (a_sc 2 0) (a_sc 3 0) (a_sc 4 0) (a_sc 5 0) (a_sc 6 0) (a_sc 7 0) u8, wRoll E 6 (a_sc 1) (u_sc 1), wRoll E 6 (a_sc 2) (u_sc 2), wRoll E 4 (a_sc 3) (u_sc 3), wRoll E 14 (a_sc 4) (u_sc 4), wFormula E (a_sc 5) (u_sc 5), wFormula E (a_sc 6) (u_sc 6), wFormula E (a_sc 7) (u_sc 7)] H locs := hB
    have hf := Option.some.inj hf
    subst hf
    exact hQ _ _ H locs (fun _ => 0) hB dX6_readCough_45
  · have hf := (if_neg c1).symm.trans hf
    refine lv_aload_n hx hb dX6_readCough_10 rfl (lv_at hl 0 rfl) ?_
    refine lv_iconst (v := 3) hx hb dX6_readCough_11 (by decide) ?_
    obtain ⟨r9, er9, hf⟩ := ox_ex hf
    refine cxVX (bs1 := (fun q => [wReader E a_rd (a_tk 0) q_rd_0_phrase (a_sc 0 0) r9, wTokens E a_tk (a_tp 0) u_tk, wBArr E n_tp a_tp u_tp, wScript E (a_sc 0) (a_sc 1 0) (a_sc 2 0) (a_sc 3 0) (a_sc 4 0) (a_sc 5 0) (a_sc 6 0) (a_sc 7 0) (u_sc 0), wRoll E 6 (a_sc 1) (u_sc 1), wRoll E 6 (a_sc 2) (u_sc 2), wRoll E 4 (a_sc 3) (u_sc 3), wRoll E 14 (a_sc 4) (u_sc 4), wFormula E (a_sc 5) (u_sc 5), wFormula E (a_sc 6) (u_sc 6), wFormula E (a_sc 7) (u_sc 7)])) (As := [.int (3 : Int32)]) (rest := []) (st1 := []) C hK (tX6_blame l E a_rd q_rd_0_phrase (a_sc 0 0) u_rd a_tk (a_tp 0) u_tk (3 : Int32) r9 er9.symm) lk_X6_70 (by rw [hRf, hRl]; decide) ⟨Nat.zero_le _, Nat.zero_le _⟩ hB hD hN [0, 1] (by decide) rfl (fun _ => rfl) (fun _ => rfl) (rc_X6 hK (hB.1 0 _ rfl)) rfl hl.1 rfl rfl (Nat.le_of_ble_eq_true rfl) dX6_readCough_12 (fun H locs q10 hB => ?_)
    have hB : WB E ad s.heap [wReader E a_rd (a_tk 0) q_rd_0_phrase (a_sc 0 0) r9, wTokens E a_tk (a_tp 0) u_tk, wBArr E n_tp a_tp u_tp, wScript E (a_sc 0) (a_sc 1 0) (a_sc 2 0) (a_sc 3 0) (a_sc 4 0) (a_sc 5 0) (a_sc 6 0) (a_sc 7 0) (u_sc 0), wRoll E 6 (a_sc 1) (u_sc 1), wRoll E 6 (a_sc 2) (u_sc 2), wRoll E 4 (a_sc 3) (u_sc 3), wRoll E 14 (a_sc 4) (u_sc 4), wFormula E (a_sc 5) (u_sc 5), wFormula E (a_sc 6) (u_sc 6), wFormula E (a_sc 7) (u_sc 7)] H locs := hB
    have hf := Option.some.inj hf
    subst hf
    exact hQ _ _ H locs (fun _ => 0) hB dX6_readCough_15
set_option maxHeartbeats 4000000 in
set_option maxRecDepth 20000 in
theorem tX6_readSeed (l : Launch) (E : Ev) (a_rd : Nat → Nat) (q_rd_0_phrase : Nat) (u_rd : St) (a_tk : Nat → Nat) (u_tk : St) (n_tp : Nat) (a_tp : Nat → Nat) (u_tp : St) (a_sc : Nat → Nat → Nat) (u_sc : Nat → St) (res : St × St × (Nat → St)) (hf : fX6_readSeed n_tp u_rd u_tk u_tp u_sc = some res) : MX l E yX6_readSeed cX6_readSeed 1 none (rmm 4 94) [wReader E a_rd (a_tk 0) q_rd_0_phrase (a_sc 0 0) u_rd, wTokens E a_tk (a_tp 0) u_tk, wBArr E n_tp a_tp u_tp, wScript E (a_sc 0) (a_sc 1 0) (a_sc 2 0) (a_sc 3 0) (a_sc 4 0) (a_sc 5 0) (a_sc 6 0) (a_sc 7 0) (u_sc 0), wRoll E 6 (a_sc 1) (u_sc 1), wRoll E 6 (a_sc 2) (u_sc 2), wRoll E 4 (a_sc 3) (u_sc 3), wRoll E 14 (a_sc 4) (u_sc 4), wFormula E (a_sc 5) (u_sc 5), wFormula E (a_sc 6) (u_sc 6), wFormula E (a_sc 7) (u_sc 7)] (fun q => [wReader E a_rd (a_tk 0) q_rd_0_phrase (a_sc 0 0) res.1, wTokens E a_tk (a_tp 0) res.2.1, wBArr E n_tp a_tp u_tp, wScript E (a_sc 0) (a_sc 1 0) (a_sc 2 0) (a_sc 3 0) (a_sc 4 0) (a_sc 5 0) (a_sc 6 0) (a_sc 7 0) (res.2.2 0), wRoll E 6 (a_sc 1) (res.2.2 1), wRoll E 6 (a_sc 2) (res.2.2 2), wRoll E 4 (a_sc 3) (res.2.2 3), wRoll E 14 (a_sc 4) (res.2.2 4), wFormula E (a_sc 5) (res.2.2 5), wFormula E (a_sc 6) (res.2.2 6), wFormula E (a_sc 7) (res.2.2 7)]) [.ref (a_rd 0)] none := by
  unfold fX6_readSeed at hf
  refine MX.ofV rfl (by decide) (Nat.le_of_ble_eq_true rfl) ?_
  intro p e R s m args below meth c ls Q ad H hRf hRl C hB hD hK hN hl hQ
  generalize hlocs : ([] : List Loc) = locs at hB ⊢
  clear hlocs
  have hx := C.1
  have hb := C.2.1
  have hl : lv_has ls 1 [(0, .ref (a_rd 0))] := hl
  refine lv_aload_n hx hb dX6_readSeed_0 rfl (lv_at hl 0 rfl) ?_
  refine gf_X6_X6_script C hK (hB.1 0 _ rfl) dX6_readSeed_1 ?_
  refine gf_X6_X8_isSeedTold C hK (hB.1 3 _ rfl) dX6_readSeed_4 ?_
  refine lv_if_eq (tgt := 16) hx hb dX6_readSeed_7 (by decide) (fun c1 => ?_) (fun c1 => ?_)
  · have hf := (if_pos c1).symm.trans hf
    refine lv_aload_n hx hb dX6_readSeed_16 rfl (lv_at hl 0 rfl) ?_
    refine gf_X6_X6_tokens C hK (hB.1 0 _ rfl) dX6_readSeed_17 ?_
    obtain ⟨r2, hr2, hf⟩ := ox_bind hf
    refine cxVX (bs1 := (fun q => [wReader E a_rd (a_tk 0) q_rd_0_phrase (a_sc 0 0) u_rd, wTokens E a_tk (a_tp 0) r2, wBArr E n_tp a_tp u_tp, wScript E (a_sc 0) (a_sc 1 0) (a_sc 2 0) (a_sc 3 0) (a_sc 4 0) (a_sc 5 0) (a_sc 6 0) (a_sc 7 0) (u_sc 0), wRoll E 6 (a_sc 1) (u_sc 1), wRoll E 6 (a_sc 2) (u_sc 2), wRoll E 4 (a_sc 3) (u_sc 3), wRoll E 14 (a_sc 4) (u_sc 4), wFormula E (a_sc 5) (u_sc 5), wFormula E (a_sc 6) (u_sc 6), wFormula E (a_sc 7) (u_sc 7)])) (As := []) (rest := []) (st1 := []) C hK (tX10_next l E a_tk u_tk n_tp a_tp u_tp r2 hr2) lk_X6_64 (by rw [hRf, hRl]; decide) ⟨Nat.zero_le _, Nat.zero_le _⟩ hB hD hN [1, 2] (by decide) rfl (fun _ => rfl) (fun _ => rfl) (rc_X10 hK (hB.1 1 _ rfl)) rfl hl.1 rfl rfl (Nat.le_of_ble_eq_true rfl) dX6_readSeed_20 (fun H locs q3 hB => ?_)
    have hB : WB E ad s.heap [wReader E a_rd (a_tk 0) q_rd_0_phrase (a_sc 0 0) u_rd, wTokens E a_tk (a_tp 0) r2, wBArr E n_tp a_tp u_tp, wScript E (a_sc 0) (a_sc 1 0) (a_sc 2 0) (a_sc 3 0) (a_sc 4 0) (a_sc 5 0) (a_sc 6 0) (a_sc 7 0) (u_sc 0), wRoll E 6 (a_sc 1) (u_sc 1), wRoll E 6 (a_sc 2) (u_sc 2), wRoll E 4 (a_sc 3) (u_sc 3), wRoll E 14 (a_sc 4) (u_sc 4), wFormula E (a_sc 5) (u_sc 5), wFormula E (a_sc 6) (u_sc 6), wFormula E (a_sc 7) (u_sc 7)] H locs := hB
    refine lv_aload_n hx hb dX6_readSeed_23 rfl (lv_at hl 0 rfl) ?_
    refine gf_X6_X6_script C hK (hB.1 0 _ rfl) dX6_readSeed_24 ?_
    refine lv_aload_n hx hb dX6_readSeed_27 rfl (lv_at hl 0 rfl) ?_
    refine lv_iconst (v := 0) hx hb dX6_readSeed_28 (by decide) ?_
    refine lv_ldc (v := 99999) hx hb C.2.2.2.1 (C.2.2.2.2 _ mw_653) dX6_readSeed_29 ?_
    obtain ⟨r4, hr4, hf⟩ := ox_bind hf
    refine cxVX (bs1 := (fun q => [wReader E a_rd (a_tk 0) q_rd_0_phrase (a_sc 0 0) r4.2.1, wTokens E a_tk (a_tp 0) r4.2.2, wBArr E n_tp a_tp u_tp, wScript E (a_sc 0) (a_sc 1 0) (a_sc 2 0) (a_sc 3 0) (a_sc 4 0) (a_sc 5 0) (a_sc 6 0) (a_sc 7 0) (u_sc 0), wRoll E 6 (a_sc 1) (u_sc 1), wRoll E 6 (a_sc 2) (u_sc 2), wRoll E 4 (a_sc 3) (u_sc 3), wRoll E 14 (a_sc 4) (u_sc 4), wFormula E (a_sc 5) (u_sc 5), wFormula E (a_sc 6) (u_sc 6), wFormula E (a_sc 7) (u_sc 7)])) (As := [.int (0 : Int32), .int (99999 : Int32)]) (rest := [.ref (a_sc 0 0)]) (st1 := [.int r4.1, .ref (a_sc 0 0)]) C hK (tX6_readNumber l E a_rd q_rd_0_phrase (a_sc 0 0) u_rd a_tk r2 n_tp a_tp u_tp (0 : Int32) (99999 : Int32) r4 hr4) lk_X6_120 (by rw [hRf, hRl]; decide) ⟨Nat.zero_le _, Nat.zero_le _⟩ hB hD hN [0, 1, 2] (by decide) rfl (fun _ => rfl) (fun _ => rfl) (rc_X6 hK (hB.1 0 _ rfl)) rfl hl.1 rfl rfl (Nat.le_of_ble_eq_true rfl) dX6_readSeed_31 (fun H locs q5 hB => ?_)
    have hB : WB E ad s.heap [wReader E a_rd (a_tk 0) q_rd_0_phrase (a_sc 0 0) r4.2.1, wTokens E a_tk (a_tp 0) r4.2.2, wBArr E n_tp a_tp u_tp, wScript E (a_sc 0) (a_sc 1 0) (a_sc 2 0) (a_sc 3 0) (a_sc 4 0) (a_sc 5 0) (a_sc 6 0) (a_sc 7 0) (u_sc 0), wRoll E 6 (a_sc 1) (u_sc 1), wRoll E 6 (a_sc 2) (u_sc 2), wRoll E 4 (a_sc 3) (u_sc 3), wRoll E 14 (a_sc 4) (u_sc 4), wFormula E (a_sc 5) (u_sc 5), wFormula E (a_sc 6) (u_sc 6), wFormula E (a_sc 7) (u_sc 7)] H locs := hB
    refine lv_topi (fun x6 ex6 => ?_)
    have hf := ox_lt ex6 hf
    refine pf_X6_X8_seed C hK hB hD 3 rfl dX6_readSeed_34 (fun H locs u7 eu7 hB => ?_)
    have hf := ox_lt eu7 hf
    have hB : WB E ad s.heap [wReader E a_rd (a_tk 0) q_rd_0_phrase (a_sc 0 0) r4.2.1, wTokens E a_tk (a_tp 0) r4.2.2, wBArr E n_tp a_tp u_tp, wScript E (a_sc 0) (a_sc 1 0) (a_sc 2 0) (a_sc 3 0) (a_sc 4 0) (a_sc 5 0) (a_sc 6 0) (a_sc 7 0) u7, wRoll E 6 (a_sc 1) (u_sc 1), wRoll E 6 (a_sc 2) (u_sc 2), wRoll E 4 (a_sc 3) (u_sc 3), wRoll E 14 (a_sc 4) (u_sc 4), wFormula E (a_sc 5) (u_sc 5), wFormula E (a_sc 6) (u_sc 6), wFormula E (a_sc 7) (u_sc 7)] H locs := hB
    refine lv_aload_n hx hb dX6_readSeed_37 rfl (lv_at hl 0 rfl) ?_
    refine gf_X6_X6_script C hK (hB.1 0 _ rfl) dX6_readSeed_38 ?_
    refine lv_iconst (v := 1) hx hb dX6_readSeed_41 (by decide) ?_
    refine pf_X6_X8_isSeedTold C hK hB hD 3 rfl (by decide) dX6_readSeed_42 (fun H locs u8 eu8 hB => ?_)
    have hf := ox_lt eu8 hf
    have hB : WB E ad s.heap [wReader E a_rd (a_tk 0) q_rd_0_phrase (a_sc 0 0) r4.2.1, wTokens E a_tk (a_tp 0) r4.2.2, wBArr E n_tp a_tp u_tp, wScript E (a_sc 0) (a_sc 1 0) (a_sc 2 0) (a_sc 3 0) (a_sc 4 0) (a_sc 5 0) (a_sc 6 0) (a_sc 7 0) u8, wRoll E 6 (a_sc 1) (u_sc 1), wRoll E 6 (a_sc 2) (u_sc 2), wRoll E 4 (a_sc 3) (u_sc 3), wRoll E 14 (a_sc 4) (u_sc 4), wFormula E (a_sc 5) (u_sc 5), wFormula E (a_sc 6) (u_sc 6), wFormula E (a_sc 7) (u_sc 7)] H locs := hB
    have hf := Option.some.inj hf
    subst hf
    exact hQ _ _ H locs (fun _ => 0) hB dX6_readSeed_45
  · have hf := (if_neg c1).symm.trans hf
    refine lv_aload_n hx hb dX6_readSeed_10 rfl (lv_at hl 0 rfl) ?_
    refine lv_iconst (v := 3) hx hb dX6_readSeed_11 (by decide) ?_
    obtain ⟨r9, er9, hf⟩ := ox_ex hf
    refine cxVX (bs1 := (fun q => [wReader E a_rd (a_tk 0) q_rd_0_phrase (a_sc 0 0) r9, wTokens E a_tk (a_tp 0) u_tk, wBArr E n_tp a_tp u_tp, wScript E (a_sc 0) (a_sc 1 0) (a_sc 2 0) (a_sc 3 0) (a_sc 4 0) (a_sc 5 0) (a_sc 6 0) (a_sc 7 0) (u_sc 0), wRoll E 6 (a_sc 1) (u_sc 1), wRoll E 6 (a_sc 2) (u_sc 2), wRoll E 4 (a_sc 3) (u_sc 3), wRoll E 14 (a_sc 4) (u_sc 4), wFormula E (a_sc 5) (u_sc 5), wFormula E (a_sc 6) (u_sc 6), wFormula E (a_sc 7) (u_sc 7)])) (As := [.int (3 : Int32)]) (rest := []) (st1 := []) C hK (tX6_blame l E a_rd q_rd_0_phrase (a_sc 0 0) u_rd a_tk (a_tp 0) u_tk (3 : Int32) r9 er9.symm) lk_X6_70 (by rw [hRf, hRl]; decide) ⟨Nat.zero_le _, Nat.zero_le _⟩ hB hD hN [0, 1] (by decide) rfl (fun _ => rfl) (fun _ => rfl) (rc_X6 hK (hB.1 0 _ rfl)) rfl hl.1 rfl rfl (Nat.le_of_ble_eq_true rfl) dX6_readSeed_12 (fun H locs q10 hB => ?_)
    have hB : WB E ad s.heap [wReader E a_rd (a_tk 0) q_rd_0_phrase (a_sc 0 0) r9, wTokens E a_tk (a_tp 0) u_tk, wBArr E n_tp a_tp u_tp, wScript E (a_sc 0) (a_sc 1 0) (a_sc 2 0) (a_sc 3 0) (a_sc 4 0) (a_sc 5 0) (a_sc 6 0) (a_sc 7 0) (u_sc 0), wRoll E 6 (a_sc 1) (u_sc 1), wRoll E 6 (a_sc 2) (u_sc 2), wRoll E 4 (a_sc 3) (u_sc 3), wRoll E 14 (a_sc 4) (u_sc 4), wFormula E (a_sc 5) (u_sc 5), wFormula E (a_sc 6) (u_sc 6), wFormula E (a_sc 7) (u_sc 7)] H locs := hB
    have hf := Option.some.inj hf
    subst hf
    exact hQ _ _ H locs (fun _ => 0) hB dX6_readSeed_15
set_option maxHeartbeats 4000000 in
set_option maxRecDepth 20000 in
theorem tX6_readLaw (l : Launch) (E : Ev) (a_rd : Nat → Nat) (u_rd : St) (a_tk : Nat → Nat) (u_tk : St) (n_tp : Nat) (a_tp : Nat → Nat) (u_tp : St) (a_ph : Nat → Nat) (q_ph_0_formula : Nat) (u_ph : St) (a_sc : Nat → Nat → Nat) (u_sc : Nat → St) (res : St × St × St × (Nat → St)) (hf : fX6_readLaw n_tp u_rd u_tk u_tp u_ph u_sc = some res) : MX l E yX6_readLaw cX6_readLaw 3 none (rmm 4 96) [wReader E a_rd (a_tk 0) (a_ph 0) (a_sc 0 0) u_rd, wTokens E a_tk (a_tp 0) u_tk, wBArr E n_tp a_tp u_tp, wPhrase E a_ph q_ph_0_formula u_ph, wScript E (a_sc 0) (a_sc 1 0) (a_sc 2 0) (a_sc 3 0) (a_sc 4 0) (a_sc 5 0) (a_sc 6 0) (a_sc 7 0) (u_sc 0), wRoll E 6 (a_sc 1) (u_sc 1), wRoll E 6 (a_sc 2) (u_sc 2), wRoll E 4 (a_sc 3) (u_sc 3), wRoll E 14 (a_sc 4) (u_sc 4), wFormula E (a_sc 5) (u_sc 5), wFormula E (a_sc 6) (u_sc 6), wFormula E (a_sc 7) (u_sc 7)] (fun q => [wReader E a_rd (a_tk 0) (a_ph 0) (a_sc 0 0) res.1, wTokens E a_tk (a_tp 0) res.2.1, wBArr E n_tp a_tp u_tp, wPhrase E a_ph (q 0) res.2.2.1, wScript E (a_sc 0) (a_sc 1 0) (a_sc 2 0) (a_sc 3 0) (a_sc 4 0) (a_sc 5 0) (a_sc 6 0) (a_sc 7 0) (res.2.2.2 0), wRoll E 6 (a_sc 1) (res.2.2.2 1), wRoll E 6 (a_sc 2) (res.2.2.2 2), wRoll E 4 (a_sc 3) (res.2.2.2 3), wRoll E 14 (a_sc 4) (res.2.2.2 4), wFormula E (a_sc 5) (res.2.2.2 5), wFormula E (a_sc 6) (res.2.2.2 6), wFormula E (a_sc 7) (res.2.2.2 7)]) [.ref (a_rd 0)] none := by
  unfold fX6_readLaw at hf
  refine MX.ofV rfl (by decide) (Nat.le_of_ble_eq_true rfl) ?_
  intro p e R s m args below meth c ls Q ad H hRf hRl C hB hD hK hN hl hQ
  generalize hlocs : ([] : List Loc) = locs at hB ⊢
  clear hlocs
  have hx := C.1
  have hb := C.2.1
  have hl : lv_has ls 3 [(0, .ref (a_rd 0))] := hl
  refine lv_aload_n hx hb dX6_readLaw_0 rfl (lv_at hl 0 rfl) ?_
  refine gf_X6_X6_tokens C hK (hB.1 0 _ rfl) dX6_readLaw_1 ?_
  obtain ⟨r1, hr1, hf⟩ := ox_bind hf
  refine cxVX (bs1 := (fun q => [wReader E a_rd (a_tk 0) (a_ph 0) (a_sc 0 0) u_rd, wTokens E a_tk (a_tp 0) r1, wBArr E n_tp a_tp u_tp, wPhrase E a_ph q_ph_0_formula u_ph, wScript E (a_sc 0) (a_sc 1 0) (a_sc 2 0) (a_sc 3 0) (a_sc 4 0) (a_sc 5 0) (a_sc 6 0) (a_sc 7 0) (u_sc 0), wRoll E 6 (a_sc 1) (u_sc 1), wRoll E 6 (a_sc 2) (u_sc 2), wRoll E 4 (a_sc 3) (u_sc 3), wRoll E 14 (a_sc 4) (u_sc 4), wFormula E (a_sc 5) (u_sc 5), wFormula E (a_sc 6) (u_sc 6), wFormula E (a_sc 7) (u_sc 7)])) (As := []) (rest := []) (st1 := []) C hK (tX10_next l E a_tk u_tk n_tp a_tp u_tp r1 hr1) lk_X6_64 (by rw [hRf, hRl]; decide) ⟨Nat.zero_le _, Nat.zero_le _⟩ hB hD hN [1, 2] (by decide) rfl (fun _ => rfl) (fun _ => rfl) (rc_X10 hK (hB.1 1 _ rfl)) rfl hl.1 rfl rfl (Nat.le_of_ble_eq_true rfl) dX6_readLaw_4 (fun H locs q2 hB => ?_)
  have hB : WB E ad s.heap [wReader E a_rd (a_tk 0) (a_ph 0) (a_sc 0 0) u_rd, wTokens E a_tk (a_tp 0) r1, wBArr E n_tp a_tp u_tp, wPhrase E a_ph q_ph_0_formula u_ph, wScript E (a_sc 0) (a_sc 1 0) (a_sc 2 0) (a_sc 3 0) (a_sc 4 0) (a_sc 5 0) (a_sc 6 0) (a_sc 7 0) (u_sc 0), wRoll E 6 (a_sc 1) (u_sc 1), wRoll E 6 (a_sc 2) (u_sc 2), wRoll E 4 (a_sc 3) (u_sc 3), wRoll E 14 (a_sc 4) (u_sc 4), wFormula E (a_sc 5) (u_sc 5), wFormula E (a_sc 6) (u_sc 6), wFormula E (a_sc 7) (u_sc 7)] H locs := hB
  refine lv_aload_n hx hb dX6_readLaw_7 rfl (lv_at hl 0 rfl) ?_
  refine gf_X6_X6_tokens C hK (hB.1 0 _ rfl) dX6_readLaw_8 ?_
  refine gf_X6_X10_value C hK (hB.1 1 _ rfl) dX6_readLaw_11 ?_
  refine lv_bipush (v := 7) hx hb dX6_readLaw_14 (by decide) ?_
  refine lv_isub hx hb dX6_readLaw_16 ?_
  refine lv_topi (fun x3 ex3 => ?_)
  have hf := ox_lt ex3 hf
  refine lv_istore_n (lv' := [(1, .int x3), (0, .ref (a_rd 0))]) hx hb dX6_readLaw_17 rfl hl (by decide) rfl (fun ls hl => ?_)
  refine lv_aload_n hx hb dX6_readLaw_18 rfl (lv_at hl 1 rfl) ?_
  refine lv_aload_n hx hb dX6_readLaw_19 rfl (lv_at hl 1 rfl) ?_
  refine gf_X6_X6_tokens C hK (hB.1 0 _ rfl) dX6_readLaw_20 ?_
  refine gf_X6_X10_kind C hK (hB.1 1 _ rfl) dX6_readLaw_23 ?_
  refine lv_iconst (v := 2) hx hb dX6_readLaw_26 (by decide) ?_
  obtain ⟨x4, ex4, hf⟩ := ox_ex hf
  have hjx4 : W p l e R s m args below meth c H locs 0 0 Q (F0 m 44 ls [.int x4, .ref (a_rd 0)]) := by
    obtain ⟨r5, er5, hf⟩ := ox_ex hf
    refine cxVX (bs1 := (fun q => [wReader E a_rd (a_tk 0) (a_ph 0) (a_sc 0 0) r5.2, wTokens E a_tk (a_tp 0) r1, wBArr E n_tp a_tp u_tp, wPhrase E a_ph q_ph_0_formula u_ph, wScript E (a_sc 0) (a_sc 1 0) (a_sc 2 0) (a_sc 3 0) (a_sc 4 0) (a_sc 5 0) (a_sc 6 0) (a_sc 7 0) (u_sc 0), wRoll E 6 (a_sc 1) (u_sc 1), wRoll E 6 (a_sc 2) (u_sc 2), wRoll E 4 (a_sc 3) (u_sc 3), wRoll E 14 (a_sc 4) (u_sc 4), wFormula E (a_sc 5) (u_sc 5), wFormula E (a_sc 6) (u_sc 6), wFormula E (a_sc 7) (u_sc 7)])) (As := [.int x4]) (rest := []) (st1 := [.int r5.1]) C hK (tX6_isDue l E a_rd (a_ph 0) (a_sc 0 0) u_rd a_tk (a_tp 0) r1 x4 r5 er5.symm) lk_X6_57 (by rw [hRf, hRl]; decide) ⟨Nat.zero_le _, Nat.zero_le _⟩ hB hD hN [0, 1] (by decide) rfl (fun _ => rfl) (fun _ => rfl) (rc_X6 hK (hB.1 0 _ rfl)) rfl hl.1 rfl rfl (Nat.le_of_ble_eq_true rfl) dX6_readLaw_44 (fun H locs q6 hB => ?_)
    have hB : WB E ad s.heap [wReader E a_rd (a_tk 0) (a_ph 0) (a_sc 0 0) r5.2, wTokens E a_tk (a_tp 0) r1, wBArr E n_tp a_tp u_tp, wPhrase E a_ph q_ph_0_formula u_ph, wScript E (a_sc 0) (a_sc 1 0) (a_sc 2 0) (a_sc 3 0) (a_sc 4 0) (a_sc 5 0) (a_sc 6 0) (a_sc 7 0) (u_sc 0), wRoll E 6 (a_sc 1) (u_sc 1), wRoll E 6 (a_sc 2) (u_sc 2), wRoll E 4 (a_sc 3) (u_sc 3), wRoll E 14 (a_sc 4) (u_sc 4), wFormula E (a_sc 5) (u_sc 5), wFormula E (a_sc 6) (u_sc 6), wFormula E (a_sc 7) (u_sc 7)] H locs := hB
    refine lv_if_ne (tgt := 51) hx hb dX6_readLaw_47 (by decide) (fun c7 => ?_) (fun c7 => ?_)
    · have hf := (if_neg c7).symm.trans hf
      refine lv_aload_n hx hb dX6_readLaw_51 rfl (lv_at hl 1 rfl) ?_
      refine gf_X6_X6_script C hK (hB.1 0 _ rfl) dX6_readLaw_52 ?_
      refine gf_X6_X8_laws C hK (hB.1 4 _ rfl) dX6_readLaw_55 ?_
      refine lv_iload_n hx hb dX6_readLaw_58 rfl (lv_at hl 0 rfl) ?_
      by_cases c8 : x3 = 0
      · have hf := (if_pos c8).symm.trans hf
        refine bx_aaldK C hK (hB.1 4 _ rfl) 1 rfl (k := 0) c8 dX6_readLaw_59 (q := (a_sc 5 0)) rfl (by decide) ?_
        refine gf_X6_X0_isTold C hK (hB.1 9 _ rfl) dX6_readLaw_60 ?_
        refine lv_if_eq (tgt := 72) hx hb dX6_readLaw_63 (by decide) (fun c9 => ?_) (fun c9 => ?_)
        · have hf := (if_pos c9).symm.trans hf
          refine lv_aload_n hx hb dX6_readLaw_72 rfl (lv_at hl 1 rfl) ?_
          refine gf_X6_X6_tokens C hK (hB.1 0 _ rfl) dX6_readLaw_73 ?_
          obtain ⟨r10, hr10, hf⟩ := ox_bind hf
          refine cxVX (bs1 := (fun q => [wReader E a_rd (a_tk 0) (a_ph 0) (a_sc 0 0) r5.2, wTokens E a_tk (a_tp 0) r10, wBArr E n_tp a_tp u_tp, wPhrase E a_ph q_ph_0_formula u_ph, wScript E (a_sc 0) (a_sc 1 0) (a_sc 2 0) (a_sc 3 0) (a_sc 4 0) (a_sc 5 0) (a_sc 6 0) (a_sc 7 0) (u_sc 0), wRoll E 6 (a_sc 1) (u_sc 1), wRoll E 6 (a_sc 2) (u_sc 2), wRoll E 4 (a_sc 3) (u_sc 3), wRoll E 14 (a_sc 4) (u_sc 4), wFormula E (a_sc 5) (u_sc 5), wFormula E (a_sc 6) (u_sc 6), wFormula E (a_sc 7) (u_sc 7)])) (As := []) (rest := []) (st1 := []) C hK (tX10_next l E a_tk r1 n_tp a_tp u_tp r10 hr10) lk_X6_64 (by rw [hRf, hRl]; decide) ⟨Nat.zero_le _, Nat.zero_le _⟩ hB hD hN [1, 2] (by decide) rfl (fun _ => rfl) (fun _ => rfl) (rc_X10 hK (hB.1 1 _ rfl)) rfl hl.1 rfl rfl (Nat.le_of_ble_eq_true rfl) dX6_readLaw_76 (fun H locs q11 hB => ?_)
          have hB : WB E ad s.heap [wReader E a_rd (a_tk 0) (a_ph 0) (a_sc 0 0) r5.2, wTokens E a_tk (a_tp 0) r10, wBArr E n_tp a_tp u_tp, wPhrase E a_ph q_ph_0_formula u_ph, wScript E (a_sc 0) (a_sc 1 0) (a_sc 2 0) (a_sc 3 0) (a_sc 4 0) (a_sc 5 0) (a_sc 6 0) (a_sc 7 0) (u_sc 0), wRoll E 6 (a_sc 1) (u_sc 1), wRoll E 6 (a_sc 2) (u_sc 2), wRoll E 4 (a_sc 3) (u_sc 3), wRoll E 14 (a_sc 4) (u_sc 4), wFormula E (a_sc 5) (u_sc 5), wFormula E (a_sc 6) (u_sc 6), wFormula E (a_sc 7) (u_sc 7)] H locs := hB
          refine lv_aload_n hx hb dX6_readLaw_79 rfl (lv_at hl 1 rfl) ?_
          refine gf_X6_X6_script C hK (hB.1 0 _ rfl) dX6_readLaw_80 ?_
          refine gf_X6_X8_laws C hK (hB.1 4 _ rfl) dX6_readLaw_83 ?_
          refine lv_iload_n hx hb dX6_readLaw_86 rfl (lv_at hl 0 rfl) ?_
          refine bx_aaldK C hK (hB.1 4 _ rfl) 1 rfl (k := 0) c8 dX6_readLaw_87 (q := (a_sc 5 0)) rfl (by decide) ?_
          refine lv_iconst (v := 1) hx hb dX6_readLaw_88 (by decide) ?_
          refine pf_X6_X0_isTold C hK hB hD 9 rfl (by decide) dX6_readLaw_89 (fun H locs u12 eu12 hB => ?_)
          have hf := ox_lt eu12 hf
          have hB : WB E ad s.heap [wReader E a_rd (a_tk 0) (a_ph 0) (a_sc 0 0) r5.2, wTokens E a_tk (a_tp 0) r10, wBArr E n_tp a_tp u_tp, wPhrase E a_ph q_ph_0_formula u_ph, wScript E (a_sc 0) (a_sc 1 0) (a_sc 2 0) (a_sc 3 0) (a_sc 4 0) (a_sc 5 0) (a_sc 6 0) (a_sc 7 0) (u_sc 0), wRoll E 6 (a_sc 1) (u_sc 1), wRoll E 6 (a_sc 2) (u_sc 2), wRoll E 4 (a_sc 3) (u_sc 3), wRoll E 14 (a_sc 4) (u_sc 4), wFormula E (a_sc 5) u12, wFormula E (a_sc 6) (u_sc 6), wFormula E (a_sc 7) (u_sc 7)] H locs := hB
          refine lv_aload_n hx hb dX6_readLaw_92 rfl (lv_at hl 1 rfl) ?_
          refine gf_X6_X6_phrase C hK (hB.1 0 _ rfl) dX6_readLaw_93 ?_
          refine lv_aload_n hx hb dX6_readLaw_96 rfl (lv_at hl 1 rfl) ?_
          refine gf_X6_X6_script C hK (hB.1 0 _ rfl) dX6_readLaw_97 ?_
          refine gf_X6_X8_laws C hK (hB.1 4 _ rfl) dX6_readLaw_100 ?_
          refine lv_iload_n hx hb dX6_readLaw_103 rfl (lv_at hl 0 rfl) ?_
          refine bx_aaldK C hK (hB.1 4 _ rfl) 1 rfl (k := 0) c8 dX6_readLaw_104 (q := (a_sc 5 0)) rfl (by decide) ?_
          refine lv_aload_n hx hb dX6_readLaw_105 rfl (lv_at hl 1 rfl) ?_
          refine gf_X6_X6_tokens C hK (hB.1 0 _ rfl) dX6_readLaw_106 ?_
          refine lv_bipush (v := 64) hx hb dX6_readLaw_109 (by decide) ?_
          refine lv_aload_n hx hb dX6_readLaw_111 rfl (lv_at hl 1 rfl) ?_
          refine gf_X6_X6_script C hK (hB.1 0 _ rfl) dX6_readLaw_112 ?_
          refine gf_X6_X8_knots C hK (hB.1 4 _ rfl) dX6_readLaw_115 ?_
          refine lv_isub hx hb dX6_readLaw_118 ?_
          obtain ⟨r13, hr13, hf⟩ := ox_bind hf
          refine cxVX (bs1 := (fun q => [wReader E a_rd (a_tk 0) (a_ph 0) (a_sc 0 0) r5.2, wTokens E a_tk (a_tp 0) r13.2.2.2, wBArr E n_tp a_tp u_tp, wPhrase E a_ph (a_sc 5 0) r13.2.1, wScript E (a_sc 0) (a_sc 1 0) (a_sc 2 0) (a_sc 3 0) (a_sc 4 0) (a_sc 5 0) (a_sc 6 0) (a_sc 7 0) (u_sc 0), wRoll E 6 (a_sc 1) (u_sc 1), wRoll E 6 (a_sc 2) (u_sc 2), wRoll E 4 (a_sc 3) (u_sc 3), wRoll E 14 (a_sc 4) (u_sc 4), wFormula E (a_sc 5) r13.2.2.1, wFormula E (a_sc 6) (u_sc 6), wFormula E (a_sc 7) (u_sc 7)])) (As := [.ref (a_sc 5 0), .ref (a_tk 0), .int ((64 : Int32) - (gI (u_sc 0) 9))]) (rest := []) (st1 := [.int r13.1]) C hK (tX5_readInto l E a_ph q_ph_0_formula u_ph (a_sc 5) u12 a_tk r10 n_tp a_tp u_tp ((64 : Int32) - (gI (u_sc 0) 9)) r13 hr13) lk_X6_153 (by rw [hRf, hRl]; decide) ⟨Nat.zero_le _, Nat.zero_le _⟩ hB hD hN [3, 9, 1, 2] (by decide) rfl (fun _ => rfl) (fun _ => rfl) (rc_X5 hK (hB.1 3 _ rfl)) rfl hl.1 rfl rfl (Nat.le_of_ble_eq_true rfl) dX6_readLaw_119 (fun H locs q14 hB => ?_)
          have hB : WB E ad s.heap [wReader E a_rd (a_tk 0) (a_ph 0) (a_sc 0 0) r5.2, wTokens E a_tk (a_tp 0) r13.2.2.2, wBArr E n_tp a_tp u_tp, wPhrase E a_ph (a_sc 5 0) r13.2.1, wScript E (a_sc 0) (a_sc 1 0) (a_sc 2 0) (a_sc 3 0) (a_sc 4 0) (a_sc 5 0) (a_sc 6 0) (a_sc 7 0) (u_sc 0), wRoll E 6 (a_sc 1) (u_sc 1), wRoll E 6 (a_sc 2) (u_sc 2), wRoll E 4 (a_sc 3) (u_sc 3), wRoll E 14 (a_sc 4) (u_sc 4), wFormula E (a_sc 5) r13.2.2.1, wFormula E (a_sc 6) (u_sc 6), wFormula E (a_sc 7) (u_sc 7)] H locs := hB
          refine lv_topi (fun x15 ex15 => ?_)
          have hf := ox_lt ex15 hf
          refine lv_istore_n (lv' := [(2, .int x15), (1, .int x3), (0, .ref (a_rd 0))]) hx hb dX6_readLaw_122 rfl hl (by decide) rfl (fun ls hl => ?_)
          refine lv_aload_n hx hb dX6_readLaw_123 rfl (lv_at hl 2 rfl) ?_
          refine gf_X6_X6_script C hK (hB.1 0 _ rfl) dX6_readLaw_124 ?_
          refine lv_dup hx hb dX6_readLaw_127 rfl ?_
          refine gf_X6_X8_knots C hK (hB.1 4 _ rfl) dX6_readLaw_128 ?_
          refine lv_aload_n hx hb dX6_readLaw_131 rfl (lv_at hl 2 rfl) ?_
          refine gf_X6_X6_phrase C hK (hB.1 0 _ rfl) dX6_readLaw_132 ?_
          refine gf_X6_X5_knots C hK (hB.1 3 _ rfl) dX6_readLaw_135 ?_
          refine lv_iadd hx hb dX6_readLaw_138 ?_
          refine lv_topi (fun x16 ex16 => ?_)
          have hf := ox_lt ex16 hf
          refine pf_X6_X8_knots C hK hB hD 4 rfl dX6_readLaw_139 (fun H locs u17 eu17 hB => ?_)
          have hf := ox_lt eu17 hf
          have hB : WB E ad s.heap [wReader E a_rd (a_tk 0) (a_ph 0) (a_sc 0 0) r5.2, wTokens E a_tk (a_tp 0) r13.2.2.2, wBArr E n_tp a_tp u_tp, wPhrase E a_ph (a_sc 5 0) r13.2.1, wScript E (a_sc 0) (a_sc 1 0) (a_sc 2 0) (a_sc 3 0) (a_sc 4 0) (a_sc 5 0) (a_sc 6 0) (a_sc 7 0) u17, wRoll E 6 (a_sc 1) (u_sc 1), wRoll E 6 (a_sc 2) (u_sc 2), wRoll E 4 (a_sc 3) (u_sc 3), wRoll E 14 (a_sc 4) (u_sc 4), wFormula E (a_sc 5) r13.2.2.1, wFormula E (a_sc 6) (u_sc 6), wFormula E (a_sc 7) (u_sc 7)] H locs := hB
          refine lv_iload_n hx hb dX6_readLaw_142 rfl (lv_at hl 0 rfl) ?_
          refine lv_if_eq (tgt := 151) hx hb dX6_readLaw_143 (by decide) (fun c18 => ?_) (fun c18 => ?_)
          · have hf := (if_pos c18).symm.trans hf
            have hf := Option.some.inj hf
            subst hf
            exact hQ _ _ H locs (fun j => if j = 0 then (a_sc 5 0) else 0) hB dX6_readLaw_151
          · have hf := (if_neg c18).symm.trans hf
            refine lv_aload_n hx hb dX6_readLaw_146 rfl (lv_at hl 2 rfl) ?_
            refine lv_iload_n hx hb dX6_readLaw_147 rfl (lv_at hl 0 rfl) ?_
            obtain ⟨r19, er19, hf⟩ := ox_ex hf
            refine cxVX (bs1 := (fun q => [wReader E a_rd (a_tk 0) (a_ph 0) (a_sc 0 0) r19, wTokens E a_tk (a_tp 0) r13.2.2.2, wBArr E n_tp a_tp u_tp, wPhrase E a_ph (a_sc 5 0) r13.2.1, wScript E (a_sc 0) (a_sc 1 0) (a_sc 2 0) (a_sc 3 0) (a_sc 4 0) (a_sc 5 0) (a_sc 6 0) (a_sc 7 0) u17, wRoll E 6 (a_sc 1) (u_sc 1), wRoll E 6 (a_sc 2) (u_sc 2), wRoll E 4 (a_sc 3) (u_sc 3), wRoll E 14 (a_sc 4) (u_sc 4), wFormula E (a_sc 5) r13.2.2.1, wFormula E (a_sc 6) (u_sc 6), wFormula E (a_sc 7) (u_sc 7)])) (As := [.int x15]) (rest := []) (st1 := []) C hK (tX6_blame l E a_rd (a_ph 0) (a_sc 0 0) (r5.2) a_tk (a_tp 0) (r13.2.2.2) x15 r19 er19.symm) lk_X6_70 (by rw [hRf, hRl]; decide) ⟨Nat.zero_le _, Nat.zero_le _⟩ hB hD hN [0, 1] (by decide) rfl (fun _ => rfl) (fun _ => rfl) (rc_X6 hK (hB.1 0 _ rfl)) rfl hl.1 rfl rfl (Nat.le_of_ble_eq_true rfl) dX6_readLaw_148 (fun H locs q20 hB => ?_)
            have hB : WB E ad s.heap [wReader E a_rd (a_tk 0) (a_ph 0) (a_sc 0 0) r19, wTokens E a_tk (a_tp 0) r13.2.2.2, wBArr E n_tp a_tp u_tp, wPhrase E a_ph (a_sc 5 0) r13.2.1, wScript E (a_sc 0) (a_sc 1 0) (a_sc 2 0) (a_sc 3 0) (a_sc 4 0) (a_sc 5 0) (a_sc 6 0) (a_sc 7 0) u17, wRoll E 6 (a_sc 1) (u_sc 1), wRoll E 6 (a_sc 2) (u_sc 2), wRoll E 4 (a_sc 3) (u_sc 3), wRoll E 14 (a_sc 4) (u_sc 4), wFormula E (a_sc 5) r13.2.2.1, wFormula E (a_sc 6) (u_sc 6), wFormula E (a_sc 7) (u_sc 7)] H locs := hB
            have hf := Option.some.inj hf
            subst hf
            exact hQ _ _ H locs (fun j => if j = 0 then (a_sc 5 0) else 0) hB dX6_readLaw_151
        · have hf := (if_neg c9).symm.trans hf
          refine lv_aload_n hx hb dX6_readLaw_66 rfl (lv_at hl 1 rfl) ?_
          refine lv_iconst (v := 3) hx hb dX6_readLaw_67 (by decide) ?_
          obtain ⟨r21, er21, hf⟩ := ox_ex hf
          refine cxVX (bs1 := (fun q => [wReader E a_rd (a_tk 0) (a_ph 0) (a_sc 0 0) r21, wTokens E a_tk (a_tp 0) r1, wBArr E n_tp a_tp u_tp, wPhrase E a_ph q_ph_0_formula u_ph, wScript E (a_sc 0) (a_sc 1 0) (a_sc 2 0) (a_sc 3 0) (a_sc 4 0) (a_sc 5 0) (a_sc 6 0) (a_sc 7 0) (u_sc 0), wRoll E 6 (a_sc 1) (u_sc 1), wRoll E 6 (a_sc 2) (u_sc 2), wRoll E 4 (a_sc 3) (u_sc 3), wRoll E 14 (a_sc 4) (u_sc 4), wFormula E (a_sc 5) (u_sc 5), wFormula E (a_sc 6) (u_sc 6), wFormula E (a_sc 7) (u_sc 7)])) (As := [.int (3 : Int32)]) (rest := []) (st1 := []) C hK (tX6_blame l E a_rd (a_ph 0) (a_sc 0 0) (r5.2) a_tk (a_tp 0) r1 (3 : Int32) r21 er21.symm) lk_X6_70 (by rw [hRf, hRl]; decide) ⟨Nat.zero_le _, Nat.zero_le _⟩ hB hD hN [0, 1] (by decide) rfl (fun _ => rfl) (fun _ => rfl) (rc_X6 hK (hB.1 0 _ rfl)) rfl hl.1 rfl rfl (Nat.le_of_ble_eq_true rfl) dX6_readLaw_68 (fun H locs q22 hB => ?_)
          have hB : WB E ad s.heap [wReader E a_rd (a_tk 0) (a_ph 0) (a_sc 0 0) r21, wTokens E a_tk (a_tp 0) r1, wBArr E n_tp a_tp u_tp, wPhrase E a_ph q_ph_0_formula u_ph, wScript E (a_sc 0) (a_sc 1 0) (a_sc 2 0) (a_sc 3 0) (a_sc 4 0) (a_sc 5 0) (a_sc 6 0) (a_sc 7 0) (u_sc 0), wRoll E 6 (a_sc 1) (u_sc 1), wRoll E 6 (a_sc 2) (u_sc 2), wRoll E 4 (a_sc 3) (u_sc 3), wRoll E 14 (a_sc 4) (u_sc 4), wFormula E (a_sc 5) (u_sc 5), wFormula E (a_sc 6) (u_sc 6), wFormula E (a_sc 7) (u_sc 7)] H locs := hB
          have hf := Option.some.inj hf
          subst hf
          exact hQ _ _ H locs (fun j => if j = 0 then q_ph_0_formula else 0) hB dX6_readLaw_71
      have hf := (if_neg c8).symm.trans hf
      by_cases c23 : x3 = 1
      · have hf := (if_pos c23).symm.trans hf
        refine bx_aaldK C hK (hB.1 4 _ rfl) 1 rfl (k := 1) c23 dX6_readLaw_59 (q := (a_sc 6 0)) rfl (by decide) ?_
        refine gf_X6_X0_isTold C hK (hB.1 10 _ rfl) dX6_readLaw_60 ?_
        refine lv_if_eq (tgt := 72) hx hb dX6_readLaw_63 (by decide) (fun c24 => ?_) (fun c24 => ?_)
        · have hf := (if_pos c24).symm.trans hf
          refine lv_aload_n hx hb dX6_readLaw_72 rfl (lv_at hl 1 rfl) ?_
          refine gf_X6_X6_tokens C hK (hB.1 0 _ rfl) dX6_readLaw_73 ?_
          obtain ⟨r25, hr25, hf⟩ := ox_bind hf
          refine cxVX (bs1 := (fun q => [wReader E a_rd (a_tk 0) (a_ph 0) (a_sc 0 0) r5.2, wTokens E a_tk (a_tp 0) r25, wBArr E n_tp a_tp u_tp, wPhrase E a_ph q_ph_0_formula u_ph, wScript E (a_sc 0) (a_sc 1 0) (a_sc 2 0) (a_sc 3 0) (a_sc 4 0) (a_sc 5 0) (a_sc 6 0) (a_sc 7 0) (u_sc 0), wRoll E 6 (a_sc 1) (u_sc 1), wRoll E 6 (a_sc 2) (u_sc 2), wRoll E 4 (a_sc 3) (u_sc 3), wRoll E 14 (a_sc 4) (u_sc 4), wFormula E (a_sc 5) (u_sc 5), wFormula E (a_sc 6) (u_sc 6), wFormula E (a_sc 7) (u_sc 7)])) (As := []) (rest := []) (st1 := []) C hK (tX10_next l E a_tk r1 n_tp a_tp u_tp r25 hr25) lk_X6_64 (by rw [hRf, hRl]; decide) ⟨Nat.zero_le _, Nat.zero_le _⟩ hB hD hN [1, 2] (by decide) rfl (fun _ => rfl) (fun _ => rfl) (rc_X10 hK (hB.1 1 _ rfl)) rfl hl.1 rfl rfl (Nat.le_of_ble_eq_true rfl) dX6_readLaw_76 (fun H locs q26 hB => ?_)
          have hB : WB E ad s.heap [wReader E a_rd (a_tk 0) (a_ph 0) (a_sc 0 0) r5.2, wTokens E a_tk (a_tp 0) r25, wBArr E n_tp a_tp u_tp, wPhrase E a_ph q_ph_0_formula u_ph, wScript E (a_sc 0) (a_sc 1 0) (a_sc 2 0) (a_sc 3 0) (a_sc 4 0) (a_sc 5 0) (a_sc 6 0) (a_sc 7 0) (u_sc 0), wRoll E 6 (a_sc 1) (u_sc 1), wRoll E 6 (a_sc 2) (u_sc 2), wRoll E 4 (a_sc 3) (u_sc 3), wRoll E 14 (a_sc 4) (u_sc 4), wFormula E (a_sc 5) (u_sc 5), wFormula E (a_sc 6) (u_sc 6), wFormula E (a_sc 7) (u_sc 7)] H locs := hB
          refine lv_aload_n hx hb dX6_readLaw_79 rfl (lv_at hl 1 rfl) ?_
          refine gf_X6_X6_script C hK (hB.1 0 _ rfl) dX6_readLaw_80 ?_
          refine gf_X6_X8_laws C hK (hB.1 4 _ rfl) dX6_readLaw_83 ?_
          refine lv_iload_n hx hb dX6_readLaw_86 rfl (lv_at hl 0 rfl) ?_
          refine bx_aaldK C hK (hB.1 4 _ rfl) 1 rfl (k := 1) c23 dX6_readLaw_87 (q := (a_sc 6 0)) rfl (by decide) ?_
          refine lv_iconst (v := 1) hx hb dX6_readLaw_88 (by decide) ?_
          refine pf_X6_X0_isTold C hK hB hD 10 rfl (by decide) dX6_readLaw_89 (fun H locs u27 eu27 hB => ?_)
          have hf := ox_lt eu27 hf
          have hB : WB E ad s.heap [wReader E a_rd (a_tk 0) (a_ph 0) (a_sc 0 0) r5.2, wTokens E a_tk (a_tp 0) r25, wBArr E n_tp a_tp u_tp, wPhrase E a_ph q_ph_0_formula u_ph, wScript E (a_sc 0) (a_sc 1 0) (a_sc 2 0) (a_sc 3 0) (a_sc 4 0) (a_sc 5 0) (a_sc 6 0) (a_sc 7 0) (u_sc 0), wRoll E 6 (a_sc 1) (u_sc 1), wRoll E 6 (a_sc 2) (u_sc 2), wRoll E 4 (a_sc 3) (u_sc 3), wRoll E 14 (a_sc 4) (u_sc 4), wFormula E (a_sc 5) (u_sc 5), wFormula E (a_sc 6) u27, wFormula E (a_sc 7) (u_sc 7)] H locs := hB
          refine lv_aload_n hx hb dX6_readLaw_92 rfl (lv_at hl 1 rfl) ?_
          refine gf_X6_X6_phrase C hK (hB.1 0 _ rfl) dX6_readLaw_93 ?_
          refine lv_aload_n hx hb dX6_readLaw_96 rfl (lv_at hl 1 rfl) ?_
          refine gf_X6_X6_script C hK (hB.1 0 _ rfl) dX6_readLaw_97 ?_
          refine gf_X6_X8_laws C hK (hB.1 4 _ rfl) dX6_readLaw_100 ?_
          refine lv_iload_n hx hb dX6_readLaw_103 rfl (lv_at hl 0 rfl) ?_
          refine bx_aaldK C hK (hB.1 4 _ rfl) 1 rfl (k := 1) c23 dX6_readLaw_104 (q := (a_sc 6 0)) rfl (by decide) ?_
          refine lv_aload_n hx hb dX6_readLaw_105 rfl (lv_at hl 1 rfl) ?_
          refine gf_X6_X6_tokens C hK (hB.1 0 _ rfl) dX6_readLaw_106 ?_
          refine lv_bipush (v := 64) hx hb dX6_readLaw_109 (by decide) ?_
          refine lv_aload_n hx hb dX6_readLaw_111 rfl (lv_at hl 1 rfl) ?_
          refine gf_X6_X6_script C hK (hB.1 0 _ rfl) dX6_readLaw_112 ?_
          refine gf_X6_X8_knots C hK (hB.1 4 _ rfl) dX6_readLaw_115 ?_
          refine lv_isub hx hb dX6_readLaw_118 ?_
          obtain ⟨r28, hr28, hf⟩ := ox_bind hf
          refine cxVX (bs1 := (fun q => [wReader E a_rd (a_tk 0) (a_ph 0) (a_sc 0 0) r5.2, wTokens E a_tk (a_tp 0) r28.2.2.2, wBArr E n_tp a_tp u_tp, wPhrase E a_ph (a_sc 6 0) r28.2.1, wScript E (a_sc 0) (a_sc 1 0) (a_sc 2 0) (a_sc 3 0) (a_sc 4 0) (a_sc 5 0) (a_sc 6 0) (a_sc 7 0) (u_sc 0), wRoll E 6 (a_sc 1) (u_sc 1), wRoll E 6 (a_sc 2) (u_sc 2), wRoll E 4 (a_sc 3) (u_sc 3), wRoll E 14 (a_sc 4) (u_sc 4), wFormula E (a_sc 5) (u_sc 5), wFormula E (a_sc 6) r28.2.2.1, wFormula E (a_sc 7) (u_sc 7)])) (As := [.ref (a_sc 6 0), .ref (a_tk 0), .int ((64 : Int32) - (gI (u_sc 0) 9))]) (rest := []) (st1 := [.int r28.1]) C hK (tX5_readInto l E a_ph q_ph_0_formula u_ph (a_sc 6) u27 a_tk r25 n_tp a_tp u_tp ((64 : Int32) - (gI (u_sc 0) 9)) r28 hr28) lk_X6_153 (by rw [hRf, hRl]; decide) ⟨Nat.zero_le _, Nat.zero_le _⟩ hB hD hN [3, 10, 1, 2] (by decide) rfl (fun _ => rfl) (fun _ => rfl) (rc_X5 hK (hB.1 3 _ rfl)) rfl hl.1 rfl rfl (Nat.le_of_ble_eq_true rfl) dX6_readLaw_119 (fun H locs q29 hB => ?_)
          have hB : WB E ad s.heap [wReader E a_rd (a_tk 0) (a_ph 0) (a_sc 0 0) r5.2, wTokens E a_tk (a_tp 0) r28.2.2.2, wBArr E n_tp a_tp u_tp, wPhrase E a_ph (a_sc 6 0) r28.2.1, wScript E (a_sc 0) (a_sc 1 0) (a_sc 2 0) (a_sc 3 0) (a_sc 4 0) (a_sc 5 0) (a_sc 6 0) (a_sc 7 0) (u_sc 0), wRoll E 6 (a_sc 1) (u_sc 1), wRoll E 6 (a_sc 2) (u_sc 2), wRoll E 4 (a_sc 3) (u_sc 3), wRoll E 14 (a_sc 4) (u_sc 4), wFormula E (a_sc 5) (u_sc 5), wFormula E (a_sc 6) r28.2.2.1, wFormula E (a_sc 7) (u_sc 7)] H locs := hB
          refine lv_topi (fun x30 ex30 => ?_)
          have hf := ox_lt ex30 hf
          refine lv_istore_n (lv' := [(2, .int x30), (1, .int x3), (0, .ref (a_rd 0))]) hx hb dX6_readLaw_122 rfl hl (by decide) rfl (fun ls hl => ?_)
          refine lv_aload_n hx hb dX6_readLaw_123 rfl (lv_at hl 2 rfl) ?_
          refine gf_X6_X6_script C hK (hB.1 0 _ rfl) dX6_readLaw_124 ?_
          refine lv_dup hx hb dX6_readLaw_127 rfl ?_
          refine gf_X6_X8_knots C hK (hB.1 4 _ rfl) dX6_readLaw_128 ?_
          refine lv_aload_n hx hb dX6_readLaw_131 rfl (lv_at hl 2 rfl) ?_
          refine gf_X6_X6_phrase C hK (hB.1 0 _ rfl) dX6_readLaw_132 ?_
          refine gf_X6_X5_knots C hK (hB.1 3 _ rfl) dX6_readLaw_135 ?_
          refine lv_iadd hx hb dX6_readLaw_138 ?_
          refine lv_topi (fun x31 ex31 => ?_)
          have hf := ox_lt ex31 hf
          refine pf_X6_X8_knots C hK hB hD 4 rfl dX6_readLaw_139 (fun H locs u32 eu32 hB => ?_)
          have hf := ox_lt eu32 hf
          have hB : WB E ad s.heap [wReader E a_rd (a_tk 0) (a_ph 0) (a_sc 0 0) r5.2, wTokens E a_tk (a_tp 0) r28.2.2.2, wBArr E n_tp a_tp u_tp, wPhrase E a_ph (a_sc 6 0) r28.2.1, wScript E (a_sc 0) (a_sc 1 0) (a_sc 2 0) (a_sc 3 0) (a_sc 4 0) (a_sc 5 0) (a_sc 6 0) (a_sc 7 0) u32, wRoll E 6 (a_sc 1) (u_sc 1), wRoll E 6 (a_sc 2) (u_sc 2), wRoll E 4 (a_sc 3) (u_sc 3), wRoll E 14 (a_sc 4) (u_sc 4), wFormula E (a_sc 5) (u_sc 5), wFormula E (a_sc 6) r28.2.2.1, wFormula E (a_sc 7) (u_sc 7)] H locs := hB
          refine lv_iload_n hx hb dX6_readLaw_142 rfl (lv_at hl 0 rfl) ?_
          refine lv_if_eq (tgt := 151) hx hb dX6_readLaw_143 (by decide) (fun c33 => ?_) (fun c33 => ?_)
          · have hf := (if_pos c33).symm.trans hf
            have hf := Option.some.inj hf
            subst hf
            exact hQ _ _ H locs (fun j => if j = 0 then (a_sc 6 0) else 0) hB dX6_readLaw_151
          · have hf := (if_neg c33).symm.trans hf
            refine lv_aload_n hx hb dX6_readLaw_146 rfl (lv_at hl 2 rfl) ?_
            refine lv_iload_n hx hb dX6_readLaw_147 rfl (lv_at hl 0 rfl) ?_
            obtain ⟨r34, er34, hf⟩ := ox_ex hf
            refine cxVX (bs1 := (fun q => [wReader E a_rd (a_tk 0) (a_ph 0) (a_sc 0 0) r34, wTokens E a_tk (a_tp 0) r28.2.2.2, wBArr E n_tp a_tp u_tp, wPhrase E a_ph (a_sc 6 0) r28.2.1, wScript E (a_sc 0) (a_sc 1 0) (a_sc 2 0) (a_sc 3 0) (a_sc 4 0) (a_sc 5 0) (a_sc 6 0) (a_sc 7 0) u32, wRoll E 6 (a_sc 1) (u_sc 1), wRoll E 6 (a_sc 2) (u_sc 2), wRoll E 4 (a_sc 3) (u_sc 3), wRoll E 14 (a_sc 4) (u_sc 4), wFormula E (a_sc 5) (u_sc 5), wFormula E (a_sc 6) r28.2.2.1, wFormula E (a_sc 7) (u_sc 7)])) (As := [.int x30]) (rest := []) (st1 := []) C hK (tX6_blame l E a_rd (a_ph 0) (a_sc 0 0) (r5.2) a_tk (a_tp 0) (r28.2.2.2) x30 r34 er34.symm) lk_X6_70 (by rw [hRf, hRl]; decide) ⟨Nat.zero_le _, Nat.zero_le _⟩ hB hD hN [0, 1] (by decide) rfl (fun _ => rfl) (fun _ => rfl) (rc_X6 hK (hB.1 0 _ rfl)) rfl hl.1 rfl rfl (Nat.le_of_ble_eq_true rfl) dX6_readLaw_148 (fun H locs q35 hB => ?_)
            have hB : WB E ad s.heap [wReader E a_rd (a_tk 0) (a_ph 0) (a_sc 0 0) r34, wTokens E a_tk (a_tp 0) r28.2.2.2, wBArr E n_tp a_tp u_tp, wPhrase E a_ph (a_sc 6 0) r28.2.1, wScript E (a_sc 0) (a_sc 1 0) (a_sc 2 0) (a_sc 3 0) (a_sc 4 0) (a_sc 5 0) (a_sc 6 0) (a_sc 7 0) u32, wRoll E 6 (a_sc 1) (u_sc 1), wRoll E 6 (a_sc 2) (u_sc 2), wRoll E 4 (a_sc 3) (u_sc 3), wRoll E 14 (a_sc 4) (u_sc 4), wFormula E (a_sc 5) (u_sc 5), wFormula E (a_sc 6) r28.2.2.1, wFormula E (a_sc 7) (u_sc 7)] H locs := hB
            have hf := Option.some.inj hf
            subst hf
            exact hQ _ _ H locs (fun j => if j = 0 then (a_sc 6 0) else 0) hB dX6_readLaw_151
        · have hf := (if_neg c24).symm.trans hf
          refine lv_aload_n hx hb dX6_readLaw_66 rfl (lv_at hl 1 rfl) ?_
          refine lv_iconst (v := 3) hx hb dX6_readLaw_67 (by decide) ?_
          obtain ⟨r36, er36, hf⟩ := ox_ex hf
          refine cxVX (bs1 := (fun q => [wReader E a_rd (a_tk 0) (a_ph 0) (a_sc 0 0) r36, wTokens E a_tk (a_tp 0) r1, wBArr E n_tp a_tp u_tp, wPhrase E a_ph q_ph_0_formula u_ph, wScript E (a_sc 0) (a_sc 1 0) (a_sc 2 0) (a_sc 3 0) (a_sc 4 0) (a_sc 5 0) (a_sc 6 0) (a_sc 7 0) (u_sc 0), wRoll E 6 (a_sc 1) (u_sc 1), wRoll E 6 (a_sc 2) (u_sc 2), wRoll E 4 (a_sc 3) (u_sc 3), wRoll E 14 (a_sc 4) (u_sc 4), wFormula E (a_sc 5) (u_sc 5), wFormula E (a_sc 6) (u_sc 6), wFormula E (a_sc 7) (u_sc 7)])) (As := [.int (3 : Int32)]) (rest := []) (st1 := []) C hK (tX6_blame l E a_rd (a_ph 0) (a_sc 0 0) (r5.2) a_tk (a_tp 0) r1 (3 : Int32) r36 er36.symm) lk_X6_70 (by rw [hRf, hRl]; decide) ⟨Nat.zero_le _, Nat.zero_le _⟩ hB hD hN [0, 1] (by decide) rfl (fun _ => rfl) (fun _ => rfl) (rc_X6 hK (hB.1 0 _ rfl)) rfl hl.1 rfl rfl (Nat.le_of_ble_eq_true rfl) dX6_readLaw_68 (fun H locs q37 hB => ?_)
          have hB : WB E ad s.heap [wReader E a_rd (a_tk 0) (a_ph 0) (a_sc 0 0) r36, wTokens E a_tk (a_tp 0) r1, wBArr E n_tp a_tp u_tp, wPhrase E a_ph q_ph_0_formula u_ph, wScript E (a_sc 0) (a_sc 1 0) (a_sc 2 0) (a_sc 3 0) (a_sc 4 0) (a_sc 5 0) (a_sc 6 0) (a_sc 7 0) (u_sc 0), wRoll E 6 (a_sc 1) (u_sc 1), wRoll E 6 (a_sc 2) (u_sc 2), wRoll E 4 (a_sc 3) (u_sc 3), wRoll E 14 (a_sc 4) (u_sc 4), wFormula E (a_sc 5) (u_sc 5), wFormula E (a_sc 6) (u_sc 6), wFormula E (a_sc 7) (u_sc 7)] H locs := hB
          have hf := Option.some.inj hf
          subst hf
          exact hQ _ _ H locs (fun j => if j = 0 then q_ph_0_formula else 0) hB dX6_readLaw_71
      have hf := (if_neg c23).symm.trans hf
      by_cases c38 : x3 = 2
      · have hf := (if_pos c38).symm.trans hf
        refine bx_aaldK C hK (hB.1 4 _ rfl) 1 rfl (k := 2) c38 dX6_readLaw_59 (q := (a_sc 7 0)) rfl (by decide) ?_
        refine gf_X6_X0_isTold C hK (hB.1 11 _ rfl) dX6_readLaw_60 ?_
        refine lv_if_eq (tgt := 72) hx hb dX6_readLaw_63 (by decide) (fun c39 => ?_) (fun c39 => ?_)
        · have hf := (if_pos c39).symm.trans hf
          refine lv_aload_n hx hb dX6_readLaw_72 rfl (lv_at hl 1 rfl) ?_
          refine gf_X6_X6_tokens C hK (hB.1 0 _ rfl) dX6_readLaw_73 ?_
          obtain ⟨r40, hr40, hf⟩ := ox_bind hf
          refine cxVX (bs1 := (fun q => [wReader E a_rd (a_tk 0) (a_ph 0) (a_sc 0 0) r5.2, wTokens E a_tk (a_tp 0) r40, wBArr E n_tp a_tp u_tp, wPhrase E a_ph q_ph_0_formula u_ph, wScript E (a_sc 0) (a_sc 1 0) (a_sc 2 0) (a_sc 3 0) (a_sc 4 0) (a_sc 5 0) (a_sc 6 0) (a_sc 7 0) (u_sc 0), wRoll E 6 (a_sc 1) (u_sc 1), wRoll E 6 (a_sc 2) (u_sc 2), wRoll E 4 (a_sc 3) (u_sc 3), wRoll E 14 (a_sc 4) (u_sc 4), wFormula E (a_sc 5) (u_sc 5), wFormula E (a_sc 6) (u_sc 6), wFormula E (a_sc 7) (u_sc 7)])) (As := []) (rest := []) (st1 := []) C hK (tX10_next l E a_tk r1 n_tp a_tp u_tp r40 hr40) lk_X6_64 (by rw [hRf, hRl]; decide) ⟨Nat.zero_le _, Nat.zero_le _⟩ hB hD hN [1, 2] (by decide) rfl (fun _ => rfl) (fun _ => rfl) (rc_X10 hK (hB.1 1 _ rfl)) rfl hl.1 rfl rfl (Nat.le_of_ble_eq_true rfl) dX6_readLaw_76 (fun H locs q41 hB => ?_)
          have hB : WB E ad s.heap [wReader E a_rd (a_tk 0) (a_ph 0) (a_sc 0 0) r5.2, wTokens E a_tk (a_tp 0) r40, wBArr E n_tp a_tp u_tp, wPhrase E a_ph q_ph_0_formula u_ph, wScript E (a_sc 0) (a_sc 1 0) (a_sc 2 0) (a_sc 3 0) (a_sc 4 0) (a_sc 5 0) (a_sc 6 0) (a_sc 7 0) (u_sc 0), wRoll E 6 (a_sc 1) (u_sc 1), wRoll E 6 (a_sc 2) (u_sc 2), wRoll E 4 (a_sc 3) (u_sc 3), wRoll E 14 (a_sc 4) (u_sc 4), wFormula E (a_sc 5) (u_sc 5), wFormula E (a_sc 6) (u_sc 6), wFormula E (a_sc 7) (u_sc 7)] H locs := hB
          refine lv_aload_n hx hb dX6_readLaw_79 rfl (lv_at hl 1 rfl) ?_
          refine gf_X6_X6_script C hK (hB.1 0 _ rfl) dX6_readLaw_80 ?_
          refine gf_X6_X8_laws C hK (hB.1 4 _ rfl) dX6_readLaw_83 ?_
          refine lv_iload_n hx hb dX6_readLaw_86 rfl (lv_at hl 0 rfl) ?_
          refine bx_aaldK C hK (hB.1 4 _ rfl) 1 rfl (k := 2) c38 dX6_readLaw_87 (q := (a_sc 7 0)) rfl (by decide) ?_
          refine lv_iconst (v := 1) hx hb dX6_readLaw_88 (by decide) ?_
          refine pf_X6_X0_isTold C hK hB hD 11 rfl (by decide) dX6_readLaw_89 (fun H locs u42 eu42 hB => ?_)
          have hf := ox_lt eu42 hf
          have hB : WB E ad s.heap [wReader E a_rd (a_tk 0) (a_ph 0) (a_sc 0 0) r5.2, wTokens E a_tk (a_tp 0) r40, wBArr E n_tp a_tp u_tp, wPhrase E a_ph q_ph_0_formula u_ph, wScript E (a_sc 0) (a_sc 1 0) (a_sc 2 0) (a_sc 3 0) (a_sc 4 0) (a_sc 5 0) (a_sc 6 0) (a_sc 7 0) (u_sc 0), wRoll E 6 (a_sc 1) (u_sc 1), wRoll E 6 (a_sc 2) (u_sc 2), wRoll E 4 (a_sc 3) (u_sc 3), wRoll E 14 (a_sc 4) (u_sc 4), wFormula E (a_sc 5) (u_sc 5), wFormula E (a_sc 6) (u_sc 6), wFormula E (a_sc 7) u42] H locs := hB
          refine lv_aload_n hx hb dX6_readLaw_92 rfl (lv_at hl 1 rfl) ?_
          refine gf_X6_X6_phrase C hK (hB.1 0 _ rfl) dX6_readLaw_93 ?_
          refine lv_aload_n hx hb dX6_readLaw_96 rfl (lv_at hl 1 rfl) ?_
          refine gf_X6_X6_script C hK (hB.1 0 _ rfl) dX6_readLaw_97 ?_
          refine gf_X6_X8_laws C hK (hB.1 4 _ rfl) dX6_readLaw_100 ?_
          refine lv_iload_n hx hb dX6_readLaw_103 rfl (lv_at hl 0 rfl) ?_
          refine bx_aaldK C hK (hB.1 4 _ rfl) 1 rfl (k := 2) c38 dX6_readLaw_104 (q := (a_sc 7 0)) rfl (by decide) ?_
          refine lv_aload_n hx hb dX6_readLaw_105 rfl (lv_at hl 1 rfl) ?_
          refine gf_X6_X6_tokens C hK (hB.1 0 _ rfl) dX6_readLaw_106 ?_
          refine lv_bipush (v := 64) hx hb dX6_readLaw_109 (by decide) ?_
          refine lv_aload_n hx hb dX6_readLaw_111 rfl (lv_at hl 1 rfl) ?_
          refine gf_X6_X6_script C hK (hB.1 0 _ rfl) dX6_readLaw_112 ?_
          refine gf_X6_X8_knots C hK (hB.1 4 _ rfl) dX6_readLaw_115 ?_
          refine lv_isub hx hb dX6_readLaw_118 ?_
          obtain ⟨r43, hr43, hf⟩ := ox_bind hf
          refine cxVX (bs1 := (fun q => [wReader E a_rd (a_tk 0) (a_ph 0) (a_sc 0 0) r5.2, wTokens E a_tk (a_tp 0) r43.2.2.2, wBArr E n_tp a_tp u_tp, wPhrase E a_ph (a_sc 7 0) r43.2.1, wScript E (a_sc 0) (a_sc 1 0) (a_sc 2 0) (a_sc 3 0) (a_sc 4 0) (a_sc 5 0) (a_sc 6 0) (a_sc 7 0) (u_sc 0), wRoll E 6 (a_sc 1) (u_sc 1), wRoll E 6 (a_sc 2) (u_sc 2), wRoll E 4 (a_sc 3) (u_sc 3), wRoll E 14 (a_sc 4) (u_sc 4), wFormula E (a_sc 5) (u_sc 5), wFormula E (a_sc 6) (u_sc 6), wFormula E (a_sc 7) r43.2.2.1])) (As := [.ref (a_sc 7 0), .ref (a_tk 0), .int ((64 : Int32) - (gI (u_sc 0) 9))]) (rest := []) (st1 := [.int r43.1]) C hK (tX5_readInto l E a_ph q_ph_0_formula u_ph (a_sc 7) u42 a_tk r40 n_tp a_tp u_tp ((64 : Int32) - (gI (u_sc 0) 9)) r43 hr43) lk_X6_153 (by rw [hRf, hRl]; decide) ⟨Nat.zero_le _, Nat.zero_le _⟩ hB hD hN [3, 11, 1, 2] (by decide) rfl (fun _ => rfl) (fun _ => rfl) (rc_X5 hK (hB.1 3 _ rfl)) rfl hl.1 rfl rfl (Nat.le_of_ble_eq_true rfl) dX6_readLaw_119 (fun H locs q44 hB => ?_)
          have hB : WB E ad s.heap [wReader E a_rd (a_tk 0) (a_ph 0) (a_sc 0 0) r5.2, wTokens E a_tk (a_tp 0) r43.2.2.2, wBArr E n_tp a_tp u_tp, wPhrase E a_ph (a_sc 7 0) r43.2.1, wScript E (a_sc 0) (a_sc 1 0) (a_sc 2 0) (a_sc 3 0) (a_sc 4 0) (a_sc 5 0) (a_sc 6 0) (a_sc 7 0) (u_sc 0), wRoll E 6 (a_sc 1) (u_sc 1), wRoll E 6 (a_sc 2) (u_sc 2), wRoll E 4 (a_sc 3) (u_sc 3), wRoll E 14 (a_sc 4) (u_sc 4), wFormula E (a_sc 5) (u_sc 5), wFormula E (a_sc 6) (u_sc 6), wFormula E (a_sc 7) r43.2.2.1] H locs := hB
          refine lv_topi (fun x45 ex45 => ?_)
          have hf := ox_lt ex45 hf
          refine lv_istore_n (lv' := [(2, .int x45), (1, .int x3), (0, .ref (a_rd 0))]) hx hb dX6_readLaw_122 rfl hl (by decide) rfl (fun ls hl => ?_)
          refine lv_aload_n hx hb dX6_readLaw_123 rfl (lv_at hl 2 rfl) ?_
          refine gf_X6_X6_script C hK (hB.1 0 _ rfl) dX6_readLaw_124 ?_
          refine lv_dup hx hb dX6_readLaw_127 rfl ?_
          refine gf_X6_X8_knots C hK (hB.1 4 _ rfl) dX6_readLaw_128 ?_
          refine lv_aload_n hx hb dX6_readLaw_131 rfl (lv_at hl 2 rfl) ?_
          refine gf_X6_X6_phrase C hK (hB.1 0 _ rfl) dX6_readLaw_132 ?_
          refine gf_X6_X5_knots C hK (hB.1 3 _ rfl) dX6_readLaw_135 ?_
          refine lv_iadd hx hb dX6_readLaw_138 ?_
          refine lv_topi (fun x46 ex46 => ?_)
          have hf := ox_lt ex46 hf
          refine pf_X6_X8_knots C hK hB hD 4 rfl dX6_readLaw_139 (fun H locs u47 eu47 hB => ?_)
          have hf := ox_lt eu47 hf
          have hB : WB E ad s.heap [wReader E a_rd (a_tk 0) (a_ph 0) (a_sc 0 0) r5.2, wTokens E a_tk (a_tp 0) r43.2.2.2, wBArr E n_tp a_tp u_tp, wPhrase E a_ph (a_sc 7 0) r43.2.1, wScript E (a_sc 0) (a_sc 1 0) (a_sc 2 0) (a_sc 3 0) (a_sc 4 0) (a_sc 5 0) (a_sc 6 0) (a_sc 7 0) u47, wRoll E 6 (a_sc 1) (u_sc 1), wRoll E 6 (a_sc 2) (u_sc 2), wRoll E 4 (a_sc 3) (u_sc 3), wRoll E 14 (a_sc 4) (u_sc 4), wFormula E (a_sc 5) (u_sc 5), wFormula E (a_sc 6) (u_sc 6), wFormula E (a_sc 7) r43.2.2.1] H locs := hB
          refine lv_iload_n hx hb dX6_readLaw_142 rfl (lv_at hl 0 rfl) ?_
          refine lv_if_eq (tgt := 151) hx hb dX6_readLaw_143 (by decide) (fun c48 => ?_) (fun c48 => ?_)
          · have hf := (if_pos c48).symm.trans hf
            have hf := Option.some.inj hf
            subst hf
            exact hQ _ _ H locs (fun j => if j = 0 then (a_sc 7 0) else 0) hB dX6_readLaw_151
          · have hf := (if_neg c48).symm.trans hf
            refine lv_aload_n hx hb dX6_readLaw_146 rfl (lv_at hl 2 rfl) ?_
            refine lv_iload_n hx hb dX6_readLaw_147 rfl (lv_at hl 0 rfl) ?_
            obtain ⟨r49, er49, hf⟩ := ox_ex hf
            refine cxVX (bs1 := (fun q => [wReader E a_rd (a_tk 0) (a_ph 0) (a_sc 0 0) r49, wTokens E a_tk (a_tp 0) r43.2.2.2, wBArr E n_tp a_tp u_tp, wPhrase E a_ph (a_sc 7 0) r43.2.1, wScript E (a_sc 0) (a_sc 1 0) (a_sc 2 0) (a_sc 3 0) (a_sc 4 0) (a_sc 5 0) (a_sc 6 0) (a_sc 7 0) u47, wRoll E 6 (a_sc 1) (u_sc 1), wRoll E 6 (a_sc 2) (u_sc 2), wRoll E 4 (a_sc 3) (u_sc 3), wRoll E 14 (a_sc 4) (u_sc 4), wFormula E (a_sc 5) (u_sc 5), wFormula E (a_sc 6) (u_sc 6), wFormula E (a_sc 7) r43.2.2.1])) (As := [.int x45]) (rest := []) (st1 := []) C hK (tX6_blame l E a_rd (a_ph 0) (a_sc 0 0) (r5.2) a_tk (a_tp 0) (r43.2.2.2) x45 r49 er49.symm) lk_X6_70 (by rw [hRf, hRl]; decide) ⟨Nat.zero_le _, Nat.zero_le _⟩ hB hD hN [0, 1] (by decide) rfl (fun _ => rfl) (fun _ => rfl) (rc_X6 hK (hB.1 0 _ rfl)) rfl hl.1 rfl rfl (Nat.le_of_ble_eq_true rfl) dX6_readLaw_148 (fun H locs q50 hB => ?_)
            have hB : WB E ad s.heap [wReader E a_rd (a_tk 0) (a_ph 0) (a_sc 0 0) r49, wTokens E a_tk (a_tp 0) r43.2.2.2, wBArr E n_tp a_tp u_tp, wPhrase E a_ph (a_sc 7 0) r43.2.1, wScript E (a_sc 0) (a_sc 1 0) (a_sc 2 0) (a_sc 3 0) (a_sc 4 0) (a_sc 5 0) (a_sc 6 0) (a_sc 7 0) u47, wRoll E 6 (a_sc 1) (u_sc 1), wRoll E 6 (a_sc 2) (u_sc 2), wRoll E 4 (a_sc 3) (u_sc 3), wRoll E 14 (a_sc 4) (u_sc 4), wFormula E (a_sc 5) (u_sc 5), wFormula E (a_sc 6) (u_sc 6), wFormula E (a_sc 7) r43.2.2.1] H locs := hB
            have hf := Option.some.inj hf
            subst hf
            exact hQ _ _ H locs (fun j => if j = 0 then (a_sc 7 0) else 0) hB dX6_readLaw_151
        · have hf := (if_neg c39).symm.trans hf
          refine lv_aload_n hx hb dX6_readLaw_66 rfl (lv_at hl 1 rfl) ?_
          refine lv_iconst (v := 3) hx hb dX6_readLaw_67 (by decide) ?_
          obtain ⟨r51, er51, hf⟩ := ox_ex hf
          refine cxVX (bs1 := (fun q => [wReader E a_rd (a_tk 0) (a_ph 0) (a_sc 0 0) r51, wTokens E a_tk (a_tp 0) r1, wBArr E n_tp a_tp u_tp, wPhrase E a_ph q_ph_0_formula u_ph, wScript E (a_sc 0) (a_sc 1 0) (a_sc 2 0) (a_sc 3 0) (a_sc 4 0) (a_sc 5 0) (a_sc 6 0) (a_sc 7 0) (u_sc 0), wRoll E 6 (a_sc 1) (u_sc 1), wRoll E 6 (a_sc 2) (u_sc 2), wRoll E 4 (a_sc 3) (u_sc 3), wRoll E 14 (a_sc 4) (u_sc 4), wFormula E (a_sc 5) (u_sc 5), wFormula E (a_sc 6) (u_sc 6), wFormula E (a_sc 7) (u_sc 7)])) (As := [.int (3 : Int32)]) (rest := []) (st1 := []) C hK (tX6_blame l E a_rd (a_ph 0) (a_sc 0 0) (r5.2) a_tk (a_tp 0) r1 (3 : Int32) r51 er51.symm) lk_X6_70 (by rw [hRf, hRl]; decide) ⟨Nat.zero_le _, Nat.zero_le _⟩ hB hD hN [0, 1] (by decide) rfl (fun _ => rfl) (fun _ => rfl) (rc_X6 hK (hB.1 0 _ rfl)) rfl hl.1 rfl rfl (Nat.le_of_ble_eq_true rfl) dX6_readLaw_68 (fun H locs q52 hB => ?_)
          have hB : WB E ad s.heap [wReader E a_rd (a_tk 0) (a_ph 0) (a_sc 0 0) r51, wTokens E a_tk (a_tp 0) r1, wBArr E n_tp a_tp u_tp, wPhrase E a_ph q_ph_0_formula u_ph, wScript E (a_sc 0) (a_sc 1 0) (a_sc 2 0) (a_sc 3 0) (a_sc 4 0) (a_sc 5 0) (a_sc 6 0) (a_sc 7 0) (u_sc 0), wRoll E 6 (a_sc 1) (u_sc 1), wRoll E 6 (a_sc 2) (u_sc 2), wRoll E 4 (a_sc 3) (u_sc 3), wRoll E 14 (a_sc 4) (u_sc 4), wFormula E (a_sc 5) (u_sc 5), wFormula E (a_sc 6) (u_sc 6), wFormula E (a_sc 7) (u_sc 7)] H locs := hB
          have hf := Option.some.inj hf
          subst hf
          exact hQ _ _ H locs (fun j => if j = 0 then q_ph_0_formula else 0) hB dX6_readLaw_71
      have hf := (if_neg c38).symm.trans hf
      cases hf
    · have hf := (if_pos c7).symm.trans hf
      have hf := Option.some.inj hf
      subst hf
      exact hQ _ _ H locs (fun j => if j = 0 then q_ph_0_formula else 0) hB dX6_readLaw_50
  refine lv_icmp_ne (tgt := 43) hx hb dX6_readLaw_27 (by decide) (fun c53 => ?_) (fun c53 => ?_)
  · refine lv_iconst (v := 0) hx hb dX6_readLaw_43 (by decide) ?_
    exact ox_topi ((ex4).trans (if_neg c53)).symm hjx4
  · refine lv_iload_n hx hb dX6_readLaw_30 rfl (lv_at hl 0 rfl) ?_
    refine lv_if_lt (tgt := 43) hx hb dX6_readLaw_31 (by decide) (fun c54 => ?_) (fun c54 => ?_)
    · refine lv_iconst (v := 0) hx hb dX6_readLaw_43 (by decide) ?_
      exact ox_topi (((ex4).trans (if_pos c53)).trans (if_pos c54)).symm hjx4
    · refine lv_iload_n hx hb dX6_readLaw_34 rfl (lv_at hl 0 rfl) ?_
      refine lv_iconst (v := 2) hx hb dX6_readLaw_35 (by decide) ?_
      refine lv_icmp_gt (tgt := 43) hx hb dX6_readLaw_36 (by decide) (fun c55 => ?_) (fun c55 => ?_)
      · refine lv_iconst (v := 0) hx hb dX6_readLaw_43 (by decide) ?_
        exact ox_topi ((((ex4).trans (if_pos c53)).trans (if_neg c54)).trans (if_pos c55)).symm hjx4
      · refine lv_iconst (v := 1) hx hb dX6_readLaw_39 (by decide) ?_
        refine lv_goto (tgt := 44) hx hb dX6_readLaw_40 (by decide) ?_
        exact ox_topi ((((ex4).trans (if_pos c53)).trans (if_neg c54)).trans (if_neg c55)).symm hjx4
set_option maxHeartbeats 4000000 in
set_option maxRecDepth 20000 in
theorem tX6_readLine (l : Launch) (E : Ev) (a_rd : Nat → Nat) (u_rd : St) (a_tk : Nat → Nat) (u_tk : St) (n_tp : Nat) (a_tp : Nat → Nat) (u_tp : St) (a_ph : Nat → Nat) (q_ph_0_formula : Nat) (u_ph : St) (a_sc : Nat → Nat → Nat) (u_sc : Nat → St) (res : St × St × St × (Nat → St)) (hf : fX6_readLine n_tp u_rd u_tk u_tp u_ph u_sc = some res) : MX l E yX6_readLine cX6_readLine 1 none (rmm 5 122) [wReader E a_rd (a_tk 0) (a_ph 0) (a_sc 0 0) u_rd, wTokens E a_tk (a_tp 0) u_tk, wBArr E n_tp a_tp u_tp, wPhrase E a_ph q_ph_0_formula u_ph, wScript E (a_sc 0) (a_sc 1 0) (a_sc 2 0) (a_sc 3 0) (a_sc 4 0) (a_sc 5 0) (a_sc 6 0) (a_sc 7 0) (u_sc 0), wRoll E 6 (a_sc 1) (u_sc 1), wRoll E 6 (a_sc 2) (u_sc 2), wRoll E 4 (a_sc 3) (u_sc 3), wRoll E 14 (a_sc 4) (u_sc 4), wFormula E (a_sc 5) (u_sc 5), wFormula E (a_sc 6) (u_sc 6), wFormula E (a_sc 7) (u_sc 7)] (fun q => [wReader E a_rd (a_tk 0) (a_ph 0) (a_sc 0 0) res.1, wTokens E a_tk (a_tp 0) res.2.1, wBArr E n_tp a_tp u_tp, wPhrase E a_ph (q 0) res.2.2.1, wScript E (a_sc 0) (a_sc 1 0) (a_sc 2 0) (a_sc 3 0) (a_sc 4 0) (a_sc 5 0) (a_sc 6 0) (a_sc 7 0) (res.2.2.2 0), wRoll E 6 (a_sc 1) (res.2.2.2 1), wRoll E 6 (a_sc 2) (res.2.2.2 2), wRoll E 4 (a_sc 3) (res.2.2.2 3), wRoll E 14 (a_sc 4) (res.2.2.2 4), wFormula E (a_sc 5) (res.2.2.2 5), wFormula E (a_sc 6) (res.2.2.2 6), wFormula E (a_sc 7) (res.2.2.2 7)]) [.ref (a_rd 0)] none := by
  unfold fX6_readLine at hf
  refine MX.ofV rfl (by decide) (Nat.le_of_ble_eq_true rfl) ?_
  intro p e R s m args below meth c ls Q ad H hRf hRl C hB hD hK hN hl hQ
  generalize hlocs : ([] : List Loc) = locs at hB ⊢
  clear hlocs
  have hx := C.1
  have hb := C.2.1
  have hl : lv_has ls 1 [(0, .ref (a_rd 0))] := hl
  refine lv_aload_n hx hb dX6_readLine_0 rfl (lv_at hl 0 rfl) ?_
  refine lv_aload_n hx hb dX6_readLine_1 rfl (lv_at hl 0 rfl) ?_
  refine gf_X6_X6_tokens C hK (hB.1 0 _ rfl) dX6_readLine_2 ?_
  refine gf_X6_X10_kind C hK (hB.1 1 _ rfl) dX6_readLine_5 ?_
  refine lv_iconst (v := 2) hx hb dX6_readLine_8 (by decide) ?_
  obtain ⟨x1, ex1, hf⟩ := ox_ex hf
  have hjx1 : W p l e R s m args below meth c H locs 0 0 Q (F0 m 29 ls [.int x1, .ref (a_rd 0)]) := by
    obtain ⟨r2, er2, hf⟩ := ox_ex hf
    refine cxVX (bs1 := (fun q => [wReader E a_rd (a_tk 0) (a_ph 0) (a_sc 0 0) r2.2, wTokens E a_tk (a_tp 0) u_tk, wBArr E n_tp a_tp u_tp, wPhrase E a_ph q_ph_0_formula u_ph, wScript E (a_sc 0) (a_sc 1 0) (a_sc 2 0) (a_sc 3 0) (a_sc 4 0) (a_sc 5 0) (a_sc 6 0) (a_sc 7 0) (u_sc 0), wRoll E 6 (a_sc 1) (u_sc 1), wRoll E 6 (a_sc 2) (u_sc 2), wRoll E 4 (a_sc 3) (u_sc 3), wRoll E 14 (a_sc 4) (u_sc 4), wFormula E (a_sc 5) (u_sc 5), wFormula E (a_sc 6) (u_sc 6), wFormula E (a_sc 7) (u_sc 7)])) (As := [.int x1]) (rest := []) (st1 := [.int r2.1]) C hK (tX6_isDue l E a_rd (a_ph 0) (a_sc 0 0) u_rd a_tk (a_tp 0) u_tk x1 r2 er2.symm) lk_X6_57 (by rw [hRf, hRl]; decide) ⟨Nat.zero_le _, Nat.zero_le _⟩ hB hD hN [0, 1] (by decide) rfl (fun _ => rfl) (fun _ => rfl) (rc_X6 hK (hB.1 0 _ rfl)) rfl hl.1 rfl rfl (Nat.le_of_ble_eq_true rfl) dX6_readLine_29 (fun H locs q3 hB => ?_)
    have hB : WB E ad s.heap [wReader E a_rd (a_tk 0) (a_ph 0) (a_sc 0 0) r2.2, wTokens E a_tk (a_tp 0) u_tk, wBArr E n_tp a_tp u_tp, wPhrase E a_ph q_ph_0_formula u_ph, wScript E (a_sc 0) (a_sc 1 0) (a_sc 2 0) (a_sc 3 0) (a_sc 4 0) (a_sc 5 0) (a_sc 6 0) (a_sc 7 0) (u_sc 0), wRoll E 6 (a_sc 1) (u_sc 1), wRoll E 6 (a_sc 2) (u_sc 2), wRoll E 4 (a_sc 3) (u_sc 3), wRoll E 14 (a_sc 4) (u_sc 4), wFormula E (a_sc 5) (u_sc 5), wFormula E (a_sc 6) (u_sc 6), wFormula E (a_sc 7) (u_sc 7)] H locs := hB
    refine lv_if_ne (tgt := 36) hx hb dX6_readLine_32 (by decide) (fun c4 => ?_) (fun c4 => ?_)
    · have hf := (if_neg c4).symm.trans hf
      refine lv_aload_n hx hb dX6_readLine_36 rfl (lv_at hl 0 rfl) ?_
      refine gf_X6_X6_tokens C hK (hB.1 0 _ rfl) dX6_readLine_37 ?_
      refine gf_X6_X10_value C hK (hB.1 1 _ rfl) dX6_readLine_40 ?_
      refine lv_topi (fun x5 ex5 => ?_)
      have hf := ox_lt ex5 hf
      by_cases c6 : x5 = 0
      · have hf := (if_pos c6).symm.trans hf
        refine lv_tableIn hx hb dX6_readLine_43 (by rw [c6]; decide) (by rw [c6]; decide) (off := 37) (by rw [c6]; decide) (tgt := 80) (by decide) ?_
        refine lv_aload_n hx hb dX6_readLine_80 rfl (lv_at hl 0 rfl) ?_
        refine lv_aload_n hx hb dX6_readLine_81 rfl (lv_at hl 0 rfl) ?_
        refine gf_X6_X6_script C hK (hB.1 0 _ rfl) dX6_readLine_82 ?_
        refine gf_X6_X8_acts C hK (hB.1 4 _ rfl) dX6_readLine_85 ?_
        refine lv_iconst (v := 1) hx hb dX6_readLine_88 (by decide) ?_
        refine lv_iconst (v := (-1)) hx hb dX6_readLine_89 (by decide) ?_
        obtain ⟨r7, hr7, hf⟩ := ox_bind hf
        refine cxVX (bs1 := (fun q => [wReader E a_rd (a_tk 0) (a_ph 0) (a_sc 0 0) r7.1, wTokens E a_tk (a_tp 0) r7.2.1, wBArr E n_tp a_tp u_tp, wPhrase E a_ph q_ph_0_formula u_ph, wScript E (a_sc 0) (a_sc 1 0) (a_sc 2 0) (a_sc 3 0) (a_sc 4 0) (a_sc 5 0) (a_sc 6 0) (a_sc 7 0) (u_sc 0), wRoll E 6 (a_sc 1) r7.2.2, wRoll E 6 (a_sc 2) (u_sc 2), wRoll E 4 (a_sc 3) (u_sc 3), wRoll E 14 (a_sc 4) (u_sc 4), wFormula E (a_sc 5) (u_sc 5), wFormula E (a_sc 6) (u_sc 6), wFormula E (a_sc 7) (u_sc 7)])) (As := [.ref (a_sc 1 0), .int (1 : Int32), .int (-1 : Int32)]) (rest := []) (st1 := []) C hK (tX6_readThing l E a_rd (a_ph 0) (a_sc 0 0) (r2.2) a_tk u_tk n_tp a_tp u_tp 6 (a_sc 1) (u_sc 1) (1 : Int32) (-1 : Int32) r7 hr7) lk_X6_81 (by rw [hRf, hRl]; decide) ⟨Nat.zero_le _, Nat.zero_le _⟩ hB hD hN [0, 1, 2, 5] (by decide) rfl (fun _ => rfl) (fun _ => rfl) (rc_X6 hK (hB.1 0 _ rfl)) rfl hl.1 rfl rfl (Nat.le_of_ble_eq_true rfl) dX6_readLine_90 (fun H locs q8 hB => ?_)
        have hB : WB E ad s.heap [wReader E a_rd (a_tk 0) (a_ph 0) (a_sc 0 0) r7.1, wTokens E a_tk (a_tp 0) r7.2.1, wBArr E n_tp a_tp u_tp, wPhrase E a_ph q_ph_0_formula u_ph, wScript E (a_sc 0) (a_sc 1 0) (a_sc 2 0) (a_sc 3 0) (a_sc 4 0) (a_sc 5 0) (a_sc 6 0) (a_sc 7 0) (u_sc 0), wRoll E 6 (a_sc 1) r7.2.2, wRoll E 6 (a_sc 2) (u_sc 2), wRoll E 4 (a_sc 3) (u_sc 3), wRoll E 14 (a_sc 4) (u_sc 4), wFormula E (a_sc 5) (u_sc 5), wFormula E (a_sc 6) (u_sc 6), wFormula E (a_sc 7) (u_sc 7)] H locs := hB
        refine lv_goto (tgt := 154) hx hb dX6_readLine_93 (by decide) ?_
        have hf := Option.some.inj hf
        subst hf
        exact hQ _ _ H locs (fun j => if j = 0 then q_ph_0_formula else 0) hB dX6_readLine_154
      have hf := (if_neg c6).symm.trans hf
      by_cases c9 : x5 = 1
      · have hf := (if_pos c9).symm.trans hf
        refine lv_tableIn hx hb dX6_readLine_43 (by rw [c9]; decide) (by rw [c9]; decide) (off := 53) (by rw [c9]; decide) (tgt := 96) (by decide) ?_
        refine lv_aload_n hx hb dX6_readLine_96 rfl (lv_at hl 0 rfl) ?_
        refine lv_aload_n hx hb dX6_readLine_97 rfl (lv_at hl 0 rfl) ?_
        refine gf_X6_X6_script C hK (hB.1 0 _ rfl) dX6_readLine_98 ?_
        refine gf_X6_X8_guests C hK (hB.1 4 _ rfl) dX6_readLine_101 ?_
        refine lv_iconst (v := 0) hx hb dX6_readLine_104 (by decide) ?_
        refine lv_iconst (v := (-1)) hx hb dX6_readLine_105 (by decide) ?_
        obtain ⟨r10, hr10, hf⟩ := ox_bind hf
        refine cxVX (bs1 := (fun q => [wReader E a_rd (a_tk 0) (a_ph 0) (a_sc 0 0) r10.1, wTokens E a_tk (a_tp 0) r10.2.1, wBArr E n_tp a_tp u_tp, wPhrase E a_ph q_ph_0_formula u_ph, wScript E (a_sc 0) (a_sc 1 0) (a_sc 2 0) (a_sc 3 0) (a_sc 4 0) (a_sc 5 0) (a_sc 6 0) (a_sc 7 0) (u_sc 0), wRoll E 6 (a_sc 1) (u_sc 1), wRoll E 6 (a_sc 2) r10.2.2, wRoll E 4 (a_sc 3) (u_sc 3), wRoll E 14 (a_sc 4) (u_sc 4), wFormula E (a_sc 5) (u_sc 5), wFormula E (a_sc 6) (u_sc 6), wFormula E (a_sc 7) (u_sc 7)])) (As := [.ref (a_sc 2 0), .int (0 : Int32), .int (-1 : Int32)]) (rest := []) (st1 := []) C hK (tX6_readThing l E a_rd (a_ph 0) (a_sc 0 0) (r2.2) a_tk u_tk n_tp a_tp u_tp 6 (a_sc 2) (u_sc 2) (0 : Int32) (-1 : Int32) r10 hr10) lk_X6_81 (by rw [hRf, hRl]; decide) ⟨Nat.zero_le _, Nat.zero_le _⟩ hB hD hN [0, 1, 2, 6] (by decide) rfl (fun _ => rfl) (fun _ => rfl) (rc_X6 hK (hB.1 0 _ rfl)) rfl hl.1 rfl rfl (Nat.le_of_ble_eq_true rfl) dX6_readLine_106 (fun H locs q11 hB => ?_)
        have hB : WB E ad s.heap [wReader E a_rd (a_tk 0) (a_ph 0) (a_sc 0 0) r10.1, wTokens E a_tk (a_tp 0) r10.2.1, wBArr E n_tp a_tp u_tp, wPhrase E a_ph q_ph_0_formula u_ph, wScript E (a_sc 0) (a_sc 1 0) (a_sc 2 0) (a_sc 3 0) (a_sc 4 0) (a_sc 5 0) (a_sc 6 0) (a_sc 7 0) (u_sc 0), wRoll E 6 (a_sc 1) (u_sc 1), wRoll E 6 (a_sc 2) r10.2.2, wRoll E 4 (a_sc 3) (u_sc 3), wRoll E 14 (a_sc 4) (u_sc 4), wFormula E (a_sc 5) (u_sc 5), wFormula E (a_sc 6) (u_sc 6), wFormula E (a_sc 7) (u_sc 7)] H locs := hB
        refine lv_goto (tgt := 154) hx hb dX6_readLine_109 (by decide) ?_
        have hf := Option.some.inj hf
        subst hf
        exact hQ _ _ H locs (fun j => if j = 0 then q_ph_0_formula else 0) hB dX6_readLine_154
      have hf := (if_neg c9).symm.trans hf
      by_cases c12 : x5 = 2
      · have hf := (if_pos c12).symm.trans hf
        refine lv_tableIn hx hb dX6_readLine_43 (by rw [c12]; decide) (by rw [c12]; decide) (off := 69) (by rw [c12]; decide) (tgt := 112) (by decide) ?_
        refine lv_aload_n hx hb dX6_readLine_112 rfl (lv_at hl 0 rfl) ?_
        refine lv_aload_n hx hb dX6_readLine_113 rfl (lv_at hl 0 rfl) ?_
        refine gf_X6_X6_script C hK (hB.1 0 _ rfl) dX6_readLine_114 ?_
        refine gf_X6_X8_grains C hK (hB.1 4 _ rfl) dX6_readLine_117 ?_
        refine lv_iconst (v := 0) hx hb dX6_readLine_120 (by decide) ?_
        refine lv_bipush (v := 99) hx hb dX6_readLine_121 (by decide) ?_
        obtain ⟨r13, hr13, hf⟩ := ox_bind hf
        refine cxVX (bs1 := (fun q => [wReader E a_rd (a_tk 0) (a_ph 0) (a_sc 0 0) r13.1, wTokens E a_tk (a_tp 0) r13.2.1, wBArr E n_tp a_tp u_tp, wPhrase E a_ph q_ph_0_formula u_ph, wScript E (a_sc 0) (a_sc 1 0) (a_sc 2 0) (a_sc 3 0) (a_sc 4 0) (a_sc 5 0) (a_sc 6 0) (a_sc 7 0) (u_sc 0), wRoll E 6 (a_sc 1) (u_sc 1), wRoll E 6 (a_sc 2) (u_sc 2), wRoll E 4 (a_sc 3) r13.2.2, wRoll E 14 (a_sc 4) (u_sc 4), wFormula E (a_sc 5) (u_sc 5), wFormula E (a_sc 6) (u_sc 6), wFormula E (a_sc 7) (u_sc 7)])) (As := [.ref (a_sc 3 0), .int (0 : Int32), .int (99 : Int32)]) (rest := []) (st1 := []) C hK (tX6_readThing l E a_rd (a_ph 0) (a_sc 0 0) (r2.2) a_tk u_tk n_tp a_tp u_tp 4 (a_sc 3) (u_sc 3) (0 : Int32) (99 : Int32) r13 hr13) lk_X6_81 (by rw [hRf, hRl]; decide) ⟨Nat.zero_le _, Nat.zero_le _⟩ hB hD hN [0, 1, 2, 7] (by decide) rfl (fun _ => rfl) (fun _ => rfl) (rc_X6 hK (hB.1 0 _ rfl)) rfl hl.1 rfl rfl (Nat.le_of_ble_eq_true rfl) dX6_readLine_123 (fun H locs q14 hB => ?_)
        have hB : WB E ad s.heap [wReader E a_rd (a_tk 0) (a_ph 0) (a_sc 0 0) r13.1, wTokens E a_tk (a_tp 0) r13.2.1, wBArr E n_tp a_tp u_tp, wPhrase E a_ph q_ph_0_formula u_ph, wScript E (a_sc 0) (a_sc 1 0) (a_sc 2 0) (a_sc 3 0) (a_sc 4 0) (a_sc 5 0) (a_sc 6 0) (a_sc 7 0) (u_sc 0), wRoll E 6 (a_sc 1) (u_sc 1), wRoll E 6 (a_sc 2) (u_sc 2), wRoll E 4 (a_sc 3) r13.2.2, wRoll E 14 (a_sc 4) (u_sc 4), wFormula E (a_sc 5) (u_sc 5), wFormula E (a_sc 6) (u_sc 6), wFormula E (a_sc 7) (u_sc 7)] H locs := hB
        refine lv_goto (tgt := 154) hx hb dX6_readLine_126 (by decide) ?_
        have hf := Option.some.inj hf
        subst hf
        exact hQ _ _ H locs (fun j => if j = 0 then q_ph_0_formula else 0) hB dX6_readLine_154
      have hf := (if_neg c12).symm.trans hf
      by_cases c15 : x5 = 3
      · have hf := (if_pos c15).symm.trans hf
        refine lv_tableIn hx hb dX6_readLine_43 (by rw [c15]; decide) (by rw [c15]; decide) (off := 86) (by rw [c15]; decide) (tgt := 129) (by decide) ?_
        refine lv_aload_n hx hb dX6_readLine_129 rfl (lv_at hl 0 rfl) ?_
        obtain ⟨r16, hr16, hf⟩ := ox_bind hf
        refine cxVX (bs1 := (fun q => [wReader E a_rd (a_tk 0) (a_ph 0) (a_sc 0 0) r16.1, wTokens E a_tk (a_tp 0) r16.2.1, wBArr E n_tp a_tp u_tp, wPhrase E a_ph q_ph_0_formula u_ph, wScript E (a_sc 0) (a_sc 1 0) (a_sc 2 0) (a_sc 3 0) (a_sc 4 0) (a_sc 5 0) (a_sc 6 0) (a_sc 7 0) (r16.2.2 0), wRoll E 6 (a_sc 1) (r16.2.2 1), wRoll E 6 (a_sc 2) (r16.2.2 2), wRoll E 4 (a_sc 3) (r16.2.2 3), wRoll E 14 (a_sc 4) (r16.2.2 4), wFormula E (a_sc 5) (r16.2.2 5), wFormula E (a_sc 6) (r16.2.2 6), wFormula E (a_sc 7) (r16.2.2 7)])) (As := []) (rest := []) (st1 := []) C hK (tX6_readShow l E a_rd (a_ph 0) (r2.2) a_tk u_tk n_tp a_tp u_tp a_sc u_sc r16 hr16) lk_X6_91 (by rw [hRf, hRl]; decide) ⟨Nat.zero_le _, Nat.zero_le _⟩ hB hD hN [0, 1, 2, 4, 5, 6, 7, 8, 9, 10, 11] (by decide) rfl (fun _ => rfl) (fun _ => rfl) (rc_X6 hK (hB.1 0 _ rfl)) rfl hl.1 rfl rfl (Nat.le_of_ble_eq_true rfl) dX6_readLine_130 (fun H locs q17 hB => ?_)
        have hB : WB E ad s.heap [wReader E a_rd (a_tk 0) (a_ph 0) (a_sc 0 0) r16.1, wTokens E a_tk (a_tp 0) r16.2.1, wBArr E n_tp a_tp u_tp, wPhrase E a_ph q_ph_0_formula u_ph, wScript E (a_sc 0) (a_sc 1 0) (a_sc 2 0) (a_sc 3 0) (a_sc 4 0) (a_sc 5 0) (a_sc 6 0) (a_sc 7 0) (r16.2.2 0), wRoll E 6 (a_sc 1) (r16.2.2 1), wRoll E 6 (a_sc 2) (r16.2.2 2), wRoll E 4 (a_sc 3) (r16.2.2 3), wRoll E 14 (a_sc 4) (r16.2.2 4), wFormula E (a_sc 5) (r16.2.2 5), wFormula E (a_sc 6) (r16.2.2 6), wFormula E (a_sc 7) (r16.2.2 7)] H locs := hB
        refine lv_goto (tgt := 154) hx hb dX6_readLine_133 (by decide) ?_
        have hf := Option.some.inj hf
        subst hf
        exact hQ _ _ H locs (fun j => if j = 0 then q_ph_0_formula else 0) hB dX6_readLine_154
      have hf := (if_neg c15).symm.trans hf
      by_cases c18 : x5 = 4
      · have hf := (if_pos c18).symm.trans hf
        refine lv_tableIn hx hb dX6_readLine_43 (by rw [c18]; decide) (by rw [c18]; decide) (off := 93) (by rw [c18]; decide) (tgt := 136) (by decide) ?_
        refine lv_aload_n hx hb dX6_readLine_136 rfl (lv_at hl 0 rfl) ?_
        obtain ⟨r19, hr19, hf⟩ := ox_bind hf
        refine cxVX (bs1 := (fun q => [wReader E a_rd (a_tk 0) (a_ph 0) (a_sc 0 0) r19.1, wTokens E a_tk (a_tp 0) r19.2.1, wBArr E n_tp a_tp u_tp, wPhrase E a_ph q_ph_0_formula u_ph, wScript E (a_sc 0) (a_sc 1 0) (a_sc 2 0) (a_sc 3 0) (a_sc 4 0) (a_sc 5 0) (a_sc 6 0) (a_sc 7 0) (r19.2.2 0), wRoll E 6 (a_sc 1) (r19.2.2 1), wRoll E 6 (a_sc 2) (r19.2.2 2), wRoll E 4 (a_sc 3) (r19.2.2 3), wRoll E 14 (a_sc 4) (r19.2.2 4), wFormula E (a_sc 5) (r19.2.2 5), wFormula E (a_sc 6) (r19.2.2 6), wFormula E (a_sc 7) (r19.2.2 7)])) (As := []) (rest := []) (st1 := []) C hK (tX6_readCough l E a_rd (a_ph 0) (r2.2) a_tk u_tk n_tp a_tp u_tp a_sc u_sc r19 hr19) lk_X6_94 (by rw [hRf, hRl]; decide) ⟨Nat.zero_le _, Nat.zero_le _⟩ hB hD hN [0, 1, 2, 4, 5, 6, 7, 8, 9, 10, 11] (by decide) rfl (fun _ => rfl) (fun _ => rfl) (rc_X6 hK (hB.1 0 _ rfl)) rfl hl.1 rfl rfl (Nat.le_of_ble_eq_true rfl) dX6_readLine_137 (fun H locs q20 hB => ?_)
        have hB : WB E ad s.heap [wReader E a_rd (a_tk 0) (a_ph 0) (a_sc 0 0) r19.1, wTokens E a_tk (a_tp 0) r19.2.1, wBArr E n_tp a_tp u_tp, wPhrase E a_ph q_ph_0_formula u_ph, wScript E (a_sc 0) (a_sc 1 0) (a_sc 2 0) (a_sc 3 0) (a_sc 4 0) (a_sc 5 0) (a_sc 6 0) (a_sc 7 0) (r19.2.2 0), wRoll E 6 (a_sc 1) (r19.2.2 1), wRoll E 6 (a_sc 2) (r19.2.2 2), wRoll E 4 (a_sc 3) (r19.2.2 3), wRoll E 14 (a_sc 4) (r19.2.2 4), wFormula E (a_sc 5) (r19.2.2 5), wFormula E (a_sc 6) (r19.2.2 6), wFormula E (a_sc 7) (r19.2.2 7)] H locs := hB
        refine lv_goto (tgt := 154) hx hb dX6_readLine_140 (by decide) ?_
        have hf := Option.some.inj hf
        subst hf
        exact hQ _ _ H locs (fun j => if j = 0 then q_ph_0_formula else 0) hB dX6_readLine_154
      have hf := (if_neg c18).symm.trans hf
      by_cases c21 : x5 = 5
      · have hf := (if_pos c21).symm.trans hf
        refine lv_tableIn hx hb dX6_readLine_43 (by rw [c21]; decide) (by rw [c21]; decide) (off := 100) (by rw [c21]; decide) (tgt := 143) (by decide) ?_
        refine lv_aload_n hx hb dX6_readLine_143 rfl (lv_at hl 0 rfl) ?_
        obtain ⟨r22, hr22, hf⟩ := ox_bind hf
        refine cxVX (bs1 := (fun q => [wReader E a_rd (a_tk 0) (a_ph 0) (a_sc 0 0) r22.1, wTokens E a_tk (a_tp 0) r22.2.1, wBArr E n_tp a_tp u_tp, wPhrase E a_ph q_ph_0_formula u_ph, wScript E (a_sc 0) (a_sc 1 0) (a_sc 2 0) (a_sc 3 0) (a_sc 4 0) (a_sc 5 0) (a_sc 6 0) (a_sc 7 0) (r22.2.2 0), wRoll E 6 (a_sc 1) (r22.2.2 1), wRoll E 6 (a_sc 2) (r22.2.2 2), wRoll E 4 (a_sc 3) (r22.2.2 3), wRoll E 14 (a_sc 4) (r22.2.2 4), wFormula E (a_sc 5) (r22.2.2 5), wFormula E (a_sc 6) (r22.2.2 6), wFormula E (a_sc 7) (r22.2.2 7)])) (As := []) (rest := []) (st1 := []) C hK (tX6_readSeed l E a_rd (a_ph 0) (r2.2) a_tk u_tk n_tp a_tp u_tp a_sc u_sc r22 hr22) lk_X6_97 (by rw [hRf, hRl]; decide) ⟨Nat.zero_le _, Nat.zero_le _⟩ hB hD hN [0, 1, 2, 4, 5, 6, 7, 8, 9, 10, 11] (by decide) rfl (fun _ => rfl) (fun _ => rfl) (rc_X6 hK (hB.1 0 _ rfl)) rfl hl.1 rfl rfl (Nat.le_of_ble_eq_true rfl) dX6_readLine_144 (fun H locs q23 hB => ?_)
        have hB : WB E ad s.heap [wReader E a_rd (a_tk 0) (a_ph 0) (a_sc 0 0) r22.1, wTokens E a_tk (a_tp 0) r22.2.1, wBArr E n_tp a_tp u_tp, wPhrase E a_ph q_ph_0_formula u_ph, wScript E (a_sc 0) (a_sc 1 0) (a_sc 2 0) (a_sc 3 0) (a_sc 4 0) (a_sc 5 0) (a_sc 6 0) (a_sc 7 0) (r22.2.2 0), wRoll E 6 (a_sc 1) (r22.2.2 1), wRoll E 6 (a_sc 2) (r22.2.2 2), wRoll E 4 (a_sc 3) (r22.2.2 3), wRoll E 14 (a_sc 4) (r22.2.2 4), wFormula E (a_sc 5) (r22.2.2 5), wFormula E (a_sc 6) (r22.2.2 6), wFormula E (a_sc 7) (r22.2.2 7)] H locs := hB
        refine lv_goto (tgt := 154) hx hb dX6_readLine_147 (by decide) ?_
        have hf := Option.some.inj hf
        subst hf
        exact hQ _ _ H locs (fun j => if j = 0 then q_ph_0_formula else 0) hB dX6_readLine_154
      have hf := (if_neg c21).symm.trans hf
      have hd26 : W p l e R s m args below meth c H locs 0 0 Q (F0 m 150 ls []) := by
        refine lv_aload_n hx hb dX6_readLine_150 rfl (lv_at hl 0 rfl) ?_
        obtain ⟨r24, hr24, hf⟩ := ox_bind hf
        refine cxVX (bs1 := (fun q => [wReader E a_rd (a_tk 0) (a_ph 0) (a_sc 0 0) r24.1, wTokens E a_tk (a_tp 0) r24.2.1, wBArr E n_tp a_tp u_tp, wPhrase E a_ph (q 0) r24.2.2.1, wScript E (a_sc 0) (a_sc 1 0) (a_sc 2 0) (a_sc 3 0) (a_sc 4 0) (a_sc 5 0) (a_sc 6 0) (a_sc 7 0) (r24.2.2.2 0), wRoll E 6 (a_sc 1) (r24.2.2.2 1), wRoll E 6 (a_sc 2) (r24.2.2.2 2), wRoll E 4 (a_sc 3) (r24.2.2.2 3), wRoll E 14 (a_sc 4) (r24.2.2.2 4), wFormula E (a_sc 5) (r24.2.2.2 5), wFormula E (a_sc 6) (r24.2.2.2 6), wFormula E (a_sc 7) (r24.2.2.2 7)])) (As := []) (rest := []) (st1 := []) C hK (tX6_readLaw l E a_rd (r2.2) a_tk u_tk n_tp a_tp u_tp a_ph q_ph_0_formula u_ph a_sc u_sc r24 hr24) lk_X6_100 (by rw [hRf, hRl]; decide) ⟨Nat.zero_le _, Nat.zero_le _⟩ hB hD hN [0, 1, 2, 3, 4, 5, 6, 7, 8, 9, 10, 11] (by decide) rfl (fun _ => rfl) (fun _ => rfl) (rc_X6 hK (hB.1 0 _ rfl)) rfl hl.1 rfl rfl (Nat.le_of_ble_eq_true rfl) dX6_readLine_151 (fun H locs q25 hB => ?_)
        have hB : WB E ad s.heap [wReader E a_rd (a_tk 0) (a_ph 0) (a_sc 0 0) r24.1, wTokens E a_tk (a_tp 0) r24.2.1, wBArr E n_tp a_tp u_tp, wPhrase E a_ph (q25 0) r24.2.2.1, wScript E (a_sc 0) (a_sc 1 0) (a_sc 2 0) (a_sc 3 0) (a_sc 4 0) (a_sc 5 0) (a_sc 6 0) (a_sc 7 0) (r24.2.2.2 0), wRoll E 6 (a_sc 1) (r24.2.2.2 1), wRoll E 6 (a_sc 2) (r24.2.2.2 2), wRoll E 4 (a_sc 3) (r24.2.2.2 3), wRoll E 14 (a_sc 4) (r24.2.2.2 4), wFormula E (a_sc 5) (r24.2.2.2 5), wFormula E (a_sc 6) (r24.2.2.2 6), wFormula E (a_sc 7) (r24.2.2.2 7)] H locs := hB
        have hf := Option.some.inj hf
        subst hf
        exact hQ _ _ H locs (fun j => if j = 0 then (q25 0) else 0) hB dX6_readLine_154
      have nc6 := lv_neT c6 (show Int32.toInt 0 = 0 from rfl)
      have nc9 := lv_neT c9 (show Int32.toInt 1 = 1 from rfl)
      have nc12 := lv_neT c12 (show Int32.toInt 2 = 2 from rfl)
      have nc15 := lv_neT c15 (show Int32.toInt 3 = 3 from rfl)
      have nc18 := lv_neT c18 (show Int32.toInt 4 = 4 from rfl)
      have nc21 := lv_neT c21 (show Int32.toInt 5 = 5 from rfl)
      rcases (show Int32.toInt x5 < 0 ∨ 5 < Int32.toInt x5 by omega) with h | h
      · exact lv_tableOut hx hb dX6_readLine_43 (Or.inl h) (tgt := 150) (by decide) hd26
      · exact lv_tableOut hx hb dX6_readLine_43 (Or.inr h) (tgt := 150) (by decide) hd26
    · have hf := (if_pos c4).symm.trans hf
      have hf := Option.some.inj hf
      subst hf
      exact hQ _ _ H locs (fun j => if j = 0 then q_ph_0_formula else 0) hB dX6_readLine_35
  refine lv_icmp_ne (tgt := 28) hx hb dX6_readLine_9 (by decide) (fun c27 => ?_) (fun c27 => ?_)
  · refine lv_iconst (v := 0) hx hb dX6_readLine_28 (by decide) ?_
    exact ox_topi ((ex1).trans (if_neg c27)).symm hjx1
  · refine lv_aload_n hx hb dX6_readLine_12 rfl (lv_at hl 0 rfl) ?_
    refine gf_X6_X6_tokens C hK (hB.1 0 _ rfl) dX6_readLine_13 ?_
    refine gf_X6_X10_value C hK (hB.1 1 _ rfl) dX6_readLine_16 ?_
    refine lv_bipush (v := 7) hx hb dX6_readLine_19 (by decide) ?_
    refine lv_icmp_ge (tgt := 28) hx hb dX6_readLine_21 (by decide) (fun c28 => ?_) (fun c28 => ?_)
    · refine lv_iconst (v := 0) hx hb dX6_readLine_28 (by decide) ?_
      exact ox_topi (((ex1).trans (if_pos c27)).trans (if_pos c28)).symm hjx1
    · refine lv_iconst (v := 1) hx hb dX6_readLine_24 (by decide) ?_
      refine lv_goto (tgt := 29) hx hb dX6_readLine_25 (by decide) ?_
      exact ox_topi (((ex1).trans (if_pos c27)).trans (if_neg c28)).symm hjx1
set_option maxHeartbeats 4000000 in
set_option maxRecDepth 20000 in
theorem tX6_readAll (l : Launch) (E : Ev) (a_rd : Nat → Nat) (q_rd_0_script : Nat) (u_rd : St) (a_tk : Nat → Nat) (q_tk_0_bytes : Nat) (u_tk : St) (n_tp : Nat) (a_tp : Nat → Nat) (u_tp : St) (a_ph : Nat → Nat) (q_ph_0_formula : Nat) (u_ph : St) (a_sc : Nat → Nat → Nat) (u_sc : Nat → St) (x_2 : Int32) (res : St × St × St × (Nat → St)) (hf : fX6_readAll n_tp u_rd u_tk u_tp u_ph u_sc x_2 = some res) : MX l E yX6_readAll cX6_readAll 5 none (rmm 6 142) [wReader E a_rd (a_tk 0) (a_ph 0) q_rd_0_script u_rd, wTokens E a_tk q_tk_0_bytes u_tk, wBArr E n_tp a_tp u_tp, wPhrase E a_ph q_ph_0_formula u_ph, wScript E (a_sc 0) (a_sc 1 0) (a_sc 2 0) (a_sc 3 0) (a_sc 4 0) (a_sc 5 0) (a_sc 6 0) (a_sc 7 0) (u_sc 0), wRoll E 6 (a_sc 1) (u_sc 1), wRoll E 6 (a_sc 2) (u_sc 2), wRoll E 4 (a_sc 3) (u_sc 3), wRoll E 14 (a_sc 4) (u_sc 4), wFormula E (a_sc 5) (u_sc 5), wFormula E (a_sc 6) (u_sc 6), wFormula E (a_sc 7) (u_sc 7)] (fun q => [wReader E a_rd (a_tk 0) (a_ph 0) (a_sc 0 0) res.1, wTokens E a_tk (a_tp 0) res.2.1, wBArr E n_tp a_tp u_tp, wPhrase E a_ph (q 0) res.2.2.1, wScript E (a_sc 0) (a_sc 1 0) (a_sc 2 0) (a_sc 3 0) (a_sc 4 0) (a_sc 5 0) (a_sc 6 0) (a_sc 7 0) (res.2.2.2 0), wRoll E 6 (a_sc 1) (res.2.2.2 1), wRoll E 6 (a_sc 2) (res.2.2.2 2), wRoll E 4 (a_sc 3) (res.2.2.2 3), wRoll E 14 (a_sc 4) (res.2.2.2 4), wFormula E (a_sc 5) (res.2.2.2 5), wFormula E (a_sc 6) (res.2.2.2 6), wFormula E (a_sc 7) (res.2.2.2 7)]) [.ref (a_rd 0), .ref (a_tp 0), .int x_2, .ref (a_sc 0 0)] none := by
  unfold fX6_readAll at hf
  refine MX.ofV rfl (by decide) (Nat.le_of_ble_eq_true rfl) ?_
  intro p e R s m args below meth c ls Q ad H hRf hRl C hB hD hK hN hl hQ
  generalize hlocs : ([] : List Loc) = locs at hB ⊢
  clear hlocs
  have hx := C.1
  have hb := C.2.1
  have hl : lv_has ls 5 [(0, .ref (a_rd 0)), (1, .ref (a_tp 0)), (2, .int x_2), (3, .ref (a_sc 0 0))] := hl
  refine lv_aload_n hx hb dX6_readAll_0 rfl (lv_at hl 0 rfl) ?_
  refine lv_aload_n hx hb dX6_readAll_1 rfl (lv_at hl 3 rfl) ?_
  refine pf_X6_X6_script C hK hB hD 0 rfl dX6_readAll_2 (fun H locs hB => ?_)
  have hB : WB E ad s.heap [wReader E a_rd (a_tk 0) (a_ph 0) (a_sc 0 0) u_rd, wTokens E a_tk q_tk_0_bytes u_tk, wBArr E n_tp a_tp u_tp, wPhrase E a_ph q_ph_0_formula u_ph, wScript E (a_sc 0) (a_sc 1 0) (a_sc 2 0) (a_sc 3 0) (a_sc 4 0) (a_sc 5 0) (a_sc 6 0) (a_sc 7 0) (u_sc 0), wRoll E 6 (a_sc 1) (u_sc 1), wRoll E 6 (a_sc 2) (u_sc 2), wRoll E 4 (a_sc 3) (u_sc 3), wRoll E 14 (a_sc 4) (u_sc 4), wFormula E (a_sc 5) (u_sc 5), wFormula E (a_sc 6) (u_sc 6), wFormula E (a_sc 7) (u_sc 7)] H locs := hB
  refine lv_aload_n hx hb dX6_readAll_5 rfl (lv_at hl 0 rfl) ?_
  refine gf_X6_X6_script C hK (hB.1 0 _ rfl) dX6_readAll_6 ?_
  obtain ⟨r1, hr1, hf⟩ := ox_bind hf
  refine cxVX (bs1 := (fun q => [wReader E a_rd (a_tk 0) (a_ph 0) (a_sc 0 0) u_rd, wTokens E a_tk q_tk_0_bytes u_tk, wBArr E n_tp a_tp u_tp, wPhrase E a_ph q_ph_0_formula u_ph, wScript E (a_sc 0) (a_sc 1 0) (a_sc 2 0) (a_sc 3 0) (a_sc 4 0) (a_sc 5 0) (a_sc 6 0) (a_sc 7 0) (r1 0), wRoll E 6 (a_sc 1) (r1 1), wRoll E 6 (a_sc 2) (r1 2), wRoll E 4 (a_sc 3) (r1 3), wRoll E 14 (a_sc 4) (r1 4), wFormula E (a_sc 5) (r1 5), wFormula E (a_sc 6) (r1 6), wFormula E (a_sc 7) (r1 7)])) (As := []) (rest := []) (st1 := []) C hK (tX8_forget l E a_sc u_sc r1 hr1) lk_X6_44 (by rw [hRf, hRl]; decide) ⟨Nat.zero_le _, Nat.zero_le _⟩ hB hD hN [4, 5, 6, 7, 8, 9, 10, 11] (by decide) rfl (fun _ => rfl) (fun _ => rfl) (rc_X8 hK (hB.1 4 _ rfl)) rfl hl.1 rfl rfl (Nat.le_of_ble_eq_true rfl) dX6_readAll_9 (fun H locs q2 hB => ?_)
  have hB : WB E ad s.heap [wReader E a_rd (a_tk 0) (a_ph 0) (a_sc 0 0) u_rd, wTokens E a_tk q_tk_0_bytes u_tk, wBArr E n_tp a_tp u_tp, wPhrase E a_ph q_ph_0_formula u_ph, wScript E (a_sc 0) (a_sc 1 0) (a_sc 2 0) (a_sc 3 0) (a_sc 4 0) (a_sc 5 0) (a_sc 6 0) (a_sc 7 0) (r1 0), wRoll E 6 (a_sc 1) (r1 1), wRoll E 6 (a_sc 2) (r1 2), wRoll E 4 (a_sc 3) (r1 3), wRoll E 14 (a_sc 4) (r1 4), wFormula E (a_sc 5) (r1 5), wFormula E (a_sc 6) (r1 6), wFormula E (a_sc 7) (r1 7)] H locs := hB
  refine lv_aload_n hx hb dX6_readAll_12 rfl (lv_at hl 0 rfl) ?_
  refine lv_iconst (v := 0) hx hb dX6_readAll_13 (by decide) ?_
  refine pf_X6_X6_faultKind C hK hB hD 0 rfl dX6_readAll_14 (fun H locs u3 eu3 hB => ?_)
  have hf := ox_lt eu3 hf
  have hB : WB E ad s.heap [wReader E a_rd (a_tk 0) (a_ph 0) (a_sc 0 0) u3, wTokens E a_tk q_tk_0_bytes u_tk, wBArr E n_tp a_tp u_tp, wPhrase E a_ph q_ph_0_formula u_ph, wScript E (a_sc 0) (a_sc 1 0) (a_sc 2 0) (a_sc 3 0) (a_sc 4 0) (a_sc 5 0) (a_sc 6 0) (a_sc 7 0) (r1 0), wRoll E 6 (a_sc 1) (r1 1), wRoll E 6 (a_sc 2) (r1 2), wRoll E 4 (a_sc 3) (r1 3), wRoll E 14 (a_sc 4) (r1 4), wFormula E (a_sc 5) (r1 5), wFormula E (a_sc 6) (r1 6), wFormula E (a_sc 7) (r1 7)] H locs := hB
  refine lv_aload_n hx hb dX6_readAll_17 rfl (lv_at hl 0 rfl) ?_
  refine lv_iconst (v := (-1)) hx hb dX6_readAll_18 (by decide) ?_
  refine pf_X6_X6_faultPlace C hK hB hD 0 rfl dX6_readAll_19 (fun H locs u4 eu4 hB => ?_)
  have hf := ox_lt eu4 hf
  have hB : WB E ad s.heap [wReader E a_rd (a_tk 0) (a_ph 0) (a_sc 0 0) u4, wTokens E a_tk q_tk_0_bytes u_tk, wBArr E n_tp a_tp u_tp, wPhrase E a_ph q_ph_0_formula u_ph, wScript E (a_sc 0) (a_sc 1 0) (a_sc 2 0) (a_sc 3 0) (a_sc 4 0) (a_sc 5 0) (a_sc 6 0) (a_sc 7 0) (r1 0), wRoll E 6 (a_sc 1) (r1 1), wRoll E 6 (a_sc 2) (r1 2), wRoll E 4 (a_sc 3) (r1 3), wRoll E 14 (a_sc 4) (r1 4), wFormula E (a_sc 5) (r1 5), wFormula E (a_sc 6) (r1 6), wFormula E (a_sc 7) (r1 7)] H locs := hB
  refine lv_aload_n hx hb dX6_readAll_22 rfl (lv_at hl 0 rfl) ?_
  refine gf_X6_X6_tokens C hK (hB.1 0 _ rfl) dX6_readAll_23 ?_
  refine lv_aload_n hx hb dX6_readAll_26 rfl (lv_at hl 1 rfl) ?_
  refine lv_iload_n hx hb dX6_readAll_27 rfl (lv_at hl 2 rfl) ?_
  obtain ⟨r5, hr5, hf⟩ := ox_bind hf
  refine cxVX (bs1 := (fun q => [wReader E a_rd (a_tk 0) (a_ph 0) (a_sc 0 0) u4, wTokens E a_tk (a_tp 0) r5, wBArr E n_tp a_tp u_tp, wPhrase E a_ph q_ph_0_formula u_ph, wScript E (a_sc 0) (a_sc 1 0) (a_sc 2 0) (a_sc 3 0) (a_sc 4 0) (a_sc 5 0) (a_sc 6 0) (a_sc 7 0) (r1 0), wRoll E 6 (a_sc 1) (r1 1), wRoll E 6 (a_sc 2) (r1 2), wRoll E 4 (a_sc 3) (r1 3), wRoll E 14 (a_sc 4) (r1 4), wFormula E (a_sc 5) (r1 5), wFormula E (a_sc 6) (r1 6), wFormula E (a_sc 7) (r1 7)])) (As := [.ref (a_tp 0), .int x_2]) (rest := []) (st1 := []) C hK (tX10_begin l E a_tk q_tk_0_bytes u_tk n_tp a_tp u_tp x_2 r5 hr5) lk_X6_47 (by rw [hRf, hRl]; decide) ⟨Nat.zero_le _, Nat.zero_le _⟩ hB hD hN [1, 2] (by decide) rfl (fun _ => rfl) (fun _ => rfl) (rc_X10 hK (hB.1 1 _ rfl)) rfl hl.1 rfl rfl (Nat.le_of_ble_eq_true rfl) dX6_readAll_28 (fun H locs q6 hB => ?_)
  have hB : WB E ad s.heap [wReader E a_rd (a_tk 0) (a_ph 0) (a_sc 0 0) u4, wTokens E a_tk (a_tp 0) r5, wBArr E n_tp a_tp u_tp, wPhrase E a_ph q_ph_0_formula u_ph, wScript E (a_sc 0) (a_sc 1 0) (a_sc 2 0) (a_sc 3 0) (a_sc 4 0) (a_sc 5 0) (a_sc 6 0) (a_sc 7 0) (r1 0), wRoll E 6 (a_sc 1) (r1 1), wRoll E 6 (a_sc 2) (r1 2), wRoll E 4 (a_sc 3) (r1 3), wRoll E 14 (a_sc 4) (r1 4), wFormula E (a_sc 5) (r1 5), wFormula E (a_sc 6) (r1 6), wFormula E (a_sc 7) (r1 7)] H locs := hB
  refine lv_iconst (v := 0) hx hb dX6_readAll_31 (by decide) ?_
  refine lv_istore (lv' := [(4, .int (0 : Int32)), (0, .ref (a_rd 0)), (1, .ref (a_tp 0)), (2, .int x_2), (3, .ref (a_sc 0 0))]) hx hb dX6_readAll_32 hl (by decide) rfl (fun ls hl => ?_)
  obtain ⟨X1, hX1, hf⟩ := ox_bind hf
  have hexit1 : ∀ y33, y33 = X1 → ∀ (ls : Array Slot) (H : Heap) (locs : List Loc) (q34 : Nat), lv_has ls 5 [] → WB E ad s.heap [wReader E a_rd (a_tk 0) (a_ph 0) (a_sc 0 0) y33.1, wTokens E a_tk (a_tp 0) y33.2.1, wBArr E n_tp a_tp u_tp, wPhrase E a_ph q34 y33.2.2.1, wScript E (a_sc 0) (a_sc 1 0) (a_sc 2 0) (a_sc 3 0) (a_sc 4 0) (a_sc 5 0) (a_sc 6 0) (a_sc 7 0) (y33.2.2.2 0), wRoll E 6 (a_sc 1) (y33.2.2.2 1), wRoll E 6 (a_sc 2) (y33.2.2.2 2), wRoll E 4 (a_sc 3) (y33.2.2.2 3), wRoll E 14 (a_sc 4) (y33.2.2.2 4), wFormula E (a_sc 5) (y33.2.2.2 5), wFormula E (a_sc 6) (y33.2.2.2 6), wFormula E (a_sc 7) (y33.2.2.2 7)] H locs → W p l e R s m args below meth c H locs 0 0 Q (F0 m 118 ls []) := by
    intro y33 hy ls H locs q34 hl hB
    subst hy
    have hf := Option.some.inj hf
    subst hf
    exact hQ _ _ H locs (fun j => if j = 0 then q34 else 0) hB dX6_readAll_118
  have hloop1 : ∀ (nf : Nat) (x7 : Int32) (u8 : St) (u9 : St) (u10 : St) (u11 : Nat → St) (ls : Array Slot) (H : Heap) (locs : List Loc) (q12 : Nat), lv_has ls 5 [(0, .ref (a_rd 0)), (2, .int x_2), (4, .int x7)] → WB E ad s.heap [wReader E a_rd (a_tk 0) (a_ph 0) (a_sc 0 0) u8, wTokens E a_tk (a_tp 0) u9, wBArr E n_tp a_tp u_tp, wPhrase E a_ph q12 u10, wScript E (a_sc 0) (a_sc 1 0) (a_sc 2 0) (a_sc 3 0) (a_sc 4 0) (a_sc 5 0) (a_sc 6 0) (a_sc 7 0) (u11 0), wRoll E 6 (a_sc 1) (u11 1), wRoll E 6 (a_sc 2) (u11 2), wRoll E 4 (a_sc 3) (u11 3), wRoll E 14 (a_sc 4) (u11 4), wFormula E (a_sc 5) (u11 5), wFormula E (a_sc 6) (u11 6), wFormula E (a_sc 7) (u11 7)] H locs → fX6_readAll_L1 u_tp n_tp x_2 nf x7 u8 u9 u10 u11 = some X1 → W p l e R s m args below meth c H locs 0 0 Q (F0 m 34 ls []) := by
    intro nf
    induction nf with
    | zero =>
      intro x7 u8 u9 u10 u11 ls H locs q12 hl hB hf
      simp [fX6_readAll_L1] at hf
    | succ nf ih =>
      intro x7 u8 u9 u10 u11 ls H locs q12 hl hB hf
      rw [fX6_readAll_L1] at hf
      refine lv_iload hx hb dX6_readAll_34 (lv_at hl 2 rfl) ?_
      refine lv_iload_n hx hb dX6_readAll_36 rfl (lv_at hl 1 rfl) ?_
      refine lv_icmp_ge (tgt := 118) hx hb dX6_readAll_37 (by decide) (fun c13 => ?_) (fun c13 => ?_)
      · have hf := (if_pos c13).symm.trans hf
        exact hexit1 _ (Option.some.inj hf) ls H locs q12 (lv_sub hl [] rfl) hB
      · have hf := (if_neg c13).symm.trans hf
        refine lv_aload_n hx hb dX6_readAll_40 rfl (lv_at hl 0 rfl) ?_
        refine gf_X6_X6_faultKind C hK (hB.1 0 _ rfl) dX6_readAll_41 ?_
        refine lv_if_ne (tgt := 118) hx hb dX6_readAll_44 (by decide) (fun c14 => ?_) (fun c14 => ?_)
        · have hf := (if_neg c14).symm.trans hf
          exact hexit1 _ (Option.some.inj hf) ls H locs q12 (lv_sub hl [] rfl) hB
        · have hf := (if_pos c14).symm.trans hf
          refine lv_aload_n hx hb dX6_readAll_47 rfl (lv_at hl 0 rfl) ?_
          refine gf_X6_X6_tokens C hK (hB.1 0 _ rfl) dX6_readAll_48 ?_
          refine gf_X6_X10_kind C hK (hB.1 1 _ rfl) dX6_readAll_51 ?_
          refine lv_if_eq (tgt := 118) hx hb dX6_readAll_54 (by decide) (fun c15 => ?_) (fun c15 => ?_)
          · have hf := (if_pos c15).symm.trans hf
            exact hexit1 _ (Option.some.inj hf) ls H locs q12 (lv_sub hl [] rfl) hB
          · have hf := (if_neg c15).symm.trans hf
            refine lv_aload_n hx hb dX6_readAll_57 rfl (lv_at hl 0 rfl) ?_
            obtain ⟨r16, hr16, hf⟩ := ox_bind hf
            refine cxVX (bs1 := (fun q => [wReader E a_rd (a_tk 0) (a_ph 0) (a_sc 0 0) r16.1, wTokens E a_tk (a_tp 0) r16.2.1, wBArr E n_tp a_tp u_tp, wPhrase E a_ph (q 0) r16.2.2.1, wScript E (a_sc 0) (a_sc 1 0) (a_sc 2 0) (a_sc 3 0) (a_sc 4 0) (a_sc 5 0) (a_sc 6 0) (a_sc 7 0) (r16.2.2.2 0), wRoll E 6 (a_sc 1) (r16.2.2.2 1), wRoll E 6 (a_sc 2) (r16.2.2.2 2), wRoll E 4 (a_sc 3) (r16.2.2.2 3), wRoll E 14 (a_sc 4) (r16.2.2.2 4), wFormula E (a_sc 5) (r16.2.2.2 5), wFormula E (a_sc 6) (r16.2.2.2 6), wFormula E (a_sc 7) (r16.2.2.2 7)])) (As := []) (rest := []) (st1 := []) C hK (tX6_readLine l E a_rd u8 a_tk u9 n_tp a_tp u_tp a_ph q12 u10 a_sc u11 r16 hr16) lk_X6_54 (by rw [hRf, hRl]; decide) ⟨Nat.zero_le _, Nat.zero_le _⟩ hB hD hN [0, 1, 2, 3, 4, 5, 6, 7, 8, 9, 10, 11] (by decide) rfl (fun _ => rfl) (fun _ => rfl) (rc_X6 hK (hB.1 0 _ rfl)) rfl hl.1 rfl rfl (Nat.le_of_ble_eq_true rfl) dX6_readAll_58 (fun H locs q17 hB => ?_)
            have hB : WB E ad s.heap [wReader E a_rd (a_tk 0) (a_ph 0) (a_sc 0 0) r16.1, wTokens E a_tk (a_tp 0) r16.2.1, wBArr E n_tp a_tp u_tp, wPhrase E a_ph (q17 0) r16.2.2.1, wScript E (a_sc 0) (a_sc 1 0) (a_sc 2 0) (a_sc 3 0) (a_sc 4 0) (a_sc 5 0) (a_sc 6 0) (a_sc 7 0) (r16.2.2.2 0), wRoll E 6 (a_sc 1) (r16.2.2.2 1), wRoll E 6 (a_sc 2) (r16.2.2.2 2), wRoll E 4 (a_sc 3) (r16.2.2.2 3), wRoll E 14 (a_sc 4) (r16.2.2.2 4), wFormula E (a_sc 5) (r16.2.2.2 5), wFormula E (a_sc 6) (r16.2.2.2 6), wFormula E (a_sc 7) (r16.2.2.2 7)] H locs := hB
            refine lv_aload_n hx hb dX6_readAll_61 rfl (lv_at hl 0 rfl) ?_
            refine gf_X6_X6_faultKind C hK (hB.1 0 _ rfl) dX6_readAll_62 ?_
            obtain ⟨j21, ej21, hf⟩ := ox_ex hf
            have hj21 : ∀ (u18 : St) (u19 : St) (u20 : Nat → St) (ls : Array Slot) (H : Heap) (locs : List Loc), lv_has ls 5 [(0, .ref (a_rd 0)), (2, .int x_2), (4, .int x7)] → WB E ad s.heap [wReader E a_rd (a_tk 0) (a_ph 0) (a_sc 0 0) u18, wTokens E a_tk (a_tp 0) u19, wBArr E n_tp a_tp u_tp, wPhrase E a_ph (q17 0) r16.2.2.1, wScript E (a_sc 0) (a_sc 1 0) (a_sc 2 0) (a_sc 3 0) (a_sc 4 0) (a_sc 5 0) (a_sc 6 0) (a_sc 7 0) (u20 0), wRoll E 6 (a_sc 1) (u20 1), wRoll E 6 (a_sc 2) (u20 2), wRoll E 4 (a_sc 3) (u20 3), wRoll E 14 (a_sc 4) (u20 4), wFormula E (a_sc 5) (u20 5), wFormula E (a_sc 6) (u20 6), wFormula E (a_sc 7) (u20 7)] H locs → j21 u18 u19 u20 = some X1 → W p l e R s m args below meth c H locs 0 0 Q (F0 m 112 ls []) := by
              intro u18 u19 u20 ls H locs hl hB hf
              have hf := ox_a3 ej21 hf
              obtain ⟨x22, ex22⟩ : ∃ z : Int32, z = (x7 + 1) := ⟨_, rfl⟩
              have hf := ox_lt ex22 hf
              refine lv_iinc (v := x22) (lv' := [(4, .int x22), (0, .ref (a_rd 0)), (2, .int x_2)]) hx hb dX6_readAll_112 hl (k := 2) rfl (by rw [ex22]; rfl) (by decide) rfl (fun ls hl => ?_)
              refine lv_goto (tgt := 34) hx hb dX6_readAll_115 (by decide) ?_
              exact ih _ _ _ _ _ ls H locs (q17 0) (lv_sub hl [1, 2, 0] rfl) hB hf
            refine lv_if_ne (tgt := 112) hx hb dX6_readAll_65 (by decide) (fun c23 => ?_) (fun c23 => ?_)
            · have hf := (if_neg c23).symm.trans hf
              exact hj21 _ _ _ ls H locs (lv_sub hl [0, 1, 2] rfl) hB hf
            · have hf := (if_pos c23).symm.trans hf
              refine lv_aload_n hx hb dX6_readAll_68 rfl (lv_at hl 0 rfl) ?_
              refine lv_aload_n hx hb dX6_readAll_69 rfl (lv_at hl 0 rfl) ?_
              refine gf_X6_X6_tokens C hK (hB.1 0 _ rfl) dX6_readAll_70 ?_
              refine gf_X6_X10_kind C hK (hB.1 1 _ rfl) dX6_readAll_73 ?_
              refine lv_bipush (v := 7) hx hb dX6_readAll_76 (by decide) ?_
              obtain ⟨x24, ex24, hf⟩ := ox_ex hf
              have hjx24 : W p l e R s m args below meth c H locs 0 0 Q (F0 m 86 ls [.int x24, .ref (a_rd 0)]) := by
                obtain ⟨r25, er25, hf⟩ := ox_ex hf
                refine cxVX (bs1 := (fun q => [wReader E a_rd (a_tk 0) (a_ph 0) (a_sc 0 0) r25.2, wTokens E a_tk (a_tp 0) r16.2.1, wBArr E n_tp a_tp u_tp, wPhrase E a_ph (q17 0) r16.2.2.1, wScript E (a_sc 0) (a_sc 1 0) (a_sc 2 0) (a_sc 3 0) (a_sc 4 0) (a_sc 5 0) (a_sc 6 0) (a_sc 7 0) (r16.2.2.2 0), wRoll E 6 (a_sc 1) (r16.2.2.2 1), wRoll E 6 (a_sc 2) (r16.2.2.2 2), wRoll E 4 (a_sc 3) (r16.2.2.2 3), wRoll E 14 (a_sc 4) (r16.2.2.2 4), wFormula E (a_sc 5) (r16.2.2.2 5), wFormula E (a_sc 6) (r16.2.2.2 6), wFormula E (a_sc 7) (r16.2.2.2 7)])) (As := [.int x24]) (rest := []) (st1 := [.int r25.1]) C hK (tX6_isDue l E a_rd (a_ph 0) (a_sc 0 0) (r16.1) a_tk (a_tp 0) (r16.2.1) x24 r25 er25.symm) lk_X6_57 (by rw [hRf, hRl]; decide) ⟨Nat.zero_le _, Nat.zero_le _⟩ hB hD hN [0, 1] (by decide) rfl (fun _ => rfl) (fun _ => rfl) (rc_X6 hK (hB.1 0 _ rfl)) rfl hl.1 rfl rfl (Nat.le_of_ble_eq_true rfl) dX6_readAll_86 (fun H locs q26 hB => ?_)
                have hB : WB E ad s.heap [wReader E a_rd (a_tk 0) (a_ph 0) (a_sc 0 0) r25.2, wTokens E a_tk (a_tp 0) r16.2.1, wBArr E n_tp a_tp u_tp, wPhrase E a_ph (q17 0) r16.2.2.1, wScript E (a_sc 0) (a_sc 1 0) (a_sc 2 0) (a_sc 3 0) (a_sc 4 0) (a_sc 5 0) (a_sc 6 0) (a_sc 7 0) (r16.2.2.2 0), wRoll E 6 (a_sc 1) (r16.2.2.2 1), wRoll E 6 (a_sc 2) (r16.2.2.2 2), wRoll E 4 (a_sc 3) (r16.2.2.2 3), wRoll E 14 (a_sc 4) (r16.2.2.2 4), wFormula E (a_sc 5) (r16.2.2.2 5), wFormula E (a_sc 6) (r16.2.2.2 6), wFormula E (a_sc 7) (r16.2.2.2 7)] H locs := hB
                refine lv_if_eq (tgt := 112) hx hb dX6_readAll_89 (by decide) (fun c27 => ?_) (fun c27 => ?_)
                · have hf := (if_pos c27).symm.trans hf
                  exact hj21 _ _ _ ls H locs (lv_sub hl [0, 1, 2] rfl) hB hf
                · have hf := (if_neg c27).symm.trans hf
                  refine lv_aload_n hx hb dX6_readAll_92 rfl (lv_at hl 0 rfl) ?_
                  refine gf_X6_X6_script C hK (hB.1 0 _ rfl) dX6_readAll_93 ?_
                  refine lv_dup hx hb dX6_readAll_96 rfl ?_
                  refine gf_X6_X8_lines C hK (hB.1 4 _ rfl) dX6_readAll_97 ?_
                  refine lv_iconst (v := 1) hx hb dX6_readAll_100 (by decide) ?_
                  refine lv_iadd hx hb dX6_readAll_101 ?_
                  refine lv_topi (fun x28 ex28 => ?_)
                  have hf := ox_lt ex28 hf
                  refine pf_X6_X8_lines C hK hB hD 4 rfl dX6_readAll_102 (fun H locs u29 eu29 hB => ?_)
                  have hf := ox_lt eu29 hf
                  have hB : WB E ad s.heap [wReader E a_rd (a_tk 0) (a_ph 0) (a_sc 0 0) r25.2, wTokens E a_tk (a_tp 0) r16.2.1, wBArr E n_tp a_tp u_tp, wPhrase E a_ph (q17 0) r16.2.2.1, wScript E (a_sc 0) (a_sc 1 0) (a_sc 2 0) (a_sc 3 0) (a_sc 4 0) (a_sc 5 0) (a_sc 6 0) (a_sc 7 0) u29, wRoll E 6 (a_sc 1) (r16.2.2.2 1), wRoll E 6 (a_sc 2) (r16.2.2.2 2), wRoll E 4 (a_sc 3) (r16.2.2.2 3), wRoll E 14 (a_sc 4) (r16.2.2.2 4), wFormula E (a_sc 5) (r16.2.2.2 5), wFormula E (a_sc 6) (r16.2.2.2 6), wFormula E (a_sc 7) (r16.2.2.2 7)] H locs := hB
                  refine lv_aload_n hx hb dX6_readAll_105 rfl (lv_at hl 0 rfl) ?_
                  refine gf_X6_X6_tokens C hK (hB.1 0 _ rfl) dX6_readAll_106 ?_
                  obtain ⟨r30, hr30, hf⟩ := ox_bind hf
                  refine cxVX (bs1 := (fun q => [wReader E a_rd (a_tk 0) (a_ph 0) (a_sc 0 0) r25.2, wTokens E a_tk (a_tp 0) r30, wBArr E n_tp a_tp u_tp, wPhrase E a_ph (q17 0) r16.2.2.1, wScript E (a_sc 0) (a_sc 1 0) (a_sc 2 0) (a_sc 3 0) (a_sc 4 0) (a_sc 5 0) (a_sc 6 0) (a_sc 7 0) u29, wRoll E 6 (a_sc 1) (r16.2.2.2 1), wRoll E 6 (a_sc 2) (r16.2.2.2 2), wRoll E 4 (a_sc 3) (r16.2.2.2 3), wRoll E 14 (a_sc 4) (r16.2.2.2 4), wFormula E (a_sc 5) (r16.2.2.2 5), wFormula E (a_sc 6) (r16.2.2.2 6), wFormula E (a_sc 7) (r16.2.2.2 7)])) (As := []) (rest := []) (st1 := []) C hK (tX10_next l E a_tk (r16.2.1) n_tp a_tp u_tp r30 hr30) lk_X6_64 (by rw [hRf, hRl]; decide) ⟨Nat.zero_le _, Nat.zero_le _⟩ hB hD hN [1, 2] (by decide) rfl (fun _ => rfl) (fun _ => rfl) (rc_X10 hK (hB.1 1 _ rfl)) rfl hl.1 rfl rfl (Nat.le_of_ble_eq_true rfl) dX6_readAll_109 (fun H locs q31 hB => ?_)
                  have hB : WB E ad s.heap [wReader E a_rd (a_tk 0) (a_ph 0) (a_sc 0 0) r25.2, wTokens E a_tk (a_tp 0) r30, wBArr E n_tp a_tp u_tp, wPhrase E a_ph (q17 0) r16.2.2.1, wScript E (a_sc 0) (a_sc 1 0) (a_sc 2 0) (a_sc 3 0) (a_sc 4 0) (a_sc 5 0) (a_sc 6 0) (a_sc 7 0) u29, wRoll E 6 (a_sc 1) (r16.2.2.2 1), wRoll E 6 (a_sc 2) (r16.2.2.2 2), wRoll E 4 (a_sc 3) (r16.2.2.2 3), wRoll E 14 (a_sc 4) (r16.2.2.2 4), wFormula E (a_sc 5) (r16.2.2.2 5), wFormula E (a_sc 6) (r16.2.2.2 6), wFormula E (a_sc 7) (r16.2.2.2 7)] H locs := hB
                  exact hj21 _ _ _ ls H locs (lv_sub hl [0, 1, 2] rfl) hB hf
              refine lv_icmp_ne (tgt := 85) hx hb dX6_readAll_78 (by decide) (fun c32 => ?_) (fun c32 => ?_)
              · refine lv_iconst (v := 0) hx hb dX6_readAll_85 (by decide) ?_
                exact ox_topi ((ex24).trans (if_neg c32)).symm hjx24
              · refine lv_iconst (v := 1) hx hb dX6_readAll_81 (by decide) ?_
                refine lv_goto (tgt := 86) hx hb dX6_readAll_82 (by decide) ?_
                exact ox_topi ((ex24).trans (if_pos c32)).symm hjx24
  exact hloop1 fuel _ _ _ _ _ ls H locs q_ph_0_formula (lv_sub hl [1, 3, 0] rfl) hB hX1
set_option maxHeartbeats 4000000 in
set_option maxRecDepth 20000 in
theorem tX8_allSacks (l : Launch) (E : Ev) (a_sc : Nat → Nat → Nat) (u_sc : Nat → St) (res : Int32) (hf : fX8_allSacks u_sc = some res) : MP l E yX8_allSacks cX8_allSacks 3 (some .int) (rmm 1 21) [wScript E (a_sc 0) (a_sc 1 0) (a_sc 2 0) (a_sc 3 0) (a_sc 4 0) (a_sc 5 0) (a_sc 6 0) (a_sc 7 0) (u_sc 0), wRoll E 6 (a_sc 1) (u_sc 1), wRoll E 6 (a_sc 2) (u_sc 2), wRoll E 4 (a_sc 3) (u_sc 3), wRoll E 14 (a_sc 4) (u_sc 4), wFormula E (a_sc 5) (u_sc 5), wFormula E (a_sc 6) (u_sc 6), wFormula E (a_sc 7) (u_sc 7)] [.ref (a_sc 0 0)] (some (.int res)) := by
  unfold fX8_allSacks at hf
  refine MP.ofI rfl (by decide) (Nat.le_of_ble_eq_true rfl) ?_
  intro p e R s m args below meth c ls Q hRf hRl C hP hK hN hl hQ
  have hx := C.1
  have hb := C.2.1
  have hl : lv_has ls 3 [(0, .ref (a_sc 0 0))] := hl
  refine lv_iconst (v := 0) hx hb dX8_allSacks_0 (by decide) ?_
  refine lv_istore_n (lv' := [(1, .int (0 : Int32)), (0, .ref (a_sc 0 0))]) hx hb dX8_allSacks_1 rfl hl (by decide) rfl (fun ls hl => ?_)
  refine lv_iconst (v := 0) hx hb dX8_allSacks_2 (by decide) ?_
  refine lv_istore_n (lv' := [(2, .int (0 : Int32)), (1, .int (0 : Int32)), (0, .ref (a_sc 0 0))]) hx hb dX8_allSacks_3 rfl hl (by decide) rfl (fun ls hl => ?_)
  obtain ⟨X1, hX1, hf⟩ := ox_bind hf
  have hexit1 : ∀ y7, y7 = X1 → ∀ (ls : Array Slot), lv_has ls 3 [(1, .int y7)] → W p l e R s m args below meth c s.heap [] 0 0 Q (F0 m 29 ls []) := by
    intro y7 hy ls hl
    subst hy
    refine lv_iload_n hx hb dX8_allSacks_29 rfl (lv_at hl 0 rfl) ?_
    have hf := Option.some.inj hf
    subst hf
    exact hQ _ _ dX8_allSacks_30
  have hloop1 : ∀ (nf : Nat) (x1 : Int32) (x2 : Int32) (ls : Array Slot), lv_has ls 3 [(0, .ref (a_sc 0 0)), (1, .int x1), (2, .int x2)] → fX8_allSacks_L1 u_sc nf x1 x2 = some X1 → W p l e R s m args below meth c s.heap [] 0 0 Q (F0 m 4 ls []) := by
    intro nf
    induction nf with
    | zero =>
      intro x1 x2 ls hl hf
      simp [fX8_allSacks_L1] at hf
    | succ nf ih =>
      intro x1 x2 ls hl hf
      rw [fX8_allSacks_L1] at hf
      refine lv_iload_n hx hb dX8_allSacks_4 rfl (lv_at hl 2 rfl) ?_
      refine lv_aload_n hx hb dX8_allSacks_5 rfl (lv_at hl 0 rfl) ?_
      refine gf_X8_X8_grains C hK (hP 0 _ rfl) dX8_allSacks_6 ?_
      refine gf_X8_X7_size C hK (hP 3 _ rfl) dX8_allSacks_9 ?_
      refine lv_icmp_ge (tgt := 29) hx hb dX8_allSacks_12 (by decide) (fun c3 => ?_) (fun c3 => ?_)
      · have hf := (if_pos c3).symm.trans hf
        exact hexit1 _ (Option.some.inj hf) ls (lv_sub hl [1] rfl)
      · have hf := (if_neg c3).symm.trans hf
        refine lv_iload_n hx hb dX8_allSacks_15 rfl (lv_at hl 1 rfl) ?_
        refine lv_aload_n hx hb dX8_allSacks_16 rfl (lv_at hl 0 rfl) ?_
        refine lv_iload_n hx hb dX8_allSacks_17 rfl (lv_at hl 2 rfl) ?_
        obtain ⟨r4, hr4, hf⟩ := ox_bind hf
        refine cxVP (As := [.int x2]) (rest := [.int x1]) (st1 := [.int r4, .int x1]) C hK (tX8_sacks l E a_sc u_sc x2 r4 hr4) lk_X8_81 ⟨rfl, rfl⟩ (by rw [hRf, hRl]; decide) ⟨Nat.zero_le _, Nat.zero_le _⟩ (PB.sub hP [0, 1, 2, 3, 4, 5, 6, 7] rfl) (fun _ _ => rfl) hN (rc_X8 hK (hP 0 _ rfl)) rfl hl.1 rfl rfl (Nat.le_of_ble_eq_true rfl) dX8_allSacks_18 ?_
        refine lv_iadd hx hb dX8_allSacks_21 ?_
        refine lv_topi (fun x5 ex5 => ?_)
        have hf := ox_lt ex5 hf
        refine lv_istore_n (lv' := [(1, .int x5), (0, .ref (a_sc 0 0)), (2, .int x2)]) hx hb dX8_allSacks_22 rfl hl (by decide) rfl (fun ls hl => ?_)
        obtain ⟨x6, ex6⟩ : ∃ z : Int32, z = (x2 + 1) := ⟨_, rfl⟩
        have hf := ox_lt ex6 hf
        refine lv_iinc (v := x6) (lv' := [(2, .int x6), (1, .int x5), (0, .ref (a_sc 0 0))]) hx hb dX8_allSacks_23 hl (k := 2) rfl (by rw [ex6]; rfl) (by decide) rfl (fun ls hl => ?_)
        refine lv_goto (tgt := 4) hx hb dX8_allSacks_26 (by decide) ?_
        exact ih _ _ ls (lv_sub hl [2, 1, 0] rfl) hf
  exact hloop1 fuel _ _ ls (lv_sub hl [2, 1, 0] rfl) hX1
set_option maxHeartbeats 4000000 in
set_option maxRecDepth 20000 in
theorem tX9_clear (l : Launch) (E : Ev) (a_sp : Nat → Nat) (u_sp : St) (res : St) (hf : fX9_clear u_sp = res) : MX l E yX9_clear cX9_clear 1 none (rmm 0 0) [wSteps E a_sp u_sp] (fun q => [wSteps E a_sp res]) [.ref (a_sp 0)] none := by
  unfold fX9_clear at hf
  refine MX.ofV rfl (by decide) (Nat.le_of_ble_eq_true rfl) ?_
  intro p e R s m args below meth c ls Q ad H hRf hRl C hB hD hK hN hl hQ
  generalize hlocs : ([] : List Loc) = locs at hB ⊢
  clear hlocs
  have hx := C.1
  have hb := C.2.1
  have hl : lv_has ls 1 [(0, .ref (a_sp 0))] := hl
  refine lv_aload_n hx hb dX9_clear_0 rfl (lv_at hl 0 rfl) ?_
  refine lv_iconst (v := 0) hx hb dX9_clear_1 (by decide) ?_
  refine pf_X9_X9_size C hK hB hD 0 rfl dX9_clear_2 (fun H locs u1 eu1 hB => ?_)
  have hf := ox_lt eu1 hf
  have hB : WB E ad s.heap [wSteps E a_sp u1] H locs := hB
  subst hf
  exact hQ _ _ H locs (fun _ => 0) hB dX9_clear_5
set_option maxHeartbeats 4000000 in
set_option maxRecDepth 20000 in
theorem tX9_dropOldest (l : Launch) (E : Ev) (a_sp : Nat → Nat) (u_sp : St) (res : St) (hf : fX9_dropOldest u_sp = some res) : MX l E yX9_dropOldest cX9_dropOldest 2 none (rmm 0 0) [wSteps E a_sp u_sp] (fun q => [wSteps E a_sp res]) [.ref (a_sp 0)] none := by
  unfold fX9_dropOldest at hf
  refine MX.ofV rfl (by decide) (Nat.le_of_ble_eq_true rfl) ?_
  intro p e R s m args below meth c ls Q ad H hRf hRl C hB hD hK hN hl hQ
  generalize hlocs : ([] : List Loc) = locs at hB ⊢
  clear hlocs
  have hx := C.1
  have hb := C.2.1
  have hl : lv_has ls 2 [(0, .ref (a_sp 0))] := hl
  refine lv_iconst (v := 1) hx hb dX9_dropOldest_0 (by decide) ?_
  refine lv_istore_n (lv' := [(1, .int (1 : Int32)), (0, .ref (a_sp 0))]) hx hb dX9_dropOldest_1 rfl hl (by decide) rfl (fun ls hl => ?_)
  obtain ⟨X1, hX1, hf⟩ := ox_bind hf
  have hexit1 : ∀ y17, y17 = X1 → ∀ (ls : Array Slot) (H : Heap) (locs : List Loc), lv_has ls 2 [(0, .ref (a_sp 0))] → WB E ad s.heap [wSteps E a_sp y17] H locs → W p l e R s m args below meth c H locs 0 0 Q (F0 m 56 ls []) := by
    intro y17 hy ls H locs hl hB
    subst hy
    refine lv_aload_n hx hb dX9_dropOldest_56 rfl (lv_at hl 0 rfl) ?_
    refine lv_bipush (v := 19) hx hb dX9_dropOldest_57 (by decide) ?_
    refine pf_X9_X9_size C hK hB hD 0 rfl dX9_dropOldest_59 (fun H locs u18 eu18 hB => ?_)
    have hf := ox_lt eu18 hf
    have hB : WB E ad s.heap [wSteps E a_sp u18] H locs := hB
    have hf := Option.some.inj hf
    subst hf
    exact hQ _ _ H locs (fun _ => 0) hB dX9_dropOldest_62
  have hloop1 : ∀ (nf : Nat) (x1 : Int32) (u2 : St) (ls : Array Slot) (H : Heap) (locs : List Loc), lv_has ls 2 [(0, .ref (a_sp 0)), (1, .int x1)] → WB E ad s.heap [wSteps E a_sp u2] H locs → fX9_dropOldest_L1 nf x1 u2 = some X1 → W p l e R s m args below meth c H locs 0 0 Q (F0 m 2 ls []) := by
    intro nf
    induction nf with
    | zero =>
      intro x1 u2 ls H locs hl hB hf
      simp [fX9_dropOldest_L1] at hf
    | succ nf ih =>
      intro x1 u2 ls H locs hl hB hf
      rw [fX9_dropOldest_L1] at hf
      refine lv_iload_n hx hb dX9_dropOldest_2 rfl (lv_at hl 1 rfl) ?_
      refine lv_bipush (v := 20) hx hb dX9_dropOldest_3 (by decide) ?_
      refine lv_icmp_ge (tgt := 56) hx hb dX9_dropOldest_5 (by decide) (fun c3 => ?_) (fun c3 => ?_)
      · have hf := (if_pos c3).symm.trans hf
        exact hexit1 _ (Option.some.inj hf) ls H locs (lv_sub hl [0] rfl) hB
      · have hf := (if_neg c3).symm.trans hf
        refine lv_aload_n hx hb dX9_dropOldest_8 rfl (lv_at hl 0 rfl) ?_
        refine gf_X9_X9_kinds C hK (hB.1 0 _ rfl) dX9_dropOldest_9 ?_
        refine lv_iload_n hx hb dX9_dropOldest_12 rfl (lv_at hl 1 rfl) ?_
        refine lv_iconst (v := 1) hx hb dX9_dropOldest_13 (by decide) ?_
        refine lv_isub hx hb dX9_dropOldest_14 ?_
        refine lv_aload_n hx hb dX9_dropOldest_15 rfl (lv_at hl 0 rfl) ?_
        refine gf_X9_X9_kinds C hK (hB.1 0 _ rfl) dX9_dropOldest_16 ?_
        refine lv_iload_n hx hb dX9_dropOldest_19 rfl (lv_at hl 1 rfl) ?_
        obtain ⟨hn4, hf⟩ := ox_chk hf
        refine ld_X9_kinds C hK (hB.1 0 _ rfl) hn4 rfl dX9_dropOldest_20 ?_
        refine lv_topi (fun x5 ex5 => ?_)
        have hf := ox_lt ex5 hf
        obtain ⟨hn6, hf⟩ := ox_chk hf
        refine st_X9_kinds C hK hB hD 0 rfl hn6 rfl dX9_dropOldest_21 (fun H locs u7 eu7 hB => ?_)
        have hf := ox_lt eu7 hf
        have hB : WB E ad s.heap [wSteps E a_sp u7] H locs := hB
        refine lv_aload_n hx hb dX9_dropOldest_22 rfl (lv_at hl 0 rfl) ?_
        refine gf_X9_X9_firsts C hK (hB.1 0 _ rfl) dX9_dropOldest_23 ?_
        refine lv_iload_n hx hb dX9_dropOldest_26 rfl (lv_at hl 1 rfl) ?_
        refine lv_iconst (v := 1) hx hb dX9_dropOldest_27 (by decide) ?_
        refine lv_isub hx hb dX9_dropOldest_28 ?_
        refine lv_aload_n hx hb dX9_dropOldest_29 rfl (lv_at hl 0 rfl) ?_
        refine gf_X9_X9_firsts C hK (hB.1 0 _ rfl) dX9_dropOldest_30 ?_
        refine lv_iload_n hx hb dX9_dropOldest_33 rfl (lv_at hl 1 rfl) ?_
        obtain ⟨hn8, hf⟩ := ox_chk hf
        refine ld_X9_firsts C hK (hB.1 0 _ rfl) hn8 rfl dX9_dropOldest_34 ?_
        refine lv_topi (fun x9 ex9 => ?_)
        have hf := ox_lt ex9 hf
        obtain ⟨hn10, hf⟩ := ox_chk hf
        refine st_X9_firsts C hK hB hD 0 rfl hn10 rfl dX9_dropOldest_35 (fun H locs u11 eu11 hB => ?_)
        have hf := ox_lt eu11 hf
        have hB : WB E ad s.heap [wSteps E a_sp u11] H locs := hB
        refine lv_aload_n hx hb dX9_dropOldest_36 rfl (lv_at hl 0 rfl) ?_
        refine gf_X9_X9_seconds C hK (hB.1 0 _ rfl) dX9_dropOldest_37 ?_
        refine lv_iload_n hx hb dX9_dropOldest_40 rfl (lv_at hl 1 rfl) ?_
        refine lv_iconst (v := 1) hx hb dX9_dropOldest_41 (by decide) ?_
        refine lv_isub hx hb dX9_dropOldest_42 ?_
        refine lv_aload_n hx hb dX9_dropOldest_43 rfl (lv_at hl 0 rfl) ?_
        refine gf_X9_X9_seconds C hK (hB.1 0 _ rfl) dX9_dropOldest_44 ?_
        refine lv_iload_n hx hb dX9_dropOldest_47 rfl (lv_at hl 1 rfl) ?_
        obtain ⟨hn12, hf⟩ := ox_chk hf
        refine ld_X9_seconds C hK (hB.1 0 _ rfl) hn12 rfl dX9_dropOldest_48 ?_
        refine lv_topi (fun x13 ex13 => ?_)
        have hf := ox_lt ex13 hf
        obtain ⟨hn14, hf⟩ := ox_chk hf
        refine st_X9_seconds C hK hB hD 0 rfl hn14 rfl dX9_dropOldest_49 (fun H locs u15 eu15 hB => ?_)
        have hf := ox_lt eu15 hf
        have hB : WB E ad s.heap [wSteps E a_sp u15] H locs := hB
        obtain ⟨x16, ex16⟩ : ∃ z : Int32, z = (x1 + 1) := ⟨_, rfl⟩
        have hf := ox_lt ex16 hf
        refine lv_iinc (v := x16) (lv' := [(1, .int x16), (0, .ref (a_sp 0))]) hx hb dX9_dropOldest_50 hl (k := 1) rfl (by rw [ex16]; rfl) (by decide) rfl (fun ls hl => ?_)
        refine lv_goto (tgt := 2) hx hb dX9_dropOldest_53 (by decide) ?_
        exact ih _ _ ls H locs (lv_sub hl [1, 0] rfl) hB hf
  exact hloop1 fuel _ _ ls H locs (lv_sub hl [1, 0] rfl) hB hX1
set_option maxHeartbeats 4000000 in
set_option maxRecDepth 20000 in
theorem tX9_add (l : Launch) (E : Ev) (a_sp : Nat → Nat) (u_sp : St) (x_1 : Int32) (x_2 : Int32) (x_3 : Int32) (res : St) (hf : fX9_add u_sp x_1 x_2 x_3 = some res) : MX l E yX9_add cX9_add 4 none (rmm 1 21) [wSteps E a_sp u_sp] (fun q => [wSteps E a_sp res]) [.ref (a_sp 0), .int x_1, .int x_2, .int x_3] none := by
  unfold fX9_add at hf
  refine MX.ofV rfl (by decide) (Nat.le_of_ble_eq_true rfl) ?_
  intro p e R s m args below meth c ls Q ad H hRf hRl C hB hD hK hN hl hQ
  generalize hlocs : ([] : List Loc) = locs at hB ⊢
  clear hlocs
  have hx := C.1
  have hb := C.2.1
  have hl : lv_has ls 4 [(0, .ref (a_sp 0)), (1, .int x_1), (2, .int x_2), (3, .int x_3)] := hl
  refine lv_aload_n hx hb dX9_add_0 rfl (lv_at hl 0 rfl) ?_
  refine gf_X9_X9_size C hK (hB.1 0 _ rfl) dX9_add_1 ?_
  refine lv_bipush (v := 20) hx hb dX9_add_4 (by decide) ?_
  obtain ⟨j2, ej2, hf⟩ := ox_ex hf
  have hj2 : ∀ (u1 : St) (ls : Array Slot) (H : Heap) (locs : List Loc), lv_has ls 4 [(0, .ref (a_sp 0)), (1, .int x_1), (2, .int x_2), (3, .int x_3)] → WB E ad s.heap [wSteps E a_sp u1] H locs → j2 u1 = some res → W p l e R s m args below meth c H locs 0 0 Q (F0 m 13 ls []) := by
    intro u1 ls H locs hl hB hf
    have hf := ox_a1 ej2 hf
    refine lv_aload_n hx hb dX9_add_13 rfl (lv_at hl 0 rfl) ?_
    refine gf_X9_X9_kinds C hK (hB.1 0 _ rfl) dX9_add_14 ?_
    refine lv_aload_n hx hb dX9_add_17 rfl (lv_at hl 0 rfl) ?_
    refine gf_X9_X9_size C hK (hB.1 0 _ rfl) dX9_add_18 ?_
    refine lv_iload_n hx hb dX9_add_21 rfl (lv_at hl 1 rfl) ?_
    obtain ⟨hn3, hf⟩ := ox_chk hf
    refine st_X9_kinds C hK hB hD 0 rfl hn3 rfl dX9_add_22 (fun H locs u4 eu4 hB => ?_)
    have hf := ox_lt eu4 hf
    have hB : WB E ad s.heap [wSteps E a_sp u4] H locs := hB
    refine lv_aload_n hx hb dX9_add_23 rfl (lv_at hl 0 rfl) ?_
    refine gf_X9_X9_firsts C hK (hB.1 0 _ rfl) dX9_add_24 ?_
    refine lv_aload_n hx hb dX9_add_27 rfl (lv_at hl 0 rfl) ?_
    refine gf_X9_X9_size C hK (hB.1 0 _ rfl) dX9_add_28 ?_
    refine lv_iload_n hx hb dX9_add_31 rfl (lv_at hl 2 rfl) ?_
    obtain ⟨hn5, hf⟩ := ox_chk hf
    refine st_X9_firsts C hK hB hD 0 rfl hn5 rfl dX9_add_32 (fun H locs u6 eu6 hB => ?_)
    have hf := ox_lt eu6 hf
    have hB : WB E ad s.heap [wSteps E a_sp u6] H locs := hB
    refine lv_aload_n hx hb dX9_add_33 rfl (lv_at hl 0 rfl) ?_
    refine gf_X9_X9_seconds C hK (hB.1 0 _ rfl) dX9_add_34 ?_
    refine lv_aload_n hx hb dX9_add_37 rfl (lv_at hl 0 rfl) ?_
    refine gf_X9_X9_size C hK (hB.1 0 _ rfl) dX9_add_38 ?_
    refine lv_iload_n hx hb dX9_add_41 rfl (lv_at hl 3 rfl) ?_
    obtain ⟨hn7, hf⟩ := ox_chk hf
    refine st_X9_seconds C hK hB hD 0 rfl hn7 rfl dX9_add_42 (fun H locs u8 eu8 hB => ?_)
    have hf := ox_lt eu8 hf
    have hB : WB E ad s.heap [wSteps E a_sp u8] H locs := hB
    refine lv_aload_n hx hb dX9_add_43 rfl (lv_at hl 0 rfl) ?_
    refine lv_dup hx hb dX9_add_44 rfl ?_
    refine gf_X9_X9_size C hK (hB.1 0 _ rfl) dX9_add_45 ?_
    refine lv_iconst (v := 1) hx hb dX9_add_48 (by decide) ?_
    refine lv_iadd hx hb dX9_add_49 ?_
    refine lv_topi (fun x9 ex9 => ?_)
    have hf := ox_lt ex9 hf
    refine pf_X9_X9_size C hK hB hD 0 rfl dX9_add_50 (fun H locs u10 eu10 hB => ?_)
    have hf := ox_lt eu10 hf
    have hB : WB E ad s.heap [wSteps E a_sp u10] H locs := hB
    have hf := Option.some.inj hf
    subst hf
    exact hQ _ _ H locs (fun _ => 0) hB dX9_add_53
  refine lv_icmp_lt (tgt := 13) hx hb dX9_add_6 (by decide) (fun c11 => ?_) (fun c11 => ?_)
  · have hf := (if_pos c11).symm.trans hf
    exact hj2 _ ls H locs (lv_sub hl [0, 1, 2, 3] rfl) hB hf
  · have hf := (if_neg c11).symm.trans hf
    refine lv_aload_n hx hb dX9_add_9 rfl (lv_at hl 0 rfl) ?_
    obtain ⟨r12, hr12, hf⟩ := ox_bind hf
    refine cxVX (bs1 := (fun q => [wSteps E a_sp r12])) (As := []) (rest := []) (st1 := []) C hK (tX9_dropOldest l E a_sp u_sp r12 hr12) lk_X9_23 (by rw [hRf, hRl]; decide) ⟨Nat.zero_le _, Nat.zero_le _⟩ hB hD hN [0] (by decide) rfl (fun _ => rfl) (fun _ => rfl) (rc_X9 hK (hB.1 0 _ rfl)) rfl hl.1 rfl rfl (Nat.le_of_ble_eq_true rfl) dX9_add_10 (fun H locs q13 hB => ?_)
    have hB : WB E ad s.heap [wSteps E a_sp r12] H locs := hB
    exact hj2 _ ls H locs (lv_sub hl [0, 1, 2, 3] rfl) hB hf
set_option maxHeartbeats 4000000 in
set_option maxRecDepth 20000 in
theorem tX9_takeBack (l : Launch) (E : Ev) (a_sp : Nat → Nat) (u_sp : St) (a_h : Nat → Nat) (u_h : St) (res : St × St) (hf : fX9_takeBack u_sp u_h = some res) : MX l E yX9_takeBack cX9_takeBack 2 none (rmm 2 46) [wSteps E a_sp u_sp, wHall E a_h u_h] (fun q => [wSteps E a_sp res.1, wHall E a_h res.2]) [.ref (a_sp 0), .ref (a_h 0)] none := by
  unfold fX9_takeBack at hf
  refine MX.ofV rfl (by decide) (Nat.le_of_ble_eq_true rfl) ?_
  intro p e R s m args below meth c ls Q ad H hRf hRl C hB hD hK hN hl hQ
  generalize hlocs : ([] : List Loc) = locs at hB ⊢
  clear hlocs
  have hx := C.1
  have hb := C.2.1
  have hl : lv_has ls 2 [(0, .ref (a_sp 0)), (1, .ref (a_h 0))] := hl
  refine lv_aload_n hx hb dX9_takeBack_0 rfl (lv_at hl 0 rfl) ?_
  refine gf_X9_X9_size C hK (hB.1 0 _ rfl) dX9_takeBack_1 ?_
  refine lv_if_ne (tgt := 8) hx hb dX9_takeBack_4 (by decide) (fun c1 => ?_) (fun c1 => ?_)
  · have hf := (if_neg c1).symm.trans hf
    refine lv_aload_n hx hb dX9_takeBack_8 rfl (lv_at hl 0 rfl) ?_
    refine lv_dup hx hb dX9_takeBack_9 rfl ?_
    refine gf_X9_X9_size C hK (hB.1 0 _ rfl) dX9_takeBack_10 ?_
    refine lv_iconst (v := 1) hx hb dX9_takeBack_13 (by decide) ?_
    refine lv_isub hx hb dX9_takeBack_14 ?_
    refine lv_topi (fun x2 ex2 => ?_)
    have hf := ox_lt ex2 hf
    refine pf_X9_X9_size C hK hB hD 0 rfl dX9_takeBack_15 (fun H locs u3 eu3 hB => ?_)
    have hf := ox_lt eu3 hf
    have hB : WB E ad s.heap [wSteps E a_sp u3, wHall E a_h u_h] H locs := hB
    refine lv_aload_n hx hb dX9_takeBack_18 rfl (lv_at hl 0 rfl) ?_
    refine gf_X9_X9_kinds C hK (hB.1 0 _ rfl) dX9_takeBack_19 ?_
    refine lv_aload_n hx hb dX9_takeBack_22 rfl (lv_at hl 0 rfl) ?_
    refine gf_X9_X9_size C hK (hB.1 0 _ rfl) dX9_takeBack_23 ?_
    obtain ⟨hn4, hf⟩ := ox_chk hf
    refine ld_X9_kinds C hK (hB.1 0 _ rfl) hn4 rfl dX9_takeBack_26 ?_
    refine lv_topi (fun x5 ex5 => ?_)
    have hf := ox_lt ex5 hf
    by_cases c6 : x5 = 0
    · have hf := (if_pos c6).symm.trans hf
      refine lv_lookup hx hb dX9_takeBack_27 (by decide) (off := 25) (by rw [c6]; decide) (tgt := 52) (by decide) ?_
      refine lv_aload_n hx hb dX9_takeBack_52 rfl (lv_at hl 1 rfl) ?_
      obtain ⟨r7, er7, hf⟩ := ox_ex hf
      refine cxVX (bs1 := (fun q => [wSteps E a_sp u3, wHall E a_h r7])) (As := []) (rest := []) (st1 := []) C hK (tX1_putOff l E a_h u_h r7 er7.symm) lk_X9_26 (by rw [hRf, hRl]; decide) ⟨Nat.zero_le _, Nat.zero_le _⟩ hB hD hN [1] (by decide) rfl (fun _ => rfl) (fun _ => rfl) (rc_X1 hK (hB.1 1 _ rfl)) rfl hl.1 rfl rfl (Nat.le_of_ble_eq_true rfl) dX9_takeBack_53 (fun H locs q8 hB => ?_)
      have hB : WB E ad s.heap [wSteps E a_sp u3, wHall E a_h r7] H locs := hB
      refine lv_goto (tgt := 97) hx hb dX9_takeBack_56 (by decide) ?_
      have hf := Option.some.inj hf
      subst hf
      exact hQ _ _ H locs (fun _ => 0) hB dX9_takeBack_97
    have hf := (if_neg c6).symm.trans hf
    by_cases c9 : x5 = 1
    · have hf := (if_pos c9).symm.trans hf
      refine lv_lookup hx hb dX9_takeBack_27 (by decide) (off := 32) (by rw [c9]; decide) (tgt := 59) (by decide) ?_
      refine lv_aload_n hx hb dX9_takeBack_59 rfl (lv_at hl 1 rfl) ?_
      refine lv_aload_n hx hb dX9_takeBack_60 rfl (lv_at hl 0 rfl) ?_
      refine gf_X9_X9_firsts C hK (hB.1 0 _ rfl) dX9_takeBack_61 ?_
      refine lv_aload_n hx hb dX9_takeBack_64 rfl (lv_at hl 0 rfl) ?_
      refine gf_X9_X9_size C hK (hB.1 0 _ rfl) dX9_takeBack_65 ?_
      obtain ⟨hn10, hf⟩ := ox_chk hf
      refine ld_X9_firsts C hK (hB.1 0 _ rfl) hn10 rfl dX9_takeBack_68 ?_
      refine lv_aload_n hx hb dX9_takeBack_69 rfl (lv_at hl 0 rfl) ?_
      refine gf_X9_X9_seconds C hK (hB.1 0 _ rfl) dX9_takeBack_70 ?_
      refine lv_aload_n hx hb dX9_takeBack_73 rfl (lv_at hl 0 rfl) ?_
      refine gf_X9_X9_size C hK (hB.1 0 _ rfl) dX9_takeBack_74 ?_
      obtain ⟨hn11, hf⟩ := ox_chk hf
      refine ld_X9_seconds C hK (hB.1 0 _ rfl) hn11 rfl dX9_takeBack_77 ?_
      obtain ⟨r12, hr12, hf⟩ := ox_bind hf
      refine cxVX (bs1 := (fun q => [wSteps E a_sp u3, wHall E a_h r12])) (As := [.int (gA u3 1 ((gI u3 3)).toNatClampNeg), .int (gA u3 2 ((gI u3 3)).toNatClampNeg)]) (rest := []) (st1 := []) C hK (tX1_swapSeats l E a_h u_h (gA u3 1 ((gI u3 3)).toNatClampNeg) (gA u3 2 ((gI u3 3)).toNatClampNeg) r12 hr12) lk_X9_31 (by rw [hRf, hRl]; decide) ⟨Nat.zero_le _, Nat.zero_le _⟩ hB hD hN [1] (by decide) rfl (fun _ => rfl) (fun _ => rfl) (rc_X1 hK (hB.1 1 _ rfl)) rfl hl.1 rfl rfl (Nat.le_of_ble_eq_true rfl) dX9_takeBack_78 (fun H locs q13 hB => ?_)
      have hB : WB E ad s.heap [wSteps E a_sp u3, wHall E a_h r12] H locs := hB
      refine lv_goto (tgt := 97) hx hb dX9_takeBack_81 (by decide) ?_
      have hf := Option.some.inj hf
      subst hf
      exact hQ _ _ H locs (fun _ => 0) hB dX9_takeBack_97
    have hf := (if_neg c9).symm.trans hf
    have hd17 : W p l e R s m args below meth c H locs 0 0 Q (F0 m 84 ls []) := by
      refine lv_aload_n hx hb dX9_takeBack_84 rfl (lv_at hl 1 rfl) ?_
      refine lv_aload_n hx hb dX9_takeBack_85 rfl (lv_at hl 0 rfl) ?_
      refine gf_X9_X9_firsts C hK (hB.1 0 _ rfl) dX9_takeBack_86 ?_
      refine lv_aload_n hx hb dX9_takeBack_89 rfl (lv_at hl 0 rfl) ?_
      refine gf_X9_X9_size C hK (hB.1 0 _ rfl) dX9_takeBack_90 ?_
      obtain ⟨hn14, hf⟩ := ox_chk hf
      refine ld_X9_firsts C hK (hB.1 0 _ rfl) hn14 rfl dX9_takeBack_93 ?_
      refine lv_topi (fun x15 ex15 => ?_)
      have hf := ox_lt ex15 hf
      refine pf_X9_X1_speed C hK hB hD 1 rfl dX9_takeBack_94 (fun H locs u16 eu16 hB => ?_)
      have hf := ox_lt eu16 hf
      have hB : WB E ad s.heap [wSteps E a_sp u3, wHall E a_h u16] H locs := hB
      have hf := Option.some.inj hf
      subst hf
      exact hQ _ _ H locs (fun _ => 0) hB dX9_takeBack_97
    have nc6 := lv_neT c6 (show Int32.toInt 0 = 0 from rfl)
    have nc9 := lv_neT c9 (show Int32.toInt 1 = 1 from rfl)
    exact lv_lookup hx hb dX9_takeBack_27 (by decide) (off := 57) ((lv_osw c6 (a := 0) rfl).trans ((lv_osw c9 (a := 1) rfl).trans rfl)) (tgt := 84) (by decide) hd17
  · have hf := (if_pos c1).symm.trans hf
    have hf := Option.some.inj hf
    subst hf
    exact hQ _ _ H locs (fun _ => 0) hB dX9_takeBack_7
set_option maxHeartbeats 4000000 in
set_option maxRecDepth 20000 in
theorem tX11_putBytes (l : Launch) (E : Ev) (a_mn : Nat → Nat) (q_mn_0_told : Nat) (q_mn_0_spare : Nat) (q_mn_0_reader : Nat) (q_mn_0_mill : Nat) (q_mn_0_now : Nat) (q_mn_0_trial : Nat) (q_mn_0_image : Nat) (q_mn_0_steps : Nat) (q_mn_0_notes : Nat) (q_mn_0_futures : Nat) (q_mn_0_order : Nat) (q_mn_0_clapRow : Nat) (u_mn : St) (a_tape : Nat → Nat) (u_tape : St) (x_1 : Int32) (res : St × St) (hf : fX11_putBytes u_mn u_tape x_1 = some res) : MX l E yX11_putBytes cX11_putBytes 3 none (rmm 0 0) [wMain E a_mn (a_tape 0) q_mn_0_told q_mn_0_spare q_mn_0_reader q_mn_0_mill q_mn_0_now q_mn_0_trial q_mn_0_image q_mn_0_steps q_mn_0_notes q_mn_0_futures q_mn_0_order q_mn_0_clapRow u_mn, wBArr E 700 a_tape u_tape] (fun q => [wMain E a_mn (a_tape 0) q_mn_0_told q_mn_0_spare q_mn_0_reader q_mn_0_mill q_mn_0_now q_mn_0_trial q_mn_0_image q_mn_0_steps q_mn_0_notes q_mn_0_futures q_mn_0_order q_mn_0_clapRow res.1, wBArr E 700 a_tape res.2]) [.ref (a_mn 0), .int x_1] none := by
  unfold fX11_putBytes at hf
  refine MX.ofV rfl (by decide) (Nat.le_of_ble_eq_true rfl) ?_
  intro p e R s m args below meth c ls Q ad H hRf hRl C hB hD hK hN hl hQ
  generalize hlocs : ([] : List Loc) = locs at hB ⊢
  clear hlocs
  have hx := C.1
  have hb := C.2.1
  have hl : lv_has ls 3 [(0, .ref (a_mn 0)), (1, .int x_1)] := hl
  refine lv_bipush (v := 24) hx hb dX11_putBytes_0 (by decide) ?_
  refine lv_istore_n (lv' := [(2, .int (24 : Int32)), (0, .ref (a_mn 0)), (1, .int x_1)]) hx hb dX11_putBytes_2 rfl hl (by decide) rfl (fun ls hl => ?_)
  obtain ⟨X1, hX1, hf⟩ := ox_bind hf
  have hexit1 : ∀ y12, y12 = X1 → ∀ (ls : Array Slot) (H : Heap) (locs : List Loc), lv_has ls 3 [] → WB E ad s.heap [wMain E a_mn (a_tape 0) q_mn_0_told q_mn_0_spare q_mn_0_reader q_mn_0_mill q_mn_0_now q_mn_0_trial q_mn_0_image q_mn_0_steps q_mn_0_notes q_mn_0_futures q_mn_0_order q_mn_0_clapRow y12.1, wBArr E 700 a_tape y12.2] H locs → W p l e R s m args below meth c H locs 0 0 Q (F0 m 46 ls []) := by
    intro y12 hy ls H locs hl hB
    subst hy
    have hf := Option.some.inj hf
    subst hf
    exact hQ _ _ H locs (fun _ => 0) hB dX11_putBytes_46
  have hloop1 : ∀ (nf : Nat) (x1 : Int32) (u2 : St) (u3 : St) (ls : Array Slot) (H : Heap) (locs : List Loc), lv_has ls 3 [(0, .ref (a_mn 0)), (1, .int x_1), (2, .int x1)] → WB E ad s.heap [wMain E a_mn (a_tape 0) q_mn_0_told q_mn_0_spare q_mn_0_reader q_mn_0_mill q_mn_0_now q_mn_0_trial q_mn_0_image q_mn_0_steps q_mn_0_notes q_mn_0_futures q_mn_0_order q_mn_0_clapRow u2, wBArr E 700 a_tape u3] H locs → fX11_putBytes_L1 x_1 nf x1 u2 u3 = some X1 → W p l e R s m args below meth c H locs 0 0 Q (F0 m 3 ls []) := by
    intro nf
    induction nf with
    | zero =>
      intro x1 u2 u3 ls H locs hl hB hf
      simp [fX11_putBytes_L1] at hf
    | succ nf ih =>
      intro x1 u2 u3 ls H locs hl hB hf
      rw [fX11_putBytes_L1] at hf
      refine lv_iload_n hx hb dX11_putBytes_3 rfl (lv_at hl 2 rfl) ?_
      refine lv_if_lt (tgt := 46) hx hb dX11_putBytes_4 (by decide) (fun c4 => ?_) (fun c4 => ?_)
      · have hf := (if_pos c4).symm.trans hf
        exact hexit1 _ (Option.some.inj hf) ls H locs (lv_sub hl [] rfl) hB
      · have hf := (if_neg c4).symm.trans hf
        refine lv_aload_n hx hb dX11_putBytes_7 rfl (lv_at hl 0 rfl) ?_
        refine gf_X11_X11_fed C hK (hB.1 0 _ rfl) dX11_putBytes_8 ?_
        refine lv_sipush (v := 700) hx hb dX11_putBytes_11 (by decide) ?_
        refine lv_icmp_ge (tgt := 46) hx hb dX11_putBytes_14 (by decide) (fun c5 => ?_) (fun c5 => ?_)
        · have hf := (if_pos c5).symm.trans hf
          exact hexit1 _ (Option.some.inj hf) ls H locs (lv_sub hl [] rfl) hB
        · have hf := (if_neg c5).symm.trans hf
          refine lv_aload_n hx hb dX11_putBytes_17 rfl (lv_at hl 0 rfl) ?_
          refine gf_X11_X11_tape C hK (hB.1 0 _ rfl) dX11_putBytes_18 ?_
          refine lv_aload_n hx hb dX11_putBytes_21 rfl (lv_at hl 0 rfl) ?_
          refine gf_X11_X11_fed C hK (hB.1 0 _ rfl) dX11_putBytes_22 ?_
          refine lv_iload_n hx hb dX11_putBytes_25 rfl (lv_at hl 1 rfl) ?_
          refine lv_iload_n hx hb dX11_putBytes_26 rfl (lv_at hl 2 rfl) ?_
          refine lv_ishr hx hb dX11_putBytes_27 ?_
          refine lv_i2b hx hb dX11_putBytes_28 rfl ?_
          refine lv_topi (fun x6 ex6 => ?_)
          have hf := ox_lt ex6 hf
          obtain ⟨hn7, hf⟩ := ox_chk hf
          refine st_BArr_row C hK hB hD 1 rfl hn7 rfl dX11_putBytes_29 (fun H locs u8 eu8 hB => ?_)
          have hf := ox_lt eu8 hf
          have hB : WB E ad s.heap [wMain E a_mn (a_tape 0) q_mn_0_told q_mn_0_spare q_mn_0_reader q_mn_0_mill q_mn_0_now q_mn_0_trial q_mn_0_image q_mn_0_steps q_mn_0_notes q_mn_0_futures q_mn_0_order q_mn_0_clapRow u2, wBArr E 700 a_tape u8] H locs := hB
          refine lv_aload_n hx hb dX11_putBytes_30 rfl (lv_at hl 0 rfl) ?_
          refine lv_dup hx hb dX11_putBytes_31 rfl ?_
          refine gf_X11_X11_fed C hK (hB.1 0 _ rfl) dX11_putBytes_32 ?_
          refine lv_iconst (v := 1) hx hb dX11_putBytes_35 (by decide) ?_
          refine lv_iadd hx hb dX11_putBytes_36 ?_
          refine lv_topi (fun x9 ex9 => ?_)
          have hf := ox_lt ex9 hf
          refine pf_X11_X11_fed C hK hB hD 0 rfl dX11_putBytes_37 (fun H locs u10 eu10 hB => ?_)
          have hf := ox_lt eu10 hf
          have hB : WB E ad s.heap [wMain E a_mn (a_tape 0) q_mn_0_told q_mn_0_spare q_mn_0_reader q_mn_0_mill q_mn_0_now q_mn_0_trial q_mn_0_image q_mn_0_steps q_mn_0_notes q_mn_0_futures q_mn_0_order q_mn_0_clapRow u10, wBArr E 700 a_tape u8] H locs := hB
          obtain ⟨x11, ex11⟩ : ∃ z : Int32, z = (x1 + (-8)) := ⟨_, rfl⟩
          have hf := ox_lt ex11 hf
          refine lv_iinc (v := x11) (lv' := [(2, .int x11), (0, .ref (a_mn 0)), (1, .int x_1)]) hx hb dX11_putBytes_40 hl (k := 2) rfl (by rw [ex11]; rfl) (by decide) rfl (fun ls hl => ?_)
          refine lv_goto (tgt := 3) hx hb dX11_putBytes_43 (by decide) ?_
          exact ih _ _ _ ls H locs (lv_sub hl [1, 2, 0] rfl) hB hf
  exact hloop1 fuel _ _ _ ls H locs (lv_sub hl [1, 2, 0] rfl) hB hX1
