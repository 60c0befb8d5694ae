set_option maxHeartbeats 4000000 in
set_option maxRecDepth 20000 in
theorem tX11_see (l : Launch) (E : Ev) (a_mn : Nat → Nat) (q_mn_0_tape : Nat) (q_mn_0_told : Nat) (q_mn_0_spare : Nat) (q_mn_0_reader : Nat) (q_mn_0_mill : Nat) (q_mn_0_now : Nat) (q_mn_0_trial : Nat) (q_mn_0_image : Nat) (q_mn_0_steps : Nat) (q_mn_0_futures : Nat) (q_mn_0_order : Nat) (q_mn_0_clapRow : Nat) (u_mn : St) (a_nt : Nat → Nat) (u_nt : St) (x_1 : Int32) (x_2 : Int32) (x_3 : Int32) (res : Int32 × St) (hf : fX11_see u_mn u_nt x_1 x_2 x_3 = some res) : MX l E yX11_see cX11_see 4 (some .int) (rmm 1 23) [wMain E a_mn q_mn_0_tape q_mn_0_told q_mn_0_spare q_mn_0_reader q_mn_0_mill q_mn_0_now q_mn_0_trial q_mn_0_image q_mn_0_steps (a_nt 0) q_mn_0_futures q_mn_0_order q_mn_0_clapRow u_mn, wNotes E a_nt u_nt] (fun q => [wMain E a_mn q_mn_0_tape q_mn_0_told q_mn_0_spare q_mn_0_reader q_mn_0_mill q_mn_0_now q_mn_0_trial q_mn_0_image q_mn_0_steps (a_nt 0) q_mn_0_futures q_mn_0_order q_mn_0_clapRow u_mn, wNotes E a_nt res.2]) [.ref (a_mn 0), .int x_1, .int x_2, .int x_3] (some (.int res.1)) := by
  unfold fX11_see at hf
  refine MX.ofI rfl (by decide) (Nat.le_of_ble_eq_true rfl) ?_
  intro p e R s m args below meth c ls Q ad H hRf hRl C hB hD hK hN hl hQ
  generalize hlocs : ([] : List Loc) = locs at hB ⊢
  clear hlocs
  have hx := C.1
  have hb := C.2.1
  have hl : lv_has ls 4 [(0, .ref (a_mn 0)), (1, .int x_1), (2, .int x_2), (3, .int x_3)] := hl
  refine lv_iload_n hx hb dX11_see_0 rfl (lv_at hl 1 rfl) ?_
  refine lv_iconst (v := 1) hx hb dX11_see_1 (by decide) ?_
  refine lv_icmp_lt (tgt := 32) hx hb dX11_see_2 (by decide) (fun c1 => ?_) (fun c1 => ?_)
  · have hf := (if_pos c1).symm.trans hf
    refine lv_iconst (v := (-1)) hx hb dX11_see_32 (by decide) ?_
    have hf := Option.some.inj hf
    subst hf
    exact hQ _ _ H locs (fun _ => 0) hB dX11_see_33
  · have hf := (if_neg c1).symm.trans hf
    refine lv_iload_n hx hb dX11_see_5 rfl (lv_at hl 1 rfl) ?_
    refine lv_bipush (v := 60) hx hb dX11_see_6 (by decide) ?_
    refine lv_icmp_gt (tgt := 32) hx hb dX11_see_8 (by decide) (fun c2 => ?_) (fun c2 => ?_)
    · have hf := (if_pos c2).symm.trans hf
      refine lv_iconst (v := (-1)) hx hb dX11_see_32 (by decide) ?_
      have hf := Option.some.inj hf
      subst hf
      exact hQ _ _ H locs (fun _ => 0) hB dX11_see_33
    · have hf := (if_neg c2).symm.trans hf
      refine lv_iload_n hx hb dX11_see_11 rfl (lv_at hl 2 rfl) ?_
      refine lv_if_lt (tgt := 32) hx hb dX11_see_12 (by decide) (fun c3 => ?_) (fun c3 => ?_)
      · have hf := (if_pos c3).symm.trans hf
        refine lv_iconst (v := (-1)) hx hb dX11_see_32 (by decide) ?_
        have hf := Option.some.inj hf
        subst hf
        exact hQ _ _ H locs (fun _ => 0) hB dX11_see_33
      · have hf := (if_neg c3).symm.trans hf
        refine lv_iload_n hx hb dX11_see_15 rfl (lv_at hl 2 rfl) ?_
        refine lv_sipush (v := 999) hx hb dX11_see_16 (by decide) ?_
        refine lv_icmp_gt (tgt := 32) hx hb dX11_see_19 (by decide) (fun c4 => ?_) (fun c4 => ?_)
        · have hf := (if_pos c4).symm.trans hf
          refine lv_iconst (v := (-1)) hx hb dX11_see_32 (by decide) ?_
          have hf := Option.some.inj hf
          subst hf
          exact hQ _ _ H locs (fun _ => 0) hB dX11_see_33
        · have hf := (if_neg c4).symm.trans hf
          refine lv_aload_n hx hb dX11_see_22 rfl (lv_at hl 0 rfl) ?_
          refine gf_X11_X11_notes C hK (hB.1 0 _ rfl) dX11_see_23 ?_
          refine cxVP (As := []) (rest := []) (st1 := [.int (fX3_isFull u_nt)]) C hK (tX3_isFull l E a_nt u_nt (fX3_isFull u_nt) rfl) lk_X11_374 ⟨rfl, rfl⟩ (by rw [hRf, hRl]; decide) ⟨Nat.zero_le _, Nat.zero_le _⟩ (PB.sub hB.1 [1] rfl) (hB.old hD hN) (Nat.le_trans hN hB.2.2.1) (rc_X3 hK (hB.1 1 _ rfl)) rfl hl.1 rfl rfl (Nat.le_of_ble_eq_true rfl) dX11_see_26 ?_
          refine lv_if_eq (tgt := 34) hx hb dX11_see_29 (by decide) (fun c5 => ?_) (fun c5 => ?_)
          · have hf := (if_pos c5).symm.trans hf
            refine lv_aload_n hx hb dX11_see_34 rfl (lv_at hl 0 rfl) ?_
            refine gf_X11_X11_notes C hK (hB.1 0 _ rfl) dX11_see_35 ?_
            refine lv_iload_n hx hb dX11_see_38 rfl (lv_at hl 1 rfl) ?_
            refine lv_iload_n hx hb dX11_see_39 rfl (lv_at hl 2 rfl) ?_
            refine lv_iload_n hx hb dX11_see_40 rfl (lv_at hl 3 rfl) ?_
            obtain ⟨r6, hr6, hf⟩ := ox_bind hf
            refine cxVX (bs1 := (fun q => [wMain E a_mn q_mn_0_tape q_mn_0_told q_mn_0_spare q_mn_0_reader q_mn_0_mill q_mn_0_now q_mn_0_trial q_mn_0_image q_mn_0_steps (a_nt 0) q_mn_0_futures q_mn_0_order q_mn_0_clapRow u_mn, wNotes E a_nt r6.2])) (As := [.int x_1, .int x_2, .int x_3]) (rest := []) (st1 := [.int r6.1]) C hK (tX3_addSight l E a_nt u_nt x_1 x_2 x_3 r6 hr6) lk_X11_378 (by rw [hRf, hRl]; decide) ⟨Nat.zero_le _, Nat.zero_le _⟩ hB hD hN [1] (by decide) rfl (fun _ => rfl) (fun _ => rfl) (rc_X3 hK (hB.1 1 _ rfl)) rfl hl.1 rfl rfl (Nat.le_of_ble_eq_true rfl) dX11_see_41 (fun H locs q7 hB => ?_)
            have hB : WB E ad s.heap [wMain E a_mn q_mn_0_tape q_mn_0_told q_mn_0_spare q_mn_0_reader q_mn_0_mill q_mn_0_now q_mn_0_trial q_mn_0_image q_mn_0_steps (a_nt 0) q_mn_0_futures q_mn_0_order q_mn_0_clapRow u_mn, wNotes E a_nt r6.2] H locs := hB
            have hf := Option.some.inj hf
            subst hf
            exact hQ _ _ H locs (fun _ => 0) hB dX11_see_44
          · have hf := (if_neg c5).symm.trans hf
            refine lv_iconst (v := (-1)) hx hb dX11_see_32 (by decide) ?_
            have hf := Option.some.inj hf
            subst hf
            exact hQ _ _ H locs (fun _ => 0) hB dX11_see_33
set_option maxHeartbeats 4000000 in
set_option maxRecDepth 20000 in
theorem tX11_strike (l : Launch) (E : Ev) (a_mn : Nat → Nat) (q_mn_0_tape : Nat) (q_mn_0_told : Nat) (q_mn_0_spare : Nat) (q_mn_0_reader : Nat) (q_mn_0_mill : Nat) (q_mn_0_now : Nat) (q_mn_0_trial : Nat) (q_mn_0_image : Nat) (q_mn_0_steps : Nat) (q_mn_0_futures : Nat) (q_mn_0_order : Nat) (q_mn_0_clapRow : Nat) (u_mn : St) (a_nt : Nat → Nat) (u_nt : St) (x_1 : Int32) (res : Int32 × St) (hf : fX11_strike u_mn u_nt x_1 = some res) : MX l E yX11_strike cX11_strike 2 (some .int) (rmm 1 21) [wMain E a_mn q_mn_0_tape q_mn_0_told q_mn_0_spare q_mn_0_reader q_mn_0_mill q_mn_0_now q_mn_0_trial q_mn_0_image q_mn_0_steps (a_nt 0) q_mn_0_futures q_mn_0_order q_mn_0_clapRow u_mn, wNotes E a_nt u_nt] (fun q => [wMain E a_mn q_mn_0_tape q_mn_0_told q_mn_0_spare q_mn_0_reader q_mn_0_mill q_mn_0_now q_mn_0_trial q_mn_0_image q_mn_0_steps (a_nt 0) q_mn_0_futures q_mn_0_order q_mn_0_clapRow u_mn, wNotes E a_nt res.2]) [.ref (a_mn 0), .int x_1] (some (.int res.1)) := by
  unfold fX11_strike at hf
  refine MX.ofI rfl (by decide) (Nat.le_of_ble_eq_true rfl) ?_
  intro p e R s m args below meth c ls Q ad H hRf hRl C hB hD hK hN hl hQ
  generalize hlocs : ([] : List Loc) = locs at hB ⊢
  clear hlocs
  have hx := C.1
  have hb := C.2.1
  have hl : lv_has ls 2 [(0, .ref (a_mn 0)), (1, .int x_1)] := hl
  refine lv_iload_n hx hb dX11_strike_0 rfl (lv_at hl 1 rfl) ?_
  refine lv_if_lt (tgt := 25) hx hb dX11_strike_1 (by decide) (fun c1 => ?_) (fun c1 => ?_)
  · have hf := (if_pos c1).symm.trans hf
    refine lv_iconst (v := (-1)) hx hb dX11_strike_25 (by decide) ?_
    have hf := Option.some.inj hf
    subst hf
    exact hQ _ _ H locs (fun _ => 0) hB dX11_strike_26
  · have hf := (if_neg c1).symm.trans hf
    refine lv_iload_n hx hb dX11_strike_4 rfl (lv_at hl 1 rfl) ?_
    refine lv_aload_n hx hb dX11_strike_5 rfl (lv_at hl 0 rfl) ?_
    refine gf_X11_X11_notes C hK (hB.1 0 _ rfl) dX11_strike_6 ?_
    refine gf_X11_X3_size C hK (hB.1 1 _ rfl) dX11_strike_9 ?_
    refine lv_icmp_ge (tgt := 25) hx hb dX11_strike_12 (by decide) (fun c2 => ?_) (fun c2 => ?_)
    · have hf := (if_pos c2).symm.trans hf
      refine lv_iconst (v := (-1)) hx hb dX11_strike_25 (by decide) ?_
      have hf := Option.some.inj hf
      subst hf
      exact hQ _ _ H locs (fun _ => 0) hB dX11_strike_26
    · have hf := (if_neg c2).symm.trans hf
      refine lv_aload_n hx hb dX11_strike_15 rfl (lv_at hl 0 rfl) ?_
      refine gf_X11_X11_notes C hK (hB.1 0 _ rfl) dX11_strike_16 ?_
      refine cxVP (As := []) (rest := []) (st1 := [.int (fX3_isFull u_nt)]) C hK (tX3_isFull l E a_nt u_nt (fX3_isFull u_nt) rfl) lk_X11_374 ⟨rfl, rfl⟩ (by rw [hRf, hRl]; decide) ⟨Nat.zero_le _, Nat.zero_le _⟩ (PB.sub hB.1 [1] rfl) (hB.old hD hN) (Nat.le_trans hN hB.2.2.1) (rc_X3 hK (hB.1 1 _ rfl)) rfl hl.1 rfl rfl (Nat.le_of_ble_eq_true rfl) dX11_strike_19 ?_
      refine lv_if_eq (tgt := 27) hx hb dX11_strike_22 (by decide) (fun c3 => ?_) (fun c3 => ?_)
      · have hf := (if_pos c3).symm.trans hf
        refine lv_aload_n hx hb dX11_strike_27 rfl (lv_at hl 0 rfl) ?_
        refine gf_X11_X11_notes C hK (hB.1 0 _ rfl) dX11_strike_28 ?_
        refine lv_iload_n hx hb dX11_strike_31 rfl (lv_at hl 1 rfl) ?_
        obtain ⟨r4, hr4, hf⟩ := ox_bind hf
        refine cxVX (bs1 := (fun q => [wMain E a_mn q_mn_0_tape q_mn_0_told q_mn_0_spare q_mn_0_reader q_mn_0_mill q_mn_0_now q_mn_0_trial q_mn_0_image q_mn_0_steps (a_nt 0) q_mn_0_futures q_mn_0_order q_mn_0_clapRow u_mn, wNotes E a_nt r4.2])) (As := [.int x_1]) (rest := []) (st1 := [.int r4.1]) C hK (tX3_addStrike l E a_nt u_nt x_1 r4 hr4) lk_X11_382 (by rw [hRf, hRl]; decide) ⟨Nat.zero_le _, Nat.zero_le _⟩ hB hD hN [1] (by decide) rfl (fun _ => rfl) (fun _ => rfl) (rc_X3 hK (hB.1 1 _ rfl)) rfl hl.1 rfl rfl (Nat.le_of_ble_eq_true rfl) dX11_strike_32 (fun H locs q5 hB => ?_)
        have hB : WB E ad s.heap [wMain E a_mn q_mn_0_tape q_mn_0_told q_mn_0_spare q_mn_0_reader q_mn_0_mill q_mn_0_now q_mn_0_trial q_mn_0_image q_mn_0_steps (a_nt 0) q_mn_0_futures q_mn_0_order q_mn_0_clapRow u_mn, wNotes E a_nt r4.2] H locs := hB
        have hf := Option.some.inj hf
        subst hf
        exact hQ _ _ H locs (fun _ => 0) hB dX11_strike_35
      · have hf := (if_neg c3).symm.trans hf
        refine lv_iconst (v := (-1)) hx hb dX11_strike_25 (by decide) ?_
        have hf := Option.some.inj hf
        subst hf
        exact hQ _ _ H locs (fun _ => 0) hB dX11_strike_26
set_option maxHeartbeats 4000000 in
set_option maxRecDepth 20000 in
theorem tX11_known (l : Launch) (E : Ev) (a_mn : Nat → Nat) (q_mn_0_tape : Nat) (q_mn_0_told : Nat) (q_mn_0_spare : Nat) (q_mn_0_reader : Nat) (q_mn_0_mill : Nat) (q_mn_0_now : Nat) (q_mn_0_trial : Nat) (q_mn_0_image : Nat) (q_mn_0_steps : Nat) (q_mn_0_futures : Nat) (q_mn_0_order : Nat) (q_mn_0_clapRow : Nat) (u_mn : St) (a_nt : Nat → Nat) (u_nt : St) (x_1 : Int32) (res : Int32 × St) (hf : fX11_known u_mn u_nt x_1 = res) : MX l E yX11_known cX11_known 2 (some .boolean) (rmm 0 0) [wMain E a_mn q_mn_0_tape q_mn_0_told q_mn_0_spare q_mn_0_reader q_mn_0_mill q_mn_0_now q_mn_0_trial q_mn_0_image q_mn_0_steps (a_nt 0) q_mn_0_futures q_mn_0_order q_mn_0_clapRow u_mn, wNotes E a_nt u_nt] (fun q => [wMain E a_mn q_mn_0_tape q_mn_0_told q_mn_0_spare q_mn_0_reader q_mn_0_mill q_mn_0_now q_mn_0_trial q_mn_0_image q_mn_0_steps (a_nt 0) q_mn_0_futures q_mn_0_order q_mn_0_clapRow u_mn, wNotes E a_nt res.2]) [.ref (a_mn 0), .int x_1] (some (.int res.1)) := by
  unfold fX11_known at hf
  refine MX.ofZZ rfl (by decide) (Nat.le_of_ble_eq_true rfl) ?_
  intro p e R s m args below meth c ls Q ad H hRf hRl C hB hD hK hN hl hQ
  generalize hlocs : ([] : List Loc) = locs at hB ⊢
  clear hlocs
  have hx := C.1
  have hb := C.2.1
  have hl : lv_has ls 2 [(0, .ref (a_mn 0)), (1, .int x_1)] := hl
  refine lv_iload_n hx hb dX11_known_0 rfl (lv_at hl 1 rfl) ?_
  refine lv_iconst (v := (-1)) hx hb dX11_known_1 (by decide) ?_
  refine lv_icmp_lt (tgt := 16) hx hb dX11_known_2 (by decide) (fun c1 => ?_) (fun c1 => ?_)
  · have hf := (if_pos c1).symm.trans hf
    refine lv_iconst (v := 0) hx hb dX11_known_16 (by decide) ?_
    subst hf
    exact hQ _ _ H locs (fun _ => 0) (0 : Int32) bz0 hB dX11_known_17
  · have hf := (if_neg c1).symm.trans hf
    refine lv_iload_n hx hb dX11_known_5 rfl (lv_at hl 1 rfl) ?_
    refine lv_aload_n hx hb dX11_known_6 rfl (lv_at hl 0 rfl) ?_
    refine gf_X11_X11_notes C hK (hB.1 0 _ rfl) dX11_known_7 ?_
    refine gf_X11_X3_size C hK (hB.1 1 _ rfl) dX11_known_10 ?_
    refine lv_icmp_le (tgt := 18) hx hb dX11_known_13 (by decide) (fun c2 => ?_) (fun c2 => ?_)
    · have hf := (if_pos c2).symm.trans hf
      refine lv_aload_n hx hb dX11_known_18 rfl (lv_at hl 0 rfl) ?_
      refine gf_X11_X11_notes C hK (hB.1 0 _ rfl) dX11_known_19 ?_
      refine lv_iload_n hx hb dX11_known_22 rfl (lv_at hl 1 rfl) ?_
      refine pf_X11_X3_knownBy C hK hB hD 1 rfl dX11_known_23 (fun H locs u3 eu3 hB => ?_)
      have hf := ox_lt eu3 hf
      have hB : WB E ad s.heap [wMain E a_mn q_mn_0_tape q_mn_0_told q_mn_0_spare q_mn_0_reader q_mn_0_mill q_mn_0_now q_mn_0_trial q_mn_0_image q_mn_0_steps (a_nt 0) q_mn_0_futures q_mn_0_order q_mn_0_clapRow u_mn, wNotes E a_nt u3] H locs := hB
      refine lv_iconst (v := 1) hx hb dX11_known_26 (by decide) ?_
      subst hf
      exact hQ _ _ H locs (fun _ => 0) (1 : Int32) bz1 hB dX11_known_27
    · have hf := (if_neg c2).symm.trans hf
      refine lv_iconst (v := 0) hx hb dX11_known_16 (by decide) ?_
      subst hf
      exact hQ _ _ H locs (fun _ => 0) (0 : Int32) bz0 hB dX11_known_17
set_option maxHeartbeats 4000000 in
set_option maxRecDepth 20000 in
theorem tX11_foresee (l : Launch) (E : Ev) (a_mn : Nat → Nat) (q_mn_0_tape : Nat) (q_mn_0_spare : Nat) (q_mn_0_reader : Nat) (q_mn_0_now : Nat) (q_mn_0_image : Nat) (q_mn_0_steps : Nat) (q_mn_0_notes : Nat) (q_mn_0_order : Nat) (q_mn_0_clapRow : Nat) (u_mn : St) (a_fut : Nat → Nat) (u_fut : St) (a_ml : Nat → Nat) (q_ml_0_script : Nat) (u_ml : St) (a_nm : Nat → Nat) (u_nm : St) (a_trial : Nat → Nat) (u_trial : St) (a_T : Nat → Nat → Nat) (u_T : Nat → St) (x_1 : Int32) (res : St × St × St × St × St × (Nat → St)) (hf : fX11_foresee u_mn u_fut u_ml u_nm u_trial u_T x_1 = some res) : MX l E yX11_foresee cX11_foresee 4 none (rmm 6 155) [wMain E a_mn q_mn_0_tape (a_T 0 0) q_mn_0_spare q_mn_0_reader (a_ml 0) q_mn_0_now (a_trial 0) q_mn_0_image q_mn_0_steps q_mn_0_notes (a_fut 0) q_mn_0_order q_mn_0_clapRow u_mn, wIArr E 600 a_fut u_fut, wMill E a_ml (a_nm 0) q_ml_0_script u_ml, wLArr E 7 a_nm u_nm, wHall E a_trial u_trial, wScript E (a_T 0) (a_T 1 0) (a_T 2 0) (a_T 3 0) (a_T 4 0) (a_T 5 0) (a_T 6 0) (a_T 7 0) (u_T 0), wRoll E 6 (a_T 1) (u_T 1), wRoll E 6 (a_T 2) (u_T 2), wRoll E 4 (a_T 3) (u_T 3), wRoll E 14 (a_T 4) (u_T 4), wFormula E (a_T 5) (u_T 5), wFormula E (a_T 6) (u_T 6), wFormula E (a_T 7) (u_T 7)] (fun q => [wMain E a_mn q_mn_0_tape (a_T 0 0) q_mn_0_spare q_mn_0_reader (a_ml 0) q_mn_0_now (a_trial 0) q_mn_0_image q_mn_0_steps q_mn_0_notes (a_fut 0) q_mn_0_order q_mn_0_clapRow res.1, wIArr E 600 a_fut res.2.1, wMill E a_ml (a_nm 0) (q 0) res.2.2.1, wLArr E 7 a_nm res.2.2.2.1, wHall E a_trial res.2.2.2.2.1, wScript E (a_T 0) (a_T 1 0) (a_T 2 0) (a_T 3 0) (a_T 4 0) (a_T 5 0) (a_T 6 0) (a_T 7 0) (res.2.2.2.2.2 0), wRoll E 6 (a_T 1) (res.2.2.2.2.2 1), wRoll E 6 (a_T 2) (res.2.2.2.2.2 2), wRoll E 4 (a_T 3) (res.2.2.2.2.2 3), wRoll E 14 (a_T 4) (res.2.2.2.2.2 4), wFormula E (a_T 5) (res.2.2.2.2.2 5), wFormula E (a_T 6) (res.2.2.2.2.2 6), wFormula E (a_T 7) (res.2.2.2.2.2 7)]) [.ref (a_mn 0), .int x_1] none := by
  unfold fX11_foresee at hf
  refine MX.ofV rfl (by decide) (Nat.le_of_ble_eq_true rfl) ?_
  intro p e R s m args below meth c ls Q ad H hRf hRl C hB hD hK hN hl hQ
  generalize hlocs : ([] : List Loc) = locs at hB ⊢
  clear hlocs
  have hx := C.1
  have hb := C.2.1
  have hl : lv_has ls 4 [(0, .ref (a_mn 0)), (1, .int x_1)] := hl
  refine lv_aload_n hx hb dX11_foresee_0 rfl (lv_at hl 0 rfl) ?_
  refine gf_X11_X11_futuresAct C hK (hB.1 0 _ rfl) dX11_foresee_1 ?_
  refine lv_iload_n hx hb dX11_foresee_4 rfl (lv_at hl 1 rfl) ?_
  refine lv_icmp_ne (tgt := 9) hx hb dX11_foresee_5 (by decide) (fun c1 => ?_) (fun c1 => ?_)
  · have hf := (if_neg c1).symm.trans hf
    refine lv_aload_n hx hb dX11_foresee_9 rfl (lv_at hl 0 rfl) ?_
    refine gf_X11_X11_mill C hK (hB.1 0 _ rfl) dX11_foresee_10 ?_
    refine lv_aload_n hx hb dX11_foresee_13 rfl (lv_at hl 0 rfl) ?_
    refine gf_X11_X11_told C hK (hB.1 0 _ rfl) dX11_foresee_14 ?_
    obtain ⟨r2, er2, hf⟩ := ox_ex hf
    refine cxVX (bs1 := (fun q => [wMain E a_mn q_mn_0_tape (a_T 0 0) q_mn_0_spare q_mn_0_reader (a_ml 0) q_mn_0_now (a_trial 0) q_mn_0_image q_mn_0_steps q_mn_0_notes (a_fut 0) q_mn_0_order q_mn_0_clapRow u_mn, wIArr E 600 a_fut u_fut, wMill E a_ml (a_nm 0) (a_T 0 0) r2, wLArr E 7 a_nm u_nm, wHall E a_trial u_trial, wScript E (a_T 0) (a_T 1 0) (a_T 2 0) (a_T 3 0) (a_T 4 0) (a_T 5 0) (a_T 6 0) (a_T 7 0) (u_T 0), wRoll E 6 (a_T 1) (u_T 1), wRoll E 6 (a_T 2) (u_T 2), wRoll E 4 (a_T 3) (u_T 3), wRoll E 14 (a_T 4) (u_T 4), wFormula E (a_T 5) (u_T 5), wFormula E (a_T 6) (u_T 6), wFormula E (a_T 7) (u_T 7)])) (As := [.ref (a_T 0 0)]) (rest := []) (st1 := []) C hK (tX2_asItGoes l E a_ml (a_nm 0) q_ml_0_script u_ml (a_T 0 0) r2 er2.symm) lk_X11_198 (by rw [hRf, hRl]; decide) ⟨Nat.zero_le _, Nat.zero_le _⟩ hB hD hN [2] (by decide) rfl (fun _ => rfl) (fun _ => rfl) (rc_X2 hK (hB.1 2 _ rfl)) rfl hl.1 rfl rfl (Nat.le_of_ble_eq_true rfl) dX11_foresee_17 (fun H locs q3 hB => ?_)
    have hB : WB E ad s.heap [wMain E a_mn q_mn_0_tape (a_T 0 0) q_mn_0_spare q_mn_0_reader (a_ml 0) q_mn_0_now (a_trial 0) q_mn_0_image q_mn_0_steps q_mn_0_notes (a_fut 0) q_mn_0_order q_mn_0_clapRow u_mn, wIArr E 600 a_fut u_fut, wMill E a_ml (a_nm 0) (a_T 0 0) r2, wLArr E 7 a_nm u_nm, wHall E a_trial u_trial, wScript E (a_T 0) (a_T 1 0) (a_T 2 0) (a_T 3 0) (a_T 4 0) (a_T 5 0) (a_T 6 0) (a_T 7 0) (u_T 0), wRoll E 6 (a_T 1) (u_T 1), wRoll E 6 (a_T 2) (u_T 2), wRoll E 4 (a_T 3) (u_T 3), wRoll E 14 (a_T 4) (u_T 4), wFormula E (a_T 5) (u_T 5), wFormula E (a_T 6) (u_T 6), wFormula E (a_T 7) (u_T 7)] H locs := hB
    refine lv_aload_n hx hb dX11_foresee_20 rfl (lv_at hl 0 rfl) ?_
    refine gf_X11_X11_mill C hK (hB.1 0 _ rfl) dX11_foresee_21 ?_
    refine lv_iload_n hx hb dX11_foresee_24 rfl (lv_at hl 1 rfl) ?_
    refine pf_X11_X2_otherAct C hK hB hD 2 rfl dX11_foresee_25 (fun H locs u4 eu4 hB => ?_)
    have hf := ox_lt eu4 hf
    have hB : WB E ad s.heap [wMain E a_mn q_mn_0_tape (a_T 0 0) q_mn_0_spare q_mn_0_reader (a_ml 0) q_mn_0_now (a_trial 0) q_mn_0_image q_mn_0_steps q_mn_0_notes (a_fut 0) q_mn_0_order q_mn_0_clapRow u_mn, wIArr E 600 a_fut u_fut, wMill E a_ml (a_nm 0) (a_T 0 0) u4, wLArr E 7 a_nm u_nm, wHall E a_trial u_trial, wScript E (a_T 0) (a_T 1 0) (a_T 2 0) (a_T 3 0) (a_T 4 0) (a_T 5 0) (a_T 6 0) (a_T 7 0) (u_T 0), wRoll E 6 (a_T 1) (u_T 1), wRoll E 6 (a_T 2) (u_T 2), wRoll E 4 (a_T 3) (u_T 3), wRoll E 14 (a_T 4) (u_T 4), wFormula E (a_T 5) (u_T 5), wFormula E (a_T 6) (u_T 6), wFormula E (a_T 7) (u_T 7)] H locs := hB
    refine lv_iconst (v := 0) hx hb dX11_foresee_28 (by decide) ?_
    refine lv_istore_n (lv' := [(2, .int (0 : Int32)), (0, .ref (a_mn 0)), (1, .int x_1)]) hx hb dX11_foresee_29 rfl hl (by decide) rfl (fun ls hl => ?_)
    obtain ⟨X1, hX1, hf⟩ := ox_bind hf
    have hexit1 : ∀ y30, y30 = X1 → ∀ (ls : Array Slot) (H : Heap) (locs : List Loc), lv_has ls 4 [(0, .ref (a_mn 0)), (1, .int x_1)] → WB E ad s.heap [wMain E a_mn q_mn_0_tape (a_T 0 0) q_mn_0_spare q_mn_0_reader (a_ml 0) q_mn_0_now (a_trial 0) q_mn_0_image q_mn_0_steps q_mn_0_notes (a_fut 0) q_mn_0_order q_mn_0_clapRow u_mn, wIArr E 600 a_fut y30.1, wMill E a_ml (a_nm 0) (a_T 0 0) y30.2.1, wLArr E 7 a_nm y30.2.2.1, wHall E a_trial y30.2.2.2.1, wScript E (a_T 0) (a_T 1 0) (a_T 2 0) (a_T 3 0) (a_T 4 0) (a_T 5 0) (a_T 6 0) (a_T 7 0) (y30.2.2.2.2 0), wRoll E 6 (a_T 1) (y30.2.2.2.2 1), wRoll E 6 (a_T 2) (y30.2.2.2.2 2), wRoll E 4 (a_T 3) (y30.2.2.2.2 3), wRoll E 14 (a_T 4) (y30.2.2.2.2 4), wFormula E (a_T 5) (y30.2.2.2.2 5), wFormula E (a_T 6) (y30.2.2.2.2 6), wFormula E (a_T 7) (y30.2.2.2.2 7)] H locs → W p l e R s m args below meth c H locs 0 0 Q (F0 m 108 ls []) := by
      intro y30 hy ls H locs hl hB
      subst hy
      refine lv_aload_n hx hb dX11_foresee_108 rfl (lv_at hl 0 rfl) ?_
      refine lv_iload_n hx hb dX11_foresee_109 rfl (lv_at hl 1 rfl) ?_
      refine pf_X11_X11_futuresAct C hK hB hD 0 rfl dX11_foresee_110 (fun H locs u31 eu31 hB => ?_)
      have hf := ox_lt eu31 hf
      have hB : WB E ad s.heap [wMain E a_mn q_mn_0_tape (a_T 0 0) q_mn_0_spare q_mn_0_reader (a_ml 0) q_mn_0_now (a_trial 0) q_mn_0_image q_mn_0_steps q_mn_0_notes (a_fut 0) q_mn_0_order q_mn_0_clapRow u31, wIArr E 600 a_fut y30.1, wMill E a_ml (a_nm 0) (a_T 0 0) y30.2.1, wLArr E 7 a_nm y30.2.2.1, wHall E a_trial y30.2.2.2.1, wScript E (a_T 0) (a_T 1 0) (a_T 2 0) (a_T 3 0) (a_T 4 0) (a_T 5 0) (a_T 6 0) (a_T 7 0) (y30.2.2.2.2 0), wRoll E 6 (a_T 1) (y30.2.2.2.2 1), wRoll E 6 (a_T 2) (y30.2.2.2.2 2), wRoll E 4 (a_T 3) (y30.2.2.2.2 3), wRoll E 14 (a_T 4) (y30.2.2.2.2 4), wFormula E (a_T 5) (y30.2.2.2.2 5), wFormula E (a_T 6) (y30.2.2.2.2 6), wFormula E (a_T 7) (y30.2.2.2.2 7)] H locs := hB
      have hf := Option.some.inj hf
      subst hf
      exact hQ _ _ H locs (fun j => if j = 0 then (a_T 0 0) else 0) hB dX11_foresee_113
    have hloop1 : ∀ (nf : Nat) (x5 : Int32) (u6 : St) (u7 : St) (u8 : St) (u9 : St) (u10 : Nat → St) (ls : Array Slot) (H : Heap) (locs : List Loc), lv_has ls 4 [(0, .ref (a_mn 0)), (1, .int x_1), (2, .int x5)] → WB E ad s.heap [wMain E a_mn q_mn_0_tape (a_T 0 0) q_mn_0_spare q_mn_0_reader (a_ml 0) q_mn_0_now (a_trial 0) q_mn_0_image q_mn_0_steps q_mn_0_notes (a_fut 0) q_mn_0_order q_mn_0_clapRow u_mn, wIArr E 600 a_fut u6, wMill E a_ml (a_nm 0) (a_T 0 0) u7, wLArr E 7 a_nm u8, wHall E a_trial u9, wScript E (a_T 0) (a_T 1 0) (a_T 2 0) (a_T 3 0) (a_T 4 0) (a_T 5 0) (a_T 6 0) (a_T 7 0) (u10 0), wRoll E 6 (a_T 1) (u10 1), wRoll E 6 (a_T 2) (u10 2), wRoll E 4 (a_T 3) (u10 3), wRoll E 14 (a_T 4) (u10 4), wFormula E (a_T 5) (u10 5), wFormula E (a_T 6) (u10 6), wFormula E (a_T 7) (u10 7)] H locs → fX11_foresee_L1 nf x5 u6 u7 u8 u9 u10 = some X1 → W p l e R s m args below meth c H locs 0 0 Q (F0 m 30 ls []) := by
      intro nf
      induction nf with
      | zero =>
        intro x5 u6 u7 u8 u9 u10 ls H locs hl hB hf
        simp [fX11_foresee_L1] at hf
      | succ nf ih =>
        intro x5 u6 u7 u8 u9 u10 ls H locs hl hB hf
        rw [fX11_foresee_L1] at hf
        refine lv_iload_n hx hb dX11_foresee_30 rfl (lv_at hl 2 rfl) ?_
        refine lv_bipush (v := 10) hx hb dX11_foresee_31 (by decide) ?_
        refine lv_icmp_ge (tgt := 108) hx hb dX11_foresee_33 (by decide) (fun c11 => ?_) (fun c11 => ?_)
        · have hf := (if_pos c11).symm.trans hf
          exact hexit1 _ (Option.some.inj hf) ls H locs (lv_sub hl [0, 1] rfl) hB
        · have hf := (if_neg c11).symm.trans hf
          refine lv_aload_n hx hb dX11_foresee_36 rfl (lv_at hl 0 rfl) ?_
          refine gf_X11_X11_mill C hK (hB.1 0 _ rfl) dX11_foresee_37 ?_
          refine lv_iload_n hx hb dX11_foresee_40 rfl (lv_at hl 2 rfl) ?_
          refine pf_X11_X2_otherMood C hK hB hD 2 rfl dX11_foresee_41 (fun H locs u12 eu12 hB => ?_)
          have hf := ox_lt eu12 hf
          have hB : WB E ad s.heap [wMain E a_mn q_mn_0_tape (a_T 0 0) q_mn_0_spare q_mn_0_reader (a_ml 0) q_mn_0_now (a_trial 0) q_mn_0_image q_mn_0_steps q_mn_0_notes (a_fut 0) q_mn_0_order q_mn_0_clapRow u_mn, wIArr E 600 a_fut u6, wMill E a_ml (a_nm 0) (a_T 0 0) u12, wLArr E 7 a_nm u8, wHall E a_trial u9, wScript E (a_T 0) (a_T 1 0) (a_T 2 0) (a_T 3 0) (a_T 4 0) (a_T 5 0) (a_T 6 0) (a_T 7 0) (u10 0), wRoll E 6 (a_T 1) (u10 1), wRoll E 6 (a_T 2) (u10 2), wRoll E 4 (a_T 3) (u10 3), wRoll E 14 (a_T 4) (u10 4), wFormula E (a_T 5) (u10 5), wFormula E (a_T 6) (u10 6), wFormula E (a_T 7) (u10 7)] H locs := hB
          refine lv_aload_n hx hb dX11_foresee_44 rfl (lv_at hl 0 rfl) ?_
          refine gf_X11_X11_trial C hK (hB.1 0 _ rfl) dX11_foresee_45 ?_
          refine lv_aload_n hx hb dX11_foresee_48 rfl (lv_at hl 0 rfl) ?_
          refine gf_X11_X11_told C hK (hB.1 0 _ rfl) dX11_foresee_49 ?_
          refine gf_X11_X8_seed C hK (hB.1 5 _ rfl) dX11_foresee_52 ?_
          obtain ⟨r13, hr13, hf⟩ := ox_bind hf
          refine cxVX (bs1 := (fun q => [wMain E a_mn q_mn_0_tape (a_T 0 0) q_mn_0_spare q_mn_0_reader (a_ml 0) q_mn_0_now (a_trial 0) q_mn_0_image q_mn_0_steps q_mn_0_notes (a_fut 0) q_mn_0_order q_mn_0_clapRow u_mn, wIArr E 600 a_fut u6, wMill E a_ml (a_nm 0) (a_T 0 0) u12, wLArr E 7 a_nm u8, wHall E a_trial r13, wScript E (a_T 0) (a_T 1 0) (a_T 2 0) (a_T 3 0) (a_T 4 0) (a_T 5 0) (a_T 6 0) (a_T 7 0) (u10 0), wRoll E 6 (a_T 1) (u10 1), wRoll E 6 (a_T 2) (u10 2), wRoll E 4 (a_T 3) (u10 3), wRoll E 14 (a_T 4) (u10 4), wFormula E (a_T 5) (u10 5), wFormula E (a_T 6) (u10 6), wFormula E (a_T 7) (u10 7)])) (As := [.int (gI (u10 0) 6)]) (rest := []) (st1 := []) C hK (tX1_begin l E a_trial u9 (gI (u10 0) 6) r13 hr13) lk_X11_120 (by rw [hRf, hRl]; decide) ⟨Nat.zero_le _, Nat.zero_le _⟩ hB hD hN [4] (by decide) rfl (fun _ => rfl) (fun _ => rfl) (rc_X1 hK (hB.1 4 _ rfl)) rfl hl.1 rfl rfl (Nat.le_of_ble_eq_true rfl) dX11_foresee_55 (fun H locs q14 hB => ?_)
          have hB : WB E ad s.heap [wMain E a_mn q_mn_0_tape (a_T 0 0) q_mn_0_spare q_mn_0_reader (a_ml 0) q_mn_0_now (a_trial 0) q_mn_0_image q_mn_0_steps q_mn_0_notes (a_fut 0) q_mn_0_order q_mn_0_clapRow u_mn, wIArr E 600 a_fut u6, wMill E a_ml (a_nm 0) (a_T 0 0) u12, wLArr E 7 a_nm u8, wHall E a_trial r13, wScript E (a_T 0) (a_T 1 0) (a_T 2 0) (a_T 3 0) (a_T 4 0) (a_T 5 0) (a_T 6 0) (a_T 7 0) (u10 0), wRoll E 6 (a_T 1) (u10 1), wRoll E 6 (a_T 2) (u10 2), wRoll E 4 (a_T 3) (u10 3), wRoll E 14 (a_T 4) (u10 4), wFormula E (a_T 5) (u10 5), wFormula E (a_T 6) (u10 6), wFormula E (a_T 7) (u10 7)] H locs := hB
          refine lv_iconst (v := 0) hx hb dX11_foresee_58 (by decide) ?_
          refine lv_istore_n (lv' := [(3, .int (0 : Int32)), (0, .ref (a_mn 0)), (1, .int x_1), (2, .int x5)]) hx hb dX11_foresee_59 rfl hl (by decide) rfl (fun ls hl => ?_)
          obtain ⟨X2, hX2, hf⟩ := ox_bind hf
          have hexit2 : ∀ y27, y27 = X2 → ∀ (ls : Array Slot) (H : Heap) (locs : List Loc), lv_has ls 4 [(0, .ref (a_mn 0)), (1, .int x_1), (2, .int x5)] → WB E ad s.heap [wMain E a_mn q_mn_0_tape (a_T 0 0) q_mn_0_spare q_mn_0_reader (a_ml 0) q_mn_0_now (a_trial 0) q_mn_0_image q_mn_0_steps q_mn_0_notes (a_fut 0) q_mn_0_order q_mn_0_clapRow u_mn, wIArr E 600 a_fut y27.1, wMill E a_ml (a_nm 0) (a_T 0 0) u12, wLArr E 7 a_nm y27.2.1, wHall E a_trial y27.2.2.1, wScript E (a_T 0) (a_T 1 0) (a_T 2 0) (a_T 3 0) (a_T 4 0) (a_T 5 0) (a_T 6 0) (a_T 7 0) (y27.2.2.2 0), wRoll E 6 (a_T 1) (y27.2.2.2 1), wRoll E 6 (a_T 2) (y27.2.2.2 2), wRoll E 4 (a_T 3) (y27.2.2.2 3), wRoll E 14 (a_T 4) (y27.2.2.2 4), wFormula E (a_T 5) (y27.2.2.2 5), wFormula E (a_T 6) (y27.2.2.2 6), wFormula E (a_T 7) (y27.2.2.2 7)] H locs → W p l e R s m args below meth c H locs 0 0 Q (F0 m 102 ls []) := by
            intro y27 hy ls H locs hl hB
            subst hy
            obtain ⟨x28, ex28⟩ : ∃ z : Int32, z = (x5 + 1) := ⟨_, rfl⟩
            have hf := ox_lt ex28 hf
            refine lv_iinc (v := x28) (lv' := [(2, .int x28), (0, .ref (a_mn 0)), (1, .int x_1)]) hx hb dX11_foresee_102 hl (k := 2) rfl (by rw [ex28]; rfl) (by decide) rfl (fun ls hl => ?_)
            refine lv_goto (tgt := 30) hx hb dX11_foresee_105 (by decide) ?_
            exact ih _ _ _ _ _ _ ls H locs (lv_sub hl [1, 2, 0] rfl) hB hf
          have hloop2 : ∀ (nf : Nat) (x15 : Int32) (u16 : St) (u17 : St) (u18 : St) (u19 : Nat → St) (ls : Array Slot) (H : Heap) (locs : List Loc), lv_has ls 4 [(0, .ref (a_mn 0)), (1, .int x_1), (2, .int x5), (3, .int x15)] → WB E ad s.heap [wMain E a_mn q_mn_0_tape (a_T 0 0) q_mn_0_spare q_mn_0_reader (a_ml 0) q_mn_0_now (a_trial 0) q_mn_0_image q_mn_0_steps q_mn_0_notes (a_fut 0) q_mn_0_order q_mn_0_clapRow u_mn, wIArr E 600 a_fut u16, wMill E a_ml (a_nm 0) (a_T 0 0) u12, wLArr E 7 a_nm u17, wHall E a_trial u18, wScript E (a_T 0) (a_T 1 0) (a_T 2 0) (a_T 3 0) (a_T 4 0) (a_T 5 0) (a_T 6 0) (a_T 7 0) (u19 0), wRoll E 6 (a_T 1) (u19 1), wRoll E 6 (a_T 2) (u19 2), wRoll E 4 (a_T 3) (u19 3), wRoll E 14 (a_T 4) (u19 4), wFormula E (a_T 5) (u19 5), wFormula E (a_T 6) (u19 6), wFormula E (a_T 7) (u19 7)] H locs → fX11_foresee_L2 x5 u12 nf x15 u16 u17 u18 u19 = some X2 → W p l e R s m args below meth c H locs 0 0 Q (F0 m 60 ls []) := by
            intro nf
            induction nf with
            | zero =>
              intro x15 u16 u17 u18 u19 ls H locs hl hB hf
              simp [fX11_foresee_L2] at hf
            | succ nf ih =>
              intro x15 u16 u17 u18 u19 ls H locs hl hB hf
              rw [fX11_foresee_L2] at hf
              refine lv_iload_n hx hb dX11_foresee_60 rfl (lv_at hl 3 rfl) ?_
              refine lv_bipush (v := 60) hx hb dX11_foresee_61 (by decide) ?_
              refine lv_icmp_ge (tgt := 102) hx hb dX11_foresee_63 (by decide) (fun c20 => ?_) (fun c20 => ?_)
              · have hf := (if_pos c20).symm.trans hf
                exact hexit2 _ (Option.some.inj hf) ls H locs (lv_sub hl [0, 1, 2] rfl) hB
              · have hf := (if_neg c20).symm.trans hf
                refine lv_aload_n hx hb dX11_foresee_66 rfl (lv_at hl 0 rfl) ?_
                refine gf_X11_X11_mill C hK (hB.1 0 _ rfl) dX11_foresee_67 ?_
                refine lv_aload_n hx hb dX11_foresee_70 rfl (lv_at hl 0 rfl) ?_
                refine gf_X11_X11_trial C hK (hB.1 0 _ rfl) dX11_foresee_71 ?_
                refine lv_iconst (v := 1) hx hb dX11_foresee_74 (by decide) ?_
                obtain ⟨r21, hr21, hf⟩ := ox_bind hf
                refine cxVX (bs1 := (fun q => [wMain E a_mn q_mn_0_tape (a_T 0 0) q_mn_0_spare q_mn_0_reader (a_ml 0) q_mn_0_now (a_trial 0) q_mn_0_image q_mn_0_steps q_mn_0_notes (a_fut 0) q_mn_0_order q_mn_0_clapRow u_mn, wIArr E 600 a_fut u16, wMill E a_ml (a_nm 0) (a_T 0 0) u12, wLArr E 7 a_nm r21.1, wHall E a_trial r21.2.2, wScript E (a_T 0) (a_T 1 0) (a_T 2 0) (a_T 3 0) (a_T 4 0) (a_T 5 0) (a_T 6 0) (a_T 7 0) (r21.2.1 0), wRoll E 6 (a_T 1) (r21.2.1 1), wRoll E 6 (a_T 2) (r21.2.1 2), wRoll E 4 (a_T 3) (r21.2.1 3), wRoll E 14 (a_T 4) (r21.2.1 4), wFormula E (a_T 5) (r21.2.1 5), wFormula E (a_T 6) (r21.2.1 6), wFormula E (a_T 7) (r21.2.1 7)])) (As := [.ref (a_trial 0), .int (1 : Int32)]) (rest := []) (st1 := []) C hK (tX2_pass l E a_ml u12 7 a_nm u17 a_T u19 a_trial u18 (1 : Int32) r21 hr21) lk_X11_277 (by rw [hRf, hRl]; decide) ⟨Nat.zero_le _, Nat.zero_le _⟩ hB hD hN [2, 3, 5, 6, 7, 8, 9, 10, 11, 12, 4] (by decide) rfl (fun _ => rfl) (fun _ => rfl) (rc_X2 hK (hB.1 2 _ rfl)) rfl hl.1 rfl rfl (Nat.le_of_ble_eq_true rfl) dX11_foresee_75 (fun H locs q22 hB => ?_)
                have hB : WB E ad s.heap [wMain E a_mn q_mn_0_tape (a_T 0 0) q_mn_0_spare q_mn_0_reader (a_ml 0) q_mn_0_now (a_trial 0) q_mn_0_image q_mn_0_steps q_mn_0_notes (a_fut 0) q_mn_0_order q_mn_0_clapRow u_mn, wIArr E 600 a_fut u16, wMill E a_ml (a_nm 0) (a_T 0 0) u12, wLArr E 7 a_nm r21.1, wHall E a_trial r21.2.2, wScript E (a_T 0) (a_T 1 0) (a_T 2 0) (a_T 3 0) (a_T 4 0) (a_T 5 0) (a_T 6 0) (a_T 7 0) (r21.2.1 0), wRoll E 6 (a_T 1) (r21.2.1 1), wRoll E 6 (a_T 2) (r21.2.1 2), wRoll E 4 (a_T 3) (r21.2.1 3), wRoll E 14 (a_T 4) (r21.2.1 4), wFormula E (a_T 5) (r21.2.1 5), wFormula E (a_T 6) (r21.2.1 6), wFormula E (a_T 7) (r21.2.1 7)] H locs := hB
                refine lv_aload_n hx hb dX11_foresee_78 rfl (lv_at hl 0 rfl) ?_
                refine gf_X11_X11_futures C hK (hB.1 0 _ rfl) dX11_foresee_79 ?_
                refine lv_iload_n hx hb dX11_foresee_82 rfl (lv_at hl 2 rfl) ?_
                refine lv_bipush (v := 60) hx hb dX11_foresee_83 (by decide) ?_
                refine lv_imul hx hb dX11_foresee_85 ?_
                refine lv_iload_n hx hb dX11_foresee_86 rfl (lv_at hl 3 rfl) ?_
                refine lv_iadd hx hb dX11_foresee_87 ?_
                refine lv_aload_n hx hb dX11_foresee_88 rfl (lv_at hl 0 rfl) ?_
                refine gf_X11_X11_trial C hK (hB.1 0 _ rfl) dX11_foresee_89 ?_
                refine gf_X11_X1_groundInAll C hK (hB.1 4 _ rfl) dX11_foresee_92 ?_
                refine lv_topi (fun x23 ex23 => ?_)
                have hf := ox_lt ex23 hf
                obtain ⟨hn24, hf⟩ := ox_chk hf
                refine st_IArr_row C hK hB hD 1 rfl hn24 rfl dX11_foresee_95 (fun H locs u25 eu25 hB => ?_)
                have hf := ox_lt eu25 hf
                have hB : WB E ad s.heap [wMain E a_mn q_mn_0_tape (a_T 0 0) q_mn_0_spare q_mn_0_reader (a_ml 0) q_mn_0_now (a_trial 0) q_mn_0_image q_mn_0_steps q_mn_0_notes (a_fut 0) q_mn_0_order q_mn_0_clapRow u_mn, wIArr E 600 a_fut u25, wMill E a_ml (a_nm 0) (a_T 0 0) u12, wLArr E 7 a_nm r21.1, wHall E a_trial r21.2.2, wScript E (a_T 0) (a_T 1 0) (a_T 2 0) (a_T 3 0) (a_T 4 0) (a_T 5 0) (a_T 6 0) (a_T 7 0) (r21.2.1 0), wRoll E 6 (a_T 1) (r21.2.1 1), wRoll E 6 (a_T 2) (r21.2.1 2), wRoll E 4 (a_T 3) (r21.2.1 3), wRoll E 14 (a_T 4) (r21.2.1 4), wFormula E (a_T 5) (r21.2.1 5), wFormula E (a_T 6) (r21.2.1 6), wFormula E (a_T 7) (r21.2.1 7)] H locs := hB
                obtain ⟨x26, ex26⟩ : ∃ z : Int32, z = (x15 + 1) := ⟨_, rfl⟩
                have hf := ox_lt ex26 hf
                refine lv_iinc (v := x26) (lv' := [(3, .int x26), (0, .ref (a_mn 0)), (1, .int x_1), (2, .int x5)]) hx hb dX11_foresee_96 hl (k := 3) rfl (by rw [ex26]; rfl) (by decide) rfl (fun ls hl => ?_)
                refine lv_goto (tgt := 60) hx hb dX11_foresee_99 (by decide) ?_
                exact ih _ _ _ _ _ ls H locs (lv_sub hl [1, 2, 3, 0] rfl) hB hf
          exact hloop2 fuel _ _ _ _ _ ls H locs (lv_sub hl [1, 2, 3, 0] rfl) hB hX2
    exact hloop1 fuel _ _ _ _ _ _ ls H locs (lv_sub hl [1, 2, 0] rfl) hB hX1
  · have hf := (if_pos c1).symm.trans hf
    have hf := Option.some.inj hf
    subst hf
    exact hQ _ _ H locs (fun j => if j = 0 then q_ml_0_script else 0) hB dX11_foresee_8
set_option maxHeartbeats 4000000 in
set_option maxRecDepth 20000 in
theorem tX11_agreeingMoods (l : Launch) (E : Ev) (a_mn : Nat → Nat) (q_mn_0_tape : Nat) (q_mn_0_told : Nat) (q_mn_0_spare : Nat) (q_mn_0_reader : Nat) (q_mn_0_mill : Nat) (q_mn_0_now : Nat) (q_mn_0_trial : Nat) (q_mn_0_image : Nat) (q_mn_0_steps : Nat) (q_mn_0_order : Nat) (q_mn_0_clapRow : Nat) (u_mn : St) (a_fut : Nat → Nat) (u_fut : St) (a_nt : Nat → Nat) (u_nt : St) (res : Int32 × St) (hf : fX11_agreeingMoods u_mn u_fut u_nt = some res) : MX l E yX11_agreeingMoods cX11_agreeingMoods 3 (some .int) (rmm 2 46) [wMain E a_mn q_mn_0_tape q_mn_0_told q_mn_0_spare q_mn_0_reader q_mn_0_mill q_mn_0_now q_mn_0_trial q_mn_0_image q_mn_0_steps (a_nt 0) (a_fut 0) q_mn_0_order q_mn_0_clapRow u_mn, wIArr E 600 a_fut u_fut, wNotes E a_nt u_nt] (fun q => [wMain E a_mn q_mn_0_tape q_mn_0_told q_mn_0_spare q_mn_0_reader q_mn_0_mill q_mn_0_now q_mn_0_trial q_mn_0_image q_mn_0_steps (a_nt 0) (a_fut 0) q_mn_0_order q_mn_0_clapRow u_mn, wIArr E 600 a_fut u_fut, wNotes E a_nt res.2]) [.ref (a_mn 0)] (some (.int res.1)) := by
  unfold fX11_agreeingMoods at hf
  refine MX.ofI rfl (by decide) (Nat.le_of_ble_eq_true rfl) ?_
  intro p e R s m args below meth c ls Q ad H hRf hRl C hB hD hK hN hl hQ
  generalize hlocs : ([] : List Loc) = locs at hB ⊢
  clear hlocs
  have hx := C.1
  have hb := C.2.1
  have hl : lv_has ls 3 [(0, .ref (a_mn 0))] := hl
  refine lv_aload_n hx hb dX11_agreeingMoods_0 rfl (lv_at hl 0 rfl) ?_
  refine gf_X11_X11_notes C hK (hB.1 0 _ rfl) dX11_agreeingMoods_1 ?_
  obtain ⟨r1, hr1, hf⟩ := ox_bind hf
  refine cxVX (bs1 := (fun q => [wMain E a_mn q_mn_0_tape q_mn_0_told q_mn_0_spare q_mn_0_reader q_mn_0_mill q_mn_0_now q_mn_0_trial q_mn_0_image q_mn_0_steps (a_nt 0) (a_fut 0) q_mn_0_order q_mn_0_clapRow u_mn, wIArr E 600 a_fut u_fut, wNotes E a_nt r1])) (As := []) (rest := []) (st1 := []) C hK (tX3_weigh l E a_nt u_nt r1 hr1) lk_X11_394 (by rw [hRf, hRl]; decide) ⟨Nat.zero_le _, Nat.zero_le _⟩ hB hD hN [2] (by decide) rfl (fun _ => rfl) (fun _ => rfl) (rc_X3 hK (hB.1 2 _ rfl)) rfl hl.1 rfl rfl (Nat.le_of_ble_eq_true rfl) dX11_agreeingMoods_4 (fun H locs q2 hB => ?_)
  have hB : WB E ad s.heap [wMain E a_mn q_mn_0_tape q_mn_0_told q_mn_0_spare q_mn_0_reader q_mn_0_mill q_mn_0_now q_mn_0_trial q_mn_0_image q_mn_0_steps (a_nt 0) (a_fut 0) q_mn_0_order q_mn_0_clapRow u_mn, wIArr E 600 a_fut u_fut, wNotes E a_nt r1] H locs := hB
  refine lv_iconst (v := 0) hx hb dX11_agreeingMoods_7 (by decide) ?_
  refine lv_istore_n (lv' := [(1, .int (0 : Int32)), (0, .ref (a_mn 0))]) hx hb dX11_agreeingMoods_8 rfl hl (by decide) rfl (fun ls hl => ?_)
  refine lv_iconst (v := 0) hx hb dX11_agreeingMoods_9 (by decide) ?_
  refine lv_istore_n (lv' := [(2, .int (0 : Int32)), (1, .int (0 : Int32)), (0, .ref (a_mn 0))]) hx hb dX11_agreeingMoods_10 rfl hl (by decide) rfl (fun ls hl => ?_)
  obtain ⟨X1, hX1, hf⟩ := ox_bind hf
  have hexit1 : ∀ y12, y12 = X1 → ∀ (ls : Array Slot) (H : Heap) (locs : List Loc), lv_has ls 3 [(1, .int y12)] → WB E ad s.heap [wMain E a_mn q_mn_0_tape q_mn_0_told q_mn_0_spare q_mn_0_reader q_mn_0_mill q_mn_0_now q_mn_0_trial q_mn_0_image q_mn_0_steps (a_nt 0) (a_fut 0) q_mn_0_order q_mn_0_clapRow u_mn, wIArr E 600 a_fut u_fut, wNotes E a_nt r1] H locs → W p l e R s m args below meth c H locs 0 0 Q (F0 m 47 ls []) := by
    intro y12 hy ls H locs hl hB
    subst hy
    refine lv_iload_n hx hb dX11_agreeingMoods_47 rfl (lv_at hl 0 rfl) ?_
    have hf := Option.some.inj hf
    subst hf
    exact hQ _ _ H locs (fun _ => 0) hB dX11_agreeingMoods_48
  have hloop1 : ∀ (nf : Nat) (x3 : Int32) (x4 : Int32) (ls : Array Slot) (H : Heap) (locs : List Loc), lv_has ls 3 [(0, .ref (a_mn 0)), (1, .int x3), (2, .int x4)] → WB E ad s.heap [wMain E a_mn q_mn_0_tape q_mn_0_told q_mn_0_spare q_mn_0_reader q_mn_0_mill q_mn_0_now q_mn_0_trial q_mn_0_image q_mn_0_steps (a_nt 0) (a_fut 0) q_mn_0_order q_mn_0_clapRow u_mn, wIArr E 600 a_fut u_fut, wNotes E a_nt r1] H locs → fX11_agreeingMoods_L1 u_fut r1 nf x3 x4 = some X1 → W p l e R s m args below meth c H locs 0 0 Q (F0 m 11 ls []) := by
    intro nf
    induction nf with
    | zero =>
      intro x3 x4 ls H locs hl hB hf
      simp [fX11_agreeingMoods_L1] at hf
    | succ nf ih =>
      intro x3 x4 ls H locs hl hB hf
      rw [fX11_agreeingMoods_L1] at hf
      refine lv_iload_n hx hb dX11_agreeingMoods_11 rfl (lv_at hl 2 rfl) ?_
      refine lv_bipush (v := 10) hx hb dX11_agreeingMoods_12 (by decide) ?_
      refine lv_icmp_ge (tgt := 47) hx hb dX11_agreeingMoods_14 (by decide) (fun c5 => ?_) (fun c5 => ?_)
      · have hf := (if_pos c5).symm.trans hf
        exact hexit1 _ (Option.some.inj hf) ls H locs (lv_sub hl [1] rfl) hB
      · have hf := (if_neg c5).symm.trans hf
        refine lv_aload_n hx hb dX11_agreeingMoods_17 rfl (lv_at hl 0 rfl) ?_
        refine gf_X11_X11_notes C hK (hB.1 0 _ rfl) dX11_agreeingMoods_18 ?_
        refine lv_aload_n hx hb dX11_agreeingMoods_21 rfl (lv_at hl 0 rfl) ?_
        refine gf_X11_X11_futures C hK (hB.1 0 _ rfl) dX11_agreeingMoods_22 ?_
        refine lv_iload_n hx hb dX11_agreeingMoods_25 rfl (lv_at hl 2 rfl) ?_
        refine lv_bipush (v := 60) hx hb dX11_agreeingMoods_26 (by decide) ?_
        refine lv_imul hx hb dX11_agreeingMoods_28 ?_
        obtain ⟨r6, hr6, hf⟩ := ox_bind hf
        refine cxVP (As := [.ref (a_fut 0), .int (x4 * (60 : Int32))]) (rest := []) (st1 := [.int r6]) C hK (tX3_agree l E a_nt r1 600 a_fut u_fut (x4 * (60 : Int32)) r6 hr6) lk_X11_397 ⟨rfl, rfl⟩ (by rw [hRf, hRl]; decide) ⟨Nat.zero_le _, Nat.zero_le _⟩ (PB.sub hB.1 [2, 1] rfl) (hB.old hD hN) (Nat.le_trans hN hB.2.2.1) (rc_X3 hK (hB.1 2 _ rfl)) rfl hl.1 rfl rfl (Nat.le_of_ble_eq_true rfl) dX11_agreeingMoods_29 ?_
        obtain ⟨j8, ej8, hf⟩ := ox_ex hf
        have hj8 : ∀ (x7 : Int32) (ls : Array Slot) (H : Heap) (locs : List Loc), lv_has ls 3 [(0, .ref (a_mn 0)), (1, .int x7), (2, .int x4)] → WB E ad s.heap [wMain E a_mn q_mn_0_tape q_mn_0_told q_mn_0_spare q_mn_0_reader q_mn_0_mill q_mn_0_now q_mn_0_trial q_mn_0_image q_mn_0_steps (a_nt 0) (a_fut 0) q_mn_0_order q_mn_0_clapRow u_mn, wIArr E 600 a_fut u_fut, wNotes E a_nt r1] H locs → j8 x7 = some X1 → W p l e R s m args below meth c H locs 0 0 Q (F0 m 41 ls []) := by
          intro x7 ls H locs hl hB hf
          have hf := ox_a1 ej8 hf
          obtain ⟨x9, ex9⟩ : ∃ z : Int32, z = (x4 + 1) := ⟨_, rfl⟩
          have hf := ox_lt ex9 hf
          refine lv_iinc (v := x9) (lv' := [(2, .int x9), (0, .ref (a_mn 0)), (1, .int x7)]) hx hb dX11_agreeingMoods_41 hl (k := 2) rfl (by rw [ex9]; rfl) (by decide) rfl (fun ls hl => ?_)
          refine lv_goto (tgt := 11) hx hb dX11_agreeingMoods_44 (by decide) ?_
          exact ih _ _ ls H locs (lv_sub hl [1, 2, 0] rfl) hB hf
        refine lv_if_eq (tgt := 41) hx hb dX11_agreeingMoods_32 (by decide) (fun c10 => ?_) (fun c10 => ?_)
        · have hf := (if_pos c10).symm.trans hf
          exact hj8 _ ls H locs (lv_sub hl [0, 1, 2] rfl) hB hf
        · have hf := (if_neg c10).symm.trans hf
          refine lv_iload_n hx hb dX11_agreeingMoods_35 rfl (lv_at hl 1 rfl) ?_
          refine lv_iconst (v := 1) hx hb dX11_agreeingMoods_36 (by decide) ?_
          refine lv_iload_n hx hb dX11_agreeingMoods_37 rfl (lv_at hl 2 rfl) ?_
          refine lv_ishl hx hb dX11_agreeingMoods_38 ?_
          refine lv_ior hx hb dX11_agreeingMoods_39 ?_
          refine lv_topi (fun x11 ex11 => ?_)
          have hf := ox_lt ex11 hf
          refine lv_istore_n (lv' := [(1, .int x11), (0, .ref (a_mn 0)), (2, .int x4)]) hx hb dX11_agreeingMoods_40 rfl hl (by decide) rfl (fun ls hl => ?_)
          exact hj8 _ ls H locs (lv_sub hl [1, 0, 2] rfl) hB hf
  exact hloop1 fuel _ _ ls H locs (lv_sub hl [2, 1, 0] rfl) hB hX1
set_option maxHeartbeats 4000000 in
set_option maxRecDepth 20000 in
theorem tX11_moods (l : Launch) (E : Ev) (a_mn : Nat → Nat) (q_mn_0_tape : Nat) (q_mn_0_spare : Nat) (q_mn_0_reader : Nat) (q_mn_0_now : Nat) (q_mn_0_image : Nat) (q_mn_0_steps : Nat) (q_mn_0_order : Nat) (q_mn_0_clapRow : Nat) (u_mn : St) (a_fut : Nat → Nat) (u_fut : St) (a_ml : Nat → Nat) (q_ml_0_script : Nat) (u_ml : St) (a_nm : Nat → Nat) (u_nm : St) (a_trial : Nat → Nat) (u_trial : St) (a_nt : Nat → Nat) (u_nt : St) (a_T : Nat → Nat → Nat) (u_T : Nat → St) (x_1 : Int32) (res : Int32 × St × St × St × St × St × St × (Nat → St)) (hf : fX11_moods u_mn u_fut u_ml u_nm u_trial u_nt u_T x_1 = some res) : MX l E yX11_moods cX11_moods 2 (some .int) (rmm 7 178) [wMain E a_mn q_mn_0_tape (a_T 0 0) q_mn_0_spare q_mn_0_reader (a_ml 0) q_mn_0_now (a_trial 0) q_mn_0_image q_mn_0_steps (a_nt 0) (a_fut 0) q_mn_0_order q_mn_0_clapRow u_mn, wIArr E 600 a_fut u_fut, wMill E a_ml (a_nm 0) q_ml_0_script u_ml, wLArr E 7 a_nm u_nm, wHall E a_trial u_trial, wNotes E a_nt u_nt, wScript E (a_T 0) (a_T 1 0) (a_T 2 0) (a_T 3 0) (a_T 4 0) (a_T 5 0) (a_T 6 0) (a_T 7 0) (u_T 0), wRoll E 6 (a_T 1) (u_T 1), wRoll E 6 (a_T 2) (u_T 2), wRoll E 4 (a_T 3) (u_T 3), wRoll E 14 (a_T 4) (u_T 4), wFormula E (a_T 5) (u_T 5), wFormula E (a_T 6) (u_T 6), wFormula E (a_T 7) (u_T 7)] (fun q => [wMain E a_mn q_mn_0_tape (a_T 0 0) q_mn_0_spare q_mn_0_reader (a_ml 0) q_mn_0_now (a_trial 0) q_mn_0_image q_mn_0_steps (a_nt 0) (a_fut 0) q_mn_0_order q_mn_0_clapRow res.2.1, wIArr E 600 a_fut res.2.2.1, wMill E a_ml (a_nm 0) (q 0) res.2.2.2.1, wLArr E 7 a_nm res.2.2.2.2.1, wHall E a_trial res.2.2.2.2.2.1, wNotes E a_nt res.2.2.2.2.2.2.1, wScript E (a_T 0) (a_T 1 0) (a_T 2 0) (a_T 3 0) (a_T 4 0) (a_T 5 0) (a_T 6 0) (a_T 7 0) (res.2.2.2.2.2.2.2 0), wRoll E 6 (a_T 1) (res.2.2.2.2.2.2.2 1), wRoll E 6 (a_T 2) (res.2.2.2.2.2.2.2 2), wRoll E 4 (a_T 3) (res.2.2.2.2.2.2.2 3), wRoll E 14 (a_T 4) (res.2.2.2.2.2.2.2 4), wFormula E (a_T 5) (res.2.2.2.2.2.2.2 5), wFormula E (a_T 6) (res.2.2.2.2.2.2.2 6), wFormula E (a_T 7) (res.2.2.2.2.2.2.2 7)]) [.ref (a_mn 0), .int x_1] (some (.int res.1)) := by
  unfold fX11_moods at hf
  refine MX.ofI rfl (by decide) (Nat.le_of_ble_eq_true rfl) ?_
  intro p e R s m args below meth c ls Q ad H hRf hRl C hB hD hK hN hl hQ
  generalize hlocs : ([] : List Loc) = locs at hB ⊢
  clear hlocs
  have hx := C.1
  have hb := C.2.1
  have hl : lv_has ls 2 [(0, .ref (a_mn 0)), (1, .int x_1)] := hl
  refine lv_aload_n hx hb dX11_moods_0 rfl (lv_at hl 0 rfl) ?_
  refine gf_X11_X11_told C hK (hB.1 0 _ rfl) dX11_moods_1 ?_
  refine gf_X11_X8_acts C hK (hB.1 6 _ rfl) dX11_moods_4 ?_
  refine lv_iload_n hx hb dX11_moods_7 rfl (lv_at hl 1 rfl) ?_
  refine cxVP (As := [.int x_1]) (rest := []) (st1 := [.int (fX7_has 6 (u_T 1) x_1)]) C hK (tX7_has l E 6 (a_T 1) (u_T 1) x_1 (fX7_has 6 (u_T 1) x_1) rfl) lk_X11_143 ⟨rfl, rfl⟩ (by rw [hRf, hRl]; decide) ⟨Nat.zero_le _, Nat.zero_le _⟩ (PB.sub hB.1 [7] rfl) (hB.old hD hN) (Nat.le_trans hN hB.2.2.1) (rc_X7 hK (hB.1 7 _ rfl)) rfl hl.1 rfl rfl (Nat.le_of_ble_eq_true rfl) dX11_moods_8 ?_
  refine lv_if_ne (tgt := 16) hx hb dX11_moods_11 (by decide) (fun c1 => ?_) (fun c1 => ?_)
  · have hf := (if_neg c1).symm.trans hf
    refine lv_aload_n hx hb dX11_moods_16 rfl (lv_at hl 0 rfl) ?_
    refine lv_iload_n hx hb dX11_moods_17 rfl (lv_at hl 1 rfl) ?_
    obtain ⟨r2, hr2, hf⟩ := ox_bind hf
    refine cxVX (bs1 := (fun q => [wMain E a_mn q_mn_0_tape (a_T 0 0) q_mn_0_spare q_mn_0_reader (a_ml 0) q_mn_0_now (a_trial 0) q_mn_0_image q_mn_0_steps (a_nt 0) (a_fut 0) q_mn_0_order q_mn_0_clapRow r2.1, wIArr E 600 a_fut r2.2.1, wMill E a_ml (a_nm 0) (q 0) r2.2.2.1, wLArr E 7 a_nm r2.2.2.2.1, wHall E a_trial r2.2.2.2.2.1, wNotes E a_nt u_nt, wScript E (a_T 0) (a_T 1 0) (a_T 2 0) (a_T 3 0) (a_T 4 0) (a_T 5 0) (a_T 6 0) (a_T 7 0) (r2.2.2.2.2.2 0), wRoll E 6 (a_T 1) (r2.2.2.2.2.2 1), wRoll E 6 (a_T 2) (r2.2.2.2.2.2 2), wRoll E 4 (a_T 3) (r2.2.2.2.2.2 3), wRoll E 14 (a_T 4) (r2.2.2.2.2.2 4), wFormula E (a_T 5) (r2.2.2.2.2.2 5), wFormula E (a_T 6) (r2.2.2.2.2.2 6), wFormula E (a_T 7) (r2.2.2.2.2.2 7)])) (As := [.int x_1]) (rest := []) (st1 := []) C hK (tX11_foresee l E a_mn q_mn_0_tape q_mn_0_spare q_mn_0_reader q_mn_0_now q_mn_0_image q_mn_0_steps (a_nt 0) q_mn_0_order q_mn_0_clapRow u_mn a_fut u_fut a_ml q_ml_0_script u_ml a_nm u_nm a_trial u_trial a_T u_T x_1 r2 hr2) lk_X11_388 (by rw [hRf, hRl]; decide) ⟨Nat.zero_le _, Nat.zero_le _⟩ hB hD hN [0, 1, 2, 3, 4, 6, 7, 8, 9, 10, 11, 12, 13] (by decide) rfl (fun _ => rfl) (fun _ => rfl) (rc_X11 hK (hB.1 0 _ rfl)) rfl hl.1 rfl rfl (Nat.le_of_ble_eq_true rfl) dX11_moods_18 (fun H locs q3 hB => ?_)
    have hB : WB E ad s.heap [wMain E a_mn q_mn_0_tape (a_T 0 0) q_mn_0_spare q_mn_0_reader (a_ml 0) q_mn_0_now (a_trial 0) q_mn_0_image q_mn_0_steps (a_nt 0) (a_fut 0) q_mn_0_order q_mn_0_clapRow r2.1, wIArr E 600 a_fut r2.2.1, wMill E a_ml (a_nm 0) (q3 0) r2.2.2.1, wLArr E 7 a_nm r2.2.2.2.1, wHall E a_trial r2.2.2.2.2.1, wNotes E a_nt u_nt, wScript E (a_T 0) (a_T 1 0) (a_T 2 0) (a_T 3 0) (a_T 4 0) (a_T 5 0) (a_T 6 0) (a_T 7 0) (r2.2.2.2.2.2 0), wRoll E 6 (a_T 1) (r2.2.2.2.2.2 1), wRoll E 6 (a_T 2) (r2.2.2.2.2.2 2), wRoll E 4 (a_T 3) (r2.2.2.2.2.2 3), wRoll E 14 (a_T 4) (r2.2.2.2.2.2 4), wFormula E (a_T 5) (r2.2.2.2.2.2 5), wFormula E (a_T 6) (r2.2.2.2.2.2 6), wFormula E (a_T 7) (r2.2.2.2.2.2 7)] H locs := hB
    refine lv_aload_n hx hb dX11_moods_21 rfl (lv_at hl 0 rfl) ?_
    obtain ⟨r4, hr4, hf⟩ := ox_bind hf
    refine cxVX (bs1 := (fun q => [wMain E a_mn q_mn_0_tape (a_T 0 0) q_mn_0_spare q_mn_0_reader (a_ml 0) q_mn_0_now (a_trial 0) q_mn_0_image q_mn_0_steps (a_nt 0) (a_fut 0) q_mn_0_order q_mn_0_clapRow r2.1, wIArr E 600 a_fut r2.2.1, wMill E a_ml (a_nm 0) (q3 0) r2.2.2.1, wLArr E 7 a_nm r2.2.2.2.1, wHall E a_trial r2.2.2.2.2.1, wNotes E a_nt r4.2, wScript E (a_T 0) (a_T 1 0) (a_T 2 0) (a_T 3 0) (a_T 4 0) (a_T 5 0) (a_T 6 0) (a_T 7 0) (r2.2.2.2.2.2 0), wRoll E 6 (a_T 1) (r2.2.2.2.2.2 1), wRoll E 6 (a_T 2) (r2.2.2.2.2.2 2), wRoll E 4 (a_T 3) (r2.2.2.2.2.2 3), wRoll E 14 (a_T 4) (r2.2.2.2.2.2 4), wFormula E (a_T 5) (r2.2.2.2.2.2 5), wFormula E (a_T 6) (r2.2.2.2.2.2 6), wFormula E (a_T 7) (r2.2.2.2.2.2 7)])) (As := []) (rest := []) (st1 := [.int r4.1]) C hK (tX11_agreeingMoods l E a_mn q_mn_0_tape (a_T 0 0) q_mn_0_spare q_mn_0_reader (a_ml 0) q_mn_0_now (a_trial 0) q_mn_0_image q_mn_0_steps q_mn_0_order q_mn_0_clapRow (r2.1) a_fut (r2.2.1) a_nt u_nt r4 hr4) lk_X11_391 (by rw [hRf, hRl]; decide) ⟨Nat.zero_le _, Nat.zero_le _⟩ hB hD hN [0, 1, 5] (by decide) rfl (fun _ => rfl) (fun _ => rfl) (rc_X11 hK (hB.1 0 _ rfl)) rfl hl.1 rfl rfl (Nat.le_of_ble_eq_true rfl) dX11_moods_22 (fun H locs q5 hB => ?_)
    have hB : WB E ad s.heap [wMain E a_mn q_mn_0_tape (a_T 0 0) q_mn_0_spare q_mn_0_reader (a_ml 0) q_mn_0_now (a_trial 0) q_mn_0_image q_mn_0_steps (a_nt 0) (a_fut 0) q_mn_0_order q_mn_0_clapRow r2.1, wIArr E 600 a_fut r2.2.1, wMill E a_ml (a_nm 0) (q3 0) r2.2.2.1, wLArr E 7 a_nm r2.2.2.2.1, wHall E a_trial r2.2.2.2.2.1, wNotes E a_nt r4.2, wScript E (a_T 0) (a_T 1 0) (a_T 2 0) (a_T 3 0) (a_T 4 0) (a_T 5 0) (a_T 6 0) (a_T 7 0) (r2.2.2.2.2.2 0), wRoll E 6 (a_T 1) (r2.2.2.2.2.2 1), wRoll E 6 (a_T 2) (r2.2.2.2.2.2 2), wRoll E 4 (a_T 3) (r2.2.2.2.2.2 3), wRoll E 14 (a_T 4) (r2.2.2.2.2.2 4), wFormula E (a_T 5) (r2.2.2.2.2.2 5), wFormula E (a_T 6) (r2.2.2.2.2.2 6), wFormula E (a_T 7) (r2.2.2.2.2.2 7)] H locs := hB
    have hf := Option.some.inj hf
    subst hf
    exact hQ _ _ H locs (fun j => if j = 0 then (q3 0) else 0) hB dX11_moods_25
  · have hf := (if_pos c1).symm.trans hf
    refine lv_iconst (v := (-1)) hx hb dX11_moods_14 (by decide) ?_
    have hf := Option.some.inj hf
    subst hf
    exact hQ _ _ H locs (fun j => if j = 0 then q_ml_0_script else 0) hB dX11_moods_15
set_option maxHeartbeats 4000000 in
set_option maxRecDepth 20000 in
theorem tX11_leftBy (l : Launch) (E : Ev) (a_mn : Nat → Nat) (q_mn_0_tape : Nat) (q_mn_0_told : Nat) (q_mn_0_spare : Nat) (q_mn_0_reader : Nat) (q_mn_0_mill : Nat) (q_mn_0_now : Nat) (q_mn_0_trial : Nat) (q_mn_0_image : Nat) (q_mn_0_steps : Nat) (q_mn_0_notes : Nat) (q_mn_0_order : Nat) (q_mn_0_clapRow : Nat) (u_mn : St) (a_fut : Nat → Nat) (u_fut : St) (x_1 : Int32) (x_2 : Int32) (x_3 : Int32) (res : Int32) (hf : fX11_leftBy u_mn u_fut x_1 x_2 x_3 = some res) : MP l E yX11_leftBy cX11_leftBy 6 (some .int) (rmm 0 0) [wMain E a_mn q_mn_0_tape q_mn_0_told q_mn_0_spare q_mn_0_reader q_mn_0_mill q_mn_0_now q_mn_0_trial q_mn_0_image q_mn_0_steps q_mn_0_notes (a_fut 0) q_mn_0_order q_mn_0_clapRow u_mn, wIArr E 600 a_fut u_fut] [.ref (a_mn 0), .int x_1, .int x_2, .int x_3] (some (.int res)) := by
  unfold fX11_leftBy at hf
  refine MP.ofI rfl (by decide) (Nat.le_of_ble_eq_true rfl) ?_
  intro p e R s m args below meth c ls Q hRf hRl C hP hK hN hl hQ
  have hx := C.1
  have hb := C.2.1
  have hl : lv_has ls 6 [(0, .ref (a_mn 0)), (1, .int x_1), (2, .int x_2), (3, .int x_3)] := hl
  refine lv_iconst (v := 0) hx hb dX11_leftBy_0 (by decide) ?_
  refine lv_istore (lv' := [(4, .int (0 : Int32)), (0, .ref (a_mn 0)), (1, .int x_1), (2, .int x_2), (3, .int x_3)]) hx hb dX11_leftBy_1 hl (by decide) rfl (fun ls hl => ?_)
  refine lv_iconst (v := 0) hx hb dX11_leftBy_3 (by decide) ?_
  refine lv_istore (lv' := [(5, .int (0 : Int32)), (4, .int (0 : Int32)), (0, .ref (a_mn 0)), (1, .int x_1), (2, .int x_2), (3, .int x_3)]) hx hb dX11_leftBy_4 hl (by decide) rfl (fun ls hl => ?_)
  obtain ⟨X1, hX1, hf⟩ := ox_bind hf
  have hexit1 : ∀ y11, y11 = X1 → ∀ (ls : Array Slot), lv_has ls 6 [(4, .int y11)] → W p l e R s m args below meth c s.heap [] 0 0 Q (F0 m 48 ls []) := by
    intro y11 hy ls hl
    subst hy
    refine lv_iload hx hb dX11_leftBy_48 (lv_at hl 0 rfl) ?_
    have hf := Option.some.inj hf
    subst hf
    exact hQ _ _ dX11_leftBy_50
  have hloop1 : ∀ (nf : Nat) (x1 : Int32) (x2 : Int32) (ls : Array Slot), lv_has ls 6 [(0, .ref (a_mn 0)), (1, .int x_1), (2, .int x_2), (3, .int x_3), (4, .int x1), (5, .int x2)] → fX11_leftBy_L1 u_fut x_1 x_2 x_3 nf x1 x2 = some X1 → W p l e R s m args below meth c s.heap [] 0 0 Q (F0 m 6 ls []) := by
    intro nf
    induction nf with
    | zero =>
      intro x1 x2 ls hl hf
      simp [fX11_leftBy_L1] at hf
    | succ nf ih =>
      intro x1 x2 ls hl hf
      rw [fX11_leftBy_L1] at hf
      refine lv_iload hx hb dX11_leftBy_6 (lv_at hl 5 rfl) ?_
      refine lv_bipush (v := 10) hx hb dX11_leftBy_8 (by decide) ?_
      refine lv_icmp_ge (tgt := 48) hx hb dX11_leftBy_10 (by decide) (fun c3 => ?_) (fun c3 => ?_)
      · have hf := (if_pos c3).symm.trans hf
        exact hexit1 _ (Option.some.inj hf) ls (lv_sub hl [4] rfl)
      · have hf := (if_neg c3).symm.trans hf
        refine lv_iload_n hx hb dX11_leftBy_13 rfl (lv_at hl 1 rfl) ?_
        refine lv_iload hx hb dX11_leftBy_14 (lv_at hl 5 rfl) ?_
        refine lv_ishr hx hb dX11_leftBy_16 ?_
        refine lv_iconst (v := 1) hx hb dX11_leftBy_17 (by decide) ?_
        refine lv_iand hx hb dX11_leftBy_18 ?_
        refine lv_iconst (v := 1) hx hb dX11_leftBy_19 (by decide) ?_
        obtain ⟨j5, ej5, hf⟩ := ox_ex hf
        have hj5 : ∀ (x4 : Int32) (ls : Array Slot), lv_has ls 6 [(0, .ref (a_mn 0)), (1, .int x_1), (2, .int x_2), (3, .int x_3), (4, .int x4), (5, .int x2)] → j5 x4 = some X1 → W p l e R s m args below meth c s.heap [] 0 0 Q (F0 m 42 ls []) := by
          intro x4 ls hl hf
          have hf := ox_a1 ej5 hf
          obtain ⟨x6, ex6⟩ : ∃ z : Int32, z = (x2 + 1) := ⟨_, rfl⟩
          have hf := ox_lt ex6 hf
          refine lv_iinc (v := x6) (lv' := [(5, .int x6), (0, .ref (a_mn 0)), (1, .int x_1), (2, .int x_2), (3, .int x_3), (4, .int x4)]) hx hb dX11_leftBy_42 hl (k := 5) rfl (by rw [ex6]; rfl) (by decide) rfl (fun ls hl => ?_)
          refine lv_goto (tgt := 6) hx hb dX11_leftBy_45 (by decide) ?_
          exact ih _ _ ls (lv_sub hl [1, 2, 3, 4, 5, 0] rfl) hf
        refine lv_icmp_ne (tgt := 42) hx hb dX11_leftBy_20 (by decide) (fun c7 => ?_) (fun c7 => ?_)
        · have hf := (if_neg c7).symm.trans hf
          exact hj5 _ ls (lv_sub hl [0, 1, 2, 3, 4, 5] rfl) hf
        · have hf := (if_pos c7).symm.trans hf
          refine lv_aload_n hx hb dX11_leftBy_23 rfl (lv_at hl 0 rfl) ?_
          refine gf_X11_X11_futures C hK (hP 0 _ rfl) dX11_leftBy_24 ?_
          refine lv_iload hx hb dX11_leftBy_27 (lv_at hl 5 rfl) ?_
          refine lv_bipush (v := 60) hx hb dX11_leftBy_29 (by decide) ?_
          refine lv_imul hx hb dX11_leftBy_31 ?_
          refine lv_iload_n hx hb dX11_leftBy_32 rfl (lv_at hl 2 rfl) ?_
          refine lv_iadd hx hb dX11_leftBy_33 ?_
          obtain ⟨hn8, hf⟩ := ox_chk hf
          refine ld_IArr_row C hK (hP 1 _ rfl) hn8 rfl dX11_leftBy_34 ?_
          refine lv_iload_n hx hb dX11_leftBy_35 rfl (lv_at hl 3 rfl) ?_
          refine lv_icmp_ne (tgt := 42) hx hb dX11_leftBy_36 (by decide) (fun c9 => ?_) (fun c9 => ?_)
          · have hf := (if_neg c9).symm.trans hf
            exact hj5 _ ls (lv_sub hl [0, 1, 2, 3, 4, 5] rfl) hf
          · have hf := (if_pos c9).symm.trans hf
            obtain ⟨x10, ex10⟩ : ∃ z : Int32, z = (x1 + 1) := ⟨_, rfl⟩
            have hf := ox_lt ex10 hf
            refine lv_iinc (v := x10) (lv' := [(4, .int x10), (0, .ref (a_mn 0)), (1, .int x_1), (2, .int x_2), (3, .int x_3), (5, .int x2)]) hx hb dX11_leftBy_39 hl (k := 4) rfl (by rw [ex10]; rfl) (by decide) rfl (fun ls hl => ?_)
            exact hj5 _ ls (lv_sub hl [1, 2, 3, 4, 0, 5] rfl) hf
  exact hloop1 fuel _ _ ls (lv_sub hl [2, 3, 4, 5, 1, 0] rfl) hX1
set_option maxHeartbeats 4000000 in
set_option maxRecDepth 20000 in
theorem tX11_leftAtWorst (l : Launch) (E : Ev) (a_mn : Nat → Nat) (q_mn_0_tape : Nat) (q_mn_0_told : Nat) (q_mn_0_spare : Nat) (q_mn_0_reader : Nat) (q_mn_0_mill : Nat) (q_mn_0_now : Nat) (q_mn_0_trial : Nat) (q_mn_0_image : Nat) (q_mn_0_steps : Nat) (q_mn_0_notes : Nat) (q_mn_0_order : Nat) (q_mn_0_clapRow : Nat) (u_mn : St) (a_fut : Nat → Nat) (u_fut : St) (x_1 : Int32) (x_2 : Int32) (res : Int32) (hf : fX11_leftAtWorst u_mn u_fut x_1 x_2 = some res) : MP l E yX11_leftAtWorst cX11_leftAtWorst 5 (some .int) (rmm 1 30) [wMain E a_mn q_mn_0_tape q_mn_0_told q_mn_0_spare q_mn_0_reader q_mn_0_mill q_mn_0_now q_mn_0_trial q_mn_0_image q_mn_0_steps q_mn_0_notes (a_fut 0) q_mn_0_order q_mn_0_clapRow u_mn, wIArr E 600 a_fut u_fut] [.ref (a_mn 0), .int x_1, .int x_2] (some (.int res)) := by
  unfold fX11_leftAtWorst at hf
  refine MP.ofI rfl (by decide) (Nat.le_of_ble_eq_true rfl) ?_
  intro p e R s m args below meth c ls Q hRf hRl C hP hK hN hl hQ
  have hx := C.1
  have hb := C.2.1
  have hl : lv_has ls 5 [(0, .ref (a_mn 0)), (1, .int x_1), (2, .int x_2)] := hl
  refine lv_iconst (v := 0) hx hb dX11_leftAtWorst_0 (by decide) ?_
  refine lv_istore_n (lv' := [(3, .int (0 : Int32)), (0, .ref (a_mn 0)), (1, .int x_1), (2, .int x_2)]) hx hb dX11_leftAtWorst_1 rfl hl (by decide) rfl (fun ls hl => ?_)
  refine lv_iconst (v := 0) hx hb dX11_leftAtWorst_2 (by decide) ?_
  refine lv_istore (lv' := [(4, .int (0 : Int32)), (3, .int (0 : Int32)), (0, .ref (a_mn 0)), (1, .int x_1), (2, .int x_2)]) hx hb dX11_leftAtWorst_3 hl (by decide) rfl (fun ls hl => ?_)
  obtain ⟨X1, hX1, hf⟩ := ox_bind hf
  have hexit1 : ∀ y11, y11 = X1 → ∀ (ls : Array Slot), lv_has ls 5 [(3, .int y11)] → W p l e R s m args below meth c s.heap [] 0 0 Q (F0 m 51 ls []) := by
    intro y11 hy ls hl
    subst hy
    refine lv_iload_n hx hb dX11_leftAtWorst_51 rfl (lv_at hl 0 rfl) ?_
    have hf := Option.some.inj hf
    subst hf
    exact hQ _ _ dX11_leftAtWorst_52
  have hloop1 : ∀ (nf : Nat) (x1 : Int32) (x2 : Int32) (ls : Array Slot), lv_has ls 5 [(0, .ref (a_mn 0)), (1, .int x_1), (2, .int x_2), (3, .int x1), (4, .int x2)] → fX11_leftAtWorst_L1 u_mn u_fut x_1 x_2 nf x1 x2 = some X1 → W p l e R s m args below meth c s.heap [] 0 0 Q (F0 m 5 ls []) := by
    intro nf
    induction nf with
    | zero =>
      intro x1 x2 ls hl hf
      simp [fX11_leftAtWorst_L1] at hf
    | succ nf ih =>
      intro x1 x2 ls hl hf
      rw [fX11_leftAtWorst_L1] at hf
      refine lv_iload hx hb dX11_leftAtWorst_5 (lv_at hl 4 rfl) ?_
      refine lv_bipush (v := 10) hx hb dX11_leftAtWorst_7 (by decide) ?_
      refine lv_icmp_ge (tgt := 51) hx hb dX11_leftAtWorst_9 (by decide) (fun c3 => ?_) (fun c3 => ?_)
      · have hf := (if_pos c3).symm.trans hf
        exact hexit1 _ (Option.some.inj hf) ls (lv_sub hl [3] rfl)
      · have hf := (if_neg c3).symm.trans hf
        refine lv_iload_n hx hb dX11_leftAtWorst_12 rfl (lv_at hl 1 rfl) ?_
        refine lv_iload hx hb dX11_leftAtWorst_13 (lv_at hl 4 rfl) ?_
        refine lv_ishr hx hb dX11_leftAtWorst_15 ?_
        refine lv_iconst (v := 1) hx hb dX11_leftAtWorst_16 (by decide) ?_
        refine lv_iand hx hb dX11_leftAtWorst_17 ?_
        refine lv_iconst (v := 1) hx hb dX11_leftAtWorst_18 (by decide) ?_
        obtain ⟨j5, ej5, hf⟩ := ox_ex hf
        have hj5 : ∀ (x4 : Int32) (ls : Array Slot), lv_has ls 5 [(0, .ref (a_mn 0)), (1, .int x_1), (2, .int x_2), (3, .int x4), (4, .int x2)] → j5 x4 = some X1 → W p l e R s m args below meth c s.heap [] 0 0 Q (F0 m 45 ls []) := by
          intro x4 ls hl hf
          have hf := ox_a1 ej5 hf
          obtain ⟨x6, ex6⟩ : ∃ z : Int32, z = (x2 + 1) := ⟨_, rfl⟩
          have hf := ox_lt ex6 hf
          refine lv_iinc (v := x6) (lv' := [(4, .int x6), (0, .ref (a_mn 0)), (1, .int x_1), (2, .int x_2), (3, .int x4)]) hx hb dX11_leftAtWorst_45 hl (k := 4) rfl (by rw [ex6]; rfl) (by decide) rfl (fun ls hl => ?_)
          refine lv_goto (tgt := 5) hx hb dX11_leftAtWorst_48 (by decide) ?_
          exact ih _ _ ls (lv_sub hl [1, 2, 3, 4, 0] rfl) hf
        refine lv_icmp_ne (tgt := 45) hx hb dX11_leftAtWorst_19 (by decide) (fun c7 => ?_) (fun c7 => ?_)
        · have hf := (if_neg c7).symm.trans hf
          exact hj5 _ ls (lv_sub hl [0, 1, 2, 3, 4] rfl) hf
        · have hf := (if_pos c7).symm.trans hf
          refine lv_iload_n hx hb dX11_leftAtWorst_22 rfl (lv_at hl 3 rfl) ?_
          refine lv_aload_n hx hb dX11_leftAtWorst_23 rfl (lv_at hl 0 rfl) ?_
          refine lv_iload_n hx hb dX11_leftAtWorst_24 rfl (lv_at hl 1 rfl) ?_
          refine lv_iload_n hx hb dX11_leftAtWorst_25 rfl (lv_at hl 2 rfl) ?_
          refine lv_aload_n hx hb dX11_leftAtWorst_26 rfl (lv_at hl 0 rfl) ?_
          refine gf_X11_X11_futures C hK (hP 0 _ rfl) dX11_leftAtWorst_27 ?_
          refine lv_iload hx hb dX11_leftAtWorst_30 (lv_at hl 4 rfl) ?_
          refine lv_bipush (v := 60) hx hb dX11_leftAtWorst_32 (by decide) ?_
          refine lv_imul hx hb dX11_leftAtWorst_34 ?_
          refine lv_iload_n hx hb dX11_leftAtWorst_35 rfl (lv_at hl 2 rfl) ?_
          refine lv_iadd hx hb dX11_leftAtWorst_36 ?_
          obtain ⟨hn8, hf⟩ := ox_chk hf
          refine ld_IArr_row C hK (hP 1 _ rfl) hn8 rfl dX11_leftAtWorst_37 ?_
          obtain ⟨r9, hr9, hf⟩ := ox_bind hf
          refine cxVP (As := [.int x_1, .int x_2, .int (gA u_fut 0 (((x2 * (60 : Int32)) + x_2)).toNatClampNeg)]) (rest := [.int x1]) (st1 := [.int r9, .int x1]) C hK (tX11_leftBy l E a_mn q_mn_0_tape q_mn_0_told q_mn_0_spare q_mn_0_reader q_mn_0_mill q_mn_0_now q_mn_0_trial q_mn_0_image q_mn_0_steps q_mn_0_notes q_mn_0_order q_mn_0_clapRow u_mn a_fut u_fut x_1 x_2 (gA u_fut 0 (((x2 * (60 : Int32)) + x_2)).toNatClampNeg) r9 hr9) lk_X11_410 ⟨rfl, rfl⟩ (by rw [hRf, hRl]; decide) ⟨Nat.zero_le _, Nat.zero_le _⟩ (PB.sub hP [0, 1] rfl) (fun _ _ => rfl) hN (rc_X11 hK (hP 0 _ rfl)) rfl hl.1 rfl rfl (Nat.le_of_ble_eq_true rfl) dX11_leftAtWorst_38 ?_
          refine va_mmax hx hb (C.2.2.1.trans hl.1.symm) C.2.2.2.1 (C.2.2.2.2 _ mw_1070) (C.2.2.2.2 _ mm_mmax_s) (C.2.2.2.2 _ mm_ini) (C.2.2.2.2 _ mm_mmax_c) (by rw [hRf]; decide) (by rw [hRl]; exact Nat.le_of_ble_eq_true rfl) (Nat.zero_le _) (Nat.zero_le _) dX11_leftAtWorst_41 ?_
          refine lv_topi (fun x10 ex10 => ?_)
          have hf := ox_lt ex10 hf
          refine lv_istore_n (lv' := [(3, .int x10), (0, .ref (a_mn 0)), (1, .int x_1), (2, .int x_2), (4, .int x2)]) hx hb dX11_leftAtWorst_44 rfl hl (by decide) rfl (fun ls hl => ?_)
          exact hj5 _ ls (lv_sub hl [1, 2, 3, 0, 4] rfl) hf
  exact hloop1 fuel _ _ ls (lv_sub hl [2, 3, 4, 1, 0] rfl) hX1
set_option maxHeartbeats 4000000 in
set_option maxRecDepth 20000 in
theorem tX11_ask (l : Launch) (E : Ev) (a_mn : Nat → Nat) (q_mn_0_tape : Nat) (q_mn_0_spare : Nat) (q_mn_0_reader : Nat) (q_mn_0_now : Nat) (q_mn_0_image : Nat) (q_mn_0_steps : Nat) (q_mn_0_order : Nat) (q_mn_0_clapRow : Nat) (u_mn : St) (a_fut : Nat → Nat) (u_fut : St) (a_ml : Nat → Nat) (q_ml_0_script : Nat) (u_ml : St) (a_nm : Nat → Nat) (u_nm : St) (a_trial : Nat → Nat) (u_trial : St) (a_nt : Nat → Nat) (u_nt : St) (a_T : Nat → Nat → Nat) (u_T : Nat → St) (x_1 : Int32) (x_2 : Int32) (res : Int32 × St × St × St × St × St × St × (Nat → St)) (hf : fX11_ask u_mn u_fut u_ml u_nm u_trial u_nt u_T x_1 x_2 = some res) : MX l E yX11_ask cX11_ask 8 (some .int) (rmm 7 178) [wMain E a_mn q_mn_0_tape (a_T 0 0) q_mn_0_spare q_mn_0_reader (a_ml 0) q_mn_0_now (a_trial 0) q_mn_0_image q_mn_0_steps (a_nt 0) (a_fut 0) q_mn_0_order q_mn_0_clapRow u_mn, wIArr E 600 a_fut u_fut, wMill E a_ml (a_nm 0) q_ml_0_script u_ml, wLArr E 7 a_nm u_nm, wHall E a_trial u_trial, wNotes E a_nt u_nt, wScript E (a_T 0) (a_T 1 0) (a_T 2 0) (a_T 3 0) (a_T 4 0) (a_T 5 0) (a_T 6 0) (a_T 7 0) (u_T 0), wRoll E 6 (a_T 1) (u_T 1), wRoll E 6 (a_T 2) (u_T 2), wRoll E 4 (a_T 3) (u_T 3), wRoll E 14 (a_T 4) (u_T 4), wFormula E (a_T 5) (u_T 5), wFormula E (a_T 6) (u_T 6), wFormula E (a_T 7) (u_T 7)] (fun q => [wMain E a_mn q_mn_0_tape (a_T 0 0) q_mn_0_spare q_mn_0_reader (a_ml 0) q_mn_0_now (a_trial 0) q_mn_0_image q_mn_0_steps (a_nt 0) (a_fut 0) q_mn_0_order q_mn_0_clapRow res.2.1, wIArr E 600 a_fut res.2.2.1, wMill E a_ml (a_nm 0) (q 0) res.2.2.2.1, wLArr E 7 a_nm res.2.2.2.2.1, wHall E a_trial res.2.2.2.2.2.1, wNotes E a_nt res.2.2.2.2.2.2.1, wScript E (a_T 0) (a_T 1 0) (a_T 2 0) (a_T 3 0) (a_T 4 0) (a_T 5 0) (a_T 6 0) (a_T 7 0) (res.2.2.2.2.2.2.2 0), wRoll E 6 (a_T 1) (res.2.2.2.2.2.2.2 1), wRoll E 6 (a_T 2) (res.2.2.2.2.2.2.2 2), wRoll E 4 (a_T 3) (res.2.2.2.2.2.2.2 3), wRoll E 14 (a_T 4) (res.2.2.2.2.2.2.2 4), wFormula E (a_T 5) (res.2.2.2.2.2.2.2 5), wFormula E (a_T 6) (res.2.2.2.2.2.2.2 6), wFormula E (a_T 7) (res.2.2.2.2.2.2.2 7)]) [.ref (a_mn 0), .int x_1, .int x_2] (some (.int res.1)) := by
  unfold fX11_ask at hf
  refine MX.ofI rfl (by decide) (Nat.le_of_ble_eq_true rfl) ?_
  intro p e R s m args below meth c ls Q ad H hRf hRl C hB hD hK hN hl hQ
  generalize hlocs : ([] : List Loc) = locs at hB ⊢
  clear hlocs
  have hx := C.1
  have hb := C.2.1
  have hl : lv_has ls 8 [(0, .ref (a_mn 0)), (1, .int x_1), (2, .int x_2)] := hl
  refine lv_aload_n hx hb dX11_ask_0 rfl (lv_at hl 0 rfl) ?_
  refine gf_X11_X11_told C hK (hB.1 0 _ rfl) dX11_ask_1 ?_
  refine gf_X11_X8_acts C hK (hB.1 6 _ rfl) dX11_ask_4 ?_
  refine lv_iload_n hx hb dX11_ask_7 rfl (lv_at hl 1 rfl) ?_
  refine cxVP (As := [.int x_1]) (rest := []) (st1 := [.int (fX7_has 6 (u_T 1) x_1)]) C hK (tX7_has l E 6 (a_T 1) (u_T 1) x_1 (fX7_has 6 (u_T 1) x_1) rfl) lk_X11_143 ⟨rfl, rfl⟩ (by rw [hRf, hRl]; decide) ⟨Nat.zero_le _, Nat.zero_le _⟩ (PB.sub hB.1 [7] rfl) (hB.old hD hN) (Nat.le_trans hN hB.2.2.1) (rc_X7 hK (hB.1 7 _ rfl)) rfl hl.1 rfl rfl (Nat.le_of_ble_eq_true rfl) dX11_ask_8 ?_
  refine lv_if_eq (tgt := 23) hx hb dX11_ask_11 (by decide) (fun c1 => ?_) (fun c1 => ?_)
  · have hf := (if_pos c1).symm.trans hf
    refine lv_iconst (v := (-1)) hx hb dX11_ask_23 (by decide) ?_
    have hf := Option.some.inj hf
    subst hf
    exact hQ _ _ H locs (fun j => if j = 0 then q_ml_0_script else 0) hB dX11_ask_24
  · have hf := (if_neg c1).symm.trans hf
    refine lv_iload_n hx hb dX11_ask_14 rfl (lv_at hl 2 rfl) ?_
    refine lv_if_lt (tgt := 23) hx hb dX11_ask_15 (by decide) (fun c2 => ?_) (fun c2 => ?_)
    · have hf := (if_pos c2).symm.trans hf
      refine lv_iconst (v := (-1)) hx hb dX11_ask_23 (by decide) ?_
      have hf := Option.some.inj hf
      subst hf
      exact hQ _ _ H locs (fun j => if j = 0 then q_ml_0_script else 0) hB dX11_ask_24
    · have hf := (if_neg c2).symm.trans hf
      refine lv_iload_n hx hb dX11_ask_18 rfl (lv_at hl 2 rfl) ?_
      refine lv_iconst (v := 1) hx hb dX11_ask_19 (by decide) ?_
      refine lv_icmp_le (tgt := 25) hx hb dX11_ask_20 (by decide) (fun c3 => ?_) (fun c3 => ?_)
      · have hf := (if_pos c3).symm.trans hf
        refine lv_aload_n hx hb dX11_ask_25 rfl (lv_at hl 0 rfl) ?_
        refine lv_iload_n hx hb dX11_ask_26 rfl (lv_at hl 1 rfl) ?_
        obtain ⟨r4, hr4, hf⟩ := ox_bind hf
        refine cxVX (bs1 := (fun q => [wMain E a_mn q_mn_0_tape (a_T 0 0) q_mn_0_spare q_mn_0_reader (a_ml 0) q_mn_0_now (a_trial 0) q_mn_0_image q_mn_0_steps (a_nt 0) (a_fut 0) q_mn_0_order q_mn_0_clapRow r4.1, wIArr E 600 a_fut r4.2.1, wMill E a_ml (a_nm 0) (q 0) r4.2.2.1, wLArr E 7 a_nm r4.2.2.2.1, wHall E a_trial r4.2.2.2.2.1, wNotes E a_nt u_nt, wScript E (a_T 0) (a_T 1 0) (a_T 2 0) (a_T 3 0) (a_T 4 0) (a_T 5 0) (a_T 6 0) (a_T 7 0) (r4.2.2.2.2.2 0), wRoll E 6 (a_T 1) (r4.2.2.2.2.2 1), wRoll E 6 (a_T 2) (r4.2.2.2.2.2 2), wRoll E 4 (a_T 3) (r4.2.2.2.2.2 3), wRoll E 14 (a_T 4) (r4.2.2.2.2.2 4), wFormula E (a_T 5) (r4.2.2.2.2.2 5), wFormula E (a_T 6) (r4.2.2.2.2.2 6), wFormula E (a_T 7) (r4.2.2.2.2.2 7)])) (As := [.int x_1]) (rest := []) (st1 := []) C hK (tX11_foresee l E a_mn q_mn_0_tape q_mn_0_spare q_mn_0_reader q_mn_0_now q_mn_0_image q_mn_0_steps (a_nt 0) q_mn_0_order q_mn_0_clapRow u_mn a_fut u_fut a_ml q_ml_0_script u_ml a_nm u_nm a_trial u_trial a_T u_T x_1 r4 hr4) lk_X11_388 (by rw [hRf, hRl]; decide) ⟨Nat.zero_le _, Nat.zero_le _⟩ hB hD hN [0, 1, 2, 3, 4, 6, 7, 8, 9, 10, 11, 12, 13] (by decide) rfl (fun _ => rfl) (fun _ => rfl) (rc_X11 hK (hB.1 0 _ rfl)) rfl hl.1 rfl rfl (Nat.le_of_ble_eq_true rfl) dX11_ask_27 (fun H locs q5 hB => ?_)
        have hB : WB E ad s.heap [wMain E a_mn q_mn_0_tape (a_T 0 0) q_mn_0_spare q_mn_0_reader (a_ml 0) q_mn_0_now (a_trial 0) q_mn_0_image q_mn_0_steps (a_nt 0) (a_fut 0) q_mn_0_order q_mn_0_clapRow r4.1, wIArr E 600 a_fut r4.2.1, wMill E a_ml (a_nm 0) (q5 0) r4.2.2.1, wLArr E 7 a_nm r4.2.2.2.1, wHall E a_trial r4.2.2.2.2.1, wNotes E a_nt u_nt, wScript E (a_T 0) (a_T 1 0) (a_T 2 0) (a_T 3 0) (a_T 4 0) (a_T 5 0) (a_T 6 0) (a_T 7 0) (r4.2.2.2.2.2 0), wRoll E 6 (a_T 1) (r4.2.2.2.2.2 1), wRoll E 6 (a_T 2) (r4.2.2.2.2.2 2), wRoll E 4 (a_T 3) (r4.2.2.2.2.2 3), wRoll E 14 (a_T 4) (r4.2.2.2.2.2 4), wFormula E (a_T 5) (r4.2.2.2.2.2 5), wFormula E (a_T 6) (r4.2.2.2.2.2 6), wFormula E (a_T 7) (r4.2.2.2.2.2 7)] H locs := hB
        refine lv_aload_n hx hb dX11_ask_30 rfl (lv_at hl 0 rfl) ?_
        obtain ⟨r6, hr6, hf⟩ := ox_bind hf
        refine cxVX (bs1 := (fun q => [wMain E a_mn q_mn_0_tape (a_T 0 0) q_mn_0_spare q_mn_0_reader (a_ml 0) q_mn_0_now (a_trial 0) q_mn_0_image q_mn_0_steps (a_nt 0) (a_fut 0) q_mn_0_order q_mn_0_clapRow r4.1, wIArr E 600 a_fut r4.2.1, wMill E a_ml (a_nm 0) (q5 0) r4.2.2.1, wLArr E 7 a_nm r4.2.2.2.1, wHall E a_trial r4.2.2.2.2.1, wNotes E a_nt r6.2, wScript E (a_T 0) (a_T 1 0) (a_T 2 0) (a_T 3 0) (a_T 4 0) (a_T 5 0) (a_T 6 0) (a_T 7 0) (r4.2.2.2.2.2 0), wRoll E 6 (a_T 1) (r4.2.2.2.2.2 1), wRoll E 6 (a_T 2) (r4.2.2.2.2.2 2), wRoll E 4 (a_T 3) (r4.2.2.2.2.2 3), wRoll E 14 (a_T 4) (r4.2.2.2.2.2 4), wFormula E (a_T 5) (r4.2.2.2.2.2 5), wFormula E (a_T 6) (r4.2.2.2.2.2 6), wFormula E (a_T 7) (r4.2.2.2.2.2 7)])) (As := []) (rest := []) (st1 := [.int r6.1]) C hK (tX11_agreeingMoods l E a_mn q_mn_0_tape (a_T 0 0) q_mn_0_spare q_mn_0_reader (a_ml 0) q_mn_0_now (a_trial 0) q_mn_0_image q_mn_0_steps q_mn_0_order q_mn_0_clapRow (r4.1) a_fut (r4.2.1) a_nt u_nt r6 hr6) lk_X11_391 (by rw [hRf, hRl]; decide) ⟨Nat.zero_le _, Nat.zero_le _⟩ hB hD hN [0, 1, 5] (by decide) rfl (fun _ => rfl) (fun _ => rfl) (rc_X11 hK (hB.1 0 _ rfl)) rfl hl.1 rfl rfl (Nat.le_of_ble_eq_true rfl) dX11_ask_31 (fun H locs q7 hB => ?_)
        have hB : WB E ad s.heap [wMain E a_mn q_mn_0_tape (a_T 0 0) q_mn_0_spare q_mn_0_reader (a_ml 0) q_mn_0_now (a_trial 0) q_mn_0_image q_mn_0_steps (a_nt 0) (a_fut 0) q_mn_0_order q_mn_0_clapRow r4.1, wIArr E 600 a_fut r4.2.1, wMill E a_ml (a_nm 0) (q5 0) r4.2.2.1, wLArr E 7 a_nm r4.2.2.2.1, wHall E a_trial r4.2.2.2.2.1, wNotes E a_nt r6.2, wScript E (a_T 0) (a_T 1 0) (a_T 2 0) (a_T 3 0) (a_T 4 0) (a_T 5 0) (a_T 6 0) (a_T 7 0) (r4.2.2.2.2.2 0), wRoll E 6 (a_T 1) (r4.2.2.2.2.2 1), wRoll E 6 (a_T 2) (r4.2.2.2.2.2 2), wRoll E 4 (a_T 3) (r4.2.2.2.2.2 3), wRoll E 14 (a_T 4) (r4.2.2.2.2.2 4), wFormula E (a_T 5) (r4.2.2.2.2.2 5), wFormula E (a_T 6) (r4.2.2.2.2.2 6), wFormula E (a_T 7) (r4.2.2.2.2.2 7)] H locs := hB
        refine lv_topi (fun x8 ex8 => ?_)
        have hf := ox_lt ex8 hf
        refine lv_istore_n (lv' := [(3, .int x8), (0, .ref (a_mn 0)), (1, .int x_1), (2, .int x_2)]) hx hb dX11_ask_34 rfl hl (by decide) rfl (fun ls hl => ?_)
        refine lv_iconst (v := 0) hx hb dX11_ask_35 (by decide) ?_
        refine lv_istore (lv' := [(4, .int (0 : Int32)), (3, .int x8), (0, .ref (a_mn 0)), (1, .int x_1), (2, .int x_2)]) hx hb dX11_ask_36 hl (by decide) rfl (fun ls hl => ?_)
        refine lv_iconst (v := 0) hx hb dX11_ask_38 (by decide) ?_
        refine lv_istore (lv' := [(5, .int (0 : Int32)), (4, .int (0 : Int32)), (3, .int x8), (0, .ref (a_mn 0)), (1, .int x_1), (2, .int x_2)]) hx hb dX11_ask_39 hl (by decide) rfl (fun ls hl => ?_)
        refine lv_iconst (v := 0) hx hb dX11_ask_41 (by decide) ?_
        refine lv_istore (lv' := [(6, .int (0 : Int32)), (5, .int (0 : Int32)), (4, .int (0 : Int32)), (3, .int x8), (0, .ref (a_mn 0)), (1, .int x_1), (2, .int x_2)]) hx hb dX11_ask_42 hl (by decide) rfl (fun ls hl => ?_)
        obtain ⟨X1, hX1, hf⟩ := ox_bind hf
        have hexit1 : ∀ y21, y21 = X1 → ∀ (ls : Array Slot) (H : Heap) (locs : List Loc), lv_has ls 8 [(2, .int x_2), (4, .int y21.1), (5, .int y21.2)] → WB E ad s.heap [wMain E a_mn q_mn_0_tape (a_T 0 0) q_mn_0_spare q_mn_0_reader (a_ml 0) q_mn_0_now (a_trial 0) q_mn_0_image q_mn_0_steps (a_nt 0) (a_fut 0) q_mn_0_order q_mn_0_clapRow r4.1, wIArr E 600 a_fut r4.2.1, wMill E a_ml (a_nm 0) (q5 0) r4.2.2.1, wLArr E 7 a_nm r4.2.2.2.1, wHall E a_trial r4.2.2.2.2.1, wNotes E a_nt r6.2, wScript E (a_T 0) (a_T 1 0) (a_T 2 0) (a_T 3 0) (a_T 4 0) (a_T 5 0) (a_T 6 0) (a_T 7 0) (r4.2.2.2.2.2 0), wRoll E 6 (a_T 1) (r4.2.2.2.2.2 1), wRoll E 6 (a_T 2) (r4.2.2.2.2.2 2), wRoll E 4 (a_T 3) (r4.2.2.2.2.2 3), wRoll E 14 (a_T 4) (r4.2.2.2.2.2 4), wFormula E (a_T 5) (r4.2.2.2.2.2 5), wFormula E (a_T 6) (r4.2.2.2.2.2 6), wFormula E (a_T 7) (r4.2.2.2.2.2 7)] H locs → W p l e R s m args below meth c H locs 0 0 Q (F0 m 86 ls []) := by
          intro y21 hy ls H locs hl hB
          subst hy
          refine lv_iload_n hx hb dX11_ask_86 rfl (lv_at hl 0 rfl) ?_
          obtain ⟨x22, ex22, hf⟩ := ox_ex hf
          have hjx22 : W p l e R s m args below meth c H locs 0 0 Q (F0 m 99 ls [.int x22]) := by
            have hf := Option.some.inj hf
            subst hf
            exact hQ _ _ H locs (fun j => if j = 0 then (q5 0) else 0) hB dX11_ask_99
          refine lv_if_ne (tgt := 97) hx hb dX11_ask_87 (by decide) (fun c23 => ?_) (fun c23 => ?_)
          · refine lv_iload hx hb dX11_ask_97 (lv_at hl 2 rfl) ?_
            exact ox_topi ((ex22).trans (if_neg c23)).symm hjx22
          · refine lv_iload hx hb dX11_ask_90 (lv_at hl 1 rfl) ?_
            refine lv_iconst (v := 1) hx hb dX11_ask_92 (by decide) ?_
            refine lv_iadd hx hb dX11_ask_93 ?_
            refine lv_goto (tgt := 99) hx hb dX11_ask_94 (by decide) ?_
            exact ox_topi ((ex22).trans (if_pos c23)).symm hjx22
        have hloop1 : ∀ (nf : Nat) (x9 : Int32) (x10 : Int32) (x11 : Int32) (ls : Array Slot) (H : Heap) (locs : List Loc), lv_has ls 8 [(0, .ref (a_mn 0)), (2, .int x_2), (3, .int x8), (4, .int x9), (5, .int x10), (6, .int x11)] → WB E ad s.heap [wMain E a_mn q_mn_0_tape (a_T 0 0) q_mn_0_spare q_mn_0_reader (a_ml 0) q_mn_0_now (a_trial 0) q_mn_0_image q_mn_0_steps (a_nt 0) (a_fut 0) q_mn_0_order q_mn_0_clapRow r4.1, wIArr E 600 a_fut r4.2.1, wMill E a_ml (a_nm 0) (q5 0) r4.2.2.1, wLArr E 7 a_nm r4.2.2.2.1, wHall E a_trial r4.2.2.2.2.1, wNotes E a_nt r6.2, wScript E (a_T 0) (a_T 1 0) (a_T 2 0) (a_T 3 0) (a_T 4 0) (a_T 5 0) (a_T 6 0) (a_T 7 0) (r4.2.2.2.2.2 0), wRoll E 6 (a_T 1) (r4.2.2.2.2.2 1), wRoll E 6 (a_T 2) (r4.2.2.2.2.2 2), wRoll E 4 (a_T 3) (r4.2.2.2.2.2 3), wRoll E 14 (a_T 4) (r4.2.2.2.2.2 4), wFormula E (a_T 5) (r4.2.2.2.2.2 5), wFormula E (a_T 6) (r4.2.2.2.2.2 6), wFormula E (a_T 7) (r4.2.2.2.2.2 7)] H locs → fX11_ask_L1 r4 x8 nf x9 x10 x11 = some X1 → W p l e R s m args below meth c H locs 0 0 Q (F0 m 44 ls []) := by
          intro nf
          induction nf with
          | zero =>
            intro x9 x10 x11 ls H locs hl hB hf
            simp [fX11_ask_L1] at hf
          | succ nf ih =>
            intro x9 x10 x11 ls H locs hl hB hf
            rw [fX11_ask_L1] at hf
            refine lv_iload hx hb dX11_ask_44 (lv_at hl 5 rfl) ?_
            refine lv_bipush (v := 60) hx hb dX11_ask_46 (by decide) ?_
            refine lv_icmp_ge (tgt := 86) hx hb dX11_ask_48 (by decide) (fun c12 => ?_) (fun c12 => ?_)
            · have hf := (if_pos c12).symm.trans hf
              exact hexit1 _ (Option.some.inj hf) ls H locs (lv_sub hl [1, 3, 4] rfl) hB
            · have hf := (if_neg c12).symm.trans hf
              refine lv_aload_n hx hb dX11_ask_51 rfl (lv_at hl 0 rfl) ?_
              refine lv_iload_n hx hb dX11_ask_52 rfl (lv_at hl 2 rfl) ?_
              refine lv_iload hx hb dX11_ask_53 (lv_at hl 5 rfl) ?_
              obtain ⟨r13, hr13, hf⟩ := ox_bind hf
              refine cxVP (As := [.int x8, .int x11]) (rest := []) (st1 := [.int r13]) C hK (tX11_leftAtWorst l E a_mn q_mn_0_tape (a_T 0 0) q_mn_0_spare q_mn_0_reader (a_ml 0) q_mn_0_now (a_trial 0) q_mn_0_image q_mn_0_steps (a_nt 0) q_mn_0_order q_mn_0_clapRow (r4.1) a_fut (r4.2.1) x8 x11 r13 hr13) lk_X11_407 ⟨rfl, rfl⟩ (by rw [hRf, hRl]; decide) ⟨Nat.zero_le _, Nat.zero_le _⟩ (PB.sub hB.1 [0, 1] rfl) (hB.old hD hN) (Nat.le_trans hN hB.2.2.1) (rc_X11 hK (hB.1 0 _ rfl)) rfl hl.1 rfl rfl (Nat.le_of_ble_eq_true rfl) dX11_ask_55 ?_
              refine lv_istore (lv' := [(7, .int r13), (0, .ref (a_mn 0)), (2, .int x_2), (3, .int x8), (4, .int x9), (5, .int x10), (6, .int x11)]) hx hb dX11_ask_58 hl (by decide) rfl (fun ls hl => ?_)
              refine lv_iload hx hb dX11_ask_60 (lv_at hl 6 rfl) ?_
              obtain ⟨j16, ej16, hf⟩ := ox_ex hf
              have hj16 : ∀ (x14 : Int32) (x15 : Int32) (ls : Array Slot) (H : Heap) (locs : List Loc), lv_has ls 8 [(0, .ref (a_mn 0)), (2, .int x_2), (3, .int x8), (4, .int x14), (5, .int x15), (6, .int x11)] → WB E ad s.heap [wMain E a_mn q_mn_0_tape (a_T 0 0) q_mn_0_spare q_mn_0_reader (a_ml 0) q_mn_0_now (a_trial 0) q_mn_0_image q_mn_0_steps (a_nt 0) (a_fut 0) q_mn_0_order q_mn_0_clapRow r4.1, wIArr E 600 a_fut r4.2.1, wMill E a_ml (a_nm 0) (q5 0) r4.2.2.1, wLArr E 7 a_nm r4.2.2.2.1, wHall E a_trial r4.2.2.2.2.1, wNotes E a_nt r6.2, wScript E (a_T 0) (a_T 1 0) (a_T 2 0) (a_T 3 0) (a_T 4 0) (a_T 5 0) (a_T 6 0) (a_T 7 0) (r4.2.2.2.2.2 0), wRoll E 6 (a_T 1) (r4.2.2.2.2.2 1), wRoll E 6 (a_T 2) (r4.2.2.2.2.2 2), wRoll E 4 (a_T 3) (r4.2.2.2.2.2 3), wRoll E 14 (a_T 4) (r4.2.2.2.2.2 4), wFormula E (a_T 5) (r4.2.2.2.2.2 5), wFormula E (a_T 6) (r4.2.2.2.2.2 6), wFormula E (a_T 7) (r4.2.2.2.2.2 7)] H locs → j16 x14 x15 = some X1 → W p l e R s m args below meth c H locs 0 0 Q (F0 m 80 ls []) := by
                intro x14 x15 ls H locs hl hB hf
                have hf := ox_a2 ej16 hf
                obtain ⟨x17, ex17⟩ : ∃ z : Int32, z = (x11 + 1) := ⟨_, rfl⟩
                have hf := ox_lt ex17 hf
                refine lv_iinc (v := x17) (lv' := [(6, .int x17), (0, .ref (a_mn 0)), (2, .int x_2), (3, .int x8), (4, .int x14), (5, .int x15)]) hx hb dX11_ask_80 hl (k := 5) rfl (by rw [ex17]; rfl) (by decide) rfl (fun ls hl => ?_)
                refine lv_goto (tgt := 44) hx hb dX11_ask_83 (by decide) ?_
                exact ih _ _ _ ls H locs (lv_sub hl [1, 2, 3, 4, 5, 0] rfl) hB hf
              obtain ⟨j18, ej18, hf⟩ := ox_ex hf
              have hj18 : ∀ (ls : Array Slot) (H : Heap) (locs : List Loc), lv_has ls 8 [(0, .ref (a_mn 0)), (2, .int x_2), (3, .int x8), (6, .int x11), (7, .int r13)] → WB E ad s.heap [wMain E a_mn q_mn_0_tape (a_T 0 0) q_mn_0_spare q_mn_0_reader (a_ml 0) q_mn_0_now (a_trial 0) q_mn_0_image q_mn_0_steps (a_nt 0) (a_fut 0) q_mn_0_order q_mn_0_clapRow r4.1, wIArr E 600 a_fut r4.2.1, wMill E a_ml (a_nm 0) (q5 0) r4.2.2.1, wLArr E 7 a_nm r4.2.2.2.1, wHall E a_trial r4.2.2.2.2.1, wNotes E a_nt r6.2, wScript E (a_T 0) (a_T 1 0) (a_T 2 0) (a_T 3 0) (a_T 4 0) (a_T 5 0) (a_T 6 0) (a_T 7 0) (r4.2.2.2.2.2 0), wRoll E 6 (a_T 1) (r4.2.2.2.2.2 1), wRoll E 6 (a_T 2) (r4.2.2.2.2.2 2), wRoll E 4 (a_T 3) (r4.2.2.2.2.2 3), wRoll E 14 (a_T 4) (r4.2.2.2.2.2 4), wFormula E (a_T 5) (r4.2.2.2.2.2 5), wFormula E (a_T 6) (r4.2.2.2.2.2 6), wFormula E (a_T 7) (r4.2.2.2.2.2 7)] H locs → j18 = some X1 → W p l e R s m args below meth c H locs 0 0 Q (F0 m 72 ls []) := by
                intro ls H locs hl hB hf
                have hf := ox_a0 ej18 hf
                refine lv_iload hx hb dX11_ask_72 (lv_at hl 3 rfl) ?_
                refine lv_istore (lv' := [(4, .int x11), (0, .ref (a_mn 0)), (2, .int x_2), (3, .int x8), (6, .int x11), (7, .int r13)]) hx hb dX11_ask_74 hl (by decide) rfl (fun ls hl => ?_)
                refine lv_iload hx hb dX11_ask_76 (lv_at hl 5 rfl) ?_
                refine lv_istore (lv' := [(5, .int r13), (4, .int x11), (0, .ref (a_mn 0)), (2, .int x_2), (3, .int x8), (6, .int x11), (7, .int r13)]) hx hb dX11_ask_78 hl (by decide) rfl (fun ls hl => ?_)
                exact hj16 _ _ ls H locs (lv_sub hl [2, 3, 4, 1, 0, 5] rfl) hB hf
              refine lv_if_eq (tgt := 72) hx hb dX11_ask_62 (by decide) (fun c19 => ?_) (fun c19 => ?_)
              · have hf := (if_pos c19).symm.trans hf
                exact hj18 ls H locs (lv_sub hl [1, 2, 3, 6, 0] rfl) hB hf
              · have hf := (if_neg c19).symm.trans hf
                refine lv_iload hx hb dX11_ask_65 (lv_at hl 0 rfl) ?_
                refine lv_iload hx hb dX11_ask_67 (lv_at hl 5 rfl) ?_
                refine lv_icmp_ge (tgt := 80) hx hb dX11_ask_69 (by decide) (fun c20 => ?_) (fun c20 => ?_)
                · have hf := (if_pos c20).symm.trans hf
                  exact hj16 _ _ ls H locs (lv_sub hl [1, 2, 3, 4, 5, 6] rfl) hB hf
                · have hf := (if_neg c20).symm.trans hf
                  exact hj18 ls H locs (lv_sub hl [1, 2, 3, 6, 0] rfl) hB hf
        exact hloop1 fuel _ _ _ ls H locs (lv_sub hl [4, 6, 3, 2, 1, 0] rfl) hB hX1
      · have hf := (if_neg c3).symm.trans hf
        refine lv_iconst (v := (-1)) hx hb dX11_ask_23 (by decide) ?_
        have hf := Option.some.inj hf
        subst hf
        exact hQ _ _ H locs (fun j => if j = 0 then q_ml_0_script else 0) hB dX11_ask_24
set_option maxHeartbeats 4000000 in
set_option maxRecDepth 20000 in
theorem tX11_chance (l : Launch) (E : Ev) (a_mn : Nat → Nat) (q_mn_0_tape : Nat) (q_mn_0_spare : Nat) (q_mn_0_reader : Nat) (q_mn_0_image : Nat) (q_mn_0_steps : Nat) (q_mn_0_notes : Nat) (q_mn_0_futures : Nat) (q_mn_0_order : Nat) (q_mn_0_clapRow : Nat) (u_mn : St) (a_ml : Nat → Nat) (q_ml_0_script : Nat) (u_ml : St) (a_nm : Nat → Nat) (u_nm : St) (a_now : Nat → Nat) (u_now : St) (a_trial : Nat → Nat) (u_trial : St) (a_T : Nat → Nat → Nat) (u_T : Nat → St) (x_1 : Int32) (x_2 : Int32) (x_3 : Int32) (res : Int32 × St × St × St × (Nat → St)) (hf : fX11_chance u_mn u_ml u_nm u_now u_trial u_T x_1 x_2 x_3 = some res) : MX l E yX11_chance cX11_chance 8 (some .int) (rmm 6 155) [wMain E a_mn q_mn_0_tape (a_T 0 0) q_mn_0_spare q_mn_0_reader (a_ml 0) (a_now 0) (a_trial 0) q_mn_0_image q_mn_0_steps q_mn_0_notes q_mn_0_futures q_mn_0_order q_mn_0_clapRow u_mn, wMill E a_ml (a_nm 0) q_ml_0_script u_ml, wLArr E 7 a_nm u_nm, wHall E a_now u_now, wHall E a_trial u_trial, wScript E (a_T 0) (a_T 1 0) (a_T 2 0) (a_T 3 0) (a_T 4 0) (a_T 5 0) (a_T 6 0) (a_T 7 0) (u_T 0), wRoll E 6 (a_T 1) (u_T 1), wRoll E 6 (a_T 2) (u_T 2), wRoll E 4 (a_T 3) (u_T 3), wRoll E 14 (a_T 4) (u_T 4), wFormula E (a_T 5) (u_T 5), wFormula E (a_T 6) (u_T 6), wFormula E (a_T 7) (u_T 7)] (fun q => [wMain E a_mn q_mn_0_tape (a_T 0 0) q_mn_0_spare q_mn_0_reader (a_ml 0) (a_now 0) (a_trial 0) q_mn_0_image q_mn_0_steps q_mn_0_notes q_mn_0_futures q_mn_0_order q_mn_0_clapRow u_mn, wMill E a_ml (a_nm 0) (q 0) res.2.1, wLArr E 7 a_nm res.2.2.1, wHall E a_now u_now, wHall E a_trial res.2.2.2.1, wScript E (a_T 0) (a_T 1 0) (a_T 2 0) (a_T 3 0) (a_T 4 0) (a_T 5 0) (a_T 6 0) (a_T 7 0) (res.2.2.2.2 0), wRoll E 6 (a_T 1) (res.2.2.2.2 1), wRoll E 6 (a_T 2) (res.2.2.2.2 2), wRoll E 4 (a_T 3) (res.2.2.2.2 3), wRoll E 14 (a_T 4) (res.2.2.2.2 4), wFormula E (a_T 5) (res.2.2.2.2 5), wFormula E (a_T 6) (res.2.2.2.2 6), wFormula E (a_T 7) (res.2.2.2.2 7)]) [.ref (a_mn 0), .int x_1, .int x_2, .int x_3] (some (.int res.1)) := by
  unfold fX11_chance at hf
  refine MX.ofI rfl (by decide) (Nat.le_of_ble_eq_true rfl) ?_
  intro p e R s m args below meth c ls Q ad H hRf hRl C hB hD hK hN hl hQ
  generalize hlocs : ([] : List Loc) = locs at hB ⊢
  clear hlocs
  have hx := C.1
  have hb := C.2.1
  have hl : lv_has ls 8 [(0, .ref (a_mn 0)), (1, .int x_1), (2, .int x_2), (3, .int x_3)] := hl
  refine lv_iload_n hx hb dX11_chance_0 rfl (lv_at hl 1 rfl) ?_
  refine lv_if_lt (tgt := 26) hx hb dX11_chance_1 (by decide) (fun c1 => ?_) (fun c1 => ?_)
  · have hf := (if_pos c1).symm.trans hf
    refine lv_iconst (v := (-1)) hx hb dX11_chance_26 (by decide) ?_
    have hf := Option.some.inj hf
    subst hf
    exact hQ _ _ H locs (fun j => if j = 0 then q_ml_0_script else 0) hB dX11_chance_27
  · have hf := (if_neg c1).symm.trans hf
    refine lv_iload_n hx hb dX11_chance_4 rfl (lv_at hl 2 rfl) ?_
    refine lv_iconst (v := 1) hx hb dX11_chance_5 (by decide) ?_
    refine lv_icmp_lt (tgt := 26) hx hb dX11_chance_6 (by decide) (fun c2 => ?_) (fun c2 => ?_)
    · have hf := (if_pos c2).symm.trans hf
      refine lv_iconst (v := (-1)) hx hb dX11_chance_26 (by decide) ?_
      have hf := Option.some.inj hf
      subst hf
      exact hQ _ _ H locs (fun j => if j = 0 then q_ml_0_script else 0) hB dX11_chance_27
    · have hf := (if_neg c2).symm.trans hf
      refine lv_iload_n hx hb dX11_chance_9 rfl (lv_at hl 2 rfl) ?_
      refine lv_bipush (v := 99) hx hb dX11_chance_10 (by decide) ?_
      refine lv_icmp_gt (tgt := 26) hx hb dX11_chance_12 (by decide) (fun c3 => ?_) (fun c3 => ?_)
      · have hf := (if_pos c3).symm.trans hf
        refine lv_iconst (v := (-1)) hx hb dX11_chance_26 (by decide) ?_
        have hf := Option.some.inj hf
        subst hf
        exact hQ _ _ H locs (fun j => if j = 0 then q_ml_0_script else 0) hB dX11_chance_27
      · have hf := (if_neg c3).symm.trans hf
        refine lv_iload_n hx hb dX11_chance_15 rfl (lv_at hl 3 rfl) ?_
        refine lv_if_lt (tgt := 26) hx hb dX11_chance_16 (by decide) (fun c4 => ?_) (fun c4 => ?_)
        · have hf := (if_pos c4).symm.trans hf
          refine lv_iconst (v := (-1)) hx hb dX11_chance_26 (by decide) ?_
          have hf := Option.some.inj hf
          subst hf
          exact hQ _ _ H locs (fun j => if j = 0 then q_ml_0_script else 0) hB dX11_chance_27
        · have hf := (if_neg c4).symm.trans hf
          refine lv_iload_n hx hb dX11_chance_19 rfl (lv_at hl 3 rfl) ?_
          refine lv_sipush (v := 999) hx hb dX11_chance_20 (by decide) ?_
          refine lv_icmp_le (tgt := 28) hx hb dX11_chance_23 (by decide) (fun c5 => ?_) (fun c5 => ?_)
          · have hf := (if_pos c5).symm.trans hf
            refine lv_aload_n hx hb dX11_chance_28 rfl (lv_at hl 0 rfl) ?_
            refine gf_X11_X11_mill C hK (hB.1 0 _ rfl) dX11_chance_29 ?_
            refine lv_aload_n hx hb dX11_chance_32 rfl (lv_at hl 0 rfl) ?_
            refine gf_X11_X11_told C hK (hB.1 0 _ rfl) dX11_chance_33 ?_
            obtain ⟨r6, er6, hf⟩ := ox_ex hf
            refine cxVX (bs1 := (fun q => [wMain E a_mn q_mn_0_tape (a_T 0 0) q_mn_0_spare q_mn_0_reader (a_ml 0) (a_now 0) (a_trial 0) q_mn_0_image q_mn_0_steps q_mn_0_notes q_mn_0_futures q_mn_0_order q_mn_0_clapRow u_mn, wMill E a_ml (a_nm 0) (a_T 0 0) r6, wLArr E 7 a_nm u_nm, wHall E a_now u_now, wHall E a_trial u_trial, wScript E (a_T 0) (a_T 1 0) (a_T 2 0) (a_T 3 0) (a_T 4 0) (a_T 5 0) (a_T 6 0) (a_T 7 0) (u_T 0), wRoll E 6 (a_T 1) (u_T 1), wRoll E 6 (a_T 2) (u_T 2), wRoll E 4 (a_T 3) (u_T 3), wRoll E 14 (a_T 4) (u_T 4), wFormula E (a_T 5) (u_T 5), wFormula E (a_T 6) (u_T 6), wFormula E (a_T 7) (u_T 7)])) (As := [.ref (a_T 0 0)]) (rest := []) (st1 := []) C hK (tX2_byNumbers l E a_ml (a_nm 0) q_ml_0_script u_ml (a_T 0 0) r6 er6.symm) lk_X11_274 (by rw [hRf, hRl]; decide) ⟨Nat.zero_le _, Nat.zero_le _⟩ hB hD hN [1] (by decide) rfl (fun _ => rfl) (fun _ => rfl) (rc_X2 hK (hB.1 1 _ rfl)) rfl hl.1 rfl rfl (Nat.le_of_ble_eq_true rfl) dX11_chance_36 (fun H locs q7 hB => ?_)
            have hB : WB E ad s.heap [wMain E a_mn q_mn_0_tape (a_T 0 0) q_mn_0_spare q_mn_0_reader (a_ml 0) (a_now 0) (a_trial 0) q_mn_0_image q_mn_0_steps q_mn_0_notes q_mn_0_futures q_mn_0_order q_mn_0_clapRow u_mn, wMill E a_ml (a_nm 0) (a_T 0 0) r6, wLArr E 7 a_nm u_nm, wHall E a_now u_now, wHall E a_trial u_trial, wScript E (a_T 0) (a_T 1 0) (a_T 2 0) (a_T 3 0) (a_T 4 0) (a_T 5 0) (a_T 6 0) (a_T 7 0) (u_T 0), wRoll E 6 (a_T 1) (u_T 1), wRoll E 6 (a_T 2) (u_T 2), wRoll E 4 (a_T 3) (u_T 3), wRoll E 14 (a_T 4) (u_T 4), wFormula E (a_T 5) (u_T 5), wFormula E (a_T 6) (u_T 6), wFormula E (a_T 7) (u_T 7)] H locs := hB
            refine lv_iload_n hx hb dX11_chance_39 rfl (lv_at hl 1 rfl) ?_
            refine lv_i2l hx hb dX11_chance_40 rfl ?_
            refine lv_topl (fun x8 ex8 => ?_)
            have hf := ox_lt ex8 hf
            refine lv_lstore (lv' := [(4, .long x8), (0, .ref (a_mn 0)), (1, .int x_1), (2, .int x_2), (3, .int x_3)]) hx hb dX11_chance_41 hl (by decide) rfl (fun ls hl => ?_)
            refine lv_iconst (v := 0) hx hb dX11_chance_43 (by decide) ?_
            refine lv_istore (lv' := [(6, .int (0 : Int32)), (4, .long x8), (0, .ref (a_mn 0)), (1, .int x_1), (2, .int x_2), (3, .int x_3)]) hx hb dX11_chance_44 hl (by decide) rfl (fun ls hl => ?_)
            refine lv_iconst (v := 0) hx hb dX11_chance_46 (by decide) ?_
            refine lv_istore (lv' := [(7, .int (0 : Int32)), (6, .int (0 : Int32)), (4, .long x8), (0, .ref (a_mn 0)), (1, .int x_1), (2, .int x_2), (3, .int x_3)]) hx hb dX11_chance_47 hl (by decide) rfl (fun ls hl => ?_)
            obtain ⟨X1, hX1, hf⟩ := ox_bind hf
            have hexit1 : ∀ y27, y27 = X1 → ∀ (ls : Array Slot) (H : Heap) (locs : List Loc), lv_has ls 8 [(6, .int y27.1)] → WB E ad s.heap [wMain E a_mn q_mn_0_tape (a_T 0 0) q_mn_0_spare q_mn_0_reader (a_ml 0) (a_now 0) (a_trial 0) q_mn_0_image q_mn_0_steps q_mn_0_notes q_mn_0_futures q_mn_0_order q_mn_0_clapRow u_mn, wMill E a_ml (a_nm 0) (a_T 0 0) r6, wLArr E 7 a_nm y27.2.1, wHall E a_now u_now, wHall E a_trial y27.2.2.1, wScript E (a_T 0) (a_T 1 0) (a_T 2 0) (a_T 3 0) (a_T 4 0) (a_T 5 0) (a_T 6 0) (a_T 7 0) (y27.2.2.2 0), wRoll E 6 (a_T 1) (y27.2.2.2 1), wRoll E 6 (a_T 2) (y27.2.2.2 2), wRoll E 4 (a_T 3) (y27.2.2.2 3), wRoll E 14 (a_T 4) (y27.2.2.2 4), wFormula E (a_T 5) (y27.2.2.2 5), wFormula E (a_T 6) (y27.2.2.2 6), wFormula E (a_T 7) (y27.2.2.2 7)] H locs → W p l e R s m args below meth c H locs 0 0 Q (F0 m 117 ls []) := by
              intro y27 hy ls H locs hl hB
              subst hy
              refine lv_iload hx hb dX11_chance_117 (lv_at hl 0 rfl) ?_
              have hf := Option.some.inj hf
              subst hf
              exact hQ _ _ H locs (fun j => if j = 0 then (a_T 0 0) else 0) hB dX11_chance_119
            have hloop1 : ∀ (nf : Nat) (x9 : Int64) (x10 : Int32) (x11 : Int32) (u12 : St) (u13 : St) (u14 : Nat → St) (ls : Array Slot) (H : Heap) (locs : List Loc), lv_has ls 8 [(0, .ref (a_mn 0)), (2, .int x_2), (3, .int x_3), (4, .long x9), (6, .int x10), (7, .int x11)] → WB E ad s.heap [wMain E a_mn q_mn_0_tape (a_T 0 0) q_mn_0_spare q_mn_0_reader (a_ml 0) (a_now 0) (a_trial 0) q_mn_0_image q_mn_0_steps q_mn_0_notes q_mn_0_futures q_mn_0_order q_mn_0_clapRow u_mn, wMill E a_ml (a_nm 0) (a_T 0 0) r6, wLArr E 7 a_nm u12, wHall E a_now u_now, wHall E a_trial u13, wScript E (a_T 0) (a_T 1 0) (a_T 2 0) (a_T 3 0) (a_T 4 0) (a_T 5 0) (a_T 6 0) (a_T 7 0) (u14 0), wRoll E 6 (a_T 1) (u14 1), wRoll E 6 (a_T 2) (u14 2), wRoll E 4 (a_T 3) (u14 3), wRoll E 14 (a_T 4) (u14 4), wFormula E (a_T 5) (u14 5), wFormula E (a_T 6) (u14 6), wFormula E (a_T 7) (u14 7)] H locs → fX11_chance_L1 u_now x_2 x_3 r6 nf x9 x10 x11 u12 u13 u14 = some X1 → W p l e R s m args below meth c H locs 0 0 Q (F0 m 49 ls []) := by
              intro nf
              induction nf with
              | zero =>
                intro x9 x10 x11 u12 u13 u14 ls H locs hl hB hf
                simp [fX11_chance_L1] at hf
              | succ nf ih =>
                intro x9 x10 x11 u12 u13 u14 ls H locs hl hB hf
                rw [fX11_chance_L1] at hf
                refine lv_iload hx hb dX11_chance_49 (lv_at hl 5 rfl) ?_
                refine lv_bipush (v := 10) hx hb dX11_chance_51 (by decide) ?_
                refine lv_icmp_ge (tgt := 117) hx hb dX11_chance_53 (by decide) (fun c15 => ?_) (fun c15 => ?_)
                · have hf := (if_pos c15).symm.trans hf
                  exact hexit1 _ (Option.some.inj hf) ls H locs (lv_sub hl [4] rfl) hB
                · have hf := (if_neg c15).symm.trans hf
                  refine lv_aload_n hx hb dX11_chance_56 rfl (lv_at hl 0 rfl) ?_
                  refine gf_X11_X11_trial C hK (hB.1 0 _ rfl) dX11_chance_57 ?_
                  refine lv_aload_n hx hb dX11_chance_60 rfl (lv_at hl 0 rfl) ?_
                  refine gf_X11_X11_now C hK (hB.1 0 _ rfl) dX11_chance_61 ?_
                  obtain ⟨r16, hr16, hf⟩ := ox_bind hf
                  refine cxVX (bs1 := (fun q => [wMain E a_mn q_mn_0_tape (a_T 0 0) q_mn_0_spare q_mn_0_reader (a_ml 0) (a_now 0) (a_trial 0) q_mn_0_image q_mn_0_steps q_mn_0_notes q_mn_0_futures q_mn_0_order q_mn_0_clapRow u_mn, wMill E a_ml (a_nm 0) (a_T 0 0) r6, wLArr E 7 a_nm u12, wHall E a_now u_now, wHall E a_trial r16, wScript E (a_T 0) (a_T 1 0) (a_T 2 0) (a_T 3 0) (a_T 4 0) (a_T 5 0) (a_T 6 0) (a_T 7 0) (u14 0), wRoll E 6 (a_T 1) (u14 1), wRoll E 6 (a_T 2) (u14 2), wRoll E 4 (a_T 3) (u14 3), wRoll E 14 (a_T 4) (u14 4), wFormula E (a_T 5) (u14 5), wFormula E (a_T 6) (u14 6), wFormula E (a_T 7) (u14 7)])) (As := [.ref (a_now 0)]) (rest := []) (st1 := []) C hK (tX1_copy l E a_trial u13 a_now u_now r16 hr16) lk_X11_285 (by rw [hRf, hRl]; decide) ⟨Nat.zero_le _, Nat.zero_le _⟩ hB hD hN [4, 3] (by decide) rfl (fun _ => rfl) (fun _ => rfl) (rc_X1 hK (hB.1 4 _ rfl)) rfl hl.1 rfl rfl (Nat.le_of_ble_eq_true rfl) dX11_chance_64 (fun H locs q17 hB => ?_)
                  have hB : WB E ad s.heap [wMain E a_mn q_mn_0_tape (a_T 0 0) q_mn_0_spare q_mn_0_reader (a_ml 0) (a_now 0) (a_trial 0) q_mn_0_image q_mn_0_steps q_mn_0_notes q_mn_0_futures q_mn_0_order q_mn_0_clapRow u_mn, wMill E a_ml (a_nm 0) (a_T 0 0) r6, wLArr E 7 a_nm u12, wHall E a_now u_now, wHall E a_trial r16, wScript E (a_T 0) (a_T 1 0) (a_T 2 0) (a_T 3 0) (a_T 4 0) (a_T 5 0) (a_T 6 0) (a_T 7 0) (u14 0), wRoll E 6 (a_T 1) (u14 1), wRoll E 6 (a_T 2) (u14 2), wRoll E 4 (a_T 3) (u14 3), wRoll E 14 (a_T 4) (u14 4), wFormula E (a_T 5) (u14 5), wFormula E (a_T 6) (u14 6), wFormula E (a_T 7) (u14 7)] H locs := hB
                  refine lv_aload_n hx hb dX11_chance_67 rfl (lv_at hl 0 rfl) ?_
                  refine gf_X11_X11_trial C hK (hB.1 0 _ rfl) dX11_chance_68 ?_
                  refine lv_lload hx hb dX11_chance_71 (lv_at hl 3 rfl) ?_
                  refine pf_X11_X1_number C hK hB hD 4 rfl dX11_chance_73 (fun H locs u18 eu18 hB => ?_)
                  have hf := ox_lt eu18 hf
                  have hB : WB E ad s.heap [wMain E a_mn q_mn_0_tape (a_T 0 0) q_mn_0_spare q_mn_0_reader (a_ml 0) (a_now 0) (a_trial 0) q_mn_0_image q_mn_0_steps q_mn_0_notes q_mn_0_futures q_mn_0_order q_mn_0_clapRow u_mn, wMill E a_ml (a_nm 0) (a_T 0 0) r6, wLArr E 7 a_nm u12, wHall E a_now u_now, wHall E a_trial u18, wScript E (a_T 0) (a_T 1 0) (a_T 2 0) (a_T 3 0) (a_T 4 0) (a_T 5 0) (a_T 6 0) (a_T 7 0) (u14 0), wRoll E 6 (a_T 1) (u14 1), wRoll E 6 (a_T 2) (u14 2), wRoll E 4 (a_T 3) (u14 3), wRoll E 14 (a_T 4) (u14 4), wFormula E (a_T 5) (u14 5), wFormula E (a_T 6) (u14 6), wFormula E (a_T 7) (u14 7)] H locs := hB
                  refine lv_aload_n hx hb dX11_chance_76 rfl (lv_at hl 0 rfl) ?_
                  refine gf_X11_X11_mill C hK (hB.1 0 _ rfl) dX11_chance_77 ?_
                  refine lv_aload_n hx hb dX11_chance_80 rfl (lv_at hl 0 rfl) ?_
                  refine gf_X11_X11_trial C hK (hB.1 0 _ rfl) dX11_chance_81 ?_
                  refine lv_iload_n hx hb dX11_chance_84 rfl (lv_at hl 1 rfl) ?_
                  obtain ⟨r19, hr19, hf⟩ := ox_bind hf
                  refine cxVX (bs1 := (fun q => [wMain E a_mn q_mn_0_tape (a_T 0 0) q_mn_0_spare q_mn_0_reader (a_ml 0) (a_now 0) (a_trial 0) q_mn_0_image q_mn_0_steps q_mn_0_notes q_mn_0_futures q_mn_0_order q_mn_0_clapRow u_mn, wMill E a_ml (a_nm 0) (a_T 0 0) r6, wLArr E 7 a_nm r19.1, wHall E a_now u_now, wHall E a_trial r19.2.2, wScript E (a_T 0) (a_T 1 0) (a_T 2 0) (a_T 3 0) (a_T 4 0) (a_T 5 0) (a_T 6 0) (a_T 7 0) (r19.2.1 0), wRoll E 6 (a_T 1) (r19.2.1 1), wRoll E 6 (a_T 2) (r19.2.1 2), wRoll E 4 (a_T 3) (r19.2.1 3), wRoll E 14 (a_T 4) (r19.2.1 4), wFormula E (a_T 5) (r19.2.1 5), wFormula E (a_T 6) (r19.2.1 6), wFormula E (a_T 7) (r19.2.1 7)])) (As := [.ref (a_trial 0), .int x_2]) (rest := []) (st1 := []) C hK (tX2_pass l E a_ml r6 7 a_nm u12 a_T u14 a_trial u18 x_2 r19 hr19) lk_X11_277 (by rw [hRf, hRl]; decide) ⟨Nat.zero_le _, Nat.zero_le _⟩ hB hD hN [1, 2, 5, 6, 7, 8, 9, 10, 11, 12, 4] (by decide) rfl (fun _ => rfl) (fun _ => rfl) (rc_X2 hK (hB.1 1 _ rfl)) rfl hl.1 rfl rfl (Nat.le_of_ble_eq_true rfl) dX11_chance_85 (fun H locs q20 hB => ?_)
                  have hB : WB E ad s.heap [wMain E a_mn q_mn_0_tape (a_T 0 0) q_mn_0_spare q_mn_0_reader (a_ml 0) (a_now 0) (a_trial 0) q_mn_0_image q_mn_0_steps q_mn_0_notes q_mn_0_futures q_mn_0_order q_mn_0_clapRow u_mn, wMill E a_ml (a_nm 0) (a_T 0 0) r6, wLArr E 7 a_nm r19.1, wHall E a_now u_now, wHall E a_trial r19.2.2, wScript E (a_T 0) (a_T 1 0) (a_T 2 0) (a_T 3 0) (a_T 4 0) (a_T 5 0) (a_T 6 0) (a_T 7 0) (r19.2.1 0), wRoll E 6 (a_T 1) (r19.2.1 1), wRoll E 6 (a_T 2) (r19.2.1 2), wRoll E 4 (a_T 3) (r19.2.1 3), wRoll E 14 (a_T 4) (r19.2.1 4), wFormula E (a_T 5) (r19.2.1 5), wFormula E (a_T 6) (r19.2.1 6), wFormula E (a_T 7) (r19.2.1 7)] H locs := hB
                  refine lv_aload_n hx hb dX11_chance_88 rfl (lv_at hl 0 rfl) ?_
                  refine gf_X11_X11_trial C hK (hB.1 0 _ rfl) dX11_chance_89 ?_
                  refine gf_X11_X1_number C hK (hB.1 4 _ rfl) dX11_chance_92 ?_
                  refine lv_topl (fun x21 ex21 => ?_)
                  have hf := ox_lt ex21 hf
                  refine lv_lstore (lv' := [(4, .long x21), (0, .ref (a_mn 0)), (2, .int x_2), (3, .int x_3), (6, .int x10), (7, .int x11)]) hx hb dX11_chance_95 hl (by decide) rfl (fun ls hl => ?_)
                  refine lv_aload_n hx hb dX11_chance_97 rfl (lv_at hl 1 rfl) ?_
                  refine gf_X11_X11_trial C hK (hB.1 0 _ rfl) dX11_chance_98 ?_
                  refine gf_X11_X1_groundInAll C hK (hB.1 4 _ rfl) dX11_chance_101 ?_
                  refine lv_iload_n hx hb dX11_chance_104 rfl (lv_at hl 3 rfl) ?_
                  obtain ⟨j23, ej23, hf⟩ := ox_ex hf
                  have hj23 : ∀ (x22 : Int32) (ls : Array Slot) (H : Heap) (locs : List Loc), lv_has ls 8 [(0, .ref (a_mn 0)), (2, .int x_2), (3, .int x_3), (4, .long x21), (6, .int x22), (7, .int x11)] → WB E ad s.heap [wMain E a_mn q_mn_0_tape (a_T 0 0) q_mn_0_spare q_mn_0_reader (a_ml 0) (a_now 0) (a_trial 0) q_mn_0_image q_mn_0_steps q_mn_0_notes q_mn_0_futures q_mn_0_order q_mn_0_clapRow u_mn, wMill E a_ml (a_nm 0) (a_T 0 0) r6, wLArr E 7 a_nm r19.1, wHall E a_now u_now, wHall E a_trial r19.2.2, wScript E (a_T 0) (a_T 1 0) (a_T 2 0) (a_T 3 0) (a_T 4 0) (a_T 5 0) (a_T 6 0) (a_T 7 0) (r19.2.1 0), wRoll E 6 (a_T 1) (r19.2.1 1), wRoll E 6 (a_T 2) (r19.2.1 2), wRoll E 4 (a_T 3) (r19.2.1 3), wRoll E 14 (a_T 4) (r19.2.1 4), wFormula E (a_T 5) (r19.2.1 5), wFormula E (a_T 6) (r19.2.1 6), wFormula E (a_T 7) (r19.2.1 7)] H locs → j23 x22 = some X1 → W p l e R s m args below meth c H locs 0 0 Q (F0 m 111 ls []) := by
                    intro x22 ls H locs hl hB hf
                    have hf := ox_a1 ej23 hf
                    obtain ⟨x24, ex24⟩ : ∃ z : Int32, z = (x11 + 1) := ⟨_, rfl⟩
                    have hf := ox_lt ex24 hf
                    refine lv_iinc (v := x24) (lv' := [(7, .int x24), (0, .ref (a_mn 0)), (2, .int x_2), (3, .int x_3), (4, .long x21), (6, .int x22)]) hx hb dX11_chance_111 hl (k := 5) rfl (by rw [ex24]; rfl) (by decide) rfl (fun ls hl => ?_)
                    refine lv_goto (tgt := 49) hx hb dX11_chance_114 (by decide) ?_
                    exact ih _ _ _ _ _ _ ls H locs (lv_sub hl [1, 2, 3, 4, 5, 0] rfl) hB hf
                  refine lv_icmp_lt (tgt := 111) hx hb dX11_chance_105 (by decide) (fun c25 => ?_) (fun c25 => ?_)
                  · have hf := (if_pos c25).symm.trans hf
                    exact hj23 _ ls H locs (lv_sub hl [1, 2, 3, 0, 4, 5] rfl) hB hf
                  · have hf := (if_neg c25).symm.trans hf
                    obtain ⟨x26, ex26⟩ : ∃ z : Int32, z = (x10 + 1) := ⟨_, rfl⟩
                    have hf := ox_lt ex26 hf
                    refine lv_iinc (v := x26) (lv' := [(6, .int x26), (4, .long x21), (0, .ref (a_mn 0)), (2, .int x_2), (3, .int x_3), (7, .int x11)]) hx hb dX11_chance_108 hl (k := 4) rfl (by rw [ex26]; rfl) (by decide) rfl (fun ls hl => ?_)
                    exact hj23 _ ls H locs (lv_sub hl [2, 3, 4, 1, 0, 5] rfl) hB hf
            exact hloop1 fuel _ _ _ _ _ _ ls H locs (lv_sub hl [3, 5, 6, 2, 1, 0] rfl) hB hX1
          · have hf := (if_neg c5).symm.trans hf
            refine lv_iconst (v := (-1)) hx hb dX11_chance_26 (by decide) ?_
            have hf := Option.some.inj hf
            subst hf
            exact hQ _ _ H locs (fun j => if j = 0 then q_ml_0_script else 0) hB dX11_chance_27
set_option maxHeartbeats 4000000 in
set_option maxRecDepth 20000 in
theorem tX11_tried (l : Launch) (E : Ev) (a_mn : Nat → Nat) (q_mn_0_tape : Nat) (q_mn_0_spare : Nat) (q_mn_0_reader : Nat) (q_mn_0_image : Nat) (q_mn_0_steps : Nat) (q_mn_0_notes : Nat) (q_mn_0_futures : Nat) (q_mn_0_order : Nat) (q_mn_0_clapRow : Nat) (u_mn : St) (a_ml : Nat → Nat) (q_ml_0_script : Nat) (u_ml : St) (a_nm : Nat → Nat) (u_nm : St) (a_now : Nat → Nat) (u_now : St) (a_trial : Nat → Nat) (u_trial : St) (a_T : Nat → Nat → Nat) (u_T : Nat → St) (x_1 : Int32) (x_2 : Int32) (x_3 : Int32) (res : Int32 × St × St × St × (Nat → St)) (hf : fX11_tried u_mn u_ml u_nm u_now u_trial u_T x_1 x_2 x_3 = some res) : MX l E yX11_tried cX11_tried 5 (some .int) (rmm 6 155) [wMain E a_mn q_mn_0_tape (a_T 0 0) q_mn_0_spare q_mn_0_reader (a_ml 0) (a_now 0) (a_trial 0) q_mn_0_image q_mn_0_steps q_mn_0_notes q_mn_0_futures q_mn_0_order q_mn_0_clapRow u_mn, wMill E a_ml (a_nm 0) q_ml_0_script u_ml, wLArr E 7 a_nm u_nm, wHall E a_now u_now, wHall E a_trial u_trial, wScript E (a_T 0) (a_T 1 0) (a_T 2 0) (a_T 3 0) (a_T 4 0) (a_T 5 0) (a_T 6 0) (a_T 7 0) (u_T 0), wRoll E 6 (a_T 1) (u_T 1), wRoll E 6 (a_T 2) (u_T 2), wRoll E 4 (a_T 3) (u_T 3), wRoll E 14 (a_T 4) (u_T 4), wFormula E (a_T 5) (u_T 5), wFormula E (a_T 6) (u_T 6), wFormula E (a_T 7) (u_T 7)] (fun q => [wMain E a_mn q_mn_0_tape (a_T 0 0) q_mn_0_spare q_mn_0_reader (a_ml 0) (a_now 0) (a_trial 0) q_mn_0_image q_mn_0_steps q_mn_0_notes q_mn_0_futures q_mn_0_order q_mn_0_clapRow u_mn, wMill E a_ml (a_nm 0) (q 0) res.2.1, wLArr E 7 a_nm res.2.2.1, wHall E a_now u_now, wHall E a_trial res.2.2.2.1, wScript E (a_T 0) (a_T 1 0) (a_T 2 0) (a_T 3 0) (a_T 4 0) (a_T 5 0) (a_T 6 0) (a_T 7 0) (res.2.2.2.2 0), wRoll E 6 (a_T 1) (res.2.2.2.2 1), wRoll E 6 (a_T 2) (res.2.2.2.2 2), wRoll E 4 (a_T 3) (res.2.2.2.2 3), wRoll E 14 (a_T 4) (res.2.2.2.2 4), wFormula E (a_T 5) (res.2.2.2.2 5), wFormula E (a_T 6) (res.2.2.2.2 6), wFormula E (a_T 7) (res.2.2.2.2 7)]) [.ref (a_mn 0), .int x_1, .int x_2, .int x_3] (some (.int res.1)) := by
  unfold fX11_tried at hf
  refine MX.ofI rfl (by decide) (Nat.le_of_ble_eq_true rfl) ?_
  intro p e R s m args below meth c ls Q ad H hRf hRl C hB hD hK hN hl hQ
  generalize hlocs : ([] : List Loc) = locs at hB ⊢
  clear hlocs
  have hx := C.1
  have hb := C.2.1
  have hl : lv_has ls 5 [(0, .ref (a_mn 0)), (1, .int x_1), (2, .int x_2), (3, .int x_3)] := hl
  refine lv_iload_n hx hb dX11_tried_0 rfl (lv_at hl 1 rfl) ?_
  refine lv_iconst (v := 2) hx hb dX11_tried_1 (by decide) ?_
  obtain ⟨j2, ej2, hf⟩ := ox_ex hf
  have hj2 : ∀ (x1 : Int32) (ls : Array Slot) (H : Heap) (locs : List Loc), lv_has ls 5 [(0, .ref (a_mn 0)), (1, .int x_1), (2, .int x_2), (3, .int x_3)] → WB E ad s.heap [wMain E a_mn q_mn_0_tape (a_T 0 0) q_mn_0_spare q_mn_0_reader (a_ml 0) (a_now 0) (a_trial 0) q_mn_0_image q_mn_0_steps q_mn_0_notes q_mn_0_futures q_mn_0_order q_mn_0_clapRow u_mn, wMill E a_ml (a_nm 0) q_ml_0_script u_ml, wLArr E 7 a_nm u_nm, wHall E a_now u_now, wHall E a_trial u_trial, wScript E (a_T 0) (a_T 1 0) (a_T 2 0) (a_T 3 0) (a_T 4 0) (a_T 5 0) (a_T 6 0) (a_T 7 0) (u_T 0), wRoll E 6 (a_T 1) (u_T 1), wRoll E 6 (a_T 2) (u_T 2), wRoll E 4 (a_T 3) (u_T 3), wRoll E 14 (a_T 4) (u_T 4), wFormula E (a_T 5) (u_T 5), wFormula E (a_T 6) (u_T 6), wFormula E (a_T 7) (u_T 7)] H locs → j2 x1 = some res → W p l e R s m args below meth c H locs 0 0 Q (F0 m 37 ls [.int x1]) := by
    intro x1 ls H locs hl hB hf
    have hf := ox_a1 ej2 hf
    refine lv_istore (lv' := [(4, .int x1), (0, .ref (a_mn 0)), (1, .int x_1), (2, .int x_2), (3, .int x_3)]) hx hb dX11_tried_37 hl (by decide) rfl (fun ls hl => ?_)
    refine lv_iload hx hb dX11_tried_39 (lv_at hl 0 rfl) ?_
    refine lv_if_eq (tgt := 55) hx hb dX11_tried_41 (by decide) (fun c3 => ?_) (fun c3 => ?_)
    · have hf := (if_pos c3).symm.trans hf
      refine lv_iconst (v := (-1)) hx hb dX11_tried_55 (by decide) ?_
      have hf := Option.some.inj hf
      subst hf
      exact hQ _ _ H locs (fun j => if j = 0 then q_ml_0_script else 0) hB dX11_tried_56
    · have hf := (if_neg c3).symm.trans hf
      refine lv_iload_n hx hb dX11_tried_44 rfl (lv_at hl 4 rfl) ?_
      refine lv_if_lt (tgt := 55) hx hb dX11_tried_45 (by decide) (fun c4 => ?_) (fun c4 => ?_)
      · have hf := (if_pos c4).symm.trans hf
        refine lv_iconst (v := (-1)) hx hb dX11_tried_55 (by decide) ?_
        have hf := Option.some.inj hf
        subst hf
        exact hQ _ _ H locs (fun j => if j = 0 then q_ml_0_script else 0) hB dX11_tried_56
      · have hf := (if_neg c4).symm.trans hf
        refine lv_iload_n hx hb dX11_tried_48 rfl (lv_at hl 4 rfl) ?_
        refine lv_sipush (v := 200) hx hb dX11_tried_49 (by decide) ?_
        refine lv_icmp_le (tgt := 57) hx hb dX11_tried_52 (by decide) (fun c5 => ?_) (fun c5 => ?_)
        · have hf := (if_pos c5).symm.trans hf
          refine lv_aload_n hx hb dX11_tried_57 rfl (lv_at hl 1 rfl) ?_
          obtain ⟨r6, hr6, hf⟩ := ox_bind hf
          refine cxVX (bs1 := (fun q => [wMain E a_mn q_mn_0_tape (a_T 0 0) q_mn_0_spare q_mn_0_reader (a_ml 0) (a_now 0) (a_trial 0) q_mn_0_image q_mn_0_steps q_mn_0_notes q_mn_0_futures q_mn_0_order q_mn_0_clapRow u_mn, wMill E a_ml (a_nm 0) (a_T 0 0) r6.1, wLArr E 7 a_nm u_nm, wHall E a_now u_now, wHall E a_trial r6.2, wScript E (a_T 0) (a_T 1 0) (a_T 2 0) (a_T 3 0) (a_T 4 0) (a_T 5 0) (a_T 6 0) (a_T 7 0) (u_T 0), wRoll E 6 (a_T 1) (u_T 1), wRoll E 6 (a_T 2) (u_T 2), wRoll E 4 (a_T 3) (u_T 3), wRoll E 14 (a_T 4) (u_T 4), wFormula E (a_T 5) (u_T 5), wFormula E (a_T 6) (u_T 6), wFormula E (a_T 7) (u_T 7)])) (As := []) (rest := []) (st1 := []) C hK (tX11_startTrial l E a_mn q_mn_0_tape (a_T 0 0) q_mn_0_spare q_mn_0_reader q_mn_0_image q_mn_0_steps q_mn_0_notes q_mn_0_futures q_mn_0_order q_mn_0_clapRow u_mn a_ml (a_nm 0) q_ml_0_script u_ml a_now u_now a_trial u_trial r6 hr6) lk_X11_291 (by rw [hRf, hRl]; decide) ⟨Nat.zero_le _, Nat.zero_le _⟩ hB hD hN [0, 1, 3, 4] (by decide) rfl (fun _ => rfl) (fun _ => rfl) (rc_X11 hK (hB.1 0 _ rfl)) rfl hl.1 rfl rfl (Nat.le_of_ble_eq_true rfl) dX11_tried_58 (fun H locs q7 hB => ?_)
          have hB : WB E ad s.heap [wMain E a_mn q_mn_0_tape (a_T 0 0) q_mn_0_spare q_mn_0_reader (a_ml 0) (a_now 0) (a_trial 0) q_mn_0_image q_mn_0_steps q_mn_0_notes q_mn_0_futures q_mn_0_order q_mn_0_clapRow u_mn, wMill E a_ml (a_nm 0) (a_T 0 0) r6.1, wLArr E 7 a_nm u_nm, wHall E a_now u_now, wHall E a_trial r6.2, wScript E (a_T 0) (a_T 1 0) (a_T 2 0) (a_T 3 0) (a_T 4 0) (a_T 5 0) (a_T 6 0) (a_T 7 0) (u_T 0), wRoll E 6 (a_T 1) (u_T 1), wRoll E 6 (a_T 2) (u_T 2), wRoll E 4 (a_T 3) (u_T 3), wRoll E 14 (a_T 4) (u_T 4), wFormula E (a_T 5) (u_T 5), wFormula E (a_T 6) (u_T 6), wFormula E (a_T 7) (u_T 7)] H locs := hB
          refine lv_iload_n hx hb dX11_tried_61 rfl (lv_at hl 2 rfl) ?_
          obtain ⟨j9, ej9, hf⟩ := ox_ex hf
          have hj9 : ∀ (u8 : St) (ls : Array Slot) (H : Heap) (locs : List Loc), lv_has ls 5 [(0, .ref (a_mn 0)), (3, .int x_3)] → WB E ad s.heap [wMain E a_mn q_mn_0_tape (a_T 0 0) q_mn_0_spare q_mn_0_reader (a_ml 0) (a_now 0) (a_trial 0) q_mn_0_image q_mn_0_steps q_mn_0_notes q_mn_0_futures q_mn_0_order q_mn_0_clapRow u_mn, wMill E a_ml (a_nm 0) (a_T 0 0) u8, wLArr E 7 a_nm u_nm, wHall E a_now u_now, wHall E a_trial r6.2, wScript E (a_T 0) (a_T 1 0) (a_T 2 0) (a_T 3 0) (a_T 4 0) (a_T 5 0) (a_T 6 0) (a_T 7 0) (u_T 0), wRoll E 6 (a_T 1) (u_T 1), wRoll E 6 (a_T 2) (u_T 2), wRoll E 4 (a_T 3) (u_T 3), wRoll E 14 (a_T 4) (u_T 4), wFormula E (a_T 5) (u_T 5), wFormula E (a_T 6) (u_T 6), wFormula E (a_T 7) (u_T 7)] H locs → j9 u8 = some res → W p l e R s m args below meth c H locs 0 0 Q (F0 m 144 ls []) := by
            intro u8 ls H locs hl hB hf
            have hf := ox_a1 ej9 hf
            refine lv_aload_n hx hb dX11_tried_144 rfl (lv_at hl 0 rfl) ?_
            refine gf_X11_X11_mill C hK (hB.1 0 _ rfl) dX11_tried_145 ?_
            refine lv_aload_n hx hb dX11_tried_148 rfl (lv_at hl 0 rfl) ?_
            refine gf_X11_X11_trial C hK (hB.1 0 _ rfl) dX11_tried_149 ?_
            refine lv_iload_n hx hb dX11_tried_152 rfl (lv_at hl 1 rfl) ?_
            obtain ⟨r10, hr10, hf⟩ := ox_bind hf
            refine cxVX (bs1 := (fun q => [wMain E a_mn q_mn_0_tape (a_T 0 0) q_mn_0_spare q_mn_0_reader (a_ml 0) (a_now 0) (a_trial 0) q_mn_0_image q_mn_0_steps q_mn_0_notes q_mn_0_futures q_mn_0_order q_mn_0_clapRow u_mn, wMill E a_ml (a_nm 0) (a_T 0 0) u8, wLArr E 7 a_nm r10.1, wHall E a_now u_now, wHall E a_trial r10.2.2, wScript E (a_T 0) (a_T 1 0) (a_T 2 0) (a_T 3 0) (a_T 4 0) (a_T 5 0) (a_T 6 0) (a_T 7 0) (r10.2.1 0), wRoll E 6 (a_T 1) (r10.2.1 1), wRoll E 6 (a_T 2) (r10.2.1 2), wRoll E 4 (a_T 3) (r10.2.1 3), wRoll E 14 (a_T 4) (r10.2.1 4), wFormula E (a_T 5) (r10.2.1 5), wFormula E (a_T 6) (r10.2.1 6), wFormula E (a_T 7) (r10.2.1 7)])) (As := [.ref (a_trial 0), .int x_3]) (rest := []) (st1 := []) C hK (tX2_pass l E a_ml u8 7 a_nm u_nm a_T u_T a_trial (r6.2) x_3 r10 hr10) lk_X11_277 (by rw [hRf, hRl]; decide) ⟨Nat.zero_le _, Nat.zero_le _⟩ hB hD hN [1, 2, 5, 6, 7, 8, 9, 10, 11, 12, 4] (by decide) rfl (fun _ => rfl) (fun _ => rfl) (rc_X2 hK (hB.1 1 _ rfl)) rfl hl.1 rfl rfl (Nat.le_of_ble_eq_true rfl) dX11_tried_153 (fun H locs q11 hB => ?_)
            have hB : WB E ad s.heap [wMain E a_mn q_mn_0_tape (a_T 0 0) q_mn_0_spare q_mn_0_reader (a_ml 0) (a_now 0) (a_trial 0) q_mn_0_image q_mn_0_steps q_mn_0_notes q_mn_0_futures q_mn_0_order q_mn_0_clapRow u_mn, wMill E a_ml (a_nm 0) (a_T 0 0) u8, wLArr E 7 a_nm r10.1, wHall E a_now u_now, wHall E a_trial r10.2.2, wScript E (a_T 0) (a_T 1 0) (a_T 2 0) (a_T 3 0) (a_T 4 0) (a_T 5 0) (a_T 6 0) (a_T 7 0) (r10.2.1 0), wRoll E 6 (a_T 1) (r10.2.1 1), wRoll E 6 (a_T 2) (r10.2.1 2), wRoll E 4 (a_T 3) (r10.2.1 3), wRoll E 14 (a_T 4) (r10.2.1 4), wFormula E (a_T 5) (r10.2.1 5), wFormula E (a_T 6) (r10.2.1 6), wFormula E (a_T 7) (r10.2.1 7)] H locs := hB
            refine lv_aload_n hx hb dX11_tried_156 rfl (lv_at hl 0 rfl) ?_
            refine gf_X11_X11_trial C hK (hB.1 0 _ rfl) dX11_tried_157 ?_
            refine gf_X11_X1_groundInAll C hK (hB.1 4 _ rfl) dX11_tried_160 ?_
            have hf := Option.some.inj hf
            subst hf
            exact hQ _ _ H locs (fun j => if j = 0 then (a_T 0 0) else 0) hB dX11_tried_163
          by_cases c12 : x_1 = 0
          · have hf := (if_pos c12).symm.trans hf
            refine lv_tableIn hx hb dX11_tried_62 (by rw [c12]; decide) (by rw [c12]; decide) (off := 30) (by rw [c12]; decide) (tgt := 92) (by decide) ?_
            refine lv_aload_n hx hb dX11_tried_92 rfl (lv_at hl 1 rfl) ?_
            refine gf_X11_X11_mill C hK (hB.1 0 _ rfl) dX11_tried_93 ?_
            refine lv_iconst (v := 2) hx hb dX11_tried_96 (by decide) ?_
            refine pf_X11_X2_coughs C hK hB hD 1 rfl dX11_tried_97 (fun H locs u13 eu13 hB => ?_)
            have hf := ox_lt eu13 hf
            have hB : WB E ad s.heap [wMain E a_mn q_mn_0_tape (a_T 0 0) q_mn_0_spare q_mn_0_reader (a_ml 0) (a_now 0) (a_trial 0) q_mn_0_image q_mn_0_steps q_mn_0_notes q_mn_0_futures q_mn_0_order q_mn_0_clapRow u_mn, wMill E a_ml (a_nm 0) (a_T 0 0) u13, wLArr E 7 a_nm u_nm, wHall E a_now u_now, wHall E a_trial r6.2, wScript E (a_T 0) (a_T 1 0) (a_T 2 0) (a_T 3 0) (a_T 4 0) (a_T 5 0) (a_T 6 0) (a_T 7 0) (u_T 0), wRoll E 6 (a_T 1) (u_T 1), wRoll E 6 (a_T 2) (u_T 2), wRoll E 4 (a_T 3) (u_T 3), wRoll E 14 (a_T 4) (u_T 4), wFormula E (a_T 5) (u_T 5), wFormula E (a_T 6) (u_T 6), wFormula E (a_T 7) (u_T 7)] H locs := hB
            refine lv_goto (tgt := 144) hx hb dX11_tried_100 (by decide) ?_
            exact hj9 _ ls H locs (lv_sub hl [1, 4] rfl) hB hf
          have hf := (if_neg c12).symm.trans hf
          by_cases c14 : x_1 = 1
          · have hf := (if_pos c14).symm.trans hf
            refine lv_tableIn hx hb dX11_tried_62 (by rw [c14]; decide) (by rw [c14]; decide) (off := 41) (by rw [c14]; decide) (tgt := 103) (by decide) ?_
            refine lv_aload_n hx hb dX11_tried_103 rfl (lv_at hl 1 rfl) ?_
            refine gf_X11_X11_mill C hK (hB.1 0 _ rfl) dX11_tried_104 ?_
            refine lv_iconst (v := 3) hx hb dX11_tried_107 (by decide) ?_
            refine pf_X11_X2_coughs C hK hB hD 1 rfl dX11_tried_108 (fun H locs u15 eu15 hB => ?_)
            have hf := ox_lt eu15 hf
            have hB : WB E ad s.heap [wMain E a_mn q_mn_0_tape (a_T 0 0) q_mn_0_spare q_mn_0_reader (a_ml 0) (a_now 0) (a_trial 0) q_mn_0_image q_mn_0_steps q_mn_0_notes q_mn_0_futures q_mn_0_order q_mn_0_clapRow u_mn, wMill E a_ml (a_nm 0) (a_T 0 0) u15, wLArr E 7 a_nm u_nm, wHall E a_now u_now, wHall E a_trial r6.2, wScript E (a_T 0) (a_T 1 0) (a_T 2 0) (a_T 3 0) (a_T 4 0) (a_T 5 0) (a_T 6 0) (a_T 7 0) (u_T 0), wRoll E 6 (a_T 1) (u_T 1), wRoll E 6 (a_T 2) (u_T 2), wRoll E 4 (a_T 3) (u_T 3), wRoll E 14 (a_T 4) (u_T 4), wFormula E (a_T 5) (u_T 5), wFormula E (a_T 6) (u_T 6), wFormula E (a_T 7) (u_T 7)] H locs := hB
            refine lv_goto (tgt := 144) hx hb dX11_tried_111 (by decide) ?_
            exact hj9 _ ls H locs (lv_sub hl [1, 4] rfl) hB hf
          have hf := (if_neg c14).symm.trans hf
          by_cases c16 : x_1 = 2
          · have hf := (if_pos c16).symm.trans hf
            refine lv_tableIn hx hb dX11_tried_62 (by rw [c16]; decide) (by rw [c16]; decide) (off := 52) (by rw [c16]; decide) (tgt := 114) (by decide) ?_
            refine lv_aload_n hx hb dX11_tried_114 rfl (lv_at hl 1 rfl) ?_
            refine gf_X11_X11_mill C hK (hB.1 0 _ rfl) dX11_tried_115 ?_
            refine lv_iload_n hx hb dX11_tried_118 rfl (lv_at hl 3 rfl) ?_
            refine pf_X11_X2_mute C hK hB hD 1 rfl dX11_tried_119 (fun H locs u17 eu17 hB => ?_)
            have hf := ox_lt eu17 hf
            have hB : WB E ad s.heap [wMain E a_mn q_mn_0_tape (a_T 0 0) q_mn_0_spare q_mn_0_reader (a_ml 0) (a_now 0) (a_trial 0) q_mn_0_image q_mn_0_steps q_mn_0_notes q_mn_0_futures q_mn_0_order q_mn_0_clapRow u_mn, wMill E a_ml (a_nm 0) (a_T 0 0) u17, wLArr E 7 a_nm u_nm, wHall E a_now u_now, wHall E a_trial r6.2, wScript E (a_T 0) (a_T 1 0) (a_T 2 0) (a_T 3 0) (a_T 4 0) (a_T 5 0) (a_T 6 0) (a_T 7 0) (u_T 0), wRoll E 6 (a_T 1) (u_T 1), wRoll E 6 (a_T 2) (u_T 2), wRoll E 4 (a_T 3) (u_T 3), wRoll E 14 (a_T 4) (u_T 4), wFormula E (a_T 5) (u_T 5), wFormula E (a_T 6) (u_T 6), wFormula E (a_T 7) (u_T 7)] H locs := hB
            refine lv_goto (tgt := 144) hx hb dX11_tried_122 (by decide) ?_
            exact hj9 _ ls H locs (lv_sub hl [1, 4] rfl) hB hf
          have hf := (if_neg c16).symm.trans hf
          by_cases c18 : x_1 = 3
          · have hf := (if_pos c18).symm.trans hf
            refine lv_tableIn hx hb dX11_tried_62 (by rw [c18]; decide) (by rw [c18]; decide) (off := 63) (by rw [c18]; decide) (tgt := 125) (by decide) ?_
            refine lv_aload_n hx hb dX11_tried_125 rfl (lv_at hl 1 rfl) ?_
            refine gf_X11_X11_mill C hK (hB.1 0 _ rfl) dX11_tried_126 ?_
            refine lv_iconst (v := 0) hx hb dX11_tried_129 (by decide) ?_
            refine pf_X11_X2_givesBack C hK hB hD 1 rfl (by decide) dX11_tried_130 (fun H locs u19 eu19 hB => ?_)
            have hf := ox_lt eu19 hf
            have hB : WB E ad s.heap [wMain E a_mn q_mn_0_tape (a_T 0 0) q_mn_0_spare q_mn_0_reader (a_ml 0) (a_now 0) (a_trial 0) q_mn_0_image q_mn_0_steps q_mn_0_notes q_mn_0_futures q_mn_0_order q_mn_0_clapRow u_mn, wMill E a_ml (a_nm 0) (a_T 0 0) u19, wLArr E 7 a_nm u_nm, wHall E a_now u_now, wHall E a_trial r6.2, wScript E (a_T 0) (a_T 1 0) (a_T 2 0) (a_T 3 0) (a_T 4 0) (a_T 5 0) (a_T 6 0) (a_T 7 0) (u_T 0), wRoll E 6 (a_T 1) (u_T 1), wRoll E 6 (a_T 2) (u_T 2), wRoll E 4 (a_T 3) (u_T 3), wRoll E 14 (a_T 4) (u_T 4), wFormula E (a_T 5) (u_T 5), wFormula E (a_T 6) (u_T 6), wFormula E (a_T 7) (u_T 7)] H locs := hB
            refine lv_goto (tgt := 144) hx hb dX11_tried_133 (by decide) ?_
            exact hj9 _ ls H locs (lv_sub hl [1, 4] rfl) hB hf
          have hf := (if_neg c18).symm.trans hf
          have hd21 : W p l e R s m args below meth c H locs 0 0 Q (F0 m 136 ls []) := by
            refine lv_aload_n hx hb dX11_tried_136 rfl (lv_at hl 1 rfl) ?_
            refine gf_X11_X11_mill C hK (hB.1 0 _ rfl) dX11_tried_137 ?_
            refine lv_iconst (v := 1) hx hb dX11_tried_140 (by decide) ?_
            refine pf_X11_X2_isHungry C hK hB hD 1 rfl (by decide) dX11_tried_141 (fun H locs u20 eu20 hB => ?_)
            have hf := ox_lt eu20 hf
            have hB : WB E ad s.heap [wMain E a_mn q_mn_0_tape (a_T 0 0) q_mn_0_spare q_mn_0_reader (a_ml 0) (a_now 0) (a_trial 0) q_mn_0_image q_mn_0_steps q_mn_0_notes q_mn_0_futures q_mn_0_order q_mn_0_clapRow u_mn, wMill E a_ml (a_nm 0) (a_T 0 0) u20, wLArr E 7 a_nm u_nm, wHall E a_now u_now, wHall E a_trial r6.2, wScript E (a_T 0) (a_T 1 0) (a_T 2 0) (a_T 3 0) (a_T 4 0) (a_T 5 0) (a_T 6 0) (a_T 7 0) (u_T 0), wRoll E 6 (a_T 1) (u_T 1), wRoll E 6 (a_T 2) (u_T 2), wRoll E 4 (a_T 3) (u_T 3), wRoll E 14 (a_T 4) (u_T 4), wFormula E (a_T 5) (u_T 5), wFormula E (a_T 6) (u_T 6), wFormula E (a_T 7) (u_T 7)] H locs := hB
            exact hj9 _ ls H locs (lv_sub hl [1, 4] rfl) hB hf
          have nc12 := lv_neT c12 (show Int32.toInt 0 = 0 from rfl)
          have nc14 := lv_neT c14 (show Int32.toInt 1 = 1 from rfl)
          have nc16 := lv_neT c16 (show Int32.toInt 2 = 2 from rfl)
          have nc18 := lv_neT c18 (show Int32.toInt 3 = 3 from rfl)
          rcases (show Int32.toInt x_1 < 0 ∨ 3 < Int32.toInt x_1 by omega) with h | h
          · exact lv_tableOut hx hb dX11_tried_62 (Or.inl h) (tgt := 136) (by decide) hd21
          · exact lv_tableOut hx hb dX11_tried_62 (Or.inr h) (tgt := 136) (by decide) hd21
        · have hf := (if_neg c5).symm.trans hf
          refine lv_iconst (v := (-1)) hx hb dX11_tried_55 (by decide) ?_
          have hf := Option.some.inj hf
          subst hf
          exact hQ _ _ H locs (fun j => if j = 0 then q_ml_0_script else 0) hB dX11_tried_56
  refine lv_icmp_ne (tgt := 19) hx hb dX11_tried_2 (by decide) (fun c22 => ?_) (fun c22 => ?_)
  · have hf := (if_neg c22).symm.trans hf
    refine lv_iload_n hx hb dX11_tried_19 rfl (lv_at hl 1 rfl) ?_
    obtain ⟨j23, ej23, hf⟩ := ox_ex hf
    have hj23 : ∀ (ls : Array Slot) (H : Heap) (locs : List Loc), lv_has ls 5 [(0, .ref (a_mn 0)), (1, .int x_1), (2, .int x_2), (3, .int x_3)] → WB E ad s.heap [wMain E a_mn q_mn_0_tape (a_T 0 0) q_mn_0_spare q_mn_0_reader (a_ml 0) (a_now 0) (a_trial 0) q_mn_0_image q_mn_0_steps q_mn_0_notes q_mn_0_futures q_mn_0_order q_mn_0_clapRow u_mn, wMill E a_ml (a_nm 0) q_ml_0_script u_ml, wLArr E 7 a_nm u_nm, wHall E a_now u_now, wHall E a_trial u_trial, wScript E (a_T 0) (a_T 1 0) (a_T 2 0) (a_T 3 0) (a_T 4 0) (a_T 5 0) (a_T 6 0) (a_T 7 0) (u_T 0), wRoll E 6 (a_T 1) (u_T 1), wRoll E 6 (a_T 2) (u_T 2), wRoll E 4 (a_T 3) (u_T 3), wRoll E 14 (a_T 4) (u_T 4), wFormula E (a_T 5) (u_T 5), wFormula E (a_T 6) (u_T 6), wFormula E (a_T 7) (u_T 7)] H locs → j23 = some res → W p l e R s m args below meth c H locs 0 0 Q (F0 m 36 ls []) := by
      intro ls H locs hl hB hf
      have hf := ox_a0 ej23 hf
      refine lv_iconst (v := 0) hx hb dX11_tried_36 (by decide) ?_
      exact hj2 _ ls H locs (lv_sub hl [0, 1, 2, 3] rfl) hB hf
    refine lv_if_lt (tgt := 36) hx hb dX11_tried_20 (by decide) (fun c24 => ?_) (fun c24 => ?_)
    · have hf := (if_pos c24).symm.trans hf
      exact hj23 ls H locs (lv_sub hl [0, 1, 2, 3] rfl) hB hf
    · have hf := (if_neg c24).symm.trans hf
      refine lv_iload_n hx hb dX11_tried_23 rfl (lv_at hl 1 rfl) ?_
      refine lv_iconst (v := 4) hx hb dX11_tried_24 (by decide) ?_
      refine lv_icmp_gt (tgt := 36) hx hb dX11_tried_25 (by decide) (fun c25 => ?_) (fun c25 => ?_)
      · have hf := (if_pos c25).symm.trans hf
        exact hj23 ls H locs (lv_sub hl [0, 1, 2, 3] rfl) hB hf
      · have hf := (if_neg c25).symm.trans hf
        refine lv_iload_n hx hb dX11_tried_28 rfl (lv_at hl 2 rfl) ?_
        refine lv_if_ne (tgt := 36) hx hb dX11_tried_29 (by decide) (fun c26 => ?_) (fun c26 => ?_)
        · have hf := (if_neg c26).symm.trans hf
          exact hj23 ls H locs (lv_sub hl [0, 1, 2, 3] rfl) hB hf
        · have hf := (if_pos c26).symm.trans hf
          refine lv_iconst (v := 1) hx hb dX11_tried_32 (by decide) ?_
          refine lv_goto (tgt := 37) hx hb dX11_tried_33 (by decide) ?_
          exact hj2 _ ls H locs (lv_sub hl [0, 1, 2, 3] rfl) hB hf
  · have hf := (if_pos c22).symm.trans hf
    refine lv_aload_n hx hb dX11_tried_5 rfl (lv_at hl 0 rfl) ?_
    refine gf_X11_X11_told C hK (hB.1 0 _ rfl) dX11_tried_6 ?_
    refine gf_X11_X8_guests C hK (hB.1 5 _ rfl) dX11_tried_9 ?_
    refine lv_iload_n hx hb dX11_tried_12 rfl (lv_at hl 2 rfl) ?_
    refine cxVP (As := [.int x_2]) (rest := []) (st1 := [.int (fX7_has 6 (u_T 2) x_2)]) C hK (tX7_has l E 6 (a_T 2) (u_T 2) x_2 (fX7_has 6 (u_T 2) x_2) rfl) lk_X11_143 ⟨rfl, rfl⟩ (by rw [hRf, hRl]; decide) ⟨Nat.zero_le _, Nat.zero_le _⟩ (PB.sub hB.1 [7] rfl) (hB.old hD hN) (Nat.le_trans hN hB.2.2.1) (rc_X7 hK (hB.1 7 _ rfl)) rfl hl.1 rfl rfl (Nat.le_of_ble_eq_true rfl) dX11_tried_13 ?_
    refine lv_goto (tgt := 37) hx hb dX11_tried_16 (by decide) ?_
    exact hj2 _ ls H locs (lv_sub hl [0, 1, 2, 3] rfl) hB hf
