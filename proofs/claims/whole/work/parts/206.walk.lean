set_option maxHeartbeats 4000000 in
set_option maxRecDepth 20000 in
theorem tX11_keep (l : Launch) (E : Ev) (a_mn : Nat → Nat) (q_mn_0_tape : Nat) (q_mn_0_told : Nat) (q_mn_0_spare : Nat) (q_mn_0_reader : Nat) (q_mn_0_mill : Nat) (q_mn_0_trial : Nat) (q_mn_0_steps : Nat) (q_mn_0_notes : Nat) (q_mn_0_futures : Nat) (q_mn_0_order : Nat) (q_mn_0_clapRow : Nat) (u_mn : St) (a_now : Nat → Nat) (u_now : St) (a_image : Nat → Nat) (u_image : St) (res : Int32 × St × St) (hf : fX11_keep u_mn u_now u_image = some res) : MX l E yX11_keep cX11_keep 1 (some .int) (rmm 1 22) [wMain E a_mn q_mn_0_tape q_mn_0_told q_mn_0_spare q_mn_0_reader q_mn_0_mill (a_now 0) q_mn_0_trial (a_image 0) q_mn_0_steps q_mn_0_notes q_mn_0_futures q_mn_0_order q_mn_0_clapRow u_mn, wHall E a_now u_now, wHall E a_image u_image] (fun q => [wMain E a_mn q_mn_0_tape q_mn_0_told q_mn_0_spare q_mn_0_reader q_mn_0_mill (a_now 0) q_mn_0_trial (a_image 0) q_mn_0_steps q_mn_0_notes q_mn_0_futures q_mn_0_order q_mn_0_clapRow res.2.1, wHall E a_now u_now, wHall E a_image res.2.2]) [.ref (a_mn 0)] (some (.int res.1)) := by
  unfold fX11_keep at hf
  refine MX.ofI rfl (by decide) (Nat.le_of_ble_eq_true rfl) ?_
  intro p e R s m args below meth c ls Q ad H hRf hRl C hB hD hK hN hl hQ
  generalize hlocs : ([] : List Loc) = locs at hB ⊢
  clear hlocs
  have hx := C.1
  have hb := C.2.1
  have hl : lv_has ls 1 [(0, .ref (a_mn 0))] := hl
  refine lv_aload_n hx hb dX11_keep_0 rfl (lv_at hl 0 rfl) ?_
  refine gf_X11_X11_image C hK (hB.1 0 _ rfl) dX11_keep_1 ?_
  refine lv_aload_n hx hb dX11_keep_4 rfl (lv_at hl 0 rfl) ?_
  refine gf_X11_X11_now C hK (hB.1 0 _ rfl) dX11_keep_5 ?_
  obtain ⟨r1, hr1, hf⟩ := ox_bind hf
  refine cxVX (bs1 := (fun q => [wMain E a_mn q_mn_0_tape q_mn_0_told q_mn_0_spare q_mn_0_reader q_mn_0_mill (a_now 0) q_mn_0_trial (a_image 0) q_mn_0_steps q_mn_0_notes q_mn_0_futures q_mn_0_order q_mn_0_clapRow u_mn, wHall E a_now u_now, wHall E a_image r1])) (As := [.ref (a_now 0)]) (rest := []) (st1 := []) C hK (tX1_copy l E a_image u_image a_now u_now r1 hr1) lk_X11_285 (by rw [hRf, hRl]; decide) ⟨Nat.zero_le _, Nat.zero_le _⟩ hB hD hN [2, 1] (by decide) rfl (fun _ => rfl) (fun _ => rfl) (rc_X1 hK (hB.1 2 _ rfl)) rfl hl.1 rfl rfl (Nat.le_of_ble_eq_true rfl) dX11_keep_8 (fun H locs q2 hB => ?_)
  have hB : WB E ad s.heap [wMain E a_mn q_mn_0_tape q_mn_0_told q_mn_0_spare q_mn_0_reader q_mn_0_mill (a_now 0) q_mn_0_trial (a_image 0) q_mn_0_steps q_mn_0_notes q_mn_0_futures q_mn_0_order q_mn_0_clapRow u_mn, wHall E a_now u_now, wHall E a_image r1] H locs := hB
  refine lv_aload_n hx hb dX11_keep_11 rfl (lv_at hl 0 rfl) ?_
  refine lv_iconst (v := 1) hx hb dX11_keep_12 (by decide) ?_
  refine pf_X11_X11_hasImage C hK hB hD 0 rfl (by decide) dX11_keep_13 (fun H locs u3 eu3 hB => ?_)
  have hf := ox_lt eu3 hf
  have hB : WB E ad s.heap [wMain E a_mn q_mn_0_tape q_mn_0_told q_mn_0_spare q_mn_0_reader q_mn_0_mill (a_now 0) q_mn_0_trial (a_image 0) q_mn_0_steps q_mn_0_notes q_mn_0_futures q_mn_0_order q_mn_0_clapRow u3, wHall E a_now u_now, wHall E a_image r1] H locs := hB
  refine lv_aload_n hx hb dX11_keep_16 rfl (lv_at hl 0 rfl) ?_
  refine gf_X11_X11_now C hK (hB.1 0 _ rfl) dX11_keep_17 ?_
  refine gf_X11_X1_minute C hK (hB.1 1 _ rfl) dX11_keep_20 ?_
  have hf := Option.some.inj hf
  subst hf
  exact hQ _ _ H locs (fun _ => 0) hB dX11_keep_23
set_option maxHeartbeats 4000000 in
set_option maxRecDepth 20000 in
theorem tX11_back (l : Launch) (E : Ev) (a_mn : Nat → Nat) (q_mn_0_tape : Nat) (q_mn_0_told : Nat) (q_mn_0_spare : Nat) (q_mn_0_reader : Nat) (q_mn_0_mill : Nat) (q_mn_0_trial : Nat) (q_mn_0_notes : Nat) (q_mn_0_futures : Nat) (q_mn_0_order : Nat) (q_mn_0_clapRow : Nat) (u_mn : St) (a_now : Nat → Nat) (u_now : St) (a_image : Nat → Nat) (u_image : St) (a_sp : Nat → Nat) (u_sp : St) (res : Int32 × St × St) (hf : fX11_back u_mn u_now u_image u_sp = some res) : MX l E yX11_back cX11_back 1 (some .int) (rmm 1 22) [wMain E a_mn q_mn_0_tape q_mn_0_told q_mn_0_spare q_mn_0_reader q_mn_0_mill (a_now 0) q_mn_0_trial (a_image 0) (a_sp 0) q_mn_0_notes q_mn_0_futures q_mn_0_order q_mn_0_clapRow u_mn, wHall E a_now u_now, wHall E a_image u_image, wSteps E a_sp u_sp] (fun q => [wMain E a_mn q_mn_0_tape q_mn_0_told q_mn_0_spare q_mn_0_reader q_mn_0_mill (a_now 0) q_mn_0_trial (a_image 0) (a_sp 0) q_mn_0_notes q_mn_0_futures q_mn_0_order q_mn_0_clapRow u_mn, wHall E a_now res.2.1, wHall E a_image u_image, wSteps E a_sp res.2.2]) [.ref (a_mn 0)] (some (.int res.1)) := by
  unfold fX11_back at hf
  refine MX.ofI rfl (by decide) (Nat.le_of_ble_eq_true rfl) ?_
  intro p e R s m args below meth c ls Q ad H hRf hRl C hB hD hK hN hl hQ
  generalize hlocs : ([] : List Loc) = locs at hB ⊢
  clear hlocs
  have hx := C.1
  have hb := C.2.1
  have hl : lv_has ls 1 [(0, .ref (a_mn 0))] := hl
  refine lv_aload_n hx hb dX11_back_0 rfl (lv_at hl 0 rfl) ?_
  refine gf_X11_X11_hasImage C hK (hB.1 0 _ rfl) dX11_back_1 ?_
  refine lv_if_ne (tgt := 9) hx hb dX11_back_4 (by decide) (fun c1 => ?_) (fun c1 => ?_)
  · have hf := (if_neg c1).symm.trans hf
    refine lv_aload_n hx hb dX11_back_9 rfl (lv_at hl 0 rfl) ?_
    refine gf_X11_X11_now C hK (hB.1 0 _ rfl) dX11_back_10 ?_
    refine lv_aload_n hx hb dX11_back_13 rfl (lv_at hl 0 rfl) ?_
    refine gf_X11_X11_image C hK (hB.1 0 _ rfl) dX11_back_14 ?_
    obtain ⟨r2, hr2, hf⟩ := ox_bind hf
    refine cxVX (bs1 := (fun q => [wMain E a_mn q_mn_0_tape q_mn_0_told q_mn_0_spare q_mn_0_reader q_mn_0_mill (a_now 0) q_mn_0_trial (a_image 0) (a_sp 0) q_mn_0_notes q_mn_0_futures q_mn_0_order q_mn_0_clapRow u_mn, wHall E a_now r2, wHall E a_image u_image, wSteps E a_sp u_sp])) (As := [.ref (a_image 0)]) (rest := []) (st1 := []) C hK (tX1_copy l E a_now u_now a_image u_image r2 hr2) lk_X11_285 (by rw [hRf, hRl]; decide) ⟨Nat.zero_le _, Nat.zero_le _⟩ hB hD hN [1, 2] (by decide) rfl (fun _ => rfl) (fun _ => rfl) (rc_X1 hK (hB.1 1 _ rfl)) rfl hl.1 rfl rfl (Nat.le_of_ble_eq_true rfl) dX11_back_17 (fun H locs q3 hB => ?_)
    have hB : WB E ad s.heap [wMain E a_mn q_mn_0_tape q_mn_0_told q_mn_0_spare q_mn_0_reader q_mn_0_mill (a_now 0) q_mn_0_trial (a_image 0) (a_sp 0) q_mn_0_notes q_mn_0_futures q_mn_0_order q_mn_0_clapRow u_mn, wHall E a_now r2, wHall E a_image u_image, wSteps E a_sp u_sp] H locs := hB
    refine lv_aload_n hx hb dX11_back_20 rfl (lv_at hl 0 rfl) ?_
    refine gf_X11_X11_steps C hK (hB.1 0 _ rfl) dX11_back_21 ?_
    obtain ⟨r4, er4, hf⟩ := ox_ex hf
    refine cxVX (bs1 := (fun q => [wMain E a_mn q_mn_0_tape q_mn_0_told q_mn_0_spare q_mn_0_reader q_mn_0_mill (a_now 0) q_mn_0_trial (a_image 0) (a_sp 0) q_mn_0_notes q_mn_0_futures q_mn_0_order q_mn_0_clapRow u_mn, wHall E a_now r2, wHall E a_image u_image, wSteps E a_sp r4])) (As := []) (rest := []) (st1 := []) C hK (tX9_clear l E a_sp u_sp r4 er4.symm) lk_X11_123 (by rw [hRf, hRl]; decide) ⟨Nat.zero_le _, Nat.zero_le _⟩ hB hD hN [3] (by decide) rfl (fun _ => rfl) (fun _ => rfl) (rc_X9 hK (hB.1 3 _ rfl)) rfl hl.1 rfl rfl (Nat.le_of_ble_eq_true rfl) dX11_back_24 (fun H locs q5 hB => ?_)
    have hB : WB E ad s.heap [wMain E a_mn q_mn_0_tape q_mn_0_told q_mn_0_spare q_mn_0_reader q_mn_0_mill (a_now 0) q_mn_0_trial (a_image 0) (a_sp 0) q_mn_0_notes q_mn_0_futures q_mn_0_order q_mn_0_clapRow u_mn, wHall E a_now r2, wHall E a_image u_image, wSteps E a_sp r4] H locs := hB
    refine lv_aload_n hx hb dX11_back_27 rfl (lv_at hl 0 rfl) ?_
    refine gf_X11_X11_now C hK (hB.1 0 _ rfl) dX11_back_28 ?_
    refine gf_X11_X1_minute C hK (hB.1 1 _ rfl) dX11_back_31 ?_
    have hf := Option.some.inj hf
    subst hf
    exact hQ _ _ H locs (fun _ => 0) hB dX11_back_34
  · have hf := (if_pos c1).symm.trans hf
    refine lv_iconst (v := (-1)) hx hb dX11_back_7 (by decide) ?_
    have hf := Option.some.inj hf
    subst hf
    exact hQ _ _ H locs (fun _ => 0) hB dX11_back_8
set_option maxHeartbeats 4000000 in
set_option maxRecDepth 20000 in
theorem tX11_startTrial (l : Launch) (E : Ev) (a_mn : Nat → Nat) (q_mn_0_tape : Nat) (q_mn_0_told : Nat) (q_mn_0_spare : Nat) (q_mn_0_reader : Nat) (q_mn_0_image : Nat) (q_mn_0_steps : Nat) (q_mn_0_notes : Nat) (q_mn_0_futures : Nat) (q_mn_0_order : Nat) (q_mn_0_clapRow : Nat) (u_mn : St) (a_ml : Nat → Nat) (q_ml_0_names : Nat) (q_ml_0_script : Nat) (u_ml : St) (a_now : Nat → Nat) (u_now : St) (a_trial : Nat → Nat) (u_trial : St) (res : St × St) (hf : fX11_startTrial u_mn u_ml u_now u_trial = some res) : MX l E yX11_startTrial cX11_startTrial 1 none (rmm 1 22) [wMain E a_mn q_mn_0_tape q_mn_0_told q_mn_0_spare q_mn_0_reader (a_ml 0) (a_now 0) (a_trial 0) q_mn_0_image q_mn_0_steps q_mn_0_notes q_mn_0_futures q_mn_0_order q_mn_0_clapRow u_mn, wMill E a_ml q_ml_0_names q_ml_0_script u_ml, wHall E a_now u_now, wHall E a_trial u_trial] (fun q => [wMain E a_mn q_mn_0_tape q_mn_0_told q_mn_0_spare q_mn_0_reader (a_ml 0) (a_now 0) (a_trial 0) q_mn_0_image q_mn_0_steps q_mn_0_notes q_mn_0_futures q_mn_0_order q_mn_0_clapRow u_mn, wMill E a_ml q_ml_0_names q_mn_0_told res.1, wHall E a_now u_now, wHall E a_trial res.2]) [.ref (a_mn 0)] none := by
  unfold fX11_startTrial at hf
  refine MX.ofV rfl (by decide) (Nat.le_of_ble_eq_true rfl) ?_
  intro p e R s m args below meth c ls Q ad H hRf hRl C hB hD hK hN hl hQ
  generalize hlocs : ([] : List Loc) = locs at hB ⊢
  clear hlocs
  have hx := C.1
  have hb := C.2.1
  have hl : lv_has ls 1 [(0, .ref (a_mn 0))] := hl
  refine lv_aload_n hx hb dX11_startTrial_0 rfl (lv_at hl 0 rfl) ?_
  refine gf_X11_X11_trial C hK (hB.1 0 _ rfl) dX11_startTrial_1 ?_
  refine lv_aload_n hx hb dX11_startTrial_4 rfl (lv_at hl 0 rfl) ?_
  refine gf_X11_X11_now C hK (hB.1 0 _ rfl) dX11_startTrial_5 ?_
  obtain ⟨r1, hr1, hf⟩ := ox_bind hf
  refine cxVX (bs1 := (fun q => [wMain E a_mn q_mn_0_tape q_mn_0_told q_mn_0_spare q_mn_0_reader (a_ml 0) (a_now 0) (a_trial 0) q_mn_0_image q_mn_0_steps q_mn_0_notes q_mn_0_futures q_mn_0_order q_mn_0_clapRow u_mn, wMill E a_ml q_ml_0_names q_ml_0_script u_ml, wHall E a_now u_now, wHall E a_trial r1])) (As := [.ref (a_now 0)]) (rest := []) (st1 := []) C hK (tX1_copy l E a_trial u_trial a_now u_now r1 hr1) lk_X11_285 (by rw [hRf, hRl]; decide) ⟨Nat.zero_le _, Nat.zero_le _⟩ hB hD hN [3, 2] (by decide) rfl (fun _ => rfl) (fun _ => rfl) (rc_X1 hK (hB.1 3 _ rfl)) rfl hl.1 rfl rfl (Nat.le_of_ble_eq_true rfl) dX11_startTrial_8 (fun H locs q2 hB => ?_)
  have hB : WB E ad s.heap [wMain E a_mn q_mn_0_tape q_mn_0_told q_mn_0_spare q_mn_0_reader (a_ml 0) (a_now 0) (a_trial 0) q_mn_0_image q_mn_0_steps q_mn_0_notes q_mn_0_futures q_mn_0_order q_mn_0_clapRow u_mn, wMill E a_ml q_ml_0_names q_ml_0_script u_ml, wHall E a_now u_now, wHall E a_trial r1] H locs := hB
  refine lv_aload_n hx hb dX11_startTrial_11 rfl (lv_at hl 0 rfl) ?_
  refine gf_X11_X11_mill C hK (hB.1 0 _ rfl) dX11_startTrial_12 ?_
  refine lv_aload_n hx hb dX11_startTrial_15 rfl (lv_at hl 0 rfl) ?_
  refine gf_X11_X11_told C hK (hB.1 0 _ rfl) dX11_startTrial_16 ?_
  obtain ⟨r3, er3, hf⟩ := ox_ex hf
  refine cxVX (bs1 := (fun q => [wMain E a_mn q_mn_0_tape q_mn_0_told q_mn_0_spare q_mn_0_reader (a_ml 0) (a_now 0) (a_trial 0) q_mn_0_image q_mn_0_steps q_mn_0_notes q_mn_0_futures q_mn_0_order q_mn_0_clapRow u_mn, wMill E a_ml q_ml_0_names q_mn_0_told r3, wHall E a_now u_now, wHall E a_trial r1])) (As := [.ref q_mn_0_told]) (rest := []) (st1 := []) C hK (tX2_asItGoes l E a_ml q_ml_0_names q_ml_0_script u_ml q_mn_0_told r3 er3.symm) lk_X11_198 (by rw [hRf, hRl]; decide) ⟨Nat.zero_le _, Nat.zero_le _⟩ hB hD hN [1] (by decide) rfl (fun _ => rfl) (fun _ => rfl) (rc_X2 hK (hB.1 1 _ rfl)) rfl hl.1 rfl rfl (Nat.le_of_ble_eq_true rfl) dX11_startTrial_19 (fun H locs q4 hB => ?_)
  have hB : WB E ad s.heap [wMain E a_mn q_mn_0_tape q_mn_0_told q_mn_0_spare q_mn_0_reader (a_ml 0) (a_now 0) (a_trial 0) q_mn_0_image q_mn_0_steps q_mn_0_notes q_mn_0_futures q_mn_0_order q_mn_0_clapRow u_mn, wMill E a_ml q_ml_0_names q_mn_0_told r3, wHall E a_now u_now, wHall E a_trial r1] H locs := hB
  have hf := Option.some.inj hf
  subst hf
  exact hQ _ _ H locs (fun _ => 0) hB dX11_startTrial_22
set_option maxHeartbeats 4000000 in
set_option maxRecDepth 20000 in
theorem tX11_canBeAhead (l : Launch) (E : Ev) (a_mn : Nat → Nat) (q_mn_0_tape : Nat) (q_mn_0_spare : Nat) (q_mn_0_reader : Nat) (q_mn_0_mill : Nat) (q_mn_0_now : Nat) (q_mn_0_trial : Nat) (q_mn_0_image : Nat) (q_mn_0_steps : Nat) (q_mn_0_notes : Nat) (q_mn_0_futures : Nat) (q_mn_0_order : Nat) (q_mn_0_clapRow : Nat) (u_mn : St) (a_T : Nat → Nat → Nat) (u_T : Nat → St) (x_1 : Int32) (x_2 : Int32) (res : Int32) (hf : fX11_canBeAhead u_mn u_T x_1 x_2 = res) : MP l E yX11_canBeAhead cX11_canBeAhead 3 (some .boolean) (rmm 1 21) [wMain E a_mn q_mn_0_tape (a_T 0 0) q_mn_0_spare q_mn_0_reader q_mn_0_mill q_mn_0_now q_mn_0_trial q_mn_0_image q_mn_0_steps q_mn_0_notes q_mn_0_futures q_mn_0_order q_mn_0_clapRow u_mn, wScript E (a_T 0) (a_T 1 0) (a_T 2 0) (a_T 3 0) (a_T 4 0) (a_T 5 0) (a_T 6 0) (a_T 7 0) (u_T 0), wRoll E 6 (a_T 1) (u_T 1), wRoll E 6 (a_T 2) (u_T 2), wRoll E 4 (a_T 3) (u_T 3), wRoll E 14 (a_T 4) (u_T 4), wFormula E (a_T 5) (u_T 5), wFormula E (a_T 6) (u_T 6), wFormula E (a_T 7) (u_T 7)] [.ref (a_mn 0), .int x_1, .int x_2] (some (.int res)) := by
  unfold fX11_canBeAhead at hf
  refine MP.ofZZ rfl (by decide) (Nat.le_of_ble_eq_true rfl) ?_
  intro p e R s m args below meth c ls Q hRf hRl C hP hK hN hl hQ
  have hx := C.1
  have hb := C.2.1
  have hl : lv_has ls 3 [(0, .ref (a_mn 0)), (1, .int x_1), (2, .int x_2)] := hl
  refine lv_iload_n hx hb dX11_canBeAhead_0 rfl (lv_at hl 1 rfl) ?_
  refine lv_iconst (v := 1) hx hb dX11_canBeAhead_1 (by decide) ?_
  refine lv_icmp_ne (tgt := 17) hx hb dX11_canBeAhead_2 (by decide) (fun c1 => ?_) (fun c1 => ?_)
  · have hf := (if_neg c1).symm.trans hf
    refine lv_iload_n hx hb dX11_canBeAhead_17 rfl (lv_at hl 1 rfl) ?_
    refine lv_iconst (v := 4) hx hb dX11_canBeAhead_18 (by decide) ?_
    refine lv_icmp_ne (tgt := 34) hx hb dX11_canBeAhead_19 (by decide) (fun c2 => ?_) (fun c2 => ?_)
    · have hf := (if_neg c2).symm.trans hf
      refine lv_iload_n hx hb dX11_canBeAhead_34 rfl (lv_at hl 1 rfl) ?_
      obtain ⟨x3, ex3, hf⟩ := ox_ex hf
      have hjx3 : W p l e R s m args below meth c s.heap [] 0 0 Q (F0 m 53 ls [.int x3]) := by
        subst hf
        exact hQ _ _ x3 rfl dX11_canBeAhead_53
      refine lv_if_eq (tgt := 48) hx hb dX11_canBeAhead_35 (by decide) (fun c4 => ?_) (fun c4 => ?_)
      · refine lv_iconst (v := 1) hx hb dX11_canBeAhead_48 (by decide) ?_
        refine lv_goto (tgt := 53) hx hb dX11_canBeAhead_49 (by decide) ?_
        exact ox_topi ((ex3).trans (if_pos c4)).symm hjx3
      · refine lv_iload_n hx hb dX11_canBeAhead_38 rfl (lv_at hl 1 rfl) ?_
        refine lv_iconst (v := 2) hx hb dX11_canBeAhead_39 (by decide) ?_
        refine lv_icmp_eq (tgt := 48) hx hb dX11_canBeAhead_40 (by decide) (fun c5 => ?_) (fun c5 => ?_)
        · refine lv_iconst (v := 1) hx hb dX11_canBeAhead_48 (by decide) ?_
          refine lv_goto (tgt := 53) hx hb dX11_canBeAhead_49 (by decide) ?_
          exact ox_topi (((ex3).trans (if_neg c4)).trans (if_pos c5)).symm hjx3
        · refine lv_iload_n hx hb dX11_canBeAhead_43 rfl (lv_at hl 1 rfl) ?_
          refine lv_iconst (v := 3) hx hb dX11_canBeAhead_44 (by decide) ?_
          refine lv_icmp_ne (tgt := 52) hx hb dX11_canBeAhead_45 (by decide) (fun c6 => ?_) (fun c6 => ?_)
          · refine lv_iconst (v := 0) hx hb dX11_canBeAhead_52 (by decide) ?_
            exact ox_topi ((((ex3).trans (if_neg c4)).trans (if_neg c5)).trans (if_neg c6)).symm hjx3
          · refine lv_iconst (v := 1) hx hb dX11_canBeAhead_48 (by decide) ?_
            refine lv_goto (tgt := 53) hx hb dX11_canBeAhead_49 (by decide) ?_
            exact ox_topi ((((ex3).trans (if_neg c4)).trans (if_neg c5)).trans (if_pos c6)).symm hjx3
    · have hf := (if_pos c2).symm.trans hf
      refine lv_aload_n hx hb dX11_canBeAhead_22 rfl (lv_at hl 0 rfl) ?_
      refine gf_X11_X11_told C hK (hP 0 _ rfl) dX11_canBeAhead_23 ?_
      refine gf_X11_X8_guests C hK (hP 1 _ rfl) dX11_canBeAhead_26 ?_
      refine lv_iload_n hx hb dX11_canBeAhead_29 rfl (lv_at hl 2 rfl) ?_
      refine cxVP (As := [.int x_2]) (rest := []) (st1 := [.int (fX7_has 6 (u_T 2) x_2)]) C hK (tX7_has l E 6 (a_T 2) (u_T 2) x_2 (fX7_has 6 (u_T 2) x_2) rfl) lk_X11_143 ⟨rfl, rfl⟩ (by rw [hRf, hRl]; decide) ⟨Nat.zero_le _, Nat.zero_le _⟩ (PB.sub hP [3] rfl) (fun _ _ => rfl) hN (rc_X7 hK (hP 3 _ rfl)) rfl hl.1 rfl rfl (Nat.le_of_ble_eq_true rfl) dX11_canBeAhead_30 ?_
      subst hf
      exact hQ _ _ (fX7_has 6 (u_T 2) x_2) rfl dX11_canBeAhead_33
  · have hf := (if_pos c1).symm.trans hf
    refine lv_aload_n hx hb dX11_canBeAhead_5 rfl (lv_at hl 0 rfl) ?_
    refine gf_X11_X11_told C hK (hP 0 _ rfl) dX11_canBeAhead_6 ?_
    refine gf_X11_X8_grains C hK (hP 1 _ rfl) dX11_canBeAhead_9 ?_
    refine lv_iload_n hx hb dX11_canBeAhead_12 rfl (lv_at hl 2 rfl) ?_
    refine cxVP (As := [.int x_2]) (rest := []) (st1 := [.int (fX7_has 4 (u_T 3) x_2)]) C hK (tX7_has l E 4 (a_T 3) (u_T 3) x_2 (fX7_has 4 (u_T 3) x_2) rfl) lk_X11_143 ⟨rfl, rfl⟩ (by rw [hRf, hRl]; decide) ⟨Nat.zero_le _, Nat.zero_le _⟩ (PB.sub hP [4] rfl) (fun _ _ => rfl) hN (rc_X7 hK (hP 4 _ rfl)) rfl hl.1 rfl rfl (Nat.le_of_ble_eq_true rfl) dX11_canBeAhead_13 ?_
    subst hf
    exact hQ _ _ (fX7_has 4 (u_T 3) x_2) rfl dX11_canBeAhead_16
set_option maxHeartbeats 4000000 in
set_option maxRecDepth 20000 in
theorem tX11_ahead (l : Launch) (E : Ev) (a_mn : Nat → Nat) (q_mn_0_tape : Nat) (q_mn_0_spare : Nat) (q_mn_0_reader : Nat) (q_mn_0_image : Nat) (q_mn_0_steps : Nat) (q_mn_0_notes : Nat) (q_mn_0_futures : Nat) (q_mn_0_order : Nat) (q_mn_0_clapRow : Nat) (u_mn : St) (a_ml : Nat → Nat) (q_ml_0_script : Nat) (u_ml : St) (a_nm : Nat → Nat) (u_nm : St) (a_now : Nat → Nat) (u_now : St) (a_trial : Nat → Nat) (u_trial : St) (a_T : Nat → Nat → Nat) (u_T : Nat → St) (x_1 : Int32) (x_2 : Int32) (x_3 : Int32) (res : Int32 × St × St × St × (Nat → St)) (hf : fX11_ahead u_mn u_ml u_nm u_now u_trial u_T x_1 x_2 x_3 = some res) : MX l E yX11_ahead cX11_ahead 4 (some .int) (rmm 6 155) [wMain E a_mn q_mn_0_tape (a_T 0 0) q_mn_0_spare q_mn_0_reader (a_ml 0) (a_now 0) (a_trial 0) q_mn_0_image q_mn_0_steps q_mn_0_notes q_mn_0_futures q_mn_0_order q_mn_0_clapRow u_mn, wMill E a_ml (a_nm 0) q_ml_0_script u_ml, wLArr E 7 a_nm u_nm, wHall E a_now u_now, wHall E a_trial u_trial, wScript E (a_T 0) (a_T 1 0) (a_T 2 0) (a_T 3 0) (a_T 4 0) (a_T 5 0) (a_T 6 0) (a_T 7 0) (u_T 0), wRoll E 6 (a_T 1) (u_T 1), wRoll E 6 (a_T 2) (u_T 2), wRoll E 4 (a_T 3) (u_T 3), wRoll E 14 (a_T 4) (u_T 4), wFormula E (a_T 5) (u_T 5), wFormula E (a_T 6) (u_T 6), wFormula E (a_T 7) (u_T 7)] (fun q => [wMain E a_mn q_mn_0_tape (a_T 0 0) q_mn_0_spare q_mn_0_reader (a_ml 0) (a_now 0) (a_trial 0) q_mn_0_image q_mn_0_steps q_mn_0_notes q_mn_0_futures q_mn_0_order q_mn_0_clapRow u_mn, wMill E a_ml (a_nm 0) (q 0) res.2.1, wLArr E 7 a_nm res.2.2.1, wHall E a_now u_now, wHall E a_trial res.2.2.2.1, wScript E (a_T 0) (a_T 1 0) (a_T 2 0) (a_T 3 0) (a_T 4 0) (a_T 5 0) (a_T 6 0) (a_T 7 0) (res.2.2.2.2 0), wRoll E 6 (a_T 1) (res.2.2.2.2 1), wRoll E 6 (a_T 2) (res.2.2.2.2 2), wRoll E 4 (a_T 3) (res.2.2.2.2 3), wRoll E 14 (a_T 4) (res.2.2.2.2 4), wFormula E (a_T 5) (res.2.2.2.2 5), wFormula E (a_T 6) (res.2.2.2.2 6), wFormula E (a_T 7) (res.2.2.2.2 7)]) [.ref (a_mn 0), .int x_1, .int x_2, .int x_3] (some (.int res.1)) := by
  unfold fX11_ahead at hf
  refine MX.ofI rfl (by decide) (Nat.le_of_ble_eq_true rfl) ?_
  intro p e R s m args below meth c ls Q ad H hRf hRl C hB hD hK hN hl hQ
  generalize hlocs : ([] : List Loc) = locs at hB ⊢
  clear hlocs
  have hx := C.1
  have hb := C.2.1
  have hl : lv_has ls 4 [(0, .ref (a_mn 0)), (1, .int x_1), (2, .int x_2), (3, .int x_3)] := hl
  refine lv_iload_n hx hb dX11_ahead_0 rfl (lv_at hl 1 rfl) ?_
  refine lv_if_lt (tgt := 20) hx hb dX11_ahead_1 (by decide) (fun c1 => ?_) (fun c1 => ?_)
  · have hf := (if_pos c1).symm.trans hf
    refine lv_ldc (v := -2147483648) hx hb C.2.2.2.1 (C.2.2.2.2 _ mw_828) dX11_ahead_20 ?_
    have hf := Option.some.inj hf
    subst hf
    exact hQ _ _ H locs (fun j => if j = 0 then q_ml_0_script else 0) hB dX11_ahead_22
  · have hf := (if_neg c1).symm.trans hf
    refine lv_iload_n hx hb dX11_ahead_4 rfl (lv_at hl 1 rfl) ?_
    refine lv_sipush (v := 200) hx hb dX11_ahead_5 (by decide) ?_
    refine lv_icmp_gt (tgt := 20) hx hb dX11_ahead_8 (by decide) (fun c2 => ?_) (fun c2 => ?_)
    · have hf := (if_pos c2).symm.trans hf
      refine lv_ldc (v := -2147483648) hx hb C.2.2.2.1 (C.2.2.2.2 _ mw_828) dX11_ahead_20 ?_
      have hf := Option.some.inj hf
      subst hf
      exact hQ _ _ H locs (fun j => if j = 0 then q_ml_0_script else 0) hB dX11_ahead_22
    · have hf := (if_neg c2).symm.trans hf
      refine lv_aload_n hx hb dX11_ahead_11 rfl (lv_at hl 0 rfl) ?_
      refine lv_iload_n hx hb dX11_ahead_12 rfl (lv_at hl 2 rfl) ?_
      refine lv_iload_n hx hb dX11_ahead_13 rfl (lv_at hl 3 rfl) ?_
      refine cxVP (As := [.int x_2, .int x_3]) (rest := []) (st1 := [.int (fX11_canBeAhead u_mn u_T x_2 x_3)]) C hK (tX11_canBeAhead l E a_mn q_mn_0_tape q_mn_0_spare q_mn_0_reader (a_ml 0) (a_now 0) (a_trial 0) q_mn_0_image q_mn_0_steps q_mn_0_notes q_mn_0_futures q_mn_0_order q_mn_0_clapRow u_mn a_T u_T x_2 x_3 (fX11_canBeAhead u_mn u_T x_2 x_3) rfl) lk_X11_288 ⟨rfl, rfl⟩ (by rw [hRf, hRl]; decide) ⟨Nat.zero_le _, Nat.zero_le _⟩ (PB.sub hB.1 [0, 5, 6, 7, 8, 9, 10, 11, 12] rfl) (hB.old hD hN) (Nat.le_trans hN hB.2.2.1) (rc_X11 hK (hB.1 0 _ rfl)) rfl hl.1 rfl rfl (Nat.le_of_ble_eq_true rfl) dX11_ahead_14 ?_
      refine lv_if_ne (tgt := 23) hx hb dX11_ahead_17 (by decide) (fun c3 => ?_) (fun c3 => ?_)
      · have hf := (if_neg c3).symm.trans hf
        refine lv_aload_n hx hb dX11_ahead_23 rfl (lv_at hl 0 rfl) ?_
        obtain ⟨r4, hr4, hf⟩ := ox_bind hf
        refine cxVX (bs1 := (fun q => [wMain E a_mn q_mn_0_tape (a_T 0 0) q_mn_0_spare q_mn_0_reader (a_ml 0) (a_now 0) (a_trial 0) q_mn_0_image q_mn_0_steps q_mn_0_notes q_mn_0_futures q_mn_0_order q_mn_0_clapRow u_mn, wMill E a_ml (a_nm 0) (a_T 0 0) r4.1, wLArr E 7 a_nm u_nm, wHall E a_now u_now, wHall E a_trial r4.2, wScript E (a_T 0) (a_T 1 0) (a_T 2 0) (a_T 3 0) (a_T 4 0) (a_T 5 0) (a_T 6 0) (a_T 7 0) (u_T 0), wRoll E 6 (a_T 1) (u_T 1), wRoll E 6 (a_T 2) (u_T 2), wRoll E 4 (a_T 3) (u_T 3), wRoll E 14 (a_T 4) (u_T 4), wFormula E (a_T 5) (u_T 5), wFormula E (a_T 6) (u_T 6), wFormula E (a_T 7) (u_T 7)])) (As := []) (rest := []) (st1 := []) C hK (tX11_startTrial l E a_mn q_mn_0_tape (a_T 0 0) q_mn_0_spare q_mn_0_reader q_mn_0_image q_mn_0_steps q_mn_0_notes q_mn_0_futures q_mn_0_order q_mn_0_clapRow u_mn a_ml (a_nm 0) q_ml_0_script u_ml a_now u_now a_trial u_trial r4 hr4) lk_X11_291 (by rw [hRf, hRl]; decide) ⟨Nat.zero_le _, Nat.zero_le _⟩ hB hD hN [0, 1, 3, 4] (by decide) rfl (fun _ => rfl) (fun _ => rfl) (rc_X11 hK (hB.1 0 _ rfl)) rfl hl.1 rfl rfl (Nat.le_of_ble_eq_true rfl) dX11_ahead_24 (fun H locs q5 hB => ?_)
        have hB : WB E ad s.heap [wMain E a_mn q_mn_0_tape (a_T 0 0) q_mn_0_spare q_mn_0_reader (a_ml 0) (a_now 0) (a_trial 0) q_mn_0_image q_mn_0_steps q_mn_0_notes q_mn_0_futures q_mn_0_order q_mn_0_clapRow u_mn, wMill E a_ml (a_nm 0) (a_T 0 0) r4.1, wLArr E 7 a_nm u_nm, wHall E a_now u_now, wHall E a_trial r4.2, wScript E (a_T 0) (a_T 1 0) (a_T 2 0) (a_T 3 0) (a_T 4 0) (a_T 5 0) (a_T 6 0) (a_T 7 0) (u_T 0), wRoll E 6 (a_T 1) (u_T 1), wRoll E 6 (a_T 2) (u_T 2), wRoll E 4 (a_T 3) (u_T 3), wRoll E 14 (a_T 4) (u_T 4), wFormula E (a_T 5) (u_T 5), wFormula E (a_T 6) (u_T 6), wFormula E (a_T 7) (u_T 7)] H locs := hB
        refine lv_aload_n hx hb dX11_ahead_27 rfl (lv_at hl 0 rfl) ?_
        refine gf_X11_X11_mill C hK (hB.1 0 _ rfl) dX11_ahead_28 ?_
        refine lv_aload_n hx hb dX11_ahead_31 rfl (lv_at hl 0 rfl) ?_
        refine gf_X11_X11_trial C hK (hB.1 0 _ rfl) dX11_ahead_32 ?_
        refine lv_iload_n hx hb dX11_ahead_35 rfl (lv_at hl 1 rfl) ?_
        obtain ⟨r6, hr6, hf⟩ := ox_bind hf
        refine cxVX (bs1 := (fun q => [wMain E a_mn q_mn_0_tape (a_T 0 0) q_mn_0_spare q_mn_0_reader (a_ml 0) (a_now 0) (a_trial 0) q_mn_0_image q_mn_0_steps q_mn_0_notes q_mn_0_futures q_mn_0_order q_mn_0_clapRow u_mn, wMill E a_ml (a_nm 0) (a_T 0 0) r4.1, wLArr E 7 a_nm r6.1, wHall E a_now u_now, wHall E a_trial r6.2.2, wScript E (a_T 0) (a_T 1 0) (a_T 2 0) (a_T 3 0) (a_T 4 0) (a_T 5 0) (a_T 6 0) (a_T 7 0) (r6.2.1 0), wRoll E 6 (a_T 1) (r6.2.1 1), wRoll E 6 (a_T 2) (r6.2.1 2), wRoll E 4 (a_T 3) (r6.2.1 3), wRoll E 14 (a_T 4) (r6.2.1 4), wFormula E (a_T 5) (r6.2.1 5), wFormula E (a_T 6) (r6.2.1 6), wFormula E (a_T 7) (r6.2.1 7)])) (As := [.ref (a_trial 0), .int x_1]) (rest := []) (st1 := []) C hK (tX2_pass l E a_ml (r4.1) 7 a_nm u_nm a_T u_T a_trial (r4.2) x_1 r6 hr6) lk_X11_277 (by rw [hRf, hRl]; decide) ⟨Nat.zero_le _, Nat.zero_le _⟩ hB hD hN [1, 2, 5, 6, 7, 8, 9, 10, 11, 12, 4] (by decide) rfl (fun _ => rfl) (fun _ => rfl) (rc_X2 hK (hB.1 1 _ rfl)) rfl hl.1 rfl rfl (Nat.le_of_ble_eq_true rfl) dX11_ahead_36 (fun H locs q7 hB => ?_)
        have hB : WB E ad s.heap [wMain E a_mn q_mn_0_tape (a_T 0 0) q_mn_0_spare q_mn_0_reader (a_ml 0) (a_now 0) (a_trial 0) q_mn_0_image q_mn_0_steps q_mn_0_notes q_mn_0_futures q_mn_0_order q_mn_0_clapRow u_mn, wMill E a_ml (a_nm 0) (a_T 0 0) r4.1, wLArr E 7 a_nm r6.1, wHall E a_now u_now, wHall E a_trial r6.2.2, wScript E (a_T 0) (a_T 1 0) (a_T 2 0) (a_T 3 0) (a_T 4 0) (a_T 5 0) (a_T 6 0) (a_T 7 0) (r6.2.1 0), wRoll E 6 (a_T 1) (r6.2.1 1), wRoll E 6 (a_T 2) (r6.2.1 2), wRoll E 4 (a_T 3) (r6.2.1 3), wRoll E 14 (a_T 4) (r6.2.1 4), wFormula E (a_T 5) (r6.2.1 5), wFormula E (a_T 6) (r6.2.1 6), wFormula E (a_T 7) (r6.2.1 7)] H locs := hB
        refine lv_iload_n hx hb dX11_ahead_39 rfl (lv_at hl 2 rfl) ?_
        by_cases c8 : x_2 = 0
        · have hf := (if_pos c8).symm.trans hf
          refine lv_tableIn hx hb dX11_ahead_40 (by rw [c8]; decide) (by rw [c8]; decide) (off := 32) (by rw [c8]; decide) (tgt := 72) (by decide) ?_
          refine lv_aload_n hx hb dX11_ahead_72 rfl (lv_at hl 0 rfl) ?_
          refine gf_X11_X11_trial C hK (hB.1 0 _ rfl) dX11_ahead_73 ?_
          refine gf_X11_X1_groundInAll C hK (hB.1 4 _ rfl) dX11_ahead_76 ?_
          have hf := Option.some.inj hf
          subst hf
          exact hQ _ _ H locs (fun j => if j = 0 then (a_T 0 0) else 0) hB dX11_ahead_79
        have hf := (if_neg c8).symm.trans hf
        by_cases c9 : x_2 = 1
        · have hf := (if_pos c9).symm.trans hf
          refine lv_tableIn hx hb dX11_ahead_40 (by rw [c9]; decide) (by rw [c9]; decide) (off := 40) (by rw [c9]; decide) (tgt := 80) (by decide) ?_
          refine lv_aload_n hx hb dX11_ahead_80 rfl (lv_at hl 0 rfl) ?_
          refine gf_X11_X11_trial C hK (hB.1 0 _ rfl) dX11_ahead_81 ?_
          refine gf_X11_X1_ground C hK (hB.1 4 _ rfl) dX11_ahead_84 ?_
          refine lv_iload_n hx hb dX11_ahead_87 rfl (lv_at hl 3 rfl) ?_
          obtain ⟨hn10, hf⟩ := ox_chk hf
          refine ld_X1_ground C hK (hB.1 4 _ rfl) hn10 rfl dX11_ahead_88 ?_
          have hf := Option.some.inj hf
          subst hf
          exact hQ _ _ H locs (fun j => if j = 0 then (a_T 0 0) else 0) hB dX11_ahead_89
        have hf := (if_neg c9).symm.trans hf
        by_cases c11 : x_2 = 2
        · have hf := (if_pos c11).symm.trans hf
          refine lv_tableIn hx hb dX11_ahead_40 (by rw [c11]; decide) (by rw [c11]; decide) (off := 50) (by rw [c11]; decide) (tgt := 90) (by decide) ?_
          refine lv_aload_n hx hb dX11_ahead_90 rfl (lv_at hl 0 rfl) ?_
          refine gf_X11_X11_trial C hK (hB.1 0 _ rfl) dX11_ahead_91 ?_
          refine gf_X11_X1_speed C hK (hB.1 4 _ rfl) dX11_ahead_94 ?_
          have hf := Option.some.inj hf
          subst hf
          exact hQ _ _ H locs (fun j => if j = 0 then (a_T 0 0) else 0) hB dX11_ahead_97
        have hf := (if_neg c11).symm.trans hf
        by_cases c12 : x_2 = 3
        · have hf := (if_pos c12).symm.trans hf
          refine lv_tableIn hx hb dX11_ahead_40 (by rw [c12]; decide) (by rw [c12]; decide) (off := 58) (by rw [c12]; decide) (tgt := 98) (by decide) ?_
          refine lv_aload_n hx hb dX11_ahead_98 rfl (lv_at hl 0 rfl) ?_
          refine gf_X11_X11_trial C hK (hB.1 0 _ rfl) dX11_ahead_99 ?_
          refine gf_X11_X1_refused C hK (hB.1 4 _ rfl) dX11_ahead_102 ?_
          refine lv_aload_n hx hb dX11_ahead_105 rfl (lv_at hl 0 rfl) ?_
          refine gf_X11_X11_now C hK (hB.1 0 _ rfl) dX11_ahead_106 ?_
          refine gf_X11_X1_refused C hK (hB.1 3 _ rfl) dX11_ahead_109 ?_
          refine lv_isub hx hb dX11_ahead_112 ?_
          have hf := Option.some.inj hf
          subst hf
          exact hQ _ _ H locs (fun j => if j = 0 then (a_T 0 0) else 0) hB dX11_ahead_113
        have hf := (if_neg c12).symm.trans hf
        have hd14 : W p l e R s m args below meth c H locs 0 0 Q (F0 m 114 ls []) := by
          refine lv_aload_n hx hb dX11_ahead_114 rfl (lv_at hl 0 rfl) ?_
          refine gf_X11_X11_trial C hK (hB.1 0 _ rfl) dX11_ahead_115 ?_
          refine gf_X11_X1_tired C hK (hB.1 4 _ rfl) dX11_ahead_118 ?_
          refine lv_iload_n hx hb dX11_ahead_121 rfl (lv_at hl 3 rfl) ?_
          obtain ⟨hn13, hf⟩ := ox_chk hf
          refine ld_X1_tired C hK (hB.1 4 _ rfl) hn13 rfl dX11_ahead_122 ?_
          have hf := Option.some.inj hf
          subst hf
          exact hQ _ _ H locs (fun j => if j = 0 then (a_T 0 0) else 0) hB dX11_ahead_123
        have nc8 := lv_neT c8 (show Int32.toInt 0 = 0 from rfl)
        have nc9 := lv_neT c9 (show Int32.toInt 1 = 1 from rfl)
        have nc11 := lv_neT c11 (show Int32.toInt 2 = 2 from rfl)
        have nc12 := lv_neT c12 (show Int32.toInt 3 = 3 from rfl)
        rcases (show Int32.toInt x_2 < 0 ∨ 3 < Int32.toInt x_2 by omega) with h | h
        · exact lv_tableOut hx hb dX11_ahead_40 (Or.inl h) (tgt := 114) (by decide) hd14
        · exact lv_tableOut hx hb dX11_ahead_40 (Or.inr h) (tgt := 114) (by decide) hd14
      · have hf := (if_pos c3).symm.trans hf
        refine lv_ldc (v := -2147483648) hx hb C.2.2.2.1 (C.2.2.2.2 _ mw_828) dX11_ahead_20 ?_
        have hf := Option.some.inj hf
        subst hf
        exact hQ _ _ H locs (fun j => if j = 0 then q_ml_0_script else 0) hB dX11_ahead_22
set_option maxHeartbeats 4000000 in
set_option maxRecDepth 20000 in
theorem tX11_flour (l : Launch) (E : Ev) (a_mn : Nat → Nat) (q_mn_0_tape : Nat) (q_mn_0_spare : Nat) (q_mn_0_reader : Nat) (q_mn_0_image : Nat) (q_mn_0_steps : Nat) (q_mn_0_notes : Nat) (q_mn_0_futures : Nat) (q_mn_0_order : Nat) (q_mn_0_clapRow : Nat) (u_mn : St) (a_ml : Nat → Nat) (q_ml_0_script : Nat) (u_ml : St) (a_nm : Nat → Nat) (u_nm : St) (a_now : Nat → Nat) (u_now : St) (a_trial : Nat → Nat) (u_trial : St) (a_T : Nat → Nat → Nat) (u_T : Nat → St) (x_1 : Int32) (res : Int32 × St × St × St × (Nat → St)) (hf : fX11_flour u_mn u_ml u_nm u_now u_trial u_T x_1 = some res) : MX l E yX11_flour cX11_flour 3 (some .int) (rmm 6 155) [wMain E a_mn q_mn_0_tape (a_T 0 0) q_mn_0_spare q_mn_0_reader (a_ml 0) (a_now 0) (a_trial 0) q_mn_0_image q_mn_0_steps q_mn_0_notes q_mn_0_futures q_mn_0_order q_mn_0_clapRow u_mn, wMill E a_ml (a_nm 0) q_ml_0_script u_ml, wLArr E 7 a_nm u_nm, wHall E a_now u_now, wHall E a_trial u_trial, wScript E (a_T 0) (a_T 1 0) (a_T 2 0) (a_T 3 0) (a_T 4 0) (a_T 5 0) (a_T 6 0) (a_T 7 0) (u_T 0), wRoll E 6 (a_T 1) (u_T 1), wRoll E 6 (a_T 2) (u_T 2), wRoll E 4 (a_T 3) (u_T 3), wRoll E 14 (a_T 4) (u_T 4), wFormula E (a_T 5) (u_T 5), wFormula E (a_T 6) (u_T 6), wFormula E (a_T 7) (u_T 7)] (fun q => [wMain E a_mn q_mn_0_tape (a_T 0 0) q_mn_0_spare q_mn_0_reader (a_ml 0) (a_now 0) (a_trial 0) q_mn_0_image q_mn_0_steps q_mn_0_notes q_mn_0_futures q_mn_0_order q_mn_0_clapRow u_mn, wMill E a_ml (a_nm 0) (q 0) res.2.1, wLArr E 7 a_nm res.2.2.1, wHall E a_now u_now, wHall E a_trial res.2.2.2.1, wScript E (a_T 0) (a_T 1 0) (a_T 2 0) (a_T 3 0) (a_T 4 0) (a_T 5 0) (a_T 6 0) (a_T 7 0) (res.2.2.2.2 0), wRoll E 6 (a_T 1) (res.2.2.2.2 1), wRoll E 6 (a_T 2) (res.2.2.2.2 2), wRoll E 4 (a_T 3) (res.2.2.2.2 3), wRoll E 14 (a_T 4) (res.2.2.2.2 4), wFormula E (a_T 5) (res.2.2.2.2 5), wFormula E (a_T 6) (res.2.2.2.2 6), wFormula E (a_T 7) (res.2.2.2.2 7)]) [.ref (a_mn 0), .int x_1] (some (.int res.1)) := by
  unfold fX11_flour at hf
  refine MX.ofI rfl (by decide) (Nat.le_of_ble_eq_true rfl) ?_
  intro p e R s m args below meth c ls Q ad H hRf hRl C hB hD hK hN hl hQ
  generalize hlocs : ([] : List Loc) = locs at hB ⊢
  clear hlocs
  have hx := C.1
  have hb := C.2.1
  have hl : lv_has ls 3 [(0, .ref (a_mn 0)), (1, .int x_1)] := hl
  refine lv_iload_n hx hb dX11_flour_0 rfl (lv_at hl 1 rfl) ?_
  refine lv_if_lt (tgt := 11) hx hb dX11_flour_1 (by decide) (fun c1 => ?_) (fun c1 => ?_)
  · have hf := (if_pos c1).symm.trans hf
    refine lv_iconst (v := (-1)) hx hb dX11_flour_11 (by decide) ?_
    have hf := Option.some.inj hf
    subst hf
    exact hQ _ _ H locs (fun j => if j = 0 then q_ml_0_script else 0) hB dX11_flour_12
  · have hf := (if_neg c1).symm.trans hf
    refine lv_iload_n hx hb dX11_flour_4 rfl (lv_at hl 1 rfl) ?_
    refine lv_sipush (v := 999) hx hb dX11_flour_5 (by decide) ?_
    refine lv_icmp_le (tgt := 13) hx hb dX11_flour_8 (by decide) (fun c2 => ?_) (fun c2 => ?_)
    · have hf := (if_pos c2).symm.trans hf
      refine lv_aload_n hx hb dX11_flour_13 rfl (lv_at hl 0 rfl) ?_
      obtain ⟨r3, hr3, hf⟩ := ox_bind hf
      refine cxVX (bs1 := (fun q => [wMain E a_mn q_mn_0_tape (a_T 0 0) q_mn_0_spare q_mn_0_reader (a_ml 0) (a_now 0) (a_trial 0) q_mn_0_image q_mn_0_steps q_mn_0_notes q_mn_0_futures q_mn_0_order q_mn_0_clapRow u_mn, wMill E a_ml (a_nm 0) (a_T 0 0) r3.1, wLArr E 7 a_nm u_nm, wHall E a_now u_now, wHall E a_trial r3.2, wScript E (a_T 0) (a_T 1 0) (a_T 2 0) (a_T 3 0) (a_T 4 0) (a_T 5 0) (a_T 6 0) (a_T 7 0) (u_T 0), wRoll E 6 (a_T 1) (u_T 1), wRoll E 6 (a_T 2) (u_T 2), wRoll E 4 (a_T 3) (u_T 3), wRoll E 14 (a_T 4) (u_T 4), wFormula E (a_T 5) (u_T 5), wFormula E (a_T 6) (u_T 6), wFormula E (a_T 7) (u_T 7)])) (As := []) (rest := []) (st1 := []) C hK (tX11_startTrial l E a_mn q_mn_0_tape (a_T 0 0) q_mn_0_spare q_mn_0_reader q_mn_0_image q_mn_0_steps q_mn_0_notes q_mn_0_futures q_mn_0_order q_mn_0_clapRow u_mn a_ml (a_nm 0) q_ml_0_script u_ml a_now u_now a_trial u_trial r3 hr3) lk_X11_291 (by rw [hRf, hRl]; decide) ⟨Nat.zero_le _, Nat.zero_le _⟩ hB hD hN [0, 1, 3, 4] (by decide) rfl (fun _ => rfl) (fun _ => rfl) (rc_X11 hK (hB.1 0 _ rfl)) rfl hl.1 rfl rfl (Nat.le_of_ble_eq_true rfl) dX11_flour_14 (fun H locs q4 hB => ?_)
      have hB : WB E ad s.heap [wMain E a_mn q_mn_0_tape (a_T 0 0) q_mn_0_spare q_mn_0_reader (a_ml 0) (a_now 0) (a_trial 0) q_mn_0_image q_mn_0_steps q_mn_0_notes q_mn_0_futures q_mn_0_order q_mn_0_clapRow u_mn, wMill E a_ml (a_nm 0) (a_T 0 0) r3.1, wLArr E 7 a_nm u_nm, wHall E a_now u_now, wHall E a_trial r3.2, wScript E (a_T 0) (a_T 1 0) (a_T 2 0) (a_T 3 0) (a_T 4 0) (a_T 5 0) (a_T 6 0) (a_T 7 0) (u_T 0), wRoll E 6 (a_T 1) (u_T 1), wRoll E 6 (a_T 2) (u_T 2), wRoll E 4 (a_T 3) (u_T 3), wRoll E 14 (a_T 4) (u_T 4), wFormula E (a_T 5) (u_T 5), wFormula E (a_T 6) (u_T 6), wFormula E (a_T 7) (u_T 7)] H locs := hB
      refine lv_iconst (v := 0) hx hb dX11_flour_17 (by decide) ?_
      refine lv_istore_n (lv' := [(2, .int (0 : Int32)), (0, .ref (a_mn 0)), (1, .int x_1)]) hx hb dX11_flour_18 rfl hl (by decide) rfl (fun ls hl => ?_)
      obtain ⟨X1, hX1, hf⟩ := ox_bind hf
      have hexit1 : ∀ y14, .inl y14 = X1 → ∀ (ls : Array Slot) (H : Heap) (locs : List Loc), lv_has ls 3 [] → WB E ad s.heap [wMain E a_mn q_mn_0_tape (a_T 0 0) q_mn_0_spare q_mn_0_reader (a_ml 0) (a_now 0) (a_trial 0) q_mn_0_image q_mn_0_steps q_mn_0_notes q_mn_0_futures q_mn_0_order q_mn_0_clapRow u_mn, wMill E a_ml (a_nm 0) (a_T 0 0) r3.1, wLArr E 7 a_nm y14.1, wHall E a_now u_now, wHall E a_trial y14.2.1, wScript E (a_T 0) (a_T 1 0) (a_T 2 0) (a_T 3 0) (a_T 4 0) (a_T 5 0) (a_T 6 0) (a_T 7 0) (y14.2.2 0), wRoll E 6 (a_T 1) (y14.2.2 1), wRoll E 6 (a_T 2) (y14.2.2 2), wRoll E 4 (a_T 3) (y14.2.2 3), wRoll E 14 (a_T 4) (y14.2.2 4), wFormula E (a_T 5) (y14.2.2 5), wFormula E (a_T 6) (y14.2.2 6), wFormula E (a_T 7) (y14.2.2 7)] H locs → W p l e R s m args below meth c H locs 0 0 Q (F0 m 57 ls []) := by
        intro y14 hy ls H locs hl hB
        subst hy
        have hf := ox_inl hf
        refine lv_bipush (v := (-2)) hx hb dX11_flour_57 (by decide) ?_
        have hf := Option.some.inj hf
        subst hf
        exact hQ _ _ H locs (fun j => if j = 0 then (a_T 0 0) else 0) hB dX11_flour_59
      have hret1 : ∀ r, .inr r = X1 → r = res := by
        intro r hr
        subst hr
        exact Option.some.inj (ox_inr hf)
      have hloop1 : ∀ (nf : Nat) (x5 : Int32) (u6 : St) (u7 : St) (u8 : Nat → St) (ls : Array Slot) (H : Heap) (locs : List Loc), lv_has ls 3 [(0, .ref (a_mn 0)), (1, .int x_1), (2, .int x5)] → WB E ad s.heap [wMain E a_mn q_mn_0_tape (a_T 0 0) q_mn_0_spare q_mn_0_reader (a_ml 0) (a_now 0) (a_trial 0) q_mn_0_image q_mn_0_steps q_mn_0_notes q_mn_0_futures q_mn_0_order q_mn_0_clapRow u_mn, wMill E a_ml (a_nm 0) (a_T 0 0) r3.1, wLArr E 7 a_nm u6, wHall E a_now u_now, wHall E a_trial u7, wScript E (a_T 0) (a_T 1 0) (a_T 2 0) (a_T 3 0) (a_T 4 0) (a_T 5 0) (a_T 6 0) (a_T 7 0) (u8 0), wRoll E 6 (a_T 1) (u8 1), wRoll E 6 (a_T 2) (u8 2), wRoll E 4 (a_T 3) (u8 3), wRoll E 14 (a_T 4) (u8 4), wFormula E (a_T 5) (u8 5), wFormula E (a_T 6) (u8 6), wFormula E (a_T 7) (u8 7)] H locs → fX11_flour_L1 x_1 r3 nf x5 u6 u7 u8 = some X1 → W p l e R s m args below meth c H locs 0 0 Q (F0 m 19 ls []) := by
        intro nf
        induction nf with
        | zero =>
          intro x5 u6 u7 u8 ls H locs hl hB hf
          simp [fX11_flour_L1] at hf
        | succ nf ih =>
          intro x5 u6 u7 u8 ls H locs hl hB hf
          rw [fX11_flour_L1] at hf
          refine lv_iload_n hx hb dX11_flour_19 rfl (lv_at hl 2 rfl) ?_
          refine lv_sipush (v := 199) hx hb dX11_flour_20 (by decide) ?_
          refine lv_icmp_gt (tgt := 57) hx hb dX11_flour_23 (by decide) (fun c9 => ?_) (fun c9 => ?_)
          · have hf := (if_pos c9).symm.trans hf
            exact hexit1 _ (Option.some.inj hf) ls H locs (lv_sub hl [] rfl) hB
          · have hf := (if_neg c9).symm.trans hf
            refine lv_aload_n hx hb dX11_flour_26 rfl (lv_at hl 0 rfl) ?_
            refine gf_X11_X11_trial C hK (hB.1 0 _ rfl) dX11_flour_27 ?_
            refine gf_X11_X1_groundInAll C hK (hB.1 4 _ rfl) dX11_flour_30 ?_
            refine lv_iload_n hx hb dX11_flour_33 rfl (lv_at hl 1 rfl) ?_
            refine lv_icmp_lt (tgt := 39) hx hb dX11_flour_34 (by decide) (fun c10 => ?_) (fun c10 => ?_)
            · have hf := (if_pos c10).symm.trans hf
              refine lv_aload_n hx hb dX11_flour_39 rfl (lv_at hl 0 rfl) ?_
              refine gf_X11_X11_mill C hK (hB.1 0 _ rfl) dX11_flour_40 ?_
              refine lv_aload_n hx hb dX11_flour_43 rfl (lv_at hl 0 rfl) ?_
              refine gf_X11_X11_trial C hK (hB.1 0 _ rfl) dX11_flour_44 ?_
              refine lv_iconst (v := 1) hx hb dX11_flour_47 (by decide) ?_
              obtain ⟨r11, hr11, hf⟩ := ox_bind hf
              refine cxVX (bs1 := (fun q => [wMain E a_mn q_mn_0_tape (a_T 0 0) q_mn_0_spare q_mn_0_reader (a_ml 0) (a_now 0) (a_trial 0) q_mn_0_image q_mn_0_steps q_mn_0_notes q_mn_0_futures q_mn_0_order q_mn_0_clapRow u_mn, wMill E a_ml (a_nm 0) (a_T 0 0) r3.1, wLArr E 7 a_nm r11.1, wHall E a_now u_now, wHall E a_trial r11.2.2, wScript E (a_T 0) (a_T 1 0) (a_T 2 0) (a_T 3 0) (a_T 4 0) (a_T 5 0) (a_T 6 0) (a_T 7 0) (r11.2.1 0), wRoll E 6 (a_T 1) (r11.2.1 1), wRoll E 6 (a_T 2) (r11.2.1 2), wRoll E 4 (a_T 3) (r11.2.1 3), wRoll E 14 (a_T 4) (r11.2.1 4), wFormula E (a_T 5) (r11.2.1 5), wFormula E (a_T 6) (r11.2.1 6), wFormula E (a_T 7) (r11.2.1 7)])) (As := [.ref (a_trial 0), .int (1 : Int32)]) (rest := []) (st1 := []) C hK (tX2_pass l E a_ml (r3.1) 7 a_nm u6 a_T u8 a_trial u7 (1 : Int32) r11 hr11) lk_X11_277 (by rw [hRf, hRl]; decide) ⟨Nat.zero_le _, Nat.zero_le _⟩ hB hD hN [1, 2, 5, 6, 7, 8, 9, 10, 11, 12, 4] (by decide) rfl (fun _ => rfl) (fun _ => rfl) (rc_X2 hK (hB.1 1 _ rfl)) rfl hl.1 rfl rfl (Nat.le_of_ble_eq_true rfl) dX11_flour_48 (fun H locs q12 hB => ?_)
              have hB : WB E ad s.heap [wMain E a_mn q_mn_0_tape (a_T 0 0) q_mn_0_spare q_mn_0_reader (a_ml 0) (a_now 0) (a_trial 0) q_mn_0_image q_mn_0_steps q_mn_0_notes q_mn_0_futures q_mn_0_order q_mn_0_clapRow u_mn, wMill E a_ml (a_nm 0) (a_T 0 0) r3.1, wLArr E 7 a_nm r11.1, wHall E a_now u_now, wHall E a_trial r11.2.2, wScript E (a_T 0) (a_T 1 0) (a_T 2 0) (a_T 3 0) (a_T 4 0) (a_T 5 0) (a_T 6 0) (a_T 7 0) (r11.2.1 0), wRoll E 6 (a_T 1) (r11.2.1 1), wRoll E 6 (a_T 2) (r11.2.1 2), wRoll E 4 (a_T 3) (r11.2.1 3), wRoll E 14 (a_T 4) (r11.2.1 4), wFormula E (a_T 5) (r11.2.1 5), wFormula E (a_T 6) (r11.2.1 6), wFormula E (a_T 7) (r11.2.1 7)] H locs := hB
              obtain ⟨x13, ex13⟩ : ∃ z : Int32, z = (x5 + 1) := ⟨_, rfl⟩
              have hf := ox_lt ex13 hf
              refine lv_iinc (v := x13) (lv' := [(2, .int x13), (0, .ref (a_mn 0)), (1, .int x_1)]) hx hb dX11_flour_51 hl (k := 2) rfl (by rw [ex13]; rfl) (by decide) rfl (fun ls hl => ?_)
              refine lv_goto (tgt := 19) hx hb dX11_flour_54 (by decide) ?_
              exact ih _ _ _ _ ls H locs (lv_sub hl [1, 2, 0] rfl) hB hf
            · have hf := (if_neg c10).symm.trans hf
              refine lv_iload_n hx hb dX11_flour_37 rfl (lv_at hl 2 rfl) ?_
              have hf := hret1 _ (Option.some.inj hf)
              subst hf
              exact hQ _ _ H locs (fun j => if j = 0 then (a_T 0 0) else 0) hB dX11_flour_38
      exact hloop1 fuel _ _ _ _ ls H locs (lv_sub hl [1, 2, 0] rfl) hB hX1
    · have hf := (if_neg c2).symm.trans hf
      refine lv_iconst (v := (-1)) hx hb dX11_flour_11 (by decide) ?_
      have hf := Option.some.inj hf
      subst hf
      exact hQ _ _ H locs (fun j => if j = 0 then q_ml_0_script else 0) hB dX11_flour_12
set_option maxHeartbeats 4000000 in
set_option maxRecDepth 20000 in
theorem tX11_groundByBill (l : Launch) (E : Ev) (a_mn : Nat → Nat) (q_mn_0_tape : Nat) (q_mn_0_spare : Nat) (q_mn_0_reader : Nat) (q_mn_0_image : Nat) (q_mn_0_steps : Nat) (q_mn_0_notes : Nat) (q_mn_0_futures : Nat) (q_mn_0_clapRow : Nat) (u_mn : St) (a_ml : Nat → Nat) (q_ml_0_script : Nat) (u_ml : St) (a_nm : Nat → Nat) (u_nm : St) (a_now : Nat → Nat) (u_now : St) (a_trial : Nat → Nat) (u_trial : St) (a_od : Nat → Nat) (u_od : St) (a_T : Nat → Nat → Nat) (u_T : Nat → St) (x_1 : Int32) (res : Int32 × St × St × St × (Nat → St)) (hf : fX11_groundByBill u_mn u_ml u_nm u_now u_trial u_od u_T x_1 = some res) : MX l E yX11_groundByBill cX11_groundByBill 4 (some .int) (rmm 6 155) [wMain E a_mn q_mn_0_tape (a_T 0 0) q_mn_0_spare q_mn_0_reader (a_ml 0) (a_now 0) (a_trial 0) q_mn_0_image q_mn_0_steps q_mn_0_notes q_mn_0_futures (a_od 0) q_mn_0_clapRow u_mn, wMill E a_ml (a_nm 0) q_ml_0_script u_ml, wLArr E 7 a_nm u_nm, wHall E a_now u_now, wHall E a_trial u_trial, wOrder E a_od u_od, wScript E (a_T 0) (a_T 1 0) (a_T 2 0) (a_T 3 0) (a_T 4 0) (a_T 5 0) (a_T 6 0) (a_T 7 0) (u_T 0), wRoll E 6 (a_T 1) (u_T 1), wRoll E 6 (a_T 2) (u_T 2), wRoll E 4 (a_T 3) (u_T 3), wRoll E 14 (a_T 4) (u_T 4), wFormula E (a_T 5) (u_T 5), wFormula E (a_T 6) (u_T 6), wFormula E (a_T 7) (u_T 7)] (fun q => [wMain E a_mn q_mn_0_tape (a_T 0 0) q_mn_0_spare q_mn_0_reader (a_ml 0) (a_now 0) (a_trial 0) q_mn_0_image q_mn_0_steps q_mn_0_notes q_mn_0_futures (a_od 0) q_mn_0_clapRow u_mn, wMill E a_ml (a_nm 0) (a_T 0 0) res.2.1, wLArr E 7 a_nm res.2.2.1, wHall E a_now u_now, wHall E a_trial res.2.2.2.1, wOrder E a_od u_od, wScript E (a_T 0) (a_T 1 0) (a_T 2 0) (a_T 3 0) (a_T 4 0) (a_T 5 0) (a_T 6 0) (a_T 7 0) (res.2.2.2.2 0), wRoll E 6 (a_T 1) (res.2.2.2.2 1), wRoll E 6 (a_T 2) (res.2.2.2.2 2), wRoll E 4 (a_T 3) (res.2.2.2.2 3), wRoll E 14 (a_T 4) (res.2.2.2.2 4), wFormula E (a_T 5) (res.2.2.2.2 5), wFormula E (a_T 6) (res.2.2.2.2 6), wFormula E (a_T 7) (res.2.2.2.2 7)]) [.ref (a_mn 0), .int x_1] (some (.int res.1)) := by
  unfold fX11_groundByBill at hf
  refine MX.ofI rfl (by decide) (Nat.le_of_ble_eq_true rfl) ?_
  intro p e R s m args below meth c ls Q ad H hRf hRl C hB hD hK hN hl hQ
  generalize hlocs : ([] : List Loc) = locs at hB ⊢
  clear hlocs
  have hx := C.1
  have hb := C.2.1
  have hl : lv_has ls 4 [(0, .ref (a_mn 0)), (1, .int x_1)] := hl
  refine lv_aload_n hx hb dX11_groundByBill_0 rfl (lv_at hl 0 rfl) ?_
  obtain ⟨r1, hr1, hf⟩ := ox_bind hf
  refine cxVX (bs1 := (fun q => [wMain E a_mn q_mn_0_tape (a_T 0 0) q_mn_0_spare q_mn_0_reader (a_ml 0) (a_now 0) (a_trial 0) q_mn_0_image q_mn_0_steps q_mn_0_notes q_mn_0_futures (a_od 0) q_mn_0_clapRow u_mn, wMill E a_ml (a_nm 0) (a_T 0 0) r1.1, wLArr E 7 a_nm u_nm, wHall E a_now u_now, wHall E a_trial r1.2, wOrder E a_od u_od, wScript E (a_T 0) (a_T 1 0) (a_T 2 0) (a_T 3 0) (a_T 4 0) (a_T 5 0) (a_T 6 0) (a_T 7 0) (u_T 0), wRoll E 6 (a_T 1) (u_T 1), wRoll E 6 (a_T 2) (u_T 2), wRoll E 4 (a_T 3) (u_T 3), wRoll E 14 (a_T 4) (u_T 4), wFormula E (a_T 5) (u_T 5), wFormula E (a_T 6) (u_T 6), wFormula E (a_T 7) (u_T 7)])) (As := []) (rest := []) (st1 := []) C hK (tX11_startTrial l E a_mn q_mn_0_tape (a_T 0 0) q_mn_0_spare q_mn_0_reader q_mn_0_image q_mn_0_steps q_mn_0_notes q_mn_0_futures (a_od 0) q_mn_0_clapRow u_mn a_ml (a_nm 0) q_ml_0_script u_ml a_now u_now a_trial u_trial r1 hr1) lk_X11_291 (by rw [hRf, hRl]; decide) ⟨Nat.zero_le _, Nat.zero_le _⟩ hB hD hN [0, 1, 3, 4] (by decide) rfl (fun _ => rfl) (fun _ => rfl) (rc_X11 hK (hB.1 0 _ rfl)) rfl hl.1 rfl rfl (Nat.le_of_ble_eq_true rfl) dX11_groundByBill_1 (fun H locs q2 hB => ?_)
  have hB : WB E ad s.heap [wMain E a_mn q_mn_0_tape (a_T 0 0) q_mn_0_spare q_mn_0_reader (a_ml 0) (a_now 0) (a_trial 0) q_mn_0_image q_mn_0_steps q_mn_0_notes q_mn_0_futures (a_od 0) q_mn_0_clapRow u_mn, wMill E a_ml (a_nm 0) (a_T 0 0) r1.1, wLArr E 7 a_nm u_nm, wHall E a_now u_now, wHall E a_trial r1.2, wOrder E a_od u_od, wScript E (a_T 0) (a_T 1 0) (a_T 2 0) (a_T 3 0) (a_T 4 0) (a_T 5 0) (a_T 6 0) (a_T 7 0) (u_T 0), wRoll E 6 (a_T 1) (u_T 1), wRoll E 6 (a_T 2) (u_T 2), wRoll E 4 (a_T 3) (u_T 3), wRoll E 14 (a_T 4) (u_T 4), wFormula E (a_T 5) (u_T 5), wFormula E (a_T 6) (u_T 6), wFormula E (a_T 7) (u_T 7)] H locs := hB
  refine lv_aload_n hx hb dX11_groundByBill_4 rfl (lv_at hl 0 rfl) ?_
  refine gf_X11_X11_mill C hK (hB.1 0 _ rfl) dX11_groundByBill_5 ?_
  refine lv_iconst (v := 0) hx hb dX11_groundByBill_8 (by decide) ?_
  refine pf_X11_X2_withShows C hK hB hD 1 rfl (by decide) dX11_groundByBill_9 (fun H locs u3 eu3 hB => ?_)
  have hf := ox_lt eu3 hf
  have hB : WB E ad s.heap [wMain E a_mn q_mn_0_tape (a_T 0 0) q_mn_0_spare q_mn_0_reader (a_ml 0) (a_now 0) (a_trial 0) q_mn_0_image q_mn_0_steps q_mn_0_notes q_mn_0_futures (a_od 0) q_mn_0_clapRow u_mn, wMill E a_ml (a_nm 0) (a_T 0 0) u3, wLArr E 7 a_nm u_nm, wHall E a_now u_now, wHall E a_trial r1.2, wOrder E a_od u_od, wScript E (a_T 0) (a_T 1 0) (a_T 2 0) (a_T 3 0) (a_T 4 0) (a_T 5 0) (a_T 6 0) (a_T 7 0) (u_T 0), wRoll E 6 (a_T 1) (u_T 1), wRoll E 6 (a_T 2) (u_T 2), wRoll E 4 (a_T 3) (u_T 3), wRoll E 14 (a_T 4) (u_T 4), wFormula E (a_T 5) (u_T 5), wFormula E (a_T 6) (u_T 6), wFormula E (a_T 7) (u_T 7)] H locs := hB
  refine lv_iconst (v := 0) hx hb dX11_groundByBill_12 (by decide) ?_
  refine lv_istore_n (lv' := [(2, .int (0 : Int32)), (0, .ref (a_mn 0)), (1, .int x_1)]) hx hb dX11_groundByBill_13 rfl hl (by decide) rfl (fun ls hl => ?_)
  obtain ⟨X1, hX1, hf⟩ := ox_bind hf
  have hexit1 : ∀ y18, y18 = X1 → ∀ (ls : Array Slot) (H : Heap) (locs : List Loc), lv_has ls 4 [(0, .ref (a_mn 0))] → WB E ad s.heap [wMain E a_mn q_mn_0_tape (a_T 0 0) q_mn_0_spare q_mn_0_reader (a_ml 0) (a_now 0) (a_trial 0) q_mn_0_image q_mn_0_steps q_mn_0_notes q_mn_0_futures (a_od 0) q_mn_0_clapRow u_mn, wMill E a_ml (a_nm 0) (a_T 0 0) u3, wLArr E 7 a_nm y18.1, wHall E a_now u_now, wHall E a_trial y18.2.1, wOrder E a_od u_od, wScript E (a_T 0) (a_T 1 0) (a_T 2 0) (a_T 3 0) (a_T 4 0) (a_T 5 0) (a_T 6 0) (a_T 7 0) (y18.2.2 0), wRoll E 6 (a_T 1) (y18.2.2 1), wRoll E 6 (a_T 2) (y18.2.2 2), wRoll E 4 (a_T 3) (y18.2.2 3), wRoll E 14 (a_T 4) (y18.2.2 4), wFormula E (a_T 5) (y18.2.2 5), wFormula E (a_T 6) (y18.2.2 6), wFormula E (a_T 7) (y18.2.2 7)] H locs → W p l e R s m args below meth c H locs 0 0 Q (F0 m 70 ls []) := by
    intro y18 hy ls H locs hl hB
    subst hy
    refine lv_aload_n hx hb dX11_groundByBill_70 rfl (lv_at hl 0 rfl) ?_
    refine gf_X11_X11_trial C hK (hB.1 0 _ rfl) dX11_groundByBill_71 ?_
    refine gf_X11_X1_groundInAll C hK (hB.1 4 _ rfl) dX11_groundByBill_74 ?_
    have hf := Option.some.inj hf
    subst hf
    exact hQ _ _ H locs (fun _ => 0) hB dX11_groundByBill_77
  have hloop1 : ∀ (nf : Nat) (x4 : Int32) (u5 : St) (u6 : St) (u7 : Nat → St) (ls : Array Slot) (H : Heap) (locs : List Loc), lv_has ls 4 [(0, .ref (a_mn 0)), (1, .int x_1), (2, .int x4)] → WB E ad s.heap [wMain E a_mn q_mn_0_tape (a_T 0 0) q_mn_0_spare q_mn_0_reader (a_ml 0) (a_now 0) (a_trial 0) q_mn_0_image q_mn_0_steps q_mn_0_notes q_mn_0_futures (a_od 0) q_mn_0_clapRow u_mn, wMill E a_ml (a_nm 0) (a_T 0 0) u3, wLArr E 7 a_nm u5, wHall E a_now u_now, wHall E a_trial u6, wOrder E a_od u_od, wScript E (a_T 0) (a_T 1 0) (a_T 2 0) (a_T 3 0) (a_T 4 0) (a_T 5 0) (a_T 6 0) (a_T 7 0) (u7 0), wRoll E 6 (a_T 1) (u7 1), wRoll E 6 (a_T 2) (u7 2), wRoll E 4 (a_T 3) (u7 3), wRoll E 14 (a_T 4) (u7 4), wFormula E (a_T 5) (u7 5), wFormula E (a_T 6) (u7 6), wFormula E (a_T 7) (u7 7)] H locs → fX11_groundByBill_L1 u_od x_1 u3 nf x4 u5 u6 u7 = some X1 → W p l e R s m args below meth c H locs 0 0 Q (F0 m 14 ls []) := by
    intro nf
    induction nf with
    | zero =>
      intro x4 u5 u6 u7 ls H locs hl hB hf
      simp [fX11_groundByBill_L1] at hf
    | succ nf ih =>
      intro x4 u5 u6 u7 ls H locs hl hB hf
      rw [fX11_groundByBill_L1] at hf
      refine lv_iload_n hx hb dX11_groundByBill_14 rfl (lv_at hl 2 rfl) ?_
      refine lv_iload_n hx hb dX11_groundByBill_15 rfl (lv_at hl 1 rfl) ?_
      refine lv_icmp_ge (tgt := 70) hx hb dX11_groundByBill_16 (by decide) (fun c8 => ?_) (fun c8 => ?_)
      · have hf := (if_pos c8).symm.trans hf
        exact hexit1 _ (Option.some.inj hf) ls H locs (lv_sub hl [0] rfl) hB
      · have hf := (if_neg c8).symm.trans hf
        refine lv_aload_n hx hb dX11_groundByBill_19 rfl (lv_at hl 0 rfl) ?_
        refine gf_X11_X11_order C hK (hB.1 0 _ rfl) dX11_groundByBill_20 ?_
        refine gf_X11_X4_places C hK (hB.1 5 _ rfl) dX11_groundByBill_23 ?_
        refine lv_iload_n hx hb dX11_groundByBill_26 rfl (lv_at hl 2 rfl) ?_
        obtain ⟨hn9, hf⟩ := ox_chk hf
        refine ld_X4_places C hK (hB.1 5 _ rfl) hn9 rfl dX11_groundByBill_27 ?_
        refine lv_topi (fun x10 ex10 => ?_)
        have hf := ox_lt ex10 hf
        refine lv_istore_n (lv' := [(3, .int x10), (0, .ref (a_mn 0)), (1, .int x_1), (2, .int x4)]) hx hb dX11_groundByBill_28 rfl hl (by decide) rfl (fun ls hl => ?_)
        refine lv_aload_n hx hb dX11_groundByBill_29 rfl (lv_at hl 1 rfl) ?_
        refine gf_X11_X11_trial C hK (hB.1 0 _ rfl) dX11_groundByBill_30 ?_
        refine lv_iload_n hx hb dX11_groundByBill_33 rfl (lv_at hl 0 rfl) ?_
        refine lv_aload_n hx hb dX11_groundByBill_34 rfl (lv_at hl 1 rfl) ?_
        refine gf_X11_X11_told C hK (hB.1 0 _ rfl) dX11_groundByBill_35 ?_
        refine lv_iload_n hx hb dX11_groundByBill_38 rfl (lv_at hl 0 rfl) ?_
        obtain ⟨r11, hr11, hf⟩ := ox_bind hf
        refine cxVP (As := [.int x10]) (rest := [.int x10, .ref (a_trial 0)]) (st1 := [.int r11, .int x10, .ref (a_trial 0)]) C hK (tX8_minutesOf l E a_T u7 x10 r11 hr11) lk_X11_177 ⟨rfl, rfl⟩ (by rw [hRf, hRl]; decide) ⟨Nat.zero_le _, Nat.zero_le _⟩ (PB.sub hB.1 [6, 7, 8, 9, 10, 11, 12, 13] rfl) (hB.old hD hN) (Nat.le_trans hN hB.2.2.1) (rc_X8 hK (hB.1 6 _ rfl)) rfl hl.1 rfl rfl (Nat.le_of_ble_eq_true rfl) dX11_groundByBill_39 ?_
        obtain ⟨r12, er12, hf⟩ := ox_ex hf
        refine cxVX (bs1 := (fun q => [wMain E a_mn q_mn_0_tape (a_T 0 0) q_mn_0_spare q_mn_0_reader (a_ml 0) (a_now 0) (a_trial 0) q_mn_0_image q_mn_0_steps q_mn_0_notes q_mn_0_futures (a_od 0) q_mn_0_clapRow u_mn, wMill E a_ml (a_nm 0) (a_T 0 0) u3, wLArr E 7 a_nm u5, wHall E a_now u_now, wHall E a_trial r12, wOrder E a_od u_od, wScript E (a_T 0) (a_T 1 0) (a_T 2 0) (a_T 3 0) (a_T 4 0) (a_T 5 0) (a_T 6 0) (a_T 7 0) (u7 0), wRoll E 6 (a_T 1) (u7 1), wRoll E 6 (a_T 2) (u7 2), wRoll E 4 (a_T 3) (u7 3), wRoll E 14 (a_T 4) (u7 4), wFormula E (a_T 5) (u7 5), wFormula E (a_T 6) (u7 6), wFormula E (a_T 7) (u7 7)])) (As := [.int x10, .int r11]) (rest := []) (st1 := []) C hK (tX1_putOn l E a_trial u6 x10 r11 r12 er12.symm) lk_X11_251 (by rw [hRf, hRl]; decide) ⟨Nat.zero_le _, Nat.zero_le _⟩ hB hD hN [4] (by decide) rfl (fun _ => rfl) (fun _ => rfl) (rc_X1 hK (hB.1 4 _ rfl)) rfl hl.1 rfl rfl (Nat.le_of_ble_eq_true rfl) dX11_groundByBill_42 (fun H locs q13 hB => ?_)
        have hB : WB E ad s.heap [wMain E a_mn q_mn_0_tape (a_T 0 0) q_mn_0_spare q_mn_0_reader (a_ml 0) (a_now 0) (a_trial 0) q_mn_0_image q_mn_0_steps q_mn_0_notes q_mn_0_futures (a_od 0) q_mn_0_clapRow u_mn, wMill E a_ml (a_nm 0) (a_T 0 0) u3, wLArr E 7 a_nm u5, wHall E a_now u_now, wHall E a_trial r12, wOrder E a_od u_od, wScript E (a_T 0) (a_T 1 0) (a_T 2 0) (a_T 3 0) (a_T 4 0) (a_T 5 0) (a_T 6 0) (a_T 7 0) (u7 0), wRoll E 6 (a_T 1) (u7 1), wRoll E 6 (a_T 2) (u7 2), wRoll E 4 (a_T 3) (u7 3), wRoll E 14 (a_T 4) (u7 4), wFormula E (a_T 5) (u7 5), wFormula E (a_T 6) (u7 6), wFormula E (a_T 7) (u7 7)] H locs := hB
        refine lv_aload_n hx hb dX11_groundByBill_45 rfl (lv_at hl 1 rfl) ?_
        refine gf_X11_X11_mill C hK (hB.1 0 _ rfl) dX11_groundByBill_46 ?_
        refine lv_aload_n hx hb dX11_groundByBill_49 rfl (lv_at hl 1 rfl) ?_
        refine gf_X11_X11_trial C hK (hB.1 0 _ rfl) dX11_groundByBill_50 ?_
        refine lv_aload_n hx hb dX11_groundByBill_53 rfl (lv_at hl 1 rfl) ?_
        refine gf_X11_X11_told C hK (hB.1 0 _ rfl) dX11_groundByBill_54 ?_
        refine lv_iload_n hx hb dX11_groundByBill_57 rfl (lv_at hl 0 rfl) ?_
        obtain ⟨r14, hr14, hf⟩ := ox_bind hf
        refine cxVP (As := [.int x10]) (rest := [.ref (a_trial 0), .ref (a_ml 0)]) (st1 := [.int r14, .ref (a_trial 0), .ref (a_ml 0)]) C hK (tX8_minutesOf l E a_T u7 x10 r14 hr14) lk_X11_177 ⟨rfl, rfl⟩ (by rw [hRf, hRl]; decide) ⟨Nat.zero_le _, Nat.zero_le _⟩ (PB.sub hB.1 [6, 7, 8, 9, 10, 11, 12, 13] rfl) (hB.old hD hN) (Nat.le_trans hN hB.2.2.1) (rc_X8 hK (hB.1 6 _ rfl)) rfl hl.1 rfl rfl (Nat.le_of_ble_eq_true rfl) dX11_groundByBill_58 ?_
        obtain ⟨r15, hr15, hf⟩ := ox_bind hf
        refine cxVX (bs1 := (fun q => [wMain E a_mn q_mn_0_tape (a_T 0 0) q_mn_0_spare q_mn_0_reader (a_ml 0) (a_now 0) (a_trial 0) q_mn_0_image q_mn_0_steps q_mn_0_notes q_mn_0_futures (a_od 0) q_mn_0_clapRow u_mn, wMill E a_ml (a_nm 0) (a_T 0 0) u3, wLArr E 7 a_nm r15.1, wHall E a_now u_now, wHall E a_trial r15.2.2, wOrder E a_od u_od, wScript E (a_T 0) (a_T 1 0) (a_T 2 0) (a_T 3 0) (a_T 4 0) (a_T 5 0) (a_T 6 0) (a_T 7 0) (r15.2.1 0), wRoll E 6 (a_T 1) (r15.2.1 1), wRoll E 6 (a_T 2) (r15.2.1 2), wRoll E 4 (a_T 3) (r15.2.1 3), wRoll E 14 (a_T 4) (r15.2.1 4), wFormula E (a_T 5) (r15.2.1 5), wFormula E (a_T 6) (r15.2.1 6), wFormula E (a_T 7) (r15.2.1 7)])) (As := [.ref (a_trial 0), .int r14]) (rest := []) (st1 := []) C hK (tX2_pass l E a_ml u3 7 a_nm u5 a_T u7 a_trial r12 r14 r15 hr15) lk_X11_277 (by rw [hRf, hRl]; decide) ⟨Nat.zero_le _, Nat.zero_le _⟩ hB hD hN [1, 2, 6, 7, 8, 9, 10, 11, 12, 13, 4] (by decide) rfl (fun _ => rfl) (fun _ => rfl) (rc_X2 hK (hB.1 1 _ rfl)) rfl hl.1 rfl rfl (Nat.le_of_ble_eq_true rfl) dX11_groundByBill_61 (fun H locs q16 hB => ?_)
        have hB : WB E ad s.heap [wMain E a_mn q_mn_0_tape (a_T 0 0) q_mn_0_spare q_mn_0_reader (a_ml 0) (a_now 0) (a_trial 0) q_mn_0_image q_mn_0_steps q_mn_0_notes q_mn_0_futures (a_od 0) q_mn_0_clapRow u_mn, wMill E a_ml (a_nm 0) (a_T 0 0) u3, wLArr E 7 a_nm r15.1, wHall E a_now u_now, wHall E a_trial r15.2.2, wOrder E a_od u_od, wScript E (a_T 0) (a_T 1 0) (a_T 2 0) (a_T 3 0) (a_T 4 0) (a_T 5 0) (a_T 6 0) (a_T 7 0) (r15.2.1 0), wRoll E 6 (a_T 1) (r15.2.1 1), wRoll E 6 (a_T 2) (r15.2.1 2), wRoll E 4 (a_T 3) (r15.2.1 3), wRoll E 14 (a_T 4) (r15.2.1 4), wFormula E (a_T 5) (r15.2.1 5), wFormula E (a_T 6) (r15.2.1 6), wFormula E (a_T 7) (r15.2.1 7)] H locs := hB
        obtain ⟨x17, ex17⟩ : ∃ z : Int32, z = (x4 + 1) := ⟨_, rfl⟩
        have hf := ox_lt ex17 hf
        refine lv_iinc (v := x17) (lv' := [(2, .int x17), (3, .int x10), (0, .ref (a_mn 0)), (1, .int x_1)]) hx hb dX11_groundByBill_64 hl (k := 3) rfl (by rw [ex17]; rfl) (by decide) rfl (fun ls hl => ?_)
        refine lv_goto (tgt := 14) hx hb dX11_groundByBill_67 (by decide) ?_
        exact ih _ _ _ _ ls H locs (lv_sub hl [2, 3, 0] rfl) hB hf
  exact hloop1 fuel _ _ _ _ ls H locs (lv_sub hl [1, 2, 0] rfl) hB hX1
set_option maxHeartbeats 4000000 in
set_option maxRecDepth 20000 in
theorem tX11_bill (l : Launch) (E : Ev) (a_mn : Nat → Nat) (q_mn_0_tape : Nat) (q_mn_0_spare : Nat) (q_mn_0_reader : Nat) (q_mn_0_image : Nat) (q_mn_0_steps : Nat) (q_mn_0_notes : Nat) (q_mn_0_futures : Nat) (q_mn_0_clapRow : Nat) (u_mn : St) (a_ml : Nat → Nat) (q_ml_0_script : Nat) (u_ml : St) (a_nm : Nat → Nat) (u_nm : St) (a_now : Nat → Nat) (u_now : St) (a_trial : Nat → Nat) (u_trial : St) (a_od : Nat → Nat) (u_od : St) (a_T : Nat → Nat → Nat) (u_T : Nat → St) (x_1 : Int32) (res : Int32 × St × St × St × St × (Nat → St)) (hf : fX11_bill u_mn u_ml u_nm u_now u_trial u_od u_T x_1 = some res) : MX l E yX11_bill cX11_bill 6 (some .int) (rmm 7 178) [wMain E a_mn q_mn_0_tape (a_T 0 0) q_mn_0_spare q_mn_0_reader (a_ml 0) (a_now 0) (a_trial 0) q_mn_0_image q_mn_0_steps q_mn_0_notes q_mn_0_futures (a_od 0) q_mn_0_clapRow u_mn, wMill E a_ml (a_nm 0) q_ml_0_script u_ml, wLArr E 7 a_nm u_nm, wHall E a_now u_now, wHall E a_trial u_trial, wOrder E a_od u_od, wScript E (a_T 0) (a_T 1 0) (a_T 2 0) (a_T 3 0) (a_T 4 0) (a_T 5 0) (a_T 6 0) (a_T 7 0) (u_T 0), wRoll E 6 (a_T 1) (u_T 1), wRoll E 6 (a_T 2) (u_T 2), wRoll E 4 (a_T 3) (u_T 3), wRoll E 14 (a_T 4) (u_T 4), wFormula E (a_T 5) (u_T 5), wFormula E (a_T 6) (u_T 6), wFormula E (a_T 7) (u_T 7)] (fun q => [wMain E a_mn q_mn_0_tape (a_T 0 0) q_mn_0_spare q_mn_0_reader (a_ml 0) (a_now 0) (a_trial 0) q_mn_0_image q_mn_0_steps q_mn_0_notes q_mn_0_futures (a_od 0) q_mn_0_clapRow u_mn, wMill E a_ml (a_nm 0) (q 0) res.2.1, wLArr E 7 a_nm res.2.2.1, wHall E a_now u_now, wHall E a_trial res.2.2.2.1, wOrder E a_od res.2.2.2.2.1, wScript E (a_T 0) (a_T 1 0) (a_T 2 0) (a_T 3 0) (a_T 4 0) (a_T 5 0) (a_T 6 0) (a_T 7 0) (res.2.2.2.2.2 0), wRoll E 6 (a_T 1) (res.2.2.2.2.2 1), wRoll E 6 (a_T 2) (res.2.2.2.2.2 2), wRoll E 4 (a_T 3) (res.2.2.2.2.2 3), wRoll E 14 (a_T 4) (res.2.2.2.2.2 4), wFormula E (a_T 5) (res.2.2.2.2.2 5), wFormula E (a_T 6) (res.2.2.2.2.2 6), wFormula E (a_T 7) (res.2.2.2.2.2 7)]) [.ref (a_mn 0), .int x_1] (some (.int res.1)) := by
  unfold fX11_bill at hf
  refine MX.ofI rfl (by decide) (Nat.le_of_ble_eq_true rfl) ?_
  intro p e R s m args below meth c ls Q ad H hRf hRl C hB hD hK hN hl hQ
  generalize hlocs : ([] : List Loc) = locs at hB ⊢
  clear hlocs
  have hx := C.1
  have hb := C.2.1
  have hl : lv_has ls 6 [(0, .ref (a_mn 0)), (1, .int x_1)] := hl
  refine lv_aload_n hx hb dX11_bill_0 rfl (lv_at hl 0 rfl) ?_
  refine gf_X11_X11_told C hK (hB.1 0 _ rfl) dX11_bill_1 ?_
  refine gf_X11_X8_acts C hK (hB.1 6 _ rfl) dX11_bill_4 ?_
  refine gf_X11_X7_size C hK (hB.1 7 _ rfl) dX11_bill_7 ?_
  refine lv_iconst (v := 4) hx hb dX11_bill_10 (by decide) ?_
  refine va_mmin hx hb (C.2.2.1.trans hl.1.symm) C.2.2.2.1 (C.2.2.2.2 _ mw_1000) (C.2.2.2.2 _ mm_mmin_s) (C.2.2.2.2 _ mm_ini) (C.2.2.2.2 _ mm_mmin_c) (by rw [hRf]; decide) (by rw [hRl]; exact Nat.le_of_ble_eq_true rfl) (Nat.zero_le _) (Nat.zero_le _) dX11_bill_11 ?_
  refine lv_topi (fun x1 ex1 => ?_)
  have hf := ox_lt ex1 hf
  refine lv_istore_n (lv' := [(2, .int x1), (0, .ref (a_mn 0)), (1, .int x_1)]) hx hb dX11_bill_14 rfl hl (by decide) rfl (fun ls hl => ?_)
  refine lv_iload_n hx hb dX11_bill_15 rfl (lv_at hl 2 rfl) ?_
  refine lv_if_lt (tgt := 24) hx hb dX11_bill_16 (by decide) (fun c2 => ?_) (fun c2 => ?_)
  · have hf := (if_pos c2).symm.trans hf
    refine lv_iconst (v := (-1)) hx hb dX11_bill_24 (by decide) ?_
    have hf := Option.some.inj hf
    subst hf
    exact hQ _ _ H locs (fun j => if j = 0 then q_ml_0_script else 0) hB dX11_bill_25
  · have hf := (if_neg c2).symm.trans hf
    refine lv_iload_n hx hb dX11_bill_19 rfl (lv_at hl 2 rfl) ?_
    refine lv_iconst (v := 4) hx hb dX11_bill_20 (by decide) ?_
    refine lv_icmp_le (tgt := 26) hx hb dX11_bill_21 (by decide) (fun c3 => ?_) (fun c3 => ?_)
    · have hf := (if_pos c3).symm.trans hf
      refine lv_iload_n hx hb dX11_bill_26 rfl (lv_at hl 2 rfl) ?_
      refine lv_iconst (v := 4) hx hb dX11_bill_27 (by decide) ?_
      obtain ⟨j4, ej4, hf⟩ := ox_ex hf
      have hj4 : ∀ (ls : Array Slot) (H : Heap) (locs : List Loc), lv_has ls 6 [(0, .ref (a_mn 0)), (1, .int x_1), (2, .int x1)] → WB E ad s.heap [wMain E a_mn q_mn_0_tape (a_T 0 0) q_mn_0_spare q_mn_0_reader (a_ml 0) (a_now 0) (a_trial 0) q_mn_0_image q_mn_0_steps q_mn_0_notes q_mn_0_futures (a_od 0) q_mn_0_clapRow u_mn, wMill E a_ml (a_nm 0) q_ml_0_script u_ml, wLArr E 7 a_nm u_nm, wHall E a_now u_now, wHall E a_trial u_trial, wOrder E a_od u_od, wScript E (a_T 0) (a_T 1 0) (a_T 2 0) (a_T 3 0) (a_T 4 0) (a_T 5 0) (a_T 6 0) (a_T 7 0) (u_T 0), wRoll E 6 (a_T 1) (u_T 1), wRoll E 6 (a_T 2) (u_T 2), wRoll E 4 (a_T 3) (u_T 3), wRoll E 14 (a_T 4) (u_T 4), wFormula E (a_T 5) (u_T 5), wFormula E (a_T 6) (u_T 6), wFormula E (a_T 7) (u_T 7)] H locs → j4 = some res → W p l e R s m args below meth c H locs 0 0 Q (F0 m 39 ls []) := by
        intro ls H locs hl hB hf
        have hf := ox_a0 ej4 hf
        refine lv_iconst (v := 0) hx hb dX11_bill_39 (by decide) ?_
        refine lv_istore_n (lv' := [(3, .int (0 : Int32)), (0, .ref (a_mn 0)), (1, .int x_1), (2, .int x1)]) hx hb dX11_bill_40 rfl hl (by decide) rfl (fun ls hl => ?_)
        refine lv_aload_n hx hb dX11_bill_41 rfl (lv_at hl 1 rfl) ?_
        refine gf_X11_X11_order C hK (hB.1 0 _ rfl) dX11_bill_42 ?_
        refine lv_iload_n hx hb dX11_bill_45 rfl (lv_at hl 3 rfl) ?_
        obtain ⟨r5, hr5, hf⟩ := ox_bind hf
        refine cxVX (bs1 := (fun q => [wMain E a_mn q_mn_0_tape (a_T 0 0) q_mn_0_spare q_mn_0_reader (a_ml 0) (a_now 0) (a_trial 0) q_mn_0_image q_mn_0_steps q_mn_0_notes q_mn_0_futures (a_od 0) q_mn_0_clapRow u_mn, wMill E a_ml (a_nm 0) q_ml_0_script u_ml, wLArr E 7 a_nm u_nm, wHall E a_now u_now, wHall E a_trial u_trial, wOrder E a_od r5, wScript E (a_T 0) (a_T 1 0) (a_T 2 0) (a_T 3 0) (a_T 4 0) (a_T 5 0) (a_T 6 0) (a_T 7 0) (u_T 0), wRoll E 6 (a_T 1) (u_T 1), wRoll E 6 (a_T 2) (u_T 2), wRoll E 4 (a_T 3) (u_T 3), wRoll E 14 (a_T 4) (u_T 4), wFormula E (a_T 5) (u_T 5), wFormula E (a_T 6) (u_T 6), wFormula E (a_T 7) (u_T 7)])) (As := [.int x1]) (rest := []) (st1 := []) C hK (tX4_begin l E a_od u_od x1 r5 hr5) lk_X11_300 (by rw [hRf, hRl]; decide) ⟨Nat.zero_le _, Nat.zero_le _⟩ hB hD hN [5] (by decide) rfl (fun _ => rfl) (fun _ => rfl) (rc_X4 hK (hB.1 5 _ rfl)) rfl hl.1 rfl rfl (Nat.le_of_ble_eq_true rfl) dX11_bill_46 (fun H locs q6 hB => ?_)
        have hB : WB E ad s.heap [wMain E a_mn q_mn_0_tape (a_T 0 0) q_mn_0_spare q_mn_0_reader (a_ml 0) (a_now 0) (a_trial 0) q_mn_0_image q_mn_0_steps q_mn_0_notes q_mn_0_futures (a_od 0) q_mn_0_clapRow u_mn, wMill E a_ml (a_nm 0) q_ml_0_script u_ml, wLArr E 7 a_nm u_nm, wHall E a_now u_now, wHall E a_trial u_trial, wOrder E a_od r5, wScript E (a_T 0) (a_T 1 0) (a_T 2 0) (a_T 3 0) (a_T 4 0) (a_T 5 0) (a_T 6 0) (a_T 7 0) (u_T 0), wRoll E 6 (a_T 1) (u_T 1), wRoll E 6 (a_T 2) (u_T 2), wRoll E 4 (a_T 3) (u_T 3), wRoll E 14 (a_T 4) (u_T 4), wFormula E (a_T 5) (u_T 5), wFormula E (a_T 6) (u_T 6), wFormula E (a_T 7) (u_T 7)] H locs := hB
        refine lv_iconst (v := 0) hx hb dX11_bill_49 (by decide) ?_
        refine lv_istore (lv' := [(4, .int (0 : Int32)), (3, .int (0 : Int32)), (0, .ref (a_mn 0)), (1, .int x_1), (2, .int x1)]) hx hb dX11_bill_50 hl (by decide) rfl (fun ls hl => ?_)
        obtain ⟨X1, hX1, hf⟩ := ox_bind hf
        have hexit1 : ∀ y30, y30 = X1 → ∀ (ls : Array Slot) (H : Heap) (locs : List Loc) (q31 : Nat), lv_has ls 6 [(0, .ref (a_mn 0)), (1, .int x_1), (3, .int y30.1)] → WB E ad s.heap [wMain E a_mn q_mn_0_tape (a_T 0 0) q_mn_0_spare q_mn_0_reader (a_ml 0) (a_now 0) (a_trial 0) q_mn_0_image q_mn_0_steps q_mn_0_notes q_mn_0_futures (a_od 0) q_mn_0_clapRow u_mn, wMill E a_ml (a_nm 0) q31 y30.2.1, wLArr E 7 a_nm y30.2.2.1, wHall E a_now u_now, wHall E a_trial y30.2.2.2.1, wOrder E a_od y30.2.2.2.2.1, wScript E (a_T 0) (a_T 1 0) (a_T 2 0) (a_T 3 0) (a_T 4 0) (a_T 5 0) (a_T 6 0) (a_T 7 0) (y30.2.2.2.2.2 0), wRoll E 6 (a_T 1) (y30.2.2.2.2.2 1), wRoll E 6 (a_T 2) (y30.2.2.2.2.2 2), wRoll E 4 (a_T 3) (y30.2.2.2.2.2 3), wRoll E 14 (a_T 4) (y30.2.2.2.2.2 4), wFormula E (a_T 5) (y30.2.2.2.2.2 5), wFormula E (a_T 6) (y30.2.2.2.2.2 6), wFormula E (a_T 7) (y30.2.2.2.2.2 7)] H locs → W p l e R s m args below meth c H locs 0 0 Q (F0 m 105 ls []) := by
          intro y30 hy ls H locs q31 hl hB
          subst hy
          refine lv_iload_n hx hb dX11_bill_105 rfl (lv_at hl 1 rfl) ?_
          refine lv_iconst (v := 4) hx hb dX11_bill_106 (by decide) ?_
          refine lv_icmp_ne (tgt := 114) hx hb dX11_bill_107 (by decide) (fun c32 => ?_) (fun c32 => ?_)
          · have hf := (if_neg c32).symm.trans hf
            refine lv_aload_n hx hb dX11_bill_114 rfl (lv_at hl 0 rfl) ?_
            refine gf_X11_X11_order C hK (hB.1 0 _ rfl) dX11_bill_115 ?_
            refine gf_X11_X4_best C hK (hB.1 5 _ rfl) dX11_bill_118 ?_
            refine lv_iload_n hx hb dX11_bill_121 rfl (lv_at hl 1 rfl) ?_
            obtain ⟨hn33, hf⟩ := ox_chk hf
            refine ld_X4_best C hK (hB.1 5 _ rfl) hn33 rfl dX11_bill_122 ?_
            have hf := Option.some.inj hf
            subst hf
            exact hQ _ _ H locs (fun j => if j = 0 then q31 else 0) hB dX11_bill_123
          · have hf := (if_pos c32).symm.trans hf
            refine lv_iload_n hx hb dX11_bill_110 rfl (lv_at hl 2 rfl) ?_
            refine lv_goto (tgt := 123) hx hb dX11_bill_111 (by decide) ?_
            have hf := Option.some.inj hf
            subst hf
            exact hQ _ _ H locs (fun j => if j = 0 then q31 else 0) hB dX11_bill_123
        have hloop1 : ∀ (nf : Nat) (x7 : Int32) (x8 : Int32) (u9 : St) (u10 : St) (u11 : St) (u12 : St) (u13 : Nat → St) (ls : Array Slot) (H : Heap) (locs : List Loc) (q14 : Nat), lv_has ls 6 [(0, .ref (a_mn 0)), (1, .int x_1), (2, .int x1), (3, .int x7), (4, .int x8)] → WB E ad s.heap [wMain E a_mn q_mn_0_tape (a_T 0 0) q_mn_0_spare q_mn_0_reader (a_ml 0) (a_now 0) (a_trial 0) q_mn_0_image q_mn_0_steps q_mn_0_notes q_mn_0_futures (a_od 0) q_mn_0_clapRow u_mn, wMill E a_ml (a_nm 0) q14 u9, wLArr E 7 a_nm u10, wHall E a_now u_now, wHall E a_trial u11, wOrder E a_od u12, wScript E (a_T 0) (a_T 1 0) (a_T 2 0) (a_T 3 0) (a_T 4 0) (a_T 5 0) (a_T 6 0) (a_T 7 0) (u13 0), wRoll E 6 (a_T 1) (u13 1), wRoll E 6 (a_T 2) (u13 2), wRoll E 4 (a_T 3) (u13 3), wRoll E 14 (a_T 4) (u13 4), wFormula E (a_T 5) (u13 5), wFormula E (a_T 6) (u13 6), wFormula E (a_T 7) (u13 7)] H locs → fX11_bill_L1 u_mn u_now x1 nf x7 x8 u9 u10 u11 u12 u13 = some X1 → W p l e R s m args below meth c H locs 0 0 Q (F0 m 52 ls []) := by
          intro nf
          induction nf with
          | zero =>
            intro x7 x8 u9 u10 u11 u12 u13 ls H locs q14 hl hB hf
            simp [fX11_bill_L1] at hf
          | succ nf ih =>
            intro x7 x8 u9 u10 u11 u12 u13 ls H locs q14 hl hB hf
            rw [fX11_bill_L1] at hf
            refine lv_iload hx hb dX11_bill_52 (lv_at hl 4 rfl) ?_
            refine lv_aload_n hx hb dX11_bill_54 rfl (lv_at hl 0 rfl) ?_
            refine gf_X11_X11_order C hK (hB.1 0 _ rfl) dX11_bill_55 ?_
            refine gf_X11_X4_orders C hK (hB.1 5 _ rfl) dX11_bill_58 ?_
            refine lv_icmp_ge (tgt := 105) hx hb dX11_bill_61 (by decide) (fun c15 => ?_) (fun c15 => ?_)
            · have hf := (if_pos c15).symm.trans hf
              exact hexit1 _ (Option.some.inj hf) ls H locs q14 (lv_sub hl [0, 1, 3] rfl) hB
            · have hf := (if_neg c15).symm.trans hf
              refine lv_aload_n hx hb dX11_bill_64 rfl (lv_at hl 0 rfl) ?_
              refine lv_iload_n hx hb dX11_bill_65 rfl (lv_at hl 2 rfl) ?_
              obtain ⟨r16, hr16, hf⟩ := ox_bind hf
              refine cxVX (bs1 := (fun q => [wMain E a_mn q_mn_0_tape (a_T 0 0) q_mn_0_spare q_mn_0_reader (a_ml 0) (a_now 0) (a_trial 0) q_mn_0_image q_mn_0_steps q_mn_0_notes q_mn_0_futures (a_od 0) q_mn_0_clapRow u_mn, wMill E a_ml (a_nm 0) (a_T 0 0) r16.2.1, wLArr E 7 a_nm r16.2.2.1, wHall E a_now u_now, wHall E a_trial r16.2.2.2.1, wOrder E a_od u12, wScript E (a_T 0) (a_T 1 0) (a_T 2 0) (a_T 3 0) (a_T 4 0) (a_T 5 0) (a_T 6 0) (a_T 7 0) (r16.2.2.2.2 0), wRoll E 6 (a_T 1) (r16.2.2.2.2 1), wRoll E 6 (a_T 2) (r16.2.2.2.2 2), wRoll E 4 (a_T 3) (r16.2.2.2.2 3), wRoll E 14 (a_T 4) (r16.2.2.2.2 4), wFormula E (a_T 5) (r16.2.2.2.2 5), wFormula E (a_T 6) (r16.2.2.2.2 6), wFormula E (a_T 7) (r16.2.2.2.2 7)])) (As := [.int x1]) (rest := []) (st1 := [.int r16.1]) C hK (tX11_groundByBill l E a_mn q_mn_0_tape q_mn_0_spare q_mn_0_reader q_mn_0_image q_mn_0_steps q_mn_0_notes q_mn_0_futures q_mn_0_clapRow u_mn a_ml q14 u9 a_nm u10 a_now u_now a_trial u11 a_od u12 a_T u13 x1 r16 hr16) lk_X11_304 (by rw [hRf, hRl]; decide) ⟨Nat.zero_le _, Nat.zero_le _⟩ hB hD hN [0, 1, 2, 3, 4, 5, 6, 7, 8, 9, 10, 11, 12, 13] (by decide) rfl (fun _ => rfl) (fun _ => rfl) (rc_X11 hK (hB.1 0 _ rfl)) rfl hl.1 rfl rfl (Nat.le_of_ble_eq_true rfl) dX11_bill_66 (fun H locs q17 hB => ?_)
              have hB : WB E ad s.heap [wMain E a_mn q_mn_0_tape (a_T 0 0) q_mn_0_spare q_mn_0_reader (a_ml 0) (a_now 0) (a_trial 0) q_mn_0_image q_mn_0_steps q_mn_0_notes q_mn_0_futures (a_od 0) q_mn_0_clapRow u_mn, wMill E a_ml (a_nm 0) (a_T 0 0) r16.2.1, wLArr E 7 a_nm r16.2.2.1, wHall E a_now u_now, wHall E a_trial r16.2.2.2.1, wOrder E a_od u12, wScript E (a_T 0) (a_T 1 0) (a_T 2 0) (a_T 3 0) (a_T 4 0) (a_T 5 0) (a_T 6 0) (a_T 7 0) (r16.2.2.2.2 0), wRoll E 6 (a_T 1) (r16.2.2.2.2 1), wRoll E 6 (a_T 2) (r16.2.2.2.2 2), wRoll E 4 (a_T 3) (r16.2.2.2.2 3), wRoll E 14 (a_T 4) (r16.2.2.2.2 4), wFormula E (a_T 5) (r16.2.2.2.2 5), wFormula E (a_T 6) (r16.2.2.2.2 6), wFormula E (a_T 7) (r16.2.2.2.2 7)] H locs := hB
              refine lv_topi (fun x18 ex18 => ?_)
              have hf := ox_lt ex18 hf
              refine lv_istore (lv' := [(5, .int x18), (0, .ref (a_mn 0)), (1, .int x_1), (2, .int x1), (3, .int x7), (4, .int x8)]) hx hb dX11_bill_69 hl (by decide) rfl (fun ls hl => ?_)
              refine lv_iload hx hb dX11_bill_71 (lv_at hl 5 rfl) ?_
              obtain ⟨j21, ej21, hf⟩ := ox_ex hf
              have hj21 : ∀ (x19 : Int32) (u20 : St) (ls : Array Slot) (H : Heap) (locs : List Loc), lv_has ls 6 [(0, .ref (a_mn 0)), (1, .int x_1), (2, .int x1), (3, .int x19), (4, .int x8)] → WB E ad s.heap [wMain E a_mn q_mn_0_tape (a_T 0 0) q_mn_0_spare q_mn_0_reader (a_ml 0) (a_now 0) (a_trial 0) q_mn_0_image q_mn_0_steps q_mn_0_notes q_mn_0_futures (a_od 0) q_mn_0_clapRow u_mn, wMill E a_ml (a_nm 0) (a_T 0 0) r16.2.1, wLArr E 7 a_nm r16.2.2.1, wHall E a_now u_now, wHall E a_trial r16.2.2.2.1, wOrder E a_od u20, wScript E (a_T 0) (a_T 1 0) (a_T 2 0) (a_T 3 0) (a_T 4 0) (a_T 5 0) (a_T 6 0) (a_T 7 0) (r16.2.2.2.2 0), wRoll E 6 (a_T 1) (r16.2.2.2.2 1), wRoll E 6 (a_T 2) (r16.2.2.2.2 2), wRoll E 4 (a_T 3) (r16.2.2.2.2 3), wRoll E 14 (a_T 4) (r16.2.2.2.2 4), wFormula E (a_T 5) (r16.2.2.2.2 5), wFormula E (a_T 6) (r16.2.2.2.2 6), wFormula E (a_T 7) (r16.2.2.2.2 7)] H locs → j21 x19 u20 = some X1 → W p l e R s m args below meth c H locs 0 0 Q (F0 m 92 ls []) := by
                intro x19 u20 ls H locs hl hB hf
                have hf := ox_a2 ej21 hf
                refine lv_aload_n hx hb dX11_bill_92 rfl (lv_at hl 0 rfl) ?_
                refine gf_X11_X11_order C hK (hB.1 0 _ rfl) dX11_bill_93 ?_
                obtain ⟨r22, hr22, hf⟩ := ox_bind hf
                refine cxVX (bs1 := (fun q => [wMain E a_mn q_mn_0_tape (a_T 0 0) q_mn_0_spare q_mn_0_reader (a_ml 0) (a_now 0) (a_trial 0) q_mn_0_image q_mn_0_steps q_mn_0_notes q_mn_0_futures (a_od 0) q_mn_0_clapRow u_mn, wMill E a_ml (a_nm 0) (a_T 0 0) r16.2.1, wLArr E 7 a_nm r16.2.2.1, wHall E a_now u_now, wHall E a_trial r16.2.2.2.1, wOrder E a_od r22, wScript E (a_T 0) (a_T 1 0) (a_T 2 0) (a_T 3 0) (a_T 4 0) (a_T 5 0) (a_T 6 0) (a_T 7 0) (r16.2.2.2.2 0), wRoll E 6 (a_T 1) (r16.2.2.2.2 1), wRoll E 6 (a_T 2) (r16.2.2.2.2 2), wRoll E 4 (a_T 3) (r16.2.2.2.2 3), wRoll E 14 (a_T 4) (r16.2.2.2.2 4), wFormula E (a_T 5) (r16.2.2.2.2 5), wFormula E (a_T 6) (r16.2.2.2.2 6), wFormula E (a_T 7) (r16.2.2.2.2 7)])) (As := []) (rest := []) (st1 := []) C hK (tX4_turnToNext l E a_od u20 r22 hr22) lk_X11_310 (by rw [hRf, hRl]; decide) ⟨Nat.zero_le _, Nat.zero_le _⟩ hB hD hN [5] (by decide) rfl (fun _ => rfl) (fun _ => rfl) (rc_X4 hK (hB.1 5 _ rfl)) rfl hl.1 rfl rfl (Nat.le_of_ble_eq_true rfl) dX11_bill_96 (fun H locs q23 hB => ?_)
                have hB : WB E ad s.heap [wMain E a_mn q_mn_0_tape (a_T 0 0) q_mn_0_spare q_mn_0_reader (a_ml 0) (a_now 0) (a_trial 0) q_mn_0_image q_mn_0_steps q_mn_0_notes q_mn_0_futures (a_od 0) q_mn_0_clapRow u_mn, wMill E a_ml (a_nm 0) (a_T 0 0) r16.2.1, wLArr E 7 a_nm r16.2.2.1, wHall E a_now u_now, wHall E a_trial r16.2.2.2.1, wOrder E a_od r22, wScript E (a_T 0) (a_T 1 0) (a_T 2 0) (a_T 3 0) (a_T 4 0) (a_T 5 0) (a_T 6 0) (a_T 7 0) (r16.2.2.2.2 0), wRoll E 6 (a_T 1) (r16.2.2.2.2 1), wRoll E 6 (a_T 2) (r16.2.2.2.2 2), wRoll E 4 (a_T 3) (r16.2.2.2.2 3), wRoll E 14 (a_T 4) (r16.2.2.2.2 4), wFormula E (a_T 5) (r16.2.2.2.2 5), wFormula E (a_T 6) (r16.2.2.2.2 6), wFormula E (a_T 7) (r16.2.2.2.2 7)] H locs := hB
                obtain ⟨x24, ex24⟩ : ∃ z : Int32, z = (x8 + 1) := ⟨_, rfl⟩
                have hf := ox_lt ex24 hf
                refine lv_iinc (v := x24) (lv' := [(4, .int x24), (0, .ref (a_mn 0)), (1, .int x_1), (2, .int x1), (3, .int x19)]) hx hb dX11_bill_99 hl (k := 4) rfl (by rw [ex24]; rfl) (by decide) rfl (fun ls hl => ?_)
                refine lv_goto (tgt := 52) hx hb dX11_bill_102 (by decide) ?_
                exact ih _ _ _ _ _ _ _ ls H locs (a_T 0 0) (lv_sub hl [1, 2, 3, 4, 0] rfl) hB hf
              obtain ⟨j25, ej25, hf⟩ := ox_ex hf
              have hj25 : ∀ (ls : Array Slot) (H : Heap) (locs : List Loc), lv_has ls 6 [(0, .ref (a_mn 0)), (1, .int x_1), (2, .int x1), (4, .int x8), (5, .int x18)] → WB E ad s.heap [wMain E a_mn q_mn_0_tape (a_T 0 0) q_mn_0_spare q_mn_0_reader (a_ml 0) (a_now 0) (a_trial 0) q_mn_0_image q_mn_0_steps q_mn_0_notes q_mn_0_futures (a_od 0) q_mn_0_clapRow u_mn, wMill E a_ml (a_nm 0) (a_T 0 0) r16.2.1, wLArr E 7 a_nm r16.2.2.1, wHall E a_now u_now, wHall E a_trial r16.2.2.2.1, wOrder E a_od u12, wScript E (a_T 0) (a_T 1 0) (a_T 2 0) (a_T 3 0) (a_T 4 0) (a_T 5 0) (a_T 6 0) (a_T 7 0) (r16.2.2.2.2 0), wRoll E 6 (a_T 1) (r16.2.2.2.2 1), wRoll E 6 (a_T 2) (r16.2.2.2.2 2), wRoll E 4 (a_T 3) (r16.2.2.2.2 3), wRoll E 14 (a_T 4) (r16.2.2.2.2 4), wFormula E (a_T 5) (r16.2.2.2.2 5), wFormula E (a_T 6) (r16.2.2.2.2 6), wFormula E (a_T 7) (r16.2.2.2.2 7)] H locs → j25 = some X1 → W p l e R s m args below meth c H locs 0 0 Q (F0 m 82 ls []) := by
                intro ls H locs hl hB hf
                have hf := ox_a0 ej25 hf
                refine lv_iload hx hb dX11_bill_82 (lv_at hl 4 rfl) ?_
                refine lv_istore_n (lv' := [(3, .int x18), (0, .ref (a_mn 0)), (1, .int x_1), (2, .int x1), (4, .int x8), (5, .int x18)]) hx hb dX11_bill_84 rfl hl (by decide) rfl (fun ls hl => ?_)
                refine lv_aload_n hx hb dX11_bill_85 rfl (lv_at hl 1 rfl) ?_
                refine gf_X11_X11_order C hK (hB.1 0 _ rfl) dX11_bill_86 ?_
                obtain ⟨r26, hr26, hf⟩ := ox_bind hf
                refine cxVX (bs1 := (fun q => [wMain E a_mn q_mn_0_tape (a_T 0 0) q_mn_0_spare q_mn_0_reader (a_ml 0) (a_now 0) (a_trial 0) q_mn_0_image q_mn_0_steps q_mn_0_notes q_mn_0_futures (a_od 0) q_mn_0_clapRow u_mn, wMill E a_ml (a_nm 0) (a_T 0 0) r16.2.1, wLArr E 7 a_nm r16.2.2.1, wHall E a_now u_now, wHall E a_trial r16.2.2.2.1, wOrder E a_od r26, wScript E (a_T 0) (a_T 1 0) (a_T 2 0) (a_T 3 0) (a_T 4 0) (a_T 5 0) (a_T 6 0) (a_T 7 0) (r16.2.2.2.2 0), wRoll E 6 (a_T 1) (r16.2.2.2.2 1), wRoll E 6 (a_T 2) (r16.2.2.2.2 2), wRoll E 4 (a_T 3) (r16.2.2.2.2 3), wRoll E 14 (a_T 4) (r16.2.2.2.2 4), wFormula E (a_T 5) (r16.2.2.2.2 5), wFormula E (a_T 6) (r16.2.2.2.2 6), wFormula E (a_T 7) (r16.2.2.2.2 7)])) (As := []) (rest := []) (st1 := []) C hK (tX4_keepBest l E a_od u12 r26 hr26) lk_X11_307 (by rw [hRf, hRl]; decide) ⟨Nat.zero_le _, Nat.zero_le _⟩ hB hD hN [5] (by decide) rfl (fun _ => rfl) (fun _ => rfl) (rc_X4 hK (hB.1 5 _ rfl)) rfl hl.1 rfl rfl (Nat.le_of_ble_eq_true rfl) dX11_bill_89 (fun H locs q27 hB => ?_)
                have hB : WB E ad s.heap [wMain E a_mn q_mn_0_tape (a_T 0 0) q_mn_0_spare q_mn_0_reader (a_ml 0) (a_now 0) (a_trial 0) q_mn_0_image q_mn_0_steps q_mn_0_notes q_mn_0_futures (a_od 0) q_mn_0_clapRow u_mn, wMill E a_ml (a_nm 0) (a_T 0 0) r16.2.1, wLArr E 7 a_nm r16.2.2.1, wHall E a_now u_now, wHall E a_trial r16.2.2.2.1, wOrder E a_od r26, wScript E (a_T 0) (a_T 1 0) (a_T 2 0) (a_T 3 0) (a_T 4 0) (a_T 5 0) (a_T 6 0) (a_T 7 0) (r16.2.2.2.2 0), wRoll E 6 (a_T 1) (r16.2.2.2.2 1), wRoll E 6 (a_T 2) (r16.2.2.2.2 2), wRoll E 4 (a_T 3) (r16.2.2.2.2 3), wRoll E 14 (a_T 4) (r16.2.2.2.2 4), wFormula E (a_T 5) (r16.2.2.2.2 5), wFormula E (a_T 6) (r16.2.2.2.2 6), wFormula E (a_T 7) (r16.2.2.2.2 7)] H locs := hB
                exact hj21 _ _ ls H locs (lv_sub hl [1, 2, 3, 0, 4] rfl) hB hf
              refine lv_if_eq (tgt := 82) hx hb dX11_bill_73 (by decide) (fun c28 => ?_) (fun c28 => ?_)
              · have hf := (if_pos c28).symm.trans hf
                exact hj25 ls H locs (lv_sub hl [1, 2, 3, 5, 0] rfl) hB hf
              · have hf := (if_neg c28).symm.trans hf
                refine lv_iload hx hb dX11_bill_76 (lv_at hl 0 rfl) ?_
                refine lv_iload_n hx hb dX11_bill_78 rfl (lv_at hl 4 rfl) ?_
                refine lv_icmp_le (tgt := 92) hx hb dX11_bill_79 (by decide) (fun c29 => ?_) (fun c29 => ?_)
                · have hf := (if_pos c29).symm.trans hf
                  exact hj21 _ _ ls H locs (lv_sub hl [1, 2, 3, 4, 5] rfl) hB hf
                · have hf := (if_neg c29).symm.trans hf
                  exact hj25 ls H locs (lv_sub hl [1, 2, 3, 5, 0] rfl) hB hf
        exact hloop1 fuel _ _ _ _ _ _ _ ls H locs q_ml_0_script (lv_sub hl [2, 3, 4, 1, 0] rfl) hB hX1
      refine lv_icmp_ge (tgt := 39) hx hb dX11_bill_28 (by decide) (fun c35 => ?_) (fun c35 => ?_)
      · have hf := (if_pos c35).symm.trans hf
        exact hj4 ls H locs (lv_sub hl [1, 2, 0] rfl) hB hf
      · have hf := (if_neg c35).symm.trans hf
        refine lv_iload_n hx hb dX11_bill_31 rfl (lv_at hl 2 rfl) ?_
        refine lv_iload_n hx hb dX11_bill_32 rfl (lv_at hl 0 rfl) ?_
        refine lv_icmp_lt (tgt := 39) hx hb dX11_bill_33 (by decide) (fun c36 => ?_) (fun c36 => ?_)
        · have hf := (if_pos c36).symm.trans hf
          exact hj4 ls H locs (lv_sub hl [1, 2, 0] rfl) hB hf
        · have hf := (if_neg c36).symm.trans hf
          refine lv_bipush (v := (-2)) hx hb dX11_bill_36 (by decide) ?_
          have hf := Option.some.inj hf
          subst hf
          exact hQ _ _ H locs (fun j => if j = 0 then q_ml_0_script else 0) hB dX11_bill_38
    · have hf := (if_neg c3).symm.trans hf
      refine lv_iconst (v := (-1)) hx hb dX11_bill_24 (by decide) ?_
      have hf := Option.some.inj hf
      subst hf
      exact hQ _ _ H locs (fun j => if j = 0 then q_ml_0_script else 0) hB dX11_bill_25
set_option maxHeartbeats 4000000 in
set_option maxRecDepth 20000 in
theorem tJ7_fill_53178 (l : Launch) (E : Ev) (n_row : Nat) (a_row : Nat → Nat) (u_row : St) (x_1 : Int32) (res : St) (hf : fJ7_fill_53178 n_row u_row x_1 = some res) : MX l E yJ7_fill_53178 cJ7_fill_53178 4 none (rmm 0 0) [wIArr E n_row a_row u_row] (fun q => [wIArr E n_row a_row res]) [.ref (a_row 0), .int x_1] none := by
  unfold fJ7_fill_53178 at hf
  refine MX.ofV rfl (by decide) (Nat.le_of_ble_eq_true rfl) ?_
  intro p e R s m args below meth c ls Q ad H hRf hRl C hB hD hK hN hl hQ
  generalize hlocs : ([] : List Loc) = locs at hB ⊢
  clear hlocs
  have hx := C.1
  have hb := C.2.1
  have hl : lv_has ls 4 [(0, .ref (a_row 0)), (1, .int x_1)] := hl
  refine lv_iconst (v := 0) hx hb dJ7_fill_53178_0 (by decide) ?_
  refine lv_istore_n (lv' := [(2, .int (0 : Int32)), (0, .ref (a_row 0)), (1, .int x_1)]) hx hb dJ7_fill_53178_1 rfl hl (by decide) rfl (fun ls hl => ?_)
  refine lv_aload_n hx hb dJ7_fill_53178_2 rfl (lv_at hl 1 rfl) ?_
  refine bx_alen C hK (hB.1 0 _ rfl) 0 0 rfl rfl (v := (Int32.ofNat n_row)) rfl dJ7_fill_53178_3 ?_
  refine lv_topi (fun x1 ex1 => ?_)
  have hf := ox_lt ex1 hf
  refine lv_istore_n (lv' := [(3, .int x1), (2, .int (0 : Int32)), (0, .ref (a_row 0)), (1, .int x_1)]) hx hb dJ7_fill_53178_4 rfl hl (by decide) rfl (fun ls hl => ?_)
  obtain ⟨X1, hX1, hf⟩ := ox_bind hf
  have hexit1 : ∀ y8, y8 = X1 → ∀ (ls : Array Slot) (H : Heap) (locs : List Loc), lv_has ls 4 [] → WB E ad s.heap [wIArr E n_row a_row y8] H locs → W p l e R s m args below meth c H locs 0 0 Q (F0 m 20 ls []) := by
    intro y8 hy ls H locs hl hB
    subst hy
    have hf := Option.some.inj hf
    subst hf
    exact hQ _ _ H locs (fun _ => 0) hB dJ7_fill_53178_20
  have hloop1 : ∀ (nf : Nat) (x2 : Int32) (u3 : St) (ls : Array Slot) (H : Heap) (locs : List Loc), lv_has ls 4 [(0, .ref (a_row 0)), (1, .int x_1), (2, .int x2), (3, .int x1)] → WB E ad s.heap [wIArr E n_row a_row u3] H locs → fJ7_fill_53178_L1 n_row x_1 x1 nf x2 u3 = some X1 → W p l e R s m args below meth c H locs 0 0 Q (F0 m 5 ls []) := by
    intro nf
    induction nf with
    | zero =>
      intro x2 u3 ls H locs hl hB hf
      simp [fJ7_fill_53178_L1] at hf
    | succ nf ih =>
      intro x2 u3 ls H locs hl hB hf
      rw [fJ7_fill_53178_L1] at hf
      refine lv_iload_n hx hb dJ7_fill_53178_5 rfl (lv_at hl 2 rfl) ?_
      refine lv_iload_n hx hb dJ7_fill_53178_6 rfl (lv_at hl 3 rfl) ?_
      refine lv_icmp_ge (tgt := 20) hx hb dJ7_fill_53178_7 (by decide) (fun c4 => ?_) (fun c4 => ?_)
      · have hf := (if_pos c4).symm.trans hf
        exact hexit1 _ (Option.some.inj hf) ls H locs (lv_sub hl [] rfl) hB
      · have hf := (if_neg c4).symm.trans hf
        refine lv_aload_n hx hb dJ7_fill_53178_10 rfl (lv_at hl 0 rfl) ?_
        refine lv_iload_n hx hb dJ7_fill_53178_11 rfl (lv_at hl 2 rfl) ?_
        refine lv_iload_n hx hb dJ7_fill_53178_12 rfl (lv_at hl 1 rfl) ?_
        obtain ⟨hn5, hf⟩ := ox_chk hf
        refine st_IArr_row C hK hB hD 0 rfl hn5 rfl dJ7_fill_53178_13 (fun H locs u6 eu6 hB => ?_)
        have hf := ox_lt eu6 hf
        have hB : WB E ad s.heap [wIArr E n_row a_row u6] H locs := hB
        obtain ⟨x7, ex7⟩ : ∃ z : Int32, z = (x2 + 1) := ⟨_, rfl⟩
        have hf := ox_lt ex7 hf
        refine lv_iinc (v := x7) (lv' := [(2, .int x7), (0, .ref (a_row 0)), (1, .int x_1), (3, .int x1)]) hx hb dJ7_fill_53178_14 hl (k := 2) rfl (by rw [ex7]; rfl) (by decide) rfl (fun ls hl => ?_)
        refine lv_goto (tgt := 5) hx hb dJ7_fill_53178_17 (by decide) ?_
        exact ih _ _ ls H locs (lv_sub hl [1, 2, 0, 3] rfl) hB hf
  exact hloop1 fuel _ _ ls H locs (lv_sub hl [2, 3, 1, 0] rfl) hB hX1
set_option maxHeartbeats 4000000 in
set_option maxRecDepth 20000 in
theorem tX11_clapBeside (l : Launch) (E : Ev) (a_mn : Nat → Nat) (q_mn_0_tape : Nat) (q_mn_0_spare : Nat) (q_mn_0_reader : Nat) (q_mn_0_trial : Nat) (q_mn_0_image : Nat) (q_mn_0_steps : Nat) (q_mn_0_notes : Nat) (q_mn_0_futures : Nat) (q_mn_0_order : Nat) (u_mn : St) (a_crow : Nat → Nat) (u_crow : St) (a_ml : Nat → Nat) (u_ml : St) (a_nm : Nat → Nat) (u_nm : St) (a_now : Nat → Nat) (u_now : St) (a_T : Nat → Nat → Nat) (u_T : Nat → St) (x_1 : Int32) (x_2 : Int32) (x_3 : Int32) (res : Int32 × St × St × (Nat → St)) (hf : fX11_clapBeside u_mn u_crow u_ml u_nm u_now u_T x_1 x_2 x_3 = some res) : MX l E yX11_clapBeside cX11_clapBeside 5 (some .int) (rmm 4 104) [wMain E a_mn q_mn_0_tape (a_T 0 0) q_mn_0_spare q_mn_0_reader (a_ml 0) (a_now 0) q_mn_0_trial q_mn_0_image q_mn_0_steps q_mn_0_notes q_mn_0_futures q_mn_0_order (a_crow 0) u_mn, wIArr E 114 a_crow u_crow, wMill E a_ml (a_nm 0) (a_T 0 0) u_ml, wLArr E 7 a_nm u_nm, wHall E a_now u_now, wScript E (a_T 0) (a_T 1 0) (a_T 2 0) (a_T 3 0) (a_T 4 0) (a_T 5 0) (a_T 6 0) (a_T 7 0) (u_T 0), wRoll E 6 (a_T 1) (u_T 1), wRoll E 6 (a_T 2) (u_T 2), wRoll E 4 (a_T 3) (u_T 3), wRoll E 14 (a_T 4) (u_T 4), wFormula E (a_T 5) (u_T 5), wFormula E (a_T 6) (u_T 6), wFormula E (a_T 7) (u_T 7)] (fun q => [wMain E a_mn q_mn_0_tape (a_T 0 0) q_mn_0_spare q_mn_0_reader (a_ml 0) (a_now 0) q_mn_0_trial q_mn_0_image q_mn_0_steps q_mn_0_notes q_mn_0_futures q_mn_0_order (a_crow 0) u_mn, wIArr E 114 a_crow res.2.1, wMill E a_ml (a_nm 0) (a_T 0 0) u_ml, wLArr E 7 a_nm res.2.2.1, wHall E a_now u_now, wScript E (a_T 0) (a_T 1 0) (a_T 2 0) (a_T 3 0) (a_T 4 0) (a_T 5 0) (a_T 6 0) (a_T 7 0) (res.2.2.2 0), wRoll E 6 (a_T 1) (res.2.2.2 1), wRoll E 6 (a_T 2) (res.2.2.2 2), wRoll E 4 (a_T 3) (res.2.2.2 3), wRoll E 14 (a_T 4) (res.2.2.2 4), wFormula E (a_T 5) (res.2.2.2 5), wFormula E (a_T 6) (res.2.2.2 6), wFormula E (a_T 7) (res.2.2.2 7)]) [.ref (a_mn 0), .int x_1, .int x_2, .int x_3] (some (.int res.1)) := by
  unfold fX11_clapBeside at hf
  refine MX.ofI rfl (by decide) (Nat.le_of_ble_eq_true rfl) ?_
  intro p e R s m args below meth c ls Q ad H hRf hRl C hB hD hK hN hl hQ
  generalize hlocs : ([] : List Loc) = locs at hB ⊢
  clear hlocs
  have hx := C.1
  have hb := C.2.1
  have hl : lv_has ls 5 [(0, .ref (a_mn 0)), (1, .int x_1), (2, .int x_2), (3, .int x_3)] := hl
  refine lv_iload_n hx hb dX11_clapBeside_0 rfl (lv_at hl 2 rfl) ?_
  refine lv_bipush (v := 19) hx hb dX11_clapBeside_1 (by decide) ?_
  refine lv_imul hx hb dX11_clapBeside_3 ?_
  refine lv_iload_n hx hb dX11_clapBeside_4 rfl (lv_at hl 3 rfl) ?_
  refine lv_iadd hx hb dX11_clapBeside_5 ?_
  refine lv_bipush (v := 9) hx hb dX11_clapBeside_6 (by decide) ?_
  refine lv_iadd hx hb dX11_clapBeside_8 ?_
  refine lv_topi (fun x1 ex1 => ?_)
  have hf := ox_lt ex1 hf
  refine lv_istore (lv' := [(4, .int x1), (0, .ref (a_mn 0)), (1, .int x_1), (2, .int x_2), (3, .int x_3)]) hx hb dX11_clapBeside_9 hl (by decide) rfl (fun ls hl => ?_)
  refine lv_iload hx hb dX11_clapBeside_11 (lv_at hl 0 rfl) ?_
  refine lv_if_lt (tgt := 26) hx hb dX11_clapBeside_13 (by decide) (fun c2 => ?_) (fun c2 => ?_)
  · have hf := (if_pos c2).symm.trans hf
    refine lv_iconst (v := 0) hx hb dX11_clapBeside_26 (by decide) ?_
    have hf := Option.some.inj hf
    subst hf
    exact hQ _ _ H locs (fun _ => 0) hB dX11_clapBeside_27
  · have hf := (if_neg c2).symm.trans hf
    refine lv_iload hx hb dX11_clapBeside_16 (lv_at hl 0 rfl) ?_
    refine lv_aload_n hx hb dX11_clapBeside_18 rfl (lv_at hl 1 rfl) ?_
    refine gf_X11_X11_clapRow C hK (hB.1 0 _ rfl) dX11_clapBeside_19 ?_
    refine bx_alen C hK (hB.1 1 _ rfl) 0 0 rfl rfl (v := (114 : Int32)) rfl dX11_clapBeside_22 ?_
    refine lv_icmp_lt (tgt := 28) hx hb dX11_clapBeside_23 (by decide) (fun c3 => ?_) (fun c3 => ?_)
    · have hf := (if_pos c3).symm.trans hf
      refine lv_aload_n hx hb dX11_clapBeside_28 rfl (lv_at hl 1 rfl) ?_
      refine gf_X11_X11_clapRow C hK (hB.1 0 _ rfl) dX11_clapBeside_29 ?_
      refine lv_iload hx hb dX11_clapBeside_32 (lv_at hl 0 rfl) ?_
      obtain ⟨hn4, hf⟩ := ox_chk hf
      refine ld_IArr_row C hK (hB.1 1 _ rfl) hn4 rfl dX11_clapBeside_34 ?_
      refine lv_bipush (v := 100) hx hb dX11_clapBeside_35 (by decide) ?_
      obtain ⟨j8, ej8, hf⟩ := ox_ex hf
      have hj8 : ∀ (u5 : St) (u6 : St) (u7 : Nat → St) (ls : Array Slot) (H : Heap) (locs : List Loc), lv_has ls 5 [(0, .ref (a_mn 0)), (4, .int x1)] → WB E ad s.heap [wMain E a_mn q_mn_0_tape (a_T 0 0) q_mn_0_spare q_mn_0_reader (a_ml 0) (a_now 0) q_mn_0_trial q_mn_0_image q_mn_0_steps q_mn_0_notes q_mn_0_futures q_mn_0_order (a_crow 0) u_mn, wIArr E 114 a_crow u5, wMill E a_ml (a_nm 0) (a_T 0 0) u_ml, wLArr E 7 a_nm u6, wHall E a_now u_now, wScript E (a_T 0) (a_T 1 0) (a_T 2 0) (a_T 3 0) (a_T 4 0) (a_T 5 0) (a_T 6 0) (a_T 7 0) (u7 0), wRoll E 6 (a_T 1) (u7 1), wRoll E 6 (a_T 2) (u7 2), wRoll E 4 (a_T 3) (u7 3), wRoll E 14 (a_T 4) (u7 4), wFormula E (a_T 5) (u7 5), wFormula E (a_T 6) (u7 6), wFormula E (a_T 7) (u7 7)] H locs → j8 u5 u6 u7 = some res → W p l e R s m args below meth c H locs 0 0 Q (F0 m 68 ls []) := by
        intro u5 u6 u7 ls H locs hl hB hf
        have hf := ox_a3 ej8 hf
        refine lv_aload_n hx hb dX11_clapBeside_68 rfl (lv_at hl 0 rfl) ?_
        refine gf_X11_X11_clapRow C hK (hB.1 0 _ rfl) dX11_clapBeside_69 ?_
        refine lv_iload hx hb dX11_clapBeside_72 (lv_at hl 1 rfl) ?_
        obtain ⟨hn9, hf⟩ := ox_chk hf
        refine ld_IArr_row C hK (hB.1 1 _ rfl) hn9 rfl dX11_clapBeside_74 ?_
        have hf := Option.some.inj hf
        subst hf
        exact hQ _ _ H locs (fun _ => 0) hB dX11_clapBeside_75
      refine lv_icmp_ne (tgt := 68) hx hb dX11_clapBeside_37 (by decide) (fun c10 => ?_) (fun c10 => ?_)
      · have hf := (if_neg c10).symm.trans hf
        exact hj8 _ _ _ ls H locs (lv_sub hl [1, 0] rfl) hB hf
      · have hf := (if_pos c10).symm.trans hf
        refine lv_aload_n hx hb dX11_clapBeside_40 rfl (lv_at hl 1 rfl) ?_
        refine gf_X11_X11_clapRow C hK (hB.1 0 _ rfl) dX11_clapBeside_41 ?_
        refine lv_iload hx hb dX11_clapBeside_44 (lv_at hl 0 rfl) ?_
        refine lv_aload_n hx hb dX11_clapBeside_46 rfl (lv_at hl 1 rfl) ?_
        refine gf_X11_X11_mill C hK (hB.1 0 _ rfl) dX11_clapBeside_47 ?_
        refine lv_aload_n hx hb dX11_clapBeside_50 rfl (lv_at hl 1 rfl) ?_
        refine gf_X11_X11_now C hK (hB.1 0 _ rfl) dX11_clapBeside_51 ?_
        refine lv_iload_n hx hb dX11_clapBeside_54 rfl (lv_at hl 3 rfl) ?_
        refine lv_aload_n hx hb dX11_clapBeside_55 rfl (lv_at hl 1 rfl) ?_
        refine gf_X11_X11_told C hK (hB.1 0 _ rfl) dX11_clapBeside_56 ?_
        refine lv_iload_n hx hb dX11_clapBeside_59 rfl (lv_at hl 2 rfl) ?_
        obtain ⟨r11, hr11, hf⟩ := ox_bind hf
        refine cxVP (As := [.int x_1]) (rest := [.int x_2, .ref (a_now 0), .ref (a_ml 0), .int x1, .ref (a_crow 0)]) (st1 := [.int r11, .int x_2, .ref (a_now 0), .ref (a_ml 0), .int x1, .ref (a_crow 0)]) C hK (tX8_mood l E a_T u_T x_1 r11 hr11) lk_X11_174 ⟨rfl, rfl⟩ (by rw [hRf, hRl]; decide) ⟨Nat.zero_le _, Nat.zero_le _⟩ (PB.sub hB.1 [5, 6, 7, 8, 9, 10, 11, 12] rfl) (hB.old hD hN) (Nat.le_trans hN hB.2.2.1) (rc_X8 hK (hB.1 5 _ rfl)) rfl hl.1 rfl rfl (Nat.le_of_ble_eq_true rfl) dX11_clapBeside_60 ?_
        refine lv_iload_n hx hb dX11_clapBeside_63 rfl (lv_at hl 4 rfl) ?_
        obtain ⟨r12, hr12, hf⟩ := ox_bind hf
        refine cxVX (bs1 := (fun q => [wMain E a_mn q_mn_0_tape (a_T 0 0) q_mn_0_spare q_mn_0_reader (a_ml 0) (a_now 0) q_mn_0_trial q_mn_0_image q_mn_0_steps q_mn_0_notes q_mn_0_futures q_mn_0_order (a_crow 0) u_mn, wIArr E 114 a_crow u_crow, wMill E a_ml (a_nm 0) (a_T 0 0) u_ml, wLArr E 7 a_nm r12.2.1, wHall E a_now u_now, wScript E (a_T 0) (a_T 1 0) (a_T 2 0) (a_T 3 0) (a_T 4 0) (a_T 5 0) (a_T 6 0) (a_T 7 0) (r12.2.2 0), wRoll E 6 (a_T 1) (r12.2.2 1), wRoll E 6 (a_T 2) (r12.2.2 2), wRoll E 4 (a_T 3) (r12.2.2 3), wRoll E 14 (a_T 4) (r12.2.2 4), wFormula E (a_T 5) (r12.2.2 5), wFormula E (a_T 6) (r12.2.2 6), wFormula E (a_T 7) (r12.2.2 7)])) (As := [.ref (a_now 0), .int x_2, .int r11, .int x_3]) (rest := [.int x1, .ref (a_crow 0)]) (st1 := [.int r12.1, .int x1, .ref (a_crow 0)]) C hK (tX2_clapOf l E a_ml u_ml 7 a_nm u_nm a_T u_T a_now u_now x_2 r11 x_3 r12 hr12) lk_X11_338 (by rw [hRf, hRl]; decide) ⟨Nat.zero_le _, Nat.zero_le _⟩ hB hD hN [2, 3, 5, 6, 7, 8, 9, 10, 11, 12, 4] (by decide) rfl (fun _ => rfl) (fun _ => rfl) (rc_X2 hK (hB.1 2 _ rfl)) rfl hl.1 rfl rfl (Nat.le_of_ble_eq_true rfl) dX11_clapBeside_64 (fun H locs q13 hB => ?_)
        have hB : WB E ad s.heap [wMain E a_mn q_mn_0_tape (a_T 0 0) q_mn_0_spare q_mn_0_reader (a_ml 0) (a_now 0) q_mn_0_trial q_mn_0_image q_mn_0_steps q_mn_0_notes q_mn_0_futures q_mn_0_order (a_crow 0) u_mn, wIArr E 114 a_crow u_crow, wMill E a_ml (a_nm 0) (a_T 0 0) u_ml, wLArr E 7 a_nm r12.2.1, wHall E a_now u_now, wScript E (a_T 0) (a_T 1 0) (a_T 2 0) (a_T 3 0) (a_T 4 0) (a_T 5 0) (a_T 6 0) (a_T 7 0) (r12.2.2 0), wRoll E 6 (a_T 1) (r12.2.2 1), wRoll E 6 (a_T 2) (r12.2.2 2), wRoll E 4 (a_T 3) (r12.2.2 3), wRoll E 14 (a_T 4) (r12.2.2 4), wFormula E (a_T 5) (r12.2.2 5), wFormula E (a_T 6) (r12.2.2 6), wFormula E (a_T 7) (r12.2.2 7)] H locs := hB
        refine lv_topi (fun x14 ex14 => ?_)
        have hf := ox_lt ex14 hf
        obtain ⟨hn15, hf⟩ := ox_chk hf
        refine st_IArr_row C hK hB hD 1 rfl hn15 rfl dX11_clapBeside_67 (fun H locs u16 eu16 hB => ?_)
        have hf := ox_lt eu16 hf
        have hB : WB E ad s.heap [wMain E a_mn q_mn_0_tape (a_T 0 0) q_mn_0_spare q_mn_0_reader (a_ml 0) (a_now 0) q_mn_0_trial q_mn_0_image q_mn_0_steps q_mn_0_notes q_mn_0_futures q_mn_0_order (a_crow 0) u_mn, wIArr E 114 a_crow u16, wMill E a_ml (a_nm 0) (a_T 0 0) u_ml, wLArr E 7 a_nm r12.2.1, wHall E a_now u_now, wScript E (a_T 0) (a_T 1 0) (a_T 2 0) (a_T 3 0) (a_T 4 0) (a_T 5 0) (a_T 6 0) (a_T 7 0) (r12.2.2 0), wRoll E 6 (a_T 1) (r12.2.2 1), wRoll E 6 (a_T 2) (r12.2.2 2), wRoll E 4 (a_T 3) (r12.2.2 3), wRoll E 14 (a_T 4) (r12.2.2 4), wFormula E (a_T 5) (r12.2.2 5), wFormula E (a_T 6) (r12.2.2 6), wFormula E (a_T 7) (r12.2.2 7)] H locs := hB
        exact hj8 _ _ _ ls H locs (lv_sub hl [1, 0] rfl) hB hf
    · have hf := (if_neg c3).symm.trans hf
      refine lv_iconst (v := 0) hx hb dX11_clapBeside_26 (by decide) ?_
      have hf := Option.some.inj hf
      subst hf
      exact hQ _ _ H locs (fun _ => 0) hB dX11_clapBeside_27
set_option maxHeartbeats 4000000 in
set_option maxRecDepth 20000 in
theorem tX11_sumBySeats (l : Launch) (E : Ev) (a_mn : Nat → Nat) (q_mn_0_tape : Nat) (q_mn_0_spare : Nat) (q_mn_0_reader : Nat) (q_mn_0_trial : Nat) (q_mn_0_image : Nat) (q_mn_0_steps : Nat) (q_mn_0_notes : Nat) (q_mn_0_futures : Nat) (u_mn : St) (a_crow : Nat → Nat) (u_crow : St) (a_ml : Nat → Nat) (u_ml : St) (a_nm : Nat → Nat) (u_nm : St) (a_now : Nat → Nat) (u_now : St) (a_od : Nat → Nat) (u_od : St) (a_T : Nat → Nat → Nat) (u_T : Nat → St) (x_1 : Int32) (x_2 : Int32) (res : Int32 × St × St × (Nat → St)) (hf : fX11_sumBySeats u_mn u_crow u_ml u_nm u_now u_od u_T x_1 x_2 = some res) : MX l E yX11_sumBySeats cX11_sumBySeats 6 (some .int) (rmm 5 128) [wMain E a_mn q_mn_0_tape (a_T 0 0) q_mn_0_spare q_mn_0_reader (a_ml 0) (a_now 0) q_mn_0_trial q_mn_0_image q_mn_0_steps q_mn_0_notes q_mn_0_futures (a_od 0) (a_crow 0) u_mn, wIArr E 114 a_crow u_crow, wMill E a_ml (a_nm 0) (a_T 0 0) u_ml, wLArr E 7 a_nm u_nm, wHall E a_now u_now, wOrder E a_od u_od, wScript E (a_T 0) (a_T 1 0) (a_T 2 0) (a_T 3 0) (a_T 4 0) (a_T 5 0) (a_T 6 0) (a_T 7 0) (u_T 0), wRoll E 6 (a_T 1) (u_T 1), wRoll E 6 (a_T 2) (u_T 2), wRoll E 4 (a_T 3) (u_T 3), wRoll E 14 (a_T 4) (u_T 4), wFormula E (a_T 5) (u_T 5), wFormula E (a_T 6) (u_T 6), wFormula E (a_T 7) (u_T 7)] (fun q => [wMain E a_mn q_mn_0_tape (a_T 0 0) q_mn_0_spare q_mn_0_reader (a_ml 0) (a_now 0) q_mn_0_trial q_mn_0_image q_mn_0_steps q_mn_0_notes q_mn_0_futures (a_od 0) (a_crow 0) u_mn, wIArr E 114 a_crow res.2.1, wMill E a_ml (a_nm 0) (a_T 0 0) u_ml, wLArr E 7 a_nm res.2.2.1, wHall E a_now u_now, wOrder E a_od u_od, wScript E (a_T 0) (a_T 1 0) (a_T 2 0) (a_T 3 0) (a_T 4 0) (a_T 5 0) (a_T 6 0) (a_T 7 0) (res.2.2.2 0), wRoll E 6 (a_T 1) (res.2.2.2 1), wRoll E 6 (a_T 2) (res.2.2.2 2), wRoll E 4 (a_T 3) (res.2.2.2 3), wRoll E 14 (a_T 4) (res.2.2.2 4), wFormula E (a_T 5) (res.2.2.2 5), wFormula E (a_T 6) (res.2.2.2 6), wFormula E (a_T 7) (res.2.2.2 7)]) [.ref (a_mn 0), .int x_1, .int x_2] (some (.int res.1)) := by
  unfold fX11_sumBySeats at hf
  refine MX.ofI rfl (by decide) (Nat.le_of_ble_eq_true rfl) ?_
  intro p e R s m args below meth c ls Q ad H hRf hRl C hB hD hK hN hl hQ
  generalize hlocs : ([] : List Loc) = locs at hB ⊢
  clear hlocs
  have hx := C.1
  have hb := C.2.1
  have hl : lv_has ls 6 [(0, .ref (a_mn 0)), (1, .int x_1), (2, .int x_2)] := hl
  refine lv_iconst (v := 0) hx hb dX11_sumBySeats_0 (by decide) ?_
  refine lv_istore_n (lv' := [(3, .int (0 : Int32)), (0, .ref (a_mn 0)), (1, .int x_1), (2, .int x_2)]) hx hb dX11_sumBySeats_1 rfl hl (by decide) rfl (fun ls hl => ?_)
  refine lv_iconst (v := 0) hx hb dX11_sumBySeats_2 (by decide) ?_
  refine lv_istore (lv' := [(4, .int (0 : Int32)), (3, .int (0 : Int32)), (0, .ref (a_mn 0)), (1, .int x_1), (2, .int x_2)]) hx hb dX11_sumBySeats_3 hl (by decide) rfl (fun ls hl => ?_)
  refine lv_iconst (v := 0) hx hb dX11_sumBySeats_5 (by decide) ?_
  refine lv_istore (lv' := [(5, .int (0 : Int32)), (4, .int (0 : Int32)), (3, .int (0 : Int32)), (0, .ref (a_mn 0)), (1, .int x_1), (2, .int x_2)]) hx hb dX11_sumBySeats_6 hl (by decide) rfl (fun ls hl => ?_)
  obtain ⟨X1, hX1, hf⟩ := ox_bind hf
  have hexit1 : ∀ y14, y14 = X1 → ∀ (ls : Array Slot) (H : Heap) (locs : List Loc), lv_has ls 6 [(3, .int y14.1)] → WB E ad s.heap [wMain E a_mn q_mn_0_tape (a_T 0 0) q_mn_0_spare q_mn_0_reader (a_ml 0) (a_now 0) q_mn_0_trial q_mn_0_image q_mn_0_steps q_mn_0_notes q_mn_0_futures (a_od 0) (a_crow 0) u_mn, wIArr E 114 a_crow y14.2.1, wMill E a_ml (a_nm 0) (a_T 0 0) u_ml, wLArr E 7 a_nm y14.2.2.1, wHall E a_now u_now, wOrder E a_od u_od, wScript E (a_T 0) (a_T 1 0) (a_T 2 0) (a_T 3 0) (a_T 4 0) (a_T 5 0) (a_T 6 0) (a_T 7 0) (y14.2.2.2 0), wRoll E 6 (a_T 1) (y14.2.2.2 1), wRoll E 6 (a_T 2) (y14.2.2.2 2), wRoll E 4 (a_T 3) (y14.2.2.2 3), wRoll E 14 (a_T 4) (y14.2.2.2 4), wFormula E (a_T 5) (y14.2.2.2 5), wFormula E (a_T 6) (y14.2.2.2 6), wFormula E (a_T 7) (y14.2.2.2 7)] H locs → W p l e R s m args below meth c H locs 0 0 Q (F0 m 44 ls []) := by
    intro y14 hy ls H locs hl hB
    subst hy
    refine lv_iload_n hx hb dX11_sumBySeats_44 rfl (lv_at hl 0 rfl) ?_
    have hf := Option.some.inj hf
    subst hf
    exact hQ _ _ H locs (fun _ => 0) hB dX11_sumBySeats_45
  have hloop1 : ∀ (nf : Nat) (x1 : Int32) (x2 : Int32) (x3 : Int32) (u4 : St) (u5 : St) (u6 : Nat → St) (ls : Array Slot) (H : Heap) (locs : List Loc), lv_has ls 6 [(0, .ref (a_mn 0)), (1, .int x_1), (2, .int x_2), (3, .int x1), (4, .int x2), (5, .int x3)] → WB E ad s.heap [wMain E a_mn q_mn_0_tape (a_T 0 0) q_mn_0_spare q_mn_0_reader (a_ml 0) (a_now 0) q_mn_0_trial q_mn_0_image q_mn_0_steps q_mn_0_notes q_mn_0_futures (a_od 0) (a_crow 0) u_mn, wIArr E 114 a_crow u4, wMill E a_ml (a_nm 0) (a_T 0 0) u_ml, wLArr E 7 a_nm u5, wHall E a_now u_now, wOrder E a_od u_od, wScript E (a_T 0) (a_T 1 0) (a_T 2 0) (a_T 3 0) (a_T 4 0) (a_T 5 0) (a_T 6 0) (a_T 7 0) (u6 0), wRoll E 6 (a_T 1) (u6 1), wRoll E 6 (a_T 2) (u6 2), wRoll E 4 (a_T 3) (u6 3), wRoll E 14 (a_T 4) (u6 4), wFormula E (a_T 5) (u6 5), wFormula E (a_T 6) (u6 6), wFormula E (a_T 7) (u6 7)] H locs → fX11_sumBySeats_L1 u_mn u_ml u_now u_od x_1 x_2 nf x1 x2 x3 u4 u5 u6 = some X1 → W p l e R s m args below meth c H locs 0 0 Q (F0 m 8 ls []) := by
    intro nf
    induction nf with
    | zero =>
      intro x1 x2 x3 u4 u5 u6 ls H locs hl hB hf
      simp [fX11_sumBySeats_L1] at hf
    | succ nf ih =>
      intro x1 x2 x3 u4 u5 u6 ls H locs hl hB hf
      rw [fX11_sumBySeats_L1] at hf
      refine lv_iload hx hb dX11_sumBySeats_8 (lv_at hl 5 rfl) ?_
      refine lv_iload_n hx hb dX11_sumBySeats_10 rfl (lv_at hl 2 rfl) ?_
      refine lv_icmp_ge (tgt := 44) hx hb dX11_sumBySeats_11 (by decide) (fun c7 => ?_) (fun c7 => ?_)
      · have hf := (if_pos c7).symm.trans hf
        exact hexit1 _ (Option.some.inj hf) ls H locs (lv_sub hl [3] rfl) hB
      · have hf := (if_neg c7).symm.trans hf
        refine lv_aload_n hx hb dX11_sumBySeats_14 rfl (lv_at hl 0 rfl) ?_
        refine lv_iload_n hx hb dX11_sumBySeats_15 rfl (lv_at hl 1 rfl) ?_
        refine lv_aload_n hx hb dX11_sumBySeats_16 rfl (lv_at hl 0 rfl) ?_
        refine gf_X11_X11_order C hK (hB.1 0 _ rfl) dX11_sumBySeats_17 ?_
        refine gf_X11_X4_places C hK (hB.1 5 _ rfl) dX11_sumBySeats_20 ?_
        refine lv_iload hx hb dX11_sumBySeats_23 (lv_at hl 5 rfl) ?_
        obtain ⟨hn8, hf⟩ := ox_chk hf
        refine ld_X4_places C hK (hB.1 5 _ rfl) hn8 rfl dX11_sumBySeats_25 ?_
        refine lv_iload hx hb dX11_sumBySeats_26 (lv_at hl 4 rfl) ?_
        obtain ⟨r9, hr9, hf⟩ := ox_bind hf
        refine cxVX (bs1 := (fun q => [wMain E a_mn q_mn_0_tape (a_T 0 0) q_mn_0_spare q_mn_0_reader (a_ml 0) (a_now 0) q_mn_0_trial q_mn_0_image q_mn_0_steps q_mn_0_notes q_mn_0_futures (a_od 0) (a_crow 0) u_mn, wIArr E 114 a_crow r9.2.1, wMill E a_ml (a_nm 0) (a_T 0 0) u_ml, wLArr E 7 a_nm r9.2.2.1, wHall E a_now u_now, wOrder E a_od u_od, wScript E (a_T 0) (a_T 1 0) (a_T 2 0) (a_T 3 0) (a_T 4 0) (a_T 5 0) (a_T 6 0) (a_T 7 0) (r9.2.2.2 0), wRoll E 6 (a_T 1) (r9.2.2.2 1), wRoll E 6 (a_T 2) (r9.2.2.2 2), wRoll E 4 (a_T 3) (r9.2.2.2 3), wRoll E 14 (a_T 4) (r9.2.2.2 4), wFormula E (a_T 5) (r9.2.2.2 5), wFormula E (a_T 6) (r9.2.2.2 6), wFormula E (a_T 7) (r9.2.2.2 7)])) (As := [.int x_1, .int (gA u_od 0 (x3).toNatClampNeg), .int x2]) (rest := []) (st1 := [.int r9.1]) C hK (tX11_clapBeside l E a_mn q_mn_0_tape q_mn_0_spare q_mn_0_reader q_mn_0_trial q_mn_0_image q_mn_0_steps q_mn_0_notes q_mn_0_futures (a_od 0) u_mn a_crow u4 a_ml u_ml a_nm u5 a_now u_now a_T u6 x_1 (gA u_od 0 (x3).toNatClampNeg) x2 r9 hr9) lk_X11_334 (by rw [hRf, hRl]; decide) ⟨Nat.zero_le _, Nat.zero_le _⟩ hB hD hN [0, 1, 2, 3, 4, 6, 7, 8, 9, 10, 11, 12, 13] (by decide) rfl (fun _ => rfl) (fun _ => rfl) (rc_X11 hK (hB.1 0 _ rfl)) rfl hl.1 rfl rfl (Nat.le_of_ble_eq_true rfl) dX11_sumBySeats_28 (fun H locs q10 hB => ?_)
        have hB : WB E ad s.heap [wMain E a_mn q_mn_0_tape (a_T 0 0) q_mn_0_spare q_mn_0_reader (a_ml 0) (a_now 0) q_mn_0_trial q_mn_0_image q_mn_0_steps q_mn_0_notes q_mn_0_futures (a_od 0) (a_crow 0) u_mn, wIArr E 114 a_crow r9.2.1, wMill E a_ml (a_nm 0) (a_T 0 0) u_ml, wLArr E 7 a_nm r9.2.2.1, wHall E a_now u_now, wOrder E a_od u_od, wScript E (a_T 0) (a_T 1 0) (a_T 2 0) (a_T 3 0) (a_T 4 0) (a_T 5 0) (a_T 6 0) (a_T 7 0) (r9.2.2.2 0), wRoll E 6 (a_T 1) (r9.2.2.2 1), wRoll E 6 (a_T 2) (r9.2.2.2 2), wRoll E 4 (a_T 3) (r9.2.2.2 3), wRoll E 14 (a_T 4) (r9.2.2.2 4), wFormula E (a_T 5) (r9.2.2.2 5), wFormula E (a_T 6) (r9.2.2.2 6), wFormula E (a_T 7) (r9.2.2.2 7)] H locs := hB
        refine lv_topi (fun x11 ex11 => ?_)
        have hf := ox_lt ex11 hf
        refine lv_istore (lv' := [(4, .int x11), (0, .ref (a_mn 0)), (1, .int x_1), (2, .int x_2), (3, .int x1), (5, .int x3)]) hx hb dX11_sumBySeats_31 hl (by decide) rfl (fun ls hl => ?_)
        refine lv_iload_n hx hb dX11_sumBySeats_33 rfl (lv_at hl 4 rfl) ?_
        refine lv_iload hx hb dX11_sumBySeats_34 (lv_at hl 0 rfl) ?_
        refine lv_iadd hx hb dX11_sumBySeats_36 ?_
        refine lv_topi (fun x12 ex12 => ?_)
        have hf := ox_lt ex12 hf
        refine lv_istore_n (lv' := [(3, .int x12), (4, .int x11), (0, .ref (a_mn 0)), (1, .int x_1), (2, .int x_2), (5, .int x3)]) hx hb dX11_sumBySeats_37 rfl hl (by decide) rfl (fun ls hl => ?_)
        obtain ⟨x13, ex13⟩ : ∃ z : Int32, z = (x3 + 1) := ⟨_, rfl⟩
        have hf := ox_lt ex13 hf
        refine lv_iinc (v := x13) (lv' := [(5, .int x13), (3, .int x12), (4, .int x11), (0, .ref (a_mn 0)), (1, .int x_1), (2, .int x_2)]) hx hb dX11_sumBySeats_38 hl (k := 5) rfl (by rw [ex13]; rfl) (by decide) rfl (fun ls hl => ?_)
        refine lv_goto (tgt := 8) hx hb dX11_sumBySeats_41 (by decide) ?_
        exact ih _ _ _ _ _ _ ls H locs (lv_sub hl [3, 4, 5, 1, 2, 0] rfl) hB hf
  exact hloop1 fuel _ _ _ _ _ _ ls H locs (lv_sub hl [3, 4, 5, 2, 1, 0] rfl) hB hX1
set_option maxHeartbeats 4000000 in
set_option maxRecDepth 20000 in
theorem tX11_bestSeats (l : Launch) (E : Ev) (a_mn : Nat → Nat) (q_mn_0_tape : Nat) (q_mn_0_spare : Nat) (q_mn_0_reader : Nat) (q_mn_0_trial : Nat) (q_mn_0_image : Nat) (q_mn_0_steps : Nat) (q_mn_0_notes : Nat) (q_mn_0_futures : Nat) (u_mn : St) (a_crow : Nat → Nat) (u_crow : St) (a_ml : Nat → Nat) (q_ml_0_script : Nat) (u_ml : St) (a_nm : Nat → Nat) (u_nm : St) (a_now : Nat → Nat) (u_now : St) (a_od : Nat → Nat) (u_od : St) (a_T : Nat → Nat → Nat) (u_T : Nat → St) (x_1 : Int32) (x_2 : Int32) (res : Int32 × St × St × St × St × (Nat → St)) (hf : fX11_bestSeats u_mn u_crow u_ml u_nm u_now u_od u_T x_1 x_2 = some res) : MX l E yX11_bestSeats cX11_bestSeats 6 (some .int) (rmm 6 153) [wMain E a_mn q_mn_0_tape (a_T 0 0) q_mn_0_spare q_mn_0_reader (a_ml 0) (a_now 0) q_mn_0_trial q_mn_0_image q_mn_0_steps q_mn_0_notes q_mn_0_futures (a_od 0) (a_crow 0) u_mn, wIArr E 114 a_crow u_crow, wMill E a_ml (a_nm 0) q_ml_0_script u_ml, wLArr E 7 a_nm u_nm, wHall E a_now u_now, wOrder E a_od u_od, wScript E (a_T 0) (a_T 1 0) (a_T 2 0) (a_T 3 0) (a_T 4 0) (a_T 5 0) (a_T 6 0) (a_T 7 0) (u_T 0), wRoll E 6 (a_T 1) (u_T 1), wRoll E 6 (a_T 2) (u_T 2), wRoll E 4 (a_T 3) (u_T 3), wRoll E 14 (a_T 4) (u_T 4), wFormula E (a_T 5) (u_T 5), wFormula E (a_T 6) (u_T 6), wFormula E (a_T 7) (u_T 7)] (fun q => [wMain E a_mn q_mn_0_tape (a_T 0 0) q_mn_0_spare q_mn_0_reader (a_ml 0) (a_now 0) q_mn_0_trial q_mn_0_image q_mn_0_steps q_mn_0_notes q_mn_0_futures (a_od 0) (a_crow 0) u_mn, wIArr E 114 a_crow res.2.1, wMill E a_ml (a_nm 0) (a_T 0 0) res.2.2.1, wLArr E 7 a_nm res.2.2.2.1, wHall E a_now u_now, wOrder E a_od res.2.2.2.2.1, wScript E (a_T 0) (a_T 1 0) (a_T 2 0) (a_T 3 0) (a_T 4 0) (a_T 5 0) (a_T 6 0) (a_T 7 0) (res.2.2.2.2.2 0), wRoll E 6 (a_T 1) (res.2.2.2.2.2 1), wRoll E 6 (a_T 2) (res.2.2.2.2.2 2), wRoll E 4 (a_T 3) (res.2.2.2.2.2 3), wRoll E 14 (a_T 4) (res.2.2.2.2.2 4), wFormula E (a_T 5) (res.2.2.2.2.2 5), wFormula E (a_T 6) (res.2.2.2.2.2 6), wFormula E (a_T 7) (res.2.2.2.2.2 7)]) [.ref (a_mn 0), .int x_1, .int x_2] (some (.int res.1)) := by
  unfold fX11_bestSeats at hf
  refine MX.ofI rfl (by decide) (Nat.le_of_ble_eq_true rfl) ?_
  intro p e R s m args below meth c ls Q ad H hRf hRl C hB hD hK hN hl hQ
  generalize hlocs : ([] : List Loc) = locs at hB ⊢
  clear hlocs
  have hx := C.1
  have hb := C.2.1
  have hl : lv_has ls 6 [(0, .ref (a_mn 0)), (1, .int x_1), (2, .int x_2)] := hl
  refine lv_iconst (v := 0) hx hb dX11_bestSeats_0 (by decide) ?_
  refine lv_istore_n (lv' := [(3, .int (0 : Int32)), (0, .ref (a_mn 0)), (1, .int x_1), (2, .int x_2)]) hx hb dX11_bestSeats_1 rfl hl (by decide) rfl (fun ls hl => ?_)
  refine lv_aload_n hx hb dX11_bestSeats_2 rfl (lv_at hl 1 rfl) ?_
  refine gf_X11_X11_mill C hK (hB.1 0 _ rfl) dX11_bestSeats_3 ?_
  refine lv_aload_n hx hb dX11_bestSeats_6 rfl (lv_at hl 1 rfl) ?_
  refine gf_X11_X11_told C hK (hB.1 0 _ rfl) dX11_bestSeats_7 ?_
  obtain ⟨r1, er1, hf⟩ := ox_ex hf
  refine cxVX (bs1 := (fun q => [wMain E a_mn q_mn_0_tape (a_T 0 0) q_mn_0_spare q_mn_0_reader (a_ml 0) (a_now 0) q_mn_0_trial q_mn_0_image q_mn_0_steps q_mn_0_notes q_mn_0_futures (a_od 0) (a_crow 0) u_mn, wIArr E 114 a_crow u_crow, wMill E a_ml (a_nm 0) (a_T 0 0) r1, wLArr E 7 a_nm u_nm, wHall E a_now u_now, wOrder E a_od u_od, wScript E (a_T 0) (a_T 1 0) (a_T 2 0) (a_T 3 0) (a_T 4 0) (a_T 5 0) (a_T 6 0) (a_T 7 0) (u_T 0), wRoll E 6 (a_T 1) (u_T 1), wRoll E 6 (a_T 2) (u_T 2), wRoll E 4 (a_T 3) (u_T 3), wRoll E 14 (a_T 4) (u_T 4), wFormula E (a_T 5) (u_T 5), wFormula E (a_T 6) (u_T 6), wFormula E (a_T 7) (u_T 7)])) (As := [.ref (a_T 0 0)]) (rest := []) (st1 := []) C hK (tX2_asItGoes l E a_ml (a_nm 0) q_ml_0_script u_ml (a_T 0 0) r1 er1.symm) lk_X11_198 (by rw [hRf, hRl]; decide) ⟨Nat.zero_le _, Nat.zero_le _⟩ hB hD hN [2] (by decide) rfl (fun _ => rfl) (fun _ => rfl) (rc_X2 hK (hB.1 2 _ rfl)) rfl hl.1 rfl rfl (Nat.le_of_ble_eq_true rfl) dX11_bestSeats_10 (fun H locs q2 hB => ?_)
  have hB : WB E ad s.heap [wMain E a_mn q_mn_0_tape (a_T 0 0) q_mn_0_spare q_mn_0_reader (a_ml 0) (a_now 0) q_mn_0_trial q_mn_0_image q_mn_0_steps q_mn_0_notes q_mn_0_futures (a_od 0) (a_crow 0) u_mn, wIArr E 114 a_crow u_crow, wMill E a_ml (a_nm 0) (a_T 0 0) r1, wLArr E 7 a_nm u_nm, wHall E a_now u_now, wOrder E a_od u_od, wScript E (a_T 0) (a_T 1 0) (a_T 2 0) (a_T 3 0) (a_T 4 0) (a_T 5 0) (a_T 6 0) (a_T 7 0) (u_T 0), wRoll E 6 (a_T 1) (u_T 1), wRoll E 6 (a_T 2) (u_T 2), wRoll E 4 (a_T 3) (u_T 3), wRoll E 14 (a_T 4) (u_T 4), wFormula E (a_T 5) (u_T 5), wFormula E (a_T 6) (u_T 6), wFormula E (a_T 7) (u_T 7)] H locs := hB
  refine lv_aload_n hx hb dX11_bestSeats_13 rfl (lv_at hl 1 rfl) ?_
  refine gf_X11_X11_clapRow C hK (hB.1 0 _ rfl) dX11_bestSeats_14 ?_
  refine lv_bipush (v := 100) hx hb dX11_bestSeats_17 (by decide) ?_
  obtain ⟨r3, hr3, hf⟩ := ox_bind hf
  refine cxSX (bs1 := (fun q => [wMain E a_mn q_mn_0_tape (a_T 0 0) q_mn_0_spare q_mn_0_reader (a_ml 0) (a_now 0) q_mn_0_trial q_mn_0_image q_mn_0_steps q_mn_0_notes q_mn_0_futures (a_od 0) (a_crow 0) u_mn, wIArr E 114 a_crow r3, wMill E a_ml (a_nm 0) (a_T 0 0) r1, wLArr E 7 a_nm u_nm, wHall E a_now u_now, wOrder E a_od u_od, wScript E (a_T 0) (a_T 1 0) (a_T 2 0) (a_T 3 0) (a_T 4 0) (a_T 5 0) (a_T 6 0) (a_T 7 0) (u_T 0), wRoll E 6 (a_T 1) (u_T 1), wRoll E 6 (a_T 2) (u_T 2), wRoll E 4 (a_T 3) (u_T 3), wRoll E 14 (a_T 4) (u_T 4), wFormula E (a_T 5) (u_T 5), wFormula E (a_T 6) (u_T 6), wFormula E (a_T 7) (u_T 7)])) (As := [.ref (a_crow 0), .int (100 : Int32)]) (rest := []) (st1 := []) C hK (tJ7_fill_53178 l E 114 a_crow u_crow (100 : Int32) r3 hr3) lk_X11_325 (by rw [hRf, hRl]; decide) ⟨Nat.zero_le _, Nat.zero_le _⟩ hB hD hN [1] (by decide) rfl (fun _ => rfl) (fun _ => rfl) rfl hl.1 rfl rfl (Nat.le_of_ble_eq_true rfl) dX11_bestSeats_19 (fun H locs q4 hB => ?_)
  have hB : WB E ad s.heap [wMain E a_mn q_mn_0_tape (a_T 0 0) q_mn_0_spare q_mn_0_reader (a_ml 0) (a_now 0) q_mn_0_trial q_mn_0_image q_mn_0_steps q_mn_0_notes q_mn_0_futures (a_od 0) (a_crow 0) u_mn, wIArr E 114 a_crow r3, wMill E a_ml (a_nm 0) (a_T 0 0) r1, wLArr E 7 a_nm u_nm, wHall E a_now u_now, wOrder E a_od u_od, wScript E (a_T 0) (a_T 1 0) (a_T 2 0) (a_T 3 0) (a_T 4 0) (a_T 5 0) (a_T 6 0) (a_T 7 0) (u_T 0), wRoll E 6 (a_T 1) (u_T 1), wRoll E 6 (a_T 2) (u_T 2), wRoll E 4 (a_T 3) (u_T 3), wRoll E 14 (a_T 4) (u_T 4), wFormula E (a_T 5) (u_T 5), wFormula E (a_T 6) (u_T 6), wFormula E (a_T 7) (u_T 7)] H locs := hB
  refine lv_aload_n hx hb dX11_bestSeats_22 rfl (lv_at hl 1 rfl) ?_
  refine gf_X11_X11_order C hK (hB.1 0 _ rfl) dX11_bestSeats_23 ?_
  refine lv_iload_n hx hb dX11_bestSeats_26 rfl (lv_at hl 3 rfl) ?_
  obtain ⟨r5, hr5, hf⟩ := ox_bind hf
  refine cxVX (bs1 := (fun q => [wMain E a_mn q_mn_0_tape (a_T 0 0) q_mn_0_spare q_mn_0_reader (a_ml 0) (a_now 0) q_mn_0_trial q_mn_0_image q_mn_0_steps q_mn_0_notes q_mn_0_futures (a_od 0) (a_crow 0) u_mn, wIArr E 114 a_crow r3, wMill E a_ml (a_nm 0) (a_T 0 0) r1, wLArr E 7 a_nm u_nm, wHall E a_now u_now, wOrder E a_od r5, wScript E (a_T 0) (a_T 1 0) (a_T 2 0) (a_T 3 0) (a_T 4 0) (a_T 5 0) (a_T 6 0) (a_T 7 0) (u_T 0), wRoll E 6 (a_T 1) (u_T 1), wRoll E 6 (a_T 2) (u_T 2), wRoll E 4 (a_T 3) (u_T 3), wRoll E 14 (a_T 4) (u_T 4), wFormula E (a_T 5) (u_T 5), wFormula E (a_T 6) (u_T 6), wFormula E (a_T 7) (u_T 7)])) (As := [.int x_2]) (rest := []) (st1 := []) C hK (tX4_begin l E a_od u_od x_2 r5 hr5) lk_X11_300 (by rw [hRf, hRl]; decide) ⟨Nat.zero_le _, Nat.zero_le _⟩ hB hD hN [5] (by decide) rfl (fun _ => rfl) (fun _ => rfl) (rc_X4 hK (hB.1 5 _ rfl)) rfl hl.1 rfl rfl (Nat.le_of_ble_eq_true rfl) dX11_bestSeats_27 (fun H locs q6 hB => ?_)
  have hB : WB E ad s.heap [wMain E a_mn q_mn_0_tape (a_T 0 0) q_mn_0_spare q_mn_0_reader (a_ml 0) (a_now 0) q_mn_0_trial q_mn_0_image q_mn_0_steps q_mn_0_notes q_mn_0_futures (a_od 0) (a_crow 0) u_mn, wIArr E 114 a_crow r3, wMill E a_ml (a_nm 0) (a_T 0 0) r1, wLArr E 7 a_nm u_nm, wHall E a_now u_now, wOrder E a_od r5, wScript E (a_T 0) (a_T 1 0) (a_T 2 0) (a_T 3 0) (a_T 4 0) (a_T 5 0) (a_T 6 0) (a_T 7 0) (u_T 0), wRoll E 6 (a_T 1) (u_T 1), wRoll E 6 (a_T 2) (u_T 2), wRoll E 4 (a_T 3) (u_T 3), wRoll E 14 (a_T 4) (u_T 4), wFormula E (a_T 5) (u_T 5), wFormula E (a_T 6) (u_T 6), wFormula E (a_T 7) (u_T 7)] H locs := hB
  refine lv_iconst (v := 0) hx hb dX11_bestSeats_30 (by decide) ?_
  refine lv_istore (lv' := [(4, .int (0 : Int32)), (3, .int (0 : Int32)), (0, .ref (a_mn 0)), (1, .int x_1), (2, .int x_2)]) hx hb dX11_bestSeats_31 hl (by decide) rfl (fun ls hl => ?_)
  obtain ⟨X1, hX1, hf⟩ := ox_bind hf
  have hexit1 : ∀ y28, y28 = X1 → ∀ (ls : Array Slot) (H : Heap) (locs : List Loc), lv_has ls 6 [(3, .int y28.1)] → WB E ad s.heap [wMain E a_mn q_mn_0_tape (a_T 0 0) q_mn_0_spare q_mn_0_reader (a_ml 0) (a_now 0) q_mn_0_trial q_mn_0_image q_mn_0_steps q_mn_0_notes q_mn_0_futures (a_od 0) (a_crow 0) u_mn, wIArr E 114 a_crow y28.2.1, wMill E a_ml (a_nm 0) (a_T 0 0) r1, wLArr E 7 a_nm y28.2.2.1, wHall E a_now u_now, wOrder E a_od y28.2.2.2.1, wScript E (a_T 0) (a_T 1 0) (a_T 2 0) (a_T 3 0) (a_T 4 0) (a_T 5 0) (a_T 6 0) (a_T 7 0) (y28.2.2.2.2 0), wRoll E 6 (a_T 1) (y28.2.2.2.2 1), wRoll E 6 (a_T 2) (y28.2.2.2.2 2), wRoll E 4 (a_T 3) (y28.2.2.2.2 3), wRoll E 14 (a_T 4) (y28.2.2.2.2 4), wFormula E (a_T 5) (y28.2.2.2.2 5), wFormula E (a_T 6) (y28.2.2.2.2 6), wFormula E (a_T 7) (y28.2.2.2.2 7)] H locs → W p l e R s m args below meth c H locs 0 0 Q (F0 m 87 ls []) := by
    intro y28 hy ls H locs hl hB
    subst hy
    refine lv_iload_n hx hb dX11_bestSeats_87 rfl (lv_at hl 0 rfl) ?_
    have hf := Option.some.inj hf
    subst hf
    exact hQ _ _ H locs (fun _ => 0) hB dX11_bestSeats_88
  have hloop1 : ∀ (nf : Nat) (x7 : Int32) (x8 : Int32) (u9 : St) (u10 : St) (u11 : St) (u12 : Nat → St) (ls : Array Slot) (H : Heap) (locs : List Loc), lv_has ls 6 [(0, .ref (a_mn 0)), (1, .int x_1), (2, .int x_2), (3, .int x7), (4, .int x8)] → WB E ad s.heap [wMain E a_mn q_mn_0_tape (a_T 0 0) q_mn_0_spare q_mn_0_reader (a_ml 0) (a_now 0) q_mn_0_trial q_mn_0_image q_mn_0_steps q_mn_0_notes q_mn_0_futures (a_od 0) (a_crow 0) u_mn, wIArr E 114 a_crow u9, wMill E a_ml (a_nm 0) (a_T 0 0) r1, wLArr E 7 a_nm u10, wHall E a_now u_now, wOrder E a_od u11, wScript E (a_T 0) (a_T 1 0) (a_T 2 0) (a_T 3 0) (a_T 4 0) (a_T 5 0) (a_T 6 0) (a_T 7 0) (u12 0), wRoll E 6 (a_T 1) (u12 1), wRoll E 6 (a_T 2) (u12 2), wRoll E 4 (a_T 3) (u12 3), wRoll E 14 (a_T 4) (u12 4), wFormula E (a_T 5) (u12 5), wFormula E (a_T 6) (u12 6), wFormula E (a_T 7) (u12 7)] H locs → fX11_bestSeats_L1 u_mn u_now x_1 x_2 r1 nf x7 x8 u9 u10 u11 u12 = some X1 → W p l e R s m args below meth c H locs 0 0 Q (F0 m 33 ls []) := by
    intro nf
    induction nf with
    | zero =>
      intro x7 x8 u9 u10 u11 u12 ls H locs hl hB hf
      simp [fX11_bestSeats_L1] at hf
    | succ nf ih =>
      intro x7 x8 u9 u10 u11 u12 ls H locs hl hB hf
      rw [fX11_bestSeats_L1] at hf
      refine lv_iload hx hb dX11_bestSeats_33 (lv_at hl 4 rfl) ?_
      refine lv_aload_n hx hb dX11_bestSeats_35 rfl (lv_at hl 0 rfl) ?_
      refine gf_X11_X11_order C hK (hB.1 0 _ rfl) dX11_bestSeats_36 ?_
      refine gf_X11_X4_orders C hK (hB.1 5 _ rfl) dX11_bestSeats_39 ?_
      refine lv_icmp_ge (tgt := 87) hx hb dX11_bestSeats_42 (by decide) (fun c13 => ?_) (fun c13 => ?_)
      · have hf := (if_pos c13).symm.trans hf
        exact hexit1 _ (Option.some.inj hf) ls H locs (lv_sub hl [3] rfl) hB
      · have hf := (if_neg c13).symm.trans hf
        refine lv_aload_n hx hb dX11_bestSeats_45 rfl (lv_at hl 0 rfl) ?_
        refine lv_iload_n hx hb dX11_bestSeats_46 rfl (lv_at hl 1 rfl) ?_
        refine lv_iload_n hx hb dX11_bestSeats_47 rfl (lv_at hl 2 rfl) ?_
        obtain ⟨r14, hr14, hf⟩ := ox_bind hf
        refine cxVX (bs1 := (fun q => [wMain E a_mn q_mn_0_tape (a_T 0 0) q_mn_0_spare q_mn_0_reader (a_ml 0) (a_now 0) q_mn_0_trial q_mn_0_image q_mn_0_steps q_mn_0_notes q_mn_0_futures (a_od 0) (a_crow 0) u_mn, wIArr E 114 a_crow r14.2.1, wMill E a_ml (a_nm 0) (a_T 0 0) r1, wLArr E 7 a_nm r14.2.2.1, wHall E a_now u_now, wOrder E a_od u11, wScript E (a_T 0) (a_T 1 0) (a_T 2 0) (a_T 3 0) (a_T 4 0) (a_T 5 0) (a_T 6 0) (a_T 7 0) (r14.2.2.2 0), wRoll E 6 (a_T 1) (r14.2.2.2 1), wRoll E 6 (a_T 2) (r14.2.2.2 2), wRoll E 4 (a_T 3) (r14.2.2.2 3), wRoll E 14 (a_T 4) (r14.2.2.2 4), wFormula E (a_T 5) (r14.2.2.2 5), wFormula E (a_T 6) (r14.2.2.2 6), wFormula E (a_T 7) (r14.2.2.2 7)])) (As := [.int x_1, .int x_2]) (rest := []) (st1 := [.int r14.1]) C hK (tX11_sumBySeats l E a_mn q_mn_0_tape q_mn_0_spare q_mn_0_reader q_mn_0_trial q_mn_0_image q_mn_0_steps q_mn_0_notes q_mn_0_futures u_mn a_crow u9 a_ml r1 a_nm u10 a_now u_now a_od u11 a_T u12 x_1 x_2 r14 hr14) lk_X11_331 (by rw [hRf, hRl]; decide) ⟨Nat.zero_le _, Nat.zero_le _⟩ hB hD hN [0, 1, 2, 3, 4, 5, 6, 7, 8, 9, 10, 11, 12, 13] (by decide) rfl (fun _ => rfl) (fun _ => rfl) (rc_X11 hK (hB.1 0 _ rfl)) rfl hl.1 rfl rfl (Nat.le_of_ble_eq_true rfl) dX11_bestSeats_48 (fun H locs q15 hB => ?_)
        have hB : WB E ad s.heap [wMain E a_mn q_mn_0_tape (a_T 0 0) q_mn_0_spare q_mn_0_reader (a_ml 0) (a_now 0) q_mn_0_trial q_mn_0_image q_mn_0_steps q_mn_0_notes q_mn_0_futures (a_od 0) (a_crow 0) u_mn, wIArr E 114 a_crow r14.2.1, wMill E a_ml (a_nm 0) (a_T 0 0) r1, wLArr E 7 a_nm r14.2.2.1, wHall E a_now u_now, wOrder E a_od u11, wScript E (a_T 0) (a_T 1 0) (a_T 2 0) (a_T 3 0) (a_T 4 0) (a_T 5 0) (a_T 6 0) (a_T 7 0) (r14.2.2.2 0), wRoll E 6 (a_T 1) (r14.2.2.2 1), wRoll E 6 (a_T 2) (r14.2.2.2 2), wRoll E 4 (a_T 3) (r14.2.2.2 3), wRoll E 14 (a_T 4) (r14.2.2.2 4), wFormula E (a_T 5) (r14.2.2.2 5), wFormula E (a_T 6) (r14.2.2.2 6), wFormula E (a_T 7) (r14.2.2.2 7)] H locs := hB
        refine lv_topi (fun x16 ex16 => ?_)
        have hf := ox_lt ex16 hf
        refine lv_istore (lv' := [(5, .int x16), (0, .ref (a_mn 0)), (1, .int x_1), (2, .int x_2), (3, .int x7), (4, .int x8)]) hx hb dX11_bestSeats_51 hl (by decide) rfl (fun ls hl => ?_)
        refine lv_iload hx hb dX11_bestSeats_53 (lv_at hl 5 rfl) ?_
        obtain ⟨j19, ej19, hf⟩ := ox_ex hf
        have hj19 : ∀ (x17 : Int32) (u18 : St) (ls : Array Slot) (H : Heap) (locs : List Loc), lv_has ls 6 [(0, .ref (a_mn 0)), (1, .int x_1), (2, .int x_2), (3, .int x17), (4, .int x8)] → WB E ad s.heap [wMain E a_mn q_mn_0_tape (a_T 0 0) q_mn_0_spare q_mn_0_reader (a_ml 0) (a_now 0) q_mn_0_trial q_mn_0_image q_mn_0_steps q_mn_0_notes q_mn_0_futures (a_od 0) (a_crow 0) u_mn, wIArr E 114 a_crow r14.2.1, wMill E a_ml (a_nm 0) (a_T 0 0) r1, wLArr E 7 a_nm r14.2.2.1, wHall E a_now u_now, wOrder E a_od u18, wScript E (a_T 0) (a_T 1 0) (a_T 2 0) (a_T 3 0) (a_T 4 0) (a_T 5 0) (a_T 6 0) (a_T 7 0) (r14.2.2.2 0), wRoll E 6 (a_T 1) (r14.2.2.2 1), wRoll E 6 (a_T 2) (r14.2.2.2 2), wRoll E 4 (a_T 3) (r14.2.2.2 3), wRoll E 14 (a_T 4) (r14.2.2.2 4), wFormula E (a_T 5) (r14.2.2.2 5), wFormula E (a_T 6) (r14.2.2.2 6), wFormula E (a_T 7) (r14.2.2.2 7)] H locs → j19 x17 u18 = some X1 → W p l e R s m args below meth c H locs 0 0 Q (F0 m 74 ls []) := by
          intro x17 u18 ls H locs hl hB hf
          have hf := ox_a2 ej19 hf
          refine lv_aload_n hx hb dX11_bestSeats_74 rfl (lv_at hl 0 rfl) ?_
          refine gf_X11_X11_order C hK (hB.1 0 _ rfl) dX11_bestSeats_75 ?_
          obtain ⟨r20, hr20, hf⟩ := ox_bind hf
          refine cxVX (bs1 := (fun q => [wMain E a_mn q_mn_0_tape (a_T 0 0) q_mn_0_spare q_mn_0_reader (a_ml 0) (a_now 0) q_mn_0_trial q_mn_0_image q_mn_0_steps q_mn_0_notes q_mn_0_futures (a_od 0) (a_crow 0) u_mn, wIArr E 114 a_crow r14.2.1, wMill E a_ml (a_nm 0) (a_T 0 0) r1, wLArr E 7 a_nm r14.2.2.1, wHall E a_now u_now, wOrder E a_od r20, wScript E (a_T 0) (a_T 1 0) (a_T 2 0) (a_T 3 0) (a_T 4 0) (a_T 5 0) (a_T 6 0) (a_T 7 0) (r14.2.2.2 0), wRoll E 6 (a_T 1) (r14.2.2.2 1), wRoll E 6 (a_T 2) (r14.2.2.2 2), wRoll E 4 (a_T 3) (r14.2.2.2 3), wRoll E 14 (a_T 4) (r14.2.2.2 4), wFormula E (a_T 5) (r14.2.2.2 5), wFormula E (a_T 6) (r14.2.2.2 6), wFormula E (a_T 7) (r14.2.2.2 7)])) (As := []) (rest := []) (st1 := []) C hK (tX4_turnToNext l E a_od u18 r20 hr20) lk_X11_310 (by rw [hRf, hRl]; decide) ⟨Nat.zero_le _, Nat.zero_le _⟩ hB hD hN [5] (by decide) rfl (fun _ => rfl) (fun _ => rfl) (rc_X4 hK (hB.1 5 _ rfl)) rfl hl.1 rfl rfl (Nat.le_of_ble_eq_true rfl) dX11_bestSeats_78 (fun H locs q21 hB => ?_)
          have hB : WB E ad s.heap [wMain E a_mn q_mn_0_tape (a_T 0 0) q_mn_0_spare q_mn_0_reader (a_ml 0) (a_now 0) q_mn_0_trial q_mn_0_image q_mn_0_steps q_mn_0_notes q_mn_0_futures (a_od 0) (a_crow 0) u_mn, wIArr E 114 a_crow r14.2.1, wMill E a_ml (a_nm 0) (a_T 0 0) r1, wLArr E 7 a_nm r14.2.2.1, wHall E a_now u_now, wOrder E a_od r20, wScript E (a_T 0) (a_T 1 0) (a_T 2 0) (a_T 3 0) (a_T 4 0) (a_T 5 0) (a_T 6 0) (a_T 7 0) (r14.2.2.2 0), wRoll E 6 (a_T 1) (r14.2.2.2 1), wRoll E 6 (a_T 2) (r14.2.2.2 2), wRoll E 4 (a_T 3) (r14.2.2.2 3), wRoll E 14 (a_T 4) (r14.2.2.2 4), wFormula E (a_T 5) (r14.2.2.2 5), wFormula E (a_T 6) (r14.2.2.2 6), wFormula E (a_T 7) (r14.2.2.2 7)] H locs := hB
          obtain ⟨x22, ex22⟩ : ∃ z : Int32, z = (x8 + 1) := ⟨_, rfl⟩
          have hf := ox_lt ex22 hf
          refine lv_iinc (v := x22) (lv' := [(4, .int x22), (0, .ref (a_mn 0)), (1, .int x_1), (2, .int x_2), (3, .int x17)]) hx hb dX11_bestSeats_81 hl (k := 4) rfl (by rw [ex22]; rfl) (by decide) rfl (fun ls hl => ?_)
          refine lv_goto (tgt := 33) hx hb dX11_bestSeats_84 (by decide) ?_
          exact ih _ _ _ _ _ _ ls H locs (lv_sub hl [1, 2, 3, 4, 0] rfl) hB hf
        obtain ⟨j23, ej23, hf⟩ := ox_ex hf
        have hj23 : ∀ (ls : Array Slot) (H : Heap) (locs : List Loc), lv_has ls 6 [(0, .ref (a_mn 0)), (1, .int x_1), (2, .int x_2), (4, .int x8), (5, .int x16)] → WB E ad s.heap [wMain E a_mn q_mn_0_tape (a_T 0 0) q_mn_0_spare q_mn_0_reader (a_ml 0) (a_now 0) q_mn_0_trial q_mn_0_image q_mn_0_steps q_mn_0_notes q_mn_0_futures (a_od 0) (a_crow 0) u_mn, wIArr E 114 a_crow r14.2.1, wMill E a_ml (a_nm 0) (a_T 0 0) r1, wLArr E 7 a_nm r14.2.2.1, wHall E a_now u_now, wOrder E a_od u11, wScript E (a_T 0) (a_T 1 0) (a_T 2 0) (a_T 3 0) (a_T 4 0) (a_T 5 0) (a_T 6 0) (a_T 7 0) (r14.2.2.2 0), wRoll E 6 (a_T 1) (r14.2.2.2 1), wRoll E 6 (a_T 2) (r14.2.2.2 2), wRoll E 4 (a_T 3) (r14.2.2.2 3), wRoll E 14 (a_T 4) (r14.2.2.2 4), wFormula E (a_T 5) (r14.2.2.2 5), wFormula E (a_T 6) (r14.2.2.2 6), wFormula E (a_T 7) (r14.2.2.2 7)] H locs → j23 = some X1 → W p l e R s m args below meth c H locs 0 0 Q (F0 m 64 ls []) := by
          intro ls H locs hl hB hf
          have hf := ox_a0 ej23 hf
          refine lv_iload hx hb dX11_bestSeats_64 (lv_at hl 4 rfl) ?_
          refine lv_istore_n (lv' := [(3, .int x16), (0, .ref (a_mn 0)), (1, .int x_1), (2, .int x_2), (4, .int x8), (5, .int x16)]) hx hb dX11_bestSeats_66 rfl hl (by decide) rfl (fun ls hl => ?_)
          refine lv_aload_n hx hb dX11_bestSeats_67 rfl (lv_at hl 1 rfl) ?_
          refine gf_X11_X11_order C hK (hB.1 0 _ rfl) dX11_bestSeats_68 ?_
          obtain ⟨r24, hr24, hf⟩ := ox_bind hf
          refine cxVX (bs1 := (fun q => [wMain E a_mn q_mn_0_tape (a_T 0 0) q_mn_0_spare q_mn_0_reader (a_ml 0) (a_now 0) q_mn_0_trial q_mn_0_image q_mn_0_steps q_mn_0_notes q_mn_0_futures (a_od 0) (a_crow 0) u_mn, wIArr E 114 a_crow r14.2.1, wMill E a_ml (a_nm 0) (a_T 0 0) r1, wLArr E 7 a_nm r14.2.2.1, wHall E a_now u_now, wOrder E a_od r24, wScript E (a_T 0) (a_T 1 0) (a_T 2 0) (a_T 3 0) (a_T 4 0) (a_T 5 0) (a_T 6 0) (a_T 7 0) (r14.2.2.2 0), wRoll E 6 (a_T 1) (r14.2.2.2 1), wRoll E 6 (a_T 2) (r14.2.2.2 2), wRoll E 4 (a_T 3) (r14.2.2.2 3), wRoll E 14 (a_T 4) (r14.2.2.2 4), wFormula E (a_T 5) (r14.2.2.2 5), wFormula E (a_T 6) (r14.2.2.2 6), wFormula E (a_T 7) (r14.2.2.2 7)])) (As := []) (rest := []) (st1 := []) C hK (tX4_keepBest l E a_od u11 r24 hr24) lk_X11_307 (by rw [hRf, hRl]; decide) ⟨Nat.zero_le _, Nat.zero_le _⟩ hB hD hN [5] (by decide) rfl (fun _ => rfl) (fun _ => rfl) (rc_X4 hK (hB.1 5 _ rfl)) rfl hl.1 rfl rfl (Nat.le_of_ble_eq_true rfl) dX11_bestSeats_71 (fun H locs q25 hB => ?_)
          have hB : WB E ad s.heap [wMain E a_mn q_mn_0_tape (a_T 0 0) q_mn_0_spare q_mn_0_reader (a_ml 0) (a_now 0) q_mn_0_trial q_mn_0_image q_mn_0_steps q_mn_0_notes q_mn_0_futures (a_od 0) (a_crow 0) u_mn, wIArr E 114 a_crow r14.2.1, wMill E a_ml (a_nm 0) (a_T 0 0) r1, wLArr E 7 a_nm r14.2.2.1, wHall E a_now u_now, wOrder E a_od r24, wScript E (a_T 0) (a_T 1 0) (a_T 2 0) (a_T 3 0) (a_T 4 0) (a_T 5 0) (a_T 6 0) (a_T 7 0) (r14.2.2.2 0), wRoll E 6 (a_T 1) (r14.2.2.2 1), wRoll E 6 (a_T 2) (r14.2.2.2 2), wRoll E 4 (a_T 3) (r14.2.2.2 3), wRoll E 14 (a_T 4) (r14.2.2.2 4), wFormula E (a_T 5) (r14.2.2.2 5), wFormula E (a_T 6) (r14.2.2.2 6), wFormula E (a_T 7) (r14.2.2.2 7)] H locs := hB
          exact hj19 _ _ ls H locs (lv_sub hl [1, 2, 3, 0, 4] rfl) hB hf
        refine lv_if_eq (tgt := 64) hx hb dX11_bestSeats_55 (by decide) (fun c26 => ?_) (fun c26 => ?_)
        · have hf := (if_pos c26).symm.trans hf
          exact hj23 ls H locs (lv_sub hl [1, 2, 3, 5, 0] rfl) hB hf
        · have hf := (if_neg c26).symm.trans hf
          refine lv_iload hx hb dX11_bestSeats_58 (lv_at hl 0 rfl) ?_
          refine lv_iload_n hx hb dX11_bestSeats_60 rfl (lv_at hl 4 rfl) ?_
          refine lv_icmp_le (tgt := 74) hx hb dX11_bestSeats_61 (by decide) (fun c27 => ?_) (fun c27 => ?_)
          · have hf := (if_pos c27).symm.trans hf
            exact hj19 _ _ ls H locs (lv_sub hl [1, 2, 3, 4, 5] rfl) hB hf
          · have hf := (if_neg c27).symm.trans hf
            exact hj23 ls H locs (lv_sub hl [1, 2, 3, 5, 0] rfl) hB hf
  exact hloop1 fuel _ _ _ _ _ _ ls H locs (lv_sub hl [2, 3, 4, 1, 0] rfl) hB hX1
