set_option maxHeartbeats 4000000 in
set_option maxRecDepth 20000 in
theorem tX11_feed (l : Launch) (E : Ev) (a_mn : Nat → Nat) (q_mn_0_told : Nat) (q_mn_0_spare : Nat) (q_mn_0_reader : Nat) (q_mn_0_mill : Nat) (q_mn_0_now : Nat) (q_mn_0_trial : Nat) (q_mn_0_image : Nat) (q_mn_0_steps : Nat) (q_mn_0_notes : Nat) (q_mn_0_futures : Nat) (q_mn_0_order : Nat) (q_mn_0_clapRow : Nat) (u_mn : St) (a_tape : Nat → Nat) (u_tape : St) (x_1 : Int32) (x_2 : Int32) (x_3 : Int32) (x_4 : Int32) (x_5 : Int32) (res : Int32 × St × St) (hf : fX11_feed u_mn u_tape x_1 x_2 x_3 x_4 x_5 = some res) : MX l E yX11_feed cX11_feed 6 (some .int) (rmm 1 22) [wMain E a_mn (a_tape 0) q_mn_0_told q_mn_0_spare q_mn_0_reader q_mn_0_mill q_mn_0_now q_mn_0_trial q_mn_0_image q_mn_0_steps q_mn_0_notes q_mn_0_futures q_mn_0_order q_mn_0_clapRow u_mn, wBArr E 700 a_tape u_tape] (fun q => [wMain E a_mn (a_tape 0) q_mn_0_told q_mn_0_spare q_mn_0_reader q_mn_0_mill q_mn_0_now q_mn_0_trial q_mn_0_image q_mn_0_steps q_mn_0_notes q_mn_0_futures q_mn_0_order q_mn_0_clapRow res.2.1, wBArr E 700 a_tape res.2.2]) [.ref (a_mn 0), .int x_1, .int x_2, .int x_3, .int x_4, .int x_5] (some (.int res.1)) := by
  unfold fX11_feed at hf
  refine MX.ofI rfl (by decide) (Nat.le_of_ble_eq_true rfl) ?_
  intro p e R s m args below meth c ls Q ad H hRf hRl C hB hD hK hN hl hQ
  generalize hlocs : ([] : List Loc) = locs at hB ⊢
  clear hlocs
  have hx := C.1
  have hb := C.2.1
  have hl : lv_has ls 6 [(0, .ref (a_mn 0)), (1, .int x_1), (2, .int x_2), (3, .int x_3), (4, .int x_4), (5, .int x_5)] := hl
  refine lv_aload_n hx hb dX11_feed_0 rfl (lv_at hl 0 rfl) ?_
  refine gf_X11_X11_fed C hK (hB.1 0 _ rfl) dX11_feed_1 ?_
  refine lv_bipush (v := 20) hx hb dX11_feed_4 (by decide) ?_
  refine lv_iadd hx hb dX11_feed_6 ?_
  refine lv_sipush (v := 700) hx hb dX11_feed_7 (by decide) ?_
  refine lv_icmp_le (tgt := 15) hx hb dX11_feed_10 (by decide) (fun c1 => ?_) (fun c1 => ?_)
  · have hf := (if_pos c1).symm.trans hf
    refine lv_aload_n hx hb dX11_feed_15 rfl (lv_at hl 0 rfl) ?_
    refine lv_iload_n hx hb dX11_feed_16 rfl (lv_at hl 1 rfl) ?_
    obtain ⟨r2, hr2, hf⟩ := ox_bind hf
    refine cxVX (bs1 := (fun q => [wMain E a_mn (a_tape 0) q_mn_0_told q_mn_0_spare q_mn_0_reader q_mn_0_mill q_mn_0_now q_mn_0_trial q_mn_0_image q_mn_0_steps q_mn_0_notes q_mn_0_futures q_mn_0_order q_mn_0_clapRow r2.1, wBArr E 700 a_tape r2.2])) (As := [.int x_1]) (rest := []) (st1 := []) C hK (tX11_putBytes l E a_mn q_mn_0_told q_mn_0_spare q_mn_0_reader q_mn_0_mill q_mn_0_now q_mn_0_trial q_mn_0_image q_mn_0_steps q_mn_0_notes q_mn_0_futures q_mn_0_order q_mn_0_clapRow u_mn a_tape u_tape x_1 r2 hr2) lk_X11_101 (by rw [hRf, hRl]; decide) ⟨Nat.zero_le _, Nat.zero_le _⟩ hB hD hN [0, 1] (by decide) rfl (fun _ => rfl) (fun _ => rfl) (rc_X11 hK (hB.1 0 _ rfl)) rfl hl.1 rfl rfl (Nat.le_of_ble_eq_true rfl) dX11_feed_17 (fun H locs q3 hB => ?_)
    have hB : WB E ad s.heap [wMain E a_mn (a_tape 0) q_mn_0_told q_mn_0_spare q_mn_0_reader q_mn_0_mill q_mn_0_now q_mn_0_trial q_mn_0_image q_mn_0_steps q_mn_0_notes q_mn_0_futures q_mn_0_order q_mn_0_clapRow r2.1, wBArr E 700 a_tape r2.2] H locs := hB
    refine lv_aload_n hx hb dX11_feed_20 rfl (lv_at hl 0 rfl) ?_
    refine lv_iload_n hx hb dX11_feed_21 rfl (lv_at hl 2 rfl) ?_
    obtain ⟨r4, hr4, hf⟩ := ox_bind hf
    refine cxVX (bs1 := (fun q => [wMain E a_mn (a_tape 0) q_mn_0_told q_mn_0_spare q_mn_0_reader q_mn_0_mill q_mn_0_now q_mn_0_trial q_mn_0_image q_mn_0_steps q_mn_0_notes q_mn_0_futures q_mn_0_order q_mn_0_clapRow r4.1, wBArr E 700 a_tape r4.2])) (As := [.int x_2]) (rest := []) (st1 := []) C hK (tX11_putBytes l E a_mn q_mn_0_told q_mn_0_spare q_mn_0_reader q_mn_0_mill q_mn_0_now q_mn_0_trial q_mn_0_image q_mn_0_steps q_mn_0_notes q_mn_0_futures q_mn_0_order q_mn_0_clapRow (r2.1) a_tape (r2.2) x_2 r4 hr4) lk_X11_101 (by rw [hRf, hRl]; decide) ⟨Nat.zero_le _, Nat.zero_le _⟩ hB hD hN [0, 1] (by decide) rfl (fun _ => rfl) (fun _ => rfl) (rc_X11 hK (hB.1 0 _ rfl)) rfl hl.1 rfl rfl (Nat.le_of_ble_eq_true rfl) dX11_feed_22 (fun H locs q5 hB => ?_)
    have hB : WB E ad s.heap [wMain E a_mn (a_tape 0) q_mn_0_told q_mn_0_spare q_mn_0_reader q_mn_0_mill q_mn_0_now q_mn_0_trial q_mn_0_image q_mn_0_steps q_mn_0_notes q_mn_0_futures q_mn_0_order q_mn_0_clapRow r4.1, wBArr E 700 a_tape r4.2] H locs := hB
    refine lv_aload_n hx hb dX11_feed_25 rfl (lv_at hl 0 rfl) ?_
    refine lv_iload_n hx hb dX11_feed_26 rfl (lv_at hl 3 rfl) ?_
    obtain ⟨r6, hr6, hf⟩ := ox_bind hf
    refine cxVX (bs1 := (fun q => [wMain E a_mn (a_tape 0) q_mn_0_told q_mn_0_spare q_mn_0_reader q_mn_0_mill q_mn_0_now q_mn_0_trial q_mn_0_image q_mn_0_steps q_mn_0_notes q_mn_0_futures q_mn_0_order q_mn_0_clapRow r6.1, wBArr E 700 a_tape r6.2])) (As := [.int x_3]) (rest := []) (st1 := []) C hK (tX11_putBytes l E a_mn q_mn_0_told q_mn_0_spare q_mn_0_reader q_mn_0_mill q_mn_0_now q_mn_0_trial q_mn_0_image q_mn_0_steps q_mn_0_notes q_mn_0_futures q_mn_0_order q_mn_0_clapRow (r4.1) a_tape (r4.2) x_3 r6 hr6) lk_X11_101 (by rw [hRf, hRl]; decide) ⟨Nat.zero_le _, Nat.zero_le _⟩ hB hD hN [0, 1] (by decide) rfl (fun _ => rfl) (fun _ => rfl) (rc_X11 hK (hB.1 0 _ rfl)) rfl hl.1 rfl rfl (Nat.le_of_ble_eq_true rfl) dX11_feed_27 (fun H locs q7 hB => ?_)
    have hB : WB E ad s.heap [wMain E a_mn (a_tape 0) q_mn_0_told q_mn_0_spare q_mn_0_reader q_mn_0_mill q_mn_0_now q_mn_0_trial q_mn_0_image q_mn_0_steps q_mn_0_notes q_mn_0_futures q_mn_0_order q_mn_0_clapRow r6.1, wBArr E 700 a_tape r6.2] H locs := hB
    refine lv_aload_n hx hb dX11_feed_30 rfl (lv_at hl 0 rfl) ?_
    refine lv_iload hx hb dX11_feed_31 (lv_at hl 4 rfl) ?_
    obtain ⟨r8, hr8, hf⟩ := ox_bind hf
    refine cxVX (bs1 := (fun q => [wMain E a_mn (a_tape 0) q_mn_0_told q_mn_0_spare q_mn_0_reader q_mn_0_mill q_mn_0_now q_mn_0_trial q_mn_0_image q_mn_0_steps q_mn_0_notes q_mn_0_futures q_mn_0_order q_mn_0_clapRow r8.1, wBArr E 700 a_tape r8.2])) (As := [.int x_4]) (rest := []) (st1 := []) C hK (tX11_putBytes l E a_mn q_mn_0_told q_mn_0_spare q_mn_0_reader q_mn_0_mill q_mn_0_now q_mn_0_trial q_mn_0_image q_mn_0_steps q_mn_0_notes q_mn_0_futures q_mn_0_order q_mn_0_clapRow (r6.1) a_tape (r6.2) x_4 r8 hr8) lk_X11_101 (by rw [hRf, hRl]; decide) ⟨Nat.zero_le _, Nat.zero_le _⟩ hB hD hN [0, 1] (by decide) rfl (fun _ => rfl) (fun _ => rfl) (rc_X11 hK (hB.1 0 _ rfl)) rfl hl.1 rfl rfl (Nat.le_of_ble_eq_true rfl) dX11_feed_33 (fun H locs q9 hB => ?_)
    have hB : WB E ad s.heap [wMain E a_mn (a_tape 0) q_mn_0_told q_mn_0_spare q_mn_0_reader q_mn_0_mill q_mn_0_now q_mn_0_trial q_mn_0_image q_mn_0_steps q_mn_0_notes q_mn_0_futures q_mn_0_order q_mn_0_clapRow r8.1, wBArr E 700 a_tape r8.2] H locs := hB
    refine lv_aload_n hx hb dX11_feed_36 rfl (lv_at hl 0 rfl) ?_
    refine lv_iload hx hb dX11_feed_37 (lv_at hl 5 rfl) ?_
    obtain ⟨r10, hr10, hf⟩ := ox_bind hf
    refine cxVX (bs1 := (fun q => [wMain E a_mn (a_tape 0) q_mn_0_told q_mn_0_spare q_mn_0_reader q_mn_0_mill q_mn_0_now q_mn_0_trial q_mn_0_image q_mn_0_steps q_mn_0_notes q_mn_0_futures q_mn_0_order q_mn_0_clapRow r10.1, wBArr E 700 a_tape r10.2])) (As := [.int x_5]) (rest := []) (st1 := []) C hK (tX11_putBytes l E a_mn q_mn_0_told q_mn_0_spare q_mn_0_reader q_mn_0_mill q_mn_0_now q_mn_0_trial q_mn_0_image q_mn_0_steps q_mn_0_notes q_mn_0_futures q_mn_0_order q_mn_0_clapRow (r8.1) a_tape (r8.2) x_5 r10 hr10) lk_X11_101 (by rw [hRf, hRl]; decide) ⟨Nat.zero_le _, Nat.zero_le _⟩ hB hD hN [0, 1] (by decide) rfl (fun _ => rfl) (fun _ => rfl) (rc_X11 hK (hB.1 0 _ rfl)) rfl hl.1 rfl rfl (Nat.le_of_ble_eq_true rfl) dX11_feed_39 (fun H locs q11 hB => ?_)
    have hB : WB E ad s.heap [wMain E a_mn (a_tape 0) q_mn_0_told q_mn_0_spare q_mn_0_reader q_mn_0_mill q_mn_0_now q_mn_0_trial q_mn_0_image q_mn_0_steps q_mn_0_notes q_mn_0_futures q_mn_0_order q_mn_0_clapRow r10.1, wBArr E 700 a_tape r10.2] H locs := hB
    refine lv_aload_n hx hb dX11_feed_42 rfl (lv_at hl 0 rfl) ?_
    refine gf_X11_X11_fed C hK (hB.1 0 _ rfl) dX11_feed_43 ?_
    have hf := Option.some.inj hf
    subst hf
    exact hQ _ _ H locs (fun _ => 0) hB dX11_feed_46
  · have hf := (if_neg c1).symm.trans hf
    refine lv_iconst (v := (-1)) hx hb dX11_feed_13 (by decide) ?_
    have hf := Option.some.inj hf
    subst hf
    exact hQ _ _ H locs (fun _ => 0) hB dX11_feed_14
set_option maxHeartbeats 4000000 in
set_option maxRecDepth 20000 in
theorem tX11_beginAnew (l : Launch) (E : Ev) (a_mn : Nat → Nat) (q_mn_0_tape : Nat) (q_mn_0_spare : Nat) (q_mn_0_reader : Nat) (q_mn_0_mill : Nat) (q_mn_0_trial : Nat) (q_mn_0_image : Nat) (q_mn_0_futures : Nat) (q_mn_0_order : Nat) (q_mn_0_clapRow : Nat) (u_mn : St) (a_now : Nat → Nat) (u_now : St) (a_sp : Nat → Nat) (u_sp : St) (a_nt : Nat → Nat) (u_nt : St) (a_T : Nat → Nat → Nat) (u_T : Nat → St) (res : St × St × St × St) (hf : fX11_beginAnew u_mn u_now u_sp u_nt u_T = some res) : MX l E yX11_beginAnew cX11_beginAnew 1 none (rmm 1 22) [wMain E a_mn q_mn_0_tape (a_T 0 0) q_mn_0_spare q_mn_0_reader q_mn_0_mill (a_now 0) q_mn_0_trial q_mn_0_image (a_sp 0) (a_nt 0) q_mn_0_futures q_mn_0_order q_mn_0_clapRow u_mn, wHall E a_now u_now, wSteps E a_sp u_sp, wNotes E a_nt u_nt, wScript E (a_T 0) (a_T 1 0) (a_T 2 0) (a_T 3 0) (a_T 4 0) (a_T 5 0) (a_T 6 0) (a_T 7 0) (u_T 0), wRoll E 6 (a_T 1) (u_T 1), wRoll E 6 (a_T 2) (u_T 2), wRoll E 4 (a_T 3) (u_T 3), wRoll E 14 (a_T 4) (u_T 4), wFormula E (a_T 5) (u_T 5), wFormula E (a_T 6) (u_T 6), wFormula E (a_T 7) (u_T 7)] (fun q => [wMain E a_mn q_mn_0_tape (a_T 0 0) q_mn_0_spare q_mn_0_reader q_mn_0_mill (a_now 0) q_mn_0_trial q_mn_0_image (a_sp 0) (a_nt 0) q_mn_0_futures q_mn_0_order q_mn_0_clapRow res.1, wHall E a_now res.2.1, wSteps E a_sp res.2.2.1, wNotes E a_nt res.2.2.2, wScript E (a_T 0) (a_T 1 0) (a_T 2 0) (a_T 3 0) (a_T 4 0) (a_T 5 0) (a_T 6 0) (a_T 7 0) (u_T 0), wRoll E 6 (a_T 1) (u_T 1), wRoll E 6 (a_T 2) (u_T 2), wRoll E 4 (a_T 3) (u_T 3), wRoll E 14 (a_T 4) (u_T 4), wFormula E (a_T 5) (u_T 5), wFormula E (a_T 6) (u_T 6), wFormula E (a_T 7) (u_T 7)]) [.ref (a_mn 0)] none := by
  unfold fX11_beginAnew at hf
  refine MX.ofV rfl (by decide) (Nat.le_of_ble_eq_true rfl) ?_
  intro p e R s m args below meth c ls Q ad H hRf hRl C hB hD hK hN hl hQ
  generalize hlocs : ([] : List Loc) = locs at hB ⊢
  clear hlocs
  have hx := C.1
  have hb := C.2.1
  have hl : lv_has ls 1 [(0, .ref (a_mn 0))] := hl
  refine lv_aload_n hx hb dX11_beginAnew_0 rfl (lv_at hl 0 rfl) ?_
  refine gf_X11_X11_now C hK (hB.1 0 _ rfl) dX11_beginAnew_1 ?_
  refine lv_aload_n hx hb dX11_beginAnew_4 rfl (lv_at hl 0 rfl) ?_
  refine gf_X11_X11_told C hK (hB.1 0 _ rfl) dX11_beginAnew_5 ?_
  refine gf_X11_X8_seed C hK (hB.1 4 _ rfl) dX11_beginAnew_8 ?_
  obtain ⟨r1, hr1, hf⟩ := ox_bind hf
  refine cxVX (bs1 := (fun q => [wMain E a_mn q_mn_0_tape (a_T 0 0) q_mn_0_spare q_mn_0_reader q_mn_0_mill (a_now 0) q_mn_0_trial q_mn_0_image (a_sp 0) (a_nt 0) q_mn_0_futures q_mn_0_order q_mn_0_clapRow u_mn, wHall E a_now r1, wSteps E a_sp u_sp, wNotes E a_nt u_nt, wScript E (a_T 0) (a_T 1 0) (a_T 2 0) (a_T 3 0) (a_T 4 0) (a_T 5 0) (a_T 6 0) (a_T 7 0) (u_T 0), wRoll E 6 (a_T 1) (u_T 1), wRoll E 6 (a_T 2) (u_T 2), wRoll E 4 (a_T 3) (u_T 3), wRoll E 14 (a_T 4) (u_T 4), wFormula E (a_T 5) (u_T 5), wFormula E (a_T 6) (u_T 6), wFormula E (a_T 7) (u_T 7)])) (As := [.int (gI (u_T 0) 6)]) (rest := []) (st1 := []) C hK (tX1_begin l E a_now u_now (gI (u_T 0) 6) r1 hr1) lk_X11_120 (by rw [hRf, hRl]; decide) ⟨Nat.zero_le _, Nat.zero_le _⟩ hB hD hN [1] (by decide) rfl (fun _ => rfl) (fun _ => rfl) (rc_X1 hK (hB.1 1 _ rfl)) rfl hl.1 rfl rfl (Nat.le_of_ble_eq_true rfl) dX11_beginAnew_11 (fun H locs q2 hB => ?_)
  have hB : WB E ad s.heap [wMain E a_mn q_mn_0_tape (a_T 0 0) q_mn_0_spare q_mn_0_reader q_mn_0_mill (a_now 0) q_mn_0_trial q_mn_0_image (a_sp 0) (a_nt 0) q_mn_0_futures q_mn_0_order q_mn_0_clapRow u_mn, wHall E a_now r1, wSteps E a_sp u_sp, wNotes E a_nt u_nt, wScript E (a_T 0) (a_T 1 0) (a_T 2 0) (a_T 3 0) (a_T 4 0) (a_T 5 0) (a_T 6 0) (a_T 7 0) (u_T 0), wRoll E 6 (a_T 1) (u_T 1), wRoll E 6 (a_T 2) (u_T 2), wRoll E 4 (a_T 3) (u_T 3), wRoll E 14 (a_T 4) (u_T 4), wFormula E (a_T 5) (u_T 5), wFormula E (a_T 6) (u_T 6), wFormula E (a_T 7) (u_T 7)] H locs := hB
  refine lv_aload_n hx hb dX11_beginAnew_14 rfl (lv_at hl 0 rfl) ?_
  refine lv_iconst (v := 0) hx hb dX11_beginAnew_15 (by decide) ?_
  refine pf_X11_X11_hasImage C hK hB hD 0 rfl (by decide) dX11_beginAnew_16 (fun H locs u3 eu3 hB => ?_)
  have hf := ox_lt eu3 hf
  have hB : WB E ad s.heap [wMain E a_mn q_mn_0_tape (a_T 0 0) q_mn_0_spare q_mn_0_reader q_mn_0_mill (a_now 0) q_mn_0_trial q_mn_0_image (a_sp 0) (a_nt 0) q_mn_0_futures q_mn_0_order q_mn_0_clapRow u3, wHall E a_now r1, wSteps E a_sp u_sp, wNotes E a_nt u_nt, wScript E (a_T 0) (a_T 1 0) (a_T 2 0) (a_T 3 0) (a_T 4 0) (a_T 5 0) (a_T 6 0) (a_T 7 0) (u_T 0), wRoll E 6 (a_T 1) (u_T 1), wRoll E 6 (a_T 2) (u_T 2), wRoll E 4 (a_T 3) (u_T 3), wRoll E 14 (a_T 4) (u_T 4), wFormula E (a_T 5) (u_T 5), wFormula E (a_T 6) (u_T 6), wFormula E (a_T 7) (u_T 7)] H locs := hB
  refine lv_aload_n hx hb dX11_beginAnew_19 rfl (lv_at hl 0 rfl) ?_
  refine gf_X11_X11_steps C hK (hB.1 0 _ rfl) dX11_beginAnew_20 ?_
  obtain ⟨r4, er4, hf⟩ := ox_ex hf
  refine cxVX (bs1 := (fun q => [wMain E a_mn q_mn_0_tape (a_T 0 0) q_mn_0_spare q_mn_0_reader q_mn_0_mill (a_now 0) q_mn_0_trial q_mn_0_image (a_sp 0) (a_nt 0) q_mn_0_futures q_mn_0_order q_mn_0_clapRow u3, wHall E a_now r1, wSteps E a_sp r4, wNotes E a_nt u_nt, wScript E (a_T 0) (a_T 1 0) (a_T 2 0) (a_T 3 0) (a_T 4 0) (a_T 5 0) (a_T 6 0) (a_T 7 0) (u_T 0), wRoll E 6 (a_T 1) (u_T 1), wRoll E 6 (a_T 2) (u_T 2), wRoll E 4 (a_T 3) (u_T 3), wRoll E 14 (a_T 4) (u_T 4), wFormula E (a_T 5) (u_T 5), wFormula E (a_T 6) (u_T 6), wFormula E (a_T 7) (u_T 7)])) (As := []) (rest := []) (st1 := []) C hK (tX9_clear l E a_sp u_sp r4 er4.symm) lk_X11_123 (by rw [hRf, hRl]; decide) ⟨Nat.zero_le _, Nat.zero_le _⟩ hB hD hN [2] (by decide) rfl (fun _ => rfl) (fun _ => rfl) (rc_X9 hK (hB.1 2 _ rfl)) rfl hl.1 rfl rfl (Nat.le_of_ble_eq_true rfl) dX11_beginAnew_23 (fun H locs q5 hB => ?_)
  have hB : WB E ad s.heap [wMain E a_mn q_mn_0_tape (a_T 0 0) q_mn_0_spare q_mn_0_reader q_mn_0_mill (a_now 0) q_mn_0_trial q_mn_0_image (a_sp 0) (a_nt 0) q_mn_0_futures q_mn_0_order q_mn_0_clapRow u3, wHall E a_now r1, wSteps E a_sp r4, wNotes E a_nt u_nt, wScript E (a_T 0) (a_T 1 0) (a_T 2 0) (a_T 3 0) (a_T 4 0) (a_T 5 0) (a_T 6 0) (a_T 7 0) (u_T 0), wRoll E 6 (a_T 1) (u_T 1), wRoll E 6 (a_T 2) (u_T 2), wRoll E 4 (a_T 3) (u_T 3), wRoll E 14 (a_T 4) (u_T 4), wFormula E (a_T 5) (u_T 5), wFormula E (a_T 6) (u_T 6), wFormula E (a_T 7) (u_T 7)] H locs := hB
  refine lv_aload_n hx hb dX11_beginAnew_26 rfl (lv_at hl 0 rfl) ?_
  refine gf_X11_X11_notes C hK (hB.1 0 _ rfl) dX11_beginAnew_27 ?_
  obtain ⟨r6, er6, hf⟩ := ox_ex hf
  refine cxVX (bs1 := (fun q => [wMain E a_mn q_mn_0_tape (a_T 0 0) q_mn_0_spare q_mn_0_reader q_mn_0_mill (a_now 0) q_mn_0_trial q_mn_0_image (a_sp 0) (a_nt 0) q_mn_0_futures q_mn_0_order q_mn_0_clapRow u3, wHall E a_now r1, wSteps E a_sp r4, wNotes E a_nt r6, wScript E (a_T 0) (a_T 1 0) (a_T 2 0) (a_T 3 0) (a_T 4 0) (a_T 5 0) (a_T 6 0) (a_T 7 0) (u_T 0), wRoll E 6 (a_T 1) (u_T 1), wRoll E 6 (a_T 2) (u_T 2), wRoll E 4 (a_T 3) (u_T 3), wRoll E 14 (a_T 4) (u_T 4), wFormula E (a_T 5) (u_T 5), wFormula E (a_T 6) (u_T 6), wFormula E (a_T 7) (u_T 7)])) (As := []) (rest := []) (st1 := []) C hK (tX3_clear l E a_nt u_nt r6 er6.symm) lk_X11_126 (by rw [hRf, hRl]; decide) ⟨Nat.zero_le _, Nat.zero_le _⟩ hB hD hN [3] (by decide) rfl (fun _ => rfl) (fun _ => rfl) (rc_X3 hK (hB.1 3 _ rfl)) rfl hl.1 rfl rfl (Nat.le_of_ble_eq_true rfl) dX11_beginAnew_30 (fun H locs q7 hB => ?_)
  have hB : WB E ad s.heap [wMain E a_mn q_mn_0_tape (a_T 0 0) q_mn_0_spare q_mn_0_reader q_mn_0_mill (a_now 0) q_mn_0_trial q_mn_0_image (a_sp 0) (a_nt 0) q_mn_0_futures q_mn_0_order q_mn_0_clapRow u3, wHall E a_now r1, wSteps E a_sp r4, wNotes E a_nt r6, wScript E (a_T 0) (a_T 1 0) (a_T 2 0) (a_T 3 0) (a_T 4 0) (a_T 5 0) (a_T 6 0) (a_T 7 0) (u_T 0), wRoll E 6 (a_T 1) (u_T 1), wRoll E 6 (a_T 2) (u_T 2), wRoll E 4 (a_T 3) (u_T 3), wRoll E 14 (a_T 4) (u_T 4), wFormula E (a_T 5) (u_T 5), wFormula E (a_T 6) (u_T 6), wFormula E (a_T 7) (u_T 7)] H locs := hB
  refine lv_aload_n hx hb dX11_beginAnew_33 rfl (lv_at hl 0 rfl) ?_
  refine lv_iconst (v := (-1)) hx hb dX11_beginAnew_34 (by decide) ?_
  refine pf_X11_X11_futuresAct C hK hB hD 0 rfl dX11_beginAnew_35 (fun H locs u8 eu8 hB => ?_)
  have hf := ox_lt eu8 hf
  have hB : WB E ad s.heap [wMain E a_mn q_mn_0_tape (a_T 0 0) q_mn_0_spare q_mn_0_reader q_mn_0_mill (a_now 0) q_mn_0_trial q_mn_0_image (a_sp 0) (a_nt 0) q_mn_0_futures q_mn_0_order q_mn_0_clapRow u8, wHall E a_now r1, wSteps E a_sp r4, wNotes E a_nt r6, wScript E (a_T 0) (a_T 1 0) (a_T 2 0) (a_T 3 0) (a_T 4 0) (a_T 5 0) (a_T 6 0) (a_T 7 0) (u_T 0), wRoll E 6 (a_T 1) (u_T 1), wRoll E 6 (a_T 2) (u_T 2), wRoll E 4 (a_T 3) (u_T 3), wRoll E 14 (a_T 4) (u_T 4), wFormula E (a_T 5) (u_T 5), wFormula E (a_T 6) (u_T 6), wFormula E (a_T 7) (u_T 7)] H locs := hB
  have hf := Option.some.inj hf
  subst hf
  exact hQ _ _ H locs (fun _ => 0) hB dX11_beginAnew_38
set_option maxHeartbeats 4000000 in
set_option maxRecDepth 20000 in
theorem tX11_text (l : Launch) (E : Ev) (a_mn : Nat → Nat) (q_mn_0_told : Nat) (q_mn_0_mill : Nat) (q_mn_0_trial : Nat) (q_mn_0_image : Nat) (q_mn_0_futures : Nat) (q_mn_0_order : Nat) (q_mn_0_clapRow : Nat) (u_mn : St) (a_tape : Nat → Nat) (u_tape : St) (a_rd : Nat → Nat) (q_rd_0_script : Nat) (u_rd : St) (a_tk : Nat → Nat) (q_tk_0_bytes : Nat) (u_tk : St) (a_ph : Nat → Nat) (q_ph_0_formula : Nat) (u_ph : St) (a_now : Nat → Nat) (u_now : St) (a_sp : Nat → Nat) (u_sp : St) (a_nt : Nat → Nat) (u_nt : St) (a_S : Nat → Nat → Nat) (u_S : Nat → St) (x_1 : Int32) (res : Int32 × St × St × St × St × St × St × St × (Nat → St) × Nat × Nat) (hf : fX11_text u_mn u_tape u_rd u_tk u_ph u_now u_sp u_nt u_S x_1 = some res) : MX l E yX11_text cX11_text 3 (some .int) (rmm 7 166) [wMain E a_mn (a_tape 0) q_mn_0_told (a_S 0 0) (a_rd 0) q_mn_0_mill (a_now 0) q_mn_0_trial q_mn_0_image (a_sp 0) (a_nt 0) q_mn_0_futures q_mn_0_order q_mn_0_clapRow u_mn, wBArr E 700 a_tape u_tape, wReader E a_rd (a_tk 0) (a_ph 0) q_rd_0_script u_rd, wTokens E a_tk q_tk_0_bytes u_tk, wPhrase E a_ph q_ph_0_formula u_ph, wHall E a_now u_now, wSteps E a_sp u_sp, wNotes E a_nt u_nt, wScript E (a_S 0) (a_S 1 0) (a_S 2 0) (a_S 3 0) (a_S 4 0) (a_S 5 0) (a_S 6 0) (a_S 7 0) (u_S 0), wRoll E 6 (a_S 1) (u_S 1), wRoll E 6 (a_S 2) (u_S 2), wRoll E 4 (a_S 3) (u_S 3), wRoll E 14 (a_S 4) (u_S 4), wFormula E (a_S 5) (u_S 5), wFormula E (a_S 6) (u_S 6), wFormula E (a_S 7) (u_S 7)] (fun q => [wMain E a_mn (a_tape 0) (pk res.2.2.2.2.2.2.2.2.2.1 q_mn_0_told (a_S 0 0)) (pk res.2.2.2.2.2.2.2.2.2.2 q_mn_0_told (a_S 0 0)) (a_rd 0) q_mn_0_mill (a_now 0) q_mn_0_trial q_mn_0_image (a_sp 0) (a_nt 0) q_mn_0_futures q_mn_0_order q_mn_0_clapRow res.2.1, wBArr E 700 a_tape u_tape, wReader E a_rd (a_tk 0) (a_ph 0) (q 3) res.2.2.1, wTokens E a_tk (q 4) res.2.2.2.1, wPhrase E a_ph (q 2) res.2.2.2.2.1, wHall E a_now res.2.2.2.2.2.1, wSteps E a_sp res.2.2.2.2.2.2.1, wNotes E a_nt res.2.2.2.2.2.2.2.1, wScript E (a_S 0) (a_S 1 0) (a_S 2 0) (a_S 3 0) (a_S 4 0) (a_S 5 0) (a_S 6 0) (a_S 7 0) (res.2.2.2.2.2.2.2.2.1 0), wRoll E 6 (a_S 1) (res.2.2.2.2.2.2.2.2.1 1), wRoll E 6 (a_S 2) (res.2.2.2.2.2.2.2.2.1 2), wRoll E 4 (a_S 3) (res.2.2.2.2.2.2.2.2.1 3), wRoll E 14 (a_S 4) (res.2.2.2.2.2.2.2.2.1 4), wFormula E (a_S 5) (res.2.2.2.2.2.2.2.2.1 5), wFormula E (a_S 6) (res.2.2.2.2.2.2.2.2.1 6), wFormula E (a_S 7) (res.2.2.2.2.2.2.2.2.1 7)]) [.ref (a_mn 0), .int x_1] (some (.int res.1)) := by
  unfold fX11_text at hf
  refine MX.ofI rfl (by decide) (Nat.le_of_ble_eq_true rfl) ?_
  intro p e R s m args below meth c ls Q ad H hRf hRl C hB hD hK hN hl hQ
  generalize hlocs : ([] : List Loc) = locs at hB ⊢
  clear hlocs
  have hx := C.1
  have hb := C.2.1
  have hl : lv_has ls 3 [(0, .ref (a_mn 0)), (1, .int x_1)] := hl
  refine lv_iload_n hx hb dX11_text_0 rfl (lv_at hl 1 rfl) ?_
  refine lv_if_lt (tgt := 12) hx hb dX11_text_1 (by decide) (fun c1 => ?_) (fun c1 => ?_)
  · have hf := (if_pos c1).symm.trans hf
    refine lv_bipush (v := (-2)) hx hb dX11_text_12 (by decide) ?_
    have hf := Option.some.inj hf
    subst hf
    exact hQ _ _ H locs (fun j => if j = 0 then (a_S 0 0) else if j = 1 then q_mn_0_told else if j = 2 then q_ph_0_formula else if j = 3 then q_rd_0_script else if j = 4 then q_tk_0_bytes else 0) hB dX11_text_14
  · have hf := (if_neg c1).symm.trans hf
    refine lv_iload_n hx hb dX11_text_4 rfl (lv_at hl 1 rfl) ?_
    refine lv_aload_n hx hb dX11_text_5 rfl (lv_at hl 0 rfl) ?_
    refine gf_X11_X11_fed C hK (hB.1 0 _ rfl) dX11_text_6 ?_
    refine lv_icmp_le (tgt := 15) hx hb dX11_text_9 (by decide) (fun c2 => ?_) (fun c2 => ?_)
    · have hf := (if_pos c2).symm.trans hf
      refine lv_aload_n hx hb dX11_text_15 rfl (lv_at hl 0 rfl) ?_
      refine lv_iconst (v := 0) hx hb dX11_text_16 (by decide) ?_
      refine pf_X11_X11_fed C hK hB hD 0 rfl dX11_text_17 (fun H locs u3 eu3 hB => ?_)
      have hf := ox_lt eu3 hf
      have hB : WB E ad s.heap [wMain E a_mn (a_tape 0) q_mn_0_told (a_S 0 0) (a_rd 0) q_mn_0_mill (a_now 0) q_mn_0_trial q_mn_0_image (a_sp 0) (a_nt 0) q_mn_0_futures q_mn_0_order q_mn_0_clapRow u3, wBArr E 700 a_tape u_tape, wReader E a_rd (a_tk 0) (a_ph 0) q_rd_0_script u_rd, wTokens E a_tk q_tk_0_bytes u_tk, wPhrase E a_ph q_ph_0_formula u_ph, wHall E a_now u_now, wSteps E a_sp u_sp, wNotes E a_nt u_nt, wScript E (a_S 0) (a_S 1 0) (a_S 2 0) (a_S 3 0) (a_S 4 0) (a_S 5 0) (a_S 6 0) (a_S 7 0) (u_S 0), wRoll E 6 (a_S 1) (u_S 1), wRoll E 6 (a_S 2) (u_S 2), wRoll E 4 (a_S 3) (u_S 3), wRoll E 14 (a_S 4) (u_S 4), wFormula E (a_S 5) (u_S 5), wFormula E (a_S 6) (u_S 6), wFormula E (a_S 7) (u_S 7)] H locs := hB
      refine lv_aload_n hx hb dX11_text_20 rfl (lv_at hl 0 rfl) ?_
      refine gf_X11_X11_reader C hK (hB.1 0 _ rfl) dX11_text_21 ?_
      refine lv_aload_n hx hb dX11_text_24 rfl (lv_at hl 0 rfl) ?_
      refine gf_X11_X11_tape C hK (hB.1 0 _ rfl) dX11_text_25 ?_
      refine lv_iload_n hx hb dX11_text_28 rfl (lv_at hl 1 rfl) ?_
      refine lv_aload_n hx hb dX11_text_29 rfl (lv_at hl 0 rfl) ?_
      refine gf_X11_X11_spare C hK (hB.1 0 _ rfl) dX11_text_30 ?_
      obtain ⟨r4, hr4, hf⟩ := ox_bind hf
      refine cxVX (bs1 := (fun q => [wMain E a_mn (a_tape 0) q_mn_0_told (a_S 0 0) (a_rd 0) q_mn_0_mill (a_now 0) q_mn_0_trial q_mn_0_image (a_sp 0) (a_nt 0) q_mn_0_futures q_mn_0_order q_mn_0_clapRow u3, wBArr E 700 a_tape u_tape, wReader E a_rd (a_tk 0) (a_ph 0) (a_S 0 0) r4.1, wTokens E a_tk (a_tape 0) r4.2.1, wPhrase E a_ph (q 0) r4.2.2.1, wHall E a_now u_now, wSteps E a_sp u_sp, wNotes E a_nt u_nt, wScript E (a_S 0) (a_S 1 0) (a_S 2 0) (a_S 3 0) (a_S 4 0) (a_S 5 0) (a_S 6 0) (a_S 7 0) (r4.2.2.2 0), wRoll E 6 (a_S 1) (r4.2.2.2 1), wRoll E 6 (a_S 2) (r4.2.2.2 2), wRoll E 4 (a_S 3) (r4.2.2.2 3), wRoll E 14 (a_S 4) (r4.2.2.2 4), wFormula E (a_S 5) (r4.2.2.2 5), wFormula E (a_S 6) (r4.2.2.2 6), wFormula E (a_S 7) (r4.2.2.2 7)])) (As := [.ref (a_tape 0), .int x_1, .ref (a_S 0 0)]) (rest := []) (st1 := []) C hK (tX6_readAll l E a_rd q_rd_0_script u_rd a_tk q_tk_0_bytes u_tk 700 a_tape u_tape a_ph q_ph_0_formula u_ph a_S u_S x_1 r4 hr4) lk_X11_105 (by rw [hRf, hRl]; decide) ⟨Nat.zero_le _, Nat.zero_le _⟩ hB hD hN [2, 3, 1, 4, 8, 9, 10, 11, 12, 13, 14, 15] (by decide) rfl (fun _ => rfl) (fun _ => rfl) (rc_X6 hK (hB.1 2 _ rfl)) rfl hl.1 rfl rfl (Nat.le_of_ble_eq_true rfl) dX11_text_33 (fun H locs q5 hB => ?_)
      have hB : WB E ad s.heap [wMain E a_mn (a_tape 0) q_mn_0_told (a_S 0 0) (a_rd 0) q_mn_0_mill (a_now 0) q_mn_0_trial q_mn_0_image (a_sp 0) (a_nt 0) q_mn_0_futures q_mn_0_order q_mn_0_clapRow u3, wBArr E 700 a_tape u_tape, wReader E a_rd (a_tk 0) (a_ph 0) (a_S 0 0) r4.1, wTokens E a_tk (a_tape 0) r4.2.1, wPhrase E a_ph (q5 0) r4.2.2.1, wHall E a_now u_now, wSteps E a_sp u_sp, wNotes E a_nt u_nt, wScript E (a_S 0) (a_S 1 0) (a_S 2 0) (a_S 3 0) (a_S 4 0) (a_S 5 0) (a_S 6 0) (a_S 7 0) (r4.2.2.2 0), wRoll E 6 (a_S 1) (r4.2.2.2 1), wRoll E 6 (a_S 2) (r4.2.2.2 2), wRoll E 4 (a_S 3) (r4.2.2.2 3), wRoll E 14 (a_S 4) (r4.2.2.2 4), wFormula E (a_S 5) (r4.2.2.2 5), wFormula E (a_S 6) (r4.2.2.2 6), wFormula E (a_S 7) (r4.2.2.2 7)] H locs := hB
      refine lv_aload_n hx hb dX11_text_36 rfl (lv_at hl 0 rfl) ?_
      refine lv_aload_n hx hb dX11_text_37 rfl (lv_at hl 0 rfl) ?_
      refine gf_X11_X11_reader C hK (hB.1 0 _ rfl) dX11_text_38 ?_
      refine gf_X11_X6_faultKind C hK (hB.1 2 _ rfl) dX11_text_41 ?_
      refine lv_topi (fun x6 ex6 => ?_)
      have hf := ox_lt ex6 hf
      refine pf_X11_X11_faultKind C hK hB hD 0 rfl dX11_text_44 (fun H locs u7 eu7 hB => ?_)
      have hf := ox_lt eu7 hf
      have hB : WB E ad s.heap [wMain E a_mn (a_tape 0) q_mn_0_told (a_S 0 0) (a_rd 0) q_mn_0_mill (a_now 0) q_mn_0_trial q_mn_0_image (a_sp 0) (a_nt 0) q_mn_0_futures q_mn_0_order q_mn_0_clapRow u7, wBArr E 700 a_tape u_tape, wReader E a_rd (a_tk 0) (a_ph 0) (a_S 0 0) r4.1, wTokens E a_tk (a_tape 0) r4.2.1, wPhrase E a_ph (q5 0) r4.2.2.1, wHall E a_now u_now, wSteps E a_sp u_sp, wNotes E a_nt u_nt, wScript E (a_S 0) (a_S 1 0) (a_S 2 0) (a_S 3 0) (a_S 4 0) (a_S 5 0) (a_S 6 0) (a_S 7 0) (r4.2.2.2 0), wRoll E 6 (a_S 1) (r4.2.2.2 1), wRoll E 6 (a_S 2) (r4.2.2.2 2), wRoll E 4 (a_S 3) (r4.2.2.2 3), wRoll E 14 (a_S 4) (r4.2.2.2 4), wFormula E (a_S 5) (r4.2.2.2 5), wFormula E (a_S 6) (r4.2.2.2 6), wFormula E (a_S 7) (r4.2.2.2 7)] H locs := hB
      refine lv_aload_n hx hb dX11_text_47 rfl (lv_at hl 0 rfl) ?_
      refine lv_aload_n hx hb dX11_text_48 rfl (lv_at hl 0 rfl) ?_
      refine gf_X11_X11_reader C hK (hB.1 0 _ rfl) dX11_text_49 ?_
      refine gf_X11_X6_faultPlace C hK (hB.1 2 _ rfl) dX11_text_52 ?_
      refine lv_topi (fun x8 ex8 => ?_)
      have hf := ox_lt ex8 hf
      refine pf_X11_X11_faultPlace C hK hB hD 0 rfl dX11_text_55 (fun H locs u9 eu9 hB => ?_)
      have hf := ox_lt eu9 hf
      have hB : WB E ad s.heap [wMain E a_mn (a_tape 0) q_mn_0_told (a_S 0 0) (a_rd 0) q_mn_0_mill (a_now 0) q_mn_0_trial q_mn_0_image (a_sp 0) (a_nt 0) q_mn_0_futures q_mn_0_order q_mn_0_clapRow u9, wBArr E 700 a_tape u_tape, wReader E a_rd (a_tk 0) (a_ph 0) (a_S 0 0) r4.1, wTokens E a_tk (a_tape 0) r4.2.1, wPhrase E a_ph (q5 0) r4.2.2.1, wHall E a_now u_now, wSteps E a_sp u_sp, wNotes E a_nt u_nt, wScript E (a_S 0) (a_S 1 0) (a_S 2 0) (a_S 3 0) (a_S 4 0) (a_S 5 0) (a_S 6 0) (a_S 7 0) (r4.2.2.2 0), wRoll E 6 (a_S 1) (r4.2.2.2 1), wRoll E 6 (a_S 2) (r4.2.2.2 2), wRoll E 4 (a_S 3) (r4.2.2.2 3), wRoll E 14 (a_S 4) (r4.2.2.2 4), wFormula E (a_S 5) (r4.2.2.2 5), wFormula E (a_S 6) (r4.2.2.2 6), wFormula E (a_S 7) (r4.2.2.2 7)] H locs := hB
      refine lv_aload_n hx hb dX11_text_58 rfl (lv_at hl 0 rfl) ?_
      refine gf_X11_X11_faultKind C hK (hB.1 0 _ rfl) dX11_text_59 ?_
      refine lv_if_eq (tgt := 67) hx hb dX11_text_62 (by decide) (fun c10 => ?_) (fun c10 => ?_)
      · have hf := (if_pos c10).symm.trans hf
        refine lv_aload_n hx hb dX11_text_67 rfl (lv_at hl 0 rfl) ?_
        refine gf_X11_X11_told C hK (hB.1 0 _ rfl) dX11_text_68 ?_
        refine lv_astore_n (lv' := [(2, .ref q_mn_0_told), (0, .ref (a_mn 0)), (1, .int x_1)]) hx hb dX11_text_71 rfl hl (by decide) rfl (fun ls hl => ?_)
        refine lv_aload_n hx hb dX11_text_72 rfl (lv_at hl 1 rfl) ?_
        refine lv_aload_n hx hb dX11_text_73 rfl (lv_at hl 1 rfl) ?_
        refine gf_X11_X11_spare C hK (hB.1 0 _ rfl) dX11_text_74 ?_
        refine pf_X11_X11_told C hK hB hD 0 rfl dX11_text_77 (fun H locs hB => ?_)
        have hB : WB E ad s.heap [wMain E a_mn (a_tape 0) (a_S 0 0) (a_S 0 0) (a_rd 0) q_mn_0_mill (a_now 0) q_mn_0_trial q_mn_0_image (a_sp 0) (a_nt 0) q_mn_0_futures q_mn_0_order q_mn_0_clapRow u9, wBArr E 700 a_tape u_tape, wReader E a_rd (a_tk 0) (a_ph 0) (a_S 0 0) r4.1, wTokens E a_tk (a_tape 0) r4.2.1, wPhrase E a_ph (q5 0) r4.2.2.1, wHall E a_now u_now, wSteps E a_sp u_sp, wNotes E a_nt u_nt, wScript E (a_S 0) (a_S 1 0) (a_S 2 0) (a_S 3 0) (a_S 4 0) (a_S 5 0) (a_S 6 0) (a_S 7 0) (r4.2.2.2 0), wRoll E 6 (a_S 1) (r4.2.2.2 1), wRoll E 6 (a_S 2) (r4.2.2.2 2), wRoll E 4 (a_S 3) (r4.2.2.2 3), wRoll E 14 (a_S 4) (r4.2.2.2 4), wFormula E (a_S 5) (r4.2.2.2 5), wFormula E (a_S 6) (r4.2.2.2 6), wFormula E (a_S 7) (r4.2.2.2 7)] H locs := hB
        refine lv_aload_n hx hb dX11_text_80 rfl (lv_at hl 1 rfl) ?_
        refine lv_aload_n hx hb dX11_text_81 rfl (lv_at hl 0 rfl) ?_
        refine pf_X11_X11_spare C hK hB hD 0 rfl dX11_text_82 (fun H locs hB => ?_)
        have hB : WB E ad s.heap [wMain E a_mn (a_tape 0) (a_S 0 0) q_mn_0_told (a_rd 0) q_mn_0_mill (a_now 0) q_mn_0_trial q_mn_0_image (a_sp 0) (a_nt 0) q_mn_0_futures q_mn_0_order q_mn_0_clapRow u9, wBArr E 700 a_tape u_tape, wReader E a_rd (a_tk 0) (a_ph 0) (a_S 0 0) r4.1, wTokens E a_tk (a_tape 0) r4.2.1, wPhrase E a_ph (q5 0) r4.2.2.1, wHall E a_now u_now, wSteps E a_sp u_sp, wNotes E a_nt u_nt, wScript E (a_S 0) (a_S 1 0) (a_S 2 0) (a_S 3 0) (a_S 4 0) (a_S 5 0) (a_S 6 0) (a_S 7 0) (r4.2.2.2 0), wRoll E 6 (a_S 1) (r4.2.2.2 1), wRoll E 6 (a_S 2) (r4.2.2.2 2), wRoll E 4 (a_S 3) (r4.2.2.2 3), wRoll E 14 (a_S 4) (r4.2.2.2 4), wFormula E (a_S 5) (r4.2.2.2 5), wFormula E (a_S 6) (r4.2.2.2 6), wFormula E (a_S 7) (r4.2.2.2 7)] H locs := hB
        refine lv_aload_n hx hb dX11_text_85 rfl (lv_at hl 1 rfl) ?_
        obtain ⟨r11, hr11, hf⟩ := ox_bind hf
        refine cxVX (bs1 := (fun q => [wMain E a_mn (a_tape 0) (a_S 0 0) q_mn_0_told (a_rd 0) q_mn_0_mill (a_now 0) q_mn_0_trial q_mn_0_image (a_sp 0) (a_nt 0) q_mn_0_futures q_mn_0_order q_mn_0_clapRow r11.1, wBArr E 700 a_tape u_tape, wReader E a_rd (a_tk 0) (a_ph 0) (a_S 0 0) r4.1, wTokens E a_tk (a_tape 0) r4.2.1, wPhrase E a_ph (q5 0) r4.2.2.1, wHall E a_now r11.2.1, wSteps E a_sp r11.2.2.1, wNotes E a_nt r11.2.2.2, wScript E (a_S 0) (a_S 1 0) (a_S 2 0) (a_S 3 0) (a_S 4 0) (a_S 5 0) (a_S 6 0) (a_S 7 0) (r4.2.2.2 0), wRoll E 6 (a_S 1) (r4.2.2.2 1), wRoll E 6 (a_S 2) (r4.2.2.2 2), wRoll E 4 (a_S 3) (r4.2.2.2 3), wRoll E 14 (a_S 4) (r4.2.2.2 4), wFormula E (a_S 5) (r4.2.2.2 5), wFormula E (a_S 6) (r4.2.2.2 6), wFormula E (a_S 7) (r4.2.2.2 7)])) (As := []) (rest := []) (st1 := []) C hK (tX11_beginAnew l E a_mn (a_tape 0) q_mn_0_told (a_rd 0) q_mn_0_mill q_mn_0_trial q_mn_0_image q_mn_0_futures q_mn_0_order q_mn_0_clapRow u9 a_now u_now a_sp u_sp a_nt u_nt a_S (r4.2.2.2) r11 hr11) lk_X11_111 (by rw [hRf, hRl]; decide) ⟨Nat.zero_le _, Nat.zero_le _⟩ hB hD hN [0, 5, 6, 7, 8, 9, 10, 11, 12, 13, 14, 15] (by decide) rfl (fun _ => rfl) (fun _ => rfl) (rc_X11 hK (hB.1 0 _ rfl)) rfl hl.1 rfl rfl (Nat.le_of_ble_eq_true rfl) dX11_text_86 (fun H locs q12 hB => ?_)
        have hB : WB E ad s.heap [wMain E a_mn (a_tape 0) (a_S 0 0) q_mn_0_told (a_rd 0) q_mn_0_mill (a_now 0) q_mn_0_trial q_mn_0_image (a_sp 0) (a_nt 0) q_mn_0_futures q_mn_0_order q_mn_0_clapRow r11.1, wBArr E 700 a_tape u_tape, wReader E a_rd (a_tk 0) (a_ph 0) (a_S 0 0) r4.1, wTokens E a_tk (a_tape 0) r4.2.1, wPhrase E a_ph (q5 0) r4.2.2.1, wHall E a_now r11.2.1, wSteps E a_sp r11.2.2.1, wNotes E a_nt r11.2.2.2, wScript E (a_S 0) (a_S 1 0) (a_S 2 0) (a_S 3 0) (a_S 4 0) (a_S 5 0) (a_S 6 0) (a_S 7 0) (r4.2.2.2 0), wRoll E 6 (a_S 1) (r4.2.2.2 1), wRoll E 6 (a_S 2) (r4.2.2.2 2), wRoll E 4 (a_S 3) (r4.2.2.2 3), wRoll E 14 (a_S 4) (r4.2.2.2 4), wFormula E (a_S 5) (r4.2.2.2 5), wFormula E (a_S 6) (r4.2.2.2 6), wFormula E (a_S 7) (r4.2.2.2 7)] H locs := hB
        refine lv_aload_n hx hb dX11_text_89 rfl (lv_at hl 1 rfl) ?_
        refine gf_X11_X11_told C hK (hB.1 0 _ rfl) dX11_text_90 ?_
        refine gf_X11_X8_lines C hK (hB.1 8 _ rfl) dX11_text_93 ?_
        have hf := Option.some.inj hf
        subst hf
        exact hQ _ _ H locs (fun j => if j = 0 then q_mn_0_told else if j = 1 then (a_S 0 0) else if j = 2 then (q5 0) else if j = 3 then (a_S 0 0) else if j = 4 then (a_tape 0) else 0) hB dX11_text_96
      · have hf := (if_neg c10).symm.trans hf
        refine lv_iconst (v := (-1)) hx hb dX11_text_65 (by decide) ?_
        have hf := Option.some.inj hf
        subst hf
        exact hQ _ _ H locs (fun j => if j = 0 then (a_S 0 0) else if j = 1 then q_mn_0_told else if j = 2 then (q5 0) else if j = 3 then (a_S 0 0) else if j = 4 then (a_tape 0) else 0) hB dX11_text_66
    · have hf := (if_neg c2).symm.trans hf
      refine lv_bipush (v := (-2)) hx hb dX11_text_12 (by decide) ?_
      have hf := Option.some.inj hf
      subst hf
      exact hQ _ _ H locs (fun j => if j = 0 then (a_S 0 0) else if j = 1 then q_mn_0_told else if j = 2 then q_ph_0_formula else if j = 3 then q_rd_0_script else if j = 4 then q_tk_0_bytes else 0) hB dX11_text_14
set_option maxHeartbeats 4000000 in
set_option maxRecDepth 20000 in
theorem tX11_fault (l : Launch) (E : Ev) (a_mn : Nat → Nat) (q_mn_0_tape : Nat) (q_mn_0_told : Nat) (q_mn_0_spare : Nat) (q_mn_0_reader : Nat) (q_mn_0_mill : Nat) (q_mn_0_now : Nat) (q_mn_0_trial : Nat) (q_mn_0_image : Nat) (q_mn_0_steps : Nat) (q_mn_0_notes : Nat) (q_mn_0_futures : Nat) (q_mn_0_order : Nat) (q_mn_0_clapRow : Nat) (u_mn : St) (x_1 : Int32) (res : Int32) (hf : fX11_fault u_mn x_1 = res) : MP l E yX11_fault cX11_fault 2 (some .int) (rmm 0 0) [wMain E a_mn q_mn_0_tape q_mn_0_told q_mn_0_spare q_mn_0_reader q_mn_0_mill q_mn_0_now q_mn_0_trial q_mn_0_image q_mn_0_steps q_mn_0_notes q_mn_0_futures q_mn_0_order q_mn_0_clapRow u_mn] [.ref (a_mn 0), .int x_1] (some (.int res)) := by
  unfold fX11_fault at hf
  refine MP.ofI rfl (by decide) (Nat.le_of_ble_eq_true rfl) ?_
  intro p e R s m args below meth c ls Q hRf hRl C hP hK hN hl hQ
  have hx := C.1
  have hb := C.2.1
  have hl : lv_has ls 2 [(0, .ref (a_mn 0)), (1, .int x_1)] := hl
  refine lv_iload_n hx hb dX11_fault_0 rfl (lv_at hl 1 rfl) ?_
  refine lv_if_ne (tgt := 9) hx hb dX11_fault_1 (by decide) (fun c1 => ?_) (fun c1 => ?_)
  · have hf := (if_neg c1).symm.trans hf
    refine lv_iload_n hx hb dX11_fault_9 rfl (lv_at hl 1 rfl) ?_
    refine lv_iconst (v := 1) hx hb dX11_fault_10 (by decide) ?_
    obtain ⟨x2, ex2, hf⟩ := ox_ex hf
    have hjx2 : W p l e R s m args below meth c s.heap [] 0 0 Q (F0 m 22 ls [.int x2]) := by
      subst hf
      exact hQ _ _ dX11_fault_22
    refine lv_icmp_ne (tgt := 21) hx hb dX11_fault_11 (by decide) (fun c3 => ?_) (fun c3 => ?_)
    · refine lv_iconst (v := (-1)) hx hb dX11_fault_21 (by decide) ?_
      exact ox_topi ((ex2).trans (if_neg c3)).symm hjx2
    · refine lv_aload_n hx hb dX11_fault_14 rfl (lv_at hl 0 rfl) ?_
      refine gf_X11_X11_faultPlace C hK (hP 0 _ rfl) dX11_fault_15 ?_
      refine lv_goto (tgt := 22) hx hb dX11_fault_18 (by decide) ?_
      exact ox_topi ((ex2).trans (if_pos c3)).symm hjx2
  · have hf := (if_pos c1).symm.trans hf
    refine lv_aload_n hx hb dX11_fault_4 rfl (lv_at hl 0 rfl) ?_
    refine gf_X11_X11_faultKind C hK (hP 0 _ rfl) dX11_fault_5 ?_
    subst hf
    exact hQ _ _ dX11_fault_8
set_option maxHeartbeats 4000000 in
set_option maxRecDepth 20000 in
theorem tX11_named (l : Launch) (E : Ev) (a_mn : Nat → Nat) (q_mn_0_tape : Nat) (q_mn_0_spare : Nat) (q_mn_0_reader : Nat) (q_mn_0_mill : Nat) (q_mn_0_now : Nat) (q_mn_0_trial : Nat) (q_mn_0_image : Nat) (q_mn_0_steps : Nat) (q_mn_0_notes : Nat) (q_mn_0_futures : Nat) (q_mn_0_order : Nat) (q_mn_0_clapRow : Nat) (u_mn : St) (a_T : Nat → Nat → Nat) (u_T : Nat → St) (x_1 : Int32) (x_2 : Int32) (res : Int32) (hf : fX11_named u_mn u_T x_1 x_2 = some res) : MP l E yX11_named cX11_named 3 (some .int) (rmm 1 22) [wMain E a_mn q_mn_0_tape (a_T 0 0) q_mn_0_spare q_mn_0_reader q_mn_0_mill q_mn_0_now q_mn_0_trial q_mn_0_image q_mn_0_steps q_mn_0_notes q_mn_0_futures q_mn_0_order q_mn_0_clapRow u_mn, wScript E (a_T 0) (a_T 1 0) (a_T 2 0) (a_T 3 0) (a_T 4 0) (a_T 5 0) (a_T 6 0) (a_T 7 0) (u_T 0), wRoll E 6 (a_T 1) (u_T 1), wRoll E 6 (a_T 2) (u_T 2), wRoll E 4 (a_T 3) (u_T 3), wRoll E 14 (a_T 4) (u_T 4), wFormula E (a_T 5) (u_T 5), wFormula E (a_T 6) (u_T 6), wFormula E (a_T 7) (u_T 7)] [.ref (a_mn 0), .int x_1, .int x_2] (some (.int res)) := by
  unfold fX11_named at hf
  refine MP.ofI rfl (by decide) (Nat.le_of_ble_eq_true rfl) ?_
  intro p e R s m args below meth c ls Q hRf hRl C hP hK hN hl hQ
  have hx := C.1
  have hb := C.2.1
  have hl : lv_has ls 3 [(0, .ref (a_mn 0)), (1, .int x_1), (2, .int x_2)] := hl
  refine lv_iload_n hx hb dX11_named_0 rfl (lv_at hl 1 rfl) ?_
  by_cases c1 : x_1 = 0
  · have hf := (if_pos c1).symm.trans hf
    refine lv_tableIn hx hb dX11_named_1 (by rw [c1]; decide) (by rw [c1]; decide) (off := 27) (by rw [c1]; decide) (tgt := 28) (by decide) ?_
    refine lv_aload_n hx hb dX11_named_28 rfl (lv_at hl 0 rfl) ?_
    refine gf_X11_X11_told C hK (hP 0 _ rfl) dX11_named_29 ?_
    refine gf_X11_X8_acts C hK (hP 1 _ rfl) dX11_named_32 ?_
    refine lv_iload_n hx hb dX11_named_35 rfl (lv_at hl 2 rfl) ?_
    obtain ⟨r2, hr2, hf⟩ := ox_bind hf
    refine cxVP (As := [.int x_2]) (rest := []) (st1 := [.int r2]) C hK (tX7_find l E 6 (a_T 1) (u_T 1) x_2 r2 hr2) lk_X11_131 ⟨rfl, rfl⟩ (by rw [hRf, hRl]; decide) ⟨Nat.zero_le _, Nat.zero_le _⟩ (PB.sub hP [2] rfl) (fun _ _ => rfl) hN (rc_X7 hK (hP 2 _ rfl)) rfl hl.1 rfl rfl (Nat.le_of_ble_eq_true rfl) dX11_named_36 ?_
    have hf := Option.some.inj hf
    subst hf
    exact hQ _ _ dX11_named_39
  have hf := (if_neg c1).symm.trans hf
  by_cases c3 : x_1 = 1
  · have hf := (if_pos c3).symm.trans hf
    refine lv_tableIn hx hb dX11_named_1 (by rw [c3]; decide) (by rw [c3]; decide) (off := 39) (by rw [c3]; decide) (tgt := 40) (by decide) ?_
    refine lv_aload_n hx hb dX11_named_40 rfl (lv_at hl 0 rfl) ?_
    refine gf_X11_X11_told C hK (hP 0 _ rfl) dX11_named_41 ?_
    refine gf_X11_X8_guests C hK (hP 1 _ rfl) dX11_named_44 ?_
    refine lv_iload_n hx hb dX11_named_47 rfl (lv_at hl 2 rfl) ?_
    obtain ⟨r4, hr4, hf⟩ := ox_bind hf
    refine cxVP (As := [.int x_2]) (rest := []) (st1 := [.int r4]) C hK (tX7_find l E 6 (a_T 2) (u_T 2) x_2 r4 hr4) lk_X11_131 ⟨rfl, rfl⟩ (by rw [hRf, hRl]; decide) ⟨Nat.zero_le _, Nat.zero_le _⟩ (PB.sub hP [3] rfl) (fun _ _ => rfl) hN (rc_X7 hK (hP 3 _ rfl)) rfl hl.1 rfl rfl (Nat.le_of_ble_eq_true rfl) dX11_named_48 ?_
    have hf := Option.some.inj hf
    subst hf
    exact hQ _ _ dX11_named_51
  have hf := (if_neg c3).symm.trans hf
  by_cases c5 : x_1 = 2
  · have hf := (if_pos c5).symm.trans hf
    refine lv_tableIn hx hb dX11_named_1 (by rw [c5]; decide) (by rw [c5]; decide) (off := 51) (by rw [c5]; decide) (tgt := 52) (by decide) ?_
    refine lv_aload_n hx hb dX11_named_52 rfl (lv_at hl 0 rfl) ?_
    refine gf_X11_X11_told C hK (hP 0 _ rfl) dX11_named_53 ?_
    refine gf_X11_X8_grains C hK (hP 1 _ rfl) dX11_named_56 ?_
    refine lv_iload_n hx hb dX11_named_59 rfl (lv_at hl 2 rfl) ?_
    obtain ⟨r6, hr6, hf⟩ := ox_bind hf
    refine cxVP (As := [.int x_2]) (rest := []) (st1 := [.int r6]) C hK (tX7_find l E 4 (a_T 3) (u_T 3) x_2 r6 hr6) lk_X11_131 ⟨rfl, rfl⟩ (by rw [hRf, hRl]; decide) ⟨Nat.zero_le _, Nat.zero_le _⟩ (PB.sub hP [4] rfl) (fun _ _ => rfl) hN (rc_X7 hK (hP 4 _ rfl)) rfl hl.1 rfl rfl (Nat.le_of_ble_eq_true rfl) dX11_named_60 ?_
    have hf := Option.some.inj hf
    subst hf
    exact hQ _ _ dX11_named_63
  have hf := (if_neg c5).symm.trans hf
  have hd7 : W p l e R s m args below meth c s.heap [] 0 0 Q (F0 m 64 ls []) := by
    refine lv_iconst (v := (-1)) hx hb dX11_named_64 (by decide) ?_
    have hf := Option.some.inj hf
    subst hf
    exact hQ _ _ dX11_named_65
  have nc1 := lv_neT c1 (show Int32.toInt 0 = 0 from rfl)
  have nc3 := lv_neT c3 (show Int32.toInt 1 = 1 from rfl)
  have nc5 := lv_neT c5 (show Int32.toInt 2 = 2 from rfl)
  rcases (show Int32.toInt x_1 < 0 ∨ 2 < Int32.toInt x_1 by omega) with h | h
  · exact lv_tableOut hx hb dX11_named_1 (Or.inl h) (tgt := 64) (by decide) hd7
  · exact lv_tableOut hx hb dX11_named_1 (Or.inr h) (tgt := 64) (by decide) hd7
set_option maxHeartbeats 4000000 in
set_option maxRecDepth 20000 in
theorem tX11_act (l : Launch) (E : Ev) (a_mn : Nat → Nat) (q_mn_0_tape : Nat) (q_mn_0_spare : Nat) (q_mn_0_reader : Nat) (q_mn_0_mill : Nat) (q_mn_0_trial : Nat) (q_mn_0_image : Nat) (q_mn_0_steps : Nat) (q_mn_0_notes : Nat) (q_mn_0_futures : Nat) (q_mn_0_order : Nat) (q_mn_0_clapRow : Nat) (u_mn : St) (a_now : Nat → Nat) (u_now : St) (a_T : Nat → Nat → Nat) (u_T : Nat → St) (x_1 : Int32) (x_2 : Int32) (res : Int32) (hf : fX11_act u_mn u_now u_T x_1 x_2 = some res) : MP l E yX11_act cX11_act 3 (some .int) (rmm 1 21) [wMain E a_mn q_mn_0_tape (a_T 0 0) q_mn_0_spare q_mn_0_reader q_mn_0_mill (a_now 0) q_mn_0_trial q_mn_0_image q_mn_0_steps q_mn_0_notes q_mn_0_futures q_mn_0_order q_mn_0_clapRow u_mn, wHall E a_now u_now, wScript E (a_T 0) (a_T 1 0) (a_T 2 0) (a_T 3 0) (a_T 4 0) (a_T 5 0) (a_T 6 0) (a_T 7 0) (u_T 0), wRoll E 6 (a_T 1) (u_T 1), wRoll E 6 (a_T 2) (u_T 2), wRoll E 4 (a_T 3) (u_T 3), wRoll E 14 (a_T 4) (u_T 4), wFormula E (a_T 5) (u_T 5), wFormula E (a_T 6) (u_T 6), wFormula E (a_T 7) (u_T 7)] [.ref (a_mn 0), .int x_1, .int x_2] (some (.int res)) := by
  unfold fX11_act at hf
  refine MP.ofI rfl (by decide) (Nat.le_of_ble_eq_true rfl) ?_
  intro p e R s m args below meth c ls Q hRf hRl C hP hK hN hl hQ
  have hx := C.1
  have hb := C.2.1
  have hl : lv_has ls 3 [(0, .ref (a_mn 0)), (1, .int x_1), (2, .int x_2)] := hl
  refine lv_aload_n hx hb dX11_act_0 rfl (lv_at hl 0 rfl) ?_
  refine gf_X11_X11_told C hK (hP 0 _ rfl) dX11_act_1 ?_
  refine gf_X11_X8_acts C hK (hP 2 _ rfl) dX11_act_4 ?_
  refine lv_iload_n hx hb dX11_act_7 rfl (lv_at hl 1 rfl) ?_
  refine cxVP (As := [.int x_1]) (rest := []) (st1 := [.int (fX7_has 6 (u_T 1) x_1)]) C hK (tX7_has l E 6 (a_T 1) (u_T 1) x_1 (fX7_has 6 (u_T 1) x_1) rfl) lk_X11_143 ⟨rfl, rfl⟩ (by rw [hRf, hRl]; decide) ⟨Nat.zero_le _, Nat.zero_le _⟩ (PB.sub hP [3] rfl) (fun _ _ => rfl) hN (rc_X7 hK (hP 3 _ rfl)) rfl hl.1 rfl rfl (Nat.le_of_ble_eq_true rfl) dX11_act_8 ?_
  refine lv_if_ne (tgt := 16) hx hb dX11_act_11 (by decide) (fun c1 => ?_) (fun c1 => ?_)
  · have hf := (if_neg c1).symm.trans hf
    refine lv_iload_n hx hb dX11_act_16 rfl (lv_at hl 2 rfl) ?_
    by_cases c2 : x_2 = 0
    · have hf := (if_pos c2).symm.trans hf
      refine lv_tableIn hx hb dX11_act_17 (by rw [c2]; decide) (by rw [c2]; decide) (off := 27) (by rw [c2]; decide) (tgt := 44) (by decide) ?_
      refine lv_aload_n hx hb dX11_act_44 rfl (lv_at hl 0 rfl) ?_
      refine gf_X11_X11_told C hK (hP 0 _ rfl) dX11_act_45 ?_
      refine lv_iload_n hx hb dX11_act_48 rfl (lv_at hl 1 rfl) ?_
      obtain ⟨r3, hr3, hf⟩ := ox_bind hf
      refine cxVP (As := [.int x_1]) (rest := []) (st1 := [.int r3]) C hK (tX8_mood l E a_T u_T x_1 r3 hr3) lk_X11_174 ⟨rfl, rfl⟩ (by rw [hRf, hRl]; decide) ⟨Nat.zero_le _, Nat.zero_le _⟩ (PB.sub hP [2, 3, 4, 5, 6, 7, 8, 9] rfl) (fun _ _ => rfl) hN (rc_X8 hK (hP 2 _ rfl)) rfl hl.1 rfl rfl (Nat.le_of_ble_eq_true rfl) dX11_act_49 ?_
      have hf := Option.some.inj hf
      subst hf
      exact hQ _ _ dX11_act_52
    have hf := (if_neg c2).symm.trans hf
    by_cases c4 : x_2 = 1
    · have hf := (if_pos c4).symm.trans hf
      refine lv_tableIn hx hb dX11_act_17 (by rw [c4]; decide) (by rw [c4]; decide) (off := 36) (by rw [c4]; decide) (tgt := 53) (by decide) ?_
      refine lv_aload_n hx hb dX11_act_53 rfl (lv_at hl 0 rfl) ?_
      refine gf_X11_X11_told C hK (hP 0 _ rfl) dX11_act_54 ?_
      refine lv_iload_n hx hb dX11_act_57 rfl (lv_at hl 1 rfl) ?_
      obtain ⟨r5, hr5, hf⟩ := ox_bind hf
      refine cxVP (As := [.int x_1]) (rest := []) (st1 := [.int r5]) C hK (tX8_minutesOf l E a_T u_T x_1 r5 hr5) lk_X11_177 ⟨rfl, rfl⟩ (by rw [hRf, hRl]; decide) ⟨Nat.zero_le _, Nat.zero_le _⟩ (PB.sub hP [2, 3, 4, 5, 6, 7, 8, 9] rfl) (fun _ _ => rfl) hN (rc_X8 hK (hP 2 _ rfl)) rfl hl.1 rfl rfl (Nat.le_of_ble_eq_true rfl) dX11_act_58 ?_
      have hf := Option.some.inj hf
      subst hf
      exact hQ _ _ dX11_act_61
    have hf := (if_neg c4).symm.trans hf
    by_cases c6 : x_2 = 2
    · have hf := (if_pos c6).symm.trans hf
      refine lv_tableIn hx hb dX11_act_17 (by rw [c6]; decide) (by rw [c6]; decide) (off := 45) (by rw [c6]; decide) (tgt := 62) (by decide) ?_
      refine lv_aload_n hx hb dX11_act_62 rfl (lv_at hl 0 rfl) ?_
      refine gf_X11_X11_now C hK (hP 0 _ rfl) dX11_act_63 ?_
      refine gf_X11_X1_on C hK (hP 1 _ rfl) dX11_act_66 ?_
      refine lv_iload_n hx hb dX11_act_69 rfl (lv_at hl 1 rfl) ?_
      obtain ⟨x7, ex7, hf⟩ := ox_ex hf
      have hjx7 : W p l e R s m args below meth c s.heap [] 0 0 Q (F0 m 84 ls [.int x7]) := by
        have hf := Option.some.inj hf
        subst hf
        exact hQ _ _ dX11_act_84
      refine lv_icmp_ne (tgt := 83) hx hb dX11_act_70 (by decide) (fun c8 => ?_) (fun c8 => ?_)
      · refine lv_iconst (v := 0) hx hb dX11_act_83 (by decide) ?_
        exact ox_topi ((ex7).trans (if_neg c8)).symm hjx7
      · refine lv_aload_n hx hb dX11_act_73 rfl (lv_at hl 0 rfl) ?_
        refine gf_X11_X11_now C hK (hP 0 _ rfl) dX11_act_74 ?_
        refine gf_X11_X1_left C hK (hP 1 _ rfl) dX11_act_77 ?_
        refine lv_goto (tgt := 84) hx hb dX11_act_80 (by decide) ?_
        exact ox_topi ((ex7).trans (if_pos c8)).symm hjx7
    have hf := (if_neg c6).symm.trans hf
    have hd9 : W p l e R s m args below meth c s.heap [] 0 0 Q (F0 m 85 ls []) := by
      refine lv_iconst (v := (-1)) hx hb dX11_act_85 (by decide) ?_
      have hf := Option.some.inj hf
      subst hf
      exact hQ _ _ dX11_act_86
    have nc2 := lv_neT c2 (show Int32.toInt 0 = 0 from rfl)
    have nc4 := lv_neT c4 (show Int32.toInt 1 = 1 from rfl)
    have nc6 := lv_neT c6 (show Int32.toInt 2 = 2 from rfl)
    rcases (show Int32.toInt x_2 < 0 ∨ 2 < Int32.toInt x_2 by omega) with h | h
    · exact lv_tableOut hx hb dX11_act_17 (Or.inl h) (tgt := 85) (by decide) hd9
    · exact lv_tableOut hx hb dX11_act_17 (Or.inr h) (tgt := 85) (by decide) hd9
  · have hf := (if_pos c1).symm.trans hf
    refine lv_iconst (v := (-1)) hx hb dX11_act_14 (by decide) ?_
    have hf := Option.some.inj hf
    subst hf
    exact hQ _ _ dX11_act_15
set_option maxHeartbeats 4000000 in
set_option maxRecDepth 20000 in
theorem tX11_grain (l : Launch) (E : Ev) (a_mn : Nat → Nat) (q_mn_0_tape : Nat) (q_mn_0_spare : Nat) (q_mn_0_reader : Nat) (q_mn_0_mill : Nat) (q_mn_0_trial : Nat) (q_mn_0_image : Nat) (q_mn_0_steps : Nat) (q_mn_0_notes : Nat) (q_mn_0_futures : Nat) (q_mn_0_order : Nat) (q_mn_0_clapRow : Nat) (u_mn : St) (a_now : Nat → Nat) (u_now : St) (a_T : Nat → Nat → Nat) (u_T : Nat → St) (x_1 : Int32) (x_2 : Int32) (res : Int32) (hf : fX11_grain u_mn u_now u_T x_1 x_2 = some res) : MP l E yX11_grain cX11_grain 3 (some .int) (rmm 1 21) [wMain E a_mn q_mn_0_tape (a_T 0 0) q_mn_0_spare q_mn_0_reader q_mn_0_mill (a_now 0) q_mn_0_trial q_mn_0_image q_mn_0_steps q_mn_0_notes q_mn_0_futures q_mn_0_order q_mn_0_clapRow u_mn, wHall E a_now u_now, wScript E (a_T 0) (a_T 1 0) (a_T 2 0) (a_T 3 0) (a_T 4 0) (a_T 5 0) (a_T 6 0) (a_T 7 0) (u_T 0), wRoll E 6 (a_T 1) (u_T 1), wRoll E 6 (a_T 2) (u_T 2), wRoll E 4 (a_T 3) (u_T 3), wRoll E 14 (a_T 4) (u_T 4), wFormula E (a_T 5) (u_T 5), wFormula E (a_T 6) (u_T 6), wFormula E (a_T 7) (u_T 7)] [.ref (a_mn 0), .int x_1, .int x_2] (some (.int res)) := by
  unfold fX11_grain at hf
  refine MP.ofI rfl (by decide) (Nat.le_of_ble_eq_true rfl) ?_
  intro p e R s m args below meth c ls Q hRf hRl C hP hK hN hl hQ
  have hx := C.1
  have hb := C.2.1
  have hl : lv_has ls 3 [(0, .ref (a_mn 0)), (1, .int x_1), (2, .int x_2)] := hl
  refine lv_aload_n hx hb dX11_grain_0 rfl (lv_at hl 0 rfl) ?_
  refine gf_X11_X11_told C hK (hP 0 _ rfl) dX11_grain_1 ?_
  refine gf_X11_X8_grains C hK (hP 2 _ rfl) dX11_grain_4 ?_
  refine lv_iload_n hx hb dX11_grain_7 rfl (lv_at hl 1 rfl) ?_
  refine cxVP (As := [.int x_1]) (rest := []) (st1 := [.int (fX7_has 4 (u_T 3) x_1)]) C hK (tX7_has l E 4 (a_T 3) (u_T 3) x_1 (fX7_has 4 (u_T 3) x_1) rfl) lk_X11_143 ⟨rfl, rfl⟩ (by rw [hRf, hRl]; decide) ⟨Nat.zero_le _, Nat.zero_le _⟩ (PB.sub hP [5] rfl) (fun _ _ => rfl) hN (rc_X7 hK (hP 5 _ rfl)) rfl hl.1 rfl rfl (Nat.le_of_ble_eq_true rfl) dX11_grain_8 ?_
  refine lv_if_ne (tgt := 16) hx hb dX11_grain_11 (by decide) (fun c1 => ?_) (fun c1 => ?_)
  · have hf := (if_neg c1).symm.trans hf
    refine lv_iload_n hx hb dX11_grain_16 rfl (lv_at hl 2 rfl) ?_
    by_cases c2 : x_2 = 0
    · have hf := (if_pos c2).symm.trans hf
      refine lv_tableIn hx hb dX11_grain_17 (by rw [c2]; decide) (by rw [c2]; decide) (off := 31) (by rw [c2]; decide) (tgt := 48) (by decide) ?_
      refine lv_aload_n hx hb dX11_grain_48 rfl (lv_at hl 0 rfl) ?_
      refine gf_X11_X11_told C hK (hP 0 _ rfl) dX11_grain_49 ?_
      refine lv_iload_n hx hb dX11_grain_52 rfl (lv_at hl 1 rfl) ?_
      obtain ⟨r3, hr3, hf⟩ := ox_bind hf
      refine cxVP (As := [.int x_1]) (rest := []) (st1 := [.int r3]) C hK (tX8_low l E a_T u_T x_1 r3 hr3) lk_X11_186 ⟨rfl, rfl⟩ (by rw [hRf, hRl]; decide) ⟨Nat.zero_le _, Nat.zero_le _⟩ (PB.sub hP [2, 3, 4, 5, 6, 7, 8, 9] rfl) (fun _ _ => rfl) hN (rc_X8 hK (hP 2 _ rfl)) rfl hl.1 rfl rfl (Nat.le_of_ble_eq_true rfl) dX11_grain_53 ?_
      have hf := Option.some.inj hf
      subst hf
      exact hQ _ _ dX11_grain_56
    have hf := (if_neg c2).symm.trans hf
    by_cases c4 : x_2 = 1
    · have hf := (if_pos c4).symm.trans hf
      refine lv_tableIn hx hb dX11_grain_17 (by rw [c4]; decide) (by rw [c4]; decide) (off := 40) (by rw [c4]; decide) (tgt := 57) (by decide) ?_
      refine lv_aload_n hx hb dX11_grain_57 rfl (lv_at hl 0 rfl) ?_
      refine gf_X11_X11_told C hK (hP 0 _ rfl) dX11_grain_58 ?_
      refine lv_iload_n hx hb dX11_grain_61 rfl (lv_at hl 1 rfl) ?_
      obtain ⟨r5, hr5, hf⟩ := ox_bind hf
      refine cxVP (As := [.int x_1]) (rest := []) (st1 := [.int r5]) C hK (tX8_high l E a_T u_T x_1 r5 hr5) lk_X11_189 ⟨rfl, rfl⟩ (by rw [hRf, hRl]; decide) ⟨Nat.zero_le _, Nat.zero_le _⟩ (PB.sub hP [2, 3, 4, 5, 6, 7, 8, 9] rfl) (fun _ _ => rfl) hN (rc_X8 hK (hP 2 _ rfl)) rfl hl.1 rfl rfl (Nat.le_of_ble_eq_true rfl) dX11_grain_62 ?_
      have hf := Option.some.inj hf
      subst hf
      exact hQ _ _ dX11_grain_65
    have hf := (if_neg c4).symm.trans hf
    by_cases c6 : x_2 = 2
    · have hf := (if_pos c6).symm.trans hf
      refine lv_tableIn hx hb dX11_grain_17 (by rw [c6]; decide) (by rw [c6]; decide) (off := 49) (by rw [c6]; decide) (tgt := 66) (by decide) ?_
      refine lv_aload_n hx hb dX11_grain_66 rfl (lv_at hl 0 rfl) ?_
      refine gf_X11_X11_told C hK (hP 0 _ rfl) dX11_grain_67 ?_
      refine lv_iload_n hx hb dX11_grain_70 rfl (lv_at hl 1 rfl) ?_
      obtain ⟨r7, hr7, hf⟩ := ox_bind hf
      refine cxVP (As := [.int x_1]) (rest := []) (st1 := [.int r7]) C hK (tX8_sacks l E a_T u_T x_1 r7 hr7) lk_X11_192 ⟨rfl, rfl⟩ (by rw [hRf, hRl]; decide) ⟨Nat.zero_le _, Nat.zero_le _⟩ (PB.sub hP [2, 3, 4, 5, 6, 7, 8, 9] rfl) (fun _ _ => rfl) hN (rc_X8 hK (hP 2 _ rfl)) rfl hl.1 rfl rfl (Nat.le_of_ble_eq_true rfl) dX11_grain_71 ?_
      refine lv_aload_n hx hb dX11_grain_74 rfl (lv_at hl 0 rfl) ?_
      refine gf_X11_X11_now C hK (hP 0 _ rfl) dX11_grain_75 ?_
      refine gf_X11_X1_ground C hK (hP 1 _ rfl) dX11_grain_78 ?_
      refine lv_iload_n hx hb dX11_grain_81 rfl (lv_at hl 1 rfl) ?_
      obtain ⟨hn8, hf⟩ := ox_chk hf
      refine ld_X1_ground C hK (hP 1 _ rfl) hn8 rfl dX11_grain_82 ?_
      refine lv_isub hx hb dX11_grain_83 ?_
      have hf := Option.some.inj hf
      subst hf
      exact hQ _ _ dX11_grain_84
    have hf := (if_neg c6).symm.trans hf
    by_cases c9 : x_2 = 3
    · have hf := (if_pos c9).symm.trans hf
      refine lv_tableIn hx hb dX11_grain_17 (by rw [c9]; decide) (by rw [c9]; decide) (off := 68) (by rw [c9]; decide) (tgt := 85) (by decide) ?_
      refine lv_aload_n hx hb dX11_grain_85 rfl (lv_at hl 0 rfl) ?_
      refine gf_X11_X11_now C hK (hP 0 _ rfl) dX11_grain_86 ?_
      refine gf_X11_X1_ground C hK (hP 1 _ rfl) dX11_grain_89 ?_
      refine lv_iload_n hx hb dX11_grain_92 rfl (lv_at hl 1 rfl) ?_
      obtain ⟨hn10, hf⟩ := ox_chk hf
      refine ld_X1_ground C hK (hP 1 _ rfl) hn10 rfl dX11_grain_93 ?_
      have hf := Option.some.inj hf
      subst hf
      exact hQ _ _ dX11_grain_94
    have hf := (if_neg c9).symm.trans hf
    have hd11 : W p l e R s m args below meth c s.heap [] 0 0 Q (F0 m 95 ls []) := by
      refine lv_iconst (v := (-1)) hx hb dX11_grain_95 (by decide) ?_
      have hf := Option.some.inj hf
      subst hf
      exact hQ _ _ dX11_grain_96
    have nc2 := lv_neT c2 (show Int32.toInt 0 = 0 from rfl)
    have nc4 := lv_neT c4 (show Int32.toInt 1 = 1 from rfl)
    have nc6 := lv_neT c6 (show Int32.toInt 2 = 2 from rfl)
    have nc9 := lv_neT c9 (show Int32.toInt 3 = 3 from rfl)
    rcases (show Int32.toInt x_2 < 0 ∨ 3 < Int32.toInt x_2 by omega) with h | h
    · exact lv_tableOut hx hb dX11_grain_17 (Or.inl h) (tgt := 95) (by decide) hd11
    · exact lv_tableOut hx hb dX11_grain_17 (Or.inr h) (tgt := 95) (by decide) hd11
  · have hf := (if_pos c1).symm.trans hf
    refine lv_iconst (v := (-1)) hx hb dX11_grain_14 (by decide) ?_
    have hf := Option.some.inj hf
    subst hf
    exact hQ _ _ dX11_grain_15
set_option maxHeartbeats 4000000 in
set_option maxRecDepth 20000 in
theorem tX11_law (l : Launch) (E : Ev) (a_mn : Nat → Nat) (q_mn_0_tape : Nat) (q_mn_0_spare : Nat) (q_mn_0_reader : Nat) (q_mn_0_trial : Nat) (q_mn_0_image : Nat) (q_mn_0_steps : Nat) (q_mn_0_notes : Nat) (q_mn_0_futures : Nat) (q_mn_0_order : Nat) (q_mn_0_clapRow : Nat) (u_mn : St) (a_ml : Nat → Nat) (q_ml_0_script : Nat) (u_ml : St) (a_nm : Nat → Nat) (u_nm : St) (a_now : Nat → Nat) (u_now : St) (a_T : Nat → Nat → Nat) (u_T : Nat → St) (x_1 : Int32) (x_2 : Int32) (res : Int64 × St × St × (Nat → St)) (hf : fX11_law u_mn u_ml u_nm u_now u_T x_1 x_2 = some res) : MX l E yX11_law cX11_law 3 (some .long) (rmm 4 102) [wMain E a_mn q_mn_0_tape (a_T 0 0) q_mn_0_spare q_mn_0_reader (a_ml 0) (a_now 0) q_mn_0_trial q_mn_0_image q_mn_0_steps q_mn_0_notes q_mn_0_futures q_mn_0_order q_mn_0_clapRow u_mn, wMill E a_ml (a_nm 0) q_ml_0_script u_ml, wLArr E 7 a_nm u_nm, wHall E a_now u_now, wScript E (a_T 0) (a_T 1 0) (a_T 2 0) (a_T 3 0) (a_T 4 0) (a_T 5 0) (a_T 6 0) (a_T 7 0) (u_T 0), wRoll E 6 (a_T 1) (u_T 1), wRoll E 6 (a_T 2) (u_T 2), wRoll E 4 (a_T 3) (u_T 3), wRoll E 14 (a_T 4) (u_T 4), wFormula E (a_T 5) (u_T 5), wFormula E (a_T 6) (u_T 6), wFormula E (a_T 7) (u_T 7)] (fun q => [wMain E a_mn q_mn_0_tape (a_T 0 0) q_mn_0_spare q_mn_0_reader (a_ml 0) (a_now 0) q_mn_0_trial q_mn_0_image q_mn_0_steps q_mn_0_notes q_mn_0_futures q_mn_0_order q_mn_0_clapRow u_mn, wMill E a_ml (a_nm 0) (a_T 0 0) res.2.1, wLArr E 7 a_nm res.2.2.1, wHall E a_now u_now, wScript E (a_T 0) (a_T 1 0) (a_T 2 0) (a_T 3 0) (a_T 4 0) (a_T 5 0) (a_T 6 0) (a_T 7 0) (res.2.2.2 0), wRoll E 6 (a_T 1) (res.2.2.2 1), wRoll E 6 (a_T 2) (res.2.2.2 2), wRoll E 4 (a_T 3) (res.2.2.2 3), wRoll E 14 (a_T 4) (res.2.2.2 4), wFormula E (a_T 5) (res.2.2.2 5), wFormula E (a_T 6) (res.2.2.2 6), wFormula E (a_T 7) (res.2.2.2 7)]) [.ref (a_mn 0), .int x_1, .int x_2] (some (.long res.1)) := by
  unfold fX11_law at hf
  refine MX.ofL rfl (by decide) (Nat.le_of_ble_eq_true rfl) ?_
  intro p e R s m args below meth c ls Q ad H hRf hRl C hB hD hK hN hl hQ
  generalize hlocs : ([] : List Loc) = locs at hB ⊢
  clear hlocs
  have hx := C.1
  have hb := C.2.1
  have hl : lv_has ls 3 [(0, .ref (a_mn 0)), (1, .int x_1), (2, .int x_2)] := hl
  refine lv_aload_n hx hb dX11_law_0 rfl (lv_at hl 0 rfl) ?_
  refine gf_X11_X11_mill C hK (hB.1 0 _ rfl) dX11_law_1 ?_
  refine lv_aload_n hx hb dX11_law_4 rfl (lv_at hl 0 rfl) ?_
  refine gf_X11_X11_told C hK (hB.1 0 _ rfl) dX11_law_5 ?_
  obtain ⟨r1, er1, hf⟩ := ox_ex hf
  refine cxVX (bs1 := (fun q => [wMain E a_mn q_mn_0_tape (a_T 0 0) q_mn_0_spare q_mn_0_reader (a_ml 0) (a_now 0) q_mn_0_trial q_mn_0_image q_mn_0_steps q_mn_0_notes q_mn_0_futures q_mn_0_order q_mn_0_clapRow u_mn, wMill E a_ml (a_nm 0) (a_T 0 0) r1, wLArr E 7 a_nm u_nm, wHall E a_now u_now, wScript E (a_T 0) (a_T 1 0) (a_T 2 0) (a_T 3 0) (a_T 4 0) (a_T 5 0) (a_T 6 0) (a_T 7 0) (u_T 0), wRoll E 6 (a_T 1) (u_T 1), wRoll E 6 (a_T 2) (u_T 2), wRoll E 4 (a_T 3) (u_T 3), wRoll E 14 (a_T 4) (u_T 4), wFormula E (a_T 5) (u_T 5), wFormula E (a_T 6) (u_T 6), wFormula E (a_T 7) (u_T 7)])) (As := [.ref (a_T 0 0)]) (rest := []) (st1 := []) C hK (tX2_asItGoes l E a_ml (a_nm 0) q_ml_0_script u_ml (a_T 0 0) r1 er1.symm) lk_X11_198 (by rw [hRf, hRl]; decide) ⟨Nat.zero_le _, Nat.zero_le _⟩ hB hD hN [1] (by decide) rfl (fun _ => rfl) (fun _ => rfl) (rc_X2 hK (hB.1 1 _ rfl)) rfl hl.1 rfl rfl (Nat.le_of_ble_eq_true rfl) dX11_law_8 (fun H locs q2 hB => ?_)
  have hB : WB E ad s.heap [wMain E a_mn q_mn_0_tape (a_T 0 0) q_mn_0_spare q_mn_0_reader (a_ml 0) (a_now 0) q_mn_0_trial q_mn_0_image q_mn_0_steps q_mn_0_notes q_mn_0_futures q_mn_0_order q_mn_0_clapRow u_mn, wMill E a_ml (a_nm 0) (a_T 0 0) r1, wLArr E 7 a_nm u_nm, wHall E a_now u_now, wScript E (a_T 0) (a_T 1 0) (a_T 2 0) (a_T 3 0) (a_T 4 0) (a_T 5 0) (a_T 6 0) (a_T 7 0) (u_T 0), wRoll E 6 (a_T 1) (u_T 1), wRoll E 6 (a_T 2) (u_T 2), wRoll E 4 (a_T 3) (u_T 3), wRoll E 14 (a_T 4) (u_T 4), wFormula E (a_T 5) (u_T 5), wFormula E (a_T 6) (u_T 6), wFormula E (a_T 7) (u_T 7)] H locs := hB
  refine lv_iload_n hx hb dX11_law_11 rfl (lv_at hl 1 rfl) ?_
  refine lv_if_ne (tgt := 63) hx hb dX11_law_12 (by decide) (fun c3 => ?_) (fun c3 => ?_)
  · have hf := (if_neg c3).symm.trans hf
    refine lv_iload_n hx hb dX11_law_63 rfl (lv_at hl 1 rfl) ?_
    refine lv_iconst (v := 1) hx hb dX11_law_64 (by decide) ?_
    obtain ⟨j4, ej4, hf⟩ := ox_ex hf
    have hj4 : ∀ (ls : Array Slot) (H : Heap) (locs : List Loc), lv_has ls 3 [(0, .ref (a_mn 0)), (1, .int x_1)] → WB E ad s.heap [wMain E a_mn q_mn_0_tape (a_T 0 0) q_mn_0_spare q_mn_0_reader (a_ml 0) (a_now 0) q_mn_0_trial q_mn_0_image q_mn_0_steps q_mn_0_notes q_mn_0_futures q_mn_0_order q_mn_0_clapRow u_mn, wMill E a_ml (a_nm 0) (a_T 0 0) r1, wLArr E 7 a_nm u_nm, wHall E a_now u_now, wScript E (a_T 0) (a_T 1 0) (a_T 2 0) (a_T 3 0) (a_T 4 0) (a_T 5 0) (a_T 6 0) (a_T 7 0) (u_T 0), wRoll E 6 (a_T 1) (u_T 1), wRoll E 6 (a_T 2) (u_T 2), wRoll E 4 (a_T 3) (u_T 3), wRoll E 14 (a_T 4) (u_T 4), wFormula E (a_T 5) (u_T 5), wFormula E (a_T 6) (u_T 6), wFormula E (a_T 7) (u_T 7)] H locs → j4 = some res → W p l e R s m args below meth c H locs 0 0 Q (F0 m 73 ls []) := by
      intro ls H locs hl hB hf
      have hf := ox_a0 ej4 hf
      refine lv_aload_n hx hb dX11_law_73 rfl (lv_at hl 0 rfl) ?_
      refine gf_X11_X11_mill C hK (hB.1 0 _ rfl) dX11_law_74 ?_
      refine lv_aload_n hx hb dX11_law_77 rfl (lv_at hl 0 rfl) ?_
      refine gf_X11_X11_now C hK (hB.1 0 _ rfl) dX11_law_78 ?_
      refine lv_iload_n hx hb dX11_law_81 rfl (lv_at hl 1 rfl) ?_
      refine lv_iconst (v := 0) hx hb dX11_law_82 (by decide) ?_
      obtain ⟨r5, hr5, hf⟩ := ox_bind hf
      refine cxVX (bs1 := (fun q => [wMain E a_mn q_mn_0_tape (a_T 0 0) q_mn_0_spare q_mn_0_reader (a_ml 0) (a_now 0) q_mn_0_trial q_mn_0_image q_mn_0_steps q_mn_0_notes q_mn_0_futures q_mn_0_order q_mn_0_clapRow u_mn, wMill E a_ml (a_nm 0) (a_T 0 0) r1, wLArr E 7 a_nm r5.2.1, wHall E a_now u_now, wScript E (a_T 0) (a_T 1 0) (a_T 2 0) (a_T 3 0) (a_T 4 0) (a_T 5 0) (a_T 6 0) (a_T 7 0) (r5.2.2 0), wRoll E 6 (a_T 1) (r5.2.2 1), wRoll E 6 (a_T 2) (r5.2.2 2), wRoll E 4 (a_T 3) (r5.2.2 3), wRoll E 14 (a_T 4) (r5.2.2 4), wFormula E (a_T 5) (r5.2.2 5), wFormula E (a_T 6) (r5.2.2 6), wFormula E (a_T 7) (r5.2.2 7)])) (As := [.ref (a_now 0), .int x_1, .int (0 : Int32)]) (rest := []) (st1 := [.long r5.1]) C hK (tX2_stoneLaw l E a_ml r1 7 a_nm u_nm a_T u_T a_now u_now x_1 (0 : Int32) r5 hr5) lk_X11_207 (by rw [hRf, hRl]; decide) ⟨Nat.zero_le _, Nat.zero_le _⟩ hB hD hN [1, 2, 4, 5, 6, 7, 8, 9, 10, 11, 3] (by decide) rfl (fun _ => rfl) (fun _ => rfl) (rc_X2 hK (hB.1 1 _ rfl)) rfl hl.1 rfl rfl (Nat.le_of_ble_eq_true rfl) dX11_law_83 (fun H locs q6 hB => ?_)
      have hB : WB E ad s.heap [wMain E a_mn q_mn_0_tape (a_T 0 0) q_mn_0_spare q_mn_0_reader (a_ml 0) (a_now 0) q_mn_0_trial q_mn_0_image q_mn_0_steps q_mn_0_notes q_mn_0_futures q_mn_0_order q_mn_0_clapRow u_mn, wMill E a_ml (a_nm 0) (a_T 0 0) r1, wLArr E 7 a_nm r5.2.1, wHall E a_now u_now, wScript E (a_T 0) (a_T 1 0) (a_T 2 0) (a_T 3 0) (a_T 4 0) (a_T 5 0) (a_T 6 0) (a_T 7 0) (r5.2.2 0), wRoll E 6 (a_T 1) (r5.2.2 1), wRoll E 6 (a_T 2) (r5.2.2 2), wRoll E 4 (a_T 3) (r5.2.2 3), wRoll E 14 (a_T 4) (r5.2.2 4), wFormula E (a_T 5) (r5.2.2 5), wFormula E (a_T 6) (r5.2.2 6), wFormula E (a_T 7) (r5.2.2 7)] H locs := hB
      refine lv_goto (tgt := 92) hx hb dX11_law_86 (by decide) ?_
      have hf := Option.some.inj hf
      subst hf
      exact hQ _ _ H locs (fun _ => 0) hB dX11_law_92
    refine lv_icmp_eq (tgt := 73) hx hb dX11_law_65 (by decide) (fun c7 => ?_) (fun c7 => ?_)
    · have hf := (if_pos c7).symm.trans hf
      exact hj4 ls H locs (lv_sub hl [0, 1] rfl) hB hf
    · have hf := (if_neg c7).symm.trans hf
      refine lv_iload_n hx hb dX11_law_68 rfl (lv_at hl 1 rfl) ?_
      refine lv_iconst (v := 2) hx hb dX11_law_69 (by decide) ?_
      refine lv_icmp_ne (tgt := 89) hx hb dX11_law_70 (by decide) (fun c8 => ?_) (fun c8 => ?_)
      · have hf := (if_neg c8).symm.trans hf
        refine lv_ldc2 (v := -9223372036854775808) hx hb C.2.2.2.1 (C.2.2.2.2 _ mw_797) dX11_law_89 ?_
        have hf := Option.some.inj hf
        subst hf
        exact hQ _ _ H locs (fun _ => 0) hB dX11_law_92
      · have hf := (if_pos c8).symm.trans hf
        exact hj4 ls H locs (lv_sub hl [0, 1] rfl) hB hf
  · have hf := (if_pos c3).symm.trans hf
    refine lv_aload_n hx hb dX11_law_15 rfl (lv_at hl 0 rfl) ?_
    refine gf_X11_X11_told C hK (hB.1 0 _ rfl) dX11_law_16 ?_
    refine gf_X11_X8_guests C hK (hB.1 4 _ rfl) dX11_law_19 ?_
    refine lv_iload_n hx hb dX11_law_22 rfl (lv_at hl 2 rfl) ?_
    refine cxVP (As := [.int x_2]) (rest := []) (st1 := [.int (fX7_has 6 (u_T 2) x_2)]) C hK (tX7_has l E 6 (a_T 2) (u_T 2) x_2 (fX7_has 6 (u_T 2) x_2) rfl) lk_X11_143 ⟨rfl, rfl⟩ (by rw [hRf, hRl]; decide) ⟨Nat.zero_le _, Nat.zero_le _⟩ (PB.sub hB.1 [6] rfl) (hB.old hD hN) (Nat.le_trans hN hB.2.2.1) (rc_X7 hK (hB.1 6 _ rfl)) rfl hl.1 rfl rfl (Nat.le_of_ble_eq_true rfl) dX11_law_23 ?_
    refine lv_if_eq (tgt := 59) hx hb dX11_law_26 (by decide) (fun c9 => ?_) (fun c9 => ?_)
    · have hf := (if_pos c9).symm.trans hf
      refine lv_ldc2 (v := -9223372036854775808) hx hb C.2.2.2.1 (C.2.2.2.2 _ mw_797) dX11_law_59 ?_
      have hf := Option.some.inj hf
      subst hf
      exact hQ _ _ H locs (fun _ => 0) hB dX11_law_62
    · have hf := (if_neg c9).symm.trans hf
      refine lv_aload_n hx hb dX11_law_29 rfl (lv_at hl 0 rfl) ?_
      refine gf_X11_X11_mill C hK (hB.1 0 _ rfl) dX11_law_30 ?_
      refine lv_aload_n hx hb dX11_law_33 rfl (lv_at hl 0 rfl) ?_
      refine gf_X11_X11_now C hK (hB.1 0 _ rfl) dX11_law_34 ?_
      refine lv_iload_n hx hb dX11_law_37 rfl (lv_at hl 2 rfl) ?_
      refine lv_aload_n hx hb dX11_law_38 rfl (lv_at hl 0 rfl) ?_
      refine gf_X11_X11_told C hK (hB.1 0 _ rfl) dX11_law_39 ?_
      refine lv_aload_n hx hb dX11_law_42 rfl (lv_at hl 0 rfl) ?_
      refine gf_X11_X11_now C hK (hB.1 0 _ rfl) dX11_law_43 ?_
      refine gf_X11_X1_on C hK (hB.1 3 _ rfl) dX11_law_46 ?_
      obtain ⟨r10, hr10, hf⟩ := ox_bind hf
      refine cxVP (As := [.int (gI u_now 2)]) (rest := [.int x_2, .ref (a_now 0), .ref (a_ml 0)]) (st1 := [.int r10, .int x_2, .ref (a_now 0), .ref (a_ml 0)]) C hK (tX8_mood l E a_T u_T (gI u_now 2) r10 hr10) lk_X11_174 ⟨rfl, rfl⟩ (by rw [hRf, hRl]; decide) ⟨Nat.zero_le _, Nat.zero_le _⟩ (PB.sub hB.1 [4, 5, 6, 7, 8, 9, 10, 11] rfl) (hB.old hD hN) (Nat.le_trans hN hB.2.2.1) (rc_X8 hK (hB.1 4 _ rfl)) rfl hl.1 rfl rfl (Nat.le_of_ble_eq_true rfl) dX11_law_49 ?_
      refine lv_iconst (v := 0) hx hb dX11_law_52 (by decide) ?_
      obtain ⟨r11, hr11, hf⟩ := ox_bind hf
      refine cxVX (bs1 := (fun q => [wMain E a_mn q_mn_0_tape (a_T 0 0) q_mn_0_spare q_mn_0_reader (a_ml 0) (a_now 0) q_mn_0_trial q_mn_0_image q_mn_0_steps q_mn_0_notes q_mn_0_futures q_mn_0_order q_mn_0_clapRow u_mn, wMill E a_ml (a_nm 0) (a_T 0 0) r1, wLArr E 7 a_nm r11.2.1, wHall E a_now u_now, wScript E (a_T 0) (a_T 1 0) (a_T 2 0) (a_T 3 0) (a_T 4 0) (a_T 5 0) (a_T 6 0) (a_T 7 0) (r11.2.2 0), wRoll E 6 (a_T 1) (r11.2.2 1), wRoll E 6 (a_T 2) (r11.2.2 2), wRoll E 4 (a_T 3) (r11.2.2 3), wRoll E 14 (a_T 4) (r11.2.2 4), wFormula E (a_T 5) (r11.2.2 5), wFormula E (a_T 6) (r11.2.2 6), wFormula E (a_T 7) (r11.2.2 7)])) (As := [.ref (a_now 0), .int x_2, .int r10, .int (0 : Int32)]) (rest := []) (st1 := [.long r11.1]) C hK (tX2_clapLaw l E a_ml r1 7 a_nm u_nm a_T u_T a_now u_now x_2 r10 (0 : Int32) r11 hr11) lk_X11_201 (by rw [hRf, hRl]; decide) ⟨Nat.zero_le _, Nat.zero_le _⟩ hB hD hN [1, 2, 4, 5, 6, 7, 8, 9, 10, 11, 3] (by decide) rfl (fun _ => rfl) (fun _ => rfl) (rc_X2 hK (hB.1 1 _ rfl)) rfl hl.1 rfl rfl (Nat.le_of_ble_eq_true rfl) dX11_law_53 (fun H locs q12 hB => ?_)
      have hB : WB E ad s.heap [wMain E a_mn q_mn_0_tape (a_T 0 0) q_mn_0_spare q_mn_0_reader (a_ml 0) (a_now 0) q_mn_0_trial q_mn_0_image q_mn_0_steps q_mn_0_notes q_mn_0_futures q_mn_0_order q_mn_0_clapRow u_mn, wMill E a_ml (a_nm 0) (a_T 0 0) r1, wLArr E 7 a_nm r11.2.1, wHall E a_now u_now, wScript E (a_T 0) (a_T 1 0) (a_T 2 0) (a_T 3 0) (a_T 4 0) (a_T 5 0) (a_T 6 0) (a_T 7 0) (r11.2.2 0), wRoll E 6 (a_T 1) (r11.2.2 1), wRoll E 6 (a_T 2) (r11.2.2 2), wRoll E 4 (a_T 3) (r11.2.2 3), wRoll E 14 (a_T 4) (r11.2.2 4), wFormula E (a_T 5) (r11.2.2 5), wFormula E (a_T 6) (r11.2.2 6), wFormula E (a_T 7) (r11.2.2 7)] H locs := hB
      refine lv_goto (tgt := 62) hx hb dX11_law_56 (by decide) ?_
      have hf := Option.some.inj hf
      subst hf
      exact hQ _ _ H locs (fun _ => 0) hB dX11_law_62
set_option maxHeartbeats 4000000 in
set_option maxRecDepth 20000 in
theorem tX11_countOfHall (l : Launch) (E : Ev) (a_mn : Nat → Nat) (q_mn_0_tape : Nat) (q_mn_0_spare : Nat) (q_mn_0_reader : Nat) (q_mn_0_mill : Nat) (q_mn_0_trial : Nat) (q_mn_0_image : Nat) (q_mn_0_steps : Nat) (q_mn_0_notes : Nat) (q_mn_0_futures : Nat) (q_mn_0_order : Nat) (q_mn_0_clapRow : Nat) (u_mn : St) (a_now : Nat → Nat) (u_now : St) (a_T : Nat → Nat → Nat) (u_T : Nat → St) (x_1 : Int32) (res : Int32) (hf : fX11_countOfHall u_mn u_now u_T x_1 = some res) : MP l E yX11_countOfHall cX11_countOfHall 2 (some .int) (rmm 2 43) [wMain E a_mn q_mn_0_tape (a_T 0 0) q_mn_0_spare q_mn_0_reader q_mn_0_mill (a_now 0) q_mn_0_trial q_mn_0_image q_mn_0_steps q_mn_0_notes q_mn_0_futures q_mn_0_order q_mn_0_clapRow u_mn, wHall E a_now u_now, wScript E (a_T 0) (a_T 1 0) (a_T 2 0) (a_T 3 0) (a_T 4 0) (a_T 5 0) (a_T 6 0) (a_T 7 0) (u_T 0), wRoll E 6 (a_T 1) (u_T 1), wRoll E 6 (a_T 2) (u_T 2), wRoll E 4 (a_T 3) (u_T 3), wRoll E 14 (a_T 4) (u_T 4), wFormula E (a_T 5) (u_T 5), wFormula E (a_T 6) (u_T 6), wFormula E (a_T 7) (u_T 7)] [.ref (a_mn 0), .int x_1] (some (.int res)) := by
  unfold fX11_countOfHall at hf
  refine MP.ofI rfl (by decide) (Nat.le_of_ble_eq_true rfl) ?_
  intro p e R s m args below meth c ls Q hRf hRl C hP hK hN hl hQ
  have hx := C.1
  have hb := C.2.1
  have hl : lv_has ls 2 [(0, .ref (a_mn 0)), (1, .int x_1)] := hl
  refine lv_iload_n hx hb dX11_countOfHall_0 rfl (lv_at hl 1 rfl) ?_
  by_cases c1 : x_1 = 5
  · have hf := (if_pos c1).symm.trans hf
    refine lv_tableIn hx hb dX11_countOfHall_1 (by rw [c1]; decide) (by rw [c1]; decide) (off := 47) (by rw [c1]; decide) (tgt := 48) (by decide) ?_
    refine lv_aload_n hx hb dX11_countOfHall_48 rfl (lv_at hl 0 rfl) ?_
    refine gf_X11_X11_now C hK (hP 0 _ rfl) dX11_countOfHall_49 ?_
    refine gf_X11_X1_minute C hK (hP 1 _ rfl) dX11_countOfHall_52 ?_
    have hf := Option.some.inj hf
    subst hf
    exact hQ _ _ dX11_countOfHall_55
  have hf := (if_neg c1).symm.trans hf
  by_cases c2 : x_1 = 6
  · have hf := (if_pos c2).symm.trans hf
    refine lv_tableIn hx hb dX11_countOfHall_1 (by rw [c2]; decide) (by rw [c2]; decide) (off := 55) (by rw [c2]; decide) (tgt := 56) (by decide) ?_
    refine lv_aload_n hx hb dX11_countOfHall_56 rfl (lv_at hl 0 rfl) ?_
    refine gf_X11_X11_now C hK (hP 0 _ rfl) dX11_countOfHall_57 ?_
    refine gf_X11_X1_speed C hK (hP 1 _ rfl) dX11_countOfHall_60 ?_
    have hf := Option.some.inj hf
    subst hf
    exact hQ _ _ dX11_countOfHall_63
  have hf := (if_neg c2).symm.trans hf
  by_cases c3 : x_1 = 7
  · have hf := (if_pos c3).symm.trans hf
    refine lv_tableIn hx hb dX11_countOfHall_1 (by rw [c3]; decide) (by rw [c3]; decide) (off := 63) (by rw [c3]; decide) (tgt := 64) (by decide) ?_
    refine lv_aload_n hx hb dX11_countOfHall_64 rfl (lv_at hl 0 rfl) ?_
    refine gf_X11_X11_told C hK (hP 0 _ rfl) dX11_countOfHall_65 ?_
    obtain ⟨r4, hr4, hf⟩ := ox_bind hf
    refine cxVP (As := []) (rest := []) (st1 := [.int r4]) C hK (tX8_allSacks l E a_T u_T r4 hr4) lk_X11_235 ⟨rfl, rfl⟩ (by rw [hRf, hRl]; decide) ⟨Nat.zero_le _, Nat.zero_le _⟩ (PB.sub hP [2, 3, 4, 5, 6, 7, 8, 9] rfl) (fun _ _ => rfl) hN (rc_X8 hK (hP 2 _ rfl)) rfl hl.1 rfl rfl (Nat.le_of_ble_eq_true rfl) dX11_countOfHall_68 ?_
    refine lv_aload_n hx hb dX11_countOfHall_71 rfl (lv_at hl 0 rfl) ?_
    refine gf_X11_X11_now C hK (hP 0 _ rfl) dX11_countOfHall_72 ?_
    refine gf_X11_X1_groundInAll C hK (hP 1 _ rfl) dX11_countOfHall_75 ?_
    refine lv_isub hx hb dX11_countOfHall_78 ?_
    have hf := Option.some.inj hf
    subst hf
    exact hQ _ _ dX11_countOfHall_79
  have hf := (if_neg c3).symm.trans hf
  by_cases c5 : x_1 = 8
  · have hf := (if_pos c5).symm.trans hf
    refine lv_tableIn hx hb dX11_countOfHall_1 (by rw [c5]; decide) (by rw [c5]; decide) (off := 79) (by rw [c5]; decide) (tgt := 80) (by decide) ?_
    refine lv_aload_n hx hb dX11_countOfHall_80 rfl (lv_at hl 0 rfl) ?_
    refine gf_X11_X11_now C hK (hP 0 _ rfl) dX11_countOfHall_81 ?_
    refine gf_X11_X1_groundInAll C hK (hP 1 _ rfl) dX11_countOfHall_84 ?_
    have hf := Option.some.inj hf
    subst hf
    exact hQ _ _ dX11_countOfHall_87
  have hf := (if_neg c5).symm.trans hf
  by_cases c6 : x_1 = 9
  · have hf := (if_pos c6).symm.trans hf
    refine lv_tableIn hx hb dX11_countOfHall_1 (by rw [c6]; decide) (by rw [c6]; decide) (off := 87) (by rw [c6]; decide) (tgt := 88) (by decide) ?_
    refine lv_aload_n hx hb dX11_countOfHall_88 rfl (lv_at hl 0 rfl) ?_
    refine gf_X11_X11_now C hK (hP 0 _ rfl) dX11_countOfHall_89 ?_
    refine gf_X11_X1_refused C hK (hP 1 _ rfl) dX11_countOfHall_92 ?_
    have hf := Option.some.inj hf
    subst hf
    exact hQ _ _ dX11_countOfHall_95
  have hf := (if_neg c6).symm.trans hf
  by_cases c7 : x_1 = 10
  · have hf := (if_pos c7).symm.trans hf
    refine lv_tableIn hx hb dX11_countOfHall_1 (by rw [c7]; decide) (by rw [c7]; decide) (off := 95) (by rw [c7]; decide) (tgt := 96) (by decide) ?_
    refine lv_aload_n hx hb dX11_countOfHall_96 rfl (lv_at hl 0 rfl) ?_
    refine gf_X11_X11_now C hK (hP 0 _ rfl) dX11_countOfHall_97 ?_
    refine gf_X11_X1_coughed C hK (hP 1 _ rfl) dX11_countOfHall_100 ?_
    have hf := Option.some.inj hf
    subst hf
    exact hQ _ _ dX11_countOfHall_103
  have hf := (if_neg c7).symm.trans hf
  by_cases c8 : x_1 = 11
  · have hf := (if_pos c8).symm.trans hf
    refine lv_tableIn hx hb dX11_countOfHall_1 (by rw [c8]; decide) (by rw [c8]; decide) (off := 103) (by rw [c8]; decide) (tgt := 104) (by decide) ?_
    refine lv_aload_n hx hb dX11_countOfHall_104 rfl (lv_at hl 0 rfl) ?_
    refine gf_X11_X11_now C hK (hP 0 _ rfl) dX11_countOfHall_105 ?_
    obtain ⟨r9, hr9, hf⟩ := ox_bind hf
    refine cxVP (As := []) (rest := []) (st1 := [.int r9]) C hK (tX1_tiredInAll l E a_now u_now r9 hr9) lk_X11_247 ⟨rfl, rfl⟩ (by rw [hRf, hRl]; decide) ⟨Nat.zero_le _, Nat.zero_le _⟩ (PB.sub hP [1] rfl) (fun _ _ => rfl) hN (rc_X1 hK (hP 1 _ rfl)) rfl hl.1 rfl rfl (Nat.le_of_ble_eq_true rfl) dX11_countOfHall_108 ?_
    have hf := Option.some.inj hf
    subst hf
    exact hQ _ _ dX11_countOfHall_111
  have hf := (if_neg c8).symm.trans hf
  by_cases c10 : x_1 = 12
  · have hf := (if_pos c10).symm.trans hf
    refine lv_tableIn hx hb dX11_countOfHall_1 (by rw [c10]; decide) (by rw [c10]; decide) (off := 111) (by rw [c10]; decide) (tgt := 112) (by decide) ?_
    refine lv_aload_n hx hb dX11_countOfHall_112 rfl (lv_at hl 0 rfl) ?_
    refine gf_X11_X11_now C hK (hP 0 _ rfl) dX11_countOfHall_113 ?_
    refine gf_X11_X1_on C hK (hP 1 _ rfl) dX11_countOfHall_116 ?_
    refine lv_iconst (v := (-1)) hx hb dX11_countOfHall_119 (by decide) ?_
    obtain ⟨x11, ex11, hf⟩ := ox_ex hf
    have hjx11 : W p l e R s m args below meth c s.heap [] 0 0 Q (F0 m 135 ls [.int x11]) := by
      have hf := Option.some.inj hf
      subst hf
      exact hQ _ _ dX11_countOfHall_135
    refine lv_icmp_ne (tgt := 128) hx hb dX11_countOfHall_120 (by decide) (fun c12 => ?_) (fun c12 => ?_)
    · refine lv_aload_n hx hb dX11_countOfHall_128 rfl (lv_at hl 0 rfl) ?_
      refine gf_X11_X11_now C hK (hP 0 _ rfl) dX11_countOfHall_129 ?_
      refine gf_X11_X1_on C hK (hP 1 _ rfl) dX11_countOfHall_132 ?_
      exact ox_topi ((ex11).trans (if_neg c12)).symm hjx11
    · refine lv_bipush (v := (-2)) hx hb dX11_countOfHall_123 (by decide) ?_
      refine lv_goto (tgt := 135) hx hb dX11_countOfHall_125 (by decide) ?_
      exact ox_topi ((ex11).trans (if_pos c12)).symm hjx11
  have hf := (if_neg c10).symm.trans hf
  have hd13 : W p l e R s m args below meth c s.heap [] 0 0 Q (F0 m 136 ls []) := by
    refine lv_ldc (v := -2147483648) hx hb C.2.2.2.1 (C.2.2.2.2 _ mw_828) dX11_countOfHall_136 ?_
    have hf := Option.some.inj hf
    subst hf
    exact hQ _ _ dX11_countOfHall_138
  have nc1 := lv_neT c1 (show Int32.toInt 5 = 5 from rfl)
  have nc2 := lv_neT c2 (show Int32.toInt 6 = 6 from rfl)
  have nc3 := lv_neT c3 (show Int32.toInt 7 = 7 from rfl)
  have nc5 := lv_neT c5 (show Int32.toInt 8 = 8 from rfl)
  have nc6 := lv_neT c6 (show Int32.toInt 9 = 9 from rfl)
  have nc7 := lv_neT c7 (show Int32.toInt 10 = 10 from rfl)
  have nc8 := lv_neT c8 (show Int32.toInt 11 = 11 from rfl)
  have nc10 := lv_neT c10 (show Int32.toInt 12 = 12 from rfl)
  rcases (show Int32.toInt x_1 < 5 ∨ 12 < Int32.toInt x_1 by omega) with h | h
  · exact lv_tableOut hx hb dX11_countOfHall_1 (Or.inl h) (tgt := 136) (by decide) hd13
  · exact lv_tableOut hx hb dX11_countOfHall_1 (Or.inr h) (tgt := 136) (by decide) hd13
set_option maxHeartbeats 4000000 in
set_option maxRecDepth 20000 in
theorem tX11_count (l : Launch) (E : Ev) (a_mn : Nat → Nat) (q_mn_0_tape : Nat) (q_mn_0_spare : Nat) (q_mn_0_reader : Nat) (q_mn_0_mill : Nat) (q_mn_0_trial : Nat) (q_mn_0_image : Nat) (q_mn_0_futures : Nat) (q_mn_0_order : Nat) (q_mn_0_clapRow : Nat) (u_mn : St) (a_now : Nat → Nat) (u_now : St) (a_sp : Nat → Nat) (u_sp : St) (a_nt : Nat → Nat) (u_nt : St) (a_T : Nat → Nat → Nat) (u_T : Nat → St) (x_1 : Int32) (res : Int32) (hf : fX11_count u_mn u_now u_sp u_nt u_T x_1 = some res) : MP l E yX11_count cX11_count 2 (some .int) (rmm 3 64) [wMain E a_mn q_mn_0_tape (a_T 0 0) q_mn_0_spare q_mn_0_reader q_mn_0_mill (a_now 0) q_mn_0_trial q_mn_0_image (a_sp 0) (a_nt 0) q_mn_0_futures q_mn_0_order q_mn_0_clapRow u_mn, wHall E a_now u_now, wSteps E a_sp u_sp, wNotes E a_nt u_nt, wScript E (a_T 0) (a_T 1 0) (a_T 2 0) (a_T 3 0) (a_T 4 0) (a_T 5 0) (a_T 6 0) (a_T 7 0) (u_T 0), wRoll E 6 (a_T 1) (u_T 1), wRoll E 6 (a_T 2) (u_T 2), wRoll E 4 (a_T 3) (u_T 3), wRoll E 14 (a_T 4) (u_T 4), wFormula E (a_T 5) (u_T 5), wFormula E (a_T 6) (u_T 6), wFormula E (a_T 7) (u_T 7)] [.ref (a_mn 0), .int x_1] (some (.int res)) := by
  unfold fX11_count at hf
  refine MP.ofI rfl (by decide) (Nat.le_of_ble_eq_true rfl) ?_
  intro p e R s m args below meth c ls Q hRf hRl C hP hK hN hl hQ
  have hx := C.1
  have hb := C.2.1
  have hl : lv_has ls 2 [(0, .ref (a_mn 0)), (1, .int x_1)] := hl
  refine lv_iload_n hx hb dX11_count_0 rfl (lv_at hl 1 rfl) ?_
  by_cases c1 : x_1 = 0
  · have hf := (if_pos c1).symm.trans hf
    refine lv_tableIn hx hb dX11_count_1 (by rw [c1]; decide) (by rw [c1]; decide) (off := 79) (by rw [c1]; decide) (tgt := 80) (by decide) ?_
    refine lv_aload_n hx hb dX11_count_80 rfl (lv_at hl 0 rfl) ?_
    refine gf_X11_X11_told C hK (hP 0 _ rfl) dX11_count_81 ?_
    refine gf_X11_X8_acts C hK (hP 4 _ rfl) dX11_count_84 ?_
    refine gf_X11_X7_size C hK (hP 5 _ rfl) dX11_count_87 ?_
    have hf := Option.some.inj hf
    subst hf
    exact hQ _ _ dX11_count_90
  have hf := (if_neg c1).symm.trans hf
  by_cases c2 : x_1 = 1
  · have hf := (if_pos c2).symm.trans hf
    refine lv_tableIn hx hb dX11_count_1 (by rw [c2]; decide) (by rw [c2]; decide) (off := 90) (by rw [c2]; decide) (tgt := 91) (by decide) ?_
    refine lv_aload_n hx hb dX11_count_91 rfl (lv_at hl 0 rfl) ?_
    refine gf_X11_X11_told C hK (hP 0 _ rfl) dX11_count_92 ?_
    refine gf_X11_X8_guests C hK (hP 4 _ rfl) dX11_count_95 ?_
    refine gf_X11_X7_size C hK (hP 6 _ rfl) dX11_count_98 ?_
    have hf := Option.some.inj hf
    subst hf
    exact hQ _ _ dX11_count_101
  have hf := (if_neg c2).symm.trans hf
  by_cases c3 : x_1 = 2
  · have hf := (if_pos c3).symm.trans hf
    refine lv_tableIn hx hb dX11_count_1 (by rw [c3]; decide) (by rw [c3]; decide) (off := 101) (by rw [c3]; decide) (tgt := 102) (by decide) ?_
    refine lv_aload_n hx hb dX11_count_102 rfl (lv_at hl 0 rfl) ?_
    refine gf_X11_X11_told C hK (hP 0 _ rfl) dX11_count_103 ?_
    refine gf_X11_X8_grains C hK (hP 4 _ rfl) dX11_count_106 ?_
    refine gf_X11_X7_size C hK (hP 7 _ rfl) dX11_count_109 ?_
    have hf := Option.some.inj hf
    subst hf
    exact hQ _ _ dX11_count_112
  have hf := (if_neg c3).symm.trans hf
  by_cases c4 : x_1 = 3
  · have hf := (if_pos c4).symm.trans hf
    refine lv_tableIn hx hb dX11_count_1 (by rw [c4]; decide) (by rw [c4]; decide) (off := 112) (by rw [c4]; decide) (tgt := 113) (by decide) ?_
    refine lv_aload_n hx hb dX11_count_113 rfl (lv_at hl 0 rfl) ?_
    refine gf_X11_X11_told C hK (hP 0 _ rfl) dX11_count_114 ?_
    refine gf_X11_X8_shows C hK (hP 4 _ rfl) dX11_count_117 ?_
    refine gf_X11_X7_size C hK (hP 8 _ rfl) dX11_count_120 ?_
    have hf := Option.some.inj hf
    subst hf
    exact hQ _ _ dX11_count_123
  have hf := (if_neg c4).symm.trans hf
  by_cases c5 : x_1 = 4
  · have hf := (if_pos c5).symm.trans hf
    refine lv_tableIn hx hb dX11_count_1 (by rw [c5]; decide) (by rw [c5]; decide) (off := 123) (by rw [c5]; decide) (tgt := 124) (by decide) ?_
    refine lv_aload_n hx hb dX11_count_124 rfl (lv_at hl 0 rfl) ?_
    refine gf_X11_X11_told C hK (hP 0 _ rfl) dX11_count_125 ?_
    refine gf_X11_X8_knots C hK (hP 4 _ rfl) dX11_count_128 ?_
    have hf := Option.some.inj hf
    subst hf
    exact hQ _ _ dX11_count_131
  have hf := (if_neg c5).symm.trans hf
  by_cases c6 : x_1 = 13
  · have hf := (if_pos c6).symm.trans hf
    refine lv_tableIn hx hb dX11_count_1 (by rw [c6]; decide) (by rw [c6]; decide) (off := 131) (by rw [c6]; decide) (tgt := 132) (by decide) ?_
    refine lv_aload_n hx hb dX11_count_132 rfl (lv_at hl 0 rfl) ?_
    refine gf_X11_X11_notes C hK (hP 0 _ rfl) dX11_count_133 ?_
    refine gf_X11_X3_size C hK (hP 3 _ rfl) dX11_count_136 ?_
    have hf := Option.some.inj hf
    subst hf
    exact hQ _ _ dX11_count_139
  have hf := (if_neg c6).symm.trans hf
  by_cases c7 : x_1 = 14
  · have hf := (if_pos c7).symm.trans hf
    refine lv_tableIn hx hb dX11_count_1 (by rw [c7]; decide) (by rw [c7]; decide) (off := 139) (by rw [c7]; decide) (tgt := 140) (by decide) ?_
    refine lv_aload_n hx hb dX11_count_140 rfl (lv_at hl 0 rfl) ?_
    refine gf_X11_X11_notes C hK (hP 0 _ rfl) dX11_count_141 ?_
    refine cxVP (As := []) (rest := []) (st1 := [.int (fX3_counted u_nt)]) C hK (tX3_counted l E a_nt u_nt (fX3_counted u_nt) rfl) lk_X11_221 ⟨rfl, rfl⟩ (by rw [hRf, hRl]; decide) ⟨Nat.zero_le _, Nat.zero_le _⟩ (PB.sub hP [3] rfl) (fun _ _ => rfl) hN (rc_X3 hK (hP 3 _ rfl)) rfl hl.1 rfl rfl (Nat.le_of_ble_eq_true rfl) dX11_count_144 ?_
    have hf := Option.some.inj hf
    subst hf
    exact hQ _ _ dX11_count_147
  have hf := (if_neg c7).symm.trans hf
  by_cases c8 : x_1 = 15
  · have hf := (if_pos c8).symm.trans hf
    refine lv_tableIn hx hb dX11_count_1 (by rw [c8]; decide) (by rw [c8]; decide) (off := 147) (by rw [c8]; decide) (tgt := 148) (by decide) ?_
    refine lv_aload_n hx hb dX11_count_148 rfl (lv_at hl 0 rfl) ?_
    refine gf_X11_X11_steps C hK (hP 0 _ rfl) dX11_count_149 ?_
    refine gf_X11_X9_size C hK (hP 2 _ rfl) dX11_count_152 ?_
    have hf := Option.some.inj hf
    subst hf
    exact hQ _ _ dX11_count_155
  have hf := (if_neg c8).symm.trans hf
  have hd10 : W p l e R s m args below meth c s.heap [] 0 0 Q (F0 m 156 ls []) := by
    refine lv_aload_n hx hb dX11_count_156 rfl (lv_at hl 0 rfl) ?_
    refine lv_iload_n hx hb dX11_count_157 rfl (lv_at hl 1 rfl) ?_
    obtain ⟨r9, hr9, hf⟩ := ox_bind hf
    refine cxVP (As := [.int x_1]) (rest := []) (st1 := [.int r9]) C hK (tX11_countOfHall l E a_mn q_mn_0_tape q_mn_0_spare q_mn_0_reader q_mn_0_mill q_mn_0_trial q_mn_0_image (a_sp 0) (a_nt 0) q_mn_0_futures q_mn_0_order q_mn_0_clapRow u_mn a_now u_now a_T u_T x_1 r9 hr9) lk_X11_226 ⟨rfl, rfl⟩ (by rw [hRf, hRl]; decide) ⟨Nat.zero_le _, Nat.zero_le _⟩ (PB.sub hP [0, 1, 4, 5, 6, 7, 8, 9, 10, 11] rfl) (fun _ _ => rfl) hN (rc_X11 hK (hP 0 _ rfl)) rfl hl.1 rfl rfl (Nat.le_of_ble_eq_true rfl) dX11_count_158 ?_
    have hf := Option.some.inj hf
    subst hf
    exact hQ _ _ dX11_count_161
  have nc1 := lv_neT c1 (show Int32.toInt 0 = 0 from rfl)
  have nc2 := lv_neT c2 (show Int32.toInt 1 = 1 from rfl)
  have nc3 := lv_neT c3 (show Int32.toInt 2 = 2 from rfl)
  have nc4 := lv_neT c4 (show Int32.toInt 3 = 3 from rfl)
  have nc5 := lv_neT c5 (show Int32.toInt 4 = 4 from rfl)
  have nc6 := lv_neT c6 (show Int32.toInt 13 = 13 from rfl)
  have nc7 := lv_neT c7 (show Int32.toInt 14 = 14 from rfl)
  have nc8 := lv_neT c8 (show Int32.toInt 15 = 15 from rfl)
  rcases (show Int32.toInt x_1 < 0 ∨ 15 < Int32.toInt x_1 ∨ Int32.toInt x_1 = 5 ∨ Int32.toInt x_1 = 6 ∨ Int32.toInt x_1 = 7 ∨ Int32.toInt x_1 = 8 ∨ Int32.toInt x_1 = 9 ∨ Int32.toInt x_1 = 10 ∨ Int32.toInt x_1 = 11 ∨ Int32.toInt x_1 = 12 by omega) with h | h | h | h | h | h | h | h | h | h
  · exact lv_tableOut hx hb dX11_count_1 (Or.inl h) (tgt := 156) (by decide) hd10
  · exact lv_tableOut hx hb dX11_count_1 (Or.inr h) (tgt := 156) (by decide) hd10
  · exact lv_tableIn hx hb dX11_count_1 (by rw [h]; decide) (by rw [h]; decide) (off := 155) (by rw [h]; decide) (tgt := 156) (by decide) hd10
  · exact lv_tableIn hx hb dX11_count_1 (by rw [h]; decide) (by rw [h]; decide) (off := 155) (by rw [h]; decide) (tgt := 156) (by decide) hd10
  · exact lv_tableIn hx hb dX11_count_1 (by rw [h]; decide) (by rw [h]; decide) (off := 155) (by rw [h]; decide) (tgt := 156) (by decide) hd10
  · exact lv_tableIn hx hb dX11_count_1 (by rw [h]; decide) (by rw [h]; decide) (off := 155) (by rw [h]; decide) (tgt := 156) (by decide) hd10
  · exact lv_tableIn hx hb dX11_count_1 (by rw [h]; decide) (by rw [h]; decide) (off := 155) (by rw [h]; decide) (tgt := 156) (by decide) hd10
  · exact lv_tableIn hx hb dX11_count_1 (by rw [h]; decide) (by rw [h]; decide) (off := 155) (by rw [h]; decide) (tgt := 156) (by decide) hd10
  · exact lv_tableIn hx hb dX11_count_1 (by rw [h]; decide) (by rw [h]; decide) (off := 155) (by rw [h]; decide) (tgt := 156) (by decide) hd10
  · exact lv_tableIn hx hb dX11_count_1 (by rw [h]; decide) (by rw [h]; decide) (off := 155) (by rw [h]; decide) (tgt := 156) (by decide) hd10
set_option maxHeartbeats 4000000 in
set_option maxRecDepth 20000 in
theorem tX11_stage (l : Launch) (E : Ev) (a_mn : Nat → Nat) (q_mn_0_tape : Nat) (q_mn_0_spare : Nat) (q_mn_0_reader : Nat) (q_mn_0_mill : Nat) (q_mn_0_trial : Nat) (q_mn_0_image : Nat) (q_mn_0_notes : Nat) (q_mn_0_futures : Nat) (q_mn_0_order : Nat) (q_mn_0_clapRow : Nat) (u_mn : St) (a_now : Nat → Nat) (u_now : St) (a_sp : Nat → Nat) (u_sp : St) (a_T : Nat → Nat → Nat) (u_T : Nat → St) (x_1 : Int32) (res : Int32 × St × St) (hf : fX11_stage u_mn u_now u_sp u_T x_1 = some res) : MX l E yX11_stage cX11_stage 2 (some .int) (rmm 2 44) [wMain E a_mn q_mn_0_tape (a_T 0 0) q_mn_0_spare q_mn_0_reader q_mn_0_mill (a_now 0) q_mn_0_trial q_mn_0_image (a_sp 0) q_mn_0_notes q_mn_0_futures q_mn_0_order q_mn_0_clapRow u_mn, wHall E a_now u_now, wSteps E a_sp u_sp, wScript E (a_T 0) (a_T 1 0) (a_T 2 0) (a_T 3 0) (a_T 4 0) (a_T 5 0) (a_T 6 0) (a_T 7 0) (u_T 0), wRoll E 6 (a_T 1) (u_T 1), wRoll E 6 (a_T 2) (u_T 2), wRoll E 4 (a_T 3) (u_T 3), wRoll E 14 (a_T 4) (u_T 4), wFormula E (a_T 5) (u_T 5), wFormula E (a_T 6) (u_T 6), wFormula E (a_T 7) (u_T 7)] (fun q => [wMain E a_mn q_mn_0_tape (a_T 0 0) q_mn_0_spare q_mn_0_reader q_mn_0_mill (a_now 0) q_mn_0_trial q_mn_0_image (a_sp 0) q_mn_0_notes q_mn_0_futures q_mn_0_order q_mn_0_clapRow u_mn, wHall E a_now res.2.1, wSteps E a_sp res.2.2, wScript E (a_T 0) (a_T 1 0) (a_T 2 0) (a_T 3 0) (a_T 4 0) (a_T 5 0) (a_T 6 0) (a_T 7 0) (u_T 0), wRoll E 6 (a_T 1) (u_T 1), wRoll E 6 (a_T 2) (u_T 2), wRoll E 4 (a_T 3) (u_T 3), wRoll E 14 (a_T 4) (u_T 4), wFormula E (a_T 5) (u_T 5), wFormula E (a_T 6) (u_T 6), wFormula E (a_T 7) (u_T 7)]) [.ref (a_mn 0), .int x_1] (some (.int res.1)) := by
  unfold fX11_stage at hf
  refine MX.ofI rfl (by decide) (Nat.le_of_ble_eq_true rfl) ?_
  intro p e R s m args below meth c ls Q ad H hRf hRl C hB hD hK hN hl hQ
  generalize hlocs : ([] : List Loc) = locs at hB ⊢
  clear hlocs
  have hx := C.1
  have hb := C.2.1
  have hl : lv_has ls 2 [(0, .ref (a_mn 0)), (1, .int x_1)] := hl
  refine lv_aload_n hx hb dX11_stage_0 rfl (lv_at hl 0 rfl) ?_
  refine gf_X11_X11_told C hK (hB.1 0 _ rfl) dX11_stage_1 ?_
  refine gf_X11_X8_acts C hK (hB.1 3 _ rfl) dX11_stage_4 ?_
  refine lv_iload_n hx hb dX11_stage_7 rfl (lv_at hl 1 rfl) ?_
  refine cxVP (As := [.int x_1]) (rest := []) (st1 := [.int (fX7_has 6 (u_T 1) x_1)]) C hK (tX7_has l E 6 (a_T 1) (u_T 1) x_1 (fX7_has 6 (u_T 1) x_1) rfl) lk_X11_143 ⟨rfl, rfl⟩ (by rw [hRf, hRl]; decide) ⟨Nat.zero_le _, Nat.zero_le _⟩ (PB.sub hB.1 [4] rfl) (hB.old hD hN) (Nat.le_trans hN hB.2.2.1) (rc_X7 hK (hB.1 4 _ rfl)) rfl hl.1 rfl rfl (Nat.le_of_ble_eq_true rfl) dX11_stage_8 ?_
  refine lv_if_ne (tgt := 16) hx hb dX11_stage_11 (by decide) (fun c1 => ?_) (fun c1 => ?_)
  · have hf := (if_neg c1).symm.trans hf
    refine lv_aload_n hx hb dX11_stage_16 rfl (lv_at hl 0 rfl) ?_
    refine gf_X11_X11_now C hK (hB.1 0 _ rfl) dX11_stage_17 ?_
    refine gf_X11_X1_on C hK (hB.1 1 _ rfl) dX11_stage_20 ?_
    refine lv_iconst (v := (-1)) hx hb dX11_stage_23 (by decide) ?_
    refine lv_icmp_eq (tgt := 30) hx hb dX11_stage_24 (by decide) (fun c2 => ?_) (fun c2 => ?_)
    · have hf := (if_pos c2).symm.trans hf
      refine lv_aload_n hx hb dX11_stage_30 rfl (lv_at hl 0 rfl) ?_
      refine gf_X11_X11_now C hK (hB.1 0 _ rfl) dX11_stage_31 ?_
      refine lv_iload_n hx hb dX11_stage_34 rfl (lv_at hl 1 rfl) ?_
      refine lv_aload_n hx hb dX11_stage_35 rfl (lv_at hl 0 rfl) ?_
      refine gf_X11_X11_told C hK (hB.1 0 _ rfl) dX11_stage_36 ?_
      refine lv_iload_n hx hb dX11_stage_39 rfl (lv_at hl 1 rfl) ?_
      obtain ⟨r3, hr3, hf⟩ := ox_bind hf
      refine cxVP (As := [.int x_1]) (rest := [.int x_1, .ref (a_now 0)]) (st1 := [.int r3, .int x_1, .ref (a_now 0)]) C hK (tX8_minutesOf l E a_T u_T x_1 r3 hr3) lk_X11_177 ⟨rfl, rfl⟩ (by rw [hRf, hRl]; decide) ⟨Nat.zero_le _, Nat.zero_le _⟩ (PB.sub hB.1 [3, 4, 5, 6, 7, 8, 9, 10] rfl) (hB.old hD hN) (Nat.le_trans hN hB.2.2.1) (rc_X8 hK (hB.1 3 _ rfl)) rfl hl.1 rfl rfl (Nat.le_of_ble_eq_true rfl) dX11_stage_40 ?_
      obtain ⟨r4, er4, hf⟩ := ox_ex hf
      refine cxVX (bs1 := (fun q => [wMain E a_mn q_mn_0_tape (a_T 0 0) q_mn_0_spare q_mn_0_reader q_mn_0_mill (a_now 0) q_mn_0_trial q_mn_0_image (a_sp 0) q_mn_0_notes q_mn_0_futures q_mn_0_order q_mn_0_clapRow u_mn, wHall E a_now r4, wSteps E a_sp u_sp, wScript E (a_T 0) (a_T 1 0) (a_T 2 0) (a_T 3 0) (a_T 4 0) (a_T 5 0) (a_T 6 0) (a_T 7 0) (u_T 0), wRoll E 6 (a_T 1) (u_T 1), wRoll E 6 (a_T 2) (u_T 2), wRoll E 4 (a_T 3) (u_T 3), wRoll E 14 (a_T 4) (u_T 4), wFormula E (a_T 5) (u_T 5), wFormula E (a_T 6) (u_T 6), wFormula E (a_T 7) (u_T 7)])) (As := [.int x_1, .int r3]) (rest := []) (st1 := []) C hK (tX1_putOn l E a_now u_now x_1 r3 r4 er4.symm) lk_X11_251 (by rw [hRf, hRl]; decide) ⟨Nat.zero_le _, Nat.zero_le _⟩ hB hD hN [1] (by decide) rfl (fun _ => rfl) (fun _ => rfl) (rc_X1 hK (hB.1 1 _ rfl)) rfl hl.1 rfl rfl (Nat.le_of_ble_eq_true rfl) dX11_stage_43 (fun H locs q5 hB => ?_)
      have hB : WB E ad s.heap [wMain E a_mn q_mn_0_tape (a_T 0 0) q_mn_0_spare q_mn_0_reader q_mn_0_mill (a_now 0) q_mn_0_trial q_mn_0_image (a_sp 0) q_mn_0_notes q_mn_0_futures q_mn_0_order q_mn_0_clapRow u_mn, wHall E a_now r4, wSteps E a_sp u_sp, wScript E (a_T 0) (a_T 1 0) (a_T 2 0) (a_T 3 0) (a_T 4 0) (a_T 5 0) (a_T 6 0) (a_T 7 0) (u_T 0), wRoll E 6 (a_T 1) (u_T 1), wRoll E 6 (a_T 2) (u_T 2), wRoll E 4 (a_T 3) (u_T 3), wRoll E 14 (a_T 4) (u_T 4), wFormula E (a_T 5) (u_T 5), wFormula E (a_T 6) (u_T 6), wFormula E (a_T 7) (u_T 7)] H locs := hB
      refine lv_aload_n hx hb dX11_stage_46 rfl (lv_at hl 0 rfl) ?_
      refine gf_X11_X11_steps C hK (hB.1 0 _ rfl) dX11_stage_47 ?_
      refine lv_iconst (v := 0) hx hb dX11_stage_50 (by decide) ?_
      refine lv_iconst (v := 0) hx hb dX11_stage_51 (by decide) ?_
      refine lv_iconst (v := 0) hx hb dX11_stage_52 (by decide) ?_
      obtain ⟨r6, hr6, hf⟩ := ox_bind hf
      refine cxVX (bs1 := (fun q => [wMain E a_mn q_mn_0_tape (a_T 0 0) q_mn_0_spare q_mn_0_reader q_mn_0_mill (a_now 0) q_mn_0_trial q_mn_0_image (a_sp 0) q_mn_0_notes q_mn_0_futures q_mn_0_order q_mn_0_clapRow u_mn, wHall E a_now r4, wSteps E a_sp r6, wScript E (a_T 0) (a_T 1 0) (a_T 2 0) (a_T 3 0) (a_T 4 0) (a_T 5 0) (a_T 6 0) (a_T 7 0) (u_T 0), wRoll E 6 (a_T 1) (u_T 1), wRoll E 6 (a_T 2) (u_T 2), wRoll E 4 (a_T 3) (u_T 3), wRoll E 14 (a_T 4) (u_T 4), wFormula E (a_T 5) (u_T 5), wFormula E (a_T 6) (u_T 6), wFormula E (a_T 7) (u_T 7)])) (As := [.int (0 : Int32), .int (0 : Int32), .int (0 : Int32)]) (rest := []) (st1 := []) C hK (tX9_add l E a_sp u_sp (0 : Int32) (0 : Int32) (0 : Int32) r6 hr6) lk_X11_255 (by rw [hRf, hRl]; decide) ⟨Nat.zero_le _, Nat.zero_le _⟩ hB hD hN [2] (by decide) rfl (fun _ => rfl) (fun _ => rfl) (rc_X9 hK (hB.1 2 _ rfl)) rfl hl.1 rfl rfl (Nat.le_of_ble_eq_true rfl) dX11_stage_53 (fun H locs q7 hB => ?_)
      have hB : WB E ad s.heap [wMain E a_mn q_mn_0_tape (a_T 0 0) q_mn_0_spare q_mn_0_reader q_mn_0_mill (a_now 0) q_mn_0_trial q_mn_0_image (a_sp 0) q_mn_0_notes q_mn_0_futures q_mn_0_order q_mn_0_clapRow u_mn, wHall E a_now r4, wSteps E a_sp r6, wScript E (a_T 0) (a_T 1 0) (a_T 2 0) (a_T 3 0) (a_T 4 0) (a_T 5 0) (a_T 6 0) (a_T 7 0) (u_T 0), wRoll E 6 (a_T 1) (u_T 1), wRoll E 6 (a_T 2) (u_T 2), wRoll E 4 (a_T 3) (u_T 3), wRoll E 14 (a_T 4) (u_T 4), wFormula E (a_T 5) (u_T 5), wFormula E (a_T 6) (u_T 6), wFormula E (a_T 7) (u_T 7)] H locs := hB
      refine lv_aload_n hx hb dX11_stage_56 rfl (lv_at hl 0 rfl) ?_
      refine gf_X11_X11_now C hK (hB.1 0 _ rfl) dX11_stage_57 ?_
      refine gf_X11_X1_left C hK (hB.1 1 _ rfl) dX11_stage_60 ?_
      have hf := Option.some.inj hf
      subst hf
      exact hQ _ _ H locs (fun _ => 0) hB dX11_stage_63
    · have hf := (if_neg c2).symm.trans hf
      refine lv_bipush (v := (-2)) hx hb dX11_stage_27 (by decide) ?_
      have hf := Option.some.inj hf
      subst hf
      exact hQ _ _ H locs (fun _ => 0) hB dX11_stage_29
  · have hf := (if_pos c1).symm.trans hf
    refine lv_iconst (v := (-1)) hx hb dX11_stage_14 (by decide) ?_
    have hf := Option.some.inj hf
    subst hf
    exact hQ _ _ H locs (fun _ => 0) hB dX11_stage_15
set_option maxHeartbeats 4000000 in
set_option maxRecDepth 20000 in
theorem tX11_areTwoGuests (l : Launch) (E : Ev) (a_mn : Nat → Nat) (q_mn_0_tape : Nat) (q_mn_0_spare : Nat) (q_mn_0_reader : Nat) (q_mn_0_mill : Nat) (q_mn_0_now : Nat) (q_mn_0_trial : Nat) (q_mn_0_image : Nat) (q_mn_0_steps : Nat) (q_mn_0_notes : Nat) (q_mn_0_futures : Nat) (q_mn_0_order : Nat) (q_mn_0_clapRow : Nat) (u_mn : St) (a_T : Nat → Nat → Nat) (u_T : Nat → St) (x_1 : Int32) (x_2 : Int32) (res : Int32) (hf : fX11_areTwoGuests u_mn u_T x_1 x_2 = res) : MP l E yX11_areTwoGuests cX11_areTwoGuests 3 (some .boolean) (rmm 1 21) [wMain E a_mn q_mn_0_tape (a_T 0 0) q_mn_0_spare q_mn_0_reader q_mn_0_mill q_mn_0_now q_mn_0_trial q_mn_0_image q_mn_0_steps q_mn_0_notes q_mn_0_futures q_mn_0_order q_mn_0_clapRow u_mn, wScript E (a_T 0) (a_T 1 0) (a_T 2 0) (a_T 3 0) (a_T 4 0) (a_T 5 0) (a_T 6 0) (a_T 7 0) (u_T 0), wRoll E 6 (a_T 1) (u_T 1), wRoll E 6 (a_T 2) (u_T 2), wRoll E 4 (a_T 3) (u_T 3), wRoll E 14 (a_T 4) (u_T 4), wFormula E (a_T 5) (u_T 5), wFormula E (a_T 6) (u_T 6), wFormula E (a_T 7) (u_T 7)] [.ref (a_mn 0), .int x_1, .int x_2] (some (.int res)) := by
  unfold fX11_areTwoGuests at hf
  refine MP.ofZZ rfl (by decide) (Nat.le_of_ble_eq_true rfl) ?_
  intro p e R s m args below meth c ls Q hRf hRl C hP hK hN hl hQ
  have hx := C.1
  have hb := C.2.1
  have hl : lv_has ls 3 [(0, .ref (a_mn 0)), (1, .int x_1), (2, .int x_2)] := hl
  refine lv_aload_n hx hb dX11_areTwoGuests_0 rfl (lv_at hl 0 rfl) ?_
  refine gf_X11_X11_told C hK (hP 0 _ rfl) dX11_areTwoGuests_1 ?_
  refine gf_X11_X8_guests C hK (hP 1 _ rfl) dX11_areTwoGuests_4 ?_
  refine lv_iload_n hx hb dX11_areTwoGuests_7 rfl (lv_at hl 1 rfl) ?_
  refine cxVP (As := [.int x_1]) (rest := []) (st1 := [.int (fX7_has 6 (u_T 2) x_1)]) C hK (tX7_has l E 6 (a_T 2) (u_T 2) x_1 (fX7_has 6 (u_T 2) x_1) rfl) lk_X11_143 ⟨rfl, rfl⟩ (by rw [hRf, hRl]; decide) ⟨Nat.zero_le _, Nat.zero_le _⟩ (PB.sub hP [3] rfl) (fun _ _ => rfl) hN (rc_X7 hK (hP 3 _ rfl)) rfl hl.1 rfl rfl (Nat.le_of_ble_eq_true rfl) dX11_areTwoGuests_8 ?_
  refine lv_if_eq (tgt := 37) hx hb dX11_areTwoGuests_11 (by decide) (fun c1 => ?_) (fun c1 => ?_)
  · have hf := (if_pos c1).symm.trans hf
    refine lv_iconst (v := 0) hx hb dX11_areTwoGuests_37 (by decide) ?_
    subst hf
    exact hQ _ _ (0 : Int32) bz0 dX11_areTwoGuests_38
  · have hf := (if_neg c1).symm.trans hf
    refine lv_aload_n hx hb dX11_areTwoGuests_14 rfl (lv_at hl 0 rfl) ?_
    refine gf_X11_X11_told C hK (hP 0 _ rfl) dX11_areTwoGuests_15 ?_
    refine gf_X11_X8_guests C hK (hP 1 _ rfl) dX11_areTwoGuests_18 ?_
    refine lv_iload_n hx hb dX11_areTwoGuests_21 rfl (lv_at hl 2 rfl) ?_
    refine cxVP (As := [.int x_2]) (rest := []) (st1 := [.int (fX7_has 6 (u_T 2) x_2)]) C hK (tX7_has l E 6 (a_T 2) (u_T 2) x_2 (fX7_has 6 (u_T 2) x_2) rfl) lk_X11_143 ⟨rfl, rfl⟩ (by rw [hRf, hRl]; decide) ⟨Nat.zero_le _, Nat.zero_le _⟩ (PB.sub hP [3] rfl) (fun _ _ => rfl) hN (rc_X7 hK (hP 3 _ rfl)) rfl hl.1 rfl rfl (Nat.le_of_ble_eq_true rfl) dX11_areTwoGuests_22 ?_
    refine lv_if_eq (tgt := 37) hx hb dX11_areTwoGuests_25 (by decide) (fun c2 => ?_) (fun c2 => ?_)
    · have hf := (if_pos c2).symm.trans hf
      refine lv_iconst (v := 0) hx hb dX11_areTwoGuests_37 (by decide) ?_
      subst hf
      exact hQ _ _ (0 : Int32) bz0 dX11_areTwoGuests_38
    · have hf := (if_neg c2).symm.trans hf
      refine lv_iload_n hx hb dX11_areTwoGuests_28 rfl (lv_at hl 1 rfl) ?_
      refine lv_iload_n hx hb dX11_areTwoGuests_29 rfl (lv_at hl 2 rfl) ?_
      refine lv_icmp_eq (tgt := 37) hx hb dX11_areTwoGuests_30 (by decide) (fun c3 => ?_) (fun c3 => ?_)
      · have hf := (if_pos c3).symm.trans hf
        refine lv_iconst (v := 0) hx hb dX11_areTwoGuests_37 (by decide) ?_
        subst hf
        exact hQ _ _ (0 : Int32) bz0 dX11_areTwoGuests_38
      · have hf := (if_neg c3).symm.trans hf
        refine lv_iconst (v := 1) hx hb dX11_areTwoGuests_33 (by decide) ?_
        refine lv_goto (tgt := 38) hx hb dX11_areTwoGuests_34 (by decide) ?_
        subst hf
        exact hQ _ _ (1 : Int32) bz1 dX11_areTwoGuests_38
set_option maxHeartbeats 4000000 in
set_option maxRecDepth 20000 in
theorem tX11_change (l : Launch) (E : Ev) (a_mn : Nat → Nat) (q_mn_0_tape : Nat) (q_mn_0_spare : Nat) (q_mn_0_reader : Nat) (q_mn_0_mill : Nat) (q_mn_0_trial : Nat) (q_mn_0_image : Nat) (q_mn_0_notes : Nat) (q_mn_0_futures : Nat) (q_mn_0_order : Nat) (q_mn_0_clapRow : Nat) (u_mn : St) (a_now : Nat → Nat) (u_now : St) (a_sp : Nat → Nat) (u_sp : St) (a_T : Nat → Nat → Nat) (u_T : Nat → St) (x_1 : Int32) (x_2 : Int32) (res : Int32 × St × St) (hf : fX11_change u_mn u_now u_sp u_T x_1 x_2 = some res) : MX l E yX11_change cX11_change 3 (some .int) (rmm 2 46) [wMain E a_mn q_mn_0_tape (a_T 0 0) q_mn_0_spare q_mn_0_reader q_mn_0_mill (a_now 0) q_mn_0_trial q_mn_0_image (a_sp 0) q_mn_0_notes q_mn_0_futures q_mn_0_order q_mn_0_clapRow u_mn, wHall E a_now u_now, wSteps E a_sp u_sp, wScript E (a_T 0) (a_T 1 0) (a_T 2 0) (a_T 3 0) (a_T 4 0) (a_T 5 0) (a_T 6 0) (a_T 7 0) (u_T 0), wRoll E 6 (a_T 1) (u_T 1), wRoll E 6 (a_T 2) (u_T 2), wRoll E 4 (a_T 3) (u_T 3), wRoll E 14 (a_T 4) (u_T 4), wFormula E (a_T 5) (u_T 5), wFormula E (a_T 6) (u_T 6), wFormula E (a_T 7) (u_T 7)] (fun q => [wMain E a_mn q_mn_0_tape (a_T 0 0) q_mn_0_spare q_mn_0_reader q_mn_0_mill (a_now 0) q_mn_0_trial q_mn_0_image (a_sp 0) q_mn_0_notes q_mn_0_futures q_mn_0_order q_mn_0_clapRow u_mn, wHall E a_now res.2.1, wSteps E a_sp res.2.2, wScript E (a_T 0) (a_T 1 0) (a_T 2 0) (a_T 3 0) (a_T 4 0) (a_T 5 0) (a_T 6 0) (a_T 7 0) (u_T 0), wRoll E 6 (a_T 1) (u_T 1), wRoll E 6 (a_T 2) (u_T 2), wRoll E 4 (a_T 3) (u_T 3), wRoll E 14 (a_T 4) (u_T 4), wFormula E (a_T 5) (u_T 5), wFormula E (a_T 6) (u_T 6), wFormula E (a_T 7) (u_T 7)]) [.ref (a_mn 0), .int x_1, .int x_2] (some (.int res.1)) := by
  unfold fX11_change at hf
  refine MX.ofI rfl (by decide) (Nat.le_of_ble_eq_true rfl) ?_
  intro p e R s m args below meth c ls Q ad H hRf hRl C hB hD hK hN hl hQ
  generalize hlocs : ([] : List Loc) = locs at hB ⊢
  clear hlocs
  have hx := C.1
  have hb := C.2.1
  have hl : lv_has ls 3 [(0, .ref (a_mn 0)), (1, .int x_1), (2, .int x_2)] := hl
  refine lv_aload_n hx hb dX11_change_0 rfl (lv_at hl 0 rfl) ?_
  refine lv_iload_n hx hb dX11_change_1 rfl (lv_at hl 1 rfl) ?_
  refine lv_iload_n hx hb dX11_change_2 rfl (lv_at hl 2 rfl) ?_
  refine cxVP (As := [.int x_1, .int x_2]) (rest := []) (st1 := [.int (fX11_areTwoGuests u_mn u_T x_1 x_2)]) C hK (tX11_areTwoGuests l E a_mn q_mn_0_tape q_mn_0_spare q_mn_0_reader q_mn_0_mill (a_now 0) q_mn_0_trial q_mn_0_image (a_sp 0) q_mn_0_notes q_mn_0_futures q_mn_0_order q_mn_0_clapRow u_mn a_T u_T x_1 x_2 (fX11_areTwoGuests u_mn u_T x_1 x_2) rfl) lk_X11_259 ⟨rfl, rfl⟩ (by rw [hRf, hRl]; decide) ⟨Nat.zero_le _, Nat.zero_le _⟩ (PB.sub hB.1 [0, 3, 4, 5, 6, 7, 8, 9, 10] rfl) (hB.old hD hN) (Nat.le_trans hN hB.2.2.1) (rc_X11 hK (hB.1 0 _ rfl)) rfl hl.1 rfl rfl (Nat.le_of_ble_eq_true rfl) dX11_change_3 ?_
  refine lv_if_ne (tgt := 11) hx hb dX11_change_6 (by decide) (fun c1 => ?_) (fun c1 => ?_)
  · have hf := (if_neg c1).symm.trans hf
    refine lv_aload_n hx hb dX11_change_11 rfl (lv_at hl 0 rfl) ?_
    refine gf_X11_X11_now C hK (hB.1 0 _ rfl) dX11_change_12 ?_
    refine lv_iload_n hx hb dX11_change_15 rfl (lv_at hl 1 rfl) ?_
    refine lv_iload_n hx hb dX11_change_16 rfl (lv_at hl 2 rfl) ?_
    obtain ⟨r2, hr2, hf⟩ := ox_bind hf
    refine cxVX (bs1 := (fun q => [wMain E a_mn q_mn_0_tape (a_T 0 0) q_mn_0_spare q_mn_0_reader q_mn_0_mill (a_now 0) q_mn_0_trial q_mn_0_image (a_sp 0) q_mn_0_notes q_mn_0_futures q_mn_0_order q_mn_0_clapRow u_mn, wHall E a_now r2, wSteps E a_sp u_sp, wScript E (a_T 0) (a_T 1 0) (a_T 2 0) (a_T 3 0) (a_T 4 0) (a_T 5 0) (a_T 6 0) (a_T 7 0) (u_T 0), wRoll E 6 (a_T 1) (u_T 1), wRoll E 6 (a_T 2) (u_T 2), wRoll E 4 (a_T 3) (u_T 3), wRoll E 14 (a_T 4) (u_T 4), wFormula E (a_T 5) (u_T 5), wFormula E (a_T 6) (u_T 6), wFormula E (a_T 7) (u_T 7)])) (As := [.int x_1, .int x_2]) (rest := []) (st1 := []) C hK (tX1_swapSeats l E a_now u_now x_1 x_2 r2 hr2) lk_X11_263 (by rw [hRf, hRl]; decide) ⟨Nat.zero_le _, Nat.zero_le _⟩ hB hD hN [1] (by decide) rfl (fun _ => rfl) (fun _ => rfl) (rc_X1 hK (hB.1 1 _ rfl)) rfl hl.1 rfl rfl (Nat.le_of_ble_eq_true rfl) dX11_change_17 (fun H locs q3 hB => ?_)
    have hB : WB E ad s.heap [wMain E a_mn q_mn_0_tape (a_T 0 0) q_mn_0_spare q_mn_0_reader q_mn_0_mill (a_now 0) q_mn_0_trial q_mn_0_image (a_sp 0) q_mn_0_notes q_mn_0_futures q_mn_0_order q_mn_0_clapRow u_mn, wHall E a_now r2, wSteps E a_sp u_sp, wScript E (a_T 0) (a_T 1 0) (a_T 2 0) (a_T 3 0) (a_T 4 0) (a_T 5 0) (a_T 6 0) (a_T 7 0) (u_T 0), wRoll E 6 (a_T 1) (u_T 1), wRoll E 6 (a_T 2) (u_T 2), wRoll E 4 (a_T 3) (u_T 3), wRoll E 14 (a_T 4) (u_T 4), wFormula E (a_T 5) (u_T 5), wFormula E (a_T 6) (u_T 6), wFormula E (a_T 7) (u_T 7)] H locs := hB
    refine lv_aload_n hx hb dX11_change_20 rfl (lv_at hl 0 rfl) ?_
    refine gf_X11_X11_steps C hK (hB.1 0 _ rfl) dX11_change_21 ?_
    refine lv_iconst (v := 1) hx hb dX11_change_24 (by decide) ?_
    refine lv_iload_n hx hb dX11_change_25 rfl (lv_at hl 1 rfl) ?_
    refine lv_iload_n hx hb dX11_change_26 rfl (lv_at hl 2 rfl) ?_
    obtain ⟨r4, hr4, hf⟩ := ox_bind hf
    refine cxVX (bs1 := (fun q => [wMain E a_mn q_mn_0_tape (a_T 0 0) q_mn_0_spare q_mn_0_reader q_mn_0_mill (a_now 0) q_mn_0_trial q_mn_0_image (a_sp 0) q_mn_0_notes q_mn_0_futures q_mn_0_order q_mn_0_clapRow u_mn, wHall E a_now r2, wSteps E a_sp r4, wScript E (a_T 0) (a_T 1 0) (a_T 2 0) (a_T 3 0) (a_T 4 0) (a_T 5 0) (a_T 6 0) (a_T 7 0) (u_T 0), wRoll E 6 (a_T 1) (u_T 1), wRoll E 6 (a_T 2) (u_T 2), wRoll E 4 (a_T 3) (u_T 3), wRoll E 14 (a_T 4) (u_T 4), wFormula E (a_T 5) (u_T 5), wFormula E (a_T 6) (u_T 6), wFormula E (a_T 7) (u_T 7)])) (As := [.int (1 : Int32), .int x_1, .int x_2]) (rest := []) (st1 := []) C hK (tX9_add l E a_sp u_sp (1 : Int32) x_1 x_2 r4 hr4) lk_X11_255 (by rw [hRf, hRl]; decide) ⟨Nat.zero_le _, Nat.zero_le _⟩ hB hD hN [2] (by decide) rfl (fun _ => rfl) (fun _ => rfl) (rc_X9 hK (hB.1 2 _ rfl)) rfl hl.1 rfl rfl (Nat.le_of_ble_eq_true rfl) dX11_change_27 (fun H locs q5 hB => ?_)
    have hB : WB E ad s.heap [wMain E a_mn q_mn_0_tape (a_T 0 0) q_mn_0_spare q_mn_0_reader q_mn_0_mill (a_now 0) q_mn_0_trial q_mn_0_image (a_sp 0) q_mn_0_notes q_mn_0_futures q_mn_0_order q_mn_0_clapRow u_mn, wHall E a_now r2, wSteps E a_sp r4, wScript E (a_T 0) (a_T 1 0) (a_T 2 0) (a_T 3 0) (a_T 4 0) (a_T 5 0) (a_T 6 0) (a_T 7 0) (u_T 0), wRoll E 6 (a_T 1) (u_T 1), wRoll E 6 (a_T 2) (u_T 2), wRoll E 4 (a_T 3) (u_T 3), wRoll E 14 (a_T 4) (u_T 4), wFormula E (a_T 5) (u_T 5), wFormula E (a_T 6) (u_T 6), wFormula E (a_T 7) (u_T 7)] H locs := hB
    refine lv_aload_n hx hb dX11_change_30 rfl (lv_at hl 0 rfl) ?_
    refine gf_X11_X11_now C hK (hB.1 0 _ rfl) dX11_change_31 ?_
    refine lv_iload_n hx hb dX11_change_34 rfl (lv_at hl 1 rfl) ?_
    obtain ⟨r6, hr6, hf⟩ := ox_bind hf
    refine cxVP (As := [.int x_1]) (rest := []) (st1 := [.int r6]) C hK (tX1_seatOf l E a_now r2 x_1 r6 hr6) lk_X11_160 ⟨rfl, rfl⟩ (by rw [hRf, hRl]; decide) ⟨Nat.zero_le _, Nat.zero_le _⟩ (PB.sub hB.1 [1] rfl) (hB.old hD hN) (Nat.le_trans hN hB.2.2.1) (rc_X1 hK (hB.1 1 _ rfl)) rfl hl.1 rfl rfl (Nat.le_of_ble_eq_true rfl) dX11_change_35 ?_
    have hf := Option.some.inj hf
    subst hf
    exact hQ _ _ H locs (fun _ => 0) hB dX11_change_38
  · have hf := (if_pos c1).symm.trans hf
    refine lv_iconst (v := (-1)) hx hb dX11_change_9 (by decide) ?_
    have hf := Option.some.inj hf
    subst hf
    exact hQ _ _ H locs (fun _ => 0) hB dX11_change_10
set_option maxHeartbeats 4000000 in
set_option maxRecDepth 20000 in
theorem tX11_push (l : Launch) (E : Ev) (a_mn : Nat → Nat) (q_mn_0_tape : Nat) (q_mn_0_told : Nat) (q_mn_0_spare : Nat) (q_mn_0_reader : Nat) (q_mn_0_mill : Nat) (q_mn_0_trial : Nat) (q_mn_0_image : Nat) (q_mn_0_notes : Nat) (q_mn_0_futures : Nat) (q_mn_0_order : Nat) (q_mn_0_clapRow : Nat) (u_mn : St) (a_now : Nat → Nat) (u_now : St) (a_sp : Nat → Nat) (u_sp : St) (x_1 : Int32) (res : Int32 × St × St) (hf : fX11_push u_mn u_now u_sp x_1 = some res) : MX l E yX11_push cX11_push 2 (some .int) (rmm 2 55) [wMain E a_mn q_mn_0_tape q_mn_0_told q_mn_0_spare q_mn_0_reader q_mn_0_mill (a_now 0) q_mn_0_trial q_mn_0_image (a_sp 0) q_mn_0_notes q_mn_0_futures q_mn_0_order q_mn_0_clapRow u_mn, wHall E a_now u_now, wSteps E a_sp u_sp] (fun q => [wMain E a_mn q_mn_0_tape q_mn_0_told q_mn_0_spare q_mn_0_reader q_mn_0_mill (a_now 0) q_mn_0_trial q_mn_0_image (a_sp 0) q_mn_0_notes q_mn_0_futures q_mn_0_order q_mn_0_clapRow u_mn, wHall E a_now res.2.1, wSteps E a_sp res.2.2]) [.ref (a_mn 0), .int x_1] (some (.int res.1)) := by
  unfold fX11_push at hf
  refine MX.ofI rfl (by decide) (Nat.le_of_ble_eq_true rfl) ?_
  intro p e R s m args below meth c ls Q ad H hRf hRl C hB hD hK hN hl hQ
  generalize hlocs : ([] : List Loc) = locs at hB ⊢
  clear hlocs
  have hx := C.1
  have hb := C.2.1
  have hl : lv_has ls 2 [(0, .ref (a_mn 0)), (1, .int x_1)] := hl
  refine lv_iload_n hx hb dX11_push_0 rfl (lv_at hl 1 rfl) ?_
  refine lv_bipush (v := (-99)) hx hb dX11_push_1 (by decide) ?_
  refine lv_icmp_lt (tgt := 16) hx hb dX11_push_3 (by decide) (fun c1 => ?_) (fun c1 => ?_)
  · have hf := (if_pos c1).symm.trans hf
    refine lv_ldc (v := -2147483648) hx hb C.2.2.2.1 (C.2.2.2.2 _ mw_828) dX11_push_16 ?_
    have hf := Option.some.inj hf
    subst hf
    exact hQ _ _ H locs (fun _ => 0) hB dX11_push_18
  · have hf := (if_neg c1).symm.trans hf
    refine lv_iload_n hx hb dX11_push_6 rfl (lv_at hl 1 rfl) ?_
    refine lv_bipush (v := 99) hx hb dX11_push_7 (by decide) ?_
    refine lv_icmp_gt (tgt := 16) hx hb dX11_push_9 (by decide) (fun c2 => ?_) (fun c2 => ?_)
    · have hf := (if_pos c2).symm.trans hf
      refine lv_ldc (v := -2147483648) hx hb C.2.2.2.1 (C.2.2.2.2 _ mw_828) dX11_push_16 ?_
      have hf := Option.some.inj hf
      subst hf
      exact hQ _ _ H locs (fun _ => 0) hB dX11_push_18
    · have hf := (if_neg c2).symm.trans hf
      refine lv_iload_n hx hb dX11_push_12 rfl (lv_at hl 1 rfl) ?_
      refine lv_if_ne (tgt := 19) hx hb dX11_push_13 (by decide) (fun c3 => ?_) (fun c3 => ?_)
      · have hf := (if_neg c3).symm.trans hf
        refine lv_aload_n hx hb dX11_push_19 rfl (lv_at hl 0 rfl) ?_
        refine gf_X11_X11_steps C hK (hB.1 0 _ rfl) dX11_push_20 ?_
        refine lv_iconst (v := 2) hx hb dX11_push_23 (by decide) ?_
        refine lv_aload_n hx hb dX11_push_24 rfl (lv_at hl 0 rfl) ?_
        refine gf_X11_X11_now C hK (hB.1 0 _ rfl) dX11_push_25 ?_
        refine gf_X11_X1_speed C hK (hB.1 1 _ rfl) dX11_push_28 ?_
        refine lv_iconst (v := 0) hx hb dX11_push_31 (by decide) ?_
        obtain ⟨r4, hr4, hf⟩ := ox_bind hf
        refine cxVX (bs1 := (fun q => [wMain E a_mn q_mn_0_tape q_mn_0_told q_mn_0_spare q_mn_0_reader q_mn_0_mill (a_now 0) q_mn_0_trial q_mn_0_image (a_sp 0) q_mn_0_notes q_mn_0_futures q_mn_0_order q_mn_0_clapRow u_mn, wHall E a_now u_now, wSteps E a_sp r4])) (As := [.int (2 : Int32), .int (gI u_now 1), .int (0 : Int32)]) (rest := []) (st1 := []) C hK (tX9_add l E a_sp u_sp (2 : Int32) (gI u_now 1) (0 : Int32) r4 hr4) lk_X11_255 (by rw [hRf, hRl]; decide) ⟨Nat.zero_le _, Nat.zero_le _⟩ hB hD hN [2] (by decide) rfl (fun _ => rfl) (fun _ => rfl) (rc_X9 hK (hB.1 2 _ rfl)) rfl hl.1 rfl rfl (Nat.le_of_ble_eq_true rfl) dX11_push_32 (fun H locs q5 hB => ?_)
        have hB : WB E ad s.heap [wMain E a_mn q_mn_0_tape q_mn_0_told q_mn_0_spare q_mn_0_reader q_mn_0_mill (a_now 0) q_mn_0_trial q_mn_0_image (a_sp 0) q_mn_0_notes q_mn_0_futures q_mn_0_order q_mn_0_clapRow u_mn, wHall E a_now u_now, wSteps E a_sp r4] H locs := hB
        refine lv_aload_n hx hb dX11_push_35 rfl (lv_at hl 0 rfl) ?_
        refine gf_X11_X11_now C hK (hB.1 0 _ rfl) dX11_push_36 ?_
        refine lv_aload_n hx hb dX11_push_39 rfl (lv_at hl 0 rfl) ?_
        refine gf_X11_X11_now C hK (hB.1 0 _ rfl) dX11_push_40 ?_
        refine gf_X11_X1_speed C hK (hB.1 1 _ rfl) dX11_push_43 ?_
        refine lv_iload_n hx hb dX11_push_46 rfl (lv_at hl 1 rfl) ?_
        refine lv_iadd hx hb dX11_push_47 ?_
        refine lv_i2l hx hb dX11_push_48 rfl ?_
        refine lv_ldc2 (v := -99) hx hb C.2.2.2.1 (C.2.2.2.2 _ mw_866) dX11_push_49 ?_
        refine lv_ldc2 (v := 99) hx hb C.2.2.2.1 (C.2.2.2.2 _ mw_867) dX11_push_52 ?_
        refine cxSP (As := [.long ((((gI u_now 1) + x_1)).toInt64), .long (-99 : Int64), .long (99 : Int64)]) (rest := [.ref (a_now 0)]) (st1 := [.long (fX11_within ((((gI u_now 1) + x_1)).toInt64) (-99 : Int64) (99 : Int64)), .ref (a_now 0)]) C hK (tX11_within l E ((((gI u_now 1) + x_1)).toInt64) (-99 : Int64) (99 : Int64) (fX11_within ((((gI u_now 1) + x_1)).toInt64) (-99 : Int64) (99 : Int64)) rfl) lk_X11_270 ⟨rfl, rfl⟩ (by rw [hRf, hRl]; decide) ⟨Nat.zero_le _, Nat.zero_le _⟩ (PB.sub hB.1 [] rfl) (hB.old hD hN) (Nat.le_trans hN hB.2.2.1) rfl hl.1 rfl rfl (Nat.le_of_ble_eq_true rfl) dX11_push_55 ?_
        refine lv_l2i hx hb dX11_push_58 rfl ?_
        refine lv_topi (fun x6 ex6 => ?_)
        have hf := ox_lt ex6 hf
        refine pf_X11_X1_speed C hK hB hD 1 rfl dX11_push_59 (fun H locs u7 eu7 hB => ?_)
        have hf := ox_lt eu7 hf
        have hB : WB E ad s.heap [wMain E a_mn q_mn_0_tape q_mn_0_told q_mn_0_spare q_mn_0_reader q_mn_0_mill (a_now 0) q_mn_0_trial q_mn_0_image (a_sp 0) q_mn_0_notes q_mn_0_futures q_mn_0_order q_mn_0_clapRow u_mn, wHall E a_now u7, wSteps E a_sp r4] H locs := hB
        refine lv_aload_n hx hb dX11_push_62 rfl (lv_at hl 0 rfl) ?_
        refine gf_X11_X11_now C hK (hB.1 0 _ rfl) dX11_push_63 ?_
        refine gf_X11_X1_speed C hK (hB.1 1 _ rfl) dX11_push_66 ?_
        have hf := Option.some.inj hf
        subst hf
        exact hQ _ _ H locs (fun _ => 0) hB dX11_push_69
      · have hf := (if_pos c3).symm.trans hf
        refine lv_ldc (v := -2147483648) hx hb C.2.2.2.1 (C.2.2.2.2 _ mw_828) dX11_push_16 ?_
        have hf := Option.some.inj hf
        subst hf
        exact hQ _ _ H locs (fun _ => 0) hB dX11_push_18
set_option maxHeartbeats 4000000 in
set_option maxRecDepth 20000 in
theorem tX11_go (l : Launch) (E : Ev) (a_mn : Nat → Nat) (q_mn_0_tape : Nat) (q_mn_0_spare : Nat) (q_mn_0_reader : Nat) (q_mn_0_trial : Nat) (q_mn_0_image : Nat) (q_mn_0_notes : Nat) (q_mn_0_futures : Nat) (q_mn_0_order : Nat) (q_mn_0_clapRow : Nat) (u_mn : St) (a_ml : Nat → Nat) (q_ml_0_script : Nat) (u_ml : St) (a_nm : Nat → Nat) (u_nm : St) (a_now : Nat → Nat) (u_now : St) (a_sp : Nat → Nat) (u_sp : St) (a_T : Nat → Nat → Nat) (u_T : Nat → St) (x_1 : Int32) (res : Int32 × St × St × St × St × (Nat → St)) (hf : fX11_go u_mn u_ml u_nm u_now u_sp u_T x_1 = some res) : MX l E yX11_go cX11_go 2 (some .int) (rmm 6 155) [wMain E a_mn q_mn_0_tape (a_T 0 0) q_mn_0_spare q_mn_0_reader (a_ml 0) (a_now 0) q_mn_0_trial q_mn_0_image (a_sp 0) q_mn_0_notes q_mn_0_futures q_mn_0_order q_mn_0_clapRow u_mn, wMill E a_ml (a_nm 0) q_ml_0_script u_ml, wLArr E 7 a_nm u_nm, wHall E a_now u_now, wSteps E a_sp u_sp, wScript E (a_T 0) (a_T 1 0) (a_T 2 0) (a_T 3 0) (a_T 4 0) (a_T 5 0) (a_T 6 0) (a_T 7 0) (u_T 0), wRoll E 6 (a_T 1) (u_T 1), wRoll E 6 (a_T 2) (u_T 2), wRoll E 4 (a_T 3) (u_T 3), wRoll E 14 (a_T 4) (u_T 4), wFormula E (a_T 5) (u_T 5), wFormula E (a_T 6) (u_T 6), wFormula E (a_T 7) (u_T 7)] (fun q => [wMain E a_mn q_mn_0_tape (a_T 0 0) q_mn_0_spare q_mn_0_reader (a_ml 0) (a_now 0) q_mn_0_trial q_mn_0_image (a_sp 0) q_mn_0_notes q_mn_0_futures q_mn_0_order q_mn_0_clapRow u_mn, wMill E a_ml (a_nm 0) (q 0) res.2.1, wLArr E 7 a_nm res.2.2.1, wHall E a_now res.2.2.2.1, wSteps E a_sp res.2.2.2.2.1, wScript E (a_T 0) (a_T 1 0) (a_T 2 0) (a_T 3 0) (a_T 4 0) (a_T 5 0) (a_T 6 0) (a_T 7 0) (res.2.2.2.2.2 0), wRoll E 6 (a_T 1) (res.2.2.2.2.2 1), wRoll E 6 (a_T 2) (res.2.2.2.2.2 2), wRoll E 4 (a_T 3) (res.2.2.2.2.2 3), wRoll E 14 (a_T 4) (res.2.2.2.2.2 4), wFormula E (a_T 5) (res.2.2.2.2.2 5), wFormula E (a_T 6) (res.2.2.2.2.2 6), wFormula E (a_T 7) (res.2.2.2.2.2 7)]) [.ref (a_mn 0), .int x_1] (some (.int res.1)) := by
  unfold fX11_go at hf
  refine MX.ofI rfl (by decide) (Nat.le_of_ble_eq_true rfl) ?_
  intro p e R s m args below meth c ls Q ad H hRf hRl C hB hD hK hN hl hQ
  generalize hlocs : ([] : List Loc) = locs at hB ⊢
  clear hlocs
  have hx := C.1
  have hb := C.2.1
  have hl : lv_has ls 2 [(0, .ref (a_mn 0)), (1, .int x_1)] := hl
  refine lv_iload_n hx hb dX11_go_0 rfl (lv_at hl 1 rfl) ?_
  refine lv_if_lt (tgt := 26) hx hb dX11_go_1 (by decide) (fun c1 => ?_) (fun c1 => ?_)
  · have hf := (if_pos c1).symm.trans hf
    refine lv_iconst (v := (-1)) hx hb dX11_go_26 (by decide) ?_
    have hf := Option.some.inj hf
    subst hf
    exact hQ _ _ H locs (fun j => if j = 0 then q_ml_0_script else 0) hB dX11_go_27
  · have hf := (if_neg c1).symm.trans hf
    refine lv_iload_n hx hb dX11_go_4 rfl (lv_at hl 1 rfl) ?_
    refine lv_sipush (v := 200) hx hb dX11_go_5 (by decide) ?_
    refine lv_icmp_gt (tgt := 26) hx hb dX11_go_8 (by decide) (fun c2 => ?_) (fun c2 => ?_)
    · have hf := (if_pos c2).symm.trans hf
      refine lv_iconst (v := (-1)) hx hb dX11_go_26 (by decide) ?_
      have hf := Option.some.inj hf
      subst hf
      exact hQ _ _ H locs (fun j => if j = 0 then q_ml_0_script else 0) hB dX11_go_27
    · have hf := (if_neg c2).symm.trans hf
      refine lv_aload_n hx hb dX11_go_11 rfl (lv_at hl 0 rfl) ?_
      refine gf_X11_X11_now C hK (hB.1 0 _ rfl) dX11_go_12 ?_
      refine gf_X11_X1_minute C hK (hB.1 3 _ rfl) dX11_go_15 ?_
      refine lv_iload_n hx hb dX11_go_18 rfl (lv_at hl 1 rfl) ?_
      refine lv_iadd hx hb dX11_go_19 ?_
      refine lv_sipush (v := 9000) hx hb dX11_go_20 (by decide) ?_
      refine lv_icmp_le (tgt := 28) hx hb dX11_go_23 (by decide) (fun c3 => ?_) (fun c3 => ?_)
      · have hf := (if_pos c3).symm.trans hf
        refine lv_aload_n hx hb dX11_go_28 rfl (lv_at hl 0 rfl) ?_
        refine gf_X11_X11_mill C hK (hB.1 0 _ rfl) dX11_go_29 ?_
        refine lv_aload_n hx hb dX11_go_32 rfl (lv_at hl 0 rfl) ?_
        refine gf_X11_X11_told C hK (hB.1 0 _ rfl) dX11_go_33 ?_
        obtain ⟨r4, er4, hf⟩ := ox_ex hf
        refine cxVX (bs1 := (fun q => [wMain E a_mn q_mn_0_tape (a_T 0 0) q_mn_0_spare q_mn_0_reader (a_ml 0) (a_now 0) q_mn_0_trial q_mn_0_image (a_sp 0) q_mn_0_notes q_mn_0_futures q_mn_0_order q_mn_0_clapRow u_mn, wMill E a_ml (a_nm 0) (a_T 0 0) r4, wLArr E 7 a_nm u_nm, wHall E a_now u_now, wSteps E a_sp u_sp, wScript E (a_T 0) (a_T 1 0) (a_T 2 0) (a_T 3 0) (a_T 4 0) (a_T 5 0) (a_T 6 0) (a_T 7 0) (u_T 0), wRoll E 6 (a_T 1) (u_T 1), wRoll E 6 (a_T 2) (u_T 2), wRoll E 4 (a_T 3) (u_T 3), wRoll E 14 (a_T 4) (u_T 4), wFormula E (a_T 5) (u_T 5), wFormula E (a_T 6) (u_T 6), wFormula E (a_T 7) (u_T 7)])) (As := [.ref (a_T 0 0)]) (rest := []) (st1 := []) C hK (tX2_byNumbers l E a_ml (a_nm 0) q_ml_0_script u_ml (a_T 0 0) r4 er4.symm) lk_X11_274 (by rw [hRf, hRl]; decide) ⟨Nat.zero_le _, Nat.zero_le _⟩ hB hD hN [1] (by decide) rfl (fun _ => rfl) (fun _ => rfl) (rc_X2 hK (hB.1 1 _ rfl)) rfl hl.1 rfl rfl (Nat.le_of_ble_eq_true rfl) dX11_go_36 (fun H locs q5 hB => ?_)
        have hB : WB E ad s.heap [wMain E a_mn q_mn_0_tape (a_T 0 0) q_mn_0_spare q_mn_0_reader (a_ml 0) (a_now 0) q_mn_0_trial q_mn_0_image (a_sp 0) q_mn_0_notes q_mn_0_futures q_mn_0_order q_mn_0_clapRow u_mn, wMill E a_ml (a_nm 0) (a_T 0 0) r4, wLArr E 7 a_nm u_nm, wHall E a_now u_now, wSteps E a_sp u_sp, wScript E (a_T 0) (a_T 1 0) (a_T 2 0) (a_T 3 0) (a_T 4 0) (a_T 5 0) (a_T 6 0) (a_T 7 0) (u_T 0), wRoll E 6 (a_T 1) (u_T 1), wRoll E 6 (a_T 2) (u_T 2), wRoll E 4 (a_T 3) (u_T 3), wRoll E 14 (a_T 4) (u_T 4), wFormula E (a_T 5) (u_T 5), wFormula E (a_T 6) (u_T 6), wFormula E (a_T 7) (u_T 7)] H locs := hB
        refine lv_aload_n hx hb dX11_go_39 rfl (lv_at hl 0 rfl) ?_
        refine gf_X11_X11_mill C hK (hB.1 0 _ rfl) dX11_go_40 ?_
        refine lv_aload_n hx hb dX11_go_43 rfl (lv_at hl 0 rfl) ?_
        refine gf_X11_X11_now C hK (hB.1 0 _ rfl) dX11_go_44 ?_
        refine lv_iload_n hx hb dX11_go_47 rfl (lv_at hl 1 rfl) ?_
        obtain ⟨r6, hr6, hf⟩ := ox_bind hf
        refine cxVX (bs1 := (fun q => [wMain E a_mn q_mn_0_tape (a_T 0 0) q_mn_0_spare q_mn_0_reader (a_ml 0) (a_now 0) q_mn_0_trial q_mn_0_image (a_sp 0) q_mn_0_notes q_mn_0_futures q_mn_0_order q_mn_0_clapRow u_mn, wMill E a_ml (a_nm 0) (a_T 0 0) r4, wLArr E 7 a_nm r6.1, wHall E a_now r6.2.2, wSteps E a_sp u_sp, wScript E (a_T 0) (a_T 1 0) (a_T 2 0) (a_T 3 0) (a_T 4 0) (a_T 5 0) (a_T 6 0) (a_T 7 0) (r6.2.1 0), wRoll E 6 (a_T 1) (r6.2.1 1), wRoll E 6 (a_T 2) (r6.2.1 2), wRoll E 4 (a_T 3) (r6.2.1 3), wRoll E 14 (a_T 4) (r6.2.1 4), wFormula E (a_T 5) (r6.2.1 5), wFormula E (a_T 6) (r6.2.1 6), wFormula E (a_T 7) (r6.2.1 7)])) (As := [.ref (a_now 0), .int x_1]) (rest := []) (st1 := []) C hK (tX2_pass l E a_ml r4 7 a_nm u_nm a_T u_T a_now u_now x_1 r6 hr6) lk_X11_277 (by rw [hRf, hRl]; decide) ⟨Nat.zero_le _, Nat.zero_le _⟩ hB hD hN [1, 2, 5, 6, 7, 8, 9, 10, 11, 12, 3] (by decide) rfl (fun _ => rfl) (fun _ => rfl) (rc_X2 hK (hB.1 1 _ rfl)) rfl hl.1 rfl rfl (Nat.le_of_ble_eq_true rfl) dX11_go_48 (fun H locs q7 hB => ?_)
        have hB : WB E ad s.heap [wMain E a_mn q_mn_0_tape (a_T 0 0) q_mn_0_spare q_mn_0_reader (a_ml 0) (a_now 0) q_mn_0_trial q_mn_0_image (a_sp 0) q_mn_0_notes q_mn_0_futures q_mn_0_order q_mn_0_clapRow u_mn, wMill E a_ml (a_nm 0) (a_T 0 0) r4, wLArr E 7 a_nm r6.1, wHall E a_now r6.2.2, wSteps E a_sp u_sp, wScript E (a_T 0) (a_T 1 0) (a_T 2 0) (a_T 3 0) (a_T 4 0) (a_T 5 0) (a_T 6 0) (a_T 7 0) (r6.2.1 0), wRoll E 6 (a_T 1) (r6.2.1 1), wRoll E 6 (a_T 2) (r6.2.1 2), wRoll E 4 (a_T 3) (r6.2.1 3), wRoll E 14 (a_T 4) (r6.2.1 4), wFormula E (a_T 5) (r6.2.1 5), wFormula E (a_T 6) (r6.2.1 6), wFormula E (a_T 7) (r6.2.1 7)] H locs := hB
        refine lv_iload_n hx hb dX11_go_51 rfl (lv_at hl 1 rfl) ?_
        refine lv_if_le (tgt := 62) hx hb dX11_go_52 (by decide) (fun c8 => ?_) (fun c8 => ?_)
        · have hf := (if_pos c8).symm.trans hf
          refine lv_aload_n hx hb dX11_go_62 rfl (lv_at hl 0 rfl) ?_
          refine gf_X11_X11_now C hK (hB.1 0 _ rfl) dX11_go_63 ?_
          refine gf_X11_X1_minute C hK (hB.1 3 _ rfl) dX11_go_66 ?_
          have hf := Option.some.inj hf
          subst hf
          exact hQ _ _ H locs (fun j => if j = 0 then (a_T 0 0) else 0) hB dX11_go_69
        · have hf := (if_neg c8).symm.trans hf
          refine lv_aload_n hx hb dX11_go_55 rfl (lv_at hl 0 rfl) ?_
          refine gf_X11_X11_steps C hK (hB.1 0 _ rfl) dX11_go_56 ?_
          obtain ⟨r9, er9, hf⟩ := ox_ex hf
          refine cxVX (bs1 := (fun q => [wMain E a_mn q_mn_0_tape (a_T 0 0) q_mn_0_spare q_mn_0_reader (a_ml 0) (a_now 0) q_mn_0_trial q_mn_0_image (a_sp 0) q_mn_0_notes q_mn_0_futures q_mn_0_order q_mn_0_clapRow u_mn, wMill E a_ml (a_nm 0) (a_T 0 0) r4, wLArr E 7 a_nm r6.1, wHall E a_now r6.2.2, wSteps E a_sp r9, wScript E (a_T 0) (a_T 1 0) (a_T 2 0) (a_T 3 0) (a_T 4 0) (a_T 5 0) (a_T 6 0) (a_T 7 0) (r6.2.1 0), wRoll E 6 (a_T 1) (r6.2.1 1), wRoll E 6 (a_T 2) (r6.2.1 2), wRoll E 4 (a_T 3) (r6.2.1 3), wRoll E 14 (a_T 4) (r6.2.1 4), wFormula E (a_T 5) (r6.2.1 5), wFormula E (a_T 6) (r6.2.1 6), wFormula E (a_T 7) (r6.2.1 7)])) (As := []) (rest := []) (st1 := []) C hK (tX9_clear l E a_sp u_sp r9 er9.symm) lk_X11_123 (by rw [hRf, hRl]; decide) ⟨Nat.zero_le _, Nat.zero_le _⟩ hB hD hN [4] (by decide) rfl (fun _ => rfl) (fun _ => rfl) (rc_X9 hK (hB.1 4 _ rfl)) rfl hl.1 rfl rfl (Nat.le_of_ble_eq_true rfl) dX11_go_59 (fun H locs q10 hB => ?_)
          have hB : WB E ad s.heap [wMain E a_mn q_mn_0_tape (a_T 0 0) q_mn_0_spare q_mn_0_reader (a_ml 0) (a_now 0) q_mn_0_trial q_mn_0_image (a_sp 0) q_mn_0_notes q_mn_0_futures q_mn_0_order q_mn_0_clapRow u_mn, wMill E a_ml (a_nm 0) (a_T 0 0) r4, wLArr E 7 a_nm r6.1, wHall E a_now r6.2.2, wSteps E a_sp r9, wScript E (a_T 0) (a_T 1 0) (a_T 2 0) (a_T 3 0) (a_T 4 0) (a_T 5 0) (a_T 6 0) (a_T 7 0) (r6.2.1 0), wRoll E 6 (a_T 1) (r6.2.1 1), wRoll E 6 (a_T 2) (r6.2.1 2), wRoll E 4 (a_T 3) (r6.2.1 3), wRoll E 14 (a_T 4) (r6.2.1 4), wFormula E (a_T 5) (r6.2.1 5), wFormula E (a_T 6) (r6.2.1 6), wFormula E (a_T 7) (r6.2.1 7)] H locs := hB
          refine lv_aload_n hx hb dX11_go_62 rfl (lv_at hl 0 rfl) ?_
          refine gf_X11_X11_now C hK (hB.1 0 _ rfl) dX11_go_63 ?_
          refine gf_X11_X1_minute C hK (hB.1 3 _ rfl) dX11_go_66 ?_
          have hf := Option.some.inj hf
          subst hf
          exact hQ _ _ H locs (fun j => if j = 0 then (a_T 0 0) else 0) hB dX11_go_69
      · have hf := (if_neg c3).symm.trans hf
        refine lv_iconst (v := (-1)) hx hb dX11_go_26 (by decide) ?_
        have hf := Option.some.inj hf
        subst hf
        exact hQ _ _ H locs (fun j => if j = 0 then q_ml_0_script else 0) hB dX11_go_27
set_option maxHeartbeats 4000000 in
set_option maxRecDepth 20000 in
theorem tX11_undo (l : Launch) (E : Ev) (a_mn : Nat → Nat) (q_mn_0_tape : Nat) (q_mn_0_told : Nat) (q_mn_0_spare : Nat) (q_mn_0_reader : Nat) (q_mn_0_mill : Nat) (q_mn_0_trial : Nat) (q_mn_0_image : Nat) (q_mn_0_notes : Nat) (q_mn_0_futures : Nat) (q_mn_0_order : Nat) (q_mn_0_clapRow : Nat) (u_mn : St) (a_now : Nat → Nat) (u_now : St) (a_sp : Nat → Nat) (u_sp : St) (res : Int32 × St × St) (hf : fX11_undo u_mn u_now u_sp = some res) : MX l E yX11_undo cX11_undo 1 (some .int) (rmm 3 67) [wMain E a_mn q_mn_0_tape q_mn_0_told q_mn_0_spare q_mn_0_reader q_mn_0_mill (a_now 0) q_mn_0_trial q_mn_0_image (a_sp 0) q_mn_0_notes q_mn_0_futures q_mn_0_order q_mn_0_clapRow u_mn, wHall E a_now u_now, wSteps E a_sp u_sp] (fun q => [wMain E a_mn q_mn_0_tape q_mn_0_told q_mn_0_spare q_mn_0_reader q_mn_0_mill (a_now 0) q_mn_0_trial q_mn_0_image (a_sp 0) q_mn_0_notes q_mn_0_futures q_mn_0_order q_mn_0_clapRow u_mn, wHall E a_now res.2.1, wSteps E a_sp res.2.2]) [.ref (a_mn 0)] (some (.int res.1)) := by
  unfold fX11_undo at hf
  refine MX.ofI rfl (by decide) (Nat.le_of_ble_eq_true rfl) ?_
  intro p e R s m args below meth c ls Q ad H hRf hRl C hB hD hK hN hl hQ
  generalize hlocs : ([] : List Loc) = locs at hB ⊢
  clear hlocs
  have hx := C.1
  have hb := C.2.1
  have hl : lv_has ls 1 [(0, .ref (a_mn 0))] := hl
  refine lv_aload_n hx hb dX11_undo_0 rfl (lv_at hl 0 rfl) ?_
  refine gf_X11_X11_steps C hK (hB.1 0 _ rfl) dX11_undo_1 ?_
  refine gf_X11_X9_size C hK (hB.1 2 _ rfl) dX11_undo_4 ?_
  refine lv_if_ne (tgt := 12) hx hb dX11_undo_7 (by decide) (fun c1 => ?_) (fun c1 => ?_)
  · have hf := (if_neg c1).symm.trans hf
    refine lv_aload_n hx hb dX11_undo_12 rfl (lv_at hl 0 rfl) ?_
    refine gf_X11_X11_steps C hK (hB.1 0 _ rfl) dX11_undo_13 ?_
    refine lv_aload_n hx hb dX11_undo_16 rfl (lv_at hl 0 rfl) ?_
    refine gf_X11_X11_now C hK (hB.1 0 _ rfl) dX11_undo_17 ?_
    obtain ⟨r2, hr2, hf⟩ := ox_bind hf
    refine cxVX (bs1 := (fun q => [wMain E a_mn q_mn_0_tape q_mn_0_told q_mn_0_spare q_mn_0_reader q_mn_0_mill (a_now 0) q_mn_0_trial q_mn_0_image (a_sp 0) q_mn_0_notes q_mn_0_futures q_mn_0_order q_mn_0_clapRow u_mn, wHall E a_now r2.2, wSteps E a_sp r2.1])) (As := [.ref (a_now 0)]) (rest := []) (st1 := []) C hK (tX9_takeBack l E a_sp u_sp a_now u_now r2 hr2) lk_X11_281 (by rw [hRf, hRl]; decide) ⟨Nat.zero_le _, Nat.zero_le _⟩ hB hD hN [2, 1] (by decide) rfl (fun _ => rfl) (fun _ => rfl) (rc_X9 hK (hB.1 2 _ rfl)) rfl hl.1 rfl rfl (Nat.le_of_ble_eq_true rfl) dX11_undo_20 (fun H locs q3 hB => ?_)
    have hB : WB E ad s.heap [wMain E a_mn q_mn_0_tape q_mn_0_told q_mn_0_spare q_mn_0_reader q_mn_0_mill (a_now 0) q_mn_0_trial q_mn_0_image (a_sp 0) q_mn_0_notes q_mn_0_futures q_mn_0_order q_mn_0_clapRow u_mn, wHall E a_now r2.2, wSteps E a_sp r2.1] H locs := hB
    refine lv_aload_n hx hb dX11_undo_23 rfl (lv_at hl 0 rfl) ?_
    refine gf_X11_X11_steps C hK (hB.1 0 _ rfl) dX11_undo_24 ?_
    refine gf_X11_X9_size C hK (hB.1 2 _ rfl) dX11_undo_27 ?_
    have hf := Option.some.inj hf
    subst hf
    exact hQ _ _ H locs (fun _ => 0) hB dX11_undo_30
  · have hf := (if_pos c1).symm.trans hf
    refine lv_iconst (v := (-1)) hx hb dX11_undo_10 (by decide) ?_
    have hf := Option.some.inj hf
    subst hf
    exact hQ _ _ H locs (fun _ => 0) hB dX11_undo_11
