set_option maxHeartbeats 4000000 in
set_option maxRecDepth 20000 in
theorem tX11_seats (l : Launch) (E : Ev) (a_mn : Nat → Nat) (q_mn_0_tape : Nat) (q_mn_0_spare : Nat) (q_mn_0_reader : Nat) (q_mn_0_trial : Nat) (q_mn_0_image : Nat) (q_mn_0_steps : Nat) (q_mn_0_notes : Nat) (q_mn_0_futures : Nat) (u_mn : St) (a_crow : Nat → Nat) (u_crow : St) (a_ml : Nat → Nat) (q_ml_0_script : Nat) (u_ml : St) (a_nm : Nat → Nat) (u_nm : St) (a_now : Nat → Nat) (u_now : St) (a_od : Nat → Nat) (u_od : St) (a_T : Nat → Nat → Nat) (u_T : Nat → St) (x_1 : Int32) (x_2 : Int32) (res : Int32 × St × St × St × St × (Nat → St)) (hf : fX11_seats u_mn u_crow u_ml u_nm u_now u_od u_T x_1 x_2 = some res) : MX l E yX11_seats cX11_seats 5 (some .int) (rmm 7 178) [wMain E a_mn q_mn_0_tape (a_T 0 0) q_mn_0_spare q_mn_0_reader (a_ml 0) (a_now 0) q_mn_0_trial q_mn_0_image q_mn_0_steps q_mn_0_notes q_mn_0_futures (a_od 0) (a_crow 0) u_mn, wIArr E 114 a_crow u_crow, wMill E a_ml (a_nm 0) q_ml_0_script u_ml, wLArr E 7 a_nm u_nm, wHall E a_now u_now, wOrder E a_od u_od, wScript E (a_T 0) (a_T 1 0) (a_T 2 0) (a_T 3 0) (a_T 4 0) (a_T 5 0) (a_T 6 0) (a_T 7 0) (u_T 0), wRoll E 6 (a_T 1) (u_T 1), wRoll E 6 (a_T 2) (u_T 2), wRoll E 4 (a_T 3) (u_T 3), wRoll E 14 (a_T 4) (u_T 4), wFormula E (a_T 5) (u_T 5), wFormula E (a_T 6) (u_T 6), wFormula E (a_T 7) (u_T 7)] (fun q => [wMain E a_mn q_mn_0_tape (a_T 0 0) q_mn_0_spare q_mn_0_reader (a_ml 0) (a_now 0) q_mn_0_trial q_mn_0_image q_mn_0_steps q_mn_0_notes q_mn_0_futures (a_od 0) (a_crow 0) u_mn, wIArr E 114 a_crow res.2.1, wMill E a_ml (a_nm 0) (q 0) res.2.2.1, wLArr E 7 a_nm res.2.2.2.1, wHall E a_now u_now, wOrder E a_od res.2.2.2.2.1, wScript E (a_T 0) (a_T 1 0) (a_T 2 0) (a_T 3 0) (a_T 4 0) (a_T 5 0) (a_T 6 0) (a_T 7 0) (res.2.2.2.2.2 0), wRoll E 6 (a_T 1) (res.2.2.2.2.2 1), wRoll E 6 (a_T 2) (res.2.2.2.2.2 2), wRoll E 4 (a_T 3) (res.2.2.2.2.2 3), wRoll E 14 (a_T 4) (res.2.2.2.2.2 4), wFormula E (a_T 5) (res.2.2.2.2.2 5), wFormula E (a_T 6) (res.2.2.2.2.2 6), wFormula E (a_T 7) (res.2.2.2.2.2 7)]) [.ref (a_mn 0), .int x_1, .int x_2] (some (.int res.1)) := by
  unfold fX11_seats at hf
  refine MX.ofI rfl (by decide) (Nat.le_of_ble_eq_true rfl) ?_
  intro p e R s m args below meth c ls Q ad H hRf hRl C hB hD hK hN hl hQ
  generalize hlocs : ([] : List Loc) = locs at hB ⊢
  clear hlocs
  have hx := C.1
  have hb := C.2.1
  have hl : lv_has ls 5 [(0, .ref (a_mn 0)), (1, .int x_1), (2, .int x_2)] := hl
  refine lv_aload_n hx hb dX11_seats_0 rfl (lv_at hl 0 rfl) ?_
  refine gf_X11_X11_told C hK (hB.1 0 _ rfl) dX11_seats_1 ?_
  refine gf_X11_X8_acts C hK (hB.1 6 _ rfl) dX11_seats_4 ?_
  refine lv_iload_n hx hb dX11_seats_7 rfl (lv_at hl 1 rfl) ?_
  refine cxVP (As := [.int x_1]) (rest := []) (st1 := [.int (fX7_has 6 (u_T 1) x_1)]) C hK (tX7_has l E 6 (a_T 1) (u_T 1) x_1 (fX7_has 6 (u_T 1) x_1) rfl) lk_X11_143 ⟨rfl, rfl⟩ (by rw [hRf, hRl]; decide) ⟨Nat.zero_le _, Nat.zero_le _⟩ (PB.sub hB.1 [7] rfl) (hB.old hD hN) (Nat.le_trans hN hB.2.2.1) (rc_X7 hK (hB.1 7 _ rfl)) rfl hl.1 rfl rfl (Nat.le_of_ble_eq_true rfl) dX11_seats_8 ?_
  refine lv_if_eq (tgt := 24) hx hb dX11_seats_11 (by decide) (fun c1 => ?_) (fun c1 => ?_)
  · have hf := (if_pos c1).symm.trans hf
    refine lv_ldc (v := -2147483648) hx hb C.2.2.2.1 (C.2.2.2.2 _ mw_828) dX11_seats_24 ?_
    have hf := Option.some.inj hf
    subst hf
    exact hQ _ _ H locs (fun j => if j = 0 then q_ml_0_script else 0) hB dX11_seats_26
  · have hf := (if_neg c1).symm.trans hf
    refine lv_iload_n hx hb dX11_seats_14 rfl (lv_at hl 2 rfl) ?_
    refine lv_if_lt (tgt := 24) hx hb dX11_seats_15 (by decide) (fun c2 => ?_) (fun c2 => ?_)
    · have hf := (if_pos c2).symm.trans hf
      refine lv_ldc (v := -2147483648) hx hb C.2.2.2.1 (C.2.2.2.2 _ mw_828) dX11_seats_24 ?_
      have hf := Option.some.inj hf
      subst hf
      exact hQ _ _ H locs (fun j => if j = 0 then q_ml_0_script else 0) hB dX11_seats_26
    · have hf := (if_neg c2).symm.trans hf
      refine lv_iload_n hx hb dX11_seats_18 rfl (lv_at hl 2 rfl) ?_
      refine lv_bipush (v := 6) hx hb dX11_seats_19 (by decide) ?_
      refine lv_icmp_le (tgt := 27) hx hb dX11_seats_21 (by decide) (fun c3 => ?_) (fun c3 => ?_)
      · have hf := (if_pos c3).symm.trans hf
        refine lv_aload_n hx hb dX11_seats_27 rfl (lv_at hl 0 rfl) ?_
        refine gf_X11_X11_told C hK (hB.1 0 _ rfl) dX11_seats_28 ?_
        refine gf_X11_X8_guests C hK (hB.1 6 _ rfl) dX11_seats_31 ?_
        refine gf_X11_X7_size C hK (hB.1 8 _ rfl) dX11_seats_34 ?_
        refine lv_topi (fun x4 ex4 => ?_)
        have hf := ox_lt ex4 hf
        refine lv_istore_n (lv' := [(3, .int x4), (0, .ref (a_mn 0)), (1, .int x_1), (2, .int x_2)]) hx hb dX11_seats_37 rfl hl (by decide) rfl (fun ls hl => ?_)
        refine lv_iload_n hx hb dX11_seats_38 rfl (lv_at hl 3 rfl) ?_
        refine lv_bipush (v := 6) hx hb dX11_seats_39 (by decide) ?_
        obtain ⟨j5, ej5, hf⟩ := ox_ex hf
        have hj5 : ∀ (ls : Array Slot) (H : Heap) (locs : List Loc), lv_has ls 5 [(0, .ref (a_mn 0)), (1, .int x_1), (2, .int x_2), (3, .int x4)] → WB E ad s.heap [wMain E a_mn q_mn_0_tape (a_T 0 0) q_mn_0_spare q_mn_0_reader (a_ml 0) (a_now 0) q_mn_0_trial q_mn_0_image q_mn_0_steps q_mn_0_notes q_mn_0_futures (a_od 0) (a_crow 0) u_mn, wIArr E 114 a_crow u_crow, wMill E a_ml (a_nm 0) q_ml_0_script u_ml, wLArr E 7 a_nm u_nm, wHall E a_now u_now, wOrder E a_od u_od, wScript E (a_T 0) (a_T 1 0) (a_T 2 0) (a_T 3 0) (a_T 4 0) (a_T 5 0) (a_T 6 0) (a_T 7 0) (u_T 0), wRoll E 6 (a_T 1) (u_T 1), wRoll E 6 (a_T 2) (u_T 2), wRoll E 4 (a_T 3) (u_T 3), wRoll E 14 (a_T 4) (u_T 4), wFormula E (a_T 5) (u_T 5), wFormula E (a_T 6) (u_T 6), wFormula E (a_T 7) (u_T 7)] H locs → j5 = some res → W p l e R s m args below meth c H locs 0 0 Q (F0 m 52 ls []) := by
          intro ls H locs hl hB hf
          have hf := ox_a0 ej5 hf
          refine lv_aload_n hx hb dX11_seats_52 rfl (lv_at hl 0 rfl) ?_
          refine lv_iload_n hx hb dX11_seats_53 rfl (lv_at hl 1 rfl) ?_
          refine lv_iload_n hx hb dX11_seats_54 rfl (lv_at hl 3 rfl) ?_
          obtain ⟨r6, hr6, hf⟩ := ox_bind hf
          refine cxVX (bs1 := (fun q => [wMain E a_mn q_mn_0_tape (a_T 0 0) q_mn_0_spare q_mn_0_reader (a_ml 0) (a_now 0) q_mn_0_trial q_mn_0_image q_mn_0_steps q_mn_0_notes q_mn_0_futures (a_od 0) (a_crow 0) u_mn, wIArr E 114 a_crow r6.2.1, wMill E a_ml (a_nm 0) (a_T 0 0) r6.2.2.1, wLArr E 7 a_nm r6.2.2.2.1, wHall E a_now u_now, wOrder E a_od r6.2.2.2.2.1, wScript E (a_T 0) (a_T 1 0) (a_T 2 0) (a_T 3 0) (a_T 4 0) (a_T 5 0) (a_T 6 0) (a_T 7 0) (r6.2.2.2.2.2 0), wRoll E 6 (a_T 1) (r6.2.2.2.2.2 1), wRoll E 6 (a_T 2) (r6.2.2.2.2.2 2), wRoll E 4 (a_T 3) (r6.2.2.2.2.2 3), wRoll E 14 (a_T 4) (r6.2.2.2.2.2 4), wFormula E (a_T 5) (r6.2.2.2.2.2 5), wFormula E (a_T 6) (r6.2.2.2.2.2 6), wFormula E (a_T 7) (r6.2.2.2.2.2 7)])) (As := [.int x_1, .int x4]) (rest := []) (st1 := [.int r6.1]) C hK (tX11_bestSeats l E a_mn q_mn_0_tape q_mn_0_spare q_mn_0_reader q_mn_0_trial q_mn_0_image q_mn_0_steps q_mn_0_notes q_mn_0_futures u_mn a_crow u_crow a_ml q_ml_0_script u_ml a_nm u_nm a_now u_now a_od u_od a_T u_T x_1 x4 r6 hr6) lk_X11_322 (by rw [hRf, hRl]; decide) ⟨Nat.zero_le _, Nat.zero_le _⟩ hB hD hN [0, 1, 2, 3, 4, 5, 6, 7, 8, 9, 10, 11, 12, 13] (by decide) rfl (fun _ => rfl) (fun _ => rfl) (rc_X11 hK (hB.1 0 _ rfl)) rfl hl.1 rfl rfl (Nat.le_of_ble_eq_true rfl) dX11_seats_55 (fun H locs q7 hB => ?_)
          have hB : WB E ad s.heap [wMain E a_mn q_mn_0_tape (a_T 0 0) q_mn_0_spare q_mn_0_reader (a_ml 0) (a_now 0) q_mn_0_trial q_mn_0_image q_mn_0_steps q_mn_0_notes q_mn_0_futures (a_od 0) (a_crow 0) u_mn, wIArr E 114 a_crow r6.2.1, wMill E a_ml (a_nm 0) (a_T 0 0) r6.2.2.1, wLArr E 7 a_nm r6.2.2.2.1, wHall E a_now u_now, wOrder E a_od r6.2.2.2.2.1, wScript E (a_T 0) (a_T 1 0) (a_T 2 0) (a_T 3 0) (a_T 4 0) (a_T 5 0) (a_T 6 0) (a_T 7 0) (r6.2.2.2.2.2 0), wRoll E 6 (a_T 1) (r6.2.2.2.2.2 1), wRoll E 6 (a_T 2) (r6.2.2.2.2.2 2), wRoll E 4 (a_T 3) (r6.2.2.2.2.2 3), wRoll E 14 (a_T 4) (r6.2.2.2.2.2 4), wFormula E (a_T 5) (r6.2.2.2.2.2 5), wFormula E (a_T 6) (r6.2.2.2.2.2 6), wFormula E (a_T 7) (r6.2.2.2.2.2 7)] H locs := hB
          refine lv_topi (fun x8 ex8 => ?_)
          have hf := ox_lt ex8 hf
          refine lv_istore (lv' := [(4, .int x8), (0, .ref (a_mn 0)), (1, .int x_1), (2, .int x_2), (3, .int x4)]) hx hb dX11_seats_58 hl (by decide) rfl (fun ls hl => ?_)
          refine lv_iload_n hx hb dX11_seats_60 rfl (lv_at hl 3 rfl) ?_
          refine lv_bipush (v := 6) hx hb dX11_seats_61 (by decide) ?_
          refine lv_icmp_ne (tgt := 71) hx hb dX11_seats_63 (by decide) (fun c9 => ?_) (fun c9 => ?_)
          · have hf := (if_neg c9).symm.trans hf
            refine lv_aload_n hx hb dX11_seats_71 rfl (lv_at hl 1 rfl) ?_
            refine gf_X11_X11_order C hK (hB.1 0 _ rfl) dX11_seats_72 ?_
            refine gf_X11_X4_best C hK (hB.1 5 _ rfl) dX11_seats_75 ?_
            refine lv_iload_n hx hb dX11_seats_78 rfl (lv_at hl 3 rfl) ?_
            obtain ⟨hn10, hf⟩ := ox_chk hf
            refine ld_X4_best C hK (hB.1 5 _ rfl) hn10 rfl dX11_seats_79 ?_
            have hf := Option.some.inj hf
            subst hf
            exact hQ _ _ H locs (fun j => if j = 0 then (a_T 0 0) else 0) hB dX11_seats_80
          · have hf := (if_pos c9).symm.trans hf
            refine lv_iload hx hb dX11_seats_66 (lv_at hl 0 rfl) ?_
            refine lv_goto (tgt := 80) hx hb dX11_seats_68 (by decide) ?_
            have hf := Option.some.inj hf
            subst hf
            exact hQ _ _ H locs (fun j => if j = 0 then (a_T 0 0) else 0) hB dX11_seats_80
        refine lv_icmp_ge (tgt := 52) hx hb dX11_seats_41 (by decide) (fun c11 => ?_) (fun c11 => ?_)
        · have hf := (if_pos c11).symm.trans hf
          exact hj5 ls H locs (lv_sub hl [1, 2, 3, 0] rfl) hB hf
        · have hf := (if_neg c11).symm.trans hf
          refine lv_iload_n hx hb dX11_seats_44 rfl (lv_at hl 3 rfl) ?_
          refine lv_iload_n hx hb dX11_seats_45 rfl (lv_at hl 0 rfl) ?_
          refine lv_icmp_lt (tgt := 52) hx hb dX11_seats_46 (by decide) (fun c12 => ?_) (fun c12 => ?_)
          · have hf := (if_pos c12).symm.trans hf
            exact hj5 ls H locs (lv_sub hl [1, 2, 3, 0] rfl) hB hf
          · have hf := (if_neg c12).symm.trans hf
            refine lv_bipush (v := (-2)) hx hb dX11_seats_49 (by decide) ?_
            have hf := Option.some.inj hf
            subst hf
            exact hQ _ _ H locs (fun j => if j = 0 then q_ml_0_script else 0) hB dX11_seats_51
      · have hf := (if_neg c3).symm.trans hf
        refine lv_ldc (v := -2147483648) hx hb C.2.2.2.1 (C.2.2.2.2 _ mw_828) dX11_seats_24 ?_
        have hf := Option.some.inj hf
        subst hf
        exact hQ _ _ H locs (fun j => if j = 0 then q_ml_0_script else 0) hB dX11_seats_26
set_option maxHeartbeats 4000000 in
set_option maxRecDepth 20000 in
theorem tX11_sumOf (l : Launch) (E : Ev) (a_mn : Nat → Nat) (q_mn_0_tape : Nat) (q_mn_0_spare : Nat) (q_mn_0_reader : Nat) (q_mn_0_mill : Nat) (q_mn_0_now : Nat) (q_mn_0_trial : Nat) (q_mn_0_image : Nat) (q_mn_0_steps : Nat) (q_mn_0_notes : Nat) (q_mn_0_futures : Nat) (q_mn_0_order : Nat) (q_mn_0_clapRow : Nat) (u_mn : St) (a_T : Nat → Nat → Nat) (u_T : Nat → St) (x_1 : Int32) (x_2 : Int32) (res : Int32) (hf : fX11_sumOf u_mn u_T x_1 x_2 = some res) : MP l E yX11_sumOf cX11_sumOf 5 (some .int) (rmm 2 52) [wMain E a_mn q_mn_0_tape (a_T 0 0) q_mn_0_spare q_mn_0_reader q_mn_0_mill q_mn_0_now q_mn_0_trial q_mn_0_image q_mn_0_steps q_mn_0_notes q_mn_0_futures q_mn_0_order q_mn_0_clapRow u_mn, wScript E (a_T 0) (a_T 1 0) (a_T 2 0) (a_T 3 0) (a_T 4 0) (a_T 5 0) (a_T 6 0) (a_T 7 0) (u_T 0), wRoll E 6 (a_T 1) (u_T 1), wRoll E 6 (a_T 2) (u_T 2), wRoll E 4 (a_T 3) (u_T 3), wRoll E 14 (a_T 4) (u_T 4), wFormula E (a_T 5) (u_T 5), wFormula E (a_T 6) (u_T 6), wFormula E (a_T 7) (u_T 7)] [.ref (a_mn 0), .int x_1, .int x_2] (some (.int res)) := by
  unfold fX11_sumOf at hf
  refine MP.ofI rfl (by decide) (Nat.le_of_ble_eq_true rfl) ?_
  intro p e R s m args below meth c ls Q hRf hRl C hP hK hN hl hQ
  have hx := C.1
  have hb := C.2.1
  have hl : lv_has ls 5 [(0, .ref (a_mn 0)), (1, .int x_1), (2, .int x_2)] := hl
  refine lv_iconst (v := 0) hx hb dX11_sumOf_0 (by decide) ?_
  refine lv_istore_n (lv' := [(3, .int (0 : Int32)), (0, .ref (a_mn 0)), (1, .int x_1), (2, .int x_2)]) hx hb dX11_sumOf_1 rfl hl (by decide) rfl (fun ls hl => ?_)
  refine lv_iconst (v := 0) hx hb dX11_sumOf_2 (by decide) ?_
  refine lv_istore (lv' := [(4, .int (0 : Int32)), (3, .int (0 : Int32)), (0, .ref (a_mn 0)), (1, .int x_1), (2, .int x_2)]) hx hb dX11_sumOf_3 hl (by decide) rfl (fun ls hl => ?_)
  obtain ⟨X1, hX1, hf⟩ := ox_bind hf
  have hexit1 : ∀ y11, y11 = X1 → ∀ (ls : Array Slot), lv_has ls 5 [(3, .int y11)] → W p l e R s m args below meth c s.heap [] 0 0 Q (F0 m 56 ls []) := by
    intro y11 hy ls hl
    subst hy
    refine lv_iload_n hx hb dX11_sumOf_56 rfl (lv_at hl 0 rfl) ?_
    have hf := Option.some.inj hf
    subst hf
    exact hQ _ _ dX11_sumOf_57
  have hloop1 : ∀ (nf : Nat) (x1 : Int32) (x2 : Int32) (ls : Array Slot), lv_has ls 5 [(0, .ref (a_mn 0)), (1, .int x_1), (2, .int x_2), (3, .int x1), (4, .int x2)] → fX11_sumOf_L1 u_T x_1 x_2 nf x1 x2 = some X1 → W p l e R s m args below meth c s.heap [] 0 0 Q (F0 m 5 ls []) := by
    intro nf
    induction nf with
    | zero =>
      intro x1 x2 ls hl hf
      simp [fX11_sumOf_L1] at hf
    | succ nf ih =>
      intro x1 x2 ls hl hf
      rw [fX11_sumOf_L1] at hf
      refine lv_iload hx hb dX11_sumOf_5 (lv_at hl 4 rfl) ?_
      refine lv_aload_n hx hb dX11_sumOf_7 rfl (lv_at hl 0 rfl) ?_
      refine gf_X11_X11_told C hK (hP 0 _ rfl) dX11_sumOf_8 ?_
      refine gf_X11_X8_guests C hK (hP 1 _ rfl) dX11_sumOf_11 ?_
      refine gf_X11_X7_size C hK (hP 3 _ rfl) dX11_sumOf_14 ?_
      refine lv_icmp_ge (tgt := 56) hx hb dX11_sumOf_17 (by decide) (fun c3 => ?_) (fun c3 => ?_)
      · have hf := (if_pos c3).symm.trans hf
        exact hexit1 _ (Option.some.inj hf) ls (lv_sub hl [3] rfl)
      · have hf := (if_neg c3).symm.trans hf
        refine lv_iload_n hx hb dX11_sumOf_20 rfl (lv_at hl 2 rfl) ?_
        refine lv_iload hx hb dX11_sumOf_21 (lv_at hl 4 rfl) ?_
        refine lv_ishr hx hb dX11_sumOf_23 ?_
        refine lv_iconst (v := 1) hx hb dX11_sumOf_24 (by decide) ?_
        refine lv_iand hx hb dX11_sumOf_25 ?_
        refine lv_iconst (v := 1) hx hb dX11_sumOf_26 (by decide) ?_
        obtain ⟨j5, ej5, hf⟩ := ox_ex hf
        have hj5 : ∀ (x4 : Int32) (ls : Array Slot), lv_has ls 5 [(0, .ref (a_mn 0)), (1, .int x_1), (2, .int x_2), (3, .int x4), (4, .int x2)] → j5 x4 = some X1 → W p l e R s m args below meth c s.heap [] 0 0 Q (F0 m 50 ls []) := by
          intro x4 ls hl hf
          have hf := ox_a1 ej5 hf
          obtain ⟨x6, ex6⟩ : ∃ z : Int32, z = (x2 + 1) := ⟨_, rfl⟩
          have hf := ox_lt ex6 hf
          refine lv_iinc (v := x6) (lv' := [(4, .int x6), (0, .ref (a_mn 0)), (1, .int x_1), (2, .int x_2), (3, .int x4)]) hx hb dX11_sumOf_50 hl (k := 4) rfl (by rw [ex6]; rfl) (by decide) rfl (fun ls hl => ?_)
          refine lv_goto (tgt := 5) hx hb dX11_sumOf_53 (by decide) ?_
          exact ih _ _ ls (lv_sub hl [1, 2, 3, 4, 0] rfl) hf
        refine lv_icmp_ne (tgt := 50) hx hb dX11_sumOf_27 (by decide) (fun c7 => ?_) (fun c7 => ?_)
        · have hf := (if_neg c7).symm.trans hf
          exact hj5 _ ls (lv_sub hl [0, 1, 2, 3, 4] rfl) hf
        · have hf := (if_pos c7).symm.trans hf
          refine lv_iload_n hx hb dX11_sumOf_30 rfl (lv_at hl 3 rfl) ?_
          refine lv_aload_n hx hb dX11_sumOf_31 rfl (lv_at hl 0 rfl) ?_
          refine gf_X11_X11_told C hK (hP 0 _ rfl) dX11_sumOf_32 ?_
          refine lv_iload hx hb dX11_sumOf_35 (lv_at hl 4 rfl) ?_
          refine lv_aload_n hx hb dX11_sumOf_37 rfl (lv_at hl 0 rfl) ?_
          refine gf_X11_X11_told C hK (hP 0 _ rfl) dX11_sumOf_38 ?_
          refine lv_iload_n hx hb dX11_sumOf_41 rfl (lv_at hl 1 rfl) ?_
          obtain ⟨r8, hr8, hf⟩ := ox_bind hf
          refine cxVP (As := [.int x_1]) (rest := [.int x2, .ref (a_T 0 0), .int x1]) (st1 := [.int r8, .int x2, .ref (a_T 0 0), .int x1]) C hK (tX8_mood l E a_T u_T x_1 r8 hr8) lk_X11_174 ⟨rfl, rfl⟩ (by rw [hRf, hRl]; decide) ⟨Nat.zero_le _, Nat.zero_le _⟩ (PB.sub hP [1, 2, 3, 4, 5, 6, 7, 8] rfl) (fun _ _ => rfl) hN (rc_X8 hK (hP 1 _ rfl)) rfl hl.1 rfl rfl (Nat.le_of_ble_eq_true rfl) dX11_sumOf_42 ?_
          obtain ⟨r9, hr9, hf⟩ := ox_bind hf
          refine cxVP (As := [.int x2, .int r8]) (rest := [.int x1]) (st1 := [.int r9, .int x1]) C hK (tX8_without l E a_T u_T x2 r8 r9 hr9) lk_X11_348 ⟨rfl, rfl⟩ (by rw [hRf, hRl]; decide) ⟨Nat.zero_le _, Nat.zero_le _⟩ (PB.sub hP [1, 2, 3, 4, 5, 6, 7, 8] rfl) (fun _ _ => rfl) hN (rc_X8 hK (hP 1 _ rfl)) rfl hl.1 rfl rfl (Nat.le_of_ble_eq_true rfl) dX11_sumOf_45 ?_
          refine lv_iadd hx hb dX11_sumOf_48 ?_
          refine lv_topi (fun x10 ex10 => ?_)
          have hf := ox_lt ex10 hf
          refine lv_istore_n (lv' := [(3, .int x10), (0, .ref (a_mn 0)), (1, .int x_1), (2, .int x_2), (4, .int x2)]) hx hb dX11_sumOf_49 rfl hl (by decide) rfl (fun ls hl => ?_)
          exact hj5 _ ls (lv_sub hl [1, 2, 3, 0, 4] rfl) hf
  exact hloop1 fuel _ _ ls (lv_sub hl [2, 3, 4, 1, 0] rfl) hX1
set_option maxHeartbeats 4000000 in
set_option maxRecDepth 20000 in
theorem tJ6_bitCount_0f7a4 (l : Launch) (E : Ev) (x_0 : Int32) (res : Int32) (hf : fJ6_bitCount_0f7a4 x_0 = res) : MP l E yJ6_bitCount_0f7a4 cJ6_bitCount_0f7a4 1 (some .int) (rmm 0 0) [] [.int x_0] (some (.int res)) := by
  unfold fJ6_bitCount_0f7a4 at hf
  refine MP.ofI rfl (by decide) (Nat.le_of_ble_eq_true rfl) ?_
  intro p e R s m args below meth c ls Q hRf hRl C hP hK hN hl hQ
  have hx := C.1
  have hb := C.2.1
  have hl : lv_has ls 1 [(0, .int x_0)] := hl
  refine lv_iload_n hx hb dJ6_bitCount_0f7a4_0 rfl (lv_at hl 0 rfl) ?_
  refine lv_iload_n hx hb dJ6_bitCount_0f7a4_1 rfl (lv_at hl 0 rfl) ?_
  refine lv_iconst (v := 1) hx hb dJ6_bitCount_0f7a4_2 (by decide) ?_
  refine lv_iushr hx hb dJ6_bitCount_0f7a4_3 rfl ?_
  refine lv_ldcw (v := 1431655765) hx hb C.2.2.2.1 (C.2.2.2.2 _ mw_1049) dJ6_bitCount_0f7a4_4 ?_
  refine lv_iand hx hb dJ6_bitCount_0f7a4_7 ?_
  refine lv_isub hx hb dJ6_bitCount_0f7a4_8 ?_
  refine lv_topi (fun x1 ex1 => ?_)
  have hf := ox_lt ex1 hf
  refine lv_istore_n (lv' := [(0, .int x1)]) hx hb dJ6_bitCount_0f7a4_9 rfl hl (by decide) rfl (fun ls hl => ?_)
  refine lv_iload_n hx hb dJ6_bitCount_0f7a4_10 rfl (lv_at hl 0 rfl) ?_
  refine lv_ldcw (v := 858993459) hx hb C.2.2.2.1 (C.2.2.2.2 _ mw_1050) dJ6_bitCount_0f7a4_11 ?_
  refine lv_iand hx hb dJ6_bitCount_0f7a4_14 ?_
  refine lv_iload_n hx hb dJ6_bitCount_0f7a4_15 rfl (lv_at hl 0 rfl) ?_
  refine lv_iconst (v := 2) hx hb dJ6_bitCount_0f7a4_16 (by decide) ?_
  refine lv_iushr hx hb dJ6_bitCount_0f7a4_17 rfl ?_
  refine lv_ldcw (v := 858993459) hx hb C.2.2.2.1 (C.2.2.2.2 _ mw_1050) dJ6_bitCount_0f7a4_18 ?_
  refine lv_iand hx hb dJ6_bitCount_0f7a4_21 ?_
  refine lv_iadd hx hb dJ6_bitCount_0f7a4_22 ?_
  refine lv_topi (fun x2 ex2 => ?_)
  have hf := ox_lt ex2 hf
  refine lv_istore_n (lv' := [(0, .int x2)]) hx hb dJ6_bitCount_0f7a4_23 rfl hl (by decide) rfl (fun ls hl => ?_)
  refine lv_iload_n hx hb dJ6_bitCount_0f7a4_24 rfl (lv_at hl 0 rfl) ?_
  refine lv_iload_n hx hb dJ6_bitCount_0f7a4_25 rfl (lv_at hl 0 rfl) ?_
  refine lv_iconst (v := 4) hx hb dJ6_bitCount_0f7a4_26 (by decide) ?_
  refine lv_iushr hx hb dJ6_bitCount_0f7a4_27 rfl ?_
  refine lv_iadd hx hb dJ6_bitCount_0f7a4_28 ?_
  refine lv_ldcw (v := 252645135) hx hb C.2.2.2.1 (C.2.2.2.2 _ mw_1051) dJ6_bitCount_0f7a4_29 ?_
  refine lv_iand hx hb dJ6_bitCount_0f7a4_32 ?_
  refine lv_topi (fun x3 ex3 => ?_)
  have hf := ox_lt ex3 hf
  refine lv_istore_n (lv' := [(0, .int x3)]) hx hb dJ6_bitCount_0f7a4_33 rfl hl (by decide) rfl (fun ls hl => ?_)
  refine lv_iload_n hx hb dJ6_bitCount_0f7a4_34 rfl (lv_at hl 0 rfl) ?_
  refine lv_iload_n hx hb dJ6_bitCount_0f7a4_35 rfl (lv_at hl 0 rfl) ?_
  refine lv_bipush (v := 8) hx hb dJ6_bitCount_0f7a4_36 (by decide) ?_
  refine lv_iushr hx hb dJ6_bitCount_0f7a4_38 rfl ?_
  refine lv_iadd hx hb dJ6_bitCount_0f7a4_39 ?_
  refine lv_topi (fun x4 ex4 => ?_)
  have hf := ox_lt ex4 hf
  refine lv_istore_n (lv' := [(0, .int x4)]) hx hb dJ6_bitCount_0f7a4_40 rfl hl (by decide) rfl (fun ls hl => ?_)
  refine lv_iload_n hx hb dJ6_bitCount_0f7a4_41 rfl (lv_at hl 0 rfl) ?_
  refine lv_iload_n hx hb dJ6_bitCount_0f7a4_42 rfl (lv_at hl 0 rfl) ?_
  refine lv_bipush (v := 16) hx hb dJ6_bitCount_0f7a4_43 (by decide) ?_
  refine lv_iushr hx hb dJ6_bitCount_0f7a4_45 rfl ?_
  refine lv_iadd hx hb dJ6_bitCount_0f7a4_46 ?_
  refine lv_topi (fun x5 ex5 => ?_)
  have hf := ox_lt ex5 hf
  refine lv_istore_n (lv' := [(0, .int x5)]) hx hb dJ6_bitCount_0f7a4_47 rfl hl (by decide) rfl (fun ls hl => ?_)
  refine lv_iload_n hx hb dJ6_bitCount_0f7a4_48 rfl (lv_at hl 0 rfl) ?_
  refine lv_bipush (v := 63) hx hb dJ6_bitCount_0f7a4_49 (by decide) ?_
  refine lv_iand hx hb dJ6_bitCount_0f7a4_51 ?_
  subst hf
  exact hQ _ _ dJ6_bitCount_0f7a4_52
set_option maxHeartbeats 4000000 in
set_option maxRecDepth 20000 in
theorem tX11_enough (l : Launch) (E : Ev) (a_mn : Nat → Nat) (q_mn_0_tape : Nat) (q_mn_0_spare : Nat) (q_mn_0_reader : Nat) (q_mn_0_mill : Nat) (q_mn_0_now : Nat) (q_mn_0_trial : Nat) (q_mn_0_image : Nat) (q_mn_0_steps : Nat) (q_mn_0_notes : Nat) (q_mn_0_futures : Nat) (q_mn_0_order : Nat) (q_mn_0_clapRow : Nat) (u_mn : St) (a_T : Nat → Nat → Nat) (u_T : Nat → St) (x_1 : Int32) (x_2 : Int32) (res : Int32) (hf : fX11_enough u_mn u_T x_1 x_2 = some res) : MP l E yX11_enough cX11_enough 6 (some .int) (rmm 3 76) [wMain E a_mn q_mn_0_tape (a_T 0 0) q_mn_0_spare q_mn_0_reader q_mn_0_mill q_mn_0_now q_mn_0_trial q_mn_0_image q_mn_0_steps q_mn_0_notes q_mn_0_futures q_mn_0_order q_mn_0_clapRow u_mn, wScript E (a_T 0) (a_T 1 0) (a_T 2 0) (a_T 3 0) (a_T 4 0) (a_T 5 0) (a_T 6 0) (a_T 7 0) (u_T 0), wRoll E 6 (a_T 1) (u_T 1), wRoll E 6 (a_T 2) (u_T 2), wRoll E 4 (a_T 3) (u_T 3), wRoll E 14 (a_T 4) (u_T 4), wFormula E (a_T 5) (u_T 5), wFormula E (a_T 6) (u_T 6), wFormula E (a_T 7) (u_T 7)] [.ref (a_mn 0), .int x_1, .int x_2] (some (.int res)) := by
  unfold fX11_enough at hf
  refine MP.ofI rfl (by decide) (Nat.le_of_ble_eq_true rfl) ?_
  intro p e R s m args below meth c ls Q hRf hRl C hP hK hN hl hQ
  have hx := C.1
  have hb := C.2.1
  have hl : lv_has ls 6 [(0, .ref (a_mn 0)), (1, .int x_1), (2, .int x_2)] := hl
  refine lv_aload_n hx hb dX11_enough_0 rfl (lv_at hl 0 rfl) ?_
  refine gf_X11_X11_told C hK (hP 0 _ rfl) dX11_enough_1 ?_
  refine gf_X11_X8_acts C hK (hP 1 _ rfl) dX11_enough_4 ?_
  refine lv_iload_n hx hb dX11_enough_7 rfl (lv_at hl 1 rfl) ?_
  refine cxVP (As := [.int x_1]) (rest := []) (st1 := [.int (fX7_has 6 (u_T 1) x_1)]) C hK (tX7_has l E 6 (a_T 1) (u_T 1) x_1 (fX7_has 6 (u_T 1) x_1) rfl) lk_X11_143 ⟨rfl, rfl⟩ (by rw [hRf, hRl]; decide) ⟨Nat.zero_le _, Nat.zero_le _⟩ (PB.sub hP [2] rfl) (fun _ _ => rfl) hN (rc_X7 hK (hP 2 _ rfl)) rfl hl.1 rfl rfl (Nat.le_of_ble_eq_true rfl) dX11_enough_8 ?_
  refine lv_if_eq (tgt := 25) hx hb dX11_enough_11 (by decide) (fun c1 => ?_) (fun c1 => ?_)
  · have hf := (if_pos c1).symm.trans hf
    refine lv_iconst (v := (-1)) hx hb dX11_enough_25 (by decide) ?_
    have hf := Option.some.inj hf
    subst hf
    exact hQ _ _ dX11_enough_26
  · have hf := (if_neg c1).symm.trans hf
    refine lv_iload_n hx hb dX11_enough_14 rfl (lv_at hl 2 rfl) ?_
    refine lv_iconst (v := 1) hx hb dX11_enough_15 (by decide) ?_
    refine lv_icmp_lt (tgt := 25) hx hb dX11_enough_16 (by decide) (fun c2 => ?_) (fun c2 => ?_)
    · have hf := (if_pos c2).symm.trans hf
      refine lv_iconst (v := (-1)) hx hb dX11_enough_25 (by decide) ?_
      have hf := Option.some.inj hf
      subst hf
      exact hQ _ _ dX11_enough_26
    · have hf := (if_neg c2).symm.trans hf
      refine lv_iload_n hx hb dX11_enough_19 rfl (lv_at hl 2 rfl) ?_
      refine lv_bipush (v := 99) hx hb dX11_enough_20 (by decide) ?_
      refine lv_icmp_le (tgt := 27) hx hb dX11_enough_22 (by decide) (fun c3 => ?_) (fun c3 => ?_)
      · have hf := (if_pos c3).symm.trans hf
        refine lv_bipush (v := (-2)) hx hb dX11_enough_27 (by decide) ?_
        refine lv_istore_n (lv' := [(3, .int (-2 : Int32)), (0, .ref (a_mn 0)), (1, .int x_1), (2, .int x_2)]) hx hb dX11_enough_29 rfl hl (by decide) rfl (fun ls hl => ?_)
        refine lv_iconst (v := 1) hx hb dX11_enough_30 (by decide) ?_
        refine lv_istore (lv' := [(4, .int (1 : Int32)), (3, .int (-2 : Int32)), (0, .ref (a_mn 0)), (1, .int x_1), (2, .int x_2)]) hx hb dX11_enough_31 hl (by decide) rfl (fun ls hl => ?_)
        obtain ⟨X1, hX1, hf⟩ := ox_bind hf
        have hexit1 : ∀ y18, y18 = X1 → ∀ (ls : Array Slot), lv_has ls 6 [(3, .int y18)] → W p l e R s m args below meth c s.heap [] 0 0 Q (F0 m 100 ls []) := by
          intro y18 hy ls hl
          subst hy
          refine lv_iload_n hx hb dX11_enough_100 rfl (lv_at hl 0 rfl) ?_
          have hf := Option.some.inj hf
          subst hf
          exact hQ _ _ dX11_enough_101
        have hloop1 : ∀ (nf : Nat) (x4 : Int32) (x5 : Int32) (ls : Array Slot), lv_has ls 6 [(0, .ref (a_mn 0)), (1, .int x_1), (2, .int x_2), (3, .int x4), (4, .int x5)] → fX11_enough_L1 u_mn u_T x_1 x_2 nf x4 x5 = some X1 → W p l e R s m args below meth c s.heap [] 0 0 Q (F0 m 33 ls []) := by
          intro nf
          induction nf with
          | zero =>
            intro x4 x5 ls hl hf
            simp [fX11_enough_L1] at hf
          | succ nf ih =>
            intro x4 x5 ls hl hf
            rw [fX11_enough_L1] at hf
            refine lv_iload hx hb dX11_enough_33 (lv_at hl 4 rfl) ?_
            refine lv_iconst (v := 1) hx hb dX11_enough_35 (by decide) ?_
            refine lv_aload_n hx hb dX11_enough_36 rfl (lv_at hl 0 rfl) ?_
            refine gf_X11_X11_told C hK (hP 0 _ rfl) dX11_enough_37 ?_
            refine gf_X11_X8_guests C hK (hP 1 _ rfl) dX11_enough_40 ?_
            refine gf_X11_X7_size C hK (hP 3 _ rfl) dX11_enough_43 ?_
            refine lv_ishl hx hb dX11_enough_46 ?_
            refine lv_icmp_ge (tgt := 100) hx hb dX11_enough_47 (by decide) (fun c6 => ?_) (fun c6 => ?_)
            · have hf := (if_pos c6).symm.trans hf
              exact hexit1 _ (Option.some.inj hf) ls (lv_sub hl [3] rfl)
            · have hf := (if_neg c6).symm.trans hf
              refine lv_iload_n hx hb dX11_enough_50 rfl (lv_at hl 3 rfl) ?_
              refine lv_bipush (v := (-2)) hx hb dX11_enough_51 (by decide) ?_
              obtain ⟨j8, ej8, hf⟩ := ox_ex hf
              have hj8 : ∀ (x7 : Int32) (ls : Array Slot), lv_has ls 6 [(0, .ref (a_mn 0)), (1, .int x_1), (2, .int x_2), (3, .int x4), (4, .int x5)] → j8 x7 = some X1 → W p l e R s m args below meth c s.heap [] 0 0 Q (F0 m 73 ls [.int x7]) := by
                intro x7 ls hl hf
                have hf := ox_a1 ej8 hf
                refine lv_istore (lv' := [(5, .int x7), (0, .ref (a_mn 0)), (1, .int x_1), (2, .int x_2), (3, .int x4), (4, .int x5)]) hx hb dX11_enough_73 hl (by decide) rfl (fun ls hl => ?_)
                refine lv_iload hx hb dX11_enough_75 (lv_at hl 0 rfl) ?_
                obtain ⟨j10, ej10, hf⟩ := ox_ex hf
                have hj10 : ∀ (x9 : Int32) (ls : Array Slot), lv_has ls 6 [(0, .ref (a_mn 0)), (1, .int x_1), (2, .int x_2), (3, .int x9), (4, .int x5)] → j10 x9 = some X1 → W p l e R s m args below meth c s.heap [] 0 0 Q (F0 m 94 ls []) := by
                  intro x9 ls hl hf
                  have hf := ox_a1 ej10 hf
                  obtain ⟨x11, ex11⟩ : ∃ z : Int32, z = (x5 + 1) := ⟨_, rfl⟩
                  have hf := ox_lt ex11 hf
                  refine lv_iinc (v := x11) (lv' := [(4, .int x11), (0, .ref (a_mn 0)), (1, .int x_1), (2, .int x_2), (3, .int x9)]) hx hb dX11_enough_94 hl (k := 4) rfl (by rw [ex11]; rfl) (by decide) rfl (fun ls hl => ?_)
                  refine lv_goto (tgt := 33) hx hb dX11_enough_97 (by decide) ?_
                  exact ih _ _ ls (lv_sub hl [1, 2, 3, 4, 0] rfl) hf
                refine lv_if_eq (tgt := 94) hx hb dX11_enough_77 (by decide) (fun c12 => ?_) (fun c12 => ?_)
                · have hf := (if_pos c12).symm.trans hf
                  exact hj10 _ ls (lv_sub hl [1, 2, 3, 4, 5] rfl) hf
                · have hf := (if_neg c12).symm.trans hf
                  refine lv_aload_n hx hb dX11_enough_80 rfl (lv_at hl 1 rfl) ?_
                  refine lv_iload_n hx hb dX11_enough_81 rfl (lv_at hl 2 rfl) ?_
                  refine lv_iload hx hb dX11_enough_82 (lv_at hl 5 rfl) ?_
                  obtain ⟨r13, hr13, hf⟩ := ox_bind hf
                  refine cxVP (As := [.int x_1, .int x5]) (rest := []) (st1 := [.int r13]) C hK (tX11_sumOf l E a_mn q_mn_0_tape q_mn_0_spare q_mn_0_reader q_mn_0_mill q_mn_0_now q_mn_0_trial q_mn_0_image q_mn_0_steps q_mn_0_notes q_mn_0_futures q_mn_0_order q_mn_0_clapRow u_mn a_T u_T x_1 x5 r13 hr13) lk_X11_345 ⟨rfl, rfl⟩ (by rw [hRf, hRl]; decide) ⟨Nat.zero_le _, Nat.zero_le _⟩ (PB.sub hP [0, 1, 2, 3, 4, 5, 6, 7, 8] rfl) (fun _ _ => rfl) hN (rc_X11 hK (hP 0 _ rfl)) rfl hl.1 rfl rfl (Nat.le_of_ble_eq_true rfl) dX11_enough_84 ?_
                  refine lv_iload_n hx hb dX11_enough_87 rfl (lv_at hl 3 rfl) ?_
                  refine lv_icmp_lt (tgt := 94) hx hb dX11_enough_88 (by decide) (fun c14 => ?_) (fun c14 => ?_)
                  · have hf := (if_pos c14).symm.trans hf
                    exact hj10 _ ls (lv_sub hl [1, 2, 3, 4, 5] rfl) hf
                  · have hf := (if_neg c14).symm.trans hf
                    refine lv_iload hx hb dX11_enough_91 (lv_at hl 5 rfl) ?_
                    refine lv_istore_n (lv' := [(3, .int x5), (5, .int x7), (0, .ref (a_mn 0)), (1, .int x_1), (2, .int x_2), (4, .int x5)]) hx hb dX11_enough_93 rfl hl (by decide) rfl (fun ls hl => ?_)
                    exact hj10 _ ls (lv_sub hl [2, 3, 4, 0, 5] rfl) hf
              obtain ⟨j15, ej15, hf⟩ := ox_ex hf
              have hj15 : ∀ (ls : Array Slot), lv_has ls 6 [(0, .ref (a_mn 0)), (1, .int x_1), (2, .int x_2), (3, .int x4), (4, .int x5)] → j15 = some X1 → W p l e R s m args below meth c s.heap [] 0 0 Q (F0 m 68 ls []) := by
                intro ls hl hf
                have hf := ox_a0 ej15 hf
                refine lv_iconst (v := 1) hx hb dX11_enough_68 (by decide) ?_
                refine lv_goto (tgt := 73) hx hb dX11_enough_69 (by decide) ?_
                exact hj8 _ ls (lv_sub hl [0, 1, 2, 3, 4] rfl) hf
              refine lv_icmp_eq (tgt := 68) hx hb dX11_enough_53 (by decide) (fun c16 => ?_) (fun c16 => ?_)
              · have hf := (if_pos c16).symm.trans hf
                exact hj15 ls (lv_sub hl [0, 1, 2, 3, 4] rfl) hf
              · have hf := (if_neg c16).symm.trans hf
                refine lv_iload hx hb dX11_enough_56 (lv_at hl 4 rfl) ?_
                refine cxSP (As := [.int x5]) (rest := []) (st1 := [.int (fJ6_bitCount_0f7a4 x5)]) C hK (tJ6_bitCount_0f7a4 l E x5 (fJ6_bitCount_0f7a4 x5) rfl) lk_X11_342 ⟨rfl, rfl⟩ (by rw [hRf, hRl]; decide) ⟨Nat.zero_le _, Nat.zero_le _⟩ (PB.sub hP [] rfl) (fun _ _ => rfl) hN rfl hl.1 rfl rfl (Nat.le_of_ble_eq_true rfl) dX11_enough_58 ?_
                refine lv_iload_n hx hb dX11_enough_61 rfl (lv_at hl 3 rfl) ?_
                refine cxSP (As := [.int x4]) (rest := [.int (fJ6_bitCount_0f7a4 x5)]) (st1 := [.int (fJ6_bitCount_0f7a4 x4), .int (fJ6_bitCount_0f7a4 x5)]) C hK (tJ6_bitCount_0f7a4 l E x4 (fJ6_bitCount_0f7a4 x4) rfl) lk_X11_342 ⟨rfl, rfl⟩ (by rw [hRf, hRl]; decide) ⟨Nat.zero_le _, Nat.zero_le _⟩ (PB.sub hP [] rfl) (fun _ _ => rfl) hN rfl hl.1 rfl rfl (Nat.le_of_ble_eq_true rfl) dX11_enough_62 ?_
                refine lv_icmp_ge (tgt := 72) hx hb dX11_enough_65 (by decide) (fun c17 => ?_) (fun c17 => ?_)
                · have hf := (if_pos c17).symm.trans hf
                  refine lv_iconst (v := 0) hx hb dX11_enough_72 (by decide) ?_
                  exact hj8 _ ls (lv_sub hl [0, 1, 2, 3, 4] rfl) hf
                · have hf := (if_neg c17).symm.trans hf
                  exact hj15 ls (lv_sub hl [0, 1, 2, 3, 4] rfl) hf
        exact hloop1 fuel _ _ ls (lv_sub hl [2, 3, 4, 1, 0] rfl) hX1
      · have hf := (if_neg c3).symm.trans hf
        refine lv_iconst (v := (-1)) hx hb dX11_enough_25 (by decide) ?_
        have hf := Option.some.inj hf
        subst hf
        exact hQ _ _ dX11_enough_26
set_option maxHeartbeats 4000000 in
set_option maxRecDepth 20000 in
theorem tX11_span (l : Launch) (E : Ev) (a_mn : Nat → Nat) (q_mn_0_tape : Nat) (q_mn_0_spare : Nat) (q_mn_0_reader : Nat) (q_mn_0_trial : Nat) (q_mn_0_image : Nat) (q_mn_0_steps : Nat) (q_mn_0_notes : Nat) (q_mn_0_futures : Nat) (q_mn_0_order : Nat) (q_mn_0_clapRow : Nat) (u_mn : St) (a_ml : Nat → Nat) (q_ml_0_names : Nat) (q_ml_0_script : Nat) (u_ml : St) (a_now : Nat → Nat) (u_now : St) (a_T : Nat → Nat → Nat) (u_T : Nat → St) (x_1 : Int32) (res : Int32 × St) (hf : fX11_span u_mn u_ml u_now u_T x_1 = some res) : MX l E yX11_span cX11_span 4 (some .int) (rmm 2 45) [wMain E a_mn q_mn_0_tape (a_T 0 0) q_mn_0_spare q_mn_0_reader (a_ml 0) (a_now 0) q_mn_0_trial q_mn_0_image q_mn_0_steps q_mn_0_notes q_mn_0_futures q_mn_0_order q_mn_0_clapRow u_mn, wMill E a_ml q_ml_0_names q_ml_0_script u_ml, wHall E a_now u_now, wScript E (a_T 0) (a_T 1 0) (a_T 2 0) (a_T 3 0) (a_T 4 0) (a_T 5 0) (a_T 6 0) (a_T 7 0) (u_T 0), wRoll E 6 (a_T 1) (u_T 1), wRoll E 6 (a_T 2) (u_T 2), wRoll E 4 (a_T 3) (u_T 3), wRoll E 14 (a_T 4) (u_T 4), wFormula E (a_T 5) (u_T 5), wFormula E (a_T 6) (u_T 6), wFormula E (a_T 7) (u_T 7)] (fun q => [wMain E a_mn q_mn_0_tape (a_T 0 0) q_mn_0_spare q_mn_0_reader (a_ml 0) (a_now 0) q_mn_0_trial q_mn_0_image q_mn_0_steps q_mn_0_notes q_mn_0_futures q_mn_0_order q_mn_0_clapRow u_mn, wMill E a_ml q_ml_0_names (q 0) res.2, wHall E a_now u_now, wScript E (a_T 0) (a_T 1 0) (a_T 2 0) (a_T 3 0) (a_T 4 0) (a_T 5 0) (a_T 6 0) (a_T 7 0) (u_T 0), wRoll E 6 (a_T 1) (u_T 1), wRoll E 6 (a_T 2) (u_T 2), wRoll E 4 (a_T 3) (u_T 3), wRoll E 14 (a_T 4) (u_T 4), wFormula E (a_T 5) (u_T 5), wFormula E (a_T 6) (u_T 6), wFormula E (a_T 7) (u_T 7)]) [.ref (a_mn 0), .int x_1] (some (.int res.1)) := by
  unfold fX11_span at hf
  refine MX.ofI rfl (by decide) (Nat.le_of_ble_eq_true rfl) ?_
  intro p e R s m args below meth c ls Q ad H hRf hRl C hB hD hK hN hl hQ
  generalize hlocs : ([] : List Loc) = locs at hB ⊢
  clear hlocs
  have hx := C.1
  have hb := C.2.1
  have hl : lv_has ls 4 [(0, .ref (a_mn 0)), (1, .int x_1)] := hl
  refine lv_aload_n hx hb dX11_span_0 rfl (lv_at hl 0 rfl) ?_
  refine gf_X11_X11_told C hK (hB.1 0 _ rfl) dX11_span_1 ?_
  refine gf_X11_X8_grains C hK (hB.1 3 _ rfl) dX11_span_4 ?_
  refine lv_iload_n hx hb dX11_span_7 rfl (lv_at hl 1 rfl) ?_
  refine cxVP (As := [.int x_1]) (rest := []) (st1 := [.int (fX7_has 4 (u_T 3) x_1)]) C hK (tX7_has l E 4 (a_T 3) (u_T 3) x_1 (fX7_has 4 (u_T 3) x_1) rfl) lk_X11_143 ⟨rfl, rfl⟩ (by rw [hRf, hRl]; decide) ⟨Nat.zero_le _, Nat.zero_le _⟩ (PB.sub hB.1 [6] rfl) (hB.old hD hN) (Nat.le_trans hN hB.2.2.1) (rc_X7 hK (hB.1 6 _ rfl)) rfl hl.1 rfl rfl (Nat.le_of_ble_eq_true rfl) dX11_span_8 ?_
  refine lv_if_ne (tgt := 16) hx hb dX11_span_11 (by decide) (fun c1 => ?_) (fun c1 => ?_)
  · have hf := (if_neg c1).symm.trans hf
    refine lv_aload_n hx hb dX11_span_16 rfl (lv_at hl 0 rfl) ?_
    refine gf_X11_X11_mill C hK (hB.1 0 _ rfl) dX11_span_17 ?_
    refine lv_aload_n hx hb dX11_span_20 rfl (lv_at hl 0 rfl) ?_
    refine gf_X11_X11_told C hK (hB.1 0 _ rfl) dX11_span_21 ?_
    obtain ⟨r2, er2, hf⟩ := ox_ex hf
    refine cxVX (bs1 := (fun q => [wMain E a_mn q_mn_0_tape (a_T 0 0) q_mn_0_spare q_mn_0_reader (a_ml 0) (a_now 0) q_mn_0_trial q_mn_0_image q_mn_0_steps q_mn_0_notes q_mn_0_futures q_mn_0_order q_mn_0_clapRow u_mn, wMill E a_ml q_ml_0_names (a_T 0 0) r2, wHall E a_now u_now, wScript E (a_T 0) (a_T 1 0) (a_T 2 0) (a_T 3 0) (a_T 4 0) (a_T 5 0) (a_T 6 0) (a_T 7 0) (u_T 0), wRoll E 6 (a_T 1) (u_T 1), wRoll E 6 (a_T 2) (u_T 2), wRoll E 4 (a_T 3) (u_T 3), wRoll E 14 (a_T 4) (u_T 4), wFormula E (a_T 5) (u_T 5), wFormula E (a_T 6) (u_T 6), wFormula E (a_T 7) (u_T 7)])) (As := [.ref (a_T 0 0)]) (rest := []) (st1 := []) C hK (tX2_asItGoes l E a_ml q_ml_0_names q_ml_0_script u_ml (a_T 0 0) r2 er2.symm) lk_X11_198 (by rw [hRf, hRl]; decide) ⟨Nat.zero_le _, Nat.zero_le _⟩ hB hD hN [1] (by decide) rfl (fun _ => rfl) (fun _ => rfl) (rc_X2 hK (hB.1 1 _ rfl)) rfl hl.1 rfl rfl (Nat.le_of_ble_eq_true rfl) dX11_span_24 (fun H locs q3 hB => ?_)
    have hB : WB E ad s.heap [wMain E a_mn q_mn_0_tape (a_T 0 0) q_mn_0_spare q_mn_0_reader (a_ml 0) (a_now 0) q_mn_0_trial q_mn_0_image q_mn_0_steps q_mn_0_notes q_mn_0_futures q_mn_0_order q_mn_0_clapRow u_mn, wMill E a_ml q_ml_0_names (a_T 0 0) r2, wHall E a_now u_now, wScript E (a_T 0) (a_T 1 0) (a_T 2 0) (a_T 3 0) (a_T 4 0) (a_T 5 0) (a_T 6 0) (a_T 7 0) (u_T 0), wRoll E 6 (a_T 1) (u_T 1), wRoll E 6 (a_T 2) (u_T 2), wRoll E 4 (a_T 3) (u_T 3), wRoll E 14 (a_T 4) (u_T 4), wFormula E (a_T 5) (u_T 5), wFormula E (a_T 6) (u_T 6), wFormula E (a_T 7) (u_T 7)] H locs := hB
    refine lv_iconst (v := 0) hx hb dX11_span_27 (by decide) ?_
    refine lv_istore_n (lv' := [(2, .int (0 : Int32)), (0, .ref (a_mn 0)), (1, .int x_1)]) hx hb dX11_span_28 rfl hl (by decide) rfl (fun ls hl => ?_)
    refine lv_iconst (v := 1) hx hb dX11_span_29 (by decide) ?_
    refine lv_istore_n (lv' := [(3, .int (1 : Int32)), (2, .int (0 : Int32)), (0, .ref (a_mn 0)), (1, .int x_1)]) hx hb dX11_span_30 rfl hl (by decide) rfl (fun ls hl => ?_)
    obtain ⟨X1, hX1, hf⟩ := ox_bind hf
    have hexit1 : ∀ y13, y13 = X1 → ∀ (ls : Array Slot) (H : Heap) (locs : List Loc), lv_has ls 4 [(2, .int y13)] → WB E ad s.heap [wMain E a_mn q_mn_0_tape (a_T 0 0) q_mn_0_spare q_mn_0_reader (a_ml 0) (a_now 0) q_mn_0_trial q_mn_0_image q_mn_0_steps q_mn_0_notes q_mn_0_futures q_mn_0_order q_mn_0_clapRow u_mn, wMill E a_ml q_ml_0_names (a_T 0 0) r2, wHall E a_now u_now, wScript E (a_T 0) (a_T 1 0) (a_T 2 0) (a_T 3 0) (a_T 4 0) (a_T 5 0) (a_T 6 0) (a_T 7 0) (u_T 0), wRoll E 6 (a_T 1) (u_T 1), wRoll E 6 (a_T 2) (u_T 2), wRoll E 4 (a_T 3) (u_T 3), wRoll E 14 (a_T 4) (u_T 4), wFormula E (a_T 5) (u_T 5), wFormula E (a_T 6) (u_T 6), wFormula E (a_T 7) (u_T 7)] H locs → W p l e R s m args below meth c H locs 0 0 Q (F0 m 62 ls []) := by
      intro y13 hy ls H locs hl hB
      subst hy
      refine lv_iload_n hx hb dX11_span_62 rfl (lv_at hl 0 rfl) ?_
      have hf := Option.some.inj hf
      subst hf
      exact hQ _ _ H locs (fun j => if j = 0 then (a_T 0 0) else 0) hB dX11_span_63
    have hloop1 : ∀ (nf : Nat) (x4 : Int32) (x5 : Int32) (ls : Array Slot) (H : Heap) (locs : List Loc), lv_has ls 4 [(0, .ref (a_mn 0)), (1, .int x_1), (2, .int x4), (3, .int x5)] → WB E ad s.heap [wMain E a_mn q_mn_0_tape (a_T 0 0) q_mn_0_spare q_mn_0_reader (a_ml 0) (a_now 0) q_mn_0_trial q_mn_0_image q_mn_0_steps q_mn_0_notes q_mn_0_futures q_mn_0_order q_mn_0_clapRow u_mn, wMill E a_ml q_ml_0_names (a_T 0 0) r2, wHall E a_now u_now, wScript E (a_T 0) (a_T 1 0) (a_T 2 0) (a_T 3 0) (a_T 4 0) (a_T 5 0) (a_T 6 0) (a_T 7 0) (u_T 0), wRoll E 6 (a_T 1) (u_T 1), wRoll E 6 (a_T 2) (u_T 2), wRoll E 4 (a_T 3) (u_T 3), wRoll E 14 (a_T 4) (u_T 4), wFormula E (a_T 5) (u_T 5), wFormula E (a_T 6) (u_T 6), wFormula E (a_T 7) (u_T 7)] H locs → fX11_span_L1 u_now u_T x_1 r2 nf x4 x5 = some X1 → W p l e R s m args below meth c H locs 0 0 Q (F0 m 31 ls []) := by
      intro nf
      induction nf with
      | zero =>
        intro x4 x5 ls H locs hl hB hf
        simp [fX11_span_L1] at hf
      | succ nf ih =>
        intro x4 x5 ls H locs hl hB hf
        rw [fX11_span_L1] at hf
        refine lv_iload_n hx hb dX11_span_31 rfl (lv_at hl 3 rfl) ?_
        refine lv_bipush (v := 99) hx hb dX11_span_32 (by decide) ?_
        refine lv_icmp_gt (tgt := 62) hx hb dX11_span_34 (by decide) (fun c6 => ?_) (fun c6 => ?_)
        · have hf := (if_pos c6).symm.trans hf
          exact hexit1 _ (Option.some.inj hf) ls H locs (lv_sub hl [2] rfl) hB
        · have hf := (if_neg c6).symm.trans hf
          refine lv_aload_n hx hb dX11_span_37 rfl (lv_at hl 0 rfl) ?_
          refine gf_X11_X11_mill C hK (hB.1 0 _ rfl) dX11_span_38 ?_
          refine lv_aload_n hx hb dX11_span_41 rfl (lv_at hl 0 rfl) ?_
          refine gf_X11_X11_now C hK (hB.1 0 _ rfl) dX11_span_42 ?_
          refine lv_iload_n hx hb dX11_span_45 rfl (lv_at hl 3 rfl) ?_
          obtain ⟨r7, hr7, hf⟩ := ox_bind hf
          refine cxVP (As := [.ref (a_now 0), .int x5]) (rest := []) (st1 := [.int r7]) C hK (tX2_grainAt l E a_ml q_ml_0_names r2 a_T u_T a_now u_now x5 r7 hr7) lk_X11_351 ⟨rfl, rfl⟩ (by rw [hRf, hRl]; decide) ⟨Nat.zero_le _, Nat.zero_le _⟩ (PB.sub hB.1 [1, 3, 4, 5, 6, 7, 8, 9, 10, 2] rfl) (hB.old hD hN) (Nat.le_trans hN hB.2.2.1) (rc_X2 hK (hB.1 1 _ rfl)) rfl hl.1 rfl rfl (Nat.le_of_ble_eq_true rfl) dX11_span_46 ?_
          refine lv_iload_n hx hb dX11_span_49 rfl (lv_at hl 1 rfl) ?_
          obtain ⟨j9, ej9, hf⟩ := ox_ex hf
          have hj9 : ∀ (x8 : Int32) (ls : Array Slot) (H : Heap) (locs : List Loc), lv_has ls 4 [(0, .ref (a_mn 0)), (1, .int x_1), (2, .int x8), (3, .int x5)] → WB E ad s.heap [wMain E a_mn q_mn_0_tape (a_T 0 0) q_mn_0_spare q_mn_0_reader (a_ml 0) (a_now 0) q_mn_0_trial q_mn_0_image q_mn_0_steps q_mn_0_notes q_mn_0_futures q_mn_0_order q_mn_0_clapRow u_mn, wMill E a_ml q_ml_0_names (a_T 0 0) r2, wHall E a_now u_now, wScript E (a_T 0) (a_T 1 0) (a_T 2 0) (a_T 3 0) (a_T 4 0) (a_T 5 0) (a_T 6 0) (a_T 7 0) (u_T 0), wRoll E 6 (a_T 1) (u_T 1), wRoll E 6 (a_T 2) (u_T 2), wRoll E 4 (a_T 3) (u_T 3), wRoll E 14 (a_T 4) (u_T 4), wFormula E (a_T 5) (u_T 5), wFormula E (a_T 6) (u_T 6), wFormula E (a_T 7) (u_T 7)] H locs → j9 x8 = some X1 → W p l e R s m args below meth c H locs 0 0 Q (F0 m 56 ls []) := by
            intro x8 ls H locs hl hB hf
            have hf := ox_a1 ej9 hf
            obtain ⟨x10, ex10⟩ : ∃ z : Int32, z = (x5 + 1) := ⟨_, rfl⟩
            have hf := ox_lt ex10 hf
            refine lv_iinc (v := x10) (lv' := [(3, .int x10), (0, .ref (a_mn 0)), (1, .int x_1), (2, .int x8)]) hx hb dX11_span_56 hl (k := 3) rfl (by rw [ex10]; rfl) (by decide) rfl (fun ls hl => ?_)
            refine lv_goto (tgt := 31) hx hb dX11_span_59 (by decide) ?_
            exact ih _ _ ls H locs (lv_sub hl [1, 2, 3, 0] rfl) hB hf
          refine lv_icmp_ne (tgt := 56) hx hb dX11_span_50 (by decide) (fun c11 => ?_) (fun c11 => ?_)
          · have hf := (if_neg c11).symm.trans hf
            exact hj9 _ ls H locs (lv_sub hl [0, 1, 2, 3] rfl) hB hf
          · have hf := (if_pos c11).symm.trans hf
            obtain ⟨x12, ex12⟩ : ∃ z : Int32, z = (x4 + 1) := ⟨_, rfl⟩
            have hf := ox_lt ex12 hf
            refine lv_iinc (v := x12) (lv' := [(2, .int x12), (0, .ref (a_mn 0)), (1, .int x_1), (3, .int x5)]) hx hb dX11_span_53 hl (k := 2) rfl (by rw [ex12]; rfl) (by decide) rfl (fun ls hl => ?_)
            exact hj9 _ ls H locs (lv_sub hl [1, 2, 0, 3] rfl) hB hf
    exact hloop1 fuel _ _ ls H locs (lv_sub hl [2, 3, 1, 0] rfl) hB hX1
  · have hf := (if_pos c1).symm.trans hf
    refine lv_iconst (v := (-1)) hx hb dX11_span_14 (by decide) ?_
    have hf := Option.some.inj hf
    subst hf
    exact hQ _ _ H locs (fun j => if j = 0 then q_ml_0_script else 0) hB dX11_span_15
set_option maxHeartbeats 4000000 in
set_option maxRecDepth 20000 in
theorem tX11_pushFor (l : Launch) (E : Ev) (a_mn : Nat → Nat) (q_mn_0_tape : Nat) (q_mn_0_spare : Nat) (q_mn_0_reader : Nat) (q_mn_0_image : Nat) (q_mn_0_steps : Nat) (q_mn_0_notes : Nat) (q_mn_0_futures : Nat) (q_mn_0_order : Nat) (q_mn_0_clapRow : Nat) (u_mn : St) (a_ml : Nat → Nat) (q_ml_0_script : Nat) (u_ml : St) (a_nm : Nat → Nat) (u_nm : St) (a_now : Nat → Nat) (u_now : St) (a_trial : Nat → Nat) (u_trial : St) (a_T : Nat → Nat → Nat) (u_T : Nat → St) (x_1 : Int32) (x_2 : Int32) (res : Int32 × St × St × St × (Nat → St)) (hf : fX11_pushFor u_mn u_ml u_nm u_now u_trial u_T x_1 x_2 = some res) : MX l E yX11_pushFor cX11_pushFor 4 (some .int) (rmm 6 155) [wMain E a_mn q_mn_0_tape (a_T 0 0) q_mn_0_spare q_mn_0_reader (a_ml 0) (a_now 0) (a_trial 0) q_mn_0_image q_mn_0_steps q_mn_0_notes q_mn_0_futures q_mn_0_order q_mn_0_clapRow u_mn, wMill E a_ml (a_nm 0) q_ml_0_script u_ml, wLArr E 7 a_nm u_nm, wHall E a_now u_now, wHall E a_trial u_trial, wScript E (a_T 0) (a_T 1 0) (a_T 2 0) (a_T 3 0) (a_T 4 0) (a_T 5 0) (a_T 6 0) (a_T 7 0) (u_T 0), wRoll E 6 (a_T 1) (u_T 1), wRoll E 6 (a_T 2) (u_T 2), wRoll E 4 (a_T 3) (u_T 3), wRoll E 14 (a_T 4) (u_T 4), wFormula E (a_T 5) (u_T 5), wFormula E (a_T 6) (u_T 6), wFormula E (a_T 7) (u_T 7)] (fun q => [wMain E a_mn q_mn_0_tape (a_T 0 0) q_mn_0_spare q_mn_0_reader (a_ml 0) (a_now 0) (a_trial 0) q_mn_0_image q_mn_0_steps q_mn_0_notes q_mn_0_futures q_mn_0_order q_mn_0_clapRow u_mn, wMill E a_ml (a_nm 0) (q 0) res.2.1, wLArr E 7 a_nm res.2.2.1, wHall E a_now u_now, wHall E a_trial res.2.2.2.1, wScript E (a_T 0) (a_T 1 0) (a_T 2 0) (a_T 3 0) (a_T 4 0) (a_T 5 0) (a_T 6 0) (a_T 7 0) (res.2.2.2.2 0), wRoll E 6 (a_T 1) (res.2.2.2.2 1), wRoll E 6 (a_T 2) (res.2.2.2.2 2), wRoll E 4 (a_T 3) (res.2.2.2.2 3), wRoll E 14 (a_T 4) (res.2.2.2.2 4), wFormula E (a_T 5) (res.2.2.2.2 5), wFormula E (a_T 6) (res.2.2.2.2 6), wFormula E (a_T 7) (res.2.2.2.2 7)]) [.ref (a_mn 0), .int x_1, .int x_2] (some (.int res.1)) := by
  unfold fX11_pushFor at hf
  refine MX.ofI rfl (by decide) (Nat.le_of_ble_eq_true rfl) ?_
  intro p e R s m args below meth c ls Q ad H hRf hRl C hB hD hK hN hl hQ
  generalize hlocs : ([] : List Loc) = locs at hB ⊢
  clear hlocs
  have hx := C.1
  have hb := C.2.1
  have hl : lv_has ls 4 [(0, .ref (a_mn 0)), (1, .int x_1), (2, .int x_2)] := hl
  refine lv_iload_n hx hb dX11_pushFor_0 rfl (lv_at hl 1 rfl) ?_
  refine lv_if_lt (tgt := 21) hx hb dX11_pushFor_1 (by decide) (fun c1 => ?_) (fun c1 => ?_)
  · have hf := (if_pos c1).symm.trans hf
    refine lv_iconst (v := (-1)) hx hb dX11_pushFor_21 (by decide) ?_
    have hf := Option.some.inj hf
    subst hf
    exact hQ _ _ H locs (fun j => if j = 0 then q_ml_0_script else 0) hB dX11_pushFor_22
  · have hf := (if_neg c1).symm.trans hf
    refine lv_iload_n hx hb dX11_pushFor_4 rfl (lv_at hl 1 rfl) ?_
    refine lv_bipush (v := 60) hx hb dX11_pushFor_5 (by decide) ?_
    refine lv_icmp_gt (tgt := 21) hx hb dX11_pushFor_7 (by decide) (fun c2 => ?_) (fun c2 => ?_)
    · have hf := (if_pos c2).symm.trans hf
      refine lv_iconst (v := (-1)) hx hb dX11_pushFor_21 (by decide) ?_
      have hf := Option.some.inj hf
      subst hf
      exact hQ _ _ H locs (fun j => if j = 0 then q_ml_0_script else 0) hB dX11_pushFor_22
    · have hf := (if_neg c2).symm.trans hf
      refine lv_iload_n hx hb dX11_pushFor_10 rfl (lv_at hl 2 rfl) ?_
      refine lv_iconst (v := 1) hx hb dX11_pushFor_11 (by decide) ?_
      refine lv_icmp_lt (tgt := 21) hx hb dX11_pushFor_12 (by decide) (fun c3 => ?_) (fun c3 => ?_)
      · have hf := (if_pos c3).symm.trans hf
        refine lv_iconst (v := (-1)) hx hb dX11_pushFor_21 (by decide) ?_
        have hf := Option.some.inj hf
        subst hf
        exact hQ _ _ H locs (fun j => if j = 0 then q_ml_0_script else 0) hB dX11_pushFor_22
      · have hf := (if_neg c3).symm.trans hf
        refine lv_iload_n hx hb dX11_pushFor_15 rfl (lv_at hl 2 rfl) ?_
        refine lv_bipush (v := 99) hx hb dX11_pushFor_16 (by decide) ?_
        refine lv_icmp_le (tgt := 23) hx hb dX11_pushFor_18 (by decide) (fun c4 => ?_) (fun c4 => ?_)
        · have hf := (if_pos c4).symm.trans hf
          refine lv_iconst (v := 0) hx hb dX11_pushFor_23 (by decide) ?_
          refine lv_istore_n (lv' := [(3, .int (0 : Int32)), (0, .ref (a_mn 0)), (1, .int x_1), (2, .int x_2)]) hx hb dX11_pushFor_24 rfl hl (by decide) rfl (fun ls hl => ?_)
          obtain ⟨X1, hX1, hf⟩ := ox_bind hf
          have hexit1 : ∀ y19, .inl y19 = X1 → ∀ (ls : Array Slot) (H : Heap) (locs : List Loc) (q20 : Nat), lv_has ls 4 [] → WB E ad s.heap [wMain E a_mn q_mn_0_tape (a_T 0 0) q_mn_0_spare q_mn_0_reader (a_ml 0) (a_now 0) (a_trial 0) q_mn_0_image q_mn_0_steps q_mn_0_notes q_mn_0_futures q_mn_0_order q_mn_0_clapRow u_mn, wMill E a_ml (a_nm 0) q20 y19.1, wLArr E 7 a_nm y19.2.1, wHall E a_now u_now, wHall E a_trial y19.2.2.1, wScript E (a_T 0) (a_T 1 0) (a_T 2 0) (a_T 3 0) (a_T 4 0) (a_T 5 0) (a_T 6 0) (a_T 7 0) (y19.2.2.2 0), wRoll E 6 (a_T 1) (y19.2.2.2 1), wRoll E 6 (a_T 2) (y19.2.2.2 2), wRoll E 4 (a_T 3) (y19.2.2.2 3), wRoll E 14 (a_T 4) (y19.2.2.2 4), wFormula E (a_T 5) (y19.2.2.2 5), wFormula E (a_T 6) (y19.2.2.2 6), wFormula E (a_T 7) (y19.2.2.2 7)] H locs → W p l e R s m args below meth c H locs 0 0 Q (F0 m 82 ls []) := by
            intro y19 hy ls H locs q20 hl hB
            subst hy
            have hf := ox_inl hf
            refine lv_bipush (v := (-2)) hx hb dX11_pushFor_82 (by decide) ?_
            have hf := Option.some.inj hf
            subst hf
            exact hQ _ _ H locs (fun j => if j = 0 then q20 else 0) hB dX11_pushFor_84
          have hret1 : ∀ r, .inr r = X1 → r = res := by
            intro r hr
            subst hr
            exact Option.some.inj (ox_inr hf)
          have hloop1 : ∀ (nf : Nat) (x5 : Int32) (u6 : St) (u7 : St) (u8 : St) (u9 : Nat → St) (ls : Array Slot) (H : Heap) (locs : List Loc) (q10 : Nat), lv_has ls 4 [(0, .ref (a_mn 0)), (1, .int x_1), (2, .int x_2), (3, .int x5)] → WB E ad s.heap [wMain E a_mn q_mn_0_tape (a_T 0 0) q_mn_0_spare q_mn_0_reader (a_ml 0) (a_now 0) (a_trial 0) q_mn_0_image q_mn_0_steps q_mn_0_notes q_mn_0_futures q_mn_0_order q_mn_0_clapRow u_mn, wMill E a_ml (a_nm 0) q10 u6, wLArr E 7 a_nm u7, wHall E a_now u_now, wHall E a_trial u8, wScript E (a_T 0) (a_T 1 0) (a_T 2 0) (a_T 3 0) (a_T 4 0) (a_T 5 0) (a_T 6 0) (a_T 7 0) (u9 0), wRoll E 6 (a_T 1) (u9 1), wRoll E 6 (a_T 2) (u9 2), wRoll E 4 (a_T 3) (u9 3), wRoll E 14 (a_T 4) (u9 4), wFormula E (a_T 5) (u9 5), wFormula E (a_T 6) (u9 6), wFormula E (a_T 7) (u9 7)] H locs → fX11_pushFor_L1 u_mn u_now x_1 x_2 nf x5 u6 u7 u8 u9 = some X1 → W p l e R s m args below meth c H locs 0 0 Q (F0 m 25 ls []) := by
            intro nf
            induction nf with
            | zero =>
              intro x5 u6 u7 u8 u9 ls H locs q10 hl hB hf
              simp [fX11_pushFor_L1] at hf
            | succ nf ih =>
              intro x5 u6 u7 u8 u9 ls H locs q10 hl hB hf
              rw [fX11_pushFor_L1] at hf
              refine lv_iload_n hx hb dX11_pushFor_25 rfl (lv_at hl 3 rfl) ?_
              refine lv_bipush (v := 99) hx hb dX11_pushFor_26 (by decide) ?_
              refine lv_icmp_gt (tgt := 82) hx hb dX11_pushFor_28 (by decide) (fun c11 => ?_) (fun c11 => ?_)
              · have hf := (if_pos c11).symm.trans hf
                exact hexit1 _ (Option.some.inj hf) ls H locs q10 (lv_sub hl [] rfl) hB
              · have hf := (if_neg c11).symm.trans hf
                refine lv_aload_n hx hb dX11_pushFor_31 rfl (lv_at hl 0 rfl) ?_
                obtain ⟨r12, hr12, hf⟩ := ox_bind hf
                refine cxVX (bs1 := (fun q => [wMain E a_mn q_mn_0_tape (a_T 0 0) q_mn_0_spare q_mn_0_reader (a_ml 0) (a_now 0) (a_trial 0) q_mn_0_image q_mn_0_steps q_mn_0_notes q_mn_0_futures q_mn_0_order q_mn_0_clapRow u_mn, wMill E a_ml (a_nm 0) (a_T 0 0) r12.1, wLArr E 7 a_nm u7, wHall E a_now u_now, wHall E a_trial r12.2, wScript E (a_T 0) (a_T 1 0) (a_T 2 0) (a_T 3 0) (a_T 4 0) (a_T 5 0) (a_T 6 0) (a_T 7 0) (u9 0), wRoll E 6 (a_T 1) (u9 1), wRoll E 6 (a_T 2) (u9 2), wRoll E 4 (a_T 3) (u9 3), wRoll E 14 (a_T 4) (u9 4), wFormula E (a_T 5) (u9 5), wFormula E (a_T 6) (u9 6), wFormula E (a_T 7) (u9 7)])) (As := []) (rest := []) (st1 := []) C hK (tX11_startTrial l E a_mn q_mn_0_tape (a_T 0 0) q_mn_0_spare q_mn_0_reader q_mn_0_image q_mn_0_steps q_mn_0_notes q_mn_0_futures q_mn_0_order q_mn_0_clapRow u_mn a_ml (a_nm 0) q10 u6 a_now u_now a_trial u8 r12 hr12) lk_X11_291 (by rw [hRf, hRl]; decide) ⟨Nat.zero_le _, Nat.zero_le _⟩ hB hD hN [0, 1, 3, 4] (by decide) rfl (fun _ => rfl) (fun _ => rfl) (rc_X11 hK (hB.1 0 _ rfl)) rfl hl.1 rfl rfl (Nat.le_of_ble_eq_true rfl) dX11_pushFor_32 (fun H locs q13 hB => ?_)
                have hB : WB E ad s.heap [wMain E a_mn q_mn_0_tape (a_T 0 0) q_mn_0_spare q_mn_0_reader (a_ml 0) (a_now 0) (a_trial 0) q_mn_0_image q_mn_0_steps q_mn_0_notes q_mn_0_futures q_mn_0_order q_mn_0_clapRow u_mn, wMill E a_ml (a_nm 0) (a_T 0 0) r12.1, wLArr E 7 a_nm u7, wHall E a_now u_now, wHall E a_trial r12.2, wScript E (a_T 0) (a_T 1 0) (a_T 2 0) (a_T 3 0) (a_T 4 0) (a_T 5 0) (a_T 6 0) (a_T 7 0) (u9 0), wRoll E 6 (a_T 1) (u9 1), wRoll E 6 (a_T 2) (u9 2), wRoll E 4 (a_T 3) (u9 3), wRoll E 14 (a_T 4) (u9 4), wFormula E (a_T 5) (u9 5), wFormula E (a_T 6) (u9 6), wFormula E (a_T 7) (u9 7)] H locs := hB
                refine lv_aload_n hx hb dX11_pushFor_35 rfl (lv_at hl 0 rfl) ?_
                refine gf_X11_X11_trial C hK (hB.1 0 _ rfl) dX11_pushFor_36 ?_
                refine lv_iload_n hx hb dX11_pushFor_39 rfl (lv_at hl 3 rfl) ?_
                refine pf_X11_X1_speed C hK hB hD 4 rfl dX11_pushFor_40 (fun H locs u14 eu14 hB => ?_)
                have hf := ox_lt eu14 hf
                have hB : WB E ad s.heap [wMain E a_mn q_mn_0_tape (a_T 0 0) q_mn_0_spare q_mn_0_reader (a_ml 0) (a_now 0) (a_trial 0) q_mn_0_image q_mn_0_steps q_mn_0_notes q_mn_0_futures q_mn_0_order q_mn_0_clapRow u_mn, wMill E a_ml (a_nm 0) (a_T 0 0) r12.1, wLArr E 7 a_nm u7, wHall E a_now u_now, wHall E a_trial u14, wScript E (a_T 0) (a_T 1 0) (a_T 2 0) (a_T 3 0) (a_T 4 0) (a_T 5 0) (a_T 6 0) (a_T 7 0) (u9 0), wRoll E 6 (a_T 1) (u9 1), wRoll E 6 (a_T 2) (u9 2), wRoll E 4 (a_T 3) (u9 3), wRoll E 14 (a_T 4) (u9 4), wFormula E (a_T 5) (u9 5), wFormula E (a_T 6) (u9 6), wFormula E (a_T 7) (u9 7)] H locs := hB
                refine lv_aload_n hx hb dX11_pushFor_43 rfl (lv_at hl 0 rfl) ?_
                refine gf_X11_X11_mill C hK (hB.1 0 _ rfl) dX11_pushFor_44 ?_
                refine lv_aload_n hx hb dX11_pushFor_47 rfl (lv_at hl 0 rfl) ?_
                refine gf_X11_X11_trial C hK (hB.1 0 _ rfl) dX11_pushFor_48 ?_
                refine lv_iload_n hx hb dX11_pushFor_51 rfl (lv_at hl 1 rfl) ?_
                obtain ⟨r15, hr15, hf⟩ := ox_bind hf
                refine cxVX (bs1 := (fun q => [wMain E a_mn q_mn_0_tape (a_T 0 0) q_mn_0_spare q_mn_0_reader (a_ml 0) (a_now 0) (a_trial 0) q_mn_0_image q_mn_0_steps q_mn_0_notes q_mn_0_futures q_mn_0_order q_mn_0_clapRow u_mn, wMill E a_ml (a_nm 0) (a_T 0 0) r12.1, wLArr E 7 a_nm r15.1, wHall E a_now u_now, wHall E a_trial r15.2.2, wScript E (a_T 0) (a_T 1 0) (a_T 2 0) (a_T 3 0) (a_T 4 0) (a_T 5 0) (a_T 6 0) (a_T 7 0) (r15.2.1 0), wRoll E 6 (a_T 1) (r15.2.1 1), wRoll E 6 (a_T 2) (r15.2.1 2), wRoll E 4 (a_T 3) (r15.2.1 3), wRoll E 14 (a_T 4) (r15.2.1 4), wFormula E (a_T 5) (r15.2.1 5), wFormula E (a_T 6) (r15.2.1 6), wFormula E (a_T 7) (r15.2.1 7)])) (As := [.ref (a_trial 0), .int x_1]) (rest := []) (st1 := []) C hK (tX2_pass l E a_ml (r12.1) 7 a_nm u7 a_T u9 a_trial u14 x_1 r15 hr15) lk_X11_277 (by rw [hRf, hRl]; decide) ⟨Nat.zero_le _, Nat.zero_le _⟩ hB hD hN [1, 2, 5, 6, 7, 8, 9, 10, 11, 12, 4] (by decide) rfl (fun _ => rfl) (fun _ => rfl) (rc_X2 hK (hB.1 1 _ rfl)) rfl hl.1 rfl rfl (Nat.le_of_ble_eq_true rfl) dX11_pushFor_52 (fun H locs q16 hB => ?_)
                have hB : WB E ad s.heap [wMain E a_mn q_mn_0_tape (a_T 0 0) q_mn_0_spare q_mn_0_reader (a_ml 0) (a_now 0) (a_trial 0) q_mn_0_image q_mn_0_steps q_mn_0_notes q_mn_0_futures q_mn_0_order q_mn_0_clapRow u_mn, wMill E a_ml (a_nm 0) (a_T 0 0) r12.1, wLArr E 7 a_nm r15.1, wHall E a_now u_now, wHall E a_trial r15.2.2, wScript E (a_T 0) (a_T 1 0) (a_T 2 0) (a_T 3 0) (a_T 4 0) (a_T 5 0) (a_T 6 0) (a_T 7 0) (r15.2.1 0), wRoll E 6 (a_T 1) (r15.2.1 1), wRoll E 6 (a_T 2) (r15.2.1 2), wRoll E 4 (a_T 3) (r15.2.1 3), wRoll E 14 (a_T 4) (r15.2.1 4), wFormula E (a_T 5) (r15.2.1 5), wFormula E (a_T 6) (r15.2.1 6), wFormula E (a_T 7) (r15.2.1 7)] H locs := hB
                refine lv_aload_n hx hb dX11_pushFor_55 rfl (lv_at hl 0 rfl) ?_
                refine gf_X11_X11_trial C hK (hB.1 0 _ rfl) dX11_pushFor_56 ?_
                refine gf_X11_X1_groundInAll C hK (hB.1 4 _ rfl) dX11_pushFor_59 ?_
                refine lv_aload_n hx hb dX11_pushFor_62 rfl (lv_at hl 0 rfl) ?_
                refine gf_X11_X11_now C hK (hB.1 0 _ rfl) dX11_pushFor_63 ?_
                refine gf_X11_X1_groundInAll C hK (hB.1 3 _ rfl) dX11_pushFor_66 ?_
                refine lv_isub hx hb dX11_pushFor_69 ?_
                refine lv_iload_n hx hb dX11_pushFor_70 rfl (lv_at hl 2 rfl) ?_
                refine lv_icmp_lt (tgt := 76) hx hb dX11_pushFor_71 (by decide) (fun c17 => ?_) (fun c17 => ?_)
                · have hf := (if_pos c17).symm.trans hf
                  obtain ⟨x18, ex18⟩ : ∃ z : Int32, z = (x5 + 1) := ⟨_, rfl⟩
                  have hf := ox_lt ex18 hf
                  refine lv_iinc (v := x18) (lv' := [(3, .int x18), (0, .ref (a_mn 0)), (1, .int x_1), (2, .int x_2)]) hx hb dX11_pushFor_76 hl (k := 3) rfl (by rw [ex18]; rfl) (by decide) rfl (fun ls hl => ?_)
                  refine lv_goto (tgt := 25) hx hb dX11_pushFor_79 (by decide) ?_
                  exact ih _ _ _ _ _ ls H locs (a_T 0 0) (lv_sub hl [1, 2, 3, 0] rfl) hB hf
                · have hf := (if_neg c17).symm.trans hf
                  refine lv_iload_n hx hb dX11_pushFor_74 rfl (lv_at hl 3 rfl) ?_
                  have hf := hret1 _ (Option.some.inj hf)
                  subst hf
                  exact hQ _ _ H locs (fun j => if j = 0 then (a_T 0 0) else 0) hB dX11_pushFor_75
          exact hloop1 fuel _ _ _ _ _ ls H locs q_ml_0_script (lv_sub hl [1, 2, 3, 0] rfl) hB hX1
        · have hf := (if_neg c4).symm.trans hf
          refine lv_iconst (v := (-1)) hx hb dX11_pushFor_21 (by decide) ?_
          have hf := Option.some.inj hf
          subst hf
          exact hQ _ _ H locs (fun j => if j = 0 then q_ml_0_script else 0) hB dX11_pushFor_22
set_option maxHeartbeats 4000000 in
set_option maxRecDepth 20000 in
theorem tX11_silence (l : Launch) (E : Ev) (a_mn : Nat → Nat) (q_mn_0_tape : Nat) (q_mn_0_spare : Nat) (q_mn_0_reader : Nat) (q_mn_0_image : Nat) (q_mn_0_steps : Nat) (q_mn_0_notes : Nat) (q_mn_0_futures : Nat) (q_mn_0_order : Nat) (q_mn_0_clapRow : Nat) (u_mn : St) (a_ml : Nat → Nat) (q_ml_0_script : Nat) (u_ml : St) (a_nm : Nat → Nat) (u_nm : St) (a_now : Nat → Nat) (u_now : St) (a_trial : Nat → Nat) (u_trial : St) (a_T : Nat → Nat → Nat) (u_T : Nat → St) (x_1 : Int32) (res : Int32 × St × St × St × (Nat → St)) (hf : fX11_silence u_mn u_ml u_nm u_now u_trial u_T x_1 = some res) : MX l E yX11_silence cX11_silence 5 (some .int) (rmm 6 155) [wMain E a_mn q_mn_0_tape (a_T 0 0) q_mn_0_spare q_mn_0_reader (a_ml 0) (a_now 0) (a_trial 0) q_mn_0_image q_mn_0_steps q_mn_0_notes q_mn_0_futures q_mn_0_order q_mn_0_clapRow u_mn, wMill E a_ml (a_nm 0) q_ml_0_script u_ml, wLArr E 7 a_nm u_nm, wHall E a_now u_now, wHall E a_trial u_trial, wScript E (a_T 0) (a_T 1 0) (a_T 2 0) (a_T 3 0) (a_T 4 0) (a_T 5 0) (a_T 6 0) (a_T 7 0) (u_T 0), wRoll E 6 (a_T 1) (u_T 1), wRoll E 6 (a_T 2) (u_T 2), wRoll E 4 (a_T 3) (u_T 3), wRoll E 14 (a_T 4) (u_T 4), wFormula E (a_T 5) (u_T 5), wFormula E (a_T 6) (u_T 6), wFormula E (a_T 7) (u_T 7)] (fun q => [wMain E a_mn q_mn_0_tape (a_T 0 0) q_mn_0_spare q_mn_0_reader (a_ml 0) (a_now 0) (a_trial 0) q_mn_0_image q_mn_0_steps q_mn_0_notes q_mn_0_futures q_mn_0_order q_mn_0_clapRow u_mn, wMill E a_ml (a_nm 0) (q 0) res.2.1, wLArr E 7 a_nm res.2.2.1, wHall E a_now u_now, wHall E a_trial res.2.2.2.1, wScript E (a_T 0) (a_T 1 0) (a_T 2 0) (a_T 3 0) (a_T 4 0) (a_T 5 0) (a_T 6 0) (a_T 7 0) (res.2.2.2.2 0), wRoll E 6 (a_T 1) (res.2.2.2.2 1), wRoll E 6 (a_T 2) (res.2.2.2.2 2), wRoll E 4 (a_T 3) (res.2.2.2.2 3), wRoll E 14 (a_T 4) (res.2.2.2.2 4), wFormula E (a_T 5) (res.2.2.2.2 5), wFormula E (a_T 6) (res.2.2.2.2 6), wFormula E (a_T 7) (res.2.2.2.2 7)]) [.ref (a_mn 0), .int x_1] (some (.int res.1)) := by
  unfold fX11_silence at hf
  refine MX.ofI rfl (by decide) (Nat.le_of_ble_eq_true rfl) ?_
  intro p e R s m args below meth c ls Q ad H hRf hRl C hB hD hK hN hl hQ
  generalize hlocs : ([] : List Loc) = locs at hB ⊢
  clear hlocs
  have hx := C.1
  have hb := C.2.1
  have hl : lv_has ls 5 [(0, .ref (a_mn 0)), (1, .int x_1)] := hl
  refine lv_iload_n hx hb dX11_silence_0 rfl (lv_at hl 1 rfl) ?_
  refine lv_if_lt (tgt := 11) hx hb dX11_silence_1 (by decide) (fun c1 => ?_) (fun c1 => ?_)
  · have hf := (if_pos c1).symm.trans hf
    refine lv_iconst (v := (-1)) hx hb dX11_silence_11 (by decide) ?_
    have hf := Option.some.inj hf
    subst hf
    exact hQ _ _ H locs (fun j => if j = 0 then q_ml_0_script else 0) hB dX11_silence_12
  · have hf := (if_neg c1).symm.trans hf
    refine lv_iload_n hx hb dX11_silence_4 rfl (lv_at hl 1 rfl) ?_
    refine lv_sipush (v := 200) hx hb dX11_silence_5 (by decide) ?_
    refine lv_icmp_le (tgt := 13) hx hb dX11_silence_8 (by decide) (fun c2 => ?_) (fun c2 => ?_)
    · have hf := (if_pos c2).symm.trans hf
      refine lv_aload_n hx hb dX11_silence_13 rfl (lv_at hl 0 rfl) ?_
      obtain ⟨r3, hr3, hf⟩ := ox_bind hf
      refine cxVX (bs1 := (fun q => [wMain E a_mn q_mn_0_tape (a_T 0 0) q_mn_0_spare q_mn_0_reader (a_ml 0) (a_now 0) (a_trial 0) q_mn_0_image q_mn_0_steps q_mn_0_notes q_mn_0_futures q_mn_0_order q_mn_0_clapRow u_mn, wMill E a_ml (a_nm 0) (a_T 0 0) r3.1, wLArr E 7 a_nm u_nm, wHall E a_now u_now, wHall E a_trial r3.2, wScript E (a_T 0) (a_T 1 0) (a_T 2 0) (a_T 3 0) (a_T 4 0) (a_T 5 0) (a_T 6 0) (a_T 7 0) (u_T 0), wRoll E 6 (a_T 1) (u_T 1), wRoll E 6 (a_T 2) (u_T 2), wRoll E 4 (a_T 3) (u_T 3), wRoll E 14 (a_T 4) (u_T 4), wFormula E (a_T 5) (u_T 5), wFormula E (a_T 6) (u_T 6), wFormula E (a_T 7) (u_T 7)])) (As := []) (rest := []) (st1 := []) C hK (tX11_startTrial l E a_mn q_mn_0_tape (a_T 0 0) q_mn_0_spare q_mn_0_reader q_mn_0_image q_mn_0_steps q_mn_0_notes q_mn_0_futures q_mn_0_order q_mn_0_clapRow u_mn a_ml (a_nm 0) q_ml_0_script u_ml a_now u_now a_trial u_trial r3 hr3) lk_X11_291 (by rw [hRf, hRl]; decide) ⟨Nat.zero_le _, Nat.zero_le _⟩ hB hD hN [0, 1, 3, 4] (by decide) rfl (fun _ => rfl) (fun _ => rfl) (rc_X11 hK (hB.1 0 _ rfl)) rfl hl.1 rfl rfl (Nat.le_of_ble_eq_true rfl) dX11_silence_14 (fun H locs q4 hB => ?_)
      have hB : WB E ad s.heap [wMain E a_mn q_mn_0_tape (a_T 0 0) q_mn_0_spare q_mn_0_reader (a_ml 0) (a_now 0) (a_trial 0) q_mn_0_image q_mn_0_steps q_mn_0_notes q_mn_0_futures q_mn_0_order q_mn_0_clapRow u_mn, wMill E a_ml (a_nm 0) (a_T 0 0) r3.1, wLArr E 7 a_nm u_nm, wHall E a_now u_now, wHall E a_trial r3.2, wScript E (a_T 0) (a_T 1 0) (a_T 2 0) (a_T 3 0) (a_T 4 0) (a_T 5 0) (a_T 6 0) (a_T 7 0) (u_T 0), wRoll E 6 (a_T 1) (u_T 1), wRoll E 6 (a_T 2) (u_T 2), wRoll E 4 (a_T 3) (u_T 3), wRoll E 14 (a_T 4) (u_T 4), wFormula E (a_T 5) (u_T 5), wFormula E (a_T 6) (u_T 6), wFormula E (a_T 7) (u_T 7)] H locs := hB
      refine lv_iconst (v := 0) hx hb dX11_silence_17 (by decide) ?_
      refine lv_istore_n (lv' := [(2, .int (0 : Int32)), (0, .ref (a_mn 0)), (1, .int x_1)]) hx hb dX11_silence_18 rfl hl (by decide) rfl (fun ls hl => ?_)
      refine lv_iconst (v := 0) hx hb dX11_silence_19 (by decide) ?_
      refine lv_istore_n (lv' := [(3, .int (0 : Int32)), (2, .int (0 : Int32)), (0, .ref (a_mn 0)), (1, .int x_1)]) hx hb dX11_silence_20 rfl hl (by decide) rfl (fun ls hl => ?_)
      refine lv_iconst (v := 0) hx hb dX11_silence_21 (by decide) ?_
      refine lv_istore (lv' := [(4, .int (0 : Int32)), (3, .int (0 : Int32)), (2, .int (0 : Int32)), (0, .ref (a_mn 0)), (1, .int x_1)]) hx hb dX11_silence_22 hl (by decide) rfl (fun ls hl => ?_)
      obtain ⟨X1, hX1, hf⟩ := ox_bind hf
      have hexit1 : ∀ y18, y18 = X1 → ∀ (ls : Array Slot) (H : Heap) (locs : List Loc), lv_has ls 5 [(2, .int y18.1)] → WB E ad s.heap [wMain E a_mn q_mn_0_tape (a_T 0 0) q_mn_0_spare q_mn_0_reader (a_ml 0) (a_now 0) (a_trial 0) q_mn_0_image q_mn_0_steps q_mn_0_notes q_mn_0_futures q_mn_0_order q_mn_0_clapRow u_mn, wMill E a_ml (a_nm 0) (a_T 0 0) r3.1, wLArr E 7 a_nm y18.2.1, wHall E a_now u_now, wHall E a_trial y18.2.2.1, wScript E (a_T 0) (a_T 1 0) (a_T 2 0) (a_T 3 0) (a_T 4 0) (a_T 5 0) (a_T 6 0) (a_T 7 0) (y18.2.2.2 0), wRoll E 6 (a_T 1) (y18.2.2.2 1), wRoll E 6 (a_T 2) (y18.2.2.2 2), wRoll E 4 (a_T 3) (y18.2.2.2 3), wRoll E 14 (a_T 4) (y18.2.2.2 4), wFormula E (a_T 5) (y18.2.2.2 5), wFormula E (a_T 6) (y18.2.2.2 6), wFormula E (a_T 7) (y18.2.2.2 7)] H locs → W p l e R s m args below meth c H locs 0 0 Q (F0 m 72 ls []) := by
        intro y18 hy ls H locs hl hB
        subst hy
        refine lv_iload_n hx hb dX11_silence_72 rfl (lv_at hl 0 rfl) ?_
        have hf := Option.some.inj hf
        subst hf
        exact hQ _ _ H locs (fun j => if j = 0 then (a_T 0 0) else 0) hB dX11_silence_73
      have hloop1 : ∀ (nf : Nat) (x5 : Int32) (x6 : Int32) (x7 : Int32) (u8 : St) (u9 : St) (u10 : Nat → St) (ls : Array Slot) (H : Heap) (locs : List Loc), lv_has ls 5 [(0, .ref (a_mn 0)), (1, .int x_1), (2, .int x5), (3, .int x6), (4, .int x7)] → WB E ad s.heap [wMain E a_mn q_mn_0_tape (a_T 0 0) q_mn_0_spare q_mn_0_reader (a_ml 0) (a_now 0) (a_trial 0) q_mn_0_image q_mn_0_steps q_mn_0_notes q_mn_0_futures q_mn_0_order q_mn_0_clapRow u_mn, wMill E a_ml (a_nm 0) (a_T 0 0) r3.1, wLArr E 7 a_nm u8, wHall E a_now u_now, wHall E a_trial u9, wScript E (a_T 0) (a_T 1 0) (a_T 2 0) (a_T 3 0) (a_T 4 0) (a_T 5 0) (a_T 6 0) (a_T 7 0) (u10 0), wRoll E 6 (a_T 1) (u10 1), wRoll E 6 (a_T 2) (u10 2), wRoll E 4 (a_T 3) (u10 3), wRoll E 14 (a_T 4) (u10 4), wFormula E (a_T 5) (u10 5), wFormula E (a_T 6) (u10 6), wFormula E (a_T 7) (u10 7)] H locs → fX11_silence_L1 x_1 r3 nf x5 x6 x7 u8 u9 u10 = some X1 → W p l e R s m args below meth c H locs 0 0 Q (F0 m 24 ls []) := by
        intro nf
        induction nf with
        | zero =>
          intro x5 x6 x7 u8 u9 u10 ls H locs hl hB hf
          simp [fX11_silence_L1] at hf
        | succ nf ih =>
          intro x5 x6 x7 u8 u9 u10 ls H locs hl hB hf
          rw [fX11_silence_L1] at hf
          refine lv_iload hx hb dX11_silence_24 (lv_at hl 4 rfl) ?_
          refine lv_iload_n hx hb dX11_silence_26 rfl (lv_at hl 1 rfl) ?_
          refine lv_icmp_ge (tgt := 72) hx hb dX11_silence_27 (by decide) (fun c11 => ?_) (fun c11 => ?_)
          · have hf := (if_pos c11).symm.trans hf
            exact hexit1 _ (Option.some.inj hf) ls H locs (lv_sub hl [2] rfl) hB
          · have hf := (if_neg c11).symm.trans hf
            refine lv_aload_n hx hb dX11_silence_30 rfl (lv_at hl 0 rfl) ?_
            refine gf_X11_X11_mill C hK (hB.1 0 _ rfl) dX11_silence_31 ?_
            refine lv_aload_n hx hb dX11_silence_34 rfl (lv_at hl 0 rfl) ?_
            refine gf_X11_X11_trial C hK (hB.1 0 _ rfl) dX11_silence_35 ?_
            refine lv_iconst (v := 1) hx hb dX11_silence_38 (by decide) ?_
            obtain ⟨r12, hr12, hf⟩ := ox_bind hf
            refine cxVX (bs1 := (fun q => [wMain E a_mn q_mn_0_tape (a_T 0 0) q_mn_0_spare q_mn_0_reader (a_ml 0) (a_now 0) (a_trial 0) q_mn_0_image q_mn_0_steps q_mn_0_notes q_mn_0_futures q_mn_0_order q_mn_0_clapRow u_mn, wMill E a_ml (a_nm 0) (a_T 0 0) r3.1, wLArr E 7 a_nm r12.1, wHall E a_now u_now, wHall E a_trial r12.2.2, wScript E (a_T 0) (a_T 1 0) (a_T 2 0) (a_T 3 0) (a_T 4 0) (a_T 5 0) (a_T 6 0) (a_T 7 0) (r12.2.1 0), wRoll E 6 (a_T 1) (r12.2.1 1), wRoll E 6 (a_T 2) (r12.2.1 2), wRoll E 4 (a_T 3) (r12.2.1 3), wRoll E 14 (a_T 4) (r12.2.1 4), wFormula E (a_T 5) (r12.2.1 5), wFormula E (a_T 6) (r12.2.1 6), wFormula E (a_T 7) (r12.2.1 7)])) (As := [.ref (a_trial 0), .int (1 : Int32)]) (rest := []) (st1 := []) C hK (tX2_pass l E a_ml (r3.1) 7 a_nm u8 a_T u10 a_trial u9 (1 : Int32) r12 hr12) lk_X11_277 (by rw [hRf, hRl]; decide) ⟨Nat.zero_le _, Nat.zero_le _⟩ hB hD hN [1, 2, 5, 6, 7, 8, 9, 10, 11, 12, 4] (by decide) rfl (fun _ => rfl) (fun _ => rfl) (rc_X2 hK (hB.1 1 _ rfl)) rfl hl.1 rfl rfl (Nat.le_of_ble_eq_true rfl) dX11_silence_39 (fun H locs q13 hB => ?_)
            have hB : WB E ad s.heap [wMain E a_mn q_mn_0_tape (a_T 0 0) q_mn_0_spare q_mn_0_reader (a_ml 0) (a_now 0) (a_trial 0) q_mn_0_image q_mn_0_steps q_mn_0_notes q_mn_0_futures q_mn_0_order q_mn_0_clapRow u_mn, wMill E a_ml (a_nm 0) (a_T 0 0) r3.1, wLArr E 7 a_nm r12.1, wHall E a_now u_now, wHall E a_trial r12.2.2, wScript E (a_T 0) (a_T 1 0) (a_T 2 0) (a_T 3 0) (a_T 4 0) (a_T 5 0) (a_T 6 0) (a_T 7 0) (r12.2.1 0), wRoll E 6 (a_T 1) (r12.2.1 1), wRoll E 6 (a_T 2) (r12.2.1 2), wRoll E 4 (a_T 3) (r12.2.1 3), wRoll E 14 (a_T 4) (r12.2.1 4), wFormula E (a_T 5) (r12.2.1 5), wFormula E (a_T 6) (r12.2.1 6), wFormula E (a_T 7) (r12.2.1 7)] H locs := hB
            refine lv_aload_n hx hb dX11_silence_42 rfl (lv_at hl 0 rfl) ?_
            refine gf_X11_X11_trial C hK (hB.1 0 _ rfl) dX11_silence_43 ?_
            refine gf_X11_X1_speed C hK (hB.1 4 _ rfl) dX11_silence_46 ?_
            obtain ⟨x14, ex14, hf⟩ := ox_ex hf
            have hjx14 : W p l e R s m args below meth c H locs 0 0 Q (F0 m 59 ls [.int x14]) := by
              refine lv_istore_n (lv' := [(3, .int x14), (0, .ref (a_mn 0)), (1, .int x_1), (2, .int x5), (4, .int x7)]) hx hb dX11_silence_59 rfl hl (by decide) rfl (fun ls hl => ?_)
              refine lv_iload_n hx hb dX11_silence_60 rfl (lv_at hl 3 rfl) ?_
              refine lv_iload_n hx hb dX11_silence_61 rfl (lv_at hl 0 rfl) ?_
              refine va_mmax hx hb (C.2.2.1.trans hl.1.symm) C.2.2.2.1 (C.2.2.2.2 _ mw_1070) (C.2.2.2.2 _ mm_mmax_s) (C.2.2.2.2 _ mm_ini) (C.2.2.2.2 _ mm_mmax_c) (by rw [hRf]; decide) (by rw [hRl]; exact Nat.le_of_ble_eq_true rfl) (Nat.zero_le _) (Nat.zero_le _) dX11_silence_62 ?_
              refine lv_topi (fun x15 ex15 => ?_)
              have hf := ox_lt ex15 hf
              refine lv_istore_n (lv' := [(2, .int x15), (3, .int x14), (0, .ref (a_mn 0)), (1, .int x_1), (4, .int x7)]) hx hb dX11_silence_65 rfl hl (by decide) rfl (fun ls hl => ?_)
              obtain ⟨x16, ex16⟩ : ∃ z : Int32, z = (x7 + 1) := ⟨_, rfl⟩
              have hf := ox_lt ex16 hf
              refine lv_iinc (v := x16) (lv' := [(4, .int x16), (2, .int x15), (3, .int x14), (0, .ref (a_mn 0)), (1, .int x_1)]) hx hb dX11_silence_66 hl (k := 4) rfl (by rw [ex16]; rfl) (by decide) rfl (fun ls hl => ?_)
              refine lv_goto (tgt := 24) hx hb dX11_silence_69 (by decide) ?_
              exact ih _ _ _ _ _ _ ls H locs (lv_sub hl [3, 4, 1, 2, 0] rfl) hB hf
            refine lv_if_ne (tgt := 58) hx hb dX11_silence_49 (by decide) (fun c17 => ?_) (fun c17 => ?_)
            · refine lv_iconst (v := 0) hx hb dX11_silence_58 (by decide) ?_
              exact ox_topi ((ex14).trans (if_neg c17)).symm hjx14
            · refine lv_iload_n hx hb dX11_silence_52 rfl (lv_at hl 3 rfl) ?_
              refine lv_iconst (v := 1) hx hb dX11_silence_53 (by decide) ?_
              refine lv_iadd hx hb dX11_silence_54 ?_
              refine lv_goto (tgt := 59) hx hb dX11_silence_55 (by decide) ?_
              exact ox_topi ((ex14).trans (if_pos c17)).symm hjx14
      exact hloop1 fuel _ _ _ _ _ _ ls H locs (lv_sub hl [3, 4, 2, 1, 0] rfl) hB hX1
    · have hf := (if_neg c2).symm.trans hf
      refine lv_iconst (v := (-1)) hx hb dX11_silence_11 (by decide) ?_
      have hf := Option.some.inj hf
      subst hf
      exact hQ _ _ H locs (fun j => if j = 0 then q_ml_0_script else 0) hB dX11_silence_12
set_option maxHeartbeats 4000000 in
set_option maxRecDepth 20000 in
theorem tX11_game (l : Launch) (E : Ev) (a_mn : Nat → Nat) (q_mn_0_tape : Nat) (q_mn_0_spare : Nat) (q_mn_0_reader : Nat) (q_mn_0_mill : Nat) (q_mn_0_trial : Nat) (q_mn_0_image : Nat) (q_mn_0_steps : Nat) (q_mn_0_notes : Nat) (q_mn_0_futures : Nat) (q_mn_0_order : Nat) (q_mn_0_clapRow : Nat) (u_mn : St) (a_now : Nat → Nat) (u_now : St) (a_T : Nat → Nat → Nat) (u_T : Nat → St) (x_1 : Int32) (x_2 : Int32) (res : Int32) (hf : fX11_game u_mn u_now u_T x_1 x_2 = some res) : MP l E yX11_game cX11_game 5 (some .int) (rmm 1 21) [wMain E a_mn q_mn_0_tape (a_T 0 0) q_mn_0_spare q_mn_0_reader q_mn_0_mill (a_now 0) q_mn_0_trial q_mn_0_image q_mn_0_steps q_mn_0_notes q_mn_0_futures q_mn_0_order q_mn_0_clapRow u_mn, wHall E a_now u_now, wScript E (a_T 0) (a_T 1 0) (a_T 2 0) (a_T 3 0) (a_T 4 0) (a_T 5 0) (a_T 6 0) (a_T 7 0) (u_T 0), wRoll E 6 (a_T 1) (u_T 1), wRoll E 6 (a_T 2) (u_T 2), wRoll E 4 (a_T 3) (u_T 3), wRoll E 14 (a_T 4) (u_T 4), wFormula E (a_T 5) (u_T 5), wFormula E (a_T 6) (u_T 6), wFormula E (a_T 7) (u_T 7)] [.ref (a_mn 0), .int x_1, .int x_2] (some (.int res)) := by
  unfold fX11_game at hf
  refine MP.ofI rfl (by decide) (Nat.le_of_ble_eq_true rfl) ?_
  intro p e R s m args below meth c ls Q hRf hRl C hP hK hN hl hQ
  have hx := C.1
  have hb := C.2.1
  have hl : lv_has ls 5 [(0, .ref (a_mn 0)), (1, .int x_1), (2, .int x_2)] := hl
  refine lv_aload_n hx hb dX11_game_0 rfl (lv_at hl 0 rfl) ?_
  refine gf_X11_X11_told C hK (hP 0 _ rfl) dX11_game_1 ?_
  refine gf_X11_X8_grains C hK (hP 2 _ rfl) dX11_game_4 ?_
  refine lv_iload_n hx hb dX11_game_7 rfl (lv_at hl 1 rfl) ?_
  refine cxVP (As := [.int x_1]) (rest := []) (st1 := [.int (fX7_has 4 (u_T 3) x_1)]) C hK (tX7_has l E 4 (a_T 3) (u_T 3) x_1 (fX7_has 4 (u_T 3) x_1) rfl) lk_X11_143 ⟨rfl, rfl⟩ (by rw [hRf, hRl]; decide) ⟨Nat.zero_le _, Nat.zero_le _⟩ (PB.sub hP [5] rfl) (fun _ _ => rfl) hN (rc_X7 hK (hP 5 _ rfl)) rfl hl.1 rfl rfl (Nat.le_of_ble_eq_true rfl) dX11_game_8 ?_
  refine lv_if_eq (tgt := 23) hx hb dX11_game_11 (by decide) (fun c1 => ?_) (fun c1 => ?_)
  · have hf := (if_pos c1).symm.trans hf
    refine lv_iconst (v := (-1)) hx hb dX11_game_23 (by decide) ?_
    have hf := Option.some.inj hf
    subst hf
    exact hQ _ _ dX11_game_24
  · have hf := (if_neg c1).symm.trans hf
    refine lv_iload_n hx hb dX11_game_14 rfl (lv_at hl 2 rfl) ?_
    refine lv_if_lt (tgt := 23) hx hb dX11_game_15 (by decide) (fun c2 => ?_) (fun c2 => ?_)
    · have hf := (if_pos c2).symm.trans hf
      refine lv_iconst (v := (-1)) hx hb dX11_game_23 (by decide) ?_
      have hf := Option.some.inj hf
      subst hf
      exact hQ _ _ dX11_game_24
    · have hf := (if_neg c2).symm.trans hf
      refine lv_iload_n hx hb dX11_game_18 rfl (lv_at hl 2 rfl) ?_
      refine lv_iconst (v := 1) hx hb dX11_game_19 (by decide) ?_
      refine lv_icmp_le (tgt := 25) hx hb dX11_game_20 (by decide) (fun c3 => ?_) (fun c3 => ?_)
      · have hf := (if_pos c3).symm.trans hf
        refine lv_aload_n hx hb dX11_game_25 rfl (lv_at hl 0 rfl) ?_
        refine gf_X11_X11_told C hK (hP 0 _ rfl) dX11_game_26 ?_
        refine lv_iload_n hx hb dX11_game_29 rfl (lv_at hl 1 rfl) ?_
        obtain ⟨r4, hr4, hf⟩ := ox_bind hf
        refine cxVP (As := [.int x_1]) (rest := []) (st1 := [.int r4]) C hK (tX8_high l E a_T u_T x_1 r4 hr4) lk_X11_189 ⟨rfl, rfl⟩ (by rw [hRf, hRl]; decide) ⟨Nat.zero_le _, Nat.zero_le _⟩ (PB.sub hP [2, 3, 4, 5, 6, 7, 8, 9] rfl) (fun _ _ => rfl) hN (rc_X8 hK (hP 2 _ rfl)) rfl hl.1 rfl rfl (Nat.le_of_ble_eq_true rfl) dX11_game_30 ?_
        refine lv_aload_n hx hb dX11_game_33 rfl (lv_at hl 0 rfl) ?_
        refine gf_X11_X11_now C hK (hP 0 _ rfl) dX11_game_34 ?_
        refine gf_X11_X1_speed C hK (hP 1 _ rfl) dX11_game_37 ?_
        refine lv_isub hx hb dX11_game_40 ?_
        refine lv_topi (fun x5 ex5 => ?_)
        have hf := ox_lt ex5 hf
        refine lv_istore_n (lv' := [(3, .int x5), (0, .ref (a_mn 0)), (1, .int x_1), (2, .int x_2)]) hx hb dX11_game_41 rfl hl (by decide) rfl (fun ls hl => ?_)
        refine lv_iload_n hx hb dX11_game_42 rfl (lv_at hl 0 rfl) ?_
        obtain ⟨x6, ex6, hf⟩ := ox_ex hf
        have hjx6 : W p l e R s m args below meth c s.heap [] 0 0 Q (F0 m 53 ls [.int x6]) := by
          refine lv_istore (lv' := [(4, .int x6), (3, .int x5), (0, .ref (a_mn 0)), (1, .int x_1), (2, .int x_2)]) hx hb dX11_game_53 hl (by decide) rfl (fun ls hl => ?_)
          refine lv_iload_n hx hb dX11_game_55 rfl (lv_at hl 4 rfl) ?_
          refine lv_iconst (v := 1) hx hb dX11_game_56 (by decide) ?_
          refine lv_icmp_ne (tgt := 73) hx hb dX11_game_57 (by decide) (fun c7 => ?_) (fun c7 => ?_)
          · have hf := (if_neg c7).symm.trans hf
            refine lv_iload_n hx hb dX11_game_73 rfl (lv_at hl 1 rfl) ?_
            refine lv_if_ge (tgt := 79) hx hb dX11_game_74 (by decide) (fun c8 => ?_) (fun c8 => ?_)
            · have hf := (if_pos c8).symm.trans hf
              refine lv_iload hx hb dX11_game_79 (lv_at hl 0 rfl) ?_
              obtain ⟨x9, ex9, hf⟩ := ox_ex hf
              have hjx9 : W p l e R s m args below meth c s.heap [] 0 0 Q (F0 m 89 ls [.int x9]) := by
                have hf := Option.some.inj hf
                subst hf
                exact hQ _ _ dX11_game_89
              refine lv_if_ne (tgt := 88) hx hb dX11_game_81 (by decide) (fun c10 => ?_) (fun c10 => ?_)
              · refine lv_iconst (v := 0) hx hb dX11_game_88 (by decide) ?_
                exact ox_topi ((ex9).trans (if_neg c10)).symm hjx9
              · refine lv_iconst (v := 1) hx hb dX11_game_84 (by decide) ?_
                refine lv_goto (tgt := 89) hx hb dX11_game_85 (by decide) ?_
                exact ox_topi ((ex9).trans (if_pos c10)).symm hjx9
            · have hf := (if_neg c8).symm.trans hf
              refine lv_iconst (v := 2) hx hb dX11_game_77 (by decide) ?_
              have hf := Option.some.inj hf
              subst hf
              exact hQ _ _ dX11_game_78
          · have hf := (if_pos c7).symm.trans hf
            refine lv_iload hx hb dX11_game_60 (lv_at hl 0 rfl) ?_
            obtain ⟨x11, ex11, hf⟩ := ox_ex hf
            have hjx11 : W p l e R s m args below meth c s.heap [] 0 0 Q (F0 m 72 ls [.int x11]) := by
              have hf := Option.some.inj hf
              subst hf
              exact hQ _ _ dX11_game_72
            refine lv_if_ne (tgt := 70) hx hb dX11_game_62 (by decide) (fun c12 => ?_) (fun c12 => ?_)
            · refine lv_iload hx hb dX11_game_70 (lv_at hl 0 rfl) ?_
              exact ox_topi ((ex11).trans (if_neg c12)).symm hjx11
            · refine lv_bipush (v := (-2)) hx hb dX11_game_65 (by decide) ?_
              refine lv_goto (tgt := 72) hx hb dX11_game_67 (by decide) ?_
              exact ox_topi ((ex11).trans (if_pos c12)).symm hjx11
        refine lv_if_ge (tgt := 50) hx hb dX11_game_43 (by decide) (fun c13 => ?_) (fun c13 => ?_)
        · refine lv_iload_n hx hb dX11_game_50 rfl (lv_at hl 0 rfl) ?_
          refine lv_iconst (v := 4) hx hb dX11_game_51 (by decide) ?_
          refine lv_irem hx hb dX11_game_52 (by decide) ?_
          exact ox_topi ((ex6).trans (if_pos c13)).symm hjx6
        · refine lv_iconst (v := 0) hx hb dX11_game_46 (by decide) ?_
          refine lv_goto (tgt := 53) hx hb dX11_game_47 (by decide) ?_
          exact ox_topi ((ex6).trans (if_neg c13)).symm hjx6
      · have hf := (if_neg c3).symm.trans hf
        refine lv_iconst (v := (-1)) hx hb dX11_game_23 (by decide) ?_
        have hf := Option.some.inj hf
        subst hf
        exact hQ _ _ dX11_game_24
set_option maxHeartbeats 4000000 in
set_option maxRecDepth 20000 in
theorem tX11_gain (l : Launch) (E : Ev) (a_mn : Nat → Nat) (q_mn_0_tape : Nat) (q_mn_0_spare : Nat) (q_mn_0_reader : Nat) (q_mn_0_mill : Nat) (q_mn_0_now : Nat) (q_mn_0_trial : Nat) (q_mn_0_image : Nat) (q_mn_0_steps : Nat) (q_mn_0_notes : Nat) (q_mn_0_futures : Nat) (q_mn_0_order : Nat) (q_mn_0_clapRow : Nat) (u_mn : St) (a_T : Nat → Nat → Nat) (u_T : Nat → St) (x_1 : Int32) (x_2 : Int32) (x_3 : Int32) (x_4 : Int32) (res : Int32) (hf : fX11_gain u_mn u_T x_1 x_2 x_3 x_4 = some res) : MP l E yX11_gain cX11_gain 6 (some .int) (rmm 2 52) [wMain E a_mn q_mn_0_tape (a_T 0 0) q_mn_0_spare q_mn_0_reader q_mn_0_mill q_mn_0_now q_mn_0_trial q_mn_0_image q_mn_0_steps q_mn_0_notes q_mn_0_futures q_mn_0_order q_mn_0_clapRow u_mn, wScript E (a_T 0) (a_T 1 0) (a_T 2 0) (a_T 3 0) (a_T 4 0) (a_T 5 0) (a_T 6 0) (a_T 7 0) (u_T 0), wRoll E 6 (a_T 1) (u_T 1), wRoll E 6 (a_T 2) (u_T 2), wRoll E 4 (a_T 3) (u_T 3), wRoll E 14 (a_T 4) (u_T 4), wFormula E (a_T 5) (u_T 5), wFormula E (a_T 6) (u_T 6), wFormula E (a_T 7) (u_T 7)] [.ref (a_mn 0), .int x_1, .int x_2, .int x_3, .int x_4] (some (.int res)) := by
  unfold fX11_gain at hf
  refine MP.ofI rfl (by decide) (Nat.le_of_ble_eq_true rfl) ?_
  intro p e R s m args below meth c ls Q hRf hRl C hP hK hN hl hQ
  have hx := C.1
  have hb := C.2.1
  have hl : lv_has ls 6 [(0, .ref (a_mn 0)), (1, .int x_1), (2, .int x_2), (3, .int x_3), (4, .int x_4)] := hl
  refine lv_iload_n hx hb dX11_gain_0 rfl (lv_at hl 3 rfl) ?_
  refine lv_iconst (v := 1) hx hb dX11_gain_1 (by decide) ?_
  refine lv_icmp_ne (tgt := 16) hx hb dX11_gain_2 (by decide) (fun c1 => ?_) (fun c1 => ?_)
  · have hf := (if_neg c1).symm.trans hf
    refine lv_aload_n hx hb dX11_gain_16 rfl (lv_at hl 0 rfl) ?_
    refine gf_X11_X11_told C hK (hP 0 _ rfl) dX11_gain_17 ?_
    refine lv_iload_n hx hb dX11_gain_20 rfl (lv_at hl 1 rfl) ?_
    refine lv_iload_n hx hb dX11_gain_21 rfl (lv_at hl 2 rfl) ?_
    obtain ⟨r2, hr2, hf⟩ := ox_bind hf
    refine cxVP (As := [.int x_1, .int x_2]) (rest := []) (st1 := [.int r2]) C hK (tX8_without l E a_T u_T x_1 x_2 r2 hr2) lk_X11_348 ⟨rfl, rfl⟩ (by rw [hRf, hRl]; decide) ⟨Nat.zero_le _, Nat.zero_le _⟩ (PB.sub hP [1, 2, 3, 4, 5, 6, 7, 8] rfl) (fun _ _ => rfl) hN (rc_X8 hK (hP 1 _ rfl)) rfl hl.1 rfl rfl (Nat.le_of_ble_eq_true rfl) dX11_gain_22 ?_
    refine lv_istore (lv' := [(5, .int r2), (0, .ref (a_mn 0)), (1, .int x_1), (2, .int x_2), (3, .int x_3), (4, .int x_4)]) hx hb dX11_gain_25 hl (by decide) rfl (fun ls hl => ?_)
    refine lv_iload hx hb dX11_gain_27 (lv_at hl 5 rfl) ?_
    refine lv_if_ne (tgt := 50) hx hb dX11_gain_29 (by decide) (fun c3 => ?_) (fun c3 => ?_)
    · have hf := (if_neg c3).symm.trans hf
      refine lv_iload hx hb dX11_gain_50 (lv_at hl 0 rfl) ?_
      refine lv_aload_n hx hb dX11_gain_52 rfl (lv_at hl 1 rfl) ?_
      refine gf_X11_X11_told C hK (hP 0 _ rfl) dX11_gain_53 ?_
      refine lv_iload_n hx hb dX11_gain_56 rfl (lv_at hl 2 rfl) ?_
      obtain ⟨r4, hr4, hf⟩ := ox_bind hf
      refine cxVP (As := [.int x_1]) (rest := [.int r2]) (st1 := [.int r4, .int r2]) C hK (tX8_hunger l E a_T u_T x_1 r4 hr4) lk_X11_157 ⟨rfl, rfl⟩ (by rw [hRf, hRl]; decide) ⟨Nat.zero_le _, Nat.zero_le _⟩ (PB.sub hP [1, 2, 3, 4, 5, 6, 7, 8] rfl) (fun _ _ => rfl) hN (rc_X8 hK (hP 1 _ rfl)) rfl hl.1 rfl rfl (Nat.le_of_ble_eq_true rfl) dX11_gain_57 ?_
      refine lv_iconst (v := 2) hx hb dX11_gain_60 (by decide) ?_
      refine lv_idiv hx hb dX11_gain_61 (by decide) ?_
      refine lv_isub hx hb dX11_gain_62 ?_
      have hf := Option.some.inj hf
      subst hf
      exact hQ _ _ dX11_gain_63
    · have hf := (if_pos c3).symm.trans hf
      refine lv_iload hx hb dX11_gain_32 (lv_at hl 0 rfl) ?_
      refine lv_iconst (v := 2) hx hb dX11_gain_34 (by decide) ?_
      refine lv_iadd hx hb dX11_gain_35 ?_
      refine lv_aload_n hx hb dX11_gain_36 rfl (lv_at hl 1 rfl) ?_
      refine gf_X11_X11_told C hK (hP 0 _ rfl) dX11_gain_37 ?_
      refine lv_iload_n hx hb dX11_gain_40 rfl (lv_at hl 2 rfl) ?_
      obtain ⟨r5, hr5, hf⟩ := ox_bind hf
      refine cxVP (As := [.int x_1]) (rest := [.int (r2 + (2 : Int32))]) (st1 := [.int r5, .int (r2 + (2 : Int32))]) C hK (tX8_hunger l E a_T u_T x_1 r5 hr5) lk_X11_157 ⟨rfl, rfl⟩ (by rw [hRf, hRl]; decide) ⟨Nat.zero_le _, Nat.zero_le _⟩ (PB.sub hP [1, 2, 3, 4, 5, 6, 7, 8] rfl) (fun _ _ => rfl) hN (rc_X8 hK (hP 1 _ rfl)) rfl hl.1 rfl rfl (Nat.le_of_ble_eq_true rfl) dX11_gain_41 ?_
      refine lv_iconst (v := 3) hx hb dX11_gain_44 (by decide) ?_
      refine lv_idiv hx hb dX11_gain_45 (by decide) ?_
      refine lv_isub hx hb dX11_gain_46 ?_
      refine lv_goto (tgt := 63) hx hb dX11_gain_47 (by decide) ?_
      have hf := Option.some.inj hf
      subst hf
      exact hQ _ _ dX11_gain_63
  · have hf := (if_pos c1).symm.trans hf
    refine lv_iload hx hb dX11_gain_5 (lv_at hl 4 rfl) ?_
    obtain ⟨x6, ex6, hf⟩ := ox_ex hf
    have hjx6 : W p l e R s m args below meth c s.heap [] 0 0 Q (F0 m 15 ls [.int x6]) := by
      have hf := Option.some.inj hf
      subst hf
      exact hQ _ _ dX11_gain_15
    refine lv_if_ne (tgt := 14) hx hb dX11_gain_7 (by decide) (fun c7 => ?_) (fun c7 => ?_)
    · refine lv_iconst (v := 0) hx hb dX11_gain_14 (by decide) ?_
      exact ox_topi ((ex6).trans (if_neg c7)).symm hjx6
    · refine lv_iconst (v := 1) hx hb dX11_gain_10 (by decide) ?_
      refine lv_goto (tgt := 15) hx hb dX11_gain_11 (by decide) ?_
      exact ox_topi ((ex6).trans (if_pos c7)).symm hjx6
set_option maxHeartbeats 4000000 in
set_option maxRecDepth 20000 in
theorem tX11_isRest (l : Launch) (E : Ev) (a_mn : Nat → Nat) (q_mn_0_tape : Nat) (q_mn_0_spare : Nat) (q_mn_0_reader : Nat) (q_mn_0_mill : Nat) (q_mn_0_now : Nat) (q_mn_0_trial : Nat) (q_mn_0_image : Nat) (q_mn_0_steps : Nat) (q_mn_0_notes : Nat) (q_mn_0_futures : Nat) (q_mn_0_order : Nat) (q_mn_0_clapRow : Nat) (u_mn : St) (a_T : Nat → Nat → Nat) (u_T : Nat → St) (x_1 : Int32) (x_2 : Int32) (x_3 : Int32) (x_4 : Int32) (res : Int32) (hf : fX11_isRest u_mn u_T x_1 x_2 x_3 x_4 = some res) : MP l E yX11_isRest cX11_isRest 7 (some .boolean) (rmm 3 77) [wMain E a_mn q_mn_0_tape (a_T 0 0) q_mn_0_spare q_mn_0_reader q_mn_0_mill q_mn_0_now q_mn_0_trial q_mn_0_image q_mn_0_steps q_mn_0_notes q_mn_0_futures q_mn_0_order q_mn_0_clapRow u_mn, wScript E (a_T 0) (a_T 1 0) (a_T 2 0) (a_T 3 0) (a_T 4 0) (a_T 5 0) (a_T 6 0) (a_T 7 0) (u_T 0), wRoll E 6 (a_T 1) (u_T 1), wRoll E 6 (a_T 2) (u_T 2), wRoll E 4 (a_T 3) (u_T 3), wRoll E 14 (a_T 4) (u_T 4), wFormula E (a_T 5) (u_T 5), wFormula E (a_T 6) (u_T 6), wFormula E (a_T 7) (u_T 7)] [.ref (a_mn 0), .int x_1, .int x_2, .int x_3, .int x_4] (some (.int res)) := by
  unfold fX11_isRest at hf
  refine MP.ofZZ rfl (by decide) (Nat.le_of_ble_eq_true rfl) ?_
  intro p e R s m args below meth c ls Q hRf hRl C hP hK hN hl hQ
  have hx := C.1
  have hb := C.2.1
  have hl : lv_has ls 7 [(0, .ref (a_mn 0)), (1, .int x_1), (2, .int x_2), (3, .int x_3), (4, .int x_4)] := hl
  refine lv_iload hx hb dX11_isRest_0 (lv_at hl 4 rfl) ?_
  refine lv_iconst (v := 1) hx hb dX11_isRest_2 (by decide) ?_
  refine lv_ishr hx hb dX11_isRest_3 ?_
  refine lv_topi (fun x1 ex1 => ?_)
  have hf := ox_lt ex1 hf
  refine lv_istore (lv' := [(5, .int x1), (0, .ref (a_mn 0)), (1, .int x_1), (2, .int x_2), (3, .int x_3), (4, .int x_4)]) hx hb dX11_isRest_4 hl (by decide) rfl (fun ls hl => ?_)
  refine lv_iload hx hb dX11_isRest_6 (lv_at hl 5 rfl) ?_
  refine lv_iconst (v := 1) hx hb dX11_isRest_8 (by decide) ?_
  refine lv_iand hx hb dX11_isRest_9 ?_
  refine lv_topi (fun x2 ex2 => ?_)
  have hf := ox_lt ex2 hf
  refine lv_istore (lv' := [(6, .int x2), (5, .int x1), (0, .ref (a_mn 0)), (1, .int x_1), (2, .int x_2), (3, .int x_3), (4, .int x_4)]) hx hb dX11_isRest_10 hl (by decide) rfl (fun ls hl => ?_)
  refine lv_aload_n hx hb dX11_isRest_12 rfl (lv_at hl 2 rfl) ?_
  refine lv_iload_n hx hb dX11_isRest_13 rfl (lv_at hl 3 rfl) ?_
  refine lv_iload_n hx hb dX11_isRest_14 rfl (lv_at hl 5 rfl) ?_
  refine lv_iload hx hb dX11_isRest_15 (lv_at hl 1 rfl) ?_
  refine lv_iload hx hb dX11_isRest_17 (lv_at hl 0 rfl) ?_
  obtain ⟨r3, hr3, hf⟩ := ox_bind hf
  refine cxVP (As := [.int x_1, .int x_3, .int x1, .int x2]) (rest := []) (st1 := [.int r3]) C hK (tX11_gain l E a_mn q_mn_0_tape q_mn_0_spare q_mn_0_reader q_mn_0_mill q_mn_0_now q_mn_0_trial q_mn_0_image q_mn_0_steps q_mn_0_notes q_mn_0_futures q_mn_0_order q_mn_0_clapRow u_mn a_T u_T x_1 x_3 x1 x2 r3 hr3) lk_X11_362 ⟨rfl, rfl⟩ (by rw [hRf, hRl]; decide) ⟨Nat.zero_le _, Nat.zero_le _⟩ (PB.sub hP [0, 1, 2, 3, 4, 5, 6, 7, 8] rfl) (fun _ _ => rfl) hN (rc_X11 hK (hP 0 _ rfl)) rfl hl.1 rfl rfl (Nat.le_of_ble_eq_true rfl) dX11_isRest_19 ?_
  refine lv_aload_n hx hb dX11_isRest_22 rfl (lv_at hl 2 rfl) ?_
  refine lv_iload_n hx hb dX11_isRest_23 rfl (lv_at hl 3 rfl) ?_
  refine lv_iload_n hx hb dX11_isRest_24 rfl (lv_at hl 5 rfl) ?_
  refine lv_iconst (v := 1) hx hb dX11_isRest_25 (by decide) ?_
  refine lv_iload hx hb dX11_isRest_26 (lv_at hl 1 rfl) ?_
  refine lv_isub hx hb dX11_isRest_28 ?_
  refine lv_iload hx hb dX11_isRest_29 (lv_at hl 0 rfl) ?_
  obtain ⟨r4, hr4, hf⟩ := ox_bind hf
  refine cxVP (As := [.int x_1, .int x_3, .int ((1 : Int32) - x1), .int x2]) (rest := [.int r3]) (st1 := [.int r4, .int r3]) C hK (tX11_gain l E a_mn q_mn_0_tape q_mn_0_spare q_mn_0_reader q_mn_0_mill q_mn_0_now q_mn_0_trial q_mn_0_image q_mn_0_steps q_mn_0_notes q_mn_0_futures q_mn_0_order q_mn_0_clapRow u_mn a_T u_T x_1 x_3 ((1 : Int32) - x1) x2 r4 hr4) lk_X11_362 ⟨rfl, rfl⟩ (by rw [hRf, hRl]; decide) ⟨Nat.zero_le _, Nat.zero_le _⟩ (PB.sub hP [0, 1, 2, 3, 4, 5, 6, 7, 8] rfl) (fun _ _ => rfl) hN (rc_X11 hK (hP 0 _ rfl)) rfl hl.1 rfl rfl (Nat.le_of_ble_eq_true rfl) dX11_isRest_31 ?_
  refine lv_icmp_lt (tgt := 66) hx hb dX11_isRest_34 (by decide) (fun c5 => ?_) (fun c5 => ?_)
  · have hf := (if_pos c5).symm.trans hf
    refine lv_iconst (v := 0) hx hb dX11_isRest_66 (by decide) ?_
    have hf := Option.some.inj hf
    subst hf
    exact hQ _ _ (0 : Int32) bz0 dX11_isRest_67
  · have hf := (if_neg c5).symm.trans hf
    refine lv_aload_n hx hb dX11_isRest_37 rfl (lv_at hl 2 rfl) ?_
    refine lv_iload_n hx hb dX11_isRest_38 rfl (lv_at hl 4 rfl) ?_
    refine lv_iload_n hx hb dX11_isRest_39 rfl (lv_at hl 5 rfl) ?_
    refine lv_iload hx hb dX11_isRest_40 (lv_at hl 0 rfl) ?_
    refine lv_iload hx hb dX11_isRest_42 (lv_at hl 1 rfl) ?_
    obtain ⟨r6, hr6, hf⟩ := ox_bind hf
    refine cxVP (As := [.int x_2, .int x_3, .int x2, .int x1]) (rest := []) (st1 := [.int r6]) C hK (tX11_gain l E a_mn q_mn_0_tape q_mn_0_spare q_mn_0_reader q_mn_0_mill q_mn_0_now q_mn_0_trial q_mn_0_image q_mn_0_steps q_mn_0_notes q_mn_0_futures q_mn_0_order q_mn_0_clapRow u_mn a_T u_T x_2 x_3 x2 x1 r6 hr6) lk_X11_362 ⟨rfl, rfl⟩ (by rw [hRf, hRl]; decide) ⟨Nat.zero_le _, Nat.zero_le _⟩ (PB.sub hP [0, 1, 2, 3, 4, 5, 6, 7, 8] rfl) (fun _ _ => rfl) hN (rc_X11 hK (hP 0 _ rfl)) rfl hl.1 rfl rfl (Nat.le_of_ble_eq_true rfl) dX11_isRest_44 ?_
    refine lv_aload_n hx hb dX11_isRest_47 rfl (lv_at hl 2 rfl) ?_
    refine lv_iload_n hx hb dX11_isRest_48 rfl (lv_at hl 4 rfl) ?_
    refine lv_iload_n hx hb dX11_isRest_49 rfl (lv_at hl 5 rfl) ?_
    refine lv_iconst (v := 1) hx hb dX11_isRest_50 (by decide) ?_
    refine lv_iload hx hb dX11_isRest_51 (lv_at hl 0 rfl) ?_
    refine lv_isub hx hb dX11_isRest_53 ?_
    refine lv_iload hx hb dX11_isRest_54 (lv_at hl 1 rfl) ?_
    obtain ⟨r7, hr7, hf⟩ := ox_bind hf
    refine cxVP (As := [.int x_2, .int x_3, .int ((1 : Int32) - x2), .int x1]) (rest := [.int r6]) (st1 := [.int r7, .int r6]) C hK (tX11_gain l E a_mn q_mn_0_tape q_mn_0_spare q_mn_0_reader q_mn_0_mill q_mn_0_now q_mn_0_trial q_mn_0_image q_mn_0_steps q_mn_0_notes q_mn_0_futures q_mn_0_order q_mn_0_clapRow u_mn a_T u_T x_2 x_3 ((1 : Int32) - x2) x1 r7 hr7) lk_X11_362 ⟨rfl, rfl⟩ (by rw [hRf, hRl]; decide) ⟨Nat.zero_le _, Nat.zero_le _⟩ (PB.sub hP [0, 1, 2, 3, 4, 5, 6, 7, 8] rfl) (fun _ _ => rfl) hN (rc_X11 hK (hP 0 _ rfl)) rfl hl.1 rfl rfl (Nat.le_of_ble_eq_true rfl) dX11_isRest_56 ?_
    refine lv_icmp_lt (tgt := 66) hx hb dX11_isRest_59 (by decide) (fun c8 => ?_) (fun c8 => ?_)
    · have hf := (if_pos c8).symm.trans hf
      refine lv_iconst (v := 0) hx hb dX11_isRest_66 (by decide) ?_
      have hf := Option.some.inj hf
      subst hf
      exact hQ _ _ (0 : Int32) bz0 dX11_isRest_67
    · have hf := (if_neg c8).symm.trans hf
      refine lv_iconst (v := 1) hx hb dX11_isRest_62 (by decide) ?_
      refine lv_goto (tgt := 67) hx hb dX11_isRest_63 (by decide) ?_
      have hf := Option.some.inj hf
      subst hf
      exact hQ _ _ (1 : Int32) bz1 dX11_isRest_67
set_option maxHeartbeats 4000000 in
set_option maxRecDepth 20000 in
theorem tX11_rests (l : Launch) (E : Ev) (a_mn : Nat → Nat) (q_mn_0_tape : Nat) (q_mn_0_spare : Nat) (q_mn_0_reader : Nat) (q_mn_0_mill : Nat) (q_mn_0_now : Nat) (q_mn_0_trial : Nat) (q_mn_0_image : Nat) (q_mn_0_steps : Nat) (q_mn_0_notes : Nat) (q_mn_0_futures : Nat) (q_mn_0_order : Nat) (q_mn_0_clapRow : Nat) (u_mn : St) (a_T : Nat → Nat → Nat) (u_T : Nat → St) (x_1 : Int32) (x_2 : Int32) (x_3 : Int32) (res : Int32) (hf : fX11_rests u_mn u_T x_1 x_2 x_3 = some res) : MP l E yX11_rests cX11_rests 6 (some .int) (rmm 4 103) [wMain E a_mn q_mn_0_tape (a_T 0 0) q_mn_0_spare q_mn_0_reader q_mn_0_mill q_mn_0_now q_mn_0_trial q_mn_0_image q_mn_0_steps q_mn_0_notes q_mn_0_futures q_mn_0_order q_mn_0_clapRow u_mn, wScript E (a_T 0) (a_T 1 0) (a_T 2 0) (a_T 3 0) (a_T 4 0) (a_T 5 0) (a_T 6 0) (a_T 7 0) (u_T 0), wRoll E 6 (a_T 1) (u_T 1), wRoll E 6 (a_T 2) (u_T 2), wRoll E 4 (a_T 3) (u_T 3), wRoll E 14 (a_T 4) (u_T 4), wFormula E (a_T 5) (u_T 5), wFormula E (a_T 6) (u_T 6), wFormula E (a_T 7) (u_T 7)] [.ref (a_mn 0), .int x_1, .int x_2, .int x_3] (some (.int res)) := by
  unfold fX11_rests at hf
  refine MP.ofI rfl (by decide) (Nat.le_of_ble_eq_true rfl) ?_
  intro p e R s m args below meth c ls Q hRf hRl C hP hK hN hl hQ
  have hx := C.1
  have hb := C.2.1
  have hl : lv_has ls 6 [(0, .ref (a_mn 0)), (1, .int x_1), (2, .int x_2), (3, .int x_3)] := hl
  refine lv_aload_n hx hb dX11_rests_0 rfl (lv_at hl 0 rfl) ?_
  refine lv_iload_n hx hb dX11_rests_1 rfl (lv_at hl 1 rfl) ?_
  refine lv_iload_n hx hb dX11_rests_2 rfl (lv_at hl 2 rfl) ?_
  refine cxVP (As := [.int x_1, .int x_2]) (rest := []) (st1 := [.int (fX11_areTwoGuests u_mn u_T x_1 x_2)]) C hK (tX11_areTwoGuests l E a_mn q_mn_0_tape q_mn_0_spare q_mn_0_reader q_mn_0_mill q_mn_0_now q_mn_0_trial q_mn_0_image q_mn_0_steps q_mn_0_notes q_mn_0_futures q_mn_0_order q_mn_0_clapRow u_mn a_T u_T x_1 x_2 (fX11_areTwoGuests u_mn u_T x_1 x_2) rfl) lk_X11_259 ⟨rfl, rfl⟩ (by rw [hRf, hRl]; decide) ⟨Nat.zero_le _, Nat.zero_le _⟩ (PB.sub hP [0, 1, 2, 3, 4, 5, 6, 7, 8] rfl) (fun _ _ => rfl) hN (rc_X11 hK (hP 0 _ rfl)) rfl hl.1 rfl rfl (Nat.le_of_ble_eq_true rfl) dX11_rests_3 ?_
  refine lv_if_eq (tgt := 23) hx hb dX11_rests_6 (by decide) (fun c1 => ?_) (fun c1 => ?_)
  · have hf := (if_pos c1).symm.trans hf
    refine lv_iconst (v := (-1)) hx hb dX11_rests_23 (by decide) ?_
    have hf := Option.some.inj hf
    subst hf
    exact hQ _ _ dX11_rests_24
  · have hf := (if_neg c1).symm.trans hf
    refine lv_aload_n hx hb dX11_rests_9 rfl (lv_at hl 0 rfl) ?_
    refine gf_X11_X11_told C hK (hP 0 _ rfl) dX11_rests_10 ?_
    refine gf_X11_X8_acts C hK (hP 1 _ rfl) dX11_rests_13 ?_
    refine lv_iload_n hx hb dX11_rests_16 rfl (lv_at hl 3 rfl) ?_
    refine cxVP (As := [.int x_3]) (rest := []) (st1 := [.int (fX7_has 6 (u_T 1) x_3)]) C hK (tX7_has l E 6 (a_T 1) (u_T 1) x_3 (fX7_has 6 (u_T 1) x_3) rfl) lk_X11_143 ⟨rfl, rfl⟩ (by rw [hRf, hRl]; decide) ⟨Nat.zero_le _, Nat.zero_le _⟩ (PB.sub hP [2] rfl) (fun _ _ => rfl) hN (rc_X7 hK (hP 2 _ rfl)) rfl hl.1 rfl rfl (Nat.le_of_ble_eq_true rfl) dX11_rests_17 ?_
    refine lv_if_ne (tgt := 25) hx hb dX11_rests_20 (by decide) (fun c2 => ?_) (fun c2 => ?_)
    · have hf := (if_neg c2).symm.trans hf
      refine lv_iconst (v := 0) hx hb dX11_rests_25 (by decide) ?_
      refine lv_istore (lv' := [(4, .int (0 : Int32)), (0, .ref (a_mn 0)), (1, .int x_1), (2, .int x_2), (3, .int x_3)]) hx hb dX11_rests_26 hl (by decide) rfl (fun ls hl => ?_)
      refine lv_iconst (v := 0) hx hb dX11_rests_28 (by decide) ?_
      refine lv_istore (lv' := [(5, .int (0 : Int32)), (4, .int (0 : Int32)), (0, .ref (a_mn 0)), (1, .int x_1), (2, .int x_2), (3, .int x_3)]) hx hb dX11_rests_29 hl (by decide) rfl (fun ls hl => ?_)
      obtain ⟨X1, hX1, hf⟩ := ox_bind hf
      have hexit1 : ∀ y13, y13 = X1 → ∀ (ls : Array Slot), lv_has ls 6 [(4, .int y13)] → W p l e R s m args below meth c s.heap [] 0 0 Q (F0 m 65 ls []) := by
        intro y13 hy ls hl
        subst hy
        refine lv_iload hx hb dX11_rests_65 (lv_at hl 0 rfl) ?_
        have hf := Option.some.inj hf
        subst hf
        exact hQ _ _ dX11_rests_67
      have hloop1 : ∀ (nf : Nat) (x3 : Int32) (x4 : Int32) (ls : Array Slot), lv_has ls 6 [(0, .ref (a_mn 0)), (1, .int x_1), (2, .int x_2), (3, .int x_3), (4, .int x3), (5, .int x4)] → fX11_rests_L1 u_mn u_T x_1 x_2 x_3 nf x3 x4 = some X1 → W p l e R s m args below meth c s.heap [] 0 0 Q (F0 m 31 ls []) := by
        intro nf
        induction nf with
        | zero =>
          intro x3 x4 ls hl hf
          simp [fX11_rests_L1] at hf
        | succ nf ih =>
          intro x3 x4 ls hl hf
          rw [fX11_rests_L1] at hf
          refine lv_iload hx hb dX11_rests_31 (lv_at hl 5 rfl) ?_
          refine lv_iconst (v := 4) hx hb dX11_rests_33 (by decide) ?_
          refine lv_icmp_ge (tgt := 65) hx hb dX11_rests_34 (by decide) (fun c5 => ?_) (fun c5 => ?_)
          · have hf := (if_pos c5).symm.trans hf
            exact hexit1 _ (Option.some.inj hf) ls (lv_sub hl [4] rfl)
          · have hf := (if_neg c5).symm.trans hf
            refine lv_aload_n hx hb dX11_rests_37 rfl (lv_at hl 0 rfl) ?_
            refine lv_iload_n hx hb dX11_rests_38 rfl (lv_at hl 1 rfl) ?_
            refine lv_iload_n hx hb dX11_rests_39 rfl (lv_at hl 2 rfl) ?_
            refine lv_aload_n hx hb dX11_rests_40 rfl (lv_at hl 0 rfl) ?_
            refine gf_X11_X11_told C hK (hP 0 _ rfl) dX11_rests_41 ?_
            refine lv_iload_n hx hb dX11_rests_44 rfl (lv_at hl 3 rfl) ?_
            obtain ⟨r6, hr6, hf⟩ := ox_bind hf
            refine cxVP (As := [.int x_3]) (rest := [.int x_2, .int x_1, .ref (a_mn 0)]) (st1 := [.int r6, .int x_2, .int x_1, .ref (a_mn 0)]) C hK (tX8_mood l E a_T u_T x_3 r6 hr6) lk_X11_174 ⟨rfl, rfl⟩ (by rw [hRf, hRl]; decide) ⟨Nat.zero_le _, Nat.zero_le _⟩ (PB.sub hP [1, 2, 3, 4, 5, 6, 7, 8] rfl) (fun _ _ => rfl) hN (rc_X8 hK (hP 1 _ rfl)) rfl hl.1 rfl rfl (Nat.le_of_ble_eq_true rfl) dX11_rests_45 ?_
            refine lv_iload hx hb dX11_rests_48 (lv_at hl 5 rfl) ?_
            obtain ⟨r7, hr7, hf⟩ := ox_bind hf
            refine cxVP (As := [.int x_1, .int x_2, .int r6, .int x4]) (rest := []) (st1 := [.int r7]) C hK (tX11_isRest l E a_mn q_mn_0_tape q_mn_0_spare q_mn_0_reader q_mn_0_mill q_mn_0_now q_mn_0_trial q_mn_0_image q_mn_0_steps q_mn_0_notes q_mn_0_futures q_mn_0_order q_mn_0_clapRow u_mn a_T u_T x_1 x_2 r6 x4 r7 hr7) lk_X11_358 ⟨rfl, rfl⟩ (by rw [hRf, hRl]; decide) ⟨Nat.zero_le _, Nat.zero_le _⟩ (PB.sub hP [0, 1, 2, 3, 4, 5, 6, 7, 8] rfl) (fun _ _ => rfl) hN (rc_X11 hK (hP 0 _ rfl)) rfl hl.1 rfl rfl (Nat.le_of_ble_eq_true rfl) dX11_rests_50 ?_
            obtain ⟨j9, ej9, hf⟩ := ox_ex hf
            have hj9 : ∀ (x8 : Int32) (ls : Array Slot), lv_has ls 6 [(0, .ref (a_mn 0)), (1, .int x_1), (2, .int x_2), (3, .int x_3), (4, .int x8), (5, .int x4)] → j9 x8 = some X1 → W p l e R s m args below meth c s.heap [] 0 0 Q (F0 m 59 ls []) := by
              intro x8 ls hl hf
              have hf := ox_a1 ej9 hf
              obtain ⟨x10, ex10⟩ : ∃ z : Int32, z = (x4 + 1) := ⟨_, rfl⟩
              have hf := ox_lt ex10 hf
              refine lv_iinc (v := x10) (lv' := [(5, .int x10), (0, .ref (a_mn 0)), (1, .int x_1), (2, .int x_2), (3, .int x_3), (4, .int x8)]) hx hb dX11_rests_59 hl (k := 5) rfl (by rw [ex10]; rfl) (by decide) rfl (fun ls hl => ?_)
              refine lv_goto (tgt := 31) hx hb dX11_rests_62 (by decide) ?_
              exact ih _ _ ls (lv_sub hl [1, 2, 3, 4, 5, 0] rfl) hf
            refine lv_if_eq (tgt := 59) hx hb dX11_rests_53 (by decide) (fun c11 => ?_) (fun c11 => ?_)
            · have hf := (if_pos c11).symm.trans hf
              exact hj9 _ ls (lv_sub hl [0, 1, 2, 3, 4, 5] rfl) hf
            · have hf := (if_neg c11).symm.trans hf
              obtain ⟨x12, ex12⟩ : ∃ z : Int32, z = (x3 + 1) := ⟨_, rfl⟩
              have hf := ox_lt ex12 hf
              refine lv_iinc (v := x12) (lv' := [(4, .int x12), (0, .ref (a_mn 0)), (1, .int x_1), (2, .int x_2), (3, .int x_3), (5, .int x4)]) hx hb dX11_rests_56 hl (k := 4) rfl (by rw [ex12]; rfl) (by decide) rfl (fun ls hl => ?_)
              exact hj9 _ ls (lv_sub hl [1, 2, 3, 4, 0, 5] rfl) hf
      exact hloop1 fuel _ _ ls (lv_sub hl [2, 3, 4, 5, 1, 0] rfl) hX1
    · have hf := (if_pos c2).symm.trans hf
      refine lv_iconst (v := (-1)) hx hb dX11_rests_23 (by decide) ?_
      have hf := Option.some.inj hf
      subst hf
      exact hQ _ _ dX11_rests_24
set_option maxHeartbeats 4000000 in
set_option maxRecDepth 20000 in
theorem tX11_rest (l : Launch) (E : Ev) (a_mn : Nat → Nat) (q_mn_0_tape : Nat) (q_mn_0_spare : Nat) (q_mn_0_reader : Nat) (q_mn_0_mill : Nat) (q_mn_0_now : Nat) (q_mn_0_trial : Nat) (q_mn_0_image : Nat) (q_mn_0_steps : Nat) (q_mn_0_notes : Nat) (q_mn_0_futures : Nat) (q_mn_0_order : Nat) (q_mn_0_clapRow : Nat) (u_mn : St) (a_T : Nat → Nat → Nat) (u_T : Nat → St) (x_1 : Int32) (x_2 : Int32) (x_3 : Int32) (x_4 : Int32) (res : Int32) (hf : fX11_rest u_mn u_T x_1 x_2 x_3 x_4 = some res) : MP l E yX11_rest cX11_rest 7 (some .int) (rmm 4 103) [wMain E a_mn q_mn_0_tape (a_T 0 0) q_mn_0_spare q_mn_0_reader q_mn_0_mill q_mn_0_now q_mn_0_trial q_mn_0_image q_mn_0_steps q_mn_0_notes q_mn_0_futures q_mn_0_order q_mn_0_clapRow u_mn, wScript E (a_T 0) (a_T 1 0) (a_T 2 0) (a_T 3 0) (a_T 4 0) (a_T 5 0) (a_T 6 0) (a_T 7 0) (u_T 0), wRoll E 6 (a_T 1) (u_T 1), wRoll E 6 (a_T 2) (u_T 2), wRoll E 4 (a_T 3) (u_T 3), wRoll E 14 (a_T 4) (u_T 4), wFormula E (a_T 5) (u_T 5), wFormula E (a_T 6) (u_T 6), wFormula E (a_T 7) (u_T 7)] [.ref (a_mn 0), .int x_1, .int x_2, .int x_3, .int x_4] (some (.int res)) := by
  unfold fX11_rest at hf
  refine MP.ofI rfl (by decide) (Nat.le_of_ble_eq_true rfl) ?_
  intro p e R s m args below meth c ls Q hRf hRl C hP hK hN hl hQ
  have hx := C.1
  have hb := C.2.1
  have hl : lv_has ls 7 [(0, .ref (a_mn 0)), (1, .int x_1), (2, .int x_2), (3, .int x_3), (4, .int x_4)] := hl
  refine lv_aload_n hx hb dX11_rest_0 rfl (lv_at hl 0 rfl) ?_
  refine lv_iload_n hx hb dX11_rest_1 rfl (lv_at hl 1 rfl) ?_
  refine lv_iload_n hx hb dX11_rest_2 rfl (lv_at hl 2 rfl) ?_
  refine cxVP (As := [.int x_1, .int x_2]) (rest := []) (st1 := [.int (fX11_areTwoGuests u_mn u_T x_1 x_2)]) C hK (tX11_areTwoGuests l E a_mn q_mn_0_tape q_mn_0_spare q_mn_0_reader q_mn_0_mill q_mn_0_now q_mn_0_trial q_mn_0_image q_mn_0_steps q_mn_0_notes q_mn_0_futures q_mn_0_order q_mn_0_clapRow u_mn a_T u_T x_1 x_2 (fX11_areTwoGuests u_mn u_T x_1 x_2) rfl) lk_X11_259 ⟨rfl, rfl⟩ (by rw [hRf, hRl]; decide) ⟨Nat.zero_le _, Nat.zero_le _⟩ (PB.sub hP [0, 1, 2, 3, 4, 5, 6, 7, 8] rfl) (fun _ _ => rfl) hN (rc_X11 hK (hP 0 _ rfl)) rfl hl.1 rfl rfl (Nat.le_of_ble_eq_true rfl) dX11_rest_3 ?_
  refine lv_if_eq (tgt := 28) hx hb dX11_rest_6 (by decide) (fun c1 => ?_) (fun c1 => ?_)
  · have hf := (if_pos c1).symm.trans hf
    refine lv_iconst (v := (-1)) hx hb dX11_rest_28 (by decide) ?_
    have hf := Option.some.inj hf
    subst hf
    exact hQ _ _ dX11_rest_29
  · have hf := (if_neg c1).symm.trans hf
    refine lv_aload_n hx hb dX11_rest_9 rfl (lv_at hl 0 rfl) ?_
    refine gf_X11_X11_told C hK (hP 0 _ rfl) dX11_rest_10 ?_
    refine gf_X11_X8_acts C hK (hP 1 _ rfl) dX11_rest_13 ?_
    refine lv_iload_n hx hb dX11_rest_16 rfl (lv_at hl 3 rfl) ?_
    refine cxVP (As := [.int x_3]) (rest := []) (st1 := [.int (fX7_has 6 (u_T 1) x_3)]) C hK (tX7_has l E 6 (a_T 1) (u_T 1) x_3 (fX7_has 6 (u_T 1) x_3) rfl) lk_X11_143 ⟨rfl, rfl⟩ (by rw [hRf, hRl]; decide) ⟨Nat.zero_le _, Nat.zero_le _⟩ (PB.sub hP [2] rfl) (fun _ _ => rfl) hN (rc_X7 hK (hP 2 _ rfl)) rfl hl.1 rfl rfl (Nat.le_of_ble_eq_true rfl) dX11_rest_17 ?_
    refine lv_if_eq (tgt := 28) hx hb dX11_rest_20 (by decide) (fun c2 => ?_) (fun c2 => ?_)
    · have hf := (if_pos c2).symm.trans hf
      refine lv_iconst (v := (-1)) hx hb dX11_rest_28 (by decide) ?_
      have hf := Option.some.inj hf
      subst hf
      exact hQ _ _ dX11_rest_29
    · have hf := (if_neg c2).symm.trans hf
      refine lv_iload hx hb dX11_rest_23 (lv_at hl 4 rfl) ?_
      refine lv_if_ge (tgt := 30) hx hb dX11_rest_25 (by decide) (fun c3 => ?_) (fun c3 => ?_)
      · have hf := (if_pos c3).symm.trans hf
        refine lv_iconst (v := 0) hx hb dX11_rest_30 (by decide) ?_
        refine lv_istore (lv' := [(5, .int (0 : Int32)), (0, .ref (a_mn 0)), (1, .int x_1), (2, .int x_2), (3, .int x_3), (4, .int x_4)]) hx hb dX11_rest_31 hl (by decide) rfl (fun ls hl => ?_)
        refine lv_iconst (v := 0) hx hb dX11_rest_33 (by decide) ?_
        refine lv_istore (lv' := [(6, .int (0 : Int32)), (5, .int (0 : Int32)), (0, .ref (a_mn 0)), (1, .int x_1), (2, .int x_2), (3, .int x_3), (4, .int x_4)]) hx hb dX11_rest_34 hl (by decide) rfl (fun ls hl => ?_)
        obtain ⟨X1, hX1, hf⟩ := ox_bind hf
        have hexit1 : ∀ y15, .inl y15 = X1 → ∀ (ls : Array Slot), lv_has ls 7 [] → W p l e R s m args below meth c s.heap [] 0 0 Q (F0 m 90 ls []) := by
          intro y15 hy ls hl
          subst hy
          have hf := ox_inl hf
          refine lv_bipush (v := (-2)) hx hb dX11_rest_90 (by decide) ?_
          have hf := Option.some.inj hf
          subst hf
          exact hQ _ _ dX11_rest_92
        have hret1 : ∀ r, .inr r = X1 → r = res := by
          intro r hr
          subst hr
          exact Option.some.inj (ox_inr hf)
        have hloop1 : ∀ (nf : Nat) (x4 : Int32) (x5 : Int32) (ls : Array Slot), lv_has ls 7 [(0, .ref (a_mn 0)), (1, .int x_1), (2, .int x_2), (3, .int x_3), (4, .int x_4), (5, .int x4), (6, .int x5)] → fX11_rest_L1 u_mn u_T x_1 x_2 x_3 x_4 nf x4 x5 = some X1 → W p l e R s m args below meth c s.heap [] 0 0 Q (F0 m 36 ls []) := by
          intro nf
          induction nf with
          | zero =>
            intro x4 x5 ls hl hf
            simp [fX11_rest_L1] at hf
          | succ nf ih =>
            intro x4 x5 ls hl hf
            rw [fX11_rest_L1] at hf
            refine lv_iload hx hb dX11_rest_36 (lv_at hl 6 rfl) ?_
            refine lv_iconst (v := 4) hx hb dX11_rest_38 (by decide) ?_
            refine lv_icmp_ge (tgt := 90) hx hb dX11_rest_39 (by decide) (fun c6 => ?_) (fun c6 => ?_)
            · have hf := (if_pos c6).symm.trans hf
              exact hexit1 _ (Option.some.inj hf) ls (lv_sub hl [] rfl)
            · have hf := (if_neg c6).symm.trans hf
              refine lv_aload_n hx hb dX11_rest_42 rfl (lv_at hl 0 rfl) ?_
              refine lv_iload_n hx hb dX11_rest_43 rfl (lv_at hl 1 rfl) ?_
              refine lv_iload_n hx hb dX11_rest_44 rfl (lv_at hl 2 rfl) ?_
              refine lv_aload_n hx hb dX11_rest_45 rfl (lv_at hl 0 rfl) ?_
              refine gf_X11_X11_told C hK (hP 0 _ rfl) dX11_rest_46 ?_
              refine lv_iload_n hx hb dX11_rest_49 rfl (lv_at hl 3 rfl) ?_
              obtain ⟨r7, hr7, hf⟩ := ox_bind hf
              refine cxVP (As := [.int x_3]) (rest := [.int x_2, .int x_1, .ref (a_mn 0)]) (st1 := [.int r7, .int x_2, .int x_1, .ref (a_mn 0)]) C hK (tX8_mood l E a_T u_T x_3 r7 hr7) lk_X11_174 ⟨rfl, rfl⟩ (by rw [hRf, hRl]; decide) ⟨Nat.zero_le _, Nat.zero_le _⟩ (PB.sub hP [1, 2, 3, 4, 5, 6, 7, 8] rfl) (fun _ _ => rfl) hN (rc_X8 hK (hP 1 _ rfl)) rfl hl.1 rfl rfl (Nat.le_of_ble_eq_true rfl) dX11_rest_50 ?_
              refine lv_iload hx hb dX11_rest_53 (lv_at hl 6 rfl) ?_
              obtain ⟨r8, hr8, hf⟩ := ox_bind hf
              refine cxVP (As := [.int x_1, .int x_2, .int r7, .int x5]) (rest := []) (st1 := [.int r8]) C hK (tX11_isRest l E a_mn q_mn_0_tape q_mn_0_spare q_mn_0_reader q_mn_0_mill q_mn_0_now q_mn_0_trial q_mn_0_image q_mn_0_steps q_mn_0_notes q_mn_0_futures q_mn_0_order q_mn_0_clapRow u_mn a_T u_T x_1 x_2 r7 x5 r8 hr8) lk_X11_358 ⟨rfl, rfl⟩ (by rw [hRf, hRl]; decide) ⟨Nat.zero_le _, Nat.zero_le _⟩ (PB.sub hP [0, 1, 2, 3, 4, 5, 6, 7, 8] rfl) (fun _ _ => rfl) hN (rc_X11 hK (hP 0 _ rfl)) rfl hl.1 rfl rfl (Nat.le_of_ble_eq_true rfl) dX11_rest_55 ?_
              obtain ⟨j10, ej10, hf⟩ := ox_ex hf
              have hj10 : ∀ (x9 : Int32) (ls : Array Slot), lv_has ls 7 [(0, .ref (a_mn 0)), (1, .int x_1), (2, .int x_2), (3, .int x_3), (4, .int x_4), (5, .int x9), (6, .int x5)] → j10 x9 = some X1 → W p l e R s m args below meth c s.heap [] 0 0 Q (F0 m 84 ls []) := by
                intro x9 ls hl hf
                have hf := ox_a1 ej10 hf
                obtain ⟨x11, ex11⟩ : ∃ z : Int32, z = (x5 + 1) := ⟨_, rfl⟩
                have hf := ox_lt ex11 hf
                refine lv_iinc (v := x11) (lv' := [(6, .int x11), (0, .ref (a_mn 0)), (1, .int x_1), (2, .int x_2), (3, .int x_3), (4, .int x_4), (5, .int x9)]) hx hb dX11_rest_84 hl (k := 6) rfl (by rw [ex11]; rfl) (by decide) rfl (fun ls hl => ?_)
                refine lv_goto (tgt := 36) hx hb dX11_rest_87 (by decide) ?_
                exact ih _ _ ls (lv_sub hl [1, 2, 3, 4, 5, 6, 0] rfl) hf
              refine lv_if_eq (tgt := 84) hx hb dX11_rest_58 (by decide) (fun c12 => ?_) (fun c12 => ?_)
              · have hf := (if_pos c12).symm.trans hf
                exact hj10 _ ls (lv_sub hl [0, 1, 2, 3, 4, 5, 6] rfl) hf
              · have hf := (if_neg c12).symm.trans hf
                refine lv_iload hx hb dX11_rest_61 (lv_at hl 5 rfl) ?_
                refine lv_iload hx hb dX11_rest_63 (lv_at hl 4 rfl) ?_
                refine lv_icmp_ne (tgt := 81) hx hb dX11_rest_65 (by decide) (fun c13 => ?_) (fun c13 => ?_)
                · have hf := (if_neg c13).symm.trans hf
                  obtain ⟨x14, ex14⟩ : ∃ z : Int32, z = (x4 + 1) := ⟨_, rfl⟩
                  have hf := ox_lt ex14 hf
                  refine lv_iinc (v := x14) (lv' := [(5, .int x14), (0, .ref (a_mn 0)), (1, .int x_1), (2, .int x_2), (3, .int x_3), (4, .int x_4), (6, .int x5)]) hx hb dX11_rest_81 hl (k := 5) rfl (by rw [ex14]; rfl) (by decide) rfl (fun ls hl => ?_)
                  exact hj10 _ ls (lv_sub hl [1, 2, 3, 4, 5, 0, 6] rfl) hf
                · have hf := (if_pos c13).symm.trans hf
                  refine lv_bipush (v := 10) hx hb dX11_rest_68 (by decide) ?_
                  refine lv_iload hx hb dX11_rest_70 (lv_at hl 6 rfl) ?_
                  refine lv_iconst (v := 1) hx hb dX11_rest_72 (by decide) ?_
                  refine lv_ishr hx hb dX11_rest_73 ?_
                  refine lv_imul hx hb dX11_rest_74 ?_
                  refine lv_iload hx hb dX11_rest_75 (lv_at hl 6 rfl) ?_
                  refine lv_iconst (v := 1) hx hb dX11_rest_77 (by decide) ?_
                  refine lv_iand hx hb dX11_rest_78 ?_
                  refine lv_iadd hx hb dX11_rest_79 ?_
                  have hf := hret1 _ (Option.some.inj hf)
                  subst hf
                  exact hQ _ _ dX11_rest_80
        exact hloop1 fuel _ _ ls (lv_sub hl [2, 3, 4, 5, 6, 1, 0] rfl) hX1
      · have hf := (if_neg c3).symm.trans hf
        refine lv_iconst (v := (-1)) hx hb dX11_rest_28 (by decide) ?_
        have hf := Option.some.inj hf
        subst hf
        exact hQ _ _ dX11_rest_29
set_option maxHeartbeats 4000000 in
set_option maxRecDepth 20000 in
theorem tX11_dearest (l : Launch) (E : Ev) (a_mn : Nat → Nat) (q_mn_0_tape : Nat) (q_mn_0_spare : Nat) (q_mn_0_reader : Nat) (q_mn_0_mill : Nat) (q_mn_0_now : Nat) (q_mn_0_trial : Nat) (q_mn_0_image : Nat) (q_mn_0_steps : Nat) (q_mn_0_notes : Nat) (q_mn_0_futures : Nat) (q_mn_0_order : Nat) (q_mn_0_clapRow : Nat) (u_mn : St) (a_T : Nat → Nat → Nat) (u_T : Nat → St) (x_1 : Int32) (res : Int32) (hf : fX11_dearest u_mn u_T x_1 = some res) : MP l E yX11_dearest cX11_dearest 6 (some .int) (rmm 1 30) [wMain E a_mn q_mn_0_tape (a_T 0 0) q_mn_0_spare q_mn_0_reader q_mn_0_mill q_mn_0_now q_mn_0_trial q_mn_0_image q_mn_0_steps q_mn_0_notes q_mn_0_futures q_mn_0_order q_mn_0_clapRow u_mn, wScript E (a_T 0) (a_T 1 0) (a_T 2 0) (a_T 3 0) (a_T 4 0) (a_T 5 0) (a_T 6 0) (a_T 7 0) (u_T 0), wRoll E 6 (a_T 1) (u_T 1), wRoll E 6 (a_T 2) (u_T 2), wRoll E 4 (a_T 3) (u_T 3), wRoll E 14 (a_T 4) (u_T 4), wFormula E (a_T 5) (u_T 5), wFormula E (a_T 6) (u_T 6), wFormula E (a_T 7) (u_T 7)] [.ref (a_mn 0), .int x_1] (some (.int res)) := by
  unfold fX11_dearest at hf
  refine MP.ofI rfl (by decide) (Nat.le_of_ble_eq_true rfl) ?_
  intro p e R s m args below meth c ls Q hRf hRl C hP hK hN hl hQ
  have hx := C.1
  have hb := C.2.1
  have hl : lv_has ls 6 [(0, .ref (a_mn 0)), (1, .int x_1)] := hl
  refine lv_aload_n hx hb dX11_dearest_0 rfl (lv_at hl 0 rfl) ?_
  refine gf_X11_X11_told C hK (hP 0 _ rfl) dX11_dearest_1 ?_
  refine gf_X11_X8_guests C hK (hP 1 _ rfl) dX11_dearest_4 ?_
  refine lv_iload_n hx hb dX11_dearest_7 rfl (lv_at hl 1 rfl) ?_
  refine cxVP (As := [.int x_1]) (rest := []) (st1 := [.int (fX7_has 6 (u_T 2) x_1)]) C hK (tX7_has l E 6 (a_T 2) (u_T 2) x_1 (fX7_has 6 (u_T 2) x_1) rfl) lk_X11_143 ⟨rfl, rfl⟩ (by rw [hRf, hRl]; decide) ⟨Nat.zero_le _, Nat.zero_le _⟩ (PB.sub hP [3] rfl) (fun _ _ => rfl) hN (rc_X7 hK (hP 3 _ rfl)) rfl hl.1 rfl rfl (Nat.le_of_ble_eq_true rfl) dX11_dearest_8 ?_
  refine lv_if_ne (tgt := 16) hx hb dX11_dearest_11 (by decide) (fun c1 => ?_) (fun c1 => ?_)
  · have hf := (if_neg c1).symm.trans hf
    refine lv_bipush (v := (-2)) hx hb dX11_dearest_16 (by decide) ?_
    refine lv_istore_n (lv' := [(2, .int (-2 : Int32)), (0, .ref (a_mn 0)), (1, .int x_1)]) hx hb dX11_dearest_18 rfl hl (by decide) rfl (fun ls hl => ?_)
    refine lv_iconst (v := 0) hx hb dX11_dearest_19 (by decide) ?_
    refine lv_istore_n (lv' := [(3, .int (0 : Int32)), (2, .int (-2 : Int32)), (0, .ref (a_mn 0)), (1, .int x_1)]) hx hb dX11_dearest_20 rfl hl (by decide) rfl (fun ls hl => ?_)
    refine lv_iconst (v := 0) hx hb dX11_dearest_21 (by decide) ?_
    refine lv_istore (lv' := [(4, .int (0 : Int32)), (3, .int (0 : Int32)), (2, .int (-2 : Int32)), (0, .ref (a_mn 0)), (1, .int x_1)]) hx hb dX11_dearest_22 hl (by decide) rfl (fun ls hl => ?_)
    obtain ⟨X1, hX1, hf⟩ := ox_bind hf
    have hexit1 : ∀ y16, y16 = X1 → ∀ (ls : Array Slot), lv_has ls 6 [(2, .int y16)] → W p l e R s m args below meth c s.heap [] 0 0 Q (F0 m 86 ls []) := by
      intro y16 hy ls hl
      subst hy
      refine lv_iload_n hx hb dX11_dearest_86 rfl (lv_at hl 0 rfl) ?_
      have hf := Option.some.inj hf
      subst hf
      exact hQ _ _ dX11_dearest_87
    have hloop1 : ∀ (nf : Nat) (x2 : Int32) (x3 : Int32) (x4 : Int32) (ls : Array Slot), lv_has ls 6 [(0, .ref (a_mn 0)), (1, .int x_1), (2, .int x2), (3, .int x3), (4, .int x4)] → fX11_dearest_L1 u_T x_1 nf x2 x3 x4 = some X1 → W p l e R s m args below meth c s.heap [] 0 0 Q (F0 m 24 ls []) := by
      intro nf
      induction nf with
      | zero =>
        intro x2 x3 x4 ls hl hf
        simp [fX11_dearest_L1] at hf
      | succ nf ih =>
        intro x2 x3 x4 ls hl hf
        rw [fX11_dearest_L1] at hf
        refine lv_iload hx hb dX11_dearest_24 (lv_at hl 4 rfl) ?_
        refine lv_aload_n hx hb dX11_dearest_26 rfl (lv_at hl 0 rfl) ?_
        refine gf_X11_X11_told C hK (hP 0 _ rfl) dX11_dearest_27 ?_
        refine gf_X11_X8_acts C hK (hP 1 _ rfl) dX11_dearest_30 ?_
        refine gf_X11_X7_size C hK (hP 2 _ rfl) dX11_dearest_33 ?_
        refine lv_icmp_ge (tgt := 86) hx hb dX11_dearest_36 (by decide) (fun c5 => ?_) (fun c5 => ?_)
        · have hf := (if_pos c5).symm.trans hf
          exact hexit1 _ (Option.some.inj hf) ls (lv_sub hl [2] rfl)
        · have hf := (if_neg c5).symm.trans hf
          refine lv_aload_n hx hb dX11_dearest_39 rfl (lv_at hl 0 rfl) ?_
          refine gf_X11_X11_told C hK (hP 0 _ rfl) dX11_dearest_40 ?_
          refine lv_iload hx hb dX11_dearest_43 (lv_at hl 4 rfl) ?_
          obtain ⟨r6, hr6, hf⟩ := ox_bind hf
          refine cxVP (As := [.int x4]) (rest := []) (st1 := [.int r6]) C hK (tX8_mood l E a_T u_T x4 r6 hr6) lk_X11_174 ⟨rfl, rfl⟩ (by rw [hRf, hRl]; decide) ⟨Nat.zero_le _, Nat.zero_le _⟩ (PB.sub hP [1, 2, 3, 4, 5, 6, 7, 8] rfl) (fun _ _ => rfl) hN (rc_X8 hK (hP 1 _ rfl)) rfl hl.1 rfl rfl (Nat.le_of_ble_eq_true rfl) dX11_dearest_45 ?_
          refine lv_aload_n hx hb dX11_dearest_48 rfl (lv_at hl 0 rfl) ?_
          refine gf_X11_X11_told C hK (hP 0 _ rfl) dX11_dearest_49 ?_
          refine lv_iload_n hx hb dX11_dearest_52 rfl (lv_at hl 1 rfl) ?_
          obtain ⟨r7, hr7, hf⟩ := ox_bind hf
          refine cxVP (As := [.int x_1]) (rest := [.int r6]) (st1 := [.int r7, .int r6]) C hK (tX8_taste l E a_T u_T x_1 r7 hr7) lk_X11_154 ⟨rfl, rfl⟩ (by rw [hRf, hRl]; decide) ⟨Nat.zero_le _, Nat.zero_le _⟩ (PB.sub hP [1, 2, 3, 4, 5, 6, 7, 8] rfl) (fun _ _ => rfl) hN (rc_X8 hK (hP 1 _ rfl)) rfl hl.1 rfl rfl (Nat.le_of_ble_eq_true rfl) dX11_dearest_53 ?_
          refine lv_isub hx hb dX11_dearest_56 ?_
          refine va_mabs hx hb (C.2.2.1.trans hl.1.symm) C.2.2.2.1 (C.2.2.2.2 _ mw_1099) (C.2.2.2.2 _ mm_mabs_s) (C.2.2.2.2 _ mm_ini) (C.2.2.2.2 _ mm_mabs_c) (by rw [hRf]; decide) (by rw [hRl]; exact Nat.le_of_ble_eq_true rfl) (Nat.zero_le _) (Nat.zero_le _) dX11_dearest_57 ?_
          refine lv_topi (fun x8 ex8 => ?_)
          have hf := ox_lt ex8 hf
          refine lv_istore (lv' := [(5, .int x8), (0, .ref (a_mn 0)), (1, .int x_1), (2, .int x2), (3, .int x3), (4, .int x4)]) hx hb dX11_dearest_60 hl (by decide) rfl (fun ls hl => ?_)
          refine lv_iload_n hx hb dX11_dearest_62 rfl (lv_at hl 3 rfl) ?_
          refine lv_bipush (v := (-2)) hx hb dX11_dearest_63 (by decide) ?_
          obtain ⟨j11, ej11, hf⟩ := ox_ex hf
          have hj11 : ∀ (x9 : Int32) (x10 : Int32) (ls : Array Slot), lv_has ls 6 [(0, .ref (a_mn 0)), (1, .int x_1), (2, .int x9), (3, .int x10), (4, .int x4)] → j11 x9 x10 = some X1 → W p l e R s m args below meth c s.heap [] 0 0 Q (F0 m 80 ls []) := by
            intro x9 x10 ls hl hf
            have hf := ox_a2 ej11 hf
            obtain ⟨x12, ex12⟩ : ∃ z : Int32, z = (x4 + 1) := ⟨_, rfl⟩
            have hf := ox_lt ex12 hf
            refine lv_iinc (v := x12) (lv' := [(4, .int x12), (0, .ref (a_mn 0)), (1, .int x_1), (2, .int x9), (3, .int x10)]) hx hb dX11_dearest_80 hl (k := 4) rfl (by rw [ex12]; rfl) (by decide) rfl (fun ls hl => ?_)
            refine lv_goto (tgt := 24) hx hb dX11_dearest_83 (by decide) ?_
            exact ih _ _ _ ls (lv_sub hl [1, 2, 3, 4, 0] rfl) hf
          obtain ⟨j13, ej13, hf⟩ := ox_ex hf
          have hj13 : ∀ (ls : Array Slot), lv_has ls 6 [(0, .ref (a_mn 0)), (1, .int x_1), (4, .int x4), (5, .int x8)] → j13 = some X1 → W p l e R s m args below meth c s.heap [] 0 0 Q (F0 m 74 ls []) := by
            intro ls hl hf
            have hf := ox_a0 ej13 hf
            refine lv_iload hx hb dX11_dearest_74 (lv_at hl 2 rfl) ?_
            refine lv_istore_n (lv' := [(2, .int x4), (0, .ref (a_mn 0)), (1, .int x_1), (4, .int x4), (5, .int x8)]) hx hb dX11_dearest_76 rfl hl (by decide) rfl (fun ls hl => ?_)
            refine lv_iload hx hb dX11_dearest_77 (lv_at hl 4 rfl) ?_
            refine lv_istore_n (lv' := [(3, .int x8), (2, .int x4), (0, .ref (a_mn 0)), (1, .int x_1), (4, .int x4), (5, .int x8)]) hx hb dX11_dearest_79 rfl hl (by decide) rfl (fun ls hl => ?_)
            exact hj11 _ _ ls (lv_sub hl [2, 3, 1, 0, 4] rfl) hf
          refine lv_icmp_eq (tgt := 74) hx hb dX11_dearest_65 (by decide) (fun c14 => ?_) (fun c14 => ?_)
          · have hf := (if_pos c14).symm.trans hf
            exact hj13 ls (lv_sub hl [1, 2, 5, 0] rfl) hf
          · have hf := (if_neg c14).symm.trans hf
            refine lv_iload hx hb dX11_dearest_68 (lv_at hl 0 rfl) ?_
            refine lv_iload_n hx hb dX11_dearest_70 rfl (lv_at hl 4 rfl) ?_
            refine lv_icmp_ge (tgt := 80) hx hb dX11_dearest_71 (by decide) (fun c15 => ?_) (fun c15 => ?_)
            · have hf := (if_pos c15).symm.trans hf
              exact hj11 _ _ ls (lv_sub hl [1, 2, 3, 4, 5] rfl) hf
            · have hf := (if_neg c15).symm.trans hf
              exact hj13 ls (lv_sub hl [1, 2, 5, 0] rfl) hf
    exact hloop1 fuel _ _ _ ls (lv_sub hl [3, 4, 2, 1, 0] rfl) hX1
  · have hf := (if_pos c1).symm.trans hf
    refine lv_iconst (v := (-1)) hx hb dX11_dearest_14 (by decide) ?_
    have hf := Option.some.inj hf
    subst hf
    exact hQ _ _ dX11_dearest_15
set_option maxHeartbeats 4000000 in
set_option maxRecDepth 20000 in
theorem tX11_quiet (l : Launch) (E : Ev) (a_mn : Nat → Nat) (q_mn_0_tape : Nat) (q_mn_0_spare : Nat) (q_mn_0_reader : Nat) (q_mn_0_mill : Nat) (q_mn_0_now : Nat) (q_mn_0_trial : Nat) (q_mn_0_image : Nat) (q_mn_0_steps : Nat) (q_mn_0_notes : Nat) (q_mn_0_futures : Nat) (q_mn_0_order : Nat) (q_mn_0_clapRow : Nat) (u_mn : St) (a_T : Nat → Nat → Nat) (u_T : Nat → St) (x_1 : Int32) (x_2 : Int32) (res : Int64) (hf : fX11_quiet u_mn u_T x_1 x_2 = some res) : MP l E yX11_quiet cX11_quiet 9 (some .long) (rmm 0 0) [wMain E a_mn q_mn_0_tape (a_T 0 0) q_mn_0_spare q_mn_0_reader q_mn_0_mill q_mn_0_now q_mn_0_trial q_mn_0_image q_mn_0_steps q_mn_0_notes q_mn_0_futures q_mn_0_order q_mn_0_clapRow u_mn, wScript E (a_T 0) (a_T 1 0) (a_T 2 0) (a_T 3 0) (a_T 4 0) (a_T 5 0) (a_T 6 0) (a_T 7 0) (u_T 0), wRoll E 6 (a_T 1) (u_T 1), wRoll E 6 (a_T 2) (u_T 2), wRoll E 4 (a_T 3) (u_T 3), wRoll E 14 (a_T 4) (u_T 4), wFormula E (a_T 5) (u_T 5), wFormula E (a_T 6) (u_T 6), wFormula E (a_T 7) (u_T 7)] [.ref (a_mn 0), .int x_1, .int x_2] (some (.long res)) := by
  unfold fX11_quiet at hf
  refine MP.ofL rfl (by decide) (Nat.le_of_ble_eq_true rfl) ?_
  intro p e R s m args below meth c ls Q hRf hRl C hP hK hN hl hQ
  have hx := C.1
  have hb := C.2.1
  have hl : lv_has ls 9 [(0, .ref (a_mn 0)), (1, .int x_1), (2, .int x_2)] := hl
  refine lv_iload_n hx hb dX11_quiet_0 rfl (lv_at hl 1 rfl) ?_
  refine lv_if_lt (tgt := 19) hx hb dX11_quiet_1 (by decide) (fun c1 => ?_) (fun c1 => ?_)
  · have hf := (if_pos c1).symm.trans hf
    refine lv_ldc2 (v := -1) hx hb C.2.2.2.1 (C.2.2.2.2 _ mw_1104) dX11_quiet_19 ?_
    have hf := Option.some.inj hf
    subst hf
    exact hQ _ _ dX11_quiet_22
  · have hf := (if_neg c1).symm.trans hf
    refine lv_iload_n hx hb dX11_quiet_4 rfl (lv_at hl 1 rfl) ?_
    refine lv_bipush (v := 6) hx hb dX11_quiet_5 (by decide) ?_
    refine lv_icmp_gt (tgt := 19) hx hb dX11_quiet_7 (by decide) (fun c2 => ?_) (fun c2 => ?_)
    · have hf := (if_pos c2).symm.trans hf
      refine lv_ldc2 (v := -1) hx hb C.2.2.2.1 (C.2.2.2.2 _ mw_1104) dX11_quiet_19 ?_
      have hf := Option.some.inj hf
      subst hf
      exact hQ _ _ dX11_quiet_22
    · have hf := (if_neg c2).symm.trans hf
      refine lv_iload_n hx hb dX11_quiet_10 rfl (lv_at hl 2 rfl) ?_
      refine lv_if_lt (tgt := 19) hx hb dX11_quiet_11 (by decide) (fun c3 => ?_) (fun c3 => ?_)
      · have hf := (if_pos c3).symm.trans hf
        refine lv_ldc2 (v := -1) hx hb C.2.2.2.1 (C.2.2.2.2 _ mw_1104) dX11_quiet_19 ?_
        have hf := Option.some.inj hf
        subst hf
        exact hQ _ _ dX11_quiet_22
      · have hf := (if_neg c3).symm.trans hf
        refine lv_iload_n hx hb dX11_quiet_14 rfl (lv_at hl 2 rfl) ?_
        refine lv_iconst (v := 1) hx hb dX11_quiet_15 (by decide) ?_
        refine lv_icmp_le (tgt := 23) hx hb dX11_quiet_16 (by decide) (fun c4 => ?_) (fun c4 => ?_)
        · have hf := (if_pos c4).symm.trans hf
          refine lv_bipush (v := 100) hx hb dX11_quiet_23 (by decide) ?_
          refine lv_aload_n hx hb dX11_quiet_25 rfl (lv_at hl 0 rfl) ?_
          refine gf_X11_X11_told C hK (hP 0 _ rfl) dX11_quiet_26 ?_
          refine gf_X11_X8_cough C hK (hP 1 _ rfl) dX11_quiet_29 ?_
          refine lv_isub hx hb dX11_quiet_32 ?_
          refine lv_topi (fun x5 ex5 => ?_)
          have hf := ox_lt ex5 hf
          refine lv_istore_n (lv' := [(3, .int x5), (0, .ref (a_mn 0)), (1, .int x_1), (2, .int x_2)]) hx hb dX11_quiet_33 rfl hl (by decide) rfl (fun ls hl => ?_)
          refine lv_bipush (v := 100) hx hb dX11_quiet_34 (by decide) ?_
          refine lv_istore (lv' := [(4, .int (100 : Int32)), (3, .int x5), (0, .ref (a_mn 0)), (1, .int x_1), (2, .int x_2)]) hx hb dX11_quiet_36 hl (by decide) rfl (fun ls hl => ?_)
          obtain ⟨X1, hX1, hf⟩ := ox_bind hf
          have hexit1 : ∀ y14, y14 = X1 → ∀ (ls : Array Slot), lv_has ls 9 [(1, .int x_1), (2, .int x_2), (3, .int x5), (4, .int y14)] → W p l e R s m args below meth c s.heap [] 0 0 Q (F0 m 65 ls []) := by
            intro y14 hy ls hl
            subst hy
            refine lv_iload_n hx hb dX11_quiet_65 rfl (lv_at hl 1 rfl) ?_
            obtain ⟨j16, ej16, hf⟩ := ox_ex hf
            have hj16 : ∀ (x15 : Int32) (ls : Array Slot), lv_has ls 9 [(1, .int x_1)] → j16 x15 = some res → W p l e R s m args below meth c s.heap [] 0 0 Q (F0 m 81 ls [.int x15]) := by
              intro x15 ls hl hf
              have hf := ox_a1 ej16 hf
              refine lv_istore (lv' := [(5, .int x15), (1, .int x_1)]) hx hb dX11_quiet_81 hl (by decide) rfl (fun ls hl => ?_)
              refine lv_lconst (v := 1) hx hb dX11_quiet_83 (by decide) ?_
              refine lv_lstore (lv' := [(6, .long (1 : Int64)), (5, .int x15), (1, .int x_1)]) hx hb dX11_quiet_84 hl (by decide) rfl (fun ls hl => ?_)
              refine lv_iconst (v := 0) hx hb dX11_quiet_86 (by decide) ?_
              refine lv_istore (lv' := [(8, .int (0 : Int32)), (6, .long (1 : Int64)), (5, .int x15), (1, .int x_1)]) hx hb dX11_quiet_87 hl (by decide) rfl (fun ls hl => ?_)
              obtain ⟨X2, hX2, hf⟩ := ox_bind hf
              have hexit2 : ∀ y22, y22 = X2 → ∀ (ls : Array Slot), lv_has ls 9 [(6, .long y22)] → W p l e R s m args below meth c s.heap [] 0 0 Q (F0 m 109 ls []) := by
                intro y22 hy ls hl
                subst hy
                refine lv_lload hx hb dX11_quiet_109 (lv_at hl 0 rfl) ?_
                have hf := Option.some.inj hf
                subst hf
                exact hQ _ _ dX11_quiet_111
              have hloop2 : ∀ (nf : Nat) (x17 : Int64) (x18 : Int32) (ls : Array Slot), lv_has ls 9 [(1, .int x_1), (5, .int x15), (6, .long x17), (8, .int x18)] → fX11_quiet_L2 x_1 x15 nf x17 x18 = some X2 → W p l e R s m args below meth c s.heap [] 0 0 Q (F0 m 89 ls []) := by
                intro nf
                induction nf with
                | zero =>
                  intro x17 x18 ls hl hf
                  simp [fX11_quiet_L2] at hf
                | succ nf ih =>
                  intro x17 x18 ls hl hf
                  rw [fX11_quiet_L2] at hf
                  refine lv_iload hx hb dX11_quiet_89 (lv_at hl 3 rfl) ?_
                  refine lv_iload_n hx hb dX11_quiet_91 rfl (lv_at hl 0 rfl) ?_
                  refine lv_icmp_ge (tgt := 109) hx hb dX11_quiet_92 (by decide) (fun c19 => ?_) (fun c19 => ?_)
                  · have hf := (if_pos c19).symm.trans hf
                    exact hexit2 _ (Option.some.inj hf) ls (lv_sub hl [2] rfl)
                  · have hf := (if_neg c19).symm.trans hf
                    refine lv_lload hx hb dX11_quiet_95 (lv_at hl 2 rfl) ?_
                    refine lv_iload hx hb dX11_quiet_97 (lv_at hl 1 rfl) ?_
                    refine lv_i2l hx hb dX11_quiet_99 rfl ?_
                    refine lv_lmul hx hb dX11_quiet_100 ?_
                    refine lv_topl (fun x20 ex20 => ?_)
                    have hf := ox_lt ex20 hf
                    refine lv_lstore (lv' := [(6, .long x20), (1, .int x_1), (5, .int x15), (8, .int x18)]) hx hb dX11_quiet_101 hl (by decide) rfl (fun ls hl => ?_)
                    obtain ⟨x21, ex21⟩ : ∃ z : Int32, z = (x18 + 1) := ⟨_, rfl⟩
                    have hf := ox_lt ex21 hf
                    refine lv_iinc (v := x21) (lv' := [(8, .int x21), (6, .long x20), (1, .int x_1), (5, .int x15)]) hx hb dX11_quiet_103 hl (k := 3) rfl (by rw [ex21]; rfl) (by decide) rfl (fun ls hl => ?_)
                    refine lv_goto (tgt := 89) hx hb dX11_quiet_106 (by decide) ?_
                    exact ih _ _ ls (lv_sub hl [2, 3, 1, 0] rfl) hf
              exact hloop2 fuel _ _ ls (lv_sub hl [3, 2, 1, 0] rfl) hX2
            refine lv_if_ne (tgt := 76) hx hb dX11_quiet_66 (by decide) (fun c24 => ?_) (fun c24 => ?_)
            · have hf := (if_neg c24).symm.trans hf
              refine lv_bipush (v := 100) hx hb dX11_quiet_76 (by decide) ?_
              refine lv_iload hx hb dX11_quiet_78 (lv_at hl 3 rfl) ?_
              obtain ⟨hn25, hf⟩ := ox_chk hf
              refine lv_idiv hx hb dX11_quiet_80 hn25 ?_
              exact hj16 _ ls (lv_sub hl [0] rfl) hf
            · have hf := (if_pos c24).symm.trans hf
              refine lv_iload_n hx hb dX11_quiet_69 rfl (lv_at hl 2 rfl) ?_
              refine lv_iload hx hb dX11_quiet_70 (lv_at hl 3 rfl) ?_
              obtain ⟨hn26, hf⟩ := ox_chk hf
              refine lv_idiv hx hb dX11_quiet_72 hn26 ?_
              refine lv_goto (tgt := 81) hx hb dX11_quiet_73 (by decide) ?_
              exact hj16 _ ls (lv_sub hl [0] rfl) hf
          have hloop1 : ∀ (nf : Nat) (x6 : Int32) (ls : Array Slot), lv_has ls 9 [(1, .int x_1), (2, .int x_2), (3, .int x5), (4, .int x6)] → fX11_quiet_L1 x5 nf x6 = some X1 → W p l e R s m args below meth c s.heap [] 0 0 Q (F0 m 38 ls []) := by
            intro nf
            induction nf with
            | zero =>
              intro x6 ls hl hf
              simp [fX11_quiet_L1] at hf
            | succ nf ih =>
              intro x6 ls hl hf
              rw [fX11_quiet_L1] at hf
              refine lv_iload hx hb dX11_quiet_38 (lv_at hl 3 rfl) ?_
              refine lv_iconst (v := 1) hx hb dX11_quiet_40 (by decide) ?_
              refine lv_icmp_le (tgt := 65) hx hb dX11_quiet_41 (by decide) (fun c7 => ?_) (fun c7 => ?_)
              · have hf := (if_pos c7).symm.trans hf
                exact hexit1 _ (Option.some.inj hf) ls (lv_sub hl [0, 1, 2, 3] rfl)
              · have hf := (if_neg c7).symm.trans hf
                refine lv_iload_n hx hb dX11_quiet_44 rfl (lv_at hl 2 rfl) ?_
                refine lv_iload hx hb dX11_quiet_45 (lv_at hl 3 rfl) ?_
                obtain ⟨hn8, hf⟩ := ox_chk hf
                refine lv_irem hx hb dX11_quiet_47 hn8 ?_
                obtain ⟨j9, ej9, hf⟩ := ox_ex hf
                have hj9 : ∀ (ls : Array Slot), lv_has ls 9 [(1, .int x_1), (2, .int x_2), (3, .int x5), (4, .int x6)] → j9 = some X1 → W p l e R s m args below meth c s.heap [] 0 0 Q (F0 m 59 ls []) := by
                  intro ls hl hf
                  have hf := ox_a0 ej9 hf
                  obtain ⟨x10, ex10⟩ : ∃ z : Int32, z = (x6 + (-1)) := ⟨_, rfl⟩
                  have hf := ox_lt ex10 hf
                  refine lv_iinc (v := x10) (lv' := [(4, .int x10), (1, .int x_1), (2, .int x_2), (3, .int x5)]) hx hb dX11_quiet_59 hl (k := 3) rfl (by rw [ex10]; rfl) (by decide) rfl (fun ls hl => ?_)
                  refine lv_goto (tgt := 38) hx hb dX11_quiet_62 (by decide) ?_
                  exact ih _ ls (lv_sub hl [1, 2, 3, 0] rfl) hf
                refine lv_if_ne (tgt := 59) hx hb dX11_quiet_48 (by decide) (fun c11 => ?_) (fun c11 => ?_)
                · have hf := (if_neg c11).symm.trans hf
                  exact hj9 ls (lv_sub hl [0, 1, 2, 3] rfl) hf
                · have hf := (if_pos c11).symm.trans hf
                  refine lv_bipush (v := 100) hx hb dX11_quiet_51 (by decide) ?_
                  refine lv_iload hx hb dX11_quiet_53 (lv_at hl 3 rfl) ?_
                  obtain ⟨hn12, hf⟩ := ox_chk hf
                  refine lv_irem hx hb dX11_quiet_55 hn12 ?_
                  refine lv_if_eq (tgt := 65) hx hb dX11_quiet_56 (by decide) (fun c13 => ?_) (fun c13 => ?_)
                  · have hf := (if_pos c13).symm.trans hf
                    exact hexit1 _ (Option.some.inj hf) ls (lv_sub hl [0, 1, 2, 3] rfl)
                  · have hf := (if_neg c13).symm.trans hf
                    exact hj9 ls (lv_sub hl [0, 1, 2, 3] rfl) hf
          exact hloop1 fuel _ ls (lv_sub hl [3, 4, 1, 0] rfl) hX1
        · have hf := (if_neg c4).symm.trans hf
          refine lv_ldc2 (v := -1) hx hb C.2.2.2.1 (C.2.2.2.2 _ mw_1104) dX11_quiet_19 ?_
          have hf := Option.some.inj hf
          subst hf
          exact hQ _ _ dX11_quiet_22
