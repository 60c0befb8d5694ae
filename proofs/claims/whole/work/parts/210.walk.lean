set_option maxHeartbeats 4000000 in
set_option maxRecDepth 20000 in
theorem tX12_find (l : Launch) (E : Ev) (n_row : Nat) (a_row : Nat → Nat) (u_row : St) (x_1 : Int32) (x_2 : Int32) (x_3 : Int32) (res : Int32) (hf : fX12_find n_row u_row x_1 x_2 x_3 = some res) : MP l E yX12_find cX12_find 5 (some .int) (rmm 0 0) [wIArr E n_row a_row u_row] [.ref (a_row 0), .int x_1, .int x_2, .int x_3] (some (.int res)) := by
  unfold fX12_find at hf
  refine MP.ofI rfl (by decide) (Nat.le_of_ble_eq_true rfl) ?_
  intro p e R s m args below meth c ls Q hRf hRl C hP hK hN hl hQ
  have hx := C.1
  have hb := C.2.1
  have hl : lv_has ls 5 [(0, .ref (a_row 0)), (1, .int x_1), (2, .int x_2), (3, .int x_3)] := hl
  refine lv_iconst (v := 0) hx hb dX12_find_0 (by decide) ?_
  refine lv_istore (lv' := [(4, .int (0 : Int32)), (0, .ref (a_row 0)), (1, .int x_1), (2, .int x_2), (3, .int x_3)]) hx hb dX12_find_1 hl (by decide) rfl (fun ls hl => ?_)
  obtain ⟨X1, hX1, hf⟩ := ox_bind hf
  have hexit1 : ∀ y6, .inl y6 = X1 → ∀ (ls : Array Slot), lv_has ls 5 [] → W p l e R s m args below meth c s.heap [] 0 0 Q (F0 m 28 ls []) := by
    intro y6 hy ls hl
    subst hy
    have hf := ox_inl hf
    refine lv_iconst (v := (-1)) hx hb dX12_find_28 (by decide) ?_
    have hf := Option.some.inj hf
    subst hf
    exact hQ _ _ dX12_find_29
  have hret1 : ∀ r, .inr r = X1 → r = res := by
    intro r hr
    subst hr
    exact Option.some.inj (ox_inr hf)
  have hloop1 : ∀ (nf : Nat) (x1 : Int32) (ls : Array Slot), lv_has ls 5 [(0, .ref (a_row 0)), (1, .int x_1), (2, .int x_2), (3, .int x_3), (4, .int x1)] → fX12_find_L1 u_row n_row x_1 x_2 x_3 nf x1 = some X1 → W p l e R s m args below meth c s.heap [] 0 0 Q (F0 m 3 ls []) := by
    intro nf
    induction nf with
    | zero =>
      intro x1 ls hl hf
      simp [fX12_find_L1] at hf
    | succ nf ih =>
      intro x1 ls hl hf
      rw [fX12_find_L1] at hf
      refine lv_iload hx hb dX12_find_3 (lv_at hl 4 rfl) ?_
      refine lv_iload_n hx hb dX12_find_5 rfl (lv_at hl 2 rfl) ?_
      refine lv_icmp_ge (tgt := 28) hx hb dX12_find_6 (by decide) (fun c2 => ?_) (fun c2 => ?_)
      · have hf := (if_pos c2).symm.trans hf
        exact hexit1 _ (Option.some.inj hf) ls (lv_sub hl [] rfl)
      · have hf := (if_neg c2).symm.trans hf
        refine lv_aload_n hx hb dX12_find_9 rfl (lv_at hl 0 rfl) ?_
        refine lv_iload_n hx hb dX12_find_10 rfl (lv_at hl 1 rfl) ?_
        refine lv_iload hx hb dX12_find_11 (lv_at hl 4 rfl) ?_
        refine lv_iadd hx hb dX12_find_13 ?_
        obtain ⟨hn3, hf⟩ := ox_chk hf
        refine ld_IArr_row C hK (hP 0 _ rfl) hn3 rfl dX12_find_14 ?_
        refine lv_iload_n hx hb dX12_find_15 rfl (lv_at hl 3 rfl) ?_
        refine lv_icmp_ne (tgt := 22) hx hb dX12_find_16 (by decide) (fun c4 => ?_) (fun c4 => ?_)
        · have hf := (if_neg c4).symm.trans hf
          obtain ⟨x5, ex5⟩ : ∃ z : Int32, z = (x1 + 1) := ⟨_, rfl⟩
          have hf := ox_lt ex5 hf
          refine lv_iinc (v := x5) (lv' := [(4, .int x5), (0, .ref (a_row 0)), (1, .int x_1), (2, .int x_2), (3, .int x_3)]) hx hb dX12_find_22 hl (k := 4) rfl (by rw [ex5]; rfl) (by decide) rfl (fun ls hl => ?_)
          refine lv_goto (tgt := 3) hx hb dX12_find_25 (by decide) ?_
          exact ih _ ls (lv_sub hl [1, 2, 3, 4, 0] rfl) hf
        · have hf := (if_pos c4).symm.trans hf
          refine lv_iload hx hb dX12_find_19 (lv_at hl 4 rfl) ?_
          have hf := hret1 _ (Option.some.inj hf)
          subst hf
          exact hQ _ _ dX12_find_21
  exact hloop1 fuel _ ls (lv_sub hl [1, 2, 3, 4, 0] rfl) hX1
set_option maxHeartbeats 4000000 in
set_option maxRecDepth 20000 in
theorem tX12_newName_act (l : Launch) (E : Ev) (a_M : Nat → Nat) (u_M : St) (x_2 : Int32) (x_3 : Int32) (res : Int32 × St) (hf : fX12_newName_act u_M x_2 x_3 = some res) : MX l E yX12_newName cX12_newName 4 (some .boolean) (rmm 2 47) [wModel E a_M u_M] (fun q => [wModel E a_M res.2]) [.ref (a_M 0), .ref (a_M 5), .int x_2, .int x_3] (some (.int res.1)) := by
  unfold fX12_newName_act at hf
  refine MX.ofZZ rfl (by decide) (Nat.le_of_ble_eq_true rfl) ?_
  intro p e R s m args below meth c ls Q ad H hRf hRl C hB hD hK hN hl hQ
  generalize hlocs : ([] : List Loc) = locs at hB ⊢
  clear hlocs
  have hx := C.1
  have hb := C.2.1
  have hl : lv_has ls 4 [(0, .ref (a_M 0)), (1, .ref (a_M 5)), (2, .int x_2), (3, .int x_3)] := hl
  refine lv_aload_n hx hb dX12_newName_0 rfl (lv_at hl 0 rfl) ?_
  refine gf_X12_X12_kind C hK (hB.1 0 _ rfl) dX12_newName_1 ?_
  refine lv_iconst (v := 2) hx hb dX12_newName_4 (by decide) ?_
  refine lv_icmp_eq (tgt := 14) hx hb dX12_newName_5 (by decide) (fun c1 => ?_) (fun c1 => ?_)
  · have hf := (if_pos c1).symm.trans hf
    refine lv_aload_n hx hb dX12_newName_14 rfl (lv_at hl 1 rfl) ?_
    refine lv_iload_n hx hb dX12_newName_15 rfl (lv_at hl 2 rfl) ?_
    refine lv_iload_n hx hb dX12_newName_16 rfl (lv_at hl 3 rfl) ?_
    refine lv_aload_n hx hb dX12_newName_17 rfl (lv_at hl 0 rfl) ?_
    refine gf_X12_X12_which C hK (hB.1 0 _ rfl) dX12_newName_18 ?_
    obtain ⟨r2, hr2, hf⟩ := ox_bind hf
    refine cxSP (As := [.ref (a_M 5), .int x_2, .int x_3, .int (gI u_M 9)]) (rest := []) (st1 := [.int r2]) C hK (tX12_find l E 12 (fun _ => a_M 5) (vwA u_M 24) x_2 x_3 (gI u_M 9) r2 hr2) lk_X12_259 ⟨rfl, rfl⟩ (by rw [hRf, hRl]; decide) ⟨Nat.zero_le _, Nat.zero_le _⟩ (PB.view hB.1 (i := 0) (k := 5) rfl rfl) (hB.old hD hN) (Nat.le_trans hN hB.2.2.1) rfl hl.1 rfl rfl (Nat.le_of_ble_eq_true rfl) dX12_newName_21 ?_
    refine lv_if_lt (tgt := 33) hx hb dX12_newName_24 (by decide) (fun c3 => ?_) (fun c3 => ?_)
    · have hf := (if_pos c3).symm.trans hf
      refine lv_aload_n hx hb dX12_newName_33 rfl (lv_at hl 1 rfl) ?_
      refine lv_iload_n hx hb dX12_newName_34 rfl (lv_at hl 2 rfl) ?_
      refine lv_iload_n hx hb dX12_newName_35 rfl (lv_at hl 3 rfl) ?_
      refine lv_iadd hx hb dX12_newName_36 ?_
      refine lv_aload_n hx hb dX12_newName_37 rfl (lv_at hl 0 rfl) ?_
      refine gf_X12_X12_which C hK (hB.1 0 _ rfl) dX12_newName_38 ?_
      refine lv_topi (fun x4 ex4 => ?_)
      have hf := ox_lt ex4 hf
      obtain ⟨hn5, hf⟩ := ox_chk hf
      refine st_X12_actName C hK hB hD 0 rfl hn5 rfl dX12_newName_41 (fun H locs u6 eu6 hB => ?_)
      have hf := ox_lt eu6 hf
      have hB : WB E ad s.heap [wModel E a_M u6] H locs := hB
      refine lv_aload_n hx hb dX12_newName_42 rfl (lv_at hl 0 rfl) ?_
      obtain ⟨r7, hr7, hf⟩ := ox_bind hf
      refine cxVX (bs1 := (fun q => [wModel E a_M r7])) (As := []) (rest := []) (st1 := []) C hK (tX12_token l E a_M u6 r7 hr7) lk_X12_209 (by rw [hRf, hRl]; decide) ⟨Nat.zero_le _, Nat.zero_le _⟩ hB hD hN [0] (by decide) rfl (fun _ => rfl) (fun _ => rfl) (rc_X12 hK (hB.1 0 _ rfl)) rfl hl.1 rfl rfl (Nat.le_of_ble_eq_true rfl) dX12_newName_43 (fun H locs q8 hB => ?_)
      have hB : WB E ad s.heap [wModel E a_M r7] H locs := hB
      refine lv_iconst (v := 1) hx hb dX12_newName_46 (by decide) ?_
      have hf := Option.some.inj hf
      subst hf
      exact hQ _ _ H locs (fun _ => 0) (1 : Int32) bz1 hB dX12_newName_47
    · have hf := (if_neg c3).symm.trans hf
      refine lv_aload_n hx hb dX12_newName_27 rfl (lv_at hl 0 rfl) ?_
      refine lv_iconst (v := 3) hx hb dX12_newName_28 (by decide) ?_
      obtain ⟨r9, er9, hf⟩ := ox_ex hf
      refine cxVX (bs1 := (fun q => [wModel E a_M r9.2])) (As := [.int (3 : Int32)]) (rest := []) (st1 := [.int r9.1]) C hK (tX12_wrong l E a_M u_M (3 : Int32) r9 er9.symm) lk_X12_199 (by rw [hRf, hRl]; decide) ⟨Nat.zero_le _, Nat.zero_le _⟩ hB hD hN [0] (by decide) rfl (fun _ => rfl) (fun _ => rfl) (rc_X12 hK (hB.1 0 _ rfl)) rfl hl.1 rfl rfl (Nat.le_of_ble_eq_true rfl) dX12_newName_29 (fun H locs q10 hB => ?_)
      have hB : WB E ad s.heap [wModel E a_M r9.2] H locs := hB
      have hf := Option.some.inj hf
      subst hf
      exact hQ _ _ H locs (fun _ => 0) r9.1 rfl hB dX12_newName_32
  · have hf := (if_neg c1).symm.trans hf
    refine lv_aload_n hx hb dX12_newName_8 rfl (lv_at hl 0 rfl) ?_
    refine lv_iconst (v := 1) hx hb dX12_newName_9 (by decide) ?_
    obtain ⟨r11, er11, hf⟩ := ox_ex hf
    refine cxVX (bs1 := (fun q => [wModel E a_M r11.2])) (As := [.int (1 : Int32)]) (rest := []) (st1 := [.int r11.1]) C hK (tX12_wrong l E a_M u_M (1 : Int32) r11 er11.symm) lk_X12_199 (by rw [hRf, hRl]; decide) ⟨Nat.zero_le _, Nat.zero_le _⟩ hB hD hN [0] (by decide) rfl (fun _ => rfl) (fun _ => rfl) (rc_X12 hK (hB.1 0 _ rfl)) rfl hl.1 rfl rfl (Nat.le_of_ble_eq_true rfl) dX12_newName_10 (fun H locs q12 hB => ?_)
    have hB : WB E ad s.heap [wModel E a_M r11.2] H locs := hB
    have hf := Option.some.inj hf
    subst hf
    exact hQ _ _ H locs (fun _ => 0) r11.1 rfl hB dX12_newName_13
set_option maxHeartbeats 4000000 in
set_option maxRecDepth 20000 in
theorem tX12_newName_guest (l : Launch) (E : Ev) (a_M : Nat → Nat) (u_M : St) (x_2 : Int32) (x_3 : Int32) (res : Int32 × St) (hf : fX12_newName_guest u_M x_2 x_3 = some res) : MX l E yX12_newName cX12_newName 4 (some .boolean) (rmm 2 47) [wModel E a_M u_M] (fun q => [wModel E a_M res.2]) [.ref (a_M 0), .ref (a_M 8), .int x_2, .int x_3] (some (.int res.1)) := by
  unfold fX12_newName_guest at hf
  refine MX.ofZZ rfl (by decide) (Nat.le_of_ble_eq_true rfl) ?_
  intro p e R s m args below meth c ls Q ad H hRf hRl C hB hD hK hN hl hQ
  generalize hlocs : ([] : List Loc) = locs at hB ⊢
  clear hlocs
  have hx := C.1
  have hb := C.2.1
  have hl : lv_has ls 4 [(0, .ref (a_M 0)), (1, .ref (a_M 8)), (2, .int x_2), (3, .int x_3)] := hl
  refine lv_aload_n hx hb dX12_newName_0 rfl (lv_at hl 0 rfl) ?_
  refine gf_X12_X12_kind C hK (hB.1 0 _ rfl) dX12_newName_1 ?_
  refine lv_iconst (v := 2) hx hb dX12_newName_4 (by decide) ?_
  refine lv_icmp_eq (tgt := 14) hx hb dX12_newName_5 (by decide) (fun c1 => ?_) (fun c1 => ?_)
  · have hf := (if_pos c1).symm.trans hf
    refine lv_aload_n hx hb dX12_newName_14 rfl (lv_at hl 1 rfl) ?_
    refine lv_iload_n hx hb dX12_newName_15 rfl (lv_at hl 2 rfl) ?_
    refine lv_iload_n hx hb dX12_newName_16 rfl (lv_at hl 3 rfl) ?_
    refine lv_aload_n hx hb dX12_newName_17 rfl (lv_at hl 0 rfl) ?_
    refine gf_X12_X12_which C hK (hB.1 0 _ rfl) dX12_newName_18 ?_
    obtain ⟨r2, hr2, hf⟩ := ox_bind hf
    refine cxSP (As := [.ref (a_M 8), .int x_2, .int x_3, .int (gI u_M 9)]) (rest := []) (st1 := [.int r2]) C hK (tX12_find l E 12 (fun _ => a_M 8) (vwA u_M 27) x_2 x_3 (gI u_M 9) r2 hr2) lk_X12_259 ⟨rfl, rfl⟩ (by rw [hRf, hRl]; decide) ⟨Nat.zero_le _, Nat.zero_le _⟩ (PB.view hB.1 (i := 0) (k := 8) rfl rfl) (hB.old hD hN) (Nat.le_trans hN hB.2.2.1) rfl hl.1 rfl rfl (Nat.le_of_ble_eq_true rfl) dX12_newName_21 ?_
    refine lv_if_lt (tgt := 33) hx hb dX12_newName_24 (by decide) (fun c3 => ?_) (fun c3 => ?_)
    · have hf := (if_pos c3).symm.trans hf
      refine lv_aload_n hx hb dX12_newName_33 rfl (lv_at hl 1 rfl) ?_
      refine lv_iload_n hx hb dX12_newName_34 rfl (lv_at hl 2 rfl) ?_
      refine lv_iload_n hx hb dX12_newName_35 rfl (lv_at hl 3 rfl) ?_
      refine lv_iadd hx hb dX12_newName_36 ?_
      refine lv_aload_n hx hb dX12_newName_37 rfl (lv_at hl 0 rfl) ?_
      refine gf_X12_X12_which C hK (hB.1 0 _ rfl) dX12_newName_38 ?_
      refine lv_topi (fun x4 ex4 => ?_)
      have hf := ox_lt ex4 hf
      obtain ⟨hn5, hf⟩ := ox_chk hf
      refine st_X12_guestName C hK hB hD 0 rfl hn5 rfl dX12_newName_41 (fun H locs u6 eu6 hB => ?_)
      have hf := ox_lt eu6 hf
      have hB : WB E ad s.heap [wModel E a_M u6] H locs := hB
      refine lv_aload_n hx hb dX12_newName_42 rfl (lv_at hl 0 rfl) ?_
      obtain ⟨r7, hr7, hf⟩ := ox_bind hf
      refine cxVX (bs1 := (fun q => [wModel E a_M r7])) (As := []) (rest := []) (st1 := []) C hK (tX12_token l E a_M u6 r7 hr7) lk_X12_209 (by rw [hRf, hRl]; decide) ⟨Nat.zero_le _, Nat.zero_le _⟩ hB hD hN [0] (by decide) rfl (fun _ => rfl) (fun _ => rfl) (rc_X12 hK (hB.1 0 _ rfl)) rfl hl.1 rfl rfl (Nat.le_of_ble_eq_true rfl) dX12_newName_43 (fun H locs q8 hB => ?_)
      have hB : WB E ad s.heap [wModel E a_M r7] H locs := hB
      refine lv_iconst (v := 1) hx hb dX12_newName_46 (by decide) ?_
      have hf := Option.some.inj hf
      subst hf
      exact hQ _ _ H locs (fun _ => 0) (1 : Int32) bz1 hB dX12_newName_47
    · have hf := (if_neg c3).symm.trans hf
      refine lv_aload_n hx hb dX12_newName_27 rfl (lv_at hl 0 rfl) ?_
      refine lv_iconst (v := 3) hx hb dX12_newName_28 (by decide) ?_
      obtain ⟨r9, er9, hf⟩ := ox_ex hf
      refine cxVX (bs1 := (fun q => [wModel E a_M r9.2])) (As := [.int (3 : Int32)]) (rest := []) (st1 := [.int r9.1]) C hK (tX12_wrong l E a_M u_M (3 : Int32) r9 er9.symm) lk_X12_199 (by rw [hRf, hRl]; decide) ⟨Nat.zero_le _, Nat.zero_le _⟩ hB hD hN [0] (by decide) rfl (fun _ => rfl) (fun _ => rfl) (rc_X12 hK (hB.1 0 _ rfl)) rfl hl.1 rfl rfl (Nat.le_of_ble_eq_true rfl) dX12_newName_29 (fun H locs q10 hB => ?_)
      have hB : WB E ad s.heap [wModel E a_M r9.2] H locs := hB
      have hf := Option.some.inj hf
      subst hf
      exact hQ _ _ H locs (fun _ => 0) r9.1 rfl hB dX12_newName_32
  · have hf := (if_neg c1).symm.trans hf
    refine lv_aload_n hx hb dX12_newName_8 rfl (lv_at hl 0 rfl) ?_
    refine lv_iconst (v := 1) hx hb dX12_newName_9 (by decide) ?_
    obtain ⟨r11, er11, hf⟩ := ox_ex hf
    refine cxVX (bs1 := (fun q => [wModel E a_M r11.2])) (As := [.int (1 : Int32)]) (rest := []) (st1 := [.int r11.1]) C hK (tX12_wrong l E a_M u_M (1 : Int32) r11 er11.symm) lk_X12_199 (by rw [hRf, hRl]; decide) ⟨Nat.zero_le _, Nat.zero_le _⟩ hB hD hN [0] (by decide) rfl (fun _ => rfl) (fun _ => rfl) (rc_X12 hK (hB.1 0 _ rfl)) rfl hl.1 rfl rfl (Nat.le_of_ble_eq_true rfl) dX12_newName_10 (fun H locs q12 hB => ?_)
    have hB : WB E ad s.heap [wModel E a_M r11.2] H locs := hB
    have hf := Option.some.inj hf
    subst hf
    exact hQ _ _ H locs (fun _ => 0) r11.1 rfl hB dX12_newName_13
set_option maxHeartbeats 4000000 in
set_option maxRecDepth 20000 in
theorem tX12_newName_grain (l : Launch) (E : Ev) (a_M : Nat → Nat) (u_M : St) (x_2 : Int32) (x_3 : Int32) (res : Int32 × St) (hf : fX12_newName_grain u_M x_2 x_3 = some res) : MX l E yX12_newName cX12_newName 4 (some .boolean) (rmm 2 47) [wModel E a_M u_M] (fun q => [wModel E a_M res.2]) [.ref (a_M 0), .ref (a_M 11), .int x_2, .int x_3] (some (.int res.1)) := by
  unfold fX12_newName_grain at hf
  refine MX.ofZZ rfl (by decide) (Nat.le_of_ble_eq_true rfl) ?_
  intro p e R s m args below meth c ls Q ad H hRf hRl C hB hD hK hN hl hQ
  generalize hlocs : ([] : List Loc) = locs at hB ⊢
  clear hlocs
  have hx := C.1
  have hb := C.2.1
  have hl : lv_has ls 4 [(0, .ref (a_M 0)), (1, .ref (a_M 11)), (2, .int x_2), (3, .int x_3)] := hl
  refine lv_aload_n hx hb dX12_newName_0 rfl (lv_at hl 0 rfl) ?_
  refine gf_X12_X12_kind C hK (hB.1 0 _ rfl) dX12_newName_1 ?_
  refine lv_iconst (v := 2) hx hb dX12_newName_4 (by decide) ?_
  refine lv_icmp_eq (tgt := 14) hx hb dX12_newName_5 (by decide) (fun c1 => ?_) (fun c1 => ?_)
  · have hf := (if_pos c1).symm.trans hf
    refine lv_aload_n hx hb dX12_newName_14 rfl (lv_at hl 1 rfl) ?_
    refine lv_iload_n hx hb dX12_newName_15 rfl (lv_at hl 2 rfl) ?_
    refine lv_iload_n hx hb dX12_newName_16 rfl (lv_at hl 3 rfl) ?_
    refine lv_aload_n hx hb dX12_newName_17 rfl (lv_at hl 0 rfl) ?_
    refine gf_X12_X12_which C hK (hB.1 0 _ rfl) dX12_newName_18 ?_
    obtain ⟨r2, hr2, hf⟩ := ox_bind hf
    refine cxSP (As := [.ref (a_M 11), .int x_2, .int x_3, .int (gI u_M 9)]) (rest := []) (st1 := [.int r2]) C hK (tX12_find l E 8 (fun _ => a_M 11) (vwA u_M 30) x_2 x_3 (gI u_M 9) r2 hr2) lk_X12_259 ⟨rfl, rfl⟩ (by rw [hRf, hRl]; decide) ⟨Nat.zero_le _, Nat.zero_le _⟩ (PB.view hB.1 (i := 0) (k := 11) rfl rfl) (hB.old hD hN) (Nat.le_trans hN hB.2.2.1) rfl hl.1 rfl rfl (Nat.le_of_ble_eq_true rfl) dX12_newName_21 ?_
    refine lv_if_lt (tgt := 33) hx hb dX12_newName_24 (by decide) (fun c3 => ?_) (fun c3 => ?_)
    · have hf := (if_pos c3).symm.trans hf
      refine lv_aload_n hx hb dX12_newName_33 rfl (lv_at hl 1 rfl) ?_
      refine lv_iload_n hx hb dX12_newName_34 rfl (lv_at hl 2 rfl) ?_
      refine lv_iload_n hx hb dX12_newName_35 rfl (lv_at hl 3 rfl) ?_
      refine lv_iadd hx hb dX12_newName_36 ?_
      refine lv_aload_n hx hb dX12_newName_37 rfl (lv_at hl 0 rfl) ?_
      refine gf_X12_X12_which C hK (hB.1 0 _ rfl) dX12_newName_38 ?_
      refine lv_topi (fun x4 ex4 => ?_)
      have hf := ox_lt ex4 hf
      obtain ⟨hn5, hf⟩ := ox_chk hf
      refine st_X12_grainName C hK hB hD 0 rfl hn5 rfl dX12_newName_41 (fun H locs u6 eu6 hB => ?_)
      have hf := ox_lt eu6 hf
      have hB : WB E ad s.heap [wModel E a_M u6] H locs := hB
      refine lv_aload_n hx hb dX12_newName_42 rfl (lv_at hl 0 rfl) ?_
      obtain ⟨r7, hr7, hf⟩ := ox_bind hf
      refine cxVX (bs1 := (fun q => [wModel E a_M r7])) (As := []) (rest := []) (st1 := []) C hK (tX12_token l E a_M u6 r7 hr7) lk_X12_209 (by rw [hRf, hRl]; decide) ⟨Nat.zero_le _, Nat.zero_le _⟩ hB hD hN [0] (by decide) rfl (fun _ => rfl) (fun _ => rfl) (rc_X12 hK (hB.1 0 _ rfl)) rfl hl.1 rfl rfl (Nat.le_of_ble_eq_true rfl) dX12_newName_43 (fun H locs q8 hB => ?_)
      have hB : WB E ad s.heap [wModel E a_M r7] H locs := hB
      refine lv_iconst (v := 1) hx hb dX12_newName_46 (by decide) ?_
      have hf := Option.some.inj hf
      subst hf
      exact hQ _ _ H locs (fun _ => 0) (1 : Int32) bz1 hB dX12_newName_47
    · have hf := (if_neg c3).symm.trans hf
      refine lv_aload_n hx hb dX12_newName_27 rfl (lv_at hl 0 rfl) ?_
      refine lv_iconst (v := 3) hx hb dX12_newName_28 (by decide) ?_
      obtain ⟨r9, er9, hf⟩ := ox_ex hf
      refine cxVX (bs1 := (fun q => [wModel E a_M r9.2])) (As := [.int (3 : Int32)]) (rest := []) (st1 := [.int r9.1]) C hK (tX12_wrong l E a_M u_M (3 : Int32) r9 er9.symm) lk_X12_199 (by rw [hRf, hRl]; decide) ⟨Nat.zero_le _, Nat.zero_le _⟩ hB hD hN [0] (by decide) rfl (fun _ => rfl) (fun _ => rfl) (rc_X12 hK (hB.1 0 _ rfl)) rfl hl.1 rfl rfl (Nat.le_of_ble_eq_true rfl) dX12_newName_29 (fun H locs q10 hB => ?_)
      have hB : WB E ad s.heap [wModel E a_M r9.2] H locs := hB
      have hf := Option.some.inj hf
      subst hf
      exact hQ _ _ H locs (fun _ => 0) r9.1 rfl hB dX12_newName_32
  · have hf := (if_neg c1).symm.trans hf
    refine lv_aload_n hx hb dX12_newName_8 rfl (lv_at hl 0 rfl) ?_
    refine lv_iconst (v := 1) hx hb dX12_newName_9 (by decide) ?_
    obtain ⟨r11, er11, hf⟩ := ox_ex hf
    refine cxVX (bs1 := (fun q => [wModel E a_M r11.2])) (As := [.int (1 : Int32)]) (rest := []) (st1 := [.int r11.1]) C hK (tX12_wrong l E a_M u_M (1 : Int32) r11 er11.symm) lk_X12_199 (by rw [hRf, hRl]; decide) ⟨Nat.zero_le _, Nat.zero_le _⟩ hB hD hN [0] (by decide) rfl (fun _ => rfl) (fun _ => rfl) (rc_X12 hK (hB.1 0 _ rfl)) rfl hl.1 rfl rfl (Nat.le_of_ble_eq_true rfl) dX12_newName_10 (fun H locs q12 hB => ?_)
    have hB : WB E ad s.heap [wModel E a_M r11.2] H locs := hB
    have hf := Option.some.inj hf
    subst hf
    exact hQ _ _ H locs (fun _ => 0) r11.1 rfl hB dX12_newName_13
set_option maxHeartbeats 4000000 in
set_option maxRecDepth 20000 in
theorem tX12_actLine (l : Launch) (E : Ev) (a_M : Nat → Nat) (u_M : St) (res : Int32 × St) (hf : fX12_actLine u_M = some res) : MX l E yX12_actLine cX12_actLine 2 (some .boolean) (rmm 3 70) [wModel E a_M u_M] (fun q => [wModel E a_M res.2]) [.ref (a_M 0)] (some (.int res.1)) := by
  unfold fX12_actLine at hf
  refine MX.ofZZ rfl (by decide) (Nat.le_of_ble_eq_true rfl) ?_
  intro p e R s m args below meth c ls Q ad H hRf hRl C hB hD hK hN hl hQ
  generalize hlocs : ([] : List Loc) = locs at hB ⊢
  clear hlocs
  have hx := C.1
  have hb := C.2.1
  have hl : lv_has ls 2 [(0, .ref (a_M 0))] := hl
  refine lv_aload_n hx hb dX12_actLine_0 rfl (lv_at hl 0 rfl) ?_
  refine gf_X12_X12_actsRead C hK (hB.1 0 _ rfl) dX12_actLine_1 ?_
  refine lv_bipush (v := 6) hx hb dX12_actLine_4 (by decide) ?_
  refine lv_icmp_ne (tgt := 15) hx hb dX12_actLine_6 (by decide) (fun c1 => ?_) (fun c1 => ?_)
  · have hf := (if_neg c1).symm.trans hf
    refine lv_aload_n hx hb dX12_actLine_15 rfl (lv_at hl 0 rfl) ?_
    obtain ⟨r2, hr2, hf⟩ := ox_bind hf
    refine cxVX (bs1 := (fun q => [wModel E a_M r2])) (As := []) (rest := []) (st1 := []) C hK (tX12_token l E a_M u_M r2 hr2) lk_X12_209 (by rw [hRf, hRl]; decide) ⟨Nat.zero_le _, Nat.zero_le _⟩ hB hD hN [0] (by decide) rfl (fun _ => rfl) (fun _ => rfl) (rc_X12 hK (hB.1 0 _ rfl)) rfl hl.1 rfl rfl (Nat.le_of_ble_eq_true rfl) dX12_actLine_16 (fun H locs q3 hB => ?_)
    have hB : WB E ad s.heap [wModel E a_M r2] H locs := hB
    refine lv_aload_n hx hb dX12_actLine_19 rfl (lv_at hl 0 rfl) ?_
    refine lv_aload_n hx hb dX12_actLine_20 rfl (lv_at hl 0 rfl) ?_
    refine gf_X12_X12_actName C hK (hB.1 0 _ rfl) dX12_actLine_21 ?_
    refine lv_bipush (v := 6) hx hb dX12_actLine_24 (by decide) ?_
    refine lv_aload_n hx hb dX12_actLine_26 rfl (lv_at hl 0 rfl) ?_
    refine gf_X12_X12_actsRead C hK (hB.1 0 _ rfl) dX12_actLine_27 ?_
    obtain ⟨r4, hr4, hf⟩ := ox_bind hf
    refine cxVX (bs1 := (fun q => [wModel E a_M r4.2])) (As := [.ref (a_M 5), .int (6 : Int32), .int (gI r2 17)]) (rest := []) (st1 := [.int r4.1]) C hK (tX12_newName_act l E a_M r2 (6 : Int32) (gI r2 17) r4 hr4) lk_X12_263 (by rw [hRf, hRl]; decide) ⟨Nat.zero_le _, Nat.zero_le _⟩ hB hD hN [0] (by decide) rfl (fun _ => rfl) (fun _ => rfl) (rc_X12 hK (hB.1 0 _ rfl)) rfl hl.1 rfl rfl (Nat.le_of_ble_eq_true rfl) dX12_actLine_30 (fun H locs q5 hB => ?_)
    have hB : WB E ad s.heap [wModel E a_M r4.2] H locs := hB
    refine lv_if_ne (tgt := 38) hx hb dX12_actLine_33 (by decide) (fun c6 => ?_) (fun c6 => ?_)
    · have hf := (if_neg c6).symm.trans hf
      refine lv_bipush (v := 6) hx hb dX12_actLine_38 (by decide) ?_
      refine lv_aload_n hx hb dX12_actLine_40 rfl (lv_at hl 0 rfl) ?_
      refine gf_X12_X12_actsRead C hK (hB.1 0 _ rfl) dX12_actLine_41 ?_
      refine lv_iadd hx hb dX12_actLine_44 ?_
      refine lv_topi (fun x7 ex7 => ?_)
      have hf := ox_lt ex7 hf
      refine lv_istore_n (lv' := [(1, .int x7), (0, .ref (a_M 0))]) hx hb dX12_actLine_45 rfl hl (by decide) rfl (fun ls hl => ?_)
      refine lv_aload_n hx hb dX12_actLine_46 rfl (lv_at hl 1 rfl) ?_
      refine lv_iconst (v := 0) hx hb dX12_actLine_47 (by decide) ?_
      refine lv_bipush (v := 9) hx hb dX12_actLine_48 (by decide) ?_
      obtain ⟨r8, hr8, hf⟩ := ox_bind hf
      refine cxVX (bs1 := (fun q => [wModel E a_M r8.2])) (As := [.int (0 : Int32), .int (9 : Int32)]) (rest := []) (st1 := [.int r8.1]) C hK (tX12_number l E a_M (r4.2) (0 : Int32) (9 : Int32) r8 hr8) lk_X12_215 (by rw [hRf, hRl]; decide) ⟨Nat.zero_le _, Nat.zero_le _⟩ hB hD hN [0] (by decide) rfl (fun _ => rfl) (fun _ => rfl) (rc_X12 hK (hB.1 0 _ rfl)) rfl hl.1 rfl rfl (Nat.le_of_ble_eq_true rfl) dX12_actLine_50 (fun H locs q9 hB => ?_)
      have hB : WB E ad s.heap [wModel E a_M r8.2] H locs := hB
      refine lv_if_ne (tgt := 58) hx hb dX12_actLine_53 (by decide) (fun c10 => ?_) (fun c10 => ?_)
      · have hf := (if_neg c10).symm.trans hf
        refine lv_aload_n hx hb dX12_actLine_58 rfl (lv_at hl 1 rfl) ?_
        refine gf_X12_X12_actMood C hK (hB.1 0 _ rfl) dX12_actLine_59 ?_
        refine lv_iload_n hx hb dX12_actLine_62 rfl (lv_at hl 0 rfl) ?_
        refine lv_aload_n hx hb dX12_actLine_63 rfl (lv_at hl 1 rfl) ?_
        refine gf_X12_X12_got C hK (hB.1 0 _ rfl) dX12_actLine_64 ?_
        refine lv_topi (fun x11 ex11 => ?_)
        have hf := ox_lt ex11 hf
        obtain ⟨hn12, hf⟩ := ox_chk hf
        refine st_X12_actMood C hK hB hD 0 rfl hn12 rfl dX12_actLine_67 (fun H locs u13 eu13 hB => ?_)
        have hf := ox_lt eu13 hf
        have hB : WB E ad s.heap [wModel E a_M u13] H locs := hB
        refine lv_aload_n hx hb dX12_actLine_68 rfl (lv_at hl 1 rfl) ?_
        refine lv_iconst (v := 1) hx hb dX12_actLine_69 (by decide) ?_
        refine lv_bipush (v := 9) hx hb dX12_actLine_70 (by decide) ?_
        obtain ⟨r14, hr14, hf⟩ := ox_bind hf
        refine cxVX (bs1 := (fun q => [wModel E a_M r14.2])) (As := [.int (1 : Int32), .int (9 : Int32)]) (rest := []) (st1 := [.int r14.1]) C hK (tX12_number l E a_M u13 (1 : Int32) (9 : Int32) r14 hr14) lk_X12_215 (by rw [hRf, hRl]; decide) ⟨Nat.zero_le _, Nat.zero_le _⟩ hB hD hN [0] (by decide) rfl (fun _ => rfl) (fun _ => rfl) (rc_X12 hK (hB.1 0 _ rfl)) rfl hl.1 rfl rfl (Nat.le_of_ble_eq_true rfl) dX12_actLine_72 (fun H locs q15 hB => ?_)
        have hB : WB E ad s.heap [wModel E a_M r14.2] H locs := hB
        refine lv_if_ne (tgt := 80) hx hb dX12_actLine_75 (by decide) (fun c16 => ?_) (fun c16 => ?_)
        · have hf := (if_neg c16).symm.trans hf
          refine lv_aload_n hx hb dX12_actLine_80 rfl (lv_at hl 1 rfl) ?_
          refine gf_X12_X12_actLength C hK (hB.1 0 _ rfl) dX12_actLine_81 ?_
          refine lv_iload_n hx hb dX12_actLine_84 rfl (lv_at hl 0 rfl) ?_
          refine lv_aload_n hx hb dX12_actLine_85 rfl (lv_at hl 1 rfl) ?_
          refine gf_X12_X12_got C hK (hB.1 0 _ rfl) dX12_actLine_86 ?_
          refine lv_topi (fun x17 ex17 => ?_)
          have hf := ox_lt ex17 hf
          obtain ⟨hn18, hf⟩ := ox_chk hf
          refine st_X12_actLength C hK hB hD 0 rfl hn18 rfl dX12_actLine_89 (fun H locs u19 eu19 hB => ?_)
          have hf := ox_lt eu19 hf
          have hB : WB E ad s.heap [wModel E a_M u19] H locs := hB
          refine lv_aload_n hx hb dX12_actLine_90 rfl (lv_at hl 1 rfl) ?_
          refine lv_dup hx hb dX12_actLine_91 rfl ?_
          refine gf_X12_X12_actsRead C hK (hB.1 0 _ rfl) dX12_actLine_92 ?_
          refine lv_iconst (v := 1) hx hb dX12_actLine_95 (by decide) ?_
          refine lv_iadd hx hb dX12_actLine_96 ?_
          refine lv_topi (fun x20 ex20 => ?_)
          have hf := ox_lt ex20 hf
          refine pf_X12_X12_actsRead C hK hB hD 0 rfl dX12_actLine_97 (fun H locs u21 eu21 hB => ?_)
          have hf := ox_lt eu21 hf
          have hB : WB E ad s.heap [wModel E a_M u21] H locs := hB
          refine lv_iconst (v := 1) hx hb dX12_actLine_100 (by decide) ?_
          have hf := Option.some.inj hf
          subst hf
          exact hQ _ _ H locs (fun _ => 0) (1 : Int32) bz1 hB dX12_actLine_101
        · have hf := (if_pos c16).symm.trans hf
          refine lv_iconst (v := 0) hx hb dX12_actLine_78 (by decide) ?_
          have hf := Option.some.inj hf
          subst hf
          exact hQ _ _ H locs (fun _ => 0) (0 : Int32) bz0 hB dX12_actLine_79
      · have hf := (if_pos c10).symm.trans hf
        refine lv_iconst (v := 0) hx hb dX12_actLine_56 (by decide) ?_
        have hf := Option.some.inj hf
        subst hf
        exact hQ _ _ H locs (fun _ => 0) (0 : Int32) bz0 hB dX12_actLine_57
    · have hf := (if_pos c6).symm.trans hf
      refine lv_iconst (v := 0) hx hb dX12_actLine_36 (by decide) ?_
      have hf := Option.some.inj hf
      subst hf
      exact hQ _ _ H locs (fun _ => 0) (0 : Int32) bz0 hB dX12_actLine_37
  · have hf := (if_pos c1).symm.trans hf
    refine lv_aload_n hx hb dX12_actLine_9 rfl (lv_at hl 0 rfl) ?_
    refine lv_iconst (v := 2) hx hb dX12_actLine_10 (by decide) ?_
    obtain ⟨r22, er22, hf⟩ := ox_ex hf
    refine cxVX (bs1 := (fun q => [wModel E a_M r22.2])) (As := [.int (2 : Int32)]) (rest := []) (st1 := [.int r22.1]) C hK (tX12_wrong l E a_M u_M (2 : Int32) r22 er22.symm) lk_X12_199 (by rw [hRf, hRl]; decide) ⟨Nat.zero_le _, Nat.zero_le _⟩ hB hD hN [0] (by decide) rfl (fun _ => rfl) (fun _ => rfl) (rc_X12 hK (hB.1 0 _ rfl)) rfl hl.1 rfl rfl (Nat.le_of_ble_eq_true rfl) dX12_actLine_11 (fun H locs q23 hB => ?_)
    have hB : WB E ad s.heap [wModel E a_M r22.2] H locs := hB
    have hf := Option.some.inj hf
    subst hf
    exact hQ _ _ H locs (fun _ => 0) r22.1 rfl hB dX12_actLine_14
set_option maxHeartbeats 4000000 in
set_option maxRecDepth 20000 in
theorem tX12_guestLine (l : Launch) (E : Ev) (a_M : Nat → Nat) (u_M : St) (res : Int32 × St) (hf : fX12_guestLine u_M = some res) : MX l E yX12_guestLine cX12_guestLine 2 (some .boolean) (rmm 3 70) [wModel E a_M u_M] (fun q => [wModel E a_M res.2]) [.ref (a_M 0)] (some (.int res.1)) := by
  unfold fX12_guestLine at hf
  refine MX.ofZZ rfl (by decide) (Nat.le_of_ble_eq_true rfl) ?_
  intro p e R s m args below meth c ls Q ad H hRf hRl C hB hD hK hN hl hQ
  generalize hlocs : ([] : List Loc) = locs at hB ⊢
  clear hlocs
  have hx := C.1
  have hb := C.2.1
  have hl : lv_has ls 2 [(0, .ref (a_M 0))] := hl
  refine lv_aload_n hx hb dX12_guestLine_0 rfl (lv_at hl 0 rfl) ?_
  refine gf_X12_X12_guestsRead C hK (hB.1 0 _ rfl) dX12_guestLine_1 ?_
  refine lv_bipush (v := 6) hx hb dX12_guestLine_4 (by decide) ?_
  refine lv_icmp_ne (tgt := 15) hx hb dX12_guestLine_6 (by decide) (fun c1 => ?_) (fun c1 => ?_)
  · have hf := (if_neg c1).symm.trans hf
    refine lv_aload_n hx hb dX12_guestLine_15 rfl (lv_at hl 0 rfl) ?_
    obtain ⟨r2, hr2, hf⟩ := ox_bind hf
    refine cxVX (bs1 := (fun q => [wModel E a_M r2])) (As := []) (rest := []) (st1 := []) C hK (tX12_token l E a_M u_M r2 hr2) lk_X12_209 (by rw [hRf, hRl]; decide) ⟨Nat.zero_le _, Nat.zero_le _⟩ hB hD hN [0] (by decide) rfl (fun _ => rfl) (fun _ => rfl) (rc_X12 hK (hB.1 0 _ rfl)) rfl hl.1 rfl rfl (Nat.le_of_ble_eq_true rfl) dX12_guestLine_16 (fun H locs q3 hB => ?_)
    have hB : WB E ad s.heap [wModel E a_M r2] H locs := hB
    refine lv_aload_n hx hb dX12_guestLine_19 rfl (lv_at hl 0 rfl) ?_
    refine lv_aload_n hx hb dX12_guestLine_20 rfl (lv_at hl 0 rfl) ?_
    refine gf_X12_X12_guestName C hK (hB.1 0 _ rfl) dX12_guestLine_21 ?_
    refine lv_bipush (v := 6) hx hb dX12_guestLine_24 (by decide) ?_
    refine lv_aload_n hx hb dX12_guestLine_26 rfl (lv_at hl 0 rfl) ?_
    refine gf_X12_X12_guestsRead C hK (hB.1 0 _ rfl) dX12_guestLine_27 ?_
    obtain ⟨r4, hr4, hf⟩ := ox_bind hf
    refine cxVX (bs1 := (fun q => [wModel E a_M r4.2])) (As := [.ref (a_M 8), .int (6 : Int32), .int (gI r2 18)]) (rest := []) (st1 := [.int r4.1]) C hK (tX12_newName_guest l E a_M r2 (6 : Int32) (gI r2 18) r4 hr4) lk_X12_263 (by rw [hRf, hRl]; decide) ⟨Nat.zero_le _, Nat.zero_le _⟩ hB hD hN [0] (by decide) rfl (fun _ => rfl) (fun _ => rfl) (rc_X12 hK (hB.1 0 _ rfl)) rfl hl.1 rfl rfl (Nat.le_of_ble_eq_true rfl) dX12_guestLine_30 (fun H locs q5 hB => ?_)
    have hB : WB E ad s.heap [wModel E a_M r4.2] H locs := hB
    refine lv_if_ne (tgt := 38) hx hb dX12_guestLine_33 (by decide) (fun c6 => ?_) (fun c6 => ?_)
    · have hf := (if_neg c6).symm.trans hf
      refine lv_bipush (v := 6) hx hb dX12_guestLine_38 (by decide) ?_
      refine lv_aload_n hx hb dX12_guestLine_40 rfl (lv_at hl 0 rfl) ?_
      refine gf_X12_X12_guestsRead C hK (hB.1 0 _ rfl) dX12_guestLine_41 ?_
      refine lv_iadd hx hb dX12_guestLine_44 ?_
      refine lv_topi (fun x7 ex7 => ?_)
      have hf := ox_lt ex7 hf
      refine lv_istore_n (lv' := [(1, .int x7), (0, .ref (a_M 0))]) hx hb dX12_guestLine_45 rfl hl (by decide) rfl (fun ls hl => ?_)
      refine lv_aload_n hx hb dX12_guestLine_46 rfl (lv_at hl 1 rfl) ?_
      refine lv_iconst (v := 0) hx hb dX12_guestLine_47 (by decide) ?_
      refine lv_bipush (v := 9) hx hb dX12_guestLine_48 (by decide) ?_
      obtain ⟨r8, hr8, hf⟩ := ox_bind hf
      refine cxVX (bs1 := (fun q => [wModel E a_M r8.2])) (As := [.int (0 : Int32), .int (9 : Int32)]) (rest := []) (st1 := [.int r8.1]) C hK (tX12_number l E a_M (r4.2) (0 : Int32) (9 : Int32) r8 hr8) lk_X12_215 (by rw [hRf, hRl]; decide) ⟨Nat.zero_le _, Nat.zero_le _⟩ hB hD hN [0] (by decide) rfl (fun _ => rfl) (fun _ => rfl) (rc_X12 hK (hB.1 0 _ rfl)) rfl hl.1 rfl rfl (Nat.le_of_ble_eq_true rfl) dX12_guestLine_50 (fun H locs q9 hB => ?_)
      have hB : WB E ad s.heap [wModel E a_M r8.2] H locs := hB
      refine lv_if_ne (tgt := 58) hx hb dX12_guestLine_53 (by decide) (fun c10 => ?_) (fun c10 => ?_)
      · have hf := (if_neg c10).symm.trans hf
        refine lv_aload_n hx hb dX12_guestLine_58 rfl (lv_at hl 1 rfl) ?_
        refine gf_X12_X12_guestTaste C hK (hB.1 0 _ rfl) dX12_guestLine_59 ?_
        refine lv_iload_n hx hb dX12_guestLine_62 rfl (lv_at hl 0 rfl) ?_
        refine lv_aload_n hx hb dX12_guestLine_63 rfl (lv_at hl 1 rfl) ?_
        refine gf_X12_X12_got C hK (hB.1 0 _ rfl) dX12_guestLine_64 ?_
        refine lv_topi (fun x11 ex11 => ?_)
        have hf := ox_lt ex11 hf
        obtain ⟨hn12, hf⟩ := ox_chk hf
        refine st_X12_guestTaste C hK hB hD 0 rfl hn12 rfl dX12_guestLine_67 (fun H locs u13 eu13 hB => ?_)
        have hf := ox_lt eu13 hf
        have hB : WB E ad s.heap [wModel E a_M u13] H locs := hB
        refine lv_aload_n hx hb dX12_guestLine_68 rfl (lv_at hl 1 rfl) ?_
        refine lv_iconst (v := 0) hx hb dX12_guestLine_69 (by decide) ?_
        refine lv_bipush (v := 9) hx hb dX12_guestLine_70 (by decide) ?_
        obtain ⟨r14, hr14, hf⟩ := ox_bind hf
        refine cxVX (bs1 := (fun q => [wModel E a_M r14.2])) (As := [.int (0 : Int32), .int (9 : Int32)]) (rest := []) (st1 := [.int r14.1]) C hK (tX12_number l E a_M u13 (0 : Int32) (9 : Int32) r14 hr14) lk_X12_215 (by rw [hRf, hRl]; decide) ⟨Nat.zero_le _, Nat.zero_le _⟩ hB hD hN [0] (by decide) rfl (fun _ => rfl) (fun _ => rfl) (rc_X12 hK (hB.1 0 _ rfl)) rfl hl.1 rfl rfl (Nat.le_of_ble_eq_true rfl) dX12_guestLine_72 (fun H locs q15 hB => ?_)
        have hB : WB E ad s.heap [wModel E a_M r14.2] H locs := hB
        refine lv_if_ne (tgt := 80) hx hb dX12_guestLine_75 (by decide) (fun c16 => ?_) (fun c16 => ?_)
        · have hf := (if_neg c16).symm.trans hf
          refine lv_aload_n hx hb dX12_guestLine_80 rfl (lv_at hl 1 rfl) ?_
          refine gf_X12_X12_guestHunger C hK (hB.1 0 _ rfl) dX12_guestLine_81 ?_
          refine lv_iload_n hx hb dX12_guestLine_84 rfl (lv_at hl 0 rfl) ?_
          refine lv_aload_n hx hb dX12_guestLine_85 rfl (lv_at hl 1 rfl) ?_
          refine gf_X12_X12_got C hK (hB.1 0 _ rfl) dX12_guestLine_86 ?_
          refine lv_topi (fun x17 ex17 => ?_)
          have hf := ox_lt ex17 hf
          obtain ⟨hn18, hf⟩ := ox_chk hf
          refine st_X12_guestHunger C hK hB hD 0 rfl hn18 rfl dX12_guestLine_89 (fun H locs u19 eu19 hB => ?_)
          have hf := ox_lt eu19 hf
          have hB : WB E ad s.heap [wModel E a_M u19] H locs := hB
          refine lv_aload_n hx hb dX12_guestLine_90 rfl (lv_at hl 1 rfl) ?_
          refine lv_dup hx hb dX12_guestLine_91 rfl ?_
          refine gf_X12_X12_guestsRead C hK (hB.1 0 _ rfl) dX12_guestLine_92 ?_
          refine lv_iconst (v := 1) hx hb dX12_guestLine_95 (by decide) ?_
          refine lv_iadd hx hb dX12_guestLine_96 ?_
          refine lv_topi (fun x20 ex20 => ?_)
          have hf := ox_lt ex20 hf
          refine pf_X12_X12_guestsRead C hK hB hD 0 rfl dX12_guestLine_97 (fun H locs u21 eu21 hB => ?_)
          have hf := ox_lt eu21 hf
          have hB : WB E ad s.heap [wModel E a_M u21] H locs := hB
          refine lv_iconst (v := 1) hx hb dX12_guestLine_100 (by decide) ?_
          have hf := Option.some.inj hf
          subst hf
          exact hQ _ _ H locs (fun _ => 0) (1 : Int32) bz1 hB dX12_guestLine_101
        · have hf := (if_pos c16).symm.trans hf
          refine lv_iconst (v := 0) hx hb dX12_guestLine_78 (by decide) ?_
          have hf := Option.some.inj hf
          subst hf
          exact hQ _ _ H locs (fun _ => 0) (0 : Int32) bz0 hB dX12_guestLine_79
      · have hf := (if_pos c10).symm.trans hf
        refine lv_iconst (v := 0) hx hb dX12_guestLine_56 (by decide) ?_
        have hf := Option.some.inj hf
        subst hf
        exact hQ _ _ H locs (fun _ => 0) (0 : Int32) bz0 hB dX12_guestLine_57
    · have hf := (if_pos c6).symm.trans hf
      refine lv_iconst (v := 0) hx hb dX12_guestLine_36 (by decide) ?_
      have hf := Option.some.inj hf
      subst hf
      exact hQ _ _ H locs (fun _ => 0) (0 : Int32) bz0 hB dX12_guestLine_37
  · have hf := (if_pos c1).symm.trans hf
    refine lv_aload_n hx hb dX12_guestLine_9 rfl (lv_at hl 0 rfl) ?_
    refine lv_iconst (v := 2) hx hb dX12_guestLine_10 (by decide) ?_
    obtain ⟨r22, er22, hf⟩ := ox_ex hf
    refine cxVX (bs1 := (fun q => [wModel E a_M r22.2])) (As := [.int (2 : Int32)]) (rest := []) (st1 := [.int r22.1]) C hK (tX12_wrong l E a_M u_M (2 : Int32) r22 er22.symm) lk_X12_199 (by rw [hRf, hRl]; decide) ⟨Nat.zero_le _, Nat.zero_le _⟩ hB hD hN [0] (by decide) rfl (fun _ => rfl) (fun _ => rfl) (rc_X12 hK (hB.1 0 _ rfl)) rfl hl.1 rfl rfl (Nat.le_of_ble_eq_true rfl) dX12_guestLine_11 (fun H locs q23 hB => ?_)
    have hB : WB E ad s.heap [wModel E a_M r22.2] H locs := hB
    have hf := Option.some.inj hf
    subst hf
    exact hQ _ _ H locs (fun _ => 0) r22.1 rfl hB dX12_guestLine_14
set_option maxHeartbeats 4000000 in
set_option maxRecDepth 20000 in
theorem tX12_grainLine (l : Launch) (E : Ev) (a_M : Nat → Nat) (u_M : St) (res : Int32 × St) (hf : fX12_grainLine u_M = some res) : MX l E yX12_grainLine cX12_grainLine 2 (some .boolean) (rmm 3 70) [wModel E a_M u_M] (fun q => [wModel E a_M res.2]) [.ref (a_M 0)] (some (.int res.1)) := by
  unfold fX12_grainLine at hf
  refine MX.ofZZ rfl (by decide) (Nat.le_of_ble_eq_true rfl) ?_
  intro p e R s m args below meth c ls Q ad H hRf hRl C hB hD hK hN hl hQ
  generalize hlocs : ([] : List Loc) = locs at hB ⊢
  clear hlocs
  have hx := C.1
  have hb := C.2.1
  have hl : lv_has ls 2 [(0, .ref (a_M 0))] := hl
  refine lv_aload_n hx hb dX12_grainLine_0 rfl (lv_at hl 0 rfl) ?_
  refine gf_X12_X12_grainsRead C hK (hB.1 0 _ rfl) dX12_grainLine_1 ?_
  refine lv_iconst (v := 4) hx hb dX12_grainLine_4 (by decide) ?_
  refine lv_icmp_ne (tgt := 14) hx hb dX12_grainLine_5 (by decide) (fun c1 => ?_) (fun c1 => ?_)
  · have hf := (if_neg c1).symm.trans hf
    refine lv_aload_n hx hb dX12_grainLine_14 rfl (lv_at hl 0 rfl) ?_
    obtain ⟨r2, hr2, hf⟩ := ox_bind hf
    refine cxVX (bs1 := (fun q => [wModel E a_M r2])) (As := []) (rest := []) (st1 := []) C hK (tX12_token l E a_M u_M r2 hr2) lk_X12_209 (by rw [hRf, hRl]; decide) ⟨Nat.zero_le _, Nat.zero_le _⟩ hB hD hN [0] (by decide) rfl (fun _ => rfl) (fun _ => rfl) (rc_X12 hK (hB.1 0 _ rfl)) rfl hl.1 rfl rfl (Nat.le_of_ble_eq_true rfl) dX12_grainLine_15 (fun H locs q3 hB => ?_)
    have hB : WB E ad s.heap [wModel E a_M r2] H locs := hB
    refine lv_aload_n hx hb dX12_grainLine_18 rfl (lv_at hl 0 rfl) ?_
    refine lv_aload_n hx hb dX12_grainLine_19 rfl (lv_at hl 0 rfl) ?_
    refine gf_X12_X12_grainName C hK (hB.1 0 _ rfl) dX12_grainLine_20 ?_
    refine lv_iconst (v := 4) hx hb dX12_grainLine_23 (by decide) ?_
    refine lv_aload_n hx hb dX12_grainLine_24 rfl (lv_at hl 0 rfl) ?_
    refine gf_X12_X12_grainsRead C hK (hB.1 0 _ rfl) dX12_grainLine_25 ?_
    obtain ⟨r4, hr4, hf⟩ := ox_bind hf
    refine cxVX (bs1 := (fun q => [wModel E a_M r4.2])) (As := [.ref (a_M 11), .int (4 : Int32), .int (gI r2 19)]) (rest := []) (st1 := [.int r4.1]) C hK (tX12_newName_grain l E a_M r2 (4 : Int32) (gI r2 19) r4 hr4) lk_X12_263 (by rw [hRf, hRl]; decide) ⟨Nat.zero_le _, Nat.zero_le _⟩ hB hD hN [0] (by decide) rfl (fun _ => rfl) (fun _ => rfl) (rc_X12 hK (hB.1 0 _ rfl)) rfl hl.1 rfl rfl (Nat.le_of_ble_eq_true rfl) dX12_grainLine_28 (fun H locs q5 hB => ?_)
    have hB : WB E ad s.heap [wModel E a_M r4.2] H locs := hB
    refine lv_if_ne (tgt := 36) hx hb dX12_grainLine_31 (by decide) (fun c6 => ?_) (fun c6 => ?_)
    · have hf := (if_neg c6).symm.trans hf
      refine lv_iconst (v := 4) hx hb dX12_grainLine_36 (by decide) ?_
      refine lv_aload_n hx hb dX12_grainLine_37 rfl (lv_at hl 0 rfl) ?_
      refine gf_X12_X12_grainsRead C hK (hB.1 0 _ rfl) dX12_grainLine_38 ?_
      refine lv_iadd hx hb dX12_grainLine_41 ?_
      refine lv_topi (fun x7 ex7 => ?_)
      have hf := ox_lt ex7 hf
      refine lv_istore_n (lv' := [(1, .int x7), (0, .ref (a_M 0))]) hx hb dX12_grainLine_42 rfl hl (by decide) rfl (fun ls hl => ?_)
      refine lv_aload_n hx hb dX12_grainLine_43 rfl (lv_at hl 1 rfl) ?_
      refine lv_iconst (v := 0) hx hb dX12_grainLine_44 (by decide) ?_
      refine lv_bipush (v := 99) hx hb dX12_grainLine_45 (by decide) ?_
      obtain ⟨r8, hr8, hf⟩ := ox_bind hf
      refine cxVX (bs1 := (fun q => [wModel E a_M r8.2])) (As := [.int (0 : Int32), .int (99 : Int32)]) (rest := []) (st1 := [.int r8.1]) C hK (tX12_number l E a_M (r4.2) (0 : Int32) (99 : Int32) r8 hr8) lk_X12_215 (by rw [hRf, hRl]; decide) ⟨Nat.zero_le _, Nat.zero_le _⟩ hB hD hN [0] (by decide) rfl (fun _ => rfl) (fun _ => rfl) (rc_X12 hK (hB.1 0 _ rfl)) rfl hl.1 rfl rfl (Nat.le_of_ble_eq_true rfl) dX12_grainLine_47 (fun H locs q9 hB => ?_)
      have hB : WB E ad s.heap [wModel E a_M r8.2] H locs := hB
      refine lv_if_ne (tgt := 55) hx hb dX12_grainLine_50 (by decide) (fun c10 => ?_) (fun c10 => ?_)
      · have hf := (if_neg c10).symm.trans hf
        refine lv_aload_n hx hb dX12_grainLine_55 rfl (lv_at hl 1 rfl) ?_
        refine gf_X12_X12_grainLow C hK (hB.1 0 _ rfl) dX12_grainLine_56 ?_
        refine lv_iload_n hx hb dX12_grainLine_59 rfl (lv_at hl 0 rfl) ?_
        refine lv_aload_n hx hb dX12_grainLine_60 rfl (lv_at hl 1 rfl) ?_
        refine gf_X12_X12_got C hK (hB.1 0 _ rfl) dX12_grainLine_61 ?_
        refine lv_topi (fun x11 ex11 => ?_)
        have hf := ox_lt ex11 hf
        obtain ⟨hn12, hf⟩ := ox_chk hf
        refine st_X12_grainLow C hK hB hD 0 rfl hn12 rfl dX12_grainLine_64 (fun H locs u13 eu13 hB => ?_)
        have hf := ox_lt eu13 hf
        have hB : WB E ad s.heap [wModel E a_M u13] H locs := hB
        refine lv_aload_n hx hb dX12_grainLine_65 rfl (lv_at hl 1 rfl) ?_
        refine lv_iconst (v := 0) hx hb dX12_grainLine_66 (by decide) ?_
        refine lv_bipush (v := 99) hx hb dX12_grainLine_67 (by decide) ?_
        obtain ⟨r14, hr14, hf⟩ := ox_bind hf
        refine cxVX (bs1 := (fun q => [wModel E a_M r14.2])) (As := [.int (0 : Int32), .int (99 : Int32)]) (rest := []) (st1 := [.int r14.1]) C hK (tX12_number l E a_M u13 (0 : Int32) (99 : Int32) r14 hr14) lk_X12_215 (by rw [hRf, hRl]; decide) ⟨Nat.zero_le _, Nat.zero_le _⟩ hB hD hN [0] (by decide) rfl (fun _ => rfl) (fun _ => rfl) (rc_X12 hK (hB.1 0 _ rfl)) rfl hl.1 rfl rfl (Nat.le_of_ble_eq_true rfl) dX12_grainLine_69 (fun H locs q15 hB => ?_)
        have hB : WB E ad s.heap [wModel E a_M r14.2] H locs := hB
        refine lv_if_ne (tgt := 77) hx hb dX12_grainLine_72 (by decide) (fun c16 => ?_) (fun c16 => ?_)
        · have hf := (if_neg c16).symm.trans hf
          refine lv_aload_n hx hb dX12_grainLine_77 rfl (lv_at hl 1 rfl) ?_
          refine gf_X12_X12_grainHigh C hK (hB.1 0 _ rfl) dX12_grainLine_78 ?_
          refine lv_iload_n hx hb dX12_grainLine_81 rfl (lv_at hl 0 rfl) ?_
          refine lv_aload_n hx hb dX12_grainLine_82 rfl (lv_at hl 1 rfl) ?_
          refine gf_X12_X12_got C hK (hB.1 0 _ rfl) dX12_grainLine_83 ?_
          refine lv_topi (fun x17 ex17 => ?_)
          have hf := ox_lt ex17 hf
          obtain ⟨hn18, hf⟩ := ox_chk hf
          refine st_X12_grainHigh C hK hB hD 0 rfl hn18 rfl dX12_grainLine_86 (fun H locs u19 eu19 hB => ?_)
          have hf := ox_lt eu19 hf
          have hB : WB E ad s.heap [wModel E a_M u19] H locs := hB
          refine lv_aload_n hx hb dX12_grainLine_87 rfl (lv_at hl 1 rfl) ?_
          refine lv_iconst (v := 0) hx hb dX12_grainLine_88 (by decide) ?_
          refine lv_bipush (v := 99) hx hb dX12_grainLine_89 (by decide) ?_
          obtain ⟨r20, hr20, hf⟩ := ox_bind hf
          refine cxVX (bs1 := (fun q => [wModel E a_M r20.2])) (As := [.int (0 : Int32), .int (99 : Int32)]) (rest := []) (st1 := [.int r20.1]) C hK (tX12_number l E a_M u19 (0 : Int32) (99 : Int32) r20 hr20) lk_X12_215 (by rw [hRf, hRl]; decide) ⟨Nat.zero_le _, Nat.zero_le _⟩ hB hD hN [0] (by decide) rfl (fun _ => rfl) (fun _ => rfl) (rc_X12 hK (hB.1 0 _ rfl)) rfl hl.1 rfl rfl (Nat.le_of_ble_eq_true rfl) dX12_grainLine_91 (fun H locs q21 hB => ?_)
          have hB : WB E ad s.heap [wModel E a_M r20.2] H locs := hB
          refine lv_if_ne (tgt := 99) hx hb dX12_grainLine_94 (by decide) (fun c22 => ?_) (fun c22 => ?_)
          · have hf := (if_neg c22).symm.trans hf
            refine lv_aload_n hx hb dX12_grainLine_99 rfl (lv_at hl 1 rfl) ?_
            refine gf_X12_X12_grainSacks C hK (hB.1 0 _ rfl) dX12_grainLine_100 ?_
            refine lv_iload_n hx hb dX12_grainLine_103 rfl (lv_at hl 0 rfl) ?_
            refine lv_aload_n hx hb dX12_grainLine_104 rfl (lv_at hl 1 rfl) ?_
            refine gf_X12_X12_got C hK (hB.1 0 _ rfl) dX12_grainLine_105 ?_
            refine lv_topi (fun x23 ex23 => ?_)
            have hf := ox_lt ex23 hf
            obtain ⟨hn24, hf⟩ := ox_chk hf
            refine st_X12_grainSacks C hK hB hD 0 rfl hn24 rfl dX12_grainLine_108 (fun H locs u25 eu25 hB => ?_)
            have hf := ox_lt eu25 hf
            have hB : WB E ad s.heap [wModel E a_M u25] H locs := hB
            refine lv_aload_n hx hb dX12_grainLine_109 rfl (lv_at hl 1 rfl) ?_
            refine lv_dup hx hb dX12_grainLine_110 rfl ?_
            refine gf_X12_X12_grainsRead C hK (hB.1 0 _ rfl) dX12_grainLine_111 ?_
            refine lv_iconst (v := 1) hx hb dX12_grainLine_114 (by decide) ?_
            refine lv_iadd hx hb dX12_grainLine_115 ?_
            refine lv_topi (fun x26 ex26 => ?_)
            have hf := ox_lt ex26 hf
            refine pf_X12_X12_grainsRead C hK hB hD 0 rfl dX12_grainLine_116 (fun H locs u27 eu27 hB => ?_)
            have hf := ox_lt eu27 hf
            have hB : WB E ad s.heap [wModel E a_M u27] H locs := hB
            refine lv_iconst (v := 1) hx hb dX12_grainLine_119 (by decide) ?_
            have hf := Option.some.inj hf
            subst hf
            exact hQ _ _ H locs (fun _ => 0) (1 : Int32) bz1 hB dX12_grainLine_120
          · have hf := (if_pos c22).symm.trans hf
            refine lv_iconst (v := 0) hx hb dX12_grainLine_97 (by decide) ?_
            have hf := Option.some.inj hf
            subst hf
            exact hQ _ _ H locs (fun _ => 0) (0 : Int32) bz0 hB dX12_grainLine_98
        · have hf := (if_pos c16).symm.trans hf
          refine lv_iconst (v := 0) hx hb dX12_grainLine_75 (by decide) ?_
          have hf := Option.some.inj hf
          subst hf
          exact hQ _ _ H locs (fun _ => 0) (0 : Int32) bz0 hB dX12_grainLine_76
      · have hf := (if_pos c10).symm.trans hf
        refine lv_iconst (v := 0) hx hb dX12_grainLine_53 (by decide) ?_
        have hf := Option.some.inj hf
        subst hf
        exact hQ _ _ H locs (fun _ => 0) (0 : Int32) bz0 hB dX12_grainLine_54
    · have hf := (if_pos c6).symm.trans hf
      refine lv_iconst (v := 0) hx hb dX12_grainLine_34 (by decide) ?_
      have hf := Option.some.inj hf
      subst hf
      exact hQ _ _ H locs (fun _ => 0) (0 : Int32) bz0 hB dX12_grainLine_35
  · have hf := (if_pos c1).symm.trans hf
    refine lv_aload_n hx hb dX12_grainLine_8 rfl (lv_at hl 0 rfl) ?_
    refine lv_iconst (v := 2) hx hb dX12_grainLine_9 (by decide) ?_
    obtain ⟨r28, er28, hf⟩ := ox_ex hf
    refine cxVX (bs1 := (fun q => [wModel E a_M r28.2])) (As := [.int (2 : Int32)]) (rest := []) (st1 := [.int r28.1]) C hK (tX12_wrong l E a_M u_M (2 : Int32) r28 er28.symm) lk_X12_199 (by rw [hRf, hRl]; decide) ⟨Nat.zero_le _, Nat.zero_le _⟩ hB hD hN [0] (by decide) rfl (fun _ => rfl) (fun _ => rfl) (rc_X12 hK (hB.1 0 _ rfl)) rfl hl.1 rfl rfl (Nat.le_of_ble_eq_true rfl) dX12_grainLine_10 (fun H locs q29 hB => ?_)
    have hB : WB E ad s.heap [wModel E a_M r28.2] H locs := hB
    have hf := Option.some.inj hf
    subst hf
    exact hQ _ _ H locs (fun _ => 0) r28.1 rfl hB dX12_grainLine_13
set_option maxHeartbeats 4000000 in
set_option maxRecDepth 20000 in
theorem tX12_showLine (l : Launch) (E : Ev) (a_M : Nat → Nat) (u_M : St) (res : Int32 × St) (hf : fX12_showLine u_M = some res) : MX l E yX12_showLine cX12_showLine 2 (some .boolean) (rmm 3 69) [wModel E a_M u_M] (fun q => [wModel E a_M res.2]) [.ref (a_M 0)] (some (.int res.1)) := by
  unfold fX12_showLine at hf
  refine MX.ofZZ rfl (by decide) (Nat.le_of_ble_eq_true rfl) ?_
  intro p e R s m args below meth c ls Q ad H hRf hRl C hB hD hK hN hl hQ
  generalize hlocs : ([] : List Loc) = locs at hB ⊢
  clear hlocs
  have hx := C.1
  have hb := C.2.1
  have hl : lv_has ls 2 [(0, .ref (a_M 0))] := hl
  refine lv_aload_n hx hb dX12_showLine_0 rfl (lv_at hl 0 rfl) ?_
  refine gf_X12_X12_showsRead C hK (hB.1 0 _ rfl) dX12_showLine_1 ?_
  refine lv_bipush (v := 14) hx hb dX12_showLine_4 (by decide) ?_
  refine lv_icmp_ne (tgt := 15) hx hb dX12_showLine_6 (by decide) (fun c1 => ?_) (fun c1 => ?_)
  · have hf := (if_neg c1).symm.trans hf
    refine lv_aload_n hx hb dX12_showLine_15 rfl (lv_at hl 0 rfl) ?_
    obtain ⟨r2, hr2, hf⟩ := ox_bind hf
    refine cxVX (bs1 := (fun q => [wModel E a_M r2])) (As := []) (rest := []) (st1 := []) C hK (tX12_token l E a_M u_M r2 hr2) lk_X12_209 (by rw [hRf, hRl]; decide) ⟨Nat.zero_le _, Nat.zero_le _⟩ hB hD hN [0] (by decide) rfl (fun _ => rfl) (fun _ => rfl) (rc_X12 hK (hB.1 0 _ rfl)) rfl hl.1 rfl rfl (Nat.le_of_ble_eq_true rfl) dX12_showLine_16 (fun H locs q3 hB => ?_)
    have hB : WB E ad s.heap [wModel E a_M r2] H locs := hB
    refine lv_aload_n hx hb dX12_showLine_19 rfl (lv_at hl 0 rfl) ?_
    refine gf_X12_X12_kind C hK (hB.1 0 _ rfl) dX12_showLine_20 ?_
    refine lv_iconst (v := 2) hx hb dX12_showLine_23 (by decide) ?_
    refine lv_icmp_eq (tgt := 33) hx hb dX12_showLine_24 (by decide) (fun c4 => ?_) (fun c4 => ?_)
    · have hf := (if_pos c4).symm.trans hf
      refine lv_aload_n hx hb dX12_showLine_33 rfl (lv_at hl 0 rfl) ?_
      refine gf_X12_X12_actName C hK (hB.1 0 _ rfl) dX12_showLine_34 ?_
      refine lv_bipush (v := 6) hx hb dX12_showLine_37 (by decide) ?_
      refine lv_aload_n hx hb dX12_showLine_39 rfl (lv_at hl 0 rfl) ?_
      refine gf_X12_X12_actsRead C hK (hB.1 0 _ rfl) dX12_showLine_40 ?_
      refine lv_aload_n hx hb dX12_showLine_43 rfl (lv_at hl 0 rfl) ?_
      refine gf_X12_X12_which C hK (hB.1 0 _ rfl) dX12_showLine_44 ?_
      obtain ⟨r5, hr5, hf⟩ := ox_bind hf
      refine cxSP (As := [.ref (a_M 5), .int (6 : Int32), .int (gI r2 17), .int (gI r2 9)]) (rest := []) (st1 := [.int r5]) C hK (tX12_find l E 12 (fun _ => a_M 5) (vwA r2 24) (6 : Int32) (gI r2 17) (gI r2 9) r5 hr5) lk_X12_259 ⟨rfl, rfl⟩ (by rw [hRf, hRl]; decide) ⟨Nat.zero_le _, Nat.zero_le _⟩ (PB.view hB.1 (i := 0) (k := 5) rfl rfl) (hB.old hD hN) (Nat.le_trans hN hB.2.2.1) rfl hl.1 rfl rfl (Nat.le_of_ble_eq_true rfl) dX12_showLine_47 ?_
      refine lv_istore_n (lv' := [(1, .int r5), (0, .ref (a_M 0))]) hx hb dX12_showLine_50 rfl hl (by decide) rfl (fun ls hl => ?_)
      refine lv_iload_n hx hb dX12_showLine_51 rfl (lv_at hl 0 rfl) ?_
      refine lv_if_ge (tgt := 61) hx hb dX12_showLine_52 (by decide) (fun c6 => ?_) (fun c6 => ?_)
      · have hf := (if_pos c6).symm.trans hf
        refine lv_aload_n hx hb dX12_showLine_61 rfl (lv_at hl 1 rfl) ?_
        obtain ⟨r7, hr7, hf⟩ := ox_bind hf
        refine cxVX (bs1 := (fun q => [wModel E a_M r7])) (As := []) (rest := []) (st1 := []) C hK (tX12_token l E a_M r2 r7 hr7) lk_X12_209 (by rw [hRf, hRl]; decide) ⟨Nat.zero_le _, Nat.zero_le _⟩ hB hD hN [0] (by decide) rfl (fun _ => rfl) (fun _ => rfl) (rc_X12 hK (hB.1 0 _ rfl)) rfl hl.1 rfl rfl (Nat.le_of_ble_eq_true rfl) dX12_showLine_62 (fun H locs q8 hB => ?_)
        have hB : WB E ad s.heap [wModel E a_M r7] H locs := hB
        refine lv_aload_n hx hb dX12_showLine_65 rfl (lv_at hl 1 rfl) ?_
        refine gf_X12_X12_showAct C hK (hB.1 0 _ rfl) dX12_showLine_66 ?_
        refine lv_bipush (v := 14) hx hb dX12_showLine_69 (by decide) ?_
        refine lv_aload_n hx hb dX12_showLine_71 rfl (lv_at hl 1 rfl) ?_
        refine gf_X12_X12_showsRead C hK (hB.1 0 _ rfl) dX12_showLine_72 ?_
        refine lv_iadd hx hb dX12_showLine_75 ?_
        refine lv_iload_n hx hb dX12_showLine_76 rfl (lv_at hl 0 rfl) ?_
        obtain ⟨hn9, hf⟩ := ox_chk hf
        refine st_X12_showAct C hK hB hD 0 rfl hn9 rfl dX12_showLine_77 (fun H locs u10 eu10 hB => ?_)
        have hf := ox_lt eu10 hf
        have hB : WB E ad s.heap [wModel E a_M u10] H locs := hB
        refine lv_aload_n hx hb dX12_showLine_78 rfl (lv_at hl 1 rfl) ?_
        refine lv_iconst (v := 0) hx hb dX12_showLine_79 (by decide) ?_
        refine lv_bipush (v := 99) hx hb dX12_showLine_80 (by decide) ?_
        obtain ⟨r11, hr11, hf⟩ := ox_bind hf
        refine cxVX (bs1 := (fun q => [wModel E a_M r11.2])) (As := [.int (0 : Int32), .int (99 : Int32)]) (rest := []) (st1 := [.int r11.1]) C hK (tX12_number l E a_M u10 (0 : Int32) (99 : Int32) r11 hr11) lk_X12_215 (by rw [hRf, hRl]; decide) ⟨Nat.zero_le _, Nat.zero_le _⟩ hB hD hN [0] (by decide) rfl (fun _ => rfl) (fun _ => rfl) (rc_X12 hK (hB.1 0 _ rfl)) rfl hl.1 rfl rfl (Nat.le_of_ble_eq_true rfl) dX12_showLine_82 (fun H locs q12 hB => ?_)
        have hB : WB E ad s.heap [wModel E a_M r11.2] H locs := hB
        refine lv_if_ne (tgt := 90) hx hb dX12_showLine_85 (by decide) (fun c13 => ?_) (fun c13 => ?_)
        · have hf := (if_neg c13).symm.trans hf
          refine lv_aload_n hx hb dX12_showLine_90 rfl (lv_at hl 1 rfl) ?_
          refine gf_X12_X12_showMinute C hK (hB.1 0 _ rfl) dX12_showLine_91 ?_
          refine lv_bipush (v := 14) hx hb dX12_showLine_94 (by decide) ?_
          refine lv_aload_n hx hb dX12_showLine_96 rfl (lv_at hl 1 rfl) ?_
          refine gf_X12_X12_showsRead C hK (hB.1 0 _ rfl) dX12_showLine_97 ?_
          refine lv_iadd hx hb dX12_showLine_100 ?_
          refine lv_aload_n hx hb dX12_showLine_101 rfl (lv_at hl 1 rfl) ?_
          refine gf_X12_X12_got C hK (hB.1 0 _ rfl) dX12_showLine_102 ?_
          refine lv_topi (fun x14 ex14 => ?_)
          have hf := ox_lt ex14 hf
          obtain ⟨hn15, hf⟩ := ox_chk hf
          refine st_X12_showMinute C hK hB hD 0 rfl hn15 rfl dX12_showLine_105 (fun H locs u16 eu16 hB => ?_)
          have hf := ox_lt eu16 hf
          have hB : WB E ad s.heap [wModel E a_M u16] H locs := hB
          refine lv_aload_n hx hb dX12_showLine_106 rfl (lv_at hl 1 rfl) ?_
          refine lv_dup hx hb dX12_showLine_107 rfl ?_
          refine gf_X12_X12_showsRead C hK (hB.1 0 _ rfl) dX12_showLine_108 ?_
          refine lv_iconst (v := 1) hx hb dX12_showLine_111 (by decide) ?_
          refine lv_iadd hx hb dX12_showLine_112 ?_
          refine lv_topi (fun x17 ex17 => ?_)
          have hf := ox_lt ex17 hf
          refine pf_X12_X12_showsRead C hK hB hD 0 rfl dX12_showLine_113 (fun H locs u18 eu18 hB => ?_)
          have hf := ox_lt eu18 hf
          have hB : WB E ad s.heap [wModel E a_M u18] H locs := hB
          refine lv_iconst (v := 1) hx hb dX12_showLine_116 (by decide) ?_
          have hf := Option.some.inj hf
          subst hf
          exact hQ _ _ H locs (fun _ => 0) (1 : Int32) bz1 hB dX12_showLine_117
        · have hf := (if_pos c13).symm.trans hf
          refine lv_iconst (v := 0) hx hb dX12_showLine_88 (by decide) ?_
          have hf := Option.some.inj hf
          subst hf
          exact hQ _ _ H locs (fun _ => 0) (0 : Int32) bz0 hB dX12_showLine_89
      · have hf := (if_neg c6).symm.trans hf
        refine lv_aload_n hx hb dX12_showLine_55 rfl (lv_at hl 1 rfl) ?_
        refine lv_iconst (v := 4) hx hb dX12_showLine_56 (by decide) ?_
        obtain ⟨r19, er19, hf⟩ := ox_ex hf
        refine cxVX (bs1 := (fun q => [wModel E a_M r19.2])) (As := [.int (4 : Int32)]) (rest := []) (st1 := [.int r19.1]) C hK (tX12_wrong l E a_M r2 (4 : Int32) r19 er19.symm) lk_X12_199 (by rw [hRf, hRl]; decide) ⟨Nat.zero_le _, Nat.zero_le _⟩ hB hD hN [0] (by decide) rfl (fun _ => rfl) (fun _ => rfl) (rc_X12 hK (hB.1 0 _ rfl)) rfl hl.1 rfl rfl (Nat.le_of_ble_eq_true rfl) dX12_showLine_57 (fun H locs q20 hB => ?_)
        have hB : WB E ad s.heap [wModel E a_M r19.2] H locs := hB
        have hf := Option.some.inj hf
        subst hf
        exact hQ _ _ H locs (fun _ => 0) r19.1 rfl hB dX12_showLine_60
    · have hf := (if_neg c4).symm.trans hf
      refine lv_aload_n hx hb dX12_showLine_27 rfl (lv_at hl 0 rfl) ?_
      refine lv_iconst (v := 1) hx hb dX12_showLine_28 (by decide) ?_
      obtain ⟨r21, er21, hf⟩ := ox_ex hf
      refine cxVX (bs1 := (fun q => [wModel E a_M r21.2])) (As := [.int (1 : Int32)]) (rest := []) (st1 := [.int r21.1]) C hK (tX12_wrong l E a_M r2 (1 : Int32) r21 er21.symm) lk_X12_199 (by rw [hRf, hRl]; decide) ⟨Nat.zero_le _, Nat.zero_le _⟩ hB hD hN [0] (by decide) rfl (fun _ => rfl) (fun _ => rfl) (rc_X12 hK (hB.1 0 _ rfl)) rfl hl.1 rfl rfl (Nat.le_of_ble_eq_true rfl) dX12_showLine_29 (fun H locs q22 hB => ?_)
      have hB : WB E ad s.heap [wModel E a_M r21.2] H locs := hB
      have hf := Option.some.inj hf
      subst hf
      exact hQ _ _ H locs (fun _ => 0) r21.1 rfl hB dX12_showLine_32
  · have hf := (if_pos c1).symm.trans hf
    refine lv_aload_n hx hb dX12_showLine_9 rfl (lv_at hl 0 rfl) ?_
    refine lv_iconst (v := 2) hx hb dX12_showLine_10 (by decide) ?_
    obtain ⟨r23, er23, hf⟩ := ox_ex hf
    refine cxVX (bs1 := (fun q => [wModel E a_M r23.2])) (As := [.int (2 : Int32)]) (rest := []) (st1 := [.int r23.1]) C hK (tX12_wrong l E a_M u_M (2 : Int32) r23 er23.symm) lk_X12_199 (by rw [hRf, hRl]; decide) ⟨Nat.zero_le _, Nat.zero_le _⟩ hB hD hN [0] (by decide) rfl (fun _ => rfl) (fun _ => rfl) (rc_X12 hK (hB.1 0 _ rfl)) rfl hl.1 rfl rfl (Nat.le_of_ble_eq_true rfl) dX12_showLine_11 (fun H locs q24 hB => ?_)
    have hB : WB E ad s.heap [wModel E a_M r23.2] H locs := hB
    have hf := Option.some.inj hf
    subst hf
    exact hQ _ _ H locs (fun _ => 0) r23.1 rfl hB dX12_showLine_14
set_option maxHeartbeats 4000000 in
set_option maxRecDepth 20000 in
theorem tX12_onceLine (l : Launch) (E : Ev) (a_M : Nat → Nat) (u_M : St) (x_1 : Int32) (x_2 : Int32) (res : Int32 × St) (hf : fX12_onceLine u_M x_1 x_2 = some res) : MX l E yX12_onceLine cX12_onceLine 3 (some .boolean) (rmm 3 69) [wModel E a_M u_M] (fun q => [wModel E a_M res.2]) [.ref (a_M 0), .int x_1, .int x_2] (some (.int res.1)) := by
  unfold fX12_onceLine at hf
  refine MX.ofZZ rfl (by decide) (Nat.le_of_ble_eq_true rfl) ?_
  intro p e R s m args below meth c ls Q ad H hRf hRl C hB hD hK hN hl hQ
  generalize hlocs : ([] : List Loc) = locs at hB ⊢
  clear hlocs
  have hx := C.1
  have hb := C.2.1
  have hl : lv_has ls 3 [(0, .ref (a_M 0)), (1, .int x_1), (2, .int x_2)] := hl
  refine lv_aload_n hx hb dX12_onceLine_0 rfl (lv_at hl 0 rfl) ?_
  refine gf_X12_X12_onceTold C hK (hB.1 0 _ rfl) dX12_onceLine_1 ?_
  refine lv_iload_n hx hb dX12_onceLine_4 rfl (lv_at hl 1 rfl) ?_
  obtain ⟨hn1, hf⟩ := ox_chk hf
  refine ld_X12_onceTold C hK (hB.1 0 _ rfl) hn1 rfl dX12_onceLine_5 ?_
  refine lv_if_eq (tgt := 15) hx hb dX12_onceLine_6 (by decide) (fun c2 => ?_) (fun c2 => ?_)
  · have hf := (if_pos c2).symm.trans hf
    refine lv_aload_n hx hb dX12_onceLine_15 rfl (lv_at hl 0 rfl) ?_
    refine gf_X12_X12_onceTold C hK (hB.1 0 _ rfl) dX12_onceLine_16 ?_
    refine lv_iload_n hx hb dX12_onceLine_19 rfl (lv_at hl 1 rfl) ?_
    refine lv_iconst (v := 1) hx hb dX12_onceLine_20 (by decide) ?_
    obtain ⟨hn3, hf⟩ := ox_chk hf
    refine st_X12_onceTold C hK hB hD 0 rfl hn3 rfl dX12_onceLine_21 (fun H locs u4 eu4 hB => ?_)
    have hf := ox_lt eu4 hf
    have hB : WB E ad s.heap [wModel E a_M u4] H locs := hB
    refine lv_aload_n hx hb dX12_onceLine_22 rfl (lv_at hl 0 rfl) ?_
    obtain ⟨r5, hr5, hf⟩ := ox_bind hf
    refine cxVX (bs1 := (fun q => [wModel E a_M r5])) (As := []) (rest := []) (st1 := []) C hK (tX12_token l E a_M u4 r5 hr5) lk_X12_209 (by rw [hRf, hRl]; decide) ⟨Nat.zero_le _, Nat.zero_le _⟩ hB hD hN [0] (by decide) rfl (fun _ => rfl) (fun _ => rfl) (rc_X12 hK (hB.1 0 _ rfl)) rfl hl.1 rfl rfl (Nat.le_of_ble_eq_true rfl) dX12_onceLine_23 (fun H locs q6 hB => ?_)
    have hB : WB E ad s.heap [wModel E a_M r5] H locs := hB
    refine lv_aload_n hx hb dX12_onceLine_26 rfl (lv_at hl 0 rfl) ?_
    refine lv_iconst (v := 0) hx hb dX12_onceLine_27 (by decide) ?_
    refine lv_iload_n hx hb dX12_onceLine_28 rfl (lv_at hl 2 rfl) ?_
    obtain ⟨r7, hr7, hf⟩ := ox_bind hf
    refine cxVX (bs1 := (fun q => [wModel E a_M r7.2])) (As := [.int (0 : Int32), .int x_2]) (rest := []) (st1 := [.int r7.1]) C hK (tX12_number l E a_M r5 (0 : Int32) x_2 r7 hr7) lk_X12_215 (by rw [hRf, hRl]; decide) ⟨Nat.zero_le _, Nat.zero_le _⟩ hB hD hN [0] (by decide) rfl (fun _ => rfl) (fun _ => rfl) (rc_X12 hK (hB.1 0 _ rfl)) rfl hl.1 rfl rfl (Nat.le_of_ble_eq_true rfl) dX12_onceLine_29 (fun H locs q8 hB => ?_)
    have hB : WB E ad s.heap [wModel E a_M r7.2] H locs := hB
    refine lv_if_ne (tgt := 37) hx hb dX12_onceLine_32 (by decide) (fun c9 => ?_) (fun c9 => ?_)
    · have hf := (if_neg c9).symm.trans hf
      refine lv_aload_n hx hb dX12_onceLine_37 rfl (lv_at hl 0 rfl) ?_
      refine gf_X12_X12_once C hK (hB.1 0 _ rfl) dX12_onceLine_38 ?_
      refine lv_iconst (v := 2) hx hb dX12_onceLine_41 (by decide) ?_
      refine lv_iload_n hx hb dX12_onceLine_42 rfl (lv_at hl 1 rfl) ?_
      refine lv_iadd hx hb dX12_onceLine_43 ?_
      refine lv_aload_n hx hb dX12_onceLine_44 rfl (lv_at hl 0 rfl) ?_
      refine gf_X12_X12_got C hK (hB.1 0 _ rfl) dX12_onceLine_45 ?_
      refine lv_topi (fun x10 ex10 => ?_)
      have hf := ox_lt ex10 hf
      obtain ⟨hn11, hf⟩ := ox_chk hf
      refine st_X12_once C hK hB hD 0 rfl hn11 rfl dX12_onceLine_48 (fun H locs u12 eu12 hB => ?_)
      have hf := ox_lt eu12 hf
      have hB : WB E ad s.heap [wModel E a_M u12] H locs := hB
      refine lv_iconst (v := 1) hx hb dX12_onceLine_49 (by decide) ?_
      have hf := Option.some.inj hf
      subst hf
      exact hQ _ _ H locs (fun _ => 0) (1 : Int32) bz1 hB dX12_onceLine_50
    · have hf := (if_pos c9).symm.trans hf
      refine lv_iconst (v := 0) hx hb dX12_onceLine_35 (by decide) ?_
      have hf := Option.some.inj hf
      subst hf
      exact hQ _ _ H locs (fun _ => 0) (0 : Int32) bz0 hB dX12_onceLine_36
  · have hf := (if_neg c2).symm.trans hf
    refine lv_aload_n hx hb dX12_onceLine_9 rfl (lv_at hl 0 rfl) ?_
    refine lv_iconst (v := 3) hx hb dX12_onceLine_10 (by decide) ?_
    obtain ⟨r13, er13, hf⟩ := ox_ex hf
    refine cxVX (bs1 := (fun q => [wModel E a_M r13.2])) (As := [.int (3 : Int32)]) (rest := []) (st1 := [.int r13.1]) C hK (tX12_wrong l E a_M u_M (3 : Int32) r13 er13.symm) lk_X12_199 (by rw [hRf, hRl]; decide) ⟨Nat.zero_le _, Nat.zero_le _⟩ hB hD hN [0] (by decide) rfl (fun _ => rfl) (fun _ => rfl) (rc_X12 hK (hB.1 0 _ rfl)) rfl hl.1 rfl rfl (Nat.le_of_ble_eq_true rfl) dX12_onceLine_11 (fun H locs q14 hB => ?_)
    have hB : WB E ad s.heap [wModel E a_M r13.2] H locs := hB
    have hf := Option.some.inj hf
    subst hf
    exact hQ _ _ H locs (fun _ => 0) r13.1 rfl hB dX12_onceLine_14
set_option maxHeartbeats 4000000 in
set_option maxRecDepth 20000 in
theorem tX12_standing (l : Launch) (E : Ev) (x_0 : Int32) (res : Int32) (hf : fX12_standing x_0 = res) : MP l E yX12_standing cX12_standing 1 (some .int) (rmm 0 0) [] [.int x_0] (some (.int res)) := by
  unfold fX12_standing at hf
  refine MP.ofI rfl (by decide) (Nat.le_of_ble_eq_true rfl) ?_
  intro p e R s m args below meth c ls Q hRf hRl C hP hK hN hl hQ
  have hx := C.1
  have hb := C.2.1
  have hl : lv_has ls 1 [(0, .int x_0)] := hl
  refine lv_iload_n hx hb dX12_standing_0 rfl (lv_at hl 0 rfl) ?_
  refine lv_bipush (v := 13) hx hb dX12_standing_1 (by decide) ?_
  obtain ⟨x1, ex1, hf⟩ := ox_ex hf
  have hjx1 : W p l e R s m args below meth c s.heap [] 0 0 Q (F0 m 58 ls [.int x1]) := by
    subst hf
    exact hQ _ _ dX12_standing_58
  refine lv_icmp_lt (tgt := 11) hx hb dX12_standing_3 (by decide) (fun c2 => ?_) (fun c2 => ?_)
  · refine lv_iload_n hx hb dX12_standing_11 rfl (lv_at hl 0 rfl) ?_
    refine lv_bipush (v := 11) hx hb dX12_standing_12 (by decide) ?_
    refine lv_icmp_lt (tgt := 21) hx hb dX12_standing_14 (by decide) (fun c3 => ?_) (fun c3 => ?_)
    · refine lv_iload_n hx hb dX12_standing_21 rfl (lv_at hl 0 rfl) ?_
      refine lv_iconst (v := 5) hx hb dX12_standing_22 (by decide) ?_
      refine lv_icmp_lt (tgt := 30) hx hb dX12_standing_23 (by decide) (fun c4 => ?_) (fun c4 => ?_)
      · refine lv_iload_n hx hb dX12_standing_30 rfl (lv_at hl 0 rfl) ?_
        refine lv_iconst (v := 2) hx hb dX12_standing_31 (by decide) ?_
        refine lv_icmp_ne (tgt := 39) hx hb dX12_standing_32 (by decide) (fun c5 => ?_) (fun c5 => ?_)
        · refine lv_iload_n hx hb dX12_standing_39 rfl (lv_at hl 0 rfl) ?_
          refine lv_iconst (v := 3) hx hb dX12_standing_40 (by decide) ?_
          refine lv_icmp_ne (tgt := 48) hx hb dX12_standing_41 (by decide) (fun c6 => ?_) (fun c6 => ?_)
          · refine lv_iload_n hx hb dX12_standing_48 rfl (lv_at hl 0 rfl) ?_
            refine lv_iconst (v := 4) hx hb dX12_standing_49 (by decide) ?_
            refine lv_icmp_ne (tgt := 57) hx hb dX12_standing_50 (by decide) (fun c7 => ?_) (fun c7 => ?_)
            · refine lv_iconst (v := 0) hx hb dX12_standing_57 (by decide) ?_
              exact ox_topi (((((((ex1).trans (if_pos c2)).trans (if_pos c3)).trans (if_pos c4)).trans (if_neg c5)).trans (if_neg c6)).trans (if_neg c7)).symm hjx1
            · refine lv_iconst (v := 1) hx hb dX12_standing_53 (by decide) ?_
              refine lv_goto (tgt := 58) hx hb dX12_standing_54 (by decide) ?_
              exact ox_topi (((((((ex1).trans (if_pos c2)).trans (if_pos c3)).trans (if_pos c4)).trans (if_neg c5)).trans (if_neg c6)).trans (if_pos c7)).symm hjx1
          · refine lv_iconst (v := 2) hx hb dX12_standing_44 (by decide) ?_
            refine lv_goto (tgt := 58) hx hb dX12_standing_45 (by decide) ?_
            exact ox_topi ((((((ex1).trans (if_pos c2)).trans (if_pos c3)).trans (if_pos c4)).trans (if_neg c5)).trans (if_pos c6)).symm hjx1
        · refine lv_iconst (v := 3) hx hb dX12_standing_35 (by decide) ?_
          refine lv_goto (tgt := 58) hx hb dX12_standing_36 (by decide) ?_
          exact ox_topi (((((ex1).trans (if_pos c2)).trans (if_pos c3)).trans (if_pos c4)).trans (if_pos c5)).symm hjx1
      · refine lv_iconst (v := 4) hx hb dX12_standing_26 (by decide) ?_
        refine lv_goto (tgt := 58) hx hb dX12_standing_27 (by decide) ?_
        exact ox_topi ((((ex1).trans (if_pos c2)).trans (if_pos c3)).trans (if_neg c4)).symm hjx1
    · refine lv_iconst (v := 5) hx hb dX12_standing_17 (by decide) ?_
      refine lv_goto (tgt := 58) hx hb dX12_standing_18 (by decide) ?_
      exact ox_topi (((ex1).trans (if_pos c2)).trans (if_neg c3)).symm hjx1
  · refine lv_bipush (v := 6) hx hb dX12_standing_6 (by decide) ?_
    refine lv_goto (tgt := 58) hx hb dX12_standing_8 (by decide) ?_
    exact ox_topi ((ex1).trans (if_neg c2)).symm hjx1
set_option maxHeartbeats 4000000 in
set_option maxRecDepth 20000 in
theorem tX12_dropHeld (l : Launch) (E : Ev) (a_M : Nat → Nat) (u_M : St) (res : Int32 × St) (hf : fX12_dropHeld u_M = some res) : MX l E yX12_dropHeld cX12_dropHeld 1 (some .int) (rmm 0 0) [wModel E a_M u_M] (fun q => [wModel E a_M res.2]) [.ref (a_M 0)] (some (.int res.1)) := by
  unfold fX12_dropHeld at hf
  refine MX.ofI rfl (by decide) (Nat.le_of_ble_eq_true rfl) ?_
  intro p e R s m args below meth c ls Q ad H hRf hRl C hB hD hK hN hl hQ
  generalize hlocs : ([] : List Loc) = locs at hB ⊢
  clear hlocs
  have hx := C.1
  have hb := C.2.1
  have hl : lv_has ls 1 [(0, .ref (a_M 0))] := hl
  refine lv_aload_n hx hb dX12_dropHeld_0 rfl (lv_at hl 0 rfl) ?_
  refine lv_dup hx hb dX12_dropHeld_1 rfl ?_
  refine gf_X12_X12_helds C hK (hB.1 0 _ rfl) dX12_dropHeld_2 ?_
  refine lv_iconst (v := 1) hx hb dX12_dropHeld_5 (by decide) ?_
  refine lv_isub hx hb dX12_dropHeld_6 ?_
  refine lv_topi (fun x1 ex1 => ?_)
  have hf := ox_lt ex1 hf
  refine pf_X12_X12_helds C hK hB hD 0 rfl dX12_dropHeld_7 (fun H locs u2 eu2 hB => ?_)
  have hf := ox_lt eu2 hf
  have hB : WB E ad s.heap [wModel E a_M u2] H locs := hB
  refine lv_aload_n hx hb dX12_dropHeld_10 rfl (lv_at hl 0 rfl) ?_
  refine gf_X12_X12_held C hK (hB.1 0 _ rfl) dX12_dropHeld_11 ?_
  refine lv_aload_n hx hb dX12_dropHeld_14 rfl (lv_at hl 0 rfl) ?_
  refine gf_X12_X12_helds C hK (hB.1 0 _ rfl) dX12_dropHeld_15 ?_
  obtain ⟨hn3, hf⟩ := ox_chk hf
  refine ld_X12_held C hK (hB.1 0 _ rfl) hn3 rfl dX12_dropHeld_18 ?_
  have hf := Option.some.inj hf
  subst hf
  exact hQ _ _ H locs (fun _ => 0) hB dX12_dropHeld_19
set_option maxHeartbeats 4000000 in
set_option maxRecDepth 20000 in
theorem tX12_grown (l : Launch) (E : Ev) (a_M : Nat → Nat) (u_M : St) (x_1 : Int32) (x_2 : Int32) (x_3 : Int32) (res : St) (hf : fX12_grown u_M x_1 x_2 x_3 = some res) : MX l E yX12_grown cX12_grown 4 none (rmm 0 0) [wModel E a_M u_M] (fun q => [wModel E a_M res]) [.ref (a_M 0), .int x_1, .int x_2, .int x_3] none := by
  unfold fX12_grown at hf
  refine MX.ofV rfl (by decide) (Nat.le_of_ble_eq_true rfl) ?_
  intro p e R s m args below meth c ls Q ad H hRf hRl C hB hD hK hN hl hQ
  generalize hlocs : ([] : List Loc) = locs at hB ⊢
  clear hlocs
  have hx := C.1
  have hb := C.2.1
  have hl : lv_has ls 4 [(0, .ref (a_M 0)), (1, .int x_1), (2, .int x_2), (3, .int x_3)] := hl
  refine lv_aload_n hx hb dX12_grown_0 rfl (lv_at hl 0 rfl) ?_
  refine gf_X12_X12_knot C hK (hB.1 0 _ rfl) dX12_grown_1 ?_
  refine lv_bipush (v := 64) hx hb dX12_grown_4 (by decide) ?_
  refine lv_aload_n hx hb dX12_grown_6 rfl (lv_at hl 0 rfl) ?_
  refine gf_X12_X12_knotsRead C hK (hB.1 0 _ rfl) dX12_grown_7 ?_
  refine lv_iadd hx hb dX12_grown_10 ?_
  refine lv_iload_n hx hb dX12_grown_11 rfl (lv_at hl 1 rfl) ?_
  obtain ⟨hn1, hf⟩ := ox_chk hf
  refine st_X12_knot C hK hB hD 0 rfl hn1 rfl dX12_grown_12 (fun H locs u2 eu2 hB => ?_)
  have hf := ox_lt eu2 hf
  have hB : WB E ad s.heap [wModel E a_M u2] H locs := hB
  refine lv_aload_n hx hb dX12_grown_13 rfl (lv_at hl 0 rfl) ?_
  refine gf_X12_X12_part C hK (hB.1 0 _ rfl) dX12_grown_14 ?_
  refine lv_bipush (v := 64) hx hb dX12_grown_17 (by decide) ?_
  refine lv_aload_n hx hb dX12_grown_19 rfl (lv_at hl 0 rfl) ?_
  refine gf_X12_X12_knotsRead C hK (hB.1 0 _ rfl) dX12_grown_20 ?_
  refine lv_iadd hx hb dX12_grown_23 ?_
  refine lv_iload_n hx hb dX12_grown_24 rfl (lv_at hl 2 rfl) ?_
  obtain ⟨hn3, hf⟩ := ox_chk hf
  refine st_X12_part C hK hB hD 0 rfl hn3 rfl dX12_grown_25 (fun H locs u4 eu4 hB => ?_)
  have hf := ox_lt eu4 hf
  have hB : WB E ad s.heap [wModel E a_M u4] H locs := hB
  refine lv_aload_n hx hb dX12_grown_26 rfl (lv_at hl 0 rfl) ?_
  refine gf_X12_X12_other C hK (hB.1 0 _ rfl) dX12_grown_27 ?_
  refine lv_bipush (v := 64) hx hb dX12_grown_30 (by decide) ?_
  refine lv_aload_n hx hb dX12_grown_32 rfl (lv_at hl 0 rfl) ?_
  refine gf_X12_X12_knotsRead C hK (hB.1 0 _ rfl) dX12_grown_33 ?_
  refine lv_iadd hx hb dX12_grown_36 ?_
  refine lv_iload_n hx hb dX12_grown_37 rfl (lv_at hl 3 rfl) ?_
  obtain ⟨hn5, hf⟩ := ox_chk hf
  refine st_X12_other C hK hB hD 0 rfl hn5 rfl dX12_grown_38 (fun H locs u6 eu6 hB => ?_)
  have hf := ox_lt eu6 hf
  have hB : WB E ad s.heap [wModel E a_M u6] H locs := hB
  refine lv_aload_n hx hb dX12_grown_39 rfl (lv_at hl 0 rfl) ?_
  refine gf_X12_X12_held C hK (hB.1 0 _ rfl) dX12_grown_40 ?_
  refine lv_aload_n hx hb dX12_grown_43 rfl (lv_at hl 0 rfl) ?_
  refine gf_X12_X12_helds C hK (hB.1 0 _ rfl) dX12_grown_44 ?_
  refine lv_aload_n hx hb dX12_grown_47 rfl (lv_at hl 0 rfl) ?_
  refine gf_X12_X12_knotsRead C hK (hB.1 0 _ rfl) dX12_grown_48 ?_
  refine lv_topi (fun x7 ex7 => ?_)
  have hf := ox_lt ex7 hf
  obtain ⟨hn8, hf⟩ := ox_chk hf
  refine st_X12_held C hK hB hD 0 rfl hn8 rfl dX12_grown_51 (fun H locs u9 eu9 hB => ?_)
  have hf := ox_lt eu9 hf
  have hB : WB E ad s.heap [wModel E a_M u9] H locs := hB
  refine lv_aload_n hx hb dX12_grown_52 rfl (lv_at hl 0 rfl) ?_
  refine lv_dup hx hb dX12_grown_53 rfl ?_
  refine gf_X12_X12_helds C hK (hB.1 0 _ rfl) dX12_grown_54 ?_
  refine lv_iconst (v := 1) hx hb dX12_grown_57 (by decide) ?_
  refine lv_iadd hx hb dX12_grown_58 ?_
  refine lv_topi (fun x10 ex10 => ?_)
  have hf := ox_lt ex10 hf
  refine pf_X12_X12_helds C hK hB hD 0 rfl dX12_grown_59 (fun H locs u11 eu11 hB => ?_)
  have hf := ox_lt eu11 hf
  have hB : WB E ad s.heap [wModel E a_M u11] H locs := hB
  refine lv_aload_n hx hb dX12_grown_62 rfl (lv_at hl 0 rfl) ?_
  refine lv_dup hx hb dX12_grown_63 rfl ?_
  refine gf_X12_X12_knotsRead C hK (hB.1 0 _ rfl) dX12_grown_64 ?_
  refine lv_iconst (v := 1) hx hb dX12_grown_67 (by decide) ?_
  refine lv_iadd hx hb dX12_grown_68 ?_
  refine lv_topi (fun x12 ex12 => ?_)
  have hf := ox_lt ex12 hf
  refine pf_X12_X12_knotsRead C hK hB hD 0 rfl dX12_grown_69 (fun H locs u13 eu13 hB => ?_)
  have hf := ox_lt eu13 hf
  have hB : WB E ad s.heap [wModel E a_M u13] H locs := hB
  have hf := Option.some.inj hf
  subst hf
  exact hQ _ _ H locs (fun _ => 0) hB dX12_grown_72
set_option maxHeartbeats 4000000 in
set_option maxRecDepth 20000 in
theorem tX12_bind (l : Launch) (E : Ev) (a_M : Nat → Nat) (u_M : St) (x_1 : Int32) (res : St) (hf : fX12_bind u_M x_1 = some res) : MX l E yX12_bind cX12_bind 5 none (rmm 1 23) [wModel E a_M u_M] (fun q => [wModel E a_M res]) [.ref (a_M 0), .int x_1] none := by
  unfold fX12_bind at hf
  refine MX.ofV rfl (by decide) (Nat.le_of_ble_eq_true rfl) ?_
  intro p e R s m args below meth c ls Q ad H hRf hRl C hB hD hK hN hl hQ
  generalize hlocs : ([] : List Loc) = locs at hB ⊢
  clear hlocs
  have hx := C.1
  have hb := C.2.1
  have hl : lv_has ls 5 [(0, .ref (a_M 0)), (1, .int x_1)] := hl
  obtain ⟨X1, hX1, hf⟩ := ox_bind hf
  have hexit1 : ∀ y20, y20 = X1 → ∀ (ls : Array Slot) (H : Heap) (locs : List Loc), lv_has ls 5 [] → WB E ad s.heap [wModel E a_M y20] H locs → W p l e R s m args below meth c H locs 0 0 Q (F0 m 76 ls []) := by
    intro y20 hy ls H locs hl hB
    subst hy
    have hf := Option.some.inj hf
    subst hf
    exact hQ _ _ H locs (fun _ => 0) hB dX12_bind_76
  have hloop1 : ∀ (nf : Nat) (u1 : St) (ls : Array Slot) (H : Heap) (locs : List Loc), lv_has ls 5 [(0, .ref (a_M 0)), (1, .int x_1)] → WB E ad s.heap [wModel E a_M u1] H locs → fX12_bind_L1 x_1 nf u1 = some X1 → W p l e R s m args below meth c H locs 0 0 Q (F0 m 0 ls []) := by
    intro nf
    induction nf with
    | zero =>
      intro u1 ls H locs hl hB hf
      simp [fX12_bind_L1] at hf
    | succ nf ih =>
      intro u1 ls H locs hl hB hf
      rw [fX12_bind_L1] at hf
      refine lv_aload_n hx hb dX12_bind_0 rfl (lv_at hl 0 rfl) ?_
      refine gf_X12_X12_waits C hK (hB.1 0 _ rfl) dX12_bind_1 ?_
      refine lv_if_le (tgt := 76) hx hb dX12_bind_4 (by decide) (fun c2 => ?_) (fun c2 => ?_)
      · have hf := (if_pos c2).symm.trans hf
        exact hexit1 _ (Option.some.inj hf) ls H locs (lv_sub hl [] rfl) hB
      · have hf := (if_neg c2).symm.trans hf
        refine lv_aload_n hx hb dX12_bind_7 rfl (lv_at hl 0 rfl) ?_
        refine gf_X12_X12_wait C hK (hB.1 0 _ rfl) dX12_bind_8 ?_
        refine lv_aload_n hx hb dX12_bind_11 rfl (lv_at hl 0 rfl) ?_
        refine gf_X12_X12_waits C hK (hB.1 0 _ rfl) dX12_bind_12 ?_
        refine lv_iconst (v := 1) hx hb dX12_bind_15 (by decide) ?_
        refine lv_isub hx hb dX12_bind_16 ?_
        obtain ⟨hn3, hf⟩ := ox_chk hf
        refine ld_X12_wait C hK (hB.1 0 _ rfl) hn3 rfl dX12_bind_17 ?_
        refine cxSP (As := [.int (gA u1 42 (((gI u1 44) - (1 : Int32))).toNatClampNeg)]) (rest := []) (st1 := [.int (fX12_standing (gA u1 42 (((gI u1 44) - (1 : Int32))).toNatClampNeg))]) C hK (tX12_standing l E (gA u1 42 (((gI u1 44) - (1 : Int32))).toNatClampNeg) (fX12_standing (gA u1 42 (((gI u1 44) - (1 : Int32))).toNatClampNeg)) rfl) lk_X12_295 ⟨rfl, rfl⟩ (by rw [hRf, hRl]; decide) ⟨Nat.zero_le _, Nat.zero_le _⟩ (PB.sub hB.1 [] rfl) (hB.old hD hN) (Nat.le_trans hN hB.2.2.1) rfl hl.1 rfl rfl (Nat.le_of_ble_eq_true rfl) dX12_bind_18 ?_
        refine lv_iload_n hx hb dX12_bind_21 rfl (lv_at hl 1 rfl) ?_
        refine lv_icmp_lt (tgt := 76) hx hb dX12_bind_22 (by decide) (fun c4 => ?_) (fun c4 => ?_)
        · have hf := (if_pos c4).symm.trans hf
          exact hexit1 _ (Option.some.inj hf) ls H locs (lv_sub hl [] rfl) hB
        · have hf := (if_neg c4).symm.trans hf
          refine lv_aload_n hx hb dX12_bind_25 rfl (lv_at hl 0 rfl) ?_
          refine lv_dup hx hb dX12_bind_26 rfl ?_
          refine gf_X12_X12_waits C hK (hB.1 0 _ rfl) dX12_bind_27 ?_
          refine lv_iconst (v := 1) hx hb dX12_bind_30 (by decide) ?_
          refine lv_isub hx hb dX12_bind_31 ?_
          refine lv_topi (fun x5 ex5 => ?_)
          have hf := ox_lt ex5 hf
          refine pf_X12_X12_waits C hK hB hD 0 rfl dX12_bind_32 (fun H locs u6 eu6 hB => ?_)
          have hf := ox_lt eu6 hf
          have hB : WB E ad s.heap [wModel E a_M u6] H locs := hB
          refine lv_aload_n hx hb dX12_bind_35 rfl (lv_at hl 0 rfl) ?_
          refine gf_X12_X12_wait C hK (hB.1 0 _ rfl) dX12_bind_36 ?_
          refine lv_aload_n hx hb dX12_bind_39 rfl (lv_at hl 0 rfl) ?_
          refine gf_X12_X12_waits C hK (hB.1 0 _ rfl) dX12_bind_40 ?_
          obtain ⟨hn7, hf⟩ := ox_chk hf
          refine ld_X12_wait C hK (hB.1 0 _ rfl) hn7 rfl dX12_bind_43 ?_
          refine lv_topi (fun x8 ex8 => ?_)
          have hf := ox_lt ex8 hf
          refine lv_istore_n (lv' := [(2, .int x8), (0, .ref (a_M 0)), (1, .int x_1)]) hx hb dX12_bind_44 rfl hl (by decide) rfl (fun ls hl => ?_)
          refine lv_iload_n hx hb dX12_bind_45 rfl (lv_at hl 0 rfl) ?_
          refine lv_iconst (v := 2) hx hb dX12_bind_46 (by decide) ?_
          obtain ⟨j11, ej11, hf⟩ := ox_ex hf
          have hj11 : ∀ (x9 : Int32) (u10 : St) (ls : Array Slot) (H : Heap) (locs : List Loc), lv_has ls 5 [(0, .ref (a_M 0)), (1, .int x_1), (2, .int x8)] → WB E ad s.heap [wModel E a_M u10] H locs → j11 x9 u10 = some X1 → W p l e R s m args below meth c H locs 0 0 Q (F0 m 58 ls [.int x9]) := by
            intro x9 u10 ls H locs hl hB hf
            have hf := ox_a2 ej11 hf
            refine lv_istore_n (lv' := [(3, .int x9), (0, .ref (a_M 0)), (1, .int x_1), (2, .int x8)]) hx hb dX12_bind_58 rfl hl (by decide) rfl (fun ls hl => ?_)
            refine lv_aload_n hx hb dX12_bind_59 rfl (lv_at hl 1 rfl) ?_
            obtain ⟨r12, hr12, hf⟩ := ox_bind hf
            refine cxVX (bs1 := (fun q => [wModel E a_M r12.2])) (As := []) (rest := []) (st1 := [.int r12.1]) C hK (tX12_dropHeld l E a_M u10 r12 hr12) lk_X12_299 (by rw [hRf, hRl]; decide) ⟨Nat.zero_le _, Nat.zero_le _⟩ hB hD hN [0] (by decide) rfl (fun _ => rfl) (fun _ => rfl) (rc_X12 hK (hB.1 0 _ rfl)) rfl hl.1 rfl rfl (Nat.le_of_ble_eq_true rfl) dX12_bind_60 (fun H locs q13 hB => ?_)
            have hB : WB E ad s.heap [wModel E a_M r12.2] H locs := hB
            refine lv_topi (fun x14 ex14 => ?_)
            have hf := ox_lt ex14 hf
            refine lv_istore (lv' := [(4, .int x14), (3, .int x9), (0, .ref (a_M 0)), (1, .int x_1), (2, .int x8)]) hx hb dX12_bind_63 hl (by decide) rfl (fun ls hl => ?_)
            refine lv_aload_n hx hb dX12_bind_65 rfl (lv_at hl 2 rfl) ?_
            refine lv_iload_n hx hb dX12_bind_66 rfl (lv_at hl 4 rfl) ?_
            refine lv_iload hx hb dX12_bind_67 (lv_at hl 0 rfl) ?_
            refine lv_iload_n hx hb dX12_bind_69 rfl (lv_at hl 1 rfl) ?_
            obtain ⟨r15, hr15, hf⟩ := ox_bind hf
            refine cxVX (bs1 := (fun q => [wModel E a_M r15])) (As := [.int x8, .int x14, .int x9]) (rest := []) (st1 := []) C hK (tX12_grown l E a_M (r12.2) x8 x14 x9 r15 hr15) lk_X12_303 (by rw [hRf, hRl]; decide) ⟨Nat.zero_le _, Nat.zero_le _⟩ hB hD hN [0] (by decide) rfl (fun _ => rfl) (fun _ => rfl) (rc_X12 hK (hB.1 0 _ rfl)) rfl hl.1 rfl rfl (Nat.le_of_ble_eq_true rfl) dX12_bind_70 (fun H locs q16 hB => ?_)
            have hB : WB E ad s.heap [wModel E a_M r15] H locs := hB
            refine lv_goto (tgt := 0) hx hb dX12_bind_73 (by decide) ?_
            exact ih _ ls H locs (lv_sub hl [2, 3] rfl) hB hf
          refine lv_icmp_ne (tgt := 54) hx hb dX12_bind_47 (by decide) (fun c17 => ?_) (fun c17 => ?_)
          · have hf := (if_neg c17).symm.trans hf
            refine lv_aload_n hx hb dX12_bind_54 rfl (lv_at hl 1 rfl) ?_
            obtain ⟨r18, hr18, hf⟩ := ox_bind hf
            refine cxVX (bs1 := (fun q => [wModel E a_M r18.2])) (As := []) (rest := []) (st1 := [.int r18.1]) C hK (tX12_dropHeld l E a_M u6 r18 hr18) lk_X12_299 (by rw [hRf, hRl]; decide) ⟨Nat.zero_le _, Nat.zero_le _⟩ hB hD hN [0] (by decide) rfl (fun _ => rfl) (fun _ => rfl) (rc_X12 hK (hB.1 0 _ rfl)) rfl hl.1 rfl rfl (Nat.le_of_ble_eq_true rfl) dX12_bind_55 (fun H locs q19 hB => ?_)
            have hB : WB E ad s.heap [wModel E a_M r18.2] H locs := hB
            exact hj11 _ _ ls H locs (lv_sub hl [1, 2, 0] rfl) hB hf
          · have hf := (if_pos c17).symm.trans hf
            refine lv_iconst (v := (-1)) hx hb dX12_bind_50 (by decide) ?_
            refine lv_goto (tgt := 58) hx hb dX12_bind_51 (by decide) ?_
            exact hj11 _ _ ls H locs (lv_sub hl [1, 2, 0] rfl) hB hf
  exact hloop1 fuel _ ls H locs (lv_sub hl [0, 1] rfl) hB hX1
set_option maxHeartbeats 4000000 in
set_option maxRecDepth 20000 in
theorem tX12_isCounted (l : Launch) (E : Ev) (a_M : Nat → Nat) (u_M : St) (res : Int32 × St) (hf : fX12_isCounted u_M = res) : MX l E yX12_isCounted cX12_isCounted 1 (some .boolean) (rmm 1 21) [wModel E a_M u_M] (fun q => [wModel E a_M res.2]) [.ref (a_M 0)] (some (.int res.1)) := by
  unfold fX12_isCounted at hf
  refine MX.ofZZ rfl (by decide) (Nat.le_of_ble_eq_true rfl) ?_
  intro p e R s m args below meth c ls Q ad H hRf hRl C hB hD hK hN hl hQ
  generalize hlocs : ([] : List Loc) = locs at hB ⊢
  clear hlocs
  have hx := C.1
  have hb := C.2.1
  have hl : lv_has ls 1 [(0, .ref (a_M 0))] := hl
  refine lv_aload_n hx hb dX12_isCounted_0 rfl (lv_at hl 0 rfl) ?_
  refine gf_X12_X12_counted C hK (hB.1 0 _ rfl) dX12_isCounted_1 ?_
  refine lv_bipush (v := 64) hx hb dX12_isCounted_4 (by decide) ?_
  refine lv_icmp_ne (tgt := 15) hx hb dX12_isCounted_6 (by decide) (fun c1 => ?_) (fun c1 => ?_)
  · have hf := (if_neg c1).symm.trans hf
    refine lv_aload_n hx hb dX12_isCounted_15 rfl (lv_at hl 0 rfl) ?_
    refine lv_dup hx hb dX12_isCounted_16 rfl ?_
    refine gf_X12_X12_counted C hK (hB.1 0 _ rfl) dX12_isCounted_17 ?_
    refine lv_iconst (v := 1) hx hb dX12_isCounted_20 (by decide) ?_
    refine lv_iadd hx hb dX12_isCounted_21 ?_
    refine lv_topi (fun x2 ex2 => ?_)
    have hf := ox_lt ex2 hf
    refine pf_X12_X12_counted C hK hB hD 0 rfl dX12_isCounted_22 (fun H locs u3 eu3 hB => ?_)
    have hf := ox_lt eu3 hf
    have hB : WB E ad s.heap [wModel E a_M u3] H locs := hB
    refine lv_iconst (v := 1) hx hb dX12_isCounted_25 (by decide) ?_
    subst hf
    exact hQ _ _ H locs (fun _ => 0) (1 : Int32) bz1 hB dX12_isCounted_26
  · have hf := (if_pos c1).symm.trans hf
    refine lv_aload_n hx hb dX12_isCounted_9 rfl (lv_at hl 0 rfl) ?_
    refine lv_iconst (v := 2) hx hb dX12_isCounted_10 (by decide) ?_
    obtain ⟨r4, er4, hf⟩ := ox_ex hf
    refine cxVX (bs1 := (fun q => [wModel E a_M r4.2])) (As := [.int (2 : Int32)]) (rest := []) (st1 := [.int r4.1]) C hK (tX12_wrong l E a_M u_M (2 : Int32) r4 er4.symm) lk_X12_199 (by rw [hRf, hRl]; decide) ⟨Nat.zero_le _, Nat.zero_le _⟩ hB hD hN [0] (by decide) rfl (fun _ => rfl) (fun _ => rfl) (rc_X12 hK (hB.1 0 _ rfl)) rfl hl.1 rfl rfl (Nat.le_of_ble_eq_true rfl) dX12_isCounted_11 (fun H locs q5 hB => ?_)
    have hB : WB E ad s.heap [wModel E a_M r4.2] H locs := hB
    subst hf
    exact hQ _ _ H locs (fun _ => 0) r4.1 rfl hB dX12_isCounted_14
set_option maxHeartbeats 4000000 in
set_option maxRecDepth 20000 in
theorem tX12_waitsFor (l : Launch) (E : Ev) (a_M : Nat → Nat) (u_M : St) (x_1 : Int32) (res : St) (hf : fX12_waitsFor u_M x_1 = some res) : MX l E yX12_waitsFor cX12_waitsFor 2 none (rmm 0 0) [wModel E a_M u_M] (fun q => [wModel E a_M res]) [.ref (a_M 0), .int x_1] none := by
  unfold fX12_waitsFor at hf
  refine MX.ofV rfl (by decide) (Nat.le_of_ble_eq_true rfl) ?_
  intro p e R s m args below meth c ls Q ad H hRf hRl C hB hD hK hN hl hQ
  generalize hlocs : ([] : List Loc) = locs at hB ⊢
  clear hlocs
  have hx := C.1
  have hb := C.2.1
  have hl : lv_has ls 2 [(0, .ref (a_M 0)), (1, .int x_1)] := hl
  refine lv_aload_n hx hb dX12_waitsFor_0 rfl (lv_at hl 0 rfl) ?_
  refine gf_X12_X12_wait C hK (hB.1 0 _ rfl) dX12_waitsFor_1 ?_
  refine lv_aload_n hx hb dX12_waitsFor_4 rfl (lv_at hl 0 rfl) ?_
  refine gf_X12_X12_waits C hK (hB.1 0 _ rfl) dX12_waitsFor_5 ?_
  refine lv_iload_n hx hb dX12_waitsFor_8 rfl (lv_at hl 1 rfl) ?_
  obtain ⟨hn1, hf⟩ := ox_chk hf
  refine st_X12_wait C hK hB hD 0 rfl hn1 rfl dX12_waitsFor_9 (fun H locs u2 eu2 hB => ?_)
  have hf := ox_lt eu2 hf
  have hB : WB E ad s.heap [wModel E a_M u2] H locs := hB
  refine lv_aload_n hx hb dX12_waitsFor_10 rfl (lv_at hl 0 rfl) ?_
  refine lv_dup hx hb dX12_waitsFor_11 rfl ?_
  refine gf_X12_X12_waits C hK (hB.1 0 _ rfl) dX12_waitsFor_12 ?_
  refine lv_iconst (v := 1) hx hb dX12_waitsFor_15 (by decide) ?_
  refine lv_iadd hx hb dX12_waitsFor_16 ?_
  refine lv_topi (fun x3 ex3 => ?_)
  have hf := ox_lt ex3 hf
  refine pf_X12_X12_waits C hK hB hD 0 rfl dX12_waitsFor_17 (fun H locs u4 eu4 hB => ?_)
  have hf := ox_lt eu4 hf
  have hB : WB E ad s.heap [wModel E a_M u4] H locs := hB
  have hf := Option.some.inj hf
  subst hf
  exact hQ _ _ H locs (fun _ => 0) hB dX12_waitsFor_20
set_option maxHeartbeats 4000000 in
set_option maxRecDepth 20000 in
theorem tX12_signs (l : Launch) (E : Ev) (a_M : Nat → Nat) (u_M : St) (res : Int32 × St) (hf : fX12_signs u_M = some res) : MX l E yX12_signs cX12_signs 2 (some .boolean) (rmm 2 47) [wModel E a_M u_M] (fun q => [wModel E a_M res.2]) [.ref (a_M 0)] (some (.int res.1)) := by
  unfold fX12_signs at hf
  refine MX.ofZZ rfl (by decide) (Nat.le_of_ble_eq_true rfl) ?_
  intro p e R s m args below meth c ls Q ad H hRf hRl C hB hD hK hN hl hQ
  generalize hlocs : ([] : List Loc) = locs at hB ⊢
  clear hlocs
  have hx := C.1
  have hb := C.2.1
  have hl : lv_has ls 2 [(0, .ref (a_M 0))] := hl
  refine lv_aload_n hx hb dX12_signs_0 rfl (lv_at hl 0 rfl) ?_
  refine lv_bipush (v := 41) hx hb dX12_signs_1 (by decide) ?_
  refine cxVP (As := [.int (41 : Int32)]) (rest := []) (st1 := [.int (fX12_isSign u_M (41 : Int32))]) C hK (tX12_isSign l E a_M u_M (41 : Int32) (fX12_isSign u_M (41 : Int32)) rfl) lk_X12_212 ⟨rfl, rfl⟩ (by rw [hRf, hRl]; decide) ⟨Nat.zero_le _, Nat.zero_le _⟩ (PB.sub hB.1 [0] rfl) (hB.old hD hN) (Nat.le_trans hN hB.2.2.1) (rc_X12 hK (hB.1 0 _ rfl)) rfl hl.1 rfl rfl (Nat.le_of_ble_eq_true rfl) dX12_signs_3 ?_
  obtain ⟨j1, ej1, hf⟩ := ox_ex hf
  have hj1 : ∀ (ls : Array Slot) (H : Heap) (locs : List Loc), lv_has ls 2 [(0, .ref (a_M 0))] → WB E ad s.heap [wModel E a_M u_M] H locs → j1 = some res → W p l e R s m args below meth c H locs 0 0 Q (F0 m 47 ls []) := by
    intro ls H locs hl hB hf
    have hf := ox_a0 ej1 hf
    refine lv_aload_n hx hb dX12_signs_47 rfl (lv_at hl 0 rfl) ?_
    refine lv_bipush (v := 10) hx hb dX12_signs_48 (by decide) ?_
    refine cxVP (As := [.int (10 : Int32)]) (rest := []) (st1 := [.int (fX12_isKey u_M (10 : Int32))]) C hK (tX12_isKey l E a_M u_M (10 : Int32) (fX12_isKey u_M (10 : Int32)) rfl) lk_X12_318 ⟨rfl, rfl⟩ (by rw [hRf, hRl]; decide) ⟨Nat.zero_le _, Nat.zero_le _⟩ (PB.sub hB.1 [0] rfl) (hB.old hD hN) (Nat.le_trans hN hB.2.2.1) (rc_X12 hK (hB.1 0 _ rfl)) rfl hl.1 rfl rfl (Nat.le_of_ble_eq_true rfl) dX12_signs_50 ?_
    obtain ⟨j3, ej3, hf⟩ := ox_ex hf
    have hj3 : ∀ (x2 : Int32) (ls : Array Slot) (H : Heap) (locs : List Loc), lv_has ls 2 [(0, .ref (a_M 0))] → WB E ad s.heap [wModel E a_M u_M] H locs → j3 x2 = some res → W p l e R s m args below meth c H locs 0 0 Q (F0 m 147 ls [.int x2]) := by
      intro x2 ls H locs hl hB hf
      have hf := ox_a1 ej3 hf
      refine lv_istore_n (lv' := [(1, .int x2), (0, .ref (a_M 0))]) hx hb dX12_signs_147 rfl hl (by decide) rfl (fun ls hl => ?_)
      refine lv_iload_n hx hb dX12_signs_148 rfl (lv_at hl 0 rfl) ?_
      refine lv_if_ne (tgt := 158) hx hb dX12_signs_149 (by decide) (fun c4 => ?_) (fun c4 => ?_)
      · have hf := (if_neg c4).symm.trans hf
        refine lv_aload_n hx hb dX12_signs_158 rfl (lv_at hl 1 rfl) ?_
        refine lv_iload_n hx hb dX12_signs_159 rfl (lv_at hl 0 rfl) ?_
        refine cxSP (As := [.int x2]) (rest := [.ref (a_M 0)]) (st1 := [.int (fX12_standing x2), .ref (a_M 0)]) C hK (tX12_standing l E x2 (fX12_standing x2) rfl) lk_X12_295 ⟨rfl, rfl⟩ (by rw [hRf, hRl]; decide) ⟨Nat.zero_le _, Nat.zero_le _⟩ (PB.sub hB.1 [] rfl) (hB.old hD hN) (Nat.le_trans hN hB.2.2.1) rfl hl.1 rfl rfl (Nat.le_of_ble_eq_true rfl) dX12_signs_160 ?_
        refine lv_iconst (v := 4) hx hb dX12_signs_163 (by decide) ?_
        obtain ⟨j6, ej6, hf⟩ := ox_ex hf
        have hj6 : ∀ (x5 : Int32) (ls : Array Slot) (H : Heap) (locs : List Loc), lv_has ls 2 [(0, .ref (a_M 0)), (1, .int x2)] → WB E ad s.heap [wModel E a_M u_M] H locs → j6 x5 = some res → W p l e R s m args below meth c H locs 0 0 Q (F0 m 175 ls [.int x5, .ref (a_M 0)]) := by
          intro x5 ls H locs hl hB hf
          have hf := ox_a1 ej6 hf
          obtain ⟨r7, hr7, hf⟩ := ox_bind hf
          refine cxVX (bs1 := (fun q => [wModel E a_M r7])) (As := [.int x5]) (rest := []) (st1 := []) C hK (tX12_bind l E a_M u_M x5 r7 hr7) lk_X12_330 (by rw [hRf, hRl]; decide) ⟨Nat.zero_le _, Nat.zero_le _⟩ hB hD hN [0] (by decide) rfl (fun _ => rfl) (fun _ => rfl) (rc_X12 hK (hB.1 0 _ rfl)) rfl hl.1 rfl rfl (Nat.le_of_ble_eq_true rfl) dX12_signs_175 (fun H locs q8 hB => ?_)
          have hB : WB E ad s.heap [wModel E a_M r7] H locs := hB
          refine lv_iload_n hx hb dX12_signs_178 rfl (lv_at hl 1 rfl) ?_
          refine cxSP (As := [.int x2]) (rest := []) (st1 := [.int (fX12_standing x2)]) C hK (tX12_standing l E x2 (fX12_standing x2) rfl) lk_X12_295 ⟨rfl, rfl⟩ (by rw [hRf, hRl]; decide) ⟨Nat.zero_le _, Nat.zero_le _⟩ (PB.sub hB.1 [] rfl) (hB.old hD hN) (Nat.le_trans hN hB.2.2.1) rfl hl.1 rfl rfl (Nat.le_of_ble_eq_true rfl) dX12_signs_179 ?_
          refine lv_iconst (v := 4) hx hb dX12_signs_182 (by decide) ?_
          obtain ⟨j9, ej9, hf⟩ := ox_ex hf
          have hj9 : ∀ (ls : Array Slot) (H : Heap) (locs : List Loc), lv_has ls 2 [(0, .ref (a_M 0)), (1, .int x2)] → WB E ad s.heap [wModel E a_M r7] H locs → j9 = some res → W p l e R s m args below meth c H locs 0 0 Q (F0 m 217 ls []) := by
            intro ls H locs hl hB hf
            have hf := ox_a0 ej9 hf
            refine lv_aload_n hx hb dX12_signs_217 rfl (lv_at hl 0 rfl) ?_
            obtain ⟨r10, er10, hf⟩ := ox_ex hf
            refine cxVX (bs1 := (fun q => [wModel E a_M r10.2])) (As := []) (rest := []) (st1 := [.int r10.1]) C hK (tX12_isCounted l E a_M r7 r10 er10.symm) lk_X12_321 (by rw [hRf, hRl]; decide) ⟨Nat.zero_le _, Nat.zero_le _⟩ hB hD hN [0] (by decide) rfl (fun _ => rfl) (fun _ => rfl) (rc_X12 hK (hB.1 0 _ rfl)) rfl hl.1 rfl rfl (Nat.le_of_ble_eq_true rfl) dX12_signs_218 (fun H locs q11 hB => ?_)
            have hB : WB E ad s.heap [wModel E a_M r10.2] H locs := hB
            refine lv_if_ne (tgt := 226) hx hb dX12_signs_221 (by decide) (fun c12 => ?_) (fun c12 => ?_)
            · have hf := (if_neg c12).symm.trans hf
              refine lv_aload_n hx hb dX12_signs_226 rfl (lv_at hl 0 rfl) ?_
              refine lv_iload_n hx hb dX12_signs_227 rfl (lv_at hl 1 rfl) ?_
              obtain ⟨r13, hr13, hf⟩ := ox_bind hf
              refine cxVX (bs1 := (fun q => [wModel E a_M r13])) (As := [.int x2]) (rest := []) (st1 := []) C hK (tX12_waitsFor l E a_M (r10.2) x2 r13 hr13) lk_X12_310 (by rw [hRf, hRl]; decide) ⟨Nat.zero_le _, Nat.zero_le _⟩ hB hD hN [0] (by decide) rfl (fun _ => rfl) (fun _ => rfl) (rc_X12 hK (hB.1 0 _ rfl)) rfl hl.1 rfl rfl (Nat.le_of_ble_eq_true rfl) dX12_signs_228 (fun H locs q14 hB => ?_)
              have hB : WB E ad s.heap [wModel E a_M r13] H locs := hB
              refine lv_aload_n hx hb dX12_signs_231 rfl (lv_at hl 0 rfl) ?_
              refine lv_iconst (v := 1) hx hb dX12_signs_232 (by decide) ?_
              refine pf_X12_X12_wants C hK hB hD 0 rfl (by decide) dX12_signs_233 (fun H locs u15 eu15 hB => ?_)
              have hf := ox_lt eu15 hf
              have hB : WB E ad s.heap [wModel E a_M u15] H locs := hB
              refine lv_aload_n hx hb dX12_signs_236 rfl (lv_at hl 0 rfl) ?_
              refine lv_iload_n hx hb dX12_signs_237 rfl (lv_at hl 1 rfl) ?_
              refine cxSP (As := [.int x2]) (rest := [.ref (a_M 0)]) (st1 := [.int (fX12_standing x2), .ref (a_M 0)]) C hK (tX12_standing l E x2 (fX12_standing x2) rfl) lk_X12_295 ⟨rfl, rfl⟩ (by rw [hRf, hRl]; decide) ⟨Nat.zero_le _, Nat.zero_le _⟩ (PB.sub hB.1 [] rfl) (hB.old hD hN) (Nat.le_trans hN hB.2.2.1) rfl hl.1 rfl rfl (Nat.le_of_ble_eq_true rfl) dX12_signs_238 ?_
              refine lv_iconst (v := 3) hx hb dX12_signs_241 (by decide) ?_
              obtain ⟨x16, ex16, hf⟩ := ox_ex hf
              have hjx16 : W p l e R s m args below meth c H locs 0 0 Q (F0 m 250 ls [.int x16, .ref (a_M 0)]) := by
                refine pf_X12_X12_mayNot C hK hB hD 0 rfl (by rw [ex16]; repeat' (first | exact bz0 | exact bz1 | apply bz_ite)) dX12_signs_250 (fun H locs u17 eu17 hB => ?_)
                have hf := ox_lt eu17 hf
                have hB : WB E ad s.heap [wModel E a_M u17] H locs := hB
                refine lv_aload_n hx hb dX12_signs_253 rfl (lv_at hl 0 rfl) ?_
                obtain ⟨r18, hr18, hf⟩ := ox_bind hf
                refine cxVX (bs1 := (fun q => [wModel E a_M r18])) (As := []) (rest := []) (st1 := []) C hK (tX12_token l E a_M u17 r18 hr18) lk_X12_209 (by rw [hRf, hRl]; decide) ⟨Nat.zero_le _, Nat.zero_le _⟩ hB hD hN [0] (by decide) rfl (fun _ => rfl) (fun _ => rfl) (rc_X12 hK (hB.1 0 _ rfl)) rfl hl.1 rfl rfl (Nat.le_of_ble_eq_true rfl) dX12_signs_254 (fun H locs q19 hB => ?_)
                have hB : WB E ad s.heap [wModel E a_M r18] H locs := hB
                refine lv_iconst (v := 1) hx hb dX12_signs_257 (by decide) ?_
                have hf := Option.some.inj hf
                subst hf
                exact hQ _ _ H locs (fun _ => 0) (1 : Int32) bz1 hB dX12_signs_258
              refine lv_icmp_ge (tgt := 249) hx hb dX12_signs_242 (by decide) (fun c20 => ?_) (fun c20 => ?_)
              · refine lv_iconst (v := 0) hx hb dX12_signs_249 (by decide) ?_
                exact ox_topi ((ex16).trans (if_pos c20)).symm hjx16
              · refine lv_iconst (v := 1) hx hb dX12_signs_245 (by decide) ?_
                refine lv_goto (tgt := 250) hx hb dX12_signs_246 (by decide) ?_
                exact ox_topi ((ex16).trans (if_neg c20)).symm hjx16
            · have hf := (if_pos c12).symm.trans hf
              refine lv_iconst (v := 0) hx hb dX12_signs_224 (by decide) ?_
              have hf := Option.some.inj hf
              subst hf
              exact hQ _ _ H locs (fun _ => 0) (0 : Int32) bz0 hB dX12_signs_225
          refine lv_icmp_ne (tgt := 217) hx hb dX12_signs_183 (by decide) (fun c21 => ?_) (fun c21 => ?_)
          · have hf := (if_neg c21).symm.trans hf
            exact hj9 ls H locs (lv_sub hl [0, 1] rfl) hB hf
          · have hf := (if_pos c21).symm.trans hf
            refine lv_aload_n hx hb dX12_signs_186 rfl (lv_at hl 0 rfl) ?_
            refine gf_X12_X12_waits C hK (hB.1 0 _ rfl) dX12_signs_187 ?_
            refine lv_if_le (tgt := 217) hx hb dX12_signs_190 (by decide) (fun c22 => ?_) (fun c22 => ?_)
            · have hf := (if_pos c22).symm.trans hf
              exact hj9 ls H locs (lv_sub hl [0, 1] rfl) hB hf
            · have hf := (if_neg c22).symm.trans hf
              refine lv_aload_n hx hb dX12_signs_193 rfl (lv_at hl 0 rfl) ?_
              refine gf_X12_X12_wait C hK (hB.1 0 _ rfl) dX12_signs_194 ?_
              refine lv_aload_n hx hb dX12_signs_197 rfl (lv_at hl 0 rfl) ?_
              refine gf_X12_X12_waits C hK (hB.1 0 _ rfl) dX12_signs_198 ?_
              refine lv_iconst (v := 1) hx hb dX12_signs_201 (by decide) ?_
              refine lv_isub hx hb dX12_signs_202 ?_
              obtain ⟨hn23, hf⟩ := ox_chk hf
              refine ld_X12_wait C hK (hB.1 0 _ rfl) hn23 rfl dX12_signs_203 ?_
              refine cxSP (As := [.int (gA r7 42 (((gI r7 44) - (1 : Int32))).toNatClampNeg)]) (rest := []) (st1 := [.int (fX12_standing (gA r7 42 (((gI r7 44) - (1 : Int32))).toNatClampNeg))]) C hK (tX12_standing l E (gA r7 42 (((gI r7 44) - (1 : Int32))).toNatClampNeg) (fX12_standing (gA r7 42 (((gI r7 44) - (1 : Int32))).toNatClampNeg)) rfl) lk_X12_295 ⟨rfl, rfl⟩ (by rw [hRf, hRl]; decide) ⟨Nat.zero_le _, Nat.zero_le _⟩ (PB.sub hB.1 [] rfl) (hB.old hD hN) (Nat.le_trans hN hB.2.2.1) rfl hl.1 rfl rfl (Nat.le_of_ble_eq_true rfl) dX12_signs_204 ?_
              refine lv_iconst (v := 4) hx hb dX12_signs_207 (by decide) ?_
              refine lv_icmp_ne (tgt := 217) hx hb dX12_signs_208 (by decide) (fun c24 => ?_) (fun c24 => ?_)
              · have hf := (if_neg c24).symm.trans hf
                exact hj9 ls H locs (lv_sub hl [0, 1] rfl) hB hf
              · have hf := (if_pos c24).symm.trans hf
                refine lv_aload_n hx hb dX12_signs_211 rfl (lv_at hl 0 rfl) ?_
                refine lv_iconst (v := 1) hx hb dX12_signs_212 (by decide) ?_
                obtain ⟨r25, er25, hf⟩ := ox_ex hf
                refine cxVX (bs1 := (fun q => [wModel E a_M r25.2])) (As := [.int (1 : Int32)]) (rest := []) (st1 := [.int r25.1]) C hK (tX12_wrong l E a_M r7 (1 : Int32) r25 er25.symm) lk_X12_199 (by rw [hRf, hRl]; decide) ⟨Nat.zero_le _, Nat.zero_le _⟩ hB hD hN [0] (by decide) rfl (fun _ => rfl) (fun _ => rfl) (rc_X12 hK (hB.1 0 _ rfl)) rfl hl.1 rfl rfl (Nat.le_of_ble_eq_true rfl) dX12_signs_213 (fun H locs q26 hB => ?_)
                have hB : WB E ad s.heap [wModel E a_M r25.2] H locs := hB
                have hf := Option.some.inj hf
                subst hf
                exact hQ _ _ H locs (fun _ => 0) r25.1 rfl hB dX12_signs_216
        refine lv_icmp_ne (tgt := 171) hx hb dX12_signs_164 (by decide) (fun c27 => ?_) (fun c27 => ?_)
        · have hf := (if_neg c27).symm.trans hf
          refine lv_iload_n hx hb dX12_signs_171 rfl (lv_at hl 0 rfl) ?_
          refine cxSP (As := [.int x2]) (rest := [.ref (a_M 0)]) (st1 := [.int (fX12_standing x2), .ref (a_M 0)]) C hK (tX12_standing l E x2 (fX12_standing x2) rfl) lk_X12_295 ⟨rfl, rfl⟩ (by rw [hRf, hRl]; decide) ⟨Nat.zero_le _, Nat.zero_le _⟩ (PB.sub hB.1 [] rfl) (hB.old hD hN) (Nat.le_trans hN hB.2.2.1) rfl hl.1 rfl rfl (Nat.le_of_ble_eq_true rfl) dX12_signs_172 ?_
          exact hj6 _ ls H locs (lv_sub hl [1, 0] rfl) hB hf
        · have hf := (if_pos c27).symm.trans hf
          refine lv_iconst (v := 5) hx hb dX12_signs_167 (by decide) ?_
          refine lv_goto (tgt := 175) hx hb dX12_signs_168 (by decide) ?_
          exact hj6 _ ls H locs (lv_sub hl [1, 0] rfl) hB hf
      · have hf := (if_pos c4).symm.trans hf
        refine lv_aload_n hx hb dX12_signs_152 rfl (lv_at hl 1 rfl) ?_
        refine lv_iconst (v := 1) hx hb dX12_signs_153 (by decide) ?_
        obtain ⟨r28, er28, hf⟩ := ox_ex hf
        refine cxVX (bs1 := (fun q => [wModel E a_M r28.2])) (As := [.int (1 : Int32)]) (rest := []) (st1 := [.int r28.1]) C hK (tX12_wrong l E a_M u_M (1 : Int32) r28 er28.symm) lk_X12_199 (by rw [hRf, hRl]; decide) ⟨Nat.zero_le _, Nat.zero_le _⟩ hB hD hN [0] (by decide) rfl (fun _ => rfl) (fun _ => rfl) (rc_X12 hK (hB.1 0 _ rfl)) rfl hl.1 rfl rfl (Nat.le_of_ble_eq_true rfl) dX12_signs_154 (fun H locs q29 hB => ?_)
        have hB : WB E ad s.heap [wModel E a_M r28.2] H locs := hB
        have hf := Option.some.inj hf
        subst hf
        exact hQ _ _ H locs (fun _ => 0) r28.1 rfl hB dX12_signs_157
    refine lv_if_eq (tgt := 60) hx hb dX12_signs_53 (by decide) (fun c30 => ?_) (fun c30 => ?_)
    · have hf := (if_pos c30).symm.trans hf
      refine lv_aload_n hx hb dX12_signs_60 rfl (lv_at hl 0 rfl) ?_
      refine lv_bipush (v := 11) hx hb dX12_signs_61 (by decide) ?_
      refine cxVP (As := [.int (11 : Int32)]) (rest := []) (st1 := [.int (fX12_isKey u_M (11 : Int32))]) C hK (tX12_isKey l E a_M u_M (11 : Int32) (fX12_isKey u_M (11 : Int32)) rfl) lk_X12_318 ⟨rfl, rfl⟩ (by rw [hRf, hRl]; decide) ⟨Nat.zero_le _, Nat.zero_le _⟩ (PB.sub hB.1 [0] rfl) (hB.old hD hN) (Nat.le_trans hN hB.2.2.1) (rc_X12 hK (hB.1 0 _ rfl)) rfl hl.1 rfl rfl (Nat.le_of_ble_eq_true rfl) dX12_signs_63 ?_
      refine lv_if_eq (tgt := 73) hx hb dX12_signs_66 (by decide) (fun c31 => ?_) (fun c31 => ?_)
      · have hf := (if_pos c31).symm.trans hf
        refine lv_aload_n hx hb dX12_signs_73 rfl (lv_at hl 0 rfl) ?_
        refine gf_X12_X12_kind C hK (hB.1 0 _ rfl) dX12_signs_74 ?_
        refine lv_iconst (v := 5) hx hb dX12_signs_77 (by decide) ?_
        refine lv_icmp_ne (tgt := 90) hx hb dX12_signs_78 (by decide) (fun c32 => ?_) (fun c32 => ?_)
        · have hf := (if_neg c32).symm.trans hf
          refine lv_aload_n hx hb dX12_signs_90 rfl (lv_at hl 0 rfl) ?_
          refine lv_bipush (v := 43) hx hb dX12_signs_91 (by decide) ?_
          refine cxVP (As := [.int (43 : Int32)]) (rest := []) (st1 := [.int (fX12_isSign u_M (43 : Int32))]) C hK (tX12_isSign l E a_M u_M (43 : Int32) (fX12_isSign u_M (43 : Int32)) rfl) lk_X12_212 ⟨rfl, rfl⟩ (by rw [hRf, hRl]; decide) ⟨Nat.zero_le _, Nat.zero_le _⟩ (PB.sub hB.1 [0] rfl) (hB.old hD hN) (Nat.le_trans hN hB.2.2.1) (rc_X12 hK (hB.1 0 _ rfl)) rfl hl.1 rfl rfl (Nat.le_of_ble_eq_true rfl) dX12_signs_93 ?_
          refine lv_if_eq (tgt := 104) hx hb dX12_signs_96 (by decide) (fun c33 => ?_) (fun c33 => ?_)
          · have hf := (if_pos c33).symm.trans hf
            refine lv_aload_n hx hb dX12_signs_104 rfl (lv_at hl 0 rfl) ?_
            refine lv_bipush (v := 45) hx hb dX12_signs_105 (by decide) ?_
            refine cxVP (As := [.int (45 : Int32)]) (rest := []) (st1 := [.int (fX12_isSign u_M (45 : Int32))]) C hK (tX12_isSign l E a_M u_M (45 : Int32) (fX12_isSign u_M (45 : Int32)) rfl) lk_X12_212 ⟨rfl, rfl⟩ (by rw [hRf, hRl]; decide) ⟨Nat.zero_le _, Nat.zero_le _⟩ (PB.sub hB.1 [0] rfl) (hB.old hD hN) (Nat.le_trans hN hB.2.2.1) (rc_X12 hK (hB.1 0 _ rfl)) rfl hl.1 rfl rfl (Nat.le_of_ble_eq_true rfl) dX12_signs_107 ?_
            refine lv_if_eq (tgt := 118) hx hb dX12_signs_110 (by decide) (fun c34 => ?_) (fun c34 => ?_)
            · have hf := (if_pos c34).symm.trans hf
              refine lv_aload_n hx hb dX12_signs_118 rfl (lv_at hl 0 rfl) ?_
              refine lv_bipush (v := 42) hx hb dX12_signs_119 (by decide) ?_
              refine cxVP (As := [.int (42 : Int32)]) (rest := []) (st1 := [.int (fX12_isSign u_M (42 : Int32))]) C hK (tX12_isSign l E a_M u_M (42 : Int32) (fX12_isSign u_M (42 : Int32)) rfl) lk_X12_212 ⟨rfl, rfl⟩ (by rw [hRf, hRl]; decide) ⟨Nat.zero_le _, Nat.zero_le _⟩ (PB.sub hB.1 [0] rfl) (hB.old hD hN) (Nat.le_trans hN hB.2.2.1) (rc_X12 hK (hB.1 0 _ rfl)) rfl hl.1 rfl rfl (Nat.le_of_ble_eq_true rfl) dX12_signs_121 ?_
              refine lv_if_eq (tgt := 132) hx hb dX12_signs_124 (by decide) (fun c35 => ?_) (fun c35 => ?_)
              · have hf := (if_pos c35).symm.trans hf
                refine lv_aload_n hx hb dX12_signs_132 rfl (lv_at hl 0 rfl) ?_
                refine lv_bipush (v := 47) hx hb dX12_signs_133 (by decide) ?_
                refine cxVP (As := [.int (47 : Int32)]) (rest := []) (st1 := [.int (fX12_isSign u_M (47 : Int32))]) C hK (tX12_isSign l E a_M u_M (47 : Int32) (fX12_isSign u_M (47 : Int32)) rfl) lk_X12_212 ⟨rfl, rfl⟩ (by rw [hRf, hRl]; decide) ⟨Nat.zero_le _, Nat.zero_le _⟩ (PB.sub hB.1 [0] rfl) (hB.old hD hN) (Nat.le_trans hN hB.2.2.1) (rc_X12 hK (hB.1 0 _ rfl)) rfl hl.1 rfl rfl (Nat.le_of_ble_eq_true rfl) dX12_signs_135 ?_
                refine lv_if_eq (tgt := 146) hx hb dX12_signs_138 (by decide) (fun c36 => ?_) (fun c36 => ?_)
                · have hf := (if_pos c36).symm.trans hf
                  refine lv_iconst (v := 0) hx hb dX12_signs_146 (by decide) ?_
                  exact hj3 _ ls H locs (lv_sub hl [0] rfl) hB hf
                · have hf := (if_neg c36).symm.trans hf
                  refine lv_bipush (v := 14) hx hb dX12_signs_141 (by decide) ?_
                  refine lv_goto (tgt := 147) hx hb dX12_signs_143 (by decide) ?_
                  exact hj3 _ ls H locs (lv_sub hl [0] rfl) hB hf
              · have hf := (if_neg c35).symm.trans hf
                refine lv_bipush (v := 13) hx hb dX12_signs_127 (by decide) ?_
                refine lv_goto (tgt := 147) hx hb dX12_signs_129 (by decide) ?_
                exact hj3 _ ls H locs (lv_sub hl [0] rfl) hB hf
            · have hf := (if_neg c34).symm.trans hf
              refine lv_bipush (v := 12) hx hb dX12_signs_113 (by decide) ?_
              refine lv_goto (tgt := 147) hx hb dX12_signs_115 (by decide) ?_
              exact hj3 _ ls H locs (lv_sub hl [0] rfl) hB hf
          · have hf := (if_neg c33).symm.trans hf
            refine lv_bipush (v := 11) hx hb dX12_signs_99 (by decide) ?_
            refine lv_goto (tgt := 147) hx hb dX12_signs_101 (by decide) ?_
            exact hj3 _ ls H locs (lv_sub hl [0] rfl) hB hf
        · have hf := (if_pos c32).symm.trans hf
          refine lv_iconst (v := 5) hx hb dX12_signs_81 (by decide) ?_
          refine lv_aload_n hx hb dX12_signs_82 rfl (lv_at hl 0 rfl) ?_
          refine gf_X12_X12_which C hK (hB.1 0 _ rfl) dX12_signs_83 ?_
          refine lv_iadd hx hb dX12_signs_86 ?_
          refine lv_goto (tgt := 147) hx hb dX12_signs_87 (by decide) ?_
          exact hj3 _ ls H locs (lv_sub hl [0] rfl) hB hf
      · have hf := (if_neg c31).symm.trans hf
        refine lv_iconst (v := 4) hx hb dX12_signs_69 (by decide) ?_
        refine lv_goto (tgt := 147) hx hb dX12_signs_70 (by decide) ?_
        exact hj3 _ ls H locs (lv_sub hl [0] rfl) hB hf
    · have hf := (if_neg c30).symm.trans hf
      refine lv_iconst (v := 3) hx hb dX12_signs_56 (by decide) ?_
      refine lv_goto (tgt := 147) hx hb dX12_signs_57 (by decide) ?_
      exact hj3 _ ls H locs (lv_sub hl [0] rfl) hB hf
  refine lv_if_eq (tgt := 47) hx hb dX12_signs_6 (by decide) (fun c37 => ?_) (fun c37 => ?_)
  · have hf := (if_pos c37).symm.trans hf
    exact hj1 ls H locs (lv_sub hl [0] rfl) hB hf
  · have hf := (if_neg c37).symm.trans hf
    refine lv_aload_n hx hb dX12_signs_9 rfl (lv_at hl 0 rfl) ?_
    refine gf_X12_X12_brackets C hK (hB.1 0 _ rfl) dX12_signs_10 ?_
    refine lv_if_le (tgt := 47) hx hb dX12_signs_13 (by decide) (fun c38 => ?_) (fun c38 => ?_)
    · have hf := (if_pos c38).symm.trans hf
      exact hj1 ls H locs (lv_sub hl [0] rfl) hB hf
    · have hf := (if_neg c38).symm.trans hf
      refine lv_aload_n hx hb dX12_signs_16 rfl (lv_at hl 0 rfl) ?_
      refine lv_iconst (v := 1) hx hb dX12_signs_17 (by decide) ?_
      obtain ⟨r39, hr39, hf⟩ := ox_bind hf
      refine cxVX (bs1 := (fun q => [wModel E a_M r39])) (As := [.int (1 : Int32)]) (rest := []) (st1 := []) C hK (tX12_bind l E a_M u_M (1 : Int32) r39 hr39) lk_X12_330 (by rw [hRf, hRl]; decide) ⟨Nat.zero_le _, Nat.zero_le _⟩ hB hD hN [0] (by decide) rfl (fun _ => rfl) (fun _ => rfl) (rc_X12 hK (hB.1 0 _ rfl)) rfl hl.1 rfl rfl (Nat.le_of_ble_eq_true rfl) dX12_signs_18 (fun H locs q40 hB => ?_)
      have hB : WB E ad s.heap [wModel E a_M r39] H locs := hB
      refine lv_aload_n hx hb dX12_signs_21 rfl (lv_at hl 0 rfl) ?_
      refine lv_dup hx hb dX12_signs_22 rfl ?_
      refine gf_X12_X12_waits C hK (hB.1 0 _ rfl) dX12_signs_23 ?_
      refine lv_iconst (v := 1) hx hb dX12_signs_26 (by decide) ?_
      refine lv_isub hx hb dX12_signs_27 ?_
      refine lv_topi (fun x41 ex41 => ?_)
      have hf := ox_lt ex41 hf
      refine pf_X12_X12_waits C hK hB hD 0 rfl dX12_signs_28 (fun H locs u42 eu42 hB => ?_)
      have hf := ox_lt eu42 hf
      have hB : WB E ad s.heap [wModel E a_M u42] H locs := hB
      refine lv_aload_n hx hb dX12_signs_31 rfl (lv_at hl 0 rfl) ?_
      refine lv_dup hx hb dX12_signs_32 rfl ?_
      refine gf_X12_X12_brackets C hK (hB.1 0 _ rfl) dX12_signs_33 ?_
      refine lv_iconst (v := 1) hx hb dX12_signs_36 (by decide) ?_
      refine lv_isub hx hb dX12_signs_37 ?_
      refine lv_topi (fun x43 ex43 => ?_)
      have hf := ox_lt ex43 hf
      refine pf_X12_X12_brackets C hK hB hD 0 rfl dX12_signs_38 (fun H locs u44 eu44 hB => ?_)
      have hf := ox_lt eu44 hf
      have hB : WB E ad s.heap [wModel E a_M u44] H locs := hB
      refine lv_aload_n hx hb dX12_signs_41 rfl (lv_at hl 0 rfl) ?_
      obtain ⟨r45, hr45, hf⟩ := ox_bind hf
      refine cxVX (bs1 := (fun q => [wModel E a_M r45])) (As := []) (rest := []) (st1 := []) C hK (tX12_token l E a_M u44 r45 hr45) lk_X12_209 (by rw [hRf, hRl]; decide) ⟨Nat.zero_le _, Nat.zero_le _⟩ hB hD hN [0] (by decide) rfl (fun _ => rfl) (fun _ => rfl) (rc_X12 hK (hB.1 0 _ rfl)) rfl hl.1 rfl rfl (Nat.le_of_ble_eq_true rfl) dX12_signs_42 (fun H locs q46 hB => ?_)
      have hB : WB E ad s.heap [wModel E a_M r45] H locs := hB
      refine lv_iconst (v := 1) hx hb dX12_signs_45 (by decide) ?_
      have hf := Option.some.inj hf
      subst hf
      exact hQ _ _ H locs (fun _ => 0) (1 : Int32) bz1 hB dX12_signs_46
set_option maxHeartbeats 4000000 in
set_option maxRecDepth 20000 in
theorem tX12_nameMet (l : Launch) (E : Ev) (a_M : Nat → Nat) (u_M : St) (res : Int32) (hf : fX12_nameMet u_M = res) : MP l E yX12_nameMet cX12_nameMet 1 (some .int) (rmm 0 0) [wModel E a_M u_M] [.ref (a_M 0)] (some (.int res)) := by
  unfold fX12_nameMet at hf
  refine MP.ofI rfl (by decide) (Nat.le_of_ble_eq_true rfl) ?_
  intro p e R s m args below meth c ls Q hRf hRl C hP hK hN hl hQ
  have hx := C.1
  have hb := C.2.1
  have hl : lv_has ls 1 [(0, .ref (a_M 0))] := hl
  refine lv_aload_n hx hb dX12_nameMet_0 rfl (lv_at hl 0 rfl) ?_
  refine gf_X12_X12_kind C hK (hP 0 _ rfl) dX12_nameMet_1 ?_
  refine lv_iconst (v := 1) hx hb dX12_nameMet_4 (by decide) ?_
  obtain ⟨x1, ex1, hf⟩ := ox_ex hf
  have hjx1 : W p l e R s m args below meth c s.heap [] 0 0 Q (F0 m 28 ls [.int x1]) := by
    subst hf
    exact hQ _ _ dX12_nameMet_28
  refine lv_icmp_ne (tgt := 27) hx hb dX12_nameMet_5 (by decide) (fun c2 => ?_) (fun c2 => ?_)
  · refine lv_iconst (v := (-1)) hx hb dX12_nameMet_27 (by decide) ?_
    exact ox_topi ((ex1).trans (if_neg c2)).symm hjx1
  · refine lv_aload_n hx hb dX12_nameMet_8 rfl (lv_at hl 0 rfl) ?_
    refine gf_X12_X12_which C hK (hP 0 _ rfl) dX12_nameMet_9 ?_
    refine lv_bipush (v := 13) hx hb dX12_nameMet_12 (by decide) ?_
    refine lv_icmp_lt (tgt := 27) hx hb dX12_nameMet_14 (by decide) (fun c3 => ?_) (fun c3 => ?_)
    · refine lv_iconst (v := (-1)) hx hb dX12_nameMet_27 (by decide) ?_
      exact ox_topi (((ex1).trans (if_pos c2)).trans (if_pos c3)).symm hjx1
    · refine lv_aload_n hx hb dX12_nameMet_17 rfl (lv_at hl 0 rfl) ?_
      refine gf_X12_X12_which C hK (hP 0 _ rfl) dX12_nameMet_18 ?_
      refine lv_bipush (v := 13) hx hb dX12_nameMet_21 (by decide) ?_
      refine lv_isub hx hb dX12_nameMet_23 ?_
      refine lv_goto (tgt := 28) hx hb dX12_nameMet_24 (by decide) ?_
      exact ox_topi (((ex1).trans (if_pos c2)).trans (if_neg c3)).symm hjx1
set_option maxHeartbeats 4000000 in
set_option maxRecDepth 20000 in
theorem tX12_leafRead (l : Launch) (E : Ev) (a_M : Nat → Nat) (u_M : St) (res : Int32 × St) (hf : fX12_leafRead u_M = some res) : MX l E yX12_leafRead cX12_leafRead 2 (some .boolean) (rmm 2 47) [wModel E a_M u_M] (fun q => [wModel E a_M res.2]) [.ref (a_M 0)] (some (.int res.1)) := by
  unfold fX12_leafRead at hf
  refine MX.ofZZ rfl (by decide) (Nat.le_of_ble_eq_true rfl) ?_
  intro p e R s m args below meth c ls Q ad H hRf hRl C hB hD hK hN hl hQ
  generalize hlocs : ([] : List Loc) = locs at hB ⊢
  clear hlocs
  have hx := C.1
  have hb := C.2.1
  have hl : lv_has ls 2 [(0, .ref (a_M 0))] := hl
  refine lv_aload_n hx hb dX12_leafRead_0 rfl (lv_at hl 0 rfl) ?_
  refine lv_bipush (v := 40) hx hb dX12_leafRead_1 (by decide) ?_
  refine cxVP (As := [.int (40 : Int32)]) (rest := []) (st1 := [.int (fX12_isSign u_M (40 : Int32))]) C hK (tX12_isSign l E a_M u_M (40 : Int32) (fX12_isSign u_M (40 : Int32)) rfl) lk_X12_212 ⟨rfl, rfl⟩ (by rw [hRf, hRl]; decide) ⟨Nat.zero_le _, Nat.zero_le _⟩ (PB.sub hB.1 [0] rfl) (hB.old hD hN) (Nat.le_trans hN hB.2.2.1) (rc_X12 hK (hB.1 0 _ rfl)) rfl hl.1 rfl rfl (Nat.le_of_ble_eq_true rfl) dX12_leafRead_3 ?_
  refine lv_if_eq (tgt := 50) hx hb dX12_leafRead_6 (by decide) (fun c1 => ?_) (fun c1 => ?_)
  · have hf := (if_pos c1).symm.trans hf
    refine lv_aload_n hx hb dX12_leafRead_50 rfl (lv_at hl 0 rfl) ?_
    refine lv_bipush (v := 12) hx hb dX12_leafRead_51 (by decide) ?_
    refine cxVP (As := [.int (12 : Int32)]) (rest := []) (st1 := [.int (fX12_isKey u_M (12 : Int32))]) C hK (tX12_isKey l E a_M u_M (12 : Int32) (fX12_isKey u_M (12 : Int32)) rfl) lk_X12_318 ⟨rfl, rfl⟩ (by rw [hRf, hRl]; decide) ⟨Nat.zero_le _, Nat.zero_le _⟩ (PB.sub hB.1 [0] rfl) (hB.old hD hN) (Nat.le_trans hN hB.2.2.1) (rc_X12 hK (hB.1 0 _ rfl)) rfl hl.1 rfl rfl (Nat.le_of_ble_eq_true rfl) dX12_leafRead_53 ?_
    obtain ⟨j2, ej2, hf⟩ := ox_ex hf
    have hj2 : ∀ (ls : Array Slot) (H : Heap) (locs : List Loc), lv_has ls 2 [(0, .ref (a_M 0))] → WB E ad s.heap [wModel E a_M u_M] H locs → j2 = some res → W p l e R s m args below meth c H locs 0 0 Q (F0 m 86 ls []) := by
      intro ls H locs hl hB hf
      have hf := ox_a0 ej2 hf
      refine lv_aload_n hx hb dX12_leafRead_86 rfl (lv_at hl 0 rfl) ?_
      refine cxVP (As := []) (rest := []) (st1 := [.int (fX12_nameMet u_M)]) C hK (tX12_nameMet l E a_M u_M (fX12_nameMet u_M) rfl) lk_X12_324 ⟨rfl, rfl⟩ (by rw [hRf, hRl]; decide) ⟨Nat.zero_le _, Nat.zero_le _⟩ (PB.sub hB.1 [0] rfl) (hB.old hD hN) (Nat.le_trans hN hB.2.2.1) (rc_X12 hK (hB.1 0 _ rfl)) rfl hl.1 rfl rfl (Nat.le_of_ble_eq_true rfl) dX12_leafRead_87 ?_
      refine lv_topi (fun x3 ex3 => ?_)
      have hf := ox_lt ex3 hf
      refine lv_istore_n (lv' := [(1, .int x3), (0, .ref (a_M 0))]) hx hb dX12_leafRead_90 rfl hl (by decide) rfl (fun ls hl => ?_)
      refine lv_iload_n hx hb dX12_leafRead_91 rfl (lv_at hl 0 rfl) ?_
      obtain ⟨j4, ej4, hf⟩ := ox_ex hf
      have hj4 : ∀ (ls : Array Slot) (H : Heap) (locs : List Loc), lv_has ls 2 [(0, .ref (a_M 0)), (1, .int x3)] → WB E ad s.heap [wModel E a_M u_M] H locs → j4 = some res → W p l e R s m args below meth c H locs 0 0 Q (F0 m 109 ls []) := by
        intro ls H locs hl hB hf
        have hf := ox_a0 ej4 hf
        refine lv_iload_n hx hb dX12_leafRead_109 rfl (lv_at hl 1 rfl) ?_
        obtain ⟨j5, ej5, hf⟩ := ox_ex hf
        have hj5 : ∀ (ls : Array Slot) (H : Heap) (locs : List Loc), lv_has ls 2 [(0, .ref (a_M 0)), (1, .int x3)] → WB E ad s.heap [wModel E a_M u_M] H locs → j5 = some res → W p l e R s m args below meth c H locs 0 0 Q (F0 m 129 ls []) := by
          intro ls H locs hl hB hf
          have hf := ox_a0 ej5 hf
          refine lv_aload_n hx hb dX12_leafRead_129 rfl (lv_at hl 0 rfl) ?_
          obtain ⟨r6, er6, hf⟩ := ox_ex hf
          refine cxVX (bs1 := (fun q => [wModel E a_M r6.2])) (As := []) (rest := []) (st1 := [.int r6.1]) C hK (tX12_isCounted l E a_M u_M r6 er6.symm) lk_X12_321 (by rw [hRf, hRl]; decide) ⟨Nat.zero_le _, Nat.zero_le _⟩ hB hD hN [0] (by decide) rfl (fun _ => rfl) (fun _ => rfl) (rc_X12 hK (hB.1 0 _ rfl)) rfl hl.1 rfl rfl (Nat.le_of_ble_eq_true rfl) dX12_leafRead_130 (fun H locs q7 hB => ?_)
          have hB : WB E ad s.heap [wModel E a_M r6.2] H locs := hB
          refine lv_if_ne (tgt := 138) hx hb dX12_leafRead_133 (by decide) (fun c8 => ?_) (fun c8 => ?_)
          · have hf := (if_neg c8).symm.trans hf
            refine lv_aload_n hx hb dX12_leafRead_138 rfl (lv_at hl 0 rfl) ?_
            refine lv_iload_n hx hb dX12_leafRead_139 rfl (lv_at hl 1 rfl) ?_
            obtain ⟨x9, ex9, hf⟩ := ox_ex hf
            have hjx9 : W p l e R s m args below meth c H locs 0 0 Q (F0 m 148 ls [.int x9, .ref (a_M 0)]) := by
              refine lv_iload_n hx hb dX12_leafRead_148 rfl (lv_at hl 1 rfl) ?_
              obtain ⟨x10, ex10, hf⟩ := ox_ex hf
              have hjx10 : W p l e R s m args below meth c H locs 0 0 Q (F0 m 160 ls [.int x10, .int x9, .ref (a_M 0)]) := by
                refine lv_iconst (v := 0) hx hb dX12_leafRead_160 (by decide) ?_
                obtain ⟨r11, hr11, hf⟩ := ox_bind hf
                refine cxVX (bs1 := (fun q => [wModel E a_M r11])) (As := [.int x9, .int x10, .int (0 : Int32)]) (rest := []) (st1 := []) C hK (tX12_grown l E a_M (r6.2) x9 x10 (0 : Int32) r11 hr11) lk_X12_303 (by rw [hRf, hRl]; decide) ⟨Nat.zero_le _, Nat.zero_le _⟩ hB hD hN [0] (by decide) rfl (fun _ => rfl) (fun _ => rfl) (rc_X12 hK (hB.1 0 _ rfl)) rfl hl.1 rfl rfl (Nat.le_of_ble_eq_true rfl) dX12_leafRead_161 (fun H locs q12 hB => ?_)
                have hB : WB E ad s.heap [wModel E a_M r11] H locs := hB
                refine lv_aload_n hx hb dX12_leafRead_164 rfl (lv_at hl 0 rfl) ?_
                refine lv_iconst (v := 0) hx hb dX12_leafRead_165 (by decide) ?_
                refine pf_X12_X12_wants C hK hB hD 0 rfl (by decide) dX12_leafRead_166 (fun H locs u13 eu13 hB => ?_)
                have hf := ox_lt eu13 hf
                have hB : WB E ad s.heap [wModel E a_M u13] H locs := hB
                refine lv_aload_n hx hb dX12_leafRead_169 rfl (lv_at hl 0 rfl) ?_
                obtain ⟨r14, hr14, hf⟩ := ox_bind hf
                refine cxVX (bs1 := (fun q => [wModel E a_M r14])) (As := []) (rest := []) (st1 := []) C hK (tX12_token l E a_M u13 r14 hr14) lk_X12_209 (by rw [hRf, hRl]; decide) ⟨Nat.zero_le _, Nat.zero_le _⟩ hB hD hN [0] (by decide) rfl (fun _ => rfl) (fun _ => rfl) (rc_X12 hK (hB.1 0 _ rfl)) rfl hl.1 rfl rfl (Nat.le_of_ble_eq_true rfl) dX12_leafRead_170 (fun H locs q15 hB => ?_)
                have hB : WB E ad s.heap [wModel E a_M r14] H locs := hB
                refine lv_iconst (v := 1) hx hb dX12_leafRead_173 (by decide) ?_
                have hf := Option.some.inj hf
                subst hf
                exact hQ _ _ H locs (fun _ => 0) (1 : Int32) bz1 hB dX12_leafRead_174
              refine lv_if_lt (tgt := 156) hx hb dX12_leafRead_149 (by decide) (fun c16 => ?_) (fun c16 => ?_)
              · refine lv_aload_n hx hb dX12_leafRead_156 rfl (lv_at hl 0 rfl) ?_
                refine gf_X12_X12_which C hK (hB.1 0 _ rfl) dX12_leafRead_157 ?_
                exact ox_topi ((ex10).trans (if_pos c16)).symm hjx10
              · refine lv_iload_n hx hb dX12_leafRead_152 rfl (lv_at hl 1 rfl) ?_
                refine lv_goto (tgt := 160) hx hb dX12_leafRead_153 (by decide) ?_
                exact ox_topi ((ex10).trans (if_neg c16)).symm hjx10
            refine lv_if_lt (tgt := 147) hx hb dX12_leafRead_140 (by decide) (fun c17 => ?_) (fun c17 => ?_)
            · refine lv_iconst (v := 0) hx hb dX12_leafRead_147 (by decide) ?_
              exact ox_topi ((ex9).trans (if_pos c17)).symm hjx9
            · refine lv_iconst (v := 1) hx hb dX12_leafRead_143 (by decide) ?_
              refine lv_goto (tgt := 148) hx hb dX12_leafRead_144 (by decide) ?_
              exact ox_topi ((ex9).trans (if_neg c17)).symm hjx9
          · have hf := (if_pos c8).symm.trans hf
            refine lv_iconst (v := 0) hx hb dX12_leafRead_136 (by decide) ?_
            have hf := Option.some.inj hf
            subst hf
            exact hQ _ _ H locs (fun _ => 0) (0 : Int32) bz0 hB dX12_leafRead_137
        refine lv_if_ge (tgt := 129) hx hb dX12_leafRead_110 (by decide) (fun c18 => ?_) (fun c18 => ?_)
        · have hf := (if_pos c18).symm.trans hf
          exact hj5 ls H locs (lv_sub hl [0, 1] rfl) hB hf
        · have hf := (if_neg c18).symm.trans hf
          refine lv_aload_n hx hb dX12_leafRead_113 rfl (lv_at hl 0 rfl) ?_
          refine gf_X12_X12_which C hK (hB.1 0 _ rfl) dX12_leafRead_114 ?_
          refine lv_sipush (v := 9999) hx hb dX12_leafRead_117 (by decide) ?_
          refine lv_icmp_le (tgt := 129) hx hb dX12_leafRead_120 (by decide) (fun c19 => ?_) (fun c19 => ?_)
          · have hf := (if_pos c19).symm.trans hf
            exact hj5 ls H locs (lv_sub hl [0, 1] rfl) hB hf
          · have hf := (if_neg c19).symm.trans hf
            refine lv_aload_n hx hb dX12_leafRead_123 rfl (lv_at hl 0 rfl) ?_
            refine lv_iconst (v := 2) hx hb dX12_leafRead_124 (by decide) ?_
            obtain ⟨r20, er20, hf⟩ := ox_ex hf
            refine cxVX (bs1 := (fun q => [wModel E a_M r20.2])) (As := [.int (2 : Int32)]) (rest := []) (st1 := [.int r20.1]) C hK (tX12_wrong l E a_M u_M (2 : Int32) r20 er20.symm) lk_X12_199 (by rw [hRf, hRl]; decide) ⟨Nat.zero_le _, Nat.zero_le _⟩ hB hD hN [0] (by decide) rfl (fun _ => rfl) (fun _ => rfl) (rc_X12 hK (hB.1 0 _ rfl)) rfl hl.1 rfl rfl (Nat.le_of_ble_eq_true rfl) dX12_leafRead_125 (fun H locs q21 hB => ?_)
            have hB : WB E ad s.heap [wModel E a_M r20.2] H locs := hB
            have hf := Option.some.inj hf
            subst hf
            exact hQ _ _ H locs (fun _ => 0) r20.1 rfl hB dX12_leafRead_128
      refine lv_if_ge (tgt := 109) hx hb dX12_leafRead_92 (by decide) (fun c22 => ?_) (fun c22 => ?_)
      · have hf := (if_pos c22).symm.trans hf
        exact hj4 ls H locs (lv_sub hl [1, 0] rfl) hB hf
      · have hf := (if_neg c22).symm.trans hf
        refine lv_aload_n hx hb dX12_leafRead_95 rfl (lv_at hl 1 rfl) ?_
        refine gf_X12_X12_kind C hK (hB.1 0 _ rfl) dX12_leafRead_96 ?_
        refine lv_iconst (v := 3) hx hb dX12_leafRead_99 (by decide) ?_
        refine lv_icmp_eq (tgt := 109) hx hb dX12_leafRead_100 (by decide) (fun c23 => ?_) (fun c23 => ?_)
        · have hf := (if_pos c23).symm.trans hf
          exact hj4 ls H locs (lv_sub hl [1, 0] rfl) hB hf
        · have hf := (if_neg c23).symm.trans hf
          refine lv_aload_n hx hb dX12_leafRead_103 rfl (lv_at hl 1 rfl) ?_
          refine lv_iconst (v := 1) hx hb dX12_leafRead_104 (by decide) ?_
          obtain ⟨r24, er24, hf⟩ := ox_ex hf
          refine cxVX (bs1 := (fun q => [wModel E a_M r24.2])) (As := [.int (1 : Int32)]) (rest := []) (st1 := [.int r24.1]) C hK (tX12_wrong l E a_M u_M (1 : Int32) r24 er24.symm) lk_X12_199 (by rw [hRf, hRl]; decide) ⟨Nat.zero_le _, Nat.zero_le _⟩ hB hD hN [0] (by decide) rfl (fun _ => rfl) (fun _ => rfl) (rc_X12 hK (hB.1 0 _ rfl)) rfl hl.1 rfl rfl (Nat.le_of_ble_eq_true rfl) dX12_leafRead_105 (fun H locs q25 hB => ?_)
          have hB : WB E ad s.heap [wModel E a_M r24.2] H locs := hB
          have hf := Option.some.inj hf
          subst hf
          exact hQ _ _ H locs (fun _ => 0) r24.1 rfl hB dX12_leafRead_108
    refine lv_if_eq (tgt := 86) hx hb dX12_leafRead_56 (by decide) (fun c26 => ?_) (fun c26 => ?_)
    · have hf := (if_pos c26).symm.trans hf
      exact hj2 ls H locs (lv_sub hl [0] rfl) hB hf
    · have hf := (if_neg c26).symm.trans hf
      refine lv_aload_n hx hb dX12_leafRead_59 rfl (lv_at hl 0 rfl) ?_
      refine gf_X12_X12_mayNot C hK (hB.1 0 _ rfl) dX12_leafRead_60 ?_
      refine lv_if_eq (tgt := 86) hx hb dX12_leafRead_63 (by decide) (fun c27 => ?_) (fun c27 => ?_)
      · have hf := (if_pos c27).symm.trans hf
        exact hj2 ls H locs (lv_sub hl [0] rfl) hB hf
      · have hf := (if_neg c27).symm.trans hf
        refine lv_aload_n hx hb dX12_leafRead_66 rfl (lv_at hl 0 rfl) ?_
        obtain ⟨r28, er28, hf⟩ := ox_ex hf
        refine cxVX (bs1 := (fun q => [wModel E a_M r28.2])) (As := []) (rest := []) (st1 := [.int r28.1]) C hK (tX12_isCounted l E a_M u_M r28 er28.symm) lk_X12_321 (by rw [hRf, hRl]; decide) ⟨Nat.zero_le _, Nat.zero_le _⟩ hB hD hN [0] (by decide) rfl (fun _ => rfl) (fun _ => rfl) (rc_X12 hK (hB.1 0 _ rfl)) rfl hl.1 rfl rfl (Nat.le_of_ble_eq_true rfl) dX12_leafRead_67 (fun H locs q29 hB => ?_)
        have hB : WB E ad s.heap [wModel E a_M r28.2] H locs := hB
        refine lv_if_ne (tgt := 75) hx hb dX12_leafRead_70 (by decide) (fun c30 => ?_) (fun c30 => ?_)
        · have hf := (if_neg c30).symm.trans hf
          refine lv_aload_n hx hb dX12_leafRead_75 rfl (lv_at hl 0 rfl) ?_
          refine lv_iconst (v := 2) hx hb dX12_leafRead_76 (by decide) ?_
          obtain ⟨r31, hr31, hf⟩ := ox_bind hf
          refine cxVX (bs1 := (fun q => [wModel E a_M r31])) (As := [.int (2 : Int32)]) (rest := []) (st1 := []) C hK (tX12_waitsFor l E a_M (r28.2) (2 : Int32) r31 hr31) lk_X12_310 (by rw [hRf, hRl]; decide) ⟨Nat.zero_le _, Nat.zero_le _⟩ hB hD hN [0] (by decide) rfl (fun _ => rfl) (fun _ => rfl) (rc_X12 hK (hB.1 0 _ rfl)) rfl hl.1 rfl rfl (Nat.le_of_ble_eq_true rfl) dX12_leafRead_77 (fun H locs q32 hB => ?_)
          have hB : WB E ad s.heap [wModel E a_M r31] H locs := hB
          refine lv_aload_n hx hb dX12_leafRead_80 rfl (lv_at hl 0 rfl) ?_
          obtain ⟨r33, hr33, hf⟩ := ox_bind hf
          refine cxVX (bs1 := (fun q => [wModel E a_M r33])) (As := []) (rest := []) (st1 := []) C hK (tX12_token l E a_M r31 r33 hr33) lk_X12_209 (by rw [hRf, hRl]; decide) ⟨Nat.zero_le _, Nat.zero_le _⟩ hB hD hN [0] (by decide) rfl (fun _ => rfl) (fun _ => rfl) (rc_X12 hK (hB.1 0 _ rfl)) rfl hl.1 rfl rfl (Nat.le_of_ble_eq_true rfl) dX12_leafRead_81 (fun H locs q34 hB => ?_)
          have hB : WB E ad s.heap [wModel E a_M r33] H locs := hB
          refine lv_iconst (v := 1) hx hb dX12_leafRead_84 (by decide) ?_
          have hf := Option.some.inj hf
          subst hf
          exact hQ _ _ H locs (fun _ => 0) (1 : Int32) bz1 hB dX12_leafRead_85
        · have hf := (if_pos c30).symm.trans hf
          refine lv_iconst (v := 0) hx hb dX12_leafRead_73 (by decide) ?_
          have hf := Option.some.inj hf
          subst hf
          exact hQ _ _ H locs (fun _ => 0) (0 : Int32) bz0 hB dX12_leafRead_74
  · have hf := (if_neg c1).symm.trans hf
    refine lv_aload_n hx hb dX12_leafRead_9 rfl (lv_at hl 0 rfl) ?_
    refine gf_X12_X12_brackets C hK (hB.1 0 _ rfl) dX12_leafRead_10 ?_
    refine lv_bipush (v := 8) hx hb dX12_leafRead_13 (by decide) ?_
    refine lv_icmp_ne (tgt := 24) hx hb dX12_leafRead_15 (by decide) (fun c35 => ?_) (fun c35 => ?_)
    · have hf := (if_neg c35).symm.trans hf
      refine lv_aload_n hx hb dX12_leafRead_24 rfl (lv_at hl 0 rfl) ?_
      refine lv_dup hx hb dX12_leafRead_25 rfl ?_
      refine gf_X12_X12_brackets C hK (hB.1 0 _ rfl) dX12_leafRead_26 ?_
      refine lv_iconst (v := 1) hx hb dX12_leafRead_29 (by decide) ?_
      refine lv_iadd hx hb dX12_leafRead_30 ?_
      refine lv_topi (fun x36 ex36 => ?_)
      have hf := ox_lt ex36 hf
      refine pf_X12_X12_brackets C hK hB hD 0 rfl dX12_leafRead_31 (fun H locs u37 eu37 hB => ?_)
      have hf := ox_lt eu37 hf
      have hB : WB E ad s.heap [wModel E a_M u37] H locs := hB
      refine lv_aload_n hx hb dX12_leafRead_34 rfl (lv_at hl 0 rfl) ?_
      refine lv_iconst (v := 0) hx hb dX12_leafRead_35 (by decide) ?_
      obtain ⟨r38, hr38, hf⟩ := ox_bind hf
      refine cxVX (bs1 := (fun q => [wModel E a_M r38])) (As := [.int (0 : Int32)]) (rest := []) (st1 := []) C hK (tX12_waitsFor l E a_M u37 (0 : Int32) r38 hr38) lk_X12_310 (by rw [hRf, hRl]; decide) ⟨Nat.zero_le _, Nat.zero_le _⟩ hB hD hN [0] (by decide) rfl (fun _ => rfl) (fun _ => rfl) (rc_X12 hK (hB.1 0 _ rfl)) rfl hl.1 rfl rfl (Nat.le_of_ble_eq_true rfl) dX12_leafRead_36 (fun H locs q39 hB => ?_)
      have hB : WB E ad s.heap [wModel E a_M r38] H locs := hB
      refine lv_aload_n hx hb dX12_leafRead_39 rfl (lv_at hl 0 rfl) ?_
      refine lv_iconst (v := 1) hx hb dX12_leafRead_40 (by decide) ?_
      refine pf_X12_X12_mayNot C hK hB hD 0 rfl (by decide) dX12_leafRead_41 (fun H locs u40 eu40 hB => ?_)
      have hf := ox_lt eu40 hf
      have hB : WB E ad s.heap [wModel E a_M u40] H locs := hB
      refine lv_aload_n hx hb dX12_leafRead_44 rfl (lv_at hl 0 rfl) ?_
      obtain ⟨r41, hr41, hf⟩ := ox_bind hf
      refine cxVX (bs1 := (fun q => [wModel E a_M r41])) (As := []) (rest := []) (st1 := []) C hK (tX12_token l E a_M u40 r41 hr41) lk_X12_209 (by rw [hRf, hRl]; decide) ⟨Nat.zero_le _, Nat.zero_le _⟩ hB hD hN [0] (by decide) rfl (fun _ => rfl) (fun _ => rfl) (rc_X12 hK (hB.1 0 _ rfl)) rfl hl.1 rfl rfl (Nat.le_of_ble_eq_true rfl) dX12_leafRead_45 (fun H locs q42 hB => ?_)
      have hB : WB E ad s.heap [wModel E a_M r41] H locs := hB
      refine lv_iconst (v := 1) hx hb dX12_leafRead_48 (by decide) ?_
      have hf := Option.some.inj hf
      subst hf
      exact hQ _ _ H locs (fun _ => 0) (1 : Int32) bz1 hB dX12_leafRead_49
    · have hf := (if_pos c35).symm.trans hf
      refine lv_aload_n hx hb dX12_leafRead_18 rfl (lv_at hl 0 rfl) ?_
      refine lv_iconst (v := 2) hx hb dX12_leafRead_19 (by decide) ?_
      obtain ⟨r43, er43, hf⟩ := ox_ex hf
      refine cxVX (bs1 := (fun q => [wModel E a_M r43.2])) (As := [.int (2 : Int32)]) (rest := []) (st1 := [.int r43.1]) C hK (tX12_wrong l E a_M u_M (2 : Int32) r43 er43.symm) lk_X12_199 (by rw [hRf, hRl]; decide) ⟨Nat.zero_le _, Nat.zero_le _⟩ hB hD hN [0] (by decide) rfl (fun _ => rfl) (fun _ => rfl) (rc_X12 hK (hB.1 0 _ rfl)) rfl hl.1 rfl rfl (Nat.le_of_ble_eq_true rfl) dX12_leafRead_20 (fun H locs q44 hB => ?_)
      have hB : WB E ad s.heap [wModel E a_M r43.2] H locs := hB
      have hf := Option.some.inj hf
      subst hf
      exact hQ _ _ H locs (fun _ => 0) r43.1 rfl hB dX12_leafRead_23
