set_option maxHeartbeats 4000000 in
set_option maxRecDepth 20000 in
theorem tX3_clear (l : Launch) (E : Ev) (a_nt : Nat → Nat) (u_nt : St) (res : St) (hf : fX3_clear u_nt = res) : MX l E yX3_clear cX3_clear 1 none (rmm 0 0) [wNotes E a_nt u_nt] (fun q => [wNotes E a_nt res]) [.ref (a_nt 0)] none := by
  unfold fX3_clear at hf
  refine MX.ofV rfl (by decide) (Nat.le_of_ble_eq_true rfl) ?_
  intro p e R s m args below meth c ls Q ad H hRf hRl C hB hD hK hN hl hQ
  generalize hlocs : ([] : List Loc) = locs at hB ⊢
  clear hlocs
  have hx := C.1
  have hb := C.2.1
  have hl : lv_has ls 1 [(0, .ref (a_nt 0))] := hl
  refine lv_aload_n hx hb dX3_clear_0 rfl (lv_at hl 0 rfl) ?_
  refine lv_iconst (v := 0) hx hb dX3_clear_1 (by decide) ?_
  refine pf_X3_X3_size C hK hB hD 0 rfl dX3_clear_2 (fun H locs u1 eu1 hB => ?_)
  have hf := ox_lt eu1 hf
  have hB : WB E ad s.heap [wNotes E a_nt u1] H locs := hB
  refine lv_aload_n hx hb dX3_clear_5 rfl (lv_at hl 0 rfl) ?_
  refine lv_iconst (v := (-1)) hx hb dX3_clear_6 (by decide) ?_
  refine pf_X3_X3_knownBy C hK hB hD 0 rfl dX3_clear_7 (fun H locs u2 eu2 hB => ?_)
  have hf := ox_lt eu2 hf
  have hB : WB E ad s.heap [wNotes E a_nt u2] H locs := hB
  subst hf
  exact hQ _ _ H locs (fun _ => 0) hB dX3_clear_10
set_option maxHeartbeats 4000000 in
set_option maxRecDepth 20000 in
theorem tX3_isFull (l : Launch) (E : Ev) (a_nt : Nat → Nat) (u_nt : St) (res : Int32) (hf : fX3_isFull u_nt = res) : MP l E yX3_isFull cX3_isFull 1 (some .boolean) (rmm 0 0) [wNotes E a_nt u_nt] [.ref (a_nt 0)] (some (.int res)) := by
  unfold fX3_isFull at hf
  refine MP.ofZZ rfl (by decide) (Nat.le_of_ble_eq_true rfl) ?_
  intro p e R s m args below meth c ls Q hRf hRl C hP hK hN hl hQ
  have hx := C.1
  have hb := C.2.1
  have hl : lv_has ls 1 [(0, .ref (a_nt 0))] := hl
  refine lv_aload_n hx hb dX3_isFull_0 rfl (lv_at hl 0 rfl) ?_
  refine gf_X3_X3_size C hK (hP 0 _ rfl) dX3_isFull_1 ?_
  refine lv_bipush (v := 24) hx hb dX3_isFull_4 (by decide) ?_
  obtain ⟨x1, ex1, hf⟩ := ox_ex hf
  have hjx1 : W p l e R s m args below meth c s.heap [] 0 0 Q (F0 m 14 ls [.int x1]) := by
    subst hf
    exact hQ _ _ x1 rfl dX3_isFull_14
  refine lv_icmp_lt (tgt := 13) hx hb dX3_isFull_6 (by decide) (fun c2 => ?_) (fun c2 => ?_)
  · refine lv_iconst (v := 0) hx hb dX3_isFull_13 (by decide) ?_
    exact ox_topi ((ex1).trans (if_pos c2)).symm hjx1
  · refine lv_iconst (v := 1) hx hb dX3_isFull_9 (by decide) ?_
    refine lv_goto (tgt := 14) hx hb dX3_isFull_10 (by decide) ?_
    exact ox_topi ((ex1).trans (if_neg c2)).symm hjx1
set_option maxHeartbeats 4000000 in
set_option maxRecDepth 20000 in
theorem tX3_counted (l : Launch) (E : Ev) (a_nt : Nat → Nat) (u_nt : St) (res : Int32) (hf : fX3_counted u_nt = res) : MP l E yX3_counted cX3_counted 1 (some .int) (rmm 0 0) [wNotes E a_nt u_nt] [.ref (a_nt 0)] (some (.int res)) := by
  unfold fX3_counted at hf
  refine MP.ofI rfl (by decide) (Nat.le_of_ble_eq_true rfl) ?_
  intro p e R s m args below meth c ls Q hRf hRl C hP hK hN hl hQ
  have hx := C.1
  have hb := C.2.1
  have hl : lv_has ls 1 [(0, .ref (a_nt 0))] := hl
  refine lv_aload_n hx hb dX3_counted_0 rfl (lv_at hl 0 rfl) ?_
  refine gf_X3_X3_knownBy C hK (hP 0 _ rfl) dX3_counted_1 ?_
  refine lv_iconst (v := (-1)) hx hb dX3_counted_4 (by decide) ?_
  obtain ⟨x1, ex1, hf⟩ := ox_ex hf
  have hjx1 : W p l e R s m args below meth c s.heap [] 0 0 Q (F0 m 19 ls [.int x1]) := by
    subst hf
    exact hQ _ _ dX3_counted_19
  refine lv_icmp_ne (tgt := 15) hx hb dX3_counted_5 (by decide) (fun c2 => ?_) (fun c2 => ?_)
  · refine lv_aload_n hx hb dX3_counted_15 rfl (lv_at hl 0 rfl) ?_
    refine gf_X3_X3_knownBy C hK (hP 0 _ rfl) dX3_counted_16 ?_
    exact ox_topi ((ex1).trans (if_neg c2)).symm hjx1
  · refine lv_aload_n hx hb dX3_counted_8 rfl (lv_at hl 0 rfl) ?_
    refine gf_X3_X3_size C hK (hP 0 _ rfl) dX3_counted_9 ?_
    refine lv_goto (tgt := 19) hx hb dX3_counted_12 (by decide) ?_
    exact ox_topi ((ex1).trans (if_pos c2)).symm hjx1
set_option maxHeartbeats 4000000 in
set_option maxRecDepth 20000 in
theorem tX3_addSight (l : Launch) (E : Ev) (a_nt : Nat → Nat) (u_nt : St) (x_1 : Int32) (x_2 : Int32) (x_3 : Int32) (res : Int32 × St) (hf : fX3_addSight u_nt x_1 x_2 x_3 = some res) : MX l E yX3_addSight cX3_addSight 4 (some .int) (rmm 0 0) [wNotes E a_nt u_nt] (fun q => [wNotes E a_nt res.2]) [.ref (a_nt 0), .int x_1, .int x_2, .int x_3] (some (.int res.1)) := by
  unfold fX3_addSight at hf
  refine MX.ofI rfl (by decide) (Nat.le_of_ble_eq_true rfl) ?_
  intro p e R s m args below meth c ls Q ad H hRf hRl C hB hD hK hN hl hQ
  generalize hlocs : ([] : List Loc) = locs at hB ⊢
  clear hlocs
  have hx := C.1
  have hb := C.2.1
  have hl : lv_has ls 4 [(0, .ref (a_nt 0)), (1, .int x_1), (2, .int x_2), (3, .int x_3)] := hl
  refine lv_aload_n hx hb dX3_addSight_0 rfl (lv_at hl 0 rfl) ?_
  refine gf_X3_X3_minutes C hK (hB.1 0 _ rfl) dX3_addSight_1 ?_
  refine lv_aload_n hx hb dX3_addSight_4 rfl (lv_at hl 0 rfl) ?_
  refine gf_X3_X3_size C hK (hB.1 0 _ rfl) dX3_addSight_5 ?_
  refine lv_iload_n hx hb dX3_addSight_8 rfl (lv_at hl 1 rfl) ?_
  obtain ⟨hn1, hf⟩ := ox_chk hf
  refine st_X3_minutes C hK hB hD 0 rfl hn1 rfl dX3_addSight_9 (fun H locs u2 eu2 hB => ?_)
  have hf := ox_lt eu2 hf
  have hB : WB E ad s.heap [wNotes E a_nt u2] H locs := hB
  refine lv_aload_n hx hb dX3_addSight_10 rfl (lv_at hl 0 rfl) ?_
  refine gf_X3_X3_sacks C hK (hB.1 0 _ rfl) dX3_addSight_11 ?_
  refine lv_aload_n hx hb dX3_addSight_14 rfl (lv_at hl 0 rfl) ?_
  refine gf_X3_X3_size C hK (hB.1 0 _ rfl) dX3_addSight_15 ?_
  refine lv_iload_n hx hb dX3_addSight_18 rfl (lv_at hl 2 rfl) ?_
  obtain ⟨hn3, hf⟩ := ox_chk hf
  refine st_X3_sacks C hK hB hD 0 rfl hn3 rfl dX3_addSight_19 (fun H locs u4 eu4 hB => ?_)
  have hf := ox_lt eu4 hf
  have hB : WB E ad s.heap [wNotes E a_nt u4] H locs := hB
  refine lv_aload_n hx hb dX3_addSight_20 rfl (lv_at hl 0 rfl) ?_
  refine gf_X3_X3_atLeast C hK (hB.1 0 _ rfl) dX3_addSight_21 ?_
  refine lv_aload_n hx hb dX3_addSight_24 rfl (lv_at hl 0 rfl) ?_
  refine gf_X3_X3_size C hK (hB.1 0 _ rfl) dX3_addSight_25 ?_
  refine lv_iload_n hx hb dX3_addSight_28 rfl (lv_at hl 3 rfl) ?_
  obtain ⟨hn5, hf⟩ := ox_chk hf
  refine st_X3_atLeast C hK hB hD 0 rfl hn5 rfl dX3_addSight_29 (fun H locs u6 eu6 hB => ?_)
  have hf := ox_lt eu6 hf
  have hB : WB E ad s.heap [wNotes E a_nt u6] H locs := hB
  refine lv_aload_n hx hb dX3_addSight_30 rfl (lv_at hl 0 rfl) ?_
  refine gf_X3_X3_strikes C hK (hB.1 0 _ rfl) dX3_addSight_31 ?_
  refine lv_aload_n hx hb dX3_addSight_34 rfl (lv_at hl 0 rfl) ?_
  refine gf_X3_X3_size C hK (hB.1 0 _ rfl) dX3_addSight_35 ?_
  refine lv_iconst (v := (-1)) hx hb dX3_addSight_38 (by decide) ?_
  obtain ⟨hn7, hf⟩ := ox_chk hf
  refine st_X3_strikes C hK hB hD 0 rfl hn7 rfl dX3_addSight_39 (fun H locs u8 eu8 hB => ?_)
  have hf := ox_lt eu8 hf
  have hB : WB E ad s.heap [wNotes E a_nt u8] H locs := hB
  refine lv_aload_n hx hb dX3_addSight_40 rfl (lv_at hl 0 rfl) ?_
  refine lv_dup hx hb dX3_addSight_41 rfl ?_
  refine gf_X3_X3_size C hK (hB.1 0 _ rfl) dX3_addSight_42 ?_
  refine lv_iconst (v := 1) hx hb dX3_addSight_45 (by decide) ?_
  refine lv_iadd hx hb dX3_addSight_46 ?_
  refine lv_topi (fun x9 ex9 => ?_)
  have hf := ox_lt ex9 hf
  refine pf_X3_X3_size C hK hB hD 0 rfl dX3_addSight_47 (fun H locs u10 eu10 hB => ?_)
  have hf := ox_lt eu10 hf
  have hB : WB E ad s.heap [wNotes E a_nt u10] H locs := hB
  refine lv_aload_n hx hb dX3_addSight_50 rfl (lv_at hl 0 rfl) ?_
  refine gf_X3_X3_size C hK (hB.1 0 _ rfl) dX3_addSight_51 ?_
  refine lv_iconst (v := 1) hx hb dX3_addSight_54 (by decide) ?_
  refine lv_isub hx hb dX3_addSight_55 ?_
  have hf := Option.some.inj hf
  subst hf
  exact hQ _ _ H locs (fun _ => 0) hB dX3_addSight_56
set_option maxHeartbeats 4000000 in
set_option maxRecDepth 20000 in
theorem tX3_addStrike (l : Launch) (E : Ev) (a_nt : Nat → Nat) (u_nt : St) (x_1 : Int32) (res : Int32 × St) (hf : fX3_addStrike u_nt x_1 = some res) : MX l E yX3_addStrike cX3_addStrike 2 (some .int) (rmm 0 0) [wNotes E a_nt u_nt] (fun q => [wNotes E a_nt res.2]) [.ref (a_nt 0), .int x_1] (some (.int res.1)) := by
  unfold fX3_addStrike at hf
  refine MX.ofI rfl (by decide) (Nat.le_of_ble_eq_true rfl) ?_
  intro p e R s m args below meth c ls Q ad H hRf hRl C hB hD hK hN hl hQ
  generalize hlocs : ([] : List Loc) = locs at hB ⊢
  clear hlocs
  have hx := C.1
  have hb := C.2.1
  have hl : lv_has ls 2 [(0, .ref (a_nt 0)), (1, .int x_1)] := hl
  refine lv_aload_n hx hb dX3_addStrike_0 rfl (lv_at hl 0 rfl) ?_
  refine gf_X3_X3_minutes C hK (hB.1 0 _ rfl) dX3_addStrike_1 ?_
  refine lv_aload_n hx hb dX3_addStrike_4 rfl (lv_at hl 0 rfl) ?_
  refine gf_X3_X3_size C hK (hB.1 0 _ rfl) dX3_addStrike_5 ?_
  refine lv_iconst (v := 0) hx hb dX3_addStrike_8 (by decide) ?_
  obtain ⟨hn1, hf⟩ := ox_chk hf
  refine st_X3_minutes C hK hB hD 0 rfl hn1 rfl dX3_addStrike_9 (fun H locs u2 eu2 hB => ?_)
  have hf := ox_lt eu2 hf
  have hB : WB E ad s.heap [wNotes E a_nt u2] H locs := hB
  refine lv_aload_n hx hb dX3_addStrike_10 rfl (lv_at hl 0 rfl) ?_
  refine gf_X3_X3_sacks C hK (hB.1 0 _ rfl) dX3_addStrike_11 ?_
  refine lv_aload_n hx hb dX3_addStrike_14 rfl (lv_at hl 0 rfl) ?_
  refine gf_X3_X3_size C hK (hB.1 0 _ rfl) dX3_addStrike_15 ?_
  refine lv_iconst (v := 0) hx hb dX3_addStrike_18 (by decide) ?_
  obtain ⟨hn3, hf⟩ := ox_chk hf
  refine st_X3_sacks C hK hB hD 0 rfl hn3 rfl dX3_addStrike_19 (fun H locs u4 eu4 hB => ?_)
  have hf := ox_lt eu4 hf
  have hB : WB E ad s.heap [wNotes E a_nt u4] H locs := hB
  refine lv_aload_n hx hb dX3_addStrike_20 rfl (lv_at hl 0 rfl) ?_
  refine gf_X3_X3_atLeast C hK (hB.1 0 _ rfl) dX3_addStrike_21 ?_
  refine lv_aload_n hx hb dX3_addStrike_24 rfl (lv_at hl 0 rfl) ?_
  refine gf_X3_X3_size C hK (hB.1 0 _ rfl) dX3_addStrike_25 ?_
  refine lv_iconst (v := 0) hx hb dX3_addStrike_28 (by decide) ?_
  obtain ⟨hn5, hf⟩ := ox_chk hf
  refine st_X3_atLeast C hK hB hD 0 rfl hn5 rfl dX3_addStrike_29 (fun H locs u6 eu6 hB => ?_)
  have hf := ox_lt eu6 hf
  have hB : WB E ad s.heap [wNotes E a_nt u6] H locs := hB
  refine lv_aload_n hx hb dX3_addStrike_30 rfl (lv_at hl 0 rfl) ?_
  refine gf_X3_X3_strikes C hK (hB.1 0 _ rfl) dX3_addStrike_31 ?_
  refine lv_aload_n hx hb dX3_addStrike_34 rfl (lv_at hl 0 rfl) ?_
  refine gf_X3_X3_size C hK (hB.1 0 _ rfl) dX3_addStrike_35 ?_
  refine lv_iload_n hx hb dX3_addStrike_38 rfl (lv_at hl 1 rfl) ?_
  obtain ⟨hn7, hf⟩ := ox_chk hf
  refine st_X3_strikes C hK hB hD 0 rfl hn7 rfl dX3_addStrike_39 (fun H locs u8 eu8 hB => ?_)
  have hf := ox_lt eu8 hf
  have hB : WB E ad s.heap [wNotes E a_nt u8] H locs := hB
  refine lv_aload_n hx hb dX3_addStrike_40 rfl (lv_at hl 0 rfl) ?_
  refine lv_dup hx hb dX3_addStrike_41 rfl ?_
  refine gf_X3_X3_size C hK (hB.1 0 _ rfl) dX3_addStrike_42 ?_
  refine lv_iconst (v := 1) hx hb dX3_addStrike_45 (by decide) ?_
  refine lv_iadd hx hb dX3_addStrike_46 ?_
  refine lv_topi (fun x9 ex9 => ?_)
  have hf := ox_lt ex9 hf
  refine pf_X3_X3_size C hK hB hD 0 rfl dX3_addStrike_47 (fun H locs u10 eu10 hB => ?_)
  have hf := ox_lt eu10 hf
  have hB : WB E ad s.heap [wNotes E a_nt u10] H locs := hB
  refine lv_aload_n hx hb dX3_addStrike_50 rfl (lv_at hl 0 rfl) ?_
  refine gf_X3_X3_size C hK (hB.1 0 _ rfl) dX3_addStrike_51 ?_
  refine lv_iconst (v := 1) hx hb dX3_addStrike_54 (by decide) ?_
  refine lv_isub hx hb dX3_addStrike_55 ?_
  have hf := Option.some.inj hf
  subst hf
  exact hQ _ _ H locs (fun _ => 0) hB dX3_addStrike_56
set_option maxHeartbeats 4000000 in
set_option maxRecDepth 20000 in
theorem tX3_weigh (l : Launch) (E : Ev) (a_nt : Nat → Nat) (u_nt : St) (res : St) (hf : fX3_weigh u_nt = some res) : MX l E yX3_weigh cX3_weigh 2 none (rmm 1 20) [wNotes E a_nt u_nt] (fun q => [wNotes E a_nt res]) [.ref (a_nt 0)] none := by
  unfold fX3_weigh at hf
  refine MX.ofV rfl (by decide) (Nat.le_of_ble_eq_true rfl) ?_
  intro p e R s m args below meth c ls Q ad H hRf hRl C hB hD hK hN hl hQ
  generalize hlocs : ([] : List Loc) = locs at hB ⊢
  clear hlocs
  have hx := C.1
  have hb := C.2.1
  have hl : lv_has ls 2 [(0, .ref (a_nt 0))] := hl
  refine lv_iconst (v := 0) hx hb dX3_weigh_0 (by decide) ?_
  refine lv_istore_n (lv' := [(1, .int (0 : Int32)), (0, .ref (a_nt 0))]) hx hb dX3_weigh_1 rfl hl (by decide) rfl (fun ls hl => ?_)
  obtain ⟨X1, hX1, hf⟩ := ox_bind hf
  have hexit1 : ∀ y7, y7 = X1 → ∀ (ls : Array Slot) (H : Heap) (locs : List Loc), lv_has ls 2 [(0, .ref (a_nt 0))] → WB E ad s.heap [wNotes E a_nt y7] H locs → W p l e R s m args below meth c H locs 0 0 Q (F0 m 21 ls []) := by
    intro y7 hy ls H locs hl hB
    subst hy
    refine lv_aload_n hx hb dX3_weigh_21 rfl (lv_at hl 0 rfl) ?_
    refine cxVP (As := []) (rest := []) (st1 := [.int (fX3_counted y7)]) C hK (tX3_counted l E a_nt y7 (fX3_counted y7) rfl) lk_X3_35 ⟨rfl, rfl⟩ (by rw [hRf, hRl]; decide) ⟨Nat.zero_le _, Nat.zero_le _⟩ (PB.sub hB.1 [0] rfl) (hB.old hD hN) (Nat.le_trans hN hB.2.2.1) (rc_X3 hK (hB.1 0 _ rfl)) rfl hl.1 rfl rfl (Nat.le_of_ble_eq_true rfl) dX3_weigh_22 ?_
    refine lv_iconst (v := 1) hx hb dX3_weigh_25 (by decide) ?_
    refine lv_isub hx hb dX3_weigh_26 ?_
    refine lv_topi (fun x8 ex8 => ?_)
    have hf := ox_lt ex8 hf
    refine lv_istore_n (lv' := [(1, .int x8), (0, .ref (a_nt 0))]) hx hb dX3_weigh_27 rfl hl (by decide) rfl (fun ls hl => ?_)
    obtain ⟨X2, hX2, hf⟩ := ox_bind hf
    have hexit2 : ∀ y22, y22 = X2 → ∀ (ls : Array Slot) (H : Heap) (locs : List Loc), lv_has ls 2 [] → WB E ad s.heap [wNotes E a_nt y22] H locs → W p l e R s m args below meth c H locs 0 0 Q (F0 m 69 ls []) := by
      intro y22 hy ls H locs hl hB
      subst hy
      have hf := Option.some.inj hf
      subst hf
      exact hQ _ _ H locs (fun _ => 0) hB dX3_weigh_69
    have hloop2 : ∀ (nf : Nat) (x9 : Int32) (u10 : St) (ls : Array Slot) (H : Heap) (locs : List Loc), lv_has ls 2 [(0, .ref (a_nt 0)), (1, .int x9)] → WB E ad s.heap [wNotes E a_nt u10] H locs → fX3_weigh_L2 nf x9 u10 = some X2 → W p l e R s m args below meth c H locs 0 0 Q (F0 m 28 ls []) := by
      intro nf
      induction nf with
      | zero =>
        intro x9 u10 ls H locs hl hB hf
        simp [fX3_weigh_L2] at hf
      | succ nf ih =>
        intro x9 u10 ls H locs hl hB hf
        rw [fX3_weigh_L2] at hf
        refine lv_iload_n hx hb dX3_weigh_28 rfl (lv_at hl 1 rfl) ?_
        refine lv_if_lt (tgt := 69) hx hb dX3_weigh_29 (by decide) (fun c11 => ?_) (fun c11 => ?_)
        · have hf := (if_pos c11).symm.trans hf
          exact hexit2 _ (Option.some.inj hf) ls H locs (lv_sub hl [] rfl) hB
        · have hf := (if_neg c11).symm.trans hf
          refine lv_aload_n hx hb dX3_weigh_32 rfl (lv_at hl 0 rfl) ?_
          refine gf_X3_X3_isStruck C hK (hB.1 0 _ rfl) dX3_weigh_33 ?_
          refine lv_iload_n hx hb dX3_weigh_36 rfl (lv_at hl 1 rfl) ?_
          obtain ⟨hn12, hf⟩ := ox_chk hf
          refine ld_X3_isStruck C hK (hB.1 0 _ rfl) hn12 rfl dX3_weigh_37 ?_
          obtain ⟨j14, ej14, hf⟩ := ox_ex hf
          have hj14 : ∀ (u13 : St) (ls : Array Slot) (H : Heap) (locs : List Loc), lv_has ls 2 [(0, .ref (a_nt 0)), (1, .int x9)] → WB E ad s.heap [wNotes E a_nt u13] H locs → j14 u13 = some X2 → W p l e R s m args below meth c H locs 0 0 Q (F0 m 63 ls []) := by
            intro u13 ls H locs hl hB hf
            have hf := ox_a1 ej14 hf
            obtain ⟨x15, ex15⟩ : ∃ z : Int32, z = (x9 + (-1)) := ⟨_, rfl⟩
            have hf := ox_lt ex15 hf
            refine lv_iinc (v := x15) (lv' := [(1, .int x15), (0, .ref (a_nt 0))]) hx hb dX3_weigh_63 hl (k := 1) rfl (by rw [ex15]; rfl) (by decide) rfl (fun ls hl => ?_)
            refine lv_goto (tgt := 28) hx hb dX3_weigh_66 (by decide) ?_
            exact ih _ _ ls H locs (lv_sub hl [1, 0] rfl) hB hf
          refine lv_if_ne (tgt := 63) hx hb dX3_weigh_38 (by decide) (fun c16 => ?_) (fun c16 => ?_)
          · have hf := (if_neg c16).symm.trans hf
            exact hj14 _ ls H locs (lv_sub hl [0, 1] rfl) hB hf
          · have hf := (if_pos c16).symm.trans hf
            refine lv_aload_n hx hb dX3_weigh_41 rfl (lv_at hl 0 rfl) ?_
            refine gf_X3_X3_strikes C hK (hB.1 0 _ rfl) dX3_weigh_42 ?_
            refine lv_iload_n hx hb dX3_weigh_45 rfl (lv_at hl 1 rfl) ?_
            obtain ⟨hn17, hf⟩ := ox_chk hf
            refine ld_X3_strikes C hK (hB.1 0 _ rfl) hn17 rfl dX3_weigh_46 ?_
            refine lv_iconst (v := (-1)) hx hb dX3_weigh_47 (by decide) ?_
            refine lv_icmp_eq (tgt := 63) hx hb dX3_weigh_48 (by decide) (fun c18 => ?_) (fun c18 => ?_)
            · have hf := (if_pos c18).symm.trans hf
              exact hj14 _ ls H locs (lv_sub hl [0, 1] rfl) hB hf
            · have hf := (if_neg c18).symm.trans hf
              refine lv_aload_n hx hb dX3_weigh_51 rfl (lv_at hl 0 rfl) ?_
              refine gf_X3_X3_isStruck C hK (hB.1 0 _ rfl) dX3_weigh_52 ?_
              refine lv_aload_n hx hb dX3_weigh_55 rfl (lv_at hl 0 rfl) ?_
              refine gf_X3_X3_strikes C hK (hB.1 0 _ rfl) dX3_weigh_56 ?_
              refine lv_iload_n hx hb dX3_weigh_59 rfl (lv_at hl 1 rfl) ?_
              obtain ⟨hn19, hf⟩ := ox_chk hf
              refine ld_X3_strikes C hK (hB.1 0 _ rfl) hn19 rfl dX3_weigh_60 ?_
              refine lv_iconst (v := 1) hx hb dX3_weigh_61 (by decide) ?_
              obtain ⟨hn20, hf⟩ := ox_chk hf
              refine st_X3_isStruck C hK hB hD 0 rfl hn20 rfl dX3_weigh_62 (fun H locs u21 eu21 hB => ?_)
              have hf := ox_lt eu21 hf
              have hB : WB E ad s.heap [wNotes E a_nt u21] H locs := hB
              exact hj14 _ ls H locs (lv_sub hl [0, 1] rfl) hB hf
    exact hloop2 fuel _ _ ls H locs (lv_sub hl [1, 0] rfl) hB hX2
  have hloop1 : ∀ (nf : Nat) (x1 : Int32) (u2 : St) (ls : Array Slot) (H : Heap) (locs : List Loc), lv_has ls 2 [(0, .ref (a_nt 0)), (1, .int x1)] → WB E ad s.heap [wNotes E a_nt u2] H locs → fX3_weigh_L1 nf x1 u2 = some X1 → W p l e R s m args below meth c H locs 0 0 Q (F0 m 2 ls []) := by
    intro nf
    induction nf with
    | zero =>
      intro x1 u2 ls H locs hl hB hf
      simp [fX3_weigh_L1] at hf
    | succ nf ih =>
      intro x1 u2 ls H locs hl hB hf
      rw [fX3_weigh_L1] at hf
      refine lv_iload_n hx hb dX3_weigh_2 rfl (lv_at hl 1 rfl) ?_
      refine lv_bipush (v := 24) hx hb dX3_weigh_3 (by decide) ?_
      refine lv_icmp_ge (tgt := 21) hx hb dX3_weigh_5 (by decide) (fun c3 => ?_) (fun c3 => ?_)
      · have hf := (if_pos c3).symm.trans hf
        exact hexit1 _ (Option.some.inj hf) ls H locs (lv_sub hl [0] rfl) hB
      · have hf := (if_neg c3).symm.trans hf
        refine lv_aload_n hx hb dX3_weigh_8 rfl (lv_at hl 0 rfl) ?_
        refine gf_X3_X3_isStruck C hK (hB.1 0 _ rfl) dX3_weigh_9 ?_
        refine lv_iload_n hx hb dX3_weigh_12 rfl (lv_at hl 1 rfl) ?_
        refine lv_iconst (v := 0) hx hb dX3_weigh_13 (by decide) ?_
        obtain ⟨hn4, hf⟩ := ox_chk hf
        refine st_X3_isStruck C hK hB hD 0 rfl hn4 rfl dX3_weigh_14 (fun H locs u5 eu5 hB => ?_)
        have hf := ox_lt eu5 hf
        have hB : WB E ad s.heap [wNotes E a_nt u5] H locs := hB
        obtain ⟨x6, ex6⟩ : ∃ z : Int32, z = (x1 + 1) := ⟨_, rfl⟩
        have hf := ox_lt ex6 hf
        refine lv_iinc (v := x6) (lv' := [(1, .int x6), (0, .ref (a_nt 0))]) hx hb dX3_weigh_15 hl (k := 1) rfl (by rw [ex6]; rfl) (by decide) rfl (fun ls hl => ?_)
        refine lv_goto (tgt := 2) hx hb dX3_weigh_18 (by decide) ?_
        exact ih _ _ ls H locs (lv_sub hl [1, 0] rfl) hB hf
  exact hloop1 fuel _ _ ls H locs (lv_sub hl [1, 0] rfl) hB hX1
set_option maxHeartbeats 4000000 in
set_option maxRecDepth 20000 in
theorem tX3_agree (l : Launch) (E : Ev) (a_nt : Nat → Nat) (u_nt : St) (n_gr : Nat) (a_gr : Nat → Nat) (u_gr : St) (x_2 : Int32) (res : Int32) (hf : fX3_agree n_gr u_nt u_gr x_2 = some res) : MP l E yX3_agree cX3_agree 7 (some .boolean) (rmm 1 20) [wNotes E a_nt u_nt, wIArr E n_gr a_gr u_gr] [.ref (a_nt 0), .ref (a_gr 0), .int x_2] (some (.int res)) := by
  unfold fX3_agree at hf
  refine MP.ofZZ rfl (by decide) (Nat.le_of_ble_eq_true rfl) ?_
  intro p e R s m args below meth c ls Q hRf hRl C hP hK hN hl hQ
  have hx := C.1
  have hb := C.2.1
  have hl : lv_has ls 7 [(0, .ref (a_nt 0)), (1, .ref (a_gr 0)), (2, .int x_2)] := hl
  refine lv_iconst (v := 0) hx hb dX3_agree_0 (by decide) ?_
  refine lv_istore_n (lv' := [(3, .int (0 : Int32)), (0, .ref (a_nt 0)), (1, .ref (a_gr 0)), (2, .int x_2)]) hx hb dX3_agree_1 rfl hl (by decide) rfl (fun ls hl => ?_)
  obtain ⟨X1, hX1, hf⟩ := ox_bind hf
  have hexit1 : ∀ y23, .inl y23 = X1 → ∀ (ls : Array Slot), lv_has ls 7 [] → W p l e R s m args below meth c s.heap [] 0 0 Q (F0 m 104 ls []) := by
    intro y23 hy ls hl
    subst hy
    have hf := ox_inl hf
    refine lv_iconst (v := 1) hx hb dX3_agree_104 (by decide) ?_
    have hf := Option.some.inj hf
    subst hf
    exact hQ _ _ (1 : Int32) bz1 dX3_agree_105
  have hret1 : ∀ r, .inr r = X1 → r = res := by
    intro r hr
    subst hr
    exact Option.some.inj (ox_inr hf)
  have hloop1 : ∀ (nf : Nat) (x1 : Int32) (ls : Array Slot), lv_has ls 7 [(0, .ref (a_nt 0)), (1, .ref (a_gr 0)), (2, .int x_2), (3, .int x1)] → fX3_agree_L1 u_nt u_gr n_gr x_2 nf x1 = some X1 → W p l e R s m args below meth c s.heap [] 0 0 Q (F0 m 2 ls []) := by
    intro nf
    induction nf with
    | zero =>
      intro x1 ls hl hf
      simp [fX3_agree_L1] at hf
    | succ nf ih =>
      intro x1 ls hl hf
      rw [fX3_agree_L1] at hf
      refine lv_iload_n hx hb dX3_agree_2 rfl (lv_at hl 3 rfl) ?_
      refine lv_aload_n hx hb dX3_agree_3 rfl (lv_at hl 0 rfl) ?_
      refine cxVP (As := []) (rest := [.int x1]) (st1 := [.int (fX3_counted u_nt), .int x1]) C hK (tX3_counted l E a_nt u_nt (fX3_counted u_nt) rfl) lk_X3_35 ⟨rfl, rfl⟩ (by rw [hRf, hRl]; decide) ⟨Nat.zero_le _, Nat.zero_le _⟩ (PB.sub hP [0] rfl) (fun _ _ => rfl) hN (rc_X3 hK (hP 0 _ rfl)) rfl hl.1 rfl rfl (Nat.le_of_ble_eq_true rfl) dX3_agree_4 ?_
      refine lv_icmp_ge (tgt := 104) hx hb dX3_agree_7 (by decide) (fun c2 => ?_) (fun c2 => ?_)
      · have hf := (if_pos c2).symm.trans hf
        exact hexit1 _ (Option.some.inj hf) ls (lv_sub hl [] rfl)
      · have hf := (if_neg c2).symm.trans hf
        refine lv_iload_n hx hb dX3_agree_10 rfl (lv_at hl 2 rfl) ?_
        refine lv_aload_n hx hb dX3_agree_11 rfl (lv_at hl 0 rfl) ?_
        refine gf_X3_X3_minutes C hK (hP 0 _ rfl) dX3_agree_12 ?_
        refine lv_iload_n hx hb dX3_agree_15 rfl (lv_at hl 3 rfl) ?_
        obtain ⟨hn3, hf⟩ := ox_chk hf
        refine ld_X3_minutes C hK (hP 0 _ rfl) hn3 rfl dX3_agree_16 ?_
        refine lv_iadd hx hb dX3_agree_17 ?_
        refine lv_iconst (v := 1) hx hb dX3_agree_18 (by decide) ?_
        refine lv_isub hx hb dX3_agree_19 ?_
        refine lv_topi (fun x4 ex4 => ?_)
        have hf := ox_lt ex4 hf
        refine lv_istore (lv' := [(4, .int x4), (0, .ref (a_nt 0)), (1, .ref (a_gr 0)), (2, .int x_2), (3, .int x1)]) hx hb dX3_agree_20 hl (by decide) rfl (fun ls hl => ?_)
        refine lv_aload_n hx hb dX3_agree_22 rfl (lv_at hl 1 rfl) ?_
        refine gf_X3_X3_strikes C hK (hP 0 _ rfl) dX3_agree_23 ?_
        refine lv_iload_n hx hb dX3_agree_26 rfl (lv_at hl 4 rfl) ?_
        obtain ⟨hn5, hf⟩ := ox_chk hf
        refine ld_X3_strikes C hK (hP 0 _ rfl) hn5 rfl dX3_agree_27 ?_
        refine lv_iconst (v := (-1)) hx hb dX3_agree_28 (by decide) ?_
        obtain ⟨j7, ej7, hf⟩ := ox_ex hf
        have hj7 : ∀ (x6 : Int32) (ls : Array Slot), lv_has ls 7 [(0, .ref (a_nt 0)), (1, .ref (a_gr 0)), (2, .int x_2), (3, .int x1), (4, .int x4)] → j7 x6 = some X1 → W p l e R s m args below meth c s.heap [] 0 0 Q (F0 m 46 ls [.int x6]) := by
          intro x6 ls hl hf
          have hf := ox_a1 ej7 hf
          refine lv_istore (lv' := [(5, .int x6), (0, .ref (a_nt 0)), (1, .ref (a_gr 0)), (2, .int x_2), (3, .int x1), (4, .int x4)]) hx hb dX3_agree_46 hl (by decide) rfl (fun ls hl => ?_)
          refine lv_iload hx hb dX3_agree_48 (lv_at hl 0 rfl) ?_
          obtain ⟨j8, ej8, hf⟩ := ox_ex hf
          have hj8 : ∀ (ls : Array Slot), lv_has ls 7 [(0, .ref (a_nt 0)), (1, .ref (a_gr 0)), (2, .int x_2), (3, .int x1)] → j8 = some X1 → W p l e R s m args below meth c s.heap [] 0 0 Q (F0 m 98 ls []) := by
            intro ls hl hf
            have hf := ox_a0 ej8 hf
            obtain ⟨x9, ex9⟩ : ∃ z : Int32, z = (x1 + 1) := ⟨_, rfl⟩
            have hf := ox_lt ex9 hf
            refine lv_iinc (v := x9) (lv' := [(3, .int x9), (0, .ref (a_nt 0)), (1, .ref (a_gr 0)), (2, .int x_2)]) hx hb dX3_agree_98 hl (k := 3) rfl (by rw [ex9]; rfl) (by decide) rfl (fun ls hl => ?_)
            refine lv_goto (tgt := 2) hx hb dX3_agree_101 (by decide) ?_
            exact ih _ ls (lv_sub hl [1, 2, 3, 0] rfl) hf
          refine lv_if_eq (tgt := 98) hx hb dX3_agree_50 (by decide) (fun c10 => ?_) (fun c10 => ?_)
          · have hf := (if_pos c10).symm.trans hf
            exact hj8 ls (lv_sub hl [1, 2, 3, 4] rfl) hf
          · have hf := (if_neg c10).symm.trans hf
            refine lv_iload hx hb dX3_agree_53 (lv_at hl 5 rfl) ?_
            refine lv_if_lt (tgt := 98) hx hb dX3_agree_55 (by decide) (fun c11 => ?_) (fun c11 => ?_)
            · have hf := (if_pos c11).symm.trans hf
              exact hj8 ls (lv_sub hl [1, 2, 3, 4] rfl) hf
            · have hf := (if_neg c11).symm.trans hf
              refine lv_iload hx hb dX3_agree_58 (lv_at hl 5 rfl) ?_
              refine lv_aload_n hx hb dX3_agree_60 rfl (lv_at hl 2 rfl) ?_
              refine bx_alen C hK (hP 1 _ rfl) 0 0 rfl rfl (v := (Int32.ofNat n_gr)) rfl dX3_agree_61 ?_
              refine lv_icmp_ge (tgt := 98) hx hb dX3_agree_62 (by decide) (fun c12 => ?_) (fun c12 => ?_)
              · have hf := (if_pos c12).symm.trans hf
                exact hj8 ls (lv_sub hl [1, 2, 3, 4] rfl) hf
              · have hf := (if_neg c12).symm.trans hf
                refine lv_aload_n hx hb dX3_agree_65 rfl (lv_at hl 2 rfl) ?_
                refine lv_iload hx hb dX3_agree_66 (lv_at hl 5 rfl) ?_
                obtain ⟨hn13, hf⟩ := ox_chk hf
                refine ld_IArr_row C hK (hP 1 _ rfl) hn13 rfl dX3_agree_68 ?_
                refine lv_aload_n hx hb dX3_agree_69 rfl (lv_at hl 1 rfl) ?_
                refine gf_X3_X3_sacks C hK (hP 0 _ rfl) dX3_agree_70 ?_
                refine lv_iload_n hx hb dX3_agree_73 rfl (lv_at hl 4 rfl) ?_
                obtain ⟨hn14, hf⟩ := ox_chk hf
                refine ld_X3_sacks C hK (hP 0 _ rfl) hn14 rfl dX3_agree_74 ?_
                obtain ⟨x15, ex15, hf⟩ := ox_ex hf
                have hjx15 : W p l e R s m args below meth c s.heap [] 0 0 Q (F0 m 83 ls [.int x15]) := by
                  refine lv_istore (lv' := [(6, .int x15), (5, .int x6), (0, .ref (a_nt 0)), (1, .ref (a_gr 0)), (2, .int x_2), (3, .int x1), (4, .int x4)]) hx hb dX3_agree_83 hl (by decide) rfl (fun ls hl => ?_)
                  refine lv_iload hx hb dX3_agree_85 (lv_at hl 0 rfl) ?_
                  refine lv_aload_n hx hb dX3_agree_87 rfl (lv_at hl 2 rfl) ?_
                  refine gf_X3_X3_atLeast C hK (hP 0 _ rfl) dX3_agree_88 ?_
                  refine lv_iload_n hx hb dX3_agree_91 rfl (lv_at hl 5 rfl) ?_
                  obtain ⟨hn16, hf⟩ := ox_chk hf
                  refine ld_X3_atLeast C hK (hP 0 _ rfl) hn16 rfl dX3_agree_92 ?_
                  refine lv_icmp_eq (tgt := 98) hx hb dX3_agree_93 (by decide) (fun c17 => ?_) (fun c17 => ?_)
                  · have hf := (if_pos c17).symm.trans hf
                    exact hj8 ls (lv_sub hl [2, 3, 4, 5] rfl) hf
                  · have hf := (if_neg c17).symm.trans hf
                    refine lv_iconst (v := 0) hx hb dX3_agree_96 (by decide) ?_
                    have hf := hret1 _ (Option.some.inj hf)
                    subst hf
                    exact hQ _ _ (0 : Int32) bz0 dX3_agree_97
                refine lv_icmp_lt (tgt := 82) hx hb dX3_agree_75 (by decide) (fun c18 => ?_) (fun c18 => ?_)
                · refine lv_iconst (v := 0) hx hb dX3_agree_82 (by decide) ?_
                  exact ox_topi ((ex15).trans (if_pos c18)).symm hjx15
                · refine lv_iconst (v := 1) hx hb dX3_agree_78 (by decide) ?_
                  refine lv_goto (tgt := 83) hx hb dX3_agree_79 (by decide) ?_
                  exact ox_topi ((ex15).trans (if_neg c18)).symm hjx15
        obtain ⟨j19, ej19, hf⟩ := ox_ex hf
        have hj19 : ∀ (ls : Array Slot), lv_has ls 7 [(0, .ref (a_nt 0)), (1, .ref (a_gr 0)), (2, .int x_2), (3, .int x1), (4, .int x4)] → j19 = some X1 → W p l e R s m args below meth c s.heap [] 0 0 Q (F0 m 45 ls []) := by
          intro ls hl hf
          have hf := ox_a0 ej19 hf
          refine lv_iconst (v := 0) hx hb dX3_agree_45 (by decide) ?_
          exact hj7 _ ls (lv_sub hl [0, 1, 2, 3, 4] rfl) hf
        refine lv_icmp_ne (tgt := 45) hx hb dX3_agree_29 (by decide) (fun c20 => ?_) (fun c20 => ?_)
        · have hf := (if_neg c20).symm.trans hf
          exact hj19 ls (lv_sub hl [1, 2, 3, 4, 0] rfl) hf
        · have hf := (if_pos c20).symm.trans hf
          refine lv_aload_n hx hb dX3_agree_32 rfl (lv_at hl 1 rfl) ?_
          refine gf_X3_X3_isStruck C hK (hP 0 _ rfl) dX3_agree_33 ?_
          refine lv_iload_n hx hb dX3_agree_36 rfl (lv_at hl 4 rfl) ?_
          obtain ⟨hn21, hf⟩ := ox_chk hf
          refine ld_X3_isStruck C hK (hP 0 _ rfl) hn21 rfl dX3_agree_37 ?_
          refine lv_if_ne (tgt := 45) hx hb dX3_agree_38 (by decide) (fun c22 => ?_) (fun c22 => ?_)
          · have hf := (if_neg c22).symm.trans hf
            exact hj19 ls (lv_sub hl [1, 2, 3, 4, 0] rfl) hf
          · have hf := (if_pos c22).symm.trans hf
            refine lv_iconst (v := 1) hx hb dX3_agree_41 (by decide) ?_
            refine lv_goto (tgt := 46) hx hb dX3_agree_42 (by decide) ?_
            exact hj7 _ ls (lv_sub hl [1, 2, 3, 4, 0] rfl) hf
  exact hloop1 fuel _ ls (lv_sub hl [1, 2, 3, 0] rfl) hX1
set_option maxHeartbeats 4000000 in
set_option maxRecDepth 20000 in
theorem tX4_begin (l : Launch) (E : Ev) (a_od : Nat → Nat) (u_od : St) (x_1 : Int32) (res : St) (hf : fX4_begin u_od x_1 = some res) : MX l E yX4_begin cX4_begin 3 none (rmm 1 30) [wOrder E a_od u_od] (fun q => [wOrder E a_od res]) [.ref (a_od 0), .int x_1] none := by
  unfold fX4_begin at hf
  refine MX.ofV rfl (by decide) (Nat.le_of_ble_eq_true rfl) ?_
  intro p e R s m args below meth c ls Q ad H hRf hRl C hB hD hK hN hl hQ
  generalize hlocs : ([] : List Loc) = locs at hB ⊢
  clear hlocs
  have hx := C.1
  have hb := C.2.1
  have hl : lv_has ls 3 [(0, .ref (a_od 0)), (1, .int x_1)] := hl
  refine lv_aload_n hx hb dX4_begin_0 rfl (lv_at hl 0 rfl) ?_
  refine lv_iload_n hx hb dX4_begin_1 rfl (lv_at hl 1 rfl) ?_
  refine lv_bipush (v := 6) hx hb dX4_begin_2 (by decide) ?_
  refine va_mmin hx hb (C.2.2.1.trans hl.1.symm) C.2.2.2.1 (C.2.2.2.2 _ mw_1005) (C.2.2.2.2 _ mm_mmin_s) (C.2.2.2.2 _ mm_ini) (C.2.2.2.2 _ mm_mmin_c) (by rw [hRf]; decide) (by rw [hRl]; exact Nat.le_of_ble_eq_true rfl) (Nat.zero_le _) (Nat.zero_le _) dX4_begin_4 ?_
  refine lv_topi (fun x1 ex1 => ?_)
  have hf := ox_lt ex1 hf
  refine pf_X4_X4_size C hK hB hD 0 rfl dX4_begin_7 (fun H locs u2 eu2 hB => ?_)
  have hf := ox_lt eu2 hf
  have hB : WB E ad s.heap [wOrder E a_od u2] H locs := hB
  refine lv_aload_n hx hb dX4_begin_10 rfl (lv_at hl 0 rfl) ?_
  refine lv_iconst (v := 1) hx hb dX4_begin_11 (by decide) ?_
  refine pf_X4_X4_orders C hK hB hD 0 rfl dX4_begin_12 (fun H locs u3 eu3 hB => ?_)
  have hf := ox_lt eu3 hf
  have hB : WB E ad s.heap [wOrder E a_od u3] H locs := hB
  refine lv_iconst (v := 0) hx hb dX4_begin_15 (by decide) ?_
  refine lv_istore_n (lv' := [(2, .int (0 : Int32)), (0, .ref (a_od 0)), (1, .int x_1)]) hx hb dX4_begin_16 rfl hl (by decide) rfl (fun ls hl => ?_)
  obtain ⟨X1, hX1, hf⟩ := ox_bind hf
  have hexit1 : ∀ y14, y14 = X1 → ∀ (ls : Array Slot) (H : Heap) (locs : List Loc), lv_has ls 3 [] → WB E ad s.heap [wOrder E a_od y14] H locs → W p l e R s m args below meth c H locs 0 0 Q (F0 m 57 ls []) := by
    intro y14 hy ls H locs hl hB
    subst hy
    have hf := Option.some.inj hf
    subst hf
    exact hQ _ _ H locs (fun _ => 0) hB dX4_begin_57
  have hloop1 : ∀ (nf : Nat) (x4 : Int32) (u5 : St) (ls : Array Slot) (H : Heap) (locs : List Loc), lv_has ls 3 [(0, .ref (a_od 0)), (2, .int x4)] → WB E ad s.heap [wOrder E a_od u5] H locs → fX4_begin_L1 nf x4 u5 = some X1 → W p l e R s m args below meth c H locs 0 0 Q (F0 m 17 ls []) := by
    intro nf
    induction nf with
    | zero =>
      intro x4 u5 ls H locs hl hB hf
      simp [fX4_begin_L1] at hf
    | succ nf ih =>
      intro x4 u5 ls H locs hl hB hf
      rw [fX4_begin_L1] at hf
      refine lv_iload_n hx hb dX4_begin_17 rfl (lv_at hl 1 rfl) ?_
      refine lv_aload_n hx hb dX4_begin_18 rfl (lv_at hl 0 rfl) ?_
      refine gf_X4_X4_size C hK (hB.1 0 _ rfl) dX4_begin_19 ?_
      refine lv_icmp_ge (tgt := 57) hx hb dX4_begin_22 (by decide) (fun c6 => ?_) (fun c6 => ?_)
      · have hf := (if_pos c6).symm.trans hf
        exact hexit1 _ (Option.some.inj hf) ls H locs (lv_sub hl [] rfl) hB
      · have hf := (if_neg c6).symm.trans hf
        refine lv_aload_n hx hb dX4_begin_25 rfl (lv_at hl 0 rfl) ?_
        refine gf_X4_X4_places C hK (hB.1 0 _ rfl) dX4_begin_26 ?_
        refine lv_iload_n hx hb dX4_begin_29 rfl (lv_at hl 1 rfl) ?_
        refine lv_iload_n hx hb dX4_begin_30 rfl (lv_at hl 1 rfl) ?_
        obtain ⟨hn7, hf⟩ := ox_chk hf
        refine st_X4_places C hK hB hD 0 rfl hn7 rfl dX4_begin_31 (fun H locs u8 eu8 hB => ?_)
        have hf := ox_lt eu8 hf
        have hB : WB E ad s.heap [wOrder E a_od u8] H locs := hB
        refine lv_aload_n hx hb dX4_begin_32 rfl (lv_at hl 0 rfl) ?_
        refine gf_X4_X4_best C hK (hB.1 0 _ rfl) dX4_begin_33 ?_
        refine lv_iload_n hx hb dX4_begin_36 rfl (lv_at hl 1 rfl) ?_
        refine lv_iload_n hx hb dX4_begin_37 rfl (lv_at hl 1 rfl) ?_
        obtain ⟨hn9, hf⟩ := ox_chk hf
        refine st_X4_best C hK hB hD 0 rfl hn9 rfl dX4_begin_38 (fun H locs u10 eu10 hB => ?_)
        have hf := ox_lt eu10 hf
        have hB : WB E ad s.heap [wOrder E a_od u10] H locs := hB
        refine lv_aload_n hx hb dX4_begin_39 rfl (lv_at hl 0 rfl) ?_
        refine lv_dup hx hb dX4_begin_40 rfl ?_
        refine gf_X4_X4_orders C hK (hB.1 0 _ rfl) dX4_begin_41 ?_
        refine lv_iload_n hx hb dX4_begin_44 rfl (lv_at hl 1 rfl) ?_
        refine lv_iconst (v := 1) hx hb dX4_begin_45 (by decide) ?_
        refine lv_iadd hx hb dX4_begin_46 ?_
        refine lv_imul hx hb dX4_begin_47 ?_
        refine lv_topi (fun x11 ex11 => ?_)
        have hf := ox_lt ex11 hf
        refine pf_X4_X4_orders C hK hB hD 0 rfl dX4_begin_48 (fun H locs u12 eu12 hB => ?_)
        have hf := ox_lt eu12 hf
        have hB : WB E ad s.heap [wOrder E a_od u12] H locs := hB
        obtain ⟨x13, ex13⟩ : ∃ z : Int32, z = (x4 + 1) := ⟨_, rfl⟩
        have hf := ox_lt ex13 hf
        refine lv_iinc (v := x13) (lv' := [(2, .int x13), (0, .ref (a_od 0))]) hx hb dX4_begin_51 hl (k := 1) rfl (by rw [ex13]; rfl) (by decide) rfl (fun ls hl => ?_)
        refine lv_goto (tgt := 17) hx hb dX4_begin_54 (by decide) ?_
        exact ih _ _ ls H locs (lv_sub hl [1, 0] rfl) hB hf
  exact hloop1 fuel _ _ ls H locs (lv_sub hl [1, 0] rfl) hB hX1
set_option maxHeartbeats 4000000 in
set_option maxRecDepth 20000 in
theorem tX4_keepBest (l : Launch) (E : Ev) (a_od : Nat → Nat) (u_od : St) (res : St) (hf : fX4_keepBest u_od = some res) : MX l E yX4_keepBest cX4_keepBest 2 none (rmm 0 0) [wOrder E a_od u_od] (fun q => [wOrder E a_od res]) [.ref (a_od 0)] none := by
  unfold fX4_keepBest at hf
  refine MX.ofV rfl (by decide) (Nat.le_of_ble_eq_true rfl) ?_
  intro p e R s m args below meth c ls Q ad H hRf hRl C hB hD hK hN hl hQ
  generalize hlocs : ([] : List Loc) = locs at hB ⊢
  clear hlocs
  have hx := C.1
  have hb := C.2.1
  have hl : lv_has ls 2 [(0, .ref (a_od 0))] := hl
  refine lv_iconst (v := 0) hx hb dX4_keepBest_0 (by decide) ?_
  refine lv_istore_n (lv' := [(1, .int (0 : Int32)), (0, .ref (a_od 0))]) hx hb dX4_keepBest_1 rfl hl (by decide) rfl (fun ls hl => ?_)
  obtain ⟨X1, hX1, hf⟩ := ox_bind hf
  have hexit1 : ∀ y9, y9 = X1 → ∀ (ls : Array Slot) (H : Heap) (locs : List Loc), lv_has ls 2 [] → WB E ad s.heap [wOrder E a_od y9] H locs → W p l e R s m args below meth c H locs 0 0 Q (F0 m 28 ls []) := by
    intro y9 hy ls H locs hl hB
    subst hy
    have hf := Option.some.inj hf
    subst hf
    exact hQ _ _ H locs (fun _ => 0) hB dX4_keepBest_28
  have hloop1 : ∀ (nf : Nat) (x1 : Int32) (u2 : St) (ls : Array Slot) (H : Heap) (locs : List Loc), lv_has ls 2 [(0, .ref (a_od 0)), (1, .int x1)] → WB E ad s.heap [wOrder E a_od u2] H locs → fX4_keepBest_L1 nf x1 u2 = some X1 → W p l e R s m args below meth c H locs 0 0 Q (F0 m 2 ls []) := by
    intro nf
    induction nf with
    | zero =>
      intro x1 u2 ls H locs hl hB hf
      simp [fX4_keepBest_L1] at hf
    | succ nf ih =>
      intro x1 u2 ls H locs hl hB hf
      rw [fX4_keepBest_L1] at hf
      refine lv_iload_n hx hb dX4_keepBest_2 rfl (lv_at hl 1 rfl) ?_
      refine lv_aload_n hx hb dX4_keepBest_3 rfl (lv_at hl 0 rfl) ?_
      refine gf_X4_X4_size C hK (hB.1 0 _ rfl) dX4_keepBest_4 ?_
      refine lv_icmp_ge (tgt := 28) hx hb dX4_keepBest_7 (by decide) (fun c3 => ?_) (fun c3 => ?_)
      · have hf := (if_pos c3).symm.trans hf
        exact hexit1 _ (Option.some.inj hf) ls H locs (lv_sub hl [] rfl) hB
      · have hf := (if_neg c3).symm.trans hf
        refine lv_aload_n hx hb dX4_keepBest_10 rfl (lv_at hl 0 rfl) ?_
        refine gf_X4_X4_best C hK (hB.1 0 _ rfl) dX4_keepBest_11 ?_
        refine lv_iload_n hx hb dX4_keepBest_14 rfl (lv_at hl 1 rfl) ?_
        refine lv_aload_n hx hb dX4_keepBest_15 rfl (lv_at hl 0 rfl) ?_
        refine gf_X4_X4_places C hK (hB.1 0 _ rfl) dX4_keepBest_16 ?_
        refine lv_iload_n hx hb dX4_keepBest_19 rfl (lv_at hl 1 rfl) ?_
        obtain ⟨hn4, hf⟩ := ox_chk hf
        refine ld_X4_places C hK (hB.1 0 _ rfl) hn4 rfl dX4_keepBest_20 ?_
        refine lv_topi (fun x5 ex5 => ?_)
        have hf := ox_lt ex5 hf
        obtain ⟨hn6, hf⟩ := ox_chk hf
        refine st_X4_best C hK hB hD 0 rfl hn6 rfl dX4_keepBest_21 (fun H locs u7 eu7 hB => ?_)
        have hf := ox_lt eu7 hf
        have hB : WB E ad s.heap [wOrder E a_od u7] H locs := hB
        obtain ⟨x8, ex8⟩ : ∃ z : Int32, z = (x1 + 1) := ⟨_, rfl⟩
        have hf := ox_lt ex8 hf
        refine lv_iinc (v := x8) (lv' := [(1, .int x8), (0, .ref (a_od 0))]) hx hb dX4_keepBest_22 hl (k := 1) rfl (by rw [ex8]; rfl) (by decide) rfl (fun ls hl => ?_)
        refine lv_goto (tgt := 2) hx hb dX4_keepBest_25 (by decide) ?_
        exact ih _ _ ls H locs (lv_sub hl [1, 0] rfl) hB hf
  exact hloop1 fuel _ _ ls H locs (lv_sub hl [1, 0] rfl) hB hX1
set_option maxHeartbeats 4000000 in
set_option maxRecDepth 20000 in
theorem tX4_swap (l : Launch) (E : Ev) (a_od : Nat → Nat) (u_od : St) (x_1 : Int32) (x_2 : Int32) (res : St) (hf : fX4_swap u_od x_1 x_2 = some res) : MX l E yX4_swap cX4_swap 4 none (rmm 0 0) [wOrder E a_od u_od] (fun q => [wOrder E a_od res]) [.ref (a_od 0), .int x_1, .int x_2] none := by
  unfold fX4_swap at hf
  refine MX.ofV rfl (by decide) (Nat.le_of_ble_eq_true rfl) ?_
  intro p e R s m args below meth c ls Q ad H hRf hRl C hB hD hK hN hl hQ
  generalize hlocs : ([] : List Loc) = locs at hB ⊢
  clear hlocs
  have hx := C.1
  have hb := C.2.1
  have hl : lv_has ls 4 [(0, .ref (a_od 0)), (1, .int x_1), (2, .int x_2)] := hl
  refine lv_aload_n hx hb dX4_swap_0 rfl (lv_at hl 0 rfl) ?_
  refine gf_X4_X4_places C hK (hB.1 0 _ rfl) dX4_swap_1 ?_
  refine lv_iload_n hx hb dX4_swap_4 rfl (lv_at hl 1 rfl) ?_
  obtain ⟨hn1, hf⟩ := ox_chk hf
  refine ld_X4_places C hK (hB.1 0 _ rfl) hn1 rfl dX4_swap_5 ?_
  refine lv_topi (fun x2 ex2 => ?_)
  have hf := ox_lt ex2 hf
  refine lv_istore_n (lv' := [(3, .int x2), (0, .ref (a_od 0)), (1, .int x_1), (2, .int x_2)]) hx hb dX4_swap_6 rfl hl (by decide) rfl (fun ls hl => ?_)
  refine lv_aload_n hx hb dX4_swap_7 rfl (lv_at hl 1 rfl) ?_
  refine gf_X4_X4_places C hK (hB.1 0 _ rfl) dX4_swap_8 ?_
  refine lv_iload_n hx hb dX4_swap_11 rfl (lv_at hl 2 rfl) ?_
  refine lv_aload_n hx hb dX4_swap_12 rfl (lv_at hl 1 rfl) ?_
  refine gf_X4_X4_places C hK (hB.1 0 _ rfl) dX4_swap_13 ?_
  refine lv_iload_n hx hb dX4_swap_16 rfl (lv_at hl 3 rfl) ?_
  obtain ⟨hn3, hf⟩ := ox_chk hf
  refine ld_X4_places C hK (hB.1 0 _ rfl) hn3 rfl dX4_swap_17 ?_
  refine lv_topi (fun x4 ex4 => ?_)
  have hf := ox_lt ex4 hf
  obtain ⟨hn5, hf⟩ := ox_chk hf
  refine st_X4_places C hK hB hD 0 rfl hn5 rfl dX4_swap_18 (fun H locs u6 eu6 hB => ?_)
  have hf := ox_lt eu6 hf
  have hB : WB E ad s.heap [wOrder E a_od u6] H locs := hB
  refine lv_aload_n hx hb dX4_swap_19 rfl (lv_at hl 1 rfl) ?_
  refine gf_X4_X4_places C hK (hB.1 0 _ rfl) dX4_swap_20 ?_
  refine lv_iload_n hx hb dX4_swap_23 rfl (lv_at hl 3 rfl) ?_
  refine lv_iload_n hx hb dX4_swap_24 rfl (lv_at hl 0 rfl) ?_
  obtain ⟨hn7, hf⟩ := ox_chk hf
  refine st_X4_places C hK hB hD 0 rfl hn7 rfl dX4_swap_25 (fun H locs u8 eu8 hB => ?_)
  have hf := ox_lt eu8 hf
  have hB : WB E ad s.heap [wOrder E a_od u8] H locs := hB
  have hf := Option.some.inj hf
  subst hf
  exact hQ _ _ H locs (fun _ => 0) hB dX4_swap_26
set_option maxHeartbeats 4000000 in
set_option maxRecDepth 20000 in
theorem tX4_turnToNext (l : Launch) (E : Ev) (a_od : Nat → Nat) (u_od : St) (res : St) (hf : fX4_turnToNext u_od = some res) : MX l E yX4_turnToNext cX4_turnToNext 5 none (rmm 1 23) [wOrder E a_od u_od] (fun q => [wOrder E a_od res]) [.ref (a_od 0)] none := by
  unfold fX4_turnToNext at hf
  refine MX.ofV rfl (by decide) (Nat.le_of_ble_eq_true rfl) ?_
  intro p e R s m args below meth c ls Q ad H hRf hRl C hB hD hK hN hl hQ
  generalize hlocs : ([] : List Loc) = locs at hB ⊢
  clear hlocs
  have hx := C.1
  have hb := C.2.1
  have hl : lv_has ls 5 [(0, .ref (a_od 0))] := hl
  refine lv_aload_n hx hb dX4_turnToNext_0 rfl (lv_at hl 0 rfl) ?_
  refine gf_X4_X4_size C hK (hB.1 0 _ rfl) dX4_turnToNext_1 ?_
  refine lv_iconst (v := 2) hx hb dX4_turnToNext_4 (by decide) ?_
  refine lv_isub hx hb dX4_turnToNext_5 ?_
  refine lv_topi (fun x1 ex1 => ?_)
  have hf := ox_lt ex1 hf
  refine lv_istore_n (lv' := [(1, .int x1), (0, .ref (a_od 0))]) hx hb dX4_turnToNext_6 rfl hl (by decide) rfl (fun ls hl => ?_)
  obtain ⟨X1, hX1, hf⟩ := ox_bind hf
  have hexit1 : ∀ y8, y8 = X1 → ∀ (ls : Array Slot) (H : Heap) (locs : List Loc), lv_has ls 5 [(0, .ref (a_od 0)), (1, .int y8)] → WB E ad s.heap [wOrder E a_od u_od] H locs → W p l e R s m args below meth c H locs 0 0 Q (F0 m 34 ls []) := by
    intro y8 hy ls H locs hl hB
    subst hy
    refine lv_iload_n hx hb dX4_turnToNext_34 rfl (lv_at hl 1 rfl) ?_
    refine lv_if_ge (tgt := 39) hx hb dX4_turnToNext_35 (by decide) (fun c9 => ?_) (fun c9 => ?_)
    · have hf := (if_pos c9).symm.trans hf
      refine lv_aload_n hx hb dX4_turnToNext_39 rfl (lv_at hl 0 rfl) ?_
      refine gf_X4_X4_size C hK (hB.1 0 _ rfl) dX4_turnToNext_40 ?_
      refine lv_iconst (v := 1) hx hb dX4_turnToNext_43 (by decide) ?_
      refine lv_isub hx hb dX4_turnToNext_44 ?_
      refine lv_topi (fun x10 ex10 => ?_)
      have hf := ox_lt ex10 hf
      refine lv_istore_n (lv' := [(2, .int x10), (0, .ref (a_od 0)), (1, .int y8)]) hx hb dX4_turnToNext_45 rfl hl (by decide) rfl (fun ls hl => ?_)
      obtain ⟨X2, hX2, hf⟩ := ox_bind hf
      have hexit2 : ∀ y17, y17 = X2 → ∀ (ls : Array Slot) (H : Heap) (locs : List Loc), lv_has ls 5 [(0, .ref (a_od 0)), (1, .int y8), (2, .int y17)] → WB E ad s.heap [wOrder E a_od u_od] H locs → W p l e R s m args below meth c H locs 0 0 Q (F0 m 72 ls []) := by
        intro y17 hy ls H locs hl hB
        subst hy
        refine lv_aload_n hx hb dX4_turnToNext_72 rfl (lv_at hl 0 rfl) ?_
        refine lv_iload_n hx hb dX4_turnToNext_73 rfl (lv_at hl 1 rfl) ?_
        refine lv_iload_n hx hb dX4_turnToNext_74 rfl (lv_at hl 2 rfl) ?_
        obtain ⟨r18, hr18, hf⟩ := ox_bind hf
        refine cxVX (bs1 := (fun q => [wOrder E a_od r18])) (As := [.int y8, .int y17]) (rest := []) (st1 := []) C hK (tX4_swap l E a_od u_od y8 y17 r18 hr18) lk_X4_31 (by rw [hRf, hRl]; decide) ⟨Nat.zero_le _, Nat.zero_le _⟩ hB hD hN [0] (by decide) rfl (fun _ => rfl) (fun _ => rfl) (rc_X4 hK (hB.1 0 _ rfl)) rfl hl.1 rfl rfl (Nat.le_of_ble_eq_true rfl) dX4_turnToNext_75 (fun H locs q19 hB => ?_)
        have hB : WB E ad s.heap [wOrder E a_od r18] H locs := hB
        refine lv_iload_n hx hb dX4_turnToNext_78 rfl (lv_at hl 1 rfl) ?_
        refine lv_iconst (v := 1) hx hb dX4_turnToNext_79 (by decide) ?_
        refine lv_iadd hx hb dX4_turnToNext_80 ?_
        refine lv_topi (fun x20 ex20 => ?_)
        have hf := ox_lt ex20 hf
        refine lv_istore_n (lv' := [(3, .int x20), (0, .ref (a_od 0)), (1, .int y8), (2, .int y17)]) hx hb dX4_turnToNext_81 rfl hl (by decide) rfl (fun ls hl => ?_)
        refine lv_aload_n hx hb dX4_turnToNext_82 rfl (lv_at hl 1 rfl) ?_
        refine gf_X4_X4_size C hK (hB.1 0 _ rfl) dX4_turnToNext_83 ?_
        refine lv_iconst (v := 1) hx hb dX4_turnToNext_86 (by decide) ?_
        refine lv_isub hx hb dX4_turnToNext_87 ?_
        refine lv_topi (fun x21 ex21 => ?_)
        have hf := ox_lt ex21 hf
        refine lv_istore (lv' := [(4, .int x21), (3, .int x20), (0, .ref (a_od 0)), (1, .int y8), (2, .int y17)]) hx hb dX4_turnToNext_88 hl (by decide) rfl (fun ls hl => ?_)
        obtain ⟨X3, hX3, hf⟩ := ox_bind hf
        have hexit3 : ∀ y30, y30 = X3 → ∀ (ls : Array Slot) (H : Heap) (locs : List Loc), lv_has ls 5 [] → WB E ad s.heap [wOrder E a_od y30] H locs → W p l e R s m args below meth c H locs 0 0 Q (F0 m 112 ls []) := by
          intro y30 hy ls H locs hl hB
          subst hy
          have hf := Option.some.inj hf
          subst hf
          exact hQ _ _ H locs (fun _ => 0) hB dX4_turnToNext_112
        have hloop3 : ∀ (nf : Nat) (x22 : Int32) (x23 : Int32) (u24 : St) (ls : Array Slot) (H : Heap) (locs : List Loc), lv_has ls 5 [(0, .ref (a_od 0)), (3, .int x22), (4, .int x23)] → WB E ad s.heap [wOrder E a_od u24] H locs → fX4_turnToNext_L3 nf x22 x23 u24 = some X3 → W p l e R s m args below meth c H locs 0 0 Q (F0 m 90 ls []) := by
          intro nf
          induction nf with
          | zero =>
            intro x22 x23 u24 ls H locs hl hB hf
            simp [fX4_turnToNext_L3] at hf
          | succ nf ih =>
            intro x22 x23 u24 ls H locs hl hB hf
            rw [fX4_turnToNext_L3] at hf
            refine lv_iload_n hx hb dX4_turnToNext_90 rfl (lv_at hl 1 rfl) ?_
            refine lv_iload hx hb dX4_turnToNext_91 (lv_at hl 2 rfl) ?_
            refine lv_icmp_ge (tgt := 112) hx hb dX4_turnToNext_93 (by decide) (fun c25 => ?_) (fun c25 => ?_)
            · have hf := (if_pos c25).symm.trans hf
              exact hexit3 _ (Option.some.inj hf) ls H locs (lv_sub hl [] rfl) hB
            · have hf := (if_neg c25).symm.trans hf
              refine lv_aload_n hx hb dX4_turnToNext_96 rfl (lv_at hl 0 rfl) ?_
              refine lv_iload_n hx hb dX4_turnToNext_97 rfl (lv_at hl 1 rfl) ?_
              refine lv_iload hx hb dX4_turnToNext_98 (lv_at hl 2 rfl) ?_
              obtain ⟨r26, hr26, hf⟩ := ox_bind hf
              refine cxVX (bs1 := (fun q => [wOrder E a_od r26])) (As := [.int x22, .int x23]) (rest := []) (st1 := []) C hK (tX4_swap l E a_od u24 x22 x23 r26 hr26) lk_X4_31 (by rw [hRf, hRl]; decide) ⟨Nat.zero_le _, Nat.zero_le _⟩ hB hD hN [0] (by decide) rfl (fun _ => rfl) (fun _ => rfl) (rc_X4 hK (hB.1 0 _ rfl)) rfl hl.1 rfl rfl (Nat.le_of_ble_eq_true rfl) dX4_turnToNext_100 (fun H locs q27 hB => ?_)
              have hB : WB E ad s.heap [wOrder E a_od r26] H locs := hB
              obtain ⟨x28, ex28⟩ : ∃ z : Int32, z = (x22 + 1) := ⟨_, rfl⟩
              have hf := ox_lt ex28 hf
              refine lv_iinc (v := x28) (lv' := [(3, .int x28), (0, .ref (a_od 0)), (4, .int x23)]) hx hb dX4_turnToNext_103 hl (k := 1) rfl (by rw [ex28]; rfl) (by decide) rfl (fun ls hl => ?_)
              obtain ⟨x29, ex29⟩ : ∃ z : Int32, z = (x23 + (-1)) := ⟨_, rfl⟩
              have hf := ox_lt ex29 hf
              refine lv_iinc (v := x29) (lv' := [(4, .int x29), (3, .int x28), (0, .ref (a_od 0))]) hx hb dX4_turnToNext_106 hl (k := 2) rfl (by rw [ex29]; rfl) (by decide) rfl (fun ls hl => ?_)
              refine lv_goto (tgt := 90) hx hb dX4_turnToNext_109 (by decide) ?_
              exact ih _ _ _ ls H locs (lv_sub hl [2, 1, 0] rfl) hB hf
        exact hloop3 fuel _ _ _ ls H locs (lv_sub hl [2, 1, 0] rfl) hB hX3
      have hloop2 : ∀ (nf : Nat) (x11 : Int32) (ls : Array Slot) (H : Heap) (locs : List Loc), lv_has ls 5 [(0, .ref (a_od 0)), (1, .int y8), (2, .int x11)] → WB E ad s.heap [wOrder E a_od u_od] H locs → fX4_turnToNext_L2 u_od y8 nf x11 = some X2 → W p l e R s m args below meth c H locs 0 0 Q (F0 m 46 ls []) := by
        intro nf
        induction nf with
        | zero =>
          intro x11 ls H locs hl hB hf
          simp [fX4_turnToNext_L2] at hf
        | succ nf ih =>
          intro x11 ls H locs hl hB hf
          rw [fX4_turnToNext_L2] at hf
          refine lv_iload_n hx hb dX4_turnToNext_46 rfl (lv_at hl 2 rfl) ?_
          refine lv_iload_n hx hb dX4_turnToNext_47 rfl (lv_at hl 1 rfl) ?_
          refine lv_icmp_le (tgt := 72) hx hb dX4_turnToNext_48 (by decide) (fun c12 => ?_) (fun c12 => ?_)
          · have hf := (if_pos c12).symm.trans hf
            exact hexit2 _ (Option.some.inj hf) ls H locs (lv_sub hl [0, 1, 2] rfl) hB
          · have hf := (if_neg c12).symm.trans hf
            refine lv_aload_n hx hb dX4_turnToNext_51 rfl (lv_at hl 0 rfl) ?_
            refine gf_X4_X4_places C hK (hB.1 0 _ rfl) dX4_turnToNext_52 ?_
            refine lv_iload_n hx hb dX4_turnToNext_55 rfl (lv_at hl 2 rfl) ?_
            obtain ⟨hn13, hf⟩ := ox_chk hf
            refine ld_X4_places C hK (hB.1 0 _ rfl) hn13 rfl dX4_turnToNext_56 ?_
            refine lv_aload_n hx hb dX4_turnToNext_57 rfl (lv_at hl 0 rfl) ?_
            refine gf_X4_X4_places C hK (hB.1 0 _ rfl) dX4_turnToNext_58 ?_
            refine lv_iload_n hx hb dX4_turnToNext_61 rfl (lv_at hl 1 rfl) ?_
            obtain ⟨hn14, hf⟩ := ox_chk hf
            refine ld_X4_places C hK (hB.1 0 _ rfl) hn14 rfl dX4_turnToNext_62 ?_
            refine lv_icmp_ge (tgt := 72) hx hb dX4_turnToNext_63 (by decide) (fun c15 => ?_) (fun c15 => ?_)
            · have hf := (if_pos c15).symm.trans hf
              exact hexit2 _ (Option.some.inj hf) ls H locs (lv_sub hl [0, 1, 2] rfl) hB
            · have hf := (if_neg c15).symm.trans hf
              obtain ⟨x16, ex16⟩ : ∃ z : Int32, z = (x11 + (-1)) := ⟨_, rfl⟩
              have hf := ox_lt ex16 hf
              refine lv_iinc (v := x16) (lv' := [(2, .int x16), (0, .ref (a_od 0)), (1, .int y8)]) hx hb dX4_turnToNext_66 hl (k := 2) rfl (by rw [ex16]; rfl) (by decide) rfl (fun ls hl => ?_)
              refine lv_goto (tgt := 46) hx hb dX4_turnToNext_69 (by decide) ?_
              exact ih _ ls H locs (lv_sub hl [1, 2, 0] rfl) hB hf
      exact hloop2 fuel _ ls H locs (lv_sub hl [1, 2, 0] rfl) hB hX2
    · have hf := (if_neg c9).symm.trans hf
      have hf := Option.some.inj hf
      subst hf
      exact hQ _ _ H locs (fun _ => 0) hB dX4_turnToNext_38
  have hloop1 : ∀ (nf : Nat) (x2 : Int32) (ls : Array Slot) (H : Heap) (locs : List Loc), lv_has ls 5 [(0, .ref (a_od 0)), (1, .int x2)] → WB E ad s.heap [wOrder E a_od u_od] H locs → fX4_turnToNext_L1 u_od nf x2 = some X1 → W p l e R s m args below meth c H locs 0 0 Q (F0 m 7 ls []) := by
    intro nf
    induction nf with
    | zero =>
      intro x2 ls H locs hl hB hf
      simp [fX4_turnToNext_L1] at hf
    | succ nf ih =>
      intro x2 ls H locs hl hB hf
      rw [fX4_turnToNext_L1] at hf
      refine lv_iload_n hx hb dX4_turnToNext_7 rfl (lv_at hl 1 rfl) ?_
      refine lv_if_lt (tgt := 34) hx hb dX4_turnToNext_8 (by decide) (fun c3 => ?_) (fun c3 => ?_)
      · have hf := (if_pos c3).symm.trans hf
        exact hexit1 _ (Option.some.inj hf) ls H locs (lv_sub hl [0, 1] rfl) hB
      · have hf := (if_neg c3).symm.trans hf
        refine lv_aload_n hx hb dX4_turnToNext_11 rfl (lv_at hl 0 rfl) ?_
        refine gf_X4_X4_places C hK (hB.1 0 _ rfl) dX4_turnToNext_12 ?_
        refine lv_iload_n hx hb dX4_turnToNext_15 rfl (lv_at hl 1 rfl) ?_
        obtain ⟨hn4, hf⟩ := ox_chk hf
        refine ld_X4_places C hK (hB.1 0 _ rfl) hn4 rfl dX4_turnToNext_16 ?_
        refine lv_aload_n hx hb dX4_turnToNext_17 rfl (lv_at hl 0 rfl) ?_
        refine gf_X4_X4_places C hK (hB.1 0 _ rfl) dX4_turnToNext_18 ?_
        refine lv_iload_n hx hb dX4_turnToNext_21 rfl (lv_at hl 1 rfl) ?_
        refine lv_iconst (v := 1) hx hb dX4_turnToNext_22 (by decide) ?_
        refine lv_iadd hx hb dX4_turnToNext_23 ?_
        obtain ⟨hn5, hf⟩ := ox_chk hf
        refine ld_X4_places C hK (hB.1 0 _ rfl) hn5 rfl dX4_turnToNext_24 ?_
        refine lv_icmp_le (tgt := 34) hx hb dX4_turnToNext_25 (by decide) (fun c6 => ?_) (fun c6 => ?_)
        · have hf := (if_pos c6).symm.trans hf
          exact hexit1 _ (Option.some.inj hf) ls H locs (lv_sub hl [0, 1] rfl) hB
        · have hf := (if_neg c6).symm.trans hf
          obtain ⟨x7, ex7⟩ : ∃ z : Int32, z = (x2 + (-1)) := ⟨_, rfl⟩
          have hf := ox_lt ex7 hf
          refine lv_iinc (v := x7) (lv' := [(1, .int x7), (0, .ref (a_od 0))]) hx hb dX4_turnToNext_28 hl (k := 1) rfl (by rw [ex7]; rfl) (by decide) rfl (fun ls hl => ?_)
          refine lv_goto (tgt := 7) hx hb dX4_turnToNext_31 (by decide) ?_
          exact ih _ ls H locs (lv_sub hl [1, 0] rfl) hB hf
  exact hloop1 fuel _ ls H locs (lv_sub hl [1, 0] rfl) hB hX1
set_option maxHeartbeats 4000000 in
set_option maxRecDepth 20000 in
theorem tX5_topRank (l : Launch) (E : Ev) (a_ph : Nat → Nat) (q_ph_0_formula : Nat) (u_ph : St) (res : Int32) (hf : fX5_topRank u_ph = some res) : MP l E yX5_topRank cX5_topRank 1 (some .int) (rmm 0 0) [wPhrase E a_ph q_ph_0_formula u_ph] [.ref (a_ph 0)] (some (.int res)) := by
  unfold fX5_topRank at hf
  refine MP.ofI rfl (by decide) (Nat.le_of_ble_eq_true rfl) ?_
  intro p e R s m args below meth c ls Q hRf hRl C hP hK hN hl hQ
  have hx := C.1
  have hb := C.2.1
  have hl : lv_has ls 1 [(0, .ref (a_ph 0))] := hl
  refine lv_aload_n hx hb dX5_topRank_0 rfl (lv_at hl 0 rfl) ?_
  refine gf_X5_X5_waits C hK (hP 0 _ rfl) dX5_topRank_1 ?_
  refine lv_if_le (tgt := 25) hx hb dX5_topRank_4 (by decide) (fun c1 => ?_) (fun c1 => ?_)
  · have hf := (if_pos c1).symm.trans hf
    refine lv_iconst (v := 0) hx hb dX5_topRank_25 (by decide) ?_
    have hf := Option.some.inj hf
    subst hf
    exact hQ _ _ dX5_topRank_26
  · have hf := (if_neg c1).symm.trans hf
    refine bx_ranks C hK va_S.rf mw_690 dX5_topRank_7 ?_
    refine lv_aload_n hx hb dX5_topRank_10 rfl (lv_at hl 0 rfl) ?_
    refine gf_X5_X5_waiting C hK (hP 0 _ rfl) dX5_topRank_11 ?_
    refine lv_aload_n hx hb dX5_topRank_14 rfl (lv_at hl 0 rfl) ?_
    refine gf_X5_X5_waits C hK (hP 0 _ rfl) dX5_topRank_15 ?_
    refine lv_iconst (v := 1) hx hb dX5_topRank_18 (by decide) ?_
    refine lv_isub hx hb dX5_topRank_19 ?_
    obtain ⟨hn2, hf⟩ := ox_chk hf
    refine ld_X5_waiting C hK (hP 0 _ rfl) hn2 rfl dX5_topRank_20 ?_
    obtain ⟨hn3, hf⟩ := ox_chk hf
    refine bx_rank C hK va_S.rf hn3 dX5_topRank_21 ?_
    refine lv_goto (tgt := 26) hx hb dX5_topRank_22 (by decide) ?_
    have hf := Option.some.inj hf
    subst hf
    exact hQ _ _ dX5_topRank_26
set_option maxHeartbeats 4000000 in
set_option maxRecDepth 20000 in
theorem tX5_settle (l : Launch) (E : Ev) (a_ph : Nat → Nat) (u_ph : St) (a_f : Nat → Nat) (u_f : St) (x_1 : Int32) (res : St × St) (hf : fX5_settle u_ph u_f x_1 = some res) : MX l E yX5_settle cX5_settle 2 none (rmm 1 22) [wPhrase E a_ph (a_f 0) u_ph, wFormula E a_f u_f] (fun q => [wPhrase E a_ph (a_f 0) res.1, wFormula E a_f res.2]) [.ref (a_ph 0), .int x_1] none := by
  unfold fX5_settle at hf
  refine MX.ofV rfl (by decide) (Nat.le_of_ble_eq_true rfl) ?_
  intro p e R s m args below meth c ls Q ad H hRf hRl C hB hD hK hN hl hQ
  generalize hlocs : ([] : List Loc) = locs at hB ⊢
  clear hlocs
  have hx := C.1
  have hb := C.2.1
  have hl : lv_has ls 2 [(0, .ref (a_ph 0)), (1, .int x_1)] := hl
  obtain ⟨X1, hX1, hf⟩ := ox_bind hf
  have hexit1 : ∀ y11, y11 = X1 → ∀ (ls : Array Slot) (H : Heap) (locs : List Loc), lv_has ls 2 [] → WB E ad s.heap [wPhrase E a_ph (a_f 0) y11.1, wFormula E a_f y11.2] H locs → W p l e R s m args below meth c H locs 0 0 Q (F0 m 45 ls []) := by
    intro y11 hy ls H locs hl hB
    subst hy
    have hf := Option.some.inj hf
    subst hf
    exact hQ _ _ H locs (fun _ => 0) hB dX5_settle_45
  have hloop1 : ∀ (nf : Nat) (u1 : St) (u2 : St) (ls : Array Slot) (H : Heap) (locs : List Loc), lv_has ls 2 [(0, .ref (a_ph 0)), (1, .int x_1)] → WB E ad s.heap [wPhrase E a_ph (a_f 0) u1, wFormula E a_f u2] H locs → fX5_settle_L1 x_1 nf u1 u2 = some X1 → W p l e R s m args below meth c H locs 0 0 Q (F0 m 0 ls []) := by
    intro nf
    induction nf with
    | zero =>
      intro u1 u2 ls H locs hl hB hf
      simp [fX5_settle_L1] at hf
    | succ nf ih =>
      intro u1 u2 ls H locs hl hB hf
      rw [fX5_settle_L1] at hf
      refine lv_aload_n hx hb dX5_settle_0 rfl (lv_at hl 0 rfl) ?_
      refine gf_X5_X5_waits C hK (hB.1 0 _ rfl) dX5_settle_1 ?_
      refine lv_if_le (tgt := 45) hx hb dX5_settle_4 (by decide) (fun c3 => ?_) (fun c3 => ?_)
      · have hf := (if_pos c3).symm.trans hf
        exact hexit1 _ (Option.some.inj hf) ls H locs (lv_sub hl [] rfl) hB
      · have hf := (if_neg c3).symm.trans hf
        refine lv_aload_n hx hb dX5_settle_7 rfl (lv_at hl 0 rfl) ?_
        obtain ⟨r4, hr4, hf⟩ := ox_bind hf
        refine cxVP (As := []) (rest := []) (st1 := [.int r4]) C hK (tX5_topRank l E a_ph (a_f 0) u1 r4 hr4) lk_X5_79 ⟨rfl, rfl⟩ (by rw [hRf, hRl]; decide) ⟨Nat.zero_le _, Nat.zero_le _⟩ (PB.sub hB.1 [0] rfl) (hB.old hD hN) (Nat.le_trans hN hB.2.2.1) (rc_X5 hK (hB.1 0 _ rfl)) rfl hl.1 rfl rfl (Nat.le_of_ble_eq_true rfl) dX5_settle_8 ?_
        refine lv_iload_n hx hb dX5_settle_11 rfl (lv_at hl 1 rfl) ?_
        refine lv_icmp_lt (tgt := 45) hx hb dX5_settle_12 (by decide) (fun c5 => ?_) (fun c5 => ?_)
        · have hf := (if_pos c5).symm.trans hf
          exact hexit1 _ (Option.some.inj hf) ls H locs (lv_sub hl [] rfl) hB
        · have hf := (if_neg c5).symm.trans hf
          refine lv_aload_n hx hb dX5_settle_15 rfl (lv_at hl 0 rfl) ?_
          refine lv_dup hx hb dX5_settle_16 rfl ?_
          refine gf_X5_X5_waits C hK (hB.1 0 _ rfl) dX5_settle_17 ?_
          refine lv_iconst (v := 1) hx hb dX5_settle_20 (by decide) ?_
          refine lv_isub hx hb dX5_settle_21 ?_
          refine lv_topi (fun x6 ex6 => ?_)
          have hf := ox_lt ex6 hf
          refine pf_X5_X5_waits C hK hB hD 0 rfl dX5_settle_22 (fun H locs u7 eu7 hB => ?_)
          have hf := ox_lt eu7 hf
          have hB : WB E ad s.heap [wPhrase E a_ph (a_f 0) u7, wFormula E a_f u2] H locs := hB
          refine lv_aload_n hx hb dX5_settle_25 rfl (lv_at hl 0 rfl) ?_
          refine gf_X5_X5_formula C hK (hB.1 0 _ rfl) dX5_settle_26 ?_
          refine lv_aload_n hx hb dX5_settle_29 rfl (lv_at hl 0 rfl) ?_
          refine gf_X5_X5_waiting C hK (hB.1 0 _ rfl) dX5_settle_30 ?_
          refine lv_aload_n hx hb dX5_settle_33 rfl (lv_at hl 0 rfl) ?_
          refine gf_X5_X5_waits C hK (hB.1 0 _ rfl) dX5_settle_34 ?_
          obtain ⟨hn8, hf⟩ := ox_chk hf
          refine ld_X5_waiting C hK (hB.1 0 _ rfl) hn8 rfl dX5_settle_37 ?_
          refine lv_iconst (v := 0) hx hb dX5_settle_38 (by decide) ?_
          obtain ⟨r9, hr9, hf⟩ := ox_bind hf
          refine cxVX (bs1 := (fun q => [wPhrase E a_ph (a_f 0) u7, wFormula E a_f r9])) (As := [.int (gA u7 0 ((gI u7 1)).toNatClampNeg), .int (0 : Int32)]) (rest := []) (st1 := []) C hK (tX0_add l E a_f u2 (gA u7 0 ((gI u7 1)).toNatClampNeg) (0 : Int32) r9 hr9) lk_X5_66 (by rw [hRf, hRl]; decide) ⟨Nat.zero_le _, Nat.zero_le _⟩ hB hD hN [1] (by decide) rfl (fun _ => rfl) (fun _ => rfl) (rc_X0 hK (hB.1 1 _ rfl)) rfl hl.1 rfl rfl (Nat.le_of_ble_eq_true rfl) dX5_settle_39 (fun H locs q10 hB => ?_)
          have hB : WB E ad s.heap [wPhrase E a_ph (a_f 0) u7, wFormula E a_f r9] H locs := hB
          refine lv_goto (tgt := 0) hx hb dX5_settle_42 (by decide) ?_
          exact ih _ _ ls H locs (lv_sub hl [0, 1] rfl) hB hf
  exact hloop1 fuel _ _ ls H locs (lv_sub hl [0, 1] rfl) hB hX1
set_option maxHeartbeats 4000000 in
set_option maxRecDepth 20000 in
theorem tX10_peek (l : Launch) (E : Ev) (a_tk : Nat → Nat) (u_tk : St) (n_tp : Nat) (a_tp : Nat → Nat) (u_tp : St) (res : Int32) (hf : fX10_peek n_tp u_tk u_tp = some res) : MP l E yX10_peek cX10_peek 1 (some .int) (rmm 0 0) [wTokens E a_tk (a_tp 0) u_tk, wBArr E n_tp a_tp u_tp] [.ref (a_tk 0)] (some (.int res)) := by
  unfold fX10_peek at hf
  refine MP.ofI rfl (by decide) (Nat.le_of_ble_eq_true rfl) ?_
  intro p e R s m args below meth c ls Q hRf hRl C hP hK hN hl hQ
  have hx := C.1
  have hb := C.2.1
  have hl : lv_has ls 1 [(0, .ref (a_tk 0))] := hl
  refine lv_aload_n hx hb dX10_peek_0 rfl (lv_at hl 0 rfl) ?_
  refine gf_X10_X10_at C hK (hP 0 _ rfl) dX10_peek_1 ?_
  refine lv_aload_n hx hb dX10_peek_4 rfl (lv_at hl 0 rfl) ?_
  refine gf_X10_X10_limit C hK (hP 0 _ rfl) dX10_peek_5 ?_
  refine lv_icmp_ge (tgt := 27) hx hb dX10_peek_8 (by decide) (fun c1 => ?_) (fun c1 => ?_)
  · have hf := (if_pos c1).symm.trans hf
    refine lv_iconst (v := (-1)) hx hb dX10_peek_27 (by decide) ?_
    have hf := Option.some.inj hf
    subst hf
    exact hQ _ _ dX10_peek_28
  · have hf := (if_neg c1).symm.trans hf
    refine lv_aload_n hx hb dX10_peek_11 rfl (lv_at hl 0 rfl) ?_
    refine gf_X10_X10_bytes C hK (hP 0 _ rfl) dX10_peek_12 ?_
    refine lv_aload_n hx hb dX10_peek_15 rfl (lv_at hl 0 rfl) ?_
    refine gf_X10_X10_at C hK (hP 0 _ rfl) dX10_peek_16 ?_
    obtain ⟨hn2, hf⟩ := ox_chk hf
    refine ld_BArr_row C hK (hP 1 _ rfl) hn2 rfl dX10_peek_19 ?_
    refine lv_sipush (v := 255) hx hb dX10_peek_20 (by decide) ?_
    refine lv_iand hx hb dX10_peek_23 ?_
    refine lv_goto (tgt := 28) hx hb dX10_peek_24 (by decide) ?_
    have hf := Option.some.inj hf
    subst hf
    exact hQ _ _ dX10_peek_28
set_option maxHeartbeats 4000000 in
set_option maxRecDepth 20000 in
theorem tX10_isDigit (l : Launch) (E : Ev) (x_0 : Int32) (res : Int32) (hf : fX10_isDigit x_0 = res) : MP l E yX10_isDigit cX10_isDigit 1 (some .boolean) (rmm 0 0) [] [.int x_0] (some (.int res)) := by
  unfold fX10_isDigit at hf
  refine MP.ofZZ rfl (by decide) (Nat.le_of_ble_eq_true rfl) ?_
  intro p e R s m args below meth c ls Q hRf hRl C hP hK hN hl hQ
  have hx := C.1
  have hb := C.2.1
  have hl : lv_has ls 1 [(0, .int x_0)] := hl
  refine lv_iload_n hx hb dX10_isDigit_0 rfl (lv_at hl 0 rfl) ?_
  refine lv_bipush (v := 48) hx hb dX10_isDigit_1 (by decide) ?_
  obtain ⟨x1, ex1, hf⟩ := ox_ex hf
  have hjx1 : W p l e R s m args below meth c s.heap [] 0 0 Q (F0 m 17 ls [.int x1]) := by
    subst hf
    exact hQ _ _ x1 rfl dX10_isDigit_17
  refine lv_icmp_lt (tgt := 16) hx hb dX10_isDigit_3 (by decide) (fun c2 => ?_) (fun c2 => ?_)
  · refine lv_iconst (v := 0) hx hb dX10_isDigit_16 (by decide) ?_
    exact ox_topi ((ex1).trans (if_pos c2)).symm hjx1
  · refine lv_iload_n hx hb dX10_isDigit_6 rfl (lv_at hl 0 rfl) ?_
    refine lv_bipush (v := 57) hx hb dX10_isDigit_7 (by decide) ?_
    refine lv_icmp_gt (tgt := 16) hx hb dX10_isDigit_9 (by decide) (fun c3 => ?_) (fun c3 => ?_)
    · refine lv_iconst (v := 0) hx hb dX10_isDigit_16 (by decide) ?_
      exact ox_topi (((ex1).trans (if_neg c2)).trans (if_pos c3)).symm hjx1
    · refine lv_iconst (v := 1) hx hb dX10_isDigit_12 (by decide) ?_
      refine lv_goto (tgt := 17) hx hb dX10_isDigit_13 (by decide) ?_
      exact ox_topi (((ex1).trans (if_neg c2)).trans (if_neg c3)).symm hjx1
set_option maxHeartbeats 4000000 in
set_option maxRecDepth 20000 in
theorem tX10_isLetter (l : Launch) (E : Ev) (x_0 : Int32) (res : Int32) (hf : fX10_isLetter x_0 = res) : MP l E yX10_isLetter cX10_isLetter 1 (some .boolean) (rmm 0 0) [] [.int x_0] (some (.int res)) := by
  unfold fX10_isLetter at hf
  refine MP.ofZZ rfl (by decide) (Nat.le_of_ble_eq_true rfl) ?_
  intro p e R s m args below meth c ls Q hRf hRl C hP hK hN hl hQ
  have hx := C.1
  have hb := C.2.1
  have hl : lv_has ls 1 [(0, .int x_0)] := hl
  refine lv_iload_n hx hb dX10_isLetter_0 rfl (lv_at hl 0 rfl) ?_
  refine lv_bipush (v := 97) hx hb dX10_isLetter_1 (by decide) ?_
  obtain ⟨x1, ex1, hf⟩ := ox_ex hf
  have hjx1 : W p l e R s m args below meth c s.heap [] 0 0 Q (F0 m 17 ls [.int x1]) := by
    subst hf
    exact hQ _ _ x1 rfl dX10_isLetter_17
  refine lv_icmp_lt (tgt := 16) hx hb dX10_isLetter_3 (by decide) (fun c2 => ?_) (fun c2 => ?_)
  · refine lv_iconst (v := 0) hx hb dX10_isLetter_16 (by decide) ?_
    exact ox_topi ((ex1).trans (if_pos c2)).symm hjx1
  · refine lv_iload_n hx hb dX10_isLetter_6 rfl (lv_at hl 0 rfl) ?_
    refine lv_bipush (v := 122) hx hb dX10_isLetter_7 (by decide) ?_
    refine lv_icmp_gt (tgt := 16) hx hb dX10_isLetter_9 (by decide) (fun c3 => ?_) (fun c3 => ?_)
    · refine lv_iconst (v := 0) hx hb dX10_isLetter_16 (by decide) ?_
      exact ox_topi (((ex1).trans (if_neg c2)).trans (if_pos c3)).symm hjx1
    · refine lv_iconst (v := 1) hx hb dX10_isLetter_12 (by decide) ?_
      refine lv_goto (tgt := 17) hx hb dX10_isLetter_13 (by decide) ?_
      exact ox_topi (((ex1).trans (if_neg c2)).trans (if_neg c3)).symm hjx1
set_option maxHeartbeats 4000000 in
set_option maxRecDepth 20000 in
theorem tX10_jointOf (l : Launch) (E : Ev) (x_0 : Int32) (x_1 : Int32) (res : Int32) (hf : fX10_jointOf x_0 x_1 = res) : MP l E yX10_jointOf cX10_jointOf 2 (some .int) (rmm 0 0) [] [.int x_0, .int x_1] (some (.int res)) := by
  unfold fX10_jointOf at hf
  refine MP.ofI rfl (by decide) (Nat.le_of_ble_eq_true rfl) ?_
  intro p e R s m args below meth c ls Q hRf hRl C hP hK hN hl hQ
  have hx := C.1
  have hb := C.2.1
  have hl : lv_has ls 2 [(0, .int x_0), (1, .int x_1)] := hl
  refine lv_iload_n hx hb dX10_jointOf_0 rfl (lv_at hl 0 rfl) ?_
  by_cases c1 : x_0 = 42
  · have hf := (if_pos c1).symm.trans hf
    refine lv_tableIn hx hb dX10_jointOf_1 (by rw [c1]; decide) (by rw [c1]; decide) (off := 105) (by rw [c1]; decide) (tgt := 106) (by decide) ?_
    refine lv_bipush (v := 13) hx hb dX10_jointOf_106 (by decide) ?_
    subst hf
    exact hQ _ _ dX10_jointOf_108
  have hf := (if_neg c1).symm.trans hf
  by_cases c2 : x_0 = 43
  · have hf := (if_pos c2).symm.trans hf
    refine lv_tableIn hx hb dX10_jointOf_1 (by rw [c2]; decide) (by rw [c2]; decide) (off := 99) (by rw [c2]; decide) (tgt := 100) (by decide) ?_
    refine lv_bipush (v := 11) hx hb dX10_jointOf_100 (by decide) ?_
    subst hf
    exact hQ _ _ dX10_jointOf_102
  have hf := (if_neg c2).symm.trans hf
  by_cases c3 : x_0 = 45
  · have hf := (if_pos c3).symm.trans hf
    refine lv_tableIn hx hb dX10_jointOf_1 (by rw [c3]; decide) (by rw [c3]; decide) (off := 102) (by rw [c3]; decide) (tgt := 103) (by decide) ?_
    refine lv_bipush (v := 12) hx hb dX10_jointOf_103 (by decide) ?_
    subst hf
    exact hQ _ _ dX10_jointOf_105
  have hf := (if_neg c3).symm.trans hf
  by_cases c4 : x_0 = 47
  · have hf := (if_pos c4).symm.trans hf
    refine lv_tableIn hx hb dX10_jointOf_1 (by rw [c4]; decide) (by rw [c4]; decide) (off := 108) (by rw [c4]; decide) (tgt := 109) (by decide) ?_
    refine lv_bipush (v := 14) hx hb dX10_jointOf_109 (by decide) ?_
    subst hf
    exact hQ _ _ dX10_jointOf_111
  have hf := (if_neg c4).symm.trans hf
  by_cases c5 : x_0 = 60
  · have hf := (if_pos c5).symm.trans hf
    refine lv_tableIn hx hb dX10_jointOf_1 (by rw [c5]; decide) (by rw [c5]; decide) (off := 114) (by rw [c5]; decide) (tgt := 115) (by decide) ?_
    refine lv_iload_n hx hb dX10_jointOf_115 rfl (lv_at hl 1 rfl) ?_
    refine lv_bipush (v := 62) hx hb dX10_jointOf_116 (by decide) ?_
    refine lv_icmp_ne (tgt := 124) hx hb dX10_jointOf_118 (by decide) (fun c6 => ?_) (fun c6 => ?_)
    · have hf := (if_neg c6).symm.trans hf
      refine lv_iload_n hx hb dX10_jointOf_124 rfl (lv_at hl 1 rfl) ?_
      refine lv_bipush (v := 61) hx hb dX10_jointOf_125 (by decide) ?_
      obtain ⟨x7, ex7, hf⟩ := ox_ex hf
      have hjx7 : W p l e R s m args below meth c s.heap [] 0 0 Q (F0 m 136 ls [.int x7]) := by
        subst hf
        exact hQ _ _ dX10_jointOf_136
      refine lv_icmp_ne (tgt := 135) hx hb dX10_jointOf_127 (by decide) (fun c8 => ?_) (fun c8 => ?_)
      · refine lv_iconst (v := 5) hx hb dX10_jointOf_135 (by decide) ?_
        exact ox_topi ((ex7).trans (if_neg c8)).symm hjx7
      · refine lv_bipush (v := 6) hx hb dX10_jointOf_130 (by decide) ?_
        refine lv_goto (tgt := 136) hx hb dX10_jointOf_132 (by decide) ?_
        exact ox_topi ((ex7).trans (if_pos c8)).symm hjx7
    · have hf := (if_pos c6).symm.trans hf
      refine lv_bipush (v := 8) hx hb dX10_jointOf_121 (by decide) ?_
      subst hf
      exact hQ _ _ dX10_jointOf_123
  have hf := (if_neg c5).symm.trans hf
  by_cases c9 : x_0 = 61
  · have hf := (if_pos c9).symm.trans hf
    refine lv_tableIn hx hb dX10_jointOf_1 (by rw [c9]; decide) (by rw [c9]; decide) (off := 111) (by rw [c9]; decide) (tgt := 112) (by decide) ?_
    refine lv_bipush (v := 7) hx hb dX10_jointOf_112 (by decide) ?_
    subst hf
    exact hQ _ _ dX10_jointOf_114
  have hf := (if_neg c9).symm.trans hf
  by_cases c10 : x_0 = 62
  · have hf := (if_pos c10).symm.trans hf
    refine lv_tableIn hx hb dX10_jointOf_1 (by rw [c10]; decide) (by rw [c10]; decide) (off := 136) (by rw [c10]; decide) (tgt := 137) (by decide) ?_
    refine lv_iload_n hx hb dX10_jointOf_137 rfl (lv_at hl 1 rfl) ?_
    refine lv_bipush (v := 61) hx hb dX10_jointOf_138 (by decide) ?_
    obtain ⟨x11, ex11, hf⟩ := ox_ex hf
    have hjx11 : W p l e R s m args below meth c s.heap [] 0 0 Q (F0 m 150 ls [.int x11]) := by
      subst hf
      exact hQ _ _ dX10_jointOf_150
    refine lv_icmp_ne (tgt := 148) hx hb dX10_jointOf_140 (by decide) (fun c12 => ?_) (fun c12 => ?_)
    · refine lv_bipush (v := 10) hx hb dX10_jointOf_148 (by decide) ?_
      exact ox_topi ((ex11).trans (if_neg c12)).symm hjx11
    · refine lv_bipush (v := 9) hx hb dX10_jointOf_143 (by decide) ?_
      refine lv_goto (tgt := 150) hx hb dX10_jointOf_145 (by decide) ?_
      exact ox_topi ((ex11).trans (if_pos c12)).symm hjx11
  have hf := (if_neg c10).symm.trans hf
  have hd13 : W p l e R s m args below meth c s.heap [] 0 0 Q (F0 m 151 ls []) := by
    refine lv_iconst (v := (-1)) hx hb dX10_jointOf_151 (by decide) ?_
    subst hf
    exact hQ _ _ dX10_jointOf_152
  have nc1 := lv_neT c1 (show Int32.toInt 42 = 42 from rfl)
  have nc2 := lv_neT c2 (show Int32.toInt 43 = 43 from rfl)
  have nc3 := lv_neT c3 (show Int32.toInt 45 = 45 from rfl)
  have nc4 := lv_neT c4 (show Int32.toInt 47 = 47 from rfl)
  have nc5 := lv_neT c5 (show Int32.toInt 60 = 60 from rfl)
  have nc9 := lv_neT c9 (show Int32.toInt 61 = 61 from rfl)
  have nc10 := lv_neT c10 (show Int32.toInt 62 = 62 from rfl)
  rcases (show Int32.toInt x_0 < 42 ∨ 62 < Int32.toInt x_0 ∨ Int32.toInt x_0 = 44 ∨ Int32.toInt x_0 = 46 ∨ Int32.toInt x_0 = 48 ∨ Int32.toInt x_0 = 49 ∨ Int32.toInt x_0 = 50 ∨ Int32.toInt x_0 = 51 ∨ Int32.toInt x_0 = 52 ∨ Int32.toInt x_0 = 53 ∨ Int32.toInt x_0 = 54 ∨ Int32.toInt x_0 = 55 ∨ Int32.toInt x_0 = 56 ∨ Int32.toInt x_0 = 57 ∨ Int32.toInt x_0 = 58 ∨ Int32.toInt x_0 = 59 by omega) with h | h | h | h | h | h | h | h | h | h | h | h | h | h | h | h
  · exact lv_tableOut hx hb dX10_jointOf_1 (Or.inl h) (tgt := 151) (by decide) hd13
  · exact lv_tableOut hx hb dX10_jointOf_1 (Or.inr h) (tgt := 151) (by decide) hd13
  · exact lv_tableIn hx hb dX10_jointOf_1 (by rw [h]; decide) (by rw [h]; decide) (off := 150) (by rw [h]; decide) (tgt := 151) (by decide) hd13
  · exact lv_tableIn hx hb dX10_jointOf_1 (by rw [h]; decide) (by rw [h]; decide) (off := 150) (by rw [h]; decide) (tgt := 151) (by decide) hd13
  · exact lv_tableIn hx hb dX10_jointOf_1 (by rw [h]; decide) (by rw [h]; decide) (off := 150) (by rw [h]; decide) (tgt := 151) (by decide) hd13
  · exact lv_tableIn hx hb dX10_jointOf_1 (by rw [h]; decide) (by rw [h]; decide) (off := 150) (by rw [h]; decide) (tgt := 151) (by decide) hd13
  · exact lv_tableIn hx hb dX10_jointOf_1 (by rw [h]; decide) (by rw [h]; decide) (off := 150) (by rw [h]; decide) (tgt := 151) (by decide) hd13
  · exact lv_tableIn hx hb dX10_jointOf_1 (by rw [h]; decide) (by rw [h]; decide) (off := 150) (by rw [h]; decide) (tgt := 151) (by decide) hd13
  · exact lv_tableIn hx hb dX10_jointOf_1 (by rw [h]; decide) (by rw [h]; decide) (off := 150) (by rw [h]; decide) (tgt := 151) (by decide) hd13
  · exact lv_tableIn hx hb dX10_jointOf_1 (by rw [h]; decide) (by rw [h]; decide) (off := 150) (by rw [h]; decide) (tgt := 151) (by decide) hd13
  · exact lv_tableIn hx hb dX10_jointOf_1 (by rw [h]; decide) (by rw [h]; decide) (off := 150) (by rw [h]; decide) (tgt := 151) (by decide) hd13
  · exact lv_tableIn hx hb dX10_jointOf_1 (by rw [h]; decide) (by rw [h]; decide) (off := 150) (by rw [h]; decide) (tgt := 151) (by decide) hd13
  · exact lv_tableIn hx hb dX10_jointOf_1 (by rw [h]; decide) (by rw [h]; decide) (off := 150) (by rw [h]; decide) (tgt := 151) (by decide) hd13
  · exact lv_tableIn hx hb dX10_jointOf_1 (by rw [h]; decide) (by rw [h]; decide) (off := 150) (by rw [h]; decide) (tgt := 151) (by decide) hd13
  · exact lv_tableIn hx hb dX10_jointOf_1 (by rw [h]; decide) (by rw [h]; decide) (off := 150) (by rw [h]; decide) (tgt := 151) (by decide) hd13
  · exact lv_tableIn hx hb dX10_jointOf_1 (by rw [h]; decide) (by rw [h]; decide) (off := 150) (by rw [h]; decide) (tgt := 151) (by decide) hd13
set_option maxHeartbeats 4000000 in
set_option maxRecDepth 20000 in
theorem tX10_takeSign (l : Launch) (E : Ev) (a_tk : Nat → Nat) (q_tk_0_bytes : Nat) (u_tk : St) (x_1 : Int32) (x_2 : Int32) (res : St) (hf : fX10_takeSign u_tk x_1 x_2 = res) : MX l E yX10_takeSign cX10_takeSign 3 none (rmm 1 21) [wTokens E a_tk q_tk_0_bytes u_tk] (fun q => [wTokens E a_tk q_tk_0_bytes res]) [.ref (a_tk 0), .int x_1, .int x_2] none := by
  unfold fX10_takeSign at hf
  refine MX.ofV rfl (by decide) (Nat.le_of_ble_eq_true rfl) ?_
  intro p e R s m args below meth c ls Q ad H hRf hRl C hB hD hK hN hl hQ
  generalize hlocs : ([] : List Loc) = locs at hB ⊢
  clear hlocs
  have hx := C.1
  have hb := C.2.1
  have hl : lv_has ls 3 [(0, .ref (a_tk 0)), (1, .int x_1), (2, .int x_2)] := hl
  refine lv_iload_n hx hb dX10_takeSign_0 rfl (lv_at hl 1 rfl) ?_
  by_cases c1 : x_1 = 40
  · have hf := (if_pos c1).symm.trans hf
    refine lv_lookup hx hb dX10_takeSign_1 (by decide) (off := 42) (by rw [c1]; decide) (tgt := 43) (by decide) ?_
    refine lv_aload_n hx hb dX10_takeSign_43 rfl (lv_at hl 0 rfl) ?_
    refine lv_iconst (v := 5) hx hb dX10_takeSign_44 (by decide) ?_
    refine pf_X10_X10_kind C hK hB hD 0 rfl dX10_takeSign_45 (fun H locs u2 eu2 hB => ?_)
    have hf := ox_lt eu2 hf
    have hB : WB E ad s.heap [wTokens E a_tk q_tk_0_bytes u2] H locs := hB
    subst hf
    exact hQ _ _ H locs (fun _ => 0) hB dX10_takeSign_48
  have hf := (if_neg c1).symm.trans hf
  by_cases c3 : x_1 = 41
  · have hf := (if_pos c3).symm.trans hf
    refine lv_lookup hx hb dX10_takeSign_1 (by decide) (off := 48) (by rw [c3]; decide) (tgt := 49) (by decide) ?_
    refine lv_aload_n hx hb dX10_takeSign_49 rfl (lv_at hl 0 rfl) ?_
    refine lv_bipush (v := 6) hx hb dX10_takeSign_50 (by decide) ?_
    refine pf_X10_X10_kind C hK hB hD 0 rfl dX10_takeSign_52 (fun H locs u4 eu4 hB => ?_)
    have hf := ox_lt eu4 hf
    have hB : WB E ad s.heap [wTokens E a_tk q_tk_0_bytes u4] H locs := hB
    subst hf
    exact hQ _ _ H locs (fun _ => 0) hB dX10_takeSign_55
  have hf := (if_neg c3).symm.trans hf
  by_cases c5 : x_1 = 59
  · have hf := (if_pos c5).symm.trans hf
    refine lv_lookup hx hb dX10_takeSign_1 (by decide) (off := 35) (by rw [c5]; decide) (tgt := 36) (by decide) ?_
    refine lv_aload_n hx hb dX10_takeSign_36 rfl (lv_at hl 0 rfl) ?_
    refine lv_bipush (v := 7) hx hb dX10_takeSign_37 (by decide) ?_
    refine pf_X10_X10_kind C hK hB hD 0 rfl dX10_takeSign_39 (fun H locs u6 eu6 hB => ?_)
    have hf := ox_lt eu6 hf
    have hB : WB E ad s.heap [wTokens E a_tk q_tk_0_bytes u6] H locs := hB
    subst hf
    exact hQ _ _ H locs (fun _ => 0) hB dX10_takeSign_42
  have hf := (if_neg c5).symm.trans hf
  have hd18 : W p l e R s m args below meth c H locs 0 0 Q (F0 m 56 ls []) := by
    refine lv_aload_n hx hb dX10_takeSign_56 rfl (lv_at hl 0 rfl) ?_
    refine lv_iload_n hx hb dX10_takeSign_57 rfl (lv_at hl 1 rfl) ?_
    refine lv_iload_n hx hb dX10_takeSign_58 rfl (lv_at hl 2 rfl) ?_
    refine cxSP (As := [.int x_1, .int x_2]) (rest := [.ref (a_tk 0)]) (st1 := [.int (fX10_jointOf x_1 x_2), .ref (a_tk 0)]) C hK (tX10_jointOf l E x_1 x_2 (fX10_jointOf x_1 x_2) rfl) lk_X10_77 ⟨rfl, rfl⟩ (by rw [hRf, hRl]; decide) ⟨Nat.zero_le _, Nat.zero_le _⟩ (PB.sub hB.1 [] rfl) (hB.old hD hN) (Nat.le_trans hN hB.2.2.1) rfl hl.1 rfl rfl (Nat.le_of_ble_eq_true rfl) dX10_takeSign_59 ?_
    refine lv_topi (fun x7 ex7 => ?_)
    have hf := ox_lt ex7 hf
    refine pf_X10_X10_value C hK hB hD 0 rfl dX10_takeSign_62 (fun H locs u8 eu8 hB => ?_)
    have hf := ox_lt eu8 hf
    have hB : WB E ad s.heap [wTokens E a_tk q_tk_0_bytes u8] H locs := hB
    refine lv_aload_n hx hb dX10_takeSign_65 rfl (lv_at hl 0 rfl) ?_
    refine lv_aload_n hx hb dX10_takeSign_66 rfl (lv_at hl 0 rfl) ?_
    refine gf_X10_X10_value C hK (hB.1 0 _ rfl) dX10_takeSign_67 ?_
    refine lv_iconst (v := (-1)) hx hb dX10_takeSign_70 (by decide) ?_
    obtain ⟨x9, ex9, hf⟩ := ox_ex hf
    have hjx9 : W p l e R s m args below meth c H locs 0 0 Q (F0 m 80 ls [.int x9, .ref (a_tk 0)]) := by
      refine pf_X10_X10_kind C hK hB hD 0 rfl dX10_takeSign_80 (fun H locs u10 eu10 hB => ?_)
      have hf := ox_lt eu10 hf
      have hB : WB E ad s.heap [wTokens E a_tk q_tk_0_bytes u10] H locs := hB
      refine lv_aload_n hx hb dX10_takeSign_83 rfl (lv_at hl 0 rfl) ?_
      refine gf_X10_X10_value C hK (hB.1 0 _ rfl) dX10_takeSign_84 ?_
      refine lv_bipush (v := 6) hx hb dX10_takeSign_87 (by decide) ?_
      obtain ⟨j11, ej11, hf⟩ := ox_ex hf
      have hj11 : ∀ (ls : Array Slot) (H : Heap) (locs : List Loc), lv_has ls 3 [(0, .ref (a_tk 0))] → WB E ad s.heap [wTokens E a_tk q_tk_0_bytes u10] H locs → j11 = res → W p l e R s m args below meth c H locs 0 0 Q (F0 m 110 ls []) := by
        intro ls H locs hl hB hf
        have hf := ox_a0 ej11 hf
        refine lv_aload_n hx hb dX10_takeSign_110 rfl (lv_at hl 0 rfl) ?_
        refine lv_dup hx hb dX10_takeSign_111 rfl ?_
        refine gf_X10_X10_at C hK (hB.1 0 _ rfl) dX10_takeSign_112 ?_
        refine lv_iconst (v := 1) hx hb dX10_takeSign_115 (by decide) ?_
        refine lv_iadd hx hb dX10_takeSign_116 ?_
        refine lv_topi (fun x12 ex12 => ?_)
        have hf := ox_lt ex12 hf
        refine pf_X10_X10_at C hK hB hD 0 rfl dX10_takeSign_117 (fun H locs u13 eu13 hB => ?_)
        have hf := ox_lt eu13 hf
        have hB : WB E ad s.heap [wTokens E a_tk q_tk_0_bytes u13] H locs := hB
        subst hf
        exact hQ _ _ H locs (fun _ => 0) hB dX10_takeSign_120
      refine lv_icmp_eq (tgt := 110) hx hb dX10_takeSign_89 (by decide) (fun c14 => ?_) (fun c14 => ?_)
      · have hf := (if_pos c14).symm.trans hf
        exact hj11 ls H locs (lv_sub hl [0] rfl) hB hf
      · have hf := (if_neg c14).symm.trans hf
        refine lv_aload_n hx hb dX10_takeSign_92 rfl (lv_at hl 0 rfl) ?_
        refine gf_X10_X10_value C hK (hB.1 0 _ rfl) dX10_takeSign_93 ?_
        refine lv_bipush (v := 8) hx hb dX10_takeSign_96 (by decide) ?_
        refine lv_icmp_eq (tgt := 110) hx hb dX10_takeSign_98 (by decide) (fun c15 => ?_) (fun c15 => ?_)
        · have hf := (if_pos c15).symm.trans hf
          exact hj11 ls H locs (lv_sub hl [0] rfl) hB hf
        · have hf := (if_neg c15).symm.trans hf
          refine lv_aload_n hx hb dX10_takeSign_101 rfl (lv_at hl 0 rfl) ?_
          refine gf_X10_X10_value C hK (hB.1 0 _ rfl) dX10_takeSign_102 ?_
          refine lv_bipush (v := 9) hx hb dX10_takeSign_105 (by decide) ?_
          refine lv_icmp_ne (tgt := 120) hx hb dX10_takeSign_107 (by decide) (fun c16 => ?_) (fun c16 => ?_)
          · have hf := (if_neg c16).symm.trans hf
            subst hf
            exact hQ _ _ H locs (fun _ => 0) hB dX10_takeSign_120
          · have hf := (if_pos c16).symm.trans hf
            exact hj11 ls H locs (lv_sub hl [0] rfl) hB hf
    refine lv_icmp_ne (tgt := 79) hx hb dX10_takeSign_71 (by decide) (fun c17 => ?_) (fun c17 => ?_)
    · refine lv_iconst (v := 4) hx hb dX10_takeSign_79 (by decide) ?_
      exact ox_topi ((ex9).trans (if_neg c17)).symm hjx9
    · refine lv_bipush (v := 8) hx hb dX10_takeSign_74 (by decide) ?_
      refine lv_goto (tgt := 80) hx hb dX10_takeSign_76 (by decide) ?_
      exact ox_topi ((ex9).trans (if_pos c17)).symm hjx9
  have nc1 := lv_neT c1 (show Int32.toInt 40 = 40 from rfl)
  have nc3 := lv_neT c3 (show Int32.toInt 41 = 41 from rfl)
  have nc5 := lv_neT c5 (show Int32.toInt 59 = 59 from rfl)
  exact lv_lookup hx hb dX10_takeSign_1 (by decide) (off := 55) ((lv_osw c1 (a := 40) rfl).trans ((lv_osw c3 (a := 41) rfl).trans ((lv_osw c5 (a := 59) rfl).trans rfl))) (tgt := 56) (by decide) hd18
set_option maxHeartbeats 4000000 in
set_option maxRecDepth 20000 in
theorem tX10_takeWord (l : Launch) (E : Ev) (a_tk : Nat → Nat) (u_tk : St) (n_tp : Nat) (a_tp : Nat → Nat) (u_tp : St) (res : St) (hf : fX10_takeWord n_tp u_tk u_tp = some res) : MX l E yX10_takeWord cX10_takeWord 3 none (rmm 1 20) [wTokens E a_tk (a_tp 0) u_tk, wBArr E n_tp a_tp u_tp] (fun q => [wTokens E a_tk (a_tp 0) res, wBArr E n_tp a_tp u_tp]) [.ref (a_tk 0)] none := by
  unfold fX10_takeWord at hf
  refine MX.ofV rfl (by decide) (Nat.le_of_ble_eq_true rfl) ?_
  intro p e R s m args below meth c ls Q ad H hRf hRl C hB hD hK hN hl hQ
  generalize hlocs : ([] : List Loc) = locs at hB ⊢
  clear hlocs
  have hx := C.1
  have hb := C.2.1
  have hl : lv_has ls 3 [(0, .ref (a_tk 0))] := hl
  refine lv_iconst (v := 0) hx hb dX10_takeWord_0 (by decide) ?_
  refine lv_istore_n (lv' := [(1, .int (0 : Int32)), (0, .ref (a_tk 0))]) hx hb dX10_takeWord_1 rfl hl (by decide) rfl (fun ls hl => ?_)
  obtain ⟨X1, hX1, hf⟩ := ox_bind hf
  have hexit1 : ∀ y13, y13 = X1 → ∀ (ls : Array Slot) (H : Heap) (locs : List Loc), lv_has ls 3 [(0, .ref (a_tk 0)), (1, .int y13.1)] → WB E ad s.heap [wTokens E a_tk (a_tp 0) y13.2, wBArr E n_tp a_tp u_tp] H locs → W p l e R s m args below meth c H locs 0 0 Q (F0 m 76 ls []) := by
    intro y13 hy ls H locs hl hB
    subst hy
    refine lv_aload_n hx hb dX10_takeWord_76 rfl (lv_at hl 0 rfl) ?_
    refine lv_iload_n hx hb dX10_takeWord_77 rfl (lv_at hl 1 rfl) ?_
    refine lv_topi (fun x14 ex14 => ?_)
    have hf := ox_lt ex14 hf
    refine pf_X10_X10_value C hK hB hD 0 rfl dX10_takeWord_78 (fun H locs u15 eu15 hB => ?_)
    have hf := ox_lt eu15 hf
    have hB : WB E ad s.heap [wTokens E a_tk (a_tp 0) u15, wBArr E n_tp a_tp u_tp] H locs := hB
    refine lv_aload_n hx hb dX10_takeWord_81 rfl (lv_at hl 0 rfl) ?_
    refine lv_aload_n hx hb dX10_takeWord_82 rfl (lv_at hl 0 rfl) ?_
    refine gf_X10_X10_at C hK (hB.1 0 _ rfl) dX10_takeWord_83 ?_
    refine lv_aload_n hx hb dX10_takeWord_86 rfl (lv_at hl 0 rfl) ?_
    refine gf_X10_X10_place C hK (hB.1 0 _ rfl) dX10_takeWord_87 ?_
    refine lv_isub hx hb dX10_takeWord_90 ?_
    refine lv_bipush (v := 6) hx hb dX10_takeWord_91 (by decide) ?_
    obtain ⟨x16, ex16, hf⟩ := ox_ex hf
    have hjx16 : W p l e R s m args below meth c H locs 0 0 Q (F0 m 102 ls [.int x16, .ref (a_tk 0)]) := by
      refine pf_X10_X10_kind C hK hB hD 0 rfl dX10_takeWord_102 (fun H locs u17 eu17 hB => ?_)
      have hf := ox_lt eu17 hf
      have hB : WB E ad s.heap [wTokens E a_tk (a_tp 0) u17, wBArr E n_tp a_tp u_tp] H locs := hB
      refine lv_iconst (v := 0) hx hb dX10_takeWord_105 (by decide) ?_
      refine lv_istore_n (lv' := [(2, .int (0 : Int32)), (0, .ref (a_tk 0)), (1, .int y13.1)]) hx hb dX10_takeWord_106 rfl hl (by decide) rfl (fun ls hl => ?_)
      obtain ⟨X2, hX2, hf⟩ := ox_bind hf
      have hexit2 : ∀ y29, y29 = X2 → ∀ (ls : Array Slot) (H : Heap) (locs : List Loc), lv_has ls 3 [] → WB E ad s.heap [wTokens E a_tk (a_tp 0) y29, wBArr E n_tp a_tp u_tp] H locs → W p l e R s m args below meth c H locs 0 0 Q (F0 m 147 ls []) := by
        intro y29 hy ls H locs hl hB
        subst hy
        have hf := Option.some.inj hf
        subst hf
        exact hQ _ _ H locs (fun _ => 0) hB dX10_takeWord_147
      have hloop2 : ∀ (nf : Nat) (x18 : Int32) (u19 : St) (ls : Array Slot) (H : Heap) (locs : List Loc), lv_has ls 3 [(0, .ref (a_tk 0)), (1, .int y13.1), (2, .int x18)] → WB E ad s.heap [wTokens E a_tk (a_tp 0) u19, wBArr E n_tp a_tp u_tp] H locs → fX10_takeWord_L2 y13 nf x18 u19 = some X2 → W p l e R s m args below meth c H locs 0 0 Q (F0 m 107 ls []) := by
        intro nf
        induction nf with
        | zero =>
          intro x18 u19 ls H locs hl hB hf
          simp [fX10_takeWord_L2] at hf
        | succ nf ih =>
          intro x18 u19 ls H locs hl hB hf
          rw [fX10_takeWord_L2] at hf
          refine lv_iload_n hx hb dX10_takeWord_107 rfl (lv_at hl 2 rfl) ?_
          refine lv_bipush (v := 20) hx hb dX10_takeWord_108 (by decide) ?_
          refine lv_icmp_ge (tgt := 147) hx hb dX10_takeWord_110 (by decide) (fun c20 => ?_) (fun c20 => ?_)
          · have hf := (if_pos c20).symm.trans hf
            exact hexit2 _ (Option.some.inj hf) ls H locs (lv_sub hl [] rfl) hB
          · have hf := (if_neg c20).symm.trans hf
            refine lv_aload_n hx hb dX10_takeWord_113 rfl (lv_at hl 0 rfl) ?_
            refine gf_X10_X10_kind C hK (hB.1 0 _ rfl) dX10_takeWord_114 ?_
            refine lv_iconst (v := 3) hx hb dX10_takeWord_117 (by decide) ?_
            refine lv_icmp_ne (tgt := 147) hx hb dX10_takeWord_118 (by decide) (fun c21 => ?_) (fun c21 => ?_)
            · have hf := (if_neg c21).symm.trans hf
              exact hexit2 _ (Option.some.inj hf) ls H locs (lv_sub hl [] rfl) hB
            · have hf := (if_pos c21).symm.trans hf
              refine lv_aload_n hx hb dX10_takeWord_121 rfl (lv_at hl 0 rfl) ?_
              refine gf_X10_X10_words C hK (hB.1 0 _ rfl) dX10_takeWord_122 ?_
              refine lv_iload_n hx hb dX10_takeWord_125 rfl (lv_at hl 2 rfl) ?_
              obtain ⟨hn22, hf⟩ := ox_chk hf
              refine ld_X10_words C hK (hB.1 0 _ rfl) hn22 rfl dX10_takeWord_126 ?_
              refine lv_iload_n hx hb dX10_takeWord_127 rfl (lv_at hl 1 rfl) ?_
              obtain ⟨j24, ej24, hf⟩ := ox_ex hf
              have hj24 : ∀ (u23 : St) (ls : Array Slot) (H : Heap) (locs : List Loc), lv_has ls 3 [(0, .ref (a_tk 0)), (1, .int y13.1), (2, .int x18)] → WB E ad s.heap [wTokens E a_tk (a_tp 0) u23, wBArr E n_tp a_tp u_tp] H locs → j24 u23 = some X2 → W p l e R s m args below meth c H locs 0 0 Q (F0 m 141 ls []) := by
                intro u23 ls H locs hl hB hf
                have hf := ox_a1 ej24 hf
                obtain ⟨x25, ex25⟩ : ∃ z : Int32, z = (x18 + 1) := ⟨_, rfl⟩
                have hf := ox_lt ex25 hf
                refine lv_iinc (v := x25) (lv' := [(2, .int x25), (0, .ref (a_tk 0)), (1, .int y13.1)]) hx hb dX10_takeWord_141 hl (k := 2) rfl (by rw [ex25]; rfl) (by decide) rfl (fun ls hl => ?_)
                refine lv_goto (tgt := 107) hx hb dX10_takeWord_144 (by decide) ?_
                exact ih _ _ ls H locs (lv_sub hl [1, 2, 0] rfl) hB hf
              refine lv_icmp_ne (tgt := 141) hx hb dX10_takeWord_128 (by decide) (fun c26 => ?_) (fun c26 => ?_)
              · have hf := (if_neg c26).symm.trans hf
                exact hj24 _ ls H locs (lv_sub hl [0, 1, 2] rfl) hB hf
              · have hf := (if_pos c26).symm.trans hf
                refine lv_aload_n hx hb dX10_takeWord_131 rfl (lv_at hl 0 rfl) ?_
                refine lv_iconst (v := 2) hx hb dX10_takeWord_132 (by decide) ?_
                refine pf_X10_X10_kind C hK hB hD 0 rfl dX10_takeWord_133 (fun H locs u27 eu27 hB => ?_)
                have hf := ox_lt eu27 hf
                have hB : WB E ad s.heap [wTokens E a_tk (a_tp 0) u27, wBArr E n_tp a_tp u_tp] H locs := hB
                refine lv_aload_n hx hb dX10_takeWord_136 rfl (lv_at hl 0 rfl) ?_
                refine lv_iload_n hx hb dX10_takeWord_137 rfl (lv_at hl 2 rfl) ?_
                refine pf_X10_X10_value C hK hB hD 0 rfl dX10_takeWord_138 (fun H locs u28 eu28 hB => ?_)
                have hf := ox_lt eu28 hf
                have hB : WB E ad s.heap [wTokens E a_tk (a_tp 0) u28, wBArr E n_tp a_tp u_tp] H locs := hB
                exact hj24 _ ls H locs (lv_sub hl [0, 1, 2] rfl) hB hf
      exact hloop2 fuel _ _ ls H locs (lv_sub hl [1, 2, 0] rfl) hB hX2
    refine lv_icmp_le (tgt := 101) hx hb dX10_takeWord_93 (by decide) (fun c31 => ?_) (fun c31 => ?_)
    · refine lv_iconst (v := 3) hx hb dX10_takeWord_101 (by decide) ?_
      exact ox_topi ((ex16).trans (if_pos c31)).symm hjx16
    · refine lv_bipush (v := 8) hx hb dX10_takeWord_96 (by decide) ?_
      refine lv_goto (tgt := 102) hx hb dX10_takeWord_98 (by decide) ?_
      exact ox_topi ((ex16).trans (if_neg c31)).symm hjx16
  have hloop1 : ∀ (nf : Nat) (x1 : Int32) (u2 : St) (ls : Array Slot) (H : Heap) (locs : List Loc), lv_has ls 3 [(0, .ref (a_tk 0)), (1, .int x1)] → WB E ad s.heap [wTokens E a_tk (a_tp 0) u2, wBArr E n_tp a_tp u_tp] H locs → fX10_takeWord_L1 u_tp n_tp nf x1 u2 = some X1 → W p l e R s m args below meth c H locs 0 0 Q (F0 m 2 ls []) := by
    intro nf
    induction nf with
    | zero =>
      intro x1 u2 ls H locs hl hB hf
      simp [fX10_takeWord_L1] at hf
    | succ nf ih =>
      intro x1 u2 ls H locs hl hB hf
      rw [fX10_takeWord_L1] at hf
      refine lv_aload_n hx hb dX10_takeWord_2 rfl (lv_at hl 0 rfl) ?_
      refine gf_X10_X10_at C hK (hB.1 0 _ rfl) dX10_takeWord_3 ?_
      refine lv_aload_n hx hb dX10_takeWord_6 rfl (lv_at hl 0 rfl) ?_
      refine gf_X10_X10_limit C hK (hB.1 0 _ rfl) dX10_takeWord_7 ?_
      refine lv_icmp_ge (tgt := 76) hx hb dX10_takeWord_10 (by decide) (fun c3 => ?_) (fun c3 => ?_)
      · have hf := (if_pos c3).symm.trans hf
        exact hexit1 _ (Option.some.inj hf) ls H locs (lv_sub hl [0, 1] rfl) hB
      · have hf := (if_neg c3).symm.trans hf
        refine lv_aload_n hx hb dX10_takeWord_13 rfl (lv_at hl 0 rfl) ?_
        obtain ⟨r4, hr4, hf⟩ := ox_bind hf
        refine cxVP (As := []) (rest := []) (st1 := [.int r4]) C hK (tX10_peek l E a_tk u2 n_tp a_tp u_tp r4 hr4) lk_X10_56 ⟨rfl, rfl⟩ (by rw [hRf, hRl]; decide) ⟨Nat.zero_le _, Nat.zero_le _⟩ (PB.sub hB.1 [0, 1] rfl) (hB.old hD hN) (Nat.le_trans hN hB.2.2.1) (rc_X10 hK (hB.1 0 _ rfl)) rfl hl.1 rfl rfl (Nat.le_of_ble_eq_true rfl) dX10_takeWord_14 ?_
        refine cxSP (As := [.int r4]) (rest := []) (st1 := [.int (fX10_isLetter r4)]) C hK (tX10_isLetter l E r4 (fX10_isLetter r4) rfl) lk_X10_66 ⟨rfl, rfl⟩ (by rw [hRf, hRl]; decide) ⟨Nat.zero_le _, Nat.zero_le _⟩ (PB.sub hB.1 [] rfl) (hB.old hD hN) (Nat.le_trans hN hB.2.2.1) rfl hl.1 rfl rfl (Nat.le_of_ble_eq_true rfl) dX10_takeWord_17 ?_
        refine lv_if_eq (tgt := 76) hx hb dX10_takeWord_20 (by decide) (fun c5 => ?_) (fun c5 => ?_)
        · have hf := (if_pos c5).symm.trans hf
          exact hexit1 _ (Option.some.inj hf) ls H locs (lv_sub hl [0, 1] rfl) hB
        · have hf := (if_neg c5).symm.trans hf
          refine lv_aload_n hx hb dX10_takeWord_23 rfl (lv_at hl 0 rfl) ?_
          refine gf_X10_X10_at C hK (hB.1 0 _ rfl) dX10_takeWord_24 ?_
          refine lv_aload_n hx hb dX10_takeWord_27 rfl (lv_at hl 0 rfl) ?_
          refine gf_X10_X10_place C hK (hB.1 0 _ rfl) dX10_takeWord_28 ?_
          refine lv_isub hx hb dX10_takeWord_31 ?_
          refine lv_bipush (v := 6) hx hb dX10_takeWord_32 (by decide) ?_
          obtain ⟨j7, ej7, hf⟩ := ox_ex hf
          have hj7 : ∀ (x6 : Int32) (ls : Array Slot) (H : Heap) (locs : List Loc), lv_has ls 3 [(0, .ref (a_tk 0)), (1, .int x6)] → WB E ad s.heap [wTokens E a_tk (a_tp 0) u2, wBArr E n_tp a_tp u_tp] H locs → j7 x6 = some X1 → W p l e R s m args below meth c H locs 0 0 Q (F0 m 63 ls []) := by
            intro x6 ls H locs hl hB hf
            have hf := ox_a1 ej7 hf
            refine lv_aload_n hx hb dX10_takeWord_63 rfl (lv_at hl 0 rfl) ?_
            refine lv_dup hx hb dX10_takeWord_64 rfl ?_
            refine gf_X10_X10_at C hK (hB.1 0 _ rfl) dX10_takeWord_65 ?_
            refine lv_iconst (v := 1) hx hb dX10_takeWord_68 (by decide) ?_
            refine lv_iadd hx hb dX10_takeWord_69 ?_
            refine lv_topi (fun x8 ex8 => ?_)
            have hf := ox_lt ex8 hf
            refine pf_X10_X10_at C hK hB hD 0 rfl dX10_takeWord_70 (fun H locs u9 eu9 hB => ?_)
            have hf := ox_lt eu9 hf
            have hB : WB E ad s.heap [wTokens E a_tk (a_tp 0) u9, wBArr E n_tp a_tp u_tp] H locs := hB
            refine lv_goto (tgt := 2) hx hb dX10_takeWord_73 (by decide) ?_
            exact ih _ _ ls H locs (lv_sub hl [0, 1] rfl) hB hf
          refine lv_icmp_ge (tgt := 63) hx hb dX10_takeWord_34 (by decide) (fun c10 => ?_) (fun c10 => ?_)
          · have hf := (if_pos c10).symm.trans hf
            exact hj7 _ ls H locs (lv_sub hl [0, 1] rfl) hB hf
          · have hf := (if_neg c10).symm.trans hf
            refine lv_iload_n hx hb dX10_takeWord_37 rfl (lv_at hl 1 rfl) ?_
            refine lv_aload_n hx hb dX10_takeWord_38 rfl (lv_at hl 0 rfl) ?_
            obtain ⟨r11, hr11, hf⟩ := ox_bind hf
            refine cxVP (As := []) (rest := [.int x1]) (st1 := [.int r11, .int x1]) C hK (tX10_peek l E a_tk u2 n_tp a_tp u_tp r11 hr11) lk_X10_56 ⟨rfl, rfl⟩ (by rw [hRf, hRl]; decide) ⟨Nat.zero_le _, Nat.zero_le _⟩ (PB.sub hB.1 [0, 1] rfl) (hB.old hD hN) (Nat.le_trans hN hB.2.2.1) (rc_X10 hK (hB.1 0 _ rfl)) rfl hl.1 rfl rfl (Nat.le_of_ble_eq_true rfl) dX10_takeWord_39 ?_
            refine lv_bipush (v := 97) hx hb dX10_takeWord_42 (by decide) ?_
            refine lv_isub hx hb dX10_takeWord_44 ?_
            refine lv_iconst (v := 1) hx hb dX10_takeWord_45 (by decide) ?_
            refine lv_iadd hx hb dX10_takeWord_46 ?_
            refine lv_iconst (v := 5) hx hb dX10_takeWord_47 (by decide) ?_
            refine lv_iconst (v := 5) hx hb dX10_takeWord_48 (by decide) ?_
            refine lv_aload_n hx hb dX10_takeWord_49 rfl (lv_at hl 0 rfl) ?_
            refine gf_X10_X10_at C hK (hB.1 0 _ rfl) dX10_takeWord_50 ?_
            refine lv_aload_n hx hb dX10_takeWord_53 rfl (lv_at hl 0 rfl) ?_
            refine gf_X10_X10_place C hK (hB.1 0 _ rfl) dX10_takeWord_54 ?_
            refine lv_isub hx hb dX10_takeWord_57 ?_
            refine lv_isub hx hb dX10_takeWord_58 ?_
            refine lv_imul hx hb dX10_takeWord_59 ?_
            refine lv_ishl hx hb dX10_takeWord_60 ?_
            refine lv_iadd hx hb dX10_takeWord_61 ?_
            refine lv_topi (fun x12 ex12 => ?_)
            have hf := ox_lt ex12 hf
            refine lv_istore_n (lv' := [(1, .int x12), (0, .ref (a_tk 0))]) hx hb dX10_takeWord_62 rfl hl (by decide) rfl (fun ls hl => ?_)
            exact hj7 _ ls H locs (lv_sub hl [1, 0] rfl) hB hf
  exact hloop1 fuel _ _ ls H locs (lv_sub hl [1, 0] rfl) hB hX1
set_option maxHeartbeats 4000000 in
set_option maxRecDepth 20000 in
theorem tX10_takeNumber (l : Launch) (E : Ev) (a_tk : Nat → Nat) (u_tk : St) (n_tp : Nat) (a_tp : Nat → Nat) (u_tp : St) (res : St) (hf : fX10_takeNumber n_tp u_tk u_tp = some res) : MX l E yX10_takeNumber cX10_takeNumber 1 none (rmm 1 30) [wTokens E a_tk (a_tp 0) u_tk, wBArr E n_tp a_tp u_tp] (fun q => [wTokens E a_tk (a_tp 0) res, wBArr E n_tp a_tp u_tp]) [.ref (a_tk 0)] none := by
  unfold fX10_takeNumber at hf
  refine MX.ofV rfl (by decide) (Nat.le_of_ble_eq_true rfl) ?_
  intro p e R s m args below meth c ls Q ad H hRf hRl C hB hD hK hN hl hQ
  generalize hlocs : ([] : List Loc) = locs at hB ⊢
  clear hlocs
  have hx := C.1
  have hb := C.2.1
  have hl : lv_has ls 1 [(0, .ref (a_tk 0))] := hl
  refine lv_aload_n hx hb dX10_takeNumber_0 rfl (lv_at hl 0 rfl) ?_
  refine lv_iconst (v := 1) hx hb dX10_takeNumber_1 (by decide) ?_
  refine pf_X10_X10_kind C hK hB hD 0 rfl dX10_takeNumber_2 (fun H locs u1 eu1 hB => ?_)
  have hf := ox_lt eu1 hf
  have hB : WB E ad s.heap [wTokens E a_tk (a_tp 0) u1, wBArr E n_tp a_tp u_tp] H locs := hB
  obtain ⟨X1, hX1, hf⟩ := ox_bind hf
  have hexit1 : ∀ y11, y11 = X1 → ∀ (ls : Array Slot) (H : Heap) (locs : List Loc), lv_has ls 1 [] → WB E ad s.heap [wTokens E a_tk (a_tp 0) y11, wBArr E n_tp a_tp u_tp] H locs → W p l e R s m args below meth c H locs 0 0 Q (F0 m 63 ls []) := by
    intro y11 hy ls H locs hl hB
    subst hy
    have hf := Option.some.inj hf
    subst hf
    exact hQ _ _ H locs (fun _ => 0) hB dX10_takeNumber_63
  have hloop1 : ∀ (nf : Nat) (u2 : St) (ls : Array Slot) (H : Heap) (locs : List Loc), lv_has ls 1 [(0, .ref (a_tk 0))] → WB E ad s.heap [wTokens E a_tk (a_tp 0) u2, wBArr E n_tp a_tp u_tp] H locs → fX10_takeNumber_L1 u_tp n_tp nf u2 = some X1 → W p l e R s m args below meth c H locs 0 0 Q (F0 m 5 ls []) := by
    intro nf
    induction nf with
    | zero =>
      intro u2 ls H locs hl hB hf
      simp [fX10_takeNumber_L1] at hf
    | succ nf ih =>
      intro u2 ls H locs hl hB hf
      rw [fX10_takeNumber_L1] at hf
      refine lv_aload_n hx hb dX10_takeNumber_5 rfl (lv_at hl 0 rfl) ?_
      refine gf_X10_X10_at C hK (hB.1 0 _ rfl) dX10_takeNumber_6 ?_
      refine lv_aload_n hx hb dX10_takeNumber_9 rfl (lv_at hl 0 rfl) ?_
      refine gf_X10_X10_limit C hK (hB.1 0 _ rfl) dX10_takeNumber_10 ?_
      refine lv_icmp_ge (tgt := 63) hx hb dX10_takeNumber_13 (by decide) (fun c3 => ?_) (fun c3 => ?_)
      · have hf := (if_pos c3).symm.trans hf
        exact hexit1 _ (Option.some.inj hf) ls H locs (lv_sub hl [] rfl) hB
      · have hf := (if_neg c3).symm.trans hf
        refine lv_aload_n hx hb dX10_takeNumber_16 rfl (lv_at hl 0 rfl) ?_
        obtain ⟨r4, hr4, hf⟩ := ox_bind hf
        refine cxVP (As := []) (rest := []) (st1 := [.int r4]) C hK (tX10_peek l E a_tk u2 n_tp a_tp u_tp r4 hr4) lk_X10_56 ⟨rfl, rfl⟩ (by rw [hRf, hRl]; decide) ⟨Nat.zero_le _, Nat.zero_le _⟩ (PB.sub hB.1 [0, 1] rfl) (hB.old hD hN) (Nat.le_trans hN hB.2.2.1) (rc_X10 hK (hB.1 0 _ rfl)) rfl hl.1 rfl rfl (Nat.le_of_ble_eq_true rfl) dX10_takeNumber_17 ?_
        refine cxSP (As := [.int r4]) (rest := []) (st1 := [.int (fX10_isDigit r4)]) C hK (tX10_isDigit l E r4 (fX10_isDigit r4) rfl) lk_X10_59 ⟨rfl, rfl⟩ (by rw [hRf, hRl]; decide) ⟨Nat.zero_le _, Nat.zero_le _⟩ (PB.sub hB.1 [] rfl) (hB.old hD hN) (Nat.le_trans hN hB.2.2.1) rfl hl.1 rfl rfl (Nat.le_of_ble_eq_true rfl) dX10_takeNumber_20 ?_
        refine lv_if_eq (tgt := 63) hx hb dX10_takeNumber_23 (by decide) (fun c5 => ?_) (fun c5 => ?_)
        · have hf := (if_pos c5).symm.trans hf
          exact hexit1 _ (Option.some.inj hf) ls H locs (lv_sub hl [] rfl) hB
        · have hf := (if_neg c5).symm.trans hf
          refine lv_aload_n hx hb dX10_takeNumber_26 rfl (lv_at hl 0 rfl) ?_
          refine lv_aload_n hx hb dX10_takeNumber_27 rfl (lv_at hl 0 rfl) ?_
          refine gf_X10_X10_value C hK (hB.1 0 _ rfl) dX10_takeNumber_28 ?_
          refine lv_bipush (v := 10) hx hb dX10_takeNumber_31 (by decide) ?_
          refine lv_imul hx hb dX10_takeNumber_33 ?_
          refine lv_aload_n hx hb dX10_takeNumber_34 rfl (lv_at hl 0 rfl) ?_
          obtain ⟨r6, hr6, hf⟩ := ox_bind hf
          refine cxVP (As := []) (rest := [.int ((gI u2 5) * (10 : Int32)), .ref (a_tk 0)]) (st1 := [.int r6, .int ((gI u2 5) * (10 : Int32)), .ref (a_tk 0)]) C hK (tX10_peek l E a_tk u2 n_tp a_tp u_tp r6 hr6) lk_X10_56 ⟨rfl, rfl⟩ (by rw [hRf, hRl]; decide) ⟨Nat.zero_le _, Nat.zero_le _⟩ (PB.sub hB.1 [0, 1] rfl) (hB.old hD hN) (Nat.le_trans hN hB.2.2.1) (rc_X10 hK (hB.1 0 _ rfl)) rfl hl.1 rfl rfl (Nat.le_of_ble_eq_true rfl) dX10_takeNumber_35 ?_
          refine lv_iadd hx hb dX10_takeNumber_38 ?_
          refine lv_bipush (v := 48) hx hb dX10_takeNumber_39 (by decide) ?_
          refine lv_isub hx hb dX10_takeNumber_41 ?_
          refine lv_ldc (v := 1000000) hx hb C.2.2.2.1 (C.2.2.2.2 _ mw_585) dX10_takeNumber_42 ?_
          refine va_mmin hx hb (C.2.2.1.trans hl.1.symm) C.2.2.2.1 (C.2.2.2.2 _ mw_567) (C.2.2.2.2 _ mm_mmin_s) (C.2.2.2.2 _ mm_ini) (C.2.2.2.2 _ mm_mmin_c) (by rw [hRf]; decide) (by rw [hRl]; exact Nat.le_of_ble_eq_true rfl) (Nat.zero_le _) (Nat.zero_le _) dX10_takeNumber_44 ?_
          refine lv_topi (fun x7 ex7 => ?_)
          have hf := ox_lt ex7 hf
          refine pf_X10_X10_value C hK hB hD 0 rfl dX10_takeNumber_47 (fun H locs u8 eu8 hB => ?_)
          have hf := ox_lt eu8 hf
          have hB : WB E ad s.heap [wTokens E a_tk (a_tp 0) u8, wBArr E n_tp a_tp u_tp] H locs := hB
          refine lv_aload_n hx hb dX10_takeNumber_50 rfl (lv_at hl 0 rfl) ?_
          refine lv_dup hx hb dX10_takeNumber_51 rfl ?_
          refine gf_X10_X10_at C hK (hB.1 0 _ rfl) dX10_takeNumber_52 ?_
          refine lv_iconst (v := 1) hx hb dX10_takeNumber_55 (by decide) ?_
          refine lv_iadd hx hb dX10_takeNumber_56 ?_
          refine lv_topi (fun x9 ex9 => ?_)
          have hf := ox_lt ex9 hf
          refine pf_X10_X10_at C hK hB hD 0 rfl dX10_takeNumber_57 (fun H locs u10 eu10 hB => ?_)
          have hf := ox_lt eu10 hf
          have hB : WB E ad s.heap [wTokens E a_tk (a_tp 0) u10, wBArr E n_tp a_tp u_tp] H locs := hB
          refine lv_goto (tgt := 5) hx hb dX10_takeNumber_60 (by decide) ?_
          exact ih _ ls H locs (lv_sub hl [0] rfl) hB hf
  exact hloop1 fuel _ ls H locs (lv_sub hl [0] rfl) hB hX1
set_option maxHeartbeats 4000000 in
set_option maxRecDepth 20000 in
theorem tX10_next (l : Launch) (E : Ev) (a_tk : Nat → Nat) (u_tk : St) (n_tp : Nat) (a_tp : Nat → Nat) (u_tp : St) (res : St) (hf : fX10_next n_tp u_tk u_tp = some res) : MX l E yX10_next cX10_next 2 none (rmm 2 50) [wTokens E a_tk (a_tp 0) u_tk, wBArr E n_tp a_tp u_tp] (fun q => [wTokens E a_tk (a_tp 0) res, wBArr E n_tp a_tp u_tp]) [.ref (a_tk 0)] none := by
  unfold fX10_next at hf
  refine MX.ofV rfl (by decide) (Nat.le_of_ble_eq_true rfl) ?_
  intro p e R s m args below meth c ls Q ad H hRf hRl C hB hD hK hN hl hQ
  generalize hlocs : ([] : List Loc) = locs at hB ⊢
  clear hlocs
  have hx := C.1
  have hb := C.2.1
  have hl : lv_has ls 2 [(0, .ref (a_tk 0))] := hl
  obtain ⟨X1, hX1, hf⟩ := ox_bind hf
  have hexit1 : ∀ y10, y10 = X1 → ∀ (ls : Array Slot) (H : Heap) (locs : List Loc), lv_has ls 2 [(0, .ref (a_tk 0))] → WB E ad s.heap [wTokens E a_tk (a_tp 0) y10, wBArr E n_tp a_tp u_tp] H locs → W p l e R s m args below meth c H locs 0 0 Q (F0 m 42 ls []) := by
    intro y10 hy ls H locs hl hB
    subst hy
    refine lv_aload_n hx hb dX10_next_42 rfl (lv_at hl 0 rfl) ?_
    refine lv_aload_n hx hb dX10_next_43 rfl (lv_at hl 0 rfl) ?_
    refine gf_X10_X10_at C hK (hB.1 0 _ rfl) dX10_next_44 ?_
    refine lv_topi (fun x11 ex11 => ?_)
    have hf := ox_lt ex11 hf
    refine pf_X10_X10_place C hK hB hD 0 rfl dX10_next_47 (fun H locs u12 eu12 hB => ?_)
    have hf := ox_lt eu12 hf
    have hB : WB E ad s.heap [wTokens E a_tk (a_tp 0) u12, wBArr E n_tp a_tp u_tp] H locs := hB
    refine lv_aload_n hx hb dX10_next_50 rfl (lv_at hl 0 rfl) ?_
    refine lv_iconst (v := 0) hx hb dX10_next_51 (by decide) ?_
    refine pf_X10_X10_value C hK hB hD 0 rfl dX10_next_52 (fun H locs u13 eu13 hB => ?_)
    have hf := ox_lt eu13 hf
    have hB : WB E ad s.heap [wTokens E a_tk (a_tp 0) u13, wBArr E n_tp a_tp u_tp] H locs := hB
    refine lv_aload_n hx hb dX10_next_55 rfl (lv_at hl 0 rfl) ?_
    obtain ⟨r14, hr14, hf⟩ := ox_bind hf
    refine cxVP (As := []) (rest := []) (st1 := [.int r14]) C hK (tX10_peek l E a_tk u13 n_tp a_tp u_tp r14 hr14) lk_X10_56 ⟨rfl, rfl⟩ (by rw [hRf, hRl]; decide) ⟨Nat.zero_le _, Nat.zero_le _⟩ (PB.sub hB.1 [0, 1] rfl) (hB.old hD hN) (Nat.le_trans hN hB.2.2.1) (rc_X10 hK (hB.1 0 _ rfl)) rfl hl.1 rfl rfl (Nat.le_of_ble_eq_true rfl) dX10_next_56 ?_
    refine lv_istore_n (lv' := [(1, .int r14), (0, .ref (a_tk 0))]) hx hb dX10_next_59 rfl hl (by decide) rfl (fun ls hl => ?_)
    refine lv_iload_n hx hb dX10_next_60 rfl (lv_at hl 0 rfl) ?_
    refine lv_iconst (v := (-1)) hx hb dX10_next_61 (by decide) ?_
    refine lv_icmp_ne (tgt := 73) hx hb dX10_next_62 (by decide) (fun c15 => ?_) (fun c15 => ?_)
    · have hf := (if_neg c15).symm.trans hf
      refine lv_iload_n hx hb dX10_next_73 rfl (lv_at hl 0 rfl) ?_
      refine cxSP (As := [.int r14]) (rest := []) (st1 := [.int (fX10_isDigit r14)]) C hK (tX10_isDigit l E r14 (fX10_isDigit r14) rfl) lk_X10_59 ⟨rfl, rfl⟩ (by rw [hRf, hRl]; decide) ⟨Nat.zero_le _, Nat.zero_le _⟩ (PB.sub hB.1 [] rfl) (hB.old hD hN) (Nat.le_trans hN hB.2.2.1) rfl hl.1 rfl rfl (Nat.le_of_ble_eq_true rfl) dX10_next_74 ?_
      refine lv_if_eq (tgt := 87) hx hb dX10_next_77 (by decide) (fun c16 => ?_) (fun c16 => ?_)
      · have hf := (if_pos c16).symm.trans hf
        refine lv_iload_n hx hb dX10_next_87 rfl (lv_at hl 0 rfl) ?_
        refine cxSP (As := [.int r14]) (rest := []) (st1 := [.int (fX10_isLetter r14)]) C hK (tX10_isLetter l E r14 (fX10_isLetter r14) rfl) lk_X10_66 ⟨rfl, rfl⟩ (by rw [hRf, hRl]; decide) ⟨Nat.zero_le _, Nat.zero_le _⟩ (PB.sub hB.1 [] rfl) (hB.old hD hN) (Nat.le_trans hN hB.2.2.1) rfl hl.1 rfl rfl (Nat.le_of_ble_eq_true rfl) dX10_next_88 ?_
        refine lv_if_eq (tgt := 101) hx hb dX10_next_91 (by decide) (fun c17 => ?_) (fun c17 => ?_)
        · have hf := (if_pos c17).symm.trans hf
          refine lv_aload_n hx hb dX10_next_101 rfl (lv_at hl 1 rfl) ?_
          refine lv_dup hx hb dX10_next_102 rfl ?_
          refine gf_X10_X10_at C hK (hB.1 0 _ rfl) dX10_next_103 ?_
          refine lv_iconst (v := 1) hx hb dX10_next_106 (by decide) ?_
          refine lv_iadd hx hb dX10_next_107 ?_
          refine lv_topi (fun x18 ex18 => ?_)
          have hf := ox_lt ex18 hf
          refine pf_X10_X10_at C hK hB hD 0 rfl dX10_next_108 (fun H locs u19 eu19 hB => ?_)
          have hf := ox_lt eu19 hf
          have hB : WB E ad s.heap [wTokens E a_tk (a_tp 0) u19, wBArr E n_tp a_tp u_tp] H locs := hB
          refine lv_aload_n hx hb dX10_next_111 rfl (lv_at hl 1 rfl) ?_
          refine lv_iload_n hx hb dX10_next_112 rfl (lv_at hl 0 rfl) ?_
          refine lv_aload_n hx hb dX10_next_113 rfl (lv_at hl 1 rfl) ?_
          obtain ⟨r20, hr20, hf⟩ := ox_bind hf
          refine cxVP (As := []) (rest := [.int r14, .ref (a_tk 0)]) (st1 := [.int r20, .int r14, .ref (a_tk 0)]) C hK (tX10_peek l E a_tk u19 n_tp a_tp u_tp r20 hr20) lk_X10_56 ⟨rfl, rfl⟩ (by rw [hRf, hRl]; decide) ⟨Nat.zero_le _, Nat.zero_le _⟩ (PB.sub hB.1 [0, 1] rfl) (hB.old hD hN) (Nat.le_trans hN hB.2.2.1) (rc_X10 hK (hB.1 0 _ rfl)) rfl hl.1 rfl rfl (Nat.le_of_ble_eq_true rfl) dX10_next_114 ?_
          obtain ⟨r21, er21, hf⟩ := ox_ex hf
          refine cxVX (bs1 := (fun q => [wTokens E a_tk (a_tp 0) r21, wBArr E n_tp a_tp u_tp])) (As := [.int r14, .int r20]) (rest := []) (st1 := []) C hK (tX10_takeSign l E a_tk (a_tp 0) u19 r14 r20 r21 er21.symm) lk_X10_72 (by rw [hRf, hRl]; decide) ⟨Nat.zero_le _, Nat.zero_le _⟩ hB hD hN [0] (by decide) rfl (fun _ => rfl) (fun _ => rfl) (rc_X10 hK (hB.1 0 _ rfl)) rfl hl.1 rfl rfl (Nat.le_of_ble_eq_true rfl) dX10_next_117 (fun H locs q22 hB => ?_)
          have hB : WB E ad s.heap [wTokens E a_tk (a_tp 0) r21, wBArr E n_tp a_tp u_tp] H locs := hB
          have hf := Option.some.inj hf
          subst hf
          exact hQ _ _ H locs (fun _ => 0) hB dX10_next_120
        · have hf := (if_neg c17).symm.trans hf
          refine lv_aload_n hx hb dX10_next_94 rfl (lv_at hl 1 rfl) ?_
          obtain ⟨r23, hr23, hf⟩ := ox_bind hf
          refine cxVX (bs1 := (fun q => [wTokens E a_tk (a_tp 0) r23, wBArr E n_tp a_tp u_tp])) (As := []) (rest := []) (st1 := []) C hK (tX10_takeWord l E a_tk u13 n_tp a_tp u_tp r23 hr23) lk_X10_69 (by rw [hRf, hRl]; decide) ⟨Nat.zero_le _, Nat.zero_le _⟩ hB hD hN [0, 1] (by decide) rfl (fun _ => rfl) (fun _ => rfl) (rc_X10 hK (hB.1 0 _ rfl)) rfl hl.1 rfl rfl (Nat.le_of_ble_eq_true rfl) dX10_next_95 (fun H locs q24 hB => ?_)
          have hB : WB E ad s.heap [wTokens E a_tk (a_tp 0) r23, wBArr E n_tp a_tp u_tp] H locs := hB
          refine lv_goto (tgt := 120) hx hb dX10_next_98 (by decide) ?_
          have hf := Option.some.inj hf
          subst hf
          exact hQ _ _ H locs (fun _ => 0) hB dX10_next_120
      · have hf := (if_neg c16).symm.trans hf
        refine lv_aload_n hx hb dX10_next_80 rfl (lv_at hl 1 rfl) ?_
        obtain ⟨r25, hr25, hf⟩ := ox_bind hf
        refine cxVX (bs1 := (fun q => [wTokens E a_tk (a_tp 0) r25, wBArr E n_tp a_tp u_tp])) (As := []) (rest := []) (st1 := []) C hK (tX10_takeNumber l E a_tk u13 n_tp a_tp u_tp r25 hr25) lk_X10_63 (by rw [hRf, hRl]; decide) ⟨Nat.zero_le _, Nat.zero_le _⟩ hB hD hN [0, 1] (by decide) rfl (fun _ => rfl) (fun _ => rfl) (rc_X10 hK (hB.1 0 _ rfl)) rfl hl.1 rfl rfl (Nat.le_of_ble_eq_true rfl) dX10_next_81 (fun H locs q26 hB => ?_)
        have hB : WB E ad s.heap [wTokens E a_tk (a_tp 0) r25, wBArr E n_tp a_tp u_tp] H locs := hB
        refine lv_goto (tgt := 120) hx hb dX10_next_84 (by decide) ?_
        have hf := Option.some.inj hf
        subst hf
        exact hQ _ _ H locs (fun _ => 0) hB dX10_next_120
    · have hf := (if_pos c15).symm.trans hf
      refine lv_aload_n hx hb dX10_next_65 rfl (lv_at hl 1 rfl) ?_
      refine lv_iconst (v := 0) hx hb dX10_next_66 (by decide) ?_
      refine pf_X10_X10_kind C hK hB hD 0 rfl dX10_next_67 (fun H locs u27 eu27 hB => ?_)
      have hf := ox_lt eu27 hf
      have hB : WB E ad s.heap [wTokens E a_tk (a_tp 0) u27, wBArr E n_tp a_tp u_tp] H locs := hB
      refine lv_goto (tgt := 120) hx hb dX10_next_70 (by decide) ?_
      have hf := Option.some.inj hf
      subst hf
      exact hQ _ _ H locs (fun _ => 0) hB dX10_next_120
  have hloop1 : ∀ (nf : Nat) (u1 : St) (ls : Array Slot) (H : Heap) (locs : List Loc), lv_has ls 2 [(0, .ref (a_tk 0))] → WB E ad s.heap [wTokens E a_tk (a_tp 0) u1, wBArr E n_tp a_tp u_tp] H locs → fX10_next_L1 u_tp n_tp nf u1 = some X1 → W p l e R s m args below meth c H locs 0 0 Q (F0 m 0 ls []) := by
    intro nf
    induction nf with
    | zero =>
      intro u1 ls H locs hl hB hf
      simp [fX10_next_L1] at hf
    | succ nf ih =>
      intro u1 ls H locs hl hB hf
      rw [fX10_next_L1] at hf
      refine lv_aload_n hx hb dX10_next_0 rfl (lv_at hl 0 rfl) ?_
      refine gf_X10_X10_at C hK (hB.1 0 _ rfl) dX10_next_1 ?_
      refine lv_aload_n hx hb dX10_next_4 rfl (lv_at hl 0 rfl) ?_
      refine gf_X10_X10_limit C hK (hB.1 0 _ rfl) dX10_next_5 ?_
      refine lv_icmp_ge (tgt := 42) hx hb dX10_next_8 (by decide) (fun c2 => ?_) (fun c2 => ?_)
      · have hf := (if_pos c2).symm.trans hf
        exact hexit1 _ (Option.some.inj hf) ls H locs (lv_sub hl [0] rfl) hB
      · have hf := (if_neg c2).symm.trans hf
        refine lv_aload_n hx hb dX10_next_11 rfl (lv_at hl 0 rfl) ?_
        obtain ⟨r3, hr3, hf⟩ := ox_bind hf
        refine cxVP (As := []) (rest := []) (st1 := [.int r3]) C hK (tX10_peek l E a_tk u1 n_tp a_tp u_tp r3 hr3) lk_X10_56 ⟨rfl, rfl⟩ (by rw [hRf, hRl]; decide) ⟨Nat.zero_le _, Nat.zero_le _⟩ (PB.sub hB.1 [0, 1] rfl) (hB.old hD hN) (Nat.le_trans hN hB.2.2.1) (rc_X10 hK (hB.1 0 _ rfl)) rfl hl.1 rfl rfl (Nat.le_of_ble_eq_true rfl) dX10_next_12 ?_
        refine lv_bipush (v := 10) hx hb dX10_next_15 (by decide) ?_
        obtain ⟨j4, ej4, hf⟩ := ox_ex hf
        have hj4 : ∀ (ls : Array Slot) (H : Heap) (locs : List Loc), lv_has ls 2 [(0, .ref (a_tk 0))] → WB E ad s.heap [wTokens E a_tk (a_tp 0) u1, wBArr E n_tp a_tp u_tp] H locs → j4 = some X1 → W p l e R s m args below meth c H locs 0 0 Q (F0 m 29 ls []) := by
          intro ls H locs hl hB hf
          have hf := ox_a0 ej4 hf
          refine lv_aload_n hx hb dX10_next_29 rfl (lv_at hl 0 rfl) ?_
          refine lv_dup hx hb dX10_next_30 rfl ?_
          refine gf_X10_X10_at C hK (hB.1 0 _ rfl) dX10_next_31 ?_
          refine lv_iconst (v := 1) hx hb dX10_next_34 (by decide) ?_
          refine lv_iadd hx hb dX10_next_35 ?_
          refine lv_topi (fun x5 ex5 => ?_)
          have hf := ox_lt ex5 hf
          refine pf_X10_X10_at C hK hB hD 0 rfl dX10_next_36 (fun H locs u6 eu6 hB => ?_)
          have hf := ox_lt eu6 hf
          have hB : WB E ad s.heap [wTokens E a_tk (a_tp 0) u6, wBArr E n_tp a_tp u_tp] H locs := hB
          refine lv_goto (tgt := 0) hx hb dX10_next_39 (by decide) ?_
          exact ih _ ls H locs (lv_sub hl [0] rfl) hB hf
        refine lv_icmp_eq (tgt := 29) hx hb dX10_next_17 (by decide) (fun c7 => ?_) (fun c7 => ?_)
        · have hf := (if_pos c7).symm.trans hf
          exact hj4 ls H locs (lv_sub hl [0] rfl) hB hf
        · have hf := (if_neg c7).symm.trans hf
          refine lv_aload_n hx hb dX10_next_20 rfl (lv_at hl 0 rfl) ?_
          obtain ⟨r8, hr8, hf⟩ := ox_bind hf
          refine cxVP (As := []) (rest := []) (st1 := [.int r8]) C hK (tX10_peek l E a_tk u1 n_tp a_tp u_tp r8 hr8) lk_X10_56 ⟨rfl, rfl⟩ (by rw [hRf, hRl]; decide) ⟨Nat.zero_le _, Nat.zero_le _⟩ (PB.sub hB.1 [0, 1] rfl) (hB.old hD hN) (Nat.le_trans hN hB.2.2.1) (rc_X10 hK (hB.1 0 _ rfl)) rfl hl.1 rfl rfl (Nat.le_of_ble_eq_true rfl) dX10_next_21 ?_
          refine lv_bipush (v := 32) hx hb dX10_next_24 (by decide) ?_
          refine lv_icmp_ne (tgt := 42) hx hb dX10_next_26 (by decide) (fun c9 => ?_) (fun c9 => ?_)
          · have hf := (if_neg c9).symm.trans hf
            exact hexit1 _ (Option.some.inj hf) ls H locs (lv_sub hl [0] rfl) hB
          · have hf := (if_pos c9).symm.trans hf
            exact hj4 ls H locs (lv_sub hl [0] rfl) hB hf
  exact hloop1 fuel _ ls H locs (lv_sub hl [0] rfl) hB hX1
set_option maxHeartbeats 4000000 in
set_option maxRecDepth 20000 in
theorem tX5_jointOf (l : Launch) (E : Ev) (a_tk : Nat → Nat) (q_tk_0_bytes : Nat) (u_tk : St) (res : Int32) (hf : fX5_jointOf u_tk = res) : MP l E yX5_jointOf cX5_jointOf 1 (some .int) (rmm 0 0) [wTokens E a_tk q_tk_0_bytes u_tk] [.ref (a_tk 0)] (some (.int res)) := by
  unfold fX5_jointOf at hf
  refine MP.ofI rfl (by decide) (Nat.le_of_ble_eq_true rfl) ?_
  intro p e R s m args below meth c ls Q hRf hRl C hP hK hN hl hQ
  have hx := C.1
  have hb := C.2.1
  have hl : lv_has ls 1 [(0, .ref (a_tk 0))] := hl
  refine lv_aload_n hx hb dX5_jointOf_0 rfl (lv_at hl 0 rfl) ?_
  refine gf_X5_X10_kind C hK (hP 0 _ rfl) dX5_jointOf_1 ?_
  refine lv_iconst (v := 4) hx hb dX5_jointOf_4 (by decide) ?_
  refine lv_icmp_ne (tgt := 13) hx hb dX5_jointOf_5 (by decide) (fun c1 => ?_) (fun c1 => ?_)
  · have hf := (if_neg c1).symm.trans hf
    refine lv_aload_n hx hb dX5_jointOf_13 rfl (lv_at hl 0 rfl) ?_
    refine gf_X5_X10_kind C hK (hP 0 _ rfl) dX5_jointOf_14 ?_
    refine lv_iconst (v := 2) hx hb dX5_jointOf_17 (by decide) ?_
    obtain ⟨j2, ej2, hf⟩ := ox_ex hf
    have hj2 : ∀ (ls : Array Slot), lv_has ls 1 [(0, .ref (a_tk 0))] → j2 = res → W p l e R s m args below meth c s.heap [] 0 0 Q (F0 m 32 ls []) := by
      intro ls hl hf
      have hf := ox_a0 ej2 hf
      refine lv_aload_n hx hb dX5_jointOf_32 rfl (lv_at hl 0 rfl) ?_
      refine gf_X5_X10_kind C hK (hP 0 _ rfl) dX5_jointOf_33 ?_
      refine lv_iconst (v := 2) hx hb dX5_jointOf_36 (by decide) ?_
      obtain ⟨x3, ex3, hf⟩ := ox_ex hf
      have hjx3 : W p l e R s m args below meth c s.heap [] 0 0 Q (F0 m 54 ls [.int x3]) := by
        subst hf
        exact hQ _ _ dX5_jointOf_54
      refine lv_icmp_ne (tgt := 53) hx hb dX5_jointOf_37 (by decide) (fun c4 => ?_) (fun c4 => ?_)
      · refine lv_iconst (v := (-1)) hx hb dX5_jointOf_53 (by decide) ?_
        exact ox_topi ((ex3).trans (if_neg c4)).symm hjx3
      · refine lv_aload_n hx hb dX5_jointOf_40 rfl (lv_at hl 0 rfl) ?_
        refine gf_X5_X10_value C hK (hP 0 _ rfl) dX5_jointOf_41 ?_
        refine lv_bipush (v := 11) hx hb dX5_jointOf_44 (by decide) ?_
        refine lv_icmp_ne (tgt := 53) hx hb dX5_jointOf_46 (by decide) (fun c5 => ?_) (fun c5 => ?_)
        · refine lv_iconst (v := (-1)) hx hb dX5_jointOf_53 (by decide) ?_
          exact ox_topi (((ex3).trans (if_pos c4)).trans (if_neg c5)).symm hjx3
        · refine lv_iconst (v := 4) hx hb dX5_jointOf_49 (by decide) ?_
          refine lv_goto (tgt := 54) hx hb dX5_jointOf_50 (by decide) ?_
          exact ox_topi (((ex3).trans (if_pos c4)).trans (if_pos c5)).symm hjx3
    refine lv_icmp_ne (tgt := 32) hx hb dX5_jointOf_18 (by decide) (fun c6 => ?_) (fun c6 => ?_)
    · have hf := (if_neg c6).symm.trans hf
      exact hj2 ls (lv_sub hl [0] rfl) hf
    · have hf := (if_pos c6).symm.trans hf
      refine lv_aload_n hx hb dX5_jointOf_21 rfl (lv_at hl 0 rfl) ?_
      refine gf_X5_X10_value C hK (hP 0 _ rfl) dX5_jointOf_22 ?_
      refine lv_bipush (v := 10) hx hb dX5_jointOf_25 (by decide) ?_
      refine lv_icmp_ne (tgt := 32) hx hb dX5_jointOf_27 (by decide) (fun c7 => ?_) (fun c7 => ?_)
      · have hf := (if_neg c7).symm.trans hf
        exact hj2 ls (lv_sub hl [0] rfl) hf
      · have hf := (if_pos c7).symm.trans hf
        refine lv_iconst (v := 3) hx hb dX5_jointOf_30 (by decide) ?_
        subst hf
        exact hQ _ _ dX5_jointOf_31
  · have hf := (if_pos c1).symm.trans hf
    refine lv_aload_n hx hb dX5_jointOf_8 rfl (lv_at hl 0 rfl) ?_
    refine gf_X5_X10_value C hK (hP 0 _ rfl) dX5_jointOf_9 ?_
    subst hf
    exact hQ _ _ dX5_jointOf_12
set_option maxHeartbeats 4000000 in
set_option maxRecDepth 20000 in
theorem tX5_addKnot (l : Launch) (E : Ev) (a_ph : Nat → Nat) (q_ph_0_formula : Nat) (u_ph : St) (x_1 : Int32) (res : St) (hf : fX5_addKnot u_ph x_1 = res) : MX l E yX5_addKnot cX5_addKnot 2 none (rmm 0 0) [wPhrase E a_ph q_ph_0_formula u_ph] (fun q => [wPhrase E a_ph q_ph_0_formula res]) [.ref (a_ph 0), .int x_1] none := by
  unfold fX5_addKnot at hf
  refine MX.ofV rfl (by decide) (Nat.le_of_ble_eq_true rfl) ?_
  intro p e R s m args below meth c ls Q ad H hRf hRl C hB hD hK hN hl hQ
  generalize hlocs : ([] : List Loc) = locs at hB ⊢
  clear hlocs
  have hx := C.1
  have hb := C.2.1
  have hl : lv_has ls 2 [(0, .ref (a_ph 0)), (1, .int x_1)] := hl
  refine lv_aload_n hx hb dX5_addKnot_0 rfl (lv_at hl 0 rfl) ?_
  refine lv_dup hx hb dX5_addKnot_1 rfl ?_
  refine gf_X5_X5_knots C hK (hB.1 0 _ rfl) dX5_addKnot_2 ?_
  refine lv_iconst (v := 1) hx hb dX5_addKnot_5 (by decide) ?_
  refine lv_iadd hx hb dX5_addKnot_6 ?_
  refine lv_topi (fun x1 ex1 => ?_)
  have hf := ox_lt ex1 hf
  refine pf_X5_X5_knots C hK hB hD 0 rfl dX5_addKnot_7 (fun H locs u2 eu2 hB => ?_)
  have hf := ox_lt eu2 hf
  have hB : WB E ad s.heap [wPhrase E a_ph q_ph_0_formula u2] H locs := hB
  refine lv_aload_n hx hb dX5_addKnot_10 rfl (lv_at hl 0 rfl) ?_
  refine gf_X5_X5_knots C hK (hB.1 0 _ rfl) dX5_addKnot_11 ?_
  refine lv_aload_n hx hb dX5_addKnot_14 rfl (lv_at hl 0 rfl) ?_
  refine gf_X5_X5_room C hK (hB.1 0 _ rfl) dX5_addKnot_15 ?_
  obtain ⟨j3, ej3, hf⟩ := ox_ex hf
  have hj3 : ∀ (ls : Array Slot) (H : Heap) (locs : List Loc), lv_has ls 2 [(0, .ref (a_ph 0))] → WB E ad s.heap [wPhrase E a_ph q_ph_0_formula u2] H locs → j3 = res → W p l e R s m args below meth c H locs 0 0 Q (F0 m 25 ls []) := by
    intro ls H locs hl hB hf
    have hf := ox_a0 ej3 hf
    refine lv_aload_n hx hb dX5_addKnot_25 rfl (lv_at hl 0 rfl) ?_
    refine lv_iconst (v := 2) hx hb dX5_addKnot_26 (by decide) ?_
    refine pf_X5_X5_faultKind C hK hB hD 0 rfl dX5_addKnot_27 (fun H locs u4 eu4 hB => ?_)
    have hf := ox_lt eu4 hf
    have hB : WB E ad s.heap [wPhrase E a_ph q_ph_0_formula u4] H locs := hB
    subst hf
    exact hQ _ _ H locs (fun _ => 0) hB dX5_addKnot_30
  refine lv_icmp_gt (tgt := 25) hx hb dX5_addKnot_18 (by decide) (fun c5 => ?_) (fun c5 => ?_)
  · have hf := (if_pos c5).symm.trans hf
    exact hj3 ls H locs (lv_sub hl [0] rfl) hB hf
  · have hf := (if_neg c5).symm.trans hf
    refine lv_iload_n hx hb dX5_addKnot_21 rfl (lv_at hl 1 rfl) ?_
    refine lv_if_ne (tgt := 30) hx hb dX5_addKnot_22 (by decide) (fun c6 => ?_) (fun c6 => ?_)
    · have hf := (if_neg c6).symm.trans hf
      subst hf
      exact hQ _ _ H locs (fun _ => 0) hB dX5_addKnot_30
    · have hf := (if_pos c6).symm.trans hf
      exact hj3 ls H locs (lv_sub hl [0] rfl) hB hf
set_option maxHeartbeats 4000000 in
set_option maxRecDepth 20000 in
theorem tX5_hold (l : Launch) (E : Ev) (a_ph : Nat → Nat) (q_ph_0_formula : Nat) (u_ph : St) (x_1 : Int32) (res : St) (hf : fX5_hold u_ph x_1 = some res) : MX l E yX5_hold cX5_hold 2 none (rmm 0 0) [wPhrase E a_ph q_ph_0_formula u_ph] (fun q => [wPhrase E a_ph q_ph_0_formula res]) [.ref (a_ph 0), .int x_1] none := by
  unfold fX5_hold at hf
  refine MX.ofV rfl (by decide) (Nat.le_of_ble_eq_true rfl) ?_
  intro p e R s m args below meth c ls Q ad H hRf hRl C hB hD hK hN hl hQ
  generalize hlocs : ([] : List Loc) = locs at hB ⊢
  clear hlocs
  have hx := C.1
  have hb := C.2.1
  have hl : lv_has ls 2 [(0, .ref (a_ph 0)), (1, .int x_1)] := hl
  refine lv_aload_n hx hb dX5_hold_0 rfl (lv_at hl 0 rfl) ?_
  refine gf_X5_X5_waits C hK (hB.1 0 _ rfl) dX5_hold_1 ?_
  refine lv_aload_n hx hb dX5_hold_4 rfl (lv_at hl 0 rfl) ?_
  refine gf_X5_X5_waiting C hK (hB.1 0 _ rfl) dX5_hold_5 ?_
  refine bx_alen C hK (hB.1 0 _ rfl) 1 0 rfl rfl (v := (72 : Int32)) rfl dX5_hold_8 ?_
  refine lv_icmp_ge (tgt := 32) hx hb dX5_hold_9 (by decide) (fun c1 => ?_) (fun c1 => ?_)
  · have hf := (if_pos c1).symm.trans hf
    have hf := Option.some.inj hf
    subst hf
    exact hQ _ _ H locs (fun _ => 0) hB dX5_hold_32
  · have hf := (if_neg c1).symm.trans hf
    refine lv_aload_n hx hb dX5_hold_12 rfl (lv_at hl 0 rfl) ?_
    refine gf_X5_X5_waiting C hK (hB.1 0 _ rfl) dX5_hold_13 ?_
    refine lv_aload_n hx hb dX5_hold_16 rfl (lv_at hl 0 rfl) ?_
    refine gf_X5_X5_waits C hK (hB.1 0 _ rfl) dX5_hold_17 ?_
    refine lv_iload_n hx hb dX5_hold_20 rfl (lv_at hl 1 rfl) ?_
    obtain ⟨hn2, hf⟩ := ox_chk hf
    refine st_X5_waiting C hK hB hD 0 rfl hn2 rfl dX5_hold_21 (fun H locs u3 eu3 hB => ?_)
    have hf := ox_lt eu3 hf
    have hB : WB E ad s.heap [wPhrase E a_ph q_ph_0_formula u3] H locs := hB
    refine lv_aload_n hx hb dX5_hold_22 rfl (lv_at hl 0 rfl) ?_
    refine lv_dup hx hb dX5_hold_23 rfl ?_
    refine gf_X5_X5_waits C hK (hB.1 0 _ rfl) dX5_hold_24 ?_
    refine lv_iconst (v := 1) hx hb dX5_hold_27 (by decide) ?_
    refine lv_iadd hx hb dX5_hold_28 ?_
    refine lv_topi (fun x4 ex4 => ?_)
    have hf := ox_lt ex4 hf
    refine pf_X5_X5_waits C hK hB hD 0 rfl dX5_hold_29 (fun H locs u5 eu5 hB => ?_)
    have hf := ox_lt eu5 hf
    have hB : WB E ad s.heap [wPhrase E a_ph q_ph_0_formula u5] H locs := hB
    have hf := Option.some.inj hf
    subst hf
    exact hQ _ _ H locs (fun _ => 0) hB dX5_hold_32
