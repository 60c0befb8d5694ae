set_option maxHeartbeats 4000000 in
set_option maxRecDepth 20000 in
theorem tX12_put_undo (l : Launch) (E : Ev) (a_M : Nat → Nat) (u_M : St) (x_2 : Int32) (res : St) (hf : fX12_put_undo u_M x_2 = some res) : MX l E yX12_put cX12_put 4 none (rmm 0 0) [wModel E a_M u_M] (fun q => [wModel E a_M res]) [.ref (a_M 0), .ref (a_M 42), .int x_2] none := by
  unfold fX12_put_undo at hf
  refine MX.ofV rfl (by decide) (Nat.le_of_ble_eq_true rfl) ?_
  intro p e R s m args below meth c ls Q ad H hRf hRl C hB hD hK hN hl hQ
  generalize hlocs : ([] : List Loc) = locs at hB ⊢
  clear hlocs
  have hx := C.1
  have hb := C.2.1
  have hl : lv_has ls 4 [(0, .ref (a_M 0)), (1, .ref (a_M 42)), (2, .int x_2)] := hl
  refine lv_aload_n hx hb dX12_put_0 rfl (lv_at hl 1 rfl) ?_
  refine lv_iload_n hx hb dX12_put_1 rfl (lv_at hl 2 rfl) ?_
  refine lv_aload_n hx hb dX12_put_2 rfl (lv_at hl 0 rfl) ?_
  refine gf_X12_X12_on C hK (hB.1 0 _ rfl) dX12_put_3 ?_
  refine lv_iconst (v := 0) hx hb dX12_put_6 (by decide) ?_
  refine ld_X12_on C hK (hB.1 0 _ rfl) (by decide) rfl dX12_put_7 ?_
  refine lv_topi (fun x1 ex1 => ?_)
  have hf := ox_lt ex1 hf
  obtain ⟨hn2, hf⟩ := ox_chk hf
  refine st_X12_undo C hK hB hD 0 rfl hn2 rfl dX12_put_8 (fun H locs u3 eu3 hB => ?_)
  have hf := ox_lt eu3 hf
  have hB : WB E ad s.heap [wModel E a_M u3] H locs := hB
  refine lv_aload_n hx hb dX12_put_9 rfl (lv_at hl 1 rfl) ?_
  refine lv_iload_n hx hb dX12_put_10 rfl (lv_at hl 2 rfl) ?_
  refine lv_iconst (v := 1) hx hb dX12_put_11 (by decide) ?_
  refine lv_iadd hx hb dX12_put_12 ?_
  refine lv_aload_n hx hb dX12_put_13 rfl (lv_at hl 0 rfl) ?_
  refine gf_X12_X12_onFor C hK (hB.1 0 _ rfl) dX12_put_14 ?_
  refine lv_iconst (v := 0) hx hb dX12_put_17 (by decide) ?_
  refine ld_X12_onFor C hK (hB.1 0 _ rfl) (by decide) rfl dX12_put_18 ?_
  refine lv_topi (fun x4 ex4 => ?_)
  have hf := ox_lt ex4 hf
  obtain ⟨hn5, hf⟩ := ox_chk hf
  refine st_X12_undo C hK hB hD 0 rfl hn5 rfl dX12_put_19 (fun H locs u6 eu6 hB => ?_)
  have hf := ox_lt eu6 hf
  have hB : WB E ad s.heap [wModel E a_M u6] H locs := hB
  refine lv_aload_n hx hb dX12_put_20 rfl (lv_at hl 1 rfl) ?_
  refine lv_iload_n hx hb dX12_put_21 rfl (lv_at hl 2 rfl) ?_
  refine lv_iconst (v := 2) hx hb dX12_put_22 (by decide) ?_
  refine lv_iadd hx hb dX12_put_23 ?_
  refine lv_aload_n hx hb dX12_put_24 rfl (lv_at hl 0 rfl) ?_
  refine gf_X12_X12_speed C hK (hB.1 0 _ rfl) dX12_put_25 ?_
  refine lv_iconst (v := 0) hx hb dX12_put_28 (by decide) ?_
  refine ld_X12_speed C hK (hB.1 0 _ rfl) (by decide) rfl dX12_put_29 ?_
  refine lv_topi (fun x7 ex7 => ?_)
  have hf := ox_lt ex7 hf
  obtain ⟨hn8, hf⟩ := ox_chk hf
  refine st_X12_undo C hK hB hD 0 rfl hn8 rfl dX12_put_30 (fun H locs u9 eu9 hB => ?_)
  have hf := ox_lt eu9 hf
  have hB : WB E ad s.heap [wModel E a_M u9] H locs := hB
  refine lv_iconst (v := 0) hx hb dX12_put_31 (by decide) ?_
  refine lv_istore_n (lv' := [(3, .int (0 : Int32)), (0, .ref (a_M 0)), (1, .ref (a_M 42)), (2, .int x_2)]) hx hb dX12_put_32 rfl hl (by decide) rfl (fun ls hl => ?_)
  obtain ⟨X1, hX1, hf⟩ := ox_bind hf
  have hexit1 : ∀ y18, y18 = X1 → ∀ (ls : Array Slot) (H : Heap) (locs : List Loc), lv_has ls 4 [] → WB E ad s.heap [wModel E a_M y18] H locs → W p l e R s m args below meth c H locs 0 0 Q (F0 m 58 ls []) := by
    intro y18 hy ls H locs hl hB
    subst hy
    have hf := Option.some.inj hf
    subst hf
    exact hQ _ _ H locs (fun _ => 0) hB dX12_put_58
  have hloop1 : ∀ (nf : Nat) (x10 : Int32) (u11 : St) (ls : Array Slot) (H : Heap) (locs : List Loc), lv_has ls 4 [(0, .ref (a_M 0)), (1, .ref (a_M 42)), (2, .int x_2), (3, .int x10)] → WB E ad s.heap [wModel E a_M u11] H locs → fX12_put_undo_L1 x_2 nf x10 u11 = some X1 → W p l e R s m args below meth c H locs 0 0 Q (F0 m 33 ls []) := by
    intro nf
    induction nf with
    | zero =>
      intro x10 u11 ls H locs hl hB hf
      simp [fX12_put_undo_L1] at hf
    | succ nf ih =>
      intro x10 u11 ls H locs hl hB hf
      rw [fX12_put_undo_L1] at hf
      refine lv_iload_n hx hb dX12_put_33 rfl (lv_at hl 3 rfl) ?_
      refine lv_bipush (v := 6) hx hb dX12_put_34 (by decide) ?_
      refine lv_icmp_ge (tgt := 58) hx hb dX12_put_36 (by decide) (fun c12 => ?_) (fun c12 => ?_)
      · have hf := (if_pos c12).symm.trans hf
        exact hexit1 _ (Option.some.inj hf) ls H locs (lv_sub hl [] rfl) hB
      · have hf := (if_neg c12).symm.trans hf
        refine lv_aload_n hx hb dX12_put_39 rfl (lv_at hl 1 rfl) ?_
        refine lv_iload_n hx hb dX12_put_40 rfl (lv_at hl 2 rfl) ?_
        refine lv_iconst (v := 3) hx hb dX12_put_41 (by decide) ?_
        refine lv_iadd hx hb dX12_put_42 ?_
        refine lv_iload_n hx hb dX12_put_43 rfl (lv_at hl 3 rfl) ?_
        refine lv_iadd hx hb dX12_put_44 ?_
        refine lv_aload_n hx hb dX12_put_45 rfl (lv_at hl 0 rfl) ?_
        refine gf_X12_X12_sits C hK (hB.1 0 _ rfl) dX12_put_46 ?_
        refine lv_iload_n hx hb dX12_put_49 rfl (lv_at hl 3 rfl) ?_
        obtain ⟨hn13, hf⟩ := ox_chk hf
        refine ld_X12_sits C hK (hB.1 0 _ rfl) hn13 rfl dX12_put_50 ?_
        refine lv_topi (fun x14 ex14 => ?_)
        have hf := ox_lt ex14 hf
        obtain ⟨hn15, hf⟩ := ox_chk hf
        refine st_X12_undo C hK hB hD 0 rfl hn15 rfl dX12_put_51 (fun H locs u16 eu16 hB => ?_)
        have hf := ox_lt eu16 hf
        have hB : WB E ad s.heap [wModel E a_M u16] H locs := hB
        obtain ⟨x17, ex17⟩ : ∃ z : Int32, z = (x10 + 1) := ⟨_, rfl⟩
        have hf := ox_lt ex17 hf
        refine lv_iinc (v := x17) (lv' := [(3, .int x17), (0, .ref (a_M 0)), (1, .ref (a_M 42)), (2, .int x_2)]) hx hb dX12_put_52 hl (k := 3) rfl (by rw [ex17]; rfl) (by decide) rfl (fun ls hl => ?_)
        refine lv_goto (tgt := 33) hx hb dX12_put_55 (by decide) ?_
        exact ih _ _ ls H locs (lv_sub hl [1, 2, 3, 0] rfl) hB hf
  exact hloop1 fuel _ _ ls H locs (lv_sub hl [1, 2, 3, 0] rfl) hB hX1
set_option maxHeartbeats 4000000 in
set_option maxRecDepth 20000 in
theorem tX12_remember (l : Launch) (E : Ev) (a_M : Nat → Nat) (u_M : St) (res : St) (hf : fX12_remember u_M = some res) : MX l E yX12_remember cX12_remember 2 none (rmm 1 23) [wModel E a_M u_M] (fun q => [wModel E a_M res]) [.ref (a_M 0)] none := by
  unfold fX12_remember at hf
  refine MX.ofV rfl (by decide) (Nat.le_of_ble_eq_true rfl) ?_
  intro p e R s m args below meth c ls Q ad H hRf hRl C hB hD hK hN hl hQ
  generalize hlocs : ([] : List Loc) = locs at hB ⊢
  clear hlocs
  have hx := C.1
  have hb := C.2.1
  have hl : lv_has ls 2 [(0, .ref (a_M 0))] := hl
  refine lv_aload_n hx hb dX12_remember_0 rfl (lv_at hl 0 rfl) ?_
  refine gf_X12_X12_undos C hK (hB.1 0 _ rfl) dX12_remember_1 ?_
  refine lv_bipush (v := 20) hx hb dX12_remember_4 (by decide) ?_
  obtain ⟨j2, ej2, hf⟩ := ox_ex hf
  have hj2 : ∀ (u1 : St) (ls : Array Slot) (H : Heap) (locs : List Loc), lv_has ls 2 [(0, .ref (a_M 0))] → WB E ad s.heap [wModel E a_M u1] H locs → j2 u1 = some res → W p l e R s m args below meth c H locs 0 0 Q (F0 m 49 ls []) := by
    intro u1 ls H locs hl hB hf
    have hf := ox_a1 ej2 hf
    refine lv_aload_n hx hb dX12_remember_49 rfl (lv_at hl 0 rfl) ?_
    refine lv_aload_n hx hb dX12_remember_50 rfl (lv_at hl 0 rfl) ?_
    refine gf_X12_X12_undo C hK (hB.1 0 _ rfl) dX12_remember_51 ?_
    refine lv_bipush (v := 9) hx hb dX12_remember_54 (by decide) ?_
    refine lv_aload_n hx hb dX12_remember_56 rfl (lv_at hl 0 rfl) ?_
    refine gf_X12_X12_undos C hK (hB.1 0 _ rfl) dX12_remember_57 ?_
    refine lv_imul hx hb dX12_remember_60 ?_
    obtain ⟨r3, hr3, hf⟩ := ox_bind hf
    refine cxVX (bs1 := (fun q => [wModel E a_M r3])) (As := [.ref (a_M 42), .int ((9 : Int32) * (gI u1 80))]) (rest := []) (st1 := []) C hK (tX12_put_undo l E a_M u1 ((9 : Int32) * (gI u1 80)) r3 hr3) lk_X12_558 (by rw [hRf, hRl]; decide) ⟨Nat.zero_le _, Nat.zero_le _⟩ hB hD hN [0] (by decide) rfl (fun _ => rfl) (fun _ => rfl) (rc_X12 hK (hB.1 0 _ rfl)) rfl hl.1 rfl rfl (Nat.le_of_ble_eq_true rfl) dX12_remember_61 (fun H locs q4 hB => ?_)
    have hB : WB E ad s.heap [wModel E a_M r3] H locs := hB
    refine lv_aload_n hx hb dX12_remember_64 rfl (lv_at hl 0 rfl) ?_
    refine lv_dup hx hb dX12_remember_65 rfl ?_
    refine gf_X12_X12_undos C hK (hB.1 0 _ rfl) dX12_remember_66 ?_
    refine lv_iconst (v := 1) hx hb dX12_remember_69 (by decide) ?_
    refine lv_iadd hx hb dX12_remember_70 ?_
    refine lv_topi (fun x5 ex5 => ?_)
    have hf := ox_lt ex5 hf
    refine pf_X12_X12_undos C hK hB hD 0 rfl dX12_remember_71 (fun H locs u6 eu6 hB => ?_)
    have hf := ox_lt eu6 hf
    have hB : WB E ad s.heap [wModel E a_M u6] H locs := hB
    have hf := Option.some.inj hf
    subst hf
    exact hQ _ _ H locs (fun _ => 0) hB dX12_remember_74
  refine lv_icmp_ne (tgt := 49) hx hb dX12_remember_6 (by decide) (fun c7 => ?_) (fun c7 => ?_)
  · have hf := (if_neg c7).symm.trans hf
    exact hj2 _ ls H locs (lv_sub hl [0] rfl) hB hf
  · have hf := (if_pos c7).symm.trans hf
    refine lv_iconst (v := 0) hx hb dX12_remember_9 (by decide) ?_
    refine lv_istore_n (lv' := [(1, .int (0 : Int32)), (0, .ref (a_M 0))]) hx hb dX12_remember_10 rfl hl (by decide) rfl (fun ls hl => ?_)
    obtain ⟨X1, hX1, hf⟩ := ox_bind hf
    have hexit1 : ∀ y16, y16 = X1 → ∀ (ls : Array Slot) (H : Heap) (locs : List Loc), lv_has ls 2 [(0, .ref (a_M 0))] → WB E ad s.heap [wModel E a_M y16] H locs → W p l e R s m args below meth c H locs 0 0 Q (F0 m 39 ls []) := by
      intro y16 hy ls H locs hl hB
      subst hy
      refine lv_aload_n hx hb dX12_remember_39 rfl (lv_at hl 0 rfl) ?_
      refine lv_dup hx hb dX12_remember_40 rfl ?_
      refine gf_X12_X12_undos C hK (hB.1 0 _ rfl) dX12_remember_41 ?_
      refine lv_iconst (v := 1) hx hb dX12_remember_44 (by decide) ?_
      refine lv_isub hx hb dX12_remember_45 ?_
      refine lv_topi (fun x17 ex17 => ?_)
      have hf := ox_lt ex17 hf
      refine pf_X12_X12_undos C hK hB hD 0 rfl dX12_remember_46 (fun H locs u18 eu18 hB => ?_)
      have hf := ox_lt eu18 hf
      have hB : WB E ad s.heap [wModel E a_M u18] H locs := hB
      exact hj2 _ ls H locs (lv_sub hl [0] rfl) hB hf
    have hloop1 : ∀ (nf : Nat) (x8 : Int32) (u9 : St) (ls : Array Slot) (H : Heap) (locs : List Loc), lv_has ls 2 [(0, .ref (a_M 0)), (1, .int x8)] → WB E ad s.heap [wModel E a_M u9] H locs → fX12_remember_L1 nf x8 u9 = some X1 → W p l e R s m args below meth c H locs 0 0 Q (F0 m 11 ls []) := by
      intro nf
      induction nf with
      | zero =>
        intro x8 u9 ls H locs hl hB hf
        simp [fX12_remember_L1] at hf
      | succ nf ih =>
        intro x8 u9 ls H locs hl hB hf
        rw [fX12_remember_L1] at hf
        refine lv_iload_n hx hb dX12_remember_11 rfl (lv_at hl 1 rfl) ?_
        refine lv_sipush (v := 171) hx hb dX12_remember_12 (by decide) ?_
        refine lv_icmp_ge (tgt := 39) hx hb dX12_remember_15 (by decide) (fun c10 => ?_) (fun c10 => ?_)
        · have hf := (if_pos c10).symm.trans hf
          exact hexit1 _ (Option.some.inj hf) ls H locs (lv_sub hl [0] rfl) hB
        · have hf := (if_neg c10).symm.trans hf
          refine lv_aload_n hx hb dX12_remember_18 rfl (lv_at hl 0 rfl) ?_
          refine gf_X12_X12_undo C hK (hB.1 0 _ rfl) dX12_remember_19 ?_
          refine lv_iload_n hx hb dX12_remember_22 rfl (lv_at hl 1 rfl) ?_
          refine lv_aload_n hx hb dX12_remember_23 rfl (lv_at hl 0 rfl) ?_
          refine gf_X12_X12_undo C hK (hB.1 0 _ rfl) dX12_remember_24 ?_
          refine lv_iload_n hx hb dX12_remember_27 rfl (lv_at hl 1 rfl) ?_
          refine lv_bipush (v := 9) hx hb dX12_remember_28 (by decide) ?_
          refine lv_iadd hx hb dX12_remember_30 ?_
          obtain ⟨hn11, hf⟩ := ox_chk hf
          refine ld_X12_undo C hK (hB.1 0 _ rfl) hn11 rfl dX12_remember_31 ?_
          refine lv_topi (fun x12 ex12 => ?_)
          have hf := ox_lt ex12 hf
          obtain ⟨hn13, hf⟩ := ox_chk hf
          refine st_X12_undo C hK hB hD 0 rfl hn13 rfl dX12_remember_32 (fun H locs u14 eu14 hB => ?_)
          have hf := ox_lt eu14 hf
          have hB : WB E ad s.heap [wModel E a_M u14] H locs := hB
          obtain ⟨x15, ex15⟩ : ∃ z : Int32, z = (x8 + 1) := ⟨_, rfl⟩
          have hf := ox_lt ex15 hf
          refine lv_iinc (v := x15) (lv' := [(1, .int x15), (0, .ref (a_M 0))]) hx hb dX12_remember_33 hl (k := 1) rfl (by rw [ex15]; rfl) (by decide) rfl (fun ls hl => ?_)
          refine lv_goto (tgt := 11) hx hb dX12_remember_36 (by decide) ?_
          exact ih _ _ ls H locs (lv_sub hl [1, 0] rfl) hB hf
    exact hloop1 fuel _ _ ls H locs (lv_sub hl [1, 0] rfl) hB hX1
set_option maxHeartbeats 4000000 in
set_option maxRecDepth 20000 in
theorem tX12_stage (l : Launch) (E : Ev) (a_M : Nat → Nat) (u_M : St) (x_1 : Int32) (res : Int32 × St) (hf : fX12_stage u_M x_1 = some res) : MX l E yX12_stage cX12_stage 2 (some .int) (rmm 2 44) [wModel E a_M u_M] (fun q => [wModel E a_M res.2]) [.ref (a_M 0), .int x_1] (some (.int res.1)) := by
  unfold fX12_stage at hf
  refine MX.ofI rfl (by decide) (Nat.le_of_ble_eq_true rfl) ?_
  intro p e R s m args below meth c ls Q ad H hRf hRl C hB hD hK hN hl hQ
  generalize hlocs : ([] : List Loc) = locs at hB ⊢
  clear hlocs
  have hx := C.1
  have hb := C.2.1
  have hl : lv_has ls 2 [(0, .ref (a_M 0)), (1, .int x_1)] := hl
  refine lv_aload_n hx hb dX12_stage_0 rfl (lv_at hl 0 rfl) ?_
  refine lv_iconst (v := 0) hx hb dX12_stage_1 (by decide) ?_
  refine pf_X12_X12_thrown C hK hB hD 0 rfl dX12_stage_2 (fun H locs u1 eu1 hB => ?_)
  have hf := ox_lt eu1 hf
  have hB : WB E ad s.heap [wModel E a_M u1] H locs := hB
  refine lv_aload_n hx hb dX12_stage_5 rfl (lv_at hl 0 rfl) ?_
  refine lv_iload_n hx hb dX12_stage_6 rfl (lv_at hl 1 rfl) ?_
  refine cxVP (As := [.int x_1]) (rest := []) (st1 := [.int (fX12_isAct u1 x_1)]) C hK (tX12_isAct l E a_M u1 x_1 (fX12_isAct u1 x_1) rfl) lk_X12_485 ⟨rfl, rfl⟩ (by rw [hRf, hRl]; decide) ⟨Nat.zero_le _, Nat.zero_le _⟩ (PB.sub hB.1 [0] rfl) (hB.old hD hN) (Nat.le_trans hN hB.2.2.1) (rc_X12 hK (hB.1 0 _ rfl)) rfl hl.1 rfl rfl (Nat.le_of_ble_eq_true rfl) dX12_stage_7 ?_
  refine lv_if_ne (tgt := 15) hx hb dX12_stage_10 (by decide) (fun c2 => ?_) (fun c2 => ?_)
  · have hf := (if_neg c2).symm.trans hf
    refine lv_aload_n hx hb dX12_stage_15 rfl (lv_at hl 0 rfl) ?_
    refine gf_X12_X12_on C hK (hB.1 0 _ rfl) dX12_stage_16 ?_
    refine lv_iconst (v := 0) hx hb dX12_stage_19 (by decide) ?_
    refine ld_X12_on C hK (hB.1 0 _ rfl) (by decide) rfl dX12_stage_20 ?_
    refine lv_if_lt (tgt := 27) hx hb dX12_stage_21 (by decide) (fun c3 => ?_) (fun c3 => ?_)
    · have hf := (if_pos c3).symm.trans hf
      refine lv_aload_n hx hb dX12_stage_27 rfl (lv_at hl 0 rfl) ?_
      obtain ⟨r4, hr4, hf⟩ := ox_bind hf
      refine cxVX (bs1 := (fun q => [wModel E a_M r4])) (As := []) (rest := []) (st1 := []) C hK (tX12_remember l E a_M u1 r4 hr4) lk_X12_493 (by rw [hRf, hRl]; decide) ⟨Nat.zero_le _, Nat.zero_le _⟩ hB hD hN [0] (by decide) rfl (fun _ => rfl) (fun _ => rfl) (rc_X12 hK (hB.1 0 _ rfl)) rfl hl.1 rfl rfl (Nat.le_of_ble_eq_true rfl) dX12_stage_28 (fun H locs q5 hB => ?_)
      have hB : WB E ad s.heap [wModel E a_M r4] H locs := hB
      refine lv_aload_n hx hb dX12_stage_31 rfl (lv_at hl 0 rfl) ?_
      refine gf_X12_X12_on C hK (hB.1 0 _ rfl) dX12_stage_32 ?_
      refine lv_iconst (v := 0) hx hb dX12_stage_35 (by decide) ?_
      refine lv_iload_n hx hb dX12_stage_36 rfl (lv_at hl 1 rfl) ?_
      refine st_X12_on C hK hB hD 0 rfl (by decide) rfl dX12_stage_37 (fun H locs u6 eu6 hB => ?_)
      have hf := ox_lt eu6 hf
      have hB : WB E ad s.heap [wModel E a_M u6] H locs := hB
      refine lv_aload_n hx hb dX12_stage_38 rfl (lv_at hl 0 rfl) ?_
      refine gf_X12_X12_onFor C hK (hB.1 0 _ rfl) dX12_stage_39 ?_
      refine lv_iconst (v := 0) hx hb dX12_stage_42 (by decide) ?_
      refine lv_aload_n hx hb dX12_stage_43 rfl (lv_at hl 0 rfl) ?_
      refine gf_X12_X12_actLength C hK (hB.1 0 _ rfl) dX12_stage_44 ?_
      refine lv_iload_n hx hb dX12_stage_47 rfl (lv_at hl 1 rfl) ?_
      obtain ⟨hn7, hf⟩ := ox_chk hf
      refine ld_X12_actLength C hK (hB.1 0 _ rfl) hn7 rfl dX12_stage_48 ?_
      refine lv_topi (fun x8 ex8 => ?_)
      have hf := ox_lt ex8 hf
      refine st_X12_onFor C hK hB hD 0 rfl (by decide) rfl dX12_stage_49 (fun H locs u9 eu9 hB => ?_)
      have hf := ox_lt eu9 hf
      have hB : WB E ad s.heap [wModel E a_M u9] H locs := hB
      refine lv_aload_n hx hb dX12_stage_50 rfl (lv_at hl 0 rfl) ?_
      refine gf_X12_X12_onFor C hK (hB.1 0 _ rfl) dX12_stage_51 ?_
      refine lv_iconst (v := 0) hx hb dX12_stage_54 (by decide) ?_
      refine ld_X12_onFor C hK (hB.1 0 _ rfl) (by decide) rfl dX12_stage_55 ?_
      have hf := Option.some.inj hf
      subst hf
      exact hQ _ _ H locs (fun _ => 0) hB dX12_stage_56
    · have hf := (if_neg c3).symm.trans hf
      refine lv_bipush (v := (-2)) hx hb dX12_stage_24 (by decide) ?_
      have hf := Option.some.inj hf
      subst hf
      exact hQ _ _ H locs (fun _ => 0) hB dX12_stage_26
  · have hf := (if_pos c2).symm.trans hf
    refine lv_iconst (v := (-1)) hx hb dX12_stage_13 (by decide) ?_
    have hf := Option.some.inj hf
    subst hf
    exact hQ _ _ H locs (fun _ => 0) hB dX12_stage_14
set_option maxHeartbeats 4000000 in
set_option maxRecDepth 20000 in
theorem tX12_change (l : Launch) (E : Ev) (a_M : Nat → Nat) (u_M : St) (x_1 : Int32) (x_2 : Int32) (res : Int32 × St) (hf : fX12_change u_M x_1 x_2 = some res) : MX l E yX12_change cX12_change 5 (some .int) (rmm 2 44) [wModel E a_M u_M] (fun q => [wModel E a_M res.2]) [.ref (a_M 0), .int x_1, .int x_2] (some (.int res.1)) := by
  unfold fX12_change at hf
  refine MX.ofI rfl (by decide) (Nat.le_of_ble_eq_true rfl) ?_
  intro p e R s m args below meth c ls Q ad H hRf hRl C hB hD hK hN hl hQ
  generalize hlocs : ([] : List Loc) = locs at hB ⊢
  clear hlocs
  have hx := C.1
  have hb := C.2.1
  have hl : lv_has ls 5 [(0, .ref (a_M 0)), (1, .int x_1), (2, .int x_2)] := hl
  refine lv_aload_n hx hb dX12_change_0 rfl (lv_at hl 0 rfl) ?_
  refine lv_iconst (v := 0) hx hb dX12_change_1 (by decide) ?_
  refine pf_X12_X12_thrown C hK hB hD 0 rfl dX12_change_2 (fun H locs u1 eu1 hB => ?_)
  have hf := ox_lt eu1 hf
  have hB : WB E ad s.heap [wModel E a_M u1] H locs := hB
  refine lv_aload_n hx hb dX12_change_5 rfl (lv_at hl 0 rfl) ?_
  refine lv_iload_n hx hb dX12_change_6 rfl (lv_at hl 1 rfl) ?_
  refine cxVP (As := [.int x_1]) (rest := []) (st1 := [.int (fX12_isGuest u1 x_1)]) C hK (tX12_isGuest l E a_M u1 x_1 (fX12_isGuest u1 x_1) rfl) lk_X12_476 ⟨rfl, rfl⟩ (by rw [hRf, hRl]; decide) ⟨Nat.zero_le _, Nat.zero_le _⟩ (PB.sub hB.1 [0] rfl) (hB.old hD hN) (Nat.le_trans hN hB.2.2.1) (rc_X12 hK (hB.1 0 _ rfl)) rfl hl.1 rfl rfl (Nat.le_of_ble_eq_true rfl) dX12_change_7 ?_
  refine lv_if_eq (tgt := 26) hx hb dX12_change_10 (by decide) (fun c2 => ?_) (fun c2 => ?_)
  · have hf := (if_pos c2).symm.trans hf
    refine lv_iconst (v := (-1)) hx hb dX12_change_26 (by decide) ?_
    have hf := Option.some.inj hf
    subst hf
    exact hQ _ _ H locs (fun _ => 0) hB dX12_change_27
  · have hf := (if_neg c2).symm.trans hf
    refine lv_aload_n hx hb dX12_change_13 rfl (lv_at hl 0 rfl) ?_
    refine lv_iload_n hx hb dX12_change_14 rfl (lv_at hl 2 rfl) ?_
    refine cxVP (As := [.int x_2]) (rest := []) (st1 := [.int (fX12_isGuest u1 x_2)]) C hK (tX12_isGuest l E a_M u1 x_2 (fX12_isGuest u1 x_2) rfl) lk_X12_476 ⟨rfl, rfl⟩ (by rw [hRf, hRl]; decide) ⟨Nat.zero_le _, Nat.zero_le _⟩ (PB.sub hB.1 [0] rfl) (hB.old hD hN) (Nat.le_trans hN hB.2.2.1) (rc_X12 hK (hB.1 0 _ rfl)) rfl hl.1 rfl rfl (Nat.le_of_ble_eq_true rfl) dX12_change_15 ?_
    refine lv_if_eq (tgt := 26) hx hb dX12_change_18 (by decide) (fun c3 => ?_) (fun c3 => ?_)
    · have hf := (if_pos c3).symm.trans hf
      refine lv_iconst (v := (-1)) hx hb dX12_change_26 (by decide) ?_
      have hf := Option.some.inj hf
      subst hf
      exact hQ _ _ H locs (fun _ => 0) hB dX12_change_27
    · have hf := (if_neg c3).symm.trans hf
      refine lv_iload_n hx hb dX12_change_21 rfl (lv_at hl 1 rfl) ?_
      refine lv_iload_n hx hb dX12_change_22 rfl (lv_at hl 2 rfl) ?_
      refine lv_icmp_ne (tgt := 28) hx hb dX12_change_23 (by decide) (fun c4 => ?_) (fun c4 => ?_)
      · have hf := (if_neg c4).symm.trans hf
        refine lv_aload_n hx hb dX12_change_28 rfl (lv_at hl 0 rfl) ?_
        obtain ⟨r5, hr5, hf⟩ := ox_bind hf
        refine cxVX (bs1 := (fun q => [wModel E a_M r5])) (As := []) (rest := []) (st1 := []) C hK (tX12_remember l E a_M u1 r5 hr5) lk_X12_493 (by rw [hRf, hRl]; decide) ⟨Nat.zero_le _, Nat.zero_le _⟩ hB hD hN [0] (by decide) rfl (fun _ => rfl) (fun _ => rfl) (rc_X12 hK (hB.1 0 _ rfl)) rfl hl.1 rfl rfl (Nat.le_of_ble_eq_true rfl) dX12_change_29 (fun H locs q6 hB => ?_)
        have hB : WB E ad s.heap [wModel E a_M r5] H locs := hB
        refine lv_aload_n hx hb dX12_change_32 rfl (lv_at hl 0 rfl) ?_
        refine lv_iload_n hx hb dX12_change_33 rfl (lv_at hl 1 rfl) ?_
        obtain ⟨r7, hr7, hf⟩ := ox_bind hf
        refine cxVP (As := [.int x_1]) (rest := []) (st1 := [.int r7]) C hK (tX12_seatOf l E a_M r5 x_1 r7 hr7) lk_X12_482 ⟨rfl, rfl⟩ (by rw [hRf, hRl]; decide) ⟨Nat.zero_le _, Nat.zero_le _⟩ (PB.sub hB.1 [0] rfl) (hB.old hD hN) (Nat.le_trans hN hB.2.2.1) (rc_X12 hK (hB.1 0 _ rfl)) rfl hl.1 rfl rfl (Nat.le_of_ble_eq_true rfl) dX12_change_34 ?_
        refine lv_istore_n (lv' := [(3, .int r7), (0, .ref (a_M 0)), (1, .int x_1), (2, .int x_2)]) hx hb dX12_change_37 rfl hl (by decide) rfl (fun ls hl => ?_)
        refine lv_aload_n hx hb dX12_change_38 rfl (lv_at hl 1 rfl) ?_
        refine lv_iload_n hx hb dX12_change_39 rfl (lv_at hl 3 rfl) ?_
        obtain ⟨r8, hr8, hf⟩ := ox_bind hf
        refine cxVP (As := [.int x_2]) (rest := []) (st1 := [.int r8]) C hK (tX12_seatOf l E a_M r5 x_2 r8 hr8) lk_X12_482 ⟨rfl, rfl⟩ (by rw [hRf, hRl]; decide) ⟨Nat.zero_le _, Nat.zero_le _⟩ (PB.sub hB.1 [0] rfl) (hB.old hD hN) (Nat.le_trans hN hB.2.2.1) (rc_X12 hK (hB.1 0 _ rfl)) rfl hl.1 rfl rfl (Nat.le_of_ble_eq_true rfl) dX12_change_40 ?_
        refine lv_istore (lv' := [(4, .int r8), (3, .int r7), (0, .ref (a_M 0)), (1, .int x_1), (2, .int x_2)]) hx hb dX12_change_43 hl (by decide) rfl (fun ls hl => ?_)
        refine lv_aload_n hx hb dX12_change_45 rfl (lv_at hl 2 rfl) ?_
        refine gf_X12_X12_sits C hK (hB.1 0 _ rfl) dX12_change_46 ?_
        refine lv_iload_n hx hb dX12_change_49 rfl (lv_at hl 1 rfl) ?_
        refine lv_iload_n hx hb dX12_change_50 rfl (lv_at hl 4 rfl) ?_
        obtain ⟨hn9, hf⟩ := ox_chk hf
        refine st_X12_sits C hK hB hD 0 rfl hn9 rfl dX12_change_51 (fun H locs u10 eu10 hB => ?_)
        have hf := ox_lt eu10 hf
        have hB : WB E ad s.heap [wModel E a_M u10] H locs := hB
        refine lv_aload_n hx hb dX12_change_52 rfl (lv_at hl 2 rfl) ?_
        refine gf_X12_X12_sits C hK (hB.1 0 _ rfl) dX12_change_53 ?_
        refine lv_iload hx hb dX12_change_56 (lv_at hl 0 rfl) ?_
        refine lv_iload_n hx hb dX12_change_58 rfl (lv_at hl 3 rfl) ?_
        obtain ⟨hn11, hf⟩ := ox_chk hf
        refine st_X12_sits C hK hB hD 0 rfl hn11 rfl dX12_change_59 (fun H locs u12 eu12 hB => ?_)
        have hf := ox_lt eu12 hf
        have hB : WB E ad s.heap [wModel E a_M u12] H locs := hB
        refine lv_iload hx hb dX12_change_60 (lv_at hl 0 rfl) ?_
        have hf := Option.some.inj hf
        subst hf
        exact hQ _ _ H locs (fun _ => 0) hB dX12_change_62
      · have hf := (if_pos c4).symm.trans hf
        refine lv_iconst (v := (-1)) hx hb dX12_change_26 (by decide) ?_
        have hf := Option.some.inj hf
        subst hf
        exact hQ _ _ H locs (fun _ => 0) hB dX12_change_27
set_option maxHeartbeats 4000000 in
set_option maxRecDepth 20000 in
theorem tX12_push (l : Launch) (E : Ev) (a_M : Nat → Nat) (u_M : St) (x_1 : Int32) (res : Int32 × St) (hf : fX12_push u_M x_1 = some res) : MX l E yX12_push cX12_push 2 (some .int) (rmm 2 44) [wModel E a_M u_M] (fun q => [wModel E a_M res.2]) [.ref (a_M 0), .int x_1] (some (.int res.1)) := by
  unfold fX12_push at hf
  refine MX.ofI rfl (by decide) (Nat.le_of_ble_eq_true rfl) ?_
  intro p e R s m args below meth c ls Q ad H hRf hRl C hB hD hK hN hl hQ
  generalize hlocs : ([] : List Loc) = locs at hB ⊢
  clear hlocs
  have hx := C.1
  have hb := C.2.1
  have hl : lv_has ls 2 [(0, .ref (a_M 0)), (1, .int x_1)] := hl
  refine lv_aload_n hx hb dX12_push_0 rfl (lv_at hl 0 rfl) ?_
  refine lv_iconst (v := 0) hx hb dX12_push_1 (by decide) ?_
  refine pf_X12_X12_thrown C hK hB hD 0 rfl dX12_push_2 (fun H locs u1 eu1 hB => ?_)
  have hf := ox_lt eu1 hf
  have hB : WB E ad s.heap [wModel E a_M u1] H locs := hB
  refine lv_iload_n hx hb dX12_push_5 rfl (lv_at hl 1 rfl) ?_
  refine lv_if_eq (tgt := 20) hx hb dX12_push_6 (by decide) (fun c2 => ?_) (fun c2 => ?_)
  · have hf := (if_pos c2).symm.trans hf
    refine lv_ldcw (v := -2147483648) hx hb C.2.2.2.1 (C.2.2.2.2 _ mw_1785) dX12_push_20 ?_
    have hf := Option.some.inj hf
    subst hf
    exact hQ _ _ H locs (fun _ => 0) hB dX12_push_23
  · have hf := (if_neg c2).symm.trans hf
    refine lv_iload_n hx hb dX12_push_9 rfl (lv_at hl 1 rfl) ?_
    refine lv_bipush (v := (-99)) hx hb dX12_push_10 (by decide) ?_
    refine lv_bipush (v := 99) hx hb dX12_push_12 (by decide) ?_
    refine cxSP (As := [.int x_1, .int (-99 : Int32), .int (99 : Int32)]) (rest := []) (st1 := [.int (fX12_isIn x_1 (-99 : Int32) (99 : Int32))]) C hK (tX12_isIn l E x_1 (-99 : Int32) (99 : Int32) (fX12_isIn x_1 (-99 : Int32) (99 : Int32)) rfl) lk_X12_202 ⟨rfl, rfl⟩ (by rw [hRf, hRl]; decide) ⟨Nat.zero_le _, Nat.zero_le _⟩ (PB.sub hB.1 [] rfl) (hB.old hD hN) (Nat.le_trans hN hB.2.2.1) rfl hl.1 rfl rfl (Nat.le_of_ble_eq_true rfl) dX12_push_14 ?_
    refine lv_if_ne (tgt := 24) hx hb dX12_push_17 (by decide) (fun c3 => ?_) (fun c3 => ?_)
    · have hf := (if_neg c3).symm.trans hf
      refine lv_aload_n hx hb dX12_push_24 rfl (lv_at hl 0 rfl) ?_
      obtain ⟨r4, hr4, hf⟩ := ox_bind hf
      refine cxVX (bs1 := (fun q => [wModel E a_M r4])) (As := []) (rest := []) (st1 := []) C hK (tX12_remember l E a_M u1 r4 hr4) lk_X12_493 (by rw [hRf, hRl]; decide) ⟨Nat.zero_le _, Nat.zero_le _⟩ hB hD hN [0] (by decide) rfl (fun _ => rfl) (fun _ => rfl) (rc_X12 hK (hB.1 0 _ rfl)) rfl hl.1 rfl rfl (Nat.le_of_ble_eq_true rfl) dX12_push_25 (fun H locs q5 hB => ?_)
      have hB : WB E ad s.heap [wModel E a_M r4] H locs := hB
      refine lv_aload_n hx hb dX12_push_28 rfl (lv_at hl 0 rfl) ?_
      refine gf_X12_X12_speed C hK (hB.1 0 _ rfl) dX12_push_29 ?_
      refine lv_iconst (v := 0) hx hb dX12_push_32 (by decide) ?_
      refine lv_aload_n hx hb dX12_push_33 rfl (lv_at hl 0 rfl) ?_
      refine gf_X12_X12_speed C hK (hB.1 0 _ rfl) dX12_push_34 ?_
      refine lv_iconst (v := 0) hx hb dX12_push_37 (by decide) ?_
      refine ld_X12_speed C hK (hB.1 0 _ rfl) (by decide) rfl dX12_push_38 ?_
      refine lv_iload_n hx hb dX12_push_39 rfl (lv_at hl 1 rfl) ?_
      refine lv_iadd hx hb dX12_push_40 ?_
      refine lv_bipush (v := (-99)) hx hb dX12_push_41 (by decide) ?_
      refine lv_bipush (v := 99) hx hb dX12_push_43 (by decide) ?_
      refine cxSP (As := [.int ((gA r4 55 0) + x_1), .int (-99 : Int32), .int (99 : Int32)]) (rest := [.int (0 : Int32), .ref (a_M 29)]) (st1 := [.int (fX12_bounded_ ((gA r4 55 0) + x_1) (-99 : Int32) (99 : Int32)), .int (0 : Int32), .ref (a_M 29)]) C hK (tX12_bounded_ l E ((gA r4 55 0) + x_1) (-99 : Int32) (99 : Int32) (fX12_bounded_ ((gA r4 55 0) + x_1) (-99 : Int32) (99 : Int32)) rfl) lk_X12_458 ⟨rfl, rfl⟩ (by rw [hRf, hRl]; decide) ⟨Nat.zero_le _, Nat.zero_le _⟩ (PB.sub hB.1 [] rfl) (hB.old hD hN) (Nat.le_trans hN hB.2.2.1) rfl hl.1 rfl rfl (Nat.le_of_ble_eq_true rfl) dX12_push_45 ?_
      refine lv_topi (fun x6 ex6 => ?_)
      have hf := ox_lt ex6 hf
      refine st_X12_speed C hK hB hD 0 rfl (by decide) rfl dX12_push_48 (fun H locs u7 eu7 hB => ?_)
      have hf := ox_lt eu7 hf
      have hB : WB E ad s.heap [wModel E a_M u7] H locs := hB
      refine lv_aload_n hx hb dX12_push_49 rfl (lv_at hl 0 rfl) ?_
      refine gf_X12_X12_speed C hK (hB.1 0 _ rfl) dX12_push_50 ?_
      refine lv_iconst (v := 0) hx hb dX12_push_53 (by decide) ?_
      refine ld_X12_speed C hK (hB.1 0 _ rfl) (by decide) rfl dX12_push_54 ?_
      have hf := Option.some.inj hf
      subst hf
      exact hQ _ _ H locs (fun _ => 0) hB dX12_push_55
    · have hf := (if_pos c3).symm.trans hf
      refine lv_ldcw (v := -2147483648) hx hb C.2.2.2.1 (C.2.2.2.2 _ mw_1785) dX12_push_20 ?_
      have hf := Option.some.inj hf
      subst hf
      exact hQ _ _ H locs (fun _ => 0) hB dX12_push_23
set_option maxHeartbeats 4000000 in
set_option maxRecDepth 20000 in
theorem tX12_go (l : Launch) (E : Ev) (a_M : Nat → Nat) (u_M : St) (x_1 : Int32) (res : Int32 × St) (hf : fX12_go u_M x_1 = some res) : MX l E yX12_go cX12_go 3 (some .int) (rmm 7 171) [wModel E a_M u_M] (fun q => [wModel E a_M res.2]) [.ref (a_M 0), .int x_1] (some (.int res.1)) := by
  unfold fX12_go at hf
  refine MX.ofI rfl (by decide) (Nat.le_of_ble_eq_true rfl) ?_
  intro p e R s m args below meth c ls Q ad H hRf hRl C hB hD hK hN hl hQ
  generalize hlocs : ([] : List Loc) = locs at hB ⊢
  clear hlocs
  have hx := C.1
  have hb := C.2.1
  have hl : lv_has ls 3 [(0, .ref (a_M 0)), (1, .int x_1)] := hl
  refine lv_aload_n hx hb dX12_go_0 rfl (lv_at hl 0 rfl) ?_
  refine lv_iconst (v := 0) hx hb dX12_go_1 (by decide) ?_
  refine pf_X12_X12_thrown C hK hB hD 0 rfl dX12_go_2 (fun H locs u1 eu1 hB => ?_)
  have hf := ox_lt eu1 hf
  have hB : WB E ad s.heap [wModel E a_M u1] H locs := hB
  refine lv_iload_n hx hb dX12_go_5 rfl (lv_at hl 1 rfl) ?_
  refine lv_iconst (v := 0) hx hb dX12_go_6 (by decide) ?_
  refine lv_sipush (v := 200) hx hb dX12_go_7 (by decide) ?_
  refine cxSP (As := [.int x_1, .int (0 : Int32), .int (200 : Int32)]) (rest := []) (st1 := [.int (fX12_isIn x_1 (0 : Int32) (200 : Int32))]) C hK (tX12_isIn l E x_1 (0 : Int32) (200 : Int32) (fX12_isIn x_1 (0 : Int32) (200 : Int32)) rfl) lk_X12_202 ⟨rfl, rfl⟩ (by rw [hRf, hRl]; decide) ⟨Nat.zero_le _, Nat.zero_le _⟩ (PB.sub hB.1 [] rfl) (hB.old hD hN) (Nat.le_trans hN hB.2.2.1) rfl hl.1 rfl rfl (Nat.le_of_ble_eq_true rfl) dX12_go_10 ?_
  refine lv_if_eq (tgt := 30) hx hb dX12_go_13 (by decide) (fun c2 => ?_) (fun c2 => ?_)
  · have hf := (if_pos c2).symm.trans hf
    refine lv_iconst (v := (-1)) hx hb dX12_go_30 (by decide) ?_
    have hf := Option.some.inj hf
    subst hf
    exact hQ _ _ H locs (fun _ => 0) hB dX12_go_31
  · have hf := (if_neg c2).symm.trans hf
    refine lv_aload_n hx hb dX12_go_16 rfl (lv_at hl 0 rfl) ?_
    refine gf_X12_X12_minute C hK (hB.1 0 _ rfl) dX12_go_17 ?_
    refine lv_iconst (v := 0) hx hb dX12_go_20 (by decide) ?_
    refine ld_X12_minute C hK (hB.1 0 _ rfl) (by decide) rfl dX12_go_21 ?_
    refine lv_iload_n hx hb dX12_go_22 rfl (lv_at hl 1 rfl) ?_
    refine lv_iadd hx hb dX12_go_23 ?_
    refine lv_sipush (v := 9000) hx hb dX12_go_24 (by decide) ?_
    refine lv_icmp_le (tgt := 32) hx hb dX12_go_27 (by decide) (fun c3 => ?_) (fun c3 => ?_)
    · have hf := (if_pos c3).symm.trans hf
      refine lv_aload_n hx hb dX12_go_32 rfl (lv_at hl 0 rfl) ?_
      obtain ⟨r4, er4, hf⟩ := ox_ex hf
      refine cxVX (bs1 := (fun q => [wModel E a_M r4])) (As := []) (rest := []) (st1 := []) C hK (tX12_plainTried l E a_M u1 r4 er4.symm) lk_X12_365 (by rw [hRf, hRl]; decide) ⟨Nat.zero_le _, Nat.zero_le _⟩ hB hD hN [0] (by decide) rfl (fun _ => rfl) (fun _ => rfl) (rc_X12 hK (hB.1 0 _ rfl)) rfl hl.1 rfl rfl (Nat.le_of_ble_eq_true rfl) dX12_go_33 (fun H locs q5 hB => ?_)
      have hB : WB E ad s.heap [wModel E a_M r4] H locs := hB
      refine lv_aload_n hx hb dX12_go_36 rfl (lv_at hl 0 rfl) ?_
      refine lv_iconst (v := 1) hx hb dX12_go_37 (by decide) ?_
      refine pf_X12_X12_draws C hK hB hD 0 rfl (by decide) dX12_go_38 (fun H locs u6 eu6 hB => ?_)
      have hf := ox_lt eu6 hf
      have hB : WB E ad s.heap [wModel E a_M u6] H locs := hB
      refine lv_iconst (v := 0) hx hb dX12_go_41 (by decide) ?_
      refine lv_istore_n (lv' := [(2, .int (0 : Int32)), (0, .ref (a_M 0)), (1, .int x_1)]) hx hb dX12_go_42 rfl hl (by decide) rfl (fun ls hl => ?_)
      obtain ⟨X1, hX1, hf⟩ := ox_bind hf
      have hexit1 : ∀ y13, y13 = X1 → ∀ (ls : Array Slot) (H : Heap) (locs : List Loc), lv_has ls 3 [(0, .ref (a_M 0)), (1, .int x_1)] → WB E ad s.heap [wModel E a_M y13] H locs → W p l e R s m args below meth c H locs 0 0 Q (F0 m 59 ls []) := by
        intro y13 hy ls H locs hl hB
        subst hy
        refine lv_aload_n hx hb dX12_go_59 rfl (lv_at hl 0 rfl) ?_
        refine lv_iconst (v := 0) hx hb dX12_go_60 (by decide) ?_
        refine pf_X12_X12_draws C hK hB hD 0 rfl (by decide) dX12_go_61 (fun H locs u14 eu14 hB => ?_)
        have hf := ox_lt eu14 hf
        have hB : WB E ad s.heap [wModel E a_M u14] H locs := hB
        refine lv_aload_n hx hb dX12_go_64 rfl (lv_at hl 0 rfl) ?_
        refine lv_iload_n hx hb dX12_go_65 rfl (lv_at hl 1 rfl) ?_
        obtain ⟨x15, ex15, hf⟩ := ox_ex hf
        have hjx15 : W p l e R s m args below meth c H locs 0 0 Q (F0 m 77 ls [.int x15, .ref (a_M 0)]) := by
          refine pf_X12_X12_undos C hK hB hD 0 rfl dX12_go_77 (fun H locs u16 eu16 hB => ?_)
          have hf := ox_lt eu16 hf
          have hB : WB E ad s.heap [wModel E a_M u16] H locs := hB
          refine lv_aload_n hx hb dX12_go_80 rfl (lv_at hl 0 rfl) ?_
          refine gf_X12_X12_minute C hK (hB.1 0 _ rfl) dX12_go_81 ?_
          refine lv_iconst (v := 0) hx hb dX12_go_84 (by decide) ?_
          refine ld_X12_minute C hK (hB.1 0 _ rfl) (by decide) rfl dX12_go_85 ?_
          have hf := Option.some.inj hf
          subst hf
          exact hQ _ _ H locs (fun _ => 0) hB dX12_go_86
        refine lv_if_le (tgt := 73) hx hb dX12_go_66 (by decide) (fun c17 => ?_) (fun c17 => ?_)
        · refine lv_aload_n hx hb dX12_go_73 rfl (lv_at hl 0 rfl) ?_
          refine gf_X12_X12_undos C hK (hB.1 0 _ rfl) dX12_go_74 ?_
          exact ox_topi ((ex15).trans (if_pos c17)).symm hjx15
        · refine lv_iconst (v := 0) hx hb dX12_go_69 (by decide) ?_
          refine lv_goto (tgt := 77) hx hb dX12_go_70 (by decide) ?_
          exact ox_topi ((ex15).trans (if_neg c17)).symm hjx15
      have hloop1 : ∀ (nf : Nat) (x7 : Int32) (u8 : St) (ls : Array Slot) (H : Heap) (locs : List Loc), lv_has ls 3 [(0, .ref (a_M 0)), (1, .int x_1), (2, .int x7)] → WB E ad s.heap [wModel E a_M u8] H locs → fX12_go_L1 x_1 nf x7 u8 = some X1 → W p l e R s m args below meth c H locs 0 0 Q (F0 m 43 ls []) := by
        intro nf
        induction nf with
        | zero =>
          intro x7 u8 ls H locs hl hB hf
          simp [fX12_go_L1] at hf
        | succ nf ih =>
          intro x7 u8 ls H locs hl hB hf
          rw [fX12_go_L1] at hf
          refine lv_iload_n hx hb dX12_go_43 rfl (lv_at hl 2 rfl) ?_
          refine lv_iload_n hx hb dX12_go_44 rfl (lv_at hl 1 rfl) ?_
          refine lv_icmp_ge (tgt := 59) hx hb dX12_go_45 (by decide) (fun c9 => ?_) (fun c9 => ?_)
          · have hf := (if_pos c9).symm.trans hf
            exact hexit1 _ (Option.some.inj hf) ls H locs (lv_sub hl [0, 1] rfl) hB
          · have hf := (if_neg c9).symm.trans hf
            refine lv_aload_n hx hb dX12_go_48 rfl (lv_at hl 0 rfl) ?_
            refine lv_iconst (v := 0) hx hb dX12_go_49 (by decide) ?_
            obtain ⟨r10, hr10, hf⟩ := ox_bind hf
            refine cxVX (bs1 := (fun q => [wModel E a_M r10])) (As := [.int (0 : Int32)]) (rest := []) (st1 := []) C hK (tX12_minuteGoes l E a_M u8 (0 : Int32) r10 hr10) lk_X12_473 (by rw [hRf, hRl]; decide) ⟨Nat.zero_le _, Nat.zero_le _⟩ hB hD hN [0] (by decide) rfl (fun _ => rfl) (fun _ => rfl) (rc_X12 hK (hB.1 0 _ rfl)) rfl hl.1 rfl rfl (Nat.le_of_ble_eq_true rfl) dX12_go_50 (fun H locs q11 hB => ?_)
            have hB : WB E ad s.heap [wModel E a_M r10] H locs := hB
            obtain ⟨x12, ex12⟩ : ∃ z : Int32, z = (x7 + 1) := ⟨_, rfl⟩
            have hf := ox_lt ex12 hf
            refine lv_iinc (v := x12) (lv' := [(2, .int x12), (0, .ref (a_M 0)), (1, .int x_1)]) hx hb dX12_go_53 hl (k := 2) rfl (by rw [ex12]; rfl) (by decide) rfl (fun ls hl => ?_)
            refine lv_goto (tgt := 43) hx hb dX12_go_56 (by decide) ?_
            exact ih _ _ ls H locs (lv_sub hl [1, 2, 0] rfl) hB hf
      exact hloop1 fuel _ _ ls H locs (lv_sub hl [1, 2, 0] rfl) hB hX1
    · have hf := (if_neg c3).symm.trans hf
      refine lv_iconst (v := (-1)) hx hb dX12_go_30 (by decide) ?_
      have hf := Option.some.inj hf
      subst hf
      exact hQ _ _ H locs (fun _ => 0) hB dX12_go_31
set_option maxHeartbeats 4000000 in
set_option maxRecDepth 20000 in
theorem tX12_ahead (l : Launch) (E : Ev) (a_M : Nat → Nat) (u_M : St) (x_1 : Int32) (x_2 : Int32) (x_3 : Int32) (res : Int32 × St) (hf : fX12_ahead u_M x_1 x_2 x_3 = some res) : MX l E yX12_ahead cX12_ahead 4 (some .int) (rmm 8 193) [wModel E a_M u_M] (fun q => [wModel E a_M res.2]) [.ref (a_M 0), .int x_1, .int x_2, .int x_3] (some (.int res.1)) := by
  unfold fX12_ahead at hf
  refine MX.ofI rfl (by decide) (Nat.le_of_ble_eq_true rfl) ?_
  intro p e R s m args below meth c ls Q ad H hRf hRl C hB hD hK hN hl hQ
  generalize hlocs : ([] : List Loc) = locs at hB ⊢
  clear hlocs
  have hx := C.1
  have hb := C.2.1
  have hl : lv_has ls 4 [(0, .ref (a_M 0)), (1, .int x_1), (2, .int x_2), (3, .int x_3)] := hl
  refine lv_aload_n hx hb dX12_ahead_0 rfl (lv_at hl 0 rfl) ?_
  refine lv_iconst (v := 0) hx hb dX12_ahead_1 (by decide) ?_
  refine pf_X12_X12_thrown C hK hB hD 0 rfl dX12_ahead_2 (fun H locs u1 eu1 hB => ?_)
  have hf := ox_lt eu1 hf
  have hB : WB E ad s.heap [wModel E a_M u1] H locs := hB
  refine lv_iload_n hx hb dX12_ahead_5 rfl (lv_at hl 1 rfl) ?_
  refine lv_iconst (v := 0) hx hb dX12_ahead_6 (by decide) ?_
  refine lv_sipush (v := 200) hx hb dX12_ahead_7 (by decide) ?_
  refine cxSP (As := [.int x_1, .int (0 : Int32), .int (200 : Int32)]) (rest := []) (st1 := [.int (fX12_isIn x_1 (0 : Int32) (200 : Int32))]) C hK (tX12_isIn l E x_1 (0 : Int32) (200 : Int32) (fX12_isIn x_1 (0 : Int32) (200 : Int32)) rfl) lk_X12_202 ⟨rfl, rfl⟩ (by rw [hRf, hRl]; decide) ⟨Nat.zero_le _, Nat.zero_le _⟩ (PB.sub hB.1 [] rfl) (hB.old hD hN) (Nat.le_trans hN hB.2.2.1) rfl hl.1 rfl rfl (Nat.le_of_ble_eq_true rfl) dX12_ahead_10 ?_
  refine lv_if_eq (tgt := 51) hx hb dX12_ahead_13 (by decide) (fun c2 => ?_) (fun c2 => ?_)
  · have hf := (if_pos c2).symm.trans hf
    refine lv_ldcw (v := -2147483648) hx hb C.2.2.2.1 (C.2.2.2.2 _ mw_1785) dX12_ahead_51 ?_
    have hf := Option.some.inj hf
    subst hf
    exact hQ _ _ H locs (fun _ => 0) hB dX12_ahead_54
  · have hf := (if_neg c2).symm.trans hf
    refine lv_iload_n hx hb dX12_ahead_16 rfl (lv_at hl 2 rfl) ?_
    refine lv_iconst (v := 0) hx hb dX12_ahead_17 (by decide) ?_
    refine lv_iconst (v := 4) hx hb dX12_ahead_18 (by decide) ?_
    refine cxSP (As := [.int x_2, .int (0 : Int32), .int (4 : Int32)]) (rest := []) (st1 := [.int (fX12_isIn x_2 (0 : Int32) (4 : Int32))]) C hK (tX12_isIn l E x_2 (0 : Int32) (4 : Int32) (fX12_isIn x_2 (0 : Int32) (4 : Int32)) rfl) lk_X12_202 ⟨rfl, rfl⟩ (by rw [hRf, hRl]; decide) ⟨Nat.zero_le _, Nat.zero_le _⟩ (PB.sub hB.1 [] rfl) (hB.old hD hN) (Nat.le_trans hN hB.2.2.1) rfl hl.1 rfl rfl (Nat.le_of_ble_eq_true rfl) dX12_ahead_19 ?_
    refine lv_if_eq (tgt := 51) hx hb dX12_ahead_22 (by decide) (fun c3 => ?_) (fun c3 => ?_)
    · have hf := (if_pos c3).symm.trans hf
      refine lv_ldcw (v := -2147483648) hx hb C.2.2.2.1 (C.2.2.2.2 _ mw_1785) dX12_ahead_51 ?_
      have hf := Option.some.inj hf
      subst hf
      exact hQ _ _ H locs (fun _ => 0) hB dX12_ahead_54
    · have hf := (if_neg c3).symm.trans hf
      refine lv_iload_n hx hb dX12_ahead_25 rfl (lv_at hl 2 rfl) ?_
      refine lv_iconst (v := 1) hx hb dX12_ahead_26 (by decide) ?_
      obtain ⟨j4, ej4, hf⟩ := ox_ex hf
      have hj4 : ∀ (ls : Array Slot) (H : Heap) (locs : List Loc), lv_has ls 4 [(0, .ref (a_M 0)), (1, .int x_1), (2, .int x_2), (3, .int x_3)] → WB E ad s.heap [wModel E a_M u1] H locs → j4 = some res → W p l e R s m args below meth c H locs 0 0 Q (F0 m 38 ls []) := by
        intro ls H locs hl hB hf
        have hf := ox_a0 ej4 hf
        refine lv_iload_n hx hb dX12_ahead_38 rfl (lv_at hl 2 rfl) ?_
        refine lv_iconst (v := 4) hx hb dX12_ahead_39 (by decide) ?_
        obtain ⟨j5, ej5, hf⟩ := ox_ex hf
        have hj5 : ∀ (ls : Array Slot) (H : Heap) (locs : List Loc), lv_has ls 4 [(0, .ref (a_M 0)), (1, .int x_1), (2, .int x_2), (3, .int x_3)] → WB E ad s.heap [wModel E a_M u1] H locs → j5 = some res → W p l e R s m args below meth c H locs 0 0 Q (F0 m 55 ls []) := by
          intro ls H locs hl hB hf
          have hf := ox_a0 ej5 hf
          refine lv_aload_n hx hb dX12_ahead_55 rfl (lv_at hl 0 rfl) ?_
          obtain ⟨r6, hr6, hf⟩ := ox_bind hf
          refine cxVX (bs1 := (fun q => [wModel E a_M r6])) (As := []) (rest := []) (st1 := []) C hK (tX12_layTried l E a_M u1 r6 hr6) lk_X12_497 (by rw [hRf, hRl]; decide) ⟨Nat.zero_le _, Nat.zero_le _⟩ hB hD hN [0] (by decide) rfl (fun _ => rfl) (fun _ => rfl) (rc_X12 hK (hB.1 0 _ rfl)) rfl hl.1 rfl rfl (Nat.le_of_ble_eq_true rfl) dX12_ahead_56 (fun H locs q7 hB => ?_)
          have hB : WB E ad s.heap [wModel E a_M r6] H locs := hB
          refine lv_aload_n hx hb dX12_ahead_59 rfl (lv_at hl 0 rfl) ?_
          refine lv_iload_n hx hb dX12_ahead_60 rfl (lv_at hl 1 rfl) ?_
          obtain ⟨r8, hr8, hf⟩ := ox_bind hf
          refine cxVX (bs1 := (fun q => [wModel E a_M r8])) (As := [.int x_1]) (rest := []) (st1 := []) C hK (tX12_goMany l E a_M r6 x_1 r8 hr8) lk_X12_500 (by rw [hRf, hRl]; decide) ⟨Nat.zero_le _, Nat.zero_le _⟩ hB hD hN [0] (by decide) rfl (fun _ => rfl) (fun _ => rfl) (rc_X12 hK (hB.1 0 _ rfl)) rfl hl.1 rfl rfl (Nat.le_of_ble_eq_true rfl) dX12_ahead_61 (fun H locs q9 hB => ?_)
          have hB : WB E ad s.heap [wModel E a_M r8] H locs := hB
          refine lv_iload_n hx hb dX12_ahead_64 rfl (lv_at hl 2 rfl) ?_
          by_cases c10 : x_2 = 0
          · have hf := (if_pos c10).symm.trans hf
            refine lv_tableIn hx hb dX12_ahead_65 (by rw [c10]; decide) (by rw [c10]; decide) (off := 31) (by rw [c10]; decide) (tgt := 96) (by decide) ?_
            refine lv_aload_n hx hb dX12_ahead_96 rfl (lv_at hl 0 rfl) ?_
            refine lv_iconst (v := 1) hx hb dX12_ahead_97 (by decide) ?_
            obtain ⟨r11, hr11, hf⟩ := ox_bind hf
            refine cxVP (As := [.int (1 : Int32)]) (rest := []) (st1 := [.int r11]) C hK (tX12_groundAll l E a_M r8 (1 : Int32) r11 hr11) lk_X12_410 ⟨rfl, rfl⟩ (by rw [hRf, hRl]; decide) ⟨Nat.zero_le _, Nat.zero_le _⟩ (PB.sub hB.1 [0] rfl) (hB.old hD hN) (Nat.le_trans hN hB.2.2.1) (rc_X12 hK (hB.1 0 _ rfl)) rfl hl.1 rfl rfl (Nat.le_of_ble_eq_true rfl) dX12_ahead_98 ?_
            have hf := Option.some.inj hf
            subst hf
            exact hQ _ _ H locs (fun _ => 0) hB dX12_ahead_101
          have hf := (if_neg c10).symm.trans hf
          by_cases c12 : x_2 = 1
          · have hf := (if_pos c12).symm.trans hf
            refine lv_tableIn hx hb dX12_ahead_65 (by rw [c12]; decide) (by rw [c12]; decide) (off := 37) (by rw [c12]; decide) (tgt := 102) (by decide) ?_
            refine lv_aload_n hx hb dX12_ahead_102 rfl (lv_at hl 0 rfl) ?_
            refine gf_X12_X12_ground C hK (hB.1 0 _ rfl) dX12_ahead_103 ?_
            refine lv_iconst (v := 4) hx hb dX12_ahead_106 (by decide) ?_
            refine lv_iload_n hx hb dX12_ahead_107 rfl (lv_at hl 3 rfl) ?_
            refine lv_iadd hx hb dX12_ahead_108 ?_
            obtain ⟨hn13, hf⟩ := ox_chk hf
            refine ld_X12_ground C hK (hB.1 0 _ rfl) hn13 rfl dX12_ahead_109 ?_
            have hf := Option.some.inj hf
            subst hf
            exact hQ _ _ H locs (fun _ => 0) hB dX12_ahead_110
          have hf := (if_neg c12).symm.trans hf
          by_cases c14 : x_2 = 2
          · have hf := (if_pos c14).symm.trans hf
            refine lv_tableIn hx hb dX12_ahead_65 (by rw [c14]; decide) (by rw [c14]; decide) (off := 46) (by rw [c14]; decide) (tgt := 111) (by decide) ?_
            refine lv_aload_n hx hb dX12_ahead_111 rfl (lv_at hl 0 rfl) ?_
            refine gf_X12_X12_speed C hK (hB.1 0 _ rfl) dX12_ahead_112 ?_
            refine lv_iconst (v := 1) hx hb dX12_ahead_115 (by decide) ?_
            refine ld_X12_speed C hK (hB.1 0 _ rfl) (by decide) rfl dX12_ahead_116 ?_
            have hf := Option.some.inj hf
            subst hf
            exact hQ _ _ H locs (fun _ => 0) hB dX12_ahead_117
          have hf := (if_neg c14).symm.trans hf
          by_cases c15 : x_2 = 3
          · have hf := (if_pos c15).symm.trans hf
            refine lv_tableIn hx hb dX12_ahead_65 (by rw [c15]; decide) (by rw [c15]; decide) (off := 53) (by rw [c15]; decide) (tgt := 118) (by decide) ?_
            refine lv_aload_n hx hb dX12_ahead_118 rfl (lv_at hl 0 rfl) ?_
            refine gf_X12_X12_refused C hK (hB.1 0 _ rfl) dX12_ahead_119 ?_
            refine lv_iconst (v := 1) hx hb dX12_ahead_122 (by decide) ?_
            refine ld_X12_refused C hK (hB.1 0 _ rfl) (by decide) rfl dX12_ahead_123 ?_
            refine lv_aload_n hx hb dX12_ahead_124 rfl (lv_at hl 0 rfl) ?_
            refine gf_X12_X12_refused C hK (hB.1 0 _ rfl) dX12_ahead_125 ?_
            refine lv_iconst (v := 0) hx hb dX12_ahead_128 (by decide) ?_
            refine ld_X12_refused C hK (hB.1 0 _ rfl) (by decide) rfl dX12_ahead_129 ?_
            refine lv_isub hx hb dX12_ahead_130 ?_
            have hf := Option.some.inj hf
            subst hf
            exact hQ _ _ H locs (fun _ => 0) hB dX12_ahead_131
          have hf := (if_neg c15).symm.trans hf
          have hd17 : W p l e R s m args below meth c H locs 0 0 Q (F0 m 132 ls []) := by
            refine lv_aload_n hx hb dX12_ahead_132 rfl (lv_at hl 0 rfl) ?_
            refine gf_X12_X12_tired C hK (hB.1 0 _ rfl) dX12_ahead_133 ?_
            refine lv_bipush (v := 6) hx hb dX12_ahead_136 (by decide) ?_
            refine lv_iload_n hx hb dX12_ahead_138 rfl (lv_at hl 3 rfl) ?_
            refine lv_iadd hx hb dX12_ahead_139 ?_
            obtain ⟨hn16, hf⟩ := ox_chk hf
            refine ld_X12_tired C hK (hB.1 0 _ rfl) hn16 rfl dX12_ahead_140 ?_
            have hf := Option.some.inj hf
            subst hf
            exact hQ _ _ H locs (fun _ => 0) hB dX12_ahead_141
          have nc10 := lv_neT c10 (show Int32.toInt 0 = 0 from rfl)
          have nc12 := lv_neT c12 (show Int32.toInt 1 = 1 from rfl)
          have nc14 := lv_neT c14 (show Int32.toInt 2 = 2 from rfl)
          have nc15 := lv_neT c15 (show Int32.toInt 3 = 3 from rfl)
          rcases (show Int32.toInt x_2 < 0 ∨ 3 < Int32.toInt x_2 by omega) with h | h
          · exact lv_tableOut hx hb dX12_ahead_65 (Or.inl h) (tgt := 132) (by decide) hd17
          · exact lv_tableOut hx hb dX12_ahead_65 (Or.inr h) (tgt := 132) (by decide) hd17
        refine lv_icmp_ne (tgt := 55) hx hb dX12_ahead_40 (by decide) (fun c18 => ?_) (fun c18 => ?_)
        · have hf := (if_neg c18).symm.trans hf
          exact hj5 ls H locs (lv_sub hl [0, 1, 2, 3] rfl) hB hf
        · have hf := (if_pos c18).symm.trans hf
          refine lv_aload_n hx hb dX12_ahead_43 rfl (lv_at hl 0 rfl) ?_
          refine lv_iload_n hx hb dX12_ahead_44 rfl (lv_at hl 3 rfl) ?_
          refine cxVP (As := [.int x_3]) (rest := []) (st1 := [.int (fX12_isGuest u1 x_3)]) C hK (tX12_isGuest l E a_M u1 x_3 (fX12_isGuest u1 x_3) rfl) lk_X12_476 ⟨rfl, rfl⟩ (by rw [hRf, hRl]; decide) ⟨Nat.zero_le _, Nat.zero_le _⟩ (PB.sub hB.1 [0] rfl) (hB.old hD hN) (Nat.le_trans hN hB.2.2.1) (rc_X12 hK (hB.1 0 _ rfl)) rfl hl.1 rfl rfl (Nat.le_of_ble_eq_true rfl) dX12_ahead_45 ?_
          refine lv_if_ne (tgt := 55) hx hb dX12_ahead_48 (by decide) (fun c19 => ?_) (fun c19 => ?_)
          · have hf := (if_neg c19).symm.trans hf
            exact hj5 ls H locs (lv_sub hl [0, 1, 2, 3] rfl) hB hf
          · have hf := (if_pos c19).symm.trans hf
            refine lv_ldcw (v := -2147483648) hx hb C.2.2.2.1 (C.2.2.2.2 _ mw_1785) dX12_ahead_51 ?_
            have hf := Option.some.inj hf
            subst hf
            exact hQ _ _ H locs (fun _ => 0) hB dX12_ahead_54
      refine lv_icmp_ne (tgt := 38) hx hb dX12_ahead_27 (by decide) (fun c20 => ?_) (fun c20 => ?_)
      · have hf := (if_neg c20).symm.trans hf
        exact hj4 ls H locs (lv_sub hl [0, 1, 2, 3] rfl) hB hf
      · have hf := (if_pos c20).symm.trans hf
        refine lv_aload_n hx hb dX12_ahead_30 rfl (lv_at hl 0 rfl) ?_
        refine lv_iload_n hx hb dX12_ahead_31 rfl (lv_at hl 3 rfl) ?_
        refine cxVP (As := [.int x_3]) (rest := []) (st1 := [.int (fX12_isGrain u1 x_3)]) C hK (tX12_isGrain l E a_M u1 x_3 (fX12_isGrain u1 x_3) rfl) lk_X12_488 ⟨rfl, rfl⟩ (by rw [hRf, hRl]; decide) ⟨Nat.zero_le _, Nat.zero_le _⟩ (PB.sub hB.1 [0] rfl) (hB.old hD hN) (Nat.le_trans hN hB.2.2.1) (rc_X12 hK (hB.1 0 _ rfl)) rfl hl.1 rfl rfl (Nat.le_of_ble_eq_true rfl) dX12_ahead_32 ?_
        refine lv_if_eq (tgt := 51) hx hb dX12_ahead_35 (by decide) (fun c21 => ?_) (fun c21 => ?_)
        · have hf := (if_pos c21).symm.trans hf
          refine lv_ldcw (v := -2147483648) hx hb C.2.2.2.1 (C.2.2.2.2 _ mw_1785) dX12_ahead_51 ?_
          have hf := Option.some.inj hf
          subst hf
          exact hQ _ _ H locs (fun _ => 0) hB dX12_ahead_54
        · have hf := (if_neg c21).symm.trans hf
          exact hj4 ls H locs (lv_sub hl [0, 1, 2, 3] rfl) hB hf
set_option maxHeartbeats 4000000 in
set_option maxRecDepth 20000 in
theorem tX12_flour (l : Launch) (E : Ev) (a_M : Nat → Nat) (u_M : St) (x_1 : Int32) (res : Int32 × St) (hf : fX12_flour u_M x_1 = some res) : MX l E yX12_flour cX12_flour 3 (some .int) (rmm 7 171) [wModel E a_M u_M] (fun q => [wModel E a_M res.2]) [.ref (a_M 0), .int x_1] (some (.int res.1)) := by
  unfold fX12_flour at hf
  refine MX.ofI rfl (by decide) (Nat.le_of_ble_eq_true rfl) ?_
  intro p e R s m args below meth c ls Q ad H hRf hRl C hB hD hK hN hl hQ
  generalize hlocs : ([] : List Loc) = locs at hB ⊢
  clear hlocs
  have hx := C.1
  have hb := C.2.1
  have hl : lv_has ls 3 [(0, .ref (a_M 0)), (1, .int x_1)] := hl
  refine lv_aload_n hx hb dX12_flour_0 rfl (lv_at hl 0 rfl) ?_
  refine lv_iconst (v := 0) hx hb dX12_flour_1 (by decide) ?_
  refine pf_X12_X12_thrown C hK hB hD 0 rfl dX12_flour_2 (fun H locs u1 eu1 hB => ?_)
  have hf := ox_lt eu1 hf
  have hB : WB E ad s.heap [wModel E a_M u1] H locs := hB
  refine lv_iload_n hx hb dX12_flour_5 rfl (lv_at hl 1 rfl) ?_
  refine lv_iconst (v := 0) hx hb dX12_flour_6 (by decide) ?_
  refine lv_sipush (v := 999) hx hb dX12_flour_7 (by decide) ?_
  refine cxSP (As := [.int x_1, .int (0 : Int32), .int (999 : Int32)]) (rest := []) (st1 := [.int (fX12_isIn x_1 (0 : Int32) (999 : Int32))]) C hK (tX12_isIn l E x_1 (0 : Int32) (999 : Int32) (fX12_isIn x_1 (0 : Int32) (999 : Int32)) rfl) lk_X12_202 ⟨rfl, rfl⟩ (by rw [hRf, hRl]; decide) ⟨Nat.zero_le _, Nat.zero_le _⟩ (PB.sub hB.1 [] rfl) (hB.old hD hN) (Nat.le_trans hN hB.2.2.1) rfl hl.1 rfl rfl (Nat.le_of_ble_eq_true rfl) dX12_flour_10 ?_
  refine lv_if_ne (tgt := 18) hx hb dX12_flour_13 (by decide) (fun c2 => ?_) (fun c2 => ?_)
  · have hf := (if_neg c2).symm.trans hf
    refine lv_aload_n hx hb dX12_flour_18 rfl (lv_at hl 0 rfl) ?_
    obtain ⟨r3, hr3, hf⟩ := ox_bind hf
    refine cxVX (bs1 := (fun q => [wModel E a_M r3])) (As := []) (rest := []) (st1 := []) C hK (tX12_layTried l E a_M u1 r3 hr3) lk_X12_497 (by rw [hRf, hRl]; decide) ⟨Nat.zero_le _, Nat.zero_le _⟩ hB hD hN [0] (by decide) rfl (fun _ => rfl) (fun _ => rfl) (rc_X12 hK (hB.1 0 _ rfl)) rfl hl.1 rfl rfl (Nat.le_of_ble_eq_true rfl) dX12_flour_19 (fun H locs q4 hB => ?_)
    have hB : WB E ad s.heap [wModel E a_M r3] H locs := hB
    refine lv_iconst (v := 0) hx hb dX12_flour_22 (by decide) ?_
    refine lv_istore_n (lv' := [(2, .int (0 : Int32)), (0, .ref (a_M 0)), (1, .int x_1)]) hx hb dX12_flour_23 rfl hl (by decide) rfl (fun ls hl => ?_)
    obtain ⟨X1, hX1, hf⟩ := ox_bind hf
    have hexit1 : ∀ y13, .inl y13 = X1 → ∀ (ls : Array Slot) (H : Heap) (locs : List Loc), lv_has ls 3 [] → WB E ad s.heap [wModel E a_M y13] H locs → W p l e R s m args below meth c H locs 0 0 Q (F0 m 53 ls []) := by
      intro y13 hy ls H locs hl hB
      subst hy
      have hf := ox_inl hf
      refine lv_bipush (v := (-2)) hx hb dX12_flour_53 (by decide) ?_
      have hf := Option.some.inj hf
      subst hf
      exact hQ _ _ H locs (fun _ => 0) hB dX12_flour_55
    have hret1 : ∀ r, .inr r = X1 → r = res := by
      intro r hr
      subst hr
      exact Option.some.inj (ox_inr hf)
    have hloop1 : ∀ (nf : Nat) (x5 : Int32) (u6 : St) (ls : Array Slot) (H : Heap) (locs : List Loc), lv_has ls 3 [(0, .ref (a_M 0)), (1, .int x_1), (2, .int x5)] → WB E ad s.heap [wModel E a_M u6] H locs → fX12_flour_L1 x_1 nf x5 u6 = some X1 → W p l e R s m args below meth c H locs 0 0 Q (F0 m 24 ls []) := by
      intro nf
      induction nf with
      | zero =>
        intro x5 u6 ls H locs hl hB hf
        simp [fX12_flour_L1] at hf
      | succ nf ih =>
        intro x5 u6 ls H locs hl hB hf
        rw [fX12_flour_L1] at hf
        refine lv_iload_n hx hb dX12_flour_24 rfl (lv_at hl 2 rfl) ?_
        refine lv_sipush (v := 200) hx hb dX12_flour_25 (by decide) ?_
        refine lv_icmp_ge (tgt := 53) hx hb dX12_flour_28 (by decide) (fun c7 => ?_) (fun c7 => ?_)
        · have hf := (if_pos c7).symm.trans hf
          exact hexit1 _ (Option.some.inj hf) ls H locs (lv_sub hl [] rfl) hB
        · have hf := (if_neg c7).symm.trans hf
          refine lv_aload_n hx hb dX12_flour_31 rfl (lv_at hl 0 rfl) ?_
          refine lv_iconst (v := 1) hx hb dX12_flour_32 (by decide) ?_
          obtain ⟨r8, hr8, hf⟩ := ox_bind hf
          refine cxVP (As := [.int (1 : Int32)]) (rest := []) (st1 := [.int r8]) C hK (tX12_groundAll l E a_M u6 (1 : Int32) r8 hr8) lk_X12_410 ⟨rfl, rfl⟩ (by rw [hRf, hRl]; decide) ⟨Nat.zero_le _, Nat.zero_le _⟩ (PB.sub hB.1 [0] rfl) (hB.old hD hN) (Nat.le_trans hN hB.2.2.1) (rc_X12 hK (hB.1 0 _ rfl)) rfl hl.1 rfl rfl (Nat.le_of_ble_eq_true rfl) dX12_flour_33 ?_
          refine lv_iload_n hx hb dX12_flour_36 rfl (lv_at hl 1 rfl) ?_
          refine lv_icmp_lt (tgt := 42) hx hb dX12_flour_37 (by decide) (fun c9 => ?_) (fun c9 => ?_)
          · have hf := (if_pos c9).symm.trans hf
            refine lv_aload_n hx hb dX12_flour_42 rfl (lv_at hl 0 rfl) ?_
            refine lv_iconst (v := 1) hx hb dX12_flour_43 (by decide) ?_
            obtain ⟨r10, hr10, hf⟩ := ox_bind hf
            refine cxVX (bs1 := (fun q => [wModel E a_M r10])) (As := [.int (1 : Int32)]) (rest := []) (st1 := []) C hK (tX12_minuteGoes l E a_M u6 (1 : Int32) r10 hr10) lk_X12_473 (by rw [hRf, hRl]; decide) ⟨Nat.zero_le _, Nat.zero_le _⟩ hB hD hN [0] (by decide) rfl (fun _ => rfl) (fun _ => rfl) (rc_X12 hK (hB.1 0 _ rfl)) rfl hl.1 rfl rfl (Nat.le_of_ble_eq_true rfl) dX12_flour_44 (fun H locs q11 hB => ?_)
            have hB : WB E ad s.heap [wModel E a_M r10] H locs := hB
            obtain ⟨x12, ex12⟩ : ∃ z : Int32, z = (x5 + 1) := ⟨_, rfl⟩
            have hf := ox_lt ex12 hf
            refine lv_iinc (v := x12) (lv' := [(2, .int x12), (0, .ref (a_M 0)), (1, .int x_1)]) hx hb dX12_flour_47 hl (k := 2) rfl (by rw [ex12]; rfl) (by decide) rfl (fun ls hl => ?_)
            refine lv_goto (tgt := 24) hx hb dX12_flour_50 (by decide) ?_
            exact ih _ _ ls H locs (lv_sub hl [1, 2, 0] rfl) hB hf
          · have hf := (if_neg c9).symm.trans hf
            refine lv_iload_n hx hb dX12_flour_40 rfl (lv_at hl 2 rfl) ?_
            have hf := hret1 _ (Option.some.inj hf)
            subst hf
            exact hQ _ _ H locs (fun _ => 0) hB dX12_flour_41
    exact hloop1 fuel _ _ ls H locs (lv_sub hl [1, 2, 0] rfl) hB hX1
  · have hf := (if_pos c2).symm.trans hf
    refine lv_iconst (v := (-1)) hx hb dX12_flour_16 (by decide) ?_
    have hf := Option.some.inj hf
    subst hf
    exact hQ _ _ H locs (fun _ => 0) hB dX12_flour_17
set_option maxHeartbeats 4000000 in
set_option maxRecDepth 20000 in
theorem tX12_layOrder (l : Launch) (E : Ev) (a_M : Nat → Nat) (u_M : St) (x_1 : Int32) (x_2 : Int32) (res : St) (hf : fX12_layOrder u_M x_1 x_2 = some res) : MX l E yX12_layOrder cX12_layOrder 9 none (rmm 1 21) [wModel E a_M u_M] (fun q => [wModel E a_M res]) [.ref (a_M 0), .int x_1, .int x_2] none := by
  unfold fX12_layOrder at hf
  refine MX.ofV rfl (by decide) (Nat.le_of_ble_eq_true rfl) ?_
  intro p e R s m args below meth c ls Q ad H hRf hRl C hB hD hK hN hl hQ
  generalize hlocs : ([] : List Loc) = locs at hB ⊢
  clear hlocs
  have hx := C.1
  have hb := C.2.1
  have hl : lv_has ls 9 [(0, .ref (a_M 0)), (1, .int x_1), (2, .int x_2)] := hl
  refine lv_iload_n hx hb dX12_layOrder_0 rfl (lv_at hl 1 rfl) ?_
  refine lv_istore_n (lv' := [(3, .int x_1), (0, .ref (a_M 0)), (1, .int x_1), (2, .int x_2)]) hx hb dX12_layOrder_1 rfl hl (by decide) rfl (fun ls hl => ?_)
  refine lv_iconst (v := 0) hx hb dX12_layOrder_2 (by decide) ?_
  refine lv_istore (lv' := [(4, .int (0 : Int32)), (3, .int x_1), (0, .ref (a_M 0)), (1, .int x_1), (2, .int x_2)]) hx hb dX12_layOrder_3 hl (by decide) rfl (fun ls hl => ?_)
  refine lv_iconst (v := 1) hx hb dX12_layOrder_5 (by decide) ?_
  refine lv_istore (lv' := [(5, .int (1 : Int32)), (4, .int (0 : Int32)), (3, .int x_1), (0, .ref (a_M 0)), (1, .int x_1), (2, .int x_2)]) hx hb dX12_layOrder_6 hl (by decide) rfl (fun ls hl => ?_)
  refine lv_iconst (v := 2) hx hb dX12_layOrder_8 (by decide) ?_
  refine lv_istore (lv' := [(6, .int (2 : Int32)), (5, .int (1 : Int32)), (4, .int (0 : Int32)), (3, .int x_1), (0, .ref (a_M 0)), (1, .int x_1), (2, .int x_2)]) hx hb dX12_layOrder_9 hl (by decide) rfl (fun ls hl => ?_)
  obtain ⟨X1, hX1, hf⟩ := ox_bind hf
  have hexit1 : ∀ y6, y6 = X1 → ∀ (ls : Array Slot) (H : Heap) (locs : List Loc), lv_has ls 9 [(0, .ref (a_M 0)), (2, .int x_2), (3, .int x_1), (4, .int (0 : Int32)), (5, .int y6)] → WB E ad s.heap [wModel E a_M u_M] H locs → W p l e R s m args below meth c H locs 0 0 Q (F0 m 30 ls []) := by
    intro y6 hy ls H locs hl hB
    subst hy
    refine lv_iconst (v := 0) hx hb dX12_layOrder_30 (by decide) ?_
    refine lv_istore (lv' := [(6, .int (0 : Int32)), (0, .ref (a_M 0)), (2, .int x_2), (3, .int x_1), (4, .int (0 : Int32)), (5, .int y6)]) hx hb dX12_layOrder_31 hl (by decide) rfl (fun ls hl => ?_)
    obtain ⟨X2, hX2, hf⟩ := ox_bind hf
    have hexit2 : ∀ y36, y36 = X2 → ∀ (ls : Array Slot) (H : Heap) (locs : List Loc), lv_has ls 9 [] → WB E ad s.heap [wModel E a_M y36] H locs → W p l e R s m args below meth c H locs 0 0 Q (F0 m 143 ls []) := by
      intro y36 hy ls H locs hl hB
      subst hy
      have hf := Option.some.inj hf
      subst hf
      exact hQ _ _ H locs (fun _ => 0) hB dX12_layOrder_143
    have hloop2 : ∀ (nf : Nat) (x7 : Int32) (x8 : Int32) (x9 : Int32) (x10 : Int32) (u11 : St) (ls : Array Slot) (H : Heap) (locs : List Loc), lv_has ls 9 [(0, .ref (a_M 0)), (2, .int x_2), (3, .int x7), (4, .int x8), (5, .int x9), (6, .int x10)] → WB E ad s.heap [wModel E a_M u11] H locs → fX12_layOrder_L2 x_2 nf x7 x8 x9 x10 u11 = some X2 → W p l e R s m args below meth c H locs 0 0 Q (F0 m 33 ls []) := by
      intro nf
      induction nf with
      | zero =>
        intro x7 x8 x9 x10 u11 ls H locs hl hB hf
        simp [fX12_layOrder_L2] at hf
      | succ nf ih =>
        intro x7 x8 x9 x10 u11 ls H locs hl hB hf
        rw [fX12_layOrder_L2] at hf
        refine lv_iload hx hb dX12_layOrder_33 (lv_at hl 5 rfl) ?_
        refine lv_iload_n hx hb dX12_layOrder_35 rfl (lv_at hl 1 rfl) ?_
        refine lv_icmp_ge (tgt := 143) hx hb dX12_layOrder_36 (by decide) (fun c12 => ?_) (fun c12 => ?_)
        · have hf := (if_pos c12).symm.trans hf
          exact hexit2 _ (Option.some.inj hf) ls H locs (lv_sub hl [] rfl) hB
        · have hf := (if_neg c12).symm.trans hf
          refine lv_iload_n hx hb dX12_layOrder_39 rfl (lv_at hl 2 rfl) ?_
          refine lv_iload hx hb dX12_layOrder_40 (lv_at hl 4 rfl) ?_
          obtain ⟨hn13, hf⟩ := ox_chk hf
          refine lv_idiv hx hb dX12_layOrder_42 hn13 ?_
          refine lv_topi (fun x14 ex14 => ?_)
          have hf := ox_lt ex14 hf
          refine lv_istore (lv' := [(7, .int x14), (0, .ref (a_M 0)), (2, .int x_2), (3, .int x7), (4, .int x8), (5, .int x9), (6, .int x10)]) hx hb dX12_layOrder_43 hl (by decide) rfl (fun ls hl => ?_)
          refine lv_iload_n hx hb dX12_layOrder_45 rfl (lv_at hl 3 rfl) ?_
          refine lv_iload hx hb dX12_layOrder_46 (lv_at hl 5 rfl) ?_
          obtain ⟨hn15, hf⟩ := ox_chk hf
          refine lv_irem hx hb dX12_layOrder_48 hn15 ?_
          refine lv_topi (fun x16 ex16 => ?_)
          have hf := ox_lt ex16 hf
          refine lv_istore_n (lv' := [(3, .int x16), (7, .int x14), (0, .ref (a_M 0)), (2, .int x_2), (4, .int x8), (5, .int x9), (6, .int x10)]) hx hb dX12_layOrder_49 rfl hl (by decide) rfl (fun ls hl => ?_)
          refine lv_iconst (v := 0) hx hb dX12_layOrder_50 (by decide) ?_
          refine lv_istore (lv' := [(8, .int (0 : Int32)), (3, .int x16), (7, .int x14), (0, .ref (a_M 0)), (2, .int x_2), (4, .int x8), (5, .int x9), (6, .int x10)]) hx hb dX12_layOrder_51 hl (by decide) rfl (fun ls hl => ?_)
          obtain ⟨X3, hX3, hf⟩ := ox_bind hf
          have hexit3 : ∀ y26, y26 = X3 → ∀ (ls : Array Slot) (H : Heap) (locs : List Loc), lv_has ls 9 [(0, .ref (a_M 0)), (2, .int x_2), (3, .int x16), (4, .int x8), (5, .int x9), (6, .int x10), (8, .int y26)] → WB E ad s.heap [wModel E a_M u11] H locs → W p l e R s m args below meth c H locs 0 0 Q (F0 m 94 ls []) := by
            intro y26 hy ls H locs hl hB
            subst hy
            refine lv_aload_n hx hb dX12_layOrder_94 rfl (lv_at hl 0 rfl) ?_
            refine gf_X12_X12_order C hK (hB.1 0 _ rfl) dX12_layOrder_95 ?_
            refine lv_iload hx hb dX12_layOrder_98 (lv_at hl 5 rfl) ?_
            refine lv_iload hx hb dX12_layOrder_100 (lv_at hl 6 rfl) ?_
            obtain ⟨hn27, hf⟩ := ox_chk hf
            refine st_X12_order C hK hB hD 0 rfl hn27 rfl dX12_layOrder_102 (fun H locs u28 eu28 hB => ?_)
            have hf := ox_lt eu28 hf
            have hB : WB E ad s.heap [wModel E a_M u28] H locs := hB
            refine lv_iload hx hb dX12_layOrder_103 (lv_at hl 3 rfl) ?_
            refine lv_iconst (v := 1) hx hb dX12_layOrder_105 (by decide) ?_
            refine lv_iload hx hb dX12_layOrder_106 (lv_at hl 6 rfl) ?_
            refine lv_ishl hx hb dX12_layOrder_108 ?_
            refine lv_ior hx hb dX12_layOrder_109 ?_
            refine lv_topi (fun x29 ex29 => ?_)
            have hf := ox_lt ex29 hf
            refine lv_istore (lv' := [(4, .int x29), (0, .ref (a_M 0)), (2, .int x_2), (3, .int x16), (5, .int x9), (6, .int x10), (8, .int y26)]) hx hb dX12_layOrder_110 hl (by decide) rfl (fun ls hl => ?_)
            refine lv_iload_n hx hb dX12_layOrder_112 rfl (lv_at hl 2 rfl) ?_
            refine lv_iconst (v := 1) hx hb dX12_layOrder_113 (by decide) ?_
            refine lv_isub hx hb dX12_layOrder_114 ?_
            refine lv_iload hx hb dX12_layOrder_115 (lv_at hl 5 rfl) ?_
            refine lv_isub hx hb dX12_layOrder_117 ?_
            refine lv_iconst (v := 1) hx hb dX12_layOrder_118 (by decide) ?_
            obtain ⟨j31, ej31, hf⟩ := ox_ex hf
            have hj31 : ∀ (x30 : Int32) (ls : Array Slot) (H : Heap) (locs : List Loc), lv_has ls 9 [(0, .ref (a_M 0)), (2, .int x_2), (3, .int x16), (4, .int x29), (6, .int x10)] → WB E ad s.heap [wModel E a_M u28] H locs → j31 x30 = some X2 → W p l e R s m args below meth c H locs 0 0 Q (F0 m 135 ls [.int x30]) := by
              intro x30 ls H locs hl hB hf
              have hf := ox_a1 ej31 hf
              refine lv_istore (lv' := [(5, .int x30), (0, .ref (a_M 0)), (2, .int x_2), (3, .int x16), (4, .int x29), (6, .int x10)]) hx hb dX12_layOrder_135 hl (by decide) rfl (fun ls hl => ?_)
              obtain ⟨x32, ex32⟩ : ∃ z : Int32, z = (x10 + 1) := ⟨_, rfl⟩
              have hf := ox_lt ex32 hf
              refine lv_iinc (v := x32) (lv' := [(6, .int x32), (5, .int x30), (0, .ref (a_M 0)), (2, .int x_2), (3, .int x16), (4, .int x29)]) hx hb dX12_layOrder_137 hl (k := 5) rfl (by rw [ex32]; rfl) (by decide) rfl (fun ls hl => ?_)
              refine lv_goto (tgt := 33) hx hb dX12_layOrder_140 (by decide) ?_
              exact ih _ _ _ _ _ ls H locs (lv_sub hl [2, 3, 4, 5, 1, 0] rfl) hB hf
            refine lv_icmp_le (tgt := 134) hx hb dX12_layOrder_119 (by decide) (fun c33 => ?_) (fun c33 => ?_)
            · have hf := (if_pos c33).symm.trans hf
              refine lv_iconst (v := 1) hx hb dX12_layOrder_134 (by decide) ?_
              exact hj31 _ ls H locs (lv_sub hl [1, 2, 3, 0, 5] rfl) hB hf
            · have hf := (if_neg c33).symm.trans hf
              refine lv_iload hx hb dX12_layOrder_122 (lv_at hl 4 rfl) ?_
              refine lv_iload_n hx hb dX12_layOrder_124 rfl (lv_at hl 2 rfl) ?_
              refine lv_iconst (v := 1) hx hb dX12_layOrder_125 (by decide) ?_
              refine lv_isub hx hb dX12_layOrder_126 ?_
              refine lv_iload hx hb dX12_layOrder_127 (lv_at hl 5 rfl) ?_
              refine lv_isub hx hb dX12_layOrder_129 ?_
              obtain ⟨hn34, hf⟩ := ox_chk hf
              refine lv_idiv hx hb dX12_layOrder_130 hn34 ?_
              refine lv_goto (tgt := 135) hx hb dX12_layOrder_131 (by decide) ?_
              exact hj31 _ ls H locs (lv_sub hl [1, 2, 3, 0, 5] rfl) hB hf
          have hloop3 : ∀ (nf : Nat) (x17 : Int32) (x18 : Int32) (ls : Array Slot) (H : Heap) (locs : List Loc), lv_has ls 9 [(0, .ref (a_M 0)), (2, .int x_2), (3, .int x16), (4, .int x8), (5, .int x9), (6, .int x10), (7, .int x17), (8, .int x18)] → WB E ad s.heap [wModel E a_M u11] H locs → fX12_layOrder_L3 x8 nf x17 x18 = some X3 → W p l e R s m args below meth c H locs 0 0 Q (F0 m 53 ls []) := by
            intro nf
            induction nf with
            | zero =>
              intro x17 x18 ls H locs hl hB hf
              simp [fX12_layOrder_L3] at hf
            | succ nf ih =>
              intro x17 x18 ls H locs hl hB hf
              rw [fX12_layOrder_L3] at hf
              refine lv_iload hx hb dX12_layOrder_53 (lv_at hl 3 rfl) ?_
              refine lv_iload hx hb dX12_layOrder_55 (lv_at hl 7 rfl) ?_
              refine cxSP (As := [.int x8, .int x18]) (rest := []) (st1 := [.int (fX12_isOf x8 x18)]) C hK (tX12_isOf l E x8 x18 (fX12_isOf x8 x18) rfl) lk_X12_503 ⟨rfl, rfl⟩ (by rw [hRf, hRl]; decide) ⟨Nat.zero_le _, Nat.zero_le _⟩ (PB.sub hB.1 [] rfl) (hB.old hD hN) (Nat.le_trans hN hB.2.2.1) rfl hl.1 rfl rfl (Nat.le_of_ble_eq_true rfl) dX12_layOrder_57 ?_
              obtain ⟨j19, ej19, hf⟩ := ox_ex hf
              have hj19 : ∀ (ls : Array Slot) (H : Heap) (locs : List Loc), lv_has ls 9 [(0, .ref (a_M 0)), (2, .int x_2), (3, .int x16), (4, .int x8), (5, .int x9), (6, .int x10), (7, .int x17), (8, .int x18)] → WB E ad s.heap [wModel E a_M u11] H locs → j19 = some X3 → W p l e R s m args below meth c H locs 0 0 Q (F0 m 68 ls []) := by
                intro ls H locs hl hB hf
                have hf := ox_a0 ej19 hf
                refine lv_iload hx hb dX12_layOrder_68 (lv_at hl 6 rfl) ?_
                refine lv_iload hx hb dX12_layOrder_70 (lv_at hl 3 rfl) ?_
                refine lv_iload hx hb dX12_layOrder_72 (lv_at hl 7 rfl) ?_
                refine cxSP (As := [.int x8, .int x18]) (rest := [.int x17]) (st1 := [.int (fX12_isOf x8 x18), .int x17]) C hK (tX12_isOf l E x8 x18 (fX12_isOf x8 x18) rfl) lk_X12_503 ⟨rfl, rfl⟩ (by rw [hRf, hRl]; decide) ⟨Nat.zero_le _, Nat.zero_le _⟩ (PB.sub hB.1 [] rfl) (hB.old hD hN) (Nat.le_trans hN hB.2.2.1) rfl hl.1 rfl rfl (Nat.le_of_ble_eq_true rfl) dX12_layOrder_74 ?_
                obtain ⟨x20, ex20, hf⟩ := ox_ex hf
                have hjx20 : W p l e R s m args below meth c H locs 0 0 Q (F0 m 85 ls [.int x20, .int x17]) := by
                  refine lv_isub hx hb dX12_layOrder_85 ?_
                  refine lv_topi (fun x21 ex21 => ?_)
                  have hf := ox_lt ex21 hf
                  refine lv_istore (lv' := [(7, .int x21), (0, .ref (a_M 0)), (2, .int x_2), (3, .int x16), (4, .int x8), (5, .int x9), (6, .int x10), (8, .int x18)]) hx hb dX12_layOrder_86 hl (by decide) rfl (fun ls hl => ?_)
                  obtain ⟨x22, ex22⟩ : ∃ z : Int32, z = (x18 + 1) := ⟨_, rfl⟩
                  have hf := ox_lt ex22 hf
                  refine lv_iinc (v := x22) (lv' := [(8, .int x22), (7, .int x21), (0, .ref (a_M 0)), (2, .int x_2), (3, .int x16), (4, .int x8), (5, .int x9), (6, .int x10)]) hx hb dX12_layOrder_88 hl (k := 7) rfl (by rw [ex22]; rfl) (by decide) rfl (fun ls hl => ?_)
                  refine lv_goto (tgt := 53) hx hb dX12_layOrder_91 (by decide) ?_
                  exact ih _ _ ls H locs (lv_sub hl [2, 3, 4, 5, 6, 7, 1, 0] rfl) hB hf
                refine lv_if_eq (tgt := 84) hx hb dX12_layOrder_77 (by decide) (fun c23 => ?_) (fun c23 => ?_)
                · refine lv_iconst (v := 1) hx hb dX12_layOrder_84 (by decide) ?_
                  exact ox_topi ((ex20).trans (if_pos c23)).symm hjx20
                · refine lv_iconst (v := 0) hx hb dX12_layOrder_80 (by decide) ?_
                  refine lv_goto (tgt := 85) hx hb dX12_layOrder_81 (by decide) ?_
                  exact ox_topi ((ex20).trans (if_neg c23)).symm hjx20
              refine lv_if_ne (tgt := 68) hx hb dX12_layOrder_60 (by decide) (fun c24 => ?_) (fun c24 => ?_)
              · have hf := (if_neg c24).symm.trans hf
                exact hj19 ls H locs (lv_sub hl [0, 1, 2, 3, 4, 5, 6, 7] rfl) hB hf
              · have hf := (if_pos c24).symm.trans hf
                refine lv_iload hx hb dX12_layOrder_63 (lv_at hl 6 rfl) ?_
                refine lv_if_le (tgt := 94) hx hb dX12_layOrder_65 (by decide) (fun c25 => ?_) (fun c25 => ?_)
                · have hf := (if_pos c25).symm.trans hf
                  exact hexit3 _ (Option.some.inj hf) ls H locs (lv_sub hl [0, 1, 2, 3, 4, 5, 7] rfl) hB
                · have hf := (if_neg c25).symm.trans hf
                  exact hj19 ls H locs (lv_sub hl [0, 1, 2, 3, 4, 5, 6, 7] rfl) hB hf
          exact hloop3 fuel _ _ ls H locs (lv_sub hl [3, 4, 1, 5, 6, 7, 2, 0] rfl) hB hX3
    exact hloop2 fuel _ _ _ _ _ ls H locs (lv_sub hl [1, 2, 3, 4, 5, 0] rfl) hB hX2
  have hloop1 : ∀ (nf : Nat) (x1 : Int32) (x2 : Int32) (ls : Array Slot) (H : Heap) (locs : List Loc), lv_has ls 9 [(0, .ref (a_M 0)), (2, .int x_2), (3, .int x_1), (4, .int (0 : Int32)), (5, .int x1), (6, .int x2)] → WB E ad s.heap [wModel E a_M u_M] H locs → fX12_layOrder_L1 x_2 nf x1 x2 = some X1 → W p l e R s m args below meth c H locs 0 0 Q (F0 m 11 ls []) := by
    intro nf
    induction nf with
    | zero =>
      intro x1 x2 ls H locs hl hB hf
      simp [fX12_layOrder_L1] at hf
    | succ nf ih =>
      intro x1 x2 ls H locs hl hB hf
      rw [fX12_layOrder_L1] at hf
      refine lv_iload hx hb dX12_layOrder_11 (lv_at hl 5 rfl) ?_
      refine lv_iload_n hx hb dX12_layOrder_13 rfl (lv_at hl 1 rfl) ?_
      refine lv_icmp_ge (tgt := 30) hx hb dX12_layOrder_14 (by decide) (fun c3 => ?_) (fun c3 => ?_)
      · have hf := (if_pos c3).symm.trans hf
        exact hexit1 _ (Option.some.inj hf) ls H locs (lv_sub hl [0, 1, 2, 3, 4] rfl) hB
      · have hf := (if_neg c3).symm.trans hf
        refine lv_iload hx hb dX12_layOrder_17 (lv_at hl 4 rfl) ?_
        refine lv_iload hx hb dX12_layOrder_19 (lv_at hl 5 rfl) ?_
        refine lv_imul hx hb dX12_layOrder_21 ?_
        refine lv_topi (fun x4 ex4 => ?_)
        have hf := ox_lt ex4 hf
        refine lv_istore (lv' := [(5, .int x4), (0, .ref (a_M 0)), (2, .int x_2), (3, .int x_1), (4, .int (0 : Int32)), (6, .int x2)]) hx hb dX12_layOrder_22 hl (by decide) rfl (fun ls hl => ?_)
        obtain ⟨x5, ex5⟩ : ∃ z : Int32, z = (x2 + 1) := ⟨_, rfl⟩
        have hf := ox_lt ex5 hf
        refine lv_iinc (v := x5) (lv' := [(6, .int x5), (5, .int x4), (0, .ref (a_M 0)), (2, .int x_2), (3, .int x_1), (4, .int (0 : Int32))]) hx hb dX12_layOrder_24 hl (k := 5) rfl (by rw [ex5]; rfl) (by decide) rfl (fun ls hl => ?_)
        refine lv_goto (tgt := 11) hx hb dX12_layOrder_27 (by decide) ?_
        exact ih _ _ ls H locs (lv_sub hl [2, 3, 4, 5, 1, 0] rfl) hB hf
  exact hloop1 fuel _ _ ls H locs (lv_sub hl [4, 6, 3, 2, 1, 0] rfl) hB hX1
set_option maxHeartbeats 4000000 in
set_option maxRecDepth 20000 in
theorem tX12_ordersOf (l : Launch) (E : Ev) (x_0 : Int32) (res : Int32) (hf : fX12_ordersOf x_0 = some res) : MP l E yX12_ordersOf cX12_ordersOf 3 (some .int) (rmm 0 0) [] [.int x_0] (some (.int res)) := by
  unfold fX12_ordersOf at hf
  refine MP.ofI rfl (by decide) (Nat.le_of_ble_eq_true rfl) ?_
  intro p e R s m args below meth c ls Q hRf hRl C hP hK hN hl hQ
  have hx := C.1
  have hb := C.2.1
  have hl : lv_has ls 3 [(0, .int x_0)] := hl
  refine lv_iconst (v := 1) hx hb dX12_ordersOf_0 (by decide) ?_
  refine lv_istore_n (lv' := [(1, .int (1 : Int32)), (0, .int x_0)]) hx hb dX12_ordersOf_1 rfl hl (by decide) rfl (fun ls hl => ?_)
  refine lv_iconst (v := 2) hx hb dX12_ordersOf_2 (by decide) ?_
  refine lv_istore_n (lv' := [(2, .int (2 : Int32)), (1, .int (1 : Int32)), (0, .int x_0)]) hx hb dX12_ordersOf_3 rfl hl (by decide) rfl (fun ls hl => ?_)
  obtain ⟨X1, hX1, hf⟩ := ox_bind hf
  have hexit1 : ∀ y6, y6 = X1 → ∀ (ls : Array Slot), lv_has ls 3 [(1, .int y6)] → W p l e R s m args below meth c s.heap [] 0 0 Q (F0 m 19 ls []) := by
    intro y6 hy ls hl
    subst hy
    refine lv_iload_n hx hb dX12_ordersOf_19 rfl (lv_at hl 0 rfl) ?_
    have hf := Option.some.inj hf
    subst hf
    exact hQ _ _ dX12_ordersOf_20
  have hloop1 : ∀ (nf : Nat) (x1 : Int32) (x2 : Int32) (ls : Array Slot), lv_has ls 3 [(0, .int x_0), (1, .int x1), (2, .int x2)] → fX12_ordersOf_L1 x_0 nf x1 x2 = some X1 → W p l e R s m args below meth c s.heap [] 0 0 Q (F0 m 4 ls []) := by
    intro nf
    induction nf with
    | zero =>
      intro x1 x2 ls hl hf
      simp [fX12_ordersOf_L1] at hf
    | succ nf ih =>
      intro x1 x2 ls hl hf
      rw [fX12_ordersOf_L1] at hf
      refine lv_iload_n hx hb dX12_ordersOf_4 rfl (lv_at hl 2 rfl) ?_
      refine lv_iload_n hx hb dX12_ordersOf_5 rfl (lv_at hl 0 rfl) ?_
      refine lv_icmp_gt (tgt := 19) hx hb dX12_ordersOf_6 (by decide) (fun c3 => ?_) (fun c3 => ?_)
      · have hf := (if_pos c3).symm.trans hf
        exact hexit1 _ (Option.some.inj hf) ls (lv_sub hl [1] rfl)
      · have hf := (if_neg c3).symm.trans hf
        refine lv_iload_n hx hb dX12_ordersOf_9 rfl (lv_at hl 1 rfl) ?_
        refine lv_iload_n hx hb dX12_ordersOf_10 rfl (lv_at hl 2 rfl) ?_
        refine lv_imul hx hb dX12_ordersOf_11 ?_
        refine lv_topi (fun x4 ex4 => ?_)
        have hf := ox_lt ex4 hf
        refine lv_istore_n (lv' := [(1, .int x4), (0, .int x_0), (2, .int x2)]) hx hb dX12_ordersOf_12 rfl hl (by decide) rfl (fun ls hl => ?_)
        obtain ⟨x5, ex5⟩ : ∃ z : Int32, z = (x2 + 1) := ⟨_, rfl⟩
        have hf := ox_lt ex5 hf
        refine lv_iinc (v := x5) (lv' := [(2, .int x5), (1, .int x4), (0, .int x_0)]) hx hb dX12_ordersOf_13 hl (k := 2) rfl (by rw [ex5]; rfl) (by decide) rfl (fun ls hl => ?_)
        refine lv_goto (tgt := 4) hx hb dX12_ordersOf_16 (by decide) ?_
        exact ih _ _ ls (lv_sub hl [2, 1, 0] rfl) hf
  exact hloop1 fuel _ _ ls (lv_sub hl [2, 1, 0] rfl) hX1
set_option maxHeartbeats 4000000 in
set_option maxRecDepth 20000 in
theorem tX12_billMany (l : Launch) (E : Ev) (a_M : Nat → Nat) (u_M : St) (res : Int32) (hf : fX12_billMany u_M = res) : MP l E yX12_billMany cX12_billMany 1 (some .int) (rmm 0 0) [wModel E a_M u_M] [.ref (a_M 0)] (some (.int res)) := by
  unfold fX12_billMany at hf
  refine MP.ofI rfl (by decide) (Nat.le_of_ble_eq_true rfl) ?_
  intro p e R s m args below meth c ls Q hRf hRl C hP hK hN hl hQ
  have hx := C.1
  have hb := C.2.1
  have hl : lv_has ls 1 [(0, .ref (a_M 0))] := hl
  refine lv_aload_n hx hb dX12_billMany_0 rfl (lv_at hl 0 rfl) ?_
  refine gf_X12_X12_acts C hK (hP 0 _ rfl) dX12_billMany_1 ?_
  refine lv_iconst (v := 4) hx hb dX12_billMany_4 (by decide) ?_
  obtain ⟨x1, ex1, hf⟩ := ox_ex hf
  have hjx1 : W p l e R s m args below meth c s.heap [] 0 0 Q (F0 m 16 ls [.int x1]) := by
    subst hf
    exact hQ _ _ dX12_billMany_16
  refine lv_icmp_ge (tgt := 15) hx hb dX12_billMany_5 (by decide) (fun c2 => ?_) (fun c2 => ?_)
  · refine lv_iconst (v := 4) hx hb dX12_billMany_15 (by decide) ?_
    exact ox_topi ((ex1).trans (if_pos c2)).symm hjx1
  · refine lv_aload_n hx hb dX12_billMany_8 rfl (lv_at hl 0 rfl) ?_
    refine gf_X12_X12_acts C hK (hP 0 _ rfl) dX12_billMany_9 ?_
    refine lv_goto (tgt := 16) hx hb dX12_billMany_12 (by decide) ?_
    exact ox_topi ((ex1).trans (if_neg c2)).symm hjx1
set_option maxHeartbeats 4000000 in
set_option maxRecDepth 20000 in
theorem tX12_groundBy (l : Launch) (E : Ev) (a_M : Nat → Nat) (u_M : St) (x_1 : Int32) (res : Int32 × St) (hf : fX12_groundBy u_M x_1 = some res) : MX l E yX12_groundBy cX12_groundBy 3 (some .int) (rmm 8 193) [wModel E a_M u_M] (fun q => [wModel E a_M res.2]) [.ref (a_M 0), .int x_1] (some (.int res.1)) := by
  unfold fX12_groundBy at hf
  refine MX.ofI rfl (by decide) (Nat.le_of_ble_eq_true rfl) ?_
  intro p e R s m args below meth c ls Q ad H hRf hRl C hB hD hK hN hl hQ
  generalize hlocs : ([] : List Loc) = locs at hB ⊢
  clear hlocs
  have hx := C.1
  have hb := C.2.1
  have hl : lv_has ls 3 [(0, .ref (a_M 0)), (1, .int x_1)] := hl
  refine lv_aload_n hx hb dX12_groundBy_0 rfl (lv_at hl 0 rfl) ?_
  obtain ⟨r1, hr1, hf⟩ := ox_bind hf
  refine cxVX (bs1 := (fun q => [wModel E a_M r1])) (As := []) (rest := []) (st1 := []) C hK (tX12_layTried l E a_M u_M r1 hr1) lk_X12_497 (by rw [hRf, hRl]; decide) ⟨Nat.zero_le _, Nat.zero_le _⟩ hB hD hN [0] (by decide) rfl (fun _ => rfl) (fun _ => rfl) (rc_X12 hK (hB.1 0 _ rfl)) rfl hl.1 rfl rfl (Nat.le_of_ble_eq_true rfl) dX12_groundBy_1 (fun H locs q2 hB => ?_)
  have hB : WB E ad s.heap [wModel E a_M r1] H locs := hB
  refine lv_aload_n hx hb dX12_groundBy_4 rfl (lv_at hl 0 rfl) ?_
  refine lv_iload_n hx hb dX12_groundBy_5 rfl (lv_at hl 1 rfl) ?_
  refine lv_aload_n hx hb dX12_groundBy_6 rfl (lv_at hl 0 rfl) ?_
  refine cxVP (As := []) (rest := [.int x_1, .ref (a_M 0)]) (st1 := [.int (fX12_billMany r1), .int x_1, .ref (a_M 0)]) C hK (tX12_billMany l E a_M r1 (fX12_billMany r1) rfl) lk_X12_506 ⟨rfl, rfl⟩ (by rw [hRf, hRl]; decide) ⟨Nat.zero_le _, Nat.zero_le _⟩ (PB.sub hB.1 [0] rfl) (hB.old hD hN) (Nat.le_trans hN hB.2.2.1) (rc_X12 hK (hB.1 0 _ rfl)) rfl hl.1 rfl rfl (Nat.le_of_ble_eq_true rfl) dX12_groundBy_7 ?_
  obtain ⟨r3, hr3, hf⟩ := ox_bind hf
  refine cxVX (bs1 := (fun q => [wModel E a_M r3])) (As := [.int x_1, .int (fX12_billMany r1)]) (rest := []) (st1 := []) C hK (tX12_layOrder l E a_M r1 x_1 (fX12_billMany r1) r3 hr3) lk_X12_509 (by rw [hRf, hRl]; decide) ⟨Nat.zero_le _, Nat.zero_le _⟩ hB hD hN [0] (by decide) rfl (fun _ => rfl) (fun _ => rfl) (rc_X12 hK (hB.1 0 _ rfl)) rfl hl.1 rfl rfl (Nat.le_of_ble_eq_true rfl) dX12_groundBy_10 (fun H locs q4 hB => ?_)
  have hB : WB E ad s.heap [wModel E a_M r3] H locs := hB
  refine lv_aload_n hx hb dX12_groundBy_13 rfl (lv_at hl 0 rfl) ?_
  refine lv_iconst (v := 1) hx hb dX12_groundBy_14 (by decide) ?_
  refine pf_X12_X12_noShow C hK hB hD 0 rfl (by decide) dX12_groundBy_15 (fun H locs u5 eu5 hB => ?_)
  have hf := ox_lt eu5 hf
  have hB : WB E ad s.heap [wModel E a_M u5] H locs := hB
  refine lv_iconst (v := 0) hx hb dX12_groundBy_18 (by decide) ?_
  refine lv_istore_n (lv' := [(2, .int (0 : Int32)), (0, .ref (a_M 0)), (1, .int x_1)]) hx hb dX12_groundBy_19 rfl hl (by decide) rfl (fun ls hl => ?_)
  obtain ⟨X1, hX1, hf⟩ := ox_bind hf
  have hexit1 : ∀ y21, y21 = X1 → ∀ (ls : Array Slot) (H : Heap) (locs : List Loc), lv_has ls 3 [(0, .ref (a_M 0))] → WB E ad s.heap [wModel E a_M y21] H locs → W p l e R s m args below meth c H locs 0 0 Q (F0 m 78 ls []) := by
    intro y21 hy ls H locs hl hB
    subst hy
    refine lv_aload_n hx hb dX12_groundBy_78 rfl (lv_at hl 0 rfl) ?_
    refine lv_iconst (v := 1) hx hb dX12_groundBy_79 (by decide) ?_
    obtain ⟨r22, hr22, hf⟩ := ox_bind hf
    refine cxVP (As := [.int (1 : Int32)]) (rest := []) (st1 := [.int r22]) C hK (tX12_groundAll l E a_M y21 (1 : Int32) r22 hr22) lk_X12_410 ⟨rfl, rfl⟩ (by rw [hRf, hRl]; decide) ⟨Nat.zero_le _, Nat.zero_le _⟩ (PB.sub hB.1 [0] rfl) (hB.old hD hN) (Nat.le_trans hN hB.2.2.1) (rc_X12 hK (hB.1 0 _ rfl)) rfl hl.1 rfl rfl (Nat.le_of_ble_eq_true rfl) dX12_groundBy_80 ?_
    have hf := Option.some.inj hf
    subst hf
    exact hQ _ _ H locs (fun _ => 0) hB dX12_groundBy_83
  have hloop1 : ∀ (nf : Nat) (x6 : Int32) (u7 : St) (ls : Array Slot) (H : Heap) (locs : List Loc), lv_has ls 3 [(0, .ref (a_M 0)), (2, .int x6)] → WB E ad s.heap [wModel E a_M u7] H locs → fX12_groundBy_L1 nf x6 u7 = some X1 → W p l e R s m args below meth c H locs 0 0 Q (F0 m 20 ls []) := by
    intro nf
    induction nf with
    | zero =>
      intro x6 u7 ls H locs hl hB hf
      simp [fX12_groundBy_L1] at hf
    | succ nf ih =>
      intro x6 u7 ls H locs hl hB hf
      rw [fX12_groundBy_L1] at hf
      refine lv_iload_n hx hb dX12_groundBy_20 rfl (lv_at hl 1 rfl) ?_
      refine lv_aload_n hx hb dX12_groundBy_21 rfl (lv_at hl 0 rfl) ?_
      refine cxVP (As := []) (rest := [.int x6]) (st1 := [.int (fX12_billMany u7), .int x6]) C hK (tX12_billMany l E a_M u7 (fX12_billMany u7) rfl) lk_X12_506 ⟨rfl, rfl⟩ (by rw [hRf, hRl]; decide) ⟨Nat.zero_le _, Nat.zero_le _⟩ (PB.sub hB.1 [0] rfl) (hB.old hD hN) (Nat.le_trans hN hB.2.2.1) (rc_X12 hK (hB.1 0 _ rfl)) rfl hl.1 rfl rfl (Nat.le_of_ble_eq_true rfl) dX12_groundBy_22 ?_
      refine lv_icmp_ge (tgt := 78) hx hb dX12_groundBy_25 (by decide) (fun c8 => ?_) (fun c8 => ?_)
      · have hf := (if_pos c8).symm.trans hf
        exact hexit1 _ (Option.some.inj hf) ls H locs (lv_sub hl [0] rfl) hB
      · have hf := (if_neg c8).symm.trans hf
        refine lv_aload_n hx hb dX12_groundBy_28 rfl (lv_at hl 0 rfl) ?_
        refine gf_X12_X12_on C hK (hB.1 0 _ rfl) dX12_groundBy_29 ?_
        refine lv_iconst (v := 1) hx hb dX12_groundBy_32 (by decide) ?_
        refine lv_aload_n hx hb dX12_groundBy_33 rfl (lv_at hl 0 rfl) ?_
        refine gf_X12_X12_order C hK (hB.1 0 _ rfl) dX12_groundBy_34 ?_
        refine lv_iload_n hx hb dX12_groundBy_37 rfl (lv_at hl 1 rfl) ?_
        obtain ⟨hn9, hf⟩ := ox_chk hf
        refine ld_X12_order C hK (hB.1 0 _ rfl) hn9 rfl dX12_groundBy_38 ?_
        refine lv_topi (fun x10 ex10 => ?_)
        have hf := ox_lt ex10 hf
        refine st_X12_on C hK hB hD 0 rfl (by decide) rfl dX12_groundBy_39 (fun H locs u11 eu11 hB => ?_)
        have hf := ox_lt eu11 hf
        have hB : WB E ad s.heap [wModel E a_M u11] H locs := hB
        refine lv_aload_n hx hb dX12_groundBy_40 rfl (lv_at hl 0 rfl) ?_
        refine gf_X12_X12_onFor C hK (hB.1 0 _ rfl) dX12_groundBy_41 ?_
        refine lv_iconst (v := 1) hx hb dX12_groundBy_44 (by decide) ?_
        refine lv_aload_n hx hb dX12_groundBy_45 rfl (lv_at hl 0 rfl) ?_
        refine gf_X12_X12_actLength C hK (hB.1 0 _ rfl) dX12_groundBy_46 ?_
        refine lv_aload_n hx hb dX12_groundBy_49 rfl (lv_at hl 0 rfl) ?_
        refine gf_X12_X12_order C hK (hB.1 0 _ rfl) dX12_groundBy_50 ?_
        refine lv_iload_n hx hb dX12_groundBy_53 rfl (lv_at hl 1 rfl) ?_
        obtain ⟨hn12, hf⟩ := ox_chk hf
        refine ld_X12_order C hK (hB.1 0 _ rfl) hn12 rfl dX12_groundBy_54 ?_
        obtain ⟨hn13, hf⟩ := ox_chk hf
        refine ld_X12_actLength C hK (hB.1 0 _ rfl) hn13 rfl dX12_groundBy_55 ?_
        refine lv_topi (fun x14 ex14 => ?_)
        have hf := ox_lt ex14 hf
        refine st_X12_onFor C hK hB hD 0 rfl (by decide) rfl dX12_groundBy_56 (fun H locs u15 eu15 hB => ?_)
        have hf := ox_lt eu15 hf
        have hB : WB E ad s.heap [wModel E a_M u15] H locs := hB
        refine lv_aload_n hx hb dX12_groundBy_57 rfl (lv_at hl 0 rfl) ?_
        refine lv_aload_n hx hb dX12_groundBy_58 rfl (lv_at hl 0 rfl) ?_
        refine gf_X12_X12_actLength C hK (hB.1 0 _ rfl) dX12_groundBy_59 ?_
        refine lv_aload_n hx hb dX12_groundBy_62 rfl (lv_at hl 0 rfl) ?_
        refine gf_X12_X12_order C hK (hB.1 0 _ rfl) dX12_groundBy_63 ?_
        refine lv_iload_n hx hb dX12_groundBy_66 rfl (lv_at hl 1 rfl) ?_
        obtain ⟨hn16, hf⟩ := ox_chk hf
        refine ld_X12_order C hK (hB.1 0 _ rfl) hn16 rfl dX12_groundBy_67 ?_
        obtain ⟨hn17, hf⟩ := ox_chk hf
        refine ld_X12_actLength C hK (hB.1 0 _ rfl) hn17 rfl dX12_groundBy_68 ?_
        obtain ⟨r18, hr18, hf⟩ := ox_bind hf
        refine cxVX (bs1 := (fun q => [wModel E a_M r18])) (As := [.int (gA u15 26 ((gA u15 74 (x6).toNatClampNeg)).toNatClampNeg)]) (rest := []) (st1 := []) C hK (tX12_goMany l E a_M u15 (gA u15 26 ((gA u15 74 (x6).toNatClampNeg)).toNatClampNeg) r18 hr18) lk_X12_500 (by rw [hRf, hRl]; decide) ⟨Nat.zero_le _, Nat.zero_le _⟩ hB hD hN [0] (by decide) rfl (fun _ => rfl) (fun _ => rfl) (rc_X12 hK (hB.1 0 _ rfl)) rfl hl.1 rfl rfl (Nat.le_of_ble_eq_true rfl) dX12_groundBy_69 (fun H locs q19 hB => ?_)
        have hB : WB E ad s.heap [wModel E a_M r18] H locs := hB
        obtain ⟨x20, ex20⟩ : ∃ z : Int32, z = (x6 + 1) := ⟨_, rfl⟩
        have hf := ox_lt ex20 hf
        refine lv_iinc (v := x20) (lv' := [(2, .int x20), (0, .ref (a_M 0))]) hx hb dX12_groundBy_72 hl (k := 1) rfl (by rw [ex20]; rfl) (by decide) rfl (fun ls hl => ?_)
        refine lv_goto (tgt := 20) hx hb dX12_groundBy_75 (by decide) ?_
        exact ih _ _ ls H locs (lv_sub hl [1, 0] rfl) hB hf
  exact hloop1 fuel _ _ ls H locs (lv_sub hl [1, 0] rfl) hB hX1
set_option maxHeartbeats 4000000 in
set_option maxRecDepth 20000 in
theorem tX12_bill (l : Launch) (E : Ev) (a_M : Nat → Nat) (u_M : St) (x_1 : Int32) (res : Int32 × St) (hf : fX12_bill u_M x_1 = some res) : MX l E yX12_bill cX12_bill 6 (some .int) (rmm 9 215) [wModel E a_M u_M] (fun q => [wModel E a_M res.2]) [.ref (a_M 0), .int x_1] (some (.int res.1)) := by
  unfold fX12_bill at hf
  refine MX.ofI rfl (by decide) (Nat.le_of_ble_eq_true rfl) ?_
  intro p e R s m args below meth c ls Q ad H hRf hRl C hB hD hK hN hl hQ
  generalize hlocs : ([] : List Loc) = locs at hB ⊢
  clear hlocs
  have hx := C.1
  have hb := C.2.1
  have hl : lv_has ls 6 [(0, .ref (a_M 0)), (1, .int x_1)] := hl
  refine lv_aload_n hx hb dX12_bill_0 rfl (lv_at hl 0 rfl) ?_
  refine lv_iconst (v := 0) hx hb dX12_bill_1 (by decide) ?_
  refine pf_X12_X12_thrown C hK hB hD 0 rfl dX12_bill_2 (fun H locs u1 eu1 hB => ?_)
  have hf := ox_lt eu1 hf
  have hB : WB E ad s.heap [wModel E a_M u1] H locs := hB
  refine lv_iload_n hx hb dX12_bill_5 rfl (lv_at hl 1 rfl) ?_
  refine lv_iconst (v := 0) hx hb dX12_bill_6 (by decide) ?_
  refine lv_iconst (v := 4) hx hb dX12_bill_7 (by decide) ?_
  refine cxSP (As := [.int x_1, .int (0 : Int32), .int (4 : Int32)]) (rest := []) (st1 := [.int (fX12_isIn x_1 (0 : Int32) (4 : Int32))]) C hK (tX12_isIn l E x_1 (0 : Int32) (4 : Int32) (fX12_isIn x_1 (0 : Int32) (4 : Int32)) rfl) lk_X12_202 ⟨rfl, rfl⟩ (by rw [hRf, hRl]; decide) ⟨Nat.zero_le _, Nat.zero_le _⟩ (PB.sub hB.1 [] rfl) (hB.old hD hN) (Nat.le_trans hN hB.2.2.1) rfl hl.1 rfl rfl (Nat.le_of_ble_eq_true rfl) dX12_bill_8 ?_
  refine lv_if_ne (tgt := 16) hx hb dX12_bill_11 (by decide) (fun c2 => ?_) (fun c2 => ?_)
  · have hf := (if_neg c2).symm.trans hf
    refine lv_iload_n hx hb dX12_bill_16 rfl (lv_at hl 1 rfl) ?_
    refine lv_iconst (v := 4) hx hb dX12_bill_17 (by decide) ?_
    obtain ⟨j3, ej3, hf⟩ := ox_ex hf
    have hj3 : ∀ (ls : Array Slot) (H : Heap) (locs : List Loc), lv_has ls 6 [(0, .ref (a_M 0)), (1, .int x_1)] → WB E ad s.heap [wModel E a_M u1] H locs → j3 = some res → W p l e R s m args below meth c H locs 0 0 Q (F0 m 32 ls []) := by
      intro ls H locs hl hB hf
      have hf := ox_a0 ej3 hf
      refine lv_iconst (v := 0) hx hb dX12_bill_32 (by decide) ?_
      refine lv_istore_n (lv' := [(2, .int (0 : Int32)), (0, .ref (a_M 0)), (1, .int x_1)]) hx hb dX12_bill_33 rfl hl (by decide) rfl (fun ls hl => ?_)
      refine lv_aload_n hx hb dX12_bill_34 rfl (lv_at hl 1 rfl) ?_
      refine lv_iconst (v := 0) hx hb dX12_bill_35 (by decide) ?_
      obtain ⟨r4, hr4, hf⟩ := ox_bind hf
      refine cxVX (bs1 := (fun q => [wModel E a_M r4.2])) (As := [.int (0 : Int32)]) (rest := []) (st1 := [.int r4.1]) C hK (tX12_groundBy l E a_M u1 (0 : Int32) r4 hr4) lk_X12_512 (by rw [hRf, hRl]; decide) ⟨Nat.zero_le _, Nat.zero_le _⟩ hB hD hN [0] (by decide) rfl (fun _ => rfl) (fun _ => rfl) (rc_X12 hK (hB.1 0 _ rfl)) rfl hl.1 rfl rfl (Nat.le_of_ble_eq_true rfl) dX12_bill_36 (fun H locs q5 hB => ?_)
      have hB : WB E ad s.heap [wModel E a_M r4.2] H locs := hB
      refine lv_topi (fun x6 ex6 => ?_)
      have hf := ox_lt ex6 hf
      refine lv_istore_n (lv' := [(3, .int x6), (2, .int (0 : Int32)), (0, .ref (a_M 0)), (1, .int x_1)]) hx hb dX12_bill_39 rfl hl (by decide) rfl (fun ls hl => ?_)
      refine lv_iconst (v := 1) hx hb dX12_bill_40 (by decide) ?_
      refine lv_istore (lv' := [(4, .int (1 : Int32)), (3, .int x6), (2, .int (0 : Int32)), (0, .ref (a_M 0)), (1, .int x_1)]) hx hb dX12_bill_41 hl (by decide) rfl (fun ls hl => ?_)
      obtain ⟨X1, hX1, hf⟩ := ox_bind hf
      have hexit1 : ∀ y21, y21 = X1 → ∀ (ls : Array Slot) (H : Heap) (locs : List Loc), lv_has ls 6 [(0, .ref (a_M 0)), (1, .int x_1), (2, .int y21.1), (3, .int y21.2.1)] → WB E ad s.heap [wModel E a_M y21.2.2] H locs → W p l e R s m args below meth c H locs 0 0 Q (F0 m 84 ls []) := by
        intro y21 hy ls H locs hl hB
        subst hy
        refine lv_aload_n hx hb dX12_bill_84 rfl (lv_at hl 0 rfl) ?_
        obtain ⟨r22, er22, hf⟩ := ox_ex hf
        refine cxVX (bs1 := (fun q => [wModel E a_M r22])) (As := []) (rest := []) (st1 := []) C hK (tX12_plainTried l E a_M (y21.2.2) r22 er22.symm) lk_X12_365 (by rw [hRf, hRl]; decide) ⟨Nat.zero_le _, Nat.zero_le _⟩ hB hD hN [0] (by decide) rfl (fun _ => rfl) (fun _ => rfl) (rc_X12 hK (hB.1 0 _ rfl)) rfl hl.1 rfl rfl (Nat.le_of_ble_eq_true rfl) dX12_bill_85 (fun H locs q23 hB => ?_)
        have hB : WB E ad s.heap [wModel E a_M r22] H locs := hB
        refine lv_aload_n hx hb dX12_bill_88 rfl (lv_at hl 0 rfl) ?_
        refine lv_iload_n hx hb dX12_bill_89 rfl (lv_at hl 2 rfl) ?_
        refine lv_aload_n hx hb dX12_bill_90 rfl (lv_at hl 0 rfl) ?_
        refine cxVP (As := []) (rest := [.int y21.1, .ref (a_M 0)]) (st1 := [.int (fX12_billMany r22), .int y21.1, .ref (a_M 0)]) C hK (tX12_billMany l E a_M r22 (fX12_billMany r22) rfl) lk_X12_506 ⟨rfl, rfl⟩ (by rw [hRf, hRl]; decide) ⟨Nat.zero_le _, Nat.zero_le _⟩ (PB.sub hB.1 [0] rfl) (hB.old hD hN) (Nat.le_trans hN hB.2.2.1) (rc_X12 hK (hB.1 0 _ rfl)) rfl hl.1 rfl rfl (Nat.le_of_ble_eq_true rfl) dX12_bill_91 ?_
        obtain ⟨r24, hr24, hf⟩ := ox_bind hf
        refine cxVX (bs1 := (fun q => [wModel E a_M r24])) (As := [.int y21.1, .int (fX12_billMany r22)]) (rest := []) (st1 := []) C hK (tX12_layOrder l E a_M r22 (y21.1) (fX12_billMany r22) r24 hr24) lk_X12_509 (by rw [hRf, hRl]; decide) ⟨Nat.zero_le _, Nat.zero_le _⟩ hB hD hN [0] (by decide) rfl (fun _ => rfl) (fun _ => rfl) (rc_X12 hK (hB.1 0 _ rfl)) rfl hl.1 rfl rfl (Nat.le_of_ble_eq_true rfl) dX12_bill_94 (fun H locs q25 hB => ?_)
        have hB : WB E ad s.heap [wModel E a_M r24] H locs := hB
        refine lv_iload_n hx hb dX12_bill_97 rfl (lv_at hl 1 rfl) ?_
        refine lv_iconst (v := 4) hx hb dX12_bill_98 (by decide) ?_
        refine lv_icmp_ne (tgt := 106) hx hb dX12_bill_99 (by decide) (fun c26 => ?_) (fun c26 => ?_)
        · have hf := (if_neg c26).symm.trans hf
          refine lv_aload_n hx hb dX12_bill_106 rfl (lv_at hl 0 rfl) ?_
          refine gf_X12_X12_order C hK (hB.1 0 _ rfl) dX12_bill_107 ?_
          refine lv_iload_n hx hb dX12_bill_110 rfl (lv_at hl 1 rfl) ?_
          obtain ⟨hn27, hf⟩ := ox_chk hf
          refine ld_X12_order C hK (hB.1 0 _ rfl) hn27 rfl dX12_bill_111 ?_
          have hf := Option.some.inj hf
          subst hf
          exact hQ _ _ H locs (fun _ => 0) hB dX12_bill_112
        · have hf := (if_pos c26).symm.trans hf
          refine lv_iload_n hx hb dX12_bill_102 rfl (lv_at hl 3 rfl) ?_
          refine lv_goto (tgt := 112) hx hb dX12_bill_103 (by decide) ?_
          have hf := Option.some.inj hf
          subst hf
          exact hQ _ _ H locs (fun _ => 0) hB dX12_bill_112
      have hloop1 : ∀ (nf : Nat) (x7 : Int32) (x8 : Int32) (x9 : Int32) (u10 : St) (ls : Array Slot) (H : Heap) (locs : List Loc), lv_has ls 6 [(0, .ref (a_M 0)), (1, .int x_1), (2, .int x7), (3, .int x8), (4, .int x9)] → WB E ad s.heap [wModel E a_M u10] H locs → fX12_bill_L1 nf x7 x8 x9 u10 = some X1 → W p l e R s m args below meth c H locs 0 0 Q (F0 m 43 ls []) := by
        intro nf
        induction nf with
        | zero =>
          intro x7 x8 x9 u10 ls H locs hl hB hf
          simp [fX12_bill_L1] at hf
        | succ nf ih =>
          intro x7 x8 x9 u10 ls H locs hl hB hf
          rw [fX12_bill_L1] at hf
          refine lv_iload hx hb dX12_bill_43 (lv_at hl 4 rfl) ?_
          refine lv_aload_n hx hb dX12_bill_45 rfl (lv_at hl 0 rfl) ?_
          refine cxVP (As := []) (rest := [.int x9]) (st1 := [.int (fX12_billMany u10), .int x9]) C hK (tX12_billMany l E a_M u10 (fX12_billMany u10) rfl) lk_X12_506 ⟨rfl, rfl⟩ (by rw [hRf, hRl]; decide) ⟨Nat.zero_le _, Nat.zero_le _⟩ (PB.sub hB.1 [0] rfl) (hB.old hD hN) (Nat.le_trans hN hB.2.2.1) (rc_X12 hK (hB.1 0 _ rfl)) rfl hl.1 rfl rfl (Nat.le_of_ble_eq_true rfl) dX12_bill_46 ?_
          obtain ⟨r11, hr11, hf⟩ := ox_bind hf
          refine cxSP (As := [.int (fX12_billMany u10)]) (rest := [.int x9]) (st1 := [.int r11, .int x9]) C hK (tX12_ordersOf l E (fX12_billMany u10) r11 hr11) lk_X12_515 ⟨rfl, rfl⟩ (by rw [hRf, hRl]; decide) ⟨Nat.zero_le _, Nat.zero_le _⟩ (PB.sub hB.1 [] rfl) (hB.old hD hN) (Nat.le_trans hN hB.2.2.1) rfl hl.1 rfl rfl (Nat.le_of_ble_eq_true rfl) dX12_bill_49 ?_
          refine lv_icmp_ge (tgt := 84) hx hb dX12_bill_52 (by decide) (fun c12 => ?_) (fun c12 => ?_)
          · have hf := (if_pos c12).symm.trans hf
            exact hexit1 _ (Option.some.inj hf) ls H locs (lv_sub hl [0, 1, 2, 3] rfl) hB
          · have hf := (if_neg c12).symm.trans hf
            refine lv_aload_n hx hb dX12_bill_55 rfl (lv_at hl 0 rfl) ?_
            refine lv_iload hx hb dX12_bill_56 (lv_at hl 4 rfl) ?_
            obtain ⟨r13, hr13, hf⟩ := ox_bind hf
            refine cxVX (bs1 := (fun q => [wModel E a_M r13.2])) (As := [.int x9]) (rest := []) (st1 := [.int r13.1]) C hK (tX12_groundBy l E a_M u10 x9 r13 hr13) lk_X12_512 (by rw [hRf, hRl]; decide) ⟨Nat.zero_le _, Nat.zero_le _⟩ hB hD hN [0] (by decide) rfl (fun _ => rfl) (fun _ => rfl) (rc_X12 hK (hB.1 0 _ rfl)) rfl hl.1 rfl rfl (Nat.le_of_ble_eq_true rfl) dX12_bill_58 (fun H locs q14 hB => ?_)
            have hB : WB E ad s.heap [wModel E a_M r13.2] H locs := hB
            refine lv_topi (fun x15 ex15 => ?_)
            have hf := ox_lt ex15 hf
            refine lv_istore (lv' := [(5, .int x15), (0, .ref (a_M 0)), (1, .int x_1), (2, .int x7), (3, .int x8), (4, .int x9)]) hx hb dX12_bill_61 hl (by decide) rfl (fun ls hl => ?_)
            refine lv_iload hx hb dX12_bill_63 (lv_at hl 0 rfl) ?_
            refine lv_iload_n hx hb dX12_bill_65 rfl (lv_at hl 4 rfl) ?_
            obtain ⟨j18, ej18, hf⟩ := ox_ex hf
            have hj18 : ∀ (x16 : Int32) (x17 : Int32) (ls : Array Slot) (H : Heap) (locs : List Loc), lv_has ls 6 [(0, .ref (a_M 0)), (1, .int x_1), (2, .int x16), (3, .int x17), (4, .int x9)] → WB E ad s.heap [wModel E a_M r13.2] H locs → j18 x16 x17 = some X1 → W p l e R s m args below meth c H locs 0 0 Q (F0 m 78 ls []) := by
              intro x16 x17 ls H locs hl hB hf
              have hf := ox_a2 ej18 hf
              obtain ⟨x19, ex19⟩ : ∃ z : Int32, z = (x9 + 1) := ⟨_, rfl⟩
              have hf := ox_lt ex19 hf
              refine lv_iinc (v := x19) (lv' := [(4, .int x19), (0, .ref (a_M 0)), (1, .int x_1), (2, .int x16), (3, .int x17)]) hx hb dX12_bill_78 hl (k := 4) rfl (by rw [ex19]; rfl) (by decide) rfl (fun ls hl => ?_)
              refine lv_goto (tgt := 43) hx hb dX12_bill_81 (by decide) ?_
              exact ih _ _ _ _ ls H locs (lv_sub hl [1, 2, 3, 4, 0] rfl) hB hf
            refine lv_icmp_gt (tgt := 72) hx hb dX12_bill_66 (by decide) (fun c20 => ?_) (fun c20 => ?_)
            · have hf := (if_pos c20).symm.trans hf
              refine lv_iload hx hb dX12_bill_72 (lv_at hl 5 rfl) ?_
              refine lv_istore_n (lv' := [(2, .int x9), (5, .int x15), (0, .ref (a_M 0)), (1, .int x_1), (3, .int x8), (4, .int x9)]) hx hb dX12_bill_74 rfl hl (by decide) rfl (fun ls hl => ?_)
              refine lv_iload hx hb dX12_bill_75 (lv_at hl 1 rfl) ?_
              refine lv_istore_n (lv' := [(3, .int x15), (2, .int x9), (5, .int x15), (0, .ref (a_M 0)), (1, .int x_1), (4, .int x9)]) hx hb dX12_bill_77 rfl hl (by decide) rfl (fun ls hl => ?_)
              exact hj18 _ _ ls H locs (lv_sub hl [3, 4, 1, 0, 5] rfl) hB hf
            · have hf := (if_neg c20).symm.trans hf
              refine lv_goto (tgt := 78) hx hb dX12_bill_69 (by decide) ?_
              exact hj18 _ _ ls H locs (lv_sub hl [1, 2, 3, 4, 5] rfl) hB hf
      exact hloop1 fuel _ _ _ _ ls H locs (lv_sub hl [3, 4, 2, 1, 0] rfl) hB hX1
    refine lv_icmp_ge (tgt := 32) hx hb dX12_bill_18 (by decide) (fun c29 => ?_) (fun c29 => ?_)
    · have hf := (if_pos c29).symm.trans hf
      exact hj3 ls H locs (lv_sub hl [0, 1] rfl) hB hf
    · have hf := (if_neg c29).symm.trans hf
      refine lv_iload_n hx hb dX12_bill_21 rfl (lv_at hl 1 rfl) ?_
      refine lv_aload_n hx hb dX12_bill_22 rfl (lv_at hl 0 rfl) ?_
      refine cxVP (As := []) (rest := [.int x_1]) (st1 := [.int (fX12_billMany u1), .int x_1]) C hK (tX12_billMany l E a_M u1 (fX12_billMany u1) rfl) lk_X12_506 ⟨rfl, rfl⟩ (by rw [hRf, hRl]; decide) ⟨Nat.zero_le _, Nat.zero_le _⟩ (PB.sub hB.1 [0] rfl) (hB.old hD hN) (Nat.le_trans hN hB.2.2.1) (rc_X12 hK (hB.1 0 _ rfl)) rfl hl.1 rfl rfl (Nat.le_of_ble_eq_true rfl) dX12_bill_23 ?_
      refine lv_icmp_lt (tgt := 32) hx hb dX12_bill_26 (by decide) (fun c30 => ?_) (fun c30 => ?_)
      · have hf := (if_pos c30).symm.trans hf
        exact hj3 ls H locs (lv_sub hl [0, 1] rfl) hB hf
      · have hf := (if_neg c30).symm.trans hf
        refine lv_bipush (v := (-2)) hx hb dX12_bill_29 (by decide) ?_
        have hf := Option.some.inj hf
        subst hf
        exact hQ _ _ H locs (fun _ => 0) hB dX12_bill_31
  · have hf := (if_pos c2).symm.trans hf
    refine lv_iconst (v := (-1)) hx hb dX12_bill_14 (by decide) ?_
    have hf := Option.some.inj hf
    subst hf
    exact hQ _ _ H locs (fun _ => 0) hB dX12_bill_15
set_option maxHeartbeats 4000000 in
set_option maxRecDepth 20000 in
theorem tX12_sumBy (l : Launch) (E : Ev) (a_M : Nat → Nat) (u_M : St) (x_1 : Int32) (x_2 : Int32) (res : Int32 × St) (hf : fX12_sumBy u_M x_1 x_2 = some res) : MX l E yX12_sumBy cX12_sumBy 6 (some .int) (rmm 5 122) [wModel E a_M u_M] (fun q => [wModel E a_M res.2]) [.ref (a_M 0), .int x_1, .int x_2] (some (.int res.1)) := by
  unfold fX12_sumBy at hf
  refine MX.ofI rfl (by decide) (Nat.le_of_ble_eq_true rfl) ?_
  intro p e R s m args below meth c ls Q ad H hRf hRl C hB hD hK hN hl hQ
  generalize hlocs : ([] : List Loc) = locs at hB ⊢
  clear hlocs
  have hx := C.1
  have hb := C.2.1
  have hl : lv_has ls 6 [(0, .ref (a_M 0)), (1, .int x_1), (2, .int x_2)] := hl
  refine lv_aload_n hx hb dX12_sumBy_0 rfl (lv_at hl 0 rfl) ?_
  refine lv_iload_n hx hb dX12_sumBy_1 rfl (lv_at hl 2 rfl) ?_
  refine lv_aload_n hx hb dX12_sumBy_2 rfl (lv_at hl 0 rfl) ?_
  refine gf_X12_X12_guests C hK (hB.1 0 _ rfl) dX12_sumBy_3 ?_
  obtain ⟨r1, hr1, hf⟩ := ox_bind hf
  refine cxVX (bs1 := (fun q => [wModel E a_M r1])) (As := [.int x_2, .int (gI u_M 13)]) (rest := []) (st1 := []) C hK (tX12_layOrder l E a_M u_M x_2 (gI u_M 13) r1 hr1) lk_X12_509 (by rw [hRf, hRl]; decide) ⟨Nat.zero_le _, Nat.zero_le _⟩ hB hD hN [0] (by decide) rfl (fun _ => rfl) (fun _ => rfl) (rc_X12 hK (hB.1 0 _ rfl)) rfl hl.1 rfl rfl (Nat.le_of_ble_eq_true rfl) dX12_sumBy_6 (fun H locs q2 hB => ?_)
  have hB : WB E ad s.heap [wModel E a_M r1] H locs := hB
  refine lv_iconst (v := 0) hx hb dX12_sumBy_9 (by decide) ?_
  refine lv_istore_n (lv' := [(3, .int (0 : Int32)), (0, .ref (a_M 0)), (1, .int x_1), (2, .int x_2)]) hx hb dX12_sumBy_10 rfl hl (by decide) rfl (fun ls hl => ?_)
  refine lv_iconst (v := 0) hx hb dX12_sumBy_11 (by decide) ?_
  refine lv_istore (lv' := [(4, .int (0 : Int32)), (3, .int (0 : Int32)), (0, .ref (a_M 0)), (1, .int x_1), (2, .int x_2)]) hx hb dX12_sumBy_12 hl (by decide) rfl (fun ls hl => ?_)
  refine lv_iconst (v := 0) hx hb dX12_sumBy_14 (by decide) ?_
  refine lv_istore (lv' := [(5, .int (0 : Int32)), (4, .int (0 : Int32)), (3, .int (0 : Int32)), (0, .ref (a_M 0)), (1, .int x_1), (2, .int x_2)]) hx hb dX12_sumBy_15 hl (by decide) rfl (fun ls hl => ?_)
  obtain ⟨X1, hX1, hf⟩ := ox_bind hf
  have hexit1 : ∀ y14, y14 = X1 → ∀ (ls : Array Slot) (H : Heap) (locs : List Loc), lv_has ls 6 [(3, .int y14.1)] → WB E ad s.heap [wModel E a_M y14.2] H locs → W p l e R s m args below meth c H locs 0 0 Q (F0 m 54 ls []) := by
    intro y14 hy ls H locs hl hB
    subst hy
    refine lv_iload_n hx hb dX12_sumBy_54 rfl (lv_at hl 0 rfl) ?_
    have hf := Option.some.inj hf
    subst hf
    exact hQ _ _ H locs (fun _ => 0) hB dX12_sumBy_55
  have hloop1 : ∀ (nf : Nat) (x3 : Int32) (x4 : Int32) (x5 : Int32) (u6 : St) (ls : Array Slot) (H : Heap) (locs : List Loc), lv_has ls 6 [(0, .ref (a_M 0)), (1, .int x_1), (3, .int x3), (4, .int x4), (5, .int x5)] → WB E ad s.heap [wModel E a_M u6] H locs → fX12_sumBy_L1 x_1 nf x3 x4 x5 u6 = some X1 → W p l e R s m args below meth c H locs 0 0 Q (F0 m 17 ls []) := by
    intro nf
    induction nf with
    | zero =>
      intro x3 x4 x5 u6 ls H locs hl hB hf
      simp [fX12_sumBy_L1] at hf
    | succ nf ih =>
      intro x3 x4 x5 u6 ls H locs hl hB hf
      rw [fX12_sumBy_L1] at hf
      refine lv_iload hx hb dX12_sumBy_17 (lv_at hl 4 rfl) ?_
      refine lv_aload_n hx hb dX12_sumBy_19 rfl (lv_at hl 0 rfl) ?_
      refine gf_X12_X12_guests C hK (hB.1 0 _ rfl) dX12_sumBy_20 ?_
      refine lv_icmp_ge (tgt := 54) hx hb dX12_sumBy_23 (by decide) (fun c7 => ?_) (fun c7 => ?_)
      · have hf := (if_pos c7).symm.trans hf
        exact hexit1 _ (Option.some.inj hf) ls H locs (lv_sub hl [2] rfl) hB
      · have hf := (if_neg c7).symm.trans hf
        refine lv_aload_n hx hb dX12_sumBy_26 rfl (lv_at hl 0 rfl) ?_
        refine lv_iconst (v := 0) hx hb dX12_sumBy_27 (by decide) ?_
        refine lv_aload_n hx hb dX12_sumBy_28 rfl (lv_at hl 0 rfl) ?_
        refine gf_X12_X12_order C hK (hB.1 0 _ rfl) dX12_sumBy_29 ?_
        refine lv_iload hx hb dX12_sumBy_32 (lv_at hl 4 rfl) ?_
        obtain ⟨hn8, hf⟩ := ox_chk hf
        refine ld_X12_order C hK (hB.1 0 _ rfl) hn8 rfl dX12_sumBy_34 ?_
        refine lv_iload_n hx hb dX12_sumBy_35 rfl (lv_at hl 1 rfl) ?_
        refine lv_iload hx hb dX12_sumBy_36 (lv_at hl 3 rfl) ?_
        obtain ⟨r9, hr9, hf⟩ := ox_bind hf
        refine cxVX (bs1 := (fun q => [wModel E a_M r9.2])) (As := [.int (0 : Int32), .int (gA u6 74 (x5).toNatClampNeg), .int x_1, .int x4]) (rest := []) (st1 := [.int r9.1]) C hK (tX12_clapOf l E a_M u6 (0 : Int32) (gA u6 74 (x5).toNatClampNeg) x_1 x4 r9 hr9) lk_X12_445 (by rw [hRf, hRl]; decide) ⟨Nat.zero_le _, Nat.zero_le _⟩ hB hD hN [0] (by decide) rfl (fun _ => rfl) (fun _ => rfl) (rc_X12 hK (hB.1 0 _ rfl)) rfl hl.1 rfl rfl (Nat.le_of_ble_eq_true rfl) dX12_sumBy_38 (fun H locs q10 hB => ?_)
        have hB : WB E ad s.heap [wModel E a_M r9.2] H locs := hB
        refine lv_topi (fun x11 ex11 => ?_)
        have hf := ox_lt ex11 hf
        refine lv_istore (lv' := [(4, .int x11), (0, .ref (a_M 0)), (1, .int x_1), (3, .int x3), (5, .int x5)]) hx hb dX12_sumBy_41 hl (by decide) rfl (fun ls hl => ?_)
        refine lv_iload_n hx hb dX12_sumBy_43 rfl (lv_at hl 3 rfl) ?_
        refine lv_iload hx hb dX12_sumBy_44 (lv_at hl 0 rfl) ?_
        refine lv_iadd hx hb dX12_sumBy_46 ?_
        refine lv_topi (fun x12 ex12 => ?_)
        have hf := ox_lt ex12 hf
        refine lv_istore_n (lv' := [(3, .int x12), (4, .int x11), (0, .ref (a_M 0)), (1, .int x_1), (5, .int x5)]) hx hb dX12_sumBy_47 rfl hl (by decide) rfl (fun ls hl => ?_)
        obtain ⟨x13, ex13⟩ : ∃ z : Int32, z = (x5 + 1) := ⟨_, rfl⟩
        have hf := ox_lt ex13 hf
        refine lv_iinc (v := x13) (lv' := [(5, .int x13), (3, .int x12), (4, .int x11), (0, .ref (a_M 0)), (1, .int x_1)]) hx hb dX12_sumBy_48 hl (k := 4) rfl (by rw [ex13]; rfl) (by decide) rfl (fun ls hl => ?_)
        refine lv_goto (tgt := 17) hx hb dX12_sumBy_51 (by decide) ?_
        exact ih _ _ _ _ ls H locs (lv_sub hl [3, 4, 1, 2, 0] rfl) hB hf
  exact hloop1 fuel _ _ _ _ ls H locs (lv_sub hl [3, 4, 2, 1, 0] rfl) hB hX1
set_option maxHeartbeats 4000000 in
set_option maxRecDepth 20000 in
theorem tX12_seats (l : Launch) (E : Ev) (a_M : Nat → Nat) (u_M : St) (x_1 : Int32) (x_2 : Int32) (res : Int32 × St) (hf : fX12_seats u_M x_1 x_2 = some res) : MX l E yX12_seats cX12_seats 7 (some .int) (rmm 6 147) [wModel E a_M u_M] (fun q => [wModel E a_M res.2]) [.ref (a_M 0), .int x_1, .int x_2] (some (.int res.1)) := by
  unfold fX12_seats at hf
  refine MX.ofI rfl (by decide) (Nat.le_of_ble_eq_true rfl) ?_
  intro p e R s m args below meth c ls Q ad H hRf hRl C hB hD hK hN hl hQ
  generalize hlocs : ([] : List Loc) = locs at hB ⊢
  clear hlocs
  have hx := C.1
  have hb := C.2.1
  have hl : lv_has ls 7 [(0, .ref (a_M 0)), (1, .int x_1), (2, .int x_2)] := hl
  refine lv_aload_n hx hb dX12_seats_0 rfl (lv_at hl 0 rfl) ?_
  refine lv_iconst (v := 0) hx hb dX12_seats_1 (by decide) ?_
  refine pf_X12_X12_thrown C hK hB hD 0 rfl dX12_seats_2 (fun H locs u1 eu1 hB => ?_)
  have hf := ox_lt eu1 hf
  have hB : WB E ad s.heap [wModel E a_M u1] H locs := hB
  refine lv_aload_n hx hb dX12_seats_5 rfl (lv_at hl 0 rfl) ?_
  refine lv_iload_n hx hb dX12_seats_6 rfl (lv_at hl 1 rfl) ?_
  refine cxVP (As := [.int x_1]) (rest := []) (st1 := [.int (fX12_isAct u1 x_1)]) C hK (tX12_isAct l E a_M u1 x_1 (fX12_isAct u1 x_1) rfl) lk_X12_485 ⟨rfl, rfl⟩ (by rw [hRf, hRl]; decide) ⟨Nat.zero_le _, Nat.zero_le _⟩ (PB.sub hB.1 [0] rfl) (hB.old hD hN) (Nat.le_trans hN hB.2.2.1) (rc_X12 hK (hB.1 0 _ rfl)) rfl hl.1 rfl rfl (Nat.le_of_ble_eq_true rfl) dX12_seats_7 ?_
  refine lv_if_eq (tgt := 23) hx hb dX12_seats_10 (by decide) (fun c2 => ?_) (fun c2 => ?_)
  · have hf := (if_pos c2).symm.trans hf
    refine lv_ldcw (v := -2147483648) hx hb C.2.2.2.1 (C.2.2.2.2 _ mw_1785) dX12_seats_23 ?_
    have hf := Option.some.inj hf
    subst hf
    exact hQ _ _ H locs (fun _ => 0) hB dX12_seats_26
  · have hf := (if_neg c2).symm.trans hf
    refine lv_iload_n hx hb dX12_seats_13 rfl (lv_at hl 2 rfl) ?_
    refine lv_iconst (v := 0) hx hb dX12_seats_14 (by decide) ?_
    refine lv_bipush (v := 6) hx hb dX12_seats_15 (by decide) ?_
    refine cxSP (As := [.int x_2, .int (0 : Int32), .int (6 : Int32)]) (rest := []) (st1 := [.int (fX12_isIn x_2 (0 : Int32) (6 : Int32))]) C hK (tX12_isIn l E x_2 (0 : Int32) (6 : Int32) (fX12_isIn x_2 (0 : Int32) (6 : Int32)) rfl) lk_X12_202 ⟨rfl, rfl⟩ (by rw [hRf, hRl]; decide) ⟨Nat.zero_le _, Nat.zero_le _⟩ (PB.sub hB.1 [] rfl) (hB.old hD hN) (Nat.le_trans hN hB.2.2.1) rfl hl.1 rfl rfl (Nat.le_of_ble_eq_true rfl) dX12_seats_17 ?_
    refine lv_if_ne (tgt := 27) hx hb dX12_seats_20 (by decide) (fun c3 => ?_) (fun c3 => ?_)
    · have hf := (if_neg c3).symm.trans hf
      refine lv_iload_n hx hb dX12_seats_27 rfl (lv_at hl 2 rfl) ?_
      refine lv_bipush (v := 6) hx hb dX12_seats_28 (by decide) ?_
      obtain ⟨j4, ej4, hf⟩ := ox_ex hf
      have hj4 : ∀ (ls : Array Slot) (H : Heap) (locs : List Loc), lv_has ls 7 [(0, .ref (a_M 0)), (1, .int x_1), (2, .int x_2)] → WB E ad s.heap [wModel E a_M u1] H locs → j4 = some res → W p l e R s m args below meth c H locs 0 0 Q (F0 m 44 ls []) := by
        intro ls H locs hl hB hf
        have hf := ox_a0 ej4 hf
        refine lv_aload_n hx hb dX12_seats_44 rfl (lv_at hl 0 rfl) ?_
        obtain ⟨r5, er5, hf⟩ := ox_ex hf
        refine cxVX (bs1 := (fun q => [wModel E a_M r5])) (As := []) (rest := []) (st1 := []) C hK (tX12_plainTried l E a_M u1 r5 er5.symm) lk_X12_365 (by rw [hRf, hRl]; decide) ⟨Nat.zero_le _, Nat.zero_le _⟩ hB hD hN [0] (by decide) rfl (fun _ => rfl) (fun _ => rfl) (rc_X12 hK (hB.1 0 _ rfl)) rfl hl.1 rfl rfl (Nat.le_of_ble_eq_true rfl) dX12_seats_45 (fun H locs q6 hB => ?_)
        have hB : WB E ad s.heap [wModel E a_M r5] H locs := hB
        refine lv_iconst (v := 0) hx hb dX12_seats_48 (by decide) ?_
        refine lv_istore_n (lv' := [(3, .int (0 : Int32)), (0, .ref (a_M 0)), (1, .int x_1), (2, .int x_2)]) hx hb dX12_seats_49 rfl hl (by decide) rfl (fun ls hl => ?_)
        refine lv_aload_n hx hb dX12_seats_50 rfl (lv_at hl 1 rfl) ?_
        refine lv_iload_n hx hb dX12_seats_51 rfl (lv_at hl 2 rfl) ?_
        refine lv_iconst (v := 0) hx hb dX12_seats_52 (by decide) ?_
        obtain ⟨r7, hr7, hf⟩ := ox_bind hf
        refine cxVX (bs1 := (fun q => [wModel E a_M r7.2])) (As := [.int x_1, .int (0 : Int32)]) (rest := []) (st1 := [.int r7.1]) C hK (tX12_sumBy l E a_M r5 x_1 (0 : Int32) r7 hr7) lk_X12_518 (by rw [hRf, hRl]; decide) ⟨Nat.zero_le _, Nat.zero_le _⟩ hB hD hN [0] (by decide) rfl (fun _ => rfl) (fun _ => rfl) (rc_X12 hK (hB.1 0 _ rfl)) rfl hl.1 rfl rfl (Nat.le_of_ble_eq_true rfl) dX12_seats_53 (fun H locs q8 hB => ?_)
        have hB : WB E ad s.heap [wModel E a_M r7.2] H locs := hB
        refine lv_topi (fun x9 ex9 => ?_)
        have hf := ox_lt ex9 hf
        refine lv_istore (lv' := [(4, .int x9), (3, .int (0 : Int32)), (0, .ref (a_M 0)), (1, .int x_1), (2, .int x_2)]) hx hb dX12_seats_56 hl (by decide) rfl (fun ls hl => ?_)
        refine lv_iconst (v := 1) hx hb dX12_seats_58 (by decide) ?_
        refine lv_istore (lv' := [(5, .int (1 : Int32)), (4, .int x9), (3, .int (0 : Int32)), (0, .ref (a_M 0)), (1, .int x_1), (2, .int x_2)]) hx hb dX12_seats_59 hl (by decide) rfl (fun ls hl => ?_)
        obtain ⟨X1, hX1, hf⟩ := ox_bind hf
        have hexit1 : ∀ y24, y24 = X1 → ∀ (ls : Array Slot) (H : Heap) (locs : List Loc), lv_has ls 7 [(0, .ref (a_M 0)), (2, .int x_2), (3, .int y24.1), (4, .int y24.2.1)] → WB E ad s.heap [wModel E a_M y24.2.2] H locs → W p l e R s m args below meth c H locs 0 0 Q (F0 m 105 ls []) := by
          intro y24 hy ls H locs hl hB
          subst hy
          refine lv_aload_n hx hb dX12_seats_105 rfl (lv_at hl 0 rfl) ?_
          refine lv_iload_n hx hb dX12_seats_106 rfl (lv_at hl 2 rfl) ?_
          refine lv_aload_n hx hb dX12_seats_107 rfl (lv_at hl 0 rfl) ?_
          refine gf_X12_X12_guests C hK (hB.1 0 _ rfl) dX12_seats_108 ?_
          obtain ⟨r25, hr25, hf⟩ := ox_bind hf
          refine cxVX (bs1 := (fun q => [wModel E a_M r25])) (As := [.int y24.1, .int (gI y24.2.2 13)]) (rest := []) (st1 := []) C hK (tX12_layOrder l E a_M (y24.2.2) (y24.1) (gI y24.2.2 13) r25 hr25) lk_X12_509 (by rw [hRf, hRl]; decide) ⟨Nat.zero_le _, Nat.zero_le _⟩ hB hD hN [0] (by decide) rfl (fun _ => rfl) (fun _ => rfl) (rc_X12 hK (hB.1 0 _ rfl)) rfl hl.1 rfl rfl (Nat.le_of_ble_eq_true rfl) dX12_seats_111 (fun H locs q26 hB => ?_)
          have hB : WB E ad s.heap [wModel E a_M r25] H locs := hB
          refine lv_iload_n hx hb dX12_seats_114 rfl (lv_at hl 1 rfl) ?_
          refine lv_bipush (v := 6) hx hb dX12_seats_115 (by decide) ?_
          refine lv_icmp_ne (tgt := 125) hx hb dX12_seats_117 (by decide) (fun c27 => ?_) (fun c27 => ?_)
          · have hf := (if_neg c27).symm.trans hf
            refine lv_aload_n hx hb dX12_seats_125 rfl (lv_at hl 0 rfl) ?_
            refine gf_X12_X12_order C hK (hB.1 0 _ rfl) dX12_seats_126 ?_
            refine lv_iload_n hx hb dX12_seats_129 rfl (lv_at hl 1 rfl) ?_
            obtain ⟨hn28, hf⟩ := ox_chk hf
            refine ld_X12_order C hK (hB.1 0 _ rfl) hn28 rfl dX12_seats_130 ?_
            have hf := Option.some.inj hf
            subst hf
            exact hQ _ _ H locs (fun _ => 0) hB dX12_seats_131
          · have hf := (if_pos c27).symm.trans hf
            refine lv_iload hx hb dX12_seats_120 (lv_at hl 3 rfl) ?_
            refine lv_goto (tgt := 131) hx hb dX12_seats_122 (by decide) ?_
            have hf := Option.some.inj hf
            subst hf
            exact hQ _ _ H locs (fun _ => 0) hB dX12_seats_131
        have hloop1 : ∀ (nf : Nat) (x10 : Int32) (x11 : Int32) (x12 : Int32) (u13 : St) (ls : Array Slot) (H : Heap) (locs : List Loc), lv_has ls 7 [(0, .ref (a_M 0)), (1, .int x_1), (2, .int x_2), (3, .int x10), (4, .int x11), (5, .int x12)] → WB E ad s.heap [wModel E a_M u13] H locs → fX12_seats_L1 x_1 nf x10 x11 x12 u13 = some X1 → W p l e R s m args below meth c H locs 0 0 Q (F0 m 61 ls []) := by
          intro nf
          induction nf with
          | zero =>
            intro x10 x11 x12 u13 ls H locs hl hB hf
            simp [fX12_seats_L1] at hf
          | succ nf ih =>
            intro x10 x11 x12 u13 ls H locs hl hB hf
            rw [fX12_seats_L1] at hf
            refine lv_iload hx hb dX12_seats_61 (lv_at hl 5 rfl) ?_
            refine lv_aload_n hx hb dX12_seats_63 rfl (lv_at hl 0 rfl) ?_
            refine gf_X12_X12_guests C hK (hB.1 0 _ rfl) dX12_seats_64 ?_
            obtain ⟨r14, hr14, hf⟩ := ox_bind hf
            refine cxSP (As := [.int (gI u13 13)]) (rest := [.int x12]) (st1 := [.int r14, .int x12]) C hK (tX12_ordersOf l E (gI u13 13) r14 hr14) lk_X12_515 ⟨rfl, rfl⟩ (by rw [hRf, hRl]; decide) ⟨Nat.zero_le _, Nat.zero_le _⟩ (PB.sub hB.1 [] rfl) (hB.old hD hN) (Nat.le_trans hN hB.2.2.1) rfl hl.1 rfl rfl (Nat.le_of_ble_eq_true rfl) dX12_seats_67 ?_
            refine lv_icmp_ge (tgt := 105) hx hb dX12_seats_70 (by decide) (fun c15 => ?_) (fun c15 => ?_)
            · have hf := (if_pos c15).symm.trans hf
              exact hexit1 _ (Option.some.inj hf) ls H locs (lv_sub hl [0, 2, 3, 4] rfl) hB
            · have hf := (if_neg c15).symm.trans hf
              refine lv_aload_n hx hb dX12_seats_73 rfl (lv_at hl 0 rfl) ?_
              refine lv_iload_n hx hb dX12_seats_74 rfl (lv_at hl 1 rfl) ?_
              refine lv_iload hx hb dX12_seats_75 (lv_at hl 5 rfl) ?_
              obtain ⟨r16, hr16, hf⟩ := ox_bind hf
              refine cxVX (bs1 := (fun q => [wModel E a_M r16.2])) (As := [.int x_1, .int x12]) (rest := []) (st1 := [.int r16.1]) C hK (tX12_sumBy l E a_M u13 x_1 x12 r16 hr16) lk_X12_518 (by rw [hRf, hRl]; decide) ⟨Nat.zero_le _, Nat.zero_le _⟩ hB hD hN [0] (by decide) rfl (fun _ => rfl) (fun _ => rfl) (rc_X12 hK (hB.1 0 _ rfl)) rfl hl.1 rfl rfl (Nat.le_of_ble_eq_true rfl) dX12_seats_77 (fun H locs q17 hB => ?_)
              have hB : WB E ad s.heap [wModel E a_M r16.2] H locs := hB
              refine lv_topi (fun x18 ex18 => ?_)
              have hf := ox_lt ex18 hf
              refine lv_istore (lv' := [(6, .int x18), (0, .ref (a_M 0)), (1, .int x_1), (2, .int x_2), (3, .int x10), (4, .int x11), (5, .int x12)]) hx hb dX12_seats_80 hl (by decide) rfl (fun ls hl => ?_)
              refine lv_iload hx hb dX12_seats_82 (lv_at hl 0 rfl) ?_
              refine lv_iload hx hb dX12_seats_84 (lv_at hl 5 rfl) ?_
              obtain ⟨j21, ej21, hf⟩ := ox_ex hf
              have hj21 : ∀ (x19 : Int32) (x20 : Int32) (ls : Array Slot) (H : Heap) (locs : List Loc), lv_has ls 7 [(0, .ref (a_M 0)), (1, .int x_1), (2, .int x_2), (3, .int x19), (4, .int x20), (5, .int x12)] → WB E ad s.heap [wModel E a_M r16.2] H locs → j21 x19 x20 = some X1 → W p l e R s m args below meth c H locs 0 0 Q (F0 m 99 ls []) := by
                intro x19 x20 ls H locs hl hB hf
                have hf := ox_a2 ej21 hf
                obtain ⟨x22, ex22⟩ : ∃ z : Int32, z = (x12 + 1) := ⟨_, rfl⟩
                have hf := ox_lt ex22 hf
                refine lv_iinc (v := x22) (lv' := [(5, .int x22), (0, .ref (a_M 0)), (1, .int x_1), (2, .int x_2), (3, .int x19), (4, .int x20)]) hx hb dX12_seats_99 hl (k := 5) rfl (by rw [ex22]; rfl) (by decide) rfl (fun ls hl => ?_)
                refine lv_goto (tgt := 61) hx hb dX12_seats_102 (by decide) ?_
                exact ih _ _ _ _ ls H locs (lv_sub hl [1, 2, 3, 4, 5, 0] rfl) hB hf
              refine lv_icmp_gt (tgt := 92) hx hb dX12_seats_86 (by decide) (fun c23 => ?_) (fun c23 => ?_)
              · have hf := (if_pos c23).symm.trans hf
                refine lv_iload hx hb dX12_seats_92 (lv_at hl 6 rfl) ?_
                refine lv_istore_n (lv' := [(3, .int x12), (6, .int x18), (0, .ref (a_M 0)), (1, .int x_1), (2, .int x_2), (4, .int x11), (5, .int x12)]) hx hb dX12_seats_94 rfl hl (by decide) rfl (fun ls hl => ?_)
                refine lv_iload hx hb dX12_seats_95 (lv_at hl 1 rfl) ?_
                refine lv_istore (lv' := [(4, .int x18), (3, .int x12), (6, .int x18), (0, .ref (a_M 0)), (1, .int x_1), (2, .int x_2), (5, .int x12)]) hx hb dX12_seats_97 hl (by decide) rfl (fun ls hl => ?_)
                exact hj21 _ _ ls H locs (lv_sub hl [3, 4, 5, 1, 0, 6] rfl) hB hf
              · have hf := (if_neg c23).symm.trans hf
                refine lv_goto (tgt := 99) hx hb dX12_seats_89 (by decide) ?_
                exact hj21 _ _ ls H locs (lv_sub hl [1, 2, 3, 4, 5, 6] rfl) hB hf
        exact hloop1 fuel _ _ _ _ ls H locs (lv_sub hl [3, 4, 5, 2, 1, 0] rfl) hB hX1
      refine lv_icmp_ge (tgt := 44) hx hb dX12_seats_30 (by decide) (fun c30 => ?_) (fun c30 => ?_)
      · have hf := (if_pos c30).symm.trans hf
        exact hj4 ls H locs (lv_sub hl [0, 1, 2] rfl) hB hf
      · have hf := (if_neg c30).symm.trans hf
        refine lv_iload_n hx hb dX12_seats_33 rfl (lv_at hl 2 rfl) ?_
        refine lv_aload_n hx hb dX12_seats_34 rfl (lv_at hl 0 rfl) ?_
        refine gf_X12_X12_guests C hK (hB.1 0 _ rfl) dX12_seats_35 ?_
        refine lv_icmp_lt (tgt := 44) hx hb dX12_seats_38 (by decide) (fun c31 => ?_) (fun c31 => ?_)
        · have hf := (if_pos c31).symm.trans hf
          exact hj4 ls H locs (lv_sub hl [0, 1, 2] rfl) hB hf
        · have hf := (if_neg c31).symm.trans hf
          refine lv_bipush (v := (-2)) hx hb dX12_seats_41 (by decide) ?_
          have hf := Option.some.inj hf
          subst hf
          exact hQ _ _ H locs (fun _ => 0) hB dX12_seats_43
    · have hf := (if_pos c3).symm.trans hf
      refine lv_ldcw (v := -2147483648) hx hb C.2.2.2.1 (C.2.2.2.2 _ mw_1785) dX12_seats_23 ?_
      have hf := Option.some.inj hf
      subst hf
      exact hQ _ _ H locs (fun _ => 0) hB dX12_seats_26
set_option maxHeartbeats 4000000 in
set_option maxRecDepth 20000 in
theorem tX12_manyOf (l : Launch) (E : Ev) (x_0 : Int32) (res : Int32) (hf : fX12_manyOf x_0 = some res) : MP l E yX12_manyOf cX12_manyOf 3 (some .int) (rmm 0 0) [] [.int x_0] (some (.int res)) := by
  unfold fX12_manyOf at hf
  refine MP.ofI rfl (by decide) (Nat.le_of_ble_eq_true rfl) ?_
  intro p e R s m args below meth c ls Q hRf hRl C hP hK hN hl hQ
  have hx := C.1
  have hb := C.2.1
  have hl : lv_has ls 3 [(0, .int x_0)] := hl
  refine lv_iconst (v := 0) hx hb dX12_manyOf_0 (by decide) ?_
  refine lv_istore_n (lv' := [(1, .int (0 : Int32)), (0, .int x_0)]) hx hb dX12_manyOf_1 rfl hl (by decide) rfl (fun ls hl => ?_)
  refine lv_iconst (v := 0) hx hb dX12_manyOf_2 (by decide) ?_
  refine lv_istore_n (lv' := [(2, .int (0 : Int32)), (1, .int (0 : Int32)), (0, .int x_0)]) hx hb dX12_manyOf_3 rfl hl (by decide) rfl (fun ls hl => ?_)
  obtain ⟨X1, hX1, hf⟩ := ox_bind hf
  have hexit1 : ∀ y6, y6 = X1 → ∀ (ls : Array Slot), lv_has ls 3 [(1, .int y6)] → W p l e R s m args below meth c s.heap [] 0 0 Q (F0 m 24 ls []) := by
    intro y6 hy ls hl
    subst hy
    refine lv_iload_n hx hb dX12_manyOf_24 rfl (lv_at hl 0 rfl) ?_
    have hf := Option.some.inj hf
    subst hf
    exact hQ _ _ dX12_manyOf_25
  have hloop1 : ∀ (nf : Nat) (x1 : Int32) (x2 : Int32) (ls : Array Slot), lv_has ls 3 [(0, .int x_0), (1, .int x1), (2, .int x2)] → fX12_manyOf_L1 x_0 nf x1 x2 = some X1 → W p l e R s m args below meth c s.heap [] 0 0 Q (F0 m 4 ls []) := by
    intro nf
    induction nf with
    | zero =>
      intro x1 x2 ls hl hf
      simp [fX12_manyOf_L1] at hf
    | succ nf ih =>
      intro x1 x2 ls hl hf
      rw [fX12_manyOf_L1] at hf
      refine lv_iload_n hx hb dX12_manyOf_4 rfl (lv_at hl 2 rfl) ?_
      refine lv_bipush (v := 10) hx hb dX12_manyOf_5 (by decide) ?_
      refine lv_icmp_ge (tgt := 24) hx hb dX12_manyOf_7 (by decide) (fun c3 => ?_) (fun c3 => ?_)
      · have hf := (if_pos c3).symm.trans hf
        exact hexit1 _ (Option.some.inj hf) ls (lv_sub hl [1] rfl)
      · have hf := (if_neg c3).symm.trans hf
        refine lv_iload_n hx hb dX12_manyOf_10 rfl (lv_at hl 1 rfl) ?_
        refine lv_iload_n hx hb dX12_manyOf_11 rfl (lv_at hl 0 rfl) ?_
        refine lv_iload_n hx hb dX12_manyOf_12 rfl (lv_at hl 2 rfl) ?_
        refine lv_ishr hx hb dX12_manyOf_13 ?_
        refine lv_iconst (v := 1) hx hb dX12_manyOf_14 (by decide) ?_
        refine lv_iand hx hb dX12_manyOf_15 ?_
        refine lv_iadd hx hb dX12_manyOf_16 ?_
        refine lv_topi (fun x4 ex4 => ?_)
        have hf := ox_lt ex4 hf
        refine lv_istore_n (lv' := [(1, .int x4), (0, .int x_0), (2, .int x2)]) hx hb dX12_manyOf_17 rfl hl (by decide) rfl (fun ls hl => ?_)
        obtain ⟨x5, ex5⟩ : ∃ z : Int32, z = (x2 + 1) := ⟨_, rfl⟩
        have hf := ox_lt ex5 hf
        refine lv_iinc (v := x5) (lv' := [(2, .int x5), (1, .int x4), (0, .int x_0)]) hx hb dX12_manyOf_18 hl (k := 2) rfl (by rw [ex5]; rfl) (by decide) rfl (fun ls hl => ?_)
        refine lv_goto (tgt := 4) hx hb dX12_manyOf_21 (by decide) ?_
        exact ih _ _ ls (lv_sub hl [2, 1, 0] rfl) hf
  exact hloop1 fuel _ _ ls (lv_sub hl [2, 1, 0] rfl) hX1
