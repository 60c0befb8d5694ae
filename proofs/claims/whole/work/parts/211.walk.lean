set_option maxHeartbeats 4000000 in
set_option maxRecDepth 20000 in
theorem tX12_sumRead (l : Launch) (E : Ev) (a_M : Nat → Nat) (u_M : St) (res : Int32 × St) (hf : fX12_sumRead u_M = some res) : MX l E yX12_sumRead cX12_sumRead 1 (some .boolean) (rmm 3 68) [wModel E a_M u_M] (fun q => [wModel E a_M res.2]) [.ref (a_M 0)] (some (.int res.1)) := by
  unfold fX12_sumRead at hf
  refine MX.ofZZ rfl (by decide) (Nat.le_of_ble_eq_true rfl) ?_
  intro p e R s m args below meth c ls Q ad H hRf hRl C hB hD hK hN hl hQ
  generalize hlocs : ([] : List Loc) = locs at hB ⊢
  clear hlocs
  have hx := C.1
  have hb := C.2.1
  have hl : lv_has ls 1 [(0, .ref (a_M 0))] := hl
  refine lv_aload_n hx hb dX12_sumRead_0 rfl (lv_at hl 0 rfl) ?_
  refine lv_iconst (v := 0) hx hb dX12_sumRead_1 (by decide) ?_
  refine pf_X12_X12_waits C hK hB hD 0 rfl dX12_sumRead_2 (fun H locs u1 eu1 hB => ?_)
  have hf := ox_lt eu1 hf
  have hB : WB E ad s.heap [wModel E a_M u1] H locs := hB
  refine lv_aload_n hx hb dX12_sumRead_5 rfl (lv_at hl 0 rfl) ?_
  refine lv_iconst (v := 0) hx hb dX12_sumRead_6 (by decide) ?_
  refine pf_X12_X12_helds C hK hB hD 0 rfl dX12_sumRead_7 (fun H locs u2 eu2 hB => ?_)
  have hf := ox_lt eu2 hf
  have hB : WB E ad s.heap [wModel E a_M u2] H locs := hB
  refine lv_aload_n hx hb dX12_sumRead_10 rfl (lv_at hl 0 rfl) ?_
  refine lv_iconst (v := 0) hx hb dX12_sumRead_11 (by decide) ?_
  refine pf_X12_X12_brackets C hK hB hD 0 rfl dX12_sumRead_12 (fun H locs u3 eu3 hB => ?_)
  have hf := ox_lt eu3 hf
  have hB : WB E ad s.heap [wModel E a_M u3] H locs := hB
  refine lv_aload_n hx hb dX12_sumRead_15 rfl (lv_at hl 0 rfl) ?_
  refine lv_iconst (v := 1) hx hb dX12_sumRead_16 (by decide) ?_
  refine pf_X12_X12_wants C hK hB hD 0 rfl (by decide) dX12_sumRead_17 (fun H locs u4 eu4 hB => ?_)
  have hf := ox_lt eu4 hf
  have hB : WB E ad s.heap [wModel E a_M u4] H locs := hB
  refine lv_aload_n hx hb dX12_sumRead_20 rfl (lv_at hl 0 rfl) ?_
  refine lv_iconst (v := 1) hx hb dX12_sumRead_21 (by decide) ?_
  refine pf_X12_X12_mayNot C hK hB hD 0 rfl (by decide) dX12_sumRead_22 (fun H locs u5 eu5 hB => ?_)
  have hf := ox_lt eu5 hf
  have hB : WB E ad s.heap [wModel E a_M u5] H locs := hB
  obtain ⟨X1, hX1, hf⟩ := ox_bind hf
  have hexit1 : ∀ y18, .inl y18 = X1 → ∀ (ls : Array Slot) (H : Heap) (locs : List Loc), lv_has ls 1 [(0, .ref (a_M 0))] → WB E ad s.heap [wModel E a_M y18] H locs → W p l e R s m args below meth c H locs 0 0 Q (F0 m 74 ls []) := by
    intro y18 hy ls H locs hl hB
    subst hy
    have hf := ox_inl hf
    refine lv_aload_n hx hb dX12_sumRead_74 rfl (lv_at hl 0 rfl) ?_
    refine lv_iconst (v := 1) hx hb dX12_sumRead_75 (by decide) ?_
    obtain ⟨r19, hr19, hf⟩ := ox_bind hf
    refine cxVX (bs1 := (fun q => [wModel E a_M r19])) (As := [.int (1 : Int32)]) (rest := []) (st1 := []) C hK (tX12_bind l E a_M y18 (1 : Int32) r19 hr19) lk_X12_330 (by rw [hRf, hRl]; decide) ⟨Nat.zero_le _, Nat.zero_le _⟩ hB hD hN [0] (by decide) rfl (fun _ => rfl) (fun _ => rfl) (rc_X12 hK (hB.1 0 _ rfl)) rfl hl.1 rfl rfl (Nat.le_of_ble_eq_true rfl) dX12_sumRead_76 (fun H locs q20 hB => ?_)
    have hB : WB E ad s.heap [wModel E a_M r19] H locs := hB
    refine lv_iconst (v := 1) hx hb dX12_sumRead_79 (by decide) ?_
    have hf := Option.some.inj hf
    subst hf
    exact hQ _ _ H locs (fun _ => 0) (1 : Int32) bz1 hB dX12_sumRead_80
  have hret1 : ∀ r, .inr r = X1 → r = res := by
    intro r hr
    subst hr
    exact Option.some.inj (ox_inr hf)
  have hloop1 : ∀ (nf : Nat) (u6 : St) (ls : Array Slot) (H : Heap) (locs : List Loc), lv_has ls 1 [(0, .ref (a_M 0))] → WB E ad s.heap [wModel E a_M u6] H locs → fX12_sumRead_L1 nf u6 = some X1 → W p l e R s m args below meth c H locs 0 0 Q (F0 m 25 ls []) := by
    intro nf
    induction nf with
    | zero =>
      intro u6 ls H locs hl hB hf
      simp [fX12_sumRead_L1] at hf
    | succ nf ih =>
      intro u6 ls H locs hl hB hf
      rw [fX12_sumRead_L1] at hf
      refine lv_aload_n hx hb dX12_sumRead_25 rfl (lv_at hl 0 rfl) ?_
      refine lv_bipush (v := 59) hx hb dX12_sumRead_26 (by decide) ?_
      refine cxVP (As := [.int (59 : Int32)]) (rest := []) (st1 := [.int (fX12_isSign u6 (59 : Int32))]) C hK (tX12_isSign l E a_M u6 (59 : Int32) (fX12_isSign u6 (59 : Int32)) rfl) lk_X12_212 ⟨rfl, rfl⟩ (by rw [hRf, hRl]; decide) ⟨Nat.zero_le _, Nat.zero_le _⟩ (PB.sub hB.1 [0] rfl) (hB.old hD hN) (Nat.le_trans hN hB.2.2.1) (rc_X12 hK (hB.1 0 _ rfl)) rfl hl.1 rfl rfl (Nat.le_of_ble_eq_true rfl) dX12_sumRead_28 ?_
      obtain ⟨j7, ej7, hf⟩ := ox_ex hf
      have hj7 : ∀ (ls : Array Slot) (H : Heap) (locs : List Loc), lv_has ls 1 [(0, .ref (a_M 0))] → WB E ad s.heap [wModel E a_M u6] H locs → j7 = some X1 → W p l e R s m args below meth c H locs 0 0 Q (F0 m 48 ls []) := by
        intro ls H locs hl hB hf
        have hf := ox_a0 ej7 hf
        refine lv_aload_n hx hb dX12_sumRead_48 rfl (lv_at hl 0 rfl) ?_
        refine gf_X12_X12_wants C hK (hB.1 0 _ rfl) dX12_sumRead_49 ?_
        refine lv_if_eq (tgt := 65) hx hb dX12_sumRead_52 (by decide) (fun c8 => ?_) (fun c8 => ?_)
        · have hf := (if_pos c8).symm.trans hf
          refine lv_aload_n hx hb dX12_sumRead_65 rfl (lv_at hl 0 rfl) ?_
          obtain ⟨r9, hr9, hf⟩ := ox_bind hf
          refine cxVX (bs1 := (fun q => [wModel E a_M r9.2])) (As := []) (rest := []) (st1 := [.int r9.1]) C hK (tX12_signs l E a_M u6 r9 hr9) lk_X12_336 (by rw [hRf, hRl]; decide) ⟨Nat.zero_le _, Nat.zero_le _⟩ hB hD hN [0] (by decide) rfl (fun _ => rfl) (fun _ => rfl) (rc_X12 hK (hB.1 0 _ rfl)) rfl hl.1 rfl rfl (Nat.le_of_ble_eq_true rfl) dX12_sumRead_66 (fun H locs q10 hB => ?_)
          have hB : WB E ad s.heap [wModel E a_M r9.2] H locs := hB
          refine lv_if_ne (tgt := 25) hx hb dX12_sumRead_69 (by decide) (fun c11 => ?_) (fun c11 => ?_)
          · have hf := (if_neg c11).symm.trans hf
            exact ih _ ls H locs (lv_sub hl [0] rfl) hB hf
          · have hf := (if_pos c11).symm.trans hf
            refine lv_iconst (v := 0) hx hb dX12_sumRead_72 (by decide) ?_
            have hf := hret1 _ (Option.some.inj hf)
            subst hf
            exact hQ _ _ H locs (fun _ => 0) (0 : Int32) bz0 hB dX12_sumRead_73
        · have hf := (if_neg c8).symm.trans hf
          refine lv_aload_n hx hb dX12_sumRead_55 rfl (lv_at hl 0 rfl) ?_
          obtain ⟨r12, hr12, hf⟩ := ox_bind hf
          refine cxVX (bs1 := (fun q => [wModel E a_M r12.2])) (As := []) (rest := []) (st1 := [.int r12.1]) C hK (tX12_leafRead l E a_M u6 r12 hr12) lk_X12_333 (by rw [hRf, hRl]; decide) ⟨Nat.zero_le _, Nat.zero_le _⟩ hB hD hN [0] (by decide) rfl (fun _ => rfl) (fun _ => rfl) (rc_X12 hK (hB.1 0 _ rfl)) rfl hl.1 rfl rfl (Nat.le_of_ble_eq_true rfl) dX12_sumRead_56 (fun H locs q13 hB => ?_)
          have hB : WB E ad s.heap [wModel E a_M r12.2] H locs := hB
          refine lv_if_eq (tgt := 72) hx hb dX12_sumRead_59 (by decide) (fun c14 => ?_) (fun c14 => ?_)
          · have hf := (if_pos c14).symm.trans hf
            refine lv_iconst (v := 0) hx hb dX12_sumRead_72 (by decide) ?_
            have hf := hret1 _ (Option.some.inj hf)
            subst hf
            exact hQ _ _ H locs (fun _ => 0) (0 : Int32) bz0 hB dX12_sumRead_73
          · have hf := (if_neg c14).symm.trans hf
            refine lv_goto (tgt := 25) hx hb dX12_sumRead_62 (by decide) ?_
            exact ih _ ls H locs (lv_sub hl [0] rfl) hB hf
      refine lv_if_eq (tgt := 48) hx hb dX12_sumRead_31 (by decide) (fun c15 => ?_) (fun c15 => ?_)
      · have hf := (if_pos c15).symm.trans hf
        exact hj7 ls H locs (lv_sub hl [0] rfl) hB hf
      · have hf := (if_neg c15).symm.trans hf
        refine lv_aload_n hx hb dX12_sumRead_34 rfl (lv_at hl 0 rfl) ?_
        refine gf_X12_X12_wants C hK (hB.1 0 _ rfl) dX12_sumRead_35 ?_
        refine lv_if_ne (tgt := 48) hx hb dX12_sumRead_38 (by decide) (fun c16 => ?_) (fun c16 => ?_)
        · have hf := (if_neg c16).symm.trans hf
          exact hj7 ls H locs (lv_sub hl [0] rfl) hB hf
        · have hf := (if_pos c16).symm.trans hf
          refine lv_aload_n hx hb dX12_sumRead_41 rfl (lv_at hl 0 rfl) ?_
          refine gf_X12_X12_brackets C hK (hB.1 0 _ rfl) dX12_sumRead_42 ?_
          refine lv_if_le (tgt := 74) hx hb dX12_sumRead_45 (by decide) (fun c17 => ?_) (fun c17 => ?_)
          · have hf := (if_pos c17).symm.trans hf
            exact hexit1 _ (Option.some.inj hf) ls H locs (lv_sub hl [0] rfl) hB
          · have hf := (if_neg c17).symm.trans hf
            exact hj7 ls H locs (lv_sub hl [0] rfl) hB hf
  exact hloop1 fuel _ ls H locs (lv_sub hl [0] rfl) hB hX1
set_option maxHeartbeats 4000000 in
set_option maxRecDepth 20000 in
theorem tX12_lineRead (l : Launch) (E : Ev) (a_M : Nat → Nat) (u_M : St) (res : Int32 × St) (hf : fX12_lineRead u_M = some res) : MX l E yX12_lineRead cX12_lineRead 3 (some .boolean) (rmm 4 91) [wModel E a_M u_M] (fun q => [wModel E a_M res.2]) [.ref (a_M 0)] (some (.int res.1)) := by
  unfold fX12_lineRead at hf
  refine MX.ofZZ rfl (by decide) (Nat.le_of_ble_eq_true rfl) ?_
  intro p e R s m args below meth c ls Q ad H hRf hRl C hB hD hK hN hl hQ
  generalize hlocs : ([] : List Loc) = locs at hB ⊢
  clear hlocs
  have hx := C.1
  have hb := C.2.1
  have hl : lv_has ls 3 [(0, .ref (a_M 0))] := hl
  refine lv_aload_n hx hb dX12_lineRead_0 rfl (lv_at hl 0 rfl) ?_
  refine gf_X12_X12_kind C hK (hB.1 0 _ rfl) dX12_lineRead_1 ?_
  refine lv_iconst (v := 1) hx hb dX12_lineRead_4 (by decide) ?_
  obtain ⟨j1, ej1, hf⟩ := ox_ex hf
  have hj1 : ∀ (ls : Array Slot) (H : Heap) (locs : List Loc), lv_has ls 3 [(0, .ref (a_M 0))] → WB E ad s.heap [wModel E a_M u_M] H locs → j1 = some res → W p l e R s m args below meth c H locs 0 0 Q (F0 m 17 ls []) := by
    intro ls H locs hl hB hf
    have hf := ox_a0 ej1 hf
    refine lv_aload_n hx hb dX12_lineRead_17 rfl (lv_at hl 0 rfl) ?_
    refine lv_iconst (v := 1) hx hb dX12_lineRead_18 (by decide) ?_
    obtain ⟨r2, er2, hf⟩ := ox_ex hf
    refine cxVX (bs1 := (fun q => [wModel E a_M r2.2])) (As := [.int (1 : Int32)]) (rest := []) (st1 := [.int r2.1]) C hK (tX12_wrong l E a_M u_M (1 : Int32) r2 er2.symm) lk_X12_199 (by rw [hRf, hRl]; decide) ⟨Nat.zero_le _, Nat.zero_le _⟩ hB hD hN [0] (by decide) rfl (fun _ => rfl) (fun _ => rfl) (rc_X12 hK (hB.1 0 _ rfl)) rfl hl.1 rfl rfl (Nat.le_of_ble_eq_true rfl) dX12_lineRead_19 (fun H locs q3 hB => ?_)
    have hB : WB E ad s.heap [wModel E a_M r2.2] H locs := hB
    have hf := Option.some.inj hf
    subst hf
    exact hQ _ _ H locs (fun _ => 0) r2.1 rfl hB dX12_lineRead_22
  refine lv_icmp_ne (tgt := 17) hx hb dX12_lineRead_5 (by decide) (fun c4 => ?_) (fun c4 => ?_)
  · have hf := (if_neg c4).symm.trans hf
    exact hj1 ls H locs (lv_sub hl [0] rfl) hB hf
  · have hf := (if_pos c4).symm.trans hf
    refine lv_aload_n hx hb dX12_lineRead_8 rfl (lv_at hl 0 rfl) ?_
    refine gf_X12_X12_which C hK (hB.1 0 _ rfl) dX12_lineRead_9 ?_
    refine lv_bipush (v := 6) hx hb dX12_lineRead_12 (by decide) ?_
    refine lv_icmp_le (tgt := 23) hx hb dX12_lineRead_14 (by decide) (fun c5 => ?_) (fun c5 => ?_)
    · have hf := (if_pos c5).symm.trans hf
      refine lv_aload_n hx hb dX12_lineRead_23 rfl (lv_at hl 0 rfl) ?_
      refine gf_X12_X12_which C hK (hB.1 0 _ rfl) dX12_lineRead_24 ?_
      refine lv_topi (fun x6 ex6 => ?_)
      have hf := ox_lt ex6 hf
      obtain ⟨j9, ej9, hf⟩ := ox_ex hf
      have hj9 : ∀ (x7 : Int32) (u8 : St) (ls : Array Slot) (H : Heap) (locs : List Loc), lv_has ls 3 [(0, .ref (a_M 0)), (1, .int x7)] → WB E ad s.heap [wModel E a_M u8] H locs → j9 x7 u8 = some res → W p l e R s m args below meth c H locs 0 0 Q (F0 m 215 ls []) := by
        intro x7 u8 ls H locs hl hB hf
        have hf := ox_a2 ej9 hf
        refine lv_iload_n hx hb dX12_lineRead_215 rfl (lv_at hl 1 rfl) ?_
        refine lv_if_ne (tgt := 221) hx hb dX12_lineRead_216 (by decide) (fun c10 => ?_) (fun c10 => ?_)
        · have hf := (if_neg c10).symm.trans hf
          refine lv_aload_n hx hb dX12_lineRead_221 rfl (lv_at hl 0 rfl) ?_
          refine lv_bipush (v := 59) hx hb dX12_lineRead_222 (by decide) ?_
          refine cxVP (As := [.int (59 : Int32)]) (rest := []) (st1 := [.int (fX12_isSign u8 (59 : Int32))]) C hK (tX12_isSign l E a_M u8 (59 : Int32) (fX12_isSign u8 (59 : Int32)) rfl) lk_X12_212 ⟨rfl, rfl⟩ (by rw [hRf, hRl]; decide) ⟨Nat.zero_le _, Nat.zero_le _⟩ (PB.sub hB.1 [0] rfl) (hB.old hD hN) (Nat.le_trans hN hB.2.2.1) (rc_X12 hK (hB.1 0 _ rfl)) rfl hl.1 rfl rfl (Nat.le_of_ble_eq_true rfl) dX12_lineRead_224 ?_
          refine lv_if_ne (tgt := 236) hx hb dX12_lineRead_227 (by decide) (fun c11 => ?_) (fun c11 => ?_)
          · have hf := (if_neg c11).symm.trans hf
            refine lv_aload_n hx hb dX12_lineRead_236 rfl (lv_at hl 0 rfl) ?_
            obtain ⟨r12, hr12, hf⟩ := ox_bind hf
            refine cxVX (bs1 := (fun q => [wModel E a_M r12])) (As := []) (rest := []) (st1 := []) C hK (tX12_token l E a_M u8 r12 hr12) lk_X12_209 (by rw [hRf, hRl]; decide) ⟨Nat.zero_le _, Nat.zero_le _⟩ hB hD hN [0] (by decide) rfl (fun _ => rfl) (fun _ => rfl) (rc_X12 hK (hB.1 0 _ rfl)) rfl hl.1 rfl rfl (Nat.le_of_ble_eq_true rfl) dX12_lineRead_237 (fun H locs q13 hB => ?_)
            have hB : WB E ad s.heap [wModel E a_M r12] H locs := hB
            refine lv_iconst (v := 1) hx hb dX12_lineRead_240 (by decide) ?_
            have hf := Option.some.inj hf
            subst hf
            exact hQ _ _ H locs (fun _ => 0) (1 : Int32) bz1 hB dX12_lineRead_241
          · have hf := (if_pos c11).symm.trans hf
            refine lv_aload_n hx hb dX12_lineRead_230 rfl (lv_at hl 0 rfl) ?_
            refine lv_iconst (v := 1) hx hb dX12_lineRead_231 (by decide) ?_
            obtain ⟨r14, er14, hf⟩ := ox_ex hf
            refine cxVX (bs1 := (fun q => [wModel E a_M r14.2])) (As := [.int (1 : Int32)]) (rest := []) (st1 := [.int r14.1]) C hK (tX12_wrong l E a_M u8 (1 : Int32) r14 er14.symm) lk_X12_199 (by rw [hRf, hRl]; decide) ⟨Nat.zero_le _, Nat.zero_le _⟩ hB hD hN [0] (by decide) rfl (fun _ => rfl) (fun _ => rfl) (rc_X12 hK (hB.1 0 _ rfl)) rfl hl.1 rfl rfl (Nat.le_of_ble_eq_true rfl) dX12_lineRead_232 (fun H locs q15 hB => ?_)
            have hB : WB E ad s.heap [wModel E a_M r14.2] H locs := hB
            have hf := Option.some.inj hf
            subst hf
            exact hQ _ _ H locs (fun _ => 0) r14.1 rfl hB dX12_lineRead_235
        · have hf := (if_pos c10).symm.trans hf
          refine lv_iconst (v := 0) hx hb dX12_lineRead_219 (by decide) ?_
          have hf := Option.some.inj hf
          subst hf
          exact hQ _ _ H locs (fun _ => 0) (0 : Int32) bz0 hB dX12_lineRead_220
      by_cases c16 : x6 = 0
      · have hf := (if_pos c16).symm.trans hf
        refine lv_tableIn hx hb dX12_lineRead_27 (by rw [c16]; decide) (by rw [c16]; decide) (off := 37) (by rw [c16]; decide) (tgt := 64) (by decide) ?_
        refine lv_aload_n hx hb dX12_lineRead_64 rfl (lv_at hl 0 rfl) ?_
        obtain ⟨r17, hr17, hf⟩ := ox_bind hf
        refine cxVX (bs1 := (fun q => [wModel E a_M r17.2])) (As := []) (rest := []) (st1 := [.int r17.1]) C hK (tX12_actLine l E a_M u_M r17 hr17) lk_X12_267 (by rw [hRf, hRl]; decide) ⟨Nat.zero_le _, Nat.zero_le _⟩ hB hD hN [0] (by decide) rfl (fun _ => rfl) (fun _ => rfl) (rc_X12 hK (hB.1 0 _ rfl)) rfl hl.1 rfl rfl (Nat.le_of_ble_eq_true rfl) dX12_lineRead_65 (fun H locs q18 hB => ?_)
        have hB : WB E ad s.heap [wModel E a_M r17.2] H locs := hB
        refine lv_topi (fun x19 ex19 => ?_)
        have hf := ox_lt ex19 hf
        refine lv_istore_n (lv' := [(1, .int x19), (0, .ref (a_M 0))]) hx hb dX12_lineRead_68 rfl hl (by decide) rfl (fun ls hl => ?_)
        refine lv_goto (tgt := 215) hx hb dX12_lineRead_69 (by decide) ?_
        exact hj9 _ _ ls H locs (lv_sub hl [1, 0] rfl) hB hf
      have hf := (if_neg c16).symm.trans hf
      by_cases c20 : x6 = 1
      · have hf := (if_pos c20).symm.trans hf
        refine lv_tableIn hx hb dX12_lineRead_27 (by rw [c20]; decide) (by rw [c20]; decide) (off := 45) (by rw [c20]; decide) (tgt := 72) (by decide) ?_
        refine lv_aload_n hx hb dX12_lineRead_72 rfl (lv_at hl 0 rfl) ?_
        obtain ⟨r21, hr21, hf⟩ := ox_bind hf
        refine cxVX (bs1 := (fun q => [wModel E a_M r21.2])) (As := []) (rest := []) (st1 := [.int r21.1]) C hK (tX12_guestLine l E a_M u_M r21 hr21) lk_X12_271 (by rw [hRf, hRl]; decide) ⟨Nat.zero_le _, Nat.zero_le _⟩ hB hD hN [0] (by decide) rfl (fun _ => rfl) (fun _ => rfl) (rc_X12 hK (hB.1 0 _ rfl)) rfl hl.1 rfl rfl (Nat.le_of_ble_eq_true rfl) dX12_lineRead_73 (fun H locs q22 hB => ?_)
        have hB : WB E ad s.heap [wModel E a_M r21.2] H locs := hB
        refine lv_topi (fun x23 ex23 => ?_)
        have hf := ox_lt ex23 hf
        refine lv_istore_n (lv' := [(1, .int x23), (0, .ref (a_M 0))]) hx hb dX12_lineRead_76 rfl hl (by decide) rfl (fun ls hl => ?_)
        refine lv_goto (tgt := 215) hx hb dX12_lineRead_77 (by decide) ?_
        exact hj9 _ _ ls H locs (lv_sub hl [1, 0] rfl) hB hf
      have hf := (if_neg c20).symm.trans hf
      by_cases c24 : x6 = 2
      · have hf := (if_pos c24).symm.trans hf
        refine lv_tableIn hx hb dX12_lineRead_27 (by rw [c24]; decide) (by rw [c24]; decide) (off := 53) (by rw [c24]; decide) (tgt := 80) (by decide) ?_
        refine lv_aload_n hx hb dX12_lineRead_80 rfl (lv_at hl 0 rfl) ?_
        obtain ⟨r25, hr25, hf⟩ := ox_bind hf
        refine cxVX (bs1 := (fun q => [wModel E a_M r25.2])) (As := []) (rest := []) (st1 := [.int r25.1]) C hK (tX12_grainLine l E a_M u_M r25 hr25) lk_X12_274 (by rw [hRf, hRl]; decide) ⟨Nat.zero_le _, Nat.zero_le _⟩ hB hD hN [0] (by decide) rfl (fun _ => rfl) (fun _ => rfl) (rc_X12 hK (hB.1 0 _ rfl)) rfl hl.1 rfl rfl (Nat.le_of_ble_eq_true rfl) dX12_lineRead_81 (fun H locs q26 hB => ?_)
        have hB : WB E ad s.heap [wModel E a_M r25.2] H locs := hB
        refine lv_topi (fun x27 ex27 => ?_)
        have hf := ox_lt ex27 hf
        refine lv_istore_n (lv' := [(1, .int x27), (0, .ref (a_M 0))]) hx hb dX12_lineRead_84 rfl hl (by decide) rfl (fun ls hl => ?_)
        refine lv_goto (tgt := 215) hx hb dX12_lineRead_85 (by decide) ?_
        exact hj9 _ _ ls H locs (lv_sub hl [1, 0] rfl) hB hf
      have hf := (if_neg c24).symm.trans hf
      by_cases c28 : x6 = 3
      · have hf := (if_pos c28).symm.trans hf
        refine lv_tableIn hx hb dX12_lineRead_27 (by rw [c28]; decide) (by rw [c28]; decide) (off := 61) (by rw [c28]; decide) (tgt := 88) (by decide) ?_
        refine lv_aload_n hx hb dX12_lineRead_88 rfl (lv_at hl 0 rfl) ?_
        obtain ⟨r29, hr29, hf⟩ := ox_bind hf
        refine cxVX (bs1 := (fun q => [wModel E a_M r29.2])) (As := []) (rest := []) (st1 := [.int r29.1]) C hK (tX12_showLine l E a_M u_M r29 hr29) lk_X12_277 (by rw [hRf, hRl]; decide) ⟨Nat.zero_le _, Nat.zero_le _⟩ hB hD hN [0] (by decide) rfl (fun _ => rfl) (fun _ => rfl) (rc_X12 hK (hB.1 0 _ rfl)) rfl hl.1 rfl rfl (Nat.le_of_ble_eq_true rfl) dX12_lineRead_89 (fun H locs q30 hB => ?_)
        have hB : WB E ad s.heap [wModel E a_M r29.2] H locs := hB
        refine lv_topi (fun x31 ex31 => ?_)
        have hf := ox_lt ex31 hf
        refine lv_istore_n (lv' := [(1, .int x31), (0, .ref (a_M 0))]) hx hb dX12_lineRead_92 rfl hl (by decide) rfl (fun ls hl => ?_)
        refine lv_goto (tgt := 215) hx hb dX12_lineRead_93 (by decide) ?_
        exact hj9 _ _ ls H locs (lv_sub hl [1, 0] rfl) hB hf
      have hf := (if_neg c28).symm.trans hf
      by_cases c32 : x6 = 4
      · have hf := (if_pos c32).symm.trans hf
        refine lv_tableIn hx hb dX12_lineRead_27 (by rw [c32]; decide) (by rw [c32]; decide) (off := 69) (by rw [c32]; decide) (tgt := 96) (by decide) ?_
        refine lv_aload_n hx hb dX12_lineRead_96 rfl (lv_at hl 0 rfl) ?_
        refine lv_iconst (v := 0) hx hb dX12_lineRead_97 (by decide) ?_
        refine lv_bipush (v := 100) hx hb dX12_lineRead_98 (by decide) ?_
        obtain ⟨r33, hr33, hf⟩ := ox_bind hf
        refine cxVX (bs1 := (fun q => [wModel E a_M r33.2])) (As := [.int (0 : Int32), .int (100 : Int32)]) (rest := []) (st1 := [.int r33.1]) C hK (tX12_onceLine l E a_M u_M (0 : Int32) (100 : Int32) r33 hr33) lk_X12_280 (by rw [hRf, hRl]; decide) ⟨Nat.zero_le _, Nat.zero_le _⟩ hB hD hN [0] (by decide) rfl (fun _ => rfl) (fun _ => rfl) (rc_X12 hK (hB.1 0 _ rfl)) rfl hl.1 rfl rfl (Nat.le_of_ble_eq_true rfl) dX12_lineRead_100 (fun H locs q34 hB => ?_)
        have hB : WB E ad s.heap [wModel E a_M r33.2] H locs := hB
        refine lv_topi (fun x35 ex35 => ?_)
        have hf := ox_lt ex35 hf
        refine lv_istore_n (lv' := [(1, .int x35), (0, .ref (a_M 0))]) hx hb dX12_lineRead_103 rfl hl (by decide) rfl (fun ls hl => ?_)
        refine lv_goto (tgt := 215) hx hb dX12_lineRead_104 (by decide) ?_
        exact hj9 _ _ ls H locs (lv_sub hl [1, 0] rfl) hB hf
      have hf := (if_neg c32).symm.trans hf
      by_cases c36 : x6 = 5
      · have hf := (if_pos c36).symm.trans hf
        refine lv_tableIn hx hb dX12_lineRead_27 (by rw [c36]; decide) (by rw [c36]; decide) (off := 80) (by rw [c36]; decide) (tgt := 107) (by decide) ?_
        refine lv_aload_n hx hb dX12_lineRead_107 rfl (lv_at hl 0 rfl) ?_
        refine lv_iconst (v := 1) hx hb dX12_lineRead_108 (by decide) ?_
        refine lv_ldc (v := 99999) hx hb C.2.2.2.1 (C.2.2.2.2 _ mw_1581) dX12_lineRead_109 ?_
        obtain ⟨r37, hr37, hf⟩ := ox_bind hf
        refine cxVX (bs1 := (fun q => [wModel E a_M r37.2])) (As := [.int (1 : Int32), .int (99999 : Int32)]) (rest := []) (st1 := [.int r37.1]) C hK (tX12_onceLine l E a_M u_M (1 : Int32) (99999 : Int32) r37 hr37) lk_X12_280 (by rw [hRf, hRl]; decide) ⟨Nat.zero_le _, Nat.zero_le _⟩ hB hD hN [0] (by decide) rfl (fun _ => rfl) (fun _ => rfl) (rc_X12 hK (hB.1 0 _ rfl)) rfl hl.1 rfl rfl (Nat.le_of_ble_eq_true rfl) dX12_lineRead_111 (fun H locs q38 hB => ?_)
        have hB : WB E ad s.heap [wModel E a_M r37.2] H locs := hB
        refine lv_topi (fun x39 ex39 => ?_)
        have hf := ox_lt ex39 hf
        refine lv_istore_n (lv' := [(1, .int x39), (0, .ref (a_M 0))]) hx hb dX12_lineRead_114 rfl hl (by decide) rfl (fun ls hl => ?_)
        refine lv_goto (tgt := 215) hx hb dX12_lineRead_115 (by decide) ?_
        exact hj9 _ _ ls H locs (lv_sub hl [1, 0] rfl) hB hf
      have hf := (if_neg c36).symm.trans hf
      have hd66 : W p l e R s m args below meth c H locs 0 0 Q (F0 m 118 ls []) := by
        refine lv_aload_n hx hb dX12_lineRead_118 rfl (lv_at hl 0 rfl) ?_
        obtain ⟨r40, hr40, hf⟩ := ox_bind hf
        refine cxVX (bs1 := (fun q => [wModel E a_M r40])) (As := []) (rest := []) (st1 := []) C hK (tX12_token l E a_M u_M r40 hr40) lk_X12_209 (by rw [hRf, hRl]; decide) ⟨Nat.zero_le _, Nat.zero_le _⟩ hB hD hN [0] (by decide) rfl (fun _ => rfl) (fun _ => rfl) (rc_X12 hK (hB.1 0 _ rfl)) rfl hl.1 rfl rfl (Nat.le_of_ble_eq_true rfl) dX12_lineRead_119 (fun H locs q41 hB => ?_)
        have hB : WB E ad s.heap [wModel E a_M r40] H locs := hB
        refine lv_aload_n hx hb dX12_lineRead_122 rfl (lv_at hl 0 rfl) ?_
        refine gf_X12_X12_kind C hK (hB.1 0 _ rfl) dX12_lineRead_123 ?_
        refine lv_iconst (v := 1) hx hb dX12_lineRead_126 (by decide) ?_
        obtain ⟨j42, ej42, hf⟩ := ox_ex hf
        have hj42 : ∀ (ls : Array Slot) (H : Heap) (locs : List Loc), lv_has ls 3 [(0, .ref (a_M 0))] → WB E ad s.heap [wModel E a_M r40] H locs → j42 = some res → W p l e R s m args below meth c H locs 0 0 Q (F0 m 148 ls []) := by
          intro ls H locs hl hB hf
          have hf := ox_a0 ej42 hf
          refine lv_aload_n hx hb dX12_lineRead_148 rfl (lv_at hl 0 rfl) ?_
          refine lv_iconst (v := 1) hx hb dX12_lineRead_149 (by decide) ?_
          obtain ⟨r43, er43, hf⟩ := ox_ex hf
          refine cxVX (bs1 := (fun q => [wModel E a_M r43.2])) (As := [.int (1 : Int32)]) (rest := []) (st1 := [.int r43.1]) C hK (tX12_wrong l E a_M r40 (1 : Int32) r43 er43.symm) lk_X12_199 (by rw [hRf, hRl]; decide) ⟨Nat.zero_le _, Nat.zero_le _⟩ hB hD hN [0] (by decide) rfl (fun _ => rfl) (fun _ => rfl) (rc_X12 hK (hB.1 0 _ rfl)) rfl hl.1 rfl rfl (Nat.le_of_ble_eq_true rfl) dX12_lineRead_150 (fun H locs q44 hB => ?_)
          have hB : WB E ad s.heap [wModel E a_M r43.2] H locs := hB
          have hf := Option.some.inj hf
          subst hf
          exact hQ _ _ H locs (fun _ => 0) r43.1 rfl hB dX12_lineRead_153
        refine lv_icmp_ne (tgt := 148) hx hb dX12_lineRead_127 (by decide) (fun c45 => ?_) (fun c45 => ?_)
        · have hf := (if_neg c45).symm.trans hf
          exact hj42 ls H locs (lv_sub hl [0] rfl) hB hf
        · have hf := (if_pos c45).symm.trans hf
          refine lv_aload_n hx hb dX12_lineRead_130 rfl (lv_at hl 0 rfl) ?_
          refine gf_X12_X12_which C hK (hB.1 0 _ rfl) dX12_lineRead_131 ?_
          refine lv_bipush (v := 7) hx hb dX12_lineRead_134 (by decide) ?_
          refine lv_icmp_lt (tgt := 148) hx hb dX12_lineRead_136 (by decide) (fun c46 => ?_) (fun c46 => ?_)
          · have hf := (if_pos c46).symm.trans hf
            exact hj42 ls H locs (lv_sub hl [0] rfl) hB hf
          · have hf := (if_neg c46).symm.trans hf
            refine lv_aload_n hx hb dX12_lineRead_139 rfl (lv_at hl 0 rfl) ?_
            refine gf_X12_X12_which C hK (hB.1 0 _ rfl) dX12_lineRead_140 ?_
            refine lv_bipush (v := 9) hx hb dX12_lineRead_143 (by decide) ?_
            refine lv_icmp_le (tgt := 154) hx hb dX12_lineRead_145 (by decide) (fun c47 => ?_) (fun c47 => ?_)
            · have hf := (if_pos c47).symm.trans hf
              refine lv_iconst (v := 3) hx hb dX12_lineRead_154 (by decide) ?_
              refine lv_aload_n hx hb dX12_lineRead_155 rfl (lv_at hl 0 rfl) ?_
              refine gf_X12_X12_which C hK (hB.1 0 _ rfl) dX12_lineRead_156 ?_
              refine lv_iadd hx hb dX12_lineRead_159 ?_
              refine lv_bipush (v := 7) hx hb dX12_lineRead_160 (by decide) ?_
              refine lv_isub hx hb dX12_lineRead_162 ?_
              refine lv_topi (fun x48 ex48 => ?_)
              have hf := ox_lt ex48 hf
              refine lv_istore_n (lv' := [(2, .int x48), (0, .ref (a_M 0))]) hx hb dX12_lineRead_163 rfl hl (by decide) rfl (fun ls hl => ?_)
              refine lv_aload_n hx hb dX12_lineRead_164 rfl (lv_at hl 1 rfl) ?_
              refine gf_X12_X12_lawTold C hK (hB.1 0 _ rfl) dX12_lineRead_165 ?_
              refine lv_iload_n hx hb dX12_lineRead_168 rfl (lv_at hl 0 rfl) ?_
              obtain ⟨hn49, hf⟩ := ox_chk hf
              refine ld_X12_lawTold C hK (hB.1 0 _ rfl) hn49 rfl dX12_lineRead_169 ?_
              refine lv_if_eq (tgt := 179) hx hb dX12_lineRead_170 (by decide) (fun c50 => ?_) (fun c50 => ?_)
              · have hf := (if_pos c50).symm.trans hf
                refine lv_aload_n hx hb dX12_lineRead_179 rfl (lv_at hl 1 rfl) ?_
                refine gf_X12_X12_lawTold C hK (hB.1 0 _ rfl) dX12_lineRead_180 ?_
                refine lv_iload_n hx hb dX12_lineRead_183 rfl (lv_at hl 0 rfl) ?_
                refine lv_iconst (v := 1) hx hb dX12_lineRead_184 (by decide) ?_
                obtain ⟨hn51, hf⟩ := ox_chk hf
                refine st_X12_lawTold C hK hB hD 0 rfl hn51 rfl dX12_lineRead_185 (fun H locs u52 eu52 hB => ?_)
                have hf := ox_lt eu52 hf
                have hB : WB E ad s.heap [wModel E a_M u52] H locs := hB
                refine lv_aload_n hx hb dX12_lineRead_186 rfl (lv_at hl 1 rfl) ?_
                obtain ⟨r53, hr53, hf⟩ := ox_bind hf
                refine cxVX (bs1 := (fun q => [wModel E a_M r53])) (As := []) (rest := []) (st1 := []) C hK (tX12_token l E a_M u52 r53 hr53) lk_X12_209 (by rw [hRf, hRl]; decide) ⟨Nat.zero_le _, Nat.zero_le _⟩ hB hD hN [0] (by decide) rfl (fun _ => rfl) (fun _ => rfl) (rc_X12 hK (hB.1 0 _ rfl)) rfl hl.1 rfl rfl (Nat.le_of_ble_eq_true rfl) dX12_lineRead_187 (fun H locs q54 hB => ?_)
                have hB : WB E ad s.heap [wModel E a_M r53] H locs := hB
                refine lv_aload_n hx hb dX12_lineRead_190 rfl (lv_at hl 1 rfl) ?_
                refine gf_X12_X12_from C hK (hB.1 0 _ rfl) dX12_lineRead_191 ?_
                refine lv_iload_n hx hb dX12_lineRead_194 rfl (lv_at hl 0 rfl) ?_
                refine lv_aload_n hx hb dX12_lineRead_195 rfl (lv_at hl 1 rfl) ?_
                refine gf_X12_X12_knotsRead C hK (hB.1 0 _ rfl) dX12_lineRead_196 ?_
                refine lv_topi (fun x55 ex55 => ?_)
                have hf := ox_lt ex55 hf
                obtain ⟨hn56, hf⟩ := ox_chk hf
                refine st_X12_from C hK hB hD 0 rfl hn56 rfl dX12_lineRead_199 (fun H locs u57 eu57 hB => ?_)
                have hf := ox_lt eu57 hf
                have hB : WB E ad s.heap [wModel E a_M u57] H locs := hB
                refine lv_aload_n hx hb dX12_lineRead_200 rfl (lv_at hl 1 rfl) ?_
                obtain ⟨r58, hr58, hf⟩ := ox_bind hf
                refine cxVX (bs1 := (fun q => [wModel E a_M r58.2])) (As := []) (rest := []) (st1 := [.int r58.1]) C hK (tX12_sumRead l E a_M u57 r58 hr58) lk_X12_283 (by rw [hRf, hRl]; decide) ⟨Nat.zero_le _, Nat.zero_le _⟩ hB hD hN [0] (by decide) rfl (fun _ => rfl) (fun _ => rfl) (rc_X12 hK (hB.1 0 _ rfl)) rfl hl.1 rfl rfl (Nat.le_of_ble_eq_true rfl) dX12_lineRead_201 (fun H locs q59 hB => ?_)
                have hB : WB E ad s.heap [wModel E a_M r58.2] H locs := hB
                refine lv_topi (fun x60 ex60 => ?_)
                have hf := ox_lt ex60 hf
                refine lv_istore_n (lv' := [(1, .int x60), (2, .int x48), (0, .ref (a_M 0))]) hx hb dX12_lineRead_204 rfl hl (by decide) rfl (fun ls hl => ?_)
                refine lv_aload_n hx hb dX12_lineRead_205 rfl (lv_at hl 2 rfl) ?_
                refine gf_X12_X12_to C hK (hB.1 0 _ rfl) dX12_lineRead_206 ?_
                refine lv_iload_n hx hb dX12_lineRead_209 rfl (lv_at hl 1 rfl) ?_
                refine lv_aload_n hx hb dX12_lineRead_210 rfl (lv_at hl 2 rfl) ?_
                refine gf_X12_X12_knotsRead C hK (hB.1 0 _ rfl) dX12_lineRead_211 ?_
                refine lv_topi (fun x61 ex61 => ?_)
                have hf := ox_lt ex61 hf
                obtain ⟨hn62, hf⟩ := ox_chk hf
                refine st_X12_to C hK hB hD 0 rfl hn62 rfl dX12_lineRead_214 (fun H locs u63 eu63 hB => ?_)
                have hf := ox_lt eu63 hf
                have hB : WB E ad s.heap [wModel E a_M u63] H locs := hB
                exact hj9 _ _ ls H locs (lv_sub hl [2, 0] rfl) hB hf
              · have hf := (if_neg c50).symm.trans hf
                refine lv_aload_n hx hb dX12_lineRead_173 rfl (lv_at hl 1 rfl) ?_
                refine lv_iconst (v := 3) hx hb dX12_lineRead_174 (by decide) ?_
                obtain ⟨r64, er64, hf⟩ := ox_ex hf
                refine cxVX (bs1 := (fun q => [wModel E a_M r64.2])) (As := [.int (3 : Int32)]) (rest := []) (st1 := [.int r64.1]) C hK (tX12_wrong l E a_M r40 (3 : Int32) r64 er64.symm) lk_X12_199 (by rw [hRf, hRl]; decide) ⟨Nat.zero_le _, Nat.zero_le _⟩ hB hD hN [0] (by decide) rfl (fun _ => rfl) (fun _ => rfl) (rc_X12 hK (hB.1 0 _ rfl)) rfl hl.1 rfl rfl (Nat.le_of_ble_eq_true rfl) dX12_lineRead_175 (fun H locs q65 hB => ?_)
                have hB : WB E ad s.heap [wModel E a_M r64.2] H locs := hB
                have hf := Option.some.inj hf
                subst hf
                exact hQ _ _ H locs (fun _ => 0) r64.1 rfl hB dX12_lineRead_178
            · have hf := (if_neg c47).symm.trans hf
              exact hj42 ls H locs (lv_sub hl [0] rfl) hB hf
      have nc16 := lv_neT c16 (show Int32.toInt 0 = 0 from rfl)
      have nc20 := lv_neT c20 (show Int32.toInt 1 = 1 from rfl)
      have nc24 := lv_neT c24 (show Int32.toInt 2 = 2 from rfl)
      have nc28 := lv_neT c28 (show Int32.toInt 3 = 3 from rfl)
      have nc32 := lv_neT c32 (show Int32.toInt 4 = 4 from rfl)
      have nc36 := lv_neT c36 (show Int32.toInt 5 = 5 from rfl)
      rcases (show Int32.toInt x6 < 0 ∨ 5 < Int32.toInt x6 by omega) with h | h
      · exact lv_tableOut hx hb dX12_lineRead_27 (Or.inl h) (tgt := 118) (by decide) hd66
      · exact lv_tableOut hx hb dX12_lineRead_27 (Or.inr h) (tgt := 118) (by decide) hd66
    · have hf := (if_neg c5).symm.trans hf
      exact hj1 ls H locs (lv_sub hl [0] rfl) hB hf
set_option maxHeartbeats 4000000 in
set_option maxRecDepth 20000 in
theorem tX12_text (l : Launch) (E : Ev) (a_M : Nat → Nat) (u_M : St) (x_1 : Int32) (res : Int32 × St) (hf : fX12_text u_M x_1 = some res) : MX l E yX12_text cX12_text 3 (some .int) (rmm 5 113) [wModel E a_M u_M] (fun q => [wModel E a_M res.2]) [.ref (a_M 0), .int x_1] (some (.int res.1)) := by
  unfold fX12_text at hf
  refine MX.ofI rfl (by decide) (Nat.le_of_ble_eq_true rfl) ?_
  intro p e R s m args below meth c ls Q ad H hRf hRl C hB hD hK hN hl hQ
  generalize hlocs : ([] : List Loc) = locs at hB ⊢
  clear hlocs
  have hx := C.1
  have hb := C.2.1
  have hl : lv_has ls 3 [(0, .ref (a_M 0)), (1, .int x_1)] := hl
  refine lv_aload_n hx hb dX12_text_0 rfl (lv_at hl 0 rfl) ?_
  refine lv_iconst (v := 0) hx hb dX12_text_1 (by decide) ?_
  refine pf_X12_X12_thrown C hK hB hD 0 rfl dX12_text_2 (fun H locs u1 eu1 hB => ?_)
  have hf := ox_lt eu1 hf
  have hB : WB E ad s.heap [wModel E a_M u1] H locs := hB
  refine lv_iload_n hx hb dX12_text_5 rfl (lv_at hl 1 rfl) ?_
  refine lv_if_lt (tgt := 17) hx hb dX12_text_6 (by decide) (fun c2 => ?_) (fun c2 => ?_)
  · have hf := (if_pos c2).symm.trans hf
    refine lv_bipush (v := (-2)) hx hb dX12_text_17 (by decide) ?_
    have hf := Option.some.inj hf
    subst hf
    exact hQ _ _ H locs (fun _ => 0) hB dX12_text_19
  · have hf := (if_neg c2).symm.trans hf
    refine lv_iload_n hx hb dX12_text_9 rfl (lv_at hl 1 rfl) ?_
    refine lv_aload_n hx hb dX12_text_10 rfl (lv_at hl 0 rfl) ?_
    refine gf_X12_X12_tapeSize C hK (hB.1 0 _ rfl) dX12_text_11 ?_
    refine lv_icmp_le (tgt := 20) hx hb dX12_text_14 (by decide) (fun c3 => ?_) (fun c3 => ?_)
    · have hf := (if_pos c3).symm.trans hf
      refine lv_aload_n hx hb dX12_text_20 rfl (lv_at hl 0 rfl) ?_
      refine lv_iload_n hx hb dX12_text_21 rfl (lv_at hl 1 rfl) ?_
      refine pf_X12_X12_stop C hK hB hD 0 rfl dX12_text_22 (fun H locs u4 eu4 hB => ?_)
      have hf := ox_lt eu4 hf
      have hB : WB E ad s.heap [wModel E a_M u4] H locs := hB
      refine lv_aload_n hx hb dX12_text_25 rfl (lv_at hl 0 rfl) ?_
      refine lv_iconst (v := 0) hx hb dX12_text_26 (by decide) ?_
      refine pf_X12_X12_tapeSize C hK hB hD 0 rfl dX12_text_27 (fun H locs u5 eu5 hB => ?_)
      have hf := ox_lt eu5 hf
      have hB : WB E ad s.heap [wModel E a_M u5] H locs := hB
      refine lv_aload_n hx hb dX12_text_30 rfl (lv_at hl 0 rfl) ?_
      refine lv_iconst (v := 0) hx hb dX12_text_31 (by decide) ?_
      refine pf_X12_X12_fault C hK hB hD 0 rfl dX12_text_32 (fun H locs u6 eu6 hB => ?_)
      have hf := ox_lt eu6 hf
      have hB : WB E ad s.heap [wModel E a_M u6] H locs := hB
      refine lv_aload_n hx hb dX12_text_35 rfl (lv_at hl 0 rfl) ?_
      refine lv_iconst (v := (-1)) hx hb dX12_text_36 (by decide) ?_
      refine pf_X12_X12_faultPlace C hK hB hD 0 rfl dX12_text_37 (fun H locs u7 eu7 hB => ?_)
      have hf := ox_lt eu7 hf
      have hB : WB E ad s.heap [wModel E a_M u7] H locs := hB
      refine lv_aload_n hx hb dX12_text_40 rfl (lv_at hl 0 rfl) ?_
      refine lv_iconst (v := 0) hx hb dX12_text_41 (by decide) ?_
      refine pf_X12_X12_next C hK hB hD 0 rfl dX12_text_42 (fun H locs u8 eu8 hB => ?_)
      have hf := ox_lt eu8 hf
      have hB : WB E ad s.heap [wModel E a_M u8] H locs := hB
      refine lv_aload_n hx hb dX12_text_45 rfl (lv_at hl 0 rfl) ?_
      obtain ⟨r9, hr9, hf⟩ := ox_bind hf
      refine cxVX (bs1 := (fun q => [wModel E a_M r9])) (As := []) (rest := []) (st1 := []) C hK (tX12_plain l E a_M u8 r9 hr9) lk_X12_151 (by rw [hRf, hRl]; decide) ⟨Nat.zero_le _, Nat.zero_le _⟩ hB hD hN [0] (by decide) rfl (fun _ => rfl) (fun _ => rfl) (rc_X12 hK (hB.1 0 _ rfl)) rfl hl.1 rfl rfl (Nat.le_of_ble_eq_true rfl) dX12_text_46 (fun H locs q10 hB => ?_)
      have hB : WB E ad s.heap [wModel E a_M r9] H locs := hB
      refine lv_aload_n hx hb dX12_text_49 rfl (lv_at hl 0 rfl) ?_
      obtain ⟨r11, hr11, hf⟩ := ox_bind hf
      refine cxVX (bs1 := (fun q => [wModel E a_M r11])) (As := []) (rest := []) (st1 := []) C hK (tX12_token l E a_M r9 r11 hr11) lk_X12_209 (by rw [hRf, hRl]; decide) ⟨Nat.zero_le _, Nat.zero_le _⟩ hB hD hN [0] (by decide) rfl (fun _ => rfl) (fun _ => rfl) (rc_X12 hK (hB.1 0 _ rfl)) rfl hl.1 rfl rfl (Nat.le_of_ble_eq_true rfl) dX12_text_50 (fun H locs q12 hB => ?_)
      have hB : WB E ad s.heap [wModel E a_M r11] H locs := hB
      refine lv_iconst (v := 0) hx hb dX12_text_53 (by decide) ?_
      refine lv_istore_n (lv' := [(2, .int (0 : Int32)), (0, .ref (a_M 0)), (1, .int x_1)]) hx hb dX12_text_54 rfl hl (by decide) rfl (fun ls hl => ?_)
      obtain ⟨X1, hX1, hf⟩ := ox_bind hf
      have hexit1 : ∀ y20, .inl y20 = X1 → ∀ (ls : Array Slot) (H : Heap) (locs : List Loc), lv_has ls 3 [(0, .ref (a_M 0)), (2, .int y20.1)] → WB E ad s.heap [wModel E a_M y20.2] H locs → W p l e R s m args below meth c H locs 0 0 Q (F0 m 77 ls []) := by
        intro y20 hy ls H locs hl hB
        subst hy
        have hf := ox_inl hf
        refine lv_aload_n hx hb dX12_text_77 rfl (lv_at hl 0 rfl) ?_
        obtain ⟨r21, hr21, hf⟩ := ox_bind hf
        refine cxVX (bs1 := (fun q => [wModel E a_M r21])) (As := []) (rest := []) (st1 := []) C hK (tX12_keepText l E a_M (y20.2) r21 hr21) lk_X12_154 (by rw [hRf, hRl]; decide) ⟨Nat.zero_le _, Nat.zero_le _⟩ hB hD hN [0] (by decide) rfl (fun _ => rfl) (fun _ => rfl) (rc_X12 hK (hB.1 0 _ rfl)) rfl hl.1 rfl rfl (Nat.le_of_ble_eq_true rfl) dX12_text_78 (fun H locs q22 hB => ?_)
        have hB : WB E ad s.heap [wModel E a_M r21] H locs := hB
        refine lv_iload_n hx hb dX12_text_81 rfl (lv_at hl 1 rfl) ?_
        have hf := Option.some.inj hf
        subst hf
        exact hQ _ _ H locs (fun _ => 0) hB dX12_text_82
      have hret1 : ∀ r, .inr r = X1 → r = res := by
        intro r hr
        subst hr
        exact Option.some.inj (ox_inr hf)
      have hloop1 : ∀ (nf : Nat) (x13 : Int32) (u14 : St) (ls : Array Slot) (H : Heap) (locs : List Loc), lv_has ls 3 [(0, .ref (a_M 0)), (2, .int x13)] → WB E ad s.heap [wModel E a_M u14] H locs → fX12_text_L1 nf x13 u14 = some X1 → W p l e R s m args below meth c H locs 0 0 Q (F0 m 55 ls []) := by
        intro nf
        induction nf with
        | zero =>
          intro x13 u14 ls H locs hl hB hf
          simp [fX12_text_L1] at hf
        | succ nf ih =>
          intro x13 u14 ls H locs hl hB hf
          rw [fX12_text_L1] at hf
          refine lv_aload_n hx hb dX12_text_55 rfl (lv_at hl 0 rfl) ?_
          refine gf_X12_X12_kind C hK (hB.1 0 _ rfl) dX12_text_56 ?_
          refine lv_if_eq (tgt := 77) hx hb dX12_text_59 (by decide) (fun c15 => ?_) (fun c15 => ?_)
          · have hf := (if_pos c15).symm.trans hf
            exact hexit1 _ (Option.some.inj hf) ls H locs (lv_sub hl [0, 1] rfl) hB
          · have hf := (if_neg c15).symm.trans hf
            refine lv_aload_n hx hb dX12_text_62 rfl (lv_at hl 0 rfl) ?_
            obtain ⟨r16, hr16, hf⟩ := ox_bind hf
            refine cxVX (bs1 := (fun q => [wModel E a_M r16.2])) (As := []) (rest := []) (st1 := [.int r16.1]) C hK (tX12_lineRead l E a_M u14 r16 hr16) lk_X12_286 (by rw [hRf, hRl]; decide) ⟨Nat.zero_le _, Nat.zero_le _⟩ hB hD hN [0] (by decide) rfl (fun _ => rfl) (fun _ => rfl) (rc_X12 hK (hB.1 0 _ rfl)) rfl hl.1 rfl rfl (Nat.le_of_ble_eq_true rfl) dX12_text_63 (fun H locs q17 hB => ?_)
            have hB : WB E ad s.heap [wModel E a_M r16.2] H locs := hB
            refine lv_if_ne (tgt := 71) hx hb dX12_text_66 (by decide) (fun c18 => ?_) (fun c18 => ?_)
            · have hf := (if_neg c18).symm.trans hf
              obtain ⟨x19, ex19⟩ : ∃ z : Int32, z = (x13 + 1) := ⟨_, rfl⟩
              have hf := ox_lt ex19 hf
              refine lv_iinc (v := x19) (lv' := [(2, .int x19), (0, .ref (a_M 0))]) hx hb dX12_text_71 hl (k := 1) rfl (by rw [ex19]; rfl) (by decide) rfl (fun ls hl => ?_)
              refine lv_goto (tgt := 55) hx hb dX12_text_74 (by decide) ?_
              exact ih _ _ ls H locs (lv_sub hl [1, 0] rfl) hB hf
            · have hf := (if_pos c18).symm.trans hf
              refine lv_iconst (v := (-1)) hx hb dX12_text_69 (by decide) ?_
              have hf := hret1 _ (Option.some.inj hf)
              subst hf
              exact hQ _ _ H locs (fun _ => 0) hB dX12_text_70
      exact hloop1 fuel _ _ ls H locs (lv_sub hl [1, 0] rfl) hB hX1
    · have hf := (if_neg c3).symm.trans hf
      refine lv_bipush (v := (-2)) hx hb dX12_text_17 (by decide) ?_
      have hf := Option.some.inj hf
      subst hf
      exact hQ _ _ H locs (fun _ => 0) hB dX12_text_19
set_option maxHeartbeats 4000000 in
set_option maxRecDepth 20000 in
theorem tX12_fault (l : Launch) (E : Ev) (a_M : Nat → Nat) (u_M : St) (x_1 : Int32) (res : Int32 × St) (hf : fX12_fault u_M x_1 = res) : MX l E yX12_fault cX12_fault 2 (some .int) (rmm 0 0) [wModel E a_M u_M] (fun q => [wModel E a_M res.2]) [.ref (a_M 0), .int x_1] (some (.int res.1)) := by
  unfold fX12_fault at hf
  refine MX.ofI rfl (by decide) (Nat.le_of_ble_eq_true rfl) ?_
  intro p e R s m args below meth c ls Q ad H hRf hRl C hB hD hK hN hl hQ
  generalize hlocs : ([] : List Loc) = locs at hB ⊢
  clear hlocs
  have hx := C.1
  have hb := C.2.1
  have hl : lv_has ls 2 [(0, .ref (a_M 0)), (1, .int x_1)] := hl
  refine lv_aload_n hx hb dX12_fault_0 rfl (lv_at hl 0 rfl) ?_
  refine lv_iconst (v := 0) hx hb dX12_fault_1 (by decide) ?_
  refine pf_X12_X12_thrown C hK hB hD 0 rfl dX12_fault_2 (fun H locs u1 eu1 hB => ?_)
  have hf := ox_lt eu1 hf
  have hB : WB E ad s.heap [wModel E a_M u1] H locs := hB
  refine lv_iload_n hx hb dX12_fault_5 rfl (lv_at hl 1 rfl) ?_
  obtain ⟨x2, ex2, hf⟩ := ox_ex hf
  have hjx2 : W p l e R s m args below meth c H locs 0 0 Q (F0 m 29 ls [.int x2]) := by
    subst hf
    exact hQ _ _ H locs (fun _ => 0) hB dX12_fault_29
  refine lv_if_ne (tgt := 16) hx hb dX12_fault_6 (by decide) (fun c3 => ?_) (fun c3 => ?_)
  · refine lv_iload_n hx hb dX12_fault_16 rfl (lv_at hl 1 rfl) ?_
    refine lv_iconst (v := 1) hx hb dX12_fault_17 (by decide) ?_
    refine lv_icmp_ne (tgt := 28) hx hb dX12_fault_18 (by decide) (fun c4 => ?_) (fun c4 => ?_)
    · refine lv_iconst (v := (-1)) hx hb dX12_fault_28 (by decide) ?_
      exact ox_topi (((ex2).trans (if_neg c3)).trans (if_neg c4)).symm hjx2
    · refine lv_aload_n hx hb dX12_fault_21 rfl (lv_at hl 0 rfl) ?_
      refine gf_X12_X12_faultPlace C hK (hB.1 0 _ rfl) dX12_fault_22 ?_
      refine lv_goto (tgt := 29) hx hb dX12_fault_25 (by decide) ?_
      exact ox_topi (((ex2).trans (if_neg c3)).trans (if_pos c4)).symm hjx2
  · refine lv_aload_n hx hb dX12_fault_9 rfl (lv_at hl 0 rfl) ?_
    refine gf_X12_X12_fault C hK (hB.1 0 _ rfl) dX12_fault_10 ?_
    refine lv_goto (tgt := 29) hx hb dX12_fault_13 (by decide) ?_
    exact ox_topi ((ex2).trans (if_pos c3)).symm hjx2
set_option maxHeartbeats 4000000 in
set_option maxRecDepth 20000 in
theorem tX12_named (l : Launch) (E : Ev) (a_M : Nat → Nat) (u_M : St) (x_1 : Int32) (x_2 : Int32) (res : Int32 × St) (hf : fX12_named u_M x_1 x_2 = some res) : MX l E yX12_named cX12_named 3 (some .int) (rmm 1 24) [wModel E a_M u_M] (fun q => [wModel E a_M res.2]) [.ref (a_M 0), .int x_1, .int x_2] (some (.int res.1)) := by
  unfold fX12_named at hf
  refine MX.ofI rfl (by decide) (Nat.le_of_ble_eq_true rfl) ?_
  intro p e R s m args below meth c ls Q ad H hRf hRl C hB hD hK hN hl hQ
  generalize hlocs : ([] : List Loc) = locs at hB ⊢
  clear hlocs
  have hx := C.1
  have hb := C.2.1
  have hl : lv_has ls 3 [(0, .ref (a_M 0)), (1, .int x_1), (2, .int x_2)] := hl
  refine lv_aload_n hx hb dX12_named_0 rfl (lv_at hl 0 rfl) ?_
  refine lv_iconst (v := 0) hx hb dX12_named_1 (by decide) ?_
  refine pf_X12_X12_thrown C hK hB hD 0 rfl dX12_named_2 (fun H locs u1 eu1 hB => ?_)
  have hf := ox_lt eu1 hf
  have hB : WB E ad s.heap [wModel E a_M u1] H locs := hB
  refine lv_iload_n hx hb dX12_named_5 rfl (lv_at hl 1 rfl) ?_
  refine lv_if_ne (tgt := 25) hx hb dX12_named_6 (by decide) (fun c2 => ?_) (fun c2 => ?_)
  · have hf := (if_neg c2).symm.trans hf
    refine lv_iload_n hx hb dX12_named_25 rfl (lv_at hl 1 rfl) ?_
    refine lv_iconst (v := 1) hx hb dX12_named_26 (by decide) ?_
    refine lv_icmp_ne (tgt := 46) hx hb dX12_named_27 (by decide) (fun c3 => ?_) (fun c3 => ?_)
    · have hf := (if_neg c3).symm.trans hf
      refine lv_iload_n hx hb dX12_named_46 rfl (lv_at hl 1 rfl) ?_
      refine lv_iconst (v := 2) hx hb dX12_named_47 (by decide) ?_
      refine lv_icmp_ne (tgt := 67) hx hb dX12_named_48 (by decide) (fun c4 => ?_) (fun c4 => ?_)
      · have hf := (if_neg c4).symm.trans hf
        refine lv_iconst (v := (-1)) hx hb dX12_named_67 (by decide) ?_
        have hf := Option.some.inj hf
        subst hf
        exact hQ _ _ H locs (fun _ => 0) hB dX12_named_68
      · have hf := (if_pos c4).symm.trans hf
        refine lv_aload_n hx hb dX12_named_51 rfl (lv_at hl 0 rfl) ?_
        refine gf_X12_X12_grainName C hK (hB.1 0 _ rfl) dX12_named_52 ?_
        refine lv_iconst (v := 0) hx hb dX12_named_55 (by decide) ?_
        refine lv_aload_n hx hb dX12_named_56 rfl (lv_at hl 0 rfl) ?_
        refine gf_X12_X12_grains C hK (hB.1 0 _ rfl) dX12_named_57 ?_
        refine lv_iload_n hx hb dX12_named_60 rfl (lv_at hl 2 rfl) ?_
        obtain ⟨r5, hr5, hf⟩ := ox_bind hf
        refine cxSP (As := [.ref (a_M 11), .int (0 : Int32), .int (gI u1 14), .int x_2]) (rest := []) (st1 := [.int r5]) C hK (tX12_find l E 8 (fun _ => a_M 11) (vwA u1 30) (0 : Int32) (gI u1 14) x_2 r5 hr5) lk_X12_259 ⟨rfl, rfl⟩ (by rw [hRf, hRl]; decide) ⟨Nat.zero_le _, Nat.zero_le _⟩ (PB.view hB.1 (i := 0) (k := 11) rfl rfl) (hB.old hD hN) (Nat.le_trans hN hB.2.2.1) rfl hl.1 rfl rfl (Nat.le_of_ble_eq_true rfl) dX12_named_61 ?_
        refine lv_goto (tgt := 68) hx hb dX12_named_64 (by decide) ?_
        have hf := Option.some.inj hf
        subst hf
        exact hQ _ _ H locs (fun _ => 0) hB dX12_named_68
    · have hf := (if_pos c3).symm.trans hf
      refine lv_aload_n hx hb dX12_named_30 rfl (lv_at hl 0 rfl) ?_
      refine gf_X12_X12_guestName C hK (hB.1 0 _ rfl) dX12_named_31 ?_
      refine lv_iconst (v := 0) hx hb dX12_named_34 (by decide) ?_
      refine lv_aload_n hx hb dX12_named_35 rfl (lv_at hl 0 rfl) ?_
      refine gf_X12_X12_guests C hK (hB.1 0 _ rfl) dX12_named_36 ?_
      refine lv_iload_n hx hb dX12_named_39 rfl (lv_at hl 2 rfl) ?_
      obtain ⟨r6, hr6, hf⟩ := ox_bind hf
      refine cxSP (As := [.ref (a_M 8), .int (0 : Int32), .int (gI u1 13), .int x_2]) (rest := []) (st1 := [.int r6]) C hK (tX12_find l E 12 (fun _ => a_M 8) (vwA u1 27) (0 : Int32) (gI u1 13) x_2 r6 hr6) lk_X12_259 ⟨rfl, rfl⟩ (by rw [hRf, hRl]; decide) ⟨Nat.zero_le _, Nat.zero_le _⟩ (PB.view hB.1 (i := 0) (k := 8) rfl rfl) (hB.old hD hN) (Nat.le_trans hN hB.2.2.1) rfl hl.1 rfl rfl (Nat.le_of_ble_eq_true rfl) dX12_named_40 ?_
      refine lv_goto (tgt := 68) hx hb dX12_named_43 (by decide) ?_
      have hf := Option.some.inj hf
      subst hf
      exact hQ _ _ H locs (fun _ => 0) hB dX12_named_68
  · have hf := (if_pos c2).symm.trans hf
    refine lv_aload_n hx hb dX12_named_9 rfl (lv_at hl 0 rfl) ?_
    refine gf_X12_X12_actName C hK (hB.1 0 _ rfl) dX12_named_10 ?_
    refine lv_iconst (v := 0) hx hb dX12_named_13 (by decide) ?_
    refine lv_aload_n hx hb dX12_named_14 rfl (lv_at hl 0 rfl) ?_
    refine gf_X12_X12_acts C hK (hB.1 0 _ rfl) dX12_named_15 ?_
    refine lv_iload_n hx hb dX12_named_18 rfl (lv_at hl 2 rfl) ?_
    obtain ⟨r7, hr7, hf⟩ := ox_bind hf
    refine cxSP (As := [.ref (a_M 5), .int (0 : Int32), .int (gI u1 12), .int x_2]) (rest := []) (st1 := [.int r7]) C hK (tX12_find l E 12 (fun _ => a_M 5) (vwA u1 24) (0 : Int32) (gI u1 12) x_2 r7 hr7) lk_X12_259 ⟨rfl, rfl⟩ (by rw [hRf, hRl]; decide) ⟨Nat.zero_le _, Nat.zero_le _⟩ (PB.view hB.1 (i := 0) (k := 5) rfl rfl) (hB.old hD hN) (Nat.le_trans hN hB.2.2.1) rfl hl.1 rfl rfl (Nat.le_of_ble_eq_true rfl) dX12_named_19 ?_
    refine lv_goto (tgt := 68) hx hb dX12_named_22 (by decide) ?_
    have hf := Option.some.inj hf
    subst hf
    exact hQ _ _ H locs (fun _ => 0) hB dX12_named_68
set_option maxHeartbeats 4000000 in
set_option maxRecDepth 20000 in
theorem tX12_bounded (l : Launch) (E : Ev) (a_M : Nat → Nat) (u_M : St) (x_1 : Int64) (res : Int64 × St) (hf : fX12_bounded u_M x_1 = res) : MX l E yX12_bounded cX12_bounded 3 (some .long) (rmm 0 0) [wModel E a_M u_M] (fun q => [wModel E a_M res.2]) [.ref (a_M 0), .long x_1] (some (.long res.1)) := by
  unfold fX12_bounded at hf
  refine MX.ofL rfl (by decide) (Nat.le_of_ble_eq_true rfl) ?_
  intro p e R s m args below meth c ls Q ad H hRf hRl C hB hD hK hN hl hQ
  generalize hlocs : ([] : List Loc) = locs at hB ⊢
  clear hlocs
  have hx := C.1
  have hb := C.2.1
  have hl : lv_has ls 3 [(0, .ref (a_M 0)), (1, .long x_1)] := hl
  refine lv_aload_n hx hb dX12_bounded_0 rfl (lv_at hl 0 rfl) ?_
  refine lv_aload_n hx hb dX12_bounded_1 rfl (lv_at hl 0 rfl) ?_
  refine gf_X12_X12_isError C hK (hB.1 0 _ rfl) dX12_bounded_2 ?_
  obtain ⟨x1, ex1, hf⟩ := ox_ex hf
  have hjx1 : W p l e R s m args below meth c H locs 0 0 Q (F0 m 29 ls [.int x1, .ref (a_M 0)]) := by
    refine pf_X12_X12_isError C hK hB hD 0 rfl (by rw [ex1]; repeat' (first | exact bz0 | exact bz1 | apply bz_ite)) dX12_bounded_29 (fun H locs u2 eu2 hB => ?_)
    have hf := ox_lt eu2 hf
    have hB : WB E ad s.heap [wModel E a_M u2] H locs := hB
    refine lv_aload_n hx hb dX12_bounded_32 rfl (lv_at hl 0 rfl) ?_
    refine gf_X12_X12_isError C hK (hB.1 0 _ rfl) dX12_bounded_33 ?_
    obtain ⟨x3, ex3, hf⟩ := ox_ex hf
    have hjx3 : W p l e R s m args below meth c H locs 0 0 Q (F0 m 44 ls [.long x3]) := by
      subst hf
      exact hQ _ _ H locs (fun _ => 0) hB dX12_bounded_44
    refine lv_if_eq (tgt := 43) hx hb dX12_bounded_36 (by decide) (fun c4 => ?_) (fun c4 => ?_)
    · refine lv_lload_n hx hb dX12_bounded_43 rfl (lv_at hl 1 rfl) ?_
      exact ox_topl ((ex3).trans (if_pos c4)).symm hjx3
    · refine lv_lconst (v := 0) hx hb dX12_bounded_39 (by decide) ?_
      refine lv_goto (tgt := 44) hx hb dX12_bounded_40 (by decide) ?_
      exact ox_topl ((ex3).trans (if_neg c4)).symm hjx3
  refine lv_if_ne (tgt := 24) hx hb dX12_bounded_5 (by decide) (fun c5 => ?_) (fun c5 => ?_)
  · refine lv_iconst (v := 1) hx hb dX12_bounded_24 (by decide) ?_
    refine lv_goto (tgt := 29) hx hb dX12_bounded_25 (by decide) ?_
    exact ox_topi ((ex1).trans (if_neg c5)).symm hjx1
  · refine lv_lload_n hx hb dX12_bounded_8 rfl (lv_at hl 1 rfl) ?_
    refine lv_ldc2 (v := 1000000000000) hx hb C.2.2.2.1 (C.2.2.2.2 _ mw_1756) dX12_bounded_9 ?_
    refine W.lcmp hx hb dX12_bounded_12 ?_
    refine lx_if_gt (tgt := 24) hx hb dX12_bounded_13 (by decide) (fun c6 => ?_) (fun c6 => ?_)
    · refine lv_iconst (v := 1) hx hb dX12_bounded_24 (by decide) ?_
      refine lv_goto (tgt := 29) hx hb dX12_bounded_25 (by decide) ?_
      exact ox_topi (((ex1).trans (if_pos c5)).trans (if_pos c6)).symm hjx1
    · refine lv_lload_n hx hb dX12_bounded_16 rfl (lv_at hl 1 rfl) ?_
      refine lv_ldc2 (v := -1000000000000) hx hb C.2.2.2.1 (C.2.2.2.2 _ mw_1757) dX12_bounded_17 ?_
      refine W.lcmp hx hb dX12_bounded_20 ?_
      refine lx_if_ge (tgt := 28) hx hb dX12_bounded_21 (by decide) (fun c7 => ?_) (fun c7 => ?_)
      · refine lv_iconst (v := 0) hx hb dX12_bounded_28 (by decide) ?_
        exact ox_topi ((((ex1).trans (if_pos c5)).trans (if_neg c6)).trans (if_pos c7)).symm hjx1
      · refine lv_iconst (v := 1) hx hb dX12_bounded_24 (by decide) ?_
        refine lv_goto (tgt := 29) hx hb dX12_bounded_25 (by decide) ?_
        exact ox_topi ((((ex1).trans (if_pos c5)).trans (if_neg c6)).trans (if_neg c7)).symm hjx1
set_option maxHeartbeats 4000000 in
set_option maxRecDepth 20000 in
theorem tX12_compares (l : Launch) (E : Ev) (x_0 : Int32) (x_1 : Int64) (x_2 : Int64) (res : Int32) (hf : fX12_compares x_0 x_1 x_2 = res) : MP l E yX12_compares cX12_compares 5 (some .boolean) (rmm 0 0) [] [.int x_0, .long x_1, .long x_2] (some (.int res)) := by
  unfold fX12_compares at hf
  refine MP.ofZZ rfl (by decide) (Nat.le_of_ble_eq_true rfl) ?_
  intro p e R s m args below meth c ls Q hRf hRl C hP hK hN hl hQ
  have hx := C.1
  have hb := C.2.1
  have hl : lv_has ls 5 [(0, .int x_0), (1, .long x_1), (3, .long x_2)] := hl
  refine lv_iload_n hx hb dX12_compares_0 rfl (lv_at hl 0 rfl) ?_
  by_cases c1 : x_0 = 5
  · have hf := (if_pos c1).symm.trans hf
    refine lv_tableIn hx hb dX12_compares_1 (by rw [c1]; decide) (by rw [c1]; decide) (off := 35) (by rw [c1]; decide) (tgt := 36) (by decide) ?_
    refine lv_lload_n hx hb dX12_compares_36 rfl (lv_at hl 1 rfl) ?_
    refine lv_lload_n hx hb dX12_compares_37 rfl (lv_at hl 2 rfl) ?_
    refine W.lcmp hx hb dX12_compares_38 ?_
    obtain ⟨x2, ex2, hf⟩ := ox_ex hf
    have hjx2 : W p l e R s m args below meth c s.heap [] 0 0 Q (F0 m 47 ls [.int x2]) := by
      subst hf
      exact hQ _ _ x2 rfl dX12_compares_47
    refine lx_if_ge (tgt := 46) hx hb dX12_compares_39 (by decide) (fun c3 => ?_) (fun c3 => ?_)
    · refine lv_iconst (v := 0) hx hb dX12_compares_46 (by decide) ?_
      exact ox_topi ((ex2).trans (if_pos c3)).symm hjx2
    · refine lv_iconst (v := 1) hx hb dX12_compares_42 (by decide) ?_
      refine lv_goto (tgt := 47) hx hb dX12_compares_43 (by decide) ?_
      exact ox_topi ((ex2).trans (if_neg c3)).symm hjx2
  have hf := (if_neg c1).symm.trans hf
  by_cases c4 : x_0 = 6
  · have hf := (if_pos c4).symm.trans hf
    refine lv_tableIn hx hb dX12_compares_1 (by rw [c4]; decide) (by rw [c4]; decide) (off := 47) (by rw [c4]; decide) (tgt := 48) (by decide) ?_
    refine lv_lload_n hx hb dX12_compares_48 rfl (lv_at hl 1 rfl) ?_
    refine lv_lload_n hx hb dX12_compares_49 rfl (lv_at hl 2 rfl) ?_
    refine W.lcmp hx hb dX12_compares_50 ?_
    obtain ⟨x5, ex5, hf⟩ := ox_ex hf
    have hjx5 : W p l e R s m args below meth c s.heap [] 0 0 Q (F0 m 59 ls [.int x5]) := by
      subst hf
      exact hQ _ _ x5 rfl dX12_compares_59
    refine lx_if_gt (tgt := 58) hx hb dX12_compares_51 (by decide) (fun c6 => ?_) (fun c6 => ?_)
    · refine lv_iconst (v := 0) hx hb dX12_compares_58 (by decide) ?_
      exact ox_topi ((ex5).trans (if_pos c6)).symm hjx5
    · refine lv_iconst (v := 1) hx hb dX12_compares_54 (by decide) ?_
      refine lv_goto (tgt := 59) hx hb dX12_compares_55 (by decide) ?_
      exact ox_topi ((ex5).trans (if_neg c6)).symm hjx5
  have hf := (if_neg c4).symm.trans hf
  by_cases c7 : x_0 = 7
  · have hf := (if_pos c7).symm.trans hf
    refine lv_tableIn hx hb dX12_compares_1 (by rw [c7]; decide) (by rw [c7]; decide) (off := 59) (by rw [c7]; decide) (tgt := 60) (by decide) ?_
    refine lv_lload_n hx hb dX12_compares_60 rfl (lv_at hl 1 rfl) ?_
    refine lv_lload_n hx hb dX12_compares_61 rfl (lv_at hl 2 rfl) ?_
    refine W.lcmp hx hb dX12_compares_62 ?_
    obtain ⟨x8, ex8, hf⟩ := ox_ex hf
    have hjx8 : W p l e R s m args below meth c s.heap [] 0 0 Q (F0 m 71 ls [.int x8]) := by
      subst hf
      exact hQ _ _ x8 rfl dX12_compares_71
    refine lx_if_ne (tgt := 70) hx hb dX12_compares_63 (by decide) (fun c9 => ?_) (fun c9 => ?_)
    · refine lv_iconst (v := 0) hx hb dX12_compares_70 (by decide) ?_
      exact ox_topi ((ex8).trans (if_neg c9)).symm hjx8
    · refine lv_iconst (v := 1) hx hb dX12_compares_66 (by decide) ?_
      refine lv_goto (tgt := 71) hx hb dX12_compares_67 (by decide) ?_
      exact ox_topi ((ex8).trans (if_pos c9)).symm hjx8
  have hf := (if_neg c7).symm.trans hf
  by_cases c10 : x_0 = 8
  · have hf := (if_pos c10).symm.trans hf
    refine lv_tableIn hx hb dX12_compares_1 (by rw [c10]; decide) (by rw [c10]; decide) (off := 71) (by rw [c10]; decide) (tgt := 72) (by decide) ?_
    refine lv_lload_n hx hb dX12_compares_72 rfl (lv_at hl 1 rfl) ?_
    refine lv_lload_n hx hb dX12_compares_73 rfl (lv_at hl 2 rfl) ?_
    refine W.lcmp hx hb dX12_compares_74 ?_
    obtain ⟨x11, ex11, hf⟩ := ox_ex hf
    have hjx11 : W p l e R s m args below meth c s.heap [] 0 0 Q (F0 m 83 ls [.int x11]) := by
      subst hf
      exact hQ _ _ x11 rfl dX12_compares_83
    refine lx_if_eq (tgt := 82) hx hb dX12_compares_75 (by decide) (fun c12 => ?_) (fun c12 => ?_)
    · refine lv_iconst (v := 0) hx hb dX12_compares_82 (by decide) ?_
      exact ox_topi ((ex11).trans (if_pos c12)).symm hjx11
    · refine lv_iconst (v := 1) hx hb dX12_compares_78 (by decide) ?_
      refine lv_goto (tgt := 83) hx hb dX12_compares_79 (by decide) ?_
      exact ox_topi ((ex11).trans (if_neg c12)).symm hjx11
  have hf := (if_neg c10).symm.trans hf
  by_cases c13 : x_0 = 9
  · have hf := (if_pos c13).symm.trans hf
    refine lv_tableIn hx hb dX12_compares_1 (by rw [c13]; decide) (by rw [c13]; decide) (off := 83) (by rw [c13]; decide) (tgt := 84) (by decide) ?_
    refine lv_lload_n hx hb dX12_compares_84 rfl (lv_at hl 1 rfl) ?_
    refine lv_lload_n hx hb dX12_compares_85 rfl (lv_at hl 2 rfl) ?_
    refine W.lcmp hx hb dX12_compares_86 ?_
    obtain ⟨x14, ex14, hf⟩ := ox_ex hf
    have hjx14 : W p l e R s m args below meth c s.heap [] 0 0 Q (F0 m 95 ls [.int x14]) := by
      subst hf
      exact hQ _ _ x14 rfl dX12_compares_95
    refine lx_if_lt (tgt := 94) hx hb dX12_compares_87 (by decide) (fun c15 => ?_) (fun c15 => ?_)
    · refine lv_iconst (v := 0) hx hb dX12_compares_94 (by decide) ?_
      exact ox_topi ((ex14).trans (if_pos c15)).symm hjx14
    · refine lv_iconst (v := 1) hx hb dX12_compares_90 (by decide) ?_
      refine lv_goto (tgt := 95) hx hb dX12_compares_91 (by decide) ?_
      exact ox_topi ((ex14).trans (if_neg c15)).symm hjx14
  have hf := (if_neg c13).symm.trans hf
  have hd18 : W p l e R s m args below meth c s.heap [] 0 0 Q (F0 m 96 ls []) := by
    refine lv_lload_n hx hb dX12_compares_96 rfl (lv_at hl 1 rfl) ?_
    refine lv_lload_n hx hb dX12_compares_97 rfl (lv_at hl 2 rfl) ?_
    refine W.lcmp hx hb dX12_compares_98 ?_
    obtain ⟨x16, ex16, hf⟩ := ox_ex hf
    have hjx16 : W p l e R s m args below meth c s.heap [] 0 0 Q (F0 m 107 ls [.int x16]) := by
      subst hf
      exact hQ _ _ x16 rfl dX12_compares_107
    refine lx_if_le (tgt := 106) hx hb dX12_compares_99 (by decide) (fun c17 => ?_) (fun c17 => ?_)
    · refine lv_iconst (v := 0) hx hb dX12_compares_106 (by decide) ?_
      exact ox_topi ((ex16).trans (if_pos c17)).symm hjx16
    · refine lv_iconst (v := 1) hx hb dX12_compares_102 (by decide) ?_
      refine lv_goto (tgt := 107) hx hb dX12_compares_103 (by decide) ?_
      exact ox_topi ((ex16).trans (if_neg c17)).symm hjx16
  have nc1 := lv_neT c1 (show Int32.toInt 5 = 5 from rfl)
  have nc4 := lv_neT c4 (show Int32.toInt 6 = 6 from rfl)
  have nc7 := lv_neT c7 (show Int32.toInt 7 = 7 from rfl)
  have nc10 := lv_neT c10 (show Int32.toInt 8 = 8 from rfl)
  have nc13 := lv_neT c13 (show Int32.toInt 9 = 9 from rfl)
  rcases (show Int32.toInt x_0 < 5 ∨ 9 < Int32.toInt x_0 by omega) with h | h
  · exact lv_tableOut hx hb dX12_compares_1 (Or.inl h) (tgt := 96) (by decide) hd18
  · exact lv_tableOut hx hb dX12_compares_1 (Or.inr h) (tgt := 96) (by decide) hd18
set_option maxHeartbeats 4000000 in
set_option maxRecDepth 20000 in
theorem tX12_times (l : Launch) (E : Ev) (a_M : Nat → Nat) (u_M : St) (x_1 : Int64) (x_2 : Int64) (res : Int64 × St) (hf : fX12_times u_M x_1 x_2 = some res) : MX l E yX12_times cX12_times 6 (some .long) (rmm 0 0) [wModel E a_M u_M] (fun q => [wModel E a_M res.2]) [.ref (a_M 0), .long x_1, .long x_2] (some (.long res.1)) := by
  unfold fX12_times at hf
  refine MX.ofL rfl (by decide) (Nat.le_of_ble_eq_true rfl) ?_
  intro p e R s m args below meth c ls Q ad H hRf hRl C hB hD hK hN hl hQ
  generalize hlocs : ([] : List Loc) = locs at hB ⊢
  clear hlocs
  have hx := C.1
  have hb := C.2.1
  have hl : lv_has ls 6 [(0, .ref (a_M 0)), (1, .long x_1), (3, .long x_2)] := hl
  refine lv_lload_n hx hb dX12_times_0 rfl (lv_at hl 1 rfl) ?_
  refine lv_lconst (v := 0) hx hb dX12_times_1 (by decide) ?_
  refine W.lcmp hx hb dX12_times_2 ?_
  obtain ⟨j2, ej2, hf⟩ := ox_ex hf
  have hj2 : ∀ (x1 : Int32) (ls : Array Slot) (H : Heap) (locs : List Loc), lv_has ls 6 [(0, .ref (a_M 0)), (1, .long x_1), (3, .long x_2)] → WB E ad s.heap [wModel E a_M u_M] H locs → j2 x1 = some res → W p l e R s m args below meth c H locs 0 0 Q (F0 m 49 ls [.int x1]) := by
    intro x1 ls H locs hl hB hf
    have hf := ox_a1 ej2 hf
    refine lv_istore (lv' := [(5, .int x1), (0, .ref (a_M 0)), (1, .long x_1), (3, .long x_2)]) hx hb dX12_times_49 hl (by decide) rfl (fun ls hl => ?_)
    refine lv_aload_n hx hb dX12_times_51 rfl (lv_at hl 1 rfl) ?_
    refine lv_aload_n hx hb dX12_times_52 rfl (lv_at hl 1 rfl) ?_
    refine gf_X12_X12_isError C hK (hB.1 0 _ rfl) dX12_times_53 ?_
    obtain ⟨x3, ex3, hf⟩ := ox_ex hf
    have hjx3 : W p l e R s m args below meth c H locs 0 0 Q (F0 m 69 ls [.int x3, .ref (a_M 0)]) := by
      refine pf_X12_X12_isError C hK hB hD 0 rfl (by rw [ex3]; repeat' (first | exact bz0 | exact bz1 | apply bz_ite)) dX12_times_69 (fun H locs u4 eu4 hB => ?_)
      have hf := ox_lt eu4 hf
      have hB : WB E ad s.heap [wModel E a_M u4] H locs := hB
      refine lv_aload_n hx hb dX12_times_72 rfl (lv_at hl 1 rfl) ?_
      refine gf_X12_X12_isError C hK (hB.1 0 _ rfl) dX12_times_73 ?_
      obtain ⟨x5, ex5, hf⟩ := ox_ex hf
      have hjx5 : W p l e R s m args below meth c H locs 0 0 Q (F0 m 86 ls [.long x5]) := by
        have hf := Option.some.inj hf
        subst hf
        exact hQ _ _ H locs (fun _ => 0) hB dX12_times_86
      refine lv_if_eq (tgt := 83) hx hb dX12_times_76 (by decide) (fun c6 => ?_) (fun c6 => ?_)
      · refine lv_lload_n hx hb dX12_times_83 rfl (lv_at hl 2 rfl) ?_
        refine lv_lload_n hx hb dX12_times_84 rfl (lv_at hl 3 rfl) ?_
        refine lv_lmul hx hb dX12_times_85 ?_
        exact ox_topl ((ex5).trans (if_pos c6)).symm hjx5
      · refine lv_lconst (v := 0) hx hb dX12_times_79 (by decide) ?_
        refine lv_goto (tgt := 86) hx hb dX12_times_80 (by decide) ?_
        exact ox_topl ((ex5).trans (if_neg c6)).symm hjx5
    refine lv_if_ne (tgt := 64) hx hb dX12_times_56 (by decide) (fun c7 => ?_) (fun c7 => ?_)
    · refine lv_iconst (v := 1) hx hb dX12_times_64 (by decide) ?_
      refine lv_goto (tgt := 69) hx hb dX12_times_65 (by decide) ?_
      exact ox_topi ((ex3).trans (if_neg c7)).symm hjx3
    · refine lv_iload hx hb dX12_times_59 (lv_at hl 0 rfl) ?_
      refine lv_if_eq (tgt := 68) hx hb dX12_times_61 (by decide) (fun c8 => ?_) (fun c8 => ?_)
      · refine lv_iconst (v := 0) hx hb dX12_times_68 (by decide) ?_
        exact ox_topi (((ex3).trans (if_pos c7)).trans (if_pos c8)).symm hjx3
      · refine lv_iconst (v := 1) hx hb dX12_times_64 (by decide) ?_
        refine lv_goto (tgt := 69) hx hb dX12_times_65 (by decide) ?_
        exact ox_topi (((ex3).trans (if_pos c7)).trans (if_neg c8)).symm hjx3
  obtain ⟨j9, ej9, hf⟩ := ox_ex hf
  have hj9 : ∀ (ls : Array Slot) (H : Heap) (locs : List Loc), lv_has ls 6 [(0, .ref (a_M 0)), (1, .long x_1), (3, .long x_2)] → WB E ad s.heap [wModel E a_M u_M] H locs → j9 = some res → W p l e R s m args below meth c H locs 0 0 Q (F0 m 48 ls []) := by
    intro ls H locs hl hB hf
    have hf := ox_a0 ej9 hf
    refine lv_iconst (v := 0) hx hb dX12_times_48 (by decide) ?_
    exact hj2 _ ls H locs (lv_sub hl [0, 1, 2] rfl) hB hf
  refine lx_if_eq (tgt := 48) hx hb dX12_times_3 (by decide) (fun c10 => ?_) (fun c10 => ?_)
  · have hf := (if_pos c10).symm.trans hf
    exact hj9 ls H locs (lv_sub hl [0, 1, 2] rfl) hB hf
  · have hf := (if_neg c10).symm.trans hf
    refine lv_lload_n hx hb dX12_times_6 rfl (lv_at hl 2 rfl) ?_
    refine lv_lconst (v := 0) hx hb dX12_times_7 (by decide) ?_
    refine W.lcmp hx hb dX12_times_8 ?_
    refine lx_if_eq (tgt := 48) hx hb dX12_times_9 (by decide) (fun c11 => ?_) (fun c11 => ?_)
    · have hf := (if_pos c11).symm.trans hf
      exact hj9 ls H locs (lv_sub hl [0, 1, 2] rfl) hB hf
    · have hf := (if_neg c11).symm.trans hf
      refine lv_lload_n hx hb dX12_times_12 rfl (lv_at hl 2 rfl) ?_
      refine lv_lconst (v := 0) hx hb dX12_times_13 (by decide) ?_
      refine W.lcmp hx hb dX12_times_14 ?_
      obtain ⟨x12, ex12, hf⟩ := ox_ex hf
      have hjx12 : W p l e R s m args below meth c H locs 0 0 Q (F0 m 24 ls [.long x12]) := by
        refine lv_ldc2 (v := 1000000000000) hx hb C.2.2.2.1 (C.2.2.2.2 _ mw_1756) dX12_times_24 ?_
        refine lv_lload_n hx hb dX12_times_27 rfl (lv_at hl 1 rfl) ?_
        refine lv_lconst (v := 0) hx hb dX12_times_28 (by decide) ?_
        refine W.lcmp hx hb dX12_times_29 ?_
        obtain ⟨x13, ex13, hf⟩ := ox_ex hf
        have hjx13 : W p l e R s m args below meth c H locs 0 0 Q (F0 m 39 ls [.long x13, .long (1000000000000 : Int64), .long x12]) := by
          obtain ⟨hn14, hf⟩ := ox_chk hf
          refine lv_ldiv hx hb dX12_times_39 hn14 ?_
          refine W.lcmp hx hb dX12_times_40 ?_
          refine lx_if_le (tgt := 48) hx hb dX12_times_41 (by decide) (fun c15 => ?_) (fun c15 => ?_)
          · have hf := (if_pos c15).symm.trans hf
            exact hj9 ls H locs (lv_sub hl [0, 1, 2] rfl) hB hf
          · have hf := (if_neg c15).symm.trans hf
            refine lv_iconst (v := 1) hx hb dX12_times_44 (by decide) ?_
            refine lv_goto (tgt := 49) hx hb dX12_times_45 (by decide) ?_
            exact hj2 _ ls H locs (lv_sub hl [0, 1, 2] rfl) hB hf
        refine lx_if_ge (tgt := 38) hx hb dX12_times_30 (by decide) (fun c16 => ?_) (fun c16 => ?_)
        · refine lv_lload_n hx hb dX12_times_38 rfl (lv_at hl 1 rfl) ?_
          exact ox_topl ((ex13).trans (if_pos c16)).symm hjx13
        · refine lv_lload_n hx hb dX12_times_33 rfl (lv_at hl 1 rfl) ?_
          refine lv_lneg hx hb dX12_times_34 ?_
          refine lv_goto (tgt := 39) hx hb dX12_times_35 (by decide) ?_
          exact ox_topl ((ex13).trans (if_neg c16)).symm hjx13
      refine lx_if_ge (tgt := 23) hx hb dX12_times_15 (by decide) (fun c17 => ?_) (fun c17 => ?_)
      · refine lv_lload_n hx hb dX12_times_23 rfl (lv_at hl 2 rfl) ?_
        exact ox_topl ((ex12).trans (if_pos c17)).symm hjx12
      · refine lv_lload_n hx hb dX12_times_18 rfl (lv_at hl 2 rfl) ?_
        refine lv_lneg hx hb dX12_times_19 ?_
        refine lv_goto (tgt := 24) hx hb dX12_times_20 (by decide) ?_
        exact ox_topl ((ex12).trans (if_neg c17)).symm hjx12
set_option maxHeartbeats 4000000 in
set_option maxRecDepth 20000 in
theorem tX12_valueOf (l : Launch) (E : Ev) (a_M : Nat → Nat) (u_M : St) (x_1 : Int32) (res : Int64 × St) (hf : fX12_valueOf u_M x_1 = some res) : MX l E yX12_valueOf cX12_valueOf 6 (some .long) (rmm 1 25) [wModel E a_M u_M] (fun q => [wModel E a_M res.2]) [.ref (a_M 0), .int x_1] (some (.long res.1)) := by
  unfold fX12_valueOf at hf
  refine MX.ofL rfl (by decide) (Nat.le_of_ble_eq_true rfl) ?_
  intro p e R s m args below meth c ls Q ad H hRf hRl C hB hD hK hN hl hQ
  generalize hlocs : ([] : List Loc) = locs at hB ⊢
  clear hlocs
  have hx := C.1
  have hb := C.2.1
  have hl : lv_has ls 6 [(0, .ref (a_M 0)), (1, .int x_1)] := hl
  refine lv_aload_n hx hb dX12_valueOf_0 rfl (lv_at hl 0 rfl) ?_
  refine gf_X12_X12_knot C hK (hB.1 0 _ rfl) dX12_valueOf_1 ?_
  refine lv_iload_n hx hb dX12_valueOf_4 rfl (lv_at hl 1 rfl) ?_
  obtain ⟨hn1, hf⟩ := ox_chk hf
  refine ld_X12_knot C hK (hB.1 0 _ rfl) hn1 rfl dX12_valueOf_5 ?_
  refine lv_if_ne (tgt := 17) hx hb dX12_valueOf_6 (by decide) (fun c2 => ?_) (fun c2 => ?_)
  · have hf := (if_neg c2).symm.trans hf
    refine lv_aload_n hx hb dX12_valueOf_17 rfl (lv_at hl 0 rfl) ?_
    refine gf_X12_X12_knot C hK (hB.1 0 _ rfl) dX12_valueOf_18 ?_
    refine lv_iload_n hx hb dX12_valueOf_21 rfl (lv_at hl 1 rfl) ?_
    obtain ⟨hn3, hf⟩ := ox_chk hf
    refine ld_X12_knot C hK (hB.1 0 _ rfl) hn3 rfl dX12_valueOf_22 ?_
    refine lv_iconst (v := 1) hx hb dX12_valueOf_23 (by decide) ?_
    refine lv_icmp_ne (tgt := 39) hx hb dX12_valueOf_24 (by decide) (fun c4 => ?_) (fun c4 => ?_)
    · have hf := (if_neg c4).symm.trans hf
      refine lv_aload_n hx hb dX12_valueOf_39 rfl (lv_at hl 0 rfl) ?_
      refine gf_X12_X12_value C hK (hB.1 0 _ rfl) dX12_valueOf_40 ?_
      refine lv_aload_n hx hb dX12_valueOf_43 rfl (lv_at hl 0 rfl) ?_
      refine gf_X12_X12_part C hK (hB.1 0 _ rfl) dX12_valueOf_44 ?_
      refine lv_iload_n hx hb dX12_valueOf_47 rfl (lv_at hl 1 rfl) ?_
      obtain ⟨hn5, hf⟩ := ox_chk hf
      refine ld_X12_part C hK (hB.1 0 _ rfl) hn5 rfl dX12_valueOf_48 ?_
      obtain ⟨hn6, hf⟩ := ox_chk hf
      refine ld_X12_value C hK (hB.1 0 _ rfl) hn6 rfl dX12_valueOf_49 ?_
      refine lv_topl (fun x7 ex7 => ?_)
      have hf := ox_lt ex7 hf
      refine lv_lstore_n (lv' := [(2, .long x7), (0, .ref (a_M 0)), (1, .int x_1)]) hx hb dX12_valueOf_50 rfl hl (by decide) rfl (fun ls hl => ?_)
      refine lv_aload_n hx hb dX12_valueOf_51 rfl (lv_at hl 1 rfl) ?_
      refine gf_X12_X12_knot C hK (hB.1 0 _ rfl) dX12_valueOf_52 ?_
      refine lv_iload_n hx hb dX12_valueOf_55 rfl (lv_at hl 2 rfl) ?_
      obtain ⟨hn8, hf⟩ := ox_chk hf
      refine ld_X12_knot C hK (hB.1 0 _ rfl) hn8 rfl dX12_valueOf_56 ?_
      refine lv_iconst (v := 2) hx hb dX12_valueOf_57 (by decide) ?_
      refine lv_icmp_ne (tgt := 73) hx hb dX12_valueOf_58 (by decide) (fun c9 => ?_) (fun c9 => ?_)
      · have hf := (if_neg c9).symm.trans hf
        refine lv_aload_n hx hb dX12_valueOf_73 rfl (lv_at hl 1 rfl) ?_
        refine gf_X12_X12_value C hK (hB.1 0 _ rfl) dX12_valueOf_74 ?_
        refine lv_aload_n hx hb dX12_valueOf_77 rfl (lv_at hl 1 rfl) ?_
        refine gf_X12_X12_other C hK (hB.1 0 _ rfl) dX12_valueOf_78 ?_
        refine lv_iload_n hx hb dX12_valueOf_81 rfl (lv_at hl 2 rfl) ?_
        obtain ⟨hn10, hf⟩ := ox_chk hf
        refine ld_X12_other C hK (hB.1 0 _ rfl) hn10 rfl dX12_valueOf_82 ?_
        obtain ⟨hn11, hf⟩ := ox_chk hf
        refine ld_X12_value C hK (hB.1 0 _ rfl) hn11 rfl dX12_valueOf_83 ?_
        refine lv_topl (fun x12 ex12 => ?_)
        have hf := ox_lt ex12 hf
        refine lv_lstore (lv' := [(4, .long x12), (2, .long x7), (0, .ref (a_M 0)), (1, .int x_1)]) hx hb dX12_valueOf_84 hl (by decide) rfl (fun ls hl => ?_)
        refine lv_aload_n hx hb dX12_valueOf_86 rfl (lv_at hl 2 rfl) ?_
        refine gf_X12_X12_knot C hK (hB.1 0 _ rfl) dX12_valueOf_87 ?_
        refine lv_iload_n hx hb dX12_valueOf_90 rfl (lv_at hl 3 rfl) ?_
        obtain ⟨hn13, hf⟩ := ox_chk hf
        refine ld_X12_knot C hK (hB.1 0 _ rfl) hn13 rfl dX12_valueOf_91 ?_
        refine lv_topi (fun x14 ex14 => ?_)
        have hf := ox_lt ex14 hf
        by_cases c15 : x14 = 3
        · have hf := (if_pos c15).symm.trans hf
          refine lv_tableIn hx hb dX12_valueOf_92 (by rw [c15]; decide) (by rw [c15]; decide) (off := 64) (by rw [c15]; decide) (tgt := 156) (by decide) ?_
          refine lv_lload_n hx hb dX12_valueOf_156 rfl (lv_at hl 1 rfl) ?_
          refine lv_lconst (v := 0) hx hb dX12_valueOf_157 (by decide) ?_
          refine W.lcmp hx hb dX12_valueOf_158 ?_
          obtain ⟨x16, ex16, hf⟩ := ox_ex hf
          have hjx16 : W p l e R s m args below meth c H locs 0 0 Q (F0 m 174 ls [.long x16]) := by
            have hf := Option.some.inj hf
            subst hf
            exact hQ _ _ H locs (fun _ => 0) hB dX12_valueOf_174
          refine lx_if_eq (tgt := 173) hx hb dX12_valueOf_159 (by decide) (fun c17 => ?_) (fun c17 => ?_)
          · refine lv_lconst (v := 0) hx hb dX12_valueOf_173 (by decide) ?_
            exact ox_topl ((ex16).trans (if_pos c17)).symm hjx16
          · refine lv_lload hx hb dX12_valueOf_162 (lv_at hl 0 rfl) ?_
            refine lv_lconst (v := 0) hx hb dX12_valueOf_164 (by decide) ?_
            refine W.lcmp hx hb dX12_valueOf_165 ?_
            refine lx_if_eq (tgt := 173) hx hb dX12_valueOf_166 (by decide) (fun c18 => ?_) (fun c18 => ?_)
            · refine lv_lconst (v := 0) hx hb dX12_valueOf_173 (by decide) ?_
              exact ox_topl (((ex16).trans (if_neg c17)).trans (if_pos c18)).symm hjx16
            · refine lv_lconst (v := 1) hx hb dX12_valueOf_169 (by decide) ?_
              refine lv_goto (tgt := 174) hx hb dX12_valueOf_170 (by decide) ?_
              exact ox_topl (((ex16).trans (if_neg c17)).trans (if_neg c18)).symm hjx16
        have hf := (if_neg c15).symm.trans hf
        by_cases c19 : x14 = 4
        · have hf := (if_pos c19).symm.trans hf
          refine lv_tableIn hx hb dX12_valueOf_92 (by rw [c19]; decide) (by rw [c19]; decide) (off := 83) (by rw [c19]; decide) (tgt := 175) (by decide) ?_
          refine lv_lload_n hx hb dX12_valueOf_175 rfl (lv_at hl 1 rfl) ?_
          refine lv_lconst (v := 0) hx hb dX12_valueOf_176 (by decide) ?_
          refine W.lcmp hx hb dX12_valueOf_177 ?_
          obtain ⟨x20, ex20, hf⟩ := ox_ex hf
          have hjx20 : W p l e R s m args below meth c H locs 0 0 Q (F0 m 193 ls [.long x20]) := by
            have hf := Option.some.inj hf
            subst hf
            exact hQ _ _ H locs (fun _ => 0) hB dX12_valueOf_193
          refine lx_if_ne (tgt := 188) hx hb dX12_valueOf_178 (by decide) (fun c21 => ?_) (fun c21 => ?_)
          · refine lv_lconst (v := 1) hx hb dX12_valueOf_188 (by decide) ?_
            refine lv_goto (tgt := 193) hx hb dX12_valueOf_189 (by decide) ?_
            exact ox_topl ((ex20).trans (if_neg c21)).symm hjx20
          · refine lv_lload hx hb dX12_valueOf_181 (lv_at hl 0 rfl) ?_
            refine lv_lconst (v := 0) hx hb dX12_valueOf_183 (by decide) ?_
            refine W.lcmp hx hb dX12_valueOf_184 ?_
            refine lx_if_eq (tgt := 192) hx hb dX12_valueOf_185 (by decide) (fun c22 => ?_) (fun c22 => ?_)
            · refine lv_lconst (v := 0) hx hb dX12_valueOf_192 (by decide) ?_
              exact ox_topl (((ex20).trans (if_pos c21)).trans (if_pos c22)).symm hjx20
            · refine lv_lconst (v := 1) hx hb dX12_valueOf_188 (by decide) ?_
              refine lv_goto (tgt := 193) hx hb dX12_valueOf_189 (by decide) ?_
              exact ox_topl (((ex20).trans (if_pos c21)).trans (if_neg c22)).symm hjx20
        have hf := (if_neg c19).symm.trans hf
        by_cases c23 : x14 = 11
        · have hf := (if_pos c23).symm.trans hf
          refine lv_tableIn hx hb dX12_valueOf_92 (by rw [c23]; decide) (by rw [c23]; decide) (off := 102) (by rw [c23]; decide) (tgt := 194) (by decide) ?_
          refine lv_aload_n hx hb dX12_valueOf_194 rfl (lv_at hl 2 rfl) ?_
          refine lv_lload_n hx hb dX12_valueOf_195 rfl (lv_at hl 1 rfl) ?_
          refine lv_lload hx hb dX12_valueOf_196 (lv_at hl 0 rfl) ?_
          refine lv_ladd hx hb dX12_valueOf_198 ?_
          obtain ⟨r24, er24, hf⟩ := ox_ex hf
          refine cxVX (bs1 := (fun q => [wModel E a_M r24.2])) (As := [.long (x7 + x12)]) (rest := []) (st1 := [.long r24.1]) C hK (tX12_bounded l E a_M u_M (x7 + x12) r24 er24.symm) lk_X12_346 (by rw [hRf, hRl]; decide) ⟨Nat.zero_le _, Nat.zero_le _⟩ hB hD hN [0] (by decide) rfl (fun _ => rfl) (fun _ => rfl) (rc_X12 hK (hB.1 0 _ rfl)) rfl hl.1 rfl rfl (Nat.le_of_ble_eq_true rfl) dX12_valueOf_199 (fun H locs q25 hB => ?_)
          have hB : WB E ad s.heap [wModel E a_M r24.2] H locs := hB
          have hf := Option.some.inj hf
          subst hf
          exact hQ _ _ H locs (fun _ => 0) hB dX12_valueOf_202
        have hf := (if_neg c23).symm.trans hf
        by_cases c26 : x14 = 12
        · have hf := (if_pos c26).symm.trans hf
          refine lv_tableIn hx hb dX12_valueOf_92 (by rw [c26]; decide) (by rw [c26]; decide) (off := 111) (by rw [c26]; decide) (tgt := 203) (by decide) ?_
          refine lv_aload_n hx hb dX12_valueOf_203 rfl (lv_at hl 2 rfl) ?_
          refine lv_lload_n hx hb dX12_valueOf_204 rfl (lv_at hl 1 rfl) ?_
          refine lv_lload hx hb dX12_valueOf_205 (lv_at hl 0 rfl) ?_
          refine lv_lsub hx hb dX12_valueOf_207 ?_
          obtain ⟨r27, er27, hf⟩ := ox_ex hf
          refine cxVX (bs1 := (fun q => [wModel E a_M r27.2])) (As := [.long (x7 - x12)]) (rest := []) (st1 := [.long r27.1]) C hK (tX12_bounded l E a_M u_M (x7 - x12) r27 er27.symm) lk_X12_346 (by rw [hRf, hRl]; decide) ⟨Nat.zero_le _, Nat.zero_le _⟩ hB hD hN [0] (by decide) rfl (fun _ => rfl) (fun _ => rfl) (rc_X12 hK (hB.1 0 _ rfl)) rfl hl.1 rfl rfl (Nat.le_of_ble_eq_true rfl) dX12_valueOf_208 (fun H locs q28 hB => ?_)
          have hB : WB E ad s.heap [wModel E a_M r27.2] H locs := hB
          have hf := Option.some.inj hf
          subst hf
          exact hQ _ _ H locs (fun _ => 0) hB dX12_valueOf_211
        have hf := (if_neg c26).symm.trans hf
        by_cases c29 : x14 = 13
        · have hf := (if_pos c29).symm.trans hf
          refine lv_tableIn hx hb dX12_valueOf_92 (by rw [c29]; decide) (by rw [c29]; decide) (off := 120) (by rw [c29]; decide) (tgt := 212) (by decide) ?_
          refine lv_aload_n hx hb dX12_valueOf_212 rfl (lv_at hl 2 rfl) ?_
          refine lv_lload_n hx hb dX12_valueOf_213 rfl (lv_at hl 1 rfl) ?_
          refine lv_lload hx hb dX12_valueOf_214 (lv_at hl 0 rfl) ?_
          obtain ⟨r30, hr30, hf⟩ := ox_bind hf
          refine cxVX (bs1 := (fun q => [wModel E a_M r30.2])) (As := [.long x7, .long x12]) (rest := []) (st1 := [.long r30.1]) C hK (tX12_times l E a_M u_M x7 x12 r30 hr30) lk_X12_350 (by rw [hRf, hRl]; decide) ⟨Nat.zero_le _, Nat.zero_le _⟩ hB hD hN [0] (by decide) rfl (fun _ => rfl) (fun _ => rfl) (rc_X12 hK (hB.1 0 _ rfl)) rfl hl.1 rfl rfl (Nat.le_of_ble_eq_true rfl) dX12_valueOf_216 (fun H locs q31 hB => ?_)
          have hB : WB E ad s.heap [wModel E a_M r30.2] H locs := hB
          have hf := Option.some.inj hf
          subst hf
          exact hQ _ _ H locs (fun _ => 0) hB dX12_valueOf_219
        have hf := (if_neg c29).symm.trans hf
        by_cases c32 : x14 = 14
        · have hf := (if_pos c32).symm.trans hf
          refine lv_tableIn hx hb dX12_valueOf_92 (by rw [c32]; decide) (by rw [c32]; decide) (off := 128) (by rw [c32]; decide) (tgt := 220) (by decide) ?_
          refine lv_aload_n hx hb dX12_valueOf_220 rfl (lv_at hl 2 rfl) ?_
          refine lv_aload_n hx hb dX12_valueOf_221 rfl (lv_at hl 2 rfl) ?_
          refine gf_X12_X12_isError C hK (hB.1 0 _ rfl) dX12_valueOf_222 ?_
          obtain ⟨x33, ex33, hf⟩ := ox_ex hf
          have hjx33 : W p l e R s m args below meth c H locs 0 0 Q (F0 m 240 ls [.int x33, .ref (a_M 0)]) := by
            refine pf_X12_X12_isError C hK hB hD 0 rfl (by rw [ex33]; repeat' (first | exact bz0 | exact bz1 | apply bz_ite)) dX12_valueOf_240 (fun H locs u34 eu34 hB => ?_)
            have hf := ox_lt eu34 hf
            have hB : WB E ad s.heap [wModel E a_M u34] H locs := hB
            refine lv_aload_n hx hb dX12_valueOf_243 rfl (lv_at hl 2 rfl) ?_
            refine gf_X12_X12_isError C hK (hB.1 0 _ rfl) dX12_valueOf_244 ?_
            refine lv_if_eq (tgt := 254) hx hb dX12_valueOf_247 (by decide) (fun c35 => ?_) (fun c35 => ?_)
            · have hf := (if_pos c35).symm.trans hf
              refine lv_lload_n hx hb dX12_valueOf_254 rfl (lv_at hl 1 rfl) ?_
              refine lv_lload hx hb dX12_valueOf_255 (lv_at hl 0 rfl) ?_
              obtain ⟨hn36, hf⟩ := ox_chk hf
              refine lv_ldiv hx hb dX12_valueOf_257 hn36 ?_
              have hf := Option.some.inj hf
              subst hf
              exact hQ _ _ H locs (fun _ => 0) hB dX12_valueOf_258
            · have hf := (if_neg c35).symm.trans hf
              refine lv_lconst (v := 0) hx hb dX12_valueOf_250 (by decide) ?_
              refine lv_goto (tgt := 258) hx hb dX12_valueOf_251 (by decide) ?_
              have hf := Option.some.inj hf
              subst hf
              exact hQ _ _ H locs (fun _ => 0) hB dX12_valueOf_258
          refine lv_if_ne (tgt := 235) hx hb dX12_valueOf_225 (by decide) (fun c37 => ?_) (fun c37 => ?_)
          · refine lv_iconst (v := 1) hx hb dX12_valueOf_235 (by decide) ?_
            refine lv_goto (tgt := 240) hx hb dX12_valueOf_236 (by decide) ?_
            exact ox_topi ((ex33).trans (if_neg c37)).symm hjx33
          · refine lv_lload hx hb dX12_valueOf_228 (lv_at hl 0 rfl) ?_
            refine lv_lconst (v := 0) hx hb dX12_valueOf_230 (by decide) ?_
            refine W.lcmp hx hb dX12_valueOf_231 ?_
            refine lx_if_ne (tgt := 239) hx hb dX12_valueOf_232 (by decide) (fun c38 => ?_) (fun c38 => ?_)
            · refine lv_iconst (v := 0) hx hb dX12_valueOf_239 (by decide) ?_
              exact ox_topi (((ex33).trans (if_pos c37)).trans (if_neg c38)).symm hjx33
            · refine lv_iconst (v := 1) hx hb dX12_valueOf_235 (by decide) ?_
              refine lv_goto (tgt := 240) hx hb dX12_valueOf_236 (by decide) ?_
              exact ox_topi (((ex33).trans (if_pos c37)).trans (if_pos c38)).symm hjx33
        have hf := (if_neg c32).symm.trans hf
        have hd42 : W p l e R s m args below meth c H locs 0 0 Q (F0 m 259 ls []) := by
          refine lv_aload_n hx hb dX12_valueOf_259 rfl (lv_at hl 2 rfl) ?_
          refine gf_X12_X12_knot C hK (hB.1 0 _ rfl) dX12_valueOf_260 ?_
          refine lv_iload_n hx hb dX12_valueOf_263 rfl (lv_at hl 3 rfl) ?_
          obtain ⟨hn39, hf⟩ := ox_chk hf
          refine ld_X12_knot C hK (hB.1 0 _ rfl) hn39 rfl dX12_valueOf_264 ?_
          refine lv_lload_n hx hb dX12_valueOf_265 rfl (lv_at hl 1 rfl) ?_
          refine lv_lload hx hb dX12_valueOf_266 (lv_at hl 0 rfl) ?_
          refine cxSP (As := [.int (gA u_M 39 (x_1).toNatClampNeg), .long x7, .long x12]) (rest := []) (st1 := [.int (fX12_compares (gA u_M 39 (x_1).toNatClampNeg) x7 x12)]) C hK (tX12_compares l E (gA u_M 39 (x_1).toNatClampNeg) x7 x12 (fX12_compares (gA u_M 39 (x_1).toNatClampNeg) x7 x12) rfl) lk_X12_354 ⟨rfl, rfl⟩ (by rw [hRf, hRl]; decide) ⟨Nat.zero_le _, Nat.zero_le _⟩ (PB.sub hB.1 [] rfl) (hB.old hD hN) (Nat.le_trans hN hB.2.2.1) rfl hl.1 rfl rfl (Nat.le_of_ble_eq_true rfl) dX12_valueOf_268 ?_
          obtain ⟨x40, ex40, hf⟩ := ox_ex hf
          have hjx40 : W p l e R s m args below meth c H locs 0 0 Q (F0 m 279 ls [.long x40]) := by
            have hf := Option.some.inj hf
            subst hf
            exact hQ _ _ H locs (fun _ => 0) hB dX12_valueOf_279
          refine lv_if_eq (tgt := 278) hx hb dX12_valueOf_271 (by decide) (fun c41 => ?_) (fun c41 => ?_)
          · refine lv_lconst (v := 0) hx hb dX12_valueOf_278 (by decide) ?_
            exact ox_topl ((ex40).trans (if_pos c41)).symm hjx40
          · refine lv_lconst (v := 1) hx hb dX12_valueOf_274 (by decide) ?_
            refine lv_goto (tgt := 279) hx hb dX12_valueOf_275 (by decide) ?_
            exact ox_topl ((ex40).trans (if_neg c41)).symm hjx40
        have nc15 := lv_neT c15 (show Int32.toInt 3 = 3 from rfl)
        have nc19 := lv_neT c19 (show Int32.toInt 4 = 4 from rfl)
        have nc23 := lv_neT c23 (show Int32.toInt 11 = 11 from rfl)
        have nc26 := lv_neT c26 (show Int32.toInt 12 = 12 from rfl)
        have nc29 := lv_neT c29 (show Int32.toInt 13 = 13 from rfl)
        have nc32 := lv_neT c32 (show Int32.toInt 14 = 14 from rfl)
        rcases (show Int32.toInt x14 < 3 ∨ 14 < Int32.toInt x14 ∨ Int32.toInt x14 = 5 ∨ Int32.toInt x14 = 6 ∨ Int32.toInt x14 = 7 ∨ Int32.toInt x14 = 8 ∨ Int32.toInt x14 = 9 ∨ Int32.toInt x14 = 10 by omega) with h | h | h | h | h | h | h | h
        · exact lv_tableOut hx hb dX12_valueOf_92 (Or.inl h) (tgt := 259) (by decide) hd42
        · exact lv_tableOut hx hb dX12_valueOf_92 (Or.inr h) (tgt := 259) (by decide) hd42
        · exact lv_tableIn hx hb dX12_valueOf_92 (by rw [h]; decide) (by rw [h]; decide) (off := 167) (by rw [h]; decide) (tgt := 259) (by decide) hd42
        · exact lv_tableIn hx hb dX12_valueOf_92 (by rw [h]; decide) (by rw [h]; decide) (off := 167) (by rw [h]; decide) (tgt := 259) (by decide) hd42
        · exact lv_tableIn hx hb dX12_valueOf_92 (by rw [h]; decide) (by rw [h]; decide) (off := 167) (by rw [h]; decide) (tgt := 259) (by decide) hd42
        · exact lv_tableIn hx hb dX12_valueOf_92 (by rw [h]; decide) (by rw [h]; decide) (off := 167) (by rw [h]; decide) (tgt := 259) (by decide) hd42
        · exact lv_tableIn hx hb dX12_valueOf_92 (by rw [h]; decide) (by rw [h]; decide) (off := 167) (by rw [h]; decide) (tgt := 259) (by decide) hd42
        · exact lv_tableIn hx hb dX12_valueOf_92 (by rw [h]; decide) (by rw [h]; decide) (off := 167) (by rw [h]; decide) (tgt := 259) (by decide) hd42
      · have hf := (if_pos c9).symm.trans hf
        refine lv_lload_n hx hb dX12_valueOf_61 rfl (lv_at hl 0 rfl) ?_
        refine lv_lconst (v := 0) hx hb dX12_valueOf_62 (by decide) ?_
        refine W.lcmp hx hb dX12_valueOf_63 ?_
        obtain ⟨x43, ex43, hf⟩ := ox_ex hf
        have hjx43 : W p l e R s m args below meth c H locs 0 0 Q (F0 m 72 ls [.long x43]) := by
          have hf := Option.some.inj hf
          subst hf
          exact hQ _ _ H locs (fun _ => 0) hB dX12_valueOf_72
        refine lx_if_ne (tgt := 71) hx hb dX12_valueOf_64 (by decide) (fun c44 => ?_) (fun c44 => ?_)
        · refine lv_lconst (v := 0) hx hb dX12_valueOf_71 (by decide) ?_
          exact ox_topl ((ex43).trans (if_neg c44)).symm hjx43
        · refine lv_lconst (v := 1) hx hb dX12_valueOf_67 (by decide) ?_
          refine lv_goto (tgt := 72) hx hb dX12_valueOf_68 (by decide) ?_
          exact ox_topl ((ex43).trans (if_pos c44)).symm hjx43
    · have hf := (if_pos c4).symm.trans hf
      refine lv_aload_n hx hb dX12_valueOf_27 rfl (lv_at hl 0 rfl) ?_
      refine gf_X12_X12_names C hK (hB.1 0 _ rfl) dX12_valueOf_28 ?_
      refine lv_aload_n hx hb dX12_valueOf_31 rfl (lv_at hl 0 rfl) ?_
      refine gf_X12_X12_part C hK (hB.1 0 _ rfl) dX12_valueOf_32 ?_
      refine lv_iload_n hx hb dX12_valueOf_35 rfl (lv_at hl 1 rfl) ?_
      obtain ⟨hn45, hf⟩ := ox_chk hf
      refine ld_X12_part C hK (hB.1 0 _ rfl) hn45 rfl dX12_valueOf_36 ?_
      obtain ⟨hn46, hf⟩ := ox_chk hf
      refine ld_X12_names C hK (hB.1 0 _ rfl) hn46 rfl dX12_valueOf_37 ?_
      have hf := Option.some.inj hf
      subst hf
      exact hQ _ _ H locs (fun _ => 0) hB dX12_valueOf_38
  · have hf := (if_pos c2).symm.trans hf
    refine lv_aload_n hx hb dX12_valueOf_9 rfl (lv_at hl 0 rfl) ?_
    refine gf_X12_X12_part C hK (hB.1 0 _ rfl) dX12_valueOf_10 ?_
    refine lv_iload_n hx hb dX12_valueOf_13 rfl (lv_at hl 1 rfl) ?_
    obtain ⟨hn47, hf⟩ := ox_chk hf
    refine ld_X12_part C hK (hB.1 0 _ rfl) hn47 rfl dX12_valueOf_14 ?_
    refine lv_i2l hx hb dX12_valueOf_15 rfl ?_
    have hf := Option.some.inj hf
    subst hf
    exact hQ _ _ H locs (fun _ => 0) hB dX12_valueOf_16
set_option maxHeartbeats 4000000 in
set_option maxRecDepth 20000 in
theorem tX12_layTried (l : Launch) (E : Ev) (a_M : Nat → Nat) (u_M : St) (res : St) (hf : fX12_layTried u_M = some res) : MX l E yX12_layTried cX12_layTried 2 none (rmm 1 20) [wModel E a_M u_M] (fun q => [wModel E a_M res]) [.ref (a_M 0)] none := by
  unfold fX12_layTried at hf
  refine MX.ofV rfl (by decide) (Nat.le_of_ble_eq_true rfl) ?_
  intro p e R s m args below meth c ls Q ad H hRf hRl C hB hD hK hN hl hQ
  generalize hlocs : ([] : List Loc) = locs at hB ⊢
  clear hlocs
  have hx := C.1
  have hb := C.2.1
  have hl : lv_has ls 2 [(0, .ref (a_M 0))] := hl
  refine lv_aload_n hx hb dX12_layTried_0 rfl (lv_at hl 0 rfl) ?_
  refine gf_X12_X12_on C hK (hB.1 0 _ rfl) dX12_layTried_1 ?_
  refine lv_iconst (v := 1) hx hb dX12_layTried_4 (by decide) ?_
  refine lv_aload_n hx hb dX12_layTried_5 rfl (lv_at hl 0 rfl) ?_
  refine gf_X12_X12_on C hK (hB.1 0 _ rfl) dX12_layTried_6 ?_
  refine lv_iconst (v := 0) hx hb dX12_layTried_9 (by decide) ?_
  refine ld_X12_on C hK (hB.1 0 _ rfl) (by decide) rfl dX12_layTried_10 ?_
  refine lv_topi (fun x1 ex1 => ?_)
  have hf := ox_lt ex1 hf
  refine st_X12_on C hK hB hD 0 rfl (by decide) rfl dX12_layTried_11 (fun H locs u2 eu2 hB => ?_)
  have hf := ox_lt eu2 hf
  have hB : WB E ad s.heap [wModel E a_M u2] H locs := hB
  refine lv_aload_n hx hb dX12_layTried_12 rfl (lv_at hl 0 rfl) ?_
  refine gf_X12_X12_onFor C hK (hB.1 0 _ rfl) dX12_layTried_13 ?_
  refine lv_iconst (v := 1) hx hb dX12_layTried_16 (by decide) ?_
  refine lv_aload_n hx hb dX12_layTried_17 rfl (lv_at hl 0 rfl) ?_
  refine gf_X12_X12_onFor C hK (hB.1 0 _ rfl) dX12_layTried_18 ?_
  refine lv_iconst (v := 0) hx hb dX12_layTried_21 (by decide) ?_
  refine ld_X12_onFor C hK (hB.1 0 _ rfl) (by decide) rfl dX12_layTried_22 ?_
  refine lv_topi (fun x3 ex3 => ?_)
  have hf := ox_lt ex3 hf
  refine st_X12_onFor C hK hB hD 0 rfl (by decide) rfl dX12_layTried_23 (fun H locs u4 eu4 hB => ?_)
  have hf := ox_lt eu4 hf
  have hB : WB E ad s.heap [wModel E a_M u4] H locs := hB
  refine lv_aload_n hx hb dX12_layTried_24 rfl (lv_at hl 0 rfl) ?_
  refine gf_X12_X12_speed C hK (hB.1 0 _ rfl) dX12_layTried_25 ?_
  refine lv_iconst (v := 1) hx hb dX12_layTried_28 (by decide) ?_
  refine lv_aload_n hx hb dX12_layTried_29 rfl (lv_at hl 0 rfl) ?_
  refine gf_X12_X12_speed C hK (hB.1 0 _ rfl) dX12_layTried_30 ?_
  refine lv_iconst (v := 0) hx hb dX12_layTried_33 (by decide) ?_
  refine ld_X12_speed C hK (hB.1 0 _ rfl) (by decide) rfl dX12_layTried_34 ?_
  refine lv_topi (fun x5 ex5 => ?_)
  have hf := ox_lt ex5 hf
  refine st_X12_speed C hK hB hD 0 rfl (by decide) rfl dX12_layTried_35 (fun H locs u6 eu6 hB => ?_)
  have hf := ox_lt eu6 hf
  have hB : WB E ad s.heap [wModel E a_M u6] H locs := hB
  refine lv_aload_n hx hb dX12_layTried_36 rfl (lv_at hl 0 rfl) ?_
  refine gf_X12_X12_latest C hK (hB.1 0 _ rfl) dX12_layTried_37 ?_
  refine lv_iconst (v := 1) hx hb dX12_layTried_40 (by decide) ?_
  refine lv_aload_n hx hb dX12_layTried_41 rfl (lv_at hl 0 rfl) ?_
  refine gf_X12_X12_latest C hK (hB.1 0 _ rfl) dX12_layTried_42 ?_
  refine lv_iconst (v := 0) hx hb dX12_layTried_45 (by decide) ?_
  refine ld_X12_latest C hK (hB.1 0 _ rfl) (by decide) rfl dX12_layTried_46 ?_
  refine lv_topi (fun x7 ex7 => ?_)
  have hf := ox_lt ex7 hf
  refine st_X12_latest C hK hB hD 0 rfl (by decide) rfl dX12_layTried_47 (fun H locs u8 eu8 hB => ?_)
  have hf := ox_lt eu8 hf
  have hB : WB E ad s.heap [wModel E a_M u8] H locs := hB
  refine lv_aload_n hx hb dX12_layTried_48 rfl (lv_at hl 0 rfl) ?_
  refine gf_X12_X12_refused C hK (hB.1 0 _ rfl) dX12_layTried_49 ?_
  refine lv_iconst (v := 1) hx hb dX12_layTried_52 (by decide) ?_
  refine lv_aload_n hx hb dX12_layTried_53 rfl (lv_at hl 0 rfl) ?_
  refine gf_X12_X12_refused C hK (hB.1 0 _ rfl) dX12_layTried_54 ?_
  refine lv_iconst (v := 0) hx hb dX12_layTried_57 (by decide) ?_
  refine ld_X12_refused C hK (hB.1 0 _ rfl) (by decide) rfl dX12_layTried_58 ?_
  refine lv_topi (fun x9 ex9 => ?_)
  have hf := ox_lt ex9 hf
  refine st_X12_refused C hK hB hD 0 rfl (by decide) rfl dX12_layTried_59 (fun H locs u10 eu10 hB => ?_)
  have hf := ox_lt eu10 hf
  have hB : WB E ad s.heap [wModel E a_M u10] H locs := hB
  refine lv_aload_n hx hb dX12_layTried_60 rfl (lv_at hl 0 rfl) ?_
  refine gf_X12_X12_coughed C hK (hB.1 0 _ rfl) dX12_layTried_61 ?_
  refine lv_iconst (v := 1) hx hb dX12_layTried_64 (by decide) ?_
  refine lv_aload_n hx hb dX12_layTried_65 rfl (lv_at hl 0 rfl) ?_
  refine gf_X12_X12_coughed C hK (hB.1 0 _ rfl) dX12_layTried_66 ?_
  refine lv_iconst (v := 0) hx hb dX12_layTried_69 (by decide) ?_
  refine ld_X12_coughed C hK (hB.1 0 _ rfl) (by decide) rfl dX12_layTried_70 ?_
  refine lv_topi (fun x11 ex11 => ?_)
  have hf := ox_lt ex11 hf
  refine st_X12_coughed C hK hB hD 0 rfl (by decide) rfl dX12_layTried_71 (fun H locs u12 eu12 hB => ?_)
  have hf := ox_lt eu12 hf
  have hB : WB E ad s.heap [wModel E a_M u12] H locs := hB
  refine lv_aload_n hx hb dX12_layTried_72 rfl (lv_at hl 0 rfl) ?_
  refine gf_X12_X12_minute C hK (hB.1 0 _ rfl) dX12_layTried_73 ?_
  refine lv_iconst (v := 1) hx hb dX12_layTried_76 (by decide) ?_
  refine lv_aload_n hx hb dX12_layTried_77 rfl (lv_at hl 0 rfl) ?_
  refine gf_X12_X12_minute C hK (hB.1 0 _ rfl) dX12_layTried_78 ?_
  refine lv_iconst (v := 0) hx hb dX12_layTried_81 (by decide) ?_
  refine ld_X12_minute C hK (hB.1 0 _ rfl) (by decide) rfl dX12_layTried_82 ?_
  refine lv_topi (fun x13 ex13 => ?_)
  have hf := ox_lt ex13 hf
  refine st_X12_minute C hK hB hD 0 rfl (by decide) rfl dX12_layTried_83 (fun H locs u14 eu14 hB => ?_)
  have hf := ox_lt eu14 hf
  have hB : WB E ad s.heap [wModel E a_M u14] H locs := hB
  refine lv_iconst (v := 0) hx hb dX12_layTried_84 (by decide) ?_
  refine lv_istore_n (lv' := [(1, .int (0 : Int32)), (0, .ref (a_M 0))]) hx hb dX12_layTried_85 rfl hl (by decide) rfl (fun ls hl => ?_)
  obtain ⟨X1, hX1, hf⟩ := ox_bind hf
  have hexit1 : ∀ y31, y31 = X1 → ∀ (ls : Array Slot) (H : Heap) (locs : List Loc), lv_has ls 2 [(0, .ref (a_M 0))] → WB E ad s.heap [wModel E a_M y31] H locs → W p l e R s m args below meth c H locs 0 0 Q (F0 m 143 ls []) := by
    intro y31 hy ls H locs hl hB
    subst hy
    refine lv_iconst (v := 0) hx hb dX12_layTried_143 (by decide) ?_
    refine lv_istore_n (lv' := [(1, .int (0 : Int32)), (0, .ref (a_M 0))]) hx hb dX12_layTried_144 rfl hl (by decide) rfl (fun ls hl => ?_)
    obtain ⟨X2, hX2, hf⟩ := ox_bind hf
    have hexit2 : ∀ y40, y40 = X2 → ∀ (ls : Array Slot) (H : Heap) (locs : List Loc), lv_has ls 2 [(0, .ref (a_M 0))] → WB E ad s.heap [wModel E a_M y40] H locs → W p l e R s m args below meth c H locs 0 0 Q (F0 m 170 ls []) := by
      intro y40 hy ls H locs hl hB
      subst hy
      refine lv_aload_n hx hb dX12_layTried_170 rfl (lv_at hl 0 rfl) ?_
      obtain ⟨r41, er41, hf⟩ := ox_ex hf
      refine cxVX (bs1 := (fun q => [wModel E a_M r41])) (As := []) (rest := []) (st1 := []) C hK (tX12_plainTried l E a_M y40 r41 er41.symm) lk_X12_365 (by rw [hRf, hRl]; decide) ⟨Nat.zero_le _, Nat.zero_le _⟩ hB hD hN [0] (by decide) rfl (fun _ => rfl) (fun _ => rfl) (rc_X12 hK (hB.1 0 _ rfl)) rfl hl.1 rfl rfl (Nat.le_of_ble_eq_true rfl) dX12_layTried_171 (fun H locs q42 hB => ?_)
      have hB : WB E ad s.heap [wModel E a_M r41] H locs := hB
      have hf := Option.some.inj hf
      subst hf
      exact hQ _ _ H locs (fun _ => 0) hB dX12_layTried_174
    have hloop2 : ∀ (nf : Nat) (x32 : Int32) (u33 : St) (ls : Array Slot) (H : Heap) (locs : List Loc), lv_has ls 2 [(0, .ref (a_M 0)), (1, .int x32)] → WB E ad s.heap [wModel E a_M u33] H locs → fX12_layTried_L2 nf x32 u33 = some X2 → W p l e R s m args below meth c H locs 0 0 Q (F0 m 145 ls []) := by
      intro nf
      induction nf with
      | zero =>
        intro x32 u33 ls H locs hl hB hf
        simp [fX12_layTried_L2] at hf
      | succ nf ih =>
        intro x32 u33 ls H locs hl hB hf
        rw [fX12_layTried_L2] at hf
        refine lv_iload_n hx hb dX12_layTried_145 rfl (lv_at hl 1 rfl) ?_
        refine lv_iconst (v := 4) hx hb dX12_layTried_146 (by decide) ?_
        refine lv_icmp_ge (tgt := 170) hx hb dX12_layTried_147 (by decide) (fun c34 => ?_) (fun c34 => ?_)
        · have hf := (if_pos c34).symm.trans hf
          exact hexit2 _ (Option.some.inj hf) ls H locs (lv_sub hl [0] rfl) hB
        · have hf := (if_neg c34).symm.trans hf
          refine lv_aload_n hx hb dX12_layTried_150 rfl (lv_at hl 0 rfl) ?_
          refine gf_X12_X12_ground C hK (hB.1 0 _ rfl) dX12_layTried_151 ?_
          refine lv_iconst (v := 4) hx hb dX12_layTried_154 (by decide) ?_
          refine lv_iload_n hx hb dX12_layTried_155 rfl (lv_at hl 1 rfl) ?_
          refine lv_iadd hx hb dX12_layTried_156 ?_
          refine lv_aload_n hx hb dX12_layTried_157 rfl (lv_at hl 0 rfl) ?_
          refine gf_X12_X12_ground C hK (hB.1 0 _ rfl) dX12_layTried_158 ?_
          refine lv_iload_n hx hb dX12_layTried_161 rfl (lv_at hl 1 rfl) ?_
          obtain ⟨hn35, hf⟩ := ox_chk hf
          refine ld_X12_ground C hK (hB.1 0 _ rfl) hn35 rfl dX12_layTried_162 ?_
          refine lv_topi (fun x36 ex36 => ?_)
          have hf := ox_lt ex36 hf
          obtain ⟨hn37, hf⟩ := ox_chk hf
          refine st_X12_ground C hK hB hD 0 rfl hn37 rfl dX12_layTried_163 (fun H locs u38 eu38 hB => ?_)
          have hf := ox_lt eu38 hf
          have hB : WB E ad s.heap [wModel E a_M u38] H locs := hB
          obtain ⟨x39, ex39⟩ : ∃ z : Int32, z = (x32 + 1) := ⟨_, rfl⟩
          have hf := ox_lt ex39 hf
          refine lv_iinc (v := x39) (lv' := [(1, .int x39), (0, .ref (a_M 0))]) hx hb dX12_layTried_164 hl (k := 1) rfl (by rw [ex39]; rfl) (by decide) rfl (fun ls hl => ?_)
          refine lv_goto (tgt := 145) hx hb dX12_layTried_167 (by decide) ?_
          exact ih _ _ ls H locs (lv_sub hl [1, 0] rfl) hB hf
    exact hloop2 fuel _ _ ls H locs (lv_sub hl [1, 0] rfl) hB hX2
  have hloop1 : ∀ (nf : Nat) (x15 : Int32) (u16 : St) (ls : Array Slot) (H : Heap) (locs : List Loc), lv_has ls 2 [(0, .ref (a_M 0)), (1, .int x15)] → WB E ad s.heap [wModel E a_M u16] H locs → fX12_layTried_L1 nf x15 u16 = some X1 → W p l e R s m args below meth c H locs 0 0 Q (F0 m 86 ls []) := by
    intro nf
    induction nf with
    | zero =>
      intro x15 u16 ls H locs hl hB hf
      simp [fX12_layTried_L1] at hf
    | succ nf ih =>
      intro x15 u16 ls H locs hl hB hf
      rw [fX12_layTried_L1] at hf
      refine lv_iload_n hx hb dX12_layTried_86 rfl (lv_at hl 1 rfl) ?_
      refine lv_bipush (v := 6) hx hb dX12_layTried_87 (by decide) ?_
      refine lv_icmp_ge (tgt := 143) hx hb dX12_layTried_89 (by decide) (fun c17 => ?_) (fun c17 => ?_)
      · have hf := (if_pos c17).symm.trans hf
        exact hexit1 _ (Option.some.inj hf) ls H locs (lv_sub hl [0] rfl) hB
      · have hf := (if_neg c17).symm.trans hf
        refine lv_aload_n hx hb dX12_layTried_92 rfl (lv_at hl 0 rfl) ?_
        refine gf_X12_X12_sits C hK (hB.1 0 _ rfl) dX12_layTried_93 ?_
        refine lv_bipush (v := 6) hx hb dX12_layTried_96 (by decide) ?_
        refine lv_iload_n hx hb dX12_layTried_98 rfl (lv_at hl 1 rfl) ?_
        refine lv_iadd hx hb dX12_layTried_99 ?_
        refine lv_aload_n hx hb dX12_layTried_100 rfl (lv_at hl 0 rfl) ?_
        refine gf_X12_X12_sits C hK (hB.1 0 _ rfl) dX12_layTried_101 ?_
        refine lv_iload_n hx hb dX12_layTried_104 rfl (lv_at hl 1 rfl) ?_
        obtain ⟨hn18, hf⟩ := ox_chk hf
        refine ld_X12_sits C hK (hB.1 0 _ rfl) hn18 rfl dX12_layTried_105 ?_
        refine lv_topi (fun x19 ex19 => ?_)
        have hf := ox_lt ex19 hf
        obtain ⟨hn20, hf⟩ := ox_chk hf
        refine st_X12_sits C hK hB hD 0 rfl hn20 rfl dX12_layTried_106 (fun H locs u21 eu21 hB => ?_)
        have hf := ox_lt eu21 hf
        have hB : WB E ad s.heap [wModel E a_M u21] H locs := hB
        refine lv_aload_n hx hb dX12_layTried_107 rfl (lv_at hl 0 rfl) ?_
        refine gf_X12_X12_tired C hK (hB.1 0 _ rfl) dX12_layTried_108 ?_
        refine lv_bipush (v := 6) hx hb dX12_layTried_111 (by decide) ?_
        refine lv_iload_n hx hb dX12_layTried_113 rfl (lv_at hl 1 rfl) ?_
        refine lv_iadd hx hb dX12_layTried_114 ?_
        refine lv_aload_n hx hb dX12_layTried_115 rfl (lv_at hl 0 rfl) ?_
        refine gf_X12_X12_tired C hK (hB.1 0 _ rfl) dX12_layTried_116 ?_
        refine lv_iload_n hx hb dX12_layTried_119 rfl (lv_at hl 1 rfl) ?_
        obtain ⟨hn22, hf⟩ := ox_chk hf
        refine ld_X12_tired C hK (hB.1 0 _ rfl) hn22 rfl dX12_layTried_120 ?_
        refine lv_topi (fun x23 ex23 => ?_)
        have hf := ox_lt ex23 hf
        obtain ⟨hn24, hf⟩ := ox_chk hf
        refine st_X12_tired C hK hB hD 0 rfl hn24 rfl dX12_layTried_121 (fun H locs u25 eu25 hB => ?_)
        have hf := ox_lt eu25 hf
        have hB : WB E ad s.heap [wModel E a_M u25] H locs := hB
        refine lv_aload_n hx hb dX12_layTried_122 rfl (lv_at hl 0 rfl) ?_
        refine gf_X12_X12_clapped C hK (hB.1 0 _ rfl) dX12_layTried_123 ?_
        refine lv_bipush (v := 6) hx hb dX12_layTried_126 (by decide) ?_
        refine lv_iload_n hx hb dX12_layTried_128 rfl (lv_at hl 1 rfl) ?_
        refine lv_iadd hx hb dX12_layTried_129 ?_
        refine lv_aload_n hx hb dX12_layTried_130 rfl (lv_at hl 0 rfl) ?_
        refine gf_X12_X12_clapped C hK (hB.1 0 _ rfl) dX12_layTried_131 ?_
        refine lv_iload_n hx hb dX12_layTried_134 rfl (lv_at hl 1 rfl) ?_
        obtain ⟨hn26, hf⟩ := ox_chk hf
        refine ld_X12_clapped C hK (hB.1 0 _ rfl) hn26 rfl dX12_layTried_135 ?_
        refine lv_topi (fun x27 ex27 => ?_)
        have hf := ox_lt ex27 hf
        obtain ⟨hn28, hf⟩ := ox_chk hf
        refine st_X12_clapped C hK hB hD 0 rfl hn28 rfl dX12_layTried_136 (fun H locs u29 eu29 hB => ?_)
        have hf := ox_lt eu29 hf
        have hB : WB E ad s.heap [wModel E a_M u29] H locs := hB
        obtain ⟨x30, ex30⟩ : ∃ z : Int32, z = (x15 + 1) := ⟨_, rfl⟩
        have hf := ox_lt ex30 hf
        refine lv_iinc (v := x30) (lv' := [(1, .int x30), (0, .ref (a_M 0))]) hx hb dX12_layTried_137 hl (k := 1) rfl (by rw [ex30]; rfl) (by decide) rfl (fun ls hl => ?_)
        refine lv_goto (tgt := 86) hx hb dX12_layTried_140 (by decide) ?_
        exact ih _ _ ls H locs (lv_sub hl [1, 0] rfl) hB hf
  exact hloop1 fuel _ _ ls H locs (lv_sub hl [1, 0] rfl) hB hX1
set_option maxHeartbeats 4000000 in
set_option maxRecDepth 20000 in
theorem tX12_isAct (l : Launch) (E : Ev) (a_M : Nat → Nat) (u_M : St) (x_1 : Int32) (res : Int32) (hf : fX12_isAct u_M x_1 = res) : MP l E yX12_isAct cX12_isAct 2 (some .boolean) (rmm 0 0) [wModel E a_M u_M] [.ref (a_M 0), .int x_1] (some (.int res)) := by
  unfold fX12_isAct at hf
  refine MP.ofZZ rfl (by decide) (Nat.le_of_ble_eq_true rfl) ?_
  intro p e R s m args below meth c ls Q hRf hRl C hP hK hN hl hQ
  have hx := C.1
  have hb := C.2.1
  have hl : lv_has ls 2 [(0, .ref (a_M 0)), (1, .int x_1)] := hl
  refine lv_iload_n hx hb dX12_isAct_0 rfl (lv_at hl 1 rfl) ?_
  obtain ⟨x1, ex1, hf⟩ := ox_ex hf
  have hjx1 : W p l e R s m args below meth c s.heap [] 0 0 Q (F0 m 17 ls [.int x1]) := by
    subst hf
    exact hQ _ _ x1 rfl dX12_isAct_17
  refine lv_if_lt (tgt := 16) hx hb dX12_isAct_1 (by decide) (fun c2 => ?_) (fun c2 => ?_)
  · refine lv_iconst (v := 0) hx hb dX12_isAct_16 (by decide) ?_
    exact ox_topi ((ex1).trans (if_pos c2)).symm hjx1
  · refine lv_iload_n hx hb dX12_isAct_4 rfl (lv_at hl 1 rfl) ?_
    refine lv_aload_n hx hb dX12_isAct_5 rfl (lv_at hl 0 rfl) ?_
    refine gf_X12_X12_acts C hK (hP 0 _ rfl) dX12_isAct_6 ?_
    refine lv_icmp_ge (tgt := 16) hx hb dX12_isAct_9 (by decide) (fun c3 => ?_) (fun c3 => ?_)
    · refine lv_iconst (v := 0) hx hb dX12_isAct_16 (by decide) ?_
      exact ox_topi (((ex1).trans (if_neg c2)).trans (if_pos c3)).symm hjx1
    · refine lv_iconst (v := 1) hx hb dX12_isAct_12 (by decide) ?_
      refine lv_goto (tgt := 17) hx hb dX12_isAct_13 (by decide) ?_
      exact ox_topi (((ex1).trans (if_neg c2)).trans (if_neg c3)).symm hjx1
set_option maxHeartbeats 4000000 in
set_option maxRecDepth 20000 in
theorem tX12_isGuest (l : Launch) (E : Ev) (a_M : Nat → Nat) (u_M : St) (x_1 : Int32) (res : Int32) (hf : fX12_isGuest u_M x_1 = res) : MP l E yX12_isGuest cX12_isGuest 2 (some .boolean) (rmm 0 0) [wModel E a_M u_M] [.ref (a_M 0), .int x_1] (some (.int res)) := by
  unfold fX12_isGuest at hf
  refine MP.ofZZ rfl (by decide) (Nat.le_of_ble_eq_true rfl) ?_
  intro p e R s m args below meth c ls Q hRf hRl C hP hK hN hl hQ
  have hx := C.1
  have hb := C.2.1
  have hl : lv_has ls 2 [(0, .ref (a_M 0)), (1, .int x_1)] := hl
  refine lv_iload_n hx hb dX12_isGuest_0 rfl (lv_at hl 1 rfl) ?_
  obtain ⟨x1, ex1, hf⟩ := ox_ex hf
  have hjx1 : W p l e R s m args below meth c s.heap [] 0 0 Q (F0 m 17 ls [.int x1]) := by
    subst hf
    exact hQ _ _ x1 rfl dX12_isGuest_17
  refine lv_if_lt (tgt := 16) hx hb dX12_isGuest_1 (by decide) (fun c2 => ?_) (fun c2 => ?_)
  · refine lv_iconst (v := 0) hx hb dX12_isGuest_16 (by decide) ?_
    exact ox_topi ((ex1).trans (if_pos c2)).symm hjx1
  · refine lv_iload_n hx hb dX12_isGuest_4 rfl (lv_at hl 1 rfl) ?_
    refine lv_aload_n hx hb dX12_isGuest_5 rfl (lv_at hl 0 rfl) ?_
    refine gf_X12_X12_guests C hK (hP 0 _ rfl) dX12_isGuest_6 ?_
    refine lv_icmp_ge (tgt := 16) hx hb dX12_isGuest_9 (by decide) (fun c3 => ?_) (fun c3 => ?_)
    · refine lv_iconst (v := 0) hx hb dX12_isGuest_16 (by decide) ?_
      exact ox_topi (((ex1).trans (if_neg c2)).trans (if_pos c3)).symm hjx1
    · refine lv_iconst (v := 1) hx hb dX12_isGuest_12 (by decide) ?_
      refine lv_goto (tgt := 17) hx hb dX12_isGuest_13 (by decide) ?_
      exact ox_topi (((ex1).trans (if_neg c2)).trans (if_neg c3)).symm hjx1
set_option maxHeartbeats 4000000 in
set_option maxRecDepth 20000 in
theorem tX12_isGrain (l : Launch) (E : Ev) (a_M : Nat → Nat) (u_M : St) (x_1 : Int32) (res : Int32) (hf : fX12_isGrain u_M x_1 = res) : MP l E yX12_isGrain cX12_isGrain 2 (some .boolean) (rmm 0 0) [wModel E a_M u_M] [.ref (a_M 0), .int x_1] (some (.int res)) := by
  unfold fX12_isGrain at hf
  refine MP.ofZZ rfl (by decide) (Nat.le_of_ble_eq_true rfl) ?_
  intro p e R s m args below meth c ls Q hRf hRl C hP hK hN hl hQ
  have hx := C.1
  have hb := C.2.1
  have hl : lv_has ls 2 [(0, .ref (a_M 0)), (1, .int x_1)] := hl
  refine lv_iload_n hx hb dX12_isGrain_0 rfl (lv_at hl 1 rfl) ?_
  obtain ⟨x1, ex1, hf⟩ := ox_ex hf
  have hjx1 : W p l e R s m args below meth c s.heap [] 0 0 Q (F0 m 17 ls [.int x1]) := by
    subst hf
    exact hQ _ _ x1 rfl dX12_isGrain_17
  refine lv_if_lt (tgt := 16) hx hb dX12_isGrain_1 (by decide) (fun c2 => ?_) (fun c2 => ?_)
  · refine lv_iconst (v := 0) hx hb dX12_isGrain_16 (by decide) ?_
    exact ox_topi ((ex1).trans (if_pos c2)).symm hjx1
  · refine lv_iload_n hx hb dX12_isGrain_4 rfl (lv_at hl 1 rfl) ?_
    refine lv_aload_n hx hb dX12_isGrain_5 rfl (lv_at hl 0 rfl) ?_
    refine gf_X12_X12_grains C hK (hP 0 _ rfl) dX12_isGrain_6 ?_
    refine lv_icmp_ge (tgt := 16) hx hb dX12_isGrain_9 (by decide) (fun c3 => ?_) (fun c3 => ?_)
    · refine lv_iconst (v := 0) hx hb dX12_isGrain_16 (by decide) ?_
      exact ox_topi (((ex1).trans (if_neg c2)).trans (if_pos c3)).symm hjx1
    · refine lv_iconst (v := 1) hx hb dX12_isGrain_12 (by decide) ?_
      refine lv_goto (tgt := 17) hx hb dX12_isGrain_13 (by decide) ?_
      exact ox_topi (((ex1).trans (if_neg c2)).trans (if_neg c3)).symm hjx1
set_option maxHeartbeats 4000000 in
set_option maxRecDepth 20000 in
theorem tX12_moodNow (l : Launch) (E : Ev) (a_M : Nat → Nat) (u_M : St) (x_1 : Int32) (res : Int32) (hf : fX12_moodNow u_M x_1 = some res) : MP l E yX12_moodNow cX12_moodNow 2 (some .int) (rmm 0 0) [wModel E a_M u_M] [.ref (a_M 0), .int x_1] (some (.int res)) := by
  unfold fX12_moodNow at hf
  refine MP.ofI rfl (by decide) (Nat.le_of_ble_eq_true rfl) ?_
  intro p e R s m args below meth c ls Q hRf hRl C hP hK hN hl hQ
  have hx := C.1
  have hb := C.2.1
  have hl : lv_has ls 2 [(0, .ref (a_M 0)), (1, .int x_1)] := hl
  refine lv_iload_n hx hb dX12_moodNow_0 rfl (lv_at hl 1 rfl) ?_
  refine lv_if_ge (tgt := 8) hx hb dX12_moodNow_1 (by decide) (fun c1 => ?_) (fun c1 => ?_)
  · have hf := (if_pos c1).symm.trans hf
    refine lv_iload_n hx hb dX12_moodNow_8 rfl (lv_at hl 1 rfl) ?_
    refine lv_aload_n hx hb dX12_moodNow_9 rfl (lv_at hl 0 rfl) ?_
    refine gf_X12_X12_moodOf C hK (hP 0 _ rfl) dX12_moodNow_10 ?_
    refine lv_icmp_ne (tgt := 23) hx hb dX12_moodNow_13 (by decide) (fun c2 => ?_) (fun c2 => ?_)
    · have hf := (if_neg c2).symm.trans hf
      refine lv_aload_n hx hb dX12_moodNow_23 rfl (lv_at hl 0 rfl) ?_
      refine gf_X12_X12_actMood C hK (hP 0 _ rfl) dX12_moodNow_24 ?_
      refine lv_iload_n hx hb dX12_moodNow_27 rfl (lv_at hl 1 rfl) ?_
      obtain ⟨hn3, hf⟩ := ox_chk hf
      refine ld_X12_actMood C hK (hP 0 _ rfl) hn3 rfl dX12_moodNow_28 ?_
      have hf := Option.some.inj hf
      subst hf
      exact hQ _ _ dX12_moodNow_29
    · have hf := (if_pos c2).symm.trans hf
      refine lv_aload_n hx hb dX12_moodNow_16 rfl (lv_at hl 0 rfl) ?_
      refine gf_X12_X12_moodBy C hK (hP 0 _ rfl) dX12_moodNow_17 ?_
      refine lv_goto (tgt := 29) hx hb dX12_moodNow_20 (by decide) ?_
      have hf := Option.some.inj hf
      subst hf
      exact hQ _ _ dX12_moodNow_29
  · have hf := (if_neg c1).symm.trans hf
    refine lv_iconst (v := 0) hx hb dX12_moodNow_4 (by decide) ?_
    refine lv_goto (tgt := 29) hx hb dX12_moodNow_5 (by decide) ?_
    have hf := Option.some.inj hf
    subst hf
    exact hQ _ _ dX12_moodNow_29
set_option maxHeartbeats 4000000 in
set_option maxRecDepth 20000 in
theorem tX12_hungerOf (l : Launch) (E : Ev) (a_M : Nat → Nat) (u_M : St) (x_1 : Int32) (res : Int32) (hf : fX12_hungerOf u_M x_1 = some res) : MP l E yX12_hungerOf cX12_hungerOf 2 (some .int) (rmm 0 0) [wModel E a_M u_M] [.ref (a_M 0), .int x_1] (some (.int res)) := by
  unfold fX12_hungerOf at hf
  refine MP.ofI rfl (by decide) (Nat.le_of_ble_eq_true rfl) ?_
  intro p e R s m args below meth c ls Q hRf hRl C hP hK hN hl hQ
  have hx := C.1
  have hb := C.2.1
  have hl : lv_has ls 2 [(0, .ref (a_M 0)), (1, .int x_1)] := hl
  refine lv_aload_n hx hb dX12_hungerOf_0 rfl (lv_at hl 0 rfl) ?_
  refine gf_X12_X12_hungry C hK (hP 0 _ rfl) dX12_hungerOf_1 ?_
  refine lv_if_eq (tgt := 12) hx hb dX12_hungerOf_4 (by decide) (fun c1 => ?_) (fun c1 => ?_)
  · have hf := (if_pos c1).symm.trans hf
    refine lv_aload_n hx hb dX12_hungerOf_12 rfl (lv_at hl 0 rfl) ?_
    refine gf_X12_X12_guestHunger C hK (hP 0 _ rfl) dX12_hungerOf_13 ?_
    refine lv_iload_n hx hb dX12_hungerOf_16 rfl (lv_at hl 1 rfl) ?_
    obtain ⟨hn2, hf⟩ := ox_chk hf
    refine ld_X12_guestHunger C hK (hP 0 _ rfl) hn2 rfl dX12_hungerOf_17 ?_
    have hf := Option.some.inj hf
    subst hf
    exact hQ _ _ dX12_hungerOf_18
  · have hf := (if_neg c1).symm.trans hf
    refine lv_bipush (v := 9) hx hb dX12_hungerOf_7 (by decide) ?_
    refine lv_goto (tgt := 18) hx hb dX12_hungerOf_9 (by decide) ?_
    have hf := Option.some.inj hf
    subst hf
    exact hQ _ _ dX12_hungerOf_18
set_option maxHeartbeats 4000000 in
set_option maxRecDepth 20000 in
theorem tX12_groundAll (l : Launch) (E : Ev) (a_M : Nat → Nat) (u_M : St) (x_1 : Int32) (res : Int32) (hf : fX12_groundAll u_M x_1 = some res) : MP l E yX12_groundAll cX12_groundAll 2 (some .int) (rmm 0 0) [wModel E a_M u_M] [.ref (a_M 0), .int x_1] (some (.int res)) := by
  unfold fX12_groundAll at hf
  refine MP.ofI rfl (by decide) (Nat.le_of_ble_eq_true rfl) ?_
  intro p e R s m args below meth c ls Q hRf hRl C hP hK hN hl hQ
  have hx := C.1
  have hb := C.2.1
  have hl : lv_has ls 2 [(0, .ref (a_M 0)), (1, .int x_1)] := hl
  refine lv_aload_n hx hb dX12_groundAll_0 rfl (lv_at hl 0 rfl) ?_
  refine gf_X12_X12_ground C hK (hP 0 _ rfl) dX12_groundAll_1 ?_
  refine lv_iconst (v := 4) hx hb dX12_groundAll_4 (by decide) ?_
  refine lv_iload_n hx hb dX12_groundAll_5 rfl (lv_at hl 1 rfl) ?_
  refine lv_imul hx hb dX12_groundAll_6 ?_
  obtain ⟨hn1, hf⟩ := ox_chk hf
  refine ld_X12_ground C hK (hP 0 _ rfl) hn1 rfl dX12_groundAll_7 ?_
  refine lv_aload_n hx hb dX12_groundAll_8 rfl (lv_at hl 0 rfl) ?_
  refine gf_X12_X12_ground C hK (hP 0 _ rfl) dX12_groundAll_9 ?_
  refine lv_iconst (v := 4) hx hb dX12_groundAll_12 (by decide) ?_
  refine lv_iload_n hx hb dX12_groundAll_13 rfl (lv_at hl 1 rfl) ?_
  refine lv_imul hx hb dX12_groundAll_14 ?_
  refine lv_iconst (v := 1) hx hb dX12_groundAll_15 (by decide) ?_
  refine lv_iadd hx hb dX12_groundAll_16 ?_
  obtain ⟨hn2, hf⟩ := ox_chk hf
  refine ld_X12_ground C hK (hP 0 _ rfl) hn2 rfl dX12_groundAll_17 ?_
  refine lv_iadd hx hb dX12_groundAll_18 ?_
  refine lv_aload_n hx hb dX12_groundAll_19 rfl (lv_at hl 0 rfl) ?_
  refine gf_X12_X12_ground C hK (hP 0 _ rfl) dX12_groundAll_20 ?_
  refine lv_iconst (v := 4) hx hb dX12_groundAll_23 (by decide) ?_
  refine lv_iload_n hx hb dX12_groundAll_24 rfl (lv_at hl 1 rfl) ?_
  refine lv_imul hx hb dX12_groundAll_25 ?_
  refine lv_iconst (v := 2) hx hb dX12_groundAll_26 (by decide) ?_
  refine lv_iadd hx hb dX12_groundAll_27 ?_
  obtain ⟨hn3, hf⟩ := ox_chk hf
  refine ld_X12_ground C hK (hP 0 _ rfl) hn3 rfl dX12_groundAll_28 ?_
  refine lv_iadd hx hb dX12_groundAll_29 ?_
  refine lv_aload_n hx hb dX12_groundAll_30 rfl (lv_at hl 0 rfl) ?_
  refine gf_X12_X12_ground C hK (hP 0 _ rfl) dX12_groundAll_31 ?_
  refine lv_iconst (v := 4) hx hb dX12_groundAll_34 (by decide) ?_
  refine lv_iload_n hx hb dX12_groundAll_35 rfl (lv_at hl 1 rfl) ?_
  refine lv_imul hx hb dX12_groundAll_36 ?_
  refine lv_iconst (v := 3) hx hb dX12_groundAll_37 (by decide) ?_
  refine lv_iadd hx hb dX12_groundAll_38 ?_
  obtain ⟨hn4, hf⟩ := ox_chk hf
  refine ld_X12_ground C hK (hP 0 _ rfl) hn4 rfl dX12_groundAll_39 ?_
  refine lv_iadd hx hb dX12_groundAll_40 ?_
  have hf := Option.some.inj hf
  subst hf
  exact hQ _ _ dX12_groundAll_41
set_option maxHeartbeats 4000000 in
set_option maxRecDepth 20000 in
theorem tX12_tiredAll (l : Launch) (E : Ev) (a_M : Nat → Nat) (u_M : St) (x_1 : Int32) (res : Int32) (hf : fX12_tiredAll u_M x_1 = some res) : MP l E yX12_tiredAll cX12_tiredAll 4 (some .int) (rmm 0 0) [wModel E a_M u_M] [.ref (a_M 0), .int x_1] (some (.int res)) := by
  unfold fX12_tiredAll at hf
  refine MP.ofI rfl (by decide) (Nat.le_of_ble_eq_true rfl) ?_
  intro p e R s m args below meth c ls Q hRf hRl C hP hK hN hl hQ
  have hx := C.1
  have hb := C.2.1
  have hl : lv_has ls 4 [(0, .ref (a_M 0)), (1, .int x_1)] := hl
  refine lv_iconst (v := 0) hx hb dX12_tiredAll_0 (by decide) ?_
  refine lv_istore_n (lv' := [(2, .int (0 : Int32)), (0, .ref (a_M 0)), (1, .int x_1)]) hx hb dX12_tiredAll_1 rfl hl (by decide) rfl (fun ls hl => ?_)
  refine lv_iconst (v := 0) hx hb dX12_tiredAll_2 (by decide) ?_
  refine lv_istore_n (lv' := [(3, .int (0 : Int32)), (2, .int (0 : Int32)), (0, .ref (a_M 0)), (1, .int x_1)]) hx hb dX12_tiredAll_3 rfl hl (by decide) rfl (fun ls hl => ?_)
  obtain ⟨X1, hX1, hf⟩ := ox_bind hf
  have hexit1 : ∀ y7, y7 = X1 → ∀ (ls : Array Slot), lv_has ls 4 [(2, .int y7)] → W p l e R s m args below meth c s.heap [] 0 0 Q (F0 m 32 ls []) := by
    intro y7 hy ls hl
    subst hy
    refine lv_iload_n hx hb dX12_tiredAll_32 rfl (lv_at hl 0 rfl) ?_
    have hf := Option.some.inj hf
    subst hf
    exact hQ _ _ dX12_tiredAll_33
  have hloop1 : ∀ (nf : Nat) (x1 : Int32) (x2 : Int32) (ls : Array Slot), lv_has ls 4 [(0, .ref (a_M 0)), (1, .int x_1), (2, .int x1), (3, .int x2)] → fX12_tiredAll_L1 u_M x_1 nf x1 x2 = some X1 → W p l e R s m args below meth c s.heap [] 0 0 Q (F0 m 4 ls []) := by
    intro nf
    induction nf with
    | zero =>
      intro x1 x2 ls hl hf
      simp [fX12_tiredAll_L1] at hf
    | succ nf ih =>
      intro x1 x2 ls hl hf
      rw [fX12_tiredAll_L1] at hf
      refine lv_iload_n hx hb dX12_tiredAll_4 rfl (lv_at hl 3 rfl) ?_
      refine lv_aload_n hx hb dX12_tiredAll_5 rfl (lv_at hl 0 rfl) ?_
      refine gf_X12_X12_guests C hK (hP 0 _ rfl) dX12_tiredAll_6 ?_
      refine lv_icmp_ge (tgt := 32) hx hb dX12_tiredAll_9 (by decide) (fun c3 => ?_) (fun c3 => ?_)
      · have hf := (if_pos c3).symm.trans hf
        exact hexit1 _ (Option.some.inj hf) ls (lv_sub hl [2] rfl)
      · have hf := (if_neg c3).symm.trans hf
        refine lv_iload_n hx hb dX12_tiredAll_12 rfl (lv_at hl 2 rfl) ?_
        refine lv_aload_n hx hb dX12_tiredAll_13 rfl (lv_at hl 0 rfl) ?_
        refine gf_X12_X12_tired C hK (hP 0 _ rfl) dX12_tiredAll_14 ?_
        refine lv_bipush (v := 6) hx hb dX12_tiredAll_17 (by decide) ?_
        refine lv_iload_n hx hb dX12_tiredAll_19 rfl (lv_at hl 1 rfl) ?_
        refine lv_imul hx hb dX12_tiredAll_20 ?_
        refine lv_iload_n hx hb dX12_tiredAll_21 rfl (lv_at hl 3 rfl) ?_
        refine lv_iadd hx hb dX12_tiredAll_22 ?_
        obtain ⟨hn4, hf⟩ := ox_chk hf
        refine ld_X12_tired C hK (hP 0 _ rfl) hn4 rfl dX12_tiredAll_23 ?_
        refine lv_iadd hx hb dX12_tiredAll_24 ?_
        refine lv_topi (fun x5 ex5 => ?_)
        have hf := ox_lt ex5 hf
        refine lv_istore_n (lv' := [(2, .int x5), (0, .ref (a_M 0)), (1, .int x_1), (3, .int x2)]) hx hb dX12_tiredAll_25 rfl hl (by decide) rfl (fun ls hl => ?_)
        obtain ⟨x6, ex6⟩ : ∃ z : Int32, z = (x2 + 1) := ⟨_, rfl⟩
        have hf := ox_lt ex6 hf
        refine lv_iinc (v := x6) (lv' := [(3, .int x6), (2, .int x5), (0, .ref (a_M 0)), (1, .int x_1)]) hx hb dX12_tiredAll_26 hl (k := 3) rfl (by rw [ex6]; rfl) (by decide) rfl (fun ls hl => ?_)
        refine lv_goto (tgt := 4) hx hb dX12_tiredAll_29 (by decide) ?_
        exact ih _ _ ls (lv_sub hl [2, 3, 1, 0] rfl) hf
  exact hloop1 fuel _ _ ls (lv_sub hl [2, 3, 1, 0] rfl) hX1
set_option maxHeartbeats 4000000 in
set_option maxRecDepth 20000 in
theorem tX12_leftOf (l : Launch) (E : Ev) (a_M : Nat → Nat) (u_M : St) (x_1 : Int32) (x_2 : Int32) (res : Int32) (hf : fX12_leftOf u_M x_1 x_2 = some res) : MP l E yX12_leftOf cX12_leftOf 3 (some .int) (rmm 0 0) [wModel E a_M u_M] [.ref (a_M 0), .int x_1, .int x_2] (some (.int res)) := by
  unfold fX12_leftOf at hf
  refine MP.ofI rfl (by decide) (Nat.le_of_ble_eq_true rfl) ?_
  intro p e R s m args below meth c ls Q hRf hRl C hP hK hN hl hQ
  have hx := C.1
  have hb := C.2.1
  have hl : lv_has ls 3 [(0, .ref (a_M 0)), (1, .int x_1), (2, .int x_2)] := hl
  refine lv_aload_n hx hb dX12_leftOf_0 rfl (lv_at hl 0 rfl) ?_
  refine gf_X12_X12_grainSacks C hK (hP 0 _ rfl) dX12_leftOf_1 ?_
  refine lv_iload_n hx hb dX12_leftOf_4 rfl (lv_at hl 2 rfl) ?_
  obtain ⟨hn1, hf⟩ := ox_chk hf
  refine ld_X12_grainSacks C hK (hP 0 _ rfl) hn1 rfl dX12_leftOf_5 ?_
  refine lv_aload_n hx hb dX12_leftOf_6 rfl (lv_at hl 0 rfl) ?_
  refine gf_X12_X12_ground C hK (hP 0 _ rfl) dX12_leftOf_7 ?_
  refine lv_iconst (v := 4) hx hb dX12_leftOf_10 (by decide) ?_
  refine lv_iload_n hx hb dX12_leftOf_11 rfl (lv_at hl 1 rfl) ?_
  refine lv_imul hx hb dX12_leftOf_12 ?_
  refine lv_iload_n hx hb dX12_leftOf_13 rfl (lv_at hl 2 rfl) ?_
  refine lv_iadd hx hb dX12_leftOf_14 ?_
  obtain ⟨hn2, hf⟩ := ox_chk hf
  refine ld_X12_ground C hK (hP 0 _ rfl) hn2 rfl dX12_leftOf_15 ?_
  refine lv_isub hx hb dX12_leftOf_16 ?_
  have hf := Option.some.inj hf
  subst hf
  exact hQ _ _ dX12_leftOf_17
set_option maxHeartbeats 4000000 in
set_option maxRecDepth 20000 in
theorem tX12_layGuest (l : Launch) (E : Ev) (a_M : Nat → Nat) (u_M : St) (x_1 : Int32) (x_2 : Int32) (x_3 : Int32) (x_4 : Int32) (res : St) (hf : fX12_layGuest u_M x_1 x_2 x_3 x_4 = some res) : MX l E yX12_layGuest cX12_layGuest 5 none (rmm 1 21) [wModel E a_M u_M] (fun q => [wModel E a_M res]) [.ref (a_M 0), .int x_1, .int x_2, .int x_3, .int x_4] none := by
  unfold fX12_layGuest at hf
  refine MX.ofV rfl (by decide) (Nat.le_of_ble_eq_true rfl) ?_
  intro p e R s m args below meth c ls Q ad H hRf hRl C hB hD hK hN hl hQ
  generalize hlocs : ([] : List Loc) = locs at hB ⊢
  clear hlocs
  have hx := C.1
  have hb := C.2.1
  have hl : lv_has ls 5 [(0, .ref (a_M 0)), (1, .int x_1), (2, .int x_2), (3, .int x_3), (4, .int x_4)] := hl
  refine lv_aload_n hx hb dX12_layGuest_0 rfl (lv_at hl 0 rfl) ?_
  refine gf_X12_X12_names C hK (hB.1 0 _ rfl) dX12_layGuest_1 ?_
  refine lv_iconst (v := 0) hx hb dX12_layGuest_4 (by decide) ?_
  refine lv_aload_n hx hb dX12_layGuest_5 rfl (lv_at hl 0 rfl) ?_
  refine lv_iload_n hx hb dX12_layGuest_6 rfl (lv_at hl 3 rfl) ?_
  obtain ⟨r1, hr1, hf⟩ := ox_bind hf
  refine cxVP (As := [.int x_3]) (rest := [.int (0 : Int32), .ref (a_M 25)]) (st1 := [.int r1, .int (0 : Int32), .ref (a_M 25)]) C hK (tX12_moodNow l E a_M u_M x_3 r1 hr1) lk_X12_404 ⟨rfl, rfl⟩ (by rw [hRf, hRl]; decide) ⟨Nat.zero_le _, Nat.zero_le _⟩ (PB.sub hB.1 [0] rfl) (hB.old hD hN) (Nat.le_trans hN hB.2.2.1) (rc_X12 hK (hB.1 0 _ rfl)) rfl hl.1 rfl rfl (Nat.le_of_ble_eq_true rfl) dX12_layGuest_7 ?_
  refine lv_i2l hx hb dX12_layGuest_10 rfl ?_
  refine lv_topl (fun x2 ex2 => ?_)
  have hf := ox_lt ex2 hf
  refine st_X12_names C hK hB hD 0 rfl (by decide) rfl dX12_layGuest_11 (fun H locs u3 eu3 hB => ?_)
  have hf := ox_lt eu3 hf
  have hB : WB E ad s.heap [wModel E a_M u3] H locs := hB
  refine lv_aload_n hx hb dX12_layGuest_12 rfl (lv_at hl 0 rfl) ?_
  refine gf_X12_X12_names C hK (hB.1 0 _ rfl) dX12_layGuest_13 ?_
  refine lv_iconst (v := 1) hx hb dX12_layGuest_16 (by decide) ?_
  refine lv_aload_n hx hb dX12_layGuest_17 rfl (lv_at hl 0 rfl) ?_
  refine gf_X12_X12_guestTaste C hK (hB.1 0 _ rfl) dX12_layGuest_18 ?_
  refine lv_iload_n hx hb dX12_layGuest_21 rfl (lv_at hl 2 rfl) ?_
  obtain ⟨hn4, hf⟩ := ox_chk hf
  refine ld_X12_guestTaste C hK (hB.1 0 _ rfl) hn4 rfl dX12_layGuest_22 ?_
  refine lv_i2l hx hb dX12_layGuest_23 rfl ?_
  refine lv_topl (fun x5 ex5 => ?_)
  have hf := ox_lt ex5 hf
  refine st_X12_names C hK hB hD 0 rfl (by decide) rfl dX12_layGuest_24 (fun H locs u6 eu6 hB => ?_)
  have hf := ox_lt eu6 hf
  have hB : WB E ad s.heap [wModel E a_M u6] H locs := hB
  refine lv_aload_n hx hb dX12_layGuest_25 rfl (lv_at hl 0 rfl) ?_
  refine gf_X12_X12_names C hK (hB.1 0 _ rfl) dX12_layGuest_26 ?_
  refine lv_iconst (v := 2) hx hb dX12_layGuest_29 (by decide) ?_
  refine lv_aload_n hx hb dX12_layGuest_30 rfl (lv_at hl 0 rfl) ?_
  refine lv_iload_n hx hb dX12_layGuest_31 rfl (lv_at hl 2 rfl) ?_
  obtain ⟨r7, hr7, hf⟩ := ox_bind hf
  refine cxVP (As := [.int x_2]) (rest := [.int (2 : Int32), .ref (a_M 25)]) (st1 := [.int r7, .int (2 : Int32), .ref (a_M 25)]) C hK (tX12_hungerOf l E a_M u6 x_2 r7 hr7) lk_X12_407 ⟨rfl, rfl⟩ (by rw [hRf, hRl]; decide) ⟨Nat.zero_le _, Nat.zero_le _⟩ (PB.sub hB.1 [0] rfl) (hB.old hD hN) (Nat.le_trans hN hB.2.2.1) (rc_X12 hK (hB.1 0 _ rfl)) rfl hl.1 rfl rfl (Nat.le_of_ble_eq_true rfl) dX12_layGuest_32 ?_
  refine lv_i2l hx hb dX12_layGuest_35 rfl ?_
  refine lv_topl (fun x8 ex8 => ?_)
  have hf := ox_lt ex8 hf
  refine st_X12_names C hK hB hD 0 rfl (by decide) rfl dX12_layGuest_36 (fun H locs u9 eu9 hB => ?_)
  have hf := ox_lt eu9 hf
  have hB : WB E ad s.heap [wModel E a_M u9] H locs := hB
  refine lv_aload_n hx hb dX12_layGuest_37 rfl (lv_at hl 0 rfl) ?_
  refine gf_X12_X12_names C hK (hB.1 0 _ rfl) dX12_layGuest_38 ?_
  refine lv_iconst (v := 3) hx hb dX12_layGuest_41 (by decide) ?_
  refine lv_iload hx hb dX12_layGuest_42 (lv_at hl 4 rfl) ?_
  refine lv_i2l hx hb dX12_layGuest_44 rfl ?_
  refine lv_topl (fun x10 ex10 => ?_)
  have hf := ox_lt ex10 hf
  refine st_X12_names C hK hB hD 0 rfl (by decide) rfl dX12_layGuest_45 (fun H locs u11 eu11 hB => ?_)
  have hf := ox_lt eu11 hf
  have hB : WB E ad s.heap [wModel E a_M u11] H locs := hB
  refine lv_aload_n hx hb dX12_layGuest_46 rfl (lv_at hl 0 rfl) ?_
  refine gf_X12_X12_names C hK (hB.1 0 _ rfl) dX12_layGuest_47 ?_
  refine lv_iconst (v := 4) hx hb dX12_layGuest_50 (by decide) ?_
  refine lv_aload_n hx hb dX12_layGuest_51 rfl (lv_at hl 0 rfl) ?_
  refine gf_X12_X12_speed C hK (hB.1 0 _ rfl) dX12_layGuest_52 ?_
  refine lv_iload_n hx hb dX12_layGuest_55 rfl (lv_at hl 1 rfl) ?_
  obtain ⟨hn12, hf⟩ := ox_chk hf
  refine ld_X12_speed C hK (hB.1 0 _ rfl) hn12 rfl dX12_layGuest_56 ?_
  refine lv_i2l hx hb dX12_layGuest_57 rfl ?_
  refine lv_topl (fun x13 ex13 => ?_)
  have hf := ox_lt ex13 hf
  refine st_X12_names C hK hB hD 0 rfl (by decide) rfl dX12_layGuest_58 (fun H locs u14 eu14 hB => ?_)
  have hf := ox_lt eu14 hf
  have hB : WB E ad s.heap [wModel E a_M u14] H locs := hB
  refine lv_aload_n hx hb dX12_layGuest_59 rfl (lv_at hl 0 rfl) ?_
  refine gf_X12_X12_names C hK (hB.1 0 _ rfl) dX12_layGuest_60 ?_
  refine lv_iconst (v := 5) hx hb dX12_layGuest_63 (by decide) ?_
  refine lv_aload_n hx hb dX12_layGuest_64 rfl (lv_at hl 0 rfl) ?_
  refine gf_X12_X12_tired C hK (hB.1 0 _ rfl) dX12_layGuest_65 ?_
  refine lv_bipush (v := 6) hx hb dX12_layGuest_68 (by decide) ?_
  refine lv_iload_n hx hb dX12_layGuest_70 rfl (lv_at hl 1 rfl) ?_
  refine lv_imul hx hb dX12_layGuest_71 ?_
  refine lv_iload_n hx hb dX12_layGuest_72 rfl (lv_at hl 2 rfl) ?_
  refine lv_iadd hx hb dX12_layGuest_73 ?_
  obtain ⟨hn15, hf⟩ := ox_chk hf
  refine ld_X12_tired C hK (hB.1 0 _ rfl) hn15 rfl dX12_layGuest_74 ?_
  refine lv_i2l hx hb dX12_layGuest_75 rfl ?_
  refine lv_topl (fun x16 ex16 => ?_)
  have hf := ox_lt ex16 hf
  refine st_X12_names C hK hB hD 0 rfl (by decide) rfl dX12_layGuest_76 (fun H locs u17 eu17 hB => ?_)
  have hf := ox_lt eu17 hf
  have hB : WB E ad s.heap [wModel E a_M u17] H locs := hB
  refine lv_aload_n hx hb dX12_layGuest_77 rfl (lv_at hl 0 rfl) ?_
  refine gf_X12_X12_names C hK (hB.1 0 _ rfl) dX12_layGuest_78 ?_
  refine lv_bipush (v := 6) hx hb dX12_layGuest_81 (by decide) ?_
  refine lv_aload_n hx hb dX12_layGuest_83 rfl (lv_at hl 0 rfl) ?_
  refine gf_X12_X12_minute C hK (hB.1 0 _ rfl) dX12_layGuest_84 ?_
  refine lv_iload_n hx hb dX12_layGuest_87 rfl (lv_at hl 1 rfl) ?_
  obtain ⟨hn18, hf⟩ := ox_chk hf
  refine ld_X12_minute C hK (hB.1 0 _ rfl) hn18 rfl dX12_layGuest_88 ?_
  refine lv_i2l hx hb dX12_layGuest_89 rfl ?_
  refine lv_topl (fun x19 ex19 => ?_)
  have hf := ox_lt ex19 hf
  refine st_X12_names C hK hB hD 0 rfl (by decide) rfl dX12_layGuest_90 (fun H locs u20 eu20 hB => ?_)
  have hf := ox_lt eu20 hf
  have hB : WB E ad s.heap [wModel E a_M u20] H locs := hB
  have hf := Option.some.inj hf
  subst hf
  exact hQ _ _ H locs (fun _ => 0) hB dX12_layGuest_91
