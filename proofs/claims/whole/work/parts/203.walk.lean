set_option maxHeartbeats 4000000 in
set_option maxRecDepth 20000 in
theorem tX5_takeJoint (l : Launch) (E : Ev) (a_ph : Nat → Nat) (u_ph : St) (a_f : Nat → Nat) (u_f : St) (a_tk : Nat → Nat) (q_tk_0_bytes : Nat) (u_tk : St) (res : Int32 × St × St) (hf : fX5_takeJoint u_ph u_f u_tk = some res) : MX l E yX5_takeJoint cX5_takeJoint 4 (some .boolean) (rmm 2 43) [wPhrase E a_ph (a_f 0) u_ph, wFormula E a_f u_f, wTokens E a_tk q_tk_0_bytes u_tk] (fun q => [wPhrase E a_ph (a_f 0) res.2.1, wFormula E a_f res.2.2, wTokens E a_tk q_tk_0_bytes u_tk]) [.ref (a_ph 0), .ref (a_tk 0)] (some (.int res.1)) := by
  unfold fX5_takeJoint at hf
  refine MX.ofZZ rfl (by decide) (Nat.le_of_ble_eq_true rfl) ?_
  intro p e R s m args below meth c ls Q ad H hRf hRl C hB hD hK hN hl hQ
  generalize hlocs : ([] : List Loc) = locs at hB ⊢
  clear hlocs
  have hx := C.1
  have hb := C.2.1
  have hl : lv_has ls 4 [(0, .ref (a_ph 0)), (1, .ref (a_tk 0))] := hl
  refine lv_aload_n hx hb dX5_takeJoint_0 rfl (lv_at hl 1 rfl) ?_
  refine gf_X5_X10_kind C hK (hB.1 2 _ rfl) dX5_takeJoint_1 ?_
  refine lv_bipush (v := 6) hx hb dX5_takeJoint_4 (by decide) ?_
  obtain ⟨j1, ej1, hf⟩ := ox_ex hf
  have hj1 : ∀ (ls : Array Slot) (H : Heap) (locs : List Loc), lv_has ls 4 [(0, .ref (a_ph 0)), (1, .ref (a_tk 0))] → WB E ad s.heap [wPhrase E a_ph (a_f 0) u_ph, wFormula E a_f u_f, wTokens E a_tk q_tk_0_bytes u_tk] H locs → j1 = some res → W p l e R s m args below meth c H locs 0 0 Q (F0 m 43 ls []) := by
    intro ls H locs hl hB hf
    have hf := ox_a0 ej1 hf
    refine lv_aload_n hx hb dX5_takeJoint_43 rfl (lv_at hl 1 rfl) ?_
    refine cxSP (As := [.ref (a_tk 0)]) (rest := []) (st1 := [.int (fX5_jointOf u_tk)]) C hK (tX5_jointOf l E a_tk q_tk_0_bytes u_tk (fX5_jointOf u_tk) rfl) lk_X5_86 ⟨rfl, rfl⟩ (by rw [hRf, hRl]; decide) ⟨Nat.zero_le _, Nat.zero_le _⟩ (PB.sub hB.1 [2] rfl) (hB.old hD hN) (Nat.le_trans hN hB.2.2.1) rfl hl.1 rfl rfl (Nat.le_of_ble_eq_true rfl) dX5_takeJoint_44 ?_
    refine lv_topi (fun x2 ex2 => ?_)
    have hf := ox_lt ex2 hf
    refine lv_istore_n (lv' := [(2, .int x2), (0, .ref (a_ph 0)), (1, .ref (a_tk 0))]) hx hb dX5_takeJoint_47 rfl hl (by decide) rfl (fun ls hl => ?_)
    refine lv_iload_n hx hb dX5_takeJoint_48 rfl (lv_at hl 0 rfl) ?_
    refine lv_iconst (v := (-1)) hx hb dX5_takeJoint_49 (by decide) ?_
    refine lv_icmp_ne (tgt := 60) hx hb dX5_takeJoint_50 (by decide) (fun c3 => ?_) (fun c3 => ?_)
    · have hf := (if_neg c3).symm.trans hf
      refine bx_ranks C hK (hB.new hD hN) mw_690 dX5_takeJoint_60 ?_
      refine lv_iload_n hx hb dX5_takeJoint_63 rfl (lv_at hl 0 rfl) ?_
      obtain ⟨hn4, hf⟩ := ox_chk hf
      refine bx_rank C hK (hB.new hD hN) hn4 dX5_takeJoint_64 ?_
      refine lv_topi (fun x5 ex5 => ?_)
      have hf := ox_lt ex5 hf
      refine lv_istore_n (lv' := [(3, .int x5), (2, .int x2), (0, .ref (a_ph 0)), (1, .ref (a_tk 0))]) hx hb dX5_takeJoint_65 rfl hl (by decide) rfl (fun ls hl => ?_)
      refine lv_aload_n hx hb dX5_takeJoint_66 rfl (lv_at hl 2 rfl) ?_
      refine lv_iload_n hx hb dX5_takeJoint_67 rfl (lv_at hl 0 rfl) ?_
      refine lv_iconst (v := 4) hx hb dX5_takeJoint_68 (by decide) ?_
      obtain ⟨x6, ex6, hf⟩ := ox_ex hf
      have hjx6 : W p l e R s m args below meth c H locs 0 0 Q (F0 m 79 ls [.int x6, .ref (a_ph 0)]) := by
        obtain ⟨r7, hr7, hf⟩ := ox_bind hf
        refine cxVX (bs1 := (fun q => [wPhrase E a_ph (a_f 0) r7.1, wFormula E a_f r7.2, wTokens E a_tk q_tk_0_bytes u_tk])) (As := [.int x6]) (rest := []) (st1 := []) C hK (tX5_settle l E a_ph u_ph a_f u_f x6 r7 hr7) lk_X5_53 (by rw [hRf, hRl]; decide) ⟨Nat.zero_le _, Nat.zero_le _⟩ hB hD hN [0, 1] (by decide) rfl (fun _ => rfl) (fun _ => rfl) (rc_X5 hK (hB.1 0 _ rfl)) rfl hl.1 rfl rfl (Nat.le_of_ble_eq_true rfl) dX5_takeJoint_79 (fun H locs q8 hB => ?_)
        have hB : WB E ad s.heap [wPhrase E a_ph (a_f 0) r7.1, wFormula E a_f r7.2, wTokens E a_tk q_tk_0_bytes u_tk] H locs := hB
        refine lv_iload_n hx hb dX5_takeJoint_82 rfl (lv_at hl 0 rfl) ?_
        refine lv_iconst (v := 4) hx hb dX5_takeJoint_83 (by decide) ?_
        obtain ⟨j9, ej9, hf⟩ := ox_ex hf
        have hj9 : ∀ (ls : Array Slot) (H : Heap) (locs : List Loc), lv_has ls 4 [(0, .ref (a_ph 0)), (2, .int x2)] → WB E ad s.heap [wPhrase E a_ph (a_f 0) r7.1, wFormula E a_f r7.2, wTokens E a_tk q_tk_0_bytes u_tk] H locs → j9 = some res → W p l e R s m args below meth c H locs 0 0 Q (F0 m 102 ls []) := by
          intro ls H locs hl hB hf
          have hf := ox_a0 ej9 hf
          refine lv_aload_n hx hb dX5_takeJoint_102 rfl (lv_at hl 0 rfl) ?_
          refine lv_iconst (v := 1) hx hb dX5_takeJoint_103 (by decide) ?_
          obtain ⟨r10, er10, hf⟩ := ox_ex hf
          refine cxVX (bs1 := (fun q => [wPhrase E a_ph (a_f 0) r10, wFormula E a_f r7.2, wTokens E a_tk q_tk_0_bytes u_tk])) (As := [.int (1 : Int32)]) (rest := []) (st1 := []) C hK (tX5_addKnot l E a_ph (a_f 0) (r7.1) (1 : Int32) r10 er10.symm) lk_X5_60 (by rw [hRf, hRl]; decide) ⟨Nat.zero_le _, Nat.zero_le _⟩ hB hD hN [0] (by decide) rfl (fun _ => rfl) (fun _ => rfl) (rc_X5 hK (hB.1 0 _ rfl)) rfl hl.1 rfl rfl (Nat.le_of_ble_eq_true rfl) dX5_takeJoint_104 (fun H locs q11 hB => ?_)
          have hB : WB E ad s.heap [wPhrase E a_ph (a_f 0) r10, wFormula E a_f r7.2, wTokens E a_tk q_tk_0_bytes u_tk] H locs := hB
          refine lv_aload_n hx hb dX5_takeJoint_107 rfl (lv_at hl 0 rfl) ?_
          refine lv_iload_n hx hb dX5_takeJoint_108 rfl (lv_at hl 1 rfl) ?_
          obtain ⟨r12, hr12, hf⟩ := ox_bind hf
          refine cxVX (bs1 := (fun q => [wPhrase E a_ph (a_f 0) r12, wFormula E a_f r7.2, wTokens E a_tk q_tk_0_bytes u_tk])) (As := [.int x2]) (rest := []) (st1 := []) C hK (tX5_hold l E a_ph (a_f 0) r10 x2 r12 hr12) lk_X5_83 (by rw [hRf, hRl]; decide) ⟨Nat.zero_le _, Nat.zero_le _⟩ hB hD hN [0] (by decide) rfl (fun _ => rfl) (fun _ => rfl) (rc_X5 hK (hB.1 0 _ rfl)) rfl hl.1 rfl rfl (Nat.le_of_ble_eq_true rfl) dX5_takeJoint_109 (fun H locs q13 hB => ?_)
          have hB : WB E ad s.heap [wPhrase E a_ph (a_f 0) r12, wFormula E a_f r7.2, wTokens E a_tk q_tk_0_bytes u_tk] H locs := hB
          refine lv_iconst (v := 1) hx hb dX5_takeJoint_112 (by decide) ?_
          have hf := Option.some.inj hf
          subst hf
          exact hQ _ _ H locs (fun _ => 0) (1 : Int32) bz1 hB dX5_takeJoint_113
        refine lv_icmp_ne (tgt := 102) hx hb dX5_takeJoint_84 (by decide) (fun c14 => ?_) (fun c14 => ?_)
        · have hf := (if_neg c14).symm.trans hf
          exact hj9 ls H locs (lv_sub hl [2, 1] rfl) hB hf
        · have hf := (if_pos c14).symm.trans hf
          refine lv_aload_n hx hb dX5_takeJoint_87 rfl (lv_at hl 2 rfl) ?_
          obtain ⟨r15, hr15, hf⟩ := ox_bind hf
          refine cxVP (As := []) (rest := []) (st1 := [.int r15]) C hK (tX5_topRank l E a_ph (a_f 0) (r7.1) r15 hr15) lk_X5_79 ⟨rfl, rfl⟩ (by rw [hRf, hRl]; decide) ⟨Nat.zero_le _, Nat.zero_le _⟩ (PB.sub hB.1 [0] rfl) (hB.old hD hN) (Nat.le_trans hN hB.2.2.1) (rc_X5 hK (hB.1 0 _ rfl)) rfl hl.1 rfl rfl (Nat.le_of_ble_eq_true rfl) dX5_takeJoint_88 ?_
          refine lv_iconst (v := 4) hx hb dX5_takeJoint_91 (by decide) ?_
          refine lv_icmp_ne (tgt := 102) hx hb dX5_takeJoint_92 (by decide) (fun c16 => ?_) (fun c16 => ?_)
          · have hf := (if_neg c16).symm.trans hf
            exact hj9 ls H locs (lv_sub hl [2, 1] rfl) hB hf
          · have hf := (if_pos c16).symm.trans hf
            refine lv_aload_n hx hb dX5_takeJoint_95 rfl (lv_at hl 2 rfl) ?_
            refine lv_iconst (v := 1) hx hb dX5_takeJoint_96 (by decide) ?_
            refine pf_X5_X5_faultKind C hK hB hD 0 rfl dX5_takeJoint_97 (fun H locs u17 eu17 hB => ?_)
            have hf := ox_lt eu17 hf
            have hB : WB E ad s.heap [wPhrase E a_ph (a_f 0) u17, wFormula E a_f r7.2, wTokens E a_tk q_tk_0_bytes u_tk] H locs := hB
            refine lv_iconst (v := 1) hx hb dX5_takeJoint_100 (by decide) ?_
            have hf := Option.some.inj hf
            subst hf
            exact hQ _ _ H locs (fun _ => 0) (1 : Int32) bz1 hB dX5_takeJoint_101
      refine lv_icmp_ne (tgt := 78) hx hb dX5_takeJoint_69 (by decide) (fun c18 => ?_) (fun c18 => ?_)
      · refine lv_iload_n hx hb dX5_takeJoint_78 rfl (lv_at hl 0 rfl) ?_
        exact ox_topi ((ex6).trans (if_neg c18)).symm hjx6
      · refine lv_iload_n hx hb dX5_takeJoint_72 rfl (lv_at hl 0 rfl) ?_
        refine lv_iconst (v := 1) hx hb dX5_takeJoint_73 (by decide) ?_
        refine lv_iadd hx hb dX5_takeJoint_74 ?_
        refine lv_goto (tgt := 79) hx hb dX5_takeJoint_75 (by decide) ?_
        exact ox_topi ((ex6).trans (if_pos c18)).symm hjx6
    · have hf := (if_pos c3).symm.trans hf
      refine lv_aload_n hx hb dX5_takeJoint_53 rfl (lv_at hl 1 rfl) ?_
      refine lv_iconst (v := 1) hx hb dX5_takeJoint_54 (by decide) ?_
      refine pf_X5_X5_faultKind C hK hB hD 0 rfl dX5_takeJoint_55 (fun H locs u19 eu19 hB => ?_)
      have hf := ox_lt eu19 hf
      have hB : WB E ad s.heap [wPhrase E a_ph (a_f 0) u19, wFormula E a_f u_f, wTokens E a_tk q_tk_0_bytes u_tk] H locs := hB
      refine lv_iconst (v := 1) hx hb dX5_takeJoint_58 (by decide) ?_
      have hf := Option.some.inj hf
      subst hf
      exact hQ _ _ H locs (fun _ => 0) (1 : Int32) bz1 hB dX5_takeJoint_59
  refine lv_icmp_ne (tgt := 43) hx hb dX5_takeJoint_6 (by decide) (fun c20 => ?_) (fun c20 => ?_)
  · have hf := (if_neg c20).symm.trans hf
    exact hj1 ls H locs (lv_sub hl [0, 1] rfl) hB hf
  · have hf := (if_pos c20).symm.trans hf
    refine lv_aload_n hx hb dX5_takeJoint_9 rfl (lv_at hl 0 rfl) ?_
    refine gf_X5_X5_open C hK (hB.1 0 _ rfl) dX5_takeJoint_10 ?_
    refine lv_if_le (tgt := 43) hx hb dX5_takeJoint_13 (by decide) (fun c21 => ?_) (fun c21 => ?_)
    · have hf := (if_pos c21).symm.trans hf
      exact hj1 ls H locs (lv_sub hl [0, 1] rfl) hB hf
    · have hf := (if_neg c21).symm.trans hf
      refine lv_aload_n hx hb dX5_takeJoint_16 rfl (lv_at hl 0 rfl) ?_
      refine lv_iconst (v := 1) hx hb dX5_takeJoint_17 (by decide) ?_
      obtain ⟨r22, hr22, hf⟩ := ox_bind hf
      refine cxVX (bs1 := (fun q => [wPhrase E a_ph (a_f 0) r22.1, wFormula E a_f r22.2, wTokens E a_tk q_tk_0_bytes u_tk])) (As := [.int (1 : Int32)]) (rest := []) (st1 := []) C hK (tX5_settle l E a_ph u_ph a_f u_f (1 : Int32) r22 hr22) lk_X5_53 (by rw [hRf, hRl]; decide) ⟨Nat.zero_le _, Nat.zero_le _⟩ hB hD hN [0, 1] (by decide) rfl (fun _ => rfl) (fun _ => rfl) (rc_X5 hK (hB.1 0 _ rfl)) rfl hl.1 rfl rfl (Nat.le_of_ble_eq_true rfl) dX5_takeJoint_18 (fun H locs q23 hB => ?_)
      have hB : WB E ad s.heap [wPhrase E a_ph (a_f 0) r22.1, wFormula E a_f r22.2, wTokens E a_tk q_tk_0_bytes u_tk] H locs := hB
      refine lv_aload_n hx hb dX5_takeJoint_21 rfl (lv_at hl 0 rfl) ?_
      refine lv_dup hx hb dX5_takeJoint_22 rfl ?_
      refine gf_X5_X5_open C hK (hB.1 0 _ rfl) dX5_takeJoint_23 ?_
      refine lv_iconst (v := 1) hx hb dX5_takeJoint_26 (by decide) ?_
      refine lv_isub hx hb dX5_takeJoint_27 ?_
      refine lv_topi (fun x24 ex24 => ?_)
      have hf := ox_lt ex24 hf
      refine pf_X5_X5_open C hK hB hD 0 rfl dX5_takeJoint_28 (fun H locs u25 eu25 hB => ?_)
      have hf := ox_lt eu25 hf
      have hB : WB E ad s.heap [wPhrase E a_ph (a_f 0) u25, wFormula E a_f r22.2, wTokens E a_tk q_tk_0_bytes u_tk] H locs := hB
      refine lv_aload_n hx hb dX5_takeJoint_31 rfl (lv_at hl 0 rfl) ?_
      refine lv_dup hx hb dX5_takeJoint_32 rfl ?_
      refine gf_X5_X5_waits C hK (hB.1 0 _ rfl) dX5_takeJoint_33 ?_
      refine lv_iconst (v := 1) hx hb dX5_takeJoint_36 (by decide) ?_
      refine lv_isub hx hb dX5_takeJoint_37 ?_
      refine lv_topi (fun x26 ex26 => ?_)
      have hf := ox_lt ex26 hf
      refine pf_X5_X5_waits C hK hB hD 0 rfl dX5_takeJoint_38 (fun H locs u27 eu27 hB => ?_)
      have hf := ox_lt eu27 hf
      have hB : WB E ad s.heap [wPhrase E a_ph (a_f 0) u27, wFormula E a_f r22.2, wTokens E a_tk q_tk_0_bytes u_tk] H locs := hB
      refine lv_iconst (v := 0) hx hb dX5_takeJoint_41 (by decide) ?_
      have hf := Option.some.inj hf
      subst hf
      exact hQ _ _ H locs (fun _ => 0) (0 : Int32) bz0 hB dX5_takeJoint_42
set_option maxHeartbeats 4000000 in
set_option maxRecDepth 20000 in
theorem tX5_takeWord (l : Launch) (E : Ev) (a_ph : Nat → Nat) (u_ph : St) (a_f : Nat → Nat) (u_f : St) (x_1 : Int32) (res : Int32 × St × St) (hf : fX5_takeWord u_ph u_f x_1 = some res) : MX l E yX5_takeWord cX5_takeWord 2 (some .boolean) (rmm 1 22) [wPhrase E a_ph (a_f 0) u_ph, wFormula E a_f u_f] (fun q => [wPhrase E a_ph (a_f 0) res.2.1, wFormula E a_f res.2.2]) [.ref (a_ph 0), .int x_1] (some (.int res.1)) := by
  unfold fX5_takeWord at hf
  refine MX.ofZZ rfl (by decide) (Nat.le_of_ble_eq_true rfl) ?_
  intro p e R s m args below meth c ls Q ad H hRf hRl C hB hD hK hN hl hQ
  generalize hlocs : ([] : List Loc) = locs at hB ⊢
  clear hlocs
  have hx := C.1
  have hb := C.2.1
  have hl : lv_has ls 2 [(0, .ref (a_ph 0)), (1, .int x_1)] := hl
  refine lv_iload_n hx hb dX5_takeWord_0 rfl (lv_at hl 1 rfl) ?_
  refine lv_bipush (v := 13) hx hb dX5_takeWord_1 (by decide) ?_
  refine lv_icmp_lt (tgt := 25) hx hb dX5_takeWord_3 (by decide) (fun c1 => ?_) (fun c1 => ?_)
  · have hf := (if_pos c1).symm.trans hf
    refine lv_iload_n hx hb dX5_takeWord_25 rfl (lv_at hl 1 rfl) ?_
    refine lv_bipush (v := 12) hx hb dX5_takeWord_26 (by decide) ?_
    obtain ⟨j2, ej2, hf⟩ := ox_ex hf
    have hj2 : ∀ (ls : Array Slot) (H : Heap) (locs : List Loc), lv_has ls 2 [(0, .ref (a_ph 0))] → WB E ad s.heap [wPhrase E a_ph (a_f 0) u_ph, wFormula E a_f u_f] H locs → j2 = some res → W p l e R s m args below meth c H locs 0 0 Q (F0 m 52 ls []) := by
      intro ls H locs hl hB hf
      have hf := ox_a0 ej2 hf
      refine lv_aload_n hx hb dX5_takeWord_52 rfl (lv_at hl 0 rfl) ?_
      refine lv_iconst (v := 1) hx hb dX5_takeWord_53 (by decide) ?_
      refine pf_X5_X5_faultKind C hK hB hD 0 rfl dX5_takeWord_54 (fun H locs u3 eu3 hB => ?_)
      have hf := ox_lt eu3 hf
      have hB : WB E ad s.heap [wPhrase E a_ph (a_f 0) u3, wFormula E a_f u_f] H locs := hB
      refine lv_iconst (v := 1) hx hb dX5_takeWord_57 (by decide) ?_
      have hf := Option.some.inj hf
      subst hf
      exact hQ _ _ H locs (fun _ => 0) (1 : Int32) bz1 hB dX5_takeWord_58
    refine lv_icmp_ne (tgt := 52) hx hb dX5_takeWord_28 (by decide) (fun c4 => ?_) (fun c4 => ?_)
    · have hf := (if_neg c4).symm.trans hf
      exact hj2 ls H locs (lv_sub hl [0] rfl) hB hf
    · have hf := (if_pos c4).symm.trans hf
      refine lv_aload_n hx hb dX5_takeWord_31 rfl (lv_at hl 0 rfl) ?_
      obtain ⟨r5, hr5, hf⟩ := ox_bind hf
      refine cxVP (As := []) (rest := []) (st1 := [.int r5]) C hK (tX5_topRank l E a_ph (a_f 0) u_ph r5 hr5) lk_X5_79 ⟨rfl, rfl⟩ (by rw [hRf, hRl]; decide) ⟨Nat.zero_le _, Nat.zero_le _⟩ (PB.sub hB.1 [0] rfl) (hB.old hD hN) (Nat.le_trans hN hB.2.2.1) (rc_X5 hK (hB.1 0 _ rfl)) rfl hl.1 rfl rfl (Nat.le_of_ble_eq_true rfl) dX5_takeWord_32 ?_
      refine lv_iconst (v := 3) hx hb dX5_takeWord_35 (by decide) ?_
      refine lv_icmp_gt (tgt := 52) hx hb dX5_takeWord_36 (by decide) (fun c6 => ?_) (fun c6 => ?_)
      · have hf := (if_pos c6).symm.trans hf
        exact hj2 ls H locs (lv_sub hl [0] rfl) hB hf
      · have hf := (if_neg c6).symm.trans hf
        refine lv_aload_n hx hb dX5_takeWord_39 rfl (lv_at hl 0 rfl) ?_
        refine lv_iconst (v := 1) hx hb dX5_takeWord_40 (by decide) ?_
        obtain ⟨r7, er7, hf⟩ := ox_ex hf
        refine cxVX (bs1 := (fun q => [wPhrase E a_ph (a_f 0) r7, wFormula E a_f u_f])) (As := [.int (1 : Int32)]) (rest := []) (st1 := []) C hK (tX5_addKnot l E a_ph (a_f 0) u_ph (1 : Int32) r7 er7.symm) lk_X5_60 (by rw [hRf, hRl]; decide) ⟨Nat.zero_le _, Nat.zero_le _⟩ hB hD hN [0] (by decide) rfl (fun _ => rfl) (fun _ => rfl) (rc_X5 hK (hB.1 0 _ rfl)) rfl hl.1 rfl rfl (Nat.le_of_ble_eq_true rfl) dX5_takeWord_41 (fun H locs q8 hB => ?_)
        have hB : WB E ad s.heap [wPhrase E a_ph (a_f 0) r7, wFormula E a_f u_f] H locs := hB
        refine lv_aload_n hx hb dX5_takeWord_44 rfl (lv_at hl 0 rfl) ?_
        refine lv_iconst (v := 2) hx hb dX5_takeWord_45 (by decide) ?_
        obtain ⟨r9, hr9, hf⟩ := ox_bind hf
        refine cxVX (bs1 := (fun q => [wPhrase E a_ph (a_f 0) r9, wFormula E a_f u_f])) (As := [.int (2 : Int32)]) (rest := []) (st1 := []) C hK (tX5_hold l E a_ph (a_f 0) r7 (2 : Int32) r9 hr9) lk_X5_83 (by rw [hRf, hRl]; decide) ⟨Nat.zero_le _, Nat.zero_le _⟩ hB hD hN [0] (by decide) rfl (fun _ => rfl) (fun _ => rfl) (rc_X5 hK (hB.1 0 _ rfl)) rfl hl.1 rfl rfl (Nat.le_of_ble_eq_true rfl) dX5_takeWord_46 (fun H locs q10 hB => ?_)
        have hB : WB E ad s.heap [wPhrase E a_ph (a_f 0) r9, wFormula E a_f u_f] H locs := hB
        refine lv_goto (tgt := 57) hx hb dX5_takeWord_49 (by decide) ?_
        refine lv_iconst (v := 1) hx hb dX5_takeWord_57 (by decide) ?_
        have hf := Option.some.inj hf
        subst hf
        exact hQ _ _ H locs (fun _ => 0) (1 : Int32) bz1 hB dX5_takeWord_58
  · have hf := (if_neg c1).symm.trans hf
    refine lv_aload_n hx hb dX5_takeWord_6 rfl (lv_at hl 0 rfl) ?_
    refine lv_iconst (v := 1) hx hb dX5_takeWord_7 (by decide) ?_
    obtain ⟨r11, er11, hf⟩ := ox_ex hf
    refine cxVX (bs1 := (fun q => [wPhrase E a_ph (a_f 0) r11, wFormula E a_f u_f])) (As := [.int (1 : Int32)]) (rest := []) (st1 := []) C hK (tX5_addKnot l E a_ph (a_f 0) u_ph (1 : Int32) r11 er11.symm) lk_X5_60 (by rw [hRf, hRl]; decide) ⟨Nat.zero_le _, Nat.zero_le _⟩ hB hD hN [0] (by decide) rfl (fun _ => rfl) (fun _ => rfl) (rc_X5 hK (hB.1 0 _ rfl)) rfl hl.1 rfl rfl (Nat.le_of_ble_eq_true rfl) dX5_takeWord_8 (fun H locs q12 hB => ?_)
    have hB : WB E ad s.heap [wPhrase E a_ph (a_f 0) r11, wFormula E a_f u_f] H locs := hB
    refine lv_aload_n hx hb dX5_takeWord_11 rfl (lv_at hl 0 rfl) ?_
    refine gf_X5_X5_formula C hK (hB.1 0 _ rfl) dX5_takeWord_12 ?_
    refine lv_iconst (v := 1) hx hb dX5_takeWord_15 (by decide) ?_
    refine lv_iload_n hx hb dX5_takeWord_16 rfl (lv_at hl 1 rfl) ?_
    refine lv_bipush (v := 13) hx hb dX5_takeWord_17 (by decide) ?_
    refine lv_isub hx hb dX5_takeWord_19 ?_
    obtain ⟨r13, hr13, hf⟩ := ox_bind hf
    refine cxVX (bs1 := (fun q => [wPhrase E a_ph (a_f 0) r11, wFormula E a_f r13])) (As := [.int (1 : Int32), .int (x_1 - (13 : Int32))]) (rest := []) (st1 := []) C hK (tX0_add l E a_f u_f (1 : Int32) (x_1 - (13 : Int32)) r13 hr13) lk_X5_66 (by rw [hRf, hRl]; decide) ⟨Nat.zero_le _, Nat.zero_le _⟩ hB hD hN [1] (by decide) rfl (fun _ => rfl) (fun _ => rfl) (rc_X0 hK (hB.1 1 _ rfl)) rfl hl.1 rfl rfl (Nat.le_of_ble_eq_true rfl) dX5_takeWord_20 (fun H locs q14 hB => ?_)
    have hB : WB E ad s.heap [wPhrase E a_ph (a_f 0) r11, wFormula E a_f r13] H locs := hB
    refine lv_iconst (v := 0) hx hb dX5_takeWord_23 (by decide) ?_
    have hf := Option.some.inj hf
    subst hf
    exact hQ _ _ H locs (fun _ => 0) (0 : Int32) bz0 hB dX5_takeWord_24
set_option maxHeartbeats 4000000 in
set_option maxRecDepth 20000 in
theorem tX5_takeBracket (l : Launch) (E : Ev) (a_ph : Nat → Nat) (q_ph_0_formula : Nat) (u_ph : St) (res : St) (hf : fX5_takeBracket u_ph = some res) : MX l E yX5_takeBracket cX5_takeBracket 1 none (rmm 1 21) [wPhrase E a_ph q_ph_0_formula u_ph] (fun q => [wPhrase E a_ph q_ph_0_formula res]) [.ref (a_ph 0)] none := by
  unfold fX5_takeBracket at hf
  refine MX.ofV rfl (by decide) (Nat.le_of_ble_eq_true rfl) ?_
  intro p e R s m args below meth c ls Q ad H hRf hRl C hB hD hK hN hl hQ
  generalize hlocs : ([] : List Loc) = locs at hB ⊢
  clear hlocs
  have hx := C.1
  have hb := C.2.1
  have hl : lv_has ls 1 [(0, .ref (a_ph 0))] := hl
  refine lv_aload_n hx hb dX5_takeBracket_0 rfl (lv_at hl 0 rfl) ?_
  refine gf_X5_X5_open C hK (hB.1 0 _ rfl) dX5_takeBracket_1 ?_
  refine lv_bipush (v := 8) hx hb dX5_takeBracket_4 (by decide) ?_
  refine lv_icmp_lt (tgt := 17) hx hb dX5_takeBracket_6 (by decide) (fun c1 => ?_) (fun c1 => ?_)
  · have hf := (if_pos c1).symm.trans hf
    refine lv_aload_n hx hb dX5_takeBracket_17 rfl (lv_at hl 0 rfl) ?_
    refine lv_dup hx hb dX5_takeBracket_18 rfl ?_
    refine gf_X5_X5_open C hK (hB.1 0 _ rfl) dX5_takeBracket_19 ?_
    refine lv_iconst (v := 1) hx hb dX5_takeBracket_22 (by decide) ?_
    refine lv_iadd hx hb dX5_takeBracket_23 ?_
    refine lv_topi (fun x2 ex2 => ?_)
    have hf := ox_lt ex2 hf
    refine pf_X5_X5_open C hK hB hD 0 rfl dX5_takeBracket_24 (fun H locs u3 eu3 hB => ?_)
    have hf := ox_lt eu3 hf
    have hB : WB E ad s.heap [wPhrase E a_ph q_ph_0_formula u3] H locs := hB
    refine lv_aload_n hx hb dX5_takeBracket_27 rfl (lv_at hl 0 rfl) ?_
    refine lv_bipush (v := 15) hx hb dX5_takeBracket_28 (by decide) ?_
    obtain ⟨r4, hr4, hf⟩ := ox_bind hf
    refine cxVX (bs1 := (fun q => [wPhrase E a_ph q_ph_0_formula r4])) (As := [.int (15 : Int32)]) (rest := []) (st1 := []) C hK (tX5_hold l E a_ph q_ph_0_formula u3 (15 : Int32) r4 hr4) lk_X5_83 (by rw [hRf, hRl]; decide) ⟨Nat.zero_le _, Nat.zero_le _⟩ hB hD hN [0] (by decide) rfl (fun _ => rfl) (fun _ => rfl) (rc_X5 hK (hB.1 0 _ rfl)) rfl hl.1 rfl rfl (Nat.le_of_ble_eq_true rfl) dX5_takeBracket_30 (fun H locs q5 hB => ?_)
    have hB : WB E ad s.heap [wPhrase E a_ph q_ph_0_formula r4] H locs := hB
    have hf := Option.some.inj hf
    subst hf
    exact hQ _ _ H locs (fun _ => 0) hB dX5_takeBracket_33
  · have hf := (if_neg c1).symm.trans hf
    refine lv_aload_n hx hb dX5_takeBracket_9 rfl (lv_at hl 0 rfl) ?_
    refine lv_iconst (v := 2) hx hb dX5_takeBracket_10 (by decide) ?_
    refine pf_X5_X5_faultKind C hK hB hD 0 rfl dX5_takeBracket_11 (fun H locs u6 eu6 hB => ?_)
    have hf := ox_lt eu6 hf
    have hB : WB E ad s.heap [wPhrase E a_ph q_ph_0_formula u6] H locs := hB
    refine lv_goto (tgt := 33) hx hb dX5_takeBracket_14 (by decide) ?_
    have hf := Option.some.inj hf
    subst hf
    exact hQ _ _ H locs (fun _ => 0) hB dX5_takeBracket_33
set_option maxHeartbeats 4000000 in
set_option maxRecDepth 20000 in
theorem tX5_takePart (l : Launch) (E : Ev) (a_ph : Nat → Nat) (u_ph : St) (a_f : Nat → Nat) (u_f : St) (a_tk : Nat → Nat) (q_tk_0_bytes : Nat) (u_tk : St) (res : Int32 × St × St) (hf : fX5_takePart u_ph u_f u_tk = some res) : MX l E yX5_takePart cX5_takePart 2 (some .boolean) (rmm 2 43) [wPhrase E a_ph (a_f 0) u_ph, wFormula E a_f u_f, wTokens E a_tk q_tk_0_bytes u_tk] (fun q => [wPhrase E a_ph (a_f 0) res.2.1, wFormula E a_f res.2.2, wTokens E a_tk q_tk_0_bytes u_tk]) [.ref (a_ph 0), .ref (a_tk 0)] (some (.int res.1)) := by
  unfold fX5_takePart at hf
  refine MX.ofZZ rfl (by decide) (Nat.le_of_ble_eq_true rfl) ?_
  intro p e R s m args below meth c ls Q ad H hRf hRl C hB hD hK hN hl hQ
  generalize hlocs : ([] : List Loc) = locs at hB ⊢
  clear hlocs
  have hx := C.1
  have hb := C.2.1
  have hl : lv_has ls 2 [(0, .ref (a_ph 0)), (1, .ref (a_tk 0))] := hl
  refine lv_aload_n hx hb dX5_takePart_0 rfl (lv_at hl 1 rfl) ?_
  refine gf_X5_X10_kind C hK (hB.1 2 _ rfl) dX5_takePart_1 ?_
  refine lv_topi (fun x1 ex1 => ?_)
  have hf := ox_lt ex1 hf
  by_cases c2 : x1 = 1
  · have hf := (if_pos c2).symm.trans hf
    refine lv_tableIn hx hb dX5_takePart_4 (by rw [c2]; decide) (by rw [c2]; decide) (off := 36) (by rw [c2]; decide) (tgt := 40) (by decide) ?_
    refine lv_aload_n hx hb dX5_takePart_40 rfl (lv_at hl 0 rfl) ?_
    refine lv_aload_n hx hb dX5_takePart_41 rfl (lv_at hl 1 rfl) ?_
    refine gf_X5_X10_value C hK (hB.1 2 _ rfl) dX5_takePart_42 ?_
    refine lv_sipush (v := 9999) hx hb dX5_takePart_45 (by decide) ?_
    obtain ⟨x3, ex3, hf⟩ := ox_ex hf
    have hjx3 : W p l e R s m args below meth c H locs 0 0 Q (F0 m 56 ls [.int x3, .ref (a_ph 0)]) := by
      obtain ⟨r4, er4, hf⟩ := ox_ex hf
      refine cxVX (bs1 := (fun q => [wPhrase E a_ph (a_f 0) r4, wFormula E a_f u_f, wTokens E a_tk q_tk_0_bytes u_tk])) (As := [.int x3]) (rest := []) (st1 := []) C hK (tX5_addKnot l E a_ph (a_f 0) u_ph x3 r4 er4.symm) lk_X5_60 (by rw [hRf, hRl]; decide) ⟨Nat.zero_le _, Nat.zero_le _⟩ hB hD hN [0] (by decide) rfl (fun _ => rfl) (fun _ => rfl) (rc_X5 hK (hB.1 0 _ rfl)) rfl hl.1 rfl rfl (Nat.le_of_ble_eq_true rfl) dX5_takePart_56 (fun H locs q5 hB => ?_)
      have hB : WB E ad s.heap [wPhrase E a_ph (a_f 0) r4, wFormula E a_f u_f, wTokens E a_tk q_tk_0_bytes u_tk] H locs := hB
      refine lv_aload_n hx hb dX5_takePart_59 rfl (lv_at hl 0 rfl) ?_
      refine gf_X5_X5_formula C hK (hB.1 0 _ rfl) dX5_takePart_60 ?_
      refine lv_iconst (v := 0) hx hb dX5_takePart_63 (by decide) ?_
      refine lv_aload_n hx hb dX5_takePart_64 rfl (lv_at hl 1 rfl) ?_
      refine gf_X5_X10_value C hK (hB.1 2 _ rfl) dX5_takePart_65 ?_
      obtain ⟨r6, hr6, hf⟩ := ox_bind hf
      refine cxVX (bs1 := (fun q => [wPhrase E a_ph (a_f 0) r4, wFormula E a_f r6, wTokens E a_tk q_tk_0_bytes u_tk])) (As := [.int (0 : Int32), .int (gI u_tk 5)]) (rest := []) (st1 := []) C hK (tX0_add l E a_f u_f (0 : Int32) (gI u_tk 5) r6 hr6) lk_X5_66 (by rw [hRf, hRl]; decide) ⟨Nat.zero_le _, Nat.zero_le _⟩ hB hD hN [1] (by decide) rfl (fun _ => rfl) (fun _ => rfl) (rc_X0 hK (hB.1 1 _ rfl)) rfl hl.1 rfl rfl (Nat.le_of_ble_eq_true rfl) dX5_takePart_68 (fun H locs q7 hB => ?_)
      have hB : WB E ad s.heap [wPhrase E a_ph (a_f 0) r4, wFormula E a_f r6, wTokens E a_tk q_tk_0_bytes u_tk] H locs := hB
      refine lv_iconst (v := 0) hx hb dX5_takePart_71 (by decide) ?_
      have hf := Option.some.inj hf
      subst hf
      exact hQ _ _ H locs (fun _ => 0) (0 : Int32) bz0 hB dX5_takePart_72
    refine lv_icmp_gt (tgt := 55) hx hb dX5_takePart_48 (by decide) (fun c8 => ?_) (fun c8 => ?_)
    · refine lv_iconst (v := 0) hx hb dX5_takePart_55 (by decide) ?_
      exact ox_topi ((ex3).trans (if_pos c8)).symm hjx3
    · refine lv_iconst (v := 1) hx hb dX5_takePart_51 (by decide) ?_
      refine lv_goto (tgt := 56) hx hb dX5_takePart_52 (by decide) ?_
      exact ox_topi ((ex3).trans (if_neg c8)).symm hjx3
  have hf := (if_neg c2).symm.trans hf
  by_cases c9 : x1 = 2
  · have hf := (if_pos c9).symm.trans hf
    refine lv_tableIn hx hb dX5_takePart_4 (by rw [c9]; decide) (by rw [c9]; decide) (off := 75) (by rw [c9]; decide) (tgt := 79) (by decide) ?_
    refine lv_aload_n hx hb dX5_takePart_79 rfl (lv_at hl 0 rfl) ?_
    refine lv_aload_n hx hb dX5_takePart_80 rfl (lv_at hl 1 rfl) ?_
    refine gf_X5_X10_value C hK (hB.1 2 _ rfl) dX5_takePart_81 ?_
    obtain ⟨r10, hr10, hf⟩ := ox_bind hf
    refine cxVX (bs1 := (fun q => [wPhrase E a_ph (a_f 0) r10.2.1, wFormula E a_f r10.2.2, wTokens E a_tk q_tk_0_bytes u_tk])) (As := [.int (gI u_tk 5)]) (rest := []) (st1 := [.int r10.1]) C hK (tX5_takeWord l E a_ph u_ph a_f u_f (gI u_tk 5) r10 hr10) lk_X5_73 (by rw [hRf, hRl]; decide) ⟨Nat.zero_le _, Nat.zero_le _⟩ hB hD hN [0, 1] (by decide) rfl (fun _ => rfl) (fun _ => rfl) (rc_X5 hK (hB.1 0 _ rfl)) rfl hl.1 rfl rfl (Nat.le_of_ble_eq_true rfl) dX5_takePart_84 (fun H locs q11 hB => ?_)
    have hB : WB E ad s.heap [wPhrase E a_ph (a_f 0) r10.2.1, wFormula E a_f r10.2.2, wTokens E a_tk q_tk_0_bytes u_tk] H locs := hB
    have hf := Option.some.inj hf
    subst hf
    exact hQ _ _ H locs (fun _ => 0) r10.1 rfl hB dX5_takePart_87
  have hf := (if_neg c9).symm.trans hf
  by_cases c12 : x1 = 5
  · have hf := (if_pos c12).symm.trans hf
    refine lv_tableIn hx hb dX5_takePart_4 (by rw [c12]; decide) (by rw [c12]; decide) (off := 69) (by rw [c12]; decide) (tgt := 73) (by decide) ?_
    refine lv_aload_n hx hb dX5_takePart_73 rfl (lv_at hl 0 rfl) ?_
    obtain ⟨r13, hr13, hf⟩ := ox_bind hf
    refine cxVX (bs1 := (fun q => [wPhrase E a_ph (a_f 0) r13, wFormula E a_f u_f, wTokens E a_tk q_tk_0_bytes u_tk])) (As := []) (rest := []) (st1 := []) C hK (tX5_takeBracket l E a_ph (a_f 0) u_ph r13 hr13) lk_X5_70 (by rw [hRf, hRl]; decide) ⟨Nat.zero_le _, Nat.zero_le _⟩ hB hD hN [0] (by decide) rfl (fun _ => rfl) (fun _ => rfl) (rc_X5 hK (hB.1 0 _ rfl)) rfl hl.1 rfl rfl (Nat.le_of_ble_eq_true rfl) dX5_takePart_74 (fun H locs q14 hB => ?_)
    have hB : WB E ad s.heap [wPhrase E a_ph (a_f 0) r13, wFormula E a_f u_f, wTokens E a_tk q_tk_0_bytes u_tk] H locs := hB
    refine lv_iconst (v := 1) hx hb dX5_takePart_77 (by decide) ?_
    have hf := Option.some.inj hf
    subst hf
    exact hQ _ _ H locs (fun _ => 0) (1 : Int32) bz1 hB dX5_takePart_78
  have hf := (if_neg c12).symm.trans hf
  have hd16 : W p l e R s m args below meth c H locs 0 0 Q (F0 m 88 ls []) := by
    refine lv_aload_n hx hb dX5_takePart_88 rfl (lv_at hl 0 rfl) ?_
    refine lv_iconst (v := 1) hx hb dX5_takePart_89 (by decide) ?_
    refine pf_X5_X5_faultKind C hK hB hD 0 rfl dX5_takePart_90 (fun H locs u15 eu15 hB => ?_)
    have hf := ox_lt eu15 hf
    have hB : WB E ad s.heap [wPhrase E a_ph (a_f 0) u15, wFormula E a_f u_f, wTokens E a_tk q_tk_0_bytes u_tk] H locs := hB
    refine lv_iconst (v := 1) hx hb dX5_takePart_93 (by decide) ?_
    have hf := Option.some.inj hf
    subst hf
    exact hQ _ _ H locs (fun _ => 0) (1 : Int32) bz1 hB dX5_takePart_94
  have nc2 := lv_neT c2 (show Int32.toInt 1 = 1 from rfl)
  have nc9 := lv_neT c9 (show Int32.toInt 2 = 2 from rfl)
  have nc12 := lv_neT c12 (show Int32.toInt 5 = 5 from rfl)
  rcases (show Int32.toInt x1 < 1 ∨ 5 < Int32.toInt x1 ∨ Int32.toInt x1 = 3 ∨ Int32.toInt x1 = 4 by omega) with h | h | h | h
  · exact lv_tableOut hx hb dX5_takePart_4 (Or.inl h) (tgt := 88) (by decide) hd16
  · exact lv_tableOut hx hb dX5_takePart_4 (Or.inr h) (tgt := 88) (by decide) hd16
  · exact lv_tableIn hx hb dX5_takePart_4 (by rw [h]; decide) (by rw [h]; decide) (off := 84) (by rw [h]; decide) (tgt := 88) (by decide) hd16
  · exact lv_tableIn hx hb dX5_takePart_4 (by rw [h]; decide) (by rw [h]; decide) (off := 84) (by rw [h]; decide) (tgt := 88) (by decide) hd16
set_option maxHeartbeats 4000000 in
set_option maxRecDepth 20000 in
theorem tX5_readInto (l : Launch) (E : Ev) (a_ph : Nat → Nat) (q_ph_0_formula : Nat) (u_ph : St) (a_f : Nat → Nat) (u_f : St) (a_tk : Nat → Nat) (u_tk : St) (n_tp : Nat) (a_tp : Nat → Nat) (u_tp : St) (x_3 : Int32) (res : Int32 × St × St × St) (hf : fX5_readInto n_tp u_ph u_f u_tk u_tp x_3 = some res) : MX l E yX5_readInto cX5_readInto 6 (some .int) (rmm 3 71) [wPhrase E a_ph q_ph_0_formula u_ph, wFormula E a_f u_f, wTokens E a_tk (a_tp 0) u_tk, wBArr E n_tp a_tp u_tp] (fun q => [wPhrase E a_ph (a_f 0) res.2.1, wFormula E a_f res.2.2.1, wTokens E a_tk (a_tp 0) res.2.2.2, wBArr E n_tp a_tp u_tp]) [.ref (a_ph 0), .ref (a_f 0), .ref (a_tk 0), .int x_3] (some (.int res.1)) := by
  unfold fX5_readInto at hf
  refine MX.ofI rfl (by decide) (Nat.le_of_ble_eq_true rfl) ?_
  intro p e R s m args below meth c ls Q ad H hRf hRl C hB hD hK hN hl hQ
  generalize hlocs : ([] : List Loc) = locs at hB ⊢
  clear hlocs
  have hx := C.1
  have hb := C.2.1
  have hl : lv_has ls 6 [(0, .ref (a_ph 0)), (1, .ref (a_f 0)), (2, .ref (a_tk 0)), (3, .int x_3)] := hl
  refine lv_aload_n hx hb dX5_readInto_0 rfl (lv_at hl 0 rfl) ?_
  refine lv_aload_n hx hb dX5_readInto_1 rfl (lv_at hl 1 rfl) ?_
  refine pf_X5_X5_formula C hK hB hD 0 rfl dX5_readInto_2 (fun H locs hB => ?_)
  have hB : WB E ad s.heap [wPhrase E a_ph (a_f 0) u_ph, wFormula E a_f u_f, wTokens E a_tk (a_tp 0) u_tk, wBArr E n_tp a_tp u_tp] H locs := hB
  refine lv_aload_n hx hb dX5_readInto_5 rfl (lv_at hl 0 rfl) ?_
  refine lv_iconst (v := 0) hx hb dX5_readInto_6 (by decide) ?_
  refine pf_X5_X5_waits C hK hB hD 0 rfl dX5_readInto_7 (fun H locs u1 eu1 hB => ?_)
  have hf := ox_lt eu1 hf
  have hB : WB E ad s.heap [wPhrase E a_ph (a_f 0) u1, wFormula E a_f u_f, wTokens E a_tk (a_tp 0) u_tk, wBArr E n_tp a_tp u_tp] H locs := hB
  refine lv_aload_n hx hb dX5_readInto_10 rfl (lv_at hl 0 rfl) ?_
  refine lv_iconst (v := 0) hx hb dX5_readInto_11 (by decide) ?_
  refine pf_X5_X5_open C hK hB hD 0 rfl dX5_readInto_12 (fun H locs u2 eu2 hB => ?_)
  have hf := ox_lt eu2 hf
  have hB : WB E ad s.heap [wPhrase E a_ph (a_f 0) u2, wFormula E a_f u_f, wTokens E a_tk (a_tp 0) u_tk, wBArr E n_tp a_tp u_tp] H locs := hB
  refine lv_aload_n hx hb dX5_readInto_15 rfl (lv_at hl 0 rfl) ?_
  refine lv_iconst (v := 0) hx hb dX5_readInto_16 (by decide) ?_
  refine pf_X5_X5_knots C hK hB hD 0 rfl dX5_readInto_17 (fun H locs u3 eu3 hB => ?_)
  have hf := ox_lt eu3 hf
  have hB : WB E ad s.heap [wPhrase E a_ph (a_f 0) u3, wFormula E a_f u_f, wTokens E a_tk (a_tp 0) u_tk, wBArr E n_tp a_tp u_tp] H locs := hB
  refine lv_aload_n hx hb dX5_readInto_20 rfl (lv_at hl 0 rfl) ?_
  refine lv_iload_n hx hb dX5_readInto_21 rfl (lv_at hl 3 rfl) ?_
  refine pf_X5_X5_room C hK hB hD 0 rfl dX5_readInto_22 (fun H locs u4 eu4 hB => ?_)
  have hf := ox_lt eu4 hf
  have hB : WB E ad s.heap [wPhrase E a_ph (a_f 0) u4, wFormula E a_f u_f, wTokens E a_tk (a_tp 0) u_tk, wBArr E n_tp a_tp u_tp] H locs := hB
  refine lv_aload_n hx hb dX5_readInto_25 rfl (lv_at hl 0 rfl) ?_
  refine lv_iconst (v := 0) hx hb dX5_readInto_26 (by decide) ?_
  refine pf_X5_X5_faultKind C hK hB hD 0 rfl dX5_readInto_27 (fun H locs u5 eu5 hB => ?_)
  have hf := ox_lt eu5 hf
  have hB : WB E ad s.heap [wPhrase E a_ph (a_f 0) u5, wFormula E a_f u_f, wTokens E a_tk (a_tp 0) u_tk, wBArr E n_tp a_tp u_tp] H locs := hB
  refine lv_iconst (v := 1) hx hb dX5_readInto_30 (by decide) ?_
  refine lv_istore (lv' := [(4, .int (1 : Int32)), (0, .ref (a_ph 0)), (1, .ref (a_f 0)), (2, .ref (a_tk 0)), (3, .int x_3)]) hx hb dX5_readInto_31 hl (by decide) rfl (fun ls hl => ?_)
  refine lv_iconst (v := 0) hx hb dX5_readInto_33 (by decide) ?_
  refine lv_istore (lv' := [(5, .int (0 : Int32)), (4, .int (1 : Int32)), (0, .ref (a_ph 0)), (1, .ref (a_f 0)), (2, .ref (a_tk 0)), (3, .int x_3)]) hx hb dX5_readInto_34 hl (by decide) rfl (fun ls hl => ?_)
  obtain ⟨X1, hX1, hf⟩ := ox_bind hf
  have hexit1 : ∀ y31, .inl y31 = X1 → ∀ (ls : Array Slot) (H : Heap) (locs : List Loc), lv_has ls 6 [(0, .ref (a_ph 0))] → WB E ad s.heap [wPhrase E a_ph (a_f 0) y31.1, wFormula E a_f y31.2.1, wTokens E a_tk (a_tp 0) y31.2.2, wBArr E n_tp a_tp u_tp] H locs → W p l e R s m args below meth c H locs 0 0 Q (F0 m 66 ls []) := by
    intro y31 hy ls H locs hl hB
    subst hy
    have hf := ox_inl hf
    refine lv_goto (tgt := 111) hx hb dX5_readInto_66 (by decide) ?_
    refine lv_aload_n hx hb dX5_readInto_111 rfl (lv_at hl 0 rfl) ?_
    refine lv_iconst (v := 1) hx hb dX5_readInto_112 (by decide) ?_
    obtain ⟨r32, hr32, hf⟩ := ox_bind hf
    refine cxVX (bs1 := (fun q => [wPhrase E a_ph (a_f 0) r32.1, wFormula E a_f r32.2, wTokens E a_tk (a_tp 0) y31.2.2, wBArr E n_tp a_tp u_tp])) (As := [.int (1 : Int32)]) (rest := []) (st1 := []) C hK (tX5_settle l E a_ph (y31.1) a_f (y31.2.1) (1 : Int32) r32 hr32) lk_X5_53 (by rw [hRf, hRl]; decide) ⟨Nat.zero_le _, Nat.zero_le _⟩ hB hD hN [0, 1] (by decide) rfl (fun _ => rfl) (fun _ => rfl) (rc_X5 hK (hB.1 0 _ rfl)) rfl hl.1 rfl rfl (Nat.le_of_ble_eq_true rfl) dX5_readInto_113 (fun H locs q33 hB => ?_)
    have hB : WB E ad s.heap [wPhrase E a_ph (a_f 0) r32.1, wFormula E a_f r32.2, wTokens E a_tk (a_tp 0) y31.2.2, wBArr E n_tp a_tp u_tp] H locs := hB
    refine lv_iconst (v := 0) hx hb dX5_readInto_116 (by decide) ?_
    have hf := Option.some.inj hf
    subst hf
    exact hQ _ _ H locs (fun _ => 0) hB dX5_readInto_117
  have hret1 : ∀ r, .inr r = X1 → r = res := by
    intro r hr
    subst hr
    exact Option.some.inj (ox_inr hf)
  have hloop1 : ∀ (nf : Nat) (x6 : Int32) (x7 : Int32) (u8 : St) (u9 : St) (u10 : St) (ls : Array Slot) (H : Heap) (locs : List Loc), lv_has ls 6 [(0, .ref (a_ph 0)), (2, .ref (a_tk 0)), (4, .int x6), (5, .int x7)] → WB E ad s.heap [wPhrase E a_ph (a_f 0) u8, wFormula E a_f u9, wTokens E a_tk (a_tp 0) u10, wBArr E n_tp a_tp u_tp] H locs → fX5_readInto_L1 u_tp n_tp nf x6 x7 u8 u9 u10 = some X1 → W p l e R s m args below meth c H locs 0 0 Q (F0 m 36 ls []) := by
    intro nf
    induction nf with
    | zero =>
      intro x6 x7 u8 u9 u10 ls H locs hl hB hf
      simp [fX5_readInto_L1] at hf
    | succ nf ih =>
      intro x6 x7 u8 u9 u10 ls H locs hl hB hf
      rw [fX5_readInto_L1] at hf
      refine lv_iload hx hb dX5_readInto_36 (lv_at hl 3 rfl) ?_
      refine lv_aload_n hx hb dX5_readInto_38 rfl (lv_at hl 1 rfl) ?_
      refine gf_X5_X10_limit C hK (hB.1 2 _ rfl) dX5_readInto_39 ?_
      refine lv_icmp_gt (tgt := 111) hx hb dX5_readInto_42 (by decide) (fun c11 => ?_) (fun c11 => ?_)
      · have hf := (if_pos c11).symm.trans hf
        refine lv_aload_n hx hb dX5_readInto_111 rfl (lv_at hl 0 rfl) ?_
        refine lv_iconst (v := 1) hx hb dX5_readInto_112 (by decide) ?_
        obtain ⟨r12, hr12, hf⟩ := ox_bind hf
        refine cxVX (bs1 := (fun q => [wPhrase E a_ph (a_f 0) r12.1, wFormula E a_f r12.2, wTokens E a_tk (a_tp 0) u10, wBArr E n_tp a_tp u_tp])) (As := [.int (1 : Int32)]) (rest := []) (st1 := []) C hK (tX5_settle l E a_ph u8 a_f u9 (1 : Int32) r12 hr12) lk_X5_53 (by rw [hRf, hRl]; decide) ⟨Nat.zero_le _, Nat.zero_le _⟩ hB hD hN [0, 1] (by decide) rfl (fun _ => rfl) (fun _ => rfl) (rc_X5 hK (hB.1 0 _ rfl)) rfl hl.1 rfl rfl (Nat.le_of_ble_eq_true rfl) dX5_readInto_113 (fun H locs q13 hB => ?_)
        have hB : WB E ad s.heap [wPhrase E a_ph (a_f 0) r12.1, wFormula E a_f r12.2, wTokens E a_tk (a_tp 0) u10, wBArr E n_tp a_tp u_tp] H locs := hB
        refine lv_iconst (v := 0) hx hb dX5_readInto_116 (by decide) ?_
        have hf := hret1 _ (Option.some.inj hf)
        subst hf
        exact hQ _ _ H locs (fun _ => 0) hB dX5_readInto_117
      · have hf := (if_neg c11).symm.trans hf
        refine lv_iload hx hb dX5_readInto_45 (lv_at hl 2 rfl) ?_
        obtain ⟨j14, ej14, hf⟩ := ox_ex hf
        have hj14 : ∀ (ls : Array Slot) (H : Heap) (locs : List Loc), lv_has ls 6 [(0, .ref (a_ph 0)), (2, .ref (a_tk 0)), (4, .int x6), (5, .int x7)] → WB E ad s.heap [wPhrase E a_ph (a_f 0) u8, wFormula E a_f u9, wTokens E a_tk (a_tp 0) u10, wBArr E n_tp a_tp u_tp] H locs → j14 = some X1 → W p l e R s m args below meth c H locs 0 0 Q (F0 m 69 ls []) := by
          intro ls H locs hl hB hf
          have hf := ox_a0 ej14 hf
          refine lv_iload hx hb dX5_readInto_69 (lv_at hl 2 rfl) ?_
          obtain ⟨j18, ej18, hf⟩ := ox_ex hf
          have hj18 : ∀ (x15 : Int32) (u16 : St) (u17 : St) (ls : Array Slot) (H : Heap) (locs : List Loc), lv_has ls 6 [(0, .ref (a_ph 0)), (2, .ref (a_tk 0)), (5, .int x7)] → WB E ad s.heap [wPhrase E a_ph (a_f 0) u16, wFormula E a_f u17, wTokens E a_tk (a_tp 0) u10, wBArr E n_tp a_tp u_tp] H locs → j18 x15 u16 u17 = some X1 → W p l e R s m args below meth c H locs 0 0 Q (F0 m 87 ls [.int x15]) := by
            intro x15 u16 u17 ls H locs hl hB hf
            have hf := ox_a3 ej18 hf
            refine lv_istore (lv' := [(4, .int x15), (0, .ref (a_ph 0)), (2, .ref (a_tk 0)), (5, .int x7)]) hx hb dX5_readInto_87 hl (by decide) rfl (fun ls hl => ?_)
            refine lv_aload_n hx hb dX5_readInto_89 rfl (lv_at hl 1 rfl) ?_
            refine gf_X5_X5_faultKind C hK (hB.1 0 _ rfl) dX5_readInto_90 ?_
            refine lv_if_eq (tgt := 101) hx hb dX5_readInto_93 (by decide) (fun c19 => ?_) (fun c19 => ?_)
            · have hf := (if_pos c19).symm.trans hf
              refine lv_aload_n hx hb dX5_readInto_101 rfl (lv_at hl 2 rfl) ?_
              obtain ⟨r20, hr20, hf⟩ := ox_bind hf
              refine cxVX (bs1 := (fun q => [wPhrase E a_ph (a_f 0) u16, wFormula E a_f u17, wTokens E a_tk (a_tp 0) r20, wBArr E n_tp a_tp u_tp])) (As := []) (rest := []) (st1 := []) C hK (tX10_next l E a_tk u10 n_tp a_tp u_tp r20 hr20) lk_X5_50 (by rw [hRf, hRl]; decide) ⟨Nat.zero_le _, Nat.zero_le _⟩ hB hD hN [2, 3] (by decide) rfl (fun _ => rfl) (fun _ => rfl) (rc_X10 hK (hB.1 2 _ rfl)) rfl hl.1 rfl rfl (Nat.le_of_ble_eq_true rfl) dX5_readInto_102 (fun H locs q21 hB => ?_)
              have hB : WB E ad s.heap [wPhrase E a_ph (a_f 0) u16, wFormula E a_f u17, wTokens E a_tk (a_tp 0) r20, wBArr E n_tp a_tp u_tp] H locs := hB
              obtain ⟨x22, ex22⟩ : ∃ z : Int32, z = (x7 + 1) := ⟨_, rfl⟩
              have hf := ox_lt ex22 hf
              refine lv_iinc (v := x22) (lv' := [(5, .int x22), (4, .int x15), (0, .ref (a_ph 0)), (2, .ref (a_tk 0))]) hx hb dX5_readInto_105 hl (k := 3) rfl (by rw [ex22]; rfl) (by decide) rfl (fun ls hl => ?_)
              refine lv_goto (tgt := 36) hx hb dX5_readInto_108 (by decide) ?_
              exact ih _ _ _ _ _ ls H locs (lv_sub hl [2, 3, 1, 0] rfl) hB hf
            · have hf := (if_neg c19).symm.trans hf
              refine lv_aload_n hx hb dX5_readInto_96 rfl (lv_at hl 1 rfl) ?_
              refine gf_X5_X5_faultKind C hK (hB.1 0 _ rfl) dX5_readInto_97 ?_
              have hf := hret1 _ (Option.some.inj hf)
              subst hf
              exact hQ _ _ H locs (fun _ => 0) hB dX5_readInto_100
          refine lv_if_eq (tgt := 82) hx hb dX5_readInto_71 (by decide) (fun c23 => ?_) (fun c23 => ?_)
          · have hf := (if_pos c23).symm.trans hf
            refine lv_aload_n hx hb dX5_readInto_82 rfl (lv_at hl 0 rfl) ?_
            refine lv_aload_n hx hb dX5_readInto_83 rfl (lv_at hl 1 rfl) ?_
            obtain ⟨r24, hr24, hf⟩ := ox_bind hf
            refine cxVX (bs1 := (fun q => [wPhrase E a_ph (a_f 0) r24.2.1, wFormula E a_f r24.2.2, wTokens E a_tk (a_tp 0) u10, wBArr E n_tp a_tp u_tp])) (As := [.ref (a_tk 0)]) (rest := []) (st1 := [.int r24.1]) C hK (tX5_takeJoint l E a_ph u8 a_f u9 a_tk (a_tp 0) u10 r24 hr24) lk_X5_47 (by rw [hRf, hRl]; decide) ⟨Nat.zero_le _, Nat.zero_le _⟩ hB hD hN [0, 1, 2] (by decide) rfl (fun _ => rfl) (fun _ => rfl) (rc_X5 hK (hB.1 0 _ rfl)) rfl hl.1 rfl rfl (Nat.le_of_ble_eq_true rfl) dX5_readInto_84 (fun H locs q25 hB => ?_)
            have hB : WB E ad s.heap [wPhrase E a_ph (a_f 0) r24.2.1, wFormula E a_f r24.2.2, wTokens E a_tk (a_tp 0) u10, wBArr E n_tp a_tp u_tp] H locs := hB
            exact hj18 _ _ _ ls H locs (lv_sub hl [0, 1, 3] rfl) hB hf
          · have hf := (if_neg c23).symm.trans hf
            refine lv_aload_n hx hb dX5_readInto_74 rfl (lv_at hl 0 rfl) ?_
            refine lv_aload_n hx hb dX5_readInto_75 rfl (lv_at hl 1 rfl) ?_
            obtain ⟨r26, hr26, hf⟩ := ox_bind hf
            refine cxVX (bs1 := (fun q => [wPhrase E a_ph (a_f 0) r26.2.1, wFormula E a_f r26.2.2, wTokens E a_tk (a_tp 0) u10, wBArr E n_tp a_tp u_tp])) (As := [.ref (a_tk 0)]) (rest := []) (st1 := [.int r26.1]) C hK (tX5_takePart l E a_ph u8 a_f u9 a_tk (a_tp 0) u10 r26 hr26) lk_X5_43 (by rw [hRf, hRl]; decide) ⟨Nat.zero_le _, Nat.zero_le _⟩ hB hD hN [0, 1, 2] (by decide) rfl (fun _ => rfl) (fun _ => rfl) (rc_X5 hK (hB.1 0 _ rfl)) rfl hl.1 rfl rfl (Nat.le_of_ble_eq_true rfl) dX5_readInto_76 (fun H locs q27 hB => ?_)
            have hB : WB E ad s.heap [wPhrase E a_ph (a_f 0) r26.2.1, wFormula E a_f r26.2.2, wTokens E a_tk (a_tp 0) u10, wBArr E n_tp a_tp u_tp] H locs := hB
            refine lv_goto (tgt := 87) hx hb dX5_readInto_79 (by decide) ?_
            exact hj18 _ _ _ ls H locs (lv_sub hl [0, 1, 3] rfl) hB hf
        refine lv_if_ne (tgt := 69) hx hb dX5_readInto_47 (by decide) (fun c28 => ?_) (fun c28 => ?_)
        · have hf := (if_neg c28).symm.trans hf
          exact hj14 ls H locs (lv_sub hl [0, 1, 2, 3] rfl) hB hf
        · have hf := (if_pos c28).symm.trans hf
          refine lv_aload_n hx hb dX5_readInto_50 rfl (lv_at hl 0 rfl) ?_
          refine gf_X5_X5_open C hK (hB.1 0 _ rfl) dX5_readInto_51 ?_
          refine lv_if_ne (tgt := 69) hx hb dX5_readInto_54 (by decide) (fun c29 => ?_) (fun c29 => ?_)
          · have hf := (if_neg c29).symm.trans hf
            exact hj14 ls H locs (lv_sub hl [0, 1, 2, 3] rfl) hB hf
          · have hf := (if_pos c29).symm.trans hf
            refine lv_aload_n hx hb dX5_readInto_57 rfl (lv_at hl 1 rfl) ?_
            refine gf_X5_X10_kind C hK (hB.1 2 _ rfl) dX5_readInto_58 ?_
            refine lv_bipush (v := 7) hx hb dX5_readInto_61 (by decide) ?_
            refine lv_icmp_ne (tgt := 69) hx hb dX5_readInto_63 (by decide) (fun c30 => ?_) (fun c30 => ?_)
            · have hf := (if_neg c30).symm.trans hf
              exact hj14 ls H locs (lv_sub hl [0, 1, 2, 3] rfl) hB hf
            · have hf := (if_pos c30).symm.trans hf
              exact hexit1 _ (Option.some.inj hf) ls H locs (lv_sub hl [0] rfl) hB
  exact hloop1 fuel _ _ _ _ _ ls H locs (lv_sub hl [2, 4, 1, 0] rfl) hB hX1
set_option maxHeartbeats 4000000 in
set_option maxRecDepth 20000 in
theorem tX8_forget (l : Launch) (E : Ev) (a_sc : Nat → Nat → Nat) (u_sc : Nat → St) (res : (Nat → St)) (hf : fX8_forget u_sc = some res) : MX l E yX8_forget cX8_forget 2 none (rmm 1 20) [wScript E (a_sc 0) (a_sc 1 0) (a_sc 2 0) (a_sc 3 0) (a_sc 4 0) (a_sc 5 0) (a_sc 6 0) (a_sc 7 0) (u_sc 0), wRoll E 6 (a_sc 1) (u_sc 1), wRoll E 6 (a_sc 2) (u_sc 2), wRoll E 4 (a_sc 3) (u_sc 3), wRoll E 14 (a_sc 4) (u_sc 4), wFormula E (a_sc 5) (u_sc 5), wFormula E (a_sc 6) (u_sc 6), wFormula E (a_sc 7) (u_sc 7)] (fun q => [wScript E (a_sc 0) (a_sc 1 0) (a_sc 2 0) (a_sc 3 0) (a_sc 4 0) (a_sc 5 0) (a_sc 6 0) (a_sc 7 0) (res 0), wRoll E 6 (a_sc 1) (res 1), wRoll E 6 (a_sc 2) (res 2), wRoll E 4 (a_sc 3) (res 3), wRoll E 14 (a_sc 4) (res 4), wFormula E (a_sc 5) (res 5), wFormula E (a_sc 6) (res 6), wFormula E (a_sc 7) (res 7)]) [.ref (a_sc 0 0)] none := by
  unfold fX8_forget at hf
  refine MX.ofV rfl (by decide) (Nat.le_of_ble_eq_true rfl) ?_
  intro p e R s m args below meth c ls Q ad H hRf hRl C hB hD hK hN hl hQ
  generalize hlocs : ([] : List Loc) = locs at hB ⊢
  clear hlocs
  have hx := C.1
  have hb := C.2.1
  have hl : lv_has ls 2 [(0, .ref (a_sc 0 0))] := hl
  refine lv_aload_n hx hb dX8_forget_0 rfl (lv_at hl 0 rfl) ?_
  refine gf_X8_X8_acts C hK (hB.1 0 _ rfl) dX8_forget_1 ?_
  refine lv_iconst (v := 0) hx hb dX8_forget_4 (by decide) ?_
  refine pf_X8_X7_size C hK hB hD 1 rfl dX8_forget_5 (fun H locs u1 eu1 hB => ?_)
  have hf := ox_lt eu1 hf
  have hB : WB E ad s.heap [wScript E (a_sc 0) (a_sc 1 0) (a_sc 2 0) (a_sc 3 0) (a_sc 4 0) (a_sc 5 0) (a_sc 6 0) (a_sc 7 0) (u_sc 0), wRoll E 6 (a_sc 1) u1, wRoll E 6 (a_sc 2) (u_sc 2), wRoll E 4 (a_sc 3) (u_sc 3), wRoll E 14 (a_sc 4) (u_sc 4), wFormula E (a_sc 5) (u_sc 5), wFormula E (a_sc 6) (u_sc 6), wFormula E (a_sc 7) (u_sc 7)] H locs := hB
  refine lv_aload_n hx hb dX8_forget_8 rfl (lv_at hl 0 rfl) ?_
  refine gf_X8_X8_guests C hK (hB.1 0 _ rfl) dX8_forget_9 ?_
  refine lv_iconst (v := 0) hx hb dX8_forget_12 (by decide) ?_
  refine pf_X8_X7_size C hK hB hD 2 rfl dX8_forget_13 (fun H locs u2 eu2 hB => ?_)
  have hf := ox_lt eu2 hf
  have hB : WB E ad s.heap [wScript E (a_sc 0) (a_sc 1 0) (a_sc 2 0) (a_sc 3 0) (a_sc 4 0) (a_sc 5 0) (a_sc 6 0) (a_sc 7 0) (u_sc 0), wRoll E 6 (a_sc 1) u1, wRoll E 6 (a_sc 2) u2, wRoll E 4 (a_sc 3) (u_sc 3), wRoll E 14 (a_sc 4) (u_sc 4), wFormula E (a_sc 5) (u_sc 5), wFormula E (a_sc 6) (u_sc 6), wFormula E (a_sc 7) (u_sc 7)] H locs := hB
  refine lv_aload_n hx hb dX8_forget_16 rfl (lv_at hl 0 rfl) ?_
  refine gf_X8_X8_grains C hK (hB.1 0 _ rfl) dX8_forget_17 ?_
  refine lv_iconst (v := 0) hx hb dX8_forget_20 (by decide) ?_
  refine pf_X8_X7_size C hK hB hD 3 rfl dX8_forget_21 (fun H locs u3 eu3 hB => ?_)
  have hf := ox_lt eu3 hf
  have hB : WB E ad s.heap [wScript E (a_sc 0) (a_sc 1 0) (a_sc 2 0) (a_sc 3 0) (a_sc 4 0) (a_sc 5 0) (a_sc 6 0) (a_sc 7 0) (u_sc 0), wRoll E 6 (a_sc 1) u1, wRoll E 6 (a_sc 2) u2, wRoll E 4 (a_sc 3) u3, wRoll E 14 (a_sc 4) (u_sc 4), wFormula E (a_sc 5) (u_sc 5), wFormula E (a_sc 6) (u_sc 6), wFormula E (a_sc 7) (u_sc 7)] H locs := hB
  refine lv_aload_n hx hb dX8_forget_24 rfl (lv_at hl 0 rfl) ?_
  refine gf_X8_X8_shows C hK (hB.1 0 _ rfl) dX8_forget_25 ?_
  refine lv_iconst (v := 0) hx hb dX8_forget_28 (by decide) ?_
  refine pf_X8_X7_size C hK hB hD 4 rfl dX8_forget_29 (fun H locs u4 eu4 hB => ?_)
  have hf := ox_lt eu4 hf
  have hB : WB E ad s.heap [wScript E (a_sc 0) (a_sc 1 0) (a_sc 2 0) (a_sc 3 0) (a_sc 4 0) (a_sc 5 0) (a_sc 6 0) (a_sc 7 0) (u_sc 0), wRoll E 6 (a_sc 1) u1, wRoll E 6 (a_sc 2) u2, wRoll E 4 (a_sc 3) u3, wRoll E 14 (a_sc 4) u4, wFormula E (a_sc 5) (u_sc 5), wFormula E (a_sc 6) (u_sc 6), wFormula E (a_sc 7) (u_sc 7)] H locs := hB
  refine lv_iconst (v := 0) hx hb dX8_forget_32 (by decide) ?_
  refine lv_istore_n (lv' := [(1, .int (0 : Int32)), (0, .ref (a_sc 0 0))]) hx hb dX8_forget_33 rfl hl (by decide) rfl (fun ls hl => ?_)
  obtain ⟨X1, hX1, hf⟩ := ox_bind hf
  have hexit1 : ∀ y20, y20 = X1 → ∀ (ls : Array Slot) (H : Heap) (locs : List Loc), lv_has ls 2 [(0, .ref (a_sc 0 0))] → WB E ad s.heap [wScript E (a_sc 0) (a_sc 1 0) (a_sc 2 0) (a_sc 3 0) (a_sc 4 0) (a_sc 5 0) (a_sc 6 0) (a_sc 7 0) (y20 0), wRoll E 6 (a_sc 1) (y20 1), wRoll E 6 (a_sc 2) (y20 2), wRoll E 4 (a_sc 3) (y20 3), wRoll E 14 (a_sc 4) (y20 4), wFormula E (a_sc 5) (y20 5), wFormula E (a_sc 6) (y20 6), wFormula E (a_sc 7) (y20 7)] H locs → W p l e R s m args below meth c H locs 0 0 Q (F0 m 58 ls []) := by
    intro y20 hy ls H locs hl hB
    subst hy
    refine lv_aload_n hx hb dX8_forget_58 rfl (lv_at hl 0 rfl) ?_
    refine lv_iconst (v := 0) hx hb dX8_forget_59 (by decide) ?_
    refine pf_X8_X8_cough C hK hB hD 0 rfl dX8_forget_60 (fun H locs u21 eu21 hB => ?_)
    have hf := ox_lt eu21 hf
    have hB : WB E ad s.heap [wScript E (a_sc 0) (a_sc 1 0) (a_sc 2 0) (a_sc 3 0) (a_sc 4 0) (a_sc 5 0) (a_sc 6 0) (a_sc 7 0) u21, wRoll E 6 (a_sc 1) (y20 1), wRoll E 6 (a_sc 2) (y20 2), wRoll E 4 (a_sc 3) (y20 3), wRoll E 14 (a_sc 4) (y20 4), wFormula E (a_sc 5) (y20 5), wFormula E (a_sc 6) (y20 6), wFormula E (a_sc 7) (y20 7)] H locs := hB
    refine lv_aload_n hx hb dX8_forget_63 rfl (lv_at hl 0 rfl) ?_
    refine lv_iconst (v := 0) hx hb dX8_forget_64 (by decide) ?_
    refine pf_X8_X8_seed C hK hB hD 0 rfl dX8_forget_65 (fun H locs u22 eu22 hB => ?_)
    have hf := ox_lt eu22 hf
    have hB : WB E ad s.heap [wScript E (a_sc 0) (a_sc 1 0) (a_sc 2 0) (a_sc 3 0) (a_sc 4 0) (a_sc 5 0) (a_sc 6 0) (a_sc 7 0) u22, wRoll E 6 (a_sc 1) (y20 1), wRoll E 6 (a_sc 2) (y20 2), wRoll E 4 (a_sc 3) (y20 3), wRoll E 14 (a_sc 4) (y20 4), wFormula E (a_sc 5) (y20 5), wFormula E (a_sc 6) (y20 6), wFormula E (a_sc 7) (y20 7)] H locs := hB
    refine lv_aload_n hx hb dX8_forget_68 rfl (lv_at hl 0 rfl) ?_
    refine lv_iconst (v := 0) hx hb dX8_forget_69 (by decide) ?_
    refine pf_X8_X8_isCoughTold C hK hB hD 0 rfl (by decide) dX8_forget_70 (fun H locs u23 eu23 hB => ?_)
    have hf := ox_lt eu23 hf
    have hB : WB E ad s.heap [wScript E (a_sc 0) (a_sc 1 0) (a_sc 2 0) (a_sc 3 0) (a_sc 4 0) (a_sc 5 0) (a_sc 6 0) (a_sc 7 0) u23, wRoll E 6 (a_sc 1) (y20 1), wRoll E 6 (a_sc 2) (y20 2), wRoll E 4 (a_sc 3) (y20 3), wRoll E 14 (a_sc 4) (y20 4), wFormula E (a_sc 5) (y20 5), wFormula E (a_sc 6) (y20 6), wFormula E (a_sc 7) (y20 7)] H locs := hB
    refine lv_aload_n hx hb dX8_forget_73 rfl (lv_at hl 0 rfl) ?_
    refine lv_iconst (v := 0) hx hb dX8_forget_74 (by decide) ?_
    refine pf_X8_X8_isSeedTold C hK hB hD 0 rfl (by decide) dX8_forget_75 (fun H locs u24 eu24 hB => ?_)
    have hf := ox_lt eu24 hf
    have hB : WB E ad s.heap [wScript E (a_sc 0) (a_sc 1 0) (a_sc 2 0) (a_sc 3 0) (a_sc 4 0) (a_sc 5 0) (a_sc 6 0) (a_sc 7 0) u24, wRoll E 6 (a_sc 1) (y20 1), wRoll E 6 (a_sc 2) (y20 2), wRoll E 4 (a_sc 3) (y20 3), wRoll E 14 (a_sc 4) (y20 4), wFormula E (a_sc 5) (y20 5), wFormula E (a_sc 6) (y20 6), wFormula E (a_sc 7) (y20 7)] H locs := hB
    refine lv_aload_n hx hb dX8_forget_78 rfl (lv_at hl 0 rfl) ?_
    refine lv_iconst (v := 0) hx hb dX8_forget_79 (by decide) ?_
    refine pf_X8_X8_knots C hK hB hD 0 rfl dX8_forget_80 (fun H locs u25 eu25 hB => ?_)
    have hf := ox_lt eu25 hf
    have hB : WB E ad s.heap [wScript E (a_sc 0) (a_sc 1 0) (a_sc 2 0) (a_sc 3 0) (a_sc 4 0) (a_sc 5 0) (a_sc 6 0) (a_sc 7 0) u25, wRoll E 6 (a_sc 1) (y20 1), wRoll E 6 (a_sc 2) (y20 2), wRoll E 4 (a_sc 3) (y20 3), wRoll E 14 (a_sc 4) (y20 4), wFormula E (a_sc 5) (y20 5), wFormula E (a_sc 6) (y20 6), wFormula E (a_sc 7) (y20 7)] H locs := hB
    refine lv_aload_n hx hb dX8_forget_83 rfl (lv_at hl 0 rfl) ?_
    refine lv_iconst (v := 0) hx hb dX8_forget_84 (by decide) ?_
    refine pf_X8_X8_lines C hK hB hD 0 rfl dX8_forget_85 (fun H locs u26 eu26 hB => ?_)
    have hf := ox_lt eu26 hf
    have hB : WB E ad s.heap [wScript E (a_sc 0) (a_sc 1 0) (a_sc 2 0) (a_sc 3 0) (a_sc 4 0) (a_sc 5 0) (a_sc 6 0) (a_sc 7 0) u26, wRoll E 6 (a_sc 1) (y20 1), wRoll E 6 (a_sc 2) (y20 2), wRoll E 4 (a_sc 3) (y20 3), wRoll E 14 (a_sc 4) (y20 4), wFormula E (a_sc 5) (y20 5), wFormula E (a_sc 6) (y20 6), wFormula E (a_sc 7) (y20 7)] H locs := hB
    have hf := Option.some.inj hf
    subst hf
    exact hQ _ _ H locs (fun _ => 0) hB dX8_forget_88
  have hloop1 : ∀ (nf : Nat) (x5 : Int32) (u6 : Nat → St) (ls : Array Slot) (H : Heap) (locs : List Loc), lv_has ls 2 [(0, .ref (a_sc 0 0)), (1, .int x5)] → WB E ad s.heap [wScript E (a_sc 0) (a_sc 1 0) (a_sc 2 0) (a_sc 3 0) (a_sc 4 0) (a_sc 5 0) (a_sc 6 0) (a_sc 7 0) (u6 0), wRoll E 6 (a_sc 1) (u6 1), wRoll E 6 (a_sc 2) (u6 2), wRoll E 4 (a_sc 3) (u6 3), wRoll E 14 (a_sc 4) (u6 4), wFormula E (a_sc 5) (u6 5), wFormula E (a_sc 6) (u6 6), wFormula E (a_sc 7) (u6 7)] H locs → fX8_forget_L1 nf x5 u6 = some X1 → W p l e R s m args below meth c H locs 0 0 Q (F0 m 34 ls []) := by
    intro nf
    induction nf with
    | zero =>
      intro x5 u6 ls H locs hl hB hf
      simp [fX8_forget_L1] at hf
    | succ nf ih =>
      intro x5 u6 ls H locs hl hB hf
      rw [fX8_forget_L1] at hf
      refine lv_iload_n hx hb dX8_forget_34 rfl (lv_at hl 1 rfl) ?_
      refine lv_aload_n hx hb dX8_forget_35 rfl (lv_at hl 0 rfl) ?_
      refine gf_X8_X8_laws C hK (hB.1 0 _ rfl) dX8_forget_36 ?_
      refine bx_alen C hK (hB.1 0 _ rfl) 1 4 rfl rfl (v := (3 : Int32)) rfl dX8_forget_39 ?_
      refine lv_icmp_ge (tgt := 58) hx hb dX8_forget_40 (by decide) (fun c7 => ?_) (fun c7 => ?_)
      · have hf := (if_pos c7).symm.trans hf
        exact hexit1 _ (Option.some.inj hf) ls H locs (lv_sub hl [0] rfl) hB
      · have hf := (if_neg c7).symm.trans hf
        refine lv_aload_n hx hb dX8_forget_43 rfl (lv_at hl 0 rfl) ?_
        refine gf_X8_X8_laws C hK (hB.1 0 _ rfl) dX8_forget_44 ?_
        refine lv_iload_n hx hb dX8_forget_47 rfl (lv_at hl 1 rfl) ?_
        by_cases c8 : x5 = 0
        · have hf := (if_pos c8).symm.trans hf
          refine bx_aaldK C hK (hB.1 0 _ rfl) 1 rfl (k := 0) c8 dX8_forget_48 (q := (a_sc 5 0)) rfl (by decide) ?_
          obtain ⟨r9, er9, hf⟩ := ox_ex hf
          refine cxVX (bs1 := (fun q => [wScript E (a_sc 0) (a_sc 1 0) (a_sc 2 0) (a_sc 3 0) (a_sc 4 0) (a_sc 5 0) (a_sc 6 0) (a_sc 7 0) (u6 0), wRoll E 6 (a_sc 1) (u6 1), wRoll E 6 (a_sc 2) (u6 2), wRoll E 4 (a_sc 3) (u6 3), wRoll E 14 (a_sc 4) (u6 4), wFormula E (a_sc 5) r9, wFormula E (a_sc 6) (u6 6), wFormula E (a_sc 7) (u6 7)])) (As := []) (rest := []) (st1 := []) C hK (tX0_forget l E (a_sc 5) (u6 5) r9 er9.symm) lk_X8_59 (by rw [hRf, hRl]; decide) ⟨Nat.zero_le _, Nat.zero_le _⟩ hB hD hN [5] (by decide) rfl (fun _ => rfl) (fun _ => rfl) (rc_X0 hK (hB.1 5 _ rfl)) rfl hl.1 rfl rfl (Nat.le_of_ble_eq_true rfl) dX8_forget_49 (fun H locs q10 hB => ?_)
          have hB : WB E ad s.heap [wScript E (a_sc 0) (a_sc 1 0) (a_sc 2 0) (a_sc 3 0) (a_sc 4 0) (a_sc 5 0) (a_sc 6 0) (a_sc 7 0) (u6 0), wRoll E 6 (a_sc 1) (u6 1), wRoll E 6 (a_sc 2) (u6 2), wRoll E 4 (a_sc 3) (u6 3), wRoll E 14 (a_sc 4) (u6 4), wFormula E (a_sc 5) r9, wFormula E (a_sc 6) (u6 6), wFormula E (a_sc 7) (u6 7)] H locs := hB
          obtain ⟨x11, ex11⟩ : ∃ z : Int32, z = (x5 + 1) := ⟨_, rfl⟩
          have hf := ox_lt ex11 hf
          refine lv_iinc (v := x11) (lv' := [(1, .int x11), (0, .ref (a_sc 0 0))]) hx hb dX8_forget_52 hl (k := 1) rfl (by rw [ex11]; rfl) (by decide) rfl (fun ls hl => ?_)
          refine lv_goto (tgt := 34) hx hb dX8_forget_55 (by decide) ?_
          exact ih _ _ ls H locs (lv_sub hl [1, 0] rfl) hB hf
        have hf := (if_neg c8).symm.trans hf
        by_cases c12 : x5 = 1
        · have hf := (if_pos c12).symm.trans hf
          refine bx_aaldK C hK (hB.1 0 _ rfl) 1 rfl (k := 1) c12 dX8_forget_48 (q := (a_sc 6 0)) rfl (by decide) ?_
          obtain ⟨r13, er13, hf⟩ := ox_ex hf
          refine cxVX (bs1 := (fun q => [wScript E (a_sc 0) (a_sc 1 0) (a_sc 2 0) (a_sc 3 0) (a_sc 4 0) (a_sc 5 0) (a_sc 6 0) (a_sc 7 0) (u6 0), wRoll E 6 (a_sc 1) (u6 1), wRoll E 6 (a_sc 2) (u6 2), wRoll E 4 (a_sc 3) (u6 3), wRoll E 14 (a_sc 4) (u6 4), wFormula E (a_sc 5) (u6 5), wFormula E (a_sc 6) r13, wFormula E (a_sc 7) (u6 7)])) (As := []) (rest := []) (st1 := []) C hK (tX0_forget l E (a_sc 6) (u6 6) r13 er13.symm) lk_X8_59 (by rw [hRf, hRl]; decide) ⟨Nat.zero_le _, Nat.zero_le _⟩ hB hD hN [6] (by decide) rfl (fun _ => rfl) (fun _ => rfl) (rc_X0 hK (hB.1 6 _ rfl)) rfl hl.1 rfl rfl (Nat.le_of_ble_eq_true rfl) dX8_forget_49 (fun H locs q14 hB => ?_)
          have hB : WB E ad s.heap [wScript E (a_sc 0) (a_sc 1 0) (a_sc 2 0) (a_sc 3 0) (a_sc 4 0) (a_sc 5 0) (a_sc 6 0) (a_sc 7 0) (u6 0), wRoll E 6 (a_sc 1) (u6 1), wRoll E 6 (a_sc 2) (u6 2), wRoll E 4 (a_sc 3) (u6 3), wRoll E 14 (a_sc 4) (u6 4), wFormula E (a_sc 5) (u6 5), wFormula E (a_sc 6) r13, wFormula E (a_sc 7) (u6 7)] H locs := hB
          obtain ⟨x15, ex15⟩ : ∃ z : Int32, z = (x5 + 1) := ⟨_, rfl⟩
          have hf := ox_lt ex15 hf
          refine lv_iinc (v := x15) (lv' := [(1, .int x15), (0, .ref (a_sc 0 0))]) hx hb dX8_forget_52 hl (k := 1) rfl (by rw [ex15]; rfl) (by decide) rfl (fun ls hl => ?_)
          refine lv_goto (tgt := 34) hx hb dX8_forget_55 (by decide) ?_
          exact ih _ _ ls H locs (lv_sub hl [1, 0] rfl) hB hf
        have hf := (if_neg c12).symm.trans hf
        by_cases c16 : x5 = 2
        · have hf := (if_pos c16).symm.trans hf
          refine bx_aaldK C hK (hB.1 0 _ rfl) 1 rfl (k := 2) c16 dX8_forget_48 (q := (a_sc 7 0)) rfl (by decide) ?_
          obtain ⟨r17, er17, hf⟩ := ox_ex hf
          refine cxVX (bs1 := (fun q => [wScript E (a_sc 0) (a_sc 1 0) (a_sc 2 0) (a_sc 3 0) (a_sc 4 0) (a_sc 5 0) (a_sc 6 0) (a_sc 7 0) (u6 0), wRoll E 6 (a_sc 1) (u6 1), wRoll E 6 (a_sc 2) (u6 2), wRoll E 4 (a_sc 3) (u6 3), wRoll E 14 (a_sc 4) (u6 4), wFormula E (a_sc 5) (u6 5), wFormula E (a_sc 6) (u6 6), wFormula E (a_sc 7) r17])) (As := []) (rest := []) (st1 := []) C hK (tX0_forget l E (a_sc 7) (u6 7) r17 er17.symm) lk_X8_59 (by rw [hRf, hRl]; decide) ⟨Nat.zero_le _, Nat.zero_le _⟩ hB hD hN [7] (by decide) rfl (fun _ => rfl) (fun _ => rfl) (rc_X0 hK (hB.1 7 _ rfl)) rfl hl.1 rfl rfl (Nat.le_of_ble_eq_true rfl) dX8_forget_49 (fun H locs q18 hB => ?_)
          have hB : WB E ad s.heap [wScript E (a_sc 0) (a_sc 1 0) (a_sc 2 0) (a_sc 3 0) (a_sc 4 0) (a_sc 5 0) (a_sc 6 0) (a_sc 7 0) (u6 0), wRoll E 6 (a_sc 1) (u6 1), wRoll E 6 (a_sc 2) (u6 2), wRoll E 4 (a_sc 3) (u6 3), wRoll E 14 (a_sc 4) (u6 4), wFormula E (a_sc 5) (u6 5), wFormula E (a_sc 6) (u6 6), wFormula E (a_sc 7) r17] H locs := hB
          obtain ⟨x19, ex19⟩ : ∃ z : Int32, z = (x5 + 1) := ⟨_, rfl⟩
          have hf := ox_lt ex19 hf
          refine lv_iinc (v := x19) (lv' := [(1, .int x19), (0, .ref (a_sc 0 0))]) hx hb dX8_forget_52 hl (k := 1) rfl (by rw [ex19]; rfl) (by decide) rfl (fun ls hl => ?_)
          refine lv_goto (tgt := 34) hx hb dX8_forget_55 (by decide) ?_
          exact ih _ _ ls H locs (lv_sub hl [1, 0] rfl) hB hf
        have hf := (if_neg c16).symm.trans hf
        cases hf
  exact hloop1 fuel _ _ ls H locs (lv_sub hl [1, 0] rfl) hB hX1
set_option maxHeartbeats 4000000 in
set_option maxRecDepth 20000 in
theorem tX10_begin (l : Launch) (E : Ev) (a_tk : Nat → Nat) (q_tk_0_bytes : Nat) (u_tk : St) (n_tp : Nat) (a_tp : Nat → Nat) (u_tp : St) (x_2 : Int32) (res : St) (hf : fX10_begin n_tp u_tk u_tp x_2 = some res) : MX l E yX10_begin cX10_begin 3 none (rmm 3 71) [wTokens E a_tk q_tk_0_bytes u_tk, wBArr E n_tp a_tp u_tp] (fun q => [wTokens E a_tk (a_tp 0) res, wBArr E n_tp a_tp u_tp]) [.ref (a_tk 0), .ref (a_tp 0), .int x_2] none := by
  unfold fX10_begin at hf
  refine MX.ofV rfl (by decide) (Nat.le_of_ble_eq_true rfl) ?_
  intro p e R s m args below meth c ls Q ad H hRf hRl C hB hD hK hN hl hQ
  generalize hlocs : ([] : List Loc) = locs at hB ⊢
  clear hlocs
  have hx := C.1
  have hb := C.2.1
  have hl : lv_has ls 3 [(0, .ref (a_tk 0)), (1, .ref (a_tp 0)), (2, .int x_2)] := hl
  refine lv_aload_n hx hb dX10_begin_0 rfl (lv_at hl 0 rfl) ?_
  refine lv_aload_n hx hb dX10_begin_1 rfl (lv_at hl 1 rfl) ?_
  refine pf_X10_X10_bytes C hK hB hD 0 rfl dX10_begin_2 (fun H locs hB => ?_)
  have hB : WB E ad s.heap [wTokens E a_tk (a_tp 0) u_tk, wBArr E n_tp a_tp u_tp] H locs := hB
  refine lv_aload_n hx hb dX10_begin_5 rfl (lv_at hl 0 rfl) ?_
  refine lv_iload_n hx hb dX10_begin_6 rfl (lv_at hl 2 rfl) ?_
  refine lv_aload_n hx hb dX10_begin_7 rfl (lv_at hl 1 rfl) ?_
  refine bx_alen C hK (hB.1 1 _ rfl) 0 1 rfl rfl (v := (Int32.ofNat n_tp)) rfl dX10_begin_8 ?_
  refine va_mmin hx hb (C.2.2.1.trans hl.1.symm) C.2.2.2.1 (C.2.2.2.2 _ mw_567) (C.2.2.2.2 _ mm_mmin_s) (C.2.2.2.2 _ mm_ini) (C.2.2.2.2 _ mm_mmin_c) (by rw [hRf]; decide) (by rw [hRl]; exact Nat.le_of_ble_eq_true rfl) (Nat.zero_le _) (Nat.zero_le _) dX10_begin_9 ?_
  refine lv_topi (fun x1 ex1 => ?_)
  have hf := ox_lt ex1 hf
  refine pf_X10_X10_limit C hK hB hD 0 rfl dX10_begin_12 (fun H locs u2 eu2 hB => ?_)
  have hf := ox_lt eu2 hf
  have hB : WB E ad s.heap [wTokens E a_tk (a_tp 0) u2, wBArr E n_tp a_tp u_tp] H locs := hB
  refine lv_aload_n hx hb dX10_begin_15 rfl (lv_at hl 0 rfl) ?_
  refine lv_iconst (v := 0) hx hb dX10_begin_16 (by decide) ?_
  refine pf_X10_X10_at C hK hB hD 0 rfl dX10_begin_17 (fun H locs u3 eu3 hB => ?_)
  have hf := ox_lt eu3 hf
  have hB : WB E ad s.heap [wTokens E a_tk (a_tp 0) u3, wBArr E n_tp a_tp u_tp] H locs := hB
  refine lv_aload_n hx hb dX10_begin_20 rfl (lv_at hl 0 rfl) ?_
  obtain ⟨r4, hr4, hf⟩ := ox_bind hf
  refine cxVX (bs1 := (fun q => [wTokens E a_tk (a_tp 0) r4, wBArr E n_tp a_tp u_tp])) (As := []) (rest := []) (st1 := []) C hK (tX10_next l E a_tk u3 n_tp a_tp u_tp r4 hr4) lk_X10_53 (by rw [hRf, hRl]; decide) ⟨Nat.zero_le _, Nat.zero_le _⟩ hB hD hN [0, 1] (by decide) rfl (fun _ => rfl) (fun _ => rfl) (rc_X10 hK (hB.1 0 _ rfl)) rfl hl.1 rfl rfl (Nat.le_of_ble_eq_true rfl) dX10_begin_21 (fun H locs q5 hB => ?_)
  have hB : WB E ad s.heap [wTokens E a_tk (a_tp 0) r4, wBArr E n_tp a_tp u_tp] H locs := hB
  have hf := Option.some.inj hf
  subst hf
  exact hQ _ _ H locs (fun _ => 0) hB dX10_begin_24
set_option maxHeartbeats 4000000 in
set_option maxRecDepth 20000 in
theorem tX6_blame (l : Launch) (E : Ev) (a_rd : Nat → Nat) (q_rd_0_phrase : Nat) (q_rd_0_script : Nat) (u_rd : St) (a_tk : Nat → Nat) (q_tk_0_bytes : Nat) (u_tk : St) (x_1 : Int32) (res : St) (hf : fX6_blame u_rd u_tk x_1 = res) : MX l E yX6_blame cX6_blame 2 none (rmm 0 0) [wReader E a_rd (a_tk 0) q_rd_0_phrase q_rd_0_script u_rd, wTokens E a_tk q_tk_0_bytes u_tk] (fun q => [wReader E a_rd (a_tk 0) q_rd_0_phrase q_rd_0_script res, wTokens E a_tk q_tk_0_bytes u_tk]) [.ref (a_rd 0), .int x_1] none := by
  unfold fX6_blame at hf
  refine MX.ofV rfl (by decide) (Nat.le_of_ble_eq_true rfl) ?_
  intro p e R s m args below meth c ls Q ad H hRf hRl C hB hD hK hN hl hQ
  generalize hlocs : ([] : List Loc) = locs at hB ⊢
  clear hlocs
  have hx := C.1
  have hb := C.2.1
  have hl : lv_has ls 2 [(0, .ref (a_rd 0)), (1, .int x_1)] := hl
  refine lv_aload_n hx hb dX6_blame_0 rfl (lv_at hl 0 rfl) ?_
  refine gf_X6_X6_faultKind C hK (hB.1 0 _ rfl) dX6_blame_1 ?_
  refine lv_if_ne (tgt := 23) hx hb dX6_blame_4 (by decide) (fun c1 => ?_) (fun c1 => ?_)
  · have hf := (if_neg c1).symm.trans hf
    subst hf
    exact hQ _ _ H locs (fun _ => 0) hB dX6_blame_23
  · have hf := (if_pos c1).symm.trans hf
    refine lv_aload_n hx hb dX6_blame_7 rfl (lv_at hl 0 rfl) ?_
    refine lv_iload_n hx hb dX6_blame_8 rfl (lv_at hl 1 rfl) ?_
    refine pf_X6_X6_faultKind C hK hB hD 0 rfl dX6_blame_9 (fun H locs u2 eu2 hB => ?_)
    have hf := ox_lt eu2 hf
    have hB : WB E ad s.heap [wReader E a_rd (a_tk 0) q_rd_0_phrase q_rd_0_script u2, wTokens E a_tk q_tk_0_bytes u_tk] H locs := hB
    refine lv_aload_n hx hb dX6_blame_12 rfl (lv_at hl 0 rfl) ?_
    refine lv_aload_n hx hb dX6_blame_13 rfl (lv_at hl 0 rfl) ?_
    refine gf_X6_X6_tokens C hK (hB.1 0 _ rfl) dX6_blame_14 ?_
    refine gf_X6_X10_place C hK (hB.1 1 _ rfl) dX6_blame_17 ?_
    refine lv_topi (fun x3 ex3 => ?_)
    have hf := ox_lt ex3 hf
    refine pf_X6_X6_faultPlace C hK hB hD 0 rfl dX6_blame_20 (fun H locs u4 eu4 hB => ?_)
    have hf := ox_lt eu4 hf
    have hB : WB E ad s.heap [wReader E a_rd (a_tk 0) q_rd_0_phrase q_rd_0_script u4, wTokens E a_tk q_tk_0_bytes u_tk] H locs := hB
    subst hf
    exact hQ _ _ H locs (fun _ => 0) hB dX6_blame_23
set_option maxHeartbeats 4000000 in
set_option maxRecDepth 20000 in
theorem tX6_isDue (l : Launch) (E : Ev) (a_rd : Nat → Nat) (q_rd_0_phrase : Nat) (q_rd_0_script : Nat) (u_rd : St) (a_tk : Nat → Nat) (q_tk_0_bytes : Nat) (u_tk : St) (x_1 : Int32) (res : Int32 × St) (hf : fX6_isDue u_rd u_tk x_1 = res) : MX l E yX6_isDue cX6_isDue 2 (some .boolean) (rmm 1 21) [wReader E a_rd (a_tk 0) q_rd_0_phrase q_rd_0_script u_rd, wTokens E a_tk q_tk_0_bytes u_tk] (fun q => [wReader E a_rd (a_tk 0) q_rd_0_phrase q_rd_0_script res.2, wTokens E a_tk q_tk_0_bytes u_tk]) [.ref (a_rd 0), .int x_1] (some (.int res.1)) := by
  unfold fX6_isDue at hf
  refine MX.ofZZ rfl (by decide) (Nat.le_of_ble_eq_true rfl) ?_
  intro p e R s m args below meth c ls Q ad H hRf hRl C hB hD hK hN hl hQ
  generalize hlocs : ([] : List Loc) = locs at hB ⊢
  clear hlocs
  have hx := C.1
  have hb := C.2.1
  have hl : lv_has ls 2 [(0, .ref (a_rd 0)), (1, .int x_1)] := hl
  refine lv_iload_n hx hb dX6_isDue_0 rfl (lv_at hl 1 rfl) ?_
  refine lv_if_ne (tgt := 9) hx hb dX6_isDue_1 (by decide) (fun c1 => ?_) (fun c1 => ?_)
  · have hf := (if_neg c1).symm.trans hf
    refine lv_iload_n hx hb dX6_isDue_9 rfl (lv_at hl 1 rfl) ?_
    subst hf
    exact hQ _ _ H locs (fun _ => 0) x_1 rfl hB dX6_isDue_10
  · have hf := (if_pos c1).symm.trans hf
    refine lv_aload_n hx hb dX6_isDue_4 rfl (lv_at hl 0 rfl) ?_
    refine lv_iconst (v := 1) hx hb dX6_isDue_5 (by decide) ?_
    obtain ⟨r2, er2, hf⟩ := ox_ex hf
    refine cxVX (bs1 := (fun q => [wReader E a_rd (a_tk 0) q_rd_0_phrase q_rd_0_script r2, wTokens E a_tk q_tk_0_bytes u_tk])) (As := [.int (1 : Int32)]) (rest := []) (st1 := []) C hK (tX6_blame l E a_rd q_rd_0_phrase q_rd_0_script u_rd a_tk q_tk_0_bytes u_tk (1 : Int32) r2 er2.symm) lk_X6_70 (by rw [hRf, hRl]; decide) ⟨Nat.zero_le _, Nat.zero_le _⟩ hB hD hN [0, 1] (by decide) rfl (fun _ => rfl) (fun _ => rfl) (rc_X6 hK (hB.1 0 _ rfl)) rfl hl.1 rfl rfl (Nat.le_of_ble_eq_true rfl) dX6_isDue_6 (fun H locs q3 hB => ?_)
    have hB : WB E ad s.heap [wReader E a_rd (a_tk 0) q_rd_0_phrase q_rd_0_script r2, wTokens E a_tk q_tk_0_bytes u_tk] H locs := hB
    refine lv_iload_n hx hb dX6_isDue_9 rfl (lv_at hl 1 rfl) ?_
    subst hf
    exact hQ _ _ H locs (fun _ => 0) x_1 rfl hB dX6_isDue_10
set_option maxHeartbeats 4000000 in
set_option maxRecDepth 20000 in
theorem tX7_isFull (l : Launch) (E : Ev) (n_r : Nat) (a_r : Nat → Nat) (u_r : St) (res : Int32) (hf : fX7_isFull n_r u_r = res) : MP l E yX7_isFull cX7_isFull 1 (some .boolean) (rmm 0 0) [wRoll E n_r a_r u_r] [.ref (a_r 0)] (some (.int res)) := by
  unfold fX7_isFull at hf
  refine MP.ofZZ rfl (by decide) (Nat.le_of_ble_eq_true rfl) ?_
  intro p e R s m args below meth c ls Q hRf hRl C hP hK hN hl hQ
  have hx := C.1
  have hb := C.2.1
  have hl : lv_has ls 1 [(0, .ref (a_r 0))] := hl
  refine lv_aload_n hx hb dX7_isFull_0 rfl (lv_at hl 0 rfl) ?_
  refine gf_X7_X7_size C hK (hP 0 _ rfl) dX7_isFull_1 ?_
  refine lv_aload_n hx hb dX7_isFull_4 rfl (lv_at hl 0 rfl) ?_
  refine gf_X7_X7_most C hK (hP 0 _ rfl) dX7_isFull_5 ?_
  obtain ⟨x1, ex1, hf⟩ := ox_ex hf
  have hjx1 : W p l e R s m args below meth c s.heap [] 0 0 Q (F0 m 16 ls [.int x1]) := by
    subst hf
    exact hQ _ _ x1 rfl dX7_isFull_16
  refine lv_icmp_lt (tgt := 15) hx hb dX7_isFull_8 (by decide) (fun c2 => ?_) (fun c2 => ?_)
  · refine lv_iconst (v := 0) hx hb dX7_isFull_15 (by decide) ?_
    exact ox_topi ((ex1).trans (if_pos c2)).symm hjx1
  · refine lv_iconst (v := 1) hx hb dX7_isFull_11 (by decide) ?_
    refine lv_goto (tgt := 16) hx hb dX7_isFull_12 (by decide) ?_
    exact ox_topi ((ex1).trans (if_neg c2)).symm hjx1
set_option maxHeartbeats 4000000 in
set_option maxRecDepth 20000 in
theorem tX6_readName (l : Launch) (E : Ev) (a_rd : Nat → Nat) (q_rd_0_phrase : Nat) (q_rd_0_script : Nat) (u_rd : St) (a_tk : Nat → Nat) (q_tk_0_bytes : Nat) (u_tk : St) (res : Int32 × St) (hf : fX6_readName u_rd u_tk = res) : MX l E yX6_readName cX6_readName 1 (some .int) (rmm 2 42) [wReader E a_rd (a_tk 0) q_rd_0_phrase q_rd_0_script u_rd, wTokens E a_tk q_tk_0_bytes u_tk] (fun q => [wReader E a_rd (a_tk 0) q_rd_0_phrase q_rd_0_script res.2, wTokens E a_tk q_tk_0_bytes u_tk]) [.ref (a_rd 0)] (some (.int res.1)) := by
  unfold fX6_readName at hf
  refine MX.ofI rfl (by decide) (Nat.le_of_ble_eq_true rfl) ?_
  intro p e R s m args below meth c ls Q ad H hRf hRl C hB hD hK hN hl hQ
  generalize hlocs : ([] : List Loc) = locs at hB ⊢
  clear hlocs
  have hx := C.1
  have hb := C.2.1
  have hl : lv_has ls 1 [(0, .ref (a_rd 0))] := hl
  refine lv_aload_n hx hb dX6_readName_0 rfl (lv_at hl 0 rfl) ?_
  refine lv_aload_n hx hb dX6_readName_1 rfl (lv_at hl 0 rfl) ?_
  refine gf_X6_X6_tokens C hK (hB.1 0 _ rfl) dX6_readName_2 ?_
  refine gf_X6_X10_kind C hK (hB.1 1 _ rfl) dX6_readName_5 ?_
  refine lv_iconst (v := 3) hx hb dX6_readName_8 (by decide) ?_
  obtain ⟨x1, ex1, hf⟩ := ox_ex hf
  have hjx1 : W p l e R s m args below meth c H locs 0 0 Q (F0 m 17 ls [.int x1, .ref (a_rd 0)]) := by
    obtain ⟨r2, er2, hf⟩ := ox_ex hf
    refine cxVX (bs1 := (fun q => [wReader E a_rd (a_tk 0) q_rd_0_phrase q_rd_0_script r2.2, wTokens E a_tk q_tk_0_bytes u_tk])) (As := [.int x1]) (rest := []) (st1 := [.int r2.1]) C hK (tX6_isDue l E a_rd q_rd_0_phrase q_rd_0_script u_rd a_tk q_tk_0_bytes u_tk x1 r2 er2.symm) lk_X6_57 (by rw [hRf, hRl]; decide) ⟨Nat.zero_le _, Nat.zero_le _⟩ hB hD hN [0, 1] (by decide) rfl (fun _ => rfl) (fun _ => rfl) (rc_X6 hK (hB.1 0 _ rfl)) rfl hl.1 rfl rfl (Nat.le_of_ble_eq_true rfl) dX6_readName_17 (fun H locs q3 hB => ?_)
    have hB : WB E ad s.heap [wReader E a_rd (a_tk 0) q_rd_0_phrase q_rd_0_script r2.2, wTokens E a_tk q_tk_0_bytes u_tk] H locs := hB
    obtain ⟨x4, ex4, hf⟩ := ox_ex hf
    have hjx4 : W p l e R s m args below meth c H locs 0 0 Q (F0 m 34 ls [.int x4]) := by
      subst hf
      exact hQ _ _ H locs (fun _ => 0) hB dX6_readName_34
    refine lv_if_eq (tgt := 33) hx hb dX6_readName_20 (by decide) (fun c5 => ?_) (fun c5 => ?_)
    · refine lv_iconst (v := 0) hx hb dX6_readName_33 (by decide) ?_
      exact ox_topi ((ex4).trans (if_pos c5)).symm hjx4
    · refine lv_aload_n hx hb dX6_readName_23 rfl (lv_at hl 0 rfl) ?_
      refine gf_X6_X6_tokens C hK (hB.1 0 _ rfl) dX6_readName_24 ?_
      refine gf_X6_X10_value C hK (hB.1 1 _ rfl) dX6_readName_27 ?_
      refine lv_goto (tgt := 34) hx hb dX6_readName_30 (by decide) ?_
      exact ox_topi ((ex4).trans (if_neg c5)).symm hjx4
  refine lv_icmp_ne (tgt := 16) hx hb dX6_readName_9 (by decide) (fun c6 => ?_) (fun c6 => ?_)
  · refine lv_iconst (v := 0) hx hb dX6_readName_16 (by decide) ?_
    exact ox_topi ((ex1).trans (if_neg c6)).symm hjx1
  · refine lv_iconst (v := 1) hx hb dX6_readName_12 (by decide) ?_
    refine lv_goto (tgt := 17) hx hb dX6_readName_13 (by decide) ?_
    exact ox_topi ((ex1).trans (if_pos c6)).symm hjx1
set_option maxHeartbeats 4000000 in
set_option maxRecDepth 20000 in
theorem tX6_passName (l : Launch) (E : Ev) (a_rd : Nat → Nat) (q_rd_0_phrase : Nat) (q_rd_0_script : Nat) (u_rd : St) (a_tk : Nat → Nat) (u_tk : St) (n_tp : Nat) (a_tp : Nat → Nat) (u_tp : St) (res : St) (hf : fX6_passName n_tp u_rd u_tk u_tp = some res) : MX l E yX6_passName cX6_passName 1 none (rmm 3 71) [wReader E a_rd (a_tk 0) q_rd_0_phrase q_rd_0_script u_rd, wTokens E a_tk (a_tp 0) u_tk, wBArr E n_tp a_tp u_tp] (fun q => [wReader E a_rd (a_tk 0) q_rd_0_phrase q_rd_0_script u_rd, wTokens E a_tk (a_tp 0) res, wBArr E n_tp a_tp u_tp]) [.ref (a_rd 0)] none := by
  unfold fX6_passName at hf
  refine MX.ofV rfl (by decide) (Nat.le_of_ble_eq_true rfl) ?_
  intro p e R s m args below meth c ls Q ad H hRf hRl C hB hD hK hN hl hQ
  generalize hlocs : ([] : List Loc) = locs at hB ⊢
  clear hlocs
  have hx := C.1
  have hb := C.2.1
  have hl : lv_has ls 1 [(0, .ref (a_rd 0))] := hl
  refine lv_aload_n hx hb dX6_passName_0 rfl (lv_at hl 0 rfl) ?_
  refine gf_X6_X6_faultKind C hK (hB.1 0 _ rfl) dX6_passName_1 ?_
  refine lv_if_ne (tgt := 14) hx hb dX6_passName_4 (by decide) (fun c1 => ?_) (fun c1 => ?_)
  · have hf := (if_neg c1).symm.trans hf
    have hf := Option.some.inj hf
    subst hf
    exact hQ _ _ H locs (fun _ => 0) hB dX6_passName_14
  · have hf := (if_pos c1).symm.trans hf
    refine lv_aload_n hx hb dX6_passName_7 rfl (lv_at hl 0 rfl) ?_
    refine gf_X6_X6_tokens C hK (hB.1 0 _ rfl) dX6_passName_8 ?_
    obtain ⟨r2, hr2, hf⟩ := ox_bind hf
    refine cxVX (bs1 := (fun q => [wReader E a_rd (a_tk 0) q_rd_0_phrase q_rd_0_script u_rd, wTokens E a_tk (a_tp 0) r2, wBArr E n_tp a_tp u_tp])) (As := []) (rest := []) (st1 := []) C hK (tX10_next l E a_tk u_tk n_tp a_tp u_tp r2 hr2) lk_X6_64 (by rw [hRf, hRl]; decide) ⟨Nat.zero_le _, Nat.zero_le _⟩ hB hD hN [1, 2] (by decide) rfl (fun _ => rfl) (fun _ => rfl) (rc_X10 hK (hB.1 1 _ rfl)) rfl hl.1 rfl rfl (Nat.le_of_ble_eq_true rfl) dX6_passName_11 (fun H locs q3 hB => ?_)
    have hB : WB E ad s.heap [wReader E a_rd (a_tk 0) q_rd_0_phrase q_rd_0_script u_rd, wTokens E a_tk (a_tp 0) r2, wBArr E n_tp a_tp u_tp] H locs := hB
    have hf := Option.some.inj hf
    subst hf
    exact hQ _ _ H locs (fun _ => 0) hB dX6_passName_14
set_option maxHeartbeats 4000000 in
set_option maxRecDepth 20000 in
theorem tX6_readNumber (l : Launch) (E : Ev) (a_rd : Nat → Nat) (q_rd_0_phrase : Nat) (q_rd_0_script : Nat) (u_rd : St) (a_tk : Nat → Nat) (u_tk : St) (n_tp : Nat) (a_tp : Nat → Nat) (u_tp : St) (x_1 : Int32) (x_2 : Int32) (res : Int32 × St × St) (hf : fX6_readNumber n_tp u_rd u_tk u_tp x_1 x_2 = some res) : MX l E yX6_readNumber cX6_readNumber 4 (some .int) (rmm 3 71) [wReader E a_rd (a_tk 0) q_rd_0_phrase q_rd_0_script u_rd, wTokens E a_tk (a_tp 0) u_tk, wBArr E n_tp a_tp u_tp] (fun q => [wReader E a_rd (a_tk 0) q_rd_0_phrase q_rd_0_script res.2.1, wTokens E a_tk (a_tp 0) res.2.2, wBArr E n_tp a_tp u_tp]) [.ref (a_rd 0), .int x_1, .int x_2] (some (.int res.1)) := by
  unfold fX6_readNumber at hf
  refine MX.ofI rfl (by decide) (Nat.le_of_ble_eq_true rfl) ?_
  intro p e R s m args below meth c ls Q ad H hRf hRl C hB hD hK hN hl hQ
  generalize hlocs : ([] : List Loc) = locs at hB ⊢
  clear hlocs
  have hx := C.1
  have hb := C.2.1
  have hl : lv_has ls 4 [(0, .ref (a_rd 0)), (1, .int x_1), (2, .int x_2)] := hl
  refine lv_aload_n hx hb dX6_readNumber_0 rfl (lv_at hl 0 rfl) ?_
  refine gf_X6_X6_faultKind C hK (hB.1 0 _ rfl) dX6_readNumber_1 ?_
  refine lv_if_ne (tgt := 30) hx hb dX6_readNumber_4 (by decide) (fun c1 => ?_) (fun c1 => ?_)
  · have hf := (if_neg c1).symm.trans hf
    refine lv_iconst (v := 0) hx hb dX6_readNumber_30 (by decide) ?_
    have hf := Option.some.inj hf
    subst hf
    exact hQ _ _ H locs (fun _ => 0) hB dX6_readNumber_31
  · have hf := (if_pos c1).symm.trans hf
    refine lv_aload_n hx hb dX6_readNumber_7 rfl (lv_at hl 0 rfl) ?_
    refine lv_aload_n hx hb dX6_readNumber_8 rfl (lv_at hl 0 rfl) ?_
    refine gf_X6_X6_tokens C hK (hB.1 0 _ rfl) dX6_readNumber_9 ?_
    refine gf_X6_X10_kind C hK (hB.1 1 _ rfl) dX6_readNumber_12 ?_
    refine lv_iconst (v := 1) hx hb dX6_readNumber_15 (by decide) ?_
    obtain ⟨x2, ex2, hf⟩ := ox_ex hf
    have hjx2 : W p l e R s m args below meth c H locs 0 0 Q (F0 m 24 ls [.int x2, .ref (a_rd 0)]) := by
      obtain ⟨r3, er3, hf⟩ := ox_ex hf
      refine cxVX (bs1 := (fun q => [wReader E a_rd (a_tk 0) q_rd_0_phrase q_rd_0_script r3.2, wTokens E a_tk (a_tp 0) u_tk, wBArr E n_tp a_tp u_tp])) (As := [.int x2]) (rest := []) (st1 := [.int r3.1]) C hK (tX6_isDue l E a_rd q_rd_0_phrase q_rd_0_script u_rd a_tk (a_tp 0) u_tk x2 r3 er3.symm) lk_X6_57 (by rw [hRf, hRl]; decide) ⟨Nat.zero_le _, Nat.zero_le _⟩ hB hD hN [0, 1] (by decide) rfl (fun _ => rfl) (fun _ => rfl) (rc_X6 hK (hB.1 0 _ rfl)) rfl hl.1 rfl rfl (Nat.le_of_ble_eq_true rfl) dX6_readNumber_24 (fun H locs q4 hB => ?_)
      have hB : WB E ad s.heap [wReader E a_rd (a_tk 0) q_rd_0_phrase q_rd_0_script r3.2, wTokens E a_tk (a_tp 0) u_tk, wBArr E n_tp a_tp u_tp] H locs := hB
      refine lv_if_ne (tgt := 32) hx hb dX6_readNumber_27 (by decide) (fun c5 => ?_) (fun c5 => ?_)
      · have hf := (if_neg c5).symm.trans hf
        refine lv_aload_n hx hb dX6_readNumber_32 rfl (lv_at hl 0 rfl) ?_
        refine gf_X6_X6_tokens C hK (hB.1 0 _ rfl) dX6_readNumber_33 ?_
        refine gf_X6_X10_value C hK (hB.1 1 _ rfl) dX6_readNumber_36 ?_
        refine lv_topi (fun x6 ex6 => ?_)
        have hf := ox_lt ex6 hf
        refine lv_istore_n (lv' := [(3, .int x6), (0, .ref (a_rd 0)), (1, .int x_1), (2, .int x_2)]) hx hb dX6_readNumber_39 rfl hl (by decide) rfl (fun ls hl => ?_)
        refine lv_iload_n hx hb dX6_readNumber_40 rfl (lv_at hl 0 rfl) ?_
        refine lv_iload_n hx hb dX6_readNumber_41 rfl (lv_at hl 2 rfl) ?_
        obtain ⟨j7, ej7, hf⟩ := ox_ex hf
        have hj7 : ∀ (ls : Array Slot) (H : Heap) (locs : List Loc), lv_has ls 4 [(0, .ref (a_rd 0))] → WB E ad s.heap [wReader E a_rd (a_tk 0) q_rd_0_phrase q_rd_0_script r3.2, wTokens E a_tk (a_tp 0) u_tk, wBArr E n_tp a_tp u_tp] H locs → j7 = some res → W p l e R s m args below meth c H locs 0 0 Q (F0 m 50 ls []) := by
          intro ls H locs hl hB hf
          have hf := ox_a0 ej7 hf
          refine lv_aload_n hx hb dX6_readNumber_50 rfl (lv_at hl 0 rfl) ?_
          refine lv_iconst (v := 2) hx hb dX6_readNumber_51 (by decide) ?_
          obtain ⟨r8, er8, hf⟩ := ox_ex hf
          refine cxVX (bs1 := (fun q => [wReader E a_rd (a_tk 0) q_rd_0_phrase q_rd_0_script r8, wTokens E a_tk (a_tp 0) u_tk, wBArr E n_tp a_tp u_tp])) (As := [.int (2 : Int32)]) (rest := []) (st1 := []) C hK (tX6_blame l E a_rd q_rd_0_phrase q_rd_0_script (r3.2) a_tk (a_tp 0) u_tk (2 : Int32) r8 er8.symm) lk_X6_70 (by rw [hRf, hRl]; decide) ⟨Nat.zero_le _, Nat.zero_le _⟩ hB hD hN [0, 1] (by decide) rfl (fun _ => rfl) (fun _ => rfl) (rc_X6 hK (hB.1 0 _ rfl)) rfl hl.1 rfl rfl (Nat.le_of_ble_eq_true rfl) dX6_readNumber_52 (fun H locs q9 hB => ?_)
          have hB : WB E ad s.heap [wReader E a_rd (a_tk 0) q_rd_0_phrase q_rd_0_script r8, wTokens E a_tk (a_tp 0) u_tk, wBArr E n_tp a_tp u_tp] H locs := hB
          refine lv_iconst (v := 0) hx hb dX6_readNumber_55 (by decide) ?_
          have hf := Option.some.inj hf
          subst hf
          exact hQ _ _ H locs (fun _ => 0) hB dX6_readNumber_56
        refine lv_icmp_lt (tgt := 50) hx hb dX6_readNumber_42 (by decide) (fun c10 => ?_) (fun c10 => ?_)
        · have hf := (if_pos c10).symm.trans hf
          exact hj7 ls H locs (lv_sub hl [1] rfl) hB hf
        · have hf := (if_neg c10).symm.trans hf
          refine lv_iload_n hx hb dX6_readNumber_45 rfl (lv_at hl 0 rfl) ?_
          refine lv_iload_n hx hb dX6_readNumber_46 rfl (lv_at hl 3 rfl) ?_
          refine lv_icmp_le (tgt := 57) hx hb dX6_readNumber_47 (by decide) (fun c11 => ?_) (fun c11 => ?_)
          · have hf := (if_pos c11).symm.trans hf
            refine lv_aload_n hx hb dX6_readNumber_57 rfl (lv_at hl 1 rfl) ?_
            refine gf_X6_X6_tokens C hK (hB.1 0 _ rfl) dX6_readNumber_58 ?_
            obtain ⟨r12, hr12, hf⟩ := ox_bind hf
            refine cxVX (bs1 := (fun q => [wReader E a_rd (a_tk 0) q_rd_0_phrase q_rd_0_script r3.2, wTokens E a_tk (a_tp 0) r12, wBArr E n_tp a_tp u_tp])) (As := []) (rest := []) (st1 := []) C hK (tX10_next l E a_tk u_tk n_tp a_tp u_tp r12 hr12) lk_X6_64 (by rw [hRf, hRl]; decide) ⟨Nat.zero_le _, Nat.zero_le _⟩ hB hD hN [1, 2] (by decide) rfl (fun _ => rfl) (fun _ => rfl) (rc_X10 hK (hB.1 1 _ rfl)) rfl hl.1 rfl rfl (Nat.le_of_ble_eq_true rfl) dX6_readNumber_61 (fun H locs q13 hB => ?_)
            have hB : WB E ad s.heap [wReader E a_rd (a_tk 0) q_rd_0_phrase q_rd_0_script r3.2, wTokens E a_tk (a_tp 0) r12, wBArr E n_tp a_tp u_tp] H locs := hB
            refine lv_iload_n hx hb dX6_readNumber_64 rfl (lv_at hl 0 rfl) ?_
            have hf := Option.some.inj hf
            subst hf
            exact hQ _ _ H locs (fun _ => 0) hB dX6_readNumber_65
          · have hf := (if_neg c11).symm.trans hf
            exact hj7 ls H locs (lv_sub hl [1] rfl) hB hf
      · have hf := (if_pos c5).symm.trans hf
        refine lv_iconst (v := 0) hx hb dX6_readNumber_30 (by decide) ?_
        have hf := Option.some.inj hf
        subst hf
        exact hQ _ _ H locs (fun _ => 0) hB dX6_readNumber_31
    refine lv_icmp_ne (tgt := 23) hx hb dX6_readNumber_16 (by decide) (fun c14 => ?_) (fun c14 => ?_)
    · refine lv_iconst (v := 0) hx hb dX6_readNumber_23 (by decide) ?_
      exact ox_topi ((ex2).trans (if_neg c14)).symm hjx2
    · refine lv_iconst (v := 1) hx hb dX6_readNumber_19 (by decide) ?_
      refine lv_goto (tgt := 24) hx hb dX6_readNumber_20 (by decide) ?_
      exact ox_topi ((ex2).trans (if_pos c14)).symm hjx2
set_option maxHeartbeats 4000000 in
set_option maxRecDepth 20000 in
theorem tX7_add (l : Launch) (E : Ev) (n_r : Nat) (a_r : Nat → Nat) (u_r : St) (x_1 : Int32) (x_2 : Int32) (x_3 : Int32) (x_4 : Int32) (res : St) (hf : fX7_add n_r u_r x_1 x_2 x_3 x_4 = some res) : MX l E yX7_add cX7_add 5 none (rmm 0 0) [wRoll E n_r a_r u_r] (fun q => [wRoll E n_r a_r res]) [.ref (a_r 0), .int x_1, .int x_2, .int x_3, .int x_4] none := by
  unfold fX7_add at hf
  refine MX.ofV rfl (by decide) (Nat.le_of_ble_eq_true rfl) ?_
  intro p e R s m args below meth c ls Q ad H hRf hRl C hB hD hK hN hl hQ
  generalize hlocs : ([] : List Loc) = locs at hB ⊢
  clear hlocs
  have hx := C.1
  have hb := C.2.1
  have hl : lv_has ls 5 [(0, .ref (a_r 0)), (1, .int x_1), (2, .int x_2), (3, .int x_3), (4, .int x_4)] := hl
  refine lv_aload_n hx hb dX7_add_0 rfl (lv_at hl 0 rfl) ?_
  refine gf_X7_X7_size C hK (hB.1 0 _ rfl) dX7_add_1 ?_
  refine lv_aload_n hx hb dX7_add_4 rfl (lv_at hl 0 rfl) ?_
  refine gf_X7_X7_most C hK (hB.1 0 _ rfl) dX7_add_5 ?_
  refine lv_icmp_ge (tgt := 62) hx hb dX7_add_8 (by decide) (fun c1 => ?_) (fun c1 => ?_)
  · have hf := (if_pos c1).symm.trans hf
    have hf := Option.some.inj hf
    subst hf
    exact hQ _ _ H locs (fun _ => 0) hB dX7_add_62
  · have hf := (if_neg c1).symm.trans hf
    refine lv_aload_n hx hb dX7_add_11 rfl (lv_at hl 0 rfl) ?_
    refine gf_X7_X7_letters C hK (hB.1 0 _ rfl) dX7_add_12 ?_
    refine lv_aload_n hx hb dX7_add_15 rfl (lv_at hl 0 rfl) ?_
    refine gf_X7_X7_size C hK (hB.1 0 _ rfl) dX7_add_16 ?_
    refine lv_iload_n hx hb dX7_add_19 rfl (lv_at hl 1 rfl) ?_
    obtain ⟨hn2, hf⟩ := ox_chk hf
    refine st_X7_letters C hK hB hD 0 rfl hn2 rfl dX7_add_20 (fun H locs u3 eu3 hB => ?_)
    have hf := ox_lt eu3 hf
    have hB : WB E ad s.heap [wRoll E n_r a_r u3] H locs := hB
    refine lv_aload_n hx hb dX7_add_21 rfl (lv_at hl 0 rfl) ?_
    refine gf_X7_X7_first C hK (hB.1 0 _ rfl) dX7_add_22 ?_
    refine lv_aload_n hx hb dX7_add_25 rfl (lv_at hl 0 rfl) ?_
    refine gf_X7_X7_size C hK (hB.1 0 _ rfl) dX7_add_26 ?_
    refine lv_iload_n hx hb dX7_add_29 rfl (lv_at hl 2 rfl) ?_
    obtain ⟨hn4, hf⟩ := ox_chk hf
    refine st_X7_first C hK hB hD 0 rfl hn4 rfl dX7_add_30 (fun H locs u5 eu5 hB => ?_)
    have hf := ox_lt eu5 hf
    have hB : WB E ad s.heap [wRoll E n_r a_r u5] H locs := hB
    refine lv_aload_n hx hb dX7_add_31 rfl (lv_at hl 0 rfl) ?_
    refine gf_X7_X7_second C hK (hB.1 0 _ rfl) dX7_add_32 ?_
    refine lv_aload_n hx hb dX7_add_35 rfl (lv_at hl 0 rfl) ?_
    refine gf_X7_X7_size C hK (hB.1 0 _ rfl) dX7_add_36 ?_
    refine lv_iload_n hx hb dX7_add_39 rfl (lv_at hl 3 rfl) ?_
    obtain ⟨hn6, hf⟩ := ox_chk hf
    refine st_X7_second C hK hB hD 0 rfl hn6 rfl dX7_add_40 (fun H locs u7 eu7 hB => ?_)
    have hf := ox_lt eu7 hf
    have hB : WB E ad s.heap [wRoll E n_r a_r u7] H locs := hB
    refine lv_aload_n hx hb dX7_add_41 rfl (lv_at hl 0 rfl) ?_
    refine gf_X7_X7_third C hK (hB.1 0 _ rfl) dX7_add_42 ?_
    refine lv_aload_n hx hb dX7_add_45 rfl (lv_at hl 0 rfl) ?_
    refine gf_X7_X7_size C hK (hB.1 0 _ rfl) dX7_add_46 ?_
    refine lv_iload hx hb dX7_add_49 (lv_at hl 4 rfl) ?_
    obtain ⟨hn8, hf⟩ := ox_chk hf
    refine st_X7_third C hK hB hD 0 rfl hn8 rfl dX7_add_51 (fun H locs u9 eu9 hB => ?_)
    have hf := ox_lt eu9 hf
    have hB : WB E ad s.heap [wRoll E n_r a_r u9] H locs := hB
    refine lv_aload_n hx hb dX7_add_52 rfl (lv_at hl 0 rfl) ?_
    refine lv_dup hx hb dX7_add_53 rfl ?_
    refine gf_X7_X7_size C hK (hB.1 0 _ rfl) dX7_add_54 ?_
    refine lv_iconst (v := 1) hx hb dX7_add_57 (by decide) ?_
    refine lv_iadd hx hb dX7_add_58 ?_
    refine lv_topi (fun x10 ex10 => ?_)
    have hf := ox_lt ex10 hf
    refine pf_X7_X7_size C hK hB hD 0 rfl dX7_add_59 (fun H locs u11 eu11 hB => ?_)
    have hf := ox_lt eu11 hf
    have hB : WB E ad s.heap [wRoll E n_r a_r u11] H locs := hB
    have hf := Option.some.inj hf
    subst hf
    exact hQ _ _ H locs (fun _ => 0) hB dX7_add_62
set_option maxHeartbeats 4000000 in
set_option maxRecDepth 20000 in
theorem tX7_find (l : Launch) (E : Ev) (n_r : Nat) (a_r : Nat → Nat) (u_r : St) (x_1 : Int32) (res : Int32) (hf : fX7_find n_r u_r x_1 = some res) : MP l E yX7_find cX7_find 3 (some .int) (rmm 0 0) [wRoll E n_r a_r u_r] [.ref (a_r 0), .int x_1] (some (.int res)) := by
  unfold fX7_find at hf
  refine MP.ofI rfl (by decide) (Nat.le_of_ble_eq_true rfl) ?_
  intro p e R s m args below meth c ls Q hRf hRl C hP hK hN hl hQ
  have hx := C.1
  have hb := C.2.1
  have hl : lv_has ls 3 [(0, .ref (a_r 0)), (1, .int x_1)] := hl
  refine lv_iconst (v := 0) hx hb dX7_find_0 (by decide) ?_
  refine lv_istore_n (lv' := [(2, .int (0 : Int32)), (0, .ref (a_r 0)), (1, .int x_1)]) hx hb dX7_find_1 rfl hl (by decide) rfl (fun ls hl => ?_)
  obtain ⟨X1, hX1, hf⟩ := ox_bind hf
  have hexit1 : ∀ y6, .inl y6 = X1 → ∀ (ls : Array Slot), lv_has ls 3 [] → W p l e R s m args below meth c s.heap [] 0 0 Q (F0 m 28 ls []) := by
    intro y6 hy ls hl
    subst hy
    have hf := ox_inl hf
    refine lv_iconst (v := (-1)) hx hb dX7_find_28 (by decide) ?_
    have hf := Option.some.inj hf
    subst hf
    exact hQ _ _ dX7_find_29
  have hret1 : ∀ r, .inr r = X1 → r = res := by
    intro r hr
    subst hr
    exact Option.some.inj (ox_inr hf)
  have hloop1 : ∀ (nf : Nat) (x1 : Int32) (ls : Array Slot), lv_has ls 3 [(0, .ref (a_r 0)), (1, .int x_1), (2, .int x1)] → fX7_find_L1 u_r n_r x_1 nf x1 = some X1 → W p l e R s m args below meth c s.heap [] 0 0 Q (F0 m 2 ls []) := by
    intro nf
    induction nf with
    | zero =>
      intro x1 ls hl hf
      simp [fX7_find_L1] at hf
    | succ nf ih =>
      intro x1 ls hl hf
      rw [fX7_find_L1] at hf
      refine lv_iload_n hx hb dX7_find_2 rfl (lv_at hl 2 rfl) ?_
      refine lv_aload_n hx hb dX7_find_3 rfl (lv_at hl 0 rfl) ?_
      refine gf_X7_X7_size C hK (hP 0 _ rfl) dX7_find_4 ?_
      refine lv_icmp_ge (tgt := 28) hx hb dX7_find_7 (by decide) (fun c2 => ?_) (fun c2 => ?_)
      · have hf := (if_pos c2).symm.trans hf
        exact hexit1 _ (Option.some.inj hf) ls (lv_sub hl [] rfl)
      · have hf := (if_neg c2).symm.trans hf
        refine lv_aload_n hx hb dX7_find_10 rfl (lv_at hl 0 rfl) ?_
        refine gf_X7_X7_letters C hK (hP 0 _ rfl) dX7_find_11 ?_
        refine lv_iload_n hx hb dX7_find_14 rfl (lv_at hl 2 rfl) ?_
        obtain ⟨hn3, hf⟩ := ox_chk hf
        refine ld_X7_letters C hK (hP 0 _ rfl) hn3 rfl dX7_find_15 ?_
        refine lv_iload_n hx hb dX7_find_16 rfl (lv_at hl 1 rfl) ?_
        refine lv_icmp_ne (tgt := 22) hx hb dX7_find_17 (by decide) (fun c4 => ?_) (fun c4 => ?_)
        · have hf := (if_neg c4).symm.trans hf
          obtain ⟨x5, ex5⟩ : ∃ z : Int32, z = (x1 + 1) := ⟨_, rfl⟩
          have hf := ox_lt ex5 hf
          refine lv_iinc (v := x5) (lv' := [(2, .int x5), (0, .ref (a_r 0)), (1, .int x_1)]) hx hb dX7_find_22 hl (k := 2) rfl (by rw [ex5]; rfl) (by decide) rfl (fun ls hl => ?_)
          refine lv_goto (tgt := 2) hx hb dX7_find_25 (by decide) ?_
          exact ih _ ls (lv_sub hl [1, 2, 0] rfl) hf
        · have hf := (if_pos c4).symm.trans hf
          refine lv_iload_n hx hb dX7_find_20 rfl (lv_at hl 2 rfl) ?_
          have hf := hret1 _ (Option.some.inj hf)
          subst hf
          exact hQ _ _ dX7_find_21
  exact hloop1 fuel _ ls (lv_sub hl [1, 2, 0] rfl) hX1
set_option maxHeartbeats 4000000 in
set_option maxRecDepth 20000 in
theorem tX6_readThing (l : Launch) (E : Ev) (a_rd : Nat → Nat) (q_rd_0_phrase : Nat) (q_rd_0_script : Nat) (u_rd : St) (a_tk : Nat → Nat) (u_tk : St) (n_tp : Nat) (a_tp : Nat → Nat) (u_tp : St) (n_r : Nat) (a_r : Nat → Nat) (u_r : St) (x_2 : Int32) (x_3 : Int32) (res : St × St × St) (hf : fX6_readThing n_tp n_r u_rd u_tk u_tp u_r x_2 x_3 = some res) : MX l E yX6_readThing cX6_readThing 9 none (rmm 4 94) [wReader E a_rd (a_tk 0) q_rd_0_phrase q_rd_0_script u_rd, wTokens E a_tk (a_tp 0) u_tk, wBArr E n_tp a_tp u_tp, wRoll E n_r a_r u_r] (fun q => [wReader E a_rd (a_tk 0) q_rd_0_phrase q_rd_0_script res.1, wTokens E a_tk (a_tp 0) res.2.1, wBArr E n_tp a_tp u_tp, wRoll E n_r a_r res.2.2]) [.ref (a_rd 0), .ref (a_r 0), .int x_2, .int x_3] none := by
  unfold fX6_readThing at hf
  refine MX.ofV rfl (by decide) (Nat.le_of_ble_eq_true rfl) ?_
  intro p e R s m args below meth c ls Q ad H hRf hRl C hB hD hK hN hl hQ
  generalize hlocs : ([] : List Loc) = locs at hB ⊢
  clear hlocs
  have hx := C.1
  have hb := C.2.1
  have hl : lv_has ls 9 [(0, .ref (a_rd 0)), (1, .ref (a_r 0)), (2, .int x_2), (3, .int x_3)] := hl
  refine lv_aload_n hx hb dX6_readThing_0 rfl (lv_at hl 1 rfl) ?_
  refine cxVP (As := []) (rest := []) (st1 := [.int (fX7_isFull n_r u_r)]) C hK (tX7_isFull l E n_r a_r u_r (fX7_isFull n_r u_r) rfl) lk_X6_103 ⟨rfl, rfl⟩ (by rw [hRf, hRl]; decide) ⟨Nat.zero_le _, Nat.zero_le _⟩ (PB.sub hB.1 [3] rfl) (hB.old hD hN) (Nat.le_trans hN hB.2.2.1) (rc_X7 hK (hB.1 3 _ rfl)) rfl hl.1 rfl rfl (Nat.le_of_ble_eq_true rfl) dX6_readThing_1 ?_
  refine lv_if_eq (tgt := 13) hx hb dX6_readThing_4 (by decide) (fun c1 => ?_) (fun c1 => ?_)
  · have hf := (if_pos c1).symm.trans hf
    refine lv_aload_n hx hb dX6_readThing_13 rfl (lv_at hl 0 rfl) ?_
    refine gf_X6_X6_tokens C hK (hB.1 0 _ rfl) dX6_readThing_14 ?_
    obtain ⟨r2, hr2, hf⟩ := ox_bind hf
    refine cxVX (bs1 := (fun q => [wReader E a_rd (a_tk 0) q_rd_0_phrase q_rd_0_script u_rd, wTokens E a_tk (a_tp 0) r2, wBArr E n_tp a_tp u_tp, wRoll E n_r a_r u_r])) (As := []) (rest := []) (st1 := []) C hK (tX10_next l E a_tk u_tk n_tp a_tp u_tp r2 hr2) lk_X6_64 (by rw [hRf, hRl]; decide) ⟨Nat.zero_le _, Nat.zero_le _⟩ hB hD hN [1, 2] (by decide) rfl (fun _ => rfl) (fun _ => rfl) (rc_X10 hK (hB.1 1 _ rfl)) rfl hl.1 rfl rfl (Nat.le_of_ble_eq_true rfl) dX6_readThing_17 (fun H locs q3 hB => ?_)
    have hB : WB E ad s.heap [wReader E a_rd (a_tk 0) q_rd_0_phrase q_rd_0_script u_rd, wTokens E a_tk (a_tp 0) r2, wBArr E n_tp a_tp u_tp, wRoll E n_r a_r u_r] H locs := hB
    refine lv_aload_n hx hb dX6_readThing_20 rfl (lv_at hl 0 rfl) ?_
    obtain ⟨r4, er4, hf⟩ := ox_ex hf
    refine cxVX (bs1 := (fun q => [wReader E a_rd (a_tk 0) q_rd_0_phrase q_rd_0_script r4.2, wTokens E a_tk (a_tp 0) r2, wBArr E n_tp a_tp u_tp, wRoll E n_r a_r u_r])) (As := []) (rest := []) (st1 := [.int r4.1]) C hK (tX6_readName l E a_rd q_rd_0_phrase q_rd_0_script u_rd a_tk (a_tp 0) r2 r4 er4.symm) lk_X6_109 (by rw [hRf, hRl]; decide) ⟨Nat.zero_le _, Nat.zero_le _⟩ hB hD hN [0, 1] (by decide) rfl (fun _ => rfl) (fun _ => rfl) (rc_X6 hK (hB.1 0 _ rfl)) rfl hl.1 rfl rfl (Nat.le_of_ble_eq_true rfl) dX6_readThing_21 (fun H locs q5 hB => ?_)
    have hB : WB E ad s.heap [wReader E a_rd (a_tk 0) q_rd_0_phrase q_rd_0_script r4.2, wTokens E a_tk (a_tp 0) r2, wBArr E n_tp a_tp u_tp, wRoll E n_r a_r u_r] H locs := hB
    refine lv_topi (fun x6 ex6 => ?_)
    have hf := ox_lt ex6 hf
    refine lv_istore (lv' := [(4, .int x6), (0, .ref (a_rd 0)), (1, .ref (a_r 0)), (2, .int x_2), (3, .int x_3)]) hx hb dX6_readThing_24 hl (by decide) rfl (fun ls hl => ?_)
    refine lv_aload_n hx hb dX6_readThing_26 rfl (lv_at hl 1 rfl) ?_
    refine gf_X6_X6_faultKind C hK (hB.1 0 _ rfl) dX6_readThing_27 ?_
    obtain ⟨j8, ej8, hf⟩ := ox_ex hf
    have hj8 : ∀ (u7 : St) (ls : Array Slot) (H : Heap) (locs : List Loc), lv_has ls 9 [(0, .ref (a_rd 0)), (1, .ref (a_r 0)), (2, .int x_2), (3, .int x_3), (4, .int x6)] → WB E ad s.heap [wReader E a_rd (a_tk 0) q_rd_0_phrase q_rd_0_script u7, wTokens E a_tk (a_tp 0) r2, wBArr E n_tp a_tp u_tp, wRoll E n_r a_r u_r] H locs → j8 u7 = some res → W p l e R s m args below meth c H locs 0 0 Q (F0 m 48 ls []) := by
      intro u7 ls H locs hl hB hf
      have hf := ox_a1 ej8 hf
      refine lv_aload_n hx hb dX6_readThing_48 rfl (lv_at hl 0 rfl) ?_
      obtain ⟨r9, hr9, hf⟩ := ox_bind hf
      refine cxVX (bs1 := (fun q => [wReader E a_rd (a_tk 0) q_rd_0_phrase q_rd_0_script u7, wTokens E a_tk (a_tp 0) r9, wBArr E n_tp a_tp u_tp, wRoll E n_r a_r u_r])) (As := []) (rest := []) (st1 := []) C hK (tX6_passName l E a_rd q_rd_0_phrase q_rd_0_script u7 a_tk r2 n_tp a_tp u_tp r9 hr9) lk_X6_117 (by rw [hRf, hRl]; decide) ⟨Nat.zero_le _, Nat.zero_le _⟩ hB hD hN [0, 1, 2] (by decide) rfl (fun _ => rfl) (fun _ => rfl) (rc_X6 hK (hB.1 0 _ rfl)) rfl hl.1 rfl rfl (Nat.le_of_ble_eq_true rfl) dX6_readThing_49 (fun H locs q10 hB => ?_)
      have hB : WB E ad s.heap [wReader E a_rd (a_tk 0) q_rd_0_phrase q_rd_0_script u7, wTokens E a_tk (a_tp 0) r9, wBArr E n_tp a_tp u_tp, wRoll E n_r a_r u_r] H locs := hB
      refine lv_iload_n hx hb dX6_readThing_52 rfl (lv_at hl 3 rfl) ?_
      refine lv_iconst (v := (-1)) hx hb dX6_readThing_53 (by decide) ?_
      obtain ⟨x11, ex11, hf⟩ := ox_ex hf
      have hjx11 : W p l e R s m args below meth c H locs 0 0 Q (F0 m 63 ls [.int x11]) := by
        refine lv_istore (lv' := [(5, .int x11), (0, .ref (a_rd 0)), (1, .ref (a_r 0)), (2, .int x_2), (3, .int x_3), (4, .int x6)]) hx hb dX6_readThing_63 hl (by decide) rfl (fun ls hl => ?_)
        refine lv_aload_n hx hb dX6_readThing_65 rfl (lv_at hl 1 rfl) ?_
        refine lv_iconst (v := 0) hx hb dX6_readThing_66 (by decide) ?_
        refine lv_iload hx hb dX6_readThing_67 (lv_at hl 0 rfl) ?_
        obtain ⟨r12, hr12, hf⟩ := ox_bind hf
        refine cxVX (bs1 := (fun q => [wReader E a_rd (a_tk 0) q_rd_0_phrase q_rd_0_script r12.2.1, wTokens E a_tk (a_tp 0) r12.2.2, wBArr E n_tp a_tp u_tp, wRoll E n_r a_r u_r])) (As := [.int (0 : Int32), .int x11]) (rest := []) (st1 := [.int r12.1]) C hK (tX6_readNumber l E a_rd q_rd_0_phrase q_rd_0_script u7 a_tk r9 n_tp a_tp u_tp (0 : Int32) x11 r12 hr12) lk_X6_120 (by rw [hRf, hRl]; decide) ⟨Nat.zero_le _, Nat.zero_le _⟩ hB hD hN [0, 1, 2] (by decide) rfl (fun _ => rfl) (fun _ => rfl) (rc_X6 hK (hB.1 0 _ rfl)) rfl hl.1 rfl rfl (Nat.le_of_ble_eq_true rfl) dX6_readThing_69 (fun H locs q13 hB => ?_)
        have hB : WB E ad s.heap [wReader E a_rd (a_tk 0) q_rd_0_phrase q_rd_0_script r12.2.1, wTokens E a_tk (a_tp 0) r12.2.2, wBArr E n_tp a_tp u_tp, wRoll E n_r a_r u_r] H locs := hB
        refine lv_topi (fun x14 ex14 => ?_)
        have hf := ox_lt ex14 hf
        refine lv_istore (lv' := [(6, .int x14), (5, .int x11), (0, .ref (a_rd 0)), (1, .ref (a_r 0)), (2, .int x_2), (3, .int x_3), (4, .int x6)]) hx hb dX6_readThing_72 hl (by decide) rfl (fun ls hl => ?_)
        refine lv_aload_n hx hb dX6_readThing_74 rfl (lv_at hl 2 rfl) ?_
        refine lv_iload_n hx hb dX6_readThing_75 rfl (lv_at hl 4 rfl) ?_
        refine lv_iload hx hb dX6_readThing_76 (lv_at hl 1 rfl) ?_
        obtain ⟨r15, hr15, hf⟩ := ox_bind hf
        refine cxVX (bs1 := (fun q => [wReader E a_rd (a_tk 0) q_rd_0_phrase q_rd_0_script r15.2.1, wTokens E a_tk (a_tp 0) r15.2.2, wBArr E n_tp a_tp u_tp, wRoll E n_r a_r u_r])) (As := [.int x_2, .int x11]) (rest := []) (st1 := [.int r15.1]) C hK (tX6_readNumber l E a_rd q_rd_0_phrase q_rd_0_script (r12.2.1) a_tk (r12.2.2) n_tp a_tp u_tp x_2 x11 r15 hr15) lk_X6_120 (by rw [hRf, hRl]; decide) ⟨Nat.zero_le _, Nat.zero_le _⟩ hB hD hN [0, 1, 2] (by decide) rfl (fun _ => rfl) (fun _ => rfl) (rc_X6 hK (hB.1 0 _ rfl)) rfl hl.1 rfl rfl (Nat.le_of_ble_eq_true rfl) dX6_readThing_78 (fun H locs q16 hB => ?_)
        have hB : WB E ad s.heap [wReader E a_rd (a_tk 0) q_rd_0_phrase q_rd_0_script r15.2.1, wTokens E a_tk (a_tp 0) r15.2.2, wBArr E n_tp a_tp u_tp, wRoll E n_r a_r u_r] H locs := hB
        refine lv_topi (fun x17 ex17 => ?_)
        have hf := ox_lt ex17 hf
        refine lv_istore (lv' := [(7, .int x17), (6, .int x14), (5, .int x11), (0, .ref (a_rd 0)), (1, .ref (a_r 0)), (2, .int x_2), (3, .int x_3), (4, .int x6)]) hx hb dX6_readThing_81 hl (by decide) rfl (fun ls hl => ?_)
        refine lv_iload_n hx hb dX6_readThing_83 rfl (lv_at hl 6 rfl) ?_
        refine lv_iconst (v := (-1)) hx hb dX6_readThing_84 (by decide) ?_
        obtain ⟨j21, ej21, hf⟩ := ox_ex hf
        have hj21 : ∀ (x18 : Int32) (u19 : St) (u20 : St) (ls : Array Slot) (H : Heap) (locs : List Loc), lv_has ls 9 [(0, .ref (a_rd 0)), (1, .ref (a_r 0)), (4, .int x6), (6, .int x14), (7, .int x17)] → WB E ad s.heap [wReader E a_rd (a_tk 0) q_rd_0_phrase q_rd_0_script u19, wTokens E a_tk (a_tp 0) u20, wBArr E n_tp a_tp u_tp, wRoll E n_r a_r u_r] H locs → j21 x18 u19 u20 = some res → W p l e R s m args below meth c H locs 0 0 Q (F0 m 98 ls [.int x18]) := by
          intro x18 u19 u20 ls H locs hl hB hf
          have hf := ox_a3 ej21 hf
          refine lv_istore (lv' := [(8, .int x18), (0, .ref (a_rd 0)), (1, .ref (a_r 0)), (4, .int x6), (6, .int x14), (7, .int x17)]) hx hb dX6_readThing_98 hl (by decide) rfl (fun ls hl => ?_)
          refine lv_aload_n hx hb dX6_readThing_100 rfl (lv_at hl 1 rfl) ?_
          refine gf_X6_X6_faultKind C hK (hB.1 0 _ rfl) dX6_readThing_101 ?_
          refine lv_if_ne (tgt := 119) hx hb dX6_readThing_104 (by decide) (fun c22 => ?_) (fun c22 => ?_)
          · have hf := (if_neg c22).symm.trans hf
            have hf := Option.some.inj hf
            subst hf
            exact hQ _ _ H locs (fun _ => 0) hB dX6_readThing_119
          · have hf := (if_pos c22).symm.trans hf
            refine lv_aload_n hx hb dX6_readThing_107 rfl (lv_at hl 2 rfl) ?_
            refine lv_iload hx hb dX6_readThing_108 (lv_at hl 3 rfl) ?_
            refine lv_iload hx hb dX6_readThing_110 (lv_at hl 4 rfl) ?_
            refine lv_iload hx hb dX6_readThing_112 (lv_at hl 5 rfl) ?_
            refine lv_iload hx hb dX6_readThing_114 (lv_at hl 0 rfl) ?_
            obtain ⟨r23, hr23, hf⟩ := ox_bind hf
            refine cxVX (bs1 := (fun q => [wReader E a_rd (a_tk 0) q_rd_0_phrase q_rd_0_script u19, wTokens E a_tk (a_tp 0) u20, wBArr E n_tp a_tp u_tp, wRoll E n_r a_r r23])) (As := [.int x6, .int x14, .int x17, .int x18]) (rest := []) (st1 := []) C hK (tX7_add l E n_r a_r u_r x6 x14 x17 x18 r23 hr23) lk_X6_124 (by rw [hRf, hRl]; decide) ⟨Nat.zero_le _, Nat.zero_le _⟩ hB hD hN [3] (by decide) rfl (fun _ => rfl) (fun _ => rfl) (rc_X7 hK (hB.1 3 _ rfl)) rfl hl.1 rfl rfl (Nat.le_of_ble_eq_true rfl) dX6_readThing_116 (fun H locs q24 hB => ?_)
            have hB : WB E ad s.heap [wReader E a_rd (a_tk 0) q_rd_0_phrase q_rd_0_script u19, wTokens E a_tk (a_tp 0) u20, wBArr E n_tp a_tp u_tp, wRoll E n_r a_r r23] H locs := hB
            have hf := Option.some.inj hf
            subst hf
            exact hQ _ _ H locs (fun _ => 0) hB dX6_readThing_119
        refine lv_icmp_ne (tgt := 92) hx hb dX6_readThing_85 (by decide) (fun c25 => ?_) (fun c25 => ?_)
        · have hf := (if_neg c25).symm.trans hf
          refine lv_aload_n hx hb dX6_readThing_92 rfl (lv_at hl 3 rfl) ?_
          refine lv_iconst (v := 0) hx hb dX6_readThing_93 (by decide) ?_
          refine lv_iload_n hx hb dX6_readThing_94 rfl (lv_at hl 6 rfl) ?_
          obtain ⟨r26, hr26, hf⟩ := ox_bind hf
          refine cxVX (bs1 := (fun q => [wReader E a_rd (a_tk 0) q_rd_0_phrase q_rd_0_script r26.2.1, wTokens E a_tk (a_tp 0) r26.2.2, wBArr E n_tp a_tp u_tp, wRoll E n_r a_r u_r])) (As := [.int (0 : Int32), .int x_3]) (rest := []) (st1 := [.int r26.1]) C hK (tX6_readNumber l E a_rd q_rd_0_phrase q_rd_0_script (r15.2.1) a_tk (r15.2.2) n_tp a_tp u_tp (0 : Int32) x_3 r26 hr26) lk_X6_120 (by rw [hRf, hRl]; decide) ⟨Nat.zero_le _, Nat.zero_le _⟩ hB hD hN [0, 1, 2] (by decide) rfl (fun _ => rfl) (fun _ => rfl) (rc_X6 hK (hB.1 0 _ rfl)) rfl hl.1 rfl rfl (Nat.le_of_ble_eq_true rfl) dX6_readThing_95 (fun H locs q27 hB => ?_)
          have hB : WB E ad s.heap [wReader E a_rd (a_tk 0) q_rd_0_phrase q_rd_0_script r26.2.1, wTokens E a_tk (a_tp 0) r26.2.2, wBArr E n_tp a_tp u_tp, wRoll E n_r a_r u_r] H locs := hB
          exact hj21 _ _ _ ls H locs (lv_sub hl [3, 4, 7, 1, 0] rfl) hB hf
        · have hf := (if_pos c25).symm.trans hf
          refine lv_iconst (v := 0) hx hb dX6_readThing_88 (by decide) ?_
          refine lv_goto (tgt := 98) hx hb dX6_readThing_89 (by decide) ?_
          exact hj21 _ _ _ ls H locs (lv_sub hl [3, 4, 7, 1, 0] rfl) hB hf
      refine lv_icmp_ne (tgt := 62) hx hb dX6_readThing_54 (by decide) (fun c28 => ?_) (fun c28 => ?_)
      · refine lv_iload_n hx hb dX6_readThing_62 rfl (lv_at hl 3 rfl) ?_
        exact ox_topi ((ex11).trans (if_neg c28)).symm hjx11
      · refine lv_bipush (v := 9) hx hb dX6_readThing_57 (by decide) ?_
        refine lv_goto (tgt := 63) hx hb dX6_readThing_59 (by decide) ?_
        exact ox_topi ((ex11).trans (if_pos c28)).symm hjx11
    refine lv_if_ne (tgt := 48) hx hb dX6_readThing_30 (by decide) (fun c29 => ?_) (fun c29 => ?_)
    · have hf := (if_neg c29).symm.trans hf
      exact hj8 _ ls H locs (lv_sub hl [1, 2, 3, 4, 0] rfl) hB hf
    · have hf := (if_pos c29).symm.trans hf
      refine lv_aload_n hx hb dX6_readThing_33 rfl (lv_at hl 2 rfl) ?_
      refine lv_iload hx hb dX6_readThing_34 (lv_at hl 0 rfl) ?_
      obtain ⟨r30, hr30, hf⟩ := ox_bind hf
      refine cxVP (As := [.int x6]) (rest := []) (st1 := [.int r30]) C hK (tX7_find l E n_r a_r u_r x6 r30 hr30) lk_X6_113 ⟨rfl, rfl⟩ (by rw [hRf, hRl]; decide) ⟨Nat.zero_le _, Nat.zero_le _⟩ (PB.sub hB.1 [3] rfl) (hB.old hD hN) (Nat.le_trans hN hB.2.2.1) (rc_X7 hK (hB.1 3 _ rfl)) rfl hl.1 rfl rfl (Nat.le_of_ble_eq_true rfl) dX6_readThing_36 ?_
      refine lv_iconst (v := (-1)) hx hb dX6_readThing_39 (by decide) ?_
      refine lv_icmp_eq (tgt := 48) hx hb dX6_readThing_40 (by decide) (fun c31 => ?_) (fun c31 => ?_)
      · have hf := (if_pos c31).symm.trans hf
        exact hj8 _ ls H locs (lv_sub hl [1, 2, 3, 4, 0] rfl) hB hf
      · have hf := (if_neg c31).symm.trans hf
        refine lv_aload_n hx hb dX6_readThing_43 rfl (lv_at hl 1 rfl) ?_
        refine lv_iconst (v := 3) hx hb dX6_readThing_44 (by decide) ?_
        obtain ⟨r32, er32, hf⟩ := ox_ex hf
        refine cxVX (bs1 := (fun q => [wReader E a_rd (a_tk 0) q_rd_0_phrase q_rd_0_script r32, wTokens E a_tk (a_tp 0) r2, wBArr E n_tp a_tp u_tp, wRoll E n_r a_r u_r])) (As := [.int (3 : Int32)]) (rest := []) (st1 := []) C hK (tX6_blame l E a_rd q_rd_0_phrase q_rd_0_script (r4.2) a_tk (a_tp 0) r2 (3 : Int32) r32 er32.symm) lk_X6_70 (by rw [hRf, hRl]; decide) ⟨Nat.zero_le _, Nat.zero_le _⟩ hB hD hN [0, 1] (by decide) rfl (fun _ => rfl) (fun _ => rfl) (rc_X6 hK (hB.1 0 _ rfl)) rfl hl.1 rfl rfl (Nat.le_of_ble_eq_true rfl) dX6_readThing_45 (fun H locs q33 hB => ?_)
        have hB : WB E ad s.heap [wReader E a_rd (a_tk 0) q_rd_0_phrase q_rd_0_script r32, wTokens E a_tk (a_tp 0) r2, wBArr E n_tp a_tp u_tp, wRoll E n_r a_r u_r] H locs := hB
        exact hj8 _ ls H locs (lv_sub hl [1, 2, 3, 4, 0] rfl) hB hf
  · have hf := (if_neg c1).symm.trans hf
    refine lv_aload_n hx hb dX6_readThing_7 rfl (lv_at hl 0 rfl) ?_
    refine lv_iconst (v := 2) hx hb dX6_readThing_8 (by decide) ?_
    obtain ⟨r34, er34, hf⟩ := ox_ex hf
    refine cxVX (bs1 := (fun q => [wReader E a_rd (a_tk 0) q_rd_0_phrase q_rd_0_script r34, wTokens E a_tk (a_tp 0) u_tk, wBArr E n_tp a_tp u_tp, wRoll E n_r a_r u_r])) (As := [.int (2 : Int32)]) (rest := []) (st1 := []) C hK (tX6_blame l E a_rd q_rd_0_phrase q_rd_0_script u_rd a_tk (a_tp 0) u_tk (2 : Int32) r34 er34.symm) lk_X6_70 (by rw [hRf, hRl]; decide) ⟨Nat.zero_le _, Nat.zero_le _⟩ hB hD hN [0, 1] (by decide) rfl (fun _ => rfl) (fun _ => rfl) (rc_X6 hK (hB.1 0 _ rfl)) rfl hl.1 rfl rfl (Nat.le_of_ble_eq_true rfl) dX6_readThing_9 (fun H locs q35 hB => ?_)
    have hB : WB E ad s.heap [wReader E a_rd (a_tk 0) q_rd_0_phrase q_rd_0_script r34, wTokens E a_tk (a_tp 0) u_tk, wBArr E n_tp a_tp u_tp, wRoll E n_r a_r u_r] H locs := hB
    have hf := Option.some.inj hf
    subst hf
    exact hQ _ _ H locs (fun _ => 0) hB dX6_readThing_12
set_option maxHeartbeats 4000000 in
set_option maxRecDepth 20000 in
theorem tX6_readShow (l : Launch) (E : Ev) (a_rd : Nat → Nat) (q_rd_0_phrase : Nat) (u_rd : St) (a_tk : Nat → Nat) (u_tk : St) (n_tp : Nat) (a_tp : Nat → Nat) (u_tp : St) (a_sc : Nat → Nat → Nat) (u_sc : Nat → St) (res : St × St × (Nat → St)) (hf : fX6_readShow n_tp u_rd u_tk u_tp u_sc = some res) : MX l E yX6_readShow cX6_readShow 3 none (rmm 4 94) [wReader E a_rd (a_tk 0) q_rd_0_phrase (a_sc 0 0) u_rd, wTokens E a_tk (a_tp 0) u_tk, wBArr E n_tp a_tp u_tp, wScript E (a_sc 0) (a_sc 1 0) (a_sc 2 0) (a_sc 3 0) (a_sc 4 0) (a_sc 5 0) (a_sc 6 0) (a_sc 7 0) (u_sc 0), wRoll E 6 (a_sc 1) (u_sc 1), wRoll E 6 (a_sc 2) (u_sc 2), wRoll E 4 (a_sc 3) (u_sc 3), wRoll E 14 (a_sc 4) (u_sc 4), wFormula E (a_sc 5) (u_sc 5), wFormula E (a_sc 6) (u_sc 6), wFormula E (a_sc 7) (u_sc 7)] (fun q => [wReader E a_rd (a_tk 0) q_rd_0_phrase (a_sc 0 0) res.1, wTokens E a_tk (a_tp 0) res.2.1, wBArr E n_tp a_tp u_tp, wScript E (a_sc 0) (a_sc 1 0) (a_sc 2 0) (a_sc 3 0) (a_sc 4 0) (a_sc 5 0) (a_sc 6 0) (a_sc 7 0) (res.2.2 0), wRoll E 6 (a_sc 1) (res.2.2 1), wRoll E 6 (a_sc 2) (res.2.2 2), wRoll E 4 (a_sc 3) (res.2.2 3), wRoll E 14 (a_sc 4) (res.2.2 4), wFormula E (a_sc 5) (res.2.2 5), wFormula E (a_sc 6) (res.2.2 6), wFormula E (a_sc 7) (res.2.2 7)]) [.ref (a_rd 0)] none := by
  unfold fX6_readShow at hf
  refine MX.ofV rfl (by decide) (Nat.le_of_ble_eq_true rfl) ?_
  intro p e R s m args below meth c ls Q ad H hRf hRl C hB hD hK hN hl hQ
  generalize hlocs : ([] : List Loc) = locs at hB ⊢
  clear hlocs
  have hx := C.1
  have hb := C.2.1
  have hl : lv_has ls 3 [(0, .ref (a_rd 0))] := hl
  refine lv_aload_n hx hb dX6_readShow_0 rfl (lv_at hl 0 rfl) ?_
  refine gf_X6_X6_script C hK (hB.1 0 _ rfl) dX6_readShow_1 ?_
  refine gf_X6_X8_shows C hK (hB.1 3 _ rfl) dX6_readShow_4 ?_
  refine cxVP (As := []) (rest := []) (st1 := [.int (fX7_isFull 14 (u_sc 4))]) C hK (tX7_isFull l E 14 (a_sc 4) (u_sc 4) (fX7_isFull 14 (u_sc 4)) rfl) lk_X6_103 ⟨rfl, rfl⟩ (by rw [hRf, hRl]; decide) ⟨Nat.zero_le _, Nat.zero_le _⟩ (PB.sub hB.1 [7] rfl) (hB.old hD hN) (Nat.le_trans hN hB.2.2.1) (rc_X7 hK (hB.1 7 _ rfl)) rfl hl.1 rfl rfl (Nat.le_of_ble_eq_true rfl) dX6_readShow_7 ?_
  refine lv_if_eq (tgt := 19) hx hb dX6_readShow_10 (by decide) (fun c1 => ?_) (fun c1 => ?_)
  · have hf := (if_pos c1).symm.trans hf
    refine lv_aload_n hx hb dX6_readShow_19 rfl (lv_at hl 0 rfl) ?_
    refine gf_X6_X6_tokens C hK (hB.1 0 _ rfl) dX6_readShow_20 ?_
    obtain ⟨r2, hr2, hf⟩ := ox_bind hf
    refine cxVX (bs1 := (fun q => [wReader E a_rd (a_tk 0) q_rd_0_phrase (a_sc 0 0) u_rd, wTokens E a_tk (a_tp 0) r2, wBArr E n_tp a_tp u_tp, wScript E (a_sc 0) (a_sc 1 0) (a_sc 2 0) (a_sc 3 0) (a_sc 4 0) (a_sc 5 0) (a_sc 6 0) (a_sc 7 0) (u_sc 0), wRoll E 6 (a_sc 1) (u_sc 1), wRoll E 6 (a_sc 2) (u_sc 2), wRoll E 4 (a_sc 3) (u_sc 3), wRoll E 14 (a_sc 4) (u_sc 4), wFormula E (a_sc 5) (u_sc 5), wFormula E (a_sc 6) (u_sc 6), wFormula E (a_sc 7) (u_sc 7)])) (As := []) (rest := []) (st1 := []) C hK (tX10_next l E a_tk u_tk n_tp a_tp u_tp r2 hr2) lk_X6_64 (by rw [hRf, hRl]; decide) ⟨Nat.zero_le _, Nat.zero_le _⟩ hB hD hN [1, 2] (by decide) rfl (fun _ => rfl) (fun _ => rfl) (rc_X10 hK (hB.1 1 _ rfl)) rfl hl.1 rfl rfl (Nat.le_of_ble_eq_true rfl) dX6_readShow_23 (fun H locs q3 hB => ?_)
    have hB : WB E ad s.heap [wReader E a_rd (a_tk 0) q_rd_0_phrase (a_sc 0 0) u_rd, wTokens E a_tk (a_tp 0) r2, wBArr E n_tp a_tp u_tp, wScript E (a_sc 0) (a_sc 1 0) (a_sc 2 0) (a_sc 3 0) (a_sc 4 0) (a_sc 5 0) (a_sc 6 0) (a_sc 7 0) (u_sc 0), wRoll E 6 (a_sc 1) (u_sc 1), wRoll E 6 (a_sc 2) (u_sc 2), wRoll E 4 (a_sc 3) (u_sc 3), wRoll E 14 (a_sc 4) (u_sc 4), wFormula E (a_sc 5) (u_sc 5), wFormula E (a_sc 6) (u_sc 6), wFormula E (a_sc 7) (u_sc 7)] H locs := hB
    refine lv_aload_n hx hb dX6_readShow_26 rfl (lv_at hl 0 rfl) ?_
    refine gf_X6_X6_script C hK (hB.1 0 _ rfl) dX6_readShow_27 ?_
    refine gf_X6_X8_acts C hK (hB.1 3 _ rfl) dX6_readShow_30 ?_
    refine lv_aload_n hx hb dX6_readShow_33 rfl (lv_at hl 0 rfl) ?_
    obtain ⟨r4, er4, hf⟩ := ox_ex hf
    refine cxVX (bs1 := (fun q => [wReader E a_rd (a_tk 0) q_rd_0_phrase (a_sc 0 0) r4.2, wTokens E a_tk (a_tp 0) r2, wBArr E n_tp a_tp u_tp, wScript E (a_sc 0) (a_sc 1 0) (a_sc 2 0) (a_sc 3 0) (a_sc 4 0) (a_sc 5 0) (a_sc 6 0) (a_sc 7 0) (u_sc 0), wRoll E 6 (a_sc 1) (u_sc 1), wRoll E 6 (a_sc 2) (u_sc 2), wRoll E 4 (a_sc 3) (u_sc 3), wRoll E 14 (a_sc 4) (u_sc 4), wFormula E (a_sc 5) (u_sc 5), wFormula E (a_sc 6) (u_sc 6), wFormula E (a_sc 7) (u_sc 7)])) (As := []) (rest := [.ref (a_sc 1 0)]) (st1 := [.int r4.1, .ref (a_sc 1 0)]) C hK (tX6_readName l E a_rd q_rd_0_phrase (a_sc 0 0) u_rd a_tk (a_tp 0) r2 r4 er4.symm) lk_X6_109 (by rw [hRf, hRl]; decide) ⟨Nat.zero_le _, Nat.zero_le _⟩ hB hD hN [0, 1] (by decide) rfl (fun _ => rfl) (fun _ => rfl) (rc_X6 hK (hB.1 0 _ rfl)) rfl hl.1 rfl rfl (Nat.le_of_ble_eq_true rfl) dX6_readShow_34 (fun H locs q5 hB => ?_)
    have hB : WB E ad s.heap [wReader E a_rd (a_tk 0) q_rd_0_phrase (a_sc 0 0) r4.2, wTokens E a_tk (a_tp 0) r2, wBArr E n_tp a_tp u_tp, wScript E (a_sc 0) (a_sc 1 0) (a_sc 2 0) (a_sc 3 0) (a_sc 4 0) (a_sc 5 0) (a_sc 6 0) (a_sc 7 0) (u_sc 0), wRoll E 6 (a_sc 1) (u_sc 1), wRoll E 6 (a_sc 2) (u_sc 2), wRoll E 4 (a_sc 3) (u_sc 3), wRoll E 14 (a_sc 4) (u_sc 4), wFormula E (a_sc 5) (u_sc 5), wFormula E (a_sc 6) (u_sc 6), wFormula E (a_sc 7) (u_sc 7)] H locs := hB
    obtain ⟨r6, hr6, hf⟩ := ox_bind hf
    refine cxVP (As := [.int r4.1]) (rest := []) (st1 := [.int r6]) C hK (tX7_find l E 6 (a_sc 1) (u_sc 1) (r4.1) r6 hr6) lk_X6_113 ⟨rfl, rfl⟩ (by rw [hRf, hRl]; decide) ⟨Nat.zero_le _, Nat.zero_le _⟩ (PB.sub hB.1 [4] rfl) (hB.old hD hN) (Nat.le_trans hN hB.2.2.1) (rc_X7 hK (hB.1 4 _ rfl)) rfl hl.1 rfl rfl (Nat.le_of_ble_eq_true rfl) dX6_readShow_37 ?_
    refine lv_istore_n (lv' := [(1, .int r6), (0, .ref (a_rd 0))]) hx hb dX6_readShow_40 rfl hl (by decide) rfl (fun ls hl => ?_)
    refine lv_aload_n hx hb dX6_readShow_41 rfl (lv_at hl 1 rfl) ?_
    refine gf_X6_X6_faultKind C hK (hB.1 0 _ rfl) dX6_readShow_42 ?_
    obtain ⟨j8, ej8, hf⟩ := ox_ex hf
    have hj8 : ∀ (u7 : St) (ls : Array Slot) (H : Heap) (locs : List Loc), lv_has ls 3 [(0, .ref (a_rd 0)), (1, .int r6)] → WB E ad s.heap [wReader E a_rd (a_tk 0) q_rd_0_phrase (a_sc 0 0) u7, wTokens E a_tk (a_tp 0) r2, wBArr E n_tp a_tp u_tp, wScript E (a_sc 0) (a_sc 1 0) (a_sc 2 0) (a_sc 3 0) (a_sc 4 0) (a_sc 5 0) (a_sc 6 0) (a_sc 7 0) (u_sc 0), wRoll E 6 (a_sc 1) (u_sc 1), wRoll E 6 (a_sc 2) (u_sc 2), wRoll E 4 (a_sc 3) (u_sc 3), wRoll E 14 (a_sc 4) (u_sc 4), wFormula E (a_sc 5) (u_sc 5), wFormula E (a_sc 6) (u_sc 6), wFormula E (a_sc 7) (u_sc 7)] H locs → j8 u7 = some res → W p l e R s m args below meth c H locs 0 0 Q (F0 m 58 ls []) := by
      intro u7 ls H locs hl hB hf
      have hf := ox_a1 ej8 hf
      refine lv_aload_n hx hb dX6_readShow_58 rfl (lv_at hl 0 rfl) ?_
      obtain ⟨r9, hr9, hf⟩ := ox_bind hf
      refine cxVX (bs1 := (fun q => [wReader E a_rd (a_tk 0) q_rd_0_phrase (a_sc 0 0) u7, wTokens E a_tk (a_tp 0) r9, wBArr E n_tp a_tp u_tp, wScript E (a_sc 0) (a_sc 1 0) (a_sc 2 0) (a_sc 3 0) (a_sc 4 0) (a_sc 5 0) (a_sc 6 0) (a_sc 7 0) (u_sc 0), wRoll E 6 (a_sc 1) (u_sc 1), wRoll E 6 (a_sc 2) (u_sc 2), wRoll E 4 (a_sc 3) (u_sc 3), wRoll E 14 (a_sc 4) (u_sc 4), wFormula E (a_sc 5) (u_sc 5), wFormula E (a_sc 6) (u_sc 6), wFormula E (a_sc 7) (u_sc 7)])) (As := []) (rest := []) (st1 := []) C hK (tX6_passName l E a_rd q_rd_0_phrase (a_sc 0 0) u7 a_tk r2 n_tp a_tp u_tp r9 hr9) lk_X6_117 (by rw [hRf, hRl]; decide) ⟨Nat.zero_le _, Nat.zero_le _⟩ hB hD hN [0, 1, 2] (by decide) rfl (fun _ => rfl) (fun _ => rfl) (rc_X6 hK (hB.1 0 _ rfl)) rfl hl.1 rfl rfl (Nat.le_of_ble_eq_true rfl) dX6_readShow_59 (fun H locs q10 hB => ?_)
      have hB : WB E ad s.heap [wReader E a_rd (a_tk 0) q_rd_0_phrase (a_sc 0 0) u7, wTokens E a_tk (a_tp 0) r9, wBArr E n_tp a_tp u_tp, wScript E (a_sc 0) (a_sc 1 0) (a_sc 2 0) (a_sc 3 0) (a_sc 4 0) (a_sc 5 0) (a_sc 6 0) (a_sc 7 0) (u_sc 0), wRoll E 6 (a_sc 1) (u_sc 1), wRoll E 6 (a_sc 2) (u_sc 2), wRoll E 4 (a_sc 3) (u_sc 3), wRoll E 14 (a_sc 4) (u_sc 4), wFormula E (a_sc 5) (u_sc 5), wFormula E (a_sc 6) (u_sc 6), wFormula E (a_sc 7) (u_sc 7)] H locs := hB
      refine lv_aload_n hx hb dX6_readShow_62 rfl (lv_at hl 0 rfl) ?_
      refine lv_iconst (v := 0) hx hb dX6_readShow_63 (by decide) ?_
      refine lv_bipush (v := 99) hx hb dX6_readShow_64 (by decide) ?_
      obtain ⟨r11, hr11, hf⟩ := ox_bind hf
      refine cxVX (bs1 := (fun q => [wReader E a_rd (a_tk 0) q_rd_0_phrase (a_sc 0 0) r11.2.1, wTokens E a_tk (a_tp 0) r11.2.2, wBArr E n_tp a_tp u_tp, wScript E (a_sc 0) (a_sc 1 0) (a_sc 2 0) (a_sc 3 0) (a_sc 4 0) (a_sc 5 0) (a_sc 6 0) (a_sc 7 0) (u_sc 0), wRoll E 6 (a_sc 1) (u_sc 1), wRoll E 6 (a_sc 2) (u_sc 2), wRoll E 4 (a_sc 3) (u_sc 3), wRoll E 14 (a_sc 4) (u_sc 4), wFormula E (a_sc 5) (u_sc 5), wFormula E (a_sc 6) (u_sc 6), wFormula E (a_sc 7) (u_sc 7)])) (As := [.int (0 : Int32), .int (99 : Int32)]) (rest := []) (st1 := [.int r11.1]) C hK (tX6_readNumber l E a_rd q_rd_0_phrase (a_sc 0 0) u7 a_tk r9 n_tp a_tp u_tp (0 : Int32) (99 : Int32) r11 hr11) lk_X6_120 (by rw [hRf, hRl]; decide) ⟨Nat.zero_le _, Nat.zero_le _⟩ hB hD hN [0, 1, 2] (by decide) rfl (fun _ => rfl) (fun _ => rfl) (rc_X6 hK (hB.1 0 _ rfl)) rfl hl.1 rfl rfl (Nat.le_of_ble_eq_true rfl) dX6_readShow_66 (fun H locs q12 hB => ?_)
      have hB : WB E ad s.heap [wReader E a_rd (a_tk 0) q_rd_0_phrase (a_sc 0 0) r11.2.1, wTokens E a_tk (a_tp 0) r11.2.2, wBArr E n_tp a_tp u_tp, wScript E (a_sc 0) (a_sc 1 0) (a_sc 2 0) (a_sc 3 0) (a_sc 4 0) (a_sc 5 0) (a_sc 6 0) (a_sc 7 0) (u_sc 0), wRoll E 6 (a_sc 1) (u_sc 1), wRoll E 6 (a_sc 2) (u_sc 2), wRoll E 4 (a_sc 3) (u_sc 3), wRoll E 14 (a_sc 4) (u_sc 4), wFormula E (a_sc 5) (u_sc 5), wFormula E (a_sc 6) (u_sc 6), wFormula E (a_sc 7) (u_sc 7)] H locs := hB
      refine lv_topi (fun x13 ex13 => ?_)
      have hf := ox_lt ex13 hf
      refine lv_istore_n (lv' := [(2, .int x13), (0, .ref (a_rd 0)), (1, .int r6)]) hx hb dX6_readShow_69 rfl hl (by decide) rfl (fun ls hl => ?_)
      refine lv_aload_n hx hb dX6_readShow_70 rfl (lv_at hl 1 rfl) ?_
      refine gf_X6_X6_faultKind C hK (hB.1 0 _ rfl) dX6_readShow_71 ?_
      refine lv_if_ne (tgt := 91) hx hb dX6_readShow_74 (by decide) (fun c14 => ?_) (fun c14 => ?_)
      · have hf := (if_neg c14).symm.trans hf
        have hf := Option.some.inj hf
        subst hf
        exact hQ _ _ H locs (fun _ => 0) hB dX6_readShow_91
      · have hf := (if_pos c14).symm.trans hf
        refine lv_aload_n hx hb dX6_readShow_77 rfl (lv_at hl 1 rfl) ?_
        refine gf_X6_X6_script C hK (hB.1 0 _ rfl) dX6_readShow_78 ?_
        refine gf_X6_X8_shows C hK (hB.1 3 _ rfl) dX6_readShow_81 ?_
        refine lv_iconst (v := 0) hx hb dX6_readShow_84 (by decide) ?_
        refine lv_iload_n hx hb dX6_readShow_85 rfl (lv_at hl 2 rfl) ?_
        refine lv_iload_n hx hb dX6_readShow_86 rfl (lv_at hl 0 rfl) ?_
        refine lv_iconst (v := 0) hx hb dX6_readShow_87 (by decide) ?_
        obtain ⟨r15, hr15, hf⟩ := ox_bind hf
        refine cxVX (bs1 := (fun q => [wReader E a_rd (a_tk 0) q_rd_0_phrase (a_sc 0 0) r11.2.1, wTokens E a_tk (a_tp 0) r11.2.2, wBArr E n_tp a_tp u_tp, wScript E (a_sc 0) (a_sc 1 0) (a_sc 2 0) (a_sc 3 0) (a_sc 4 0) (a_sc 5 0) (a_sc 6 0) (a_sc 7 0) (u_sc 0), wRoll E 6 (a_sc 1) (u_sc 1), wRoll E 6 (a_sc 2) (u_sc 2), wRoll E 4 (a_sc 3) (u_sc 3), wRoll E 14 (a_sc 4) r15, wFormula E (a_sc 5) (u_sc 5), wFormula E (a_sc 6) (u_sc 6), wFormula E (a_sc 7) (u_sc 7)])) (As := [.int (0 : Int32), .int r6, .int x13, .int (0 : Int32)]) (rest := []) (st1 := []) C hK (tX7_add l E 14 (a_sc 4) (u_sc 4) (0 : Int32) r6 x13 (0 : Int32) r15 hr15) lk_X6_124 (by rw [hRf, hRl]; decide) ⟨Nat.zero_le _, Nat.zero_le _⟩ hB hD hN [7] (by decide) rfl (fun _ => rfl) (fun _ => rfl) (rc_X7 hK (hB.1 7 _ rfl)) rfl hl.1 rfl rfl (Nat.le_of_ble_eq_true rfl) dX6_readShow_88 (fun H locs q16 hB => ?_)
        have hB : WB E ad s.heap [wReader E a_rd (a_tk 0) q_rd_0_phrase (a_sc 0 0) r11.2.1, wTokens E a_tk (a_tp 0) r11.2.2, wBArr E n_tp a_tp u_tp, wScript E (a_sc 0) (a_sc 1 0) (a_sc 2 0) (a_sc 3 0) (a_sc 4 0) (a_sc 5 0) (a_sc 6 0) (a_sc 7 0) (u_sc 0), wRoll E 6 (a_sc 1) (u_sc 1), wRoll E 6 (a_sc 2) (u_sc 2), wRoll E 4 (a_sc 3) (u_sc 3), wRoll E 14 (a_sc 4) r15, wFormula E (a_sc 5) (u_sc 5), wFormula E (a_sc 6) (u_sc 6), wFormula E (a_sc 7) (u_sc 7)] H locs := hB
        have hf := Option.some.inj hf
        subst hf
        exact hQ _ _ H locs (fun _ => 0) hB dX6_readShow_91
    refine lv_if_ne (tgt := 58) hx hb dX6_readShow_45 (by decide) (fun c17 => ?_) (fun c17 => ?_)
    · have hf := (if_neg c17).symm.trans hf
      exact hj8 _ ls H locs (lv_sub hl [1, 0] rfl) hB hf
    · have hf := (if_pos c17).symm.trans hf
      refine lv_iload_n hx hb dX6_readShow_48 rfl (lv_at hl 0 rfl) ?_
      refine lv_iconst (v := (-1)) hx hb dX6_readShow_49 (by decide) ?_
      refine lv_icmp_ne (tgt := 58) hx hb dX6_readShow_50 (by decide) (fun c18 => ?_) (fun c18 => ?_)
      · have hf := (if_neg c18).symm.trans hf
        exact hj8 _ ls H locs (lv_sub hl [1, 0] rfl) hB hf
      · have hf := (if_pos c18).symm.trans hf
        refine lv_aload_n hx hb dX6_readShow_53 rfl (lv_at hl 1 rfl) ?_
        refine lv_iconst (v := 4) hx hb dX6_readShow_54 (by decide) ?_
        obtain ⟨r19, er19, hf⟩ := ox_ex hf
        refine cxVX (bs1 := (fun q => [wReader E a_rd (a_tk 0) q_rd_0_phrase (a_sc 0 0) r19, wTokens E a_tk (a_tp 0) r2, wBArr E n_tp a_tp u_tp, wScript E (a_sc 0) (a_sc 1 0) (a_sc 2 0) (a_sc 3 0) (a_sc 4 0) (a_sc 5 0) (a_sc 6 0) (a_sc 7 0) (u_sc 0), wRoll E 6 (a_sc 1) (u_sc 1), wRoll E 6 (a_sc 2) (u_sc 2), wRoll E 4 (a_sc 3) (u_sc 3), wRoll E 14 (a_sc 4) (u_sc 4), wFormula E (a_sc 5) (u_sc 5), wFormula E (a_sc 6) (u_sc 6), wFormula E (a_sc 7) (u_sc 7)])) (As := [.int (4 : Int32)]) (rest := []) (st1 := []) C hK (tX6_blame l E a_rd q_rd_0_phrase (a_sc 0 0) (r4.2) a_tk (a_tp 0) r2 (4 : Int32) r19 er19.symm) lk_X6_70 (by rw [hRf, hRl]; decide) ⟨Nat.zero_le _, Nat.zero_le _⟩ hB hD hN [0, 1] (by decide) rfl (fun _ => rfl) (fun _ => rfl) (rc_X6 hK (hB.1 0 _ rfl)) rfl hl.1 rfl rfl (Nat.le_of_ble_eq_true rfl) dX6_readShow_55 (fun H locs q20 hB => ?_)
        have hB : WB E ad s.heap [wReader E a_rd (a_tk 0) q_rd_0_phrase (a_sc 0 0) r19, wTokens E a_tk (a_tp 0) r2, wBArr E n_tp a_tp u_tp, wScript E (a_sc 0) (a_sc 1 0) (a_sc 2 0) (a_sc 3 0) (a_sc 4 0) (a_sc 5 0) (a_sc 6 0) (a_sc 7 0) (u_sc 0), wRoll E 6 (a_sc 1) (u_sc 1), wRoll E 6 (a_sc 2) (u_sc 2), wRoll E 4 (a_sc 3) (u_sc 3), wRoll E 14 (a_sc 4) (u_sc 4), wFormula E (a_sc 5) (u_sc 5), wFormula E (a_sc 6) (u_sc 6), wFormula E (a_sc 7) (u_sc 7)] H locs := hB
        exact hj8 _ ls H locs (lv_sub hl [1, 0] rfl) hB hf
  · have hf := (if_neg c1).symm.trans hf
    refine lv_aload_n hx hb dX6_readShow_13 rfl (lv_at hl 0 rfl) ?_
    refine lv_iconst (v := 2) hx hb dX6_readShow_14 (by decide) ?_
    obtain ⟨r21, er21, hf⟩ := ox_ex hf
    refine cxVX (bs1 := (fun q => [wReader E a_rd (a_tk 0) q_rd_0_phrase (a_sc 0 0) r21, wTokens E a_tk (a_tp 0) u_tk, wBArr E n_tp a_tp u_tp, wScript E (a_sc 0) (a_sc 1 0) (a_sc 2 0) (a_sc 3 0) (a_sc 4 0) (a_sc 5 0) (a_sc 6 0) (a_sc 7 0) (u_sc 0), wRoll E 6 (a_sc 1) (u_sc 1), wRoll E 6 (a_sc 2) (u_sc 2), wRoll E 4 (a_sc 3) (u_sc 3), wRoll E 14 (a_sc 4) (u_sc 4), wFormula E (a_sc 5) (u_sc 5), wFormula E (a_sc 6) (u_sc 6), wFormula E (a_sc 7) (u_sc 7)])) (As := [.int (2 : Int32)]) (rest := []) (st1 := []) C hK (tX6_blame l E a_rd q_rd_0_phrase (a_sc 0 0) u_rd a_tk (a_tp 0) u_tk (2 : Int32) r21 er21.symm) lk_X6_70 (by rw [hRf, hRl]; decide) ⟨Nat.zero_le _, Nat.zero_le _⟩ hB hD hN [0, 1] (by decide) rfl (fun _ => rfl) (fun _ => rfl) (rc_X6 hK (hB.1 0 _ rfl)) rfl hl.1 rfl rfl (Nat.le_of_ble_eq_true rfl) dX6_readShow_15 (fun H locs q22 hB => ?_)
    have hB : WB E ad s.heap [wReader E a_rd (a_tk 0) q_rd_0_phrase (a_sc 0 0) r21, wTokens E a_tk (a_tp 0) u_tk, wBArr E n_tp a_tp u_tp, wScript E (a_sc 0) (a_sc 1 0) (a_sc 2 0) (a_sc 3 0) (a_sc 4 0) (a_sc 5 0) (a_sc 6 0) (a_sc 7 0) (u_sc 0), wRoll E 6 (a_sc 1) (u_sc 1), wRoll E 6 (a_sc 2) (u_sc 2), wRoll E 4 (a_sc 3) (u_sc 3), wRoll E 14 (a_sc 4) (u_sc 4), wFormula E (a_sc 5) (u_sc 5), wFormula E (a_sc 6) (u_sc 6), wFormula E (a_sc 7) (u_sc 7)] H locs := hB
    have hf := Option.some.inj hf
    subst hf
    exact hQ _ _ H locs (fun _ => 0) hB dX6_readShow_18
