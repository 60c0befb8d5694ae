set_option maxHeartbeats 4000000 in
set_option maxRecDepth 20000 in
theorem tX0_forget (l : Launch) (E : Ev) (a_f : Nat → Nat) (u_f : St) (res : St) (hf : fX0_forget u_f = res) : MX l E yX0_forget cX0_forget 1 none (rmm 0 0) [wFormula E a_f u_f] (fun q => [wFormula E a_f res]) [.ref (a_f 0)] none := by
  unfold fX0_forget at hf
  refine MX.ofV rfl (by decide) (Nat.le_of_ble_eq_true rfl) ?_
  intro p e R s m args below meth c ls Q ad H hRf hRl C hB hD hK hN hl hQ
  generalize hlocs : ([] : List Loc) = locs at hB ⊢
  clear hlocs
  have hx := C.1
  have hb := C.2.1
  have hl : lv_has ls 1 [(0, .ref (a_f 0))] := hl
  refine lv_aload_n hx hb dX0_forget_0 rfl (lv_at hl 0 rfl) ?_
  refine lv_iconst (v := 0) hx hb dX0_forget_1 (by decide) ?_
  refine pf_X0_X0_size C hK hB hD 0 rfl dX0_forget_2 (fun H locs u1 eu1 hB => ?_)
  have hf := ox_lt eu1 hf
  have hB : WB E ad s.heap [wFormula E a_f u1] H locs := hB
  refine lv_aload_n hx hb dX0_forget_5 rfl (lv_at hl 0 rfl) ?_
  refine lv_iconst (v := 0) hx hb dX0_forget_6 (by decide) ?_
  refine pf_X0_X0_isTold C hK hB hD 0 rfl (by decide) dX0_forget_7 (fun H locs u2 eu2 hB => ?_)
  have hf := ox_lt eu2 hf
  have hB : WB E ad s.heap [wFormula E a_f u2] H locs := hB
  subst hf
  exact hQ _ _ H locs (fun _ => 0) hB dX0_forget_10
set_option maxHeartbeats 4000000 in
set_option maxRecDepth 20000 in
theorem tX0_add (l : Launch) (E : Ev) (a_f : Nat → Nat) (u_f : St) (x_1 : Int32) (x_2 : Int32) (res : St) (hf : fX0_add u_f x_1 x_2 = some res) : MX l E yX0_add cX0_add 3 none (rmm 0 0) [wFormula E a_f u_f] (fun q => [wFormula E a_f res]) [.ref (a_f 0), .int x_1, .int x_2] none := by
  unfold fX0_add at hf
  refine MX.ofV rfl (by decide) (Nat.le_of_ble_eq_true rfl) ?_
  intro p e R s m args below meth c ls Q ad H hRf hRl C hB hD hK hN hl hQ
  generalize hlocs : ([] : List Loc) = locs at hB ⊢
  clear hlocs
  have hx := C.1
  have hb := C.2.1
  have hl : lv_has ls 3 [(0, .ref (a_f 0)), (1, .int x_1), (2, .int x_2)] := hl
  refine lv_aload_n hx hb dX0_add_0 rfl (lv_at hl 0 rfl) ?_
  refine gf_X0_X0_size C hK (hB.1 0 _ rfl) dX0_add_1 ?_
  refine lv_bipush (v := 64) hx hb dX0_add_4 (by decide) ?_
  refine lv_icmp_ge (tgt := 39) hx hb dX0_add_6 (by decide) (fun c1 => ?_) (fun c1 => ?_)
  · have hf := (if_pos c1).symm.trans hf
    have hf := Option.some.inj hf
    subst hf
    exact hQ _ _ H locs (fun _ => 0) hB dX0_add_39
  · have hf := (if_neg c1).symm.trans hf
    refine lv_aload_n hx hb dX0_add_9 rfl (lv_at hl 0 rfl) ?_
    refine gf_X0_X0_kinds C hK (hB.1 0 _ rfl) dX0_add_10 ?_
    refine lv_aload_n hx hb dX0_add_13 rfl (lv_at hl 0 rfl) ?_
    refine gf_X0_X0_size C hK (hB.1 0 _ rfl) dX0_add_14 ?_
    refine lv_iload_n hx hb dX0_add_17 rfl (lv_at hl 1 rfl) ?_
    obtain ⟨hn2, hf⟩ := ox_chk hf
    refine st_X0_kinds C hK hB hD 0 rfl hn2 rfl dX0_add_18 (fun H locs u3 eu3 hB => ?_)
    have hf := ox_lt eu3 hf
    have hB : WB E ad s.heap [wFormula E a_f u3] H locs := hB
    refine lv_aload_n hx hb dX0_add_19 rfl (lv_at hl 0 rfl) ?_
    refine gf_X0_X0_values C hK (hB.1 0 _ rfl) dX0_add_20 ?_
    refine lv_aload_n hx hb dX0_add_23 rfl (lv_at hl 0 rfl) ?_
    refine gf_X0_X0_size C hK (hB.1 0 _ rfl) dX0_add_24 ?_
    refine lv_iload_n hx hb dX0_add_27 rfl (lv_at hl 2 rfl) ?_
    obtain ⟨hn4, hf⟩ := ox_chk hf
    refine st_X0_values C hK hB hD 0 rfl hn4 rfl dX0_add_28 (fun H locs u5 eu5 hB => ?_)
    have hf := ox_lt eu5 hf
    have hB : WB E ad s.heap [wFormula E a_f u5] H locs := hB
    refine lv_aload_n hx hb dX0_add_29 rfl (lv_at hl 0 rfl) ?_
    refine lv_dup hx hb dX0_add_30 rfl ?_
    refine gf_X0_X0_size C hK (hB.1 0 _ rfl) dX0_add_31 ?_
    refine lv_iconst (v := 1) hx hb dX0_add_34 (by decide) ?_
    refine lv_iadd hx hb dX0_add_35 ?_
    refine lv_topi (fun x6 ex6 => ?_)
    have hf := ox_lt ex6 hf
    refine pf_X0_X0_size C hK hB hD 0 rfl dX0_add_36 (fun H locs u7 eu7 hB => ?_)
    have hf := ox_lt eu7 hf
    have hB : WB E ad s.heap [wFormula E a_f u7] H locs := hB
    have hf := Option.some.inj hf
    subst hf
    exact hQ _ _ H locs (fun _ => 0) hB dX0_add_39
set_option maxHeartbeats 4000000 in
set_option maxRecDepth 20000 in
theorem tX0_join (l : Launch) (E : Ev) (x_0 : Int32) (x_1 : Int64) (x_2 : Int64) (res : Int64) (hf : fX0_join x_0 x_1 x_2 = some res) : MP l E yX0_join cX0_join 5 (some .long) (rmm 1 30) [] [.int x_0, .long x_1, .long x_2] (some (.long res)) := by
  unfold fX0_join at hf
  refine MP.ofL rfl (by decide) (Nat.le_of_ble_eq_true rfl) ?_
  intro p e R s m args below meth c ls Q hRf hRl C hP hK hN hl hQ
  have hx := C.1
  have hb := C.2.1
  have hl : lv_has ls 5 [(0, .int x_0), (1, .long x_1), (3, .long x_2)] := hl
  refine lv_iload_n hx hb dX0_join_0 rfl (lv_at hl 0 rfl) ?_
  by_cases c1 : x_0 = 3
  · have hf := (if_pos c1).symm.trans hf
    refine lv_tableIn hx hb dX0_join_1 (by rw [c1]; decide) (by rw [c1]; decide) (off := 59) (by rw [c1]; decide) (tgt := 60) (by decide) ?_
    refine lv_lload_n hx hb dX0_join_60 rfl (lv_at hl 1 rfl) ?_
    refine lv_lconst (v := 0) hx hb dX0_join_61 (by decide) ?_
    refine W.lcmp hx hb dX0_join_62 ?_
    obtain ⟨x2, ex2, hf⟩ := ox_ex hf
    have hjx2 : W p l e R s m args below meth c s.heap [] 0 0 Q (F0 m 77 ls [.long x2]) := by
      have hf := Option.some.inj hf
      subst hf
      exact hQ _ _ dX0_join_77
    refine lx_if_ne (tgt := 72) hx hb dX0_join_63 (by decide) (fun c3 => ?_) (fun c3 => ?_)
    · refine lv_lconst (v := 1) hx hb dX0_join_72 (by decide) ?_
      refine lv_goto (tgt := 77) hx hb dX0_join_73 (by decide) ?_
      exact ox_topl ((ex2).trans (if_neg c3)).symm hjx2
    · refine lv_lload_n hx hb dX0_join_66 rfl (lv_at hl 2 rfl) ?_
      refine lv_lconst (v := 0) hx hb dX0_join_67 (by decide) ?_
      refine W.lcmp hx hb dX0_join_68 ?_
      refine lx_if_eq (tgt := 76) hx hb dX0_join_69 (by decide) (fun c4 => ?_) (fun c4 => ?_)
      · refine lv_lconst (v := 0) hx hb dX0_join_76 (by decide) ?_
        exact ox_topl (((ex2).trans (if_pos c3)).trans (if_pos c4)).symm hjx2
      · refine lv_lconst (v := 1) hx hb dX0_join_72 (by decide) ?_
        refine lv_goto (tgt := 77) hx hb dX0_join_73 (by decide) ?_
        exact ox_topl (((ex2).trans (if_pos c3)).trans (if_neg c4)).symm hjx2
  have hf := (if_neg c1).symm.trans hf
  by_cases c5 : x_0 = 4
  · have hf := (if_pos c5).symm.trans hf
    refine lv_tableIn hx hb dX0_join_1 (by rw [c5]; decide) (by rw [c5]; decide) (off := 77) (by rw [c5]; decide) (tgt := 78) (by decide) ?_
    refine lv_lload_n hx hb dX0_join_78 rfl (lv_at hl 1 rfl) ?_
    refine lv_lconst (v := 0) hx hb dX0_join_79 (by decide) ?_
    refine W.lcmp hx hb dX0_join_80 ?_
    obtain ⟨x6, ex6, hf⟩ := ox_ex hf
    have hjx6 : W p l e R s m args below meth c s.heap [] 0 0 Q (F0 m 95 ls [.long x6]) := by
      have hf := Option.some.inj hf
      subst hf
      exact hQ _ _ dX0_join_95
    refine lx_if_eq (tgt := 94) hx hb dX0_join_81 (by decide) (fun c7 => ?_) (fun c7 => ?_)
    · refine lv_lconst (v := 0) hx hb dX0_join_94 (by decide) ?_
      exact ox_topl ((ex6).trans (if_pos c7)).symm hjx6
    · refine lv_lload_n hx hb dX0_join_84 rfl (lv_at hl 2 rfl) ?_
      refine lv_lconst (v := 0) hx hb dX0_join_85 (by decide) ?_
      refine W.lcmp hx hb dX0_join_86 ?_
      refine lx_if_eq (tgt := 94) hx hb dX0_join_87 (by decide) (fun c8 => ?_) (fun c8 => ?_)
      · refine lv_lconst (v := 0) hx hb dX0_join_94 (by decide) ?_
        exact ox_topl (((ex6).trans (if_neg c7)).trans (if_pos c8)).symm hjx6
      · refine lv_lconst (v := 1) hx hb dX0_join_90 (by decide) ?_
        refine lv_goto (tgt := 95) hx hb dX0_join_91 (by decide) ?_
        exact ox_topl (((ex6).trans (if_neg c7)).trans (if_neg c8)).symm hjx6
  have hf := (if_neg c5).symm.trans hf
  by_cases c9 : x_0 = 5
  · have hf := (if_pos c9).symm.trans hf
    refine lv_tableIn hx hb dX0_join_1 (by rw [c9]; decide) (by rw [c9]; decide) (off := 95) (by rw [c9]; decide) (tgt := 96) (by decide) ?_
    refine lv_lload_n hx hb dX0_join_96 rfl (lv_at hl 1 rfl) ?_
    refine lv_lload_n hx hb dX0_join_97 rfl (lv_at hl 2 rfl) ?_
    refine W.lcmp hx hb dX0_join_98 ?_
    obtain ⟨x10, ex10, hf⟩ := ox_ex hf
    have hjx10 : W p l e R s m args below meth c s.heap [] 0 0 Q (F0 m 107 ls [.long x10]) := by
      have hf := Option.some.inj hf
      subst hf
      exact hQ _ _ dX0_join_107
    refine lx_if_ge (tgt := 106) hx hb dX0_join_99 (by decide) (fun c11 => ?_) (fun c11 => ?_)
    · refine lv_lconst (v := 0) hx hb dX0_join_106 (by decide) ?_
      exact ox_topl ((ex10).trans (if_pos c11)).symm hjx10
    · refine lv_lconst (v := 1) hx hb dX0_join_102 (by decide) ?_
      refine lv_goto (tgt := 107) hx hb dX0_join_103 (by decide) ?_
      exact ox_topl ((ex10).trans (if_neg c11)).symm hjx10
  have hf := (if_neg c9).symm.trans hf
  by_cases c12 : x_0 = 6
  · have hf := (if_pos c12).symm.trans hf
    refine lv_tableIn hx hb dX0_join_1 (by rw [c12]; decide) (by rw [c12]; decide) (off := 107) (by rw [c12]; decide) (tgt := 108) (by decide) ?_
    refine lv_lload_n hx hb dX0_join_108 rfl (lv_at hl 1 rfl) ?_
    refine lv_lload_n hx hb dX0_join_109 rfl (lv_at hl 2 rfl) ?_
    refine W.lcmp hx hb dX0_join_110 ?_
    obtain ⟨x13, ex13, hf⟩ := ox_ex hf
    have hjx13 : W p l e R s m args below meth c s.heap [] 0 0 Q (F0 m 119 ls [.long x13]) := by
      have hf := Option.some.inj hf
      subst hf
      exact hQ _ _ dX0_join_119
    refine lx_if_gt (tgt := 118) hx hb dX0_join_111 (by decide) (fun c14 => ?_) (fun c14 => ?_)
    · refine lv_lconst (v := 0) hx hb dX0_join_118 (by decide) ?_
      exact ox_topl ((ex13).trans (if_pos c14)).symm hjx13
    · refine lv_lconst (v := 1) hx hb dX0_join_114 (by decide) ?_
      refine lv_goto (tgt := 119) hx hb dX0_join_115 (by decide) ?_
      exact ox_topl ((ex13).trans (if_neg c14)).symm hjx13
  have hf := (if_neg c12).symm.trans hf
  by_cases c15 : x_0 = 7
  · have hf := (if_pos c15).symm.trans hf
    refine lv_tableIn hx hb dX0_join_1 (by rw [c15]; decide) (by rw [c15]; decide) (off := 119) (by rw [c15]; decide) (tgt := 120) (by decide) ?_
    refine lv_lload_n hx hb dX0_join_120 rfl (lv_at hl 1 rfl) ?_
    refine lv_lload_n hx hb dX0_join_121 rfl (lv_at hl 2 rfl) ?_
    refine W.lcmp hx hb dX0_join_122 ?_
    obtain ⟨x16, ex16, hf⟩ := ox_ex hf
    have hjx16 : W p l e R s m args below meth c s.heap [] 0 0 Q (F0 m 131 ls [.long x16]) := by
      have hf := Option.some.inj hf
      subst hf
      exact hQ _ _ dX0_join_131
    refine lx_if_ne (tgt := 130) hx hb dX0_join_123 (by decide) (fun c17 => ?_) (fun c17 => ?_)
    · refine lv_lconst (v := 0) hx hb dX0_join_130 (by decide) ?_
      exact ox_topl ((ex16).trans (if_neg c17)).symm hjx16
    · refine lv_lconst (v := 1) hx hb dX0_join_126 (by decide) ?_
      refine lv_goto (tgt := 131) hx hb dX0_join_127 (by decide) ?_
      exact ox_topl ((ex16).trans (if_pos c17)).symm hjx16
  have hf := (if_neg c15).symm.trans hf
  by_cases c18 : x_0 = 8
  · have hf := (if_pos c18).symm.trans hf
    refine lv_tableIn hx hb dX0_join_1 (by rw [c18]; decide) (by rw [c18]; decide) (off := 131) (by rw [c18]; decide) (tgt := 132) (by decide) ?_
    refine lv_lload_n hx hb dX0_join_132 rfl (lv_at hl 1 rfl) ?_
    refine lv_lload_n hx hb dX0_join_133 rfl (lv_at hl 2 rfl) ?_
    refine W.lcmp hx hb dX0_join_134 ?_
    obtain ⟨x19, ex19, hf⟩ := ox_ex hf
    have hjx19 : W p l e R s m args below meth c s.heap [] 0 0 Q (F0 m 143 ls [.long x19]) := by
      have hf := Option.some.inj hf
      subst hf
      exact hQ _ _ dX0_join_143
    refine lx_if_eq (tgt := 142) hx hb dX0_join_135 (by decide) (fun c20 => ?_) (fun c20 => ?_)
    · refine lv_lconst (v := 0) hx hb dX0_join_142 (by decide) ?_
      exact ox_topl ((ex19).trans (if_pos c20)).symm hjx19
    · refine lv_lconst (v := 1) hx hb dX0_join_138 (by decide) ?_
      refine lv_goto (tgt := 143) hx hb dX0_join_139 (by decide) ?_
      exact ox_topl ((ex19).trans (if_neg c20)).symm hjx19
  have hf := (if_neg c18).symm.trans hf
  by_cases c21 : x_0 = 9
  · have hf := (if_pos c21).symm.trans hf
    refine lv_tableIn hx hb dX0_join_1 (by rw [c21]; decide) (by rw [c21]; decide) (off := 143) (by rw [c21]; decide) (tgt := 144) (by decide) ?_
    refine lv_lload_n hx hb dX0_join_144 rfl (lv_at hl 1 rfl) ?_
    refine lv_lload_n hx hb dX0_join_145 rfl (lv_at hl 2 rfl) ?_
    refine W.lcmp hx hb dX0_join_146 ?_
    obtain ⟨x22, ex22, hf⟩ := ox_ex hf
    have hjx22 : W p l e R s m args below meth c s.heap [] 0 0 Q (F0 m 155 ls [.long x22]) := by
      have hf := Option.some.inj hf
      subst hf
      exact hQ _ _ dX0_join_155
    refine lx_if_lt (tgt := 154) hx hb dX0_join_147 (by decide) (fun c23 => ?_) (fun c23 => ?_)
    · refine lv_lconst (v := 0) hx hb dX0_join_154 (by decide) ?_
      exact ox_topl ((ex22).trans (if_pos c23)).symm hjx22
    · refine lv_lconst (v := 1) hx hb dX0_join_150 (by decide) ?_
      refine lv_goto (tgt := 155) hx hb dX0_join_151 (by decide) ?_
      exact ox_topl ((ex22).trans (if_neg c23)).symm hjx22
  have hf := (if_neg c21).symm.trans hf
  by_cases c24 : x_0 = 10
  · have hf := (if_pos c24).symm.trans hf
    refine lv_tableIn hx hb dX0_join_1 (by rw [c24]; decide) (by rw [c24]; decide) (off := 155) (by rw [c24]; decide) (tgt := 156) (by decide) ?_
    refine lv_lload_n hx hb dX0_join_156 rfl (lv_at hl 1 rfl) ?_
    refine lv_lload_n hx hb dX0_join_157 rfl (lv_at hl 2 rfl) ?_
    refine W.lcmp hx hb dX0_join_158 ?_
    obtain ⟨x25, ex25, hf⟩ := ox_ex hf
    have hjx25 : W p l e R s m args below meth c s.heap [] 0 0 Q (F0 m 167 ls [.long x25]) := by
      have hf := Option.some.inj hf
      subst hf
      exact hQ _ _ dX0_join_167
    refine lx_if_le (tgt := 166) hx hb dX0_join_159 (by decide) (fun c26 => ?_) (fun c26 => ?_)
    · refine lv_lconst (v := 0) hx hb dX0_join_166 (by decide) ?_
      exact ox_topl ((ex25).trans (if_pos c26)).symm hjx25
    · refine lv_lconst (v := 1) hx hb dX0_join_162 (by decide) ?_
      refine lv_goto (tgt := 167) hx hb dX0_join_163 (by decide) ?_
      exact ox_topl ((ex25).trans (if_neg c26)).symm hjx25
  have hf := (if_neg c24).symm.trans hf
  by_cases c27 : x_0 = 11
  · have hf := (if_pos c27).symm.trans hf
    refine lv_tableIn hx hb dX0_join_1 (by rw [c27]; decide) (by rw [c27]; decide) (off := 167) (by rw [c27]; decide) (tgt := 168) (by decide) ?_
    refine lv_lload_n hx hb dX0_join_168 rfl (lv_at hl 1 rfl) ?_
    refine lv_lload_n hx hb dX0_join_169 rfl (lv_at hl 2 rfl) ?_
    refine lv_ladd hx hb dX0_join_170 ?_
    have hf := Option.some.inj hf
    subst hf
    exact hQ _ _ dX0_join_171
  have hf := (if_neg c27).symm.trans hf
  by_cases c28 : x_0 = 12
  · have hf := (if_pos c28).symm.trans hf
    refine lv_tableIn hx hb dX0_join_1 (by rw [c28]; decide) (by rw [c28]; decide) (off := 171) (by rw [c28]; decide) (tgt := 172) (by decide) ?_
    refine lv_lload_n hx hb dX0_join_172 rfl (lv_at hl 1 rfl) ?_
    refine lv_lload_n hx hb dX0_join_173 rfl (lv_at hl 2 rfl) ?_
    refine lv_lsub hx hb dX0_join_174 ?_
    have hf := Option.some.inj hf
    subst hf
    exact hQ _ _ dX0_join_175
  have hf := (if_neg c28).symm.trans hf
  by_cases c29 : x_0 = 13
  · have hf := (if_pos c29).symm.trans hf
    refine lv_tableIn hx hb dX0_join_1 (by rw [c29]; decide) (by rw [c29]; decide) (off := 175) (by rw [c29]; decide) (tgt := 176) (by decide) ?_
    refine lv_lload_n hx hb dX0_join_176 rfl (lv_at hl 1 rfl) ?_
    refine lv_lconst (v := 0) hx hb dX0_join_177 (by decide) ?_
    refine W.lcmp hx hb dX0_join_178 ?_
    refine lx_if_eq (tgt := 204) hx hb dX0_join_179 (by decide) (fun c30 => ?_) (fun c30 => ?_)
    · have hf := (if_pos c30).symm.trans hf
      refine lv_lload_n hx hb dX0_join_204 rfl (lv_at hl 1 rfl) ?_
      refine lv_lload_n hx hb dX0_join_205 rfl (lv_at hl 2 rfl) ?_
      refine lv_lmul hx hb dX0_join_206 ?_
      have hf := Option.some.inj hf
      subst hf
      exact hQ _ _ dX0_join_207
    · have hf := (if_neg c30).symm.trans hf
      refine lv_lload_n hx hb dX0_join_182 rfl (lv_at hl 2 rfl) ?_
      refine va_mabs_long hx hb (C.2.2.1.trans hl.1.symm) C.2.2.2.1 (C.2.2.2.2 _ mw_791) (C.2.2.2.2 _ mm_mabs_long_s) (C.2.2.2.2 _ mm_ini) (C.2.2.2.2 _ mm_mabs_long_c) (by rw [hRf]; decide) (by rw [hRl]; exact Nat.le_of_ble_eq_true rfl) (Nat.zero_le _) (Nat.zero_le _) dX0_join_183 ?_
      refine lv_ldc2 (v := 1000000000000) hx hb C.2.2.2.1 (C.2.2.2.2 _ mw_794) dX0_join_186 ?_
      refine lv_lload_n hx hb dX0_join_189 rfl (lv_at hl 1 rfl) ?_
      refine va_mabs_long hx hb (C.2.2.1.trans hl.1.symm) C.2.2.2.1 (C.2.2.2.2 _ mw_791) (C.2.2.2.2 _ mm_mabs_long_s) (C.2.2.2.2 _ mm_ini) (C.2.2.2.2 _ mm_mabs_long_c) (by rw [hRf]; decide) (by rw [hRl]; exact Nat.le_of_ble_eq_true rfl) (Nat.zero_le _) (Nat.zero_le _) dX0_join_190 ?_
      obtain ⟨hn31, hf⟩ := ox_chk hf
      refine lv_ldiv hx hb dX0_join_193 hn31 ?_
      refine W.lcmp hx hb dX0_join_194 ?_
      refine lx_if_le (tgt := 204) hx hb dX0_join_195 (by decide) (fun c32 => ?_) (fun c32 => ?_)
      · have hf := (if_pos c32).symm.trans hf
        refine lv_lload_n hx hb dX0_join_204 rfl (lv_at hl 1 rfl) ?_
        refine lv_lload_n hx hb dX0_join_205 rfl (lv_at hl 2 rfl) ?_
        refine lv_lmul hx hb dX0_join_206 ?_
        have hf := Option.some.inj hf
        subst hf
        exact hQ _ _ dX0_join_207
      · have hf := (if_neg c32).symm.trans hf
        refine lv_ldc2 (v := -9223372036854775808) hx hb C.2.2.2.1 (C.2.2.2.2 _ mw_795) dX0_join_198 ?_
        refine lv_goto (tgt := 207) hx hb dX0_join_201 (by decide) ?_
        have hf := Option.some.inj hf
        subst hf
        exact hQ _ _ dX0_join_207
  have hf := (if_neg c29).symm.trans hf
  have hd35 : W p l e R s m args below meth c s.heap [] 0 0 Q (F0 m 208 ls []) := by
    refine lv_lload_n hx hb dX0_join_208 rfl (lv_at hl 2 rfl) ?_
    refine lv_lconst (v := 0) hx hb dX0_join_209 (by decide) ?_
    refine W.lcmp hx hb dX0_join_210 ?_
    refine lx_if_ne (tgt := 220) hx hb dX0_join_211 (by decide) (fun c33 => ?_) (fun c33 => ?_)
    · have hf := (if_neg c33).symm.trans hf
      refine lv_lload_n hx hb dX0_join_220 rfl (lv_at hl 1 rfl) ?_
      refine lv_lload_n hx hb dX0_join_221 rfl (lv_at hl 2 rfl) ?_
      obtain ⟨hn34, hf⟩ := ox_chk hf
      refine lv_ldiv hx hb dX0_join_222 hn34 ?_
      have hf := Option.some.inj hf
      subst hf
      exact hQ _ _ dX0_join_223
    · have hf := (if_pos c33).symm.trans hf
      refine lv_ldc2 (v := -9223372036854775808) hx hb C.2.2.2.1 (C.2.2.2.2 _ mw_795) dX0_join_214 ?_
      refine lv_goto (tgt := 223) hx hb dX0_join_217 (by decide) ?_
      have hf := Option.some.inj hf
      subst hf
      exact hQ _ _ dX0_join_223
  have nc1 := lv_neT c1 (show Int32.toInt 3 = 3 from rfl)
  have nc5 := lv_neT c5 (show Int32.toInt 4 = 4 from rfl)
  have nc9 := lv_neT c9 (show Int32.toInt 5 = 5 from rfl)
  have nc12 := lv_neT c12 (show Int32.toInt 6 = 6 from rfl)
  have nc15 := lv_neT c15 (show Int32.toInt 7 = 7 from rfl)
  have nc18 := lv_neT c18 (show Int32.toInt 8 = 8 from rfl)
  have nc21 := lv_neT c21 (show Int32.toInt 9 = 9 from rfl)
  have nc24 := lv_neT c24 (show Int32.toInt 10 = 10 from rfl)
  have nc27 := lv_neT c27 (show Int32.toInt 11 = 11 from rfl)
  have nc28 := lv_neT c28 (show Int32.toInt 12 = 12 from rfl)
  have nc29 := lv_neT c29 (show Int32.toInt 13 = 13 from rfl)
  rcases (show Int32.toInt x_0 < 3 ∨ 13 < Int32.toInt x_0 by omega) with h | h
  · exact lv_tableOut hx hb dX0_join_1 (Or.inl h) (tgt := 208) (by decide) hd35
  · exact lv_tableOut hx hb dX0_join_1 (Or.inr h) (tgt := 208) (by decide) hd35
set_option maxHeartbeats 4000000 in
set_option maxRecDepth 20000 in
theorem tX0_value (l : Launch) (E : Ev) (a_f : Nat → Nat) (u_f : St) (n_nm : Nat) (a_nm : Nat → Nat) (u_nm : St) (res : Int64 × St) (hf : fX0_value n_nm u_f u_nm = some res) : MX l E yX0_value cX0_value 5 (some .long) (rmm 2 54) [wFormula E a_f u_f, wLArr E n_nm a_nm u_nm] (fun q => [wFormula E a_f res.2, wLArr E n_nm a_nm u_nm]) [.ref (a_f 0), .ref (a_nm 0)] (some (.long res.1)) := by
  unfold fX0_value at hf
  refine MX.ofL rfl (by decide) (Nat.le_of_ble_eq_true rfl) ?_
  intro p e R s m args below meth c ls Q ad H hRf hRl C hB hD hK hN hl hQ
  generalize hlocs : ([] : List Loc) = locs at hB ⊢
  clear hlocs
  have hx := C.1
  have hb := C.2.1
  have hl : lv_has ls 5 [(0, .ref (a_f 0)), (1, .ref (a_nm 0))] := hl
  refine lv_iconst (v := 0) hx hb dX0_value_0 (by decide) ?_
  refine lv_istore_n (lv' := [(2, .int (0 : Int32)), (0, .ref (a_f 0)), (1, .ref (a_nm 0))]) hx hb dX0_value_1 rfl hl (by decide) rfl (fun ls hl => ?_)
  refine lv_iconst (v := 0) hx hb dX0_value_2 (by decide) ?_
  refine lv_istore_n (lv' := [(3, .int (0 : Int32)), (2, .int (0 : Int32)), (0, .ref (a_f 0)), (1, .ref (a_nm 0))]) hx hb dX0_value_3 rfl hl (by decide) rfl (fun ls hl => ?_)
  obtain ⟨X1, hX1, hf⟩ := ox_bind hf
  have hexit1 : ∀ y42, .inl y42 = X1 → ∀ (ls : Array Slot) (H : Heap) (locs : List Loc), lv_has ls 5 [(0, .ref (a_f 0)), (2, .int y42.1)] → WB E ad s.heap [wFormula E a_f y42.2, wLArr E n_nm a_nm u_nm] H locs → W p l e R s m args below meth c H locs 0 0 Q (F0 m 181 ls []) := by
    intro y42 hy ls H locs hl hB
    subst hy
    have hf := ox_inl hf
    refine lv_iload_n hx hb dX0_value_181 rfl (lv_at hl 1 rfl) ?_
    refine lv_iconst (v := 1) hx hb dX0_value_182 (by decide) ?_
    obtain ⟨x43, ex43, hf⟩ := ox_ex hf
    have hjx43 : W p l e R s m args below meth c H locs 0 0 Q (F0 m 198 ls [.long x43]) := by
      have hf := Option.some.inj hf
      subst hf
      exact hQ _ _ H locs (fun _ => 0) hB dX0_value_198
    refine lv_icmp_ne (tgt := 195) hx hb dX0_value_183 (by decide) (fun c44 => ?_) (fun c44 => ?_)
    · refine lv_ldc2 (v := -9223372036854775808) hx hb C.2.2.2.1 (C.2.2.2.2 _ mw_795) dX0_value_195 ?_
      exact ox_topl ((ex43).trans (if_neg c44)).symm hjx43
    · refine lv_aload_n hx hb dX0_value_186 rfl (lv_at hl 0 rfl) ?_
      refine gf_X0_X0_stack C hK (hB.1 0 _ rfl) dX0_value_187 ?_
      refine lv_iconst (v := 0) hx hb dX0_value_190 (by decide) ?_
      refine ld_X0_stack C hK (hB.1 0 _ rfl) (by decide) rfl dX0_value_191 ?_
      refine lv_goto (tgt := 198) hx hb dX0_value_192 (by decide) ?_
      exact ox_topl ((ex43).trans (if_pos c44)).symm hjx43
  have hret1 : ∀ r, .inr r = X1 → r = res := by
    intro r hr
    subst hr
    exact Option.some.inj (ox_inr hf)
  have hloop1 : ∀ (nf : Nat) (x1 : Int32) (x2 : Int32) (u3 : St) (ls : Array Slot) (H : Heap) (locs : List Loc), lv_has ls 5 [(0, .ref (a_f 0)), (1, .ref (a_nm 0)), (2, .int x1), (3, .int x2)] → WB E ad s.heap [wFormula E a_f u3, wLArr E n_nm a_nm u_nm] H locs → fX0_value_L1 u_nm n_nm nf x1 x2 u3 = some X1 → W p l e R s m args below meth c H locs 0 0 Q (F0 m 4 ls []) := by
    intro nf
    induction nf with
    | zero =>
      intro x1 x2 u3 ls H locs hl hB hf
      simp [fX0_value_L1] at hf
    | succ nf ih =>
      intro x1 x2 u3 ls H locs hl hB hf
      rw [fX0_value_L1] at hf
      refine lv_iload_n hx hb dX0_value_4 rfl (lv_at hl 3 rfl) ?_
      refine lv_aload_n hx hb dX0_value_5 rfl (lv_at hl 0 rfl) ?_
      refine gf_X0_X0_size C hK (hB.1 0 _ rfl) dX0_value_6 ?_
      refine lv_icmp_ge (tgt := 181) hx hb dX0_value_9 (by decide) (fun c4 => ?_) (fun c4 => ?_)
      · have hf := (if_pos c4).symm.trans hf
        exact hexit1 _ (Option.some.inj hf) ls H locs (lv_sub hl [0, 2] rfl) hB
      · have hf := (if_neg c4).symm.trans hf
        refine lv_aload_n hx hb dX0_value_12 rfl (lv_at hl 0 rfl) ?_
        refine gf_X0_X0_kinds C hK (hB.1 0 _ rfl) dX0_value_13 ?_
        refine lv_iload_n hx hb dX0_value_16 rfl (lv_at hl 3 rfl) ?_
        obtain ⟨hn5, hf⟩ := ox_chk hf
        refine ld_X0_kinds C hK (hB.1 0 _ rfl) hn5 rfl dX0_value_17 ?_
        refine lv_topi (fun x6 ex6 => ?_)
        have hf := ox_lt ex6 hf
        refine lv_istore (lv' := [(4, .int x6), (0, .ref (a_f 0)), (1, .ref (a_nm 0)), (2, .int x1), (3, .int x2)]) hx hb dX0_value_18 hl (by decide) rfl (fun ls hl => ?_)
        refine lv_iload hx hb dX0_value_20 (lv_at hl 0 rfl) ?_
        obtain ⟨j9, ej9, hf⟩ := ox_ex hf
        have hj9 : ∀ (x7 : Int32) (u8 : St) (ls : Array Slot) (H : Heap) (locs : List Loc), lv_has ls 5 [(0, .ref (a_f 0)), (1, .ref (a_nm 0)), (2, .int x7), (3, .int x2)] → WB E ad s.heap [wFormula E a_f u8, wLArr E n_nm a_nm u_nm] H locs → j9 x7 u8 = some X1 → W p l e R s m args below meth c H locs 0 0 Q (F0 m 175 ls []) := by
          intro x7 u8 ls H locs hl hB hf
          have hf := ox_a2 ej9 hf
          obtain ⟨x10, ex10⟩ : ∃ z : Int32, z = (x2 + 1) := ⟨_, rfl⟩
          have hf := ox_lt ex10 hf
          refine lv_iinc (v := x10) (lv' := [(3, .int x10), (0, .ref (a_f 0)), (1, .ref (a_nm 0)), (2, .int x7)]) hx hb dX0_value_175 hl (k := 3) rfl (by rw [ex10]; rfl) (by decide) rfl (fun ls hl => ?_)
          refine lv_goto (tgt := 4) hx hb dX0_value_178 (by decide) ?_
          exact ih _ _ _ ls H locs (lv_sub hl [1, 2, 3, 0] rfl) hB hf
        obtain ⟨j11, ej11, hf⟩ := ox_ex hf
        have hj11 : ∀ (ls : Array Slot) (H : Heap) (locs : List Loc), lv_has ls 5 [(0, .ref (a_f 0)), (1, .ref (a_nm 0)), (2, .int x1), (3, .int x2), (4, .int x6)] → WB E ad s.heap [wFormula E a_f u3, wLArr E n_nm a_nm u_nm] H locs → j11 = some X1 → W p l e R s m args below meth c H locs 0 0 Q (F0 m 31 ls []) := by
          intro ls H locs hl hB hf
          have hf := ox_a0 ej11 hf
          refine lv_aload_n hx hb dX0_value_31 rfl (lv_at hl 0 rfl) ?_
          refine gf_X0_X0_stack C hK (hB.1 0 _ rfl) dX0_value_32 ?_
          refine lv_iload_n hx hb dX0_value_35 rfl (lv_at hl 2 rfl) ?_
          refine lv_iload hx hb dX0_value_36 (lv_at hl 4 rfl) ?_
          obtain ⟨j13, ej13, hf⟩ := ox_ex hf
          have hj13 : ∀ (x12 : Int64) (ls : Array Slot) (H : Heap) (locs : List Loc), lv_has ls 5 [(0, .ref (a_f 0)), (1, .ref (a_nm 0)), (2, .int x1), (3, .int x2)] → WB E ad s.heap [wFormula E a_f u3, wLArr E n_nm a_nm u_nm] H locs → j13 x12 = some X1 → W p l e R s m args below meth c H locs 0 0 Q (F0 m 59 ls [.long x12, .int x1, .ref (a_f 3)]) := by
            intro x12 ls H locs hl hB hf
            have hf := ox_a1 ej13 hf
            obtain ⟨hn14, hf⟩ := ox_chk hf
            refine st_X0_stack C hK hB hD 0 rfl hn14 rfl dX0_value_59 (fun H locs u15 eu15 hB => ?_)
            have hf := ox_lt eu15 hf
            have hB : WB E ad s.heap [wFormula E a_f u15, wLArr E n_nm a_nm u_nm] H locs := hB
            obtain ⟨x16, ex16⟩ : ∃ z : Int32, z = (x1 + 1) := ⟨_, rfl⟩
            have hf := ox_lt ex16 hf
            refine lv_iinc (v := x16) (lv' := [(2, .int x16), (0, .ref (a_f 0)), (1, .ref (a_nm 0)), (3, .int x2)]) hx hb dX0_value_60 hl (k := 2) rfl (by rw [ex16]; rfl) (by decide) rfl (fun ls hl => ?_)
            refine lv_goto (tgt := 175) hx hb dX0_value_63 (by decide) ?_
            exact hj9 _ _ ls H locs (lv_sub hl [1, 2, 0, 3] rfl) hB hf
          refine lv_if_ne (tgt := 51) hx hb dX0_value_38 (by decide) (fun c17 => ?_) (fun c17 => ?_)
          · have hf := (if_neg c17).symm.trans hf
            refine lv_aload_n hx hb dX0_value_51 rfl (lv_at hl 1 rfl) ?_
            refine lv_aload_n hx hb dX0_value_52 rfl (lv_at hl 0 rfl) ?_
            refine gf_X0_X0_values C hK (hB.1 0 _ rfl) dX0_value_53 ?_
            refine lv_iload_n hx hb dX0_value_56 rfl (lv_at hl 3 rfl) ?_
            obtain ⟨hn18, hf⟩ := ox_chk hf
            refine ld_X0_values C hK (hB.1 0 _ rfl) hn18 rfl dX0_value_57 ?_
            obtain ⟨hn19, hf⟩ := ox_chk hf
            refine ld_LArr_row C hK (hB.1 1 _ rfl) hn19 rfl dX0_value_58 ?_
            exact hj13 _ ls H locs (lv_sub hl [0, 1, 2, 3] rfl) hB hf
          · have hf := (if_pos c17).symm.trans hf
            refine lv_aload_n hx hb dX0_value_41 rfl (lv_at hl 0 rfl) ?_
            refine gf_X0_X0_values C hK (hB.1 0 _ rfl) dX0_value_42 ?_
            refine lv_iload_n hx hb dX0_value_45 rfl (lv_at hl 3 rfl) ?_
            obtain ⟨hn20, hf⟩ := ox_chk hf
            refine ld_X0_values C hK (hB.1 0 _ rfl) hn20 rfl dX0_value_46 ?_
            refine lv_i2l hx hb dX0_value_47 rfl ?_
            refine lv_goto (tgt := 59) hx hb dX0_value_48 (by decide) ?_
            exact hj13 _ ls H locs (lv_sub hl [0, 1, 2, 3] rfl) hB hf
        refine lv_if_eq (tgt := 31) hx hb dX0_value_22 (by decide) (fun c21 => ?_) (fun c21 => ?_)
        · have hf := (if_pos c21).symm.trans hf
          exact hj11 ls H locs (lv_sub hl [1, 2, 3, 4, 0] rfl) hB hf
        · have hf := (if_neg c21).symm.trans hf
          refine lv_iload hx hb dX0_value_25 (lv_at hl 0 rfl) ?_
          refine lv_iconst (v := 1) hx hb dX0_value_27 (by decide) ?_
          refine lv_icmp_ne (tgt := 66) hx hb dX0_value_28 (by decide) (fun c22 => ?_) (fun c22 => ?_)
          · have hf := (if_neg c22).symm.trans hf
            refine lv_iload hx hb dX0_value_66 (lv_at hl 0 rfl) ?_
            refine lv_iconst (v := 2) hx hb dX0_value_68 (by decide) ?_
            obtain ⟨j23, ej23, hf⟩ := ox_ex hf
            have hj23 : ∀ (ls : Array Slot) (H : Heap) (locs : List Loc), lv_has ls 5 [(0, .ref (a_f 0)), (1, .ref (a_nm 0)), (2, .int x1), (3, .int x2), (4, .int x6)] → WB E ad s.heap [wFormula E a_f u3, wLArr E n_nm a_nm u_nm] H locs → j23 = some X1 → W p l e R s m args below meth c H locs 0 0 Q (F0 m 106 ls []) := by
              intro ls H locs hl hB hf
              have hf := ox_a0 ej23 hf
              refine lv_iload_n hx hb dX0_value_106 rfl (lv_at hl 2 rfl) ?_
              refine lv_iconst (v := 2) hx hb dX0_value_107 (by decide) ?_
              refine lv_icmp_lt (tgt := 175) hx hb dX0_value_108 (by decide) (fun c24 => ?_) (fun c24 => ?_)
              · have hf := (if_pos c24).symm.trans hf
                exact hj9 _ _ ls H locs (lv_sub hl [0, 1, 2, 3] rfl) hB hf
              · have hf := (if_neg c24).symm.trans hf
                obtain ⟨x25, ex25⟩ : ∃ z : Int32, z = (x1 + (-1)) := ⟨_, rfl⟩
                have hf := ox_lt ex25 hf
                refine lv_iinc (v := x25) (lv' := [(2, .int x25), (0, .ref (a_f 0)), (1, .ref (a_nm 0)), (3, .int x2), (4, .int x6)]) hx hb dX0_value_111 hl (k := 2) rfl (by rw [ex25]; rfl) (by decide) rfl (fun ls hl => ?_)
                refine lv_aload_n hx hb dX0_value_114 rfl (lv_at hl 1 rfl) ?_
                refine gf_X0_X0_stack C hK (hB.1 0 _ rfl) dX0_value_115 ?_
                refine lv_iload_n hx hb dX0_value_118 rfl (lv_at hl 0 rfl) ?_
                refine lv_iconst (v := 1) hx hb dX0_value_119 (by decide) ?_
                refine lv_isub hx hb dX0_value_120 ?_
                refine lv_iload hx hb dX0_value_121 (lv_at hl 4 rfl) ?_
                refine lv_aload_n hx hb dX0_value_123 rfl (lv_at hl 1 rfl) ?_
                refine gf_X0_X0_stack C hK (hB.1 0 _ rfl) dX0_value_124 ?_
                refine lv_iload_n hx hb dX0_value_127 rfl (lv_at hl 0 rfl) ?_
                refine lv_iconst (v := 1) hx hb dX0_value_128 (by decide) ?_
                refine lv_isub hx hb dX0_value_129 ?_
                obtain ⟨hn26, hf⟩ := ox_chk hf
                refine ld_X0_stack C hK (hB.1 0 _ rfl) hn26 rfl dX0_value_130 ?_
                refine lv_aload_n hx hb dX0_value_131 rfl (lv_at hl 1 rfl) ?_
                refine gf_X0_X0_stack C hK (hB.1 0 _ rfl) dX0_value_132 ?_
                refine lv_iload_n hx hb dX0_value_135 rfl (lv_at hl 0 rfl) ?_
                obtain ⟨hn27, hf⟩ := ox_chk hf
                refine ld_X0_stack C hK (hB.1 0 _ rfl) hn27 rfl dX0_value_136 ?_
                obtain ⟨r28, hr28, hf⟩ := ox_bind hf
                refine cxSP (As := [.int x6, .long (gB u3 2 ((x25 - (1 : Int32))).toNatClampNeg), .long (gB u3 2 (x25).toNatClampNeg)]) (rest := [.int (x25 - (1 : Int32)), .ref (a_f 3)]) (st1 := [.long r28, .int (x25 - (1 : Int32)), .ref (a_f 3)]) C hK (tX0_join l E x6 (gB u3 2 ((x25 - (1 : Int32))).toNatClampNeg) (gB u3 2 (x25).toNatClampNeg) r28 hr28) lk_X0_30 ⟨rfl, rfl⟩ (by rw [hRf, hRl]; decide) ⟨Nat.zero_le _, Nat.zero_le _⟩ (PB.sub hB.1 [] rfl) (hB.old hD hN) (Nat.le_trans hN hB.2.2.1) rfl hl.1 rfl rfl (Nat.le_of_ble_eq_true rfl) dX0_value_137 ?_
                obtain ⟨hn29, hf⟩ := ox_chk hf
                refine st_X0_stack C hK hB hD 0 rfl hn29 rfl dX0_value_140 (fun H locs u30 eu30 hB => ?_)
                have hf := ox_lt eu30 hf
                have hB : WB E ad s.heap [wFormula E a_f u30, wLArr E n_nm a_nm u_nm] H locs := hB
                refine lv_aload_n hx hb dX0_value_141 rfl (lv_at hl 1 rfl) ?_
                refine gf_X0_X0_stack C hK (hB.1 0 _ rfl) dX0_value_142 ?_
                refine lv_iload_n hx hb dX0_value_145 rfl (lv_at hl 0 rfl) ?_
                refine lv_iconst (v := 1) hx hb dX0_value_146 (by decide) ?_
                refine lv_isub hx hb dX0_value_147 ?_
                obtain ⟨hn31, hf⟩ := ox_chk hf
                refine ld_X0_stack C hK (hB.1 0 _ rfl) hn31 rfl dX0_value_148 ?_
                refine lv_ldc2 (v := 1000000000000) hx hb C.2.2.2.1 (C.2.2.2.2 _ mw_794) dX0_value_149 ?_
                refine W.lcmp hx hb dX0_value_152 ?_
                refine lx_if_gt (tgt := 171) hx hb dX0_value_153 (by decide) (fun c32 => ?_) (fun c32 => ?_)
                · have hf := (if_pos c32).symm.trans hf
                  refine lv_ldc2 (v := -9223372036854775808) hx hb C.2.2.2.1 (C.2.2.2.2 _ mw_795) dX0_value_171 ?_
                  have hf := hret1 _ (Option.some.inj hf)
                  subst hf
                  exact hQ _ _ H locs (fun _ => 0) hB dX0_value_174
                · have hf := (if_neg c32).symm.trans hf
                  refine lv_aload_n hx hb dX0_value_156 rfl (lv_at hl 1 rfl) ?_
                  refine gf_X0_X0_stack C hK (hB.1 0 _ rfl) dX0_value_157 ?_
                  refine lv_iload_n hx hb dX0_value_160 rfl (lv_at hl 0 rfl) ?_
                  refine lv_iconst (v := 1) hx hb dX0_value_161 (by decide) ?_
                  refine lv_isub hx hb dX0_value_162 ?_
                  obtain ⟨hn33, hf⟩ := ox_chk hf
                  refine ld_X0_stack C hK (hB.1 0 _ rfl) hn33 rfl dX0_value_163 ?_
                  refine lv_ldc2 (v := -1000000000000) hx hb C.2.2.2.1 (C.2.2.2.2 _ mw_796) dX0_value_164 ?_
                  refine W.lcmp hx hb dX0_value_167 ?_
                  refine lx_if_ge (tgt := 175) hx hb dX0_value_168 (by decide) (fun c34 => ?_) (fun c34 => ?_)
                  · have hf := (if_pos c34).symm.trans hf
                    exact hj9 _ _ ls H locs (lv_sub hl [1, 2, 0, 3] rfl) hB hf
                  · have hf := (if_neg c34).symm.trans hf
                    refine lv_ldc2 (v := -9223372036854775808) hx hb C.2.2.2.1 (C.2.2.2.2 _ mw_795) dX0_value_171 ?_
                    have hf := hret1 _ (Option.some.inj hf)
                    subst hf
                    exact hQ _ _ H locs (fun _ => 0) hB dX0_value_174
            refine lv_icmp_ne (tgt := 106) hx hb dX0_value_69 (by decide) (fun c35 => ?_) (fun c35 => ?_)
            · have hf := (if_neg c35).symm.trans hf
              exact hj23 ls H locs (lv_sub hl [1, 2, 3, 4, 0] rfl) hB hf
            · have hf := (if_pos c35).symm.trans hf
              refine lv_iload_n hx hb dX0_value_72 rfl (lv_at hl 3 rfl) ?_
              refine lv_iconst (v := 1) hx hb dX0_value_73 (by decide) ?_
              refine lv_icmp_lt (tgt := 106) hx hb dX0_value_74 (by decide) (fun c36 => ?_) (fun c36 => ?_)
              · have hf := (if_pos c36).symm.trans hf
                exact hj23 ls H locs (lv_sub hl [1, 2, 3, 4, 0] rfl) hB hf
              · have hf := (if_neg c36).symm.trans hf
                refine lv_aload_n hx hb dX0_value_77 rfl (lv_at hl 1 rfl) ?_
                refine gf_X0_X0_stack C hK (hB.1 0 _ rfl) dX0_value_78 ?_
                refine lv_iload_n hx hb dX0_value_81 rfl (lv_at hl 3 rfl) ?_
                refine lv_iconst (v := 1) hx hb dX0_value_82 (by decide) ?_
                refine lv_isub hx hb dX0_value_83 ?_
                refine lv_aload_n hx hb dX0_value_84 rfl (lv_at hl 1 rfl) ?_
                refine gf_X0_X0_stack C hK (hB.1 0 _ rfl) dX0_value_85 ?_
                refine lv_iload_n hx hb dX0_value_88 rfl (lv_at hl 3 rfl) ?_
                refine lv_iconst (v := 1) hx hb dX0_value_89 (by decide) ?_
                refine lv_isub hx hb dX0_value_90 ?_
                obtain ⟨hn37, hf⟩ := ox_chk hf
                refine ld_X0_stack C hK (hB.1 0 _ rfl) hn37 rfl dX0_value_91 ?_
                refine lv_lconst (v := 0) hx hb dX0_value_92 (by decide) ?_
                refine W.lcmp hx hb dX0_value_93 ?_
                obtain ⟨x38, ex38, hf⟩ := ox_ex hf
                have hjx38 : W p l e R s m args below meth c H locs 0 0 Q (F0 m 102 ls [.long x38, .int (x1 - (1 : Int32)), .ref (a_f 3)]) := by
                  obtain ⟨hn39, hf⟩ := ox_chk hf
                  refine st_X0_stack C hK hB hD 0 rfl hn39 rfl dX0_value_102 (fun H locs u40 eu40 hB => ?_)
                  have hf := ox_lt eu40 hf
                  have hB : WB E ad s.heap [wFormula E a_f u40, wLArr E n_nm a_nm u_nm] H locs := hB
                  refine lv_goto (tgt := 175) hx hb dX0_value_103 (by decide) ?_
                  exact hj9 _ _ ls H locs (lv_sub hl [1, 2, 3, 4] rfl) hB hf
                refine lx_if_ne (tgt := 101) hx hb dX0_value_94 (by decide) (fun c41 => ?_) (fun c41 => ?_)
                · refine lv_lconst (v := 0) hx hb dX0_value_101 (by decide) ?_
                  exact ox_topl ((ex38).trans (if_neg c41)).symm hjx38
                · refine lv_lconst (v := 1) hx hb dX0_value_97 (by decide) ?_
                  refine lv_goto (tgt := 102) hx hb dX0_value_98 (by decide) ?_
                  exact ox_topl ((ex38).trans (if_pos c41)).symm hjx38
          · have hf := (if_pos c22).symm.trans hf
            exact hj11 ls H locs (lv_sub hl [1, 2, 3, 4, 0] rfl) hB hf
  exact hloop1 fuel _ _ _ ls H locs (lv_sub hl [2, 3, 1, 0] rfl) hB hX1
set_option maxHeartbeats 4000000 in
set_option maxRecDepth 20000 in
theorem tX1_begin (l : Launch) (E : Ev) (a_h : Nat → Nat) (u_h : St) (x_1 : Int32) (res : St) (hf : fX1_begin u_h x_1 = some res) : MX l E yX1_begin cX1_begin 3 none (rmm 0 0) [wHall E a_h u_h] (fun q => [wHall E a_h res]) [.ref (a_h 0), .int x_1] none := by
  unfold fX1_begin at hf
  refine MX.ofV rfl (by decide) (Nat.le_of_ble_eq_true rfl) ?_
  intro p e R s m args below meth c ls Q ad H hRf hRl C hB hD hK hN hl hQ
  generalize hlocs : ([] : List Loc) = locs at hB ⊢
  clear hlocs
  have hx := C.1
  have hb := C.2.1
  have hl : lv_has ls 3 [(0, .ref (a_h 0)), (1, .int x_1)] := hl
  refine lv_aload_n hx hb dX1_begin_0 rfl (lv_at hl 0 rfl) ?_
  refine lv_iconst (v := 0) hx hb dX1_begin_1 (by decide) ?_
  refine pf_X1_X1_minute C hK hB hD 0 rfl dX1_begin_2 (fun H locs u1 eu1 hB => ?_)
  have hf := ox_lt eu1 hf
  have hB : WB E ad s.heap [wHall E a_h u1] H locs := hB
  refine lv_aload_n hx hb dX1_begin_5 rfl (lv_at hl 0 rfl) ?_
  refine lv_iconst (v := 0) hx hb dX1_begin_6 (by decide) ?_
  refine pf_X1_X1_speed C hK hB hD 0 rfl dX1_begin_7 (fun H locs u2 eu2 hB => ?_)
  have hf := ox_lt eu2 hf
  have hB : WB E ad s.heap [wHall E a_h u2] H locs := hB
  refine lv_aload_n hx hb dX1_begin_10 rfl (lv_at hl 0 rfl) ?_
  refine lv_iconst (v := (-1)) hx hb dX1_begin_11 (by decide) ?_
  refine pf_X1_X1_on C hK hB hD 0 rfl dX1_begin_12 (fun H locs u3 eu3 hB => ?_)
  have hf := ox_lt eu3 hf
  have hB : WB E ad s.heap [wHall E a_h u3] H locs := hB
  refine lv_aload_n hx hb dX1_begin_15 rfl (lv_at hl 0 rfl) ?_
  refine lv_iconst (v := 0) hx hb dX1_begin_16 (by decide) ?_
  refine pf_X1_X1_left C hK hB hD 0 rfl dX1_begin_17 (fun H locs u4 eu4 hB => ?_)
  have hf := ox_lt eu4 hf
  have hB : WB E ad s.heap [wHall E a_h u4] H locs := hB
  refine lv_aload_n hx hb dX1_begin_20 rfl (lv_at hl 0 rfl) ?_
  refine lv_iconst (v := 0) hx hb dX1_begin_21 (by decide) ?_
  refine pf_X1_X1_refused C hK hB hD 0 rfl dX1_begin_22 (fun H locs u5 eu5 hB => ?_)
  have hf := ox_lt eu5 hf
  have hB : WB E ad s.heap [wHall E a_h u5] H locs := hB
  refine lv_aload_n hx hb dX1_begin_25 rfl (lv_at hl 0 rfl) ?_
  refine lv_iconst (v := 0) hx hb dX1_begin_26 (by decide) ?_
  refine pf_X1_X1_coughed C hK hB hD 0 rfl dX1_begin_27 (fun H locs u6 eu6 hB => ?_)
  have hf := ox_lt eu6 hf
  have hB : WB E ad s.heap [wHall E a_h u6] H locs := hB
  refine lv_aload_n hx hb dX1_begin_30 rfl (lv_at hl 0 rfl) ?_
  refine lv_iconst (v := 0) hx hb dX1_begin_31 (by decide) ?_
  refine pf_X1_X1_groundInAll C hK hB hD 0 rfl dX1_begin_32 (fun H locs u7 eu7 hB => ?_)
  have hf := ox_lt eu7 hf
  have hB : WB E ad s.heap [wHall E a_h u7] H locs := hB
  refine lv_aload_n hx hb dX1_begin_35 rfl (lv_at hl 0 rfl) ?_
  refine lv_iconst (v := (-1)) hx hb dX1_begin_36 (by decide) ?_
  refine pf_X1_X1_latest C hK hB hD 0 rfl dX1_begin_37 (fun H locs u8 eu8 hB => ?_)
  have hf := ox_lt eu8 hf
  have hB : WB E ad s.heap [wHall E a_h u8] H locs := hB
  refine lv_aload_n hx hb dX1_begin_40 rfl (lv_at hl 0 rfl) ?_
  refine lv_iload_n hx hb dX1_begin_41 rfl (lv_at hl 1 rfl) ?_
  refine lv_i2l hx hb dX1_begin_42 rfl ?_
  refine lv_topl (fun x9 ex9 => ?_)
  have hf := ox_lt ex9 hf
  refine pf_X1_X1_number C hK hB hD 0 rfl dX1_begin_43 (fun H locs u10 eu10 hB => ?_)
  have hf := ox_lt eu10 hf
  have hB : WB E ad s.heap [wHall E a_h u10] H locs := hB
  refine lv_iconst (v := 0) hx hb dX1_begin_46 (by decide) ?_
  refine lv_istore_n (lv' := [(2, .int (0 : Int32)), (0, .ref (a_h 0)), (1, .int x_1)]) hx hb dX1_begin_47 rfl hl (by decide) rfl (fun ls hl => ?_)
  obtain ⟨X1, hX1, hf⟩ := ox_bind hf
  have hexit1 : ∀ y17, y17 = X1 → ∀ (ls : Array Slot) (H : Heap) (locs : List Loc), lv_has ls 3 [(0, .ref (a_h 0))] → WB E ad s.heap [wHall E a_h y17] H locs → W p l e R s m args below meth c H locs 0 0 Q (F0 m 70 ls []) := by
    intro y17 hy ls H locs hl hB
    subst hy
    refine lv_iconst (v := 0) hx hb dX1_begin_70 (by decide) ?_
    refine lv_istore_n (lv' := [(2, .int (0 : Int32)), (0, .ref (a_h 0))]) hx hb dX1_begin_71 rfl hl (by decide) rfl (fun ls hl => ?_)
    obtain ⟨X2, hX2, hf⟩ := ox_bind hf
    have hexit2 : ∀ y28, y28 = X2 → ∀ (ls : Array Slot) (H : Heap) (locs : List Loc), lv_has ls 3 [] → WB E ad s.heap [wHall E a_h y28] H locs → W p l e R s m args below meth c H locs 0 0 Q (F0 m 105 ls []) := by
      intro y28 hy ls H locs hl hB
      subst hy
      have hf := Option.some.inj hf
      subst hf
      exact hQ _ _ H locs (fun _ => 0) hB dX1_begin_105
    have hloop2 : ∀ (nf : Nat) (x18 : Int32) (u19 : St) (ls : Array Slot) (H : Heap) (locs : List Loc), lv_has ls 3 [(0, .ref (a_h 0)), (2, .int x18)] → WB E ad s.heap [wHall E a_h u19] H locs → fX1_begin_L2 nf x18 u19 = some X2 → W p l e R s m args below meth c H locs 0 0 Q (F0 m 72 ls []) := by
      intro nf
      induction nf with
      | zero =>
        intro x18 u19 ls H locs hl hB hf
        simp [fX1_begin_L2] at hf
      | succ nf ih =>
        intro x18 u19 ls H locs hl hB hf
        rw [fX1_begin_L2] at hf
        refine lv_iload_n hx hb dX1_begin_72 rfl (lv_at hl 1 rfl) ?_
        refine lv_bipush (v := 6) hx hb dX1_begin_73 (by decide) ?_
        refine lv_icmp_ge (tgt := 105) hx hb dX1_begin_75 (by decide) (fun c20 => ?_) (fun c20 => ?_)
        · have hf := (if_pos c20).symm.trans hf
          exact hexit2 _ (Option.some.inj hf) ls H locs (lv_sub hl [] rfl) hB
        · have hf := (if_neg c20).symm.trans hf
          refine lv_aload_n hx hb dX1_begin_78 rfl (lv_at hl 0 rfl) ?_
          refine gf_X1_X1_tired C hK (hB.1 0 _ rfl) dX1_begin_79 ?_
          refine lv_iload_n hx hb dX1_begin_82 rfl (lv_at hl 1 rfl) ?_
          refine lv_iconst (v := 0) hx hb dX1_begin_83 (by decide) ?_
          obtain ⟨hn21, hf⟩ := ox_chk hf
          refine st_X1_tired C hK hB hD 0 rfl hn21 rfl dX1_begin_84 (fun H locs u22 eu22 hB => ?_)
          have hf := ox_lt eu22 hf
          have hB : WB E ad s.heap [wHall E a_h u22] H locs := hB
          refine lv_aload_n hx hb dX1_begin_85 rfl (lv_at hl 0 rfl) ?_
          refine gf_X1_X1_clapped C hK (hB.1 0 _ rfl) dX1_begin_86 ?_
          refine lv_iload_n hx hb dX1_begin_89 rfl (lv_at hl 1 rfl) ?_
          refine lv_iconst (v := 0) hx hb dX1_begin_90 (by decide) ?_
          obtain ⟨hn23, hf⟩ := ox_chk hf
          refine st_X1_clapped C hK hB hD 0 rfl hn23 rfl dX1_begin_91 (fun H locs u24 eu24 hB => ?_)
          have hf := ox_lt eu24 hf
          have hB : WB E ad s.heap [wHall E a_h u24] H locs := hB
          refine lv_aload_n hx hb dX1_begin_92 rfl (lv_at hl 0 rfl) ?_
          refine gf_X1_X1_seating C hK (hB.1 0 _ rfl) dX1_begin_93 ?_
          refine lv_iload_n hx hb dX1_begin_96 rfl (lv_at hl 1 rfl) ?_
          refine lv_iload_n hx hb dX1_begin_97 rfl (lv_at hl 1 rfl) ?_
          obtain ⟨hn25, hf⟩ := ox_chk hf
          refine st_X1_seating C hK hB hD 0 rfl hn25 rfl dX1_begin_98 (fun H locs u26 eu26 hB => ?_)
          have hf := ox_lt eu26 hf
          have hB : WB E ad s.heap [wHall E a_h u26] H locs := hB
          obtain ⟨x27, ex27⟩ : ∃ z : Int32, z = (x18 + 1) := ⟨_, rfl⟩
          have hf := ox_lt ex27 hf
          refine lv_iinc (v := x27) (lv' := [(2, .int x27), (0, .ref (a_h 0))]) hx hb dX1_begin_99 hl (k := 1) rfl (by rw [ex27]; rfl) (by decide) rfl (fun ls hl => ?_)
          refine lv_goto (tgt := 72) hx hb dX1_begin_102 (by decide) ?_
          exact ih _ _ ls H locs (lv_sub hl [1, 0] rfl) hB hf
    exact hloop2 fuel _ _ ls H locs (lv_sub hl [1, 0] rfl) hB hX2
  have hloop1 : ∀ (nf : Nat) (x11 : Int32) (u12 : St) (ls : Array Slot) (H : Heap) (locs : List Loc), lv_has ls 3 [(0, .ref (a_h 0)), (2, .int x11)] → WB E ad s.heap [wHall E a_h u12] H locs → fX1_begin_L1 nf x11 u12 = some X1 → W p l e R s m args below meth c H locs 0 0 Q (F0 m 48 ls []) := by
    intro nf
    induction nf with
    | zero =>
      intro x11 u12 ls H locs hl hB hf
      simp [fX1_begin_L1] at hf
    | succ nf ih =>
      intro x11 u12 ls H locs hl hB hf
      rw [fX1_begin_L1] at hf
      refine lv_iload_n hx hb dX1_begin_48 rfl (lv_at hl 1 rfl) ?_
      refine lv_aload_n hx hb dX1_begin_49 rfl (lv_at hl 0 rfl) ?_
      refine gf_X1_X1_ground C hK (hB.1 0 _ rfl) dX1_begin_50 ?_
      refine bx_alen C hK (hB.1 0 _ rfl) 1 0 rfl rfl (v := (4 : Int32)) rfl dX1_begin_53 ?_
      refine lv_icmp_ge (tgt := 70) hx hb dX1_begin_54 (by decide) (fun c13 => ?_) (fun c13 => ?_)
      · have hf := (if_pos c13).symm.trans hf
        exact hexit1 _ (Option.some.inj hf) ls H locs (lv_sub hl [0] rfl) hB
      · have hf := (if_neg c13).symm.trans hf
        refine lv_aload_n hx hb dX1_begin_57 rfl (lv_at hl 0 rfl) ?_
        refine gf_X1_X1_ground C hK (hB.1 0 _ rfl) dX1_begin_58 ?_
        refine lv_iload_n hx hb dX1_begin_61 rfl (lv_at hl 1 rfl) ?_
        refine lv_iconst (v := 0) hx hb dX1_begin_62 (by decide) ?_
        obtain ⟨hn14, hf⟩ := ox_chk hf
        refine st_X1_ground C hK hB hD 0 rfl hn14 rfl dX1_begin_63 (fun H locs u15 eu15 hB => ?_)
        have hf := ox_lt eu15 hf
        have hB : WB E ad s.heap [wHall E a_h u15] H locs := hB
        obtain ⟨x16, ex16⟩ : ∃ z : Int32, z = (x11 + 1) := ⟨_, rfl⟩
        have hf := ox_lt ex16 hf
        refine lv_iinc (v := x16) (lv' := [(2, .int x16), (0, .ref (a_h 0))]) hx hb dX1_begin_64 hl (k := 1) rfl (by rw [ex16]; rfl) (by decide) rfl (fun ls hl => ?_)
        refine lv_goto (tgt := 48) hx hb dX1_begin_67 (by decide) ?_
        exact ih _ _ ls H locs (lv_sub hl [1, 0] rfl) hB hf
  exact hloop1 fuel _ _ ls H locs (lv_sub hl [1, 0] rfl) hB hX1
set_option maxHeartbeats 4000000 in
set_option maxRecDepth 20000 in
theorem tX1_copy (l : Launch) (E : Ev) (a_h : Nat → Nat) (u_h : St) (a_g : Nat → Nat) (u_g : St) (res : St) (hf : fX1_copy u_h u_g = some res) : MX l E yX1_copy cX1_copy 3 none (rmm 0 0) [wHall E a_h u_h, wHall E a_g u_g] (fun q => [wHall E a_h res, wHall E a_g u_g]) [.ref (a_h 0), .ref (a_g 0)] none := by
  unfold fX1_copy at hf
  refine MX.ofV rfl (by decide) (Nat.le_of_ble_eq_true rfl) ?_
  intro p e R s m args below meth c ls Q ad H hRf hRl C hB hD hK hN hl hQ
  generalize hlocs : ([] : List Loc) = locs at hB ⊢
  clear hlocs
  have hx := C.1
  have hb := C.2.1
  have hl : lv_has ls 3 [(0, .ref (a_h 0)), (1, .ref (a_g 0))] := hl
  refine lv_aload_n hx hb dX1_copy_0 rfl (lv_at hl 0 rfl) ?_
  refine lv_aload_n hx hb dX1_copy_1 rfl (lv_at hl 1 rfl) ?_
  refine gf_X1_X1_minute C hK (hB.1 1 _ rfl) dX1_copy_2 ?_
  refine lv_topi (fun x1 ex1 => ?_)
  have hf := ox_lt ex1 hf
  refine pf_X1_X1_minute C hK hB hD 0 rfl dX1_copy_5 (fun H locs u2 eu2 hB => ?_)
  have hf := ox_lt eu2 hf
  have hB : WB E ad s.heap [wHall E a_h u2, wHall E a_g u_g] H locs := hB
  refine lv_aload_n hx hb dX1_copy_8 rfl (lv_at hl 0 rfl) ?_
  refine lv_aload_n hx hb dX1_copy_9 rfl (lv_at hl 1 rfl) ?_
  refine gf_X1_X1_speed C hK (hB.1 1 _ rfl) dX1_copy_10 ?_
  refine lv_topi (fun x3 ex3 => ?_)
  have hf := ox_lt ex3 hf
  refine pf_X1_X1_speed C hK hB hD 0 rfl dX1_copy_13 (fun H locs u4 eu4 hB => ?_)
  have hf := ox_lt eu4 hf
  have hB : WB E ad s.heap [wHall E a_h u4, wHall E a_g u_g] H locs := hB
  refine lv_aload_n hx hb dX1_copy_16 rfl (lv_at hl 0 rfl) ?_
  refine lv_aload_n hx hb dX1_copy_17 rfl (lv_at hl 1 rfl) ?_
  refine gf_X1_X1_on C hK (hB.1 1 _ rfl) dX1_copy_18 ?_
  refine lv_topi (fun x5 ex5 => ?_)
  have hf := ox_lt ex5 hf
  refine pf_X1_X1_on C hK hB hD 0 rfl dX1_copy_21 (fun H locs u6 eu6 hB => ?_)
  have hf := ox_lt eu6 hf
  have hB : WB E ad s.heap [wHall E a_h u6, wHall E a_g u_g] H locs := hB
  refine lv_aload_n hx hb dX1_copy_24 rfl (lv_at hl 0 rfl) ?_
  refine lv_aload_n hx hb dX1_copy_25 rfl (lv_at hl 1 rfl) ?_
  refine gf_X1_X1_left C hK (hB.1 1 _ rfl) dX1_copy_26 ?_
  refine lv_topi (fun x7 ex7 => ?_)
  have hf := ox_lt ex7 hf
  refine pf_X1_X1_left C hK hB hD 0 rfl dX1_copy_29 (fun H locs u8 eu8 hB => ?_)
  have hf := ox_lt eu8 hf
  have hB : WB E ad s.heap [wHall E a_h u8, wHall E a_g u_g] H locs := hB
  refine lv_aload_n hx hb dX1_copy_32 rfl (lv_at hl 0 rfl) ?_
  refine lv_aload_n hx hb dX1_copy_33 rfl (lv_at hl 1 rfl) ?_
  refine gf_X1_X1_refused C hK (hB.1 1 _ rfl) dX1_copy_34 ?_
  refine lv_topi (fun x9 ex9 => ?_)
  have hf := ox_lt ex9 hf
  refine pf_X1_X1_refused C hK hB hD 0 rfl dX1_copy_37 (fun H locs u10 eu10 hB => ?_)
  have hf := ox_lt eu10 hf
  have hB : WB E ad s.heap [wHall E a_h u10, wHall E a_g u_g] H locs := hB
  refine lv_aload_n hx hb dX1_copy_40 rfl (lv_at hl 0 rfl) ?_
  refine lv_aload_n hx hb dX1_copy_41 rfl (lv_at hl 1 rfl) ?_
  refine gf_X1_X1_coughed C hK (hB.1 1 _ rfl) dX1_copy_42 ?_
  refine lv_topi (fun x11 ex11 => ?_)
  have hf := ox_lt ex11 hf
  refine pf_X1_X1_coughed C hK hB hD 0 rfl dX1_copy_45 (fun H locs u12 eu12 hB => ?_)
  have hf := ox_lt eu12 hf
  have hB : WB E ad s.heap [wHall E a_h u12, wHall E a_g u_g] H locs := hB
  refine lv_aload_n hx hb dX1_copy_48 rfl (lv_at hl 0 rfl) ?_
  refine lv_aload_n hx hb dX1_copy_49 rfl (lv_at hl 1 rfl) ?_
  refine gf_X1_X1_groundInAll C hK (hB.1 1 _ rfl) dX1_copy_50 ?_
  refine lv_topi (fun x13 ex13 => ?_)
  have hf := ox_lt ex13 hf
  refine pf_X1_X1_groundInAll C hK hB hD 0 rfl dX1_copy_53 (fun H locs u14 eu14 hB => ?_)
  have hf := ox_lt eu14 hf
  have hB : WB E ad s.heap [wHall E a_h u14, wHall E a_g u_g] H locs := hB
  refine lv_aload_n hx hb dX1_copy_56 rfl (lv_at hl 0 rfl) ?_
  refine lv_aload_n hx hb dX1_copy_57 rfl (lv_at hl 1 rfl) ?_
  refine gf_X1_X1_latest C hK (hB.1 1 _ rfl) dX1_copy_58 ?_
  refine lv_topi (fun x15 ex15 => ?_)
  have hf := ox_lt ex15 hf
  refine pf_X1_X1_latest C hK hB hD 0 rfl dX1_copy_61 (fun H locs u16 eu16 hB => ?_)
  have hf := ox_lt eu16 hf
  have hB : WB E ad s.heap [wHall E a_h u16, wHall E a_g u_g] H locs := hB
  refine lv_aload_n hx hb dX1_copy_64 rfl (lv_at hl 0 rfl) ?_
  refine lv_aload_n hx hb dX1_copy_65 rfl (lv_at hl 1 rfl) ?_
  refine gf_X1_X1_number C hK (hB.1 1 _ rfl) dX1_copy_66 ?_
  refine lv_topl (fun x17 ex17 => ?_)
  have hf := ox_lt ex17 hf
  refine pf_X1_X1_number C hK hB hD 0 rfl dX1_copy_69 (fun H locs u18 eu18 hB => ?_)
  have hf := ox_lt eu18 hf
  have hB : WB E ad s.heap [wHall E a_h u18, wHall E a_g u_g] H locs := hB
  refine lv_iconst (v := 0) hx hb dX1_copy_72 (by decide) ?_
  refine lv_istore_n (lv' := [(2, .int (0 : Int32)), (0, .ref (a_h 0)), (1, .ref (a_g 0))]) hx hb dX1_copy_73 rfl hl (by decide) rfl (fun ls hl => ?_)
  obtain ⟨X1, hX1, hf⟩ := ox_bind hf
  have hexit1 : ∀ y27, y27 = X1 → ∀ (ls : Array Slot) (H : Heap) (locs : List Loc), lv_has ls 3 [(0, .ref (a_h 0)), (1, .ref (a_g 0))] → WB E ad s.heap [wHall E a_h y27, wHall E a_g u_g] H locs → W p l e R s m args below meth c H locs 0 0 Q (F0 m 101 ls []) := by
    intro y27 hy ls H locs hl hB
    subst hy
    refine lv_iconst (v := 0) hx hb dX1_copy_101 (by decide) ?_
    refine lv_istore_n (lv' := [(2, .int (0 : Int32)), (0, .ref (a_h 0)), (1, .ref (a_g 0))]) hx hb dX1_copy_102 rfl hl (by decide) rfl (fun ls hl => ?_)
    obtain ⟨X2, hX2, hf⟩ := ox_bind hf
    have hexit2 : ∀ y44, y44 = X2 → ∀ (ls : Array Slot) (H : Heap) (locs : List Loc), lv_has ls 3 [] → WB E ad s.heap [wHall E a_h y44, wHall E a_g u_g] H locs → W p l e R s m args below meth c H locs 0 0 Q (F0 m 151 ls []) := by
      intro y44 hy ls H locs hl hB
      subst hy
      have hf := Option.some.inj hf
      subst hf
      exact hQ _ _ H locs (fun _ => 0) hB dX1_copy_151
    have hloop2 : ∀ (nf : Nat) (x28 : Int32) (u29 : St) (ls : Array Slot) (H : Heap) (locs : List Loc), lv_has ls 3 [(0, .ref (a_h 0)), (1, .ref (a_g 0)), (2, .int x28)] → WB E ad s.heap [wHall E a_h u29, wHall E a_g u_g] H locs → fX1_copy_L2 u_g nf x28 u29 = some X2 → W p l e R s m args below meth c H locs 0 0 Q (F0 m 103 ls []) := by
      intro nf
      induction nf with
      | zero =>
        intro x28 u29 ls H locs hl hB hf
        simp [fX1_copy_L2] at hf
      | succ nf ih =>
        intro x28 u29 ls H locs hl hB hf
        rw [fX1_copy_L2] at hf
        refine lv_iload_n hx hb dX1_copy_103 rfl (lv_at hl 2 rfl) ?_
        refine lv_bipush (v := 6) hx hb dX1_copy_104 (by decide) ?_
        refine lv_icmp_ge (tgt := 151) hx hb dX1_copy_106 (by decide) (fun c30 => ?_) (fun c30 => ?_)
        · have hf := (if_pos c30).symm.trans hf
          exact hexit2 _ (Option.some.inj hf) ls H locs (lv_sub hl [] rfl) hB
        · have hf := (if_neg c30).symm.trans hf
          refine lv_aload_n hx hb dX1_copy_109 rfl (lv_at hl 0 rfl) ?_
          refine gf_X1_X1_tired C hK (hB.1 0 _ rfl) dX1_copy_110 ?_
          refine lv_iload_n hx hb dX1_copy_113 rfl (lv_at hl 2 rfl) ?_
          refine lv_aload_n hx hb dX1_copy_114 rfl (lv_at hl 1 rfl) ?_
          refine gf_X1_X1_tired C hK (hB.1 1 _ rfl) dX1_copy_115 ?_
          refine lv_iload_n hx hb dX1_copy_118 rfl (lv_at hl 2 rfl) ?_
          obtain ⟨hn31, hf⟩ := ox_chk hf
          refine ld_X1_tired C hK (hB.1 1 _ rfl) hn31 rfl dX1_copy_119 ?_
          refine lv_topi (fun x32 ex32 => ?_)
          have hf := ox_lt ex32 hf
          obtain ⟨hn33, hf⟩ := ox_chk hf
          refine st_X1_tired C hK hB hD 0 rfl hn33 rfl dX1_copy_120 (fun H locs u34 eu34 hB => ?_)
          have hf := ox_lt eu34 hf
          have hB : WB E ad s.heap [wHall E a_h u34, wHall E a_g u_g] H locs := hB
          refine lv_aload_n hx hb dX1_copy_121 rfl (lv_at hl 0 rfl) ?_
          refine gf_X1_X1_clapped C hK (hB.1 0 _ rfl) dX1_copy_122 ?_
          refine lv_iload_n hx hb dX1_copy_125 rfl (lv_at hl 2 rfl) ?_
          refine lv_aload_n hx hb dX1_copy_126 rfl (lv_at hl 1 rfl) ?_
          refine gf_X1_X1_clapped C hK (hB.1 1 _ rfl) dX1_copy_127 ?_
          refine lv_iload_n hx hb dX1_copy_130 rfl (lv_at hl 2 rfl) ?_
          obtain ⟨hn35, hf⟩ := ox_chk hf
          refine ld_X1_clapped C hK (hB.1 1 _ rfl) hn35 rfl dX1_copy_131 ?_
          refine lv_topi (fun x36 ex36 => ?_)
          have hf := ox_lt ex36 hf
          obtain ⟨hn37, hf⟩ := ox_chk hf
          refine st_X1_clapped C hK hB hD 0 rfl hn37 rfl dX1_copy_132 (fun H locs u38 eu38 hB => ?_)
          have hf := ox_lt eu38 hf
          have hB : WB E ad s.heap [wHall E a_h u38, wHall E a_g u_g] H locs := hB
          refine lv_aload_n hx hb dX1_copy_133 rfl (lv_at hl 0 rfl) ?_
          refine gf_X1_X1_seating C hK (hB.1 0 _ rfl) dX1_copy_134 ?_
          refine lv_iload_n hx hb dX1_copy_137 rfl (lv_at hl 2 rfl) ?_
          refine lv_aload_n hx hb dX1_copy_138 rfl (lv_at hl 1 rfl) ?_
          refine gf_X1_X1_seating C hK (hB.1 1 _ rfl) dX1_copy_139 ?_
          refine lv_iload_n hx hb dX1_copy_142 rfl (lv_at hl 2 rfl) ?_
          obtain ⟨hn39, hf⟩ := ox_chk hf
          refine ld_X1_seating C hK (hB.1 1 _ rfl) hn39 rfl dX1_copy_143 ?_
          refine lv_topi (fun x40 ex40 => ?_)
          have hf := ox_lt ex40 hf
          obtain ⟨hn41, hf⟩ := ox_chk hf
          refine st_X1_seating C hK hB hD 0 rfl hn41 rfl dX1_copy_144 (fun H locs u42 eu42 hB => ?_)
          have hf := ox_lt eu42 hf
          have hB : WB E ad s.heap [wHall E a_h u42, wHall E a_g u_g] H locs := hB
          obtain ⟨x43, ex43⟩ : ∃ z : Int32, z = (x28 + 1) := ⟨_, rfl⟩
          have hf := ox_lt ex43 hf
          refine lv_iinc (v := x43) (lv' := [(2, .int x43), (0, .ref (a_h 0)), (1, .ref (a_g 0))]) hx hb dX1_copy_145 hl (k := 2) rfl (by rw [ex43]; rfl) (by decide) rfl (fun ls hl => ?_)
          refine lv_goto (tgt := 103) hx hb dX1_copy_148 (by decide) ?_
          exact ih _ _ ls H locs (lv_sub hl [1, 2, 0] rfl) hB hf
    exact hloop2 fuel _ _ ls H locs (lv_sub hl [1, 2, 0] rfl) hB hX2
  have hloop1 : ∀ (nf : Nat) (x19 : Int32) (u20 : St) (ls : Array Slot) (H : Heap) (locs : List Loc), lv_has ls 3 [(0, .ref (a_h 0)), (1, .ref (a_g 0)), (2, .int x19)] → WB E ad s.heap [wHall E a_h u20, wHall E a_g u_g] H locs → fX1_copy_L1 u_g nf x19 u20 = some X1 → W p l e R s m args below meth c H locs 0 0 Q (F0 m 74 ls []) := by
    intro nf
    induction nf with
    | zero =>
      intro x19 u20 ls H locs hl hB hf
      simp [fX1_copy_L1] at hf
    | succ nf ih =>
      intro x19 u20 ls H locs hl hB hf
      rw [fX1_copy_L1] at hf
      refine lv_iload_n hx hb dX1_copy_74 rfl (lv_at hl 2 rfl) ?_
      refine lv_aload_n hx hb dX1_copy_75 rfl (lv_at hl 0 rfl) ?_
      refine gf_X1_X1_ground C hK (hB.1 0 _ rfl) dX1_copy_76 ?_
      refine bx_alen C hK (hB.1 0 _ rfl) 1 0 rfl rfl (v := (4 : Int32)) rfl dX1_copy_79 ?_
      refine lv_icmp_ge (tgt := 101) hx hb dX1_copy_80 (by decide) (fun c21 => ?_) (fun c21 => ?_)
      · have hf := (if_pos c21).symm.trans hf
        exact hexit1 _ (Option.some.inj hf) ls H locs (lv_sub hl [0, 1] rfl) hB
      · have hf := (if_neg c21).symm.trans hf
        refine lv_aload_n hx hb dX1_copy_83 rfl (lv_at hl 0 rfl) ?_
        refine gf_X1_X1_ground C hK (hB.1 0 _ rfl) dX1_copy_84 ?_
        refine lv_iload_n hx hb dX1_copy_87 rfl (lv_at hl 2 rfl) ?_
        refine lv_aload_n hx hb dX1_copy_88 rfl (lv_at hl 1 rfl) ?_
        refine gf_X1_X1_ground C hK (hB.1 1 _ rfl) dX1_copy_89 ?_
        refine lv_iload_n hx hb dX1_copy_92 rfl (lv_at hl 2 rfl) ?_
        obtain ⟨hn22, hf⟩ := ox_chk hf
        refine ld_X1_ground C hK (hB.1 1 _ rfl) hn22 rfl dX1_copy_93 ?_
        refine lv_topi (fun x23 ex23 => ?_)
        have hf := ox_lt ex23 hf
        obtain ⟨hn24, hf⟩ := ox_chk hf
        refine st_X1_ground C hK hB hD 0 rfl hn24 rfl dX1_copy_94 (fun H locs u25 eu25 hB => ?_)
        have hf := ox_lt eu25 hf
        have hB : WB E ad s.heap [wHall E a_h u25, wHall E a_g u_g] H locs := hB
        obtain ⟨x26, ex26⟩ : ∃ z : Int32, z = (x19 + 1) := ⟨_, rfl⟩
        have hf := ox_lt ex26 hf
        refine lv_iinc (v := x26) (lv' := [(2, .int x26), (0, .ref (a_h 0)), (1, .ref (a_g 0))]) hx hb dX1_copy_95 hl (k := 2) rfl (by rw [ex26]; rfl) (by decide) rfl (fun ls hl => ?_)
        refine lv_goto (tgt := 74) hx hb dX1_copy_98 (by decide) ?_
        exact ih _ _ ls H locs (lv_sub hl [1, 2, 0] rfl) hB hf
  exact hloop1 fuel _ _ ls H locs (lv_sub hl [1, 2, 0] rfl) hB hX1
set_option maxHeartbeats 4000000 in
set_option maxRecDepth 20000 in
theorem tX1_putOn (l : Launch) (E : Ev) (a_h : Nat → Nat) (u_h : St) (x_1 : Int32) (x_2 : Int32) (res : St) (hf : fX1_putOn u_h x_1 x_2 = res) : MX l E yX1_putOn cX1_putOn 3 none (rmm 0 0) [wHall E a_h u_h] (fun q => [wHall E a_h res]) [.ref (a_h 0), .int x_1, .int x_2] none := by
  unfold fX1_putOn at hf
  refine MX.ofV rfl (by decide) (Nat.le_of_ble_eq_true rfl) ?_
  intro p e R s m args below meth c ls Q ad H hRf hRl C hB hD hK hN hl hQ
  generalize hlocs : ([] : List Loc) = locs at hB ⊢
  clear hlocs
  have hx := C.1
  have hb := C.2.1
  have hl : lv_has ls 3 [(0, .ref (a_h 0)), (1, .int x_1), (2, .int x_2)] := hl
  refine lv_aload_n hx hb dX1_putOn_0 rfl (lv_at hl 0 rfl) ?_
  refine lv_iload_n hx hb dX1_putOn_1 rfl (lv_at hl 1 rfl) ?_
  refine pf_X1_X1_on C hK hB hD 0 rfl dX1_putOn_2 (fun H locs u1 eu1 hB => ?_)
  have hf := ox_lt eu1 hf
  have hB : WB E ad s.heap [wHall E a_h u1] H locs := hB
  refine lv_aload_n hx hb dX1_putOn_5 rfl (lv_at hl 0 rfl) ?_
  refine lv_iload_n hx hb dX1_putOn_6 rfl (lv_at hl 2 rfl) ?_
  refine pf_X1_X1_left C hK hB hD 0 rfl dX1_putOn_7 (fun H locs u2 eu2 hB => ?_)
  have hf := ox_lt eu2 hf
  have hB : WB E ad s.heap [wHall E a_h u2] H locs := hB
  subst hf
  exact hQ _ _ H locs (fun _ => 0) hB dX1_putOn_10
set_option maxHeartbeats 4000000 in
set_option maxRecDepth 20000 in
theorem tX1_putOff (l : Launch) (E : Ev) (a_h : Nat → Nat) (u_h : St) (res : St) (hf : fX1_putOff u_h = res) : MX l E yX1_putOff cX1_putOff 1 none (rmm 0 0) [wHall E a_h u_h] (fun q => [wHall E a_h res]) [.ref (a_h 0)] none := by
  unfold fX1_putOff at hf
  refine MX.ofV rfl (by decide) (Nat.le_of_ble_eq_true rfl) ?_
  intro p e R s m args below meth c ls Q ad H hRf hRl C hB hD hK hN hl hQ
  generalize hlocs : ([] : List Loc) = locs at hB ⊢
  clear hlocs
  have hx := C.1
  have hb := C.2.1
  have hl : lv_has ls 1 [(0, .ref (a_h 0))] := hl
  refine lv_aload_n hx hb dX1_putOff_0 rfl (lv_at hl 0 rfl) ?_
  refine lv_iconst (v := (-1)) hx hb dX1_putOff_1 (by decide) ?_
  refine pf_X1_X1_on C hK hB hD 0 rfl dX1_putOff_2 (fun H locs u1 eu1 hB => ?_)
  have hf := ox_lt eu1 hf
  have hB : WB E ad s.heap [wHall E a_h u1] H locs := hB
  refine lv_aload_n hx hb dX1_putOff_5 rfl (lv_at hl 0 rfl) ?_
  refine lv_iconst (v := 0) hx hb dX1_putOff_6 (by decide) ?_
  refine pf_X1_X1_left C hK hB hD 0 rfl dX1_putOff_7 (fun H locs u2 eu2 hB => ?_)
  have hf := ox_lt eu2 hf
  have hB : WB E ad s.heap [wHall E a_h u2] H locs := hB
  subst hf
  exact hQ _ _ H locs (fun _ => 0) hB dX1_putOff_10
set_option maxHeartbeats 4000000 in
set_option maxRecDepth 20000 in
theorem tX1_seatOf (l : Launch) (E : Ev) (a_h : Nat → Nat) (u_h : St) (x_1 : Int32) (res : Int32) (hf : fX1_seatOf u_h x_1 = some res) : MP l E yX1_seatOf cX1_seatOf 3 (some .int) (rmm 0 0) [wHall E a_h u_h] [.ref (a_h 0), .int x_1] (some (.int res)) := by
  unfold fX1_seatOf at hf
  refine MP.ofI rfl (by decide) (Nat.le_of_ble_eq_true rfl) ?_
  intro p e R s m args below meth c ls Q hRf hRl C hP hK hN hl hQ
  have hx := C.1
  have hb := C.2.1
  have hl : lv_has ls 3 [(0, .ref (a_h 0)), (1, .int x_1)] := hl
  refine lv_iconst (v := 0) hx hb dX1_seatOf_0 (by decide) ?_
  refine lv_istore_n (lv' := [(2, .int (0 : Int32)), (0, .ref (a_h 0)), (1, .int x_1)]) hx hb dX1_seatOf_1 rfl hl (by decide) rfl (fun ls hl => ?_)
  obtain ⟨X1, hX1, hf⟩ := ox_bind hf
  have hexit1 : ∀ y6, .inl y6 = X1 → ∀ (ls : Array Slot), lv_has ls 3 [] → W p l e R s m args below meth c s.heap [] 0 0 Q (F0 m 26 ls []) := by
    intro y6 hy ls hl
    subst hy
    have hf := ox_inl hf
    refine lv_iconst (v := (-1)) hx hb dX1_seatOf_26 (by decide) ?_
    have hf := Option.some.inj hf
    subst hf
    exact hQ _ _ dX1_seatOf_27
  have hret1 : ∀ r, .inr r = X1 → r = res := by
    intro r hr
    subst hr
    exact Option.some.inj (ox_inr hf)
  have hloop1 : ∀ (nf : Nat) (x1 : Int32) (ls : Array Slot), lv_has ls 3 [(0, .ref (a_h 0)), (1, .int x_1), (2, .int x1)] → fX1_seatOf_L1 u_h x_1 nf x1 = some X1 → W p l e R s m args below meth c s.heap [] 0 0 Q (F0 m 2 ls []) := by
    intro nf
    induction nf with
    | zero =>
      intro x1 ls hl hf
      simp [fX1_seatOf_L1] at hf
    | succ nf ih =>
      intro x1 ls hl hf
      rw [fX1_seatOf_L1] at hf
      refine lv_iload_n hx hb dX1_seatOf_2 rfl (lv_at hl 2 rfl) ?_
      refine lv_bipush (v := 6) hx hb dX1_seatOf_3 (by decide) ?_
      refine lv_icmp_ge (tgt := 26) hx hb dX1_seatOf_5 (by decide) (fun c2 => ?_) (fun c2 => ?_)
      · have hf := (if_pos c2).symm.trans hf
        exact hexit1 _ (Option.some.inj hf) ls (lv_sub hl [] rfl)
      · have hf := (if_neg c2).symm.trans hf
        refine lv_aload_n hx hb dX1_seatOf_8 rfl (lv_at hl 0 rfl) ?_
        refine gf_X1_X1_seating C hK (hP 0 _ rfl) dX1_seatOf_9 ?_
        refine lv_iload_n hx hb dX1_seatOf_12 rfl (lv_at hl 2 rfl) ?_
        obtain ⟨hn3, hf⟩ := ox_chk hf
        refine ld_X1_seating C hK (hP 0 _ rfl) hn3 rfl dX1_seatOf_13 ?_
        refine lv_iload_n hx hb dX1_seatOf_14 rfl (lv_at hl 1 rfl) ?_
        refine lv_icmp_ne (tgt := 20) hx hb dX1_seatOf_15 (by decide) (fun c4 => ?_) (fun c4 => ?_)
        · have hf := (if_neg c4).symm.trans hf
          obtain ⟨x5, ex5⟩ : ∃ z : Int32, z = (x1 + 1) := ⟨_, rfl⟩
          have hf := ox_lt ex5 hf
          refine lv_iinc (v := x5) (lv' := [(2, .int x5), (0, .ref (a_h 0)), (1, .int x_1)]) hx hb dX1_seatOf_20 hl (k := 2) rfl (by rw [ex5]; rfl) (by decide) rfl (fun ls hl => ?_)
          refine lv_goto (tgt := 2) hx hb dX1_seatOf_23 (by decide) ?_
          exact ih _ ls (lv_sub hl [1, 2, 0] rfl) hf
        · have hf := (if_pos c4).symm.trans hf
          refine lv_iload_n hx hb dX1_seatOf_18 rfl (lv_at hl 2 rfl) ?_
          have hf := hret1 _ (Option.some.inj hf)
          subst hf
          exact hQ _ _ dX1_seatOf_19
  exact hloop1 fuel _ ls (lv_sub hl [1, 2, 0] rfl) hX1
set_option maxHeartbeats 4000000 in
set_option maxRecDepth 20000 in
theorem tX1_swapSeats (l : Launch) (E : Ev) (a_h : Nat → Nat) (u_h : St) (x_1 : Int32) (x_2 : Int32) (res : St) (hf : fX1_swapSeats u_h x_1 x_2 = some res) : MX l E yX1_swapSeats cX1_swapSeats 5 none (rmm 1 22) [wHall E a_h u_h] (fun q => [wHall E a_h res]) [.ref (a_h 0), .int x_1, .int x_2] none := by
  unfold fX1_swapSeats at hf
  refine MX.ofV rfl (by decide) (Nat.le_of_ble_eq_true rfl) ?_
  intro p e R s m args below meth c ls Q ad H hRf hRl C hB hD hK hN hl hQ
  generalize hlocs : ([] : List Loc) = locs at hB ⊢
  clear hlocs
  have hx := C.1
  have hb := C.2.1
  have hl : lv_has ls 5 [(0, .ref (a_h 0)), (1, .int x_1), (2, .int x_2)] := hl
  refine lv_aload_n hx hb dX1_swapSeats_0 rfl (lv_at hl 0 rfl) ?_
  refine lv_iload_n hx hb dX1_swapSeats_1 rfl (lv_at hl 1 rfl) ?_
  obtain ⟨r1, hr1, hf⟩ := ox_bind hf
  refine cxVP (As := [.int x_1]) (rest := []) (st1 := [.int r1]) C hK (tX1_seatOf l E a_h u_h x_1 r1 hr1) lk_X1_57 ⟨rfl, rfl⟩ (by rw [hRf, hRl]; decide) ⟨Nat.zero_le _, Nat.zero_le _⟩ (PB.sub hB.1 [0] rfl) (hB.old hD hN) (Nat.le_trans hN hB.2.2.1) (rc_X1 hK (hB.1 0 _ rfl)) rfl hl.1 rfl rfl (Nat.le_of_ble_eq_true rfl) dX1_swapSeats_2 ?_
  refine lv_istore_n (lv' := [(3, .int r1), (0, .ref (a_h 0)), (1, .int x_1), (2, .int x_2)]) hx hb dX1_swapSeats_5 rfl hl (by decide) rfl (fun ls hl => ?_)
  refine lv_aload_n hx hb dX1_swapSeats_6 rfl (lv_at hl 1 rfl) ?_
  refine lv_iload_n hx hb dX1_swapSeats_7 rfl (lv_at hl 3 rfl) ?_
  obtain ⟨r2, hr2, hf⟩ := ox_bind hf
  refine cxVP (As := [.int x_2]) (rest := []) (st1 := [.int r2]) C hK (tX1_seatOf l E a_h u_h x_2 r2 hr2) lk_X1_57 ⟨rfl, rfl⟩ (by rw [hRf, hRl]; decide) ⟨Nat.zero_le _, Nat.zero_le _⟩ (PB.sub hB.1 [0] rfl) (hB.old hD hN) (Nat.le_trans hN hB.2.2.1) (rc_X1 hK (hB.1 0 _ rfl)) rfl hl.1 rfl rfl (Nat.le_of_ble_eq_true rfl) dX1_swapSeats_8 ?_
  refine lv_istore (lv' := [(4, .int r2), (3, .int r1), (0, .ref (a_h 0)), (1, .int x_1), (2, .int x_2)]) hx hb dX1_swapSeats_11 hl (by decide) rfl (fun ls hl => ?_)
  refine lv_iload_n hx hb dX1_swapSeats_13 rfl (lv_at hl 1 rfl) ?_
  refine lv_iconst (v := (-1)) hx hb dX1_swapSeats_14 (by decide) ?_
  refine lv_icmp_eq (tgt := 39) hx hb dX1_swapSeats_15 (by decide) (fun c3 => ?_) (fun c3 => ?_)
  · have hf := (if_pos c3).symm.trans hf
    have hf := Option.some.inj hf
    subst hf
    exact hQ _ _ H locs (fun _ => 0) hB dX1_swapSeats_39
  · have hf := (if_neg c3).symm.trans hf
    refine lv_iload hx hb dX1_swapSeats_18 (lv_at hl 0 rfl) ?_
    refine lv_iconst (v := (-1)) hx hb dX1_swapSeats_20 (by decide) ?_
    refine lv_icmp_eq (tgt := 39) hx hb dX1_swapSeats_21 (by decide) (fun c4 => ?_) (fun c4 => ?_)
    · have hf := (if_pos c4).symm.trans hf
      have hf := Option.some.inj hf
      subst hf
      exact hQ _ _ H locs (fun _ => 0) hB dX1_swapSeats_39
    · have hf := (if_neg c4).symm.trans hf
      refine lv_aload_n hx hb dX1_swapSeats_24 rfl (lv_at hl 2 rfl) ?_
      refine gf_X1_X1_seating C hK (hB.1 0 _ rfl) dX1_swapSeats_25 ?_
      refine lv_iload_n hx hb dX1_swapSeats_28 rfl (lv_at hl 1 rfl) ?_
      refine lv_iload_n hx hb dX1_swapSeats_29 rfl (lv_at hl 4 rfl) ?_
      obtain ⟨hn5, hf⟩ := ox_chk hf
      refine st_X1_seating C hK hB hD 0 rfl hn5 rfl dX1_swapSeats_30 (fun H locs u6 eu6 hB => ?_)
      have hf := ox_lt eu6 hf
      have hB : WB E ad s.heap [wHall E a_h u6] H locs := hB
      refine lv_aload_n hx hb dX1_swapSeats_31 rfl (lv_at hl 2 rfl) ?_
      refine gf_X1_X1_seating C hK (hB.1 0 _ rfl) dX1_swapSeats_32 ?_
      refine lv_iload hx hb dX1_swapSeats_35 (lv_at hl 0 rfl) ?_
      refine lv_iload_n hx hb dX1_swapSeats_37 rfl (lv_at hl 3 rfl) ?_
      obtain ⟨hn7, hf⟩ := ox_chk hf
      refine st_X1_seating C hK hB hD 0 rfl hn7 rfl dX1_swapSeats_38 (fun H locs u8 eu8 hB => ?_)
      have hf := ox_lt eu8 hf
      have hB : WB E ad s.heap [wHall E a_h u8] H locs := hB
      have hf := Option.some.inj hf
      subst hf
      exact hQ _ _ H locs (fun _ => 0) hB dX1_swapSeats_39
set_option maxHeartbeats 4000000 in
set_option maxRecDepth 20000 in
theorem tX1_tiredInAll (l : Launch) (E : Ev) (a_h : Nat → Nat) (u_h : St) (res : Int32) (hf : fX1_tiredInAll u_h = some res) : MP l E yX1_tiredInAll cX1_tiredInAll 3 (some .int) (rmm 0 0) [wHall E a_h u_h] [.ref (a_h 0)] (some (.int res)) := by
  unfold fX1_tiredInAll at hf
  refine MP.ofI rfl (by decide) (Nat.le_of_ble_eq_true rfl) ?_
  intro p e R s m args below meth c ls Q hRf hRl C hP hK hN hl hQ
  have hx := C.1
  have hb := C.2.1
  have hl : lv_has ls 3 [(0, .ref (a_h 0))] := hl
  refine lv_iconst (v := 0) hx hb dX1_tiredInAll_0 (by decide) ?_
  refine lv_istore_n (lv' := [(1, .int (0 : Int32)), (0, .ref (a_h 0))]) hx hb dX1_tiredInAll_1 rfl hl (by decide) rfl (fun ls hl => ?_)
  refine lv_iconst (v := 0) hx hb dX1_tiredInAll_2 (by decide) ?_
  refine lv_istore_n (lv' := [(2, .int (0 : Int32)), (1, .int (0 : Int32)), (0, .ref (a_h 0))]) hx hb dX1_tiredInAll_3 rfl hl (by decide) rfl (fun ls hl => ?_)
  obtain ⟨X1, hX1, hf⟩ := ox_bind hf
  have hexit1 : ∀ y7, y7 = X1 → ∀ (ls : Array Slot), lv_has ls 3 [(1, .int y7)] → W p l e R s m args below meth c s.heap [] 0 0 Q (F0 m 25 ls []) := by
    intro y7 hy ls hl
    subst hy
    refine lv_iload_n hx hb dX1_tiredInAll_25 rfl (lv_at hl 0 rfl) ?_
    have hf := Option.some.inj hf
    subst hf
    exact hQ _ _ dX1_tiredInAll_26
  have hloop1 : ∀ (nf : Nat) (x1 : Int32) (x2 : Int32) (ls : Array Slot), lv_has ls 3 [(0, .ref (a_h 0)), (1, .int x1), (2, .int x2)] → fX1_tiredInAll_L1 u_h nf x1 x2 = some X1 → W p l e R s m args below meth c s.heap [] 0 0 Q (F0 m 4 ls []) := by
    intro nf
    induction nf with
    | zero =>
      intro x1 x2 ls hl hf
      simp [fX1_tiredInAll_L1] at hf
    | succ nf ih =>
      intro x1 x2 ls hl hf
      rw [fX1_tiredInAll_L1] at hf
      refine lv_iload_n hx hb dX1_tiredInAll_4 rfl (lv_at hl 2 rfl) ?_
      refine lv_bipush (v := 6) hx hb dX1_tiredInAll_5 (by decide) ?_
      refine lv_icmp_ge (tgt := 25) hx hb dX1_tiredInAll_7 (by decide) (fun c3 => ?_) (fun c3 => ?_)
      · have hf := (if_pos c3).symm.trans hf
        exact hexit1 _ (Option.some.inj hf) ls (lv_sub hl [1] rfl)
      · have hf := (if_neg c3).symm.trans hf
        refine lv_iload_n hx hb dX1_tiredInAll_10 rfl (lv_at hl 1 rfl) ?_
        refine lv_aload_n hx hb dX1_tiredInAll_11 rfl (lv_at hl 0 rfl) ?_
        refine gf_X1_X1_tired C hK (hP 0 _ rfl) dX1_tiredInAll_12 ?_
        refine lv_iload_n hx hb dX1_tiredInAll_15 rfl (lv_at hl 2 rfl) ?_
        obtain ⟨hn4, hf⟩ := ox_chk hf
        refine ld_X1_tired C hK (hP 0 _ rfl) hn4 rfl dX1_tiredInAll_16 ?_
        refine lv_iadd hx hb dX1_tiredInAll_17 ?_
        refine lv_topi (fun x5 ex5 => ?_)
        have hf := ox_lt ex5 hf
        refine lv_istore_n (lv' := [(1, .int x5), (0, .ref (a_h 0)), (2, .int x2)]) hx hb dX1_tiredInAll_18 rfl hl (by decide) rfl (fun ls hl => ?_)
        obtain ⟨x6, ex6⟩ : ∃ z : Int32, z = (x2 + 1) := ⟨_, rfl⟩
        have hf := ox_lt ex6 hf
        refine lv_iinc (v := x6) (lv' := [(2, .int x6), (1, .int x5), (0, .ref (a_h 0))]) hx hb dX1_tiredInAll_19 hl (k := 2) rfl (by rw [ex6]; rfl) (by decide) rfl (fun ls hl => ?_)
        refine lv_goto (tgt := 4) hx hb dX1_tiredInAll_22 (by decide) ?_
        exact ih _ _ ls (lv_sub hl [2, 1, 0] rfl) hf
  exact hloop1 fuel _ _ ls (lv_sub hl [2, 1, 0] rfl) hX1
set_option maxHeartbeats 4000000 in
set_option maxRecDepth 20000 in
theorem tX1_grind (l : Launch) (E : Ev) (a_h : Nat → Nat) (u_h : St) (x_1 : Int32) (x_2 : Int32) (res : St) (hf : fX1_grind u_h x_1 x_2 = some res) : MX l E yX1_grind cX1_grind 3 none (rmm 0 0) [wHall E a_h u_h] (fun q => [wHall E a_h res]) [.ref (a_h 0), .int x_1, .int x_2] none := by
  unfold fX1_grind at hf
  refine MX.ofV rfl (by decide) (Nat.le_of_ble_eq_true rfl) ?_
  intro p e R s m args below meth c ls Q ad H hRf hRl C hB hD hK hN hl hQ
  generalize hlocs : ([] : List Loc) = locs at hB ⊢
  clear hlocs
  have hx := C.1
  have hb := C.2.1
  have hl : lv_has ls 3 [(0, .ref (a_h 0)), (1, .int x_1), (2, .int x_2)] := hl
  refine lv_aload_n hx hb dX1_grind_0 rfl (lv_at hl 0 rfl) ?_
  refine gf_X1_X1_ground C hK (hB.1 0 _ rfl) dX1_grind_1 ?_
  refine lv_iload_n hx hb dX1_grind_4 rfl (lv_at hl 1 rfl) ?_
  refine lv_dup2_11 hx hb dX1_grind_5 rfl rfl ?_
  obtain ⟨hn1, hf⟩ := ox_chk hf
  refine ld_X1_ground C hK (hB.1 0 _ rfl) hn1 rfl dX1_grind_6 ?_
  refine lv_iload_n hx hb dX1_grind_7 rfl (lv_at hl 2 rfl) ?_
  refine lv_iadd hx hb dX1_grind_8 ?_
  refine lv_topi (fun x2 ex2 => ?_)
  have hf := ox_lt ex2 hf
  obtain ⟨hn3, hf⟩ := ox_chk hf
  refine st_X1_ground C hK hB hD 0 rfl hn3 rfl dX1_grind_9 (fun H locs u4 eu4 hB => ?_)
  have hf := ox_lt eu4 hf
  have hB : WB E ad s.heap [wHall E a_h u4] H locs := hB
  refine lv_aload_n hx hb dX1_grind_10 rfl (lv_at hl 0 rfl) ?_
  refine lv_dup hx hb dX1_grind_11 rfl ?_
  refine gf_X1_X1_groundInAll C hK (hB.1 0 _ rfl) dX1_grind_12 ?_
  refine lv_iload_n hx hb dX1_grind_15 rfl (lv_at hl 2 rfl) ?_
  refine lv_iadd hx hb dX1_grind_16 ?_
  refine lv_topi (fun x5 ex5 => ?_)
  have hf := ox_lt ex5 hf
  refine pf_X1_X1_groundInAll C hK hB hD 0 rfl dX1_grind_17 (fun H locs u6 eu6 hB => ?_)
  have hf := ox_lt eu6 hf
  have hB : WB E ad s.heap [wHall E a_h u6] H locs := hB
  have hf := Option.some.inj hf
  subst hf
  exact hQ _ _ H locs (fun _ => 0) hB dX1_grind_20
set_option maxHeartbeats 4000000 in
set_option maxRecDepth 20000 in
theorem tX2_asItGoes (l : Launch) (E : Ev) (a_ml : Nat → Nat) (q_ml_0_names : Nat) (q_ml_0_script : Nat) (u_ml : St) (v1 : Nat) (res : St) (hf : fX2_asItGoes u_ml = res) : MX l E yX2_asItGoes cX2_asItGoes 2 none (rmm 0 0) [wMill E a_ml q_ml_0_names q_ml_0_script u_ml] (fun q => [wMill E a_ml q_ml_0_names v1 res]) [.ref (a_ml 0), .ref v1] none := by
  unfold fX2_asItGoes at hf
  refine MX.ofV rfl (by decide) (Nat.le_of_ble_eq_true rfl) ?_
  intro p e R s m args below meth c ls Q ad H hRf hRl C hB hD hK hN hl hQ
  generalize hlocs : ([] : List Loc) = locs at hB ⊢
  clear hlocs
  have hx := C.1
  have hb := C.2.1
  have hl : lv_has ls 2 [(0, .ref (a_ml 0)), (1, .ref v1)] := hl
  refine lv_aload_n hx hb dX2_asItGoes_0 rfl (lv_at hl 0 rfl) ?_
  refine lv_aload_n hx hb dX2_asItGoes_1 rfl (lv_at hl 1 rfl) ?_
  refine pf_X2_X2_script C hK hB hD 0 rfl dX2_asItGoes_2 (fun H locs hB => ?_)
  have hB : WB E ad s.heap [wMill E a_ml q_ml_0_names v1 u_ml] H locs := hB
  refine lv_aload_n hx hb dX2_asItGoes_5 rfl (lv_at hl 0 rfl) ?_
  refine lv_iconst (v := 0) hx hb dX2_asItGoes_6 (by decide) ?_
  refine pf_X2_X2_coughs C hK hB hD 0 rfl dX2_asItGoes_7 (fun H locs u1 eu1 hB => ?_)
  have hf := ox_lt eu1 hf
  have hB : WB E ad s.heap [wMill E a_ml q_ml_0_names v1 u1] H locs := hB
  refine lv_aload_n hx hb dX2_asItGoes_10 rfl (lv_at hl 0 rfl) ?_
  refine lv_iconst (v := 1) hx hb dX2_asItGoes_11 (by decide) ?_
  refine pf_X2_X2_withShows C hK hB hD 0 rfl (by decide) dX2_asItGoes_12 (fun H locs u2 eu2 hB => ?_)
  have hf := ox_lt eu2 hf
  have hB : WB E ad s.heap [wMill E a_ml q_ml_0_names v1 u2] H locs := hB
  refine lv_aload_n hx hb dX2_asItGoes_15 rfl (lv_at hl 0 rfl) ?_
  refine lv_iconst (v := (-1)) hx hb dX2_asItGoes_16 (by decide) ?_
  refine pf_X2_X2_mute C hK hB hD 0 rfl dX2_asItGoes_17 (fun H locs u3 eu3 hB => ?_)
  have hf := ox_lt eu3 hf
  have hB : WB E ad s.heap [wMill E a_ml q_ml_0_names v1 u3] H locs := hB
  refine lv_aload_n hx hb dX2_asItGoes_20 rfl (lv_at hl 0 rfl) ?_
  refine lv_iconst (v := 1) hx hb dX2_asItGoes_21 (by decide) ?_
  refine pf_X2_X2_givesBack C hK hB hD 0 rfl (by decide) dX2_asItGoes_22 (fun H locs u4 eu4 hB => ?_)
  have hf := ox_lt eu4 hf
  have hB : WB E ad s.heap [wMill E a_ml q_ml_0_names v1 u4] H locs := hB
  refine lv_aload_n hx hb dX2_asItGoes_25 rfl (lv_at hl 0 rfl) ?_
  refine lv_iconst (v := 0) hx hb dX2_asItGoes_26 (by decide) ?_
  refine pf_X2_X2_isHungry C hK hB hD 0 rfl (by decide) dX2_asItGoes_27 (fun H locs u5 eu5 hB => ?_)
  have hf := ox_lt eu5 hf
  have hB : WB E ad s.heap [wMill E a_ml q_ml_0_names v1 u5] H locs := hB
  refine lv_aload_n hx hb dX2_asItGoes_30 rfl (lv_at hl 0 rfl) ?_
  refine lv_iconst (v := (-1)) hx hb dX2_asItGoes_31 (by decide) ?_
  refine pf_X2_X2_otherAct C hK hB hD 0 rfl dX2_asItGoes_32 (fun H locs u6 eu6 hB => ?_)
  have hf := ox_lt eu6 hf
  have hB : WB E ad s.heap [wMill E a_ml q_ml_0_names v1 u6] H locs := hB
  refine lv_aload_n hx hb dX2_asItGoes_35 rfl (lv_at hl 0 rfl) ?_
  refine lv_iconst (v := 0) hx hb dX2_asItGoes_36 (by decide) ?_
  refine pf_X2_X2_otherMood C hK hB hD 0 rfl dX2_asItGoes_37 (fun H locs u7 eu7 hB => ?_)
  have hf := ox_lt eu7 hf
  have hB : WB E ad s.heap [wMill E a_ml q_ml_0_names v1 u7] H locs := hB
  subst hf
  exact hQ _ _ H locs (fun _ => 0) hB dX2_asItGoes_40
set_option maxHeartbeats 4000000 in
set_option maxRecDepth 20000 in
theorem tX2_byNumbers (l : Launch) (E : Ev) (a_ml : Nat → Nat) (q_ml_0_names : Nat) (q_ml_0_script : Nat) (u_ml : St) (v1 : Nat) (res : St) (hf : fX2_byNumbers u_ml = res) : MX l E yX2_byNumbers cX2_byNumbers 2 none (rmm 1 21) [wMill E a_ml q_ml_0_names q_ml_0_script u_ml] (fun q => [wMill E a_ml q_ml_0_names v1 res]) [.ref (a_ml 0), .ref v1] none := by
  unfold fX2_byNumbers at hf
  refine MX.ofV rfl (by decide) (Nat.le_of_ble_eq_true rfl) ?_
  intro p e R s m args below meth c ls Q ad H hRf hRl C hB hD hK hN hl hQ
  generalize hlocs : ([] : List Loc) = locs at hB ⊢
  clear hlocs
  have hx := C.1
  have hb := C.2.1
  have hl : lv_has ls 2 [(0, .ref (a_ml 0)), (1, .ref v1)] := hl
  refine lv_aload_n hx hb dX2_byNumbers_0 rfl (lv_at hl 0 rfl) ?_
  refine lv_aload_n hx hb dX2_byNumbers_1 rfl (lv_at hl 1 rfl) ?_
  obtain ⟨r1, er1, hf⟩ := ox_ex hf
  refine cxVX (bs1 := (fun q => [wMill E a_ml q_ml_0_names v1 r1])) (As := [.ref v1]) (rest := []) (st1 := []) C hK (tX2_asItGoes l E a_ml q_ml_0_names q_ml_0_script u_ml v1 r1 er1.symm) lk_X2_42 (by rw [hRf, hRl]; decide) ⟨Nat.zero_le _, Nat.zero_le _⟩ hB hD hN [0] (by decide) rfl (fun _ => rfl) (fun _ => rfl) (rc_X2 hK (hB.1 0 _ rfl)) rfl hl.1 rfl rfl (Nat.le_of_ble_eq_true rfl) dX2_byNumbers_2 (fun H locs q2 hB => ?_)
  have hB : WB E ad s.heap [wMill E a_ml q_ml_0_names v1 r1] H locs := hB
  refine lv_aload_n hx hb dX2_byNumbers_5 rfl (lv_at hl 0 rfl) ?_
  refine lv_iconst (v := 1) hx hb dX2_byNumbers_6 (by decide) ?_
  refine pf_X2_X2_coughs C hK hB hD 0 rfl dX2_byNumbers_7 (fun H locs u3 eu3 hB => ?_)
  have hf := ox_lt eu3 hf
  have hB : WB E ad s.heap [wMill E a_ml q_ml_0_names v1 u3] H locs := hB
  subst hf
  exact hQ _ _ H locs (fun _ => 0) hB dX2_byNumbers_10
set_option maxHeartbeats 4000000 in
set_option maxRecDepth 20000 in
theorem tX8_mood (l : Launch) (E : Ev) (a_sc : Nat → Nat → Nat) (u_sc : Nat → St) (x_1 : Int32) (res : Int32) (hf : fX8_mood u_sc x_1 = some res) : MP l E yX8_mood cX8_mood 2 (some .int) (rmm 0 0) [wScript E (a_sc 0) (a_sc 1 0) (a_sc 2 0) (a_sc 3 0) (a_sc 4 0) (a_sc 5 0) (a_sc 6 0) (a_sc 7 0) (u_sc 0), wRoll E 6 (a_sc 1) (u_sc 1), wRoll E 6 (a_sc 2) (u_sc 2), wRoll E 4 (a_sc 3) (u_sc 3), wRoll E 14 (a_sc 4) (u_sc 4), wFormula E (a_sc 5) (u_sc 5), wFormula E (a_sc 6) (u_sc 6), wFormula E (a_sc 7) (u_sc 7)] [.ref (a_sc 0 0), .int x_1] (some (.int res)) := by
  unfold fX8_mood at hf
  refine MP.ofI rfl (by decide) (Nat.le_of_ble_eq_true rfl) ?_
  intro p e R s m args below meth c ls Q hRf hRl C hP hK hN hl hQ
  have hx := C.1
  have hb := C.2.1
  have hl : lv_has ls 2 [(0, .ref (a_sc 0 0)), (1, .int x_1)] := hl
  refine lv_iload_n hx hb dX8_mood_0 rfl (lv_at hl 1 rfl) ?_
  refine lv_if_lt (tgt := 27) hx hb dX8_mood_1 (by decide) (fun c1 => ?_) (fun c1 => ?_)
  · have hf := (if_pos c1).symm.trans hf
    refine lv_iconst (v := 0) hx hb dX8_mood_27 (by decide) ?_
    have hf := Option.some.inj hf
    subst hf
    exact hQ _ _ dX8_mood_28
  · have hf := (if_neg c1).symm.trans hf
    refine lv_iload_n hx hb dX8_mood_4 rfl (lv_at hl 1 rfl) ?_
    refine lv_aload_n hx hb dX8_mood_5 rfl (lv_at hl 0 rfl) ?_
    refine gf_X8_X8_acts C hK (hP 0 _ rfl) dX8_mood_6 ?_
    refine gf_X8_X7_size C hK (hP 1 _ rfl) dX8_mood_9 ?_
    refine lv_icmp_ge (tgt := 27) hx hb dX8_mood_12 (by decide) (fun c2 => ?_) (fun c2 => ?_)
    · have hf := (if_pos c2).symm.trans hf
      refine lv_iconst (v := 0) hx hb dX8_mood_27 (by decide) ?_
      have hf := Option.some.inj hf
      subst hf
      exact hQ _ _ dX8_mood_28
    · have hf := (if_neg c2).symm.trans hf
      refine lv_aload_n hx hb dX8_mood_15 rfl (lv_at hl 0 rfl) ?_
      refine gf_X8_X8_acts C hK (hP 0 _ rfl) dX8_mood_16 ?_
      refine gf_X8_X7_first C hK (hP 1 _ rfl) dX8_mood_19 ?_
      refine lv_iload_n hx hb dX8_mood_22 rfl (lv_at hl 1 rfl) ?_
      obtain ⟨hn3, hf⟩ := ox_chk hf
      refine ld_X7_first C hK (hP 1 _ rfl) hn3 rfl dX8_mood_23 ?_
      refine lv_goto (tgt := 28) hx hb dX8_mood_24 (by decide) ?_
      have hf := Option.some.inj hf
      subst hf
      exact hQ _ _ dX8_mood_28
set_option maxHeartbeats 4000000 in
set_option maxRecDepth 20000 in
theorem tX2_moodOn (l : Launch) (E : Ev) (a_ml : Nat → Nat) (q_ml_0_names : Nat) (u_ml : St) (a_sc : Nat → Nat → Nat) (u_sc : Nat → St) (a_h : Nat → Nat) (u_h : St) (res : Int32) (hf : fX2_moodOn u_ml u_sc u_h = some res) : MP l E yX2_moodOn cX2_moodOn 2 (some .int) (rmm 1 21) [wMill E a_ml q_ml_0_names (a_sc 0 0) u_ml, wScript E (a_sc 0) (a_sc 1 0) (a_sc 2 0) (a_sc 3 0) (a_sc 4 0) (a_sc 5 0) (a_sc 6 0) (a_sc 7 0) (u_sc 0), wRoll E 6 (a_sc 1) (u_sc 1), wRoll E 6 (a_sc 2) (u_sc 2), wRoll E 4 (a_sc 3) (u_sc 3), wRoll E 14 (a_sc 4) (u_sc 4), wFormula E (a_sc 5) (u_sc 5), wFormula E (a_sc 6) (u_sc 6), wFormula E (a_sc 7) (u_sc 7), wHall E a_h u_h] [.ref (a_ml 0), .ref (a_h 0)] (some (.int res)) := by
  unfold fX2_moodOn at hf
  refine MP.ofI rfl (by decide) (Nat.le_of_ble_eq_true rfl) ?_
  intro p e R s m args below meth c ls Q hRf hRl C hP hK hN hl hQ
  have hx := C.1
  have hb := C.2.1
  have hl : lv_has ls 2 [(0, .ref (a_ml 0)), (1, .ref (a_h 0))] := hl
  refine lv_aload_n hx hb dX2_moodOn_0 rfl (lv_at hl 1 rfl) ?_
  refine gf_X2_X1_on C hK (hP 9 _ rfl) dX2_moodOn_1 ?_
  refine lv_iconst (v := (-1)) hx hb dX2_moodOn_4 (by decide) ?_
  refine lv_icmp_ne (tgt := 10) hx hb dX2_moodOn_5 (by decide) (fun c1 => ?_) (fun c1 => ?_)
  · have hf := (if_neg c1).symm.trans hf
    refine lv_aload_n hx hb dX2_moodOn_10 rfl (lv_at hl 1 rfl) ?_
    refine gf_X2_X1_on C hK (hP 9 _ rfl) dX2_moodOn_11 ?_
    refine lv_aload_n hx hb dX2_moodOn_14 rfl (lv_at hl 0 rfl) ?_
    refine gf_X2_X2_otherAct C hK (hP 0 _ rfl) dX2_moodOn_15 ?_
    refine lv_icmp_ne (tgt := 28) hx hb dX2_moodOn_18 (by decide) (fun c2 => ?_) (fun c2 => ?_)
    · have hf := (if_neg c2).symm.trans hf
      refine lv_aload_n hx hb dX2_moodOn_28 rfl (lv_at hl 0 rfl) ?_
      refine gf_X2_X2_script C hK (hP 0 _ rfl) dX2_moodOn_29 ?_
      refine lv_aload_n hx hb dX2_moodOn_32 rfl (lv_at hl 1 rfl) ?_
      refine gf_X2_X1_on C hK (hP 9 _ rfl) dX2_moodOn_33 ?_
      obtain ⟨r3, hr3, hf⟩ := ox_bind hf
      refine cxVP (As := [.int (gI u_h 2)]) (rest := []) (st1 := [.int r3]) C hK (tX8_mood l E a_sc u_sc (gI u_h 2) r3 hr3) lk_X2_134 ⟨rfl, rfl⟩ (by rw [hRf, hRl]; decide) ⟨Nat.zero_le _, Nat.zero_le _⟩ (PB.sub hP [1, 2, 3, 4, 5, 6, 7, 8] rfl) (fun _ _ => rfl) hN (rc_X8 hK (hP 1 _ rfl)) rfl hl.1 rfl rfl (Nat.le_of_ble_eq_true rfl) dX2_moodOn_36 ?_
      have hf := Option.some.inj hf
      subst hf
      exact hQ _ _ dX2_moodOn_39
    · have hf := (if_pos c2).symm.trans hf
      refine lv_aload_n hx hb dX2_moodOn_21 rfl (lv_at hl 0 rfl) ?_
      refine gf_X2_X2_otherMood C hK (hP 0 _ rfl) dX2_moodOn_22 ?_
      refine lv_goto (tgt := 39) hx hb dX2_moodOn_25 (by decide) ?_
      have hf := Option.some.inj hf
      subst hf
      exact hQ _ _ dX2_moodOn_39
  · have hf := (if_pos c1).symm.trans hf
    refine lv_iconst (v := 0) hx hb dX2_moodOn_8 (by decide) ?_
    have hf := Option.some.inj hf
    subst hf
    exact hQ _ _ dX2_moodOn_9
set_option maxHeartbeats 4000000 in
set_option maxRecDepth 20000 in
theorem tX7_has (l : Launch) (E : Ev) (n_r : Nat) (a_r : Nat → Nat) (u_r : St) (x_1 : Int32) (res : Int32) (hf : fX7_has n_r u_r x_1 = res) : MP l E yX7_has cX7_has 2 (some .boolean) (rmm 0 0) [wRoll E n_r a_r u_r] [.ref (a_r 0), .int x_1] (some (.int res)) := by
  unfold fX7_has at hf
  refine MP.ofZZ rfl (by decide) (Nat.le_of_ble_eq_true rfl) ?_
  intro p e R s m args below meth c ls Q hRf hRl C hP hK hN hl hQ
  have hx := C.1
  have hb := C.2.1
  have hl : lv_has ls 2 [(0, .ref (a_r 0)), (1, .int x_1)] := hl
  refine lv_iload_n hx hb dX7_has_0 rfl (lv_at hl 1 rfl) ?_
  obtain ⟨x1, ex1, hf⟩ := ox_ex hf
  have hjx1 : W p l e R s m args below meth c s.heap [] 0 0 Q (F0 m 17 ls [.int x1]) := by
    subst hf
    exact hQ _ _ x1 rfl dX7_has_17
  refine lv_if_lt (tgt := 16) hx hb dX7_has_1 (by decide) (fun c2 => ?_) (fun c2 => ?_)
  · refine lv_iconst (v := 0) hx hb dX7_has_16 (by decide) ?_
    exact ox_topi ((ex1).trans (if_pos c2)).symm hjx1
  · refine lv_iload_n hx hb dX7_has_4 rfl (lv_at hl 1 rfl) ?_
    refine lv_aload_n hx hb dX7_has_5 rfl (lv_at hl 0 rfl) ?_
    refine gf_X7_X7_size C hK (hP 0 _ rfl) dX7_has_6 ?_
    refine lv_icmp_ge (tgt := 16) hx hb dX7_has_9 (by decide) (fun c3 => ?_) (fun c3 => ?_)
    · refine lv_iconst (v := 0) hx hb dX7_has_16 (by decide) ?_
      exact ox_topi (((ex1).trans (if_neg c2)).trans (if_pos c3)).symm hjx1
    · refine lv_iconst (v := 1) hx hb dX7_has_12 (by decide) ?_
      refine lv_goto (tgt := 17) hx hb dX7_has_13 (by decide) ?_
      exact ox_topi (((ex1).trans (if_neg c2)).trans (if_neg c3)).symm hjx1
set_option maxHeartbeats 4000000 in
set_option maxRecDepth 20000 in
theorem tX8_taste (l : Launch) (E : Ev) (a_sc : Nat → Nat → Nat) (u_sc : Nat → St) (x_1 : Int32) (res : Int32) (hf : fX8_taste u_sc x_1 = some res) : MP l E yX8_taste cX8_taste 2 (some .int) (rmm 0 0) [wScript E (a_sc 0) (a_sc 1 0) (a_sc 2 0) (a_sc 3 0) (a_sc 4 0) (a_sc 5 0) (a_sc 6 0) (a_sc 7 0) (u_sc 0), wRoll E 6 (a_sc 1) (u_sc 1), wRoll E 6 (a_sc 2) (u_sc 2), wRoll E 4 (a_sc 3) (u_sc 3), wRoll E 14 (a_sc 4) (u_sc 4), wFormula E (a_sc 5) (u_sc 5), wFormula E (a_sc 6) (u_sc 6), wFormula E (a_sc 7) (u_sc 7)] [.ref (a_sc 0 0), .int x_1] (some (.int res)) := by
  unfold fX8_taste at hf
  refine MP.ofI rfl (by decide) (Nat.le_of_ble_eq_true rfl) ?_
  intro p e R s m args below meth c ls Q hRf hRl C hP hK hN hl hQ
  have hx := C.1
  have hb := C.2.1
  have hl : lv_has ls 2 [(0, .ref (a_sc 0 0)), (1, .int x_1)] := hl
  refine lv_iload_n hx hb dX8_taste_0 rfl (lv_at hl 1 rfl) ?_
  refine lv_if_lt (tgt := 27) hx hb dX8_taste_1 (by decide) (fun c1 => ?_) (fun c1 => ?_)
  · have hf := (if_pos c1).symm.trans hf
    refine lv_iconst (v := 0) hx hb dX8_taste_27 (by decide) ?_
    have hf := Option.some.inj hf
    subst hf
    exact hQ _ _ dX8_taste_28
  · have hf := (if_neg c1).symm.trans hf
    refine lv_iload_n hx hb dX8_taste_4 rfl (lv_at hl 1 rfl) ?_
    refine lv_aload_n hx hb dX8_taste_5 rfl (lv_at hl 0 rfl) ?_
    refine gf_X8_X8_guests C hK (hP 0 _ rfl) dX8_taste_6 ?_
    refine gf_X8_X7_size C hK (hP 2 _ rfl) dX8_taste_9 ?_
    refine lv_icmp_ge (tgt := 27) hx hb dX8_taste_12 (by decide) (fun c2 => ?_) (fun c2 => ?_)
    · have hf := (if_pos c2).symm.trans hf
      refine lv_iconst (v := 0) hx hb dX8_taste_27 (by decide) ?_
      have hf := Option.some.inj hf
      subst hf
      exact hQ _ _ dX8_taste_28
    · have hf := (if_neg c2).symm.trans hf
      refine lv_aload_n hx hb dX8_taste_15 rfl (lv_at hl 0 rfl) ?_
      refine gf_X8_X8_guests C hK (hP 0 _ rfl) dX8_taste_16 ?_
      refine gf_X8_X7_first C hK (hP 2 _ rfl) dX8_taste_19 ?_
      refine lv_iload_n hx hb dX8_taste_22 rfl (lv_at hl 1 rfl) ?_
      obtain ⟨hn3, hf⟩ := ox_chk hf
      refine ld_X7_first C hK (hP 2 _ rfl) hn3 rfl dX8_taste_23 ?_
      refine lv_goto (tgt := 28) hx hb dX8_taste_24 (by decide) ?_
      have hf := Option.some.inj hf
      subst hf
      exact hQ _ _ dX8_taste_28
set_option maxHeartbeats 4000000 in
set_option maxRecDepth 20000 in
theorem tX8_hunger (l : Launch) (E : Ev) (a_sc : Nat → Nat → Nat) (u_sc : Nat → St) (x_1 : Int32) (res : Int32) (hf : fX8_hunger u_sc x_1 = some res) : MP l E yX8_hunger cX8_hunger 2 (some .int) (rmm 0 0) [wScript E (a_sc 0) (a_sc 1 0) (a_sc 2 0) (a_sc 3 0) (a_sc 4 0) (a_sc 5 0) (a_sc 6 0) (a_sc 7 0) (u_sc 0), wRoll E 6 (a_sc 1) (u_sc 1), wRoll E 6 (a_sc 2) (u_sc 2), wRoll E 4 (a_sc 3) (u_sc 3), wRoll E 14 (a_sc 4) (u_sc 4), wFormula E (a_sc 5) (u_sc 5), wFormula E (a_sc 6) (u_sc 6), wFormula E (a_sc 7) (u_sc 7)] [.ref (a_sc 0 0), .int x_1] (some (.int res)) := by
  unfold fX8_hunger at hf
  refine MP.ofI rfl (by decide) (Nat.le_of_ble_eq_true rfl) ?_
  intro p e R s m args below meth c ls Q hRf hRl C hP hK hN hl hQ
  have hx := C.1
  have hb := C.2.1
  have hl : lv_has ls 2 [(0, .ref (a_sc 0 0)), (1, .int x_1)] := hl
  refine lv_iload_n hx hb dX8_hunger_0 rfl (lv_at hl 1 rfl) ?_
  refine lv_if_lt (tgt := 27) hx hb dX8_hunger_1 (by decide) (fun c1 => ?_) (fun c1 => ?_)
  · have hf := (if_pos c1).symm.trans hf
    refine lv_iconst (v := 0) hx hb dX8_hunger_27 (by decide) ?_
    have hf := Option.some.inj hf
    subst hf
    exact hQ _ _ dX8_hunger_28
  · have hf := (if_neg c1).symm.trans hf
    refine lv_iload_n hx hb dX8_hunger_4 rfl (lv_at hl 1 rfl) ?_
    refine lv_aload_n hx hb dX8_hunger_5 rfl (lv_at hl 0 rfl) ?_
    refine gf_X8_X8_guests C hK (hP 0 _ rfl) dX8_hunger_6 ?_
    refine gf_X8_X7_size C hK (hP 2 _ rfl) dX8_hunger_9 ?_
    refine lv_icmp_ge (tgt := 27) hx hb dX8_hunger_12 (by decide) (fun c2 => ?_) (fun c2 => ?_)
    · have hf := (if_pos c2).symm.trans hf
      refine lv_iconst (v := 0) hx hb dX8_hunger_27 (by decide) ?_
      have hf := Option.some.inj hf
      subst hf
      exact hQ _ _ dX8_hunger_28
    · have hf := (if_neg c2).symm.trans hf
      refine lv_aload_n hx hb dX8_hunger_15 rfl (lv_at hl 0 rfl) ?_
      refine gf_X8_X8_guests C hK (hP 0 _ rfl) dX8_hunger_16 ?_
      refine gf_X8_X7_second C hK (hP 2 _ rfl) dX8_hunger_19 ?_
      refine lv_iload_n hx hb dX8_hunger_22 rfl (lv_at hl 1 rfl) ?_
      obtain ⟨hn3, hf⟩ := ox_chk hf
      refine ld_X7_second C hK (hP 2 _ rfl) hn3 rfl dX8_hunger_23 ?_
      refine lv_goto (tgt := 28) hx hb dX8_hunger_24 (by decide) ?_
      have hf := Option.some.inj hf
      subst hf
      exact hQ _ _ dX8_hunger_28
set_option maxHeartbeats 4000000 in
set_option maxRecDepth 20000 in
theorem tX2_nameGuest (l : Launch) (E : Ev) (a_ml : Nat → Nat) (u_ml : St) (n_nm : Nat) (a_nm : Nat → Nat) (u_nm : St) (a_sc : Nat → Nat → Nat) (u_sc : Nat → St) (a_h : Nat → Nat) (u_h : St) (x_2 : Int32) (x_3 : Int32) (x_4 : Int32) (res : St) (hf : fX2_nameGuest n_nm u_ml u_nm u_sc u_h x_2 x_3 x_4 = some res) : MX l E yX2_nameGuest cX2_nameGuest 5 none (rmm 1 21) [wMill E a_ml (a_nm 0) (a_sc 0 0) u_ml, wLArr E n_nm a_nm u_nm, wScript E (a_sc 0) (a_sc 1 0) (a_sc 2 0) (a_sc 3 0) (a_sc 4 0) (a_sc 5 0) (a_sc 6 0) (a_sc 7 0) (u_sc 0), wRoll E 6 (a_sc 1) (u_sc 1), wRoll E 6 (a_sc 2) (u_sc 2), wRoll E 4 (a_sc 3) (u_sc 3), wRoll E 14 (a_sc 4) (u_sc 4), wFormula E (a_sc 5) (u_sc 5), wFormula E (a_sc 6) (u_sc 6), wFormula E (a_sc 7) (u_sc 7), wHall E a_h u_h] (fun q => [wMill E a_ml (a_nm 0) (a_sc 0 0) u_ml, wLArr E n_nm a_nm res, wScript E (a_sc 0) (a_sc 1 0) (a_sc 2 0) (a_sc 3 0) (a_sc 4 0) (a_sc 5 0) (a_sc 6 0) (a_sc 7 0) (u_sc 0), wRoll E 6 (a_sc 1) (u_sc 1), wRoll E 6 (a_sc 2) (u_sc 2), wRoll E 4 (a_sc 3) (u_sc 3), wRoll E 14 (a_sc 4) (u_sc 4), wFormula E (a_sc 5) (u_sc 5), wFormula E (a_sc 6) (u_sc 6), wFormula E (a_sc 7) (u_sc 7), wHall E a_h u_h]) [.ref (a_ml 0), .ref (a_h 0), .int x_2, .int x_3, .int x_4] none := by
  unfold fX2_nameGuest at hf
  refine MX.ofV rfl (by decide) (Nat.le_of_ble_eq_true rfl) ?_
  intro p e R s m args below meth c ls Q ad H hRf hRl C hB hD hK hN hl hQ
  generalize hlocs : ([] : List Loc) = locs at hB ⊢
  clear hlocs
  have hx := C.1
  have hb := C.2.1
  have hl : lv_has ls 5 [(0, .ref (a_ml 0)), (1, .ref (a_h 0)), (2, .int x_2), (3, .int x_3), (4, .int x_4)] := hl
  refine lv_aload_n hx hb dX2_nameGuest_0 rfl (lv_at hl 0 rfl) ?_
  refine gf_X2_X2_names C hK (hB.1 0 _ rfl) dX2_nameGuest_1 ?_
  refine lv_iconst (v := 0) hx hb dX2_nameGuest_4 (by decide) ?_
  refine lv_iload_n hx hb dX2_nameGuest_5 rfl (lv_at hl 3 rfl) ?_
  refine lv_i2l hx hb dX2_nameGuest_6 rfl ?_
  refine lv_topl (fun x1 ex1 => ?_)
  have hf := ox_lt ex1 hf
  obtain ⟨hn2, hf⟩ := ox_chk hf
  refine st_LArr_row C hK hB hD 1 rfl hn2 rfl dX2_nameGuest_7 (fun H locs u3 eu3 hB => ?_)
  have hf := ox_lt eu3 hf
  have hB : WB E ad s.heap [wMill E a_ml (a_nm 0) (a_sc 0 0) u_ml, wLArr E n_nm a_nm u3, wScript E (a_sc 0) (a_sc 1 0) (a_sc 2 0) (a_sc 3 0) (a_sc 4 0) (a_sc 5 0) (a_sc 6 0) (a_sc 7 0) (u_sc 0), wRoll E 6 (a_sc 1) (u_sc 1), wRoll E 6 (a_sc 2) (u_sc 2), wRoll E 4 (a_sc 3) (u_sc 3), wRoll E 14 (a_sc 4) (u_sc 4), wFormula E (a_sc 5) (u_sc 5), wFormula E (a_sc 6) (u_sc 6), wFormula E (a_sc 7) (u_sc 7), wHall E a_h u_h] H locs := hB
  refine lv_aload_n hx hb dX2_nameGuest_8 rfl (lv_at hl 0 rfl) ?_
  refine gf_X2_X2_names C hK (hB.1 0 _ rfl) dX2_nameGuest_9 ?_
  refine lv_iconst (v := 1) hx hb dX2_nameGuest_12 (by decide) ?_
  refine lv_aload_n hx hb dX2_nameGuest_13 rfl (lv_at hl 0 rfl) ?_
  refine gf_X2_X2_script C hK (hB.1 0 _ rfl) dX2_nameGuest_14 ?_
  refine lv_iload_n hx hb dX2_nameGuest_17 rfl (lv_at hl 2 rfl) ?_
  obtain ⟨r4, hr4, hf⟩ := ox_bind hf
  refine cxVP (As := [.int x_2]) (rest := [.int (1 : Int32), .ref (a_nm 0)]) (st1 := [.int r4, .int (1 : Int32), .ref (a_nm 0)]) C hK (tX8_taste l E a_sc u_sc x_2 r4 hr4) lk_X2_174 ⟨rfl, rfl⟩ (by rw [hRf, hRl]; decide) ⟨Nat.zero_le _, Nat.zero_le _⟩ (PB.sub hB.1 [2, 3, 4, 5, 6, 7, 8, 9] rfl) (hB.old hD hN) (Nat.le_trans hN hB.2.2.1) (rc_X8 hK (hB.1 2 _ rfl)) rfl hl.1 rfl rfl (Nat.le_of_ble_eq_true rfl) dX2_nameGuest_18 ?_
  refine lv_i2l hx hb dX2_nameGuest_21 rfl ?_
  refine lv_topl (fun x5 ex5 => ?_)
  have hf := ox_lt ex5 hf
  obtain ⟨hn6, hf⟩ := ox_chk hf
  refine st_LArr_row C hK hB hD 1 rfl hn6 rfl dX2_nameGuest_22 (fun H locs u7 eu7 hB => ?_)
  have hf := ox_lt eu7 hf
  have hB : WB E ad s.heap [wMill E a_ml (a_nm 0) (a_sc 0 0) u_ml, wLArr E n_nm a_nm u7, wScript E (a_sc 0) (a_sc 1 0) (a_sc 2 0) (a_sc 3 0) (a_sc 4 0) (a_sc 5 0) (a_sc 6 0) (a_sc 7 0) (u_sc 0), wRoll E 6 (a_sc 1) (u_sc 1), wRoll E 6 (a_sc 2) (u_sc 2), wRoll E 4 (a_sc 3) (u_sc 3), wRoll E 14 (a_sc 4) (u_sc 4), wFormula E (a_sc 5) (u_sc 5), wFormula E (a_sc 6) (u_sc 6), wFormula E (a_sc 7) (u_sc 7), wHall E a_h u_h] H locs := hB
  refine lv_aload_n hx hb dX2_nameGuest_23 rfl (lv_at hl 0 rfl) ?_
  refine gf_X2_X2_names C hK (hB.1 0 _ rfl) dX2_nameGuest_24 ?_
  refine lv_iconst (v := 2) hx hb dX2_nameGuest_27 (by decide) ?_
  refine lv_aload_n hx hb dX2_nameGuest_28 rfl (lv_at hl 0 rfl) ?_
  refine gf_X2_X2_isHungry C hK (hB.1 0 _ rfl) dX2_nameGuest_29 ?_
  obtain ⟨j9, ej9, hf⟩ := ox_ex hf
  have hj9 : ∀ (x8 : Int64) (ls : Array Slot) (H : Heap) (locs : List Loc), lv_has ls 5 [(0, .ref (a_ml 0)), (1, .ref (a_h 0)), (2, .int x_2), (4, .int x_4)] → WB E ad s.heap [wMill E a_ml (a_nm 0) (a_sc 0 0) u_ml, wLArr E n_nm a_nm u7, wScript E (a_sc 0) (a_sc 1 0) (a_sc 2 0) (a_sc 3 0) (a_sc 4 0) (a_sc 5 0) (a_sc 6 0) (a_sc 7 0) (u_sc 0), wRoll E 6 (a_sc 1) (u_sc 1), wRoll E 6 (a_sc 2) (u_sc 2), wRoll E 4 (a_sc 3) (u_sc 3), wRoll E 14 (a_sc 4) (u_sc 4), wFormula E (a_sc 5) (u_sc 5), wFormula E (a_sc 6) (u_sc 6), wFormula E (a_sc 7) (u_sc 7), wHall E a_h u_h] H locs → j9 x8 = some res → W p l e R s m args below meth c H locs 0 0 Q (F0 m 50 ls [.long x8, .int (2 : Int32), .ref (a_nm 0)]) := by
    intro x8 ls H locs hl hB hf
    have hf := ox_a1 ej9 hf
    obtain ⟨hn10, hf⟩ := ox_chk hf
    refine st_LArr_row C hK hB hD 1 rfl hn10 rfl dX2_nameGuest_50 (fun H locs u11 eu11 hB => ?_)
    have hf := ox_lt eu11 hf
    have hB : WB E ad s.heap [wMill E a_ml (a_nm 0) (a_sc 0 0) u_ml, wLArr E n_nm a_nm u11, wScript E (a_sc 0) (a_sc 1 0) (a_sc 2 0) (a_sc 3 0) (a_sc 4 0) (a_sc 5 0) (a_sc 6 0) (a_sc 7 0) (u_sc 0), wRoll E 6 (a_sc 1) (u_sc 1), wRoll E 6 (a_sc 2) (u_sc 2), wRoll E 4 (a_sc 3) (u_sc 3), wRoll E 14 (a_sc 4) (u_sc 4), wFormula E (a_sc 5) (u_sc 5), wFormula E (a_sc 6) (u_sc 6), wFormula E (a_sc 7) (u_sc 7), wHall E a_h u_h] H locs := hB
    refine lv_aload_n hx hb dX2_nameGuest_51 rfl (lv_at hl 0 rfl) ?_
    refine gf_X2_X2_names C hK (hB.1 0 _ rfl) dX2_nameGuest_52 ?_
    refine lv_iconst (v := 3) hx hb dX2_nameGuest_55 (by decide) ?_
    refine lv_iload hx hb dX2_nameGuest_56 (lv_at hl 3 rfl) ?_
    refine lv_i2l hx hb dX2_nameGuest_58 rfl ?_
    refine lv_topl (fun x12 ex12 => ?_)
    have hf := ox_lt ex12 hf
    obtain ⟨hn13, hf⟩ := ox_chk hf
    refine st_LArr_row C hK hB hD 1 rfl hn13 rfl dX2_nameGuest_59 (fun H locs u14 eu14 hB => ?_)
    have hf := ox_lt eu14 hf
    have hB : WB E ad s.heap [wMill E a_ml (a_nm 0) (a_sc 0 0) u_ml, wLArr E n_nm a_nm u14, wScript E (a_sc 0) (a_sc 1 0) (a_sc 2 0) (a_sc 3 0) (a_sc 4 0) (a_sc 5 0) (a_sc 6 0) (a_sc 7 0) (u_sc 0), wRoll E 6 (a_sc 1) (u_sc 1), wRoll E 6 (a_sc 2) (u_sc 2), wRoll E 4 (a_sc 3) (u_sc 3), wRoll E 14 (a_sc 4) (u_sc 4), wFormula E (a_sc 5) (u_sc 5), wFormula E (a_sc 6) (u_sc 6), wFormula E (a_sc 7) (u_sc 7), wHall E a_h u_h] H locs := hB
    refine lv_aload_n hx hb dX2_nameGuest_60 rfl (lv_at hl 0 rfl) ?_
    refine gf_X2_X2_names C hK (hB.1 0 _ rfl) dX2_nameGuest_61 ?_
    refine lv_iconst (v := 4) hx hb dX2_nameGuest_64 (by decide) ?_
    refine lv_aload_n hx hb dX2_nameGuest_65 rfl (lv_at hl 1 rfl) ?_
    refine gf_X2_X1_speed C hK (hB.1 10 _ rfl) dX2_nameGuest_66 ?_
    refine lv_i2l hx hb dX2_nameGuest_69 rfl ?_
    refine lv_topl (fun x15 ex15 => ?_)
    have hf := ox_lt ex15 hf
    obtain ⟨hn16, hf⟩ := ox_chk hf
    refine st_LArr_row C hK hB hD 1 rfl hn16 rfl dX2_nameGuest_70 (fun H locs u17 eu17 hB => ?_)
    have hf := ox_lt eu17 hf
    have hB : WB E ad s.heap [wMill E a_ml (a_nm 0) (a_sc 0 0) u_ml, wLArr E n_nm a_nm u17, wScript E (a_sc 0) (a_sc 1 0) (a_sc 2 0) (a_sc 3 0) (a_sc 4 0) (a_sc 5 0) (a_sc 6 0) (a_sc 7 0) (u_sc 0), wRoll E 6 (a_sc 1) (u_sc 1), wRoll E 6 (a_sc 2) (u_sc 2), wRoll E 4 (a_sc 3) (u_sc 3), wRoll E 14 (a_sc 4) (u_sc 4), wFormula E (a_sc 5) (u_sc 5), wFormula E (a_sc 6) (u_sc 6), wFormula E (a_sc 7) (u_sc 7), wHall E a_h u_h] H locs := hB
    refine lv_aload_n hx hb dX2_nameGuest_71 rfl (lv_at hl 0 rfl) ?_
    refine gf_X2_X2_names C hK (hB.1 0 _ rfl) dX2_nameGuest_72 ?_
    refine lv_iconst (v := 5) hx hb dX2_nameGuest_75 (by decide) ?_
    refine lv_aload_n hx hb dX2_nameGuest_76 rfl (lv_at hl 1 rfl) ?_
    refine gf_X2_X1_tired C hK (hB.1 10 _ rfl) dX2_nameGuest_77 ?_
    refine lv_iload_n hx hb dX2_nameGuest_80 rfl (lv_at hl 2 rfl) ?_
    obtain ⟨hn18, hf⟩ := ox_chk hf
    refine ld_X1_tired C hK (hB.1 10 _ rfl) hn18 rfl dX2_nameGuest_81 ?_
    refine lv_i2l hx hb dX2_nameGuest_82 rfl ?_
    refine lv_topl (fun x19 ex19 => ?_)
    have hf := ox_lt ex19 hf
    obtain ⟨hn20, hf⟩ := ox_chk hf
    refine st_LArr_row C hK hB hD 1 rfl hn20 rfl dX2_nameGuest_83 (fun H locs u21 eu21 hB => ?_)
    have hf := ox_lt eu21 hf
    have hB : WB E ad s.heap [wMill E a_ml (a_nm 0) (a_sc 0 0) u_ml, wLArr E n_nm a_nm u21, wScript E (a_sc 0) (a_sc 1 0) (a_sc 2 0) (a_sc 3 0) (a_sc 4 0) (a_sc 5 0) (a_sc 6 0) (a_sc 7 0) (u_sc 0), wRoll E 6 (a_sc 1) (u_sc 1), wRoll E 6 (a_sc 2) (u_sc 2), wRoll E 4 (a_sc 3) (u_sc 3), wRoll E 14 (a_sc 4) (u_sc 4), wFormula E (a_sc 5) (u_sc 5), wFormula E (a_sc 6) (u_sc 6), wFormula E (a_sc 7) (u_sc 7), wHall E a_h u_h] H locs := hB
    refine lv_aload_n hx hb dX2_nameGuest_84 rfl (lv_at hl 0 rfl) ?_
    refine gf_X2_X2_names C hK (hB.1 0 _ rfl) dX2_nameGuest_85 ?_
    refine lv_bipush (v := 6) hx hb dX2_nameGuest_88 (by decide) ?_
    refine lv_aload_n hx hb dX2_nameGuest_90 rfl (lv_at hl 1 rfl) ?_
    refine gf_X2_X1_minute C hK (hB.1 10 _ rfl) dX2_nameGuest_91 ?_
    refine lv_i2l hx hb dX2_nameGuest_94 rfl ?_
    refine lv_topl (fun x22 ex22 => ?_)
    have hf := ox_lt ex22 hf
    obtain ⟨hn23, hf⟩ := ox_chk hf
    refine st_LArr_row C hK hB hD 1 rfl hn23 rfl dX2_nameGuest_95 (fun H locs u24 eu24 hB => ?_)
    have hf := ox_lt eu24 hf
    have hB : WB E ad s.heap [wMill E a_ml (a_nm 0) (a_sc 0 0) u_ml, wLArr E n_nm a_nm u24, wScript E (a_sc 0) (a_sc 1 0) (a_sc 2 0) (a_sc 3 0) (a_sc 4 0) (a_sc 5 0) (a_sc 6 0) (a_sc 7 0) (u_sc 0), wRoll E 6 (a_sc 1) (u_sc 1), wRoll E 6 (a_sc 2) (u_sc 2), wRoll E 4 (a_sc 3) (u_sc 3), wRoll E 14 (a_sc 4) (u_sc 4), wFormula E (a_sc 5) (u_sc 5), wFormula E (a_sc 6) (u_sc 6), wFormula E (a_sc 7) (u_sc 7), wHall E a_h u_h] H locs := hB
    have hf := Option.some.inj hf
    subst hf
    exact hQ _ _ H locs (fun _ => 0) hB dX2_nameGuest_96
  refine lv_if_eq (tgt := 41) hx hb dX2_nameGuest_32 (by decide) (fun c25 => ?_) (fun c25 => ?_)
  · have hf := (if_pos c25).symm.trans hf
    refine lv_aload_n hx hb dX2_nameGuest_41 rfl (lv_at hl 0 rfl) ?_
    refine gf_X2_X2_script C hK (hB.1 0 _ rfl) dX2_nameGuest_42 ?_
    refine lv_iload_n hx hb dX2_nameGuest_45 rfl (lv_at hl 2 rfl) ?_
    obtain ⟨r26, hr26, hf⟩ := ox_bind hf
    refine cxVP (As := [.int x_2]) (rest := [.int (2 : Int32), .ref (a_nm 0)]) (st1 := [.int r26, .int (2 : Int32), .ref (a_nm 0)]) C hK (tX8_hunger l E a_sc u_sc x_2 r26 hr26) lk_X2_177 ⟨rfl, rfl⟩ (by rw [hRf, hRl]; decide) ⟨Nat.zero_le _, Nat.zero_le _⟩ (PB.sub hB.1 [2, 3, 4, 5, 6, 7, 8, 9] rfl) (hB.old hD hN) (Nat.le_trans hN hB.2.2.1) (rc_X8 hK (hB.1 2 _ rfl)) rfl hl.1 rfl rfl (Nat.le_of_ble_eq_true rfl) dX2_nameGuest_46 ?_
    refine lv_i2l hx hb dX2_nameGuest_49 rfl ?_
    exact hj9 _ ls H locs (lv_sub hl [0, 1, 2, 4] rfl) hB hf
  · have hf := (if_neg c25).symm.trans hf
    refine lv_ldc2 (v := 9) hx hb C.2.2.2.1 (C.2.2.2.2 _ mw_779) dX2_nameGuest_35 ?_
    refine lv_goto (tgt := 50) hx hb dX2_nameGuest_38 (by decide) ?_
    exact hj9 _ ls H locs (lv_sub hl [0, 1, 2, 4] rfl) hB hf
set_option maxHeartbeats 4000000 in
set_option maxRecDepth 20000 in
theorem tX11_within (l : Launch) (E : Ev) (x_0 : Int64) (x_1 : Int64) (x_2 : Int64) (res : Int64) (hf : fX11_within x_0 x_1 x_2 = res) : MP l E yX11_within cX11_within 6 (some .long) (rmm 1 30) [] [.long x_0, .long x_1, .long x_2] (some (.long res)) := by
  unfold fX11_within at hf
  refine MP.ofL rfl (by decide) (Nat.le_of_ble_eq_true rfl) ?_
  intro p e R s m args below meth c ls Q hRf hRl C hP hK hN hl hQ
  have hx := C.1
  have hb := C.2.1
  have hl : lv_has ls 6 [(0, .long x_0), (2, .long x_1), (4, .long x_2)] := hl
  refine lv_lload_n hx hb dX11_within_0 rfl (lv_at hl 1 rfl) ?_
  refine lv_lload hx hb dX11_within_1 (lv_at hl 2 rfl) ?_
  refine lv_lload_n hx hb dX11_within_3 rfl (lv_at hl 0 rfl) ?_
  refine va_mmin_long hx hb (C.2.2.1.trans hl.1.symm) C.2.2.2.1 (C.2.2.2.2 _ mw_871) (C.2.2.2.2 _ mm_mmin_long_s) (C.2.2.2.2 _ mm_ini) (C.2.2.2.2 _ mm_mmin_long_c) (by rw [hRf]; decide) (by rw [hRl]; exact Nat.le_of_ble_eq_true rfl) (Nat.zero_le _) (Nat.zero_le _) dX11_within_4 ?_
  refine va_mmax_long hx hb (C.2.2.1.trans hl.1.symm) C.2.2.2.1 (C.2.2.2.2 _ mw_874) (C.2.2.2.2 _ mm_mmax_long_s) (C.2.2.2.2 _ mm_ini) (C.2.2.2.2 _ mm_mmax_long_c) (by rw [hRf]; decide) (by rw [hRl]; exact Nat.le_of_ble_eq_true rfl) (Nat.zero_le _) (Nat.zero_le _) dX11_within_7 ?_
  subst hf
  exact hQ _ _ dX11_within_10
set_option maxHeartbeats 4000000 in
set_option maxRecDepth 20000 in
theorem tX8_without (l : Launch) (E : Ev) (a_sc : Nat → Nat → Nat) (u_sc : Nat → St) (x_1 : Int32) (x_2 : Int32) (res : Int32) (hf : fX8_without u_sc x_1 x_2 = some res) : MP l E yX8_without cX8_without 3 (some .int) (rmm 1 30) [wScript E (a_sc 0) (a_sc 1 0) (a_sc 2 0) (a_sc 3 0) (a_sc 4 0) (a_sc 5 0) (a_sc 6 0) (a_sc 7 0) (u_sc 0), wRoll E 6 (a_sc 1) (u_sc 1), wRoll E 6 (a_sc 2) (u_sc 2), wRoll E 4 (a_sc 3) (u_sc 3), wRoll E 14 (a_sc 4) (u_sc 4), wFormula E (a_sc 5) (u_sc 5), wFormula E (a_sc 6) (u_sc 6), wFormula E (a_sc 7) (u_sc 7)] [.ref (a_sc 0 0), .int x_1, .int x_2] (some (.int res)) := by
  unfold fX8_without at hf
  refine MP.ofI rfl (by decide) (Nat.le_of_ble_eq_true rfl) ?_
  intro p e R s m args below meth c ls Q hRf hRl C hP hK hN hl hQ
  have hx := C.1
  have hb := C.2.1
  have hl : lv_has ls 3 [(0, .ref (a_sc 0 0)), (1, .int x_1), (2, .int x_2)] := hl
  refine lv_iconst (v := 5) hx hb dX8_without_0 (by decide) ?_
  refine lv_aload_n hx hb dX8_without_1 rfl (lv_at hl 0 rfl) ?_
  refine lv_iload_n hx hb dX8_without_2 rfl (lv_at hl 1 rfl) ?_
  obtain ⟨r1, hr1, hf⟩ := ox_bind hf
  refine cxVP (As := [.int x_1]) (rest := [.int (5 : Int32)]) (st1 := [.int r1, .int (5 : Int32)]) C hK (tX8_taste l E a_sc u_sc x_1 r1 hr1) lk_X8_69 ⟨rfl, rfl⟩ (by rw [hRf, hRl]; decide) ⟨Nat.zero_le _, Nat.zero_le _⟩ (PB.sub hP [0, 1, 2, 3, 4, 5, 6, 7] rfl) (fun _ _ => rfl) hN (rc_X8 hK (hP 0 _ rfl)) rfl hl.1 rfl rfl (Nat.le_of_ble_eq_true rfl) dX8_without_3 ?_
  refine lv_iload_n hx hb dX8_without_6 rfl (lv_at hl 2 rfl) ?_
  refine lv_isub hx hb dX8_without_7 ?_
  refine va_mabs hx hb (C.2.2.1.trans hl.1.symm) C.2.2.2.1 (C.2.2.2.2 _ mw_910) (C.2.2.2.2 _ mm_mabs_s) (C.2.2.2.2 _ mm_ini) (C.2.2.2.2 _ mm_mabs_c) (by rw [hRf]; decide) (by rw [hRl]; exact Nat.le_of_ble_eq_true rfl) (Nat.zero_le _) (Nat.zero_le _) dX8_without_8 ?_
  refine lv_isub hx hb dX8_without_11 ?_
  have hf := Option.some.inj hf
  subst hf
  exact hQ _ _ dX8_without_12
set_option maxHeartbeats 4000000 in
set_option maxRecDepth 20000 in
theorem tX2_clapOf (l : Launch) (E : Ev) (a_ml : Nat → Nat) (u_ml : St) (n_nm : Nat) (a_nm : Nat → Nat) (u_nm : St) (a_sc : Nat → Nat → Nat) (u_sc : Nat → St) (a_h : Nat → Nat) (u_h : St) (x_2 : Int32) (x_3 : Int32) (x_4 : Int32) (res : Int32 × St × (Nat → St)) (hf : fX2_clapOf n_nm u_ml u_nm u_sc u_h x_2 x_3 x_4 = some res) : MX l E yX2_clapOf cX2_clapOf 7 (some .int) (rmm 3 78) [wMill E a_ml (a_nm 0) (a_sc 0 0) u_ml, wLArr E n_nm a_nm u_nm, wScript E (a_sc 0) (a_sc 1 0) (a_sc 2 0) (a_sc 3 0) (a_sc 4 0) (a_sc 5 0) (a_sc 6 0) (a_sc 7 0) (u_sc 0), wRoll E 6 (a_sc 1) (u_sc 1), wRoll E 6 (a_sc 2) (u_sc 2), wRoll E 4 (a_sc 3) (u_sc 3), wRoll E 14 (a_sc 4) (u_sc 4), wFormula E (a_sc 5) (u_sc 5), wFormula E (a_sc 6) (u_sc 6), wFormula E (a_sc 7) (u_sc 7), wHall E a_h u_h] (fun q => [wMill E a_ml (a_nm 0) (a_sc 0 0) u_ml, wLArr E n_nm a_nm res.2.1, wScript E (a_sc 0) (a_sc 1 0) (a_sc 2 0) (a_sc 3 0) (a_sc 4 0) (a_sc 5 0) (a_sc 6 0) (a_sc 7 0) (res.2.2 0), wRoll E 6 (a_sc 1) (res.2.2 1), wRoll E 6 (a_sc 2) (res.2.2 2), wRoll E 4 (a_sc 3) (res.2.2 3), wRoll E 14 (a_sc 4) (res.2.2 4), wFormula E (a_sc 5) (res.2.2 5), wFormula E (a_sc 6) (res.2.2 6), wFormula E (a_sc 7) (res.2.2 7), wHall E a_h u_h]) [.ref (a_ml 0), .ref (a_h 0), .int x_2, .int x_3, .int x_4] (some (.int res.1)) := by
  unfold fX2_clapOf at hf
  refine MX.ofI rfl (by decide) (Nat.le_of_ble_eq_true rfl) ?_
  intro p e R s m args below meth c ls Q ad H hRf hRl C hB hD hK hN hl hQ
  generalize hlocs : ([] : List Loc) = locs at hB ⊢
  clear hlocs
  have hx := C.1
  have hb := C.2.1
  have hl : lv_has ls 7 [(0, .ref (a_ml 0)), (1, .ref (a_h 0)), (2, .int x_2), (3, .int x_3), (4, .int x_4)] := hl
  refine lv_aload_n hx hb dX2_clapOf_0 rfl (lv_at hl 0 rfl) ?_
  refine gf_X2_X2_script C hK (hB.1 0 _ rfl) dX2_clapOf_1 ?_
  refine gf_X2_X8_laws C hK (hB.1 2 _ rfl) dX2_clapOf_4 ?_
  refine lv_iconst (v := 0) hx hb dX2_clapOf_7 (by decide) ?_
  refine bx_aaldK C hK (hB.1 2 _ rfl) 1 rfl (k := 0) rfl dX2_clapOf_8 (q := (a_sc 5 0)) rfl (by decide) ?_
  refine gf_X2_X0_isTold C hK (hB.1 7 _ rfl) dX2_clapOf_9 ?_
  refine lv_if_ne (tgt := 25) hx hb dX2_clapOf_12 (by decide) (fun c1 => ?_) (fun c1 => ?_)
  · have hf := (if_neg c1).symm.trans hf
    refine lv_aload_n hx hb dX2_clapOf_25 rfl (lv_at hl 0 rfl) ?_
    refine lv_aload_n hx hb dX2_clapOf_26 rfl (lv_at hl 1 rfl) ?_
    refine lv_iload_n hx hb dX2_clapOf_27 rfl (lv_at hl 2 rfl) ?_
    refine lv_iload_n hx hb dX2_clapOf_28 rfl (lv_at hl 3 rfl) ?_
    refine lv_iload hx hb dX2_clapOf_29 (lv_at hl 4 rfl) ?_
    obtain ⟨r2, hr2, hf⟩ := ox_bind hf
    refine cxVX (bs1 := (fun q => [wMill E a_ml (a_nm 0) (a_sc 0 0) u_ml, wLArr E n_nm a_nm r2, wScript E (a_sc 0) (a_sc 1 0) (a_sc 2 0) (a_sc 3 0) (a_sc 4 0) (a_sc 5 0) (a_sc 6 0) (a_sc 7 0) (u_sc 0), wRoll E 6 (a_sc 1) (u_sc 1), wRoll E 6 (a_sc 2) (u_sc 2), wRoll E 4 (a_sc 3) (u_sc 3), wRoll E 14 (a_sc 4) (u_sc 4), wFormula E (a_sc 5) (u_sc 5), wFormula E (a_sc 6) (u_sc 6), wFormula E (a_sc 7) (u_sc 7), wHall E a_h u_h])) (As := [.ref (a_h 0), .int x_2, .int x_3, .int x_4]) (rest := []) (st1 := []) C hK (tX2_nameGuest l E a_ml u_ml n_nm a_nm u_nm a_sc u_sc a_h u_h x_2 x_3 x_4 r2 hr2) lk_X2_150 (by rw [hRf, hRl]; decide) ⟨Nat.zero_le _, Nat.zero_le _⟩ hB hD hN [0, 1, 2, 3, 4, 5, 6, 7, 8, 9, 10] (by decide) rfl (fun _ => rfl) (fun _ => rfl) (rc_X2 hK (hB.1 0 _ rfl)) rfl hl.1 rfl rfl (Nat.le_of_ble_eq_true rfl) dX2_clapOf_31 (fun H locs q3 hB => ?_)
    have hB : WB E ad s.heap [wMill E a_ml (a_nm 0) (a_sc 0 0) u_ml, wLArr E n_nm a_nm r2, wScript E (a_sc 0) (a_sc 1 0) (a_sc 2 0) (a_sc 3 0) (a_sc 4 0) (a_sc 5 0) (a_sc 6 0) (a_sc 7 0) (u_sc 0), wRoll E 6 (a_sc 1) (u_sc 1), wRoll E 6 (a_sc 2) (u_sc 2), wRoll E 4 (a_sc 3) (u_sc 3), wRoll E 14 (a_sc 4) (u_sc 4), wFormula E (a_sc 5) (u_sc 5), wFormula E (a_sc 6) (u_sc 6), wFormula E (a_sc 7) (u_sc 7), wHall E a_h u_h] H locs := hB
    refine lv_aload_n hx hb dX2_clapOf_34 rfl (lv_at hl 0 rfl) ?_
    refine gf_X2_X2_script C hK (hB.1 0 _ rfl) dX2_clapOf_35 ?_
    refine gf_X2_X8_laws C hK (hB.1 2 _ rfl) dX2_clapOf_38 ?_
    refine lv_iconst (v := 0) hx hb dX2_clapOf_41 (by decide) ?_
    refine bx_aaldK C hK (hB.1 2 _ rfl) 1 rfl (k := 0) rfl dX2_clapOf_42 (q := (a_sc 5 0)) rfl (by decide) ?_
    refine lv_aload_n hx hb dX2_clapOf_43 rfl (lv_at hl 0 rfl) ?_
    refine gf_X2_X2_names C hK (hB.1 0 _ rfl) dX2_clapOf_44 ?_
    obtain ⟨r4, hr4, hf⟩ := ox_bind hf
    refine cxVX (bs1 := (fun q => [wMill E a_ml (a_nm 0) (a_sc 0 0) u_ml, wLArr E n_nm a_nm r2, wScript E (a_sc 0) (a_sc 1 0) (a_sc 2 0) (a_sc 3 0) (a_sc 4 0) (a_sc 5 0) (a_sc 6 0) (a_sc 7 0) (u_sc 0), wRoll E 6 (a_sc 1) (u_sc 1), wRoll E 6 (a_sc 2) (u_sc 2), wRoll E 4 (a_sc 3) (u_sc 3), wRoll E 14 (a_sc 4) (u_sc 4), wFormula E (a_sc 5) r4.2, wFormula E (a_sc 6) (u_sc 6), wFormula E (a_sc 7) (u_sc 7), wHall E a_h u_h])) (As := [.ref (a_nm 0)]) (rest := []) (st1 := [.long r4.1]) C hK (tX0_value l E (a_sc 5) (u_sc 5) n_nm a_nm r2 r4 hr4) lk_X2_154 (by rw [hRf, hRl]; decide) ⟨Nat.zero_le _, Nat.zero_le _⟩ hB hD hN [7, 1] (by decide) rfl (fun _ => rfl) (fun _ => rfl) (rc_X0 hK (hB.1 7 _ rfl)) rfl hl.1 rfl rfl (Nat.le_of_ble_eq_true rfl) dX2_clapOf_47 (fun H locs q5 hB => ?_)
    have hB : WB E ad s.heap [wMill E a_ml (a_nm 0) (a_sc 0 0) u_ml, wLArr E n_nm a_nm r2, wScript E (a_sc 0) (a_sc 1 0) (a_sc 2 0) (a_sc 3 0) (a_sc 4 0) (a_sc 5 0) (a_sc 6 0) (a_sc 7 0) (u_sc 0), wRoll E 6 (a_sc 1) (u_sc 1), wRoll E 6 (a_sc 2) (u_sc 2), wRoll E 4 (a_sc 3) (u_sc 3), wRoll E 14 (a_sc 4) (u_sc 4), wFormula E (a_sc 5) r4.2, wFormula E (a_sc 6) (u_sc 6), wFormula E (a_sc 7) (u_sc 7), wHall E a_h u_h] H locs := hB
    refine lv_topl (fun x6 ex6 => ?_)
    have hf := ox_lt ex6 hf
    refine lv_lstore (lv' := [(5, .long x6), (0, .ref (a_ml 0)), (1, .ref (a_h 0)), (2, .int x_2), (3, .int x_3), (4, .int x_4)]) hx hb dX2_clapOf_50 hl (by decide) rfl (fun ls hl => ?_)
    refine lv_lload hx hb dX2_clapOf_52 (lv_at hl 0 rfl) ?_
    refine lv_ldc2 (v := -9223372036854775808) hx hb C.2.2.2.1 (C.2.2.2.2 _ mw_770) dX2_clapOf_54 ?_
    refine W.lcmp hx hb dX2_clapOf_57 ?_
    refine lx_if_ne (tgt := 73) hx hb dX2_clapOf_58 (by decide) (fun c7 => ?_) (fun c7 => ?_)
    · have hf := (if_neg c7).symm.trans hf
      refine lv_lload hx hb dX2_clapOf_73 (lv_at hl 0 rfl) ?_
      refine lv_ldc2 (v := -9) hx hb C.2.2.2.1 (C.2.2.2.2 _ mw_913) dX2_clapOf_75 ?_
      refine lv_ldc2 (v := 9) hx hb C.2.2.2.1 (C.2.2.2.2 _ mw_779) dX2_clapOf_78 ?_
      refine cxNP (As := [.long x6, .long (-9 : Int64), .long (9 : Int64)]) (rest := []) (st1 := [.long (fX11_within x6 (-9 : Int64) (9 : Int64))]) C hK (tX11_within l E x6 (-9 : Int64) (9 : Int64) (fX11_within x6 (-9 : Int64) (9 : Int64)) rfl) lk_X2_164 ⟨rfl, rfl⟩ (by rw [hRf, hRl]; decide) ⟨Nat.zero_le _, Nat.zero_le _⟩ (PB.sub hB.1 [] rfl) (hB.old hD hN) (Nat.le_trans hN hB.2.2.1) rfl hl.1 rfl rfl (Nat.le_of_ble_eq_true rfl) dX2_clapOf_81 ?_
      refine lv_l2i hx hb dX2_clapOf_84 rfl ?_
      have hf := Option.some.inj hf
      subst hf
      exact hQ _ _ H locs (fun _ => 0) hB dX2_clapOf_85
    · have hf := (if_pos c7).symm.trans hf
      refine lv_aload_n hx hb dX2_clapOf_61 rfl (lv_at hl 1 rfl) ?_
      refine gf_X2_X2_script C hK (hB.1 0 _ rfl) dX2_clapOf_62 ?_
      refine lv_iload_n hx hb dX2_clapOf_65 rfl (lv_at hl 3 rfl) ?_
      refine lv_iload_n hx hb dX2_clapOf_66 rfl (lv_at hl 4 rfl) ?_
      obtain ⟨r8, hr8, hf⟩ := ox_bind hf
      refine cxVP (As := [.int x_2, .int x_3]) (rest := []) (st1 := [.int r8]) C hK (tX8_without l E a_sc (va_up u_sc 5 r4.2) x_2 x_3 r8 hr8) lk_X2_146 ⟨rfl, rfl⟩ (by rw [hRf, hRl]; decide) ⟨Nat.zero_le _, Nat.zero_le _⟩ (PB.sub hB.1 [2, 3, 4, 5, 6, 7, 8, 9] rfl) (hB.old hD hN) (Nat.le_trans hN hB.2.2.1) (rc_X8 hK (hB.1 2 _ rfl)) rfl hl.1 rfl rfl (Nat.le_of_ble_eq_true rfl) dX2_clapOf_67 ?_
      refine lv_goto (tgt := 85) hx hb dX2_clapOf_70 (by decide) ?_
      have hf := Option.some.inj hf
      subst hf
      exact hQ _ _ H locs (fun _ => 0) hB dX2_clapOf_85
  · have hf := (if_pos c1).symm.trans hf
    refine lv_aload_n hx hb dX2_clapOf_15 rfl (lv_at hl 0 rfl) ?_
    refine gf_X2_X2_script C hK (hB.1 0 _ rfl) dX2_clapOf_16 ?_
    refine lv_iload_n hx hb dX2_clapOf_19 rfl (lv_at hl 2 rfl) ?_
    refine lv_iload_n hx hb dX2_clapOf_20 rfl (lv_at hl 3 rfl) ?_
    obtain ⟨r9, hr9, hf⟩ := ox_bind hf
    refine cxVP (As := [.int x_2, .int x_3]) (rest := []) (st1 := [.int r9]) C hK (tX8_without l E a_sc u_sc x_2 x_3 r9 hr9) lk_X2_146 ⟨rfl, rfl⟩ (by rw [hRf, hRl]; decide) ⟨Nat.zero_le _, Nat.zero_le _⟩ (PB.sub hB.1 [2, 3, 4, 5, 6, 7, 8, 9] rfl) (hB.old hD hN) (Nat.le_trans hN hB.2.2.1) (rc_X8 hK (hB.1 2 _ rfl)) rfl hl.1 rfl rfl (Nat.le_of_ble_eq_true rfl) dX2_clapOf_21 ?_
    have hf := Option.some.inj hf
    subst hf
    exact hQ _ _ H locs (fun _ => 0) hB dX2_clapOf_24
set_option maxHeartbeats 4000000 in
set_option maxRecDepth 20000 in
theorem tX2_applause (l : Launch) (E : Ev) (a_ml : Nat → Nat) (u_ml : St) (n_nm : Nat) (a_nm : Nat → Nat) (u_nm : St) (a_sc : Nat → Nat → Nat) (u_sc : Nat → St) (a_h : Nat → Nat) (u_h : St) (res : Int32 × St × (Nat → St) × St) (hf : fX2_applause n_nm u_ml u_nm u_sc u_h = some res) : MX l E yX2_applause cX2_applause 8 (some .int) (rmm 4 104) [wMill E a_ml (a_nm 0) (a_sc 0 0) u_ml, wLArr E n_nm a_nm u_nm, wScript E (a_sc 0) (a_sc 1 0) (a_sc 2 0) (a_sc 3 0) (a_sc 4 0) (a_sc 5 0) (a_sc 6 0) (a_sc 7 0) (u_sc 0), wRoll E 6 (a_sc 1) (u_sc 1), wRoll E 6 (a_sc 2) (u_sc 2), wRoll E 4 (a_sc 3) (u_sc 3), wRoll E 14 (a_sc 4) (u_sc 4), wFormula E (a_sc 5) (u_sc 5), wFormula E (a_sc 6) (u_sc 6), wFormula E (a_sc 7) (u_sc 7), wHall E a_h u_h] (fun q => [wMill E a_ml (a_nm 0) (a_sc 0 0) u_ml, wLArr E n_nm a_nm res.2.1, wScript E (a_sc 0) (a_sc 1 0) (a_sc 2 0) (a_sc 3 0) (a_sc 4 0) (a_sc 5 0) (a_sc 6 0) (a_sc 7 0) (res.2.2.1 0), wRoll E 6 (a_sc 1) (res.2.2.1 1), wRoll E 6 (a_sc 2) (res.2.2.1 2), wRoll E 4 (a_sc 3) (res.2.2.1 3), wRoll E 14 (a_sc 4) (res.2.2.1 4), wFormula E (a_sc 5) (res.2.2.1 5), wFormula E (a_sc 6) (res.2.2.1 6), wFormula E (a_sc 7) (res.2.2.1 7), wHall E a_h res.2.2.2]) [.ref (a_ml 0), .ref (a_h 0)] (some (.int res.1)) := by
  unfold fX2_applause at hf
  refine MX.ofI rfl (by decide) (Nat.le_of_ble_eq_true rfl) ?_
  intro p e R s m args below meth c ls Q ad H hRf hRl C hB hD hK hN hl hQ
  generalize hlocs : ([] : List Loc) = locs at hB ⊢
  clear hlocs
  have hx := C.1
  have hb := C.2.1
  have hl : lv_has ls 8 [(0, .ref (a_ml 0)), (1, .ref (a_h 0))] := hl
  refine lv_iconst (v := 0) hx hb dX2_applause_0 (by decide) ?_
  refine lv_istore_n (lv' := [(2, .int (0 : Int32)), (0, .ref (a_ml 0)), (1, .ref (a_h 0))]) hx hb dX2_applause_1 rfl hl (by decide) rfl (fun ls hl => ?_)
  refine lv_iconst (v := 0) hx hb dX2_applause_2 (by decide) ?_
  refine lv_istore_n (lv' := [(3, .int (0 : Int32)), (2, .int (0 : Int32)), (0, .ref (a_ml 0)), (1, .ref (a_h 0))]) hx hb dX2_applause_3 rfl hl (by decide) rfl (fun ls hl => ?_)
  refine lv_aload_n hx hb dX2_applause_4 rfl (lv_at hl 2 rfl) ?_
  refine lv_aload_n hx hb dX2_applause_5 rfl (lv_at hl 3 rfl) ?_
  obtain ⟨r1, hr1, hf⟩ := ox_bind hf
  refine cxVP (As := [.ref (a_h 0)]) (rest := []) (st1 := [.int r1]) C hK (tX2_moodOn l E a_ml (a_nm 0) u_ml a_sc u_sc a_h u_h r1 hr1) lk_X2_111 ⟨rfl, rfl⟩ (by rw [hRf, hRl]; decide) ⟨Nat.zero_le _, Nat.zero_le _⟩ (PB.sub hB.1 [0, 2, 3, 4, 5, 6, 7, 8, 9, 10] rfl) (hB.old hD hN) (Nat.le_trans hN hB.2.2.1) (rc_X2 hK (hB.1 0 _ rfl)) rfl hl.1 rfl rfl (Nat.le_of_ble_eq_true rfl) dX2_applause_6 ?_
  refine lv_istore (lv' := [(4, .int r1), (3, .int (0 : Int32)), (2, .int (0 : Int32)), (0, .ref (a_ml 0)), (1, .ref (a_h 0))]) hx hb dX2_applause_9 hl (by decide) rfl (fun ls hl => ?_)
  refine lv_iconst (v := 0) hx hb dX2_applause_11 (by decide) ?_
  refine lv_istore (lv' := [(5, .int (0 : Int32)), (4, .int r1), (3, .int (0 : Int32)), (2, .int (0 : Int32)), (0, .ref (a_ml 0)), (1, .ref (a_h 0))]) hx hb dX2_applause_12 hl (by decide) rfl (fun ls hl => ?_)
  obtain ⟨X1, hX1, hf⟩ := ox_bind hf
  have hexit1 : ∀ y41, y41 = X1 → ∀ (ls : Array Slot) (H : Heap) (locs : List Loc), lv_has ls 8 [(2, .int y41.1)] → WB E ad s.heap [wMill E a_ml (a_nm 0) (a_sc 0 0) u_ml, wLArr E n_nm a_nm y41.2.1, wScript E (a_sc 0) (a_sc 1 0) (a_sc 2 0) (a_sc 3 0) (a_sc 4 0) (a_sc 5 0) (a_sc 6 0) (a_sc 7 0) (y41.2.2.1 0), wRoll E 6 (a_sc 1) (y41.2.2.1 1), wRoll E 6 (a_sc 2) (y41.2.2.1 2), wRoll E 4 (a_sc 3) (y41.2.2.1 3), wRoll E 14 (a_sc 4) (y41.2.2.1 4), wFormula E (a_sc 5) (y41.2.2.1 5), wFormula E (a_sc 6) (y41.2.2.1 6), wFormula E (a_sc 7) (y41.2.2.1 7), wHall E a_h y41.2.2.2] H locs → W p l e R s m args below meth c H locs 0 0 Q (F0 m 135 ls []) := by
    intro y41 hy ls H locs hl hB
    subst hy
    refine lv_iload_n hx hb dX2_applause_135 rfl (lv_at hl 0 rfl) ?_
    have hf := Option.some.inj hf
    subst hf
    exact hQ _ _ H locs (fun _ => 0) hB dX2_applause_136
  have hloop1 : ∀ (nf : Nat) (x2 : Int32) (x3 : Int32) (x4 : Int32) (u5 : St) (u6 : Nat → St) (u7 : St) (ls : Array Slot) (H : Heap) (locs : List Loc), lv_has ls 8 [(0, .ref (a_ml 0)), (1, .ref (a_h 0)), (2, .int x2), (3, .int x3), (4, .int r1), (5, .int x4)] → WB E ad s.heap [wMill E a_ml (a_nm 0) (a_sc 0 0) u_ml, wLArr E n_nm a_nm u5, wScript E (a_sc 0) (a_sc 1 0) (a_sc 2 0) (a_sc 3 0) (a_sc 4 0) (a_sc 5 0) (a_sc 6 0) (a_sc 7 0) (u6 0), wRoll E 6 (a_sc 1) (u6 1), wRoll E 6 (a_sc 2) (u6 2), wRoll E 4 (a_sc 3) (u6 3), wRoll E 14 (a_sc 4) (u6 4), wFormula E (a_sc 5) (u6 5), wFormula E (a_sc 6) (u6 6), wFormula E (a_sc 7) (u6 7), wHall E a_h u7] H locs → fX2_applause_L1 u_ml n_nm r1 nf x2 x3 x4 u5 u6 u7 = some X1 → W p l e R s m args below meth c H locs 0 0 Q (F0 m 14 ls []) := by
    intro nf
    induction nf with
    | zero =>
      intro x2 x3 x4 u5 u6 u7 ls H locs hl hB hf
      simp [fX2_applause_L1] at hf
    | succ nf ih =>
      intro x2 x3 x4 u5 u6 u7 ls H locs hl hB hf
      rw [fX2_applause_L1] at hf
      refine lv_iload hx hb dX2_applause_14 (lv_at hl 5 rfl) ?_
      refine lv_bipush (v := 6) hx hb dX2_applause_16 (by decide) ?_
      refine lv_icmp_ge (tgt := 135) hx hb dX2_applause_18 (by decide) (fun c8 => ?_) (fun c8 => ?_)
      · have hf := (if_pos c8).symm.trans hf
        exact hexit1 _ (Option.some.inj hf) ls H locs (lv_sub hl [2] rfl) hB
      · have hf := (if_neg c8).symm.trans hf
        refine lv_aload_n hx hb dX2_applause_21 rfl (lv_at hl 1 rfl) ?_
        refine gf_X2_X1_seating C hK (hB.1 10 _ rfl) dX2_applause_22 ?_
        refine lv_iload hx hb dX2_applause_25 (lv_at hl 5 rfl) ?_
        obtain ⟨hn9, hf⟩ := ox_chk hf
        refine ld_X1_seating C hK (hB.1 10 _ rfl) hn9 rfl dX2_applause_27 ?_
        refine lv_topi (fun x10 ex10 => ?_)
        have hf := ox_lt ex10 hf
        refine lv_istore (lv' := [(6, .int x10), (0, .ref (a_ml 0)), (1, .ref (a_h 0)), (2, .int x2), (3, .int x3), (4, .int r1), (5, .int x4)]) hx hb dX2_applause_28 hl (by decide) rfl (fun ls hl => ?_)
        refine lv_aload_n hx hb dX2_applause_30 rfl (lv_at hl 1 rfl) ?_
        refine gf_X2_X2_script C hK (hB.1 0 _ rfl) dX2_applause_31 ?_
        refine gf_X2_X8_guests C hK (hB.1 2 _ rfl) dX2_applause_34 ?_
        refine lv_iload hx hb dX2_applause_37 (lv_at hl 0 rfl) ?_
        refine cxVP (As := [.int x10]) (rest := []) (st1 := [.int (fX7_has 6 (u6 2) x10)]) C hK (tX7_has l E 6 (a_sc 2) (u6 2) x10 (fX7_has 6 (u6 2) x10) rfl) lk_X2_120 ⟨rfl, rfl⟩ (by rw [hRf, hRl]; decide) ⟨Nat.zero_le _, Nat.zero_le _⟩ (PB.sub hB.1 [4] rfl) (hB.old hD hN) (Nat.le_trans hN hB.2.2.1) (rc_X7 hK (hB.1 4 _ rfl)) rfl hl.1 rfl rfl (Nat.le_of_ble_eq_true rfl) dX2_applause_39 ?_
        obtain ⟨j16, ej16, hf⟩ := ox_ex hf
        have hj16 : ∀ (x11 : Int32) (x12 : Int32) (u13 : St) (u14 : Nat → St) (u15 : St) (ls : Array Slot) (H : Heap) (locs : List Loc), lv_has ls 8 [(0, .ref (a_ml 0)), (1, .ref (a_h 0)), (2, .int x11), (3, .int x12), (4, .int r1), (5, .int x4)] → WB E ad s.heap [wMill E a_ml (a_nm 0) (a_sc 0 0) u_ml, wLArr E n_nm a_nm u13, wScript E (a_sc 0) (a_sc 1 0) (a_sc 2 0) (a_sc 3 0) (a_sc 4 0) (a_sc 5 0) (a_sc 6 0) (a_sc 7 0) (u14 0), wRoll E 6 (a_sc 1) (u14 1), wRoll E 6 (a_sc 2) (u14 2), wRoll E 4 (a_sc 3) (u14 3), wRoll E 14 (a_sc 4) (u14 4), wFormula E (a_sc 5) (u14 5), wFormula E (a_sc 6) (u14 6), wFormula E (a_sc 7) (u14 7), wHall E a_h u15] H locs → j16 x11 x12 u13 u14 u15 = some X1 → W p l e R s m args below meth c H locs 0 0 Q (F0 m 129 ls []) := by
          intro x11 x12 u13 u14 u15 ls H locs hl hB hf
          have hf := ox_a5 ej16 hf
          obtain ⟨x17, ex17⟩ : ∃ z : Int32, z = (x4 + 1) := ⟨_, rfl⟩
          have hf := ox_lt ex17 hf
          refine lv_iinc (v := x17) (lv' := [(5, .int x17), (0, .ref (a_ml 0)), (1, .ref (a_h 0)), (2, .int x11), (3, .int x12), (4, .int r1)]) hx hb dX2_applause_129 hl (k := 5) rfl (by rw [ex17]; rfl) (by decide) rfl (fun ls hl => ?_)
          refine lv_goto (tgt := 14) hx hb dX2_applause_132 (by decide) ?_
          exact ih _ _ _ _ _ _ ls H locs (lv_sub hl [1, 2, 3, 4, 5, 0] rfl) hB hf
        refine lv_if_eq (tgt := 129) hx hb dX2_applause_42 (by decide) (fun c18 => ?_) (fun c18 => ?_)
        · have hf := (if_pos c18).symm.trans hf
          exact hj16 _ _ _ _ _ ls H locs (lv_sub hl [1, 2, 3, 4, 5, 6] rfl) hB hf
        · have hf := (if_neg c18).symm.trans hf
          refine lv_aload_n hx hb dX2_applause_45 rfl (lv_at hl 2 rfl) ?_
          refine gf_X2_X1_on C hK (hB.1 10 _ rfl) dX2_applause_46 ?_
          refine lv_iconst (v := (-1)) hx hb dX2_applause_49 (by decide) ?_
          obtain ⟨x19, ex19, hf⟩ := ox_ex hf
          have hjx19 : W p l e R s m args below meth c H locs 0 0 Q (F0 m 67 ls [.int x19]) := by
            refine lv_istore (lv' := [(7, .int x19), (6, .int x10), (0, .ref (a_ml 0)), (1, .ref (a_h 0)), (2, .int x2), (3, .int x3), (4, .int r1), (5, .int x4)]) hx hb dX2_applause_67 hl (by decide) rfl (fun ls hl => ?_)
            refine lv_iload hx hb dX2_applause_69 (lv_at hl 0 rfl) ?_
            obtain ⟨j23, ej23, hf⟩ := ox_ex hf
            have hj23 : ∀ (x20 : Int32) (u21 : St) (u22 : Nat → St) (ls : Array Slot) (H : Heap) (locs : List Loc), lv_has ls 8 [(0, .ref (a_ml 0)), (1, .ref (a_h 0)), (2, .int x2), (4, .int r1), (5, .int x4), (6, .int x10)] → WB E ad s.heap [wMill E a_ml (a_nm 0) (a_sc 0 0) u_ml, wLArr E n_nm a_nm u21, wScript E (a_sc 0) (a_sc 1 0) (a_sc 2 0) (a_sc 3 0) (a_sc 4 0) (a_sc 5 0) (a_sc 6 0) (a_sc 7 0) (u22 0), wRoll E 6 (a_sc 1) (u22 1), wRoll E 6 (a_sc 2) (u22 2), wRoll E 4 (a_sc 3) (u22 3), wRoll E 14 (a_sc 4) (u22 4), wFormula E (a_sc 5) (u22 5), wFormula E (a_sc 6) (u22 6), wFormula E (a_sc 7) (u22 7), wHall E a_h u7] H locs → j23 x20 u21 u22 = some X1 → W p l e R s m args below meth c H locs 0 0 Q (F0 m 88 ls [.int x20]) := by
              intro x20 u21 u22 ls H locs hl hB hf
              have hf := ox_a3 ej23 hf
              refine lv_istore_n (lv' := [(3, .int x20), (0, .ref (a_ml 0)), (1, .ref (a_h 0)), (2, .int x2), (4, .int r1), (5, .int x4), (6, .int x10)]) hx hb dX2_applause_88 rfl hl (by decide) rfl (fun ls hl => ?_)
              refine lv_aload_n hx hb dX2_applause_89 rfl (lv_at hl 2 rfl) ?_
              refine gf_X2_X1_clapped C hK (hB.1 10 _ rfl) dX2_applause_90 ?_
              refine lv_iload hx hb dX2_applause_93 (lv_at hl 6 rfl) ?_
              refine lv_iload_n hx hb dX2_applause_95 rfl (lv_at hl 0 rfl) ?_
              obtain ⟨hn24, hf⟩ := ox_chk hf
              refine st_X1_clapped C hK hB hD 10 rfl hn24 rfl dX2_applause_96 (fun H locs u25 eu25 hB => ?_)
              have hf := ox_lt eu25 hf
              have hB : WB E ad s.heap [wMill E a_ml (a_nm 0) (a_sc 0 0) u_ml, wLArr E n_nm a_nm u21, wScript E (a_sc 0) (a_sc 1 0) (a_sc 2 0) (a_sc 3 0) (a_sc 4 0) (a_sc 5 0) (a_sc 6 0) (a_sc 7 0) (u22 0), wRoll E 6 (a_sc 1) (u22 1), wRoll E 6 (a_sc 2) (u22 2), wRoll E 4 (a_sc 3) (u22 3), wRoll E 14 (a_sc 4) (u22 4), wFormula E (a_sc 5) (u22 5), wFormula E (a_sc 6) (u22 6), wFormula E (a_sc 7) (u22 7), wHall E a_h u25] H locs := hB
              refine lv_iload_n hx hb dX2_applause_97 rfl (lv_at hl 0 rfl) ?_
              obtain ⟨j27, ej27, hf⟩ := ox_ex hf
              have hj27 : ∀ (u26 : St) (ls : Array Slot) (H : Heap) (locs : List Loc), lv_has ls 8 [(0, .ref (a_ml 0)), (1, .ref (a_h 0)), (2, .int x2), (3, .int x20), (4, .int r1), (5, .int x4)] → WB E ad s.heap [wMill E a_ml (a_nm 0) (a_sc 0 0) u_ml, wLArr E n_nm a_nm u21, wScript E (a_sc 0) (a_sc 1 0) (a_sc 2 0) (a_sc 3 0) (a_sc 4 0) (a_sc 5 0) (a_sc 6 0) (a_sc 7 0) (u22 0), wRoll E 6 (a_sc 1) (u22 1), wRoll E 6 (a_sc 2) (u22 2), wRoll E 4 (a_sc 3) (u22 3), wRoll E 14 (a_sc 4) (u22 4), wFormula E (a_sc 5) (u22 5), wFormula E (a_sc 6) (u22 6), wFormula E (a_sc 7) (u22 7), wHall E a_h u26] H locs → j27 u26 = some X1 → W p l e R s m args below meth c H locs 0 0 Q (F0 m 125 ls []) := by
                intro u26 ls H locs hl hB hf
                have hf := ox_a1 ej27 hf
                refine lv_iload_n hx hb dX2_applause_125 rfl (lv_at hl 2 rfl) ?_
                refine lv_iload_n hx hb dX2_applause_126 rfl (lv_at hl 3 rfl) ?_
                refine lv_iadd hx hb dX2_applause_127 ?_
                refine lv_topi (fun x28 ex28 => ?_)
                have hf := ox_lt ex28 hf
                refine lv_istore_n (lv' := [(2, .int x28), (0, .ref (a_ml 0)), (1, .ref (a_h 0)), (3, .int x20), (4, .int r1), (5, .int x4)]) hx hb dX2_applause_128 rfl hl (by decide) rfl (fun ls hl => ?_)
                exact hj16 _ _ _ _ _ ls H locs (lv_sub hl [1, 2, 0, 3, 4, 5] rfl) hB hf
              refine lv_if_le (tgt := 125) hx hb dX2_applause_98 (by decide) (fun c29 => ?_) (fun c29 => ?_)
              · have hf := (if_pos c29).symm.trans hf
                exact hj27 _ ls H locs (lv_sub hl [1, 2, 3, 0, 4, 5] rfl) hB hf
              · have hf := (if_neg c29).symm.trans hf
                refine lv_aload_n hx hb dX2_applause_101 rfl (lv_at hl 2 rfl) ?_
                refine gf_X2_X1_tired C hK (hB.1 10 _ rfl) dX2_applause_102 ?_
                refine lv_iload hx hb dX2_applause_105 (lv_at hl 6 rfl) ?_
                obtain ⟨hn30, hf⟩ := ox_chk hf
                refine ld_X1_tired C hK (hB.1 10 _ rfl) hn30 rfl dX2_applause_107 ?_
                refine lv_sipush (v := 9999) hx hb dX2_applause_108 (by decide) ?_
                refine lv_icmp_ge (tgt := 125) hx hb dX2_applause_111 (by decide) (fun c31 => ?_) (fun c31 => ?_)
                · have hf := (if_pos c31).symm.trans hf
                  exact hj27 _ ls H locs (lv_sub hl [1, 2, 3, 0, 4, 5] rfl) hB hf
                · have hf := (if_neg c31).symm.trans hf
                  refine lv_aload_n hx hb dX2_applause_114 rfl (lv_at hl 2 rfl) ?_
                  refine gf_X2_X1_tired C hK (hB.1 10 _ rfl) dX2_applause_115 ?_
                  refine lv_iload hx hb dX2_applause_118 (lv_at hl 6 rfl) ?_
                  refine lv_dup2_11 hx hb dX2_applause_120 rfl rfl ?_
                  obtain ⟨hn32, hf⟩ := ox_chk hf
                  refine ld_X1_tired C hK (hB.1 10 _ rfl) hn32 rfl dX2_applause_121 ?_
                  refine lv_iconst (v := 1) hx hb dX2_applause_122 (by decide) ?_
                  refine lv_iadd hx hb dX2_applause_123 ?_
                  refine lv_topi (fun x33 ex33 => ?_)
                  have hf := ox_lt ex33 hf
                  obtain ⟨hn34, hf⟩ := ox_chk hf
                  refine st_X1_tired C hK hB hD 10 rfl hn34 rfl dX2_applause_124 (fun H locs u35 eu35 hB => ?_)
                  have hf := ox_lt eu35 hf
                  have hB : WB E ad s.heap [wMill E a_ml (a_nm 0) (a_sc 0 0) u_ml, wLArr E n_nm a_nm u21, wScript E (a_sc 0) (a_sc 1 0) (a_sc 2 0) (a_sc 3 0) (a_sc 4 0) (a_sc 5 0) (a_sc 6 0) (a_sc 7 0) (u22 0), wRoll E 6 (a_sc 1) (u22 1), wRoll E 6 (a_sc 2) (u22 2), wRoll E 4 (a_sc 3) (u22 3), wRoll E 14 (a_sc 4) (u22 4), wFormula E (a_sc 5) (u22 5), wFormula E (a_sc 6) (u22 6), wFormula E (a_sc 7) (u22 7), wHall E a_h u35] H locs := hB
                  exact hj27 _ ls H locs (lv_sub hl [1, 2, 3, 0, 4, 5] rfl) hB hf
            refine lv_if_eq (tgt := 78) hx hb dX2_applause_71 (by decide) (fun c36 => ?_) (fun c36 => ?_)
            · have hf := (if_pos c36).symm.trans hf
              refine lv_aload_n hx hb dX2_applause_78 rfl (lv_at hl 2 rfl) ?_
              refine lv_aload_n hx hb dX2_applause_79 rfl (lv_at hl 3 rfl) ?_
              refine lv_iload hx hb dX2_applause_80 (lv_at hl 1 rfl) ?_
              refine lv_iload hx hb dX2_applause_82 (lv_at hl 6 rfl) ?_
              refine lv_iload_n hx hb dX2_applause_84 rfl (lv_at hl 5 rfl) ?_
              obtain ⟨r37, hr37, hf⟩ := ox_bind hf
              refine cxVX (bs1 := (fun q => [wMill E a_ml (a_nm 0) (a_sc 0 0) u_ml, wLArr E n_nm a_nm r37.2.1, wScript E (a_sc 0) (a_sc 1 0) (a_sc 2 0) (a_sc 3 0) (a_sc 4 0) (a_sc 5 0) (a_sc 6 0) (a_sc 7 0) (r37.2.2 0), wRoll E 6 (a_sc 1) (r37.2.2 1), wRoll E 6 (a_sc 2) (r37.2.2 2), wRoll E 4 (a_sc 3) (r37.2.2 3), wRoll E 14 (a_sc 4) (r37.2.2 4), wFormula E (a_sc 5) (r37.2.2 5), wFormula E (a_sc 6) (r37.2.2 6), wFormula E (a_sc 7) (r37.2.2 7), wHall E a_h u7])) (As := [.ref (a_h 0), .int x10, .int r1, .int x3]) (rest := []) (st1 := [.int r37.1]) C hK (tX2_clapOf l E a_ml u_ml n_nm a_nm u5 a_sc u6 a_h u7 x10 r1 x3 r37 hr37) lk_X2_124 (by rw [hRf, hRl]; decide) ⟨Nat.zero_le _, Nat.zero_le _⟩ hB hD hN [0, 1, 2, 3, 4, 5, 6, 7, 8, 9, 10] (by decide) rfl (fun _ => rfl) (fun _ => rfl) (rc_X2 hK (hB.1 0 _ rfl)) rfl hl.1 rfl rfl (Nat.le_of_ble_eq_true rfl) dX2_applause_85 (fun H locs q38 hB => ?_)
              have hB : WB E ad s.heap [wMill E a_ml (a_nm 0) (a_sc 0 0) u_ml, wLArr E n_nm a_nm r37.2.1, wScript E (a_sc 0) (a_sc 1 0) (a_sc 2 0) (a_sc 3 0) (a_sc 4 0) (a_sc 5 0) (a_sc 6 0) (a_sc 7 0) (r37.2.2 0), wRoll E 6 (a_sc 1) (r37.2.2 1), wRoll E 6 (a_sc 2) (r37.2.2 2), wRoll E 4 (a_sc 3) (r37.2.2 3), wRoll E 14 (a_sc 4) (r37.2.2 4), wFormula E (a_sc 5) (r37.2.2 5), wFormula E (a_sc 6) (r37.2.2 6), wFormula E (a_sc 7) (r37.2.2 7), wHall E a_h u7] H locs := hB
              exact hj23 _ _ _ ls H locs (lv_sub hl [2, 3, 4, 6, 7, 1] rfl) hB hf
            · have hf := (if_neg c36).symm.trans hf
              refine lv_iconst (v := 0) hx hb dX2_applause_74 (by decide) ?_
              refine lv_goto (tgt := 88) hx hb dX2_applause_75 (by decide) ?_
              exact hj23 _ _ _ ls H locs (lv_sub hl [2, 3, 4, 6, 7, 1] rfl) hB hf
          refine lv_icmp_eq (tgt := 62) hx hb dX2_applause_50 (by decide) (fun c39 => ?_) (fun c39 => ?_)
          · refine lv_iconst (v := 1) hx hb dX2_applause_62 (by decide) ?_
            refine lv_goto (tgt := 67) hx hb dX2_applause_63 (by decide) ?_
            exact ox_topi ((ex19).trans (if_pos c39)).symm hjx19
          · refine lv_iload hx hb dX2_applause_53 (lv_at hl 0 rfl) ?_
            refine lv_aload_n hx hb dX2_applause_55 rfl (lv_at hl 1 rfl) ?_
            refine gf_X2_X2_mute C hK (hB.1 0 _ rfl) dX2_applause_56 ?_
            refine lv_icmp_ne (tgt := 66) hx hb dX2_applause_59 (by decide) (fun c40 => ?_) (fun c40 => ?_)
            · refine lv_iconst (v := 0) hx hb dX2_applause_66 (by decide) ?_
              exact ox_topi (((ex19).trans (if_neg c39)).trans (if_neg c40)).symm hjx19
            · refine lv_iconst (v := 1) hx hb dX2_applause_62 (by decide) ?_
              refine lv_goto (tgt := 67) hx hb dX2_applause_63 (by decide) ?_
              exact ox_topi (((ex19).trans (if_neg c39)).trans (if_pos c40)).symm hjx19
  exact hloop1 fuel _ _ _ _ _ _ ls H locs (lv_sub hl [4, 5, 3, 2, 1, 0] rfl) hB hX1
