def m00 : St := stA (sI (sI z0 5 (-1)) 76 (-1)) 3 (rw3 106)
def m01 : St := phM m00
theorem m01_36 : ∀ j, j < 3 → gA m01 36 (3 + j) = 0 ∨ gA m01 36 (3 + j) = 1 := fun j hj => by
  rcases (show j = 0 ∨ j = 1 ∨ j = 2 by omega) with rfl | rfl | rfl <;> exact Or.inl rfl
def m02 : St := (fX12_keepText m01).getD z0
theorem m02_eq : fX12_keepText m01 = some m02 := by
  obtain ⟨r, e, _⟩ := keepText_of m01_36
  unfold m02
  rw [e]; rfl
set_option maxHeartbeats 4000000 in
set_option maxRecDepth 20000 in
theorem iX12 (l : Launch) (E : Ev) (kA vA : Nat → Nat) (h0 : Nat) (sz : Nat) : CI l E kA vA yX12_init cX12_init 1 (rmc 3 63 44 2616) [(h0, .inr (12, [.null, .int 0, .int 0, .null, .int 0, .int 0, .int 0, .int 0, .int 0, .int 0, .int 0, .int 0, .int 0, .int 0, .int 0, .int 0, .int 0, .int 0, .int 0, .int 0, .int 0, .int 0, .null, .null, .null, .null, .null, .null, .null, .null, .null, .null, .null, .null, .null, .null, .null, .null, .null, .null, .null, .null, .null, .null, .int 0, .int 0, .int 0, .int 0, .int 0, .int 0, .null, .null, .int 0, .null, .null, .null, .null, .null, .null, .null, .null, .null, .null, .null, .long 0, .int 0, .int 0, .int 0, .int 0, .int 0, .int 0, .int 0, .int 0, .int 0, .null, .int 0, .int 0, .null, .null, .null, .int 0, .null, .int 0, .null, .null, .long 0]))] [] [.ref h0] (fun a => wModel E (cA0 h0 a) m02) sz := by
  refine CI.of (own := RX12) rfl (by decide) rfl (Nat.le_of_ble_eq_true rfl) ?_ sz
  intro p e R s m args below meth c ls Q A hR1 hR2 hR3 hR4 C hin2 hK hN hA hA0 hF hrs hrn hl kk
  change R.frames = 3 at hR1
  change R.locals = 63 at hR2
  change R.cells = 44 at hR3
  change R.slots = 2616 at hR4
  have hl : lv_has ls 1 [(0, .ref h0)] := hl
  refine lv_aload_n C.1 C.2.1 dX12_init_0 rfl (lv_at hl 0 rfl) ?_
  refine nx_obj C mw_1266 mw_32 mw_33 hl.1 dX12_init_1 (by omega) (by show 0 + 12 ≤ R.locals; omega) ?_
  obtain ⟨fs, efs⟩ : ∃ x : List Value, x = [.null, .int 0, .int 0, .null, .int 0, .int 0, .int 0, .int 0, .int 0, .int 0, .int 0, .int 0, .int 0, .int 0, .int 0, .int 0, .int 0, .int 0, .int 0, .int 0, .int 0, .int 0, .null, .null, .null, .null, .null, .null, .null, .null, .null, .null, .null, .null, .null, .null, .null, .null, .null, .null, .null, .null, .null, .null, .int 0, .int 0, .int 0, .int 0, .int 0, .int 0, .null, .null, .int 0, .null, .null, .null, .null, .null, .null, .null, .null, .null, .null, .null, .long 0, .int 0, .int 0, .int 0, .int 0, .int 0, .int 0, .int 0, .int 0, .int 0, .null, .int 0, .int 0, .null, .null, .null, .int 0, .null, .int 0, .null, .null, .long 0] := ⟨_, rfl⟩
  have hfs : fs.length = 86 := by rw [efs]; rfl
  rw [← efs] at hF
  show W p l e R s m args below meth c _ _ 0 0 Q (F0 m 4 ls [])
  refine st_1 C hK.1 hin2 hA hR3 hR4 hl hfs hF (fun q1 H locs hF => ?_)
  have hfs := (List.length_set (as := _) (i := 0) (a := Value.ref q1)).trans hfs
  refine lv_aload_n C.1 C.2.1 dX12_init_13 rfl (lv_at hl 0 rfl) ?_
  refine lv_bipush C.1 C.2.1 (v := 106) dX12_init_14 (by decide) ?_
  refine nx_newa C hK.1 hA hF 0 rfl rfl mw_74 (a0 := (106, .inl (fun _ => 0))) (fun _ => rfl) (n := 106) rfl (by decide) (by decide) (by omega) (by omega) dX12_init_16 (fun q2 H hF => ?_)
  refine W.widen (k := 2) (n := 806) (by omega) (by omega) ?_
  have e3 : rw3 0 = fun _ => 0 := by funext k; unfold rw3; rw [if_neg (by omega)]
  rw [← e3] at hF
  refine fl_a (rest := [.ref h0]) C hK.1 hF (fun H locs hF => ?_)
  refine fl_b (rest := [.ref h0]) C hK.1 hF (fun H locs hF => ?_)
  refine fl_c (rest := [.ref h0]) C hK.1 hF (fun H locs hF => ?_)
  refine nx_set C hK.1 hin2 cfX12 hF 3 (by decide) mw_1293 rfl rfl rfl (by rw [hfs]; decide) dX12_init_648 (fun H locs hF => ?_)
  have hfs := (List.length_set (as := _) (i := 3) (a := Value.ref q2)).trans hfs
  show W p l e R s m args below meth c _ _ 2 806 Q (F0 m 651 ls [])
  refine st_2 C hK.1 hin2 hA hR3 hR4 hl hfs hF (fun H locs hF => ?_)
  have hfs := (List.length_set (as := _) (i := 5) (a := Value.int (-1))).trans hfs
  refine st_3 C hK.1 hin2 hA hR3 hR4 hl hfs hF (fun q3 H locs hF => ?_)
  have hfs := (List.length_set (as := _) (i := 22) (a := Value.ref q3)).trans hfs
  refine st_4 C hK.1 hin2 hA hR3 hR4 hl hfs hF (fun q4 H locs hF => ?_)
  have hfs := (List.length_set (as := _) (i := 23) (a := Value.ref q4)).trans hfs
  refine st_5 C hK.1 hin2 hA hR3 hR4 hl hfs hF (fun q5 H locs hF => ?_)
  have hfs := (List.length_set (as := _) (i := 24) (a := Value.ref q5)).trans hfs
  refine st_6 C hK.1 hin2 hA hR3 hR4 hl hfs hF (fun q6 H locs hF => ?_)
  have hfs := (List.length_set (as := _) (i := 25) (a := Value.ref q6)).trans hfs
  refine st_7 C hK.1 hin2 hA hR3 hR4 hl hfs hF (fun q7 H locs hF => ?_)
  have hfs := (List.length_set (as := _) (i := 26) (a := Value.ref q7)).trans hfs
  refine st_8 C hK.1 hin2 hA hR3 hR4 hl hfs hF (fun q8 H locs hF => ?_)
  have hfs := (List.length_set (as := _) (i := 27) (a := Value.ref q8)).trans hfs
  refine st_9 C hK.1 hin2 hA hR3 hR4 hl hfs hF (fun q9 H locs hF => ?_)
  have hfs := (List.length_set (as := _) (i := 28) (a := Value.ref q9)).trans hfs
  refine st_10 C hK.1 hin2 hA hR3 hR4 hl hfs hF (fun q10 H locs hF => ?_)
  have hfs := (List.length_set (as := _) (i := 29) (a := Value.ref q10)).trans hfs
  refine st_11 C hK.1 hin2 hA hR3 hR4 hl hfs hF (fun q11 H locs hF => ?_)
  have hfs := (List.length_set (as := _) (i := 30) (a := Value.ref q11)).trans hfs
  refine st_12 C hK.1 hin2 hA hR3 hR4 hl hfs hF (fun q12 H locs hF => ?_)
  have hfs := (List.length_set (as := _) (i := 31) (a := Value.ref q12)).trans hfs
  refine st_13 C hK.1 hin2 hA hR3 hR4 hl hfs hF (fun q13 H locs hF => ?_)
  have hfs := (List.length_set (as := _) (i := 32) (a := Value.ref q13)).trans hfs
  refine st_14 C hK.1 hin2 hA hR3 hR4 hl hfs hF (fun q14 H locs hF => ?_)
  have hfs := (List.length_set (as := _) (i := 33) (a := Value.ref q14)).trans hfs
  refine st_15 C hK.1 hin2 hA hR3 hR4 hl hfs hF (fun q15 H locs hF => ?_)
  have hfs := (List.length_set (as := _) (i := 34) (a := Value.ref q15)).trans hfs
  refine st_16 C hK.1 hin2 hA hR3 hR4 hl hfs hF (fun q16 H locs hF => ?_)
  have hfs := (List.length_set (as := _) (i := 35) (a := Value.ref q16)).trans hfs
  refine st_17 C hK.1 hin2 hA hR3 hR4 hl hfs hF (fun q17 H locs hF => ?_)
  have hfs := (List.length_set (as := _) (i := 36) (a := Value.ref q17)).trans hfs
  refine st_18 C hK.1 hin2 hA hR3 hR4 hl hfs hF (fun q18 H locs hF => ?_)
  have hfs := (List.length_set (as := _) (i := 37) (a := Value.ref q18)).trans hfs
  refine st_19 C hK.1 hin2 hA hR3 hR4 hl hfs hF (fun q19 H locs hF => ?_)
  have hfs := (List.length_set (as := _) (i := 38) (a := Value.ref q19)).trans hfs
  refine st_20 C hK.1 hin2 hA hR3 hR4 hl hfs hF (fun q20 H locs hF => ?_)
  have hfs := (List.length_set (as := _) (i := 39) (a := Value.ref q20)).trans hfs
  refine st_21 C hK.1 hin2 hA hR3 hR4 hl hfs hF (fun q21 H locs hF => ?_)
  have hfs := (List.length_set (as := _) (i := 40) (a := Value.ref q21)).trans hfs
  refine st_22 C hK.1 hin2 hA hR3 hR4 hl hfs hF (fun q22 H locs hF => ?_)
  have hfs := (List.length_set (as := _) (i := 41) (a := Value.ref q22)).trans hfs
  refine st_23 C hK.1 hin2 hA hR3 hR4 hl hfs hF (fun q23 H locs hF => ?_)
  have hfs := (List.length_set (as := _) (i := 42) (a := Value.ref q23)).trans hfs
  refine st_24 C hK.1 hin2 hA hR3 hR4 hl hfs hF (fun q24 H locs hF => ?_)
  have hfs := (List.length_set (as := _) (i := 43) (a := Value.ref q24)).trans hfs
  refine st_25 C hK.1 hin2 hA hR3 hR4 hl hfs hF (fun q25 H locs hF => ?_)
  have hfs := (List.length_set (as := _) (i := 50) (a := Value.ref q25)).trans hfs
  refine st_26 C hK.1 hin2 hA hR3 hR4 hl hfs hF (fun q26 H locs hF => ?_)
  have hfs := (List.length_set (as := _) (i := 51) (a := Value.ref q26)).trans hfs
  refine st_27 C hK.1 hin2 hA hR3 hR4 hl hfs hF (fun q27 H locs hF => ?_)
  have hfs := (List.length_set (as := _) (i := 53) (a := Value.ref q27)).trans hfs
  refine st_28 C hK.1 hin2 hA hR3 hR4 hl hfs hF (fun q28 H locs hF => ?_)
  have hfs := (List.length_set (as := _) (i := 54) (a := Value.ref q28)).trans hfs
  refine st_29 C hK.1 hin2 hA hR3 hR4 hl hfs hF (fun q29 H locs hF => ?_)
  have hfs := (List.length_set (as := _) (i := 55) (a := Value.ref q29)).trans hfs
  refine st_30 C hK.1 hin2 hA hR3 hR4 hl hfs hF (fun q30 H locs hF => ?_)
  have hfs := (List.length_set (as := _) (i := 56) (a := Value.ref q30)).trans hfs
  refine st_31 C hK.1 hin2 hA hR3 hR4 hl hfs hF (fun q31 H locs hF => ?_)
  have hfs := (List.length_set (as := _) (i := 57) (a := Value.ref q31)).trans hfs
  refine st_32 C hK.1 hin2 hA hR3 hR4 hl hfs hF (fun q32 H locs hF => ?_)
  have hfs := (List.length_set (as := _) (i := 58) (a := Value.ref q32)).trans hfs
  refine st_33 C hK.1 hin2 hA hR3 hR4 hl hfs hF (fun q33 H locs hF => ?_)
  have hfs := (List.length_set (as := _) (i := 59) (a := Value.ref q33)).trans hfs
  refine st_34 C hK.1 hin2 hA hR3 hR4 hl hfs hF (fun q34 H locs hF => ?_)
  have hfs := (List.length_set (as := _) (i := 60) (a := Value.ref q34)).trans hfs
  refine st_35 C hK.1 hin2 hA hR3 hR4 hl hfs hF (fun q35 H locs hF => ?_)
  have hfs := (List.length_set (as := _) (i := 61) (a := Value.ref q35)).trans hfs
  refine st_36 C hK.1 hin2 hA hR3 hR4 hl hfs hF (fun q36 H locs hF => ?_)
  have hfs := (List.length_set (as := _) (i := 62) (a := Value.ref q36)).trans hfs
  refine st_37 C hK.1 hin2 hA hR3 hR4 hl hfs hF (fun q37 H locs hF => ?_)
  have hfs := (List.length_set (as := _) (i := 63) (a := Value.ref q37)).trans hfs
  refine st_38 C hK.1 hin2 hA hR3 hR4 hl hfs hF (fun q38 H locs hF => ?_)
  have hfs := (List.length_set (as := _) (i := 74) (a := Value.ref q38)).trans hfs
  refine st_39 C hK.1 hin2 hA hR3 hR4 hl hfs hF (fun H locs hF => ?_)
  have hfs := (List.length_set (as := _) (i := 76) (a := Value.int (-1))).trans hfs
  refine st_40 C hK.1 hin2 hA hR3 hR4 hl hfs hF (fun q39 H locs hF => ?_)
  have hfs := (List.length_set (as := _) (i := 77) (a := Value.ref q39)).trans hfs
  refine st_41 C hK.1 hin2 hA hR3 hR4 hl hfs hF (fun q40 H locs hF => ?_)
  have hfs := (List.length_set (as := _) (i := 78) (a := Value.ref q40)).trans hfs
  refine st_42 C hK.1 hin2 hA hR3 hR4 hl hfs hF (fun q41 H locs hF => ?_)
  have hfs := (List.length_set (as := _) (i := 79) (a := Value.ref q41)).trans hfs
  refine st_43 C hK.1 hin2 hA hR3 hR4 hl hfs hF (fun q42 H locs hF => ?_)
  have hfs := (List.length_set (as := _) (i := 81) (a := Value.ref q42)).trans hfs
  refine st_44 C hK.1 hin2 hA hR3 hR4 hl hfs hF (fun q43 H locs hF => ?_)
  have hfs := (List.length_set (as := _) (i := 83) (a := Value.ref q43)).trans hfs
  refine st_45 C hK.1 hin2 hA hR3 hR4 hl hfs hF (fun q44 H locs hF => ?_)
  have hfs := (List.length_set (as := _) (i := 84) (a := Value.ref q44)).trans hfs
  subst efs
  have hF : FW E A s.heap (wModel E (cA0 h0 (mkA [q1, q2, q3, q4, q5, q6, q7, q8, q9, q10, q11, q12, q13, q14, q15, q16, q17, q18, q19, q20, q21, q22, q23, q24, q25, q26, q27, q28, q29, q30, q31, q32, q33, q34, q35, q36, q37, q38, q39, q40, q41, q42, q43, q44])) m00) _ _ := hF
  refine lv_aload_n C.1 C.2.1 dX12_init_993 rfl (lv_at hl 0 rfl) ?_
  refine nx_self C hK.1 hA0 hN (tX12_plain l E (cA0 h0 (mkA [q1, q2, q3, q4, q5, q6, q7, q8, q9, q10, q11, q12, q13, q14, q15, q16, q17, q18, q19, q20, q21, q22, q23, q24, q25, q26, q27, q28, q29, q30, q31, q32, q33, q34, q35, q36, q37, q38, q39, q40, q41, q42, q43, q44])) m00 m01 (plainM_eq m00)) lk_X12_151 ⟨by omega, by omega⟩ ⟨by omega, by omega⟩ hF rfl (rc_X12 hK.1 hF.1) rfl hl.1 rfl (Nat.le_of_ble_eq_true rfl) dX12_init_994 (fun H locs hF => ?_)
  refine lv_aload_n C.1 C.2.1 dX12_init_997 rfl (lv_at hl 0 rfl) ?_
  refine nx_self C hK.1 hA0 hN (tX12_keepText l E (cA0 h0 (mkA [q1, q2, q3, q4, q5, q6, q7, q8, q9, q10, q11, q12, q13, q14, q15, q16, q17, q18, q19, q20, q21, q22, q23, q24, q25, q26, q27, q28, q29, q30, q31, q32, q33, q34, q35, q36, q37, q38, q39, q40, q41, q42, q43, q44])) m01 m02 m02_eq) lk_X12_154 ⟨by omega, by omega⟩ ⟨by omega, by omega⟩ hF rfl (rc_X12 hK.1 hF.1) rfl hl.1 rfl (Nat.le_of_ble_eq_true rfl) dX12_init_998 (fun H locs hF => ?_)
  exact kk _ ls _ _ (mkA [q1, q2, q3, q4, q5, q6, q7, q8, q9, q10, q11, q12, q13, q14, q15, q16, q17, q18, q19, q20, q21, q22, q23, q24, q25, q26, q27, q28, q29, q30, q31, q32, q33, q34, q35, q36, q37, q38, q39, q40, q41, q42, q43, q44]) hF dX12_init_1001
theorem scr0_FG : FG scr0 := by
  refine ⟨⟨rfl, rfl, rfl, rfl⟩, ⟨rfl, rfl, rfl, rfl⟩, fun w h1 h2 => ?_, rfl, rfl, rfl, rfl, rfl, rfl⟩
  rcases (show w = 5 ∨ w = 6 ∨ w = 7 by omega) with rfl | rfl | rfl <;> exact ⟨rfl, rfl⟩
theorem m01_WM : WM m01 := fun i hi => by
  have e : gA m01 3 i = gA m00 3 i := (ph_PF m00).2.2 3 i (by unfold pA; omega)
  rw [e]
  show rw3 106 i = _
  unfold rw3
  rw [if_pos hi]
theorem hall0_bg : bgR hall0 0 := by
  obtain ⟨r, e, h⟩ := begin_of z0 0
  rw [hall0_eq] at e
  rw [Option.some.inj e]; exact h
/-- the relation at the start -/
theorem CX0 : CX mn0 hall0 hall0 (fX9_clear z0) (fX3_clear z0) z0 z0 tok0 scr0 scr0 m02 := by
  obtain ⟨r, e, M1, k, er⟩ := keepText_of m01_36
  have e2 : m02 = bnM M1 := by
    rw [← er]; exact Option.some.inj (m02_eq.symm.trans e)
  rw [e2]
  have hr : RD scr0 m01 0 0 0 0 0 := rd_0 (M := m00) scr0_FG fI.rf
  exact ⟨0, 0, 0, 0, CR.right (mn := sI z0 3 (-1)) hr k scr0_FG.1 hall0_bg ⟨rfl, rfl⟩ ⟨rfl, rfl⟩ tok0_WO m01_WM⟩
