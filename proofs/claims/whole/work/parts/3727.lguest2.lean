theorem mw_1175 : Cond.methodLink RL 7 yX11_guest ∈ gtbl := mg (List.mem_of_getElem? (i := 1175) (by decide +kernel)) (by decide +kernel)
theorem mw_1176 : Cond.instanceMethod yX11_guest ∈ gtbl := mg (List.mem_of_getElem? (i := 1176) (by decide +kernel)) (by decide +kernel)
theorem ms_X11_guest : Cond.selects RX11 yX11_guest yX11_guest ∈ gtbl := mg (List.mem_of_getElem? (i := 1177) (by decide +kernel)) (by decide +kernel)
theorem mw_1178 : Cond.code yX11_guest cX11_guest 3 (some .int) ∈ gtbl := mg (List.mem_of_getElem? (i := 1178) (by decide +kernel)) (by decide +kernel)
theorem mw_1173 : Cond.classLink RL 13 "java/lang/IndexOutOfBoundsException" ∈ gtbl := mg (List.mem_of_getElem? (i := 1173) (by decide +kernel)) (by decide +kernel)
theorem mw_1174 : Cond.classLink RL 15 "java/util/NoSuchElementException" ∈ gtbl := mg (List.mem_of_getElem? (i := 1174) (by decide +kernel)) (by decide +kernel)
theorem dL_guest_0 : decode cL_guest 0 = .ok (.aload_n 3, 1) := by decide +kernel
theorem dL_guest_1 : decode cL_guest 1 = .ok (.iconst 0, 1) := by decide +kernel
theorem dL_guest_2 : decode cL_guest 2 = .ok (.aload_n 0, 1) := by decide +kernel
theorem dL_guest_3 : decode cL_guest 3 = .ok (.iload_n 1, 1) := by decide +kernel
theorem dL_guest_4 : decode cL_guest 4 = .ok (.iload_n 2, 1) := by decide +kernel
theorem dL_guest_5 : decode cL_guest 5 = .ok (.invokevirtual 7, 3) := by decide +kernel
theorem dL_guest_8 : decode cL_guest 8 = .ok (.i2l, 1) := by decide +kernel
theorem dL_guest_9 : decode cL_guest 9 = .ok (.lastore, 1) := by decide +kernel
theorem dL_guest_10 : decode cL_guest 10 = .ok (.goto 11, 3) := by decide +kernel
theorem dL_guest_21 : decode cL_guest 21 = .ok (.iconst 0, 1) := by decide +kernel
theorem dL_guest_22 : decode cL_guest 22 = .ok (.ireturn, 1) := by decide +kernel
theorem dL_guest_13 : decode cL_guest 13 = .ok (.astore 4, 2) := by decide +kernel
theorem dL_guest_15 : decode cL_guest 15 = .ok (.iconst 1, 1) := by decide +kernel
theorem dL_guest_16 : decode cL_guest 16 = .ok (.ireturn, 1) := by decide +kernel
theorem dL_guest_17 : decode cL_guest 17 = .ok (.astore 4, 2) := by decide +kernel
theorem dL_guest_19 : decode cL_guest 19 = .ok (.iconst 2, 1) := by decide +kernel
theorem dL_guest_20 : decode cL_guest 20 = .ok (.ireturn, 1) := by decide +kernel
theorem lk_L_7 : LkV RL 7 yX11_guest cX11_guest 3 (some .int) 2 := ⟨mw_1175, mw_1176, ms_X11_guest, mw_1, mw_1178, ⟨by decide, by decide⟩, by decide +kernel⟩
theorem ca_a : Cond.castable "java/lang/IndexOutOfBoundsException" "java/lang/IndexOutOfBoundsException" ∈ caB := by decide +kernel
theorem ca_b : Cond.castable "java/util/NoSuchElementException" "java/util/NoSuchElementException" ∈ caB := by decide +kernel
def lgO (r : Int32 × Int32) (out : St) : St := if r.1 = 0 then sB out 0 0 r.2.toInt64 else out
def LG (l : Launch) (E : Ev) (kA vA : Nat → Nat) (bs bs' : List va_W) (av : List Value) (r : Int32 × Int32) : Prop := Met l yL_guest (Cond.codeWith yL_guest cL_guest 5 (some .int) [(0, 10, 13, 13), (0, 10, 17, 15)] :: gtbl) (rmc 7 104 1 6) (fun v U => v = av.toArray ∧ PB E bs U.heap ∧ TQ E kA vA U ∧ E.2.2.1 ≤ U.heap.size ∧ DA E.2.2.1 (adr bs)) (fun _ st o t => o = .returned (some (.int r.1)) ∧ PB E bs' t.heap ∧ va_F (AA (adr bs)) st t) 1 6 (AA (adr bs))
set_option maxHeartbeats 4000000 in
set_option maxRecDepth 20000 in
theorem gL_open (l : Launch) (hlt : l.stackTraces = false) (E : Ev) (kA vA : Nat → Nat) (hTB : ThrB l E kA vA) (am ah ao : Nat → Nat) (q0 q2 q3 q4 q6 q7 q8 q9 q10 q11 q12 : Nat) (aT : Nat → Nat → Nat) (mn now out : St) (T : Nat → St) (x y : Int32) (r : Int32 × Int32) (hr : gC now T x y = some r) : LG l E kA vA ([wMain E am q0 (aT 0 0) q2 q3 q4 (ah 0) q6 q7 q8 q9 q10 q11 q12 mn, wScript E (aT 0) (aT 1 0) (aT 2 0) (aT 3 0) (aT 4 0) (aT 5 0) (aT 6 0) (aT 7 0) (T 0), wRoll E 6 (aT 1) (T 1), wRoll E 6 (aT 2) (T 2), wRoll E 4 (aT 3) (T 3), wRoll E 14 (aT 4) (T 4), wFormula E (aT 5) (T 5), wFormula E (aT 6) (T 6), wFormula E (aT 7) (T 7), wHall E ah now, wLArr E 1 ao out]) ([wMain E am q0 (aT 0 0) q2 q3 q4 (ah 0) q6 q7 q8 q9 q10 q11 q12 mn, wScript E (aT 0) (aT 1 0) (aT 2 0) (aT 3 0) (aT 4 0) (aT 5 0) (aT 6 0) (aT 7 0) (T 0), wRoll E 6 (aT 1) (T 1), wRoll E 6 (aT 2) (T 2), wRoll E 4 (aT 3) (T 3), wRoll E 14 (aT 4) (T 4), wFormula E (aT 5) (T 5), wFormula E (aT 6) (T 6), wFormula E (aT 7) (T 7), wHall E ah now, wLArr E 1 ao (lgO r out)]) [.ref (am 0), .int x, .int y, .ref (ao 0)] r := by
  refine va_MetW (cc := cL_guest) (maxL := 5) (ret := some .int) (hh := [(0, 10, 13, 13), (0, 10, 17, 15)]) (by decide) rfl ?_
  intro p e s m args below meth c s₁ B hml hv
  obtain ⟨rfl, hP, hQ, hN, hD⟩ := hv
  have hts := atoms_spec (ws := Cond.codeWith yL_guest cL_guest 5 (some .int) [(0, 10, 13, 13), (0, 10, 17, 15)] :: gtbl) B.pre
  have ho : s.vm.findClass RL = some m.cls := findClass_of_methodNamed B.named
  have hlocks := B.notSynchronized
  have htab : c.exceptionTable.toList = [⟨0, 10, 13, 13⟩, ⟨0, 10, 17, 15⟩] := vx_table (x := yL_guest) B (hts _ List.mem_cons_self)
  have hl := lv_entry [.ref (am 0), .int x, .int y, .ref (ao 0)] (n := 5) (Nat.le_of_ble_eq_true rfl)
  rw [lg_entry_eq]
  generalize (lg_sl [.ref (am 0), .int x, .int y, .ref (ao 0)] ++ List.replicate (5 - (lg_sl [.ref (am 0), .int x, .int y, .ref (ao 0)]).length) Slot.unset).toArray = ls at hl ⊢
  have hl : lv_has ls 5 [(0, .ref (am 0)), (1, .int x), (2, .int y), (3, .ref (ao 0))] := hl
  have C : CallFix p m c cL_guest 5 s [.ref (am 0), .int x, .int y, .ref (ao 0)].toArray gtbl RL := ⟨B.exec, B.bytes, hml, ho, fun w h => hts w (List.mem_cons_of_mem _ h)⟩
  have hK := hQ.1.1
  generalize hRR : (headSpec (Cond.codeWith yL_guest cL_guest 5 (some .int) [(0, 10, 13, 13), (0, 10, 17, 15)] :: gtbl) (rmc 7 104 1 6)).room = R
  have hR1 : R.frames = 7 := by rw [← hRR]; rfl
  have hR2 : R.locals = 104 := by rw [← hRR]; rfl
  have hR3 : R.cells = 1 := by rw [← hRR]; rfl
  have hR4 : R.slots = 6 := by rw [← hRR]; rfl
  have hW0 : WB E (adr ([wMain E am q0 (aT 0 0) q2 q3 q4 (ah 0) q6 q7 q8 q9 q10 q11 q12 mn, wScript E (aT 0) (aT 1 0) (aT 2 0) (aT 3 0) (aT 4 0) (aT 5 0) (aT 6 0) (aT 7 0) (T 0), wRoll E 6 (aT 1) (T 1), wRoll E 6 (aT 2) (T 2), wRoll E 4 (aT 3) (T 3), wRoll E 14 (aT 4) (T 4), wFormula E (aT 5) (T 5), wFormula E (aT 6) (T 6), wFormula E (aT 7) (T 7), wHall E ah now, wLArr E 1 ao out])) s.heap ([wMain E am q0 (aT 0 0) q2 q3 q4 (ah 0) q6 q7 q8 q9 q10 q11 q12 mn, wScript E (aT 0) (aT 1 0) (aT 2 0) (aT 3 0) (aT 4 0) (aT 5 0) (aT 6 0) (aT 7 0) (T 0), wRoll E 6 (aT 1) (T 1), wRoll E 6 (aT 2) (T 2), wRoll E 4 (aT 3) (T 3), wRoll E 14 (aT 4) (T 4), wFormula E (aT 5) (T 5), wFormula E (aT 6) (T 6), wFormula E (aT 7) (T 7), wHall E ah now, wLArr E 1 ao out]) s.heap [] := ⟨hP, rfl, va_S.rf⟩
  refine lv_aload_n C.1 C.2.1 dL_guest_0 rfl (lv_at hl 3 rfl) ?_
  refine lv_iconst (v := 0) C.1 C.2.1 dL_guest_1 (by decide) ?_
  refine lv_aload_n C.1 C.2.1 dL_guest_2 rfl (lv_at hl 0 rfl) ?_
  refine lv_iload_n C.1 C.2.1 dL_guest_3 rfl (lv_at hl 1 rfl) ?_
  refine lv_iload_n C.1 C.2.1 dL_guest_4 rfl (lv_at hl 2 rfl) ?_
  obtain ⟨k1, k2, k3, k4, k5, k6, k7⟩ := lk_L_7
  have hrun := vx_runV (C := RX11) (b := am 0) (As := [.int x, .int y]) (rest := [.int 0, .ref (ao 0)]) (H := s.heap) (locs := []) (cells := 0) (slots := 0) (R := R) (e := e) (below := below) (meth := meth) (g := F0 m 5 ls [.int y, .int x, .ref (am 0), .int 0, .ref (ao 0)]) C (gX11_open l hlt E kA vA hTB am ah q0 q2 q3 q4 q6 q7 q8 q9 q10 q11 q12 aT mn now T x y r hr) ⟨callB_of 2 C.2.2.2.2 (goodIn_g (y := yX11_guest) (cc := cX11_guest) (n := 3) (ret := some .int) k5) rfl rfl rfl (C.2.2.2.2 _ k4) (C.2.2.2.2 _ k1) ⟨k6.1, k6.2, k7⟩ ⟨by rw [hR1]; decide, by rw [hR2]; decide⟩, C.2.2.2.2 _ k2, C.2.2.2.2 _ k3⟩ ⟨fun a U g mk q => ⟨q.1, q.2.1, q.2.2.1.blind, q.2.2.2⟩, rc_X11 hK (hP 0 _ rfl), fun U hU hW => ⟨rfl, by rw [hU]; exact PB.sub hP [0, 1, 2, 3, 4, 5, 6, 7, 8, 9] rfl, hQ.moved hW (fun q _ => by rw [hU]), by rw [hU]; exact hN⟩⟩ rfl rfl hl.1 rfl (lv_room (Nat.le_of_ble_eq_true rfl)) dL_guest_5 ⟨by omega, by omega⟩
  have fin : ∀ (pc : Nat) (ls : Array Slot) (H : Heap) (locs : List Loc) (v : Int32), v = r.1 → WB E (adr ([wMain E am q0 (aT 0 0) q2 q3 q4 (ah 0) q6 q7 q8 q9 q10 q11 q12 mn, wScript E (aT 0) (aT 1 0) (aT 2 0) (aT 3 0) (aT 4 0) (aT 5 0) (aT 6 0) (aT 7 0) (T 0), wRoll E 6 (aT 1) (T 1), wRoll E 6 (aT 2) (T 2), wRoll E 4 (aT 3) (T 3), wRoll E 14 (aT 4) (T 4), wFormula E (aT 5) (T 5), wFormula E (aT 6) (T 6), wFormula E (aT 7) (T 7), wHall E ah now, wLArr E 1 ao out])) s.heap ([wMain E am q0 (aT 0 0) q2 q3 q4 (ah 0) q6 q7 q8 q9 q10 q11 q12 mn, wScript E (aT 0) (aT 1 0) (aT 2 0) (aT 3 0) (aT 4 0) (aT 5 0) (aT 6 0) (aT 7 0) (T 0), wRoll E 6 (aT 1) (T 1), wRoll E 6 (aT 2) (T 2), wRoll E 4 (aT 3) (T 3), wRoll E 14 (aT 4) (T 4), wFormula E (aT 5) (T 5), wFormula E (aT 6) (T 6), wFormula E (aT 7) (T 7), wHall E ah now, wLArr E 1 ao (lgO r out)]) H locs → decode cL_guest pc = .ok (.ireturn, 1) → W p l e R s m [.ref (am 0), .int x, .int y, .ref (ao 0)].toArray below meth c H locs 1 6 (MQ below (fun _ st o t => o = .returned (some (.int r.1)) ∧ PB E ([wMain E am q0 (aT 0 0) q2 q3 q4 (ah 0) q6 q7 q8 q9 q10 q11 q12 mn, wScript E (aT 0) (aT 1 0) (aT 2 0) (aT 3 0) (aT 4 0) (aT 5 0) (aT 6 0) (aT 7 0) (T 0), wRoll E 6 (aT 1) (T 1), wRoll E 6 (aT 2) (T 2), wRoll E 4 (aT 3) (T 3), wRoll E 14 (aT 4) (T 4), wFormula E (aT 5) (T 5), wFormula E (aT 6) (T 6), wFormula E (aT 7) (T 7), wHall E ah now, wLArr E 1 ao (lgO r out)]) t.heap ∧ va_F (AA (adr ([wMain E am q0 (aT 0 0) q2 q3 q4 (ah 0) q6 q7 q8 q9 q10 q11 q12 mn, wScript E (aT 0) (aT 1 0) (aT 2 0) (aT 3 0) (aT 4 0) (aT 5 0) (aT 6 0) (aT 7 0) (T 0), wRoll E 6 (aT 1) (T 1), wRoll E 6 (aT 2) (T 2), wRoll E 4 (aT 3) (T 3), wRoll E 14 (aT 4) (T 4), wFormula E (aT 5) (T 5), wFormula E (aT 6) (T 6), wFormula E (aT 7) (T 7), wHall E ah now, wLArr E 1 ao out]))) st t) [.ref (am 0), .int x, .int y, .ref (ao 0)].toArray s 1 6 (AA (adr ([wMain E am q0 (aT 0 0) q2 q3 q4 (ah 0) q6 q7 q8 q9 q10 q11 q12 mn, wScript E (aT 0) (aT 1 0) (aT 2 0) (aT 3 0) (aT 4 0) (aT 5 0) (aT 6 0) (aT 7 0) (T 0), wRoll E 6 (aT 1) (T 1), wRoll E 6 (aT 2) (T 2), wRoll E 4 (aT 3) (T 3), wRoll E 14 (aT 4) (T 4), wFormula E (aT 5) (T 5), wFormula E (aT 6) (T 6), wFormula E (aT 7) (T 7), wHall E ah now, wLArr E 1 ao out])))) (F0 m pc ls [.int v]) := fun pc ls H locs v ev hB hd => by
    subst ev
    exact W.iret B.exec B.bytes B.returns (fun t ht _ => ⟨rfl, by rw [ht]; exact hB.1, hB.2.2.F ht⟩) (fun z hz => hB.2.2.2.2 z hz) hd hlocks
  refine gx_call hrun (fun h0 => ?_) (fun En ce q H1 hE hz hk hce hcv hcl => ?_)
  · refine lv_i2l (v := r.2.toInt64) C.1 C.2.1 dL_guest_8 rfl ?_
    refine bx_last C hK hW0 hD 10 rfl 0 rfl (j := 0) (nI_in (c := 0) (N := 1) (by decide) (by decide)) dL_guest_9 (fun H locs hB => ?_)
    refine lv_goto (tgt := 21) C.1 C.2.1 dL_guest_10 (by decide) ?_
    refine lv_iconst (v := 0) C.1 C.2.1 dL_guest_21 (by decide) ?_
    refine fin _ _ _ _ 0 h0.symm ?_ dL_guest_22
    have e9 : lgO r out = sB out 0 0 r.2.toInt64 := if_pos h0
    rw [e9]
    exact hB
  · have hB1 : WB E (adr ([wMain E am q0 (aT 0 0) q2 q3 q4 (ah 0) q6 q7 q8 q9 q10 q11 q12 mn, wScript E (aT 0) (aT 1 0) (aT 2 0) (aT 3 0) (aT 4 0) (aT 5 0) (aT 6 0) (aT 7 0) (T 0), wRoll E 6 (aT 1) (T 1), wRoll E 6 (aT 2) (T 2), wRoll E 4 (aT 3) (T 3), wRoll E 14 (aT 4) (T 4), wFormula E (aT 5) (T 5), wFormula E (aT 6) (T 6), wFormula E (aT 7) (T 7), wHall E ah now, wLArr E 1 ao out])) s.heap ([wMain E am q0 (aT 0 0) q2 q3 q4 (ah 0) q6 q7 q8 q9 q10 q11 q12 mn, wScript E (aT 0) (aT 1 0) (aT 2 0) (aT 3 0) (aT 4 0) (aT 5 0) (aT 6 0) (aT 7 0) (T 0), wRoll E 6 (aT 1) (T 1), wRoll E 6 (aT 2) (T 2), wRoll E 4 (aT 3) (T 3), wRoll E 14 (aT 4) (T 4), wFormula E (aT 5) (T 5), wFormula E (aT 6) (T 6), wFormula E (aT 7) (T 7), wHall E ah now, wLArr E 1 ao out]) H1 [] := ⟨fun i b hb k z hz9 => (hP i b hb k z hz9).kept (hk _ (hP i b hb k z hz9).lt), rfl, hz, fun q h1 _ => hk q h1, fun z hz => by cases hz⟩
    rcases hE with ⟨h1, rfl⟩ | ⟨h2, rfl⟩
    · refine gx_catch (n1 := "java/lang/IndexOutOfBoundsException") (n2 := "java/util/NoSuchElementException") (pc9 := 13) ho htab rfl rfl (by decide) (by decide) (C.2.2.2.2 _ mw_1173) (C.2.2.2.2 _ mw_1174) hce hcv hcl (Or.inl ⟨hQ.2.1 _ ca_a, rfl⟩) ?_
      refine lv_astore C.1 C.2.1 dL_guest_13 hl (by decide) rfl (fun ls hl => ?_)
      refine lv_iconst (v := 1) C.1 C.2.1 dL_guest_15 (by decide) ?_
      refine fin _ _ _ _ 1 h1.symm ?_ dL_guest_16
      have e9 : lgO r out = out := if_neg (by rw [h1]; decide)
      rw [e9]; exact hB1
    · refine gx_catch (n1 := "java/lang/IndexOutOfBoundsException") (n2 := "java/util/NoSuchElementException") (pc9 := 17) ho htab rfl rfl (by decide) (by decide) (C.2.2.2.2 _ mw_1173) (C.2.2.2.2 _ mw_1174) hce hcv hcl (Or.inr ⟨hQ.2.2.2.2, hQ.2.1 _ ca_b, rfl⟩) ?_
      refine lv_astore C.1 C.2.1 dL_guest_17 hl (by decide) rfl (fun ls hl => ?_)
      refine lv_iconst (v := 2) C.1 C.2.1 dL_guest_19 (by decide) ?_
      refine fin _ _ _ _ 2 h2.symm ?_ dL_guest_20
      have e9 : lgO r out = out := if_neg (by rw [h2]; decide)
      rw [e9]; exact hB1
