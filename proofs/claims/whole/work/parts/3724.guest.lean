theorem mw_381 : Cond.fieldLinkNest RX11 166 "ClapMill$Hall" "clapped" "[I" "ClapMill" ∈ ntbl := mn (List.mem_of_getElem? (i := 381) (by decide +kernel)) (by decide +kernel)
theorem mw_1179 : Cond.classLink RX11 147 "java/lang/IndexOutOfBoundsException" ∈ gtbl := mg (List.mem_of_getElem? (i := 1179) (by decide +kernel)) (by decide +kernel)
theorem mw_22 : Cond.initialized "java/lang/IndexOutOfBoundsException" ∈ gtbl := mg (List.mem_of_getElem? (i := 22) (by decide +kernel)) (by decide +kernel)
theorem dX11_guest_0 : decode cX11_guest 0 = .ok (.aload_n 0, 1) := by decide +kernel
theorem dX11_guest_1 : decode cX11_guest 1 = .ok (.getfield 30, 3) := by decide +kernel
theorem dX11_guest_4 : decode cX11_guest 4 = .ok (.getfield 137, 3) := by decide +kernel
theorem dX11_guest_7 : decode cX11_guest 7 = .ok (.iload_n 1, 1) := by decide +kernel
theorem dX11_guest_8 : decode cX11_guest 8 = .ok (.invokevirtual 143, 3) := by decide +kernel
theorem dX11_guest_11 : decode cX11_guest 11 = .ok (.ifCond .ne 13, 3) := by decide +kernel
theorem dX11_guest_24 : decode cX11_guest 24 = .ok (.iload_n 2, 1) := by decide +kernel
theorem dX11_guest_25 : decode cX11_guest 25 = .ok (.tableswitch 82 0 4 #[35, 44, 53, 62, 72], 35) := by decide +kernel
theorem dX11_guest_60 : decode cX11_guest 60 = .ok (.aload_n 0, 1) := by decide +kernel
theorem dX11_guest_61 : decode cX11_guest 61 = .ok (.getfield 30, 3) := by decide +kernel
theorem dX11_guest_64 : decode cX11_guest 64 = .ok (.iload_n 1, 1) := by decide +kernel
theorem dX11_guest_65 : decode cX11_guest 65 = .ok (.invokevirtual 154, 3) := by decide +kernel
theorem dX11_guest_68 : decode cX11_guest 68 = .ok (.ireturn, 1) := by decide +kernel
theorem dX11_guest_69 : decode cX11_guest 69 = .ok (.aload_n 0, 1) := by decide +kernel
theorem dX11_guest_70 : decode cX11_guest 70 = .ok (.getfield 30, 3) := by decide +kernel
theorem dX11_guest_73 : decode cX11_guest 73 = .ok (.iload_n 1, 1) := by decide +kernel
theorem dX11_guest_74 : decode cX11_guest 74 = .ok (.invokevirtual 157, 3) := by decide +kernel
theorem dX11_guest_77 : decode cX11_guest 77 = .ok (.ireturn, 1) := by decide +kernel
theorem dX11_guest_78 : decode cX11_guest 78 = .ok (.aload_n 0, 1) := by decide +kernel
theorem dX11_guest_79 : decode cX11_guest 79 = .ok (.getfield 56, 3) := by decide +kernel
theorem dX11_guest_82 : decode cX11_guest 82 = .ok (.iload_n 1, 1) := by decide +kernel
theorem dX11_guest_83 : decode cX11_guest 83 = .ok (.invokevirtual 160, 3) := by decide +kernel
theorem dX11_guest_86 : decode cX11_guest 86 = .ok (.ireturn, 1) := by decide +kernel
theorem dX11_guest_87 : decode cX11_guest 87 = .ok (.aload_n 0, 1) := by decide +kernel
theorem dX11_guest_88 : decode cX11_guest 88 = .ok (.getfield 56, 3) := by decide +kernel
theorem dX11_guest_91 : decode cX11_guest 91 = .ok (.getfield 163, 3) := by decide +kernel
theorem dX11_guest_94 : decode cX11_guest 94 = .ok (.iload_n 1, 1) := by decide +kernel
theorem dX11_guest_95 : decode cX11_guest 95 = .ok (.iaload, 1) := by decide +kernel
theorem dX11_guest_96 : decode cX11_guest 96 = .ok (.ireturn, 1) := by decide +kernel
theorem dX11_guest_97 : decode cX11_guest 97 = .ok (.aload_n 0, 1) := by decide +kernel
theorem dX11_guest_98 : decode cX11_guest 98 = .ok (.getfield 56, 3) := by decide +kernel
theorem dX11_guest_101 : decode cX11_guest 101 = .ok (.getfield 166, 3) := by decide +kernel
theorem dX11_guest_104 : decode cX11_guest 104 = .ok (.iload_n 1, 1) := by decide +kernel
theorem dX11_guest_105 : decode cX11_guest 105 = .ok (.iaload, 1) := by decide +kernel
theorem dX11_guest_106 : decode cX11_guest 106 = .ok (.ireturn, 1) := by decide +kernel
theorem dX11_guest_14 : decode cX11_guest 14 = .ok (.new 147, 3) := by decide +kernel
theorem dX11_guest_17 : decode cX11_guest 17 = .ok (.dup, 1) := by decide +kernel
theorem dX11_guest_18 : decode cX11_guest 18 = .ok (.ldc 149, 2) := by decide +kernel
theorem dX11_guest_20 : decode cX11_guest 20 = .ok (.invokespecial 151, 3) := by decide +kernel
theorem dX11_guest_23 : decode cX11_guest 23 = .ok (.athrow, 1) := by decide +kernel
/-! guests: what throws -/
def isCa : Cond → Bool
  | .castable _ _ => true
  | .declares _ => true
  | _ => false
def exA : List Cond := vx_atS RX11 151 "java/lang/IndexOutOfBoundsException" ["java/lang/RuntimeException", "java/lang/Exception"]
def caB : List Cond := (exA ++ [Cond.castable "java/lang/IndexOutOfBoundsException" "java/lang/IndexOutOfBoundsException", Cond.castable "java/util/NoSuchElementException" "java/util/NoSuchElementException"]).filter (fun w => !goodWord w)
theorem caB_c : caB.all isCa = true := by decide +kernel
theorem exA_in : ∀ w ∈ exA, w ∈ tables_1 ∨ w ∈ k2_sels lw_privs := by decide +kernel
theorem exA_ot : (Cond.classLink RX11 147 "java/lang/IndexOutOfBoundsException" :: Cond.initialized "java/lang/IndexOutOfBoundsException" :: exA).all vx_ot = true := by decide +kernel
def TQ (E : Ev) (kA vA : Nat → Nat) (U : State) : Prop := Ky E kA vA U ∧ (∀ w ∈ caB, va_Nw w U) ∧ vx_Zq Bundle.tN "UNASSIGNED_STACK" Bundle.steD (fun q => E.2.2.1 ≤ q) U U.heap ∧ vx_Zq Bundle.tN "SUPPRESSED_SENTINEL" Bundle.listD (fun q => E.2.2.1 ≤ q) U U.heap ∧ va_Nc "java/util/NoSuchElementException" "java/lang/IndexOutOfBoundsException" U
theorem TQ.moved {E : Ev} {kA vA : Nat → Nat} {s U : State} (hW : s.WarmedH U.vm) (hq : ∀ q : Nat, q < E.2.2.1 → U.heap[q]? = s.heap[q]?) (h : TQ E kA vA s) : TQ E kA vA U := by
  obtain ⟨h1, h2, h3, h4, h5⟩ := h
  refine ⟨h1.moved hW hq, fun w hw => ?_, (vx_Zq.moved hW.alike h3).kept (fun a _ ha => hq a (Nat.not_le.mp ha)), (vx_Zq.moved hW.alike h4).kept (fun a _ ha => hq a (Nat.not_le.mp ha)), va_Nc.moved hW.alike h5⟩
  have hc := List.all_eq_true.mp caB_c w hw
  have hz := h2 w hw
  cases w <;> first | exact (Bool.false_ne_true (show false = true from hc)).elim | exact va_Nw.warmC hW hz | exact va_Nw.warmD hW hz
theorem TQ.blind {E : Ev} {kA vA : Nat → Nat} {U : State} {g : JFrame} {mk : MethodId} {a : Array Value} (h : TQ E kA vA U) : TQ E kA vA (U.calling g mk a) := by
  obtain ⟨h1, h2, h3, h4, h5⟩ := h
  refine ⟨h1.blind, fun w hw => ?_, vx_Zq.moved (u := U) (U := U.calling g mk a) (Vm.Alike.refl U.vm) h3, vx_Zq.moved (u := U) (U := U.calling g mk a) (Vm.Alike.refl U.vm) h4, va_Nc.moved (u := U) (U := U.calling g mk a) (Vm.Alike.refl U.vm) h5⟩
  have hc := List.all_eq_true.mp caB_c w hw
  exact va_Nw.same (by cases w <;> first | exact (Bool.false_ne_true (show false = true from hc)).elim | rfl) (rfl : U.vm = (U.calling g mk a).vm) (h2 w hw)
theorem TQ.words {E : Ev} {kA vA : Nat → Nat} {s : State} {args : Array Value} {L : List Cond} (h : TQ E kA vA s) (hts : ∀ w ∈ gtbl, w.before args s = true) (hin : ∀ w ∈ L, w ∈ tables_1 ∨ w ∈ k2_sels lw_privs) (hB : ∀ w ∈ L, goodWord w = false → w ∈ caB) : ∀ w ∈ L, w.before args s = true := fun w hw => by
  by_cases g : goodWord w = true
  · rcases hin w hw with q | q
    · exact hts w (mg q g)
    · exact hts w (mgs q g)
  · have hm := hB w hw (by cases hg : goodWord w; rfl; exact absurd hg g)
    have hc := List.all_eq_true.mp caB_c w hm
    exact va_Nw.use (by cases w <;> first | exact (Bool.false_ne_true (show false = true from hc)).elim | rfl) (h.2.1 w hm)
theorem exA_B : ∀ w ∈ exA, goodWord w = false → w ∈ caB := fun w hw g => List.mem_filter.mpr ⟨List.mem_append_left _ hw, by rw [g]; rfl⟩
/-- OWED: the throw of the second kind, at 107 (its constructor calls the one above by another entry than the kit's law takes) -/
def ThrB (l : Launch) (E : Ev) (kA vA : Nat → Nat) : Prop := ∀ (p : Program) (e : Env) (R : Room) (s : State) (m : MethodId) (args : Array Value) (below : List Frame) (meth : Method) (c : Code) (ls : Array Slot) (Qc : Array Value → State → Outcome → State → Prop) (XC : String → State → State → Prop), R.frames = 6 → R.locals = 82 → R.cells = 1 → R.slots = 6 → CallFix p m c cX11_guest 3 s args gtbl RX11 → TQ E kA vA s → ls.size = 3 → (∀ x ∈ c.exceptionTable.toList, False) → meth.locks = false → (∀ t : State, s.vm.Alike t.vm → s.heap.size ≤ t.heap.size → (∀ q : Nat, q < s.heap.size → t.heap[q]? = s.heap[q]?) → XC "java/util/NoSuchElementException" s t) → W p l e R s m args below meth c s.heap [] 0 0 (vx_MQ below Qc XC args s 1 6 (fun _ => False)) (F0 m 107 ls [])
def gPc (E : Ev) (kA vA : Nat → Nat) (bs : List va_W) (av : List Value) : Array Value → State → Prop := fun v U => v = av.toArray ∧ PB E bs U.heap ∧ TQ E kA vA U ∧ E.2.2.1 ≤ U.heap.size
def gQc (r : Int32 × Int32) : Array Value → State → Outcome → State → Prop := fun _ st o t => r.1 = 0 ∧ o = .returned (some (.int r.2)) ∧ t.heap = st.heap
def gXC (r : Int32 × Int32) : String → State → State → Prop := fun E st t => ((r.1 = 1 ∧ E = "java/lang/IndexOutOfBoundsException") ∨ (r.1 = 2 ∧ E = "java/util/NoSuchElementException")) ∧ st.heap.size ≤ t.heap.size ∧ ∀ q : Nat, q < st.heap.size → t.heap[q]? = st.heap[q]?
theorem gy_out {y : Int32} (h0 : ¬ y = 0) (h1 : ¬ y = 1) (h2 : ¬ y = 2) (h3 : ¬ y = 3) (h4 : ¬ y = 4) : y.toInt < 0 ∨ 4 < y.toInt := by
  by_cases a : y.toInt < 0
  · exact Or.inl a
  · refine Or.inr (Int.not_le.mp (fun b => ?_))
    have e : y = Int32.ofInt y.toInt := (Int32.ofInt_toInt y).symm
    rcases (show y.toInt = 0 ∨ y.toInt = 1 ∨ y.toInt = 2 ∨ y.toInt = 3 ∨ y.toInt = 4 by omega) with z | z | z | z | z <;> rw [z] at e
    · exact h0 e
    · exact h1 e
    · exact h2 e
    · exact h3 e
    · exact h4 e
set_option maxHeartbeats 4000000 in
set_option maxRecDepth 20000 in
theorem gX11_open (l : Launch) (hlt : l.stackTraces = false) (E : Ev) (kA vA : Nat → Nat) (hTB : ThrB l E kA vA) (am ah : Nat → Nat) (q0 q2 q3 q4 q6 q7 q8 q9 q10 q11 q12 : Nat) (aT : Nat → Nat → Nat) (mn now : St) (T : Nat → St) (x y : Int32) (r : Int32 × Int32) (hr : gC now T x y = some r) : vx_Met l yX11_guest (Cond.code yX11_guest cX11_guest 3 (some .int) :: gtbl) (rmc 6 82 1 6) (gPc E kA vA [wMain E am q0 (aT 0 0) q2 q3 q4 (ah 0) q6 q7 q8 q9 q10 q11 q12 mn, wScript E (aT 0) (aT 1 0) (aT 2 0) (aT 3 0) (aT 4 0) (aT 5 0) (aT 6 0) (aT 7 0) (T 0), wRoll E 6 (aT 1) (T 1), wRoll E 6 (aT 2) (T 2), wRoll E 4 (aT 3) (T 3), wRoll E 14 (aT 4) (T 4), wFormula E (aT 5) (T 5), wFormula E (aT 6) (T 6), wFormula E (aT 7) (T 7), wHall E ah now] [.ref (am 0), .int x, .int y]) (gQc r) (gXC r) 1 6 (fun _ => False) := by
  refine vx_ofW (cc := cX11_guest) (maxL := 3) (ret := some .int) (by decide) rfl ?_
  intro p e s m args below meth c s₁ B hml htab hv
  obtain ⟨rfl, hP, hQ, hN⟩ := hv
  have hts := atoms_spec (ws := Cond.code yX11_guest cX11_guest 3 (some .int) :: gtbl) B.pre
  have ho : s.vm.findClass RX11 = some m.cls := findClass_of_methodNamed B.named
  have hlocks := B.notSynchronized
  have hl := lv_entry [.ref (am 0), .int x, .int y] (n := 3) (Nat.le_of_ble_eq_true rfl)
  rw [lg_entry_eq]
  generalize (lg_sl [.ref (am 0), .int x, .int y] ++ List.replicate (3 - (lg_sl [.ref (am 0), .int x, .int y]).length) Slot.unset).toArray = ls at hl ⊢
  have hl : lv_has ls 3 [(0, .ref (am 0)), (1, .int x), (2, .int y)] := hl
  have C : CallFix p m c cX11_guest 3 s [.ref (am 0), .int x, .int y].toArray gtbl RX11 := ⟨B.exec, B.bytes, hml, ho, fun w h => hts w (List.mem_cons_of_mem _ h)⟩
  have hK := hQ.1.1
  generalize hRR : (headSpec (Cond.code yX11_guest cX11_guest 3 (some .int) :: gtbl) (rmc 6 82 1 6)).room = R
  have hR1 : R.frames = 6 := by rw [← hRR]; rfl
  have hR2 : R.locals = 82 := by rw [← hRR]; rfl
  have hR3 : R.cells = 1 := by rw [← hRR]; rfl
  have hR4 : R.slots = 6 := by rw [← hRR]; rfl
  have ret : ∀ (pc : Nat) (ls : Array Slot) (v : Int32), r = (0, v) → decode cX11_guest pc = .ok (.ireturn, 1) → W p l e R s m [.ref (am 0), .int x, .int y].toArray below meth c s.heap [] 0 0 (vx_MQ below (gQc r) (gXC r) [.ref (am 0), .int x, .int y].toArray s 1 6 (fun _ => False)) (F0 m pc ls [.int v]) := fun pc ls v er hd => by
    refine vx_ret (W.widen (k := 1) (n := 6) (by omega) (by omega) ?_)
    exact W.iret B.exec B.bytes B.returns (fun t ht _ => ⟨by rw [er], by rw [er], ht⟩) (fun q hq => by cases hq) hd hlocks
  unfold gC at hr
  refine lv_aload_n C.1 C.2.1 dX11_guest_0 rfl (lv_at hl 0 rfl) ?_
  refine gf_X11_X11_told C hK (hP 0 _ rfl) dX11_guest_1 ?_
  refine gf_X11_X8_guests C hK (hP 1 _ rfl) dX11_guest_4 ?_
  refine lv_iload_n C.1 C.2.1 dX11_guest_7 rfl (lv_at hl 1 rfl) ?_
  refine cxVP (As := [.int x]) (rest := []) (st1 := [.int (fX7_has 6 (T 2) x)]) C hK (tX7_has l E 6 (aT 2) (T 2) x (fX7_has 6 (T 2) x) rfl) lk_X11_143 ⟨rfl, rfl⟩ ⟨by rw [hR1]; decide, by rw [hR2]; decide⟩ ⟨Nat.zero_le _, Nat.zero_le _⟩ (PB.sub hP [3] rfl) (fun _ _ => rfl) hN (rc_X7 hK (hP 3 _ rfl)) rfl hl.1 rfl rfl (Nat.le_of_ble_eq_true rfl) dX11_guest_8 ?_
  have thr : ∀ (pc : Nat) (nm tx : String) (ik is ic sa : Nat), True → True := fun _ _ _ _ _ _ _ _ => trivial
  refine lv_if_ne (tgt := 24) C.1 C.2.1 dX11_guest_11 (by decide) (fun hh => ?_) (fun hh => ?_)
  · replace hr := (if_neg hh).symm.trans hr
    refine lv_iload_n C.1 C.2.1 dX11_guest_24 rfl (lv_at hl 2 rfl) ?_
    by_cases h0 : y = 0
    · replace hr := (if_pos h0).symm.trans hr
      refine lv_tableIn C.1 C.2.1 dX11_guest_25 (by rw [h0]; decide) (by rw [h0]; decide) (off := 35) (by rw [h0]; decide) (tgt := 60) (by decide) ?_
      refine lv_aload_n C.1 C.2.1 dX11_guest_60 rfl (lv_at hl 0 rfl) ?_
      refine gf_X11_X11_told C hK (hP 0 _ rfl) dX11_guest_61 ?_
      refine lv_iload_n C.1 C.2.1 dX11_guest_64 rfl (lv_at hl 1 rfl) ?_
      obtain ⟨v, ev, hr⟩ := ox_bind hr
      refine cxVP (As := [.int x]) (rest := []) (st1 := [.int v]) C hK (tX8_taste l E aT T x v ev) lk_X11_154 ⟨rfl, rfl⟩ ⟨by rw [hR1]; decide, by rw [hR2]; decide⟩ ⟨Nat.zero_le _, Nat.zero_le _⟩ (PB.sub hP [1, 2, 3, 4, 5, 6, 7, 8] rfl) (fun _ _ => rfl) hN (rc_X8 hK (hP 1 _ rfl)) rfl hl.1 rfl rfl (Nat.le_of_ble_eq_true rfl) dX11_guest_65 ?_
      exact ret _ _ v (Option.some.inj hr).symm dX11_guest_68
    replace hr := (if_neg h0).symm.trans hr
    by_cases h1 : y = 1
    · replace hr := (if_pos h1).symm.trans hr
      refine lv_tableIn C.1 C.2.1 dX11_guest_25 (by rw [h1]; decide) (by rw [h1]; decide) (off := 44) (by rw [h1]; decide) (tgt := 69) (by decide) ?_
      refine lv_aload_n C.1 C.2.1 dX11_guest_69 rfl (lv_at hl 0 rfl) ?_
      refine gf_X11_X11_told C hK (hP 0 _ rfl) dX11_guest_70 ?_
      refine lv_iload_n C.1 C.2.1 dX11_guest_73 rfl (lv_at hl 1 rfl) ?_
      obtain ⟨v, ev, hr⟩ := ox_bind hr
      refine cxVP (As := [.int x]) (rest := []) (st1 := [.int v]) C hK (tX8_hunger l E aT T x v ev) lk_X11_157 ⟨rfl, rfl⟩ ⟨by rw [hR1]; decide, by rw [hR2]; decide⟩ ⟨Nat.zero_le _, Nat.zero_le _⟩ (PB.sub hP [1, 2, 3, 4, 5, 6, 7, 8] rfl) (fun _ _ => rfl) hN (rc_X8 hK (hP 1 _ rfl)) rfl hl.1 rfl rfl (Nat.le_of_ble_eq_true rfl) dX11_guest_74 ?_
      exact ret _ _ v (Option.some.inj hr).symm dX11_guest_77
    replace hr := (if_neg h1).symm.trans hr
    by_cases h2 : y = 2
    · replace hr := (if_pos h2).symm.trans hr
      refine lv_tableIn C.1 C.2.1 dX11_guest_25 (by rw [h2]; decide) (by rw [h2]; decide) (off := 53) (by rw [h2]; decide) (tgt := 78) (by decide) ?_
      refine lv_aload_n C.1 C.2.1 dX11_guest_78 rfl (lv_at hl 0 rfl) ?_
      refine gf_X11_X11_now C hK (hP 0 _ rfl) dX11_guest_79 ?_
      refine lv_iload_n C.1 C.2.1 dX11_guest_82 rfl (lv_at hl 1 rfl) ?_
      obtain ⟨v, ev, hr⟩ := ox_bind hr
      refine cxVP (As := [.int x]) (rest := []) (st1 := [.int v]) C hK (tX1_seatOf l E ah now x v ev) lk_X11_160 ⟨rfl, rfl⟩ ⟨by rw [hR1]; decide, by rw [hR2]; decide⟩ ⟨Nat.zero_le _, Nat.zero_le _⟩ (PB.sub hP [9] rfl) (fun _ _ => rfl) hN (rc_X1 hK (hP 9 _ rfl)) rfl hl.1 rfl rfl (Nat.le_of_ble_eq_true rfl) dX11_guest_83 ?_
      exact ret _ _ v (Option.some.inj hr).symm dX11_guest_86
    replace hr := (if_neg h2).symm.trans hr
    by_cases h3 : y = 3
    · replace hr := (if_pos h3).symm.trans hr
      refine lv_tableIn C.1 C.2.1 dX11_guest_25 (by rw [h3]; decide) (by rw [h3]; decide) (off := 62) (by rw [h3]; decide) (tgt := 87) (by decide) ?_
      refine lv_aload_n C.1 C.2.1 dX11_guest_87 rfl (lv_at hl 0 rfl) ?_
      refine gf_X11_X11_now C hK (hP 0 _ rfl) dX11_guest_88 ?_
      refine bx_getN C hK hinX1 (hP 9 _ rfl) 0 rfl rfl 10 (by decide) mw_378 rfl dX11_guest_91 ?_
      refine lv_iload_n C.1 C.2.1 dX11_guest_94 rfl (lv_at hl 1 rfl) ?_
      obtain ⟨hx, hr⟩ := ox_chk hr
      refine bx_iald C hK (hP 9 _ rfl) 2 rfl hx dX11_guest_95 ?_
      exact ret _ _ _ (Option.some.inj hr).symm dX11_guest_96
    replace hr := (if_neg h3).symm.trans hr
    by_cases h4 : y = 4
    · replace hr := (if_pos h4).symm.trans hr
      refine lv_tableIn C.1 C.2.1 dX11_guest_25 (by rw [h4]; decide) (by rw [h4]; decide) (off := 72) (by rw [h4]; decide) (tgt := 97) (by decide) ?_
      refine lv_aload_n C.1 C.2.1 dX11_guest_97 rfl (lv_at hl 0 rfl) ?_
      refine gf_X11_X11_now C hK (hP 0 _ rfl) dX11_guest_98 ?_
      refine bx_getN C hK hinX1 (hP 9 _ rfl) 0 rfl rfl 11 (by decide) mw_381 rfl dX11_guest_101 ?_
      refine lv_iload_n C.1 C.2.1 dX11_guest_104 rfl (lv_at hl 1 rfl) ?_
      obtain ⟨hx, hr⟩ := ox_chk hr
      refine bx_iald C hK (hP 9 _ rfl) 3 rfl hx dX11_guest_105 ?_
      exact ret _ _ _ (Option.some.inj hr).symm dX11_guest_106
    replace hr := (if_neg h4).symm.trans hr
    refine lv_tableOut C.1 C.2.1 dX11_guest_25 ?_ (tgt := 107) (by decide) ?_
    · exact gy_out h0 h1 h2 h3 h4
    · have er := Option.some.inj hr
      exact hTB p e R s m _ below meth c ls _ _ hR1 hR2 hR3 hR4 C hQ hl.1 htab hlocks (fun t _ h1 h2 => ⟨Or.inr ⟨by rw [← er], rfl⟩, h1, h2⟩)
  · replace hr := (if_pos hh).symm.trans hr
    have er := Option.some.inj hr
    refine vx_throwS (own := RX11) (cls := "java/lang/IndexOutOfBoundsException") (names := ["java/lang/RuntimeException", "java/lang/Exception"]) (text := "no such guest") (sa := kA 1) C.1 C.2.1 hlt ho (by decide +kernel) (by decide +kernel) (C.2.2.2.2 _ mw_1179) (C.2.2.2.2 _ mw_22) hQ.1.2.2.2.1 (hQ.words C.2.2.2.2 exA_in exA_B) (List.all_eq_true.mp exA_ot) hQ.2.2.1 hQ.2.2.2.1 va_S.rf (hl.1.trans hml.symm) dX11_guest_14 dX11_guest_17 dX11_guest_18 dX11_guest_20 dX11_guest_23 (fun z hz => (htab z hz).elim) (by rw [hR1]; decide) (by rw [hR2]; decide) (by omega) (by omega) hlocks (fun t _ h1 h2 => ⟨Or.inl ⟨by rw [← er], rfl⟩, h1, h2⟩) (fun z hz => by cases hz) (by omega) (by omega)
