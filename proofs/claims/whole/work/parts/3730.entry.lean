/-! what holds at the law's entry -/
theorem dfX12 : ∀ j, j < 86 → defaultValue (tyX12 j) = vp_V [.null, .int 0, .int 0, .null, .int 0, .int 0, .int 0, .int 0, .int 0, .int 0, .int 0, .int 0, .int 0, .int 0, .int 0, .int 0, .int 0, .int 0, .int 0, .int 0, .int 0, .int 0, .null, .null, .null, .null, .null, .null, .null, .null, .null, .null, .null, .null, .null, .null, .null, .null, .null, .null, .null, .null, .null, .null, .int 0, .int 0, .int 0, .int 0, .int 0, .int 0, .null, .null, .int 0, .null, .null, .null, .null, .null, .null, .null, .null, .null, .null, .null, .long 0, .int 0, .int 0, .int 0, .int 0, .int 0, .int 0, .int 0, .int 0, .int 0, .null, .int 0, .int 0, .null, .null, .null, .int 0, .null, .int 0, .null, .null, .long 0] j := by decide +kernel
theorem en_arr {args : Array Value} {s : State} {ty : FieldType} (h : (Cond.arrayClass ty).before args s = true) : ∃ cA : ClassId, ArrOfT s cA ty ∧ s.vm.findClass ("[" ++ ty.toString) = some cA := by
  obtain ⟨c, k, comp, h1, h2, h3⟩ := Cond.arrayClass_spec h
  exact ⟨c, fun n z => ⟨fun k h => (by cases h), k, h2, comp, h3⟩, h1⟩
theorem en_arrO {args : Array Value} {s : State} {C : String} (h : (Cond.arrayOver (.object C)).before args s = true) : ∃ cA : ClassId, ArrOfT s cA (.object C) ∧ va_RA s cA (.object C) := by
  obtain ⟨comp, c, k, h1, h2, h3, h4, h5⟩ := Cond.arrayOver_spec h
  exact ⟨c, fun n z => ⟨fun k h => (by cases h), k, h3, comp, h4⟩, k, comp, h3, h4, h1, h5⟩
theorem en_str {args : Array Value} {s : State} {t : Term} (h : (Cond.exactly t "java/lang/String").before args s = true) : ∃ a : Nat, t.eval args s none [] s = some (.ref a) := by
  obtain ⟨a, c, cA, kA, q1, -⟩ := Cond.exactly_spec (args := args) (first := s) (o := none) (s := s) (idx := []) (t := t) (cls := "java/lang/String") h
  exact ⟨a, q1⟩
def en_rk : Term := .static "ClapMill$Phrase" "RANKS" "[I"
def en_F : List Cond := flatC (Cond.and given_1 narrow_1)
theorem en_rk0 : Cond.arrayOf en_rk .int ∈ en_F := by decide +kernel
theorem en_rk1 : Cond.eq (.length en_rk) (.int (Int32.ofNat 16)) ∈ en_F := by decide +kernel
theorem en_rk2 : ∀ j, j < 16 → Cond.eq (.elem en_rk (.int (Int32.ofNat j))) (.int (rkv j)) ∈ en_F := by decide +kernel
def en_wt : Nat → Term := fun _ => .string RX10 35
theorem en_w0 : Cond.exactly (en_wt 0) "java/lang/String" ∈ en_F := by decide +kernel
theorem en_w1 : Cond.eq (.field (en_wt 0) "java/lang/String" "coder" "B") (.int 0) ∈ en_F := by decide +kernel
theorem en_w2 : Cond.arrayOf (.field (en_wt 0) "java/lang/String" "value" "[B") .byte ∈ en_F := by decide +kernel
theorem en_w3 : Cond.eq (.length (.field (en_wt 0) "java/lang/String" "value" "[B")) (.int (Int32.ofNat (lenW.getD 0 0))) ∈ en_F := by decide +kernel
theorem en_w4 : ∀ j, j < 120 → Cond.eq (.elem (.field (en_wt 0) "java/lang/String" "value" "[B") (.int (Int32.ofNat j))) (.int ((bytW.getD 0 []).getD j 0)) ∈ en_F := by decide +kernel
theorem en_s1 : Cond.exactly (.string RX11 149) "java/lang/String" ∈ en_F := by decide +kernel
theorem en_s2 : Cond.exactly (.string RX11 171) "java/lang/String" ∈ en_F := by decide +kernel
theorem en_c : Cond.eq (.static RJ0 "COMPACT_STRINGS" "Z") (.int 1) ∈ en_F := by decide +kernel
theorem en_f : Cond.isRef (.static RJ3 "SIOOBE_FORMATTER" "Ljava/util/function/BiFunction;") ∈ en_F := by decide +kernel
theorem en_u : Cond.isRef (.static Bundle.tN "UNASSIGNED_STACK" Bundle.steD) ∈ en_F := by decide +kernel
theorem en_n : Cond.isRef (.static Bundle.tN "SUPPRESSED_SENTINEL" Bundle.listD) ∈ en_F := by decide +kernel
theorem en_nc : Cond.not (.castable "java/util/NoSuchElementException" "java/lang/IndexOutOfBoundsException") ∈ en_F := by decide +kernel
theorem caB_in : ∀ w ∈ caB, w ∈ tables_1 ∨ w ∈ k2_sels lw_privs := by decide +kernel
theorem isN_on {w : Cond} (h : isN w = true) : w.onTables = true := by cases w <;> first | rfl | exact (Bool.false_ne_true (show false = true from h)).elim
theorem isCa_on {w : Cond} (h : isCa w = true) : w.onTables = true := by cases w <;> first | rfl | exact (Bool.false_ne_true (show false = true from h)).elim
set_option maxHeartbeats 1000000 in
theorem en_TQ {s : State} {args : Array Value} (hts : ∀ w ∈ lw_tbl, w.before args s = true) (hgv : (Cond.and given_1 narrow_1).before args s = true) : ∃ (E : Ev) (kA vA : Nat → Nat), E.2.2.1 = s.heap.size ∧ TQ E kA vA s := by
  have hg : ∀ w ∈ gtbl, w.before args s = true := fun w h => hts w (List.mem_filter.mp h).1
  have hT : ∀ w ∈ tables_1, w.before args s = true := fun w h => hts w (List.mem_append_right _ h)
  have hs : ∀ w ∈ en_F, w.before args s = true := flat_of_before _ hgv
  have hA : ∀ a : Nat, a < s.heap.size → ¬ (fun q : Nat => s.heap.size ≤ q) a := fun a h => Nat.not_le.mpr h
  obtain ⟨c0, i0, hk0⟩ := u_known (C := RX0) (T := TX0) (N := 5) (n := 5) hg hinX0 (hT (.instantiable RX0 5) (List.mem_of_getElem? (i := 77) (by decide +kernel)))
  obtain ⟨c1, i1, hk1⟩ := u_known (C := RX1) (T := TX1) (N := 13) (n := 13) hg hinX1 (hT (.instantiable RX1 13) (List.mem_of_getElem? (i := 337) (by decide +kernel)))
  obtain ⟨c2, i2, hk2⟩ := u_known (C := RX2) (T := TX2) (N := 9) (n := 9) hg hinX2 (hT (.instantiable RX2 9) (List.mem_of_getElem? (i := 296) (by decide +kernel)))
  obtain ⟨c3, i3, hk3⟩ := u_known (C := RX3) (T := TX3) (N := 7) (n := 7) hg hinX3 (hT (.instantiable RX3 7) (List.mem_of_getElem? (i := 432) (by decide +kernel)))
  obtain ⟨c4, i4, hk4⟩ := u_known (C := RX4) (T := TX4) (N := 4) (n := 4) hg hinX4 (hT (.instantiable RX4 4) (List.mem_of_getElem? (i := 463) (by decide +kernel)))
  obtain ⟨c5, i5, hk5⟩ := u_known (C := RX5) (T := TX5) (N := 7) (n := 7) hg hinX5 (hT (.instantiable RX5 7) (List.mem_of_getElem? (i := 249) (by decide +kernel)))
  obtain ⟨c6, i6, hk6⟩ := u_known (C := RX6) (T := TX6) (N := 5) (n := 5) hg hinX6 (hT (.instantiable RX6 5) (List.mem_of_getElem? (i := 160) (by decide +kernel)))
  obtain ⟨c7, i7, hk7⟩ := u_known (C := RX7) (T := TX7) (N := 6) (n := 6) hg hinX7 (hT (.instantiable RX7 6) (List.mem_of_getElem? (i := 41) (by decide +kernel)))
  obtain ⟨c8, i8, hk8⟩ := u_known (C := RX8) (T := TX8) (N := 11) (n := 11) hg hinX8 (hT (.instantiable RX8 11) (List.mem_of_getElem? (i := 35) (by decide +kernel)))
  obtain ⟨c9, i9, hk9⟩ := u_known (C := RX9) (T := TX9) (N := 4) (n := 4) hg hinX9 (hT (.instantiable RX9 4) (List.mem_of_getElem? (i := 412) (by decide +kernel)))
  obtain ⟨c10, i10, hk10⟩ := u_known (C := RX10) (T := TX10) (N := 7) (n := 7) hg hinX10 (hT (.instantiable RX10 7) (List.mem_of_getElem? (i := 166) (by decide +kernel)))
  obtain ⟨c11, i11, hk11⟩ := u_known (C := RX11) (T := TX11) (N := 18) (n := 18) hg hinX11 (hT (.instantiable RX11 18) (List.mem_of_getElem? (i := 27) (by decide +kernel)))
  obtain ⟨c12, i12, hk12⟩ := u_known (C := RX12) (T := TX12) (N := 86) (n := 86) hg hinX12 (hT (.instantiable RX12 86) (List.mem_of_getElem? (i := 1262) (by decide +kernel)))
  have hKc : ∀ (k : Nat) (q : vw_C), vwCl[k]? = some q → u_Kn s q.1 q.2.1 q.2.2 (([c0, c1, c2, c3, c4, c5, c6, c7, c8, c9, c10, c11, c12] : List ClassId).getD k c0) (([i0, i1, i2, i3, i4, i5, i6, i7, i8, i9, i10, i11, i12] : List (Nat → Nat)).getD k i0) := by
    intro k q hq
    match k, hq with
    | 0, hq => cases hq; exact hk0
    | 1, hq => cases hq; exact hk1
    | 2, hq => cases hq; exact hk2
    | 3, hq => cases hq; exact hk3
    | 4, hq => cases hq; exact hk4
    | 5, hq => cases hq; exact hk5
    | 6, hq => cases hq; exact hk6
    | 7, hq => cases hq; exact hk7
    | 8, hq => cases hq; exact hk8
    | 9, hq => cases hq; exact hk9
    | 10, hq => cases hq; exact hk10
    | 11, hq => cases hq; exact hk11
    | 12, hq => cases hq; exact hk12
    | k + 13, hq => exact absurd hq (by simp [vwCl])
  obtain ⟨y0, ya0, yb0⟩ := en_arr (hT (.arrayClass .int) (List.mem_of_getElem? (i := 74) (by decide +kernel)))
  obtain ⟨y1, ya1, yb1⟩ := en_arr (hT (.arrayClass .byte) (List.mem_of_getElem? (i := 73) (by decide +kernel)))
  obtain ⟨y2, ya2, yb2⟩ := en_arr (hT (.arrayClass .boolean) (List.mem_of_getElem? (i := 461) (by decide +kernel)))
  obtain ⟨y3, ya3, yb3⟩ := en_arr (hT (.arrayClass .long) (List.mem_of_getElem? (i := 100) (by decide +kernel)))
  obtain ⟨y4, ya4, yb4⟩ := en_arrO (hT (.arrayOver (.object "ClapMill$Formula")) (List.mem_of_getElem? (i := 76) (by decide +kernel)))
  obtain ⟨t, ht, hT0⟩ := va_Tof (tm := en_rk) (ty := .int) (N := 16) (f := fun j => .int (rkv j)) (by decide) (hs _ en_rk0) (va_eqt (hs _ en_rk1)) (fun j hj => va_eqt (hs _ (en_rk2 j hj))) hA
  obtain ⟨adK, adV, hvS, hvE⟩ := vk_Sof (args := args) (s := s) (N := 1) (tm := en_wt) (len := lenW) (byt := bytW) (A := fun q : Nat => s.heap.size ≤ q) (fun i hi => by rw [show i = 0 by omega]; decide) (fun i hi => by rw [show i = 0 by omega]; exact hs _ en_w0) (fun i hi => by rw [show i = 0 by omega]; exact hs _ en_w1) (fun i hi => by rw [show i = 0 by omega]; exact hs _ en_w2) (fun i hi => by rw [show i = 0 by omega]; exact hs _ en_w3) (fun i hi => by rw [show i = 0 by omega]; exact fun j hj => hs _ (en_w4 j hj)) (fun i j hi hj h => absurd (show i = j by omega) h) hA
  obtain ⟨a1, ha1⟩ := en_str (hs _ en_s1)
  obtain ⟨a2, ha2⟩ := en_str (hs _ en_s2)
  refine ⟨((fun k => ([c0, c1, c2, c3, c4, c5, c6, c7, c8, c9, c10, c11, c12] : List ClassId).getD k c0, fun k => ([i0, i1, i2, i3, i4, i5, i6, i7, i8, i9, i10, i11, i12] : List (Nat → Nat)).getD k i0), fun k => ([y0, y1, y2, y3, y4] : List ClassId).getD k y0, s.heap.size, t), fun k => ([adK 0, a1, a2] : List Nat).getD k 0, adV, rfl, ⟨⟨⟨hKc, ?_⟩, ⟨va_Zof (hT (.laysStatic "ClapMill$Phrase" "RANKS" "[I") (List.mem_of_getElem? (i := 691) (by decide +kernel))) (hT (.initialized "ClapMill$Phrase") (List.mem_of_getElem? (i := 11) (by decide +kernel))) ht hA, hT0⟩, fun w hw => va_Nw.of (isN_on (List.mem_filter.mp hw).2) (hT w (List.mem_filter.mp hw).1)⟩, va_AO.of (hT (.arrayOver (.object "ClapMill$Formula")) (List.mem_of_getElem? (i := 76) (by decide +kernel))), ⟨vk_R.of (hT (.stringRef RX10 35 txW) (List.mem_of_getElem? (i := 171) (by decide +kernel))) (hvE 0 (by decide)), vk_R.of (hT (.stringRef RX11 149 "no such guest") (List.mem_of_getElem? (i := 1219) (by decide +kernel))) ha1, vk_R.of (hT (.stringRef RX11 171 "no such what") (List.mem_of_getElem? (i := 1254) (by decide +kernel))) ha2, ⟨fun i hi => ?_, fun i j hi hj _ => by omega⟩, va_Zof (hT (.laysStatic RJ0 "COMPACT_STRINGS" "Z") (List.mem_of_getElem? (i := 181) (by decide +kernel))) (hT (.initialized RJ0) (List.mem_of_getElem? (i := 7) (by decide +kernel))) (va_eqt (hs _ en_c)) hA, va_Zqof (hT (.laysStatic RJ3 "SIOOBE_FORMATTER" "Ljava/util/function/BiFunction;") (List.mem_of_getElem? (i := 197) (by decide +kernel))) (hT (.initialized RJ3) (List.mem_of_getElem? (i := 9) (by decide +kernel))) (hs _ en_f) hA⟩⟩, fun w hw => va_Nw.of (isCa_on (List.all_eq_true.mp caB_c w hw)) ((caB_in w hw).elim (hT w) (fun h => hts w (List.mem_append_left _ h))), vx_Zqof (hT (.laysStatic Bundle.tN "UNASSIGNED_STACK" Bundle.steD) (List.mem_of_getElem? (i := 1206) (by decide +kernel))) (hT (.initialized Bundle.tN) (List.mem_of_getElem? (i := 19) (by decide +kernel))) (hs _ en_u) hA, vx_Zqof (hT (.laysStatic Bundle.tN "SUPPRESSED_SENTINEL" Bundle.listD) (List.mem_of_getElem? (i := 1208) (by decide +kernel))) (hT (.initialized Bundle.tN) (List.mem_of_getElem? (i := 19) (by decide +kernel))) (hs _ en_n) hA, va_Nc.of (hs _ en_nc)⟩
  · intro k q hq
    match k, hq with
    | 0, hq => cases hq; exact ⟨ya0, yb0⟩
    | 1, hq => cases hq; exact ⟨ya1, yb1⟩
    | 2, hq => cases hq; exact ⟨ya2, yb2⟩
    | 3, hq => cases hq; exact ⟨ya3, yb3⟩
    | 4, hq => cases hq; exact ⟨ya4, yb4⟩
    | k + 5, hq => exact absurd hq (by simp [tyE])
  · rw [show i = 0 by omega]
    exact hvS.1 0 (by decide)
