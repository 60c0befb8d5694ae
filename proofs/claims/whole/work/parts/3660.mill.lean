theorem mw_164 : Cond.methodLink RX6 3 Lib.objectInit ∈ gtbl := mg (List.mem_of_getElem? (i := 164) (by decide +kernel)) (by decide +kernel)
theorem mw_165 : Cond.classLink RX6 9 RX10 ∈ gtbl := mg (List.mem_of_getElem? (i := 165) (by decide +kernel)) (by decide +kernel)
theorem mw_166 : Cond.instantiable RX10 7 ∈ gtbl := mg (List.mem_of_getElem? (i := 166) (by decide +kernel)) (by decide +kernel)
theorem mw_168 : Cond.instanceMethod yX10_init ∈ gtbl := mg (List.mem_of_getElem? (i := 168) (by decide +kernel)) (by decide +kernel)
theorem mw_169 : Cond.code yX10_init cX10_init 5 none ∈ gtbl := mg (List.mem_of_getElem? (i := 169) (by decide +kernel)) (by decide +kernel)
theorem mw_167 : Cond.methodLink RX6 11 yX10_init ∈ gtbl := mg (List.mem_of_getElem? (i := 167) (by decide +kernel)) (by decide +kernel)
theorem mw_248 : Cond.classLink RX6 29 RX5 ∈ gtbl := mg (List.mem_of_getElem? (i := 248) (by decide +kernel)) (by decide +kernel)
theorem mw_249 : Cond.instantiable RX5 7 ∈ gtbl := mg (List.mem_of_getElem? (i := 249) (by decide +kernel)) (by decide +kernel)
theorem mw_251 : Cond.instanceMethod yX5_init ∈ gtbl := mg (List.mem_of_getElem? (i := 251) (by decide +kernel)) (by decide +kernel)
theorem mw_252 : Cond.code yX5_init cX5_init 2 none ∈ gtbl := mg (List.mem_of_getElem? (i := 252) (by decide +kernel)) (by decide +kernel)
theorem mw_250 : Cond.methodLink RX6 37 yX5_init ∈ gtbl := mg (List.mem_of_getElem? (i := 250) (by decide +kernel)) (by decide +kernel)
theorem mw_31 : Cond.methodLink RX11 7 Lib.objectInit ∈ gtbl := mg (List.mem_of_getElem? (i := 31) (by decide +kernel)) (by decide +kernel)
theorem mw_34 : Cond.classLink RX11 27 RX8 ∈ gtbl := mg (List.mem_of_getElem? (i := 34) (by decide +kernel)) (by decide +kernel)
theorem mw_35 : Cond.instantiable RX8 11 ∈ gtbl := mg (List.mem_of_getElem? (i := 35) (by decide +kernel)) (by decide +kernel)
theorem mw_37 : Cond.instanceMethod yX8_init ∈ gtbl := mg (List.mem_of_getElem? (i := 37) (by decide +kernel)) (by decide +kernel)
theorem mw_38 : Cond.code yX8_init cX8_init 1 none ∈ gtbl := mg (List.mem_of_getElem? (i := 38) (by decide +kernel)) (by decide +kernel)
theorem mw_36 : Cond.methodLinkNest RX11 29 yX8_init RX11 ∈ ntbl := mn (List.mem_of_getElem? (i := 36) (by decide +kernel)) (by decide +kernel)
theorem mw_159 : Cond.classLink RX11 37 RX6 ∈ gtbl := mg (List.mem_of_getElem? (i := 159) (by decide +kernel)) (by decide +kernel)
theorem mw_160 : Cond.instantiable RX6 5 ∈ gtbl := mg (List.mem_of_getElem? (i := 160) (by decide +kernel)) (by decide +kernel)
theorem mw_162 : Cond.instanceMethod yX6_init ∈ gtbl := mg (List.mem_of_getElem? (i := 162) (by decide +kernel)) (by decide +kernel)
theorem mw_163 : Cond.code yX6_init cX6_init 2 none ∈ gtbl := mg (List.mem_of_getElem? (i := 163) (by decide +kernel)) (by decide +kernel)
theorem mw_161 : Cond.methodLink RX11 39 yX6_init ∈ gtbl := mg (List.mem_of_getElem? (i := 161) (by decide +kernel)) (by decide +kernel)
theorem mw_295 : Cond.classLink RX11 46 RX2 ∈ gtbl := mg (List.mem_of_getElem? (i := 295) (by decide +kernel)) (by decide +kernel)
theorem mw_296 : Cond.instantiable RX2 9 ∈ gtbl := mg (List.mem_of_getElem? (i := 296) (by decide +kernel)) (by decide +kernel)
theorem mw_298 : Cond.instanceMethod yX2_init ∈ gtbl := mg (List.mem_of_getElem? (i := 298) (by decide +kernel)) (by decide +kernel)
theorem mw_299 : Cond.code yX2_init cX2_init 2 none ∈ gtbl := mg (List.mem_of_getElem? (i := 299) (by decide +kernel)) (by decide +kernel)
theorem mw_297 : Cond.methodLink RX11 48 yX2_init ∈ gtbl := mg (List.mem_of_getElem? (i := 297) (by decide +kernel)) (by decide +kernel)
theorem mw_336 : Cond.classLink RX11 53 RX1 ∈ gtbl := mg (List.mem_of_getElem? (i := 336) (by decide +kernel)) (by decide +kernel)
theorem mw_337 : Cond.instantiable RX1 13 ∈ gtbl := mg (List.mem_of_getElem? (i := 337) (by decide +kernel)) (by decide +kernel)
theorem mw_339 : Cond.instanceMethod yX1_init ∈ gtbl := mg (List.mem_of_getElem? (i := 339) (by decide +kernel)) (by decide +kernel)
theorem mw_340 : Cond.code yX1_init cX1_init 1 none ∈ gtbl := mg (List.mem_of_getElem? (i := 340) (by decide +kernel)) (by decide +kernel)
theorem mw_338 : Cond.methodLink RX11 55 yX1_init ∈ gtbl := mg (List.mem_of_getElem? (i := 338) (by decide +kernel)) (by decide +kernel)
theorem mw_411 : Cond.classLink RX11 70 RX9 ∈ gtbl := mg (List.mem_of_getElem? (i := 411) (by decide +kernel)) (by decide +kernel)
theorem mw_412 : Cond.instantiable RX9 4 ∈ gtbl := mg (List.mem_of_getElem? (i := 412) (by decide +kernel)) (by decide +kernel)
theorem mw_414 : Cond.instanceMethod yX9_init ∈ gtbl := mg (List.mem_of_getElem? (i := 414) (by decide +kernel)) (by decide +kernel)
theorem mw_415 : Cond.code yX9_init cX9_init 1 none ∈ gtbl := mg (List.mem_of_getElem? (i := 415) (by decide +kernel)) (by decide +kernel)
theorem mw_413 : Cond.methodLinkNest RX11 72 yX9_init RX11 ∈ ntbl := mn (List.mem_of_getElem? (i := 413) (by decide +kernel)) (by decide +kernel)
theorem mw_431 : Cond.classLink RX11 77 RX3 ∈ gtbl := mg (List.mem_of_getElem? (i := 431) (by decide +kernel)) (by decide +kernel)
theorem mw_432 : Cond.instantiable RX3 7 ∈ gtbl := mg (List.mem_of_getElem? (i := 432) (by decide +kernel)) (by decide +kernel)
theorem mw_434 : Cond.instanceMethod yX3_init ∈ gtbl := mg (List.mem_of_getElem? (i := 434) (by decide +kernel)) (by decide +kernel)
theorem mw_435 : Cond.code yX3_init cX3_init 1 none ∈ gtbl := mg (List.mem_of_getElem? (i := 435) (by decide +kernel)) (by decide +kernel)
theorem mw_433 : Cond.methodLinkNest RX11 79 yX3_init RX11 ∈ ntbl := mn (List.mem_of_getElem? (i := 433) (by decide +kernel)) (by decide +kernel)
theorem mw_462 : Cond.classLink RX11 91 RX4 ∈ gtbl := mg (List.mem_of_getElem? (i := 462) (by decide +kernel)) (by decide +kernel)
theorem mw_463 : Cond.instantiable RX4 4 ∈ gtbl := mg (List.mem_of_getElem? (i := 463) (by decide +kernel)) (by decide +kernel)
theorem mw_465 : Cond.instanceMethod yX4_init ∈ gtbl := mg (List.mem_of_getElem? (i := 465) (by decide +kernel)) (by decide +kernel)
theorem mw_466 : Cond.code yX4_init cX4_init 1 none ∈ gtbl := mg (List.mem_of_getElem? (i := 466) (by decide +kernel)) (by decide +kernel)
theorem mw_464 : Cond.methodLinkNest RX11 93 yX4_init RX11 ∈ ntbl := mn (List.mem_of_getElem? (i := 464) (by decide +kernel)) (by decide +kernel)
theorem dX6_init_0 : decode cX6_init 0 = .ok (.aload_n 0, 1) := by decide +kernel
theorem dX6_init_1 : decode cX6_init 1 = .ok (.invokespecial 3, 3) := by decide +kernel
theorem dX6_init_4 : decode cX6_init 4 = .ok (.aload_n 0, 1) := by decide +kernel
theorem dX6_init_5 : decode cX6_init 5 = .ok (.new 9, 3) := by decide +kernel
theorem dX6_init_8 : decode cX6_init 8 = .ok (.dup, 1) := by decide +kernel
theorem dX6_init_9 : decode cX6_init 9 = .ok (.invokespecial 11, 3) := by decide +kernel
theorem dX6_init_12 : decode cX6_init 12 = .ok (.putfield 12, 3) := by decide +kernel
theorem dX6_init_16 : decode cX6_init 16 = .ok (.iconst 0, 1) := by decide +kernel
theorem dX6_init_15 : decode cX6_init 15 = .ok (.aload_n 0, 1) := by decide +kernel
theorem dX6_init_17 : decode cX6_init 17 = .ok (.putfield 18, 3) := by decide +kernel
theorem dX6_init_21 : decode cX6_init 21 = .ok (.iconst (-1), 1) := by decide +kernel
theorem dX6_init_20 : decode cX6_init 20 = .ok (.aload_n 0, 1) := by decide +kernel
theorem dX6_init_22 : decode cX6_init 22 = .ok (.putfield 22, 3) := by decide +kernel
theorem dX6_init_26 : decode cX6_init 26 = .ok (.aload_n 1, 1) := by decide +kernel
theorem dX6_init_25 : decode cX6_init 25 = .ok (.aload_n 0, 1) := by decide +kernel
theorem dX6_init_27 : decode cX6_init 27 = .ok (.putfield 25, 3) := by decide +kernel
theorem dX6_init_31 : decode cX6_init 31 = .ok (.new 29, 3) := by decide +kernel
theorem dX6_init_30 : decode cX6_init 30 = .ok (.aload_n 0, 1) := by decide +kernel
theorem dX6_init_34 : decode cX6_init 34 = .ok (.dup, 1) := by decide +kernel
theorem dX6_init_35 : decode cX6_init 35 = .ok (.aload_n 1, 1) := by decide +kernel
theorem dX6_init_36 : decode cX6_init 36 = .ok (.getfield 31, 3) := by decide +kernel
theorem dX6_init_39 : decode cX6_init 39 = .ok (.iconst 0, 1) := by decide +kernel
theorem dX6_init_40 : decode cX6_init 40 = .ok (.aaload, 1) := by decide +kernel
theorem dX6_init_41 : decode cX6_init 41 = .ok (.invokespecial 37, 3) := by decide +kernel
theorem dX6_init_44 : decode cX6_init 44 = .ok (.putfield 40, 3) := by decide +kernel
theorem dX6_init_47 : decode cX6_init 47 = .ok (.return_, 1) := by decide +kernel
theorem dX11_init_0 : decode cX11_init 0 = .ok (.aload_n 0, 1) := by decide +kernel
theorem dX11_init_1 : decode cX11_init 1 = .ok (.invokespecial 7, 3) := by decide +kernel
theorem dX11_init_5 : decode cX11_init 5 = .ok (.sipush 700, 3) := by decide +kernel
theorem dX11_init_4 : decode cX11_init 4 = .ok (.aload_n 0, 1) := by decide +kernel
theorem dX11_init_8 : decode cX11_init 8 = .ok (.newarray .byte, 2) := by decide +kernel
theorem dX11_init_10 : decode cX11_init 10 = .ok (.putfield 13, 3) := by decide +kernel
theorem dX11_init_14 : decode cX11_init 14 = .ok (.iconst 0, 1) := by decide +kernel
theorem dX11_init_13 : decode cX11_init 13 = .ok (.aload_n 0, 1) := by decide +kernel
theorem dX11_init_15 : decode cX11_init 15 = .ok (.putfield 17, 3) := by decide +kernel
theorem dX11_init_19 : decode cX11_init 19 = .ok (.iconst 0, 1) := by decide +kernel
theorem dX11_init_18 : decode cX11_init 18 = .ok (.aload_n 0, 1) := by decide +kernel
theorem dX11_init_20 : decode cX11_init 20 = .ok (.putfield 21, 3) := by decide +kernel
theorem dX11_init_24 : decode cX11_init 24 = .ok (.iconst (-1), 1) := by decide +kernel
theorem dX11_init_23 : decode cX11_init 23 = .ok (.aload_n 0, 1) := by decide +kernel
theorem dX11_init_25 : decode cX11_init 25 = .ok (.putfield 24, 3) := by decide +kernel
theorem dX11_init_28 : decode cX11_init 28 = .ok (.aload_n 0, 1) := by decide +kernel
theorem dX11_init_29 : decode cX11_init 29 = .ok (.new 27, 3) := by decide +kernel
theorem dX11_init_32 : decode cX11_init 32 = .ok (.dup, 1) := by decide +kernel
theorem dX11_init_33 : decode cX11_init 33 = .ok (.invokespecial 29, 3) := by decide +kernel
theorem dX11_init_36 : decode cX11_init 36 = .ok (.putfield 30, 3) := by decide +kernel
theorem dX11_init_39 : decode cX11_init 39 = .ok (.aload_n 0, 1) := by decide +kernel
theorem dX11_init_40 : decode cX11_init 40 = .ok (.new 27, 3) := by decide +kernel
theorem dX11_init_43 : decode cX11_init 43 = .ok (.dup, 1) := by decide +kernel
theorem dX11_init_44 : decode cX11_init 44 = .ok (.invokespecial 29, 3) := by decide +kernel
theorem dX11_init_47 : decode cX11_init 47 = .ok (.putfield 34, 3) := by decide +kernel
theorem dX11_init_50 : decode cX11_init 50 = .ok (.aload_n 0, 1) := by decide +kernel
theorem dX11_init_51 : decode cX11_init 51 = .ok (.new 37, 3) := by decide +kernel
theorem dX11_init_54 : decode cX11_init 54 = .ok (.dup, 1) := by decide +kernel
theorem dX11_init_55 : decode cX11_init 55 = .ok (.aload_n 0, 1) := by decide +kernel
theorem dX11_init_56 : decode cX11_init 56 = .ok (.getfield 34, 3) := by decide +kernel
theorem dX11_init_59 : decode cX11_init 59 = .ok (.invokespecial 39, 3) := by decide +kernel
theorem dX11_init_62 : decode cX11_init 62 = .ok (.putfield 42, 3) := by decide +kernel
theorem dX11_init_65 : decode cX11_init 65 = .ok (.aload_n 0, 1) := by decide +kernel
theorem dX11_init_66 : decode cX11_init 66 = .ok (.new 46, 3) := by decide +kernel
theorem dX11_init_69 : decode cX11_init 69 = .ok (.dup, 1) := by decide +kernel
theorem dX11_init_70 : decode cX11_init 70 = .ok (.aload_n 0, 1) := by decide +kernel
theorem dX11_init_71 : decode cX11_init 71 = .ok (.getfield 30, 3) := by decide +kernel
theorem dX11_init_74 : decode cX11_init 74 = .ok (.invokespecial 48, 3) := by decide +kernel
theorem dX11_init_77 : decode cX11_init 77 = .ok (.putfield 49, 3) := by decide +kernel
theorem dX11_init_80 : decode cX11_init 80 = .ok (.aload_n 0, 1) := by decide +kernel
theorem dX11_init_81 : decode cX11_init 81 = .ok (.new 53, 3) := by decide +kernel
theorem dX11_init_84 : decode cX11_init 84 = .ok (.dup, 1) := by decide +kernel
theorem dX11_init_85 : decode cX11_init 85 = .ok (.invokespecial 55, 3) := by decide +kernel
theorem dX11_init_88 : decode cX11_init 88 = .ok (.putfield 56, 3) := by decide +kernel
theorem dX11_init_91 : decode cX11_init 91 = .ok (.aload_n 0, 1) := by decide +kernel
theorem dX11_init_92 : decode cX11_init 92 = .ok (.new 53, 3) := by decide +kernel
theorem dX11_init_95 : decode cX11_init 95 = .ok (.dup, 1) := by decide +kernel
theorem dX11_init_96 : decode cX11_init 96 = .ok (.invokespecial 55, 3) := by decide +kernel
theorem dX11_init_99 : decode cX11_init 99 = .ok (.putfield 60, 3) := by decide +kernel
theorem dX11_init_102 : decode cX11_init 102 = .ok (.aload_n 0, 1) := by decide +kernel
theorem dX11_init_103 : decode cX11_init 103 = .ok (.new 53, 3) := by decide +kernel
theorem dX11_init_106 : decode cX11_init 106 = .ok (.dup, 1) := by decide +kernel
theorem dX11_init_107 : decode cX11_init 107 = .ok (.invokespecial 55, 3) := by decide +kernel
theorem dX11_init_110 : decode cX11_init 110 = .ok (.putfield 63, 3) := by decide +kernel
theorem dX11_init_114 : decode cX11_init 114 = .ok (.iconst 0, 1) := by decide +kernel
theorem dX11_init_113 : decode cX11_init 113 = .ok (.aload_n 0, 1) := by decide +kernel
theorem dX11_init_115 : decode cX11_init 115 = .ok (.putfield 66, 3) := by decide +kernel
theorem dX11_init_118 : decode cX11_init 118 = .ok (.aload_n 0, 1) := by decide +kernel
theorem dX11_init_119 : decode cX11_init 119 = .ok (.new 70, 3) := by decide +kernel
theorem dX11_init_122 : decode cX11_init 122 = .ok (.dup, 1) := by decide +kernel
theorem dX11_init_123 : decode cX11_init 123 = .ok (.invokespecial 72, 3) := by decide +kernel
theorem dX11_init_126 : decode cX11_init 126 = .ok (.putfield 73, 3) := by decide +kernel
theorem dX11_init_129 : decode cX11_init 129 = .ok (.aload_n 0, 1) := by decide +kernel
theorem dX11_init_130 : decode cX11_init 130 = .ok (.new 77, 3) := by decide +kernel
theorem dX11_init_133 : decode cX11_init 133 = .ok (.dup, 1) := by decide +kernel
theorem dX11_init_134 : decode cX11_init 134 = .ok (.invokespecial 79, 3) := by decide +kernel
theorem dX11_init_137 : decode cX11_init 137 = .ok (.putfield 80, 3) := by decide +kernel
theorem dX11_init_141 : decode cX11_init 141 = .ok (.sipush 600, 3) := by decide +kernel
theorem dX11_init_140 : decode cX11_init 140 = .ok (.aload_n 0, 1) := by decide +kernel
theorem dX11_init_144 : decode cX11_init 144 = .ok (.newarray .int, 2) := by decide +kernel
theorem dX11_init_146 : decode cX11_init 146 = .ok (.putfield 84, 3) := by decide +kernel
theorem dX11_init_150 : decode cX11_init 150 = .ok (.iconst (-1), 1) := by decide +kernel
theorem dX11_init_149 : decode cX11_init 149 = .ok (.aload_n 0, 1) := by decide +kernel
theorem dX11_init_151 : decode cX11_init 151 = .ok (.putfield 88, 3) := by decide +kernel
theorem dX11_init_154 : decode cX11_init 154 = .ok (.aload_n 0, 1) := by decide +kernel
theorem dX11_init_155 : decode cX11_init 155 = .ok (.new 91, 3) := by decide +kernel
theorem dX11_init_158 : decode cX11_init 158 = .ok (.dup, 1) := by decide +kernel
theorem dX11_init_159 : decode cX11_init 159 = .ok (.invokespecial 93, 3) := by decide +kernel
theorem dX11_init_162 : decode cX11_init 162 = .ok (.putfield 94, 3) := by decide +kernel
theorem dX11_init_166 : decode cX11_init 166 = .ok (.bipush 114, 2) := by decide +kernel
theorem dX11_init_165 : decode cX11_init 165 = .ok (.aload_n 0, 1) := by decide +kernel
theorem dX11_init_168 : decode cX11_init 168 = .ok (.newarray .int, 2) := by decide +kernel
theorem dX11_init_170 : decode cX11_init 170 = .ok (.putfield 98, 3) := by decide +kernel
theorem dX11_init_173 : decode cX11_init 173 = .ok (.return_, 1) := by decide +kernel
theorem li_X6_11 : LkI RX6 11 yX10_init cX10_init 5 0 := ⟨mw_167, mw_168, mw_6, mw_169, ⟨by decide, by decide⟩, by decide +kernel, rfl⟩
theorem li_X6_37 : LkI RX6 37 yX5_init cX5_init 2 1 := ⟨mw_250, mw_251, mw_11, mw_252, ⟨by decide, by decide⟩, by decide +kernel, rfl⟩
theorem li_X11_29 : LkJ RX11 29 yX8_init "ClapMill" cX8_init 1 0 := ⟨mw_36, mw_37, mw_2, mw_38, ⟨by decide, by decide⟩, by decide +kernel, rfl⟩
theorem li_X11_39 : LkI RX11 39 yX6_init cX6_init 2 1 := ⟨mw_161, mw_162, mw_5, mw_163, ⟨by decide, by decide⟩, by decide +kernel, rfl⟩
theorem li_X11_48 : LkI RX11 48 yX2_init cX2_init 2 1 := ⟨mw_297, mw_298, mw_12, mw_299, ⟨by decide, by decide⟩, by decide +kernel, rfl⟩
theorem li_X11_55 : LkI RX11 55 yX1_init cX1_init 1 0 := ⟨mw_338, mw_339, mw_13, mw_340, ⟨by decide, by decide⟩, by decide +kernel, rfl⟩
theorem li_X11_72 : LkJ RX11 72 yX9_init "ClapMill" cX9_init 1 0 := ⟨mw_413, mw_414, mw_14, mw_415, ⟨by decide, by decide⟩, by decide +kernel, rfl⟩
theorem li_X11_79 : LkJ RX11 79 yX3_init "ClapMill" cX3_init 1 0 := ⟨mw_433, mw_434, mw_15, mw_435, ⟨by decide, by decide⟩, by decide +kernel, rfl⟩
theorem li_X11_93 : LkJ RX11 93 yX4_init "ClapMill" cX4_init 1 0 := ⟨mw_464, mw_465, mw_16, mw_466, ⟨by decide, by decide⟩, by decide +kernel, rfl⟩
/-! a reader and the class itself are made -/
theorem FW.rs {E : Ev} {A : Nat → Prop} {ws rs : va_W} {H0 H : Heap} {locs : List Loc} (hF : FW E A H0 ws H locs) (h : va_P E.1 vwCl rs H0) (hn : ∀ (k : Nat) (q : Nat × va_E), rs[k]? = some q → ¬ A q.1) : va_P E.1 vwCl rs H := fun k q hk => (h k q hk).kept (hF.2.2.2.1 _ (h k q hk).lt (hn k q hk))
section NX5
variable {p : Program} {l : Launch} {e : Env} {R : Room} {s : State} {m : MethodId} {args : Array Value} {below : List Frame} {meth : Method} {c : Code} {H : Heap} {locs : List Loc} {cells slots : Nat} {Q : State → Prop}
variable {cc bytes : ByteArray} {pc nL maxL index n b : Nat} {ls : Array Slot} {rest st0 As : List Value} {E : Ev} {own host : String} {ar rs : va_W} {o : Nat × va_E} {A : Nat → Prop} {kA vA : Nat → Nat} {y : MethodName} {rm : Room} {e0 : va_E} {w1 : (Nat → Nat) → va_W}
theorem nx_ctorR (C : CallFix p m c cc nL s args gtbl own) (hK : Ky E kA vA s) (hA : ∀ q, s.heap.size ≤ q → A q) (hA0 : ∀ q, A q → E.2.2.1 ≤ q) (hN : E.2.2.1 ≤ s.heap.size) (hF : FW E A s.heap (o :: (ar ++ [(b, e0)])) H locs) (hM : CI l E kA vA y bytes maxL rm [(b, e0)] rs (.ref b :: As) w1 H.size) (is : List Nat) (hnd : va_nd is = true) (his : is.map (fun i => (o :: (ar ++ [(b, e0)]))[i]?) = ([(b, e0)] ++ rs).map some) (lk : LkI own index y bytes maxL n) (hR : rm.frames + 1 ≤ R.frames ∧ 8 + (maxL + 11) + rm.locals ≤ R.locals) (hf : cells + rm.cells ≤ R.cells ∧ slots + rm.slots ≤ R.slots) (hn : As.length = n) (hsize : ls.size = nL) (hst : st0 = As.reverse ++ .ref b :: rest) (hW : (rest.map fun v => v.category).sum ≤ 8) (hdg : decode cc pc = .ok (.invokespecial index, 3))
    (kk : ∀ (H1 : Heap) (locs1 : List Loc) (a : Nat → Nat), FW E A s.heap (o :: (ar ++ w1 a)) H1 locs1 → W p l e R s m args below meth c H1 locs1 (cells + rm.cells) (slots + rm.slots) Q (F0 m (pc + 3) ls rest)) : W p l e R s m args below meth c H locs cells slots Q (F0 m pc ls st0) :=
  nx_ctor (wr := o :: ar) C hK hA hA0 hN hM lk hR hf hF is hnd his hn hsize hst hW hdg kk
end NX5
def aR (a : Nat → Nat) (k j : Nat) : Nat := a (10 * k + j)
def rd0 : St := sI z0 4 (-1)
def rdW (E : Ev) (b : Nat → Nat → Nat) (qb qs qf : Nat) : va_W := wReader E (b 0) (b 1 0) (b 2 0) qs rd0 ++ wTokens E (b 1) qb tok0 ++ wPhrase E (b 2) qf z0
def aQ (h : Nat) (a : Nat → Nat) (k j : Nat) : Nat := if k = 0 then h else aR a k j
set_option maxHeartbeats 4000000 in
set_option maxRecDepth 20000 in
theorem iX6 (l : Launch) (E : Ev) (kA vA : Nat → Nat) (h0 : Nat) (bS : Nat → Nat) (q0 q1 q2 q3 q4 q5 q6 : Nat) (u : St) (sz : Nat) : CI l E kA vA yX6_init cX6_init 2 (rmc 5 109 5 106) [(h0, .inr (6, [.null, .null, .null, .int 0, .int 0]))] (wScript E bS q0 q1 q2 q3 q4 q5 q6 u) [.ref h0, .ref (bS 0)] (fun a => rdW E (aQ h0 a) (a 0) (bS 0) q4) sz := by
  refine CI.of (own := RX6) rfl (by decide) rfl (Nat.le_of_ble_eq_true rfl) ?_ sz
  intro p e R s m args below meth c ls Q A hR1 hR2 hR3 hR4 C hin2 hK hN hA hA0 hF hrs hrn hl kk
  change R.frames = 5 at hR1
  change R.locals = 109 at hR2
  change R.cells = 5 at hR3
  change R.slots = 106 at hR4
  have hl : lv_has ls 2 [(0, .ref h0), (1, .ref (bS 0))] := hl
  refine lv_aload_n C.1 C.2.1 dX6_init_0 rfl (lv_at hl 0 rfl) ?_
  refine nx_obj C mw_164 mw_32 mw_33 hl.1 dX6_init_1 (by omega) (by show 0 + 12 ≤ R.locals; omega) ?_
  refine lv_aload_n C.1 C.2.1 dX6_init_4 rfl (lv_at hl 0 rfl) ?_
  refine nx_newC C hK.1 hA cfX10 hF mw_165 mw_166 mw_6 [.null, .null, .int 0, .int 0, .int 0, .int 0, .int 0] dfX10 (by omega) (by omega) dX6_init_5 (fun q1 H hF => ?_)
  refine lv_dup C.1 C.2.1 dX6_init_8 rfl ?_
  refine nx_ctorC C hK hA hA0 hN hF (iX10 l E kA vA q1 _) li_X6_11 ⟨by show 4 + 1 ≤ R.frames; omega, by show 8 + (5 + 11) + 85 ≤ R.locals; omega⟩ ⟨by show _ + 2 ≤ R.cells; omega, by show _ + 20 ≤ R.slots; omega⟩ rfl hl.1 rfl (Nat.le_of_ble_eq_true rfl) dX6_init_9 (fun H locs a1 hF => ?_)
  refine W.widen (k := 3) (n := 27) (by show _ + 2 ≤ _; omega) (by show _ + 20 ≤ _; omega) ?_
  refine nx_set C hK.1 hin2 cfX6 hF 0 (by decide) mw_277 rfl rfl rfl (Nat.le_of_ble_eq_true rfl) dX6_init_12 (fun H locs hF => ?_)
  have hF : FW E A s.heap ((h0, .inr (6, [.ref q1, .null, .null, .int 0, .int 0])) :: (([] : va_W) ++ wTokens E (cA0 q1 a1) (a1 1) tok0)) _ _ := hF
  refine nx_val C hK.1 hin2 cfX6 (lv_at hl 0 rfl) hF (lv_iconst C.1 C.2.1 (v := 0) dX6_init_16 (by decide)) 3 (by decide) mw_280 rfl rfl rfl (Nat.le_of_ble_eq_true rfl) dX6_init_15 dX6_init_17 (fun H locs hF => ?_)
  refine nx_val C hK.1 hin2 cfX6 (lv_at hl 0 rfl) hF (lv_iconst C.1 C.2.1 (v := (-1)) dX6_init_21 (by decide)) 4 (by decide) mw_282 rfl rfl rfl (Nat.le_of_ble_eq_true rfl) dX6_init_20 dX6_init_22 (fun H locs hF => ?_)
  refine nx_val C hK.1 hin2 cfX6 (lv_at hl 0 rfl) hF (lv_aload_n C.1 C.2.1 dX6_init_26 rfl (lv_at hl 1 rfl)) 2 (by decide) mw_279 rfl rfl rfl (Nat.le_of_ble_eq_true rfl) dX6_init_25 dX6_init_27 (fun H locs hF => ?_)
  have hF : FW E A s.heap ((h0, .inr (6, [.ref q1, .null, .ref (bS 0), .int 0, .int (-1)])) :: (([] : va_W) ++ wTokens E (cA0 q1 a1) (a1 1) tok0)) _ _ := hF
  refine lv_aload_n C.1 C.2.1 dX6_init_30 rfl (lv_at hl 0 rfl) ?_
  refine nx_newC C hK.1 hA cfX5 hF mw_248 mw_249 mw_11 [.null, .int 0, .int 0, .int 0, .int 0, .int 0, .null] dfX5 (by omega) (by omega) dX6_init_31 (fun q9 H hF => ?_)
  refine lv_dup C.1 C.2.1 dX6_init_34 rfl ?_
  refine lv_aload_n C.1 C.2.1 dX6_init_35 rfl (lv_at hl 1 rfl) ?_
  have hPr := hF.rs hrs hrn
  refine bx_getN C hK.1 hinX8 hPr 0 rfl rfl 4 (by decide) mw_116 rfl dX6_init_36 ?_
  refine lv_iconst C.1 C.2.1 (v := 0) dX6_init_39 (by decide) ?_
  refine bx_aaldK C hK.1 hPr 1 rfl (k := 0) rfl dX6_init_40 (q := q4) rfl (by decide) ?_
  refine nx_ctorC C hK hA hA0 hN hF (iX5 l E kA vA q9 q4 _) li_X6_37 ⟨by show 1 + 1 ≤ R.frames; omega, by show 8 + (2 + 11) + 12 ≤ R.locals; omega⟩ ⟨by show _ + 1 ≤ R.cells; omega, by show _ + 72 ≤ R.slots; omega⟩ rfl hl.1 rfl (Nat.le_of_ble_eq_true rfl) dX6_init_41 (fun H locs a2 hF => ?_)
  refine W.widen (k := 5) (n := 106) (by show _ + 1 ≤ _; omega) (by show _ + 72 ≤ _; omega) ?_
  refine nx_set C hK.1 hin2 cfX6 hF 1 (by decide) mw_278 rfl rfl rfl (Nat.le_of_ble_eq_true rfl) dX6_init_44 (fun H locs hF => ?_)
  have hF : FW E A s.heap ((h0, .inr (6, [.ref q1, .ref q9, .ref (bS 0), .int 0, .int (-1)])) :: ((([] : va_W) ++ wTokens E (cA0 q1 a1) (a1 1) tok0) ++ wPhrase E (cA0 q9 a2) q4 z0)) _ _ := hF
  exact kk _ ls _ _ (mk8 (fun _ => a1 1) (cA0 q1 a1) (cA0 q9 a2) (fun _ => 0) (fun _ => 0) (fun _ => 0) (fun _ => 0) (fun _ => 0)) hF dX6_init_47

def mkF (L : List (Nat → Nat)) : Nat → Nat := fun i => (L.getD (i / 100) (fun _ => 0)) (i % 100)
/-- the addresses of the class's things -/
def aM (a : Nat → Nat) (k j : Nat) : Nat := a (100 * k + j)
def aM2 (a : Nat → Nat) (g k j : Nat) : Nat := a (100 * g + (10 * k + j))
def unS (f : Nat → Nat → Nat) : Nat → Nat := fun i => f (i / 10) (i % 10)
def mn0 : St := sI (sI (sI z0 3 (-1)) 11 0) 15 (-1)
def mlW (E : Ev) (h0 : Nat) (a : Nat → Nat) : va_W := wMain E (fun _ => h0) (aM a 0 0) (aM2 a 1 0 0) (aM2 a 2 0 0) (aM2 a 3 0 0) (aM a 4 0) (aM a 5 0) (aM a 6 0) (aM a 7 0) (aM a 8 0) (aM a 9 0) (aM a 10 0) (aM a 11 0) (aM a 12 0) mn0 ++ (((((((((((((([] : va_W) ++ wBArr E 700 (aM a 0) z0) ++ scW E (aM2 a 1) scr0) ++ scW E (aM2 a 2) scr0) ++ rdW E (aM2 a 3) (aM a 20 0) (aM2 a 2 0 0) (aM2 a 2 5 0)) ++ (wMill E (aM a 4) (aM a 4 1) (aM2 a 1 0 0) uMill ++ wLArr E 7 (fun _ => aM a 4 1) z0)) ++ wHall E (aM a 5) hall0) ++ wHall E (aM a 6) hall0) ++ wHall E (aM a 7) hall0) ++ wSteps E (aM a 8) (fX9_clear z0)) ++ wNotes E (aM a 9) (fX3_clear z0)) ++ wIArr E 600 (aM a 10) z0) ++ wOrder E (aM a 11) (sI z0 3 1)) ++ wIArr E 114 (aM a 12) z0)
set_option maxHeartbeats 4000000 in
set_option maxRecDepth 20000 in
theorem iX11 (l : Launch) (E : Ev) (kA vA : Nat → Nat) (h0 : Nat) (sz : Nat) : CI l E kA vA yX11_init cX11_init 1 (rmc 6 130 107 3351) [(h0, .inr (11, [.null, .int 0, .int 0, .int 0, .null, .null, .null, .null, .null, .null, .null, .int 0, .null, .null, .null, .int 0, .null, .null]))] [] [.ref h0] (mlW E h0) sz := by
  refine CI.of (own := RX11) rfl (by decide) rfl (Nat.le_of_ble_eq_true rfl) ?_ sz
  intro p e R s m args below meth c ls Q A hR1 hR2 hR3 hR4 C hin2 hK hN hA hA0 hF hrs hrn hl kk
  change R.frames = 6 at hR1
  change R.locals = 130 at hR2
  change R.cells = 107 at hR3
  change R.slots = 3351 at hR4
  have hl : lv_has ls 1 [(0, .ref h0)] := hl
  refine lv_aload_n C.1 C.2.1 dX11_init_0 rfl (lv_at hl 0 rfl) ?_
  refine nx_obj C mw_31 mw_32 mw_33 hl.1 dX11_init_1 (by omega) (by show 0 + 12 ≤ R.locals; omega) ?_
  refine nx_arr C hK.1 hin2 hA cfX11 (lv_at hl 0 rfl) hF 1 rfl rfl mw_73 (700, .inl (fun _ => 0)) (fun _ => rfl) rfl (by omega) (by decide) (by omega) (by omega) (lv_sipush C.1 C.2.1 (v := 700) dX11_init_5 (by decide)) 0 (by decide) mw_484 rfl (fun _ => ⟨rfl, rfl⟩) (Nat.le_of_ble_eq_true rfl) dX11_init_4 dX11_init_8 dX11_init_10 (fun q1 H locs hF => ?_)
  have hF : FW E A s.heap ((h0, .inr (11, [.ref q1, .int 0, .int 0, .int 0, .null, .null, .null, .null, .null, .null, .null, .int 0, .null, .null, .null, .int 0, .null, .null])) :: (([] : va_W) ++ [(q1, .inl (E.2.1 1, 700, .inl (fun _ => 0)))])) _ _ := hF
  refine nx_val C hK.1 hin2 cfX11 (lv_at hl 0 rfl) hF (lv_iconst C.1 C.2.1 (v := 0) dX11_init_14 (by decide)) 1 (by decide) mw_485 rfl rfl rfl (Nat.le_of_ble_eq_true rfl) dX11_init_13 dX11_init_15 (fun H locs hF => ?_)
  refine nx_val C hK.1 hin2 cfX11 (lv_at hl 0 rfl) hF (lv_iconst C.1 C.2.1 (v := 0) dX11_init_19 (by decide)) 2 (by decide) mw_486 rfl rfl rfl (Nat.le_of_ble_eq_true rfl) dX11_init_18 dX11_init_20 (fun H locs hF => ?_)
  refine nx_val C hK.1 hin2 cfX11 (lv_at hl 0 rfl) hF (lv_iconst C.1 C.2.1 (v := (-1)) dX11_init_24 (by decide)) 3 (by decide) mw_487 rfl rfl rfl (Nat.le_of_ble_eq_true rfl) dX11_init_23 dX11_init_25 (fun H locs hF => ?_)
  have hF : FW E A s.heap ((h0, .inr (11, [.ref q1, .int 0, .int 0, .int (-1), .null, .null, .null, .null, .null, .null, .null, .int 0, .null, .null, .null, .int 0, .null, .null])) :: (([] : va_W) ++ [(q1, .inl (E.2.1 1, 700, .inl (fun _ => 0)))])) _ _ := hF
  refine lv_aload_n C.1 C.2.1 dX11_init_28 rfl (lv_at hl 0 rfl) ?_
  refine nx_newC C hK.1 hA cfX8 hF mw_34 mw_35 mw_2 [.null, .null, .null, .null, .null, .int 0, .int 0, .int 0, .int 0, .int 0, .int 0] dfX8 (by omega) (by omega) dX11_init_29 (fun q2 H hF => ?_)
  refine lv_dup C.1 C.2.1 dX11_init_32 rfl ?_
  refine nx_ctorCN C hK hA hA0 hN hF (iX8 l E kA vA q2 _) li_X11_29 ⟨by show 2 + 1 ≤ R.frames; omega, by show 8 + (1 + 11) + 33 ≤ R.locals; omega⟩ ⟨by show _ + 33 ≤ R.cells; omega, by show _ + 738 ≤ R.slots; omega⟩ rfl hl.1 rfl (Nat.le_of_ble_eq_true rfl) dX11_init_33 (fun H locs b2 hF => ?_)
  refine W.widen (k := 35) (n := 1449) (by show _ + 33 ≤ _; omega) (by show _ + 738 ≤ _; omega) ?_
  refine nx_set C hK.1 hin2 cfX11 hF 4 (by decide) mw_488 rfl rfl rfl (Nat.le_of_ble_eq_true rfl) dX11_init_36 (fun H locs hF => ?_)
  have hF : FW E A s.heap ((h0, .inr (11, [.ref q1, .int 0, .int 0, .int (-1), .ref q2, .null, .null, .null, .null, .null, .null, .int 0, .null, .null, .null, .int 0, .null, .null])) :: ((([] : va_W) ++ [(q1, .inl (E.2.1 1, 700, .inl (fun _ => 0)))]) ++ scW E (aS q2 b2) scr0)) _ _ := hF
  refine lv_aload_n C.1 C.2.1 dX11_init_39 rfl (lv_at hl 0 rfl) ?_
  refine nx_newC C hK.1 hA cfX8 hF mw_34 mw_35 mw_2 [.null, .null, .null, .null, .null, .int 0, .int 0, .int 0, .int 0, .int 0, .int 0] dfX8 (by omega) (by omega) dX11_init_40 (fun q3 H hF => ?_)
  refine lv_dup C.1 C.2.1 dX11_init_43 rfl ?_
  refine nx_ctorCN C hK hA hA0 hN hF (iX8 l E kA vA q3 _) li_X11_29 ⟨by show 2 + 1 ≤ R.frames; omega, by show 8 + (1 + 11) + 33 ≤ R.locals; omega⟩ ⟨by show _ + 33 ≤ R.cells; omega, by show _ + 738 ≤ R.slots; omega⟩ rfl hl.1 rfl (Nat.le_of_ble_eq_true rfl) dX11_init_44 (fun H locs b3 hF => ?_)
  refine W.widen (k := 69) (n := 2198) (by show _ + 33 ≤ _; omega) (by show _ + 738 ≤ _; omega) ?_
  refine nx_set C hK.1 hin2 cfX11 hF 5 (by decide) mw_489 rfl rfl rfl (Nat.le_of_ble_eq_true rfl) dX11_init_47 (fun H locs hF => ?_)
  have hF : FW E A s.heap ((h0, .inr (11, [.ref q1, .int 0, .int 0, .int (-1), .ref q2, .ref q3, .null, .null, .null, .null, .null, .int 0, .null, .null, .null, .int 0, .null, .null])) :: (((([] : va_W) ++ [(q1, .inl (E.2.1 1, 700, .inl (fun _ => 0)))]) ++ scW E (aS q2 b2) scr0) ++ scW E (aS q3 b3) scr0)) _ _ := hF
  refine lv_aload_n C.1 C.2.1 dX11_init_50 rfl (lv_at hl 0 rfl) ?_
  refine nx_newC C hK.1 hA cfX6 hF mw_159 mw_160 mw_5 [.null, .null, .null, .int 0, .int 0] dfX6 (by omega) (by omega) dX11_init_51 (fun q4 H hF => ?_)
  refine lv_dup C.1 C.2.1 dX11_init_54 rfl ?_
  refine lv_aload_n C.1 C.2.1 dX11_init_55 rfl (lv_at hl 0 rfl) ?_
  refine va_get C.1 C.2.1 C.2.2.2.2 hinX11 C.2.2.2.1 hK.1.1 hF.1 0 rfl rfl 5 (by decide) (C.2.2.2.2 _ mw_489) (fun _ h => h) rfl dX11_init_56 ?_
  refine nx_ctorR C hK hA hA0 hN hF (iX6 l E kA vA q4 ((aS q3 b3) 0) ((aS q3 b3) 1 0) ((aS q3 b3) 2 0) ((aS q3 b3) 3 0) ((aS q3 b3) 4 0) ((aS q3 b3) 5 0) ((aS q3 b3) 6 0) ((aS q3 b3) 7 0) (scr0 0) _) [70, 36, 37] (by decide) rfl li_X11_39 ⟨by show 5 + 1 ≤ R.frames; omega, by show 8 + (2 + 11) + 109 ≤ R.locals; omega⟩ ⟨by show _ + 5 ≤ R.cells; omega, by show _ + 106 ≤ R.slots; omega⟩ rfl hl.1 rfl (Nat.le_of_ble_eq_true rfl) dX11_init_59 (fun H locs b4 hF => ?_)
  refine W.widen (k := 75) (n := 2309) (by show _ + 5 ≤ _; omega) (by show _ + 106 ≤ _; omega) ?_
  refine nx_set C hK.1 hin2 cfX11 hF 6 (by decide) mw_490 rfl rfl rfl (Nat.le_of_ble_eq_true rfl) dX11_init_62 (fun H locs hF => ?_)
  have hF : FW E A s.heap ((h0, .inr (11, [.ref q1, .int 0, .int 0, .int (-1), .ref q2, .ref q3, .ref q4, .null, .null, .null, .null, .int 0, .null, .null, .null, .int 0, .null, .null])) :: ((((([] : va_W) ++ [(q1, .inl (E.2.1 1, 700, .inl (fun _ => 0)))]) ++ scW E (aS q2 b2) scr0) ++ scW E (aS q3 b3) scr0) ++ rdW E (aQ q4 b4) (b4 0) ((aS q3 b3) 0 0) ((aS q3 b3) 5 0))) _ _ := hF
  refine lv_aload_n C.1 C.2.1 dX11_init_65 rfl (lv_at hl 0 rfl) ?_
  refine nx_newC C hK.1 hA cfX2 hF mw_295 mw_296 mw_12 [.null, .null, .int 0, .int 0, .int 0, .int 0, .int 0, .int 0, .int 0] dfX2 (by omega) (by omega) dX11_init_66 (fun q5 H hF => ?_)
  refine lv_dup C.1 C.2.1 dX11_init_69 rfl ?_
  refine lv_aload_n C.1 C.2.1 dX11_init_70 rfl (lv_at hl 0 rfl) ?_
  refine va_get C.1 C.2.1 C.2.2.2.2 hinX11 C.2.2.2.1 hK.1.1 hF.1 0 rfl rfl 4 (by decide) (C.2.2.2.2 _ mw_488) (fun _ h => h) rfl dX11_init_71 ?_
  refine nx_ctorC C hK hA hA0 hN hF (iX2 l E kA vA q5 q2 _) li_X11_48 ⟨by show 1 + 1 ≤ R.frames; omega, by show 8 + (2 + 11) + 12 ≤ R.locals; omega⟩ ⟨by show _ + 1 ≤ R.cells; omega, by show _ + 7 ≤ R.slots; omega⟩ rfl hl.1 rfl (Nat.le_of_ble_eq_true rfl) dX11_init_74 (fun H locs b5 hF => ?_)
  refine W.widen (k := 77) (n := 2325) (by show _ + 1 ≤ _; omega) (by show _ + 7 ≤ _; omega) ?_
  refine nx_set C hK.1 hin2 cfX11 hF 7 (by decide) mw_491 rfl rfl rfl (Nat.le_of_ble_eq_true rfl) dX11_init_77 (fun H locs hF => ?_)
  have hF : FW E A s.heap ((h0, .inr (11, [.ref q1, .int 0, .int 0, .int (-1), .ref q2, .ref q3, .ref q4, .ref q5, .null, .null, .null, .int 0, .null, .null, .null, .int 0, .null, .null])) :: (((((([] : va_W) ++ [(q1, .inl (E.2.1 1, 700, .inl (fun _ => 0)))]) ++ scW E (aS q2 b2) scr0) ++ scW E (aS q3 b3) scr0) ++ rdW E (aQ q4 b4) (b4 0) ((aS q3 b3) 0 0) ((aS q3 b3) 5 0)) ++ (wMill E (cA0 q5 b5) (b5 0) q2 uMill ++ wLArr E 7 b5 z0))) _ _ := hF
  refine lv_aload_n C.1 C.2.1 dX11_init_80 rfl (lv_at hl 0 rfl) ?_
  refine nx_newC C hK.1 hA cfX1 hF mw_336 mw_337 mw_13 [.int 0, .int 0, .int 0, .int 0, .int 0, .int 0, .int 0, .int 0, .long 0, .null, .null, .null, .null] dfX1 (by omega) (by omega) dX11_init_81 (fun q6 H hF => ?_)
  refine lv_dup C.1 C.2.1 dX11_init_84 rfl ?_
  refine nx_ctorC C hK hA hA0 hN hF (iX1 l E kA vA q6 _) li_X11_55 ⟨by show 1 + 1 ≤ R.frames; omega, by show 8 + (1 + 11) + 22 ≤ R.locals; omega⟩ ⟨by show _ + 4 ≤ R.cells; omega, by show _ + 22 ≤ R.slots; omega⟩ rfl hl.1 rfl (Nat.le_of_ble_eq_true rfl) dX11_init_85 (fun H locs b6 hF => ?_)
  refine W.widen (k := 82) (n := 2360) (by show _ + 4 ≤ _; omega) (by show _ + 22 ≤ _; omega) ?_
  refine nx_set C hK.1 hin2 cfX11 hF 8 (by decide) mw_492 rfl rfl rfl (Nat.le_of_ble_eq_true rfl) dX11_init_88 (fun H locs hF => ?_)
  have hF : FW E A s.heap ((h0, .inr (11, [.ref q1, .int 0, .int 0, .int (-1), .ref q2, .ref q3, .ref q4, .ref q5, .ref q6, .null, .null, .int 0, .null, .null, .null, .int 0, .null, .null])) :: ((((((([] : va_W) ++ [(q1, .inl (E.2.1 1, 700, .inl (fun _ => 0)))]) ++ scW E (aS q2 b2) scr0) ++ scW E (aS q3 b3) scr0) ++ rdW E (aQ q4 b4) (b4 0) ((aS q3 b3) 0 0) ((aS q3 b3) 5 0)) ++ (wMill E (cA0 q5 b5) (b5 0) q2 uMill ++ wLArr E 7 b5 z0)) ++ wHall E (cA0 q6 b6) hall0)) _ _ := hF
  refine lv_aload_n C.1 C.2.1 dX11_init_91 rfl (lv_at hl 0 rfl) ?_
  refine nx_newC C hK.1 hA cfX1 hF mw_336 mw_337 mw_13 [.int 0, .int 0, .int 0, .int 0, .int 0, .int 0, .int 0, .int 0, .long 0, .null, .null, .null, .null] dfX1 (by omega) (by omega) dX11_init_92 (fun q7 H hF => ?_)
  refine lv_dup C.1 C.2.1 dX11_init_95 rfl ?_
  refine nx_ctorC C hK hA hA0 hN hF (iX1 l E kA vA q7 _) li_X11_55 ⟨by show 1 + 1 ≤ R.frames; omega, by show 8 + (1 + 11) + 22 ≤ R.locals; omega⟩ ⟨by show _ + 4 ≤ R.cells; omega, by show _ + 22 ≤ R.slots; omega⟩ rfl hl.1 rfl (Nat.le_of_ble_eq_true rfl) dX11_init_96 (fun H locs b7 hF => ?_)
  refine W.widen (k := 87) (n := 2395) (by show _ + 4 ≤ _; omega) (by show _ + 22 ≤ _; omega) ?_
  refine nx_set C hK.1 hin2 cfX11 hF 9 (by decide) mw_493 rfl rfl rfl (Nat.le_of_ble_eq_true rfl) dX11_init_99 (fun H locs hF => ?_)
  have hF : FW E A s.heap ((h0, .inr (11, [.ref q1, .int 0, .int 0, .int (-1), .ref q2, .ref q3, .ref q4, .ref q5, .ref q6, .ref q7, .null, .int 0, .null, .null, .null, .int 0, .null, .null])) :: (((((((([] : va_W) ++ [(q1, .inl (E.2.1 1, 700, .inl (fun _ => 0)))]) ++ scW E (aS q2 b2) scr0) ++ scW E (aS q3 b3) scr0) ++ rdW E (aQ q4 b4) (b4 0) ((aS q3 b3) 0 0) ((aS q3 b3) 5 0)) ++ (wMill E (cA0 q5 b5) (b5 0) q2 uMill ++ wLArr E 7 b5 z0)) ++ wHall E (cA0 q6 b6) hall0) ++ wHall E (cA0 q7 b7) hall0)) _ _ := hF
  refine lv_aload_n C.1 C.2.1 dX11_init_102 rfl (lv_at hl 0 rfl) ?_
  refine nx_newC C hK.1 hA cfX1 hF mw_336 mw_337 mw_13 [.int 0, .int 0, .int 0, .int 0, .int 0, .int 0, .int 0, .int 0, .long 0, .null, .null, .null, .null] dfX1 (by omega) (by omega) dX11_init_103 (fun q8 H hF => ?_)
  refine lv_dup C.1 C.2.1 dX11_init_106 rfl ?_
  refine nx_ctorC C hK hA hA0 hN hF (iX1 l E kA vA q8 _) li_X11_55 ⟨by show 1 + 1 ≤ R.frames; omega, by show 8 + (1 + 11) + 22 ≤ R.locals; omega⟩ ⟨by show _ + 4 ≤ R.cells; omega, by show _ + 22 ≤ R.slots; omega⟩ rfl hl.1 rfl (Nat.le_of_ble_eq_true rfl) dX11_init_107 (fun H locs b8 hF => ?_)
  refine W.widen (k := 92) (n := 2430) (by show _ + 4 ≤ _; omega) (by show _ + 22 ≤ _; omega) ?_
  refine nx_set C hK.1 hin2 cfX11 hF 10 (by decide) mw_494 rfl rfl rfl (Nat.le_of_ble_eq_true rfl) dX11_init_110 (fun H locs hF => ?_)
  have hF : FW E A s.heap ((h0, .inr (11, [.ref q1, .int 0, .int 0, .int (-1), .ref q2, .ref q3, .ref q4, .ref q5, .ref q6, .ref q7, .ref q8, .int 0, .null, .null, .null, .int 0, .null, .null])) :: ((((((((([] : va_W) ++ [(q1, .inl (E.2.1 1, 700, .inl (fun _ => 0)))]) ++ scW E (aS q2 b2) scr0) ++ scW E (aS q3 b3) scr0) ++ rdW E (aQ q4 b4) (b4 0) ((aS q3 b3) 0 0) ((aS q3 b3) 5 0)) ++ (wMill E (cA0 q5 b5) (b5 0) q2 uMill ++ wLArr E 7 b5 z0)) ++ wHall E (cA0 q6 b6) hall0) ++ wHall E (cA0 q7 b7) hall0) ++ wHall E (cA0 q8 b8) hall0)) _ _ := hF
  refine nx_val C hK.1 hin2 cfX11 (lv_at hl 0 rfl) hF (lv_iconst C.1 C.2.1 (v := 0) dX11_init_114 (by decide)) 11 (by decide) mw_495 rfl rfl rfl (Nat.le_of_ble_eq_true rfl) dX11_init_113 dX11_init_115 (fun H locs hF => ?_)
  have hF : FW E A s.heap ((h0, .inr (11, [.ref q1, .int 0, .int 0, .int (-1), .ref q2, .ref q3, .ref q4, .ref q5, .ref q6, .ref q7, .ref q8, .int 0, .null, .null, .null, .int 0, .null, .null])) :: ((((((((([] : va_W) ++ [(q1, .inl (E.2.1 1, 700, .inl (fun _ => 0)))]) ++ scW E (aS q2 b2) scr0) ++ scW E (aS q3 b3) scr0) ++ rdW E (aQ q4 b4) (b4 0) ((aS q3 b3) 0 0) ((aS q3 b3) 5 0)) ++ (wMill E (cA0 q5 b5) (b5 0) q2 uMill ++ wLArr E 7 b5 z0)) ++ wHall E (cA0 q6 b6) hall0) ++ wHall E (cA0 q7 b7) hall0) ++ wHall E (cA0 q8 b8) hall0)) _ _ := hF
  refine lv_aload_n C.1 C.2.1 dX11_init_118 rfl (lv_at hl 0 rfl) ?_
  refine nx_newC C hK.1 hA cfX9 hF mw_411 mw_412 mw_14 [.null, .null, .null, .int 0] dfX9 (by omega) (by omega) dX11_init_119 (fun q9 H hF => ?_)
  refine lv_dup C.1 C.2.1 dX11_init_122 rfl ?_
  refine nx_ctorCN C hK hA hA0 hN hF (iX9 l E kA vA q9 _) li_X11_72 ⟨by show 1 + 1 ≤ R.frames; omega, by show 8 + (1 + 11) + 12 ≤ R.locals; omega⟩ ⟨by show _ + 3 ≤ R.cells; omega, by show _ + 60 ≤ R.slots; omega⟩ rfl hl.1 rfl (Nat.le_of_ble_eq_true rfl) dX11_init_123 (fun H locs b9 hF => ?_)
  refine W.widen (k := 96) (n := 2494) (by show _ + 3 ≤ _; omega) (by show _ + 60 ≤ _; omega) ?_
  refine nx_set C hK.1 hin2 cfX11 hF 12 (by decide) mw_496 rfl rfl rfl (Nat.le_of_ble_eq_true rfl) dX11_init_126 (fun H locs hF => ?_)
  have hF : FW E A s.heap ((h0, .inr (11, [.ref q1, .int 0, .int 0, .int (-1), .ref q2, .ref q3, .ref q4, .ref q5, .ref q6, .ref q7, .ref q8, .int 0, .ref q9, .null, .null, .int 0, .null, .null])) :: (((((((((([] : va_W) ++ [(q1, .inl (E.2.1 1, 700, .inl (fun _ => 0)))]) ++ scW E (aS q2 b2) scr0) ++ scW E (aS q3 b3) scr0) ++ rdW E (aQ q4 b4) (b4 0) ((aS q3 b3) 0 0) ((aS q3 b3) 5 0)) ++ (wMill E (cA0 q5 b5) (b5 0) q2 uMill ++ wLArr E 7 b5 z0)) ++ wHall E (cA0 q6 b6) hall0) ++ wHall E (cA0 q7 b7) hall0) ++ wHall E (cA0 q8 b8) hall0) ++ wSteps E (cA0 q9 b9) z0)) _ _ := hF
  refine lv_aload_n C.1 C.2.1 dX11_init_129 rfl (lv_at hl 0 rfl) ?_
  refine nx_newC C hK.1 hA cfX3 hF mw_431 mw_432 mw_15 [.null, .null, .null, .null, .null, .int 0, .int 0] dfX3 (by omega) (by omega) dX11_init_130 (fun q10 H hF => ?_)
  refine lv_dup C.1 C.2.1 dX11_init_133 rfl ?_
  refine nx_ctorCN C hK hA hA0 hN hF (iX3 l E kA vA q10 _) li_X11_79 ⟨by show 1 + 1 ≤ R.frames; omega, by show 8 + (1 + 11) + 12 ≤ R.locals; omega⟩ ⟨by show _ + 5 ≤ R.cells; omega, by show _ + 120 ≤ R.slots; omega⟩ rfl hl.1 rfl (Nat.le_of_ble_eq_true rfl) dX11_init_134 (fun H locs b10 hF => ?_)
  refine W.widen (k := 102) (n := 2621) (by show _ + 5 ≤ _; omega) (by show _ + 120 ≤ _; omega) ?_
  refine nx_set C hK.1 hin2 cfX11 hF 13 (by decide) mw_497 rfl rfl rfl (Nat.le_of_ble_eq_true rfl) dX11_init_137 (fun H locs hF => ?_)
  have hF : FW E A s.heap ((h0, .inr (11, [.ref q1, .int 0, .int 0, .int (-1), .ref q2, .ref q3, .ref q4, .ref q5, .ref q6, .ref q7, .ref q8, .int 0, .ref q9, .ref q10, .null, .int 0, .null, .null])) :: ((((((((((([] : va_W) ++ [(q1, .inl (E.2.1 1, 700, .inl (fun _ => 0)))]) ++ scW E (aS q2 b2) scr0) ++ scW E (aS q3 b3) scr0) ++ rdW E (aQ q4 b4) (b4 0) ((aS q3 b3) 0 0) ((aS q3 b3) 5 0)) ++ (wMill E (cA0 q5 b5) (b5 0) q2 uMill ++ wLArr E 7 b5 z0)) ++ wHall E (cA0 q6 b6) hall0) ++ wHall E (cA0 q7 b7) hall0) ++ wHall E (cA0 q8 b8) hall0) ++ wSteps E (cA0 q9 b9) z0) ++ wNotes E (cA0 q10 b10) (sI z0 6 (-1)))) _ _ := hF
  refine nx_arr C hK.1 hin2 hA cfX11 (lv_at hl 0 rfl) hF 0 rfl rfl mw_74 (600, .inl (fun _ => 0)) (fun _ => rfl) rfl (by omega) (by decide) (by omega) (by omega) (lv_sipush C.1 C.2.1 (v := 600) dX11_init_141 (by decide)) 14 (by decide) mw_498 rfl (fun _ => ⟨rfl, rfl⟩) (Nat.le_of_ble_eq_true rfl) dX11_init_140 dX11_init_144 dX11_init_146 (fun q11 H locs hF => ?_)
  have hF : FW E A s.heap ((h0, .inr (11, [.ref q1, .int 0, .int 0, .int (-1), .ref q2, .ref q3, .ref q4, .ref q5, .ref q6, .ref q7, .ref q8, .int 0, .ref q9, .ref q10, .ref q11, .int 0, .null, .null])) :: (((((((((((([] : va_W) ++ [(q1, .inl (E.2.1 1, 700, .inl (fun _ => 0)))]) ++ scW E (aS q2 b2) scr0) ++ scW E (aS q3 b3) scr0) ++ rdW E (aQ q4 b4) (b4 0) ((aS q3 b3) 0 0) ((aS q3 b3) 5 0)) ++ (wMill E (cA0 q5 b5) (b5 0) q2 uMill ++ wLArr E 7 b5 z0)) ++ wHall E (cA0 q6 b6) hall0) ++ wHall E (cA0 q7 b7) hall0) ++ wHall E (cA0 q8 b8) hall0) ++ wSteps E (cA0 q9 b9) z0) ++ wNotes E (cA0 q10 b10) (sI z0 6 (-1))) ++ [(q11, .inl (E.2.1 0, 600, .inl (fun _ => 0)))])) _ _ := hF
  refine nx_val C hK.1 hin2 cfX11 (lv_at hl 0 rfl) hF (lv_iconst C.1 C.2.1 (v := (-1)) dX11_init_150 (by decide)) 15 (by decide) mw_499 rfl rfl rfl (Nat.le_of_ble_eq_true rfl) dX11_init_149 dX11_init_151 (fun H locs hF => ?_)
  have hF : FW E A s.heap ((h0, .inr (11, [.ref q1, .int 0, .int 0, .int (-1), .ref q2, .ref q3, .ref q4, .ref q5, .ref q6, .ref q7, .ref q8, .int 0, .ref q9, .ref q10, .ref q11, .int (-1), .null, .null])) :: (((((((((((([] : va_W) ++ [(q1, .inl (E.2.1 1, 700, .inl (fun _ => 0)))]) ++ scW E (aS q2 b2) scr0) ++ scW E (aS q3 b3) scr0) ++ rdW E (aQ q4 b4) (b4 0) ((aS q3 b3) 0 0) ((aS q3 b3) 5 0)) ++ (wMill E (cA0 q5 b5) (b5 0) q2 uMill ++ wLArr E 7 b5 z0)) ++ wHall E (cA0 q6 b6) hall0) ++ wHall E (cA0 q7 b7) hall0) ++ wHall E (cA0 q8 b8) hall0) ++ wSteps E (cA0 q9 b9) z0) ++ wNotes E (cA0 q10 b10) (sI z0 6 (-1))) ++ [(q11, .inl (E.2.1 0, 600, .inl (fun _ => 0)))])) _ _ := hF
  refine lv_aload_n C.1 C.2.1 dX11_init_154 rfl (lv_at hl 0 rfl) ?_
  refine nx_newC C hK.1 hA cfX4 hF mw_462 mw_463 mw_16 [.null, .null, .int 0, .int 0] dfX4 (by omega) (by omega) dX11_init_155 (fun q12 H hF => ?_)
  refine lv_dup C.1 C.2.1 dX11_init_158 rfl ?_
  refine nx_ctorCN C hK hA hA0 hN hF (iX4 l E kA vA q12 _) li_X11_93 ⟨by show 1 + 1 ≤ R.frames; omega, by show 8 + (1 + 11) + 12 ≤ R.locals; omega⟩ ⟨by show _ + 2 ≤ R.cells; omega, by show _ + 12 ≤ R.slots; omega⟩ rfl hl.1 rfl (Nat.le_of_ble_eq_true rfl) dX11_init_159 (fun H locs b12 hF => ?_)
  refine W.widen (k := 106) (n := 3237) (by show _ + 2 ≤ _; omega) (by show _ + 12 ≤ _; omega) ?_
  refine nx_set C hK.1 hin2 cfX11 hF 16 (by decide) mw_500 rfl rfl rfl (Nat.le_of_ble_eq_true rfl) dX11_init_162 (fun H locs hF => ?_)
  have hF : FW E A s.heap ((h0, .inr (11, [.ref q1, .int 0, .int 0, .int (-1), .ref q2, .ref q3, .ref q4, .ref q5, .ref q6, .ref q7, .ref q8, .int 0, .ref q9, .ref q10, .ref q11, .int (-1), .ref q12, .null])) :: ((((((((((((([] : va_W) ++ [(q1, .inl (E.2.1 1, 700, .inl (fun _ => 0)))]) ++ scW E (aS q2 b2) scr0) ++ scW E (aS q3 b3) scr0) ++ rdW E (aQ q4 b4) (b4 0) ((aS q3 b3) 0 0) ((aS q3 b3) 5 0)) ++ (wMill E (cA0 q5 b5) (b5 0) q2 uMill ++ wLArr E 7 b5 z0)) ++ wHall E (cA0 q6 b6) hall0) ++ wHall E (cA0 q7 b7) hall0) ++ wHall E (cA0 q8 b8) hall0) ++ wSteps E (cA0 q9 b9) z0) ++ wNotes E (cA0 q10 b10) (sI z0 6 (-1))) ++ [(q11, .inl (E.2.1 0, 600, .inl (fun _ => 0)))]) ++ wOrder E (cA0 q12 b12) (sI z0 3 1))) _ _ := hF
  refine nx_arr C hK.1 hin2 hA cfX11 (lv_at hl 0 rfl) hF 0 rfl rfl mw_74 (114, .inl (fun _ => 0)) (fun _ => rfl) rfl (by omega) (by decide) (by omega) (by omega) (lv_bipush C.1 C.2.1 (v := 114) dX11_init_166 (by decide)) 17 (by decide) mw_501 rfl (fun _ => ⟨rfl, rfl⟩) (Nat.le_of_ble_eq_true rfl) dX11_init_165 dX11_init_168 dX11_init_170 (fun q13 H locs hF => ?_)
  have hF : FW E A s.heap ((h0, .inr (11, [.ref q1, .int 0, .int 0, .int (-1), .ref q2, .ref q3, .ref q4, .ref q5, .ref q6, .ref q7, .ref q8, .int 0, .ref q9, .ref q10, .ref q11, .int (-1), .ref q12, .ref q13])) :: (((((((((((((([] : va_W) ++ [(q1, .inl (E.2.1 1, 700, .inl (fun _ => 0)))]) ++ scW E (aS q2 b2) scr0) ++ scW E (aS q3 b3) scr0) ++ rdW E (aQ q4 b4) (b4 0) ((aS q3 b3) 0 0) ((aS q3 b3) 5 0)) ++ (wMill E (cA0 q5 b5) (b5 0) q2 uMill ++ wLArr E 7 b5 z0)) ++ wHall E (cA0 q6 b6) hall0) ++ wHall E (cA0 q7 b7) hall0) ++ wHall E (cA0 q8 b8) hall0) ++ wSteps E (cA0 q9 b9) z0) ++ wNotes E (cA0 q10 b10) (sI z0 6 (-1))) ++ [(q11, .inl (E.2.1 0, 600, .inl (fun _ => 0)))]) ++ wOrder E (cA0 q12 b12) (sI z0 3 1)) ++ [(q13, .inl (E.2.1 0, 114, .inl (fun _ => 0)))])) _ _ := hF
  exact kk _ ls _ _ (mkF [(fun _ => q1), (unS (aS q2 b2)), (unS (aS q3 b3)), (unS (aQ q4 b4)), (cA0 q5 b5), (cA0 q6 b6), (cA0 q7 b7), (cA0 q8 b8), (cA0 q9 b9), (cA0 q10 b10), (fun _ => q11), (cA0 q12 b12), (fun _ => q13), (fun _ => 0), (fun _ => 0), (fun _ => 0), (fun _ => 0), (fun _ => 0), (fun _ => 0), (fun _ => 0), (fun _ => b4 0)]) hF dX11_init_173
