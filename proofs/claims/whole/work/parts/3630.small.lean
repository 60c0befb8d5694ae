/-! the small constructors -/
theorem mw_32 : Cond.instanceMethod Lib.objectInit ∈ gtbl := mg (List.mem_of_getElem? (i := 32) (by decide +kernel)) (by decide +kernel)
theorem mw_33 : Cond.code Lib.objectInit ⟨#[0xb1]⟩ 1 none ∈ gtbl := mg (List.mem_of_getElem? (i := 33) (by decide +kernel)) (by decide +kernel)
theorem mw_81 : Cond.methodLink RX0 3 Lib.objectInit ∈ gtbl := mg (List.mem_of_getElem? (i := 81) (by decide +kernel)) (by decide +kernel)
theorem mw_74 : Cond.arrayClass .int ∈ gtbl := mg (List.mem_of_getElem? (i := 74) (by decide +kernel)) (by decide +kernel)
theorem mw_100 : Cond.arrayClass .long ∈ gtbl := mg (List.mem_of_getElem? (i := 100) (by decide +kernel)) (by decide +kernel)
theorem mw_45 : Cond.methodLink RX7 3 Lib.objectInit ∈ gtbl := mg (List.mem_of_getElem? (i := 45) (by decide +kernel)) (by decide +kernel)
theorem mw_436 : Cond.methodLink RX3 3 Lib.objectInit ∈ gtbl := mg (List.mem_of_getElem? (i := 436) (by decide +kernel)) (by decide +kernel)
theorem mw_461 : Cond.arrayClass .boolean ∈ gtbl := mg (List.mem_of_getElem? (i := 461) (by decide +kernel)) (by decide +kernel)
theorem mw_467 : Cond.methodLink RX4 3 Lib.objectInit ∈ gtbl := mg (List.mem_of_getElem? (i := 467) (by decide +kernel)) (by decide +kernel)
theorem mw_253 : Cond.methodLink RX5 3 Lib.objectInit ∈ gtbl := mg (List.mem_of_getElem? (i := 253) (by decide +kernel)) (by decide +kernel)
theorem mw_416 : Cond.methodLink RX9 1 Lib.objectInit ∈ gtbl := mg (List.mem_of_getElem? (i := 416) (by decide +kernel)) (by decide +kernel)
theorem mw_300 : Cond.methodLink RX2 3 Lib.objectInit ∈ gtbl := mg (List.mem_of_getElem? (i := 300) (by decide +kernel)) (by decide +kernel)
theorem mw_341 : Cond.methodLink RX1 3 Lib.objectInit ∈ gtbl := mg (List.mem_of_getElem? (i := 341) (by decide +kernel)) (by decide +kernel)
theorem mw_342 : Cond.methodLink RX1 24 yX1_begin ∈ gtbl := mg (List.mem_of_getElem? (i := 342) (by decide +kernel)) (by decide +kernel)
theorem dX0_init_0 : decode cX0_init 0 = .ok (.aload_n 0, 1) := by decide +kernel
theorem dX0_init_1 : decode cX0_init 1 = .ok (.invokespecial 3, 3) := by decide +kernel
theorem dX0_init_5 : decode cX0_init 5 = .ok (.bipush 64, 2) := by decide +kernel
theorem dX0_init_4 : decode cX0_init 4 = .ok (.aload_n 0, 1) := by decide +kernel
theorem dX0_init_7 : decode cX0_init 7 = .ok (.newarray .int, 2) := by decide +kernel
theorem dX0_init_9 : decode cX0_init 9 = .ok (.putfield 9, 3) := by decide +kernel
theorem dX0_init_13 : decode cX0_init 13 = .ok (.bipush 64, 2) := by decide +kernel
theorem dX0_init_12 : decode cX0_init 12 = .ok (.aload_n 0, 1) := by decide +kernel
theorem dX0_init_15 : decode cX0_init 15 = .ok (.newarray .int, 2) := by decide +kernel
theorem dX0_init_17 : decode cX0_init 17 = .ok (.putfield 15, 3) := by decide +kernel
theorem dX0_init_21 : decode cX0_init 21 = .ok (.bipush 64, 2) := by decide +kernel
theorem dX0_init_20 : decode cX0_init 20 = .ok (.aload_n 0, 1) := by decide +kernel
theorem dX0_init_23 : decode cX0_init 23 = .ok (.newarray .long, 2) := by decide +kernel
theorem dX0_init_25 : decode cX0_init 25 = .ok (.putfield 18, 3) := by decide +kernel
theorem dX0_init_29 : decode cX0_init 29 = .ok (.iconst 0, 1) := by decide +kernel
theorem dX0_init_28 : decode cX0_init 28 = .ok (.aload_n 0, 1) := by decide +kernel
theorem dX0_init_30 : decode cX0_init 30 = .ok (.putfield 22, 3) := by decide +kernel
theorem dX0_init_34 : decode cX0_init 34 = .ok (.iconst 0, 1) := by decide +kernel
theorem dX0_init_33 : decode cX0_init 33 = .ok (.aload_n 0, 1) := by decide +kernel
theorem dX0_init_35 : decode cX0_init 35 = .ok (.putfield 26, 3) := by decide +kernel
theorem dX0_init_38 : decode cX0_init 38 = .ok (.return_, 1) := by decide +kernel
theorem dX7_init_0 : decode cX7_init 0 = .ok (.aload_n 0, 1) := by decide +kernel
theorem dX7_init_1 : decode cX7_init 1 = .ok (.invokespecial 3, 3) := by decide +kernel
theorem dX7_init_5 : decode cX7_init 5 = .ok (.iconst 0, 1) := by decide +kernel
theorem dX7_init_4 : decode cX7_init 4 = .ok (.aload_n 0, 1) := by decide +kernel
theorem dX7_init_6 : decode cX7_init 6 = .ok (.putfield 9, 3) := by decide +kernel
theorem dX7_init_10 : decode cX7_init 10 = .ok (.iload_n 1, 1) := by decide +kernel
theorem dX7_init_9 : decode cX7_init 9 = .ok (.aload_n 0, 1) := by decide +kernel
theorem dX7_init_11 : decode cX7_init 11 = .ok (.putfield 15, 3) := by decide +kernel
theorem dX7_init_15 : decode cX7_init 15 = .ok (.iload_n 1, 1) := by decide +kernel
theorem dX7_init_14 : decode cX7_init 14 = .ok (.aload_n 0, 1) := by decide +kernel
theorem dX7_init_16 : decode cX7_init 16 = .ok (.newarray .int, 2) := by decide +kernel
theorem dX7_init_18 : decode cX7_init 18 = .ok (.putfield 18, 3) := by decide +kernel
theorem dX7_init_22 : decode cX7_init 22 = .ok (.iload_n 1, 1) := by decide +kernel
theorem dX7_init_21 : decode cX7_init 21 = .ok (.aload_n 0, 1) := by decide +kernel
theorem dX7_init_23 : decode cX7_init 23 = .ok (.newarray .int, 2) := by decide +kernel
theorem dX7_init_25 : decode cX7_init 25 = .ok (.putfield 22, 3) := by decide +kernel
theorem dX7_init_29 : decode cX7_init 29 = .ok (.iload_n 1, 1) := by decide +kernel
theorem dX7_init_28 : decode cX7_init 28 = .ok (.aload_n 0, 1) := by decide +kernel
theorem dX7_init_30 : decode cX7_init 30 = .ok (.newarray .int, 2) := by decide +kernel
theorem dX7_init_32 : decode cX7_init 32 = .ok (.putfield 25, 3) := by decide +kernel
theorem dX7_init_36 : decode cX7_init 36 = .ok (.iload_n 1, 1) := by decide +kernel
theorem dX7_init_35 : decode cX7_init 35 = .ok (.aload_n 0, 1) := by decide +kernel
theorem dX7_init_37 : decode cX7_init 37 = .ok (.newarray .int, 2) := by decide +kernel
theorem dX7_init_39 : decode cX7_init 39 = .ok (.putfield 28, 3) := by decide +kernel
theorem dX7_init_42 : decode cX7_init 42 = .ok (.return_, 1) := by decide +kernel
theorem dX3_init_0 : decode cX3_init 0 = .ok (.aload_n 0, 1) := by decide +kernel
theorem dX3_init_1 : decode cX3_init 1 = .ok (.invokespecial 3, 3) := by decide +kernel
theorem dX3_init_5 : decode cX3_init 5 = .ok (.bipush 24, 2) := by decide +kernel
theorem dX3_init_4 : decode cX3_init 4 = .ok (.aload_n 0, 1) := by decide +kernel
theorem dX3_init_7 : decode cX3_init 7 = .ok (.newarray .int, 2) := by decide +kernel
theorem dX3_init_9 : decode cX3_init 9 = .ok (.putfield 11, 3) := by decide +kernel
theorem dX3_init_13 : decode cX3_init 13 = .ok (.bipush 24, 2) := by decide +kernel
theorem dX3_init_12 : decode cX3_init 12 = .ok (.aload_n 0, 1) := by decide +kernel
theorem dX3_init_15 : decode cX3_init 15 = .ok (.newarray .int, 2) := by decide +kernel
theorem dX3_init_17 : decode cX3_init 17 = .ok (.putfield 15, 3) := by decide +kernel
theorem dX3_init_21 : decode cX3_init 21 = .ok (.bipush 24, 2) := by decide +kernel
theorem dX3_init_20 : decode cX3_init 20 = .ok (.aload_n 0, 1) := by decide +kernel
theorem dX3_init_23 : decode cX3_init 23 = .ok (.newarray .boolean, 2) := by decide +kernel
theorem dX3_init_25 : decode cX3_init 25 = .ok (.putfield 18, 3) := by decide +kernel
theorem dX3_init_29 : decode cX3_init 29 = .ok (.bipush 24, 2) := by decide +kernel
theorem dX3_init_28 : decode cX3_init 28 = .ok (.aload_n 0, 1) := by decide +kernel
theorem dX3_init_31 : decode cX3_init 31 = .ok (.newarray .int, 2) := by decide +kernel
theorem dX3_init_33 : decode cX3_init 33 = .ok (.putfield 22, 3) := by decide +kernel
theorem dX3_init_37 : decode cX3_init 37 = .ok (.bipush 24, 2) := by decide +kernel
theorem dX3_init_36 : decode cX3_init 36 = .ok (.aload_n 0, 1) := by decide +kernel
theorem dX3_init_39 : decode cX3_init 39 = .ok (.newarray .boolean, 2) := by decide +kernel
theorem dX3_init_41 : decode cX3_init 41 = .ok (.putfield 25, 3) := by decide +kernel
theorem dX3_init_45 : decode cX3_init 45 = .ok (.iconst 0, 1) := by decide +kernel
theorem dX3_init_44 : decode cX3_init 44 = .ok (.aload_n 0, 1) := by decide +kernel
theorem dX3_init_46 : decode cX3_init 46 = .ok (.putfield 28, 3) := by decide +kernel
theorem dX3_init_50 : decode cX3_init 50 = .ok (.iconst (-1), 1) := by decide +kernel
theorem dX3_init_49 : decode cX3_init 49 = .ok (.aload_n 0, 1) := by decide +kernel
theorem dX3_init_51 : decode cX3_init 51 = .ok (.putfield 32, 3) := by decide +kernel
theorem dX3_init_54 : decode cX3_init 54 = .ok (.return_, 1) := by decide +kernel
theorem dX4_init_0 : decode cX4_init 0 = .ok (.aload_n 0, 1) := by decide +kernel
theorem dX4_init_1 : decode cX4_init 1 = .ok (.invokespecial 3, 3) := by decide +kernel
theorem dX4_init_5 : decode cX4_init 5 = .ok (.bipush 6, 2) := by decide +kernel
theorem dX4_init_4 : decode cX4_init 4 = .ok (.aload_n 0, 1) := by decide +kernel
theorem dX4_init_7 : decode cX4_init 7 = .ok (.newarray .int, 2) := by decide +kernel
theorem dX4_init_9 : decode cX4_init 9 = .ok (.putfield 9, 3) := by decide +kernel
theorem dX4_init_13 : decode cX4_init 13 = .ok (.bipush 6, 2) := by decide +kernel
theorem dX4_init_12 : decode cX4_init 12 = .ok (.aload_n 0, 1) := by decide +kernel
theorem dX4_init_15 : decode cX4_init 15 = .ok (.newarray .int, 2) := by decide +kernel
theorem dX4_init_17 : decode cX4_init 17 = .ok (.putfield 15, 3) := by decide +kernel
theorem dX4_init_21 : decode cX4_init 21 = .ok (.iconst 0, 1) := by decide +kernel
theorem dX4_init_20 : decode cX4_init 20 = .ok (.aload_n 0, 1) := by decide +kernel
theorem dX4_init_22 : decode cX4_init 22 = .ok (.putfield 18, 3) := by decide +kernel
theorem dX4_init_26 : decode cX4_init 26 = .ok (.iconst 1, 1) := by decide +kernel
theorem dX4_init_25 : decode cX4_init 25 = .ok (.aload_n 0, 1) := by decide +kernel
theorem dX4_init_27 : decode cX4_init 27 = .ok (.putfield 22, 3) := by decide +kernel
theorem dX4_init_30 : decode cX4_init 30 = .ok (.return_, 1) := by decide +kernel
theorem dX5_init_0 : decode cX5_init 0 = .ok (.aload_n 0, 1) := by decide +kernel
theorem dX5_init_1 : decode cX5_init 1 = .ok (.invokespecial 3, 3) := by decide +kernel
theorem dX5_init_5 : decode cX5_init 5 = .ok (.bipush 72, 2) := by decide +kernel
theorem dX5_init_4 : decode cX5_init 4 = .ok (.aload_n 0, 1) := by decide +kernel
theorem dX5_init_7 : decode cX5_init 7 = .ok (.newarray .int, 2) := by decide +kernel
theorem dX5_init_9 : decode cX5_init 9 = .ok (.putfield 11, 3) := by decide +kernel
theorem dX5_init_13 : decode cX5_init 13 = .ok (.iconst 0, 1) := by decide +kernel
theorem dX5_init_12 : decode cX5_init 12 = .ok (.aload_n 0, 1) := by decide +kernel
theorem dX5_init_14 : decode cX5_init 14 = .ok (.putfield 15, 3) := by decide +kernel
theorem dX5_init_18 : decode cX5_init 18 = .ok (.iconst 0, 1) := by decide +kernel
theorem dX5_init_17 : decode cX5_init 17 = .ok (.aload_n 0, 1) := by decide +kernel
theorem dX5_init_19 : decode cX5_init 19 = .ok (.putfield 19, 3) := by decide +kernel
theorem dX5_init_23 : decode cX5_init 23 = .ok (.iconst 0, 1) := by decide +kernel
theorem dX5_init_22 : decode cX5_init 22 = .ok (.aload_n 0, 1) := by decide +kernel
theorem dX5_init_24 : decode cX5_init 24 = .ok (.putfield 22, 3) := by decide +kernel
theorem dX5_init_28 : decode cX5_init 28 = .ok (.iconst 0, 1) := by decide +kernel
theorem dX5_init_27 : decode cX5_init 27 = .ok (.aload_n 0, 1) := by decide +kernel
theorem dX5_init_29 : decode cX5_init 29 = .ok (.putfield 25, 3) := by decide +kernel
theorem dX5_init_33 : decode cX5_init 33 = .ok (.iconst 0, 1) := by decide +kernel
theorem dX5_init_32 : decode cX5_init 32 = .ok (.aload_n 0, 1) := by decide +kernel
theorem dX5_init_34 : decode cX5_init 34 = .ok (.putfield 28, 3) := by decide +kernel
theorem dX5_init_38 : decode cX5_init 38 = .ok (.aload_n 1, 1) := by decide +kernel
theorem dX5_init_37 : decode cX5_init 37 = .ok (.aload_n 0, 1) := by decide +kernel
theorem dX5_init_39 : decode cX5_init 39 = .ok (.putfield 31, 3) := by decide +kernel
theorem dX5_init_42 : decode cX5_init 42 = .ok (.return_, 1) := by decide +kernel
theorem dX9_init_0 : decode cX9_init 0 = .ok (.aload_n 0, 1) := by decide +kernel
theorem dX9_init_1 : decode cX9_init 1 = .ok (.invokespecial 1, 3) := by decide +kernel
theorem dX9_init_5 : decode cX9_init 5 = .ok (.bipush 20, 2) := by decide +kernel
theorem dX9_init_4 : decode cX9_init 4 = .ok (.aload_n 0, 1) := by decide +kernel
theorem dX9_init_7 : decode cX9_init 7 = .ok (.newarray .int, 2) := by decide +kernel
theorem dX9_init_9 : decode cX9_init 9 = .ok (.putfield 9, 3) := by decide +kernel
theorem dX9_init_13 : decode cX9_init 13 = .ok (.bipush 20, 2) := by decide +kernel
theorem dX9_init_12 : decode cX9_init 12 = .ok (.aload_n 0, 1) := by decide +kernel
theorem dX9_init_15 : decode cX9_init 15 = .ok (.newarray .int, 2) := by decide +kernel
theorem dX9_init_17 : decode cX9_init 17 = .ok (.putfield 13, 3) := by decide +kernel
theorem dX9_init_21 : decode cX9_init 21 = .ok (.bipush 20, 2) := by decide +kernel
theorem dX9_init_20 : decode cX9_init 20 = .ok (.aload_n 0, 1) := by decide +kernel
theorem dX9_init_23 : decode cX9_init 23 = .ok (.newarray .int, 2) := by decide +kernel
theorem dX9_init_25 : decode cX9_init 25 = .ok (.putfield 16, 3) := by decide +kernel
theorem dX9_init_29 : decode cX9_init 29 = .ok (.iconst 0, 1) := by decide +kernel
theorem dX9_init_28 : decode cX9_init 28 = .ok (.aload_n 0, 1) := by decide +kernel
theorem dX9_init_30 : decode cX9_init 30 = .ok (.putfield 19, 3) := by decide +kernel
theorem dX9_init_33 : decode cX9_init 33 = .ok (.return_, 1) := by decide +kernel
theorem dX2_init_0 : decode cX2_init 0 = .ok (.aload_n 0, 1) := by decide +kernel
theorem dX2_init_1 : decode cX2_init 1 = .ok (.invokespecial 3, 3) := by decide +kernel
theorem dX2_init_5 : decode cX2_init 5 = .ok (.bipush 7, 2) := by decide +kernel
theorem dX2_init_4 : decode cX2_init 4 = .ok (.aload_n 0, 1) := by decide +kernel
theorem dX2_init_7 : decode cX2_init 7 = .ok (.newarray .long, 2) := by decide +kernel
theorem dX2_init_9 : decode cX2_init 9 = .ok (.putfield 9, 3) := by decide +kernel
theorem dX2_init_13 : decode cX2_init 13 = .ok (.iconst 0, 1) := by decide +kernel
theorem dX2_init_12 : decode cX2_init 12 = .ok (.aload_n 0, 1) := by decide +kernel
theorem dX2_init_14 : decode cX2_init 14 = .ok (.putfield 15, 3) := by decide +kernel
theorem dX2_init_18 : decode cX2_init 18 = .ok (.iconst 1, 1) := by decide +kernel
theorem dX2_init_17 : decode cX2_init 17 = .ok (.aload_n 0, 1) := by decide +kernel
theorem dX2_init_19 : decode cX2_init 19 = .ok (.putfield 19, 3) := by decide +kernel
theorem dX2_init_23 : decode cX2_init 23 = .ok (.iconst (-1), 1) := by decide +kernel
theorem dX2_init_22 : decode cX2_init 22 = .ok (.aload_n 0, 1) := by decide +kernel
theorem dX2_init_24 : decode cX2_init 24 = .ok (.putfield 23, 3) := by decide +kernel
theorem dX2_init_28 : decode cX2_init 28 = .ok (.iconst 1, 1) := by decide +kernel
theorem dX2_init_27 : decode cX2_init 27 = .ok (.aload_n 0, 1) := by decide +kernel
theorem dX2_init_29 : decode cX2_init 29 = .ok (.putfield 26, 3) := by decide +kernel
theorem dX2_init_33 : decode cX2_init 33 = .ok (.iconst 0, 1) := by decide +kernel
theorem dX2_init_32 : decode cX2_init 32 = .ok (.aload_n 0, 1) := by decide +kernel
theorem dX2_init_34 : decode cX2_init 34 = .ok (.putfield 29, 3) := by decide +kernel
theorem dX2_init_38 : decode cX2_init 38 = .ok (.iconst (-1), 1) := by decide +kernel
theorem dX2_init_37 : decode cX2_init 37 = .ok (.aload_n 0, 1) := by decide +kernel
theorem dX2_init_39 : decode cX2_init 39 = .ok (.putfield 32, 3) := by decide +kernel
theorem dX2_init_43 : decode cX2_init 43 = .ok (.iconst 0, 1) := by decide +kernel
theorem dX2_init_42 : decode cX2_init 42 = .ok (.aload_n 0, 1) := by decide +kernel
theorem dX2_init_44 : decode cX2_init 44 = .ok (.putfield 35, 3) := by decide +kernel
theorem dX2_init_48 : decode cX2_init 48 = .ok (.aload_n 1, 1) := by decide +kernel
theorem dX2_init_47 : decode cX2_init 47 = .ok (.aload_n 0, 1) := by decide +kernel
theorem dX2_init_49 : decode cX2_init 49 = .ok (.putfield 38, 3) := by decide +kernel
theorem dX2_init_52 : decode cX2_init 52 = .ok (.return_, 1) := by decide +kernel
theorem dX1_init_0 : decode cX1_init 0 = .ok (.aload_n 0, 1) := by decide +kernel
theorem dX1_init_1 : decode cX1_init 1 = .ok (.invokespecial 3, 3) := by decide +kernel
theorem dX1_init_5 : decode cX1_init 5 = .ok (.iconst 4, 1) := by decide +kernel
theorem dX1_init_4 : decode cX1_init 4 = .ok (.aload_n 0, 1) := by decide +kernel
theorem dX1_init_6 : decode cX1_init 6 = .ok (.newarray .int, 2) := by decide +kernel
theorem dX1_init_8 : decode cX1_init 8 = .ok (.putfield 9, 3) := by decide +kernel
theorem dX1_init_12 : decode cX1_init 12 = .ok (.bipush 6, 2) := by decide +kernel
theorem dX1_init_11 : decode cX1_init 11 = .ok (.aload_n 0, 1) := by decide +kernel
theorem dX1_init_14 : decode cX1_init 14 = .ok (.newarray .int, 2) := by decide +kernel
theorem dX1_init_16 : decode cX1_init 16 = .ok (.putfield 15, 3) := by decide +kernel
theorem dX1_init_20 : decode cX1_init 20 = .ok (.bipush 6, 2) := by decide +kernel
theorem dX1_init_19 : decode cX1_init 19 = .ok (.aload_n 0, 1) := by decide +kernel
theorem dX1_init_22 : decode cX1_init 22 = .ok (.newarray .int, 2) := by decide +kernel
theorem dX1_init_24 : decode cX1_init 24 = .ok (.putfield 18, 3) := by decide +kernel
theorem dX1_init_28 : decode cX1_init 28 = .ok (.bipush 6, 2) := by decide +kernel
theorem dX1_init_27 : decode cX1_init 27 = .ok (.aload_n 0, 1) := by decide +kernel
theorem dX1_init_30 : decode cX1_init 30 = .ok (.newarray .int, 2) := by decide +kernel
theorem dX1_init_32 : decode cX1_init 32 = .ok (.putfield 21, 3) := by decide +kernel
theorem dX1_init_36 : decode cX1_init 36 = .ok (.iconst 0, 1) := by decide +kernel
theorem dX1_init_35 : decode cX1_init 35 = .ok (.aload_n 0, 1) := by decide +kernel
theorem dX1_init_37 : decode cX1_init 37 = .ok (.invokevirtual 24, 3) := by decide +kernel
theorem dX1_init_40 : decode cX1_init 40 = .ok (.return_, 1) := by decide +kernel
theorem lk_X1_24 : LkV RX1 24 yX1_begin cX1_begin 3 none 1 := ⟨mw_342, mw_343, ms_X1_begin, mw_13, mw_345, ⟨by decide, by decide⟩, by decide +kernel⟩
set_option maxHeartbeats 4000000 in
set_option maxRecDepth 20000 in
theorem iX0 (l : Launch) (E : Ev) (kA vA : Nat → Nat) (h0 : Nat) (sz : Nat) : CI l E kA vA yX0_init cX0_init 1 (rmc 1 12 3 192) [(h0, .inr (0, [.null, .null, .null, .int 0, .int 0]))] [] [.ref h0] (fun a => wFormula E (cA0 h0 a) z0) sz := by
  refine CI.of (own := RX0) rfl (by decide) rfl (Nat.le_of_ble_eq_true rfl) ?_ sz
  intro p e R s m args below meth c ls Q A hR1 hR2 hR3 hR4 C hin2 hK hN hA hA0 hF hrs hrn hl kk
  change R.frames = 1 at hR1
  change R.locals = 12 at hR2
  change R.cells = 3 at hR3
  change R.slots = 192 at hR4
  have hl : lv_has ls 1 [(0, .ref h0)] := hl
  refine lv_aload_n C.1 C.2.1 dX0_init_0 rfl (lv_at hl 0 rfl) ?_
  refine nx_obj C mw_81 mw_32 mw_33 hl.1 dX0_init_1 (by omega) (by show 0 + 12 ≤ R.locals; omega) ?_
  refine nx_arr C hK.1 hin2 hA cfX0 (lv_at hl 0 rfl) hF 0 rfl rfl mw_74 (64, .inl (fun _ => 0)) (fun _ => rfl) rfl (by omega) (by decide) (by omega) (by omega) (lv_bipush C.1 C.2.1 (v := 64) dX0_init_5 (by decide)) 0 (by decide) mw_82 rfl (fun _ => ⟨rfl, rfl⟩) (Nat.le_of_ble_eq_true rfl) dX0_init_4 dX0_init_7 dX0_init_9 (fun q1 H locs hF => ?_)
  refine nx_arr C hK.1 hin2 hA cfX0 (lv_at hl 0 rfl) hF 0 rfl rfl mw_74 (64, .inl (fun _ => 0)) (fun _ => rfl) rfl (by omega) (by decide) (by omega) (by omega) (lv_bipush C.1 C.2.1 (v := 64) dX0_init_13 (by decide)) 1 (by decide) mw_83 rfl (fun _ => ⟨rfl, rfl⟩) (Nat.le_of_ble_eq_true rfl) dX0_init_12 dX0_init_15 dX0_init_17 (fun q2 H locs hF => ?_)
  refine nx_arr C hK.1 hin2 hA cfX0 (lv_at hl 0 rfl) hF 3 rfl rfl mw_100 (64, .inr (.inl (fun _ => 0))) (fun _ => rfl) rfl (by omega) (by decide) (by omega) (by omega) (lv_bipush C.1 C.2.1 (v := 64) dX0_init_21 (by decide)) 2 (by decide) mw_84 rfl (fun _ => ⟨rfl, rfl⟩) (Nat.le_of_ble_eq_true rfl) dX0_init_20 dX0_init_23 dX0_init_25 (fun q3 H locs hF => ?_)
  refine nx_val C hK.1 hin2 cfX0 (lv_at hl 0 rfl) hF (lv_iconst C.1 C.2.1 (v := 0) dX0_init_29 (by decide)) 3 (by decide) mw_85 rfl rfl rfl (Nat.le_of_ble_eq_true rfl) dX0_init_28 dX0_init_30 (fun H locs hF => ?_)
  refine nx_val C hK.1 hin2 cfX0 (lv_at hl 0 rfl) hF (lv_iconst C.1 C.2.1 (v := 0) dX0_init_34 (by decide)) 4 (by decide) mw_86 rfl rfl rfl (Nat.le_of_ble_eq_true rfl) dX0_init_33 dX0_init_35 (fun H locs hF => ?_)
  refine W.widen (k := 3) (n := 192) (by omega) (by omega) ?_
  exact kk _ ls _ _ (mkA [q1, q2, q3]) hF dX0_init_38
set_option maxHeartbeats 4000000 in
set_option maxRecDepth 20000 in
theorem iX7 (l : Launch) (E : Ev) (kA vA : Nat → Nat) (h0 n : Nat) (hn : n ≤ 14) (sz : Nat) : CI l E kA vA yX7_init cX7_init 2 (rmc 1 12 4 (4 * n)) [(h0, .inr (7, [.int 0, .null, .null, .null, .null, .int 0]))] [] [.ref h0, .int (nI n)] (fun a => wRoll E n (cA0 h0 a) (sI z0 0 (nI n))) sz := by
  refine CI.of (own := RX7) rfl (by decide) rfl (Nat.le_of_ble_eq_true rfl) ?_ sz
  intro p e R s m args below meth c ls Q A hR1 hR2 hR3 hR4 C hin2 hK hN hA hA0 hF hrs hrn hl kk
  change R.frames = 1 at hR1
  change R.locals = 12 at hR2
  change R.cells = 4 at hR3
  change R.slots = (4 * n) at hR4
  have hl : lv_has ls 2 [(0, .ref h0), (1, .int (nI n))] := hl
  refine lv_aload_n C.1 C.2.1 dX7_init_0 rfl (lv_at hl 0 rfl) ?_
  refine nx_obj C mw_45 mw_32 mw_33 hl.1 dX7_init_1 (by omega) (by show 0 + 12 ≤ R.locals; omega) ?_
  refine nx_val C hK.1 hin2 cfX7 (lv_at hl 0 rfl) hF (lv_iconst C.1 C.2.1 (v := 0) dX7_init_5 (by decide)) 5 (by decide) mw_56 rfl rfl rfl (Nat.le_of_ble_eq_true rfl) dX7_init_4 dX7_init_6 (fun H locs hF => ?_)
  refine nx_val C hK.1 hin2 cfX7 (lv_at hl 0 rfl) hF (lv_iload_n C.1 C.2.1 dX7_init_10 rfl (lv_at hl 1 rfl)) 0 (by decide) mw_46 rfl rfl rfl (Nat.le_of_ble_eq_true rfl) dX7_init_9 dX7_init_11 (fun H locs hF => ?_)
  refine nx_arr C hK.1 hin2 hA cfX7 (lv_at hl 0 rfl) hF 0 rfl rfl mw_74 (n, .inl (fun _ => 0)) (fun _ => rfl) rfl (by omega) (by decide) (by omega) (by omega) (lv_iload_n C.1 C.2.1 dX7_init_15 rfl (lv_at hl 1 rfl)) 1 (by decide) mw_47 rfl (fun _ => ⟨rfl, rfl⟩) (Nat.le_of_ble_eq_true rfl) dX7_init_14 dX7_init_16 dX7_init_18 (fun q1 H locs hF => ?_)
  refine nx_arr C hK.1 hin2 hA cfX7 (lv_at hl 0 rfl) hF 0 rfl rfl mw_74 (n, .inl (fun _ => 0)) (fun _ => rfl) rfl (by omega) (by decide) (by omega) (by omega) (lv_iload_n C.1 C.2.1 dX7_init_22 rfl (lv_at hl 1 rfl)) 2 (by decide) mw_48 rfl (fun _ => ⟨rfl, rfl⟩) (Nat.le_of_ble_eq_true rfl) dX7_init_21 dX7_init_23 dX7_init_25 (fun q2 H locs hF => ?_)
  refine nx_arr C hK.1 hin2 hA cfX7 (lv_at hl 0 rfl) hF 0 rfl rfl mw_74 (n, .inl (fun _ => 0)) (fun _ => rfl) rfl (by omega) (by decide) (by omega) (by omega) (lv_iload_n C.1 C.2.1 dX7_init_29 rfl (lv_at hl 1 rfl)) 3 (by decide) mw_51 rfl (fun _ => ⟨rfl, rfl⟩) (Nat.le_of_ble_eq_true rfl) dX7_init_28 dX7_init_30 dX7_init_32 (fun q3 H locs hF => ?_)
  refine nx_arr C hK.1 hin2 hA cfX7 (lv_at hl 0 rfl) hF 0 rfl rfl mw_74 (n, .inl (fun _ => 0)) (fun _ => rfl) rfl (by omega) (by decide) (by omega) (by omega) (lv_iload_n C.1 C.2.1 dX7_init_36 rfl (lv_at hl 1 rfl)) 4 (by decide) mw_54 rfl (fun _ => ⟨rfl, rfl⟩) (Nat.le_of_ble_eq_true rfl) dX7_init_35 dX7_init_37 dX7_init_39 (fun q4 H locs hF => ?_)
  refine W.widen (k := 4) (n := (4 * n)) (by omega) (by omega) ?_
  exact kk _ ls _ _ (mkA [q1, q2, q3, q4]) hF dX7_init_42
set_option maxHeartbeats 4000000 in
set_option maxRecDepth 20000 in
theorem iX3 (l : Launch) (E : Ev) (kA vA : Nat → Nat) (h0 : Nat) (sz : Nat) : CI l E kA vA yX3_init cX3_init 1 (rmc 1 12 5 120) [(h0, .inr (3, [.null, .null, .null, .null, .null, .int 0, .int 0]))] [] [.ref h0] (fun a => wNotes E (cA0 h0 a) (sI z0 6 (-1))) sz := by
  refine CI.of (own := RX3) rfl (by decide) rfl (Nat.le_of_ble_eq_true rfl) ?_ sz
  intro p e R s m args below meth c ls Q A hR1 hR2 hR3 hR4 C hin2 hK hN hA hA0 hF hrs hrn hl kk
  change R.frames = 1 at hR1
  change R.locals = 12 at hR2
  change R.cells = 5 at hR3
  change R.slots = 120 at hR4
  have hl : lv_has ls 1 [(0, .ref h0)] := hl
  refine lv_aload_n C.1 C.2.1 dX3_init_0 rfl (lv_at hl 0 rfl) ?_
  refine nx_obj C mw_436 mw_32 mw_33 hl.1 dX3_init_1 (by omega) (by show 0 + 12 ≤ R.locals; omega) ?_
  refine nx_arr C hK.1 hin2 hA cfX3 (lv_at hl 0 rfl) hF 0 rfl rfl mw_74 (24, .inl (fun _ => 0)) (fun _ => rfl) rfl (by omega) (by decide) (by omega) (by omega) (lv_bipush C.1 C.2.1 (v := 24) dX3_init_5 (by decide)) 0 (by decide) mw_437 rfl (fun _ => ⟨rfl, rfl⟩) (Nat.le_of_ble_eq_true rfl) dX3_init_4 dX3_init_7 dX3_init_9 (fun q1 H locs hF => ?_)
  refine nx_arr C hK.1 hin2 hA cfX3 (lv_at hl 0 rfl) hF 0 rfl rfl mw_74 (24, .inl (fun _ => 0)) (fun _ => rfl) rfl (by omega) (by decide) (by omega) (by omega) (lv_bipush C.1 C.2.1 (v := 24) dX3_init_13 (by decide)) 1 (by decide) mw_438 rfl (fun _ => ⟨rfl, rfl⟩) (Nat.le_of_ble_eq_true rfl) dX3_init_12 dX3_init_15 dX3_init_17 (fun q2 H locs hF => ?_)
  refine nx_arr C hK.1 hin2 hA cfX3 (lv_at hl 0 rfl) hF 2 rfl rfl mw_461 (24, .inl (fun _ => 0)) (fun _ => rfl) rfl (by omega) (by decide) (by omega) (by omega) (lv_bipush C.1 C.2.1 (v := 24) dX3_init_21 (by decide)) 2 (by decide) mw_439 rfl (fun _ => ⟨rfl, rfl⟩) (Nat.le_of_ble_eq_true rfl) dX3_init_20 dX3_init_23 dX3_init_25 (fun q3 H locs hF => ?_)
  refine nx_arr C hK.1 hin2 hA cfX3 (lv_at hl 0 rfl) hF 0 rfl rfl mw_74 (24, .inl (fun _ => 0)) (fun _ => rfl) rfl (by omega) (by decide) (by omega) (by omega) (lv_bipush C.1 C.2.1 (v := 24) dX3_init_29 (by decide)) 3 (by decide) mw_440 rfl (fun _ => ⟨rfl, rfl⟩) (Nat.le_of_ble_eq_true rfl) dX3_init_28 dX3_init_31 dX3_init_33 (fun q4 H locs hF => ?_)
  refine nx_arr C hK.1 hin2 hA cfX3 (lv_at hl 0 rfl) hF 2 rfl rfl mw_461 (24, .inl (fun _ => 0)) (fun _ => rfl) rfl (by omega) (by decide) (by omega) (by omega) (lv_bipush C.1 C.2.1 (v := 24) dX3_init_37 (by decide)) 4 (by decide) mw_441 rfl (fun _ => ⟨rfl, rfl⟩) (Nat.le_of_ble_eq_true rfl) dX3_init_36 dX3_init_39 dX3_init_41 (fun q5 H locs hF => ?_)
  refine nx_val C hK.1 hin2 cfX3 (lv_at hl 0 rfl) hF (lv_iconst C.1 C.2.1 (v := 0) dX3_init_45 (by decide)) 5 (by decide) mw_442 rfl rfl rfl (Nat.le_of_ble_eq_true rfl) dX3_init_44 dX3_init_46 (fun H locs hF => ?_)
  refine nx_val C hK.1 hin2 cfX3 (lv_at hl 0 rfl) hF (lv_iconst C.1 C.2.1 (v := (-1)) dX3_init_50 (by decide)) 6 (by decide) mw_444 rfl rfl rfl (Nat.le_of_ble_eq_true rfl) dX3_init_49 dX3_init_51 (fun H locs hF => ?_)
  refine W.widen (k := 5) (n := 120) (by omega) (by omega) ?_
  exact kk _ ls _ _ (mkA [q1, q2, q3, q4, q5]) hF dX3_init_54
set_option maxHeartbeats 4000000 in
set_option maxRecDepth 20000 in
theorem iX4 (l : Launch) (E : Ev) (kA vA : Nat → Nat) (h0 : Nat) (sz : Nat) : CI l E kA vA yX4_init cX4_init 1 (rmc 1 12 2 12) [(h0, .inr (4, [.null, .null, .int 0, .int 0]))] [] [.ref h0] (fun a => wOrder E (cA0 h0 a) (sI z0 3 1)) sz := by
  refine CI.of (own := RX4) rfl (by decide) rfl (Nat.le_of_ble_eq_true rfl) ?_ sz
  intro p e R s m args below meth c ls Q A hR1 hR2 hR3 hR4 C hin2 hK hN hA hA0 hF hrs hrn hl kk
  change R.frames = 1 at hR1
  change R.locals = 12 at hR2
  change R.cells = 2 at hR3
  change R.slots = 12 at hR4
  have hl : lv_has ls 1 [(0, .ref h0)] := hl
  refine lv_aload_n C.1 C.2.1 dX4_init_0 rfl (lv_at hl 0 rfl) ?_
  refine nx_obj C mw_467 mw_32 mw_33 hl.1 dX4_init_1 (by omega) (by show 0 + 12 ≤ R.locals; omega) ?_
  refine nx_arr C hK.1 hin2 hA cfX4 (lv_at hl 0 rfl) hF 0 rfl rfl mw_74 (6, .inl (fun _ => 0)) (fun _ => rfl) rfl (by omega) (by decide) (by omega) (by omega) (lv_bipush C.1 C.2.1 (v := 6) dX4_init_5 (by decide)) 0 (by decide) mw_468 rfl (fun _ => ⟨rfl, rfl⟩) (Nat.le_of_ble_eq_true rfl) dX4_init_4 dX4_init_7 dX4_init_9 (fun q1 H locs hF => ?_)
  refine nx_arr C hK.1 hin2 hA cfX4 (lv_at hl 0 rfl) hF 0 rfl rfl mw_74 (6, .inl (fun _ => 0)) (fun _ => rfl) rfl (by omega) (by decide) (by omega) (by omega) (lv_bipush C.1 C.2.1 (v := 6) dX4_init_13 (by decide)) 1 (by decide) mw_470 rfl (fun _ => ⟨rfl, rfl⟩) (Nat.le_of_ble_eq_true rfl) dX4_init_12 dX4_init_15 dX4_init_17 (fun q2 H locs hF => ?_)
  refine nx_val C hK.1 hin2 cfX4 (lv_at hl 0 rfl) hF (lv_iconst C.1 C.2.1 (v := 0) dX4_init_21 (by decide)) 2 (by decide) mw_472 rfl rfl rfl (Nat.le_of_ble_eq_true rfl) dX4_init_20 dX4_init_22 (fun H locs hF => ?_)
  refine nx_val C hK.1 hin2 cfX4 (lv_at hl 0 rfl) hF (lv_iconst C.1 C.2.1 (v := 1) dX4_init_26 (by decide)) 3 (by decide) mw_473 rfl rfl rfl (Nat.le_of_ble_eq_true rfl) dX4_init_25 dX4_init_27 (fun H locs hF => ?_)
  refine W.widen (k := 2) (n := 12) (by omega) (by omega) ?_
  exact kk _ ls _ _ (mkA [q1, q2]) hF dX4_init_30
set_option maxHeartbeats 4000000 in
set_option maxRecDepth 20000 in
theorem iX5 (l : Launch) (E : Ev) (kA vA : Nat → Nat) (h0 h1 : Nat) (sz : Nat) : CI l E kA vA yX5_init cX5_init 2 (rmc 1 12 1 72) [(h0, .inr (5, [.null, .int 0, .int 0, .int 0, .int 0, .int 0, .null]))] [] [.ref h0, .ref h1] (fun a => wPhrase E (cA0 h0 a) h1 z0) sz := by
  refine CI.of (own := RX5) rfl (by decide) rfl (Nat.le_of_ble_eq_true rfl) ?_ sz
  intro p e R s m args below meth c ls Q A hR1 hR2 hR3 hR4 C hin2 hK hN hA hA0 hF hrs hrn hl kk
  change R.frames = 1 at hR1
  change R.locals = 12 at hR2
  change R.cells = 1 at hR3
  change R.slots = 72 at hR4
  have hl : lv_has ls 2 [(0, .ref h0), (1, .ref h1)] := hl
  refine lv_aload_n C.1 C.2.1 dX5_init_0 rfl (lv_at hl 0 rfl) ?_
  refine nx_obj C mw_253 mw_32 mw_33 hl.1 dX5_init_1 (by omega) (by show 0 + 12 ≤ R.locals; omega) ?_
  refine nx_arr C hK.1 hin2 hA cfX5 (lv_at hl 0 rfl) hF 0 rfl rfl mw_74 (72, .inl (fun _ => 0)) (fun _ => rfl) rfl (by omega) (by decide) (by omega) (by omega) (lv_bipush C.1 C.2.1 (v := 72) dX5_init_5 (by decide)) 0 (by decide) mw_254 rfl (fun _ => ⟨rfl, rfl⟩) (Nat.le_of_ble_eq_true rfl) dX5_init_4 dX5_init_7 dX5_init_9 (fun q1 H locs hF => ?_)
  refine nx_val C hK.1 hin2 cfX5 (lv_at hl 0 rfl) hF (lv_iconst C.1 C.2.1 (v := 0) dX5_init_13 (by decide)) 1 (by decide) mw_255 rfl rfl rfl (Nat.le_of_ble_eq_true rfl) dX5_init_12 dX5_init_14 (fun H locs hF => ?_)
  refine nx_val C hK.1 hin2 cfX5 (lv_at hl 0 rfl) hF (lv_iconst C.1 C.2.1 (v := 0) dX5_init_18 (by decide)) 2 (by decide) mw_256 rfl rfl rfl (Nat.le_of_ble_eq_true rfl) dX5_init_17 dX5_init_19 (fun H locs hF => ?_)
  refine nx_val C hK.1 hin2 cfX5 (lv_at hl 0 rfl) hF (lv_iconst C.1 C.2.1 (v := 0) dX5_init_23 (by decide)) 3 (by decide) mw_257 rfl rfl rfl (Nat.le_of_ble_eq_true rfl) dX5_init_22 dX5_init_24 (fun H locs hF => ?_)
  refine nx_val C hK.1 hin2 cfX5 (lv_at hl 0 rfl) hF (lv_iconst C.1 C.2.1 (v := 0) dX5_init_28 (by decide)) 4 (by decide) mw_259 rfl rfl rfl (Nat.le_of_ble_eq_true rfl) dX5_init_27 dX5_init_29 (fun H locs hF => ?_)
  refine nx_val C hK.1 hin2 cfX5 (lv_at hl 0 rfl) hF (lv_iconst C.1 C.2.1 (v := 0) dX5_init_33 (by decide)) 5 (by decide) mw_260 rfl rfl rfl (Nat.le_of_ble_eq_true rfl) dX5_init_32 dX5_init_34 (fun H locs hF => ?_)
  refine nx_val C hK.1 hin2 cfX5 (lv_at hl 0 rfl) hF (lv_aload_n C.1 C.2.1 dX5_init_38 rfl (lv_at hl 1 rfl)) 6 (by decide) mw_261 rfl rfl rfl (Nat.le_of_ble_eq_true rfl) dX5_init_37 dX5_init_39 (fun H locs hF => ?_)
  refine W.widen (k := 1) (n := 72) (by omega) (by omega) ?_
  exact kk _ ls _ _ (mkA [q1]) hF dX5_init_42
set_option maxHeartbeats 4000000 in
set_option maxRecDepth 20000 in
theorem iX9 (l : Launch) (E : Ev) (kA vA : Nat → Nat) (h0 : Nat) (sz : Nat) : CI l E kA vA yX9_init cX9_init 1 (rmc 1 12 3 60) [(h0, .inr (9, [.null, .null, .null, .int 0]))] [] [.ref h0] (fun a => wSteps E (cA0 h0 a) z0) sz := by
  refine CI.of (own := RX9) rfl (by decide) rfl (Nat.le_of_ble_eq_true rfl) ?_ sz
  intro p e R s m args below meth c ls Q A hR1 hR2 hR3 hR4 C hin2 hK hN hA hA0 hF hrs hrn hl kk
  change R.frames = 1 at hR1
  change R.locals = 12 at hR2
  change R.cells = 3 at hR3
  change R.slots = 60 at hR4
  have hl : lv_has ls 1 [(0, .ref h0)] := hl
  refine lv_aload_n C.1 C.2.1 dX9_init_0 rfl (lv_at hl 0 rfl) ?_
  refine nx_obj C mw_416 mw_32 mw_33 hl.1 dX9_init_1 (by omega) (by show 0 + 12 ≤ R.locals; omega) ?_
  refine nx_arr C hK.1 hin2 hA cfX9 (lv_at hl 0 rfl) hF 0 rfl rfl mw_74 (20, .inl (fun _ => 0)) (fun _ => rfl) rfl (by omega) (by decide) (by omega) (by omega) (lv_bipush C.1 C.2.1 (v := 20) dX9_init_5 (by decide)) 0 (by decide) mw_417 rfl (fun _ => ⟨rfl, rfl⟩) (Nat.le_of_ble_eq_true rfl) dX9_init_4 dX9_init_7 dX9_init_9 (fun q1 H locs hF => ?_)
  refine nx_arr C hK.1 hin2 hA cfX9 (lv_at hl 0 rfl) hF 0 rfl rfl mw_74 (20, .inl (fun _ => 0)) (fun _ => rfl) rfl (by omega) (by decide) (by omega) (by omega) (lv_bipush C.1 C.2.1 (v := 20) dX9_init_13 (by decide)) 1 (by decide) mw_418 rfl (fun _ => ⟨rfl, rfl⟩) (Nat.le_of_ble_eq_true rfl) dX9_init_12 dX9_init_15 dX9_init_17 (fun q2 H locs hF => ?_)
  refine nx_arr C hK.1 hin2 hA cfX9 (lv_at hl 0 rfl) hF 0 rfl rfl mw_74 (20, .inl (fun _ => 0)) (fun _ => rfl) rfl (by omega) (by decide) (by omega) (by omega) (lv_bipush C.1 C.2.1 (v := 20) dX9_init_21 (by decide)) 2 (by decide) mw_419 rfl (fun _ => ⟨rfl, rfl⟩) (Nat.le_of_ble_eq_true rfl) dX9_init_20 dX9_init_23 dX9_init_25 (fun q3 H locs hF => ?_)
  refine nx_val C hK.1 hin2 cfX9 (lv_at hl 0 rfl) hF (lv_iconst C.1 C.2.1 (v := 0) dX9_init_29 (by decide)) 3 (by decide) mw_420 rfl rfl rfl (Nat.le_of_ble_eq_true rfl) dX9_init_28 dX9_init_30 (fun H locs hF => ?_)
  refine W.widen (k := 3) (n := 60) (by omega) (by omega) ?_
  exact kk _ ls _ _ (mkA [q1, q2, q3]) hF dX9_init_33
def uMill : St := sI (sI (sI (sI z0 3 1) 4 (-1)) 5 1) 7 (-1)
set_option maxHeartbeats 4000000 in
set_option maxRecDepth 20000 in
theorem iX2 (l : Launch) (E : Ev) (kA vA : Nat → Nat) (h0 h1 : Nat) (sz : Nat) : CI l E kA vA yX2_init cX2_init 2 (rmc 1 12 1 7) [(h0, .inr (2, [.null, .null, .int 0, .int 0, .int 0, .int 0, .int 0, .int 0, .int 0]))] [] [.ref h0, .ref h1] (fun a => wMill E (cA0 h0 a) (a 0) h1 uMill ++ wLArr E 7 a z0) sz := by
  refine CI.of (own := RX2) rfl (by decide) rfl (Nat.le_of_ble_eq_true rfl) ?_ sz
  intro p e R s m args below meth c ls Q A hR1 hR2 hR3 hR4 C hin2 hK hN hA hA0 hF hrs hrn hl kk
  change R.frames = 1 at hR1
  change R.locals = 12 at hR2
  change R.cells = 1 at hR3
  change R.slots = 7 at hR4
  have hl : lv_has ls 2 [(0, .ref h0), (1, .ref h1)] := hl
  refine lv_aload_n C.1 C.2.1 dX2_init_0 rfl (lv_at hl 0 rfl) ?_
  refine nx_obj C mw_300 mw_32 mw_33 hl.1 dX2_init_1 (by omega) (by show 0 + 12 ≤ R.locals; omega) ?_
  refine nx_arr C hK.1 hin2 hA cfX2 (lv_at hl 0 rfl) hF 3 rfl rfl mw_100 (7, .inr (.inl (fun _ => 0))) (fun _ => rfl) rfl (by omega) (by decide) (by omega) (by omega) (lv_bipush C.1 C.2.1 (v := 7) dX2_init_5 (by decide)) 0 (by decide) mw_301 rfl (fun _ => ⟨rfl, rfl⟩) (Nat.le_of_ble_eq_true rfl) dX2_init_4 dX2_init_7 dX2_init_9 (fun q1 H locs hF => ?_)
  refine nx_val C hK.1 hin2 cfX2 (lv_at hl 0 rfl) hF (lv_iconst C.1 C.2.1 (v := 0) dX2_init_13 (by decide)) 2 (by decide) mw_303 rfl rfl rfl (Nat.le_of_ble_eq_true rfl) dX2_init_12 dX2_init_14 (fun H locs hF => ?_)
  refine nx_val C hK.1 hin2 cfX2 (lv_at hl 0 rfl) hF (lv_iconst C.1 C.2.1 (v := 1) dX2_init_18 (by decide)) 3 (by decide) mw_305 rfl rfl rfl (Nat.le_of_ble_eq_true rfl) dX2_init_17 dX2_init_19 (fun H locs hF => ?_)
  refine nx_val C hK.1 hin2 cfX2 (lv_at hl 0 rfl) hF (lv_iconst C.1 C.2.1 (v := (-1)) dX2_init_23 (by decide)) 4 (by decide) mw_307 rfl rfl rfl (Nat.le_of_ble_eq_true rfl) dX2_init_22 dX2_init_24 (fun H locs hF => ?_)
  refine nx_val C hK.1 hin2 cfX2 (lv_at hl 0 rfl) hF (lv_iconst C.1 C.2.1 (v := 1) dX2_init_28 (by decide)) 5 (by decide) mw_309 rfl rfl rfl (Nat.le_of_ble_eq_true rfl) dX2_init_27 dX2_init_29 (fun H locs hF => ?_)
  refine nx_val C hK.1 hin2 cfX2 (lv_at hl 0 rfl) hF (lv_iconst C.1 C.2.1 (v := 0) dX2_init_33 (by decide)) 6 (by decide) mw_311 rfl rfl rfl (Nat.le_of_ble_eq_true rfl) dX2_init_32 dX2_init_34 (fun H locs hF => ?_)
  refine nx_val C hK.1 hin2 cfX2 (lv_at hl 0 rfl) hF (lv_iconst C.1 C.2.1 (v := (-1)) dX2_init_38 (by decide)) 7 (by decide) mw_313 rfl rfl rfl (Nat.le_of_ble_eq_true rfl) dX2_init_37 dX2_init_39 (fun H locs hF => ?_)
  refine nx_val C hK.1 hin2 cfX2 (lv_at hl 0 rfl) hF (lv_iconst C.1 C.2.1 (v := 0) dX2_init_43 (by decide)) 8 (by decide) mw_315 rfl rfl rfl (Nat.le_of_ble_eq_true rfl) dX2_init_42 dX2_init_44 (fun H locs hF => ?_)
  refine nx_val C hK.1 hin2 cfX2 (lv_at hl 0 rfl) hF (lv_aload_n C.1 C.2.1 dX2_init_48 rfl (lv_at hl 1 rfl)) 1 (by decide) mw_302 rfl rfl rfl (Nat.le_of_ble_eq_true rfl) dX2_init_47 dX2_init_49 (fun H locs hF => ?_)
  refine W.widen (k := 1) (n := 7) (by omega) (by omega) ?_
  exact kk _ ls _ _ (mkA [q1]) hF dX2_init_52
def hall0 : St := (fX1_begin z0 0).getD z0
theorem hall0_eq : fX1_begin z0 0 = some hall0 := by
  obtain ⟨r, e, _⟩ := begin_of z0 0
  unfold hall0
  rw [e]; rfl
set_option maxHeartbeats 4000000 in
set_option maxRecDepth 20000 in
theorem iX1 (l : Launch) (E : Ev) (kA vA : Nat → Nat) (h0 : Nat) (sz : Nat) : CI l E kA vA yX1_init cX1_init 1 (rmc 1 22 4 22) [(h0, .inr (1, [.int 0, .int 0, .int 0, .int 0, .int 0, .int 0, .int 0, .int 0, .long 0, .null, .null, .null, .null]))] [] [.ref h0] (fun a => wHall E (cA0 h0 a) hall0) sz := by
  refine CI.of (own := RX1) rfl (by decide) rfl (Nat.le_of_ble_eq_true rfl) ?_ sz
  intro p e R s m args below meth c ls Q A hR1 hR2 hR3 hR4 C hin2 hK hN hA hA0 hF hrs hrn hl kk
  change R.frames = 1 at hR1
  change R.locals = 22 at hR2
  change R.cells = 4 at hR3
  change R.slots = 22 at hR4
  have hl : lv_has ls 1 [(0, .ref h0)] := hl
  refine lv_aload_n C.1 C.2.1 dX1_init_0 rfl (lv_at hl 0 rfl) ?_
  refine nx_obj C mw_341 mw_32 mw_33 hl.1 dX1_init_1 (by omega) (by show 0 + 12 ≤ R.locals; omega) ?_
  refine nx_arr C hK.1 hin2 hA cfX1 (lv_at hl 0 rfl) hF 0 rfl rfl mw_74 (4, .inl (fun _ => 0)) (fun _ => rfl) rfl (by omega) (by decide) (by omega) (by omega) (lv_iconst C.1 C.2.1 (v := 4) dX1_init_5 (by decide)) 9 (by decide) mw_373 rfl (fun _ => ⟨rfl, rfl⟩) (Nat.le_of_ble_eq_true rfl) dX1_init_4 dX1_init_6 dX1_init_8 (fun q1 H locs hF => ?_)
  refine nx_arr C hK.1 hin2 hA cfX1 (lv_at hl 0 rfl) hF 0 rfl rfl mw_74 (6, .inl (fun _ => 0)) (fun _ => rfl) rfl (by omega) (by decide) (by omega) (by omega) (lv_bipush C.1 C.2.1 (v := 6) dX1_init_12 (by decide)) 10 (by decide) mw_376 rfl (fun _ => ⟨rfl, rfl⟩) (Nat.le_of_ble_eq_true rfl) dX1_init_11 dX1_init_14 dX1_init_16 (fun q2 H locs hF => ?_)
  refine nx_arr C hK.1 hin2 hA cfX1 (lv_at hl 0 rfl) hF 0 rfl rfl mw_74 (6, .inl (fun _ => 0)) (fun _ => rfl) rfl (by omega) (by decide) (by omega) (by omega) (lv_bipush C.1 C.2.1 (v := 6) dX1_init_20 (by decide)) 11 (by decide) mw_379 rfl (fun _ => ⟨rfl, rfl⟩) (Nat.le_of_ble_eq_true rfl) dX1_init_19 dX1_init_22 dX1_init_24 (fun q3 H locs hF => ?_)
  refine nx_arr C hK.1 hin2 hA cfX1 (lv_at hl 0 rfl) hF 0 rfl rfl mw_74 (6, .inl (fun _ => 0)) (fun _ => rfl) rfl (by omega) (by decide) (by omega) (by omega) (lv_bipush C.1 C.2.1 (v := 6) dX1_init_28 (by decide)) 12 (by decide) mw_382 rfl (fun _ => ⟨rfl, rfl⟩) (Nat.le_of_ble_eq_true rfl) dX1_init_27 dX1_init_30 dX1_init_32 (fun q4 H locs hF => ?_)
  refine lv_aload_n C.1 C.2.1 dX1_init_35 rfl (lv_at hl 0 rfl) ?_
  refine lv_iconst C.1 C.2.1 (v := 0) dX1_init_36 (by decide) ?_
  have hF : FW E A s.heap (wHall E (cA0 h0 (mkA [q1, q2, q3, q4])) z0) _ _ := hF
  refine nx_self C hK.1 hA0 hN (tX1_begin l E (cA0 h0 (mkA [q1, q2, q3, q4])) z0 0 hall0 hall0_eq) lk_X1_24 ⟨by omega, by omega⟩ ⟨by omega, by omega⟩ hF rfl (rc_X1 hK.1 hF.1) rfl hl.1 rfl (Nat.le_of_ble_eq_true rfl) dX1_init_37 (fun H locs hF => ?_)
  refine W.widen (k := 4) (n := 22) (by omega) (by omega) ?_
  exact kk _ ls _ _ (mkA [q1, q2, q3, q4]) hF dX1_init_40
