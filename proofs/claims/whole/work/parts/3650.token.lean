theorem mw_170 : Cond.methodLink RX10 3 Lib.objectInit ∈ gtbl := mg (List.mem_of_getElem? (i := 170) (by decide +kernel)) (by decide +kernel)
theorem mw_73 : Cond.arrayClass .byte ∈ gtbl := mg (List.mem_of_getElem? (i := 73) (by decide +kernel)) (by decide +kernel)
theorem mw_196 : Cond.fieldLink RJ0 1053 "jdk/internal/util/Preconditions" "SIOOBE_FORMATTER" "Ljava/util/function/BiFunction;" ∈ gtbl := mg (List.mem_of_getElem? (i := 196) (by decide +kernel)) (by decide +kernel)
theorem mw_180 : Cond.fieldLink RJ0 38 "java/lang/String" "COMPACT_STRINGS" "Z" ∈ gtbl := mg (List.mem_of_getElem? (i := 180) (by decide +kernel)) (by decide +kernel)
theorem mw_2038 : Cond.fieldLink RJ0 15 "java/lang/String" "coder" "B" ∈ gtbl := mg (List.mem_of_getElem? (i := 2038) (by decide +kernel)) (by decide +kernel)
theorem mw_2037 : Cond.fieldLink RJ0 9 "java/lang/String" "value" "[B" ∈ gtbl := mg (List.mem_of_getElem? (i := 2037) (by decide +kernel)) (by decide +kernel)
theorem mw_176 : Cond.methodLink RJ0 335 yJ0_coder_7d493 ∈ gtbl := mg (List.mem_of_getElem? (i := 176) (by decide +kernel)) (by decide +kernel)
theorem mw_177 : Cond.instanceMethod yJ0_coder_7d493 ∈ gtbl := mg (List.mem_of_getElem? (i := 177) (by decide +kernel)) (by decide +kernel)
theorem ms_J0_coder_7d493 : Cond.selects RJ0 yJ0_coder_7d493 yJ0_coder_7d493 ∈ gtbl := mg (List.mem_of_getElem? (i := 178) (by decide +kernel)) (by decide +kernel)
theorem mw_7 : Cond.initialized RJ0 ∈ gtbl := mg (List.mem_of_getElem? (i := 7) (by decide +kernel)) (by decide +kernel)
theorem mw_179 : Cond.code yJ0_coder_7d493 cJ0_coder_7d493 1 (some .byte) ∈ gtbl := mg (List.mem_of_getElem? (i := 179) (by decide +kernel)) (by decide +kernel)
theorem mw_186 : Cond.methodLink RJ0 492 yJ0_isLatin1_aae02 ∈ gtbl := mg (List.mem_of_getElem? (i := 186) (by decide +kernel)) (by decide +kernel)
theorem mw_187 : Cond.instanceMethod yJ0_isLatin1_aae02 ∈ gtbl := mg (List.mem_of_getElem? (i := 187) (by decide +kernel)) (by decide +kernel)
theorem ms_J0_isLatin1_aae02 : Cond.selects RJ0 yJ0_isLatin1_aae02 yJ0_isLatin1_aae02 ∈ gtbl := mg (List.mem_of_getElem? (i := 188) (by decide +kernel)) (by decide +kernel)
theorem mw_189 : Cond.code yJ0_isLatin1_aae02 cJ0_isLatin1_aae02 1 (some .boolean) ∈ gtbl := mg (List.mem_of_getElem? (i := 189) (by decide +kernel)) (by decide +kernel)
theorem mw_172 : Cond.methodLink RX10 37 yJ0_length_8abf5 ∈ gtbl := mg (List.mem_of_getElem? (i := 172) (by decide +kernel)) (by decide +kernel)
theorem mw_173 : Cond.instanceMethod yJ0_length_8abf5 ∈ gtbl := mg (List.mem_of_getElem? (i := 173) (by decide +kernel)) (by decide +kernel)
theorem ms_J0_length_8abf5 : Cond.selects RJ0 yJ0_length_8abf5 yJ0_length_8abf5 ∈ gtbl := mg (List.mem_of_getElem? (i := 174) (by decide +kernel)) (by decide +kernel)
theorem mw_175 : Cond.code yJ0_length_8abf5 cJ0_length_8abf5 1 (some .int) ∈ gtbl := mg (List.mem_of_getElem? (i := 175) (by decide +kernel)) (by decide +kernel)
theorem mw_182 : Cond.methodLink RX10 43 yJ0_charAt_5068e ∈ gtbl := mg (List.mem_of_getElem? (i := 182) (by decide +kernel)) (by decide +kernel)
theorem mw_183 : Cond.instanceMethod yJ0_charAt_5068e ∈ gtbl := mg (List.mem_of_getElem? (i := 183) (by decide +kernel)) (by decide +kernel)
theorem ms_J0_charAt_5068e : Cond.selects RJ0 yJ0_charAt_5068e yJ0_charAt_5068e ∈ gtbl := mg (List.mem_of_getElem? (i := 184) (by decide +kernel)) (by decide +kernel)
theorem mw_185 : Cond.code yJ0_charAt_5068e cJ0_charAt_5068e 2 (some .char) ∈ gtbl := mg (List.mem_of_getElem? (i := 185) (by decide +kernel)) (by decide +kernel)
theorem mw_198 : Cond.methodLink RJ0 1059 yJ3_checkIndex_8e157 ∈ gtbl := mg (List.mem_of_getElem? (i := 198) (by decide +kernel)) (by decide +kernel)
theorem mw_199 : Cond.static yJ3_checkIndex_8e157 ∈ gtbl := mg (List.mem_of_getElem? (i := 199) (by decide +kernel)) (by decide +kernel)
theorem mw_9 : Cond.initialized RJ3 ∈ gtbl := mg (List.mem_of_getElem? (i := 9) (by decide +kernel)) (by decide +kernel)
theorem mw_200 : Cond.code yJ3_checkIndex_8e157 cJ3_checkIndex_8e157 3 (some .int) ∈ gtbl := mg (List.mem_of_getElem? (i := 200) (by decide +kernel)) (by decide +kernel)
theorem mw_193 : Cond.methodLink RJ1 9 yJ0_checkIndex_df160 ∈ gtbl := mg (List.mem_of_getElem? (i := 193) (by decide +kernel)) (by decide +kernel)
theorem mw_194 : Cond.static yJ0_checkIndex_df160 ∈ gtbl := mg (List.mem_of_getElem? (i := 194) (by decide +kernel)) (by decide +kernel)
theorem mw_195 : Cond.code yJ0_checkIndex_df160 cJ0_checkIndex_df160 2 none ∈ gtbl := mg (List.mem_of_getElem? (i := 195) (by decide +kernel)) (by decide +kernel)
theorem mw_190 : Cond.methodLink RJ0 495 yJ1_charAt_3b067 ∈ gtbl := mg (List.mem_of_getElem? (i := 190) (by decide +kernel)) (by decide +kernel)
theorem mw_191 : Cond.static yJ1_charAt_3b067 ∈ gtbl := mg (List.mem_of_getElem? (i := 191) (by decide +kernel)) (by decide +kernel)
theorem mw_8 : Cond.initialized RJ1 ∈ gtbl := mg (List.mem_of_getElem? (i := 8) (by decide +kernel)) (by decide +kernel)
theorem mw_192 : Cond.code yJ1_charAt_3b067 cJ1_charAt_3b067 2 (some .char) ∈ gtbl := mg (List.mem_of_getElem? (i := 192) (by decide +kernel)) (by decide +kernel)
theorem dX10_init_0 : decode cX10_init 0 = .ok (.aload_n 0, 1) := by decide +kernel
theorem dX10_init_1 : decode cX10_init 1 = .ok (.invokespecial 3, 3) := by decide +kernel
theorem dX10_init_5 : decode cX10_init 5 = .ok (.bipush 20, 2) := by decide +kernel
theorem dX10_init_4 : decode cX10_init 4 = .ok (.aload_n 0, 1) := by decide +kernel
theorem dX10_init_7 : decode cX10_init 7 = .ok (.newarray .int, 2) := by decide +kernel
theorem dX10_init_9 : decode cX10_init 9 = .ok (.putfield 11, 3) := by decide +kernel
theorem dX10_init_13 : decode cX10_init 13 = .ok (.iconst 0, 1) := by decide +kernel
theorem dX10_init_12 : decode cX10_init 12 = .ok (.aload_n 0, 1) := by decide +kernel
theorem dX10_init_14 : decode cX10_init 14 = .ok (.newarray .byte, 2) := by decide +kernel
theorem dX10_init_16 : decode cX10_init 16 = .ok (.putfield 15, 3) := by decide +kernel
theorem dX10_init_20 : decode cX10_init 20 = .ok (.iconst 0, 1) := by decide +kernel
theorem dX10_init_19 : decode cX10_init 19 = .ok (.aload_n 0, 1) := by decide +kernel
theorem dX10_init_21 : decode cX10_init 21 = .ok (.putfield 19, 3) := by decide +kernel
theorem dX10_init_25 : decode cX10_init 25 = .ok (.iconst 0, 1) := by decide +kernel
theorem dX10_init_24 : decode cX10_init 24 = .ok (.aload_n 0, 1) := by decide +kernel
theorem dX10_init_26 : decode cX10_init 26 = .ok (.putfield 23, 3) := by decide +kernel
theorem dX10_init_30 : decode cX10_init 30 = .ok (.iconst 0, 1) := by decide +kernel
theorem dX10_init_29 : decode cX10_init 29 = .ok (.aload_n 0, 1) := by decide +kernel
theorem dX10_init_31 : decode cX10_init 31 = .ok (.putfield 26, 3) := by decide +kernel
theorem dX10_init_35 : decode cX10_init 35 = .ok (.iconst 0, 1) := by decide +kernel
theorem dX10_init_34 : decode cX10_init 34 = .ok (.aload_n 0, 1) := by decide +kernel
theorem dX10_init_36 : decode cX10_init 36 = .ok (.putfield 29, 3) := by decide +kernel
theorem dX10_init_40 : decode cX10_init 40 = .ok (.iconst 0, 1) := by decide +kernel
theorem dX10_init_39 : decode cX10_init 39 = .ok (.aload_n 0, 1) := by decide +kernel
theorem dX10_init_41 : decode cX10_init 41 = .ok (.putfield 32, 3) := by decide +kernel
theorem dJ3_checkIndex_8e157_0 : decode cJ3_checkIndex_8e157 0 = .ok (.iload_n 0, 1) := by decide +kernel
theorem dJ3_checkIndex_8e157_1 : decode cJ3_checkIndex_8e157 1 = .ok (.ifCond .lt 8, 3) := by decide +kernel
theorem dJ3_checkIndex_8e157_4 : decode cJ3_checkIndex_8e157 4 = .ok (.iload_n 0, 1) := by decide +kernel
theorem dJ3_checkIndex_8e157_5 : decode cJ3_checkIndex_8e157 5 = .ok (.iload_n 1, 1) := by decide +kernel
theorem dJ3_checkIndex_8e157_6 : decode cJ3_checkIndex_8e157 6 = .ok (.if_icmp .lt 10, 3) := by decide +kernel
theorem dJ3_checkIndex_8e157_16 : decode cJ3_checkIndex_8e157 16 = .ok (.iload_n 0, 1) := by decide +kernel
theorem dJ3_checkIndex_8e157_17 : decode cJ3_checkIndex_8e157 17 = .ok (.ireturn, 1) := by decide +kernel
theorem dJ0_checkIndex_df160_0 : decode cJ0_checkIndex_df160 0 = .ok (.iload_n 0, 1) := by decide +kernel
theorem dJ0_checkIndex_df160_1 : decode cJ0_checkIndex_df160 1 = .ok (.iload_n 1, 1) := by decide +kernel
theorem dJ0_checkIndex_df160_5 : decode cJ0_checkIndex_df160 5 = .ok (.invokestatic 1059, 3) := by decide +kernel
theorem dJ0_checkIndex_df160_8 : decode cJ0_checkIndex_df160 8 = .ok (.pop, 1) := by decide +kernel
theorem dJ0_checkIndex_df160_9 : decode cJ0_checkIndex_df160 9 = .ok (.return_, 1) := by decide +kernel
theorem dJ0_checkIndex_df160_2 : decode cJ0_checkIndex_df160 2 = .ok (.getstatic 1053, 3) := by decide +kernel
theorem dJ1_charAt_3b067_0 : decode cJ1_charAt_3b067 0 = .ok (.iload_n 1, 1) := by decide +kernel
theorem dJ1_charAt_3b067_1 : decode cJ1_charAt_3b067 1 = .ok (.aload_n 0, 1) := by decide +kernel
theorem dJ1_charAt_3b067_2 : decode cJ1_charAt_3b067 2 = .ok (.arraylength, 1) := by decide +kernel
theorem dJ1_charAt_3b067_3 : decode cJ1_charAt_3b067 3 = .ok (.invokestatic 9, 3) := by decide +kernel
theorem dJ1_charAt_3b067_6 : decode cJ1_charAt_3b067 6 = .ok (.aload_n 0, 1) := by decide +kernel
theorem dJ1_charAt_3b067_7 : decode cJ1_charAt_3b067 7 = .ok (.iload_n 1, 1) := by decide +kernel
theorem dJ1_charAt_3b067_8 : decode cJ1_charAt_3b067 8 = .ok (.baload, 1) := by decide +kernel
theorem dJ1_charAt_3b067_9 : decode cJ1_charAt_3b067 9 = .ok (.sipush 255, 3) := by decide +kernel
theorem dJ1_charAt_3b067_12 : decode cJ1_charAt_3b067 12 = .ok (.iand, 1) := by decide +kernel
theorem dJ1_charAt_3b067_13 : decode cJ1_charAt_3b067 13 = .ok (.i2c, 1) := by decide +kernel
theorem dJ1_charAt_3b067_14 : decode cJ1_charAt_3b067 14 = .ok (.ireturn, 1) := by decide +kernel
theorem dJ0_isLatin1_aae02_0 : decode cJ0_isLatin1_aae02 0 = .ok (.getstatic 38, 3) := by decide +kernel
theorem dJ0_isLatin1_aae02_3 : decode cJ0_isLatin1_aae02 3 = .ok (.ifCond .eq 14, 3) := by decide +kernel
theorem dJ0_isLatin1_aae02_6 : decode cJ0_isLatin1_aae02 6 = .ok (.aload_n 0, 1) := by decide +kernel
theorem dJ0_isLatin1_aae02_7 : decode cJ0_isLatin1_aae02 7 = .ok (.getfield 15, 3) := by decide +kernel
theorem dJ0_isLatin1_aae02_10 : decode cJ0_isLatin1_aae02 10 = .ok (.ifCond .ne 7, 3) := by decide +kernel
theorem dJ0_isLatin1_aae02_13 : decode cJ0_isLatin1_aae02 13 = .ok (.iconst 1, 1) := by decide +kernel
theorem dJ0_isLatin1_aae02_14 : decode cJ0_isLatin1_aae02 14 = .ok (.goto 4, 3) := by decide +kernel
theorem dJ0_isLatin1_aae02_18 : decode cJ0_isLatin1_aae02 18 = .ok (.ireturn, 1) := by decide +kernel
theorem dJ0_coder_7d493_0 : decode cJ0_coder_7d493 0 = .ok (.getstatic 38, 3) := by decide +kernel
theorem dJ0_coder_7d493_3 : decode cJ0_coder_7d493 3 = .ok (.ifCond .eq 10, 3) := by decide +kernel
theorem dJ0_coder_7d493_6 : decode cJ0_coder_7d493 6 = .ok (.aload_n 0, 1) := by decide +kernel
theorem dJ0_coder_7d493_7 : decode cJ0_coder_7d493 7 = .ok (.getfield 15, 3) := by decide +kernel
theorem dJ0_coder_7d493_10 : decode cJ0_coder_7d493 10 = .ok (.goto 4, 3) := by decide +kernel
theorem dJ0_coder_7d493_14 : decode cJ0_coder_7d493 14 = .ok (.ireturn, 1) := by decide +kernel
theorem dJ0_length_8abf5_0 : decode cJ0_length_8abf5 0 = .ok (.aload_n 0, 1) := by decide +kernel
theorem dJ0_length_8abf5_1 : decode cJ0_length_8abf5 1 = .ok (.getfield 9, 3) := by decide +kernel
theorem dJ0_length_8abf5_4 : decode cJ0_length_8abf5 4 = .ok (.arraylength, 1) := by decide +kernel
theorem dJ0_length_8abf5_5 : decode cJ0_length_8abf5 5 = .ok (.aload_n 0, 1) := by decide +kernel
theorem dJ0_length_8abf5_6 : decode cJ0_length_8abf5 6 = .ok (.invokevirtual 335, 3) := by decide +kernel
theorem dJ0_length_8abf5_9 : decode cJ0_length_8abf5 9 = .ok (.ishr, 1) := by decide +kernel
theorem dJ0_length_8abf5_10 : decode cJ0_length_8abf5 10 = .ok (.ireturn, 1) := by decide +kernel
theorem dJ0_charAt_5068e_0 : decode cJ0_charAt_5068e 0 = .ok (.aload_n 0, 1) := by decide +kernel
theorem dJ0_charAt_5068e_1 : decode cJ0_charAt_5068e 1 = .ok (.invokevirtual 492, 3) := by decide +kernel
theorem dJ0_charAt_5068e_4 : decode cJ0_charAt_5068e 4 = .ok (.ifCond .eq 12, 3) := by decide +kernel
theorem dJ0_charAt_5068e_7 : decode cJ0_charAt_5068e 7 = .ok (.aload_n 0, 1) := by decide +kernel
theorem dJ0_charAt_5068e_8 : decode cJ0_charAt_5068e 8 = .ok (.getfield 9, 3) := by decide +kernel
theorem dJ0_charAt_5068e_11 : decode cJ0_charAt_5068e 11 = .ok (.iload_n 1, 1) := by decide +kernel
theorem dJ0_charAt_5068e_12 : decode cJ0_charAt_5068e 12 = .ok (.invokestatic 495, 3) := by decide +kernel
theorem dJ0_charAt_5068e_15 : decode cJ0_charAt_5068e 15 = .ok (.ireturn, 1) := by decide +kernel
theorem dX10_init_59 : decode cX10_init 59 = .ok (.iload_n 3, 1) := by decide +kernel
theorem dX10_init_60 : decode cX10_init 60 = .ok (.iload_n 1, 1) := by decide +kernel
theorem dX10_init_61 : decode cX10_init 61 = .ok (.iconst 1, 1) := by decide +kernel
theorem dX10_init_62 : decode cX10_init 62 = .ok (.iadd, 1) := by decide +kernel
theorem dX10_init_63 : decode cX10_init 63 = .ok (.bipush 6, 2) := by decide +kernel
theorem dX10_init_65 : decode cX10_init 65 = .ok (.imul, 1) := by decide +kernel
theorem dX10_init_66 : decode cX10_init 66 = .ok (.if_icmp .ge 50, 3) := by decide +kernel
theorem dX10_init_69 : decode cX10_init 69 = .ok (.iload_n 3, 1) := by decide +kernel
theorem dX10_init_70 : decode cX10_init 70 = .ok (.ldc 35, 2) := by decide +kernel
theorem dX10_init_72 : decode cX10_init 72 = .ok (.invokevirtual 37, 3) := by decide +kernel
theorem dX10_init_75 : decode cX10_init 75 = .ok (.if_icmp .ge 41, 3) := by decide +kernel
theorem dX10_init_78 : decode cX10_init 78 = .ok (.ldc 35, 2) := by decide +kernel
theorem dX10_init_80 : decode cX10_init 80 = .ok (.iload_n 3, 1) := by decide +kernel
theorem dX10_init_81 : decode cX10_init 81 = .ok (.invokevirtual 43, 3) := by decide +kernel
theorem dX10_init_84 : decode cX10_init 84 = .ok (.istore 4, 2) := by decide +kernel
theorem dX10_init_86 : decode cX10_init 86 = .ok (.iload_n 2, 1) := by decide +kernel
theorem dX10_init_87 : decode cX10_init 87 = .ok (.bipush 32, 2) := by decide +kernel
theorem dX10_init_89 : decode cX10_init 89 = .ok (.imul, 1) := by decide +kernel
theorem dX10_init_90 : decode cX10_init 90 = .ok (.iload 4, 2) := by decide +kernel
theorem dX10_init_92 : decode cX10_init 92 = .ok (.bipush 32, 2) := by decide +kernel
theorem dX10_init_108 : decode cX10_init 108 = .ok (.iadd, 1) := by decide +kernel
theorem dX10_init_109 : decode cX10_init 109 = .ok (.istore_n 2, 1) := by decide +kernel
theorem dX10_init_110 : decode cX10_init 110 = .ok (.iinc 3 1, 3) := by decide +kernel
theorem dX10_init_113 : decode cX10_init 113 = .ok (.goto (-54), 3) := by decide +kernel
theorem dX10_init_94 : decode cX10_init 94 = .ok (.if_icmp .ne 7, 3) := by decide +kernel
theorem dX10_init_101 : decode cX10_init 101 = .ok (.iload 4, 2) := by decide +kernel
theorem dX10_init_103 : decode cX10_init 103 = .ok (.bipush 97, 2) := by decide +kernel
theorem dX10_init_105 : decode cX10_init 105 = .ok (.isub, 1) := by decide +kernel
theorem dX10_init_106 : decode cX10_init 106 = .ok (.iconst 1, 1) := by decide +kernel
theorem dX10_init_107 : decode cX10_init 107 = .ok (.iadd, 1) := by decide +kernel
theorem dX10_init_97 : decode cX10_init 97 = .ok (.iconst 0, 1) := by decide +kernel
theorem dX10_init_98 : decode cX10_init 98 = .ok (.goto 10, 3) := by decide +kernel
theorem dX10_init_46 : decode cX10_init 46 = .ok (.iload_n 1, 1) := by decide +kernel
theorem dX10_init_47 : decode cX10_init 47 = .ok (.bipush 20, 2) := by decide +kernel
theorem dX10_init_49 : decode cX10_init 49 = .ok (.if_icmp .ge 80, 3) := by decide +kernel
theorem dX10_init_129 : decode cX10_init 129 = .ok (.return_, 1) := by decide +kernel
theorem dX10_init_52 : decode cX10_init 52 = .ok (.iconst 0, 1) := by decide +kernel
theorem dX10_init_53 : decode cX10_init 53 = .ok (.istore_n 2, 1) := by decide +kernel
theorem dX10_init_54 : decode cX10_init 54 = .ok (.iload_n 1, 1) := by decide +kernel
theorem dX10_init_55 : decode cX10_init 55 = .ok (.bipush 6, 2) := by decide +kernel
theorem dX10_init_57 : decode cX10_init 57 = .ok (.imul, 1) := by decide +kernel
theorem dX10_init_58 : decode cX10_init 58 = .ok (.istore_n 3, 1) := by decide +kernel
theorem dX10_init_116 : decode cX10_init 116 = .ok (.aload_n 0, 1) := by decide +kernel
theorem dX10_init_117 : decode cX10_init 117 = .ok (.getfield 11, 3) := by decide +kernel
theorem dX10_init_120 : decode cX10_init 120 = .ok (.iload_n 1, 1) := by decide +kernel
theorem dX10_init_121 : decode cX10_init 121 = .ok (.iload_n 2, 1) := by decide +kernel
theorem dX10_init_122 : decode cX10_init 122 = .ok (.iastore, 1) := by decide +kernel
theorem dX10_init_123 : decode cX10_init 123 = .ok (.iinc 1 1, 3) := by decide +kernel
theorem dX10_init_126 : decode cX10_init 126 = .ok (.goto (-80), 3) := by decide +kernel
theorem dX10_init_44 : decode cX10_init 44 = .ok (.iconst 0, 1) := by decide +kernel
theorem dX10_init_45 : decode cX10_init 45 = .ok (.istore_n 1, 1) := by decide +kernel
theorem lk_J0_335 : LkV RJ0 335 yJ0_coder_7d493 cJ0_coder_7d493 1 (some .byte) 0 := ⟨mw_176, mw_177, ms_J0_coder_7d493, mw_7, mw_179, ⟨by decide, by decide⟩, by decide +kernel⟩
theorem lk_J0_492 : LkV RJ0 492 yJ0_isLatin1_aae02 cJ0_isLatin1_aae02 1 (some .boolean) 0 := ⟨mw_186, mw_187, ms_J0_isLatin1_aae02, mw_7, mw_189, ⟨by decide, by decide⟩, by decide +kernel⟩
theorem lk_X10_37 : LkV RX10 37 yJ0_length_8abf5 cJ0_length_8abf5 1 (some .int) 0 := ⟨mw_172, mw_173, ms_J0_length_8abf5, mw_7, mw_175, ⟨by decide, by decide⟩, by decide +kernel⟩
theorem lk_X10_43 : LkV RX10 43 yJ0_charAt_5068e cJ0_charAt_5068e 2 (some .char) 1 := ⟨mw_182, mw_183, ms_J0_charAt_5068e, mw_7, mw_185, ⟨by decide, by decide⟩, by decide +kernel⟩
theorem lk_J0_1059 : LkS RJ0 1059 yJ3_checkIndex_8e157 cJ3_checkIndex_8e157 3 (some .int) 3 := ⟨mw_198, mw_199, mw_9, mw_200, ⟨by decide, by decide⟩, by decide +kernel⟩
theorem lk_J1_9 : LkS RJ1 9 yJ0_checkIndex_df160 cJ0_checkIndex_df160 2 none 2 := ⟨mw_193, mw_194, mw_7, mw_195, ⟨by decide, by decide⟩, by decide +kernel⟩
theorem lk_J0_495 : LkS RJ0 495 yJ1_charAt_3b067 cJ1_charAt_3b067 2 (some .char) 2 := ⟨mw_190, mw_191, mw_8, mw_192, ⟨by decide, by decide⟩, by decide +kernel⟩
/-! methods of the JDK's texts -/
def SJ (l : Launch) (E : Ev) (kA vA : Nat → Nat) (y : MethodName) (cc : ByteArray) (n : Nat) (ret : Option FieldType) (rm : Room) (av : List Value) (r : Option Value) : Prop :=
  Met l y (Cond.code y cc n ret :: gtbl) rm (fun v U => v = av.toArray ∧ Ky E kA vA U ∧ E.2.2.1 ≤ U.heap.size) (fun _ st o t => o = .returned r ∧ t.heap = st.heap) 0 0 (fun _ => False)
section SJ1
variable {l : Launch} {E : Ev} {kA vA : Nat → Nat} {y : MethodName} {cc : ByteArray} {n f k : Nat} {av : List Value} {own : String}
def BodyS (l : Launch) (E : Ev) (kA vA : Nat → Nat) (cc : ByteArray) (n f k : Nat) (av : List Value) (own : String) (ins : Instr) (out : List Value) : Prop :=
  ∀ (p : Program) (e : Env) (R : Room) (s : State) (m : MethodId) (args : Array Value) (below : List Frame) (meth : Method) (c : Code) (ls : Array Slot) (Q : State → Prop), R.frames = f → R.locals = k → CallFix p m c cc n s args gtbl own → Ky E kA vA s → E.2.2.1 ≤ s.heap.size → lv_has ls n (lv_args 0 av) →
    (∀ (pc : Nat) (ls : Array Slot), decode cc pc = .ok (ins, 1) → W p l e R s m args below meth c s.heap [] 0 0 Q (F0 m pc ls out)) → W p l e R s m args below meth c s.heap [] 0 0 Q (F0 m 0 ls [])
theorem SJ.of {ret : Option FieldType} {ins : Instr} {out : List Value} {r : Option Value} (hown : y.cls = own) (hy : plainName y.cls = true) (hz : (lg_sl av).length ≤ n)
    (hend : ∀ {p : Program} {e : Env} {s : State} {m : MethodId} {args : Array Value} {below : List Frame} {meth : Method} {c : Code} {pc : Nat} {ls : Array Slot} {R : Room}, p.tables.exec = Jvm.exec → c.code = cc → meth.sig.returnType = ret → meth.locks = false → decode cc pc = .ok (ins, 1) → W p l e R s m args below meth c s.heap [] 0 0 (MQ below (fun _ st o t => o = .returned r ∧ t.heap = st.heap) args s 0 0 (fun _ => False)) (F0 m pc ls out))
    (body : BodyS l E kA vA cc n f k av own ins out) : SJ l E kA vA y cc n ret (rmm f k) av r := by
  refine Met.ofW (cc := cc) (maxL := n) (ret := ret) hy rfl ?_
  intro p e s m args below meth c s₁ B hml hv
  obtain ⟨rfl, hK, hN⟩ := hv
  have hts := atoms_spec (ws := Cond.code y cc n ret :: gtbl) B.pre
  have ho : s.vm.findClass own = some m.cls := by rw [← hown]; exact findClass_of_methodNamed B.named
  have hlocks := B.notSynchronized
  have hl := lv_entry av (n := n) hz
  rw [lg_entry_eq]
  generalize (lg_sl av ++ List.replicate (n - (lg_sl av).length) Slot.unset).toArray = ls at hl ⊢
  exact body p e _ s m _ below meth c ls _ rfl rfl ⟨B.exec, B.bytes, hml, ho, fun w h => hts w (List.mem_cons_of_mem _ h)⟩ hK hN hl (fun pc ls hd => hend B.exec B.bytes B.returns hlocks hd)
theorem SJ.ofI {v : Int32} (hown : y.cls = own) (hy : plainName y.cls = true) (hz : (lg_sl av).length ≤ n) (body : BodyS l E kA vA cc n f k av own .ireturn [.int v]) : SJ l E kA vA y cc n (some .int) (rmm f k) av (some (.int v)) :=
  SJ.of hown hy hz (fun hx hb hr hlk hd => W.iret hx hb hr (fun t ht _ => ⟨rfl, ht⟩) (fun q hq => by cases hq) hd hlk) body
theorem SJ.ofT {ty : FieldType} {v : Int32} (hn : narrow ty (.int v) = .int v) (hown : y.cls = own) (hy : plainName y.cls = true) (hz : (lg_sl av).length ≤ n) (body : BodyS l E kA vA cc n f k av own .ireturn [.int v]) : SJ l E kA vA y cc n (some ty) (rmm f k) av (some (.int v)) :=
  SJ.of hown hy hz (fun hx hb hr hlk hd => W.zret hx hb hr hn (fun t ht _ => ⟨rfl, ht⟩) (fun q hq => by cases hq) hd hlk) body
theorem SJ.ofV (hown : y.cls = own) (hy : plainName y.cls = true) (hz : (lg_sl av).length ≤ n) (body : BodyS l E kA vA cc n f k av own .return_ []) : SJ l E kA vA y cc n none (rmm f k) av none :=
  SJ.of hown hy hz (fun hx hb hr hlk hd => W.vret hx hb hr (fun t ht _ => ⟨rfl, ht⟩) (fun q hq => by cases hq) hd hlk) body
end SJ1
section JX
variable {p : Program} {l : Launch} {e : Env} {R : Room} {s : State} {m : MethodId} {args : Array Value} {below : List Frame} {meth : Method} {c : Code} {H : Heap} {locs : List Loc} {cells slots : Nat} {Q : State → Prop}
variable {cc bytes : ByteArray} {pc nL maxL index n b f k : Nat} {ls : Array Slot} {rest st0 st1 As av : List Value} {E : Ev} {own : String} {y : MethodName} {ret : Option FieldType} {r : Option Value} {kA vA : Nat → Nat}
theorem pp_s (hK : Ky E kA vA s) (hold : ∀ q : Nat, q < E.2.2.1 → H[q]? = s.heap[q]?) (hN : E.2.2.1 ≤ H.size) : PreS s H (fun v U => v = av.toArray ∧ Ky E kA vA U ∧ E.2.2.1 ≤ U.heap.size) av :=
  ⟨fun a U g mk q => ⟨q.1, q.2.1.blind, q.2.2⟩, fun U hU hW => ⟨rfl, hK.moved hW (fun q hq => by rw [hU]; exact hold q hq), by rw [hU]; exact hN⟩⟩
theorem jx_V (C : CallFix p m c cc nL s args gtbl own) (hK : Ky E kA vA s) (hM : SJ l E kA vA y bytes maxL ret (rmm f k) (.ref b :: As) r) (lk : LkV own index y bytes maxL ret n) (hR : f + 1 ≤ R.frames ∧ 8 + (maxL + 11) + k ≤ R.locals) (hf : cells ≤ R.cells ∧ slots ≤ R.slots) (hold : ∀ q : Nat, q < E.2.2.1 → H[q]? = s.heap[q]?) (hN : E.2.2.1 ≤ H.size) (hrc : Rcv s H y.cls b) (hn : As.length = n) (hsize : ls.size = nL) (hst : st0 = As.reverse ++ .ref b :: rest) (hs1 : r.toList ++ rest = st1) (hW : (rest.map fun v => v.category).sum ≤ 8) (hdg : decode cc pc = .ok (.invokevirtual index, 3))
    (kk : W p l e R s m args below meth c H locs cells slots Q (F0 m (pc + 3) ls st1)) : W p l e R s m args below meth c H locs cells slots Q (F0 m pc ls st0) := by
  obtain ⟨k1, k2, k3, k4, k5, k6, k7⟩ := lk
  have pp := pp_s (av := .ref b :: As) hK hold hN
  exact cx_pure (Qa := fun _ _ _ => True) rfl (va_runV (C := y.cls) (As := As) (rest := rest) C hM ⟨cx_B C (C.2.2.2.2 _ k1) k4 k5 k6 k7 ⟨rfl, rfl⟩ hR, C.2.2.2.2 _ k2, C.2.2.2.2 _ k3⟩ ⟨pp.1, hrc, pp.2⟩ rfl hn hsize hst (lv_room hW) hdg hf) hs1 kk
theorem jx_S (C : CallFix p m c cc nL s args gtbl own) (hK : Ky E kA vA s) (hM : SJ l E kA vA y bytes maxL ret (rmm f k) As r) (lk : LkS own index y bytes maxL ret n) (hR : f + 1 ≤ R.frames ∧ 8 + (maxL + 11) + k ≤ R.locals) (hf : cells ≤ R.cells ∧ slots ≤ R.slots) (hold : ∀ q : Nat, q < E.2.2.1 → H[q]? = s.heap[q]?) (hN : E.2.2.1 ≤ H.size) (hn : As.length = n) (hsize : ls.size = nL) (hst : st0 = As.reverse ++ rest) (hs1 : r.toList ++ rest = st1) (hW : (rest.map fun v => v.category).sum ≤ 8) (hdg : decode cc pc = .ok (.invokestatic index, 3))
    (kk : W p l e R s m args below meth c H locs cells slots Q (F0 m (pc + 3) ls st1)) : W p l e R s m args below meth c H locs cells slots Q (F0 m pc ls st0) := by
  obtain ⟨k1, k2, k4, k5, k6, k7⟩ := lk
  have pp := pp_s (av := As) hK hold hN
  exact cx_pure (Qa := fun _ _ _ => True) rfl (va_runS (As := As) (rest := rest) C hM ⟨cx_B C (C.2.2.2.2 _ k1) k4 k5 k6 k7 ⟨rfl, rfl⟩ hR, C.2.2.2.2 _ k2⟩ pp rfl hn hsize hst (lv_room hW) hdg hf) hs1 kk
end JX

theorem tJ3_ck (l : Launch) (E : Ev) (kA vA : Nat → Nat) (i n : Int32) (v : Value) (hv : v = .null ∨ ∃ t, v = .ref t) (h1 : ¬ i < 0) (h2 : i < n) : SJ l E kA vA yJ3_checkIndex_8e157 cJ3_checkIndex_8e157 3 (some .int) (rmm 0 0) [.int i, .int n, v] (some (.int i)) := by
  refine SJ.ofI (own := RJ3) rfl (by decide) (by rcases hv with rfl | ⟨t, rfl⟩ <;> exact Nat.le_of_ble_eq_true rfl) ?_
  intro p e R s m args below meth c ls Q hRf hRl C hK hN hl hQ
  have hx := C.1
  have hb := C.2.1
  have hS : va_S (fun q => E.2.2.1 ≤ q) s.heap s.heap [] := va_S.rf
  have hl : lv_has ls 3 [(0, .int i), (1, .int n), (2, v)] := hl
  refine lv_iload_n hx hb dJ3_checkIndex_8e157_0 rfl (lv_at hl 0 rfl) ?_
  refine lv_if_lt (tgt := 9) hx hb dJ3_checkIndex_8e157_1 (by decide) (fun q => absurd q h1) (fun _ => ?_)
  refine lv_iload_n hx hb dJ3_checkIndex_8e157_4 rfl (lv_at hl 0 rfl) ?_
  refine lv_iload_n hx hb dJ3_checkIndex_8e157_5 rfl (lv_at hl 1 rfl) ?_
  refine lv_icmp_lt (tgt := 16) hx hb dJ3_checkIndex_8e157_6 (by decide) (fun _ => ?_) (fun q => absurd h2 q)
  refine lv_iload_n hx hb dJ3_checkIndex_8e157_16 rfl (lv_at hl 0 rfl) ?_
  exact hQ _ _ dJ3_checkIndex_8e157_17
theorem tJ0_ck (l : Launch) (E : Ev) (kA vA : Nat → Nat) (i n : Int32) (h1 : ¬ i < 0) (h2 : i < n) : SJ l E kA vA yJ0_checkIndex_df160 cJ0_checkIndex_df160 2 none (rmm 1 22) [.int i, .int n] none := by
  refine SJ.ofV (own := RJ0) rfl (by decide) (Nat.le_of_ble_eq_true rfl) ?_
  intro p e R s m args below meth c ls Q hRf hRl C hK hN hl hQ
  have hx := C.1
  have hb := C.2.1
  have hS : va_S (fun q => E.2.2.1 ≤ q) s.heap s.heap [] := va_S.rf
  have hl : lv_has ls 2 [(0, .int i), (1, .int n)] := hl
  refine lv_iload_n hx hb dJ0_checkIndex_df160_0 rfl (lv_at hl 0 rfl) ?_
  refine lv_iload_n hx hb dJ0_checkIndex_df160_1 rfl (lv_at hl 1 rfl) ?_
  have go : ∀ v : Value, (v = .null ∨ ∃ t, v = .ref t) → W p l e R s m args below meth c s.heap [] 0 0 Q (F0 m 5 ls [v, .int n, .int i]) := fun v hv => by
    refine jx_S (As := [.int i, .int n, v]) (rest := []) (st1 := [.int i]) C hK (tJ3_ck l E kA vA i n v hv h1 h2) lk_J0_1059 ⟨by omega, by omega⟩ ⟨Nat.zero_le _, Nat.zero_le _⟩ (fun _ _ => rfl) hN rfl hl.1 rfl rfl (Nat.le_of_ble_eq_true rfl) dJ0_checkIndex_df160_5 ?_
    refine lv_pop hx hb dJ0_checkIndex_df160_8 rfl ?_
    exact hQ _ _ dJ0_checkIndex_df160_9
  rcases hK.2.2.2.2.2.2.2 with hZ | ⟨t, hZ⟩
  · exact va_gets hx hb hZ hS C.2.2.2.1 (C.2.2.2.2 _ mw_196) (fun _ h => h) dJ0_checkIndex_df160_2 (go _ (Or.inl rfl))
  · exact va_gets hx hb hZ hS C.2.2.2.1 (C.2.2.2.2 _ mw_196) (fun _ h => h) dJ0_checkIndex_df160_2 (go _ (Or.inr ⟨t, rfl⟩))
def chW (i : Nat) : Int32 := (bytW.getD 0 []).getD i 0
theorem chW_ok : ∀ i, i < 120 → ((chW i &&& 255).toUInt32 % 65536).toInt32 = chW i ∧ narrow .char (.int (chW i)) = .int (chW i) := by decide +kernel
theorem tJ1_at (l : Launch) (E : Ev) (kA vA : Nat → Nat) (i : Nat) (hi : i < 120) : SJ l E kA vA yJ1_charAt_3b067 cJ1_charAt_3b067 2 (some .char) (rmm 2 43) [.ref (vA 0), .int (nI i)] (some (.int (chW i))) := by
  refine SJ.ofT (own := RJ1) (chW_ok i hi).2 rfl (by decide) (Nat.le_of_ble_eq_true rfl) ?_
  intro p e R s m args below meth c ls Q hRf hRl C hK hN hl hQ
  have hx := C.1
  have hb := C.2.1
  have hS : va_S (fun q => E.2.2.1 ≤ q) s.heap s.heap [] := va_S.rf
  have hl : lv_has ls 2 [(0, .ref (vA 0)), (1, .int (nI i))] := hl
  have hT := (hK.2.2.2.2.2.1.1 0 (by decide)).2.2.2
  refine lv_iload_n hx hb dJ1_charAt_3b067_0 rfl (lv_at hl 1 rfl) ?_
  refine lv_aload_n hx hb dJ1_charAt_3b067_1 rfl (lv_at hl 0 rfl) ?_
  refine va_tlen hx hb hT hS (v := nI 120) rfl dJ1_charAt_3b067_2 ?_
  refine jx_S (As := [.int (nI i), .int (nI 120)]) (rest := []) (st1 := []) C hK (tJ0_ck l E kA vA (nI i) (nI 120) (nI_pos (by omega)) (nI_lt hi (by decide))) lk_J1_9 ⟨by omega, by omega⟩ ⟨Nat.zero_le _, Nat.zero_le _⟩ (fun _ _ => rfl) hN rfl hl.1 rfl rfl (Nat.le_of_ble_eq_true rfl) dJ1_charAt_3b067_3 ?_
  refine lv_aload_n hx hb dJ1_charAt_3b067_6 rfl (lv_at hl 0 rfl) ?_
  refine lv_iload_n hx hb dJ1_charAt_3b067_7 rfl (lv_at hl 1 rfl) ?_
  refine va_tb hx hb hT hS (i := nI i) (vp_in_nI hi (by decide)) (v := .int (chW i)) (by rw [nI_clamp (by omega)]; rfl) dJ1_charAt_3b067_8 ?_
  refine lv_sipush (v := 255) hx hb dJ1_charAt_3b067_9 (by decide) ?_
  refine lv_iand hx hb dJ1_charAt_3b067_12 ?_
  refine lv_i2c (v := chW i) hx hb dJ1_charAt_3b067_13 (chW_ok i hi).1 ?_
  exact hQ _ _ dJ1_charAt_3b067_14
theorem tJ0_l1 (l : Launch) (E : Ev) (kA vA : Nat → Nat) : SJ l E kA vA yJ0_isLatin1_aae02 cJ0_isLatin1_aae02 1 (some .boolean) (rmm 0 0) [.ref (kA 0)] (some (.int 1)) := by
  refine SJ.ofT (own := RJ0) rfl rfl (by decide) (Nat.le_of_ble_eq_true rfl) ?_
  intro p e R s m args below meth c ls Q hRf hRl C hK hN hl hQ
  have hx := C.1
  have hb := C.2.1
  have hS : va_S (fun q => E.2.2.1 ≤ q) s.heap s.heap [] := va_S.rf
  have hl : lv_has ls 1 [(0, .ref (kA 0))] := hl
  have hO := (hK.2.2.2.2.2.1.1 0 (by decide)).2.1
  refine va_gets hx hb hK.2.2.2.2.2.2.1 hS C.2.2.2.1 (C.2.2.2.2 _ mw_180) (fun _ h => h) dJ0_isLatin1_aae02_0 ?_
  refine lv_if_eq (tgt := 17) hx hb dJ0_isLatin1_aae02_3 (by decide) (fun q => absurd q (by decide)) (fun _ => ?_)
  refine lv_aload_n hx hb dJ0_isLatin1_aae02_6 rfl (lv_at hl 0 rfl) ?_
  refine vk_getf hx hb hO hS C.2.2.2.1 (C.2.2.2.2 _ mw_2038) (fun _ h => h) dJ0_isLatin1_aae02_7 ?_
  refine lv_if_ne (tgt := 17) hx hb dJ0_isLatin1_aae02_10 (by decide) (fun q => absurd rfl q) (fun _ => ?_)
  refine lv_iconst (v := 1) hx hb dJ0_isLatin1_aae02_13 (by decide) ?_
  refine lv_goto (tgt := 18) hx hb dJ0_isLatin1_aae02_14 (by decide) ?_
  exact hQ _ _ dJ0_isLatin1_aae02_18
theorem tJ0_cd (l : Launch) (E : Ev) (kA vA : Nat → Nat) : SJ l E kA vA yJ0_coder_7d493 cJ0_coder_7d493 1 (some .byte) (rmm 0 0) [.ref (kA 0)] (some (.int 0)) := by
  refine SJ.ofT (own := RJ0) rfl rfl (by decide) (Nat.le_of_ble_eq_true rfl) ?_
  intro p e R s m args below meth c ls Q hRf hRl C hK hN hl hQ
  have hx := C.1
  have hb := C.2.1
  have hS : va_S (fun q => E.2.2.1 ≤ q) s.heap s.heap [] := va_S.rf
  have hl : lv_has ls 1 [(0, .ref (kA 0))] := hl
  have hO := (hK.2.2.2.2.2.1.1 0 (by decide)).2.1
  refine va_gets hx hb hK.2.2.2.2.2.2.1 hS C.2.2.2.1 (C.2.2.2.2 _ mw_180) (fun _ h => h) dJ0_coder_7d493_0 ?_
  refine lv_if_eq (tgt := 13) hx hb dJ0_coder_7d493_3 (by decide) (fun q => absurd q (by decide)) (fun _ => ?_)
  refine lv_aload_n hx hb dJ0_coder_7d493_6 rfl (lv_at hl 0 rfl) ?_
  refine vk_getf hx hb hO hS C.2.2.2.1 (C.2.2.2.2 _ mw_2038) (fun _ h => h) dJ0_coder_7d493_7 ?_
  refine lv_goto (tgt := 14) hx hb dJ0_coder_7d493_10 (by decide) ?_
  exact hQ _ _ dJ0_coder_7d493_14
theorem rc_J0 {E : Ev} {kA vA : Nat → Nat} {s : State} {H : Heap} (hK : Ky E kA vA s) (hold : ∀ q : Nat, q < E.2.2.1 → H[q]? = s.heap[q]?) : Rcv s H RJ0 (kA 0) := by
  obtain ⟨cell, h1, h2, h3, h4⟩ := (hK.2.2.2.2.2.1.1 0 (by decide)).1
  exact ⟨cell, by rw [hold _ (Nat.not_le.mp h4)]; exact h1, h2, h3⟩
theorem tJ0_len (l : Launch) (E : Ev) (kA vA : Nat → Nat) : SJ l E kA vA yJ0_length_8abf5 cJ0_length_8abf5 1 (some .int) (rmm 1 20) [.ref (kA 0)] (some (.int (nI 120))) := by
  refine SJ.ofI (own := RJ0) rfl (by decide) (Nat.le_of_ble_eq_true rfl) ?_
  intro p e R s m args below meth c ls Q hRf hRl C hK hN hl hQ
  have hx := C.1
  have hb := C.2.1
  have hS : va_S (fun q => E.2.2.1 ≤ q) s.heap s.heap [] := va_S.rf
  have hl : lv_has ls 1 [(0, .ref (kA 0))] := hl
  obtain ⟨_, _, hV, hT⟩ := hK.2.2.2.2.2.1.1 0 (by decide)
  refine lv_aload_n hx hb dJ0_length_8abf5_0 rfl (lv_at hl 0 rfl) ?_
  refine vk_getf hx hb hV hS C.2.2.2.1 (C.2.2.2.2 _ mw_2037) (fun _ h => h) dJ0_length_8abf5_1 ?_
  refine va_tlen hx hb hT hS (v := nI 120) rfl dJ0_length_8abf5_4 ?_
  refine lv_aload_n hx hb dJ0_length_8abf5_5 rfl (lv_at hl 0 rfl) ?_
  refine jx_V (As := []) (rest := [.int (nI 120)]) (st1 := [.int 0, .int (nI 120)]) C hK (tJ0_cd l E kA vA) lk_J0_335 ⟨by omega, by omega⟩ ⟨Nat.zero_le _, Nat.zero_le _⟩ (fun _ _ => rfl) hN (rc_J0 hK (fun _ _ => rfl)) rfl hl.1 rfl rfl (Nat.le_of_ble_eq_true rfl) dJ0_length_8abf5_6 ?_
  refine lv_ishr hx hb dJ0_length_8abf5_9 ?_
  exact ox_topi (by decide +kernel) (hQ _ _ dJ0_length_8abf5_10)
theorem tJ0_at (l : Launch) (E : Ev) (kA vA : Nat → Nat) (i : Nat) (hi : i < 120) : SJ l E kA vA yJ0_charAt_5068e cJ0_charAt_5068e 2 (some .char) (rmm 3 64) [.ref (kA 0), .int (nI i)] (some (.int (chW i))) := by
  refine SJ.ofT (own := RJ0) (chW_ok i hi).2 rfl (by decide) (Nat.le_of_ble_eq_true rfl) ?_
  intro p e R s m args below meth c ls Q hRf hRl C hK hN hl hQ
  have hx := C.1
  have hb := C.2.1
  have hS : va_S (fun q => E.2.2.1 ≤ q) s.heap s.heap [] := va_S.rf
  have hl : lv_has ls 2 [(0, .ref (kA 0)), (1, .int (nI i))] := hl
  obtain ⟨_, _, hV, hT⟩ := hK.2.2.2.2.2.1.1 0 (by decide)
  refine lv_aload_n hx hb dJ0_charAt_5068e_0 rfl (lv_at hl 0 rfl) ?_
  refine jx_V (As := []) (rest := []) (st1 := [.int 1]) C hK (tJ0_l1 l E kA vA) lk_J0_492 ⟨by omega, by omega⟩ ⟨Nat.zero_le _, Nat.zero_le _⟩ (fun _ _ => rfl) hN (rc_J0 hK (fun _ _ => rfl)) rfl hl.1 rfl rfl (Nat.le_of_ble_eq_true rfl) dJ0_charAt_5068e_1 ?_
  refine lv_if_eq (tgt := 16) hx hb dJ0_charAt_5068e_4 (by decide) (fun q => absurd q (by decide)) (fun _ => ?_)
  refine lv_aload_n hx hb dJ0_charAt_5068e_7 rfl (lv_at hl 0 rfl) ?_
  refine vk_getf hx hb hV hS C.2.2.2.1 (C.2.2.2.2 _ mw_2037) (fun _ h => h) dJ0_charAt_5068e_8 ?_
  refine lv_iload_n hx hb dJ0_charAt_5068e_11 rfl (lv_at hl 1 rfl) ?_
  refine jx_S (As := [.ref (vA 0), .int (nI i)]) (rest := []) (st1 := [.int (chW i)]) C hK (tJ1_at l E kA vA i hi) lk_J0_495 ⟨by omega, by omega⟩ ⟨Nat.zero_le _, Nat.zero_le _⟩ (fun _ _ => rfl) hN rfl hl.1 rfl rfl (Nat.le_of_ble_eq_true rfl) dJ0_charAt_5068e_12 ?_
  exact hQ _ _ dJ0_charAt_5068e_15
/-! the words' numbers -/
def ltW (i : Nat) : Int32 := if chW i = 32 then 0 else chW i - 97 + 1
def cdW (i : Nat) : Nat → Int32
  | 0 => 0
  | j + 1 => cdW i j * 32 + ltW (6 * i + j)
def rwW (i : Nat) : Nat → Int32 := fun k => if k < i then cdW k 6 else 0
def tok0 : St := (fun _ => 0, fun _ => 0, fun j => if j = 0 then rwW 20 else fun _ => 0, fun _ _ => 0)
theorem rwW_s (i : Nat) : upd (rwW i) i (cdW i 6) = rwW (i + 1) := by
  funext k
  unfold upd rwW
  by_cases h : k = i
  · subst h; simp
  · simp only [h, if_false]
    by_cases h2 : k < i
    · rw [if_pos h2, if_pos (by omega)]
    · rw [if_neg h2, if_neg (by omega)]
theorem tok0_WO : WO tok0 := by
  intro i hi
  show rwW 20 i = _
  unfold rwW
  rw [if_pos hi]
  have h : ∀ i, i < 20 → cdW i 6 = nI (pk6 (fun k => (wd (sw i)).getD k 0)) := by decide +kernel
  exact h i hi
set_option maxHeartbeats 4000000 in
set_option maxRecDepth 20000 in
theorem iX10 (l : Launch) (E : Ev) (kA vA : Nat → Nat) (h0 : Nat) (sz : Nat) : CI l E kA vA yX10_init cX10_init 5 (rmc 4 85 2 20) [(h0, .inr (10, [.null, .null, .int 0, .int 0, .int 0, .int 0, .int 0]))] [] [.ref h0] (fun a => wTokens E (cA0 h0 a) (a 1) tok0) sz := by
  refine CI.of (own := RX10) rfl (by decide) rfl (Nat.le_of_ble_eq_true rfl) ?_ sz
  intro p e R s m args below meth c ls Q A hR1 hR2 hR3 hR4 C hin2 hK hN hA hA0 hF hrs hrn hl kk
  change R.frames = 4 at hR1
  change R.locals = 85 at hR2
  change R.cells = 2 at hR3
  change R.slots = 20 at hR4
  have hl : lv_has ls 5 [(0, .ref h0)] := hl
  refine lv_aload_n C.1 C.2.1 dX10_init_0 rfl (lv_at hl 0 rfl) ?_
  refine nx_obj C mw_170 mw_32 mw_33 hl.1 dX10_init_1 (by omega) (by show 0 + 12 ≤ R.locals; omega) ?_
  refine nx_arr C hK.1 hin2 hA cfX10 (lv_at hl 0 rfl) hF 0 rfl rfl mw_74 (20, .inl (fun _ => 0)) (fun _ => rfl) rfl (by omega) (by decide) (by omega) (by omega) (lv_bipush C.1 C.2.1 (v := 20) dX10_init_5 (by decide)) 0 (by decide) mw_220 rfl (fun _ => ⟨rfl, rfl⟩) (Nat.le_of_ble_eq_true rfl) dX10_init_4 dX10_init_7 dX10_init_9 (fun q1 H locs hF => ?_)
  refine nx_arr C hK.1 hin2 hA cfX10 (lv_at hl 0 rfl) hF 1 rfl rfl mw_73 (0, .inl (fun _ => 0)) (fun _ => rfl) rfl (by omega) (by decide) (by omega) (by omega) (lv_iconst C.1 C.2.1 (v := 0) dX10_init_13 (by decide)) 1 (by decide) mw_221 rfl (fun _ => ⟨rfl, rfl⟩) (Nat.le_of_ble_eq_true rfl) dX10_init_12 dX10_init_14 dX10_init_16 (fun q2 H locs hF => ?_)
  refine nx_val C hK.1 hin2 cfX10 (lv_at hl 0 rfl) hF (lv_iconst C.1 C.2.1 (v := 0) dX10_init_20 (by decide)) 2 (by decide) mw_222 rfl rfl rfl (Nat.le_of_ble_eq_true rfl) dX10_init_19 dX10_init_21 (fun H locs hF => ?_)
  refine nx_val C hK.1 hin2 cfX10 (lv_at hl 0 rfl) hF (lv_iconst C.1 C.2.1 (v := 0) dX10_init_25 (by decide)) 3 (by decide) mw_224 rfl rfl rfl (Nat.le_of_ble_eq_true rfl) dX10_init_24 dX10_init_26 (fun H locs hF => ?_)
  refine nx_val C hK.1 hin2 cfX10 (lv_at hl 0 rfl) hF (lv_iconst C.1 C.2.1 (v := 0) dX10_init_30 (by decide)) 4 (by decide) mw_225 rfl rfl rfl (Nat.le_of_ble_eq_true rfl) dX10_init_29 dX10_init_31 (fun H locs hF => ?_)
  refine nx_val C hK.1 hin2 cfX10 (lv_at hl 0 rfl) hF (lv_iconst C.1 C.2.1 (v := 0) dX10_init_35 (by decide)) 5 (by decide) mw_228 rfl rfl rfl (Nat.le_of_ble_eq_true rfl) dX10_init_34 dX10_init_36 (fun H locs hF => ?_)
  refine nx_val C hK.1 hin2 cfX10 (lv_at hl 0 rfl) hF (lv_iconst C.1 C.2.1 (v := 0) dX10_init_40 (by decide)) 6 (by decide) mw_231 rfl rfl rfl (Nat.le_of_ble_eq_true rfl) dX10_init_39 dX10_init_41 (fun H locs hF => ?_)
  refine W.widen (k := 2) (n := 20) (by omega) (by omega) ?_
  have hx := C.1
  have hb := C.2.1
  have hinner : ∀ (i : Nat) (H : Heap) (locs : List Loc), i < 20 → FW E A s.heap ([(h0, .inr (10, [.ref q1, .ref q2, .int 0, .int 0, .int 0, .int 0, .int 0])), (q1, .inl (E.2.1 0, 20, .inl (rwW i))), (q2, .inl (E.2.1 1, 0, .inl (fun _ => 0)))]) H locs →
      (∀ ls : Array Slot, lv_has ls 5 [(2, .int (cdW i 6)), (1, .int (nI i)), (0, .ref h0)] → W p l e R s m args below meth c H locs 2 20 Q (F0 m 116 ls [])) →
      ∀ (d j : Nat) (ls : Array Slot), j + d = 6 → lv_has ls 5 [(3, .int (nI (6 * i + j))), (2, .int (cdW i j)), (1, .int (nI i)), (0, .ref h0)] → W p l e R s m args below meth c H locs 2 20 Q (F0 m 59 ls []) := by
    intro i H locs hi hF kx d
    have hold := hF.old hA0 hN
    have hNH := Nat.le_trans hN hF.2.2.1
    induction d with
    | zero =>
      intro j ls hj hl
      have e6 : j = 6 := by omega
      subst e6
      refine lv_iload_n hx hb dX10_init_59 rfl (lv_at hl 0 rfl) ?_
      refine lv_iload_n hx hb dX10_init_60 rfl (lv_at hl 2 rfl) ?_
      refine lv_iconst (v := 1) hx hb dX10_init_61 (by decide) ?_
      refine lv_iadd hx hb dX10_init_62 ?_
      refine lv_bipush (v := nI 6) hx hb dX10_init_63 (by decide) ?_
      refine lv_imul hx hb dX10_init_65 ?_
      refine lv_icmp_ge (tgt := 116) hx hb dX10_init_66 (by decide) (fun _ => ?_) (fun q => ?_)
      · exact kx ls (lv_sub hl [1, 2, 3] rfl)
      · exfalso; apply q
        rw [nI_1, nI_mul]
        exact nI_le (by omega) (by omega)
    | succ d ih =>
      intro j ls hj hl
      refine lv_iload_n hx hb dX10_init_59 rfl (lv_at hl 0 rfl) ?_
      refine lv_iload_n hx hb dX10_init_60 rfl (lv_at hl 2 rfl) ?_
      refine lv_iconst (v := 1) hx hb dX10_init_61 (by decide) ?_
      refine lv_iadd hx hb dX10_init_62 ?_
      refine lv_bipush (v := nI 6) hx hb dX10_init_63 (by decide) ?_
      refine lv_imul hx hb dX10_init_65 ?_
      refine lv_icmp_ge (tgt := 116) hx hb dX10_init_66 (by decide) (fun q => ?_) (fun _ => ?_)
      · exfalso
        rw [nI_1, nI_mul] at q
        exact nI_ge (by omega) (by omega) q
      refine lv_iload_n hx hb dX10_init_69 rfl (lv_at hl 0 rfl) ?_
      refine va_ldcS hx hb C.2.2.2.1 hK.2.2.1 dX10_init_70 ?_
      refine jx_V (As := []) (rest := [.int (nI (6 * i + j))]) (st1 := [.int (nI 120), .int (nI (6 * i + j))]) C hK (tJ0_len l E kA vA) lk_X10_37 ⟨by omega, by omega⟩ ⟨by omega, by omega⟩ hold hNH (rc_J0 hK hold) rfl hl.1 rfl rfl (Nat.le_of_ble_eq_true rfl) dX10_init_72 ?_
      refine lv_icmp_ge (tgt := 116) hx hb dX10_init_75 (by decide) (fun q => ?_) (fun _ => ?_)
      · exact absurd q (nI_ge (by omega) (by decide))
      refine va_ldcS hx hb C.2.2.2.1 hK.2.2.1 dX10_init_78 ?_
      refine lv_iload_n hx hb dX10_init_80 rfl (lv_at hl 0 rfl) ?_
      refine jx_V (As := [.int (nI (6 * i + j))]) (rest := []) (st1 := [.int (chW (6 * i + j))]) C hK (tJ0_at l E kA vA (6 * i + j) (by omega)) lk_X10_43 ⟨by omega, by omega⟩ ⟨by omega, by omega⟩ hold hNH (rc_J0 hK hold) rfl hl.1 rfl rfl (Nat.le_of_ble_eq_true rfl) dX10_init_81 ?_
      refine lv_istore hx hb dX10_init_84 hl (by decide) rfl (fun ls hl => ?_)
      have hl : lv_has ls 5 [(4, .int (chW (6 * i + j))), (3, .int (nI (6 * i + j))), (2, .int (cdW i j)), (1, .int (nI i)), (0, .ref h0)] := hl
      refine lv_iload_n hx hb dX10_init_86 rfl (lv_at hl 2 rfl) ?_
      refine lv_bipush (v := 32) hx hb dX10_init_87 (by decide) ?_
      refine lv_imul hx hb dX10_init_89 ?_
      refine lv_iload hx hb dX10_init_90 (lv_at hl 0 rfl) ?_
      refine lv_bipush (v := 32) hx hb dX10_init_92 (by decide) ?_
      have fin : W p l e R s m args below meth c H locs 2 20 Q (F0 m 108 ls [.int (ltW (6 * i + j)), .int (cdW i j * 32)]) := by
        refine lv_iadd hx hb dX10_init_108 ?_
        refine lv_istore_n hx hb dX10_init_109 rfl hl (by decide) rfl (fun ls hl => ?_)
        have hl : lv_has ls 5 [(2, .int (cdW i (j + 1))), (4, .int (chW (6 * i + j))), (3, .int (nI (6 * i + j))), (1, .int (nI i)), (0, .ref h0)] := hl
        refine lv_iinc (k := 2) (v := nI (6 * i + (j + 1))) hx hb dX10_init_110 hl rfl (nI_1 _) (by decide) rfl (fun ls hl => ?_)
        refine lv_goto (tgt := 59) hx hb dX10_init_113 (by decide) ?_
        exact ih (j + 1) ls (by omega) (lv_sub hl [0, 1, 3, 4] rfl)
      refine lv_icmp_ne (tgt := 101) hx hb dX10_init_94 (by decide) (fun q => ?_) (fun q => ?_)
      · refine lv_iload hx hb dX10_init_101 (lv_at hl 0 rfl) ?_
        refine lv_bipush (v := 97) hx hb dX10_init_103 (by decide) ?_
        refine lv_isub hx hb dX10_init_105 ?_
        refine lv_iconst (v := 1) hx hb dX10_init_106 (by decide) ?_
        refine lv_iadd hx hb dX10_init_107 ?_
        exact ox_topi (by unfold ltW; rw [if_neg q]) fin
      · refine lv_iconst (v := 0) hx hb dX10_init_97 (by decide) ?_
        refine lv_goto (tgt := 108) hx hb dX10_init_98 (by decide) ?_
        exact ox_topi (by unfold ltW; rw [if_pos q]) fin
  have houter : ∀ (d i : Nat) (ls : Array Slot) (H : Heap) (locs : List Loc), i + d = 20 → lv_has ls 5 [(1, .int (nI i)), (0, .ref h0)] → FW E A s.heap ([(h0, .inr (10, [.ref q1, .ref q2, .int 0, .int 0, .int 0, .int 0, .int 0])), (q1, .inl (E.2.1 0, 20, .inl (rwW i))), (q2, .inl (E.2.1 1, 0, .inl (fun _ => 0)))]) H locs → W p l e R s m args below meth c H locs 2 20 Q (F0 m 46 ls []) := by
    intro d
    induction d with
    | zero =>
      intro i ls H locs hi hl hF
      have e20 : i = 20 := by omega
      subst e20
      refine lv_iload_n hx hb dX10_init_46 rfl (lv_at hl 0 rfl) ?_
      refine lv_bipush (v := nI 20) hx hb dX10_init_47 (by decide) ?_
      refine lv_icmp_ge (tgt := 129) hx hb dX10_init_49 (by decide) (fun _ => ?_) (fun q => absurd (nI_le (Nat.le_refl 20) (by decide)) q)
      exact kk _ ls _ _ (mkA [q1, q2]) (hF.perm (ws' := wTokens E (cA0 h0 (mkA [q1, q2])) (mkA [q1, q2] 1) tok0) [0, 1] (by decide) rfl) dX10_init_129
    | succ d ih =>
      intro i ls H locs hi hl hF
      refine lv_iload_n hx hb dX10_init_46 rfl (lv_at hl 0 rfl) ?_
      refine lv_bipush (v := nI 20) hx hb dX10_init_47 (by decide) ?_
      refine lv_icmp_ge (tgt := 129) hx hb dX10_init_49 (by decide) (fun q => absurd q (nI_ge (by omega) (by decide))) (fun _ => ?_)
      refine lv_iconst (v := 0) hx hb dX10_init_52 (by decide) ?_
      refine lv_istore_n hx hb dX10_init_53 rfl hl (by decide) rfl (fun ls hl => ?_)
      have hl : lv_has ls 5 [(2, .int (cdW i 0)), (1, .int (nI i)), (0, .ref h0)] := hl
      refine lv_iload_n hx hb dX10_init_54 rfl (lv_at hl 1 rfl) ?_
      refine lv_bipush (v := nI 6) hx hb dX10_init_55 (by decide) ?_
      refine lv_imul hx hb dX10_init_57 ?_
      refine lv_istore_n hx hb dX10_init_58 rfl hl (by decide) rfl (fun ls hl => ?_)
      have hl : lv_has ls 5 [(3, .int (nI i * nI 6)), (2, .int (cdW i 0)), (1, .int (nI i)), (0, .ref h0)] := hl
      rw [nI_mul, Nat.mul_comm] at hl
      refine hinner i H locs (by omega) hF (fun ls hl => ?_) 6 0 ls rfl hl
      refine lv_aload_n hx hb dX10_init_116 rfl (lv_at hl 2 rfl) ?_
      refine va_get hx hb C.2.2.2.2 hinX10 C.2.2.2.1 hK.1.1 hF.1 0 rfl rfl 0 (by decide) (C.2.2.2.2 _ mw_220) (fun _ h => h) rfl dX10_init_117 ?_
      refine lv_iload_n hx hb dX10_init_120 rfl (lv_at hl 1 rfl) ?_
      refine lv_iload_n hx hb dX10_init_121 rfl (lv_at hl 0 rfl) ?_
      refine nx_iast C hK.1 hF 1 rfl (j := i) rfl (by omega) (by decide) (rwW_s i) dX10_init_122 (fun H locs hF => ?_)
      refine lv_iinc (k := 1) (v := nI (i + 1)) hx hb dX10_init_123 hl rfl (nI_1 _) (by decide) rfl (fun ls hl => ?_)
      refine lv_goto (tgt := 46) hx hb dX10_init_126 (by decide) ?_
      exact ih (i + 1) ls H locs (by omega) (lv_sub hl [0, 2] rfl) hF
  refine lv_iconst (v := 0) hx hb dX10_init_44 (by decide) ?_
  refine lv_istore_n hx hb dX10_init_45 rfl hl (by decide) rfl (fun ls hl => ?_)
  have e0 : rwW 0 = fun _ => 0 := by funext k; unfold rwW; rw [if_neg (by omega)]
  exact houter 20 0 ls _ _ rfl hl (by rw [e0]; exact hF)
