theorem dX12_dearest_36 : decode cX12_dearest 36 = .ok (.iload_n 3, 1) := by decide +kernel
theorem dX12_dearest_37 : decode cX12_dearest 37 = .ok (.iaload, 1) := by decide +kernel
theorem dX12_dearest_38 : decode cX12_dearest 38 = .ok (.aload_n 0, 1) := by decide +kernel
theorem dX12_dearest_39 : decode cX12_dearest 39 = .ok (.getfield 39, 3) := by decide +kernel
theorem dX12_dearest_42 : decode cX12_dearest 42 = .ok (.iload_n 1, 1) := by decide +kernel
theorem dX12_dearest_43 : decode cX12_dearest 43 = .ok (.iaload, 1) := by decide +kernel
theorem dX12_dearest_44 : decode cX12_dearest 44 = .ok (.invokestatic 420, 3) := by decide +kernel
theorem dX12_dearest_47 : decode cX12_dearest 47 = .ok (.aload_n 0, 1) := by decide +kernel
theorem dX12_dearest_48 : decode cX12_dearest 48 = .ok (.getfield 30, 3) := by decide +kernel
theorem dX12_dearest_51 : decode cX12_dearest 51 = .ok (.iload_n 2, 1) := by decide +kernel
theorem dX12_dearest_52 : decode cX12_dearest 52 = .ok (.iaload, 1) := by decide +kernel
theorem dX12_dearest_53 : decode cX12_dearest 53 = .ok (.aload_n 0, 1) := by decide +kernel
theorem dX12_dearest_54 : decode cX12_dearest 54 = .ok (.getfield 39, 3) := by decide +kernel
theorem dX12_dearest_57 : decode cX12_dearest 57 = .ok (.iload_n 1, 1) := by decide +kernel
theorem dX12_dearest_58 : decode cX12_dearest 58 = .ok (.iaload, 1) := by decide +kernel
theorem dX12_dearest_59 : decode cX12_dearest 59 = .ok (.invokestatic 420, 3) := by decide +kernel
theorem dX12_dearest_62 : decode cX12_dearest 62 = .ok (.if_icmp .ge 5, 3) := by decide +kernel
theorem dX12_dearest_65 : decode cX12_dearest 65 = .ok (.iload_n 3, 1) := by decide +kernel
theorem dX12_dearest_66 : decode cX12_dearest 66 = .ok (.istore_n 2, 1) := by decide +kernel
theorem dX12_dearest_67 : decode cX12_dearest 67 = .ok (.iinc 3 1, 3) := by decide +kernel
theorem dX12_dearest_70 : decode cX12_dearest 70 = .ok (.goto (-50), 3) := by decide +kernel
theorem dX12_dearest_73 : decode cX12_dearest 73 = .ok (.iload_n 2, 1) := by decide +kernel
theorem dX12_dearest_74 : decode cX12_dearest 74 = .ok (.ireturn, 1) := by decide +kernel
theorem dX12_quiet_0 : decode cX12_quiet 0 = .ok (.aload_n 0, 1) := by decide +kernel
theorem dX12_quiet_1 : decode cX12_quiet 1 = .ok (.iconst 0, 1) := by decide +kernel
theorem dX12_quiet_2 : decode cX12_quiet 2 = .ok (.putfield 157, 3) := by decide +kernel
theorem dX12_quiet_5 : decode cX12_quiet 5 = .ok (.iload_n 1, 1) := by decide +kernel
theorem dX12_quiet_6 : decode cX12_quiet 6 = .ok (.iconst 0, 1) := by decide +kernel
theorem dX12_quiet_7 : decode cX12_quiet 7 = .ok (.bipush 6, 2) := by decide +kernel
theorem dX12_quiet_9 : decode cX12_quiet 9 = .ok (.invokestatic 202, 3) := by decide +kernel
theorem dX12_quiet_12 : decode cX12_quiet 12 = .ok (.ifCond .eq 12, 3) := by decide +kernel
theorem dX12_quiet_15 : decode cX12_quiet 15 = .ok (.iload_n 2, 1) := by decide +kernel
theorem dX12_quiet_16 : decode cX12_quiet 16 = .ok (.iconst 0, 1) := by decide +kernel
theorem dX12_quiet_17 : decode cX12_quiet 17 = .ok (.iconst 1, 1) := by decide +kernel
theorem dX12_quiet_18 : decode cX12_quiet 18 = .ok (.invokestatic 202, 3) := by decide +kernel
theorem dX12_quiet_21 : decode cX12_quiet 21 = .ok (.ifCond .ne 7, 3) := by decide +kernel
theorem dX12_quiet_24 : decode cX12_quiet 24 = .ok (.ldc2_w 533, 3) := by decide +kernel
theorem dX12_quiet_27 : decode cX12_quiet 27 = .ok (.lreturn, 1) := by decide +kernel
theorem dX12_quiet_28 : decode cX12_quiet 28 = .ok (.lconst 1, 1) := by decide +kernel
theorem dX12_quiet_29 : decode cX12_quiet 29 = .ok (.lstore_n 3, 1) := by decide +kernel
theorem dX12_quiet_30 : decode cX12_quiet 30 = .ok (.lconst 1, 1) := by decide +kernel
theorem dX12_quiet_31 : decode cX12_quiet 31 = .ok (.lstore 5, 2) := by decide +kernel
theorem dX12_quiet_33 : decode cX12_quiet 33 = .ok (.iconst 0, 1) := by decide +kernel
theorem dX12_quiet_34 : decode cX12_quiet 34 = .ok (.istore 7, 2) := by decide +kernel
theorem dX12_quiet_36 : decode cX12_quiet 36 = .ok (.iload 7, 2) := by decide +kernel
theorem dX12_quiet_38 : decode cX12_quiet 38 = .ok (.iload_n 1, 1) := by decide +kernel
theorem dX12_quiet_39 : decode cX12_quiet 39 = .ok (.if_icmp .ge 30, 3) := by decide +kernel
theorem dX12_quiet_42 : decode cX12_quiet 42 = .ok (.lload_n 3, 1) := by decide +kernel
theorem dX12_quiet_43 : decode cX12_quiet 43 = .ok (.bipush 100, 2) := by decide +kernel
theorem dX12_quiet_45 : decode cX12_quiet 45 = .ok (.aload_n 0, 1) := by decide +kernel
theorem dX12_quiet_46 : decode cX12_quiet 46 = .ok (.getfield 24, 3) := by decide +kernel
theorem dX12_quiet_49 : decode cX12_quiet 49 = .ok (.iconst 0, 1) := by decide +kernel
theorem dX12_quiet_50 : decode cX12_quiet 50 = .ok (.iaload, 1) := by decide +kernel
theorem dX12_quiet_51 : decode cX12_quiet 51 = .ok (.isub, 1) := by decide +kernel
theorem dX12_quiet_52 : decode cX12_quiet 52 = .ok (.i2l, 1) := by decide +kernel
theorem dX12_quiet_53 : decode cX12_quiet 53 = .ok (.lmul, 1) := by decide +kernel
theorem dX12_quiet_54 : decode cX12_quiet 54 = .ok (.lstore_n 3, 1) := by decide +kernel
theorem dX12_quiet_55 : decode cX12_quiet 55 = .ok (.lload 5, 2) := by decide +kernel
theorem dX12_quiet_57 : decode cX12_quiet 57 = .ok (.ldc2_w 535, 3) := by decide +kernel
theorem dX12_quiet_60 : decode cX12_quiet 60 = .ok (.lmul, 1) := by decide +kernel
theorem dX12_quiet_61 : decode cX12_quiet 61 = .ok (.lstore 5, 2) := by decide +kernel
theorem dX12_quiet_63 : decode cX12_quiet 63 = .ok (.iinc 7 1, 3) := by decide +kernel
theorem dX12_quiet_66 : decode cX12_quiet 66 = .ok (.goto (-30), 3) := by decide +kernel
theorem dX12_quiet_69 : decode cX12_quiet 69 = .ok (.lload 5, 2) := by decide +kernel
theorem dX12_quiet_71 : decode cX12_quiet 71 = .ok (.lstore 7, 2) := by decide +kernel
theorem dX12_quiet_73 : decode cX12_quiet 73 = .ok (.lload_n 3, 1) := by decide +kernel
theorem dX12_quiet_74 : decode cX12_quiet 74 = .ok (.lstore 9, 2) := by decide +kernel
theorem dX12_quiet_76 : decode cX12_quiet 76 = .ok (.lload 9, 2) := by decide +kernel
theorem dX12_quiet_78 : decode cX12_quiet 78 = .ok (.lconst 0, 1) := by decide +kernel
theorem dX12_quiet_79 : decode cX12_quiet 79 = .ok (.lcmp, 1) := by decide +kernel
theorem dX12_quiet_80 : decode cX12_quiet 80 = .ok (.ifCond .eq 21, 3) := by decide +kernel
theorem dX12_quiet_83 : decode cX12_quiet 83 = .ok (.lload 7, 2) := by decide +kernel
theorem dX12_quiet_85 : decode cX12_quiet 85 = .ok (.lload 9, 2) := by decide +kernel
theorem dX12_quiet_87 : decode cX12_quiet 87 = .ok (.lrem, 1) := by decide +kernel
theorem dX12_quiet_88 : decode cX12_quiet 88 = .ok (.lstore 11, 2) := by decide +kernel
theorem dX12_quiet_90 : decode cX12_quiet 90 = .ok (.lload 9, 2) := by decide +kernel
theorem dX12_quiet_92 : decode cX12_quiet 92 = .ok (.lstore 7, 2) := by decide +kernel
theorem dX12_quiet_94 : decode cX12_quiet 94 = .ok (.lload 11, 2) := by decide +kernel
theorem dX12_quiet_96 : decode cX12_quiet 96 = .ok (.lstore 9, 2) := by decide +kernel
theorem dX12_quiet_98 : decode cX12_quiet 98 = .ok (.goto (-22), 3) := by decide +kernel
theorem dX12_quiet_101 : decode cX12_quiet 101 = .ok (.iload_n 2, 1) := by decide +kernel
theorem dX12_quiet_102 : decode cX12_quiet 102 = .ok (.ifCond .ne 10, 3) := by decide +kernel
theorem dX12_quiet_105 : decode cX12_quiet 105 = .ok (.lload_n 3, 1) := by decide +kernel
theorem dX12_quiet_106 : decode cX12_quiet 106 = .ok (.lload 7, 2) := by decide +kernel
theorem dX12_quiet_108 : decode cX12_quiet 108 = .ok (.ldiv, 1) := by decide +kernel
theorem dX12_quiet_109 : decode cX12_quiet 109 = .ok (.goto 8, 3) := by decide +kernel
theorem dX12_quiet_112 : decode cX12_quiet 112 = .ok (.lload 5, 2) := by decide +kernel
theorem dX12_quiet_114 : decode cX12_quiet 114 = .ok (.lload 7, 2) := by decide +kernel
theorem dX12_quiet_116 : decode cX12_quiet 116 = .ok (.ldiv, 1) := by decide +kernel
theorem dX12_quiet_117 : decode cX12_quiet 117 = .ok (.lreturn, 1) := by decide +kernel
theorem dX12_noted_0 : decode cX12_noted 0 = .ok (.aload_n 0, 1) := by decide +kernel
theorem dX12_noted_1 : decode cX12_noted 1 = .ok (.getfield 133, 3) := by decide +kernel
theorem dX12_noted_4 : decode cX12_noted 4 = .ok (.iconst 3, 1) := by decide +kernel
theorem dX12_noted_5 : decode cX12_noted 5 = .ok (.aload_n 0, 1) := by decide +kernel
theorem dX12_noted_6 : decode cX12_noted 6 = .ok (.getfield 368, 3) := by decide +kernel
theorem dX12_noted_9 : decode cX12_noted 9 = .ok (.imul, 1) := by decide +kernel
theorem dX12_noted_10 : decode cX12_noted 10 = .ok (.iload_n 1, 1) := by decide +kernel
theorem dX12_noted_11 : decode cX12_noted 11 = .ok (.iastore, 1) := by decide +kernel
theorem dX12_noted_12 : decode cX12_noted 12 = .ok (.aload_n 0, 1) := by decide +kernel
theorem dX12_noted_13 : decode cX12_noted 13 = .ok (.getfield 133, 3) := by decide +kernel
theorem dX12_noted_16 : decode cX12_noted 16 = .ok (.iconst 3, 1) := by decide +kernel
theorem dX12_noted_17 : decode cX12_noted 17 = .ok (.aload_n 0, 1) := by decide +kernel
theorem dX12_noted_18 : decode cX12_noted 18 = .ok (.getfield 368, 3) := by decide +kernel
theorem dX12_noted_21 : decode cX12_noted 21 = .ok (.imul, 1) := by decide +kernel
theorem dX12_noted_22 : decode cX12_noted 22 = .ok (.iconst 1, 1) := by decide +kernel
theorem dX12_noted_23 : decode cX12_noted 23 = .ok (.iadd, 1) := by decide +kernel
theorem dX12_noted_24 : decode cX12_noted 24 = .ok (.iload_n 2, 1) := by decide +kernel
theorem dX12_noted_25 : decode cX12_noted 25 = .ok (.iastore, 1) := by decide +kernel
theorem dX12_noted_26 : decode cX12_noted 26 = .ok (.aload_n 0, 1) := by decide +kernel
theorem dX12_noted_27 : decode cX12_noted 27 = .ok (.getfield 133, 3) := by decide +kernel
theorem dX12_noted_30 : decode cX12_noted 30 = .ok (.iconst 3, 1) := by decide +kernel
theorem dX12_noted_31 : decode cX12_noted 31 = .ok (.aload_n 0, 1) := by decide +kernel
theorem dX12_noted_32 : decode cX12_noted 32 = .ok (.getfield 368, 3) := by decide +kernel
theorem dX12_noted_35 : decode cX12_noted 35 = .ok (.imul, 1) := by decide +kernel
theorem dX12_noted_36 : decode cX12_noted 36 = .ok (.iconst 2, 1) := by decide +kernel
theorem dX12_noted_37 : decode cX12_noted 37 = .ok (.iadd, 1) := by decide +kernel
theorem dX12_noted_38 : decode cX12_noted 38 = .ok (.iload_n 3, 1) := by decide +kernel
theorem dX12_noted_39 : decode cX12_noted 39 = .ok (.iastore, 1) := by decide +kernel
theorem dX12_noted_40 : decode cX12_noted 40 = .ok (.aload_n 0, 1) := by decide +kernel
theorem dX12_noted_41 : decode cX12_noted 41 = .ok (.dup, 1) := by decide +kernel
theorem dX12_noted_42 : decode cX12_noted 42 = .ok (.getfield 368, 3) := by decide +kernel
theorem dX12_noted_45 : decode cX12_noted 45 = .ok (.iconst 1, 1) := by decide +kernel
theorem dX12_noted_46 : decode cX12_noted 46 = .ok (.iadd, 1) := by decide +kernel
theorem dX12_noted_47 : decode cX12_noted 47 = .ok (.putfield 368, 3) := by decide +kernel
theorem dX12_noted_50 : decode cX12_noted 50 = .ok (.aload_n 0, 1) := by decide +kernel
theorem dX12_noted_51 : decode cX12_noted 51 = .ok (.getfield 368, 3) := by decide +kernel
theorem dX12_noted_54 : decode cX12_noted 54 = .ok (.iconst 1, 1) := by decide +kernel
theorem dX12_noted_55 : decode cX12_noted 55 = .ok (.isub, 1) := by decide +kernel
theorem dX12_noted_56 : decode cX12_noted 56 = .ok (.ireturn, 1) := by decide +kernel
theorem dX12_see_0 : decode cX12_see 0 = .ok (.aload_n 0, 1) := by decide +kernel
theorem dX12_see_1 : decode cX12_see 1 = .ok (.iconst 0, 1) := by decide +kernel
theorem dX12_see_2 : decode cX12_see 2 = .ok (.putfield 157, 3) := by decide +kernel
theorem dX12_see_5 : decode cX12_see 5 = .ok (.aload_n 0, 1) := by decide +kernel
theorem dX12_see_6 : decode cX12_see 6 = .ok (.getfield 368, 3) := by decide +kernel
theorem dX12_see_9 : decode cX12_see 9 = .ok (.bipush 24, 2) := by decide +kernel
theorem dX12_see_11 : decode cX12_see 11 = .ok (.if_icmp .eq 24, 3) := by decide +kernel
theorem dX12_see_14 : decode cX12_see 14 = .ok (.iload_n 1, 1) := by decide +kernel
theorem dX12_see_15 : decode cX12_see 15 = .ok (.iconst 1, 1) := by decide +kernel
theorem dX12_see_16 : decode cX12_see 16 = .ok (.bipush 60, 2) := by decide +kernel
theorem dX12_see_18 : decode cX12_see 18 = .ok (.invokestatic 202, 3) := by decide +kernel
theorem dX12_see_21 : decode cX12_see 21 = .ok (.ifCond .eq 14, 3) := by decide +kernel
theorem dX12_see_24 : decode cX12_see 24 = .ok (.iload_n 2, 1) := by decide +kernel
theorem dX12_see_25 : decode cX12_see 25 = .ok (.iconst 0, 1) := by decide +kernel
theorem dX12_see_26 : decode cX12_see 26 = .ok (.sipush 999, 3) := by decide +kernel
theorem dX12_see_29 : decode cX12_see 29 = .ok (.invokestatic 202, 3) := by decide +kernel
theorem dX12_see_32 : decode cX12_see 32 = .ok (.ifCond .ne 7, 3) := by decide +kernel
theorem dX12_see_35 : decode cX12_see 35 = .ok (.iconst (-1), 1) := by decide +kernel
theorem dX12_see_36 : decode cX12_see 36 = .ok (.goto 18, 3) := by decide +kernel
theorem dX12_see_39 : decode cX12_see 39 = .ok (.aload_n 0, 1) := by decide +kernel
theorem dX12_see_40 : decode cX12_see 40 = .ok (.iload_n 1, 1) := by decide +kernel
theorem dX12_see_41 : decode cX12_see 41 = .ok (.iload_n 2, 1) := by decide +kernel
theorem dX12_see_42 : decode cX12_see 42 = .ok (.iload_n 3, 1) := by decide +kernel
theorem dX12_see_43 : decode cX12_see 43 = .ok (.ifCond .eq 7, 3) := by decide +kernel
theorem dX12_see_46 : decode cX12_see 46 = .ok (.iconst 1, 1) := by decide +kernel
theorem dX12_see_47 : decode cX12_see 47 = .ok (.goto 4, 3) := by decide +kernel
theorem dX12_see_50 : decode cX12_see 50 = .ok (.iconst 0, 1) := by decide +kernel
theorem dX12_see_51 : decode cX12_see 51 = .ok (.invokevirtual 537, 3) := by decide +kernel
theorem dX12_see_54 : decode cX12_see 54 = .ok (.ireturn, 1) := by decide +kernel
theorem dX12_strike_0 : decode cX12_strike 0 = .ok (.aload_n 0, 1) := by decide +kernel
theorem dX12_strike_1 : decode cX12_strike 1 = .ok (.iconst 0, 1) := by decide +kernel
theorem dX12_strike_2 : decode cX12_strike 2 = .ok (.putfield 157, 3) := by decide +kernel
theorem dX12_strike_5 : decode cX12_strike 5 = .ok (.aload_n 0, 1) := by decide +kernel
theorem dX12_strike_6 : decode cX12_strike 6 = .ok (.getfield 368, 3) := by decide +kernel
theorem dX12_strike_9 : decode cX12_strike 9 = .ok (.bipush 24, 2) := by decide +kernel
theorem dX12_strike_11 : decode cX12_strike 11 = .ok (.if_icmp .eq 15, 3) := by decide +kernel
theorem dX12_strike_14 : decode cX12_strike 14 = .ok (.iload_n 1, 1) := by decide +kernel
theorem dX12_strike_15 : decode cX12_strike 15 = .ok (.ifCond .lt 11, 3) := by decide +kernel
theorem dX12_strike_18 : decode cX12_strike 18 = .ok (.iload_n 1, 1) := by decide +kernel
theorem dX12_strike_19 : decode cX12_strike 19 = .ok (.aload_n 0, 1) := by decide +kernel
theorem dX12_strike_20 : decode cX12_strike 20 = .ok (.getfield 368, 3) := by decide +kernel
theorem dX12_strike_23 : decode cX12_strike 23 = .ok (.if_icmp .lt 7, 3) := by decide +kernel
theorem dX12_strike_26 : decode cX12_strike 26 = .ok (.iconst (-1), 1) := by decide +kernel
theorem dX12_strike_27 : decode cX12_strike 27 = .ok (.goto 10, 3) := by decide +kernel
theorem dX12_strike_30 : decode cX12_strike 30 = .ok (.aload_n 0, 1) := by decide +kernel
theorem dX12_strike_31 : decode cX12_strike 31 = .ok (.iconst (-1), 1) := by decide +kernel
theorem dX12_strike_32 : decode cX12_strike 32 = .ok (.iload_n 1, 1) := by decide +kernel
theorem dX12_strike_33 : decode cX12_strike 33 = .ok (.iconst 0, 1) := by decide +kernel
theorem dX12_strike_34 : decode cX12_strike 34 = .ok (.invokevirtual 537, 3) := by decide +kernel
theorem dX12_strike_37 : decode cX12_strike 37 = .ok (.ireturn, 1) := by decide +kernel
theorem dX12_known_0 : decode cX12_known 0 = .ok (.aload_n 0, 1) := by decide +kernel
theorem dX12_known_1 : decode cX12_known 1 = .ok (.iconst 0, 1) := by decide +kernel
theorem dX12_known_2 : decode cX12_known 2 = .ok (.putfield 157, 3) := by decide +kernel
theorem dX12_known_5 : decode cX12_known 5 = .ok (.iload_n 1, 1) := by decide +kernel
theorem dX12_known_6 : decode cX12_known 6 = .ok (.iconst (-1), 1) := by decide +kernel
theorem dX12_known_7 : decode cX12_known 7 = .ok (.aload_n 0, 1) := by decide +kernel
theorem dX12_known_8 : decode cX12_known 8 = .ok (.getfield 368, 3) := by decide +kernel
theorem dX12_known_11 : decode cX12_known 11 = .ok (.invokestatic 202, 3) := by decide +kernel
theorem dX12_known_14 : decode cX12_known 14 = .ok (.ifCond .ne 5, 3) := by decide +kernel
theorem dX12_known_17 : decode cX12_known 17 = .ok (.iconst 0, 1) := by decide +kernel
theorem dX12_known_18 : decode cX12_known 18 = .ok (.ireturn, 1) := by decide +kernel
theorem dX12_known_19 : decode cX12_known 19 = .ok (.aload_n 0, 1) := by decide +kernel
theorem dX12_known_20 : decode cX12_known 20 = .ok (.iload_n 1, 1) := by decide +kernel
theorem dX12_known_21 : decode cX12_known 21 = .ok (.putfield 130, 3) := by decide +kernel
theorem dX12_known_24 : decode cX12_known 24 = .ok (.iconst 1, 1) := by decide +kernel
theorem dX12_known_25 : decode cX12_known 25 = .ok (.ireturn, 1) := by decide +kernel
theorem dX12_knownBy_0 : decode cX12_knownBy 0 = .ok (.aload_n 0, 1) := by decide +kernel
theorem dX12_knownBy_1 : decode cX12_knownBy 1 = .ok (.getfield 130, 3) := by decide +kernel
theorem dX12_knownBy_4 : decode cX12_knownBy 4 = .ok (.ifCond .ge 10, 3) := by decide +kernel
theorem dX12_knownBy_7 : decode cX12_knownBy 7 = .ok (.aload_n 0, 1) := by decide +kernel
theorem dX12_knownBy_8 : decode cX12_knownBy 8 = .ok (.getfield 368, 3) := by decide +kernel
theorem dX12_knownBy_11 : decode cX12_knownBy 11 = .ok (.goto 7, 3) := by decide +kernel
theorem dX12_knownBy_14 : decode cX12_knownBy 14 = .ok (.aload_n 0, 1) := by decide +kernel
theorem dX12_knownBy_15 : decode cX12_knownBy 15 = .ok (.getfield 130, 3) := by decide +kernel
theorem dX12_knownBy_18 : decode cX12_knownBy 18 = .ok (.ireturn, 1) := by decide +kernel
theorem dX12_isSo_0 : decode cX12_isSo 0 = .ok (.iconst 0, 1) := by decide +kernel
theorem dX12_isSo_1 : decode cX12_isSo 1 = .ok (.istore_n 2, 1) := by decide +kernel
theorem dX12_isSo_2 : decode cX12_isSo 2 = .ok (.iload_n 2, 1) := by decide +kernel
theorem dX12_isSo_3 : decode cX12_isSo 3 = .ok (.aload_n 0, 1) := by decide +kernel
theorem dX12_isSo_4 : decode cX12_isSo 4 = .ok (.invokevirtual 540, 3) := by decide +kernel
theorem dX12_isSo_7 : decode cX12_isSo 7 = .ok (.if_icmp .ge 77, 3) := by decide +kernel
theorem dX12_isSo_10 : decode cX12_isSo 10 = .ok (.aload_n 0, 1) := by decide +kernel
theorem dX12_isSo_11 : decode cX12_isSo 11 = .ok (.getfield 136, 3) := by decide +kernel
theorem dX12_isSo_14 : decode cX12_isSo 14 = .ok (.iload_n 2, 1) := by decide +kernel
theorem dX12_isSo_15 : decode cX12_isSo 15 = .ok (.baload, 1) := by decide +kernel
theorem dX12_isSo_16 : decode cX12_isSo 16 = .ok (.ifCond .eq 62, 3) := by decide +kernel
theorem dX12_isSo_19 : decode cX12_isSo 19 = .ok (.aload_n 0, 1) := by decide +kernel
theorem dX12_isSo_20 : decode cX12_isSo 20 = .ok (.getfield 133, 3) := by decide +kernel
theorem dX12_isSo_23 : decode cX12_isSo 23 = .ok (.iconst 3, 1) := by decide +kernel
theorem dX12_isSo_24 : decode cX12_isSo 24 = .ok (.iload_n 2, 1) := by decide +kernel
theorem dX12_isSo_25 : decode cX12_isSo 25 = .ok (.imul, 1) := by decide +kernel
theorem dX12_isSo_26 : decode cX12_isSo 26 = .ok (.iaload, 1) := by decide +kernel
theorem dX12_isSo_27 : decode cX12_isSo 27 = .ok (.iload_n 1, 1) := by decide +kernel
theorem dX12_isSo_28 : decode cX12_isSo 28 = .ok (.if_icmp .ne 50, 3) := by decide +kernel
theorem dX12_isSo_31 : decode cX12_isSo 31 = .ok (.aload_n 0, 1) := by decide +kernel
theorem dX12_isSo_32 : decode cX12_isSo 32 = .ok (.iconst 1, 1) := by decide +kernel
theorem dX12_isSo_33 : decode cX12_isSo 33 = .ok (.invokevirtual 410, 3) := by decide +kernel
theorem dX12_isSo_36 : decode cX12_isSo 36 = .ok (.aload_n 0, 1) := by decide +kernel
theorem dX12_isSo_37 : decode cX12_isSo 37 = .ok (.getfield 133, 3) := by decide +kernel
theorem dX12_isSo_40 : decode cX12_isSo 40 = .ok (.iconst 3, 1) := by decide +kernel
theorem dX12_isSo_41 : decode cX12_isSo 41 = .ok (.iload_n 2, 1) := by decide +kernel
theorem dX12_isSo_42 : decode cX12_isSo 42 = .ok (.imul, 1) := by decide +kernel
theorem dX12_isSo_43 : decode cX12_isSo 43 = .ok (.iconst 1, 1) := by decide +kernel
theorem dX12_isSo_44 : decode cX12_isSo 44 = .ok (.iadd, 1) := by decide +kernel
theorem dX12_isSo_45 : decode cX12_isSo 45 = .ok (.iaload, 1) := by decide +kernel
theorem dX12_isSo_46 : decode cX12_isSo 46 = .ok (.if_icmp .lt 7, 3) := by decide +kernel
theorem dX12_isSo_49 : decode cX12_isSo 49 = .ok (.iconst 1, 1) := by decide +kernel
theorem dX12_isSo_50 : decode cX12_isSo 50 = .ok (.goto 4, 3) := by decide +kernel
theorem dX12_isSo_53 : decode cX12_isSo 53 = .ok (.iconst 0, 1) := by decide +kernel
theorem dX12_isSo_54 : decode cX12_isSo 54 = .ok (.aload_n 0, 1) := by decide +kernel
theorem dX12_isSo_55 : decode cX12_isSo 55 = .ok (.getfield 133, 3) := by decide +kernel
theorem dX12_isSo_58 : decode cX12_isSo 58 = .ok (.iconst 3, 1) := by decide +kernel
theorem dX12_isSo_59 : decode cX12_isSo 59 = .ok (.iload_n 2, 1) := by decide +kernel
theorem dX12_isSo_60 : decode cX12_isSo 60 = .ok (.imul, 1) := by decide +kernel
theorem dX12_isSo_61 : decode cX12_isSo 61 = .ok (.iconst 2, 1) := by decide +kernel
theorem dX12_isSo_62 : decode cX12_isSo 62 = .ok (.iadd, 1) := by decide +kernel
theorem dX12_isSo_63 : decode cX12_isSo 63 = .ok (.iaload, 1) := by decide +kernel
theorem dX12_isSo_64 : decode cX12_isSo 64 = .ok (.iconst 1, 1) := by decide +kernel
theorem dX12_isSo_65 : decode cX12_isSo 65 = .ok (.if_icmp .ne 7, 3) := by decide +kernel
theorem dX12_isSo_68 : decode cX12_isSo 68 = .ok (.iconst 1, 1) := by decide +kernel
theorem dX12_isSo_69 : decode cX12_isSo 69 = .ok (.goto 4, 3) := by decide +kernel
theorem dX12_isSo_72 : decode cX12_isSo 72 = .ok (.iconst 0, 1) := by decide +kernel
theorem dX12_isSo_73 : decode cX12_isSo 73 = .ok (.if_icmp .eq 5, 3) := by decide +kernel
theorem dX12_isSo_76 : decode cX12_isSo 76 = .ok (.iconst 0, 1) := by decide +kernel
theorem dX12_isSo_77 : decode cX12_isSo 77 = .ok (.ireturn, 1) := by decide +kernel
theorem dX12_isSo_78 : decode cX12_isSo 78 = .ok (.iinc 2 1, 3) := by decide +kernel
theorem dX12_isSo_81 : decode cX12_isSo 81 = .ok (.goto (-79), 3) := by decide +kernel
theorem dX12_isSo_84 : decode cX12_isSo 84 = .ok (.iconst 1, 1) := by decide +kernel
theorem dX12_isSo_85 : decode cX12_isSo 85 = .ok (.ireturn, 1) := by decide +kernel
theorem dX12_layMood_0 : decode cX12_layMood 0 = .ok (.aload_n 0, 1) := by decide +kernel
theorem dX12_layMood_1 : decode cX12_layMood 1 = .ok (.iconst 1, 1) := by decide +kernel
theorem dX12_layMood_2 : decode cX12_layMood 2 = .ok (.invokevirtual 358, 3) := by decide +kernel
theorem dX12_layMood_5 : decode cX12_layMood 5 = .ok (.aload_n 0, 1) := by decide +kernel
theorem dX12_layMood_6 : decode cX12_layMood 6 = .ok (.invokevirtual 365, 3) := by decide +kernel
theorem dX12_layMood_9 : decode cX12_layMood 9 = .ok (.aload_n 0, 1) := by decide +kernel
theorem dX12_layMood_10 : decode cX12_layMood 10 = .ok (.iload_n 1, 1) := by decide +kernel
theorem dX12_layMood_11 : decode cX12_layMood 11 = .ok (.putfield 398, 3) := by decide +kernel
theorem dX12_layMood_14 : decode cX12_layMood 14 = .ok (.aload_n 0, 1) := by decide +kernel
theorem dX12_layMood_15 : decode cX12_layMood 15 = .ok (.iload_n 2, 1) := by decide +kernel
theorem dX12_layMood_16 : decode cX12_layMood 16 = .ok (.putfield 401, 3) := by decide +kernel
theorem dX12_layMood_19 : decode cX12_layMood 19 = .ok (.return_, 1) := by decide +kernel
theorem dX12_fits_0 : decode cX12_fits 0 = .ok (.aload_n 0, 1) := by decide +kernel
theorem dX12_fits_1 : decode cX12_fits 1 = .ok (.iload_n 1, 1) := by decide +kernel
theorem dX12_fits_2 : decode cX12_fits 2 = .ok (.iload_n 2, 1) := by decide +kernel
theorem dX12_fits_3 : decode cX12_fits 3 = .ok (.invokevirtual 543, 3) := by decide +kernel
theorem dX12_fits_6 : decode cX12_fits 6 = .ok (.iconst 1, 1) := by decide +kernel
theorem dX12_fits_7 : decode cX12_fits 7 = .ok (.istore_n 3, 1) := by decide +kernel
theorem dX12_fits_8 : decode cX12_fits 8 = .ok (.iload_n 3, 1) := by decide +kernel
theorem dX12_fits_9 : decode cX12_fits 9 = .ok (.bipush 60, 2) := by decide +kernel
theorem dX12_fits_11 : decode cX12_fits 11 = .ok (.if_icmp .gt 24, 3) := by decide +kernel
theorem dX12_fits_14 : decode cX12_fits 14 = .ok (.aload_n 0, 1) := by decide +kernel
theorem dX12_fits_15 : decode cX12_fits 15 = .ok (.iconst 1, 1) := by decide +kernel
theorem dX12_fits_16 : decode cX12_fits 16 = .ok (.invokevirtual 473, 3) := by decide +kernel
theorem dX12_fits_19 : decode cX12_fits 19 = .ok (.aload_n 0, 1) := by decide +kernel
theorem dX12_fits_20 : decode cX12_fits 20 = .ok (.iload_n 3, 1) := by decide +kernel
theorem dX12_fits_21 : decode cX12_fits 21 = .ok (.invokevirtual 546, 3) := by decide +kernel
theorem dX12_fits_24 : decode cX12_fits 24 = .ok (.ifCond .ne 5, 3) := by decide +kernel
theorem dX12_fits_27 : decode cX12_fits 27 = .ok (.iconst 0, 1) := by decide +kernel
theorem dX12_fits_28 : decode cX12_fits 28 = .ok (.ireturn, 1) := by decide +kernel
theorem dX12_fits_29 : decode cX12_fits 29 = .ok (.iinc 3 1, 3) := by decide +kernel
theorem dX12_fits_32 : decode cX12_fits 32 = .ok (.goto (-24), 3) := by decide +kernel
theorem dX12_fits_35 : decode cX12_fits 35 = .ok (.iconst 1, 1) := by decide +kernel
theorem dX12_fits_36 : decode cX12_fits 36 = .ok (.ireturn, 1) := by decide +kernel
theorem dX12_moodBits_0 : decode cX12_moodBits 0 = .ok (.iconst 0, 1) := by decide +kernel
theorem dX12_moodBits_1 : decode cX12_moodBits 1 = .ok (.istore_n 2, 1) := by decide +kernel
theorem dX12_moodBits_2 : decode cX12_moodBits 2 = .ok (.iload_n 2, 1) := by decide +kernel
theorem dX12_moodBits_3 : decode cX12_moodBits 3 = .ok (.aload_n 0, 1) := by decide +kernel
theorem dX12_moodBits_4 : decode cX12_moodBits 4 = .ok (.invokevirtual 540, 3) := by decide +kernel
theorem dX12_moodBits_7 : decode cX12_moodBits 7 = .ok (.if_icmp .ge 16, 3) := by decide +kernel
theorem dX12_moodBits_10 : decode cX12_moodBits 10 = .ok (.aload_n 0, 1) := by decide +kernel
theorem dX12_moodBits_11 : decode cX12_moodBits 11 = .ok (.getfield 136, 3) := by decide +kernel
theorem dX12_moodBits_14 : decode cX12_moodBits 14 = .ok (.iload_n 2, 1) := by decide +kernel
theorem dX12_moodBits_15 : decode cX12_moodBits 15 = .ok (.iconst 1, 1) := by decide +kernel
theorem dX12_moodBits_16 : decode cX12_moodBits 16 = .ok (.bastore, 1) := by decide +kernel
theorem dX12_moodBits_17 : decode cX12_moodBits 17 = .ok (.iinc 2 1, 3) := by decide +kernel
theorem dX12_moodBits_20 : decode cX12_moodBits 20 = .ok (.goto (-18), 3) := by decide +kernel
theorem dX12_moodBits_23 : decode cX12_moodBits 23 = .ok (.aload_n 0, 1) := by decide +kernel
theorem dX12_moodBits_24 : decode cX12_moodBits 24 = .ok (.invokevirtual 540, 3) := by decide +kernel
theorem dX12_moodBits_27 : decode cX12_moodBits 27 = .ok (.iconst 1, 1) := by decide +kernel
theorem dX12_moodBits_28 : decode cX12_moodBits 28 = .ok (.isub, 1) := by decide +kernel
theorem dX12_moodBits_29 : decode cX12_moodBits 29 = .ok (.istore_n 2, 1) := by decide +kernel
theorem dX12_moodBits_30 : decode cX12_moodBits 30 = .ok (.iload_n 2, 1) := by decide +kernel
theorem dX12_moodBits_31 : decode cX12_moodBits 31 = .ok (.ifCond .lt 45, 3) := by decide +kernel
theorem dX12_moodBits_34 : decode cX12_moodBits 34 = .ok (.aload_n 0, 1) := by decide +kernel
theorem dX12_moodBits_35 : decode cX12_moodBits 35 = .ok (.getfield 136, 3) := by decide +kernel
theorem dX12_moodBits_38 : decode cX12_moodBits 38 = .ok (.iload_n 2, 1) := by decide +kernel
theorem dX12_moodBits_39 : decode cX12_moodBits 39 = .ok (.baload, 1) := by decide +kernel
theorem dX12_moodBits_40 : decode cX12_moodBits 40 = .ok (.ifCond .eq 30, 3) := by decide +kernel
theorem dX12_moodBits_43 : decode cX12_moodBits 43 = .ok (.aload_n 0, 1) := by decide +kernel
theorem dX12_moodBits_44 : decode cX12_moodBits 44 = .ok (.getfield 133, 3) := by decide +kernel
theorem dX12_moodBits_47 : decode cX12_moodBits 47 = .ok (.iconst 3, 1) := by decide +kernel
theorem dX12_moodBits_48 : decode cX12_moodBits 48 = .ok (.iload_n 2, 1) := by decide +kernel
theorem dX12_moodBits_49 : decode cX12_moodBits 49 = .ok (.imul, 1) := by decide +kernel
theorem dX12_moodBits_50 : decode cX12_moodBits 50 = .ok (.iaload, 1) := by decide +kernel
theorem dX12_moodBits_51 : decode cX12_moodBits 51 = .ok (.ifCond .ge 19, 3) := by decide +kernel
theorem dX12_moodBits_54 : decode cX12_moodBits 54 = .ok (.aload_n 0, 1) := by decide +kernel
theorem dX12_moodBits_55 : decode cX12_moodBits 55 = .ok (.getfield 136, 3) := by decide +kernel
theorem dX12_moodBits_58 : decode cX12_moodBits 58 = .ok (.aload_n 0, 1) := by decide +kernel
theorem dX12_moodBits_59 : decode cX12_moodBits 59 = .ok (.getfield 133, 3) := by decide +kernel
theorem dX12_moodBits_62 : decode cX12_moodBits 62 = .ok (.iconst 3, 1) := by decide +kernel
theorem dX12_moodBits_63 : decode cX12_moodBits 63 = .ok (.iload_n 2, 1) := by decide +kernel
theorem dX12_moodBits_64 : decode cX12_moodBits 64 = .ok (.imul, 1) := by decide +kernel
theorem dX12_moodBits_65 : decode cX12_moodBits 65 = .ok (.iconst 1, 1) := by decide +kernel
theorem dX12_moodBits_66 : decode cX12_moodBits 66 = .ok (.iadd, 1) := by decide +kernel
theorem dX12_moodBits_67 : decode cX12_moodBits 67 = .ok (.iaload, 1) := by decide +kernel
theorem dX12_moodBits_68 : decode cX12_moodBits 68 = .ok (.iconst 0, 1) := by decide +kernel
theorem dX12_moodBits_69 : decode cX12_moodBits 69 = .ok (.bastore, 1) := by decide +kernel
theorem dX12_moodBits_70 : decode cX12_moodBits 70 = .ok (.iinc 2 (-1), 3) := by decide +kernel
theorem dX12_moodBits_73 : decode cX12_moodBits 73 = .ok (.goto (-43), 3) := by decide +kernel
theorem dX12_moodBits_76 : decode cX12_moodBits 76 = .ok (.iconst 0, 1) := by decide +kernel
theorem dX12_moodBits_77 : decode cX12_moodBits 77 = .ok (.istore_n 2, 1) := by decide +kernel
theorem dX12_moodBits_78 : decode cX12_moodBits 78 = .ok (.iconst 0, 1) := by decide +kernel
theorem dX12_moodBits_79 : decode cX12_moodBits 79 = .ok (.istore_n 3, 1) := by decide +kernel
theorem dX12_moodBits_80 : decode cX12_moodBits 80 = .ok (.iload_n 3, 1) := by decide +kernel
theorem dX12_moodBits_81 : decode cX12_moodBits 81 = .ok (.bipush 10, 2) := by decide +kernel
theorem dX12_moodBits_83 : decode cX12_moodBits 83 = .ok (.if_icmp .ge 28, 3) := by decide +kernel
theorem dX12_moodBits_86 : decode cX12_moodBits 86 = .ok (.iload_n 2, 1) := by decide +kernel
theorem dX12_moodBits_87 : decode cX12_moodBits 87 = .ok (.aload_n 0, 1) := by decide +kernel
theorem dX12_moodBits_88 : decode cX12_moodBits 88 = .ok (.iload_n 1, 1) := by decide +kernel
theorem dX12_moodBits_89 : decode cX12_moodBits 89 = .ok (.iload_n 3, 1) := by decide +kernel
theorem dX12_moodBits_90 : decode cX12_moodBits 90 = .ok (.invokevirtual 549, 3) := by decide +kernel
theorem dX12_moodBits_93 : decode cX12_moodBits 93 = .ok (.ifCond .eq 9, 3) := by decide +kernel
theorem dX12_moodBits_96 : decode cX12_moodBits 96 = .ok (.iconst 1, 1) := by decide +kernel
theorem dX12_moodBits_97 : decode cX12_moodBits 97 = .ok (.iload_n 3, 1) := by decide +kernel
theorem dX12_moodBits_98 : decode cX12_moodBits 98 = .ok (.ishl, 1) := by decide +kernel
theorem dX12_moodBits_99 : decode cX12_moodBits 99 = .ok (.goto 4, 3) := by decide +kernel
theorem dX12_moodBits_102 : decode cX12_moodBits 102 = .ok (.iconst 0, 1) := by decide +kernel
theorem dX12_moodBits_103 : decode cX12_moodBits 103 = .ok (.ior, 1) := by decide +kernel
theorem dX12_moodBits_104 : decode cX12_moodBits 104 = .ok (.istore_n 2, 1) := by decide +kernel
theorem dX12_moodBits_105 : decode cX12_moodBits 105 = .ok (.iinc 3 1, 3) := by decide +kernel
theorem dX12_moodBits_108 : decode cX12_moodBits 108 = .ok (.goto (-28), 3) := by decide +kernel
theorem dX12_moodBits_111 : decode cX12_moodBits 111 = .ok (.aload_n 0, 1) := by decide +kernel
theorem dX12_moodBits_112 : decode cX12_moodBits 112 = .ok (.invokevirtual 365, 3) := by decide +kernel
theorem dX12_moodBits_115 : decode cX12_moodBits 115 = .ok (.iload_n 2, 1) := by decide +kernel
theorem dX12_moodBits_116 : decode cX12_moodBits 116 = .ok (.ireturn, 1) := by decide +kernel
theorem dX12_moods_0 : decode cX12_moods 0 = .ok (.aload_n 0, 1) := by decide +kernel
theorem dX12_moods_1 : decode cX12_moods 1 = .ok (.iconst 0, 1) := by decide +kernel
theorem dX12_moods_2 : decode cX12_moods 2 = .ok (.putfield 157, 3) := by decide +kernel
theorem dX12_moods_5 : decode cX12_moods 5 = .ok (.aload_n 0, 1) := by decide +kernel
theorem dX12_moods_6 : decode cX12_moods 6 = .ok (.iload_n 1, 1) := by decide +kernel
theorem dX12_moods_7 : decode cX12_moods 7 = .ok (.invokevirtual 485, 3) := by decide +kernel
theorem dX12_moods_10 : decode cX12_moods 10 = .ok (.ifCond .eq 11, 3) := by decide +kernel
theorem dX12_moods_13 : decode cX12_moods 13 = .ok (.aload_n 0, 1) := by decide +kernel
theorem dX12_moods_14 : decode cX12_moods 14 = .ok (.iload_n 1, 1) := by decide +kernel
theorem dX12_moods_15 : decode cX12_moods 15 = .ok (.invokevirtual 552, 3) := by decide +kernel
theorem dX12_moods_18 : decode cX12_moods 18 = .ok (.goto 4, 3) := by decide +kernel
theorem dX12_moods_21 : decode cX12_moods 21 = .ok (.iconst (-1), 1) := by decide +kernel
theorem dX12_moods_22 : decode cX12_moods 22 = .ok (.ireturn, 1) := by decide +kernel
theorem dX12_worstAt_0 : decode cX12_worstAt 0 = .ok (.iconst 0, 1) := by decide +kernel
theorem dX12_worstAt_1 : decode cX12_worstAt 1 = .ok (.istore_n 3, 1) := by decide +kernel
theorem dX12_worstAt_2 : decode cX12_worstAt 2 = .ok (.iconst 0, 1) := by decide +kernel
theorem dX12_worstAt_3 : decode cX12_worstAt 3 = .ok (.istore 4, 2) := by decide +kernel
theorem dX12_worstAt_5 : decode cX12_worstAt 5 = .ok (.iload 4, 2) := by decide +kernel
theorem dX12_worstAt_7 : decode cX12_worstAt 7 = .ok (.bipush 10, 2) := by decide +kernel
theorem dX12_worstAt_9 : decode cX12_worstAt 9 = .ok (.if_icmp .ge 96, 3) := by decide +kernel
theorem dX12_worstAt_12 : decode cX12_worstAt 12 = .ok (.iconst 0, 1) := by decide +kernel
theorem dX12_worstAt_13 : decode cX12_worstAt 13 = .ok (.istore 5, 2) := by decide +kernel
theorem dX12_worstAt_15 : decode cX12_worstAt 15 = .ok (.iconst 0, 1) := by decide +kernel
theorem dX12_worstAt_16 : decode cX12_worstAt 16 = .ok (.istore 6, 2) := by decide +kernel
theorem dX12_worstAt_18 : decode cX12_worstAt 18 = .ok (.iload 6, 2) := by decide +kernel
theorem dX12_worstAt_20 : decode cX12_worstAt 20 = .ok (.bipush 10, 2) := by decide +kernel
theorem dX12_worstAt_22 : decode cX12_worstAt 22 = .ok (.if_icmp .ge 64, 3) := by decide +kernel
theorem dX12_worstAt_25 : decode cX12_worstAt 25 = .ok (.iload 5, 2) := by decide +kernel
theorem dX12_worstAt_27 : decode cX12_worstAt 27 = .ok (.iload_n 2, 1) := by decide +kernel
theorem dX12_worstAt_28 : decode cX12_worstAt 28 = .ok (.iload 4, 2) := by decide +kernel
theorem dX12_worstAt_30 : decode cX12_worstAt 30 = .ok (.invokestatic 503, 3) := by decide +kernel
theorem dX12_worstAt_33 : decode cX12_worstAt 33 = .ok (.ifCond .eq 43, 3) := by decide +kernel
theorem dX12_worstAt_36 : decode cX12_worstAt 36 = .ok (.iload_n 2, 1) := by decide +kernel
theorem dX12_worstAt_37 : decode cX12_worstAt 37 = .ok (.iload 6, 2) := by decide +kernel
theorem dX12_worstAt_39 : decode cX12_worstAt 39 = .ok (.invokestatic 503, 3) := by decide +kernel
theorem dX12_worstAt_42 : decode cX12_worstAt 42 = .ok (.ifCond .eq 34, 3) := by decide +kernel
theorem dX12_worstAt_45 : decode cX12_worstAt 45 = .ok (.aload_n 0, 1) := by decide +kernel
theorem dX12_worstAt_46 : decode cX12_worstAt 46 = .ok (.getfield 139, 3) := by decide +kernel
theorem dX12_worstAt_49 : decode cX12_worstAt 49 = .ok (.bipush 61, 2) := by decide +kernel
theorem dX12_worstAt_51 : decode cX12_worstAt 51 = .ok (.iload 4, 2) := by decide +kernel
theorem dX12_worstAt_53 : decode cX12_worstAt 53 = .ok (.imul, 1) := by decide +kernel
theorem dX12_worstAt_54 : decode cX12_worstAt 54 = .ok (.iload_n 1, 1) := by decide +kernel
theorem dX12_worstAt_55 : decode cX12_worstAt 55 = .ok (.iadd, 1) := by decide +kernel
theorem dX12_worstAt_56 : decode cX12_worstAt 56 = .ok (.iaload, 1) := by decide +kernel
theorem dX12_worstAt_57 : decode cX12_worstAt 57 = .ok (.aload_n 0, 1) := by decide +kernel
theorem dX12_worstAt_58 : decode cX12_worstAt 58 = .ok (.getfield 139, 3) := by decide +kernel
theorem dX12_worstAt_61 : decode cX12_worstAt 61 = .ok (.bipush 61, 2) := by decide +kernel
theorem dX12_worstAt_63 : decode cX12_worstAt 63 = .ok (.iload 6, 2) := by decide +kernel
theorem dX12_worstAt_65 : decode cX12_worstAt 65 = .ok (.imul, 1) := by decide +kernel
theorem dX12_worstAt_66 : decode cX12_worstAt 66 = .ok (.iload_n 1, 1) := by decide +kernel
theorem dX12_worstAt_67 : decode cX12_worstAt 67 = .ok (.iadd, 1) := by decide +kernel
theorem dX12_worstAt_68 : decode cX12_worstAt 68 = .ok (.iaload, 1) := by decide +kernel
theorem dX12_worstAt_69 : decode cX12_worstAt 69 = .ok (.if_icmp .ne 7, 3) := by decide +kernel
theorem dX12_worstAt_72 : decode cX12_worstAt 72 = .ok (.iconst 1, 1) := by decide +kernel
theorem dX12_worstAt_73 : decode cX12_worstAt 73 = .ok (.goto 4, 3) := by decide +kernel
theorem dX12_worstAt_76 : decode cX12_worstAt 76 = .ok (.iconst 0, 1) := by decide +kernel
theorem dX12_worstAt_77 : decode cX12_worstAt 77 = .ok (.iadd, 1) := by decide +kernel
theorem dX12_worstAt_78 : decode cX12_worstAt 78 = .ok (.istore 5, 2) := by decide +kernel
theorem dX12_worstAt_80 : decode cX12_worstAt 80 = .ok (.iinc 6 1, 3) := by decide +kernel
theorem dX12_worstAt_83 : decode cX12_worstAt 83 = .ok (.goto (-65), 3) := by decide +kernel
theorem dX12_worstAt_86 : decode cX12_worstAt 86 = .ok (.iload 5, 2) := by decide +kernel
theorem dX12_worstAt_88 : decode cX12_worstAt 88 = .ok (.iload_n 3, 1) := by decide +kernel
theorem dX12_worstAt_89 : decode cX12_worstAt 89 = .ok (.if_icmp .le 8, 3) := by decide +kernel
theorem dX12_worstAt_92 : decode cX12_worstAt 92 = .ok (.iload 5, 2) := by decide +kernel
theorem dX12_worstAt_94 : decode cX12_worstAt 94 = .ok (.goto 4, 3) := by decide +kernel
theorem dX12_worstAt_97 : decode cX12_worstAt 97 = .ok (.iload_n 3, 1) := by decide +kernel
theorem dX12_worstAt_98 : decode cX12_worstAt 98 = .ok (.istore_n 3, 1) := by decide +kernel
theorem dX12_worstAt_99 : decode cX12_worstAt 99 = .ok (.iinc 4 1, 3) := by decide +kernel
theorem dX12_worstAt_102 : decode cX12_worstAt 102 = .ok (.goto (-97), 3) := by decide +kernel
theorem dX12_worstAt_105 : decode cX12_worstAt 105 = .ok (.iload_n 3, 1) := by decide +kernel
theorem dX12_worstAt_106 : decode cX12_worstAt 106 = .ok (.ireturn, 1) := by decide +kernel
theorem dX12_ask_0 : decode cX12_ask 0 = .ok (.aload_n 0, 1) := by decide +kernel
theorem dX12_ask_1 : decode cX12_ask 1 = .ok (.iconst 0, 1) := by decide +kernel
theorem dX12_ask_2 : decode cX12_ask 2 = .ok (.putfield 157, 3) := by decide +kernel
theorem dX12_ask_5 : decode cX12_ask 5 = .ok (.aload_n 0, 1) := by decide +kernel
theorem dX12_ask_6 : decode cX12_ask 6 = .ok (.iload_n 1, 1) := by decide +kernel
theorem dX12_ask_7 : decode cX12_ask 7 = .ok (.invokevirtual 485, 3) := by decide +kernel
theorem dX12_ask_10 : decode cX12_ask 10 = .ok (.ifCond .eq 12, 3) := by decide +kernel
theorem dX12_ask_13 : decode cX12_ask 13 = .ok (.iload_n 2, 1) := by decide +kernel
theorem dX12_ask_14 : decode cX12_ask 14 = .ok (.iconst 0, 1) := by decide +kernel
theorem dX12_ask_15 : decode cX12_ask 15 = .ok (.iconst 1, 1) := by decide +kernel
theorem dX12_ask_16 : decode cX12_ask 16 = .ok (.invokestatic 202, 3) := by decide +kernel
theorem dX12_ask_19 : decode cX12_ask 19 = .ok (.ifCond .ne 5, 3) := by decide +kernel
theorem dX12_ask_22 : decode cX12_ask 22 = .ok (.iconst (-1), 1) := by decide +kernel
theorem dX12_ask_23 : decode cX12_ask 23 = .ok (.ireturn, 1) := by decide +kernel
theorem dX12_ask_24 : decode cX12_ask 24 = .ok (.aload_n 0, 1) := by decide +kernel
theorem dX12_ask_25 : decode cX12_ask 25 = .ok (.iload_n 1, 1) := by decide +kernel
theorem dX12_ask_26 : decode cX12_ask 26 = .ok (.invokevirtual 552, 3) := by decide +kernel
theorem dX12_ask_29 : decode cX12_ask 29 = .ok (.istore_n 3, 1) := by decide +kernel
theorem dX12_ask_30 : decode cX12_ask 30 = .ok (.iconst 0, 1) := by decide +kernel
theorem dX12_ask_31 : decode cX12_ask 31 = .ok (.istore 4, 2) := by decide +kernel
theorem dX12_ask_33 : decode cX12_ask 33 = .ok (.iload 4, 2) := by decide +kernel
theorem dX12_ask_35 : decode cX12_ask 35 = .ok (.bipush 10, 2) := by decide +kernel
theorem dX12_ask_37 : decode cX12_ask 37 = .ok (.if_icmp .ge 55, 3) := by decide +kernel
theorem dX12_ask_40 : decode cX12_ask 40 = .ok (.aload_n 0, 1) := by decide +kernel
theorem dX12_ask_41 : decode cX12_ask 41 = .ok (.iload_n 1, 1) := by decide +kernel
theorem dX12_ask_42 : decode cX12_ask 42 = .ok (.iload 4, 2) := by decide +kernel
theorem dX12_ask_44 : decode cX12_ask 44 = .ok (.invokevirtual 543, 3) := by decide +kernel
theorem dX12_ask_47 : decode cX12_ask 47 = .ok (.iconst 1, 1) := by decide +kernel
theorem dX12_ask_48 : decode cX12_ask 48 = .ok (.istore 5, 2) := by decide +kernel
theorem dX12_ask_50 : decode cX12_ask 50 = .ok (.iload 5, 2) := by decide +kernel
theorem dX12_ask_52 : decode cX12_ask 52 = .ok (.bipush 60, 2) := by decide +kernel
theorem dX12_ask_54 : decode cX12_ask 54 = .ok (.if_icmp .gt 32, 3) := by decide +kernel
theorem dX12_ask_57 : decode cX12_ask 57 = .ok (.aload_n 0, 1) := by decide +kernel
theorem dX12_ask_58 : decode cX12_ask 58 = .ok (.iconst 1, 1) := by decide +kernel
theorem dX12_ask_59 : decode cX12_ask 59 = .ok (.invokevirtual 473, 3) := by decide +kernel
theorem dX12_ask_62 : decode cX12_ask 62 = .ok (.aload_n 0, 1) := by decide +kernel
theorem dX12_ask_63 : decode cX12_ask 63 = .ok (.getfield 139, 3) := by decide +kernel
theorem dX12_ask_66 : decode cX12_ask 66 = .ok (.bipush 61, 2) := by decide +kernel
theorem dX12_ask_68 : decode cX12_ask 68 = .ok (.iload 4, 2) := by decide +kernel
theorem dX12_ask_70 : decode cX12_ask 70 = .ok (.imul, 1) := by decide +kernel
theorem dX12_ask_71 : decode cX12_ask 71 = .ok (.iload 5, 2) := by decide +kernel
theorem dX12_ask_73 : decode cX12_ask 73 = .ok (.iadd, 1) := by decide +kernel
theorem dX12_ask_74 : decode cX12_ask 74 = .ok (.aload_n 0, 1) := by decide +kernel
theorem dX12_ask_75 : decode cX12_ask 75 = .ok (.iconst 1, 1) := by decide +kernel
theorem dX12_ask_76 : decode cX12_ask 76 = .ok (.invokevirtual 410, 3) := by decide +kernel
theorem dX12_ask_79 : decode cX12_ask 79 = .ok (.iastore, 1) := by decide +kernel
theorem dX12_ask_80 : decode cX12_ask 80 = .ok (.iinc 5 1, 3) := by decide +kernel
theorem dX12_ask_83 : decode cX12_ask 83 = .ok (.goto (-33), 3) := by decide +kernel
theorem dX12_ask_86 : decode cX12_ask 86 = .ok (.iinc 4 1, 3) := by decide +kernel
theorem dX12_ask_89 : decode cX12_ask 89 = .ok (.goto (-56), 3) := by decide +kernel
theorem dX12_ask_92 : decode cX12_ask 92 = .ok (.aload_n 0, 1) := by decide +kernel
theorem dX12_ask_93 : decode cX12_ask 93 = .ok (.invokevirtual 365, 3) := by decide +kernel
theorem dX12_ask_96 : decode cX12_ask 96 = .ok (.iconst 1, 1) := by decide +kernel
theorem dX12_ask_97 : decode cX12_ask 97 = .ok (.istore 4, 2) := by decide +kernel
theorem dX12_ask_99 : decode cX12_ask 99 = .ok (.iconst 2, 1) := by decide +kernel
theorem dX12_ask_100 : decode cX12_ask 100 = .ok (.istore 5, 2) := by decide +kernel
theorem dX12_ask_102 : decode cX12_ask 102 = .ok (.iload 5, 2) := by decide +kernel
theorem dX12_ask_104 : decode cX12_ask 104 = .ok (.bipush 60, 2) := by decide +kernel
theorem dX12_ask_106 : decode cX12_ask 106 = .ok (.if_icmp .gt 35, 3) := by decide +kernel
theorem dX12_ask_109 : decode cX12_ask 109 = .ok (.aload_n 0, 1) := by decide +kernel
theorem dX12_ask_110 : decode cX12_ask 110 = .ok (.iload 5, 2) := by decide +kernel
theorem dX12_ask_112 : decode cX12_ask 112 = .ok (.iload_n 3, 1) := by decide +kernel
theorem dX12_ask_113 : decode cX12_ask 113 = .ok (.invokevirtual 555, 3) := by decide +kernel
theorem dX12_ask_116 : decode cX12_ask 116 = .ok (.aload_n 0, 1) := by decide +kernel
theorem dX12_ask_117 : decode cX12_ask 117 = .ok (.iload 4, 2) := by decide +kernel
theorem dX12_ask_119 : decode cX12_ask 119 = .ok (.iload_n 3, 1) := by decide +kernel
theorem dX12_ask_120 : decode cX12_ask 120 = .ok (.invokevirtual 555, 3) := by decide +kernel
theorem dX12_ask_123 : decode cX12_ask 123 = .ok (.if_icmp .ge 8, 3) := by decide +kernel
theorem dX12_ask_126 : decode cX12_ask 126 = .ok (.iload 5, 2) := by decide +kernel
theorem dX12_ask_128 : decode cX12_ask 128 = .ok (.goto 5, 3) := by decide +kernel
theorem dX12_ask_131 : decode cX12_ask 131 = .ok (.iload 4, 2) := by decide +kernel
theorem dX12_ask_133 : decode cX12_ask 133 = .ok (.istore 4, 2) := by decide +kernel
theorem dX12_ask_135 : decode cX12_ask 135 = .ok (.iinc 5 1, 3) := by decide +kernel
theorem dX12_ask_138 : decode cX12_ask 138 = .ok (.goto (-36), 3) := by decide +kernel
theorem dX12_ask_141 : decode cX12_ask 141 = .ok (.iload_n 2, 1) := by decide +kernel
theorem dX12_ask_142 : decode cX12_ask 142 = .ok (.ifCond .ne 8, 3) := by decide +kernel
theorem dX12_ask_145 : decode cX12_ask 145 = .ok (.iload 4, 2) := by decide +kernel
theorem dX12_ask_147 : decode cX12_ask 147 = .ok (.goto 10, 3) := by decide +kernel
theorem dX12_ask_150 : decode cX12_ask 150 = .ok (.aload_n 0, 1) := by decide +kernel
theorem dX12_ask_151 : decode cX12_ask 151 = .ok (.iload 4, 2) := by decide +kernel
theorem dX12_ask_153 : decode cX12_ask 153 = .ok (.iload_n 3, 1) := by decide +kernel
theorem dX12_ask_154 : decode cX12_ask 154 = .ok (.invokevirtual 555, 3) := by decide +kernel
theorem dX12_ask_157 : decode cX12_ask 157 = .ok (.ireturn, 1) := by decide +kernel
theorem dX12_chance_0 : decode cX12_chance 0 = .ok (.aload_n 0, 1) := by decide +kernel
theorem dX12_chance_1 : decode cX12_chance 1 = .ok (.iconst 0, 1) := by decide +kernel
theorem dX12_chance_2 : decode cX12_chance 2 = .ok (.putfield 157, 3) := by decide +kernel
theorem dX12_chance_5 : decode cX12_chance 5 = .ok (.iload_n 1, 1) := by decide +kernel
theorem dX12_chance_6 : decode cX12_chance 6 = .ok (.ifCond .lt 24, 3) := by decide +kernel
theorem dX12_chance_9 : decode cX12_chance 9 = .ok (.iload_n 2, 1) := by decide +kernel
theorem dX12_chance_10 : decode cX12_chance 10 = .ok (.iconst 1, 1) := by decide +kernel
theorem dX12_chance_11 : decode cX12_chance 11 = .ok (.bipush 99, 2) := by decide +kernel
theorem dX12_chance_13 : decode cX12_chance 13 = .ok (.invokestatic 202, 3) := by decide +kernel
theorem dX12_chance_16 : decode cX12_chance 16 = .ok (.ifCond .eq 14, 3) := by decide +kernel
theorem dX12_chance_19 : decode cX12_chance 19 = .ok (.iload_n 3, 1) := by decide +kernel
theorem dX12_chance_20 : decode cX12_chance 20 = .ok (.iconst 0, 1) := by decide +kernel
theorem dX12_chance_21 : decode cX12_chance 21 = .ok (.sipush 999, 3) := by decide +kernel
theorem dX12_chance_24 : decode cX12_chance 24 = .ok (.invokestatic 202, 3) := by decide +kernel
theorem dX12_chance_27 : decode cX12_chance 27 = .ok (.ifCond .ne 5, 3) := by decide +kernel
theorem dX12_chance_30 : decode cX12_chance 30 = .ok (.iconst (-1), 1) := by decide +kernel
theorem dX12_chance_31 : decode cX12_chance 31 = .ok (.ireturn, 1) := by decide +kernel
theorem dX12_chance_32 : decode cX12_chance 32 = .ok (.aload_n 0, 1) := by decide +kernel
theorem dX12_chance_33 : decode cX12_chance 33 = .ok (.getfield 361, 3) := by decide +kernel
theorem dX12_chance_36 : decode cX12_chance 36 = .ok (.lstore 4, 2) := by decide +kernel
theorem dX12_chance_38 : decode cX12_chance 38 = .ok (.aload_n 0, 1) := by decide +kernel
theorem dX12_chance_39 : decode cX12_chance 39 = .ok (.iload_n 1, 1) := by decide +kernel
theorem dX12_chance_40 : decode cX12_chance 40 = .ok (.i2l, 1) := by decide +kernel
theorem dX12_chance_41 : decode cX12_chance 41 = .ok (.putfield 361, 3) := by decide +kernel
theorem dX12_chance_44 : decode cX12_chance 44 = .ok (.iconst 0, 1) := by decide +kernel
theorem dX12_chance_45 : decode cX12_chance 45 = .ok (.istore 6, 2) := by decide +kernel
theorem dX12_chance_47 : decode cX12_chance 47 = .ok (.iconst 0, 1) := by decide +kernel
theorem dX12_chance_48 : decode cX12_chance 48 = .ok (.istore 7, 2) := by decide +kernel
theorem dX12_chance_50 : decode cX12_chance 50 = .ok (.iload 7, 2) := by decide +kernel
theorem dX12_chance_52 : decode cX12_chance 52 = .ok (.bipush 10, 2) := by decide +kernel
theorem dX12_chance_54 : decode cX12_chance 54 = .ok (.if_icmp .ge 42, 3) := by decide +kernel
theorem dX12_chance_57 : decode cX12_chance 57 = .ok (.aload_n 0, 1) := by decide +kernel
theorem dX12_chance_58 : decode cX12_chance 58 = .ok (.invokevirtual 497, 3) := by decide +kernel
theorem dX12_chance_61 : decode cX12_chance 61 = .ok (.aload_n 0, 1) := by decide +kernel
theorem dX12_chance_62 : decode cX12_chance 62 = .ok (.iconst 1, 1) := by decide +kernel
theorem dX12_chance_63 : decode cX12_chance 63 = .ok (.putfield 377, 3) := by decide +kernel
theorem dX12_chance_66 : decode cX12_chance 66 = .ok (.aload_n 0, 1) := by decide +kernel
theorem dX12_chance_67 : decode cX12_chance 67 = .ok (.iload_n 2, 1) := by decide +kernel
theorem dX12_chance_68 : decode cX12_chance 68 = .ok (.invokevirtual 500, 3) := by decide +kernel
theorem dX12_chance_71 : decode cX12_chance 71 = .ok (.iload 6, 2) := by decide +kernel
theorem dX12_chance_73 : decode cX12_chance 73 = .ok (.aload_n 0, 1) := by decide +kernel
theorem dX12_chance_74 : decode cX12_chance 74 = .ok (.iconst 1, 1) := by decide +kernel
theorem dX12_chance_75 : decode cX12_chance 75 = .ok (.invokevirtual 410, 3) := by decide +kernel
theorem dX12_chance_78 : decode cX12_chance 78 = .ok (.iload_n 3, 1) := by decide +kernel
theorem dX12_chance_79 : decode cX12_chance 79 = .ok (.if_icmp .lt 7, 3) := by decide +kernel
theorem dX12_chance_82 : decode cX12_chance 82 = .ok (.iconst 1, 1) := by decide +kernel
theorem dX12_chance_83 : decode cX12_chance 83 = .ok (.goto 4, 3) := by decide +kernel
theorem dX12_chance_86 : decode cX12_chance 86 = .ok (.iconst 0, 1) := by decide +kernel
theorem dX12_chance_87 : decode cX12_chance 87 = .ok (.iadd, 1) := by decide +kernel
theorem dX12_chance_88 : decode cX12_chance 88 = .ok (.istore 6, 2) := by decide +kernel
theorem dX12_chance_90 : decode cX12_chance 90 = .ok (.iinc 7 1, 3) := by decide +kernel
theorem dX12_chance_93 : decode cX12_chance 93 = .ok (.goto (-43), 3) := by decide +kernel
theorem dX12_chance_96 : decode cX12_chance 96 = .ok (.aload_n 0, 1) := by decide +kernel
theorem dX12_chance_97 : decode cX12_chance 97 = .ok (.iconst 0, 1) := by decide +kernel
theorem dX12_chance_98 : decode cX12_chance 98 = .ok (.putfield 377, 3) := by decide +kernel
theorem dX12_chance_101 : decode cX12_chance 101 = .ok (.aload_n 0, 1) := by decide +kernel
theorem dX12_chance_102 : decode cX12_chance 102 = .ok (.lload 4, 2) := by decide +kernel
theorem dX12_chance_104 : decode cX12_chance 104 = .ok (.putfield 361, 3) := by decide +kernel
theorem dX12_chance_107 : decode cX12_chance 107 = .ok (.iload 6, 2) := by decide +kernel
theorem dX12_chance_109 : decode cX12_chance 109 = .ok (.ireturn, 1) := by decide +kernel
theorem dX12_tried_0 : decode cX12_tried 0 = .ok (.aload_n 0, 1) := by decide +kernel
theorem dX12_tried_1 : decode cX12_tried 1 = .ok (.iconst 0, 1) := by decide +kernel
theorem dX12_tried_2 : decode cX12_tried 2 = .ok (.putfield 157, 3) := by decide +kernel
theorem dX12_tried_5 : decode cX12_tried 5 = .ok (.iload_n 1, 1) := by decide +kernel
theorem dX12_tried_6 : decode cX12_tried 6 = .ok (.iconst 0, 1) := by decide +kernel
theorem dX12_tried_7 : decode cX12_tried 7 = .ok (.iconst 4, 1) := by decide +kernel
theorem dX12_tried_8 : decode cX12_tried 8 = .ok (.invokestatic 202, 3) := by decide +kernel
theorem dX12_tried_11 : decode cX12_tried 11 = .ok (.ifCond .eq 34, 3) := by decide +kernel
theorem dX12_tried_14 : decode cX12_tried 14 = .ok (.iload_n 3, 1) := by decide +kernel
theorem dX12_tried_15 : decode cX12_tried 15 = .ok (.iconst 0, 1) := by decide +kernel
theorem dX12_tried_16 : decode cX12_tried 16 = .ok (.sipush 200, 3) := by decide +kernel
theorem dX12_tried_19 : decode cX12_tried 19 = .ok (.invokestatic 202, 3) := by decide +kernel
theorem dX12_tried_22 : decode cX12_tried 22 = .ok (.ifCond .eq 23, 3) := by decide +kernel
theorem dX12_tried_25 : decode cX12_tried 25 = .ok (.iload_n 1, 1) := by decide +kernel
theorem dX12_tried_26 : decode cX12_tried 26 = .ok (.iconst 2, 1) := by decide +kernel
theorem dX12_tried_27 : decode cX12_tried 27 = .ok (.if_icmp .ne 14, 3) := by decide +kernel
theorem dX12_tried_30 : decode cX12_tried 30 = .ok (.aload_n 0, 1) := by decide +kernel
theorem dX12_tried_31 : decode cX12_tried 31 = .ok (.iload_n 2, 1) := by decide +kernel
theorem dX12_tried_32 : decode cX12_tried 32 = .ok (.invokevirtual 476, 3) := by decide +kernel
theorem dX12_tried_35 : decode cX12_tried 35 = .ok (.ifCond .ne 12, 3) := by decide +kernel
theorem dX12_tried_38 : decode cX12_tried 38 = .ok (.goto 7, 3) := by decide +kernel
theorem dX12_tried_41 : decode cX12_tried 41 = .ok (.iload_n 2, 1) := by decide +kernel
theorem dX12_tried_42 : decode cX12_tried 42 = .ok (.ifCond .eq 5, 3) := by decide +kernel
theorem dX12_tried_45 : decode cX12_tried 45 = .ok (.iconst (-1), 1) := by decide +kernel
theorem dX12_tried_46 : decode cX12_tried 46 = .ok (.ireturn, 1) := by decide +kernel
theorem dX12_tried_47 : decode cX12_tried 47 = .ok (.aload_n 0, 1) := by decide +kernel
theorem dX12_tried_48 : decode cX12_tried 48 = .ok (.invokevirtual 497, 3) := by decide +kernel
theorem dX12_tried_51 : decode cX12_tried 51 = .ok (.aload_n 0, 1) := by decide +kernel
theorem dX12_tried_52 : decode cX12_tried 52 = .ok (.iload_n 1, 1) := by decide +kernel
theorem dX12_tried_53 : decode cX12_tried 53 = .ok (.ifCond .ne 7, 3) := by decide +kernel
theorem dX12_tried_56 : decode cX12_tried 56 = .ok (.iconst 1, 1) := by decide +kernel
theorem dX12_tried_57 : decode cX12_tried 57 = .ok (.goto 4, 3) := by decide +kernel
theorem dX12_tried_60 : decode cX12_tried 60 = .ok (.iconst 0, 1) := by decide +kernel
theorem dX12_tried_61 : decode cX12_tried 61 = .ok (.putfield 380, 3) := by decide +kernel
theorem dX12_tried_64 : decode cX12_tried 64 = .ok (.aload_n 0, 1) := by decide +kernel
theorem dX12_tried_65 : decode cX12_tried 65 = .ok (.iload_n 1, 1) := by decide +kernel
theorem dX12_tried_66 : decode cX12_tried 66 = .ok (.iconst 1, 1) := by decide +kernel
theorem dX12_tried_67 : decode cX12_tried 67 = .ok (.if_icmp .ne 7, 3) := by decide +kernel
theorem dX12_tried_70 : decode cX12_tried 70 = .ok (.iconst 1, 1) := by decide +kernel
theorem dX12_tried_71 : decode cX12_tried 71 = .ok (.goto 4, 3) := by decide +kernel
theorem dX12_tried_74 : decode cX12_tried 74 = .ok (.iconst 0, 1) := by decide +kernel
theorem dX12_tried_75 : decode cX12_tried 75 = .ok (.putfield 383, 3) := by decide +kernel
theorem dX12_tried_78 : decode cX12_tried 78 = .ok (.aload_n 0, 1) := by decide +kernel
theorem dX12_tried_79 : decode cX12_tried 79 = .ok (.iload_n 1, 1) := by decide +kernel
theorem dX12_tried_80 : decode cX12_tried 80 = .ok (.iconst 2, 1) := by decide +kernel
theorem dX12_tried_81 : decode cX12_tried 81 = .ok (.if_icmp .ne 7, 3) := by decide +kernel
theorem dX12_tried_84 : decode cX12_tried 84 = .ok (.iload_n 2, 1) := by decide +kernel
theorem dX12_tried_85 : decode cX12_tried 85 = .ok (.goto 4, 3) := by decide +kernel
theorem dX12_tried_88 : decode cX12_tried 88 = .ok (.iconst (-1), 1) := by decide +kernel
theorem dX12_tried_89 : decode cX12_tried 89 = .ok (.putfield 395, 3) := by decide +kernel
theorem dX12_tried_92 : decode cX12_tried 92 = .ok (.aload_n 0, 1) := by decide +kernel
theorem dX12_tried_93 : decode cX12_tried 93 = .ok (.iload_n 1, 1) := by decide +kernel
theorem dX12_tried_94 : decode cX12_tried 94 = .ok (.iconst 3, 1) := by decide +kernel
theorem dX12_tried_95 : decode cX12_tried 95 = .ok (.if_icmp .ne 7, 3) := by decide +kernel
theorem dX12_tried_98 : decode cX12_tried 98 = .ok (.iconst 1, 1) := by decide +kernel
theorem dX12_tried_99 : decode cX12_tried 99 = .ok (.goto 4, 3) := by decide +kernel
theorem dX12_tried_102 : decode cX12_tried 102 = .ok (.iconst 0, 1) := by decide +kernel
theorem dX12_tried_103 : decode cX12_tried 103 = .ok (.putfield 386, 3) := by decide +kernel
theorem dX12_tried_106 : decode cX12_tried 106 = .ok (.aload_n 0, 1) := by decide +kernel
theorem dX12_tried_107 : decode cX12_tried 107 = .ok (.iload_n 1, 1) := by decide +kernel
theorem dX12_tried_108 : decode cX12_tried 108 = .ok (.iconst 4, 1) := by decide +kernel
theorem dX12_tried_109 : decode cX12_tried 109 = .ok (.if_icmp .ne 7, 3) := by decide +kernel
theorem dX12_tried_112 : decode cX12_tried 112 = .ok (.iconst 1, 1) := by decide +kernel
theorem dX12_tried_113 : decode cX12_tried 113 = .ok (.goto 4, 3) := by decide +kernel
theorem dX12_tried_116 : decode cX12_tried 116 = .ok (.iconst 0, 1) := by decide +kernel
theorem dX12_tried_117 : decode cX12_tried 117 = .ok (.putfield 389, 3) := by decide +kernel
theorem dX12_tried_120 : decode cX12_tried 120 = .ok (.aload_n 0, 1) := by decide +kernel
theorem dX12_tried_121 : decode cX12_tried 121 = .ok (.iload_n 3, 1) := by decide +kernel
theorem dX12_tried_122 : decode cX12_tried 122 = .ok (.invokevirtual 500, 3) := by decide +kernel
theorem dX12_tried_125 : decode cX12_tried 125 = .ok (.aload_n 0, 1) := by decide +kernel
theorem dX12_tried_126 : decode cX12_tried 126 = .ok (.invokevirtual 365, 3) := by decide +kernel
theorem dX12_tried_129 : decode cX12_tried 129 = .ok (.aload_n 0, 1) := by decide +kernel
theorem dX12_tried_130 : decode cX12_tried 130 = .ok (.iconst 1, 1) := by decide +kernel
theorem dX12_tried_131 : decode cX12_tried 131 = .ok (.invokevirtual 410, 3) := by decide +kernel
theorem dX12_tried_134 : decode cX12_tried 134 = .ok (.ireturn, 1) := by decide +kernel
theorem dX12_put_0 : decode cX12_put 0 = .ok (.aload_n 1, 1) := by decide +kernel
theorem dX12_put_1 : decode cX12_put 1 = .ok (.iload_n 2, 1) := by decide +kernel
theorem dX12_put_2 : decode cX12_put 2 = .ok (.aload_n 0, 1) := by decide +kernel
theorem dX12_put_3 : decode cX12_put 3 = .ok (.getfield 94, 3) := by decide +kernel
theorem dX12_put_6 : decode cX12_put 6 = .ok (.iconst 0, 1) := by decide +kernel
theorem dX12_put_7 : decode cX12_put 7 = .ok (.iaload, 1) := by decide +kernel
theorem dX12_put_8 : decode cX12_put 8 = .ok (.iastore, 1) := by decide +kernel
theorem dX12_put_9 : decode cX12_put 9 = .ok (.aload_n 1, 1) := by decide +kernel
theorem dX12_put_10 : decode cX12_put 10 = .ok (.iload_n 2, 1) := by decide +kernel
theorem dX12_put_11 : decode cX12_put 11 = .ok (.iconst 1, 1) := by decide +kernel
theorem dX12_put_12 : decode cX12_put 12 = .ok (.iadd, 1) := by decide +kernel
theorem dX12_put_13 : decode cX12_put 13 = .ok (.aload_n 0, 1) := by decide +kernel
theorem dX12_put_14 : decode cX12_put 14 = .ok (.getfield 97, 3) := by decide +kernel
theorem dX12_put_17 : decode cX12_put 17 = .ok (.iconst 0, 1) := by decide +kernel
theorem dX12_put_18 : decode cX12_put 18 = .ok (.iaload, 1) := by decide +kernel
theorem dX12_put_19 : decode cX12_put 19 = .ok (.iastore, 1) := by decide +kernel
theorem dX12_put_20 : decode cX12_put 20 = .ok (.aload_n 1, 1) := by decide +kernel
theorem dX12_put_21 : decode cX12_put 21 = .ok (.iload_n 2, 1) := by decide +kernel
theorem dX12_put_22 : decode cX12_put 22 = .ok (.iconst 2, 1) := by decide +kernel
theorem dX12_put_23 : decode cX12_put 23 = .ok (.iadd, 1) := by decide +kernel
theorem dX12_put_24 : decode cX12_put 24 = .ok (.aload_n 0, 1) := by decide +kernel
theorem dX12_put_25 : decode cX12_put 25 = .ok (.getfield 100, 3) := by decide +kernel
theorem dX12_put_28 : decode cX12_put 28 = .ok (.iconst 0, 1) := by decide +kernel
theorem dX12_put_29 : decode cX12_put 29 = .ok (.iaload, 1) := by decide +kernel
theorem dX12_put_30 : decode cX12_put 30 = .ok (.iastore, 1) := by decide +kernel
theorem dX12_put_31 : decode cX12_put 31 = .ok (.iconst 0, 1) := by decide +kernel
theorem dX12_put_32 : decode cX12_put 32 = .ok (.istore_n 3, 1) := by decide +kernel
theorem dX12_put_33 : decode cX12_put 33 = .ok (.iload_n 3, 1) := by decide +kernel
theorem dX12_put_34 : decode cX12_put 34 = .ok (.bipush 6, 2) := by decide +kernel
theorem dX12_put_36 : decode cX12_put 36 = .ok (.if_icmp .ge 22, 3) := by decide +kernel
theorem dX12_put_39 : decode cX12_put 39 = .ok (.aload_n 1, 1) := by decide +kernel
theorem dX12_put_40 : decode cX12_put 40 = .ok (.iload_n 2, 1) := by decide +kernel
theorem dX12_put_41 : decode cX12_put 41 = .ok (.iconst 3, 1) := by decide +kernel
theorem dX12_put_42 : decode cX12_put 42 = .ok (.iadd, 1) := by decide +kernel
theorem dX12_put_43 : decode cX12_put 43 = .ok (.iload_n 3, 1) := by decide +kernel
theorem dX12_put_44 : decode cX12_put 44 = .ok (.iadd, 1) := by decide +kernel
theorem dX12_put_45 : decode cX12_put 45 = .ok (.aload_n 0, 1) := by decide +kernel
theorem dX12_put_46 : decode cX12_put 46 = .ok (.getfield 115, 3) := by decide +kernel
theorem dX12_put_49 : decode cX12_put 49 = .ok (.iload_n 3, 1) := by decide +kernel
theorem dX12_put_50 : decode cX12_put 50 = .ok (.iaload, 1) := by decide +kernel
theorem dX12_put_51 : decode cX12_put 51 = .ok (.iastore, 1) := by decide +kernel
theorem dX12_put_52 : decode cX12_put 52 = .ok (.iinc 3 1, 3) := by decide +kernel
theorem dX12_put_55 : decode cX12_put 55 = .ok (.goto (-22), 3) := by decide +kernel
theorem dX12_put_58 : decode cX12_put 58 = .ok (.return_, 1) := by decide +kernel
theorem dX12_take_0 : decode cX12_take 0 = .ok (.aload_n 0, 1) := by decide +kernel
theorem dX12_take_1 : decode cX12_take 1 = .ok (.getfield 94, 3) := by decide +kernel
theorem dX12_take_4 : decode cX12_take 4 = .ok (.iconst 0, 1) := by decide +kernel
theorem dX12_take_5 : decode cX12_take 5 = .ok (.aload_n 1, 1) := by decide +kernel
theorem dX12_take_6 : decode cX12_take 6 = .ok (.iload_n 2, 1) := by decide +kernel
theorem dX12_take_7 : decode cX12_take 7 = .ok (.iaload, 1) := by decide +kernel
theorem dX12_take_8 : decode cX12_take 8 = .ok (.iastore, 1) := by decide +kernel
theorem dX12_take_9 : decode cX12_take 9 = .ok (.aload_n 0, 1) := by decide +kernel
theorem dX12_take_10 : decode cX12_take 10 = .ok (.getfield 97, 3) := by decide +kernel
theorem dX12_take_13 : decode cX12_take 13 = .ok (.iconst 0, 1) := by decide +kernel
theorem dX12_take_14 : decode cX12_take 14 = .ok (.aload_n 1, 1) := by decide +kernel
theorem dX12_take_15 : decode cX12_take 15 = .ok (.iload_n 2, 1) := by decide +kernel
theorem dX12_take_16 : decode cX12_take 16 = .ok (.iconst 1, 1) := by decide +kernel
theorem dX12_take_17 : decode cX12_take 17 = .ok (.iadd, 1) := by decide +kernel
theorem dX12_take_18 : decode cX12_take 18 = .ok (.iaload, 1) := by decide +kernel
theorem dX12_take_19 : decode cX12_take 19 = .ok (.iastore, 1) := by decide +kernel
theorem dX12_take_20 : decode cX12_take 20 = .ok (.aload_n 0, 1) := by decide +kernel
theorem dX12_take_21 : decode cX12_take 21 = .ok (.getfield 100, 3) := by decide +kernel
theorem dX12_take_24 : decode cX12_take 24 = .ok (.iconst 0, 1) := by decide +kernel
theorem dX12_take_25 : decode cX12_take 25 = .ok (.aload_n 1, 1) := by decide +kernel
theorem dX12_take_26 : decode cX12_take 26 = .ok (.iload_n 2, 1) := by decide +kernel
theorem dX12_take_27 : decode cX12_take 27 = .ok (.iconst 2, 1) := by decide +kernel
theorem dX12_take_28 : decode cX12_take 28 = .ok (.iadd, 1) := by decide +kernel
theorem dX12_take_29 : decode cX12_take 29 = .ok (.iaload, 1) := by decide +kernel
theorem dX12_take_30 : decode cX12_take 30 = .ok (.iastore, 1) := by decide +kernel
theorem dX12_take_31 : decode cX12_take 31 = .ok (.iconst 0, 1) := by decide +kernel
theorem dX12_take_32 : decode cX12_take 32 = .ok (.istore_n 3, 1) := by decide +kernel
theorem dX12_take_33 : decode cX12_take 33 = .ok (.iload_n 3, 1) := by decide +kernel
theorem dX12_take_34 : decode cX12_take 34 = .ok (.bipush 6, 2) := by decide +kernel
theorem dX12_take_36 : decode cX12_take 36 = .ok (.if_icmp .ge 22, 3) := by decide +kernel
theorem dX12_take_39 : decode cX12_take 39 = .ok (.aload_n 0, 1) := by decide +kernel
theorem dX12_take_40 : decode cX12_take 40 = .ok (.getfield 115, 3) := by decide +kernel
theorem dX12_take_43 : decode cX12_take 43 = .ok (.iload_n 3, 1) := by decide +kernel
theorem dX12_take_44 : decode cX12_take 44 = .ok (.aload_n 1, 1) := by decide +kernel
theorem dX12_take_45 : decode cX12_take 45 = .ok (.iload_n 2, 1) := by decide +kernel
theorem dX12_take_46 : decode cX12_take 46 = .ok (.iconst 3, 1) := by decide +kernel
theorem dX12_take_47 : decode cX12_take 47 = .ok (.iadd, 1) := by decide +kernel
theorem dX12_take_48 : decode cX12_take 48 = .ok (.iload_n 3, 1) := by decide +kernel
theorem dX12_take_49 : decode cX12_take 49 = .ok (.iadd, 1) := by decide +kernel
theorem dX12_take_50 : decode cX12_take 50 = .ok (.iaload, 1) := by decide +kernel
theorem dX12_take_51 : decode cX12_take 51 = .ok (.iastore, 1) := by decide +kernel
theorem dX12_take_52 : decode cX12_take 52 = .ok (.iinc 3 1, 3) := by decide +kernel
theorem dX12_take_55 : decode cX12_take 55 = .ok (.goto (-22), 3) := by decide +kernel
theorem dX12_take_58 : decode cX12_take 58 = .ok (.return_, 1) := by decide +kernel
theorem dX12_remember_0 : decode cX12_remember 0 = .ok (.aload_n 0, 1) := by decide +kernel
theorem dX12_remember_1 : decode cX12_remember 1 = .ok (.getfield 371, 3) := by decide +kernel
theorem dX12_remember_4 : decode cX12_remember 4 = .ok (.bipush 20, 2) := by decide +kernel
theorem dX12_remember_6 : decode cX12_remember 6 = .ok (.if_icmp .ne 43, 3) := by decide +kernel
theorem dX12_remember_9 : decode cX12_remember 9 = .ok (.iconst 0, 1) := by decide +kernel
theorem dX12_remember_10 : decode cX12_remember 10 = .ok (.istore_n 1, 1) := by decide +kernel
theorem dX12_remember_11 : decode cX12_remember 11 = .ok (.iload_n 1, 1) := by decide +kernel
theorem dX12_remember_12 : decode cX12_remember 12 = .ok (.sipush 171, 3) := by decide +kernel
theorem dX12_remember_15 : decode cX12_remember 15 = .ok (.if_icmp .ge 24, 3) := by decide +kernel
theorem dX12_remember_18 : decode cX12_remember 18 = .ok (.aload_n 0, 1) := by decide +kernel
theorem dX12_remember_19 : decode cX12_remember 19 = .ok (.getfield 142, 3) := by decide +kernel
theorem dX12_remember_22 : decode cX12_remember 22 = .ok (.iload_n 1, 1) := by decide +kernel
theorem dX12_remember_23 : decode cX12_remember 23 = .ok (.aload_n 0, 1) := by decide +kernel
theorem dX12_remember_24 : decode cX12_remember 24 = .ok (.getfield 142, 3) := by decide +kernel
theorem dX12_remember_27 : decode cX12_remember 27 = .ok (.iload_n 1, 1) := by decide +kernel
theorem dX12_remember_28 : decode cX12_remember 28 = .ok (.bipush 9, 2) := by decide +kernel
theorem dX12_remember_30 : decode cX12_remember 30 = .ok (.iadd, 1) := by decide +kernel
theorem dX12_remember_31 : decode cX12_remember 31 = .ok (.iaload, 1) := by decide +kernel
theorem dX12_remember_32 : decode cX12_remember 32 = .ok (.iastore, 1) := by decide +kernel
theorem dX12_remember_33 : decode cX12_remember 33 = .ok (.iinc 1 1, 3) := by decide +kernel
theorem dX12_remember_36 : decode cX12_remember 36 = .ok (.goto (-25), 3) := by decide +kernel
theorem dX12_remember_39 : decode cX12_remember 39 = .ok (.aload_n 0, 1) := by decide +kernel
theorem dX12_remember_40 : decode cX12_remember 40 = .ok (.dup, 1) := by decide +kernel
theorem dX12_remember_41 : decode cX12_remember 41 = .ok (.getfield 371, 3) := by decide +kernel
theorem dX12_remember_44 : decode cX12_remember 44 = .ok (.iconst 1, 1) := by decide +kernel
theorem dX12_remember_45 : decode cX12_remember 45 = .ok (.isub, 1) := by decide +kernel
theorem dX12_remember_46 : decode cX12_remember 46 = .ok (.putfield 371, 3) := by decide +kernel
theorem dX12_remember_49 : decode cX12_remember 49 = .ok (.aload_n 0, 1) := by decide +kernel
theorem dX12_remember_50 : decode cX12_remember 50 = .ok (.aload_n 0, 1) := by decide +kernel
theorem dX12_remember_51 : decode cX12_remember 51 = .ok (.getfield 142, 3) := by decide +kernel
theorem dX12_remember_54 : decode cX12_remember 54 = .ok (.bipush 9, 2) := by decide +kernel
theorem dX12_remember_56 : decode cX12_remember 56 = .ok (.aload_n 0, 1) := by decide +kernel
theorem dX12_remember_57 : decode cX12_remember 57 = .ok (.getfield 371, 3) := by decide +kernel
theorem dX12_remember_60 : decode cX12_remember 60 = .ok (.imul, 1) := by decide +kernel
theorem dX12_remember_61 : decode cX12_remember 61 = .ok (.invokevirtual 558, 3) := by decide +kernel
theorem dX12_remember_64 : decode cX12_remember 64 = .ok (.aload_n 0, 1) := by decide +kernel
theorem dX12_remember_65 : decode cX12_remember 65 = .ok (.dup, 1) := by decide +kernel
theorem dX12_remember_66 : decode cX12_remember 66 = .ok (.getfield 371, 3) := by decide +kernel
theorem dX12_remember_69 : decode cX12_remember 69 = .ok (.iconst 1, 1) := by decide +kernel
theorem dX12_remember_70 : decode cX12_remember 70 = .ok (.iadd, 1) := by decide +kernel
theorem dX12_remember_71 : decode cX12_remember 71 = .ok (.putfield 371, 3) := by decide +kernel
theorem dX12_remember_74 : decode cX12_remember 74 = .ok (.return_, 1) := by decide +kernel
theorem dX12_undo_0 : decode cX12_undo 0 = .ok (.aload_n 0, 1) := by decide +kernel
theorem dX12_undo_1 : decode cX12_undo 1 = .ok (.iconst 0, 1) := by decide +kernel
theorem dX12_undo_2 : decode cX12_undo 2 = .ok (.putfield 157, 3) := by decide +kernel
theorem dX12_undo_5 : decode cX12_undo 5 = .ok (.aload_n 0, 1) := by decide +kernel
theorem dX12_undo_6 : decode cX12_undo 6 = .ok (.getfield 371, 3) := by decide +kernel
theorem dX12_undo_9 : decode cX12_undo 9 = .ok (.ifCond .ne 5, 3) := by decide +kernel
theorem dX12_undo_12 : decode cX12_undo 12 = .ok (.iconst (-1), 1) := by decide +kernel
theorem dX12_undo_13 : decode cX12_undo 13 = .ok (.ireturn, 1) := by decide +kernel
theorem dX12_undo_14 : decode cX12_undo 14 = .ok (.aload_n 0, 1) := by decide +kernel
theorem dX12_undo_15 : decode cX12_undo 15 = .ok (.dup, 1) := by decide +kernel
theorem dX12_undo_16 : decode cX12_undo 16 = .ok (.getfield 371, 3) := by decide +kernel
theorem dX12_undo_19 : decode cX12_undo 19 = .ok (.iconst 1, 1) := by decide +kernel
theorem dX12_undo_20 : decode cX12_undo 20 = .ok (.isub, 1) := by decide +kernel
theorem dX12_undo_21 : decode cX12_undo 21 = .ok (.putfield 371, 3) := by decide +kernel
theorem dX12_undo_24 : decode cX12_undo 24 = .ok (.aload_n 0, 1) := by decide +kernel
theorem dX12_undo_25 : decode cX12_undo 25 = .ok (.aload_n 0, 1) := by decide +kernel
theorem dX12_undo_26 : decode cX12_undo 26 = .ok (.getfield 142, 3) := by decide +kernel
theorem dX12_undo_29 : decode cX12_undo 29 = .ok (.bipush 9, 2) := by decide +kernel
theorem dX12_undo_31 : decode cX12_undo 31 = .ok (.aload_n 0, 1) := by decide +kernel
theorem dX12_undo_32 : decode cX12_undo 32 = .ok (.getfield 371, 3) := by decide +kernel
theorem dX12_undo_35 : decode cX12_undo 35 = .ok (.imul, 1) := by decide +kernel
theorem dX12_undo_36 : decode cX12_undo 36 = .ok (.invokevirtual 561, 3) := by decide +kernel
theorem dX12_undo_39 : decode cX12_undo 39 = .ok (.aload_n 0, 1) := by decide +kernel
theorem dX12_undo_40 : decode cX12_undo 40 = .ok (.getfield 371, 3) := by decide +kernel
theorem dX12_undo_43 : decode cX12_undo 43 = .ok (.ireturn, 1) := by decide +kernel
theorem dX12_keep_0 : decode cX12_keep 0 = .ok (.aload_n 0, 1) := by decide +kernel
theorem dX12_keep_1 : decode cX12_keep 1 = .ok (.iconst 0, 1) := by decide +kernel
theorem dX12_keep_2 : decode cX12_keep 2 = .ok (.putfield 157, 3) := by decide +kernel
theorem dX12_keep_5 : decode cX12_keep 5 = .ok (.aload_n 0, 1) := by decide +kernel
theorem dX12_keep_6 : decode cX12_keep 6 = .ok (.iconst 1, 1) := by decide +kernel
theorem dX12_keep_7 : decode cX12_keep 7 = .ok (.putfield 374, 3) := by decide +kernel
theorem dX12_keep_10 : decode cX12_keep 10 = .ok (.aload_n 0, 1) := by decide +kernel
theorem dX12_keep_11 : decode cX12_keep 11 = .ok (.aload_n 0, 1) := by decide +kernel
theorem dX12_keep_12 : decode cX12_keep 12 = .ok (.getfield 145, 3) := by decide +kernel
theorem dX12_keep_15 : decode cX12_keep 15 = .ok (.iconst 0, 1) := by decide +kernel
theorem dX12_keep_16 : decode cX12_keep 16 = .ok (.invokevirtual 558, 3) := by decide +kernel
theorem dX12_keep_19 : decode cX12_keep 19 = .ok (.iconst 0, 1) := by decide +kernel
theorem dX12_keep_20 : decode cX12_keep 20 = .ok (.istore_n 1, 1) := by decide +kernel
theorem dX12_keep_21 : decode cX12_keep 21 = .ok (.iload_n 1, 1) := by decide +kernel
theorem dX12_keep_22 : decode cX12_keep 22 = .ok (.bipush 6, 2) := by decide +kernel
theorem dX12_keep_24 : decode cX12_keep 24 = .ok (.if_icmp .ge 36, 3) := by decide +kernel
theorem dX12_keep_27 : decode cX12_keep 27 = .ok (.aload_n 0, 1) := by decide +kernel
theorem dX12_keep_28 : decode cX12_keep 28 = .ok (.getfield 148, 3) := by decide +kernel
theorem dX12_keep_31 : decode cX12_keep 31 = .ok (.iload_n 1, 1) := by decide +kernel
theorem dX12_keep_32 : decode cX12_keep 32 = .ok (.aload_n 0, 1) := by decide +kernel
theorem dX12_keep_33 : decode cX12_keep 33 = .ok (.getfield 118, 3) := by decide +kernel
theorem dX12_keep_36 : decode cX12_keep 36 = .ok (.iload_n 1, 1) := by decide +kernel
theorem dX12_keep_37 : decode cX12_keep 37 = .ok (.iaload, 1) := by decide +kernel
theorem dX12_keep_38 : decode cX12_keep 38 = .ok (.iastore, 1) := by decide +kernel
theorem dX12_keep_39 : decode cX12_keep 39 = .ok (.aload_n 0, 1) := by decide +kernel
theorem dX12_keep_40 : decode cX12_keep 40 = .ok (.getfield 148, 3) := by decide +kernel
theorem dX12_keep_43 : decode cX12_keep 43 = .ok (.bipush 6, 2) := by decide +kernel
theorem dX12_keep_45 : decode cX12_keep 45 = .ok (.iload_n 1, 1) := by decide +kernel
theorem dX12_keep_46 : decode cX12_keep 46 = .ok (.iadd, 1) := by decide +kernel
theorem dX12_keep_47 : decode cX12_keep 47 = .ok (.aload_n 0, 1) := by decide +kernel
theorem dX12_keep_48 : decode cX12_keep 48 = .ok (.getfield 121, 3) := by decide +kernel
theorem dX12_keep_51 : decode cX12_keep 51 = .ok (.iload_n 1, 1) := by decide +kernel
theorem dX12_keep_52 : decode cX12_keep 52 = .ok (.iaload, 1) := by decide +kernel
theorem dX12_keep_53 : decode cX12_keep 53 = .ok (.iastore, 1) := by decide +kernel
theorem dX12_keep_54 : decode cX12_keep 54 = .ok (.iinc 1 1, 3) := by decide +kernel
theorem dX12_keep_57 : decode cX12_keep 57 = .ok (.goto (-36), 3) := by decide +kernel
theorem dX12_keep_60 : decode cX12_keep 60 = .ok (.iconst 0, 1) := by decide +kernel
theorem dX12_keep_61 : decode cX12_keep 61 = .ok (.istore_n 1, 1) := by decide +kernel
theorem dX12_keep_62 : decode cX12_keep 62 = .ok (.iload_n 1, 1) := by decide +kernel
theorem dX12_keep_63 : decode cX12_keep 63 = .ok (.iconst 4, 1) := by decide +kernel
theorem dX12_keep_64 : decode cX12_keep 64 = .ok (.if_icmp .ge 24, 3) := by decide +kernel
theorem dX12_keep_67 : decode cX12_keep 67 = .ok (.aload_n 0, 1) := by decide +kernel
theorem dX12_keep_68 : decode cX12_keep 68 = .ok (.getfield 148, 3) := by decide +kernel
theorem dX12_keep_71 : decode cX12_keep 71 = .ok (.bipush 12, 2) := by decide +kernel
theorem dX12_keep_73 : decode cX12_keep 73 = .ok (.iload_n 1, 1) := by decide +kernel
theorem dX12_keep_74 : decode cX12_keep 74 = .ok (.iadd, 1) := by decide +kernel
theorem dX12_keep_75 : decode cX12_keep 75 = .ok (.aload_n 0, 1) := by decide +kernel
theorem dX12_keep_76 : decode cX12_keep 76 = .ok (.getfield 124, 3) := by decide +kernel
theorem dX12_keep_79 : decode cX12_keep 79 = .ok (.iload_n 1, 1) := by decide +kernel
theorem dX12_keep_80 : decode cX12_keep 80 = .ok (.iaload, 1) := by decide +kernel
theorem dX12_keep_81 : decode cX12_keep 81 = .ok (.iastore, 1) := by decide +kernel
theorem dX12_keep_82 : decode cX12_keep 82 = .ok (.iinc 1 1, 3) := by decide +kernel
theorem dX12_keep_85 : decode cX12_keep 85 = .ok (.goto (-23), 3) := by decide +kernel
theorem dX12_keep_88 : decode cX12_keep 88 = .ok (.aload_n 0, 1) := by decide +kernel
theorem dX12_keep_89 : decode cX12_keep 89 = .ok (.getfield 148, 3) := by decide +kernel
theorem dX12_keep_92 : decode cX12_keep 92 = .ok (.bipush 16, 2) := by decide +kernel
theorem dX12_keep_94 : decode cX12_keep 94 = .ok (.aload_n 0, 1) := by decide +kernel
theorem dX12_keep_95 : decode cX12_keep 95 = .ok (.getfield 103, 3) := by decide +kernel
theorem dX12_keep_98 : decode cX12_keep 98 = .ok (.iconst 0, 1) := by decide +kernel
theorem dX12_keep_99 : decode cX12_keep 99 = .ok (.iaload, 1) := by decide +kernel
theorem dX12_keep_100 : decode cX12_keep 100 = .ok (.iastore, 1) := by decide +kernel
theorem dX12_keep_101 : decode cX12_keep 101 = .ok (.aload_n 0, 1) := by decide +kernel
theorem dX12_keep_102 : decode cX12_keep 102 = .ok (.getfield 148, 3) := by decide +kernel
theorem dX12_keep_105 : decode cX12_keep 105 = .ok (.bipush 17, 2) := by decide +kernel
theorem dX12_keep_107 : decode cX12_keep 107 = .ok (.aload_n 0, 1) := by decide +kernel
theorem dX12_keep_108 : decode cX12_keep 108 = .ok (.getfield 106, 3) := by decide +kernel
theorem dX12_keep_111 : decode cX12_keep 111 = .ok (.iconst 0, 1) := by decide +kernel
theorem dX12_keep_112 : decode cX12_keep 112 = .ok (.iaload, 1) := by decide +kernel
theorem dX12_keep_113 : decode cX12_keep 113 = .ok (.iastore, 1) := by decide +kernel
theorem dX12_keep_114 : decode cX12_keep 114 = .ok (.aload_n 0, 1) := by decide +kernel
theorem dX12_keep_115 : decode cX12_keep 115 = .ok (.getfield 148, 3) := by decide +kernel
theorem dX12_keep_118 : decode cX12_keep 118 = .ok (.bipush 18, 2) := by decide +kernel
theorem dX12_keep_120 : decode cX12_keep 120 = .ok (.aload_n 0, 1) := by decide +kernel
theorem dX12_keep_121 : decode cX12_keep 121 = .ok (.getfield 109, 3) := by decide +kernel
theorem dX12_keep_124 : decode cX12_keep 124 = .ok (.iconst 0, 1) := by decide +kernel
theorem dX12_keep_125 : decode cX12_keep 125 = .ok (.iaload, 1) := by decide +kernel
theorem dX12_keep_126 : decode cX12_keep 126 = .ok (.iastore, 1) := by decide +kernel
theorem dX12_keep_127 : decode cX12_keep 127 = .ok (.aload_n 0, 1) := by decide +kernel
theorem dX12_keep_128 : decode cX12_keep 128 = .ok (.getfield 148, 3) := by decide +kernel
theorem dX12_keep_131 : decode cX12_keep 131 = .ok (.bipush 19, 2) := by decide +kernel
theorem dX12_keep_133 : decode cX12_keep 133 = .ok (.aload_n 0, 1) := by decide +kernel
theorem dX12_keep_134 : decode cX12_keep 134 = .ok (.getfield 112, 3) := by decide +kernel
theorem dX12_keep_137 : decode cX12_keep 137 = .ok (.iconst 0, 1) := by decide +kernel
theorem dX12_keep_138 : decode cX12_keep 138 = .ok (.iaload, 1) := by decide +kernel
theorem dX12_keep_139 : decode cX12_keep 139 = .ok (.iastore, 1) := by decide +kernel
theorem dX12_keep_140 : decode cX12_keep 140 = .ok (.aload_n 0, 1) := by decide +kernel
theorem dX12_keep_141 : decode cX12_keep 141 = .ok (.aload_n 0, 1) := by decide +kernel
theorem dX12_keep_142 : decode cX12_keep 142 = .ok (.getfield 361, 3) := by decide +kernel
theorem dX12_keep_145 : decode cX12_keep 145 = .ok (.putfield 564, 3) := by decide +kernel
theorem dX12_keep_148 : decode cX12_keep 148 = .ok (.aload_n 0, 1) := by decide +kernel
theorem dX12_keep_149 : decode cX12_keep 149 = .ok (.getfield 112, 3) := by decide +kernel
theorem dX12_keep_152 : decode cX12_keep 152 = .ok (.iconst 0, 1) := by decide +kernel
theorem dX12_keep_153 : decode cX12_keep 153 = .ok (.iaload, 1) := by decide +kernel
theorem dX12_keep_154 : decode cX12_keep 154 = .ok (.ireturn, 1) := by decide +kernel
theorem dX12_back_0 : decode cX12_back 0 = .ok (.aload_n 0, 1) := by decide +kernel
theorem dX12_back_1 : decode cX12_back 1 = .ok (.iconst 0, 1) := by decide +kernel
theorem dX12_back_2 : decode cX12_back 2 = .ok (.putfield 157, 3) := by decide +kernel
theorem dX12_back_5 : decode cX12_back 5 = .ok (.aload_n 0, 1) := by decide +kernel
theorem dX12_back_6 : decode cX12_back 6 = .ok (.getfield 374, 3) := by decide +kernel
theorem dX12_back_9 : decode cX12_back 9 = .ok (.ifCond .ne 5, 3) := by decide +kernel
theorem dX12_back_12 : decode cX12_back 12 = .ok (.iconst (-1), 1) := by decide +kernel
theorem dX12_back_13 : decode cX12_back 13 = .ok (.ireturn, 1) := by decide +kernel
theorem dX12_back_14 : decode cX12_back 14 = .ok (.aload_n 0, 1) := by decide +kernel
theorem dX12_back_15 : decode cX12_back 15 = .ok (.aload_n 0, 1) := by decide +kernel
theorem dX12_back_16 : decode cX12_back 16 = .ok (.getfield 145, 3) := by decide +kernel
theorem dX12_back_19 : decode cX12_back 19 = .ok (.iconst 0, 1) := by decide +kernel
theorem dX12_back_20 : decode cX12_back 20 = .ok (.invokevirtual 561, 3) := by decide +kernel
theorem dX12_back_23 : decode cX12_back 23 = .ok (.iconst 0, 1) := by decide +kernel
theorem dX12_back_24 : decode cX12_back 24 = .ok (.istore_n 1, 1) := by decide +kernel
theorem dX12_back_25 : decode cX12_back 25 = .ok (.iload_n 1, 1) := by decide +kernel
theorem dX12_back_26 : decode cX12_back 26 = .ok (.bipush 6, 2) := by decide +kernel
theorem dX12_back_28 : decode cX12_back 28 = .ok (.if_icmp .ge 36, 3) := by decide +kernel
theorem dX12_back_31 : decode cX12_back 31 = .ok (.aload_n 0, 1) := by decide +kernel
theorem dX12_back_32 : decode cX12_back 32 = .ok (.getfield 118, 3) := by decide +kernel
theorem dX12_back_35 : decode cX12_back 35 = .ok (.iload_n 1, 1) := by decide +kernel
theorem dX12_back_36 : decode cX12_back 36 = .ok (.aload_n 0, 1) := by decide +kernel
theorem dX12_back_37 : decode cX12_back 37 = .ok (.getfield 148, 3) := by decide +kernel
theorem dX12_back_40 : decode cX12_back 40 = .ok (.iload_n 1, 1) := by decide +kernel
theorem dX12_back_41 : decode cX12_back 41 = .ok (.iaload, 1) := by decide +kernel
theorem dX12_back_42 : decode cX12_back 42 = .ok (.iastore, 1) := by decide +kernel
theorem dX12_back_43 : decode cX12_back 43 = .ok (.aload_n 0, 1) := by decide +kernel
theorem dX12_back_44 : decode cX12_back 44 = .ok (.getfield 121, 3) := by decide +kernel
theorem dX12_back_47 : decode cX12_back 47 = .ok (.iload_n 1, 1) := by decide +kernel
theorem dX12_back_48 : decode cX12_back 48 = .ok (.aload_n 0, 1) := by decide +kernel
theorem dX12_back_49 : decode cX12_back 49 = .ok (.getfield 148, 3) := by decide +kernel
theorem dX12_back_52 : decode cX12_back 52 = .ok (.bipush 6, 2) := by decide +kernel
theorem dX12_back_54 : decode cX12_back 54 = .ok (.iload_n 1, 1) := by decide +kernel
theorem dX12_back_55 : decode cX12_back 55 = .ok (.iadd, 1) := by decide +kernel
theorem dX12_back_56 : decode cX12_back 56 = .ok (.iaload, 1) := by decide +kernel
theorem dX12_back_57 : decode cX12_back 57 = .ok (.iastore, 1) := by decide +kernel
theorem dX12_back_58 : decode cX12_back 58 = .ok (.iinc 1 1, 3) := by decide +kernel
theorem dX12_back_61 : decode cX12_back 61 = .ok (.goto (-36), 3) := by decide +kernel
theorem dX12_back_64 : decode cX12_back 64 = .ok (.iconst 0, 1) := by decide +kernel
theorem dX12_back_65 : decode cX12_back 65 = .ok (.istore_n 1, 1) := by decide +kernel
theorem dX12_back_66 : decode cX12_back 66 = .ok (.iload_n 1, 1) := by decide +kernel
theorem dX12_back_67 : decode cX12_back 67 = .ok (.iconst 4, 1) := by decide +kernel
theorem dX12_back_68 : decode cX12_back 68 = .ok (.if_icmp .ge 24, 3) := by decide +kernel
theorem dX12_back_71 : decode cX12_back 71 = .ok (.aload_n 0, 1) := by decide +kernel
theorem dX12_back_72 : decode cX12_back 72 = .ok (.getfield 124, 3) := by decide +kernel
theorem dX12_back_75 : decode cX12_back 75 = .ok (.iload_n 1, 1) := by decide +kernel
theorem dX12_back_76 : decode cX12_back 76 = .ok (.aload_n 0, 1) := by decide +kernel
theorem dX12_back_77 : decode cX12_back 77 = .ok (.getfield 148, 3) := by decide +kernel
theorem dX12_back_80 : decode cX12_back 80 = .ok (.bipush 12, 2) := by decide +kernel
theorem dX12_back_82 : decode cX12_back 82 = .ok (.iload_n 1, 1) := by decide +kernel
theorem dX12_back_83 : decode cX12_back 83 = .ok (.iadd, 1) := by decide +kernel
theorem dX12_back_84 : decode cX12_back 84 = .ok (.iaload, 1) := by decide +kernel
theorem dX12_back_85 : decode cX12_back 85 = .ok (.iastore, 1) := by decide +kernel
theorem dX12_back_86 : decode cX12_back 86 = .ok (.iinc 1 1, 3) := by decide +kernel
theorem dX12_back_89 : decode cX12_back 89 = .ok (.goto (-23), 3) := by decide +kernel
theorem dX12_back_92 : decode cX12_back 92 = .ok (.aload_n 0, 1) := by decide +kernel
theorem dX12_back_93 : decode cX12_back 93 = .ok (.getfield 103, 3) := by decide +kernel
theorem dX12_back_96 : decode cX12_back 96 = .ok (.iconst 0, 1) := by decide +kernel
theorem dX12_back_97 : decode cX12_back 97 = .ok (.aload_n 0, 1) := by decide +kernel
theorem dX12_back_98 : decode cX12_back 98 = .ok (.getfield 148, 3) := by decide +kernel
theorem dX12_back_101 : decode cX12_back 101 = .ok (.bipush 16, 2) := by decide +kernel
theorem dX12_back_103 : decode cX12_back 103 = .ok (.iaload, 1) := by decide +kernel
theorem dX12_back_104 : decode cX12_back 104 = .ok (.iastore, 1) := by decide +kernel
theorem dX12_back_105 : decode cX12_back 105 = .ok (.aload_n 0, 1) := by decide +kernel
theorem dX12_back_106 : decode cX12_back 106 = .ok (.getfield 106, 3) := by decide +kernel
theorem dX12_back_109 : decode cX12_back 109 = .ok (.iconst 0, 1) := by decide +kernel
theorem dX12_back_110 : decode cX12_back 110 = .ok (.aload_n 0, 1) := by decide +kernel
theorem dX12_back_111 : decode cX12_back 111 = .ok (.getfield 148, 3) := by decide +kernel
theorem dX12_back_114 : decode cX12_back 114 = .ok (.bipush 17, 2) := by decide +kernel
theorem dX12_back_116 : decode cX12_back 116 = .ok (.iaload, 1) := by decide +kernel
theorem dX12_back_117 : decode cX12_back 117 = .ok (.iastore, 1) := by decide +kernel
theorem dX12_back_118 : decode cX12_back 118 = .ok (.aload_n 0, 1) := by decide +kernel
theorem dX12_back_119 : decode cX12_back 119 = .ok (.getfield 109, 3) := by decide +kernel
theorem dX12_back_122 : decode cX12_back 122 = .ok (.iconst 0, 1) := by decide +kernel
theorem dX12_back_123 : decode cX12_back 123 = .ok (.aload_n 0, 1) := by decide +kernel
theorem dX12_back_124 : decode cX12_back 124 = .ok (.getfield 148, 3) := by decide +kernel
theorem dX12_back_127 : decode cX12_back 127 = .ok (.bipush 18, 2) := by decide +kernel
theorem dX12_back_129 : decode cX12_back 129 = .ok (.iaload, 1) := by decide +kernel
theorem dX12_back_130 : decode cX12_back 130 = .ok (.iastore, 1) := by decide +kernel
theorem dX12_back_131 : decode cX12_back 131 = .ok (.aload_n 0, 1) := by decide +kernel
theorem dX12_back_132 : decode cX12_back 132 = .ok (.getfield 112, 3) := by decide +kernel
theorem dX12_back_135 : decode cX12_back 135 = .ok (.iconst 0, 1) := by decide +kernel
theorem dX12_back_136 : decode cX12_back 136 = .ok (.aload_n 0, 1) := by decide +kernel
theorem dX12_back_137 : decode cX12_back 137 = .ok (.getfield 148, 3) := by decide +kernel
theorem dX12_back_140 : decode cX12_back 140 = .ok (.bipush 19, 2) := by decide +kernel
theorem dX12_back_142 : decode cX12_back 142 = .ok (.iaload, 1) := by decide +kernel
theorem dX12_back_143 : decode cX12_back 143 = .ok (.iastore, 1) := by decide +kernel
theorem dX12_back_144 : decode cX12_back 144 = .ok (.aload_n 0, 1) := by decide +kernel
theorem dX12_back_145 : decode cX12_back 145 = .ok (.aload_n 0, 1) := by decide +kernel
theorem dX12_back_146 : decode cX12_back 146 = .ok (.getfield 564, 3) := by decide +kernel
theorem dX12_back_149 : decode cX12_back 149 = .ok (.putfield 361, 3) := by decide +kernel
theorem dX12_back_152 : decode cX12_back 152 = .ok (.aload_n 0, 1) := by decide +kernel
theorem dX12_back_153 : decode cX12_back 153 = .ok (.iconst 0, 1) := by decide +kernel
theorem dX12_back_154 : decode cX12_back 154 = .ok (.putfield 371, 3) := by decide +kernel
theorem dX12_back_157 : decode cX12_back 157 = .ok (.aload_n 0, 1) := by decide +kernel
theorem dX12_back_158 : decode cX12_back 158 = .ok (.getfield 112, 3) := by decide +kernel
theorem dX12_back_161 : decode cX12_back 161 = .ok (.iconst 0, 1) := by decide +kernel
theorem dX12_back_162 : decode cX12_back 162 = .ok (.iaload, 1) := by decide +kernel
theorem dX12_back_163 : decode cX12_back 163 = .ok (.ireturn, 1) := by decide +kernel
theorem dX12_count_0 : decode cX12_count 0 = .ok (.aload_n 0, 1) := by decide +kernel
theorem dX12_count_1 : decode cX12_count 1 = .ok (.iconst 0, 1) := by decide +kernel
theorem dX12_count_2 : decode cX12_count 2 = .ok (.putfield 157, 3) := by decide +kernel
theorem dX12_count_5 : decode cX12_count 5 = .ok (.iconst 0, 1) := by decide +kernel
theorem dX12_count_6 : decode cX12_count 6 = .ok (.istore_n 2, 1) := by decide +kernel
theorem dX12_count_7 : decode cX12_count 7 = .ok (.iload_n 1, 1) := by decide +kernel
theorem dX12_count_8 : decode cX12_count 8 = .ok (.tableswitch 208 0 15 #[80, 85, 90, 95, 100, 105, 112, 119, 146, 152, 159, 166, 172, 193, 198, 203], 80) := by decide +kernel
theorem dX12_count_88 : decode cX12_count 88 = .ok (.aload_n 0, 1) := by decide +kernel
theorem dX12_count_89 : decode cX12_count 89 = .ok (.getfield 237, 3) := by decide +kernel
theorem dX12_count_92 : decode cX12_count 92 = .ok (.ireturn, 1) := by decide +kernel
theorem dX12_count_93 : decode cX12_count 93 = .ok (.aload_n 0, 1) := by decide +kernel
theorem dX12_count_94 : decode cX12_count 94 = .ok (.getfield 240, 3) := by decide +kernel
theorem dX12_count_97 : decode cX12_count 97 = .ok (.ireturn, 1) := by decide +kernel
theorem dX12_count_98 : decode cX12_count 98 = .ok (.aload_n 0, 1) := by decide +kernel
theorem dX12_count_99 : decode cX12_count 99 = .ok (.getfield 243, 3) := by decide +kernel
theorem dX12_count_102 : decode cX12_count 102 = .ok (.ireturn, 1) := by decide +kernel
theorem dX12_count_103 : decode cX12_count 103 = .ok (.aload_n 0, 1) := by decide +kernel
theorem dX12_count_104 : decode cX12_count 104 = .ok (.getfield 246, 3) := by decide +kernel
theorem dX12_count_107 : decode cX12_count 107 = .ok (.ireturn, 1) := by decide +kernel
theorem dX12_count_108 : decode cX12_count 108 = .ok (.aload_n 0, 1) := by decide +kernel
theorem dX12_count_109 : decode cX12_count 109 = .ok (.getfield 249, 3) := by decide +kernel
theorem dX12_count_112 : decode cX12_count 112 = .ok (.ireturn, 1) := by decide +kernel
theorem dX12_count_113 : decode cX12_count 113 = .ok (.aload_n 0, 1) := by decide +kernel
theorem dX12_count_114 : decode cX12_count 114 = .ok (.getfield 112, 3) := by decide +kernel
theorem dX12_count_117 : decode cX12_count 117 = .ok (.iconst 0, 1) := by decide +kernel
theorem dX12_count_118 : decode cX12_count 118 = .ok (.iaload, 1) := by decide +kernel
theorem dX12_count_119 : decode cX12_count 119 = .ok (.ireturn, 1) := by decide +kernel
theorem dX12_count_120 : decode cX12_count 120 = .ok (.aload_n 0, 1) := by decide +kernel
theorem dX12_count_121 : decode cX12_count 121 = .ok (.getfield 100, 3) := by decide +kernel
theorem dX12_count_124 : decode cX12_count 124 = .ok (.iconst 0, 1) := by decide +kernel
theorem dX12_count_125 : decode cX12_count 125 = .ok (.iaload, 1) := by decide +kernel
theorem dX12_count_126 : decode cX12_count 126 = .ok (.ireturn, 1) := by decide +kernel
theorem dX12_count_127 : decode cX12_count 127 = .ok (.iconst 0, 1) := by decide +kernel
theorem dX12_count_128 : decode cX12_count 128 = .ok (.istore_n 3, 1) := by decide +kernel
theorem dX12_count_129 : decode cX12_count 129 = .ok (.iload_n 3, 1) := by decide +kernel
theorem dX12_count_130 : decode cX12_count 130 = .ok (.aload_n 0, 1) := by decide +kernel
theorem dX12_count_131 : decode cX12_count 131 = .ok (.getfield 243, 3) := by decide +kernel
theorem dX12_count_134 : decode cX12_count 134 = .ok (.if_icmp .ge 18, 3) := by decide +kernel
theorem dX12_count_137 : decode cX12_count 137 = .ok (.iload_n 2, 1) := by decide +kernel
theorem dX12_count_138 : decode cX12_count 138 = .ok (.aload_n 0, 1) := by decide +kernel
theorem dX12_count_139 : decode cX12_count 139 = .ok (.iconst 0, 1) := by decide +kernel
theorem dX12_count_140 : decode cX12_count 140 = .ok (.iload_n 3, 1) := by decide +kernel
theorem dX12_count_141 : decode cX12_count 141 = .ok (.invokevirtual 448, 3) := by decide +kernel
theorem dX12_count_144 : decode cX12_count 144 = .ok (.iadd, 1) := by decide +kernel
theorem dX12_count_145 : decode cX12_count 145 = .ok (.istore_n 2, 1) := by decide +kernel
theorem dX12_count_146 : decode cX12_count 146 = .ok (.iinc 3 1, 3) := by decide +kernel
theorem dX12_count_149 : decode cX12_count 149 = .ok (.goto (-20), 3) := by decide +kernel
theorem dX12_count_152 : decode cX12_count 152 = .ok (.iload_n 2, 1) := by decide +kernel
theorem dX12_count_153 : decode cX12_count 153 = .ok (.ireturn, 1) := by decide +kernel
theorem dX12_count_154 : decode cX12_count 154 = .ok (.aload_n 0, 1) := by decide +kernel
theorem dX12_count_155 : decode cX12_count 155 = .ok (.iconst 0, 1) := by decide +kernel
theorem dX12_count_156 : decode cX12_count 156 = .ok (.invokevirtual 410, 3) := by decide +kernel
theorem dX12_count_159 : decode cX12_count 159 = .ok (.ireturn, 1) := by decide +kernel
theorem dX12_count_160 : decode cX12_count 160 = .ok (.aload_n 0, 1) := by decide +kernel
theorem dX12_count_161 : decode cX12_count 161 = .ok (.getfield 106, 3) := by decide +kernel
theorem dX12_count_164 : decode cX12_count 164 = .ok (.iconst 0, 1) := by decide +kernel
theorem dX12_count_165 : decode cX12_count 165 = .ok (.iaload, 1) := by decide +kernel
theorem dX12_count_166 : decode cX12_count 166 = .ok (.ireturn, 1) := by decide +kernel
theorem dX12_count_167 : decode cX12_count 167 = .ok (.aload_n 0, 1) := by decide +kernel
theorem dX12_count_168 : decode cX12_count 168 = .ok (.getfield 109, 3) := by decide +kernel
theorem dX12_count_171 : decode cX12_count 171 = .ok (.iconst 0, 1) := by decide +kernel
theorem dX12_count_172 : decode cX12_count 172 = .ok (.iaload, 1) := by decide +kernel
theorem dX12_count_173 : decode cX12_count 173 = .ok (.ireturn, 1) := by decide +kernel
theorem dX12_count_174 : decode cX12_count 174 = .ok (.aload_n 0, 1) := by decide +kernel
theorem dX12_count_175 : decode cX12_count 175 = .ok (.iconst 0, 1) := by decide +kernel
theorem dX12_count_176 : decode cX12_count 176 = .ok (.invokevirtual 567, 3) := by decide +kernel
theorem dX12_count_179 : decode cX12_count 179 = .ok (.ireturn, 1) := by decide +kernel
theorem dX12_count_180 : decode cX12_count 180 = .ok (.aload_n 0, 1) := by decide +kernel
theorem dX12_count_181 : decode cX12_count 181 = .ok (.getfield 94, 3) := by decide +kernel
theorem dX12_count_184 : decode cX12_count 184 = .ok (.iconst 0, 1) := by decide +kernel
theorem dX12_count_185 : decode cX12_count 185 = .ok (.iaload, 1) := by decide +kernel
theorem dX12_count_186 : decode cX12_count 186 = .ok (.ifCond .ge 8, 3) := by decide +kernel
theorem dX12_count_189 : decode cX12_count 189 = .ok (.bipush (-2), 2) := by decide +kernel
theorem dX12_count_191 : decode cX12_count 191 = .ok (.goto 9, 3) := by decide +kernel
theorem dX12_count_194 : decode cX12_count 194 = .ok (.aload_n 0, 1) := by decide +kernel
theorem dX12_count_195 : decode cX12_count 195 = .ok (.getfield 94, 3) := by decide +kernel
theorem dX12_count_198 : decode cX12_count 198 = .ok (.iconst 0, 1) := by decide +kernel
theorem dX12_count_199 : decode cX12_count 199 = .ok (.iaload, 1) := by decide +kernel
theorem dX12_count_200 : decode cX12_count 200 = .ok (.ireturn, 1) := by decide +kernel
theorem dX12_count_201 : decode cX12_count 201 = .ok (.aload_n 0, 1) := by decide +kernel
theorem dX12_count_202 : decode cX12_count 202 = .ok (.getfield 368, 3) := by decide +kernel
theorem dX12_count_205 : decode cX12_count 205 = .ok (.ireturn, 1) := by decide +kernel
theorem dX12_count_206 : decode cX12_count 206 = .ok (.aload_n 0, 1) := by decide +kernel
theorem dX12_count_207 : decode cX12_count 207 = .ok (.invokevirtual 540, 3) := by decide +kernel
theorem dX12_count_210 : decode cX12_count 210 = .ok (.ireturn, 1) := by decide +kernel
theorem dX12_count_211 : decode cX12_count 211 = .ok (.aload_n 0, 1) := by decide +kernel
theorem dX12_count_212 : decode cX12_count 212 = .ok (.getfield 371, 3) := by decide +kernel
theorem dX12_count_215 : decode cX12_count 215 = .ok (.ireturn, 1) := by decide +kernel
theorem dX12_count_216 : decode cX12_count 216 = .ok (.ldc_w 496, 3) := by decide +kernel
theorem dX12_count_219 : decode cX12_count 219 = .ok (.ireturn, 1) := by decide +kernel
theorem dJ6_bitCount_0f7a4_0 : decode cJ6_bitCount_0f7a4 0 = .ok (.iload_n 0, 1) := by decide +kernel
theorem dJ6_bitCount_0f7a4_1 : decode cJ6_bitCount_0f7a4 1 = .ok (.iload_n 0, 1) := by decide +kernel
theorem dJ6_bitCount_0f7a4_2 : decode cJ6_bitCount_0f7a4 2 = .ok (.iconst 1, 1) := by decide +kernel
theorem dJ6_bitCount_0f7a4_3 : decode cJ6_bitCount_0f7a4 3 = .ok (.iushr, 1) := by decide +kernel
theorem dJ6_bitCount_0f7a4_4 : decode cJ6_bitCount_0f7a4 4 = .ok (.ldc_w 265, 3) := by decide +kernel
theorem dJ6_bitCount_0f7a4_7 : decode cJ6_bitCount_0f7a4 7 = .ok (.iand, 1) := by decide +kernel
theorem dJ6_bitCount_0f7a4_8 : decode cJ6_bitCount_0f7a4 8 = .ok (.isub, 1) := by decide +kernel
theorem dJ6_bitCount_0f7a4_9 : decode cJ6_bitCount_0f7a4 9 = .ok (.istore_n 0, 1) := by decide +kernel
theorem dJ6_bitCount_0f7a4_10 : decode cJ6_bitCount_0f7a4 10 = .ok (.iload_n 0, 1) := by decide +kernel
theorem dJ6_bitCount_0f7a4_11 : decode cJ6_bitCount_0f7a4 11 = .ok (.ldc_w 266, 3) := by decide +kernel
theorem dJ6_bitCount_0f7a4_14 : decode cJ6_bitCount_0f7a4 14 = .ok (.iand, 1) := by decide +kernel
theorem dJ6_bitCount_0f7a4_15 : decode cJ6_bitCount_0f7a4 15 = .ok (.iload_n 0, 1) := by decide +kernel
theorem dJ6_bitCount_0f7a4_16 : decode cJ6_bitCount_0f7a4 16 = .ok (.iconst 2, 1) := by decide +kernel
theorem dJ6_bitCount_0f7a4_17 : decode cJ6_bitCount_0f7a4 17 = .ok (.iushr, 1) := by decide +kernel
theorem dJ6_bitCount_0f7a4_18 : decode cJ6_bitCount_0f7a4 18 = .ok (.ldc_w 266, 3) := by decide +kernel
theorem dJ6_bitCount_0f7a4_21 : decode cJ6_bitCount_0f7a4 21 = .ok (.iand, 1) := by decide +kernel
theorem dJ6_bitCount_0f7a4_22 : decode cJ6_bitCount_0f7a4 22 = .ok (.iadd, 1) := by decide +kernel
theorem dJ6_bitCount_0f7a4_23 : decode cJ6_bitCount_0f7a4 23 = .ok (.istore_n 0, 1) := by decide +kernel
theorem dJ6_bitCount_0f7a4_24 : decode cJ6_bitCount_0f7a4 24 = .ok (.iload_n 0, 1) := by decide +kernel
theorem dJ6_bitCount_0f7a4_25 : decode cJ6_bitCount_0f7a4 25 = .ok (.iload_n 0, 1) := by decide +kernel
theorem dJ6_bitCount_0f7a4_26 : decode cJ6_bitCount_0f7a4 26 = .ok (.iconst 4, 1) := by decide +kernel
theorem dJ6_bitCount_0f7a4_27 : decode cJ6_bitCount_0f7a4 27 = .ok (.iushr, 1) := by decide +kernel
theorem dJ6_bitCount_0f7a4_28 : decode cJ6_bitCount_0f7a4 28 = .ok (.iadd, 1) := by decide +kernel
theorem dJ6_bitCount_0f7a4_29 : decode cJ6_bitCount_0f7a4 29 = .ok (.ldc_w 267, 3) := by decide +kernel
theorem dJ6_bitCount_0f7a4_32 : decode cJ6_bitCount_0f7a4 32 = .ok (.iand, 1) := by decide +kernel
theorem dJ6_bitCount_0f7a4_33 : decode cJ6_bitCount_0f7a4 33 = .ok (.istore_n 0, 1) := by decide +kernel
theorem dJ6_bitCount_0f7a4_34 : decode cJ6_bitCount_0f7a4 34 = .ok (.iload_n 0, 1) := by decide +kernel
theorem dJ6_bitCount_0f7a4_35 : decode cJ6_bitCount_0f7a4 35 = .ok (.iload_n 0, 1) := by decide +kernel
theorem dJ6_bitCount_0f7a4_36 : decode cJ6_bitCount_0f7a4 36 = .ok (.bipush 8, 2) := by decide +kernel
theorem dJ6_bitCount_0f7a4_38 : decode cJ6_bitCount_0f7a4 38 = .ok (.iushr, 1) := by decide +kernel
theorem dJ6_bitCount_0f7a4_39 : decode cJ6_bitCount_0f7a4 39 = .ok (.iadd, 1) := by decide +kernel
theorem dJ6_bitCount_0f7a4_40 : decode cJ6_bitCount_0f7a4 40 = .ok (.istore_n 0, 1) := by decide +kernel
theorem dJ6_bitCount_0f7a4_41 : decode cJ6_bitCount_0f7a4 41 = .ok (.iload_n 0, 1) := by decide +kernel
theorem dJ6_bitCount_0f7a4_42 : decode cJ6_bitCount_0f7a4 42 = .ok (.iload_n 0, 1) := by decide +kernel
theorem dJ6_bitCount_0f7a4_43 : decode cJ6_bitCount_0f7a4 43 = .ok (.bipush 16, 2) := by decide +kernel
theorem dJ6_bitCount_0f7a4_45 : decode cJ6_bitCount_0f7a4 45 = .ok (.iushr, 1) := by decide +kernel
theorem dJ6_bitCount_0f7a4_46 : decode cJ6_bitCount_0f7a4 46 = .ok (.iadd, 1) := by decide +kernel
theorem dJ6_bitCount_0f7a4_47 : decode cJ6_bitCount_0f7a4 47 = .ok (.istore_n 0, 1) := by decide +kernel
theorem dJ6_bitCount_0f7a4_48 : decode cJ6_bitCount_0f7a4 48 = .ok (.iload_n 0, 1) := by decide +kernel
theorem dJ6_bitCount_0f7a4_49 : decode cJ6_bitCount_0f7a4 49 = .ok (.bipush 63, 2) := by decide +kernel
theorem dJ6_bitCount_0f7a4_51 : decode cJ6_bitCount_0f7a4 51 = .ok (.iand, 1) := by decide +kernel
theorem dJ6_bitCount_0f7a4_52 : decode cJ6_bitCount_0f7a4 52 = .ok (.ireturn, 1) := by decide +kernel
theorem dJ7_fill_53178_0 : decode cJ7_fill_53178 0 = .ok (.iconst 0, 1) := by decide +kernel
theorem dJ7_fill_53178_1 : decode cJ7_fill_53178 1 = .ok (.istore_n 2, 1) := by decide +kernel
theorem dJ7_fill_53178_2 : decode cJ7_fill_53178 2 = .ok (.aload_n 0, 1) := by decide +kernel
theorem dJ7_fill_53178_3 : decode cJ7_fill_53178 3 = .ok (.arraylength, 1) := by decide +kernel
theorem dJ7_fill_53178_4 : decode cJ7_fill_53178 4 = .ok (.istore_n 3, 1) := by decide +kernel
theorem dJ7_fill_53178_5 : decode cJ7_fill_53178 5 = .ok (.iload_n 2, 1) := by decide +kernel
theorem dJ7_fill_53178_6 : decode cJ7_fill_53178 6 = .ok (.iload_n 3, 1) := by decide +kernel
theorem dJ7_fill_53178_7 : decode cJ7_fill_53178 7 = .ok (.if_icmp .ge 13, 3) := by decide +kernel
theorem dJ7_fill_53178_10 : decode cJ7_fill_53178 10 = .ok (.aload_n 0, 1) := by decide +kernel
theorem dJ7_fill_53178_11 : decode cJ7_fill_53178 11 = .ok (.iload_n 2, 1) := by decide +kernel
theorem dJ7_fill_53178_12 : decode cJ7_fill_53178 12 = .ok (.iload_n 1, 1) := by decide +kernel
theorem dJ7_fill_53178_13 : decode cJ7_fill_53178 13 = .ok (.iastore, 1) := by decide +kernel
theorem dJ7_fill_53178_14 : decode cJ7_fill_53178 14 = .ok (.iinc 2 1, 3) := by decide +kernel
theorem dJ7_fill_53178_17 : decode cJ7_fill_53178 17 = .ok (.goto (-12), 3) := by decide +kernel
theorem dJ7_fill_53178_20 : decode cJ7_fill_53178 20 = .ok (.return_, 1) := by decide +kernel
